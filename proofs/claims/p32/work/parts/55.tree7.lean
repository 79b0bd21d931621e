/-! ===== every change keeps what holds of a yard ===== -/
theorem av_li_cg {Y Y1 Z : Nat → Int → Int} {n : Nat} (h : av_li Y1 Z n) (e : Y1 0 11 = Y 0 11) : av_li Y Z n := by
  obtain ⟨k, hk, ek⟩ := h
  exact ⟨k, hk, by rw [ek, e]⟩
theorem av_shift {Y : Nat → Int → Int} {j : Int} (hj : j = 9 ∨ j = 10) (h : av_Y Y) : av_Yd (am_uy Y 0 j (am_w (Y 0 j + 1))) (0 + 1) := by
  obtain ⟨hb, hn, T, ht, ha⟩ := h
  have hv := av_lv_le (Y := Y)
  have hc := hb.2.1
  obtain ⟨n1, n2, n3⟩ := hn
  have h0 : 0 ≤ Y 0 j ∧ Y 0 j ≤ 24 := by rcases hj with q | q <;> rw [q] <;> omega
  rw [am_wi (by omega) (by omega)]
  have u : ∀ c x, c ≠ 0 ∨ x ≠ j → am_uy Y 0 j (Y 0 j + 1) c x = Y c x := fun c x h => ay_uy_ne h
  refine ⟨⟨?_, ?_, ?_, ?_, ?_⟩, ⟨?_, ?_, ?_⟩, T, av_tr_cg (fun c x h2 _ _ _ => u c x (Or.inl (by omega))) (fun p _ _ => u 6 p (Or.inl (by decide))) ht, av_al_cg (fun x _ _ => u 2 x (Or.inl (by decide))) ha⟩
  · rw [u 0 7 (Or.inr (by omega))]; exact hb.1
  · rw [u 0 8 (Or.inr (by omega))]; exact hb.2.1
  · intro x a b; rw [u 1 x (Or.inl (by decide))]; exact hb.2.2.1 x a b
  · intro x a b
    unfold av_dd
    rw [u 0 7 (Or.inr (by omega)), u 0 8 (Or.inr (by omega)), u 2 x (Or.inl (by decide)), u 3 x (Or.inl (by decide)), u 4 x (Or.inl (by decide)), u 5 x (Or.inl (by decide))]
    exact hb.2.2.2.1 x a b
  · intro p a b
    rw [u 0 7 (Or.inr (by omega)), u 7 p (Or.inl (by decide))]
    exact hb.2.2.2.2 p a b
  · rw [av_lv_cg (Y := Y) (fun x _ _ => u 2 x (Or.inl (by decide))), u 0 8 (Or.inr (by omega)), n1]
    rcases hj with q | q
    · rw [q, ay_uy_eq, ay_uy_ne (Or.inr (by decide))]; omega
    · rw [q, ay_uy_eq, ay_uy_ne (Or.inr (by decide))]; omega
  · rcases hj with q | q
    · rw [q, ay_uy_eq]; omega
    · rw [q, ay_uy_ne (Or.inr (by decide))]; exact n2
  · rcases hj with q | q
    · rw [q, ay_uy_ne (Or.inr (by decide))]; exact n3
    · rw [q, ay_uy_eq]; omega
theorem av_take {Y : Nat → Int → Int} {l : Int} (h : av_Y Y) (hl : am_gt (Y 2) 24 l ≠ -1) : av_Y (ay_take Y l) ∧ av_li Y (ay_take Y l) 24 := by
  have h0 : 0 ≤ l ∧ l < 24 := by
    refine Decidable.byContradiction (fun q => ?_)
    unfold am_gt at hl
    rw [if_neg (by omega)] at hl
    exact hl rfl
  rw [at_gt (by omega)] at hl
  have h1 := av_rm (l := l) (av_shift (j := 10) (Or.inr rfl) h) h0 (by rw [ay_uy_ne (Or.inl (by decide))]; exact hl)
  exact ⟨h1.1, av_li_cg h1.2 (ay_uy_ne (Or.inr (by decide)))⟩
/-- the top of a pile -/
theorem av_top_in {Y : Nat → Int → Int} (h : av_Y Y) {p : Int} (ht : am_gt (Y 6) 4 p ≠ -1) : (0 ≤ p ∧ p < 4) ∧ (0 ≤ Y 6 p ∧ Y 6 p < 24) ∧ Y 2 (Y 6 p) = p ∧ Y 3 (Y 6 p) = -1 := by
  have h0 : 0 ≤ p ∧ p < 4 := by
    refine Decidable.byContradiction (fun q => ?_)
    unfold am_gt at ht
    rw [if_neg (by omega)] at ht
    exact ht rfl
  rw [at_gt (by omega)] at ht
  obtain ⟨_, _, T, hT, _⟩ := h
  have ep : ((p.toNat : Nat) : Int) = p := by omega
  have h1 := hT.1 p.toNat (by omega)
  rw [ep] at h1
  have h2 := at_is_top h1 ht
  have h3 := av_in hT (by omega) h2.2
  have h4 := hT.2.2 p.toNat (by omega) _ h2.2
  rw [ep] at h4
  exact ⟨h0, h3, h4, h2.1⟩
theorem av_bn {Y : Nat → Int → Int} {p : Int} (h : av_Y Y) : av_Yd (ay_bn0 Y p) (0 + 1) := by
  have h1 : av_Yd (ay_bn1 Y p) (0 + 1) := av_shift (j := 9) (Or.inl rfl) h
  unfold ay_bn0 ay_bn2
  split
  · exact av_scal ⟨by decide, by decide, by decide, by decide⟩ h1
  · exact av_scal ⟨by decide, by decide, by decide, by decide⟩ h1
theorem av_burn {Y : Nat → Int → Int} {p : Int} (h : av_Y Y) (ht : am_gt (Y 6) 4 p ≠ -1) : av_Y (ay_burn Y p) ∧ av_li Y (ay_burn Y p) 24 := by
  obtain ⟨h0, h1, h2, _⟩ := av_top_in h ht
  have e6 : am_gt (ay_bn0 Y p 6) 4 p = Y 6 p := by
    rw [at_gt (by omega)]
    exact ay_bn0_fr (Or.inl (by decide))
  have h3 := av_rm (l := Y 6 p) (av_bn (p := p) h) h1 (by rw [ay_bn0_fr (Or.inl (by decide)), h2]; omega)
  have e : ay_burn Y p = am_rmv (ay_bn0 Y p) (Y 6 p) := by
    unfold ay_burn
    rw [e6]
  rw [e]
  exact ⟨h3.1, av_li_cg h3.2 (ay_bn0_fr (Or.inr ⟨by decide, by decide, by decide⟩))⟩
theorem av_why0 {Y : Nat → Int → Int} {p : Int} (h : ay_why Y p = 0) : am_gt (Y 6) 4 p ≠ -1 ∧ am_oa Y p ≤ 0 := by
  unfold ay_why at h
  by_cases q : am_gt (Y 6) 4 p = -1
  · rw [if_pos q] at h
    exact absurd h (by decide)
  · rw [if_neg q] at h
    by_cases q2 : 0 < am_oa Y p
    · rw [if_pos q2] at h
      exact absurd h (by decide)
    · exact ⟨q, by omega⟩
theorem av_nt {Y : Nat → Int → Int} (h : av_Y Y) : av_Y (ay_nt1 Y) ∧ av_li Y (ay_nt1 Y) 24 := by
  unfold ay_nt1
  by_cases q : ay_dr Y (Y 0 7).toNat = -1
  · rw [if_pos q]
    exact ⟨av_scal ⟨by decide, by decide, by decide, by decide⟩ h, av_li_0 (ay_uy_ne (Or.inr (by decide)))⟩
  · rw [if_neg q]
    have hd : ∀ n, ay_dr Y n ≠ -1 → ay_why Y (ay_dr Y n) = 0 := by
      intro n
      induction n with
      | zero => intro z; exact absurd rfl z
      | succ n ih =>
        intro z
        rw [ay_dr] at z ⊢
        by_cases w : ay_why Y n = 0 ∧ (ay_dr Y n = -1 ∨ ay_td Y n < ay_td Y (ay_dr Y n))
        · rw [if_pos w]
          exact w.1
        · rw [if_neg w] at z ⊢
          exact ih z
    exact av_burn h (av_why0 (hd _ q)).1
theorem av_nts : ∀ (n : Nat) {Y : Nat → Int → Int}, av_Y Y → av_Y (ay_nts n Y) ∧ av_li Y (ay_nts n Y) (24 * n) := by
  intro n
  induction n with
  | zero => intro Y h; exact ⟨h, av_li_0 rfl⟩
  | succ n ih =>
    intro Y h
    have h1 := av_nt h
    have h2 := ih h1.1
    exact ⟨h2.1, av_li_le (av_li_tr h1.2 h2.2) (by omega)⟩
theorem av_cover {Y : Nat → Int → Int} {p v : Int} (h : av_Y Y) (hp : 0 ≤ p ∧ p < Y 0 7) (hv : v = 0 ∨ v = 1) : av_Y (am_pt Y 7 4 p v) := by
  obtain ⟨hb, hn, T, ht, ha⟩ := h
  have u : ∀ c x, c ≠ 7 → am_pt Y 7 4 p v c x = Y c x := fun c x h => ay_pt_ne (Or.inl h)
  refine ⟨⟨?_, ?_, ?_, ?_, ?_⟩, ?_, T, av_tr_cg (fun c x h2 h3 _ _ => u c x (by omega)) (fun p _ _ => u 6 p (by decide)) ht, av_al_cg (fun x _ _ => u 2 x (by decide)) ha⟩
  · rw [u 0 7 (by decide)]; exact hb.1
  · rw [u 0 8 (by decide)]; exact hb.2.1
  · intro x a b; rw [u 1 x (by decide)]; exact hb.2.2.1 x a b
  · intro x a b
    unfold av_dd
    rw [u 0 7 (by decide), u 0 8 (by decide), u 2 x (by decide), u 3 x (by decide), u 4 x (by decide), u 5 x (by decide)]
    exact hb.2.2.2.1 x a b
  · intro r a b
    rw [u 0 7 (by decide)]
    by_cases q : r = p
    · rw [q, ay_pt_eq (by have := hb.1; omega)]
      exact ⟨hv, fun z => by omega⟩
    · rw [ay_pt_ne (Or.inr q)]
      exact hb.2.2.2.2 r a b
  · unfold av_n
    rw [av_lv_cg (Y := Y) (fun x _ _ => u 2 x (by decide)), u 0 8 (by decide), u 0 9 (by decide), u 0 10 (by decide)]
    exact hn
theorem av_pile {Y : Nat → Int → Int} (h : av_Y Y) (h4 : Y 0 7 < 4) : av_Y (am_uy Y 0 7 (Y 0 7 + 1)) := by
  obtain ⟨hb, hn, T, ht, ha⟩ := h
  have u : ∀ c x, c ≠ 0 ∨ x ≠ 7 → am_uy Y 0 7 (Y 0 7 + 1) c x = Y c x := fun c x h => ay_uy_ne h
  refine ⟨⟨?_, ?_, ?_, ?_, ?_⟩, ?_, T, av_tr_cg (fun c x h2 h3 _ _ => u c x (Or.inl (by omega))) (fun p _ _ => u 6 p (Or.inl (by decide))) ht, av_al_cg (fun x _ _ => u 2 x (Or.inl (by decide))) ha⟩
  · rw [ay_uy_eq]; have := hb.1; omega
  · rw [u 0 8 (Or.inr (by decide))]; exact hb.2.1
  · intro x a b; rw [u 1 x (Or.inl (by decide))]; exact hb.2.2.1 x a b
  · intro x a b
    unfold av_dd
    rw [ay_uy_eq, u 0 8 (Or.inr (by decide)), u 2 x (Or.inl (by decide)), u 3 x (Or.inl (by decide)), u 4 x (Or.inl (by decide)), u 5 x (Or.inl (by decide))]
    rcases hb.2.2.2.1 x a b with w | w
    · exact Or.inl w
    · exact Or.inr ⟨by omega, w.2⟩
  · intro r a b
    rw [ay_uy_eq, u 7 r (Or.inl (by decide))]
    have := hb.2.2.2.2 r a b
    exact ⟨this.1, fun z => this.2 (by omega)⟩
  · unfold av_n
    rw [av_lv_cg (Y := Y) (fun x _ _ => u 2 x (Or.inl (by decide))), u 0 8 (Or.inr (by decide)), u 0 9 (Or.inr (by decide)), u 0 10 (Or.inr (by decide))]
    exact hn
theorem av_damp {Y : Nat → Int → Int} {g : Int → Int} (h : av_Y Y) (hg : ∀ x, 0 ≤ x → x < 24 → 0 ≤ g x ∧ g x ≤ 99) : av_Y (am_rg Y 1 0 24 g) := by
  obtain ⟨hb, hn, T, ht, ha⟩ := h
  have u : ∀ c x, c ≠ 1 → am_rg Y 1 0 24 g c x = Y c x := fun c x h => ay_rg_ne h
  refine ⟨⟨?_, ?_, ?_, ?_, ?_⟩, ?_, T, av_tr_cg (fun c x h2 h3 _ _ => u c x (by omega)) (fun p _ _ => u 6 p (by decide)) ht, av_al_cg (fun x _ _ => u 2 x (by decide)) ha⟩
  · rw [u 0 7 (by decide)]; exact hb.1
  · rw [u 0 8 (by decide)]; exact hb.2.1
  · intro x a b
    unfold am_rg
    rw [if_pos ⟨rfl, a, b⟩]
    exact hg x a b
  · intro x a b
    unfold av_dd
    rw [u 0 7 (by decide), u 0 8 (by decide), u 2 x (by decide), u 3 x (by decide), u 4 x (by decide), u 5 x (by decide)]
    exact hb.2.2.2.1 x a b
  · intro r a b
    rw [u 0 7 (by decide), u 7 r (by decide)]
    exact hb.2.2.2.2 r a b
  · unfold av_n
    rw [av_lv_cg (Y := Y) (fun x _ _ => u 2 x (by decide)), u 0 8 (by decide), u 0 9 (by decide), u 0 10 (by decide)]
    exact hn
theorem av_div {w k : Int} (h : 1 ≤ w ∧ w ≤ 30) (hk : 0 < k) : 0 ≤ am_w (w.tdiv k) ∧ am_w (w.tdiv k) ≤ 30 ∧ am_w (w.tdiv k) = w / k := by
  have e := ad_wd (g := w) (by omega) hk
  rw [e]
  have h1 : w / k ≤ w := Int.ediv_le_self _ (by omega)
  have h2 : 0 ≤ w / k := Int.ediv_nonneg (by omega) (by omega)
  exact ⟨h2, by omega, rfl⟩
theorem av_wby {Y : Nat → Int → Int} {w l : Int} (h : 1 ≤ w ∧ w ≤ 30) : 0 ≤ ay_wby Y w l ∧ ay_wby Y w l ≤ 30 := by
  have h2 := av_div h (k := 2) (by decide)
  have h4 := av_div h (k := 4) (by decide)
  unfold ay_wby
  repeat' split
  all_goals omega
theorem av_rby {Y : Nat → Int → Int} {w l : Int} (h : 1 ≤ w ∧ w ≤ 30) : 0 ≤ ay_rby Y w l ∧ ay_rby Y w l ≤ 30 := by
  have h3 := av_div h (k := 3) (by decide)
  unfold ay_rby
  repeat' split
  all_goals omega
theorem av_wind {Y : Nat → Int → Int} {w : Int} (h : av_Y Y) (hw : 1 ≤ w ∧ w ≤ 30) : av_Y (ay_wind Y w) := by
  refine av_damp h (fun x a b => ?_)
  have h1 := h.1.2.2.1 x a b
  have h2 := av_wby (Y := Y) (l := x) hw
  have e : am_w (Y 1 x - ay_wby Y w x) = Y 1 x - ay_wby Y w x := am_wi (by omega) (by omega)
  unfold ay_wd
  rw [e]
  repeat' split
  all_goals omega
theorem av_rain {Y : Nat → Int → Int} {w : Int} (h : av_Y Y) (hw : 1 ≤ w ∧ w ≤ 30) : av_Y (ay_rain Y w) := by
  refine av_damp h (fun x a b => ?_)
  have h1 := h.1.2.2.1 x a b
  have h2 := av_rby (Y := Y) (l := x) hw
  have e : am_w (Y 1 x + ay_rby Y w x) = Y 1 x + ay_rby Y w x := am_wi (by omega) (by omega)
  unfold ay_rd
  rw [e]
  repeat' split
  all_goals omega
