/-! ===== what holds of every yard ===== -/
theorem av_sm_ch {f g : Int → Int} {l : Int} (h : ∀ x, x ≠ l → f x = g x) (h0 : 0 ≤ l) : ∀ n : Nat, am_sm f n = am_sm g n + if l < n then f l - g l else 0 := by
  intro n
  induction n with
  | zero => rw [if_neg (by omega)]; rfl
  | succ n ih =>
    simp only [am_sm, ih]
    by_cases q : l = (n : Int)
    · rw [if_neg (by omega), if_pos (by omega), q]
      omega
    · rw [h n (by omega)]
      by_cases q2 : l < n
      · rw [if_pos q2, if_pos (by omega)]
        omega
      · rw [if_neg q2, if_neg (by omega)]
        omega
theorem av_sm_cg {f g : Int → Int} : ∀ n : Nat, (∀ x : Int, 0 ≤ x → x < n → f x = g x) → am_sm f n = am_sm g n := by
  intro n
  induction n with
  | zero => intro _; rfl
  | succ n ih =>
    intro h
    simp only [am_sm]
    rw [ih (fun x h0 h1 => h x h0 (by omega)), h n (by omega) (by omega)]
abbrev av_lv (Y : Nat → Int → Int) : Int := am_sm (fun x => am_b (Y 2 x ≠ -1)) 24
def av_dd (Y : Nat → Int → Int) (x : Int) : Prop := Y 2 x = -1 ∧ Y 3 x = -1 ∧ Y 4 x = -1 ∧ Y 5 x = -1
def av_b (Y : Nat → Int → Int) : Prop := (0 ≤ Y 0 7 ∧ Y 0 7 ≤ 4) ∧ (0 ≤ Y 0 8 ∧ Y 0 8 ≤ 24) ∧ (∀ x, 0 ≤ x → x < 24 → 0 ≤ Y 1 x ∧ Y 1 x ≤ 99) ∧ (∀ x, 0 ≤ x → x < 24 → av_dd Y x ∨ ((0 ≤ Y 2 x ∧ Y 2 x < Y 0 7) ∧ x < Y 0 8)) ∧ (∀ p, 0 ≤ p → p < 4 → (Y 7 p = 0 ∨ Y 7 p = 1) ∧ (Y 0 7 ≤ p → Y 7 p = 0))
def av_n (Y : Nat → Int → Int) (d : Int) : Prop := av_lv Y = Y 0 8 - Y 0 9 - Y 0 10 + d ∧ 0 ≤ Y 0 9 ∧ 0 ≤ Y 0 10
def av_Yd (Y : Nat → Int → Int) (d : Int) : Prop := av_b Y ∧ av_n Y d ∧ ∃ T, av_tr Y T ∧ av_al Y T
abbrev av_Y (Y : Nat → Int → Int) : Prop := av_Yd Y 0
def av_li (Y Z : Nat → Int → Int) (n : Nat) : Prop := ∃ k, k ≤ n ∧ Z 0 11 = at_lf k (Y 0 11)
theorem at_lf_add {x : Int} : ∀ (j k : Nat), at_lf (j + k) x = at_lf k (at_lf j x) := by
  intro j
  induction j generalizing x with
  | zero => intro k; rw [Nat.zero_add]; rfl
  | succ j ih =>
    intro k
    rw [show j + 1 + k = (j + k) + 1 by omega, at_lf, ih]
    rfl
theorem at_lf_eq : ∀ (k : Nat) (x : Int), 0 ≤ x → x + k < 2147483648 → at_lf k x = x + k := by
  intro k
  induction k with
  | zero => intro x _ _; show x = x + 0; omega
  | succ k ih =>
    intro x h0 h1
    rw [at_lf, am_wi (by omega) (by omega), ih _ (by omega) (by omega)]
    omega
theorem at_co_le {D : Int → Int} : ∀ (n : Nat) (s t : at_T), at_co D n s t ≤ n := by
  intro n
  induction n with
  | zero => intro s t; cases s <;> cases t <;> simp [at_co]
  | succ n ih =>
    intro s t
    cases s with
    | leaf v => rw [at_co_l]; omega
    | branch a l r =>
      cases t with
      | leaf v => rw [at_co_r]; omega
      | branch b l' r' =>
        rw [at_co]
        split
        · have := ih r (.branch b l' r'); omega
        · have := ih r' (.branch a l r); omega
theorem av_li_0 {Y Z : Nat → Int → Int} {n : Nat} (h : Z 0 11 = Y 0 11) : av_li Y Z n := ⟨0, by omega, h⟩
theorem av_li_tr {Y Z W : Nat → Int → Int} {m n : Nat} (h1 : av_li Y Z m) (h2 : av_li Z W n) : av_li Y W (m + n) := by
  obtain ⟨j, hj, ej⟩ := h1
  obtain ⟨k, hk, ek⟩ := h2
  exact ⟨j + k, by omega, by rw [at_lf_add, ← ej, ek]⟩
theorem av_li_le {Y Z : Nat → Int → Int} {m n : Nat} (h : av_li Y Z m) (hm : m ≤ n) : av_li Y Z n := by
  obtain ⟨k, hk, ek⟩ := h
  exact ⟨k, by omega, ek⟩
def av_eq (Y Z : Nat → Int → Int) : Prop := (∀ c x, 1 ≤ c → c ≤ 5 → 0 ≤ x → x < 24 → Z c x = Y c x) ∧ (∀ p, 0 ≤ p → p < 4 → Z 6 p = Y 6 p ∧ Z 7 p = Y 7 p)
theorem av_tr_cg {Y Z : Nat → Int → Int} {T : Nat → at_T} (hl : ∀ c x, 2 ≤ c → c ≤ 5 → 0 ≤ x → x < 24 → Z c x = Y c x) (ht : ∀ p, 0 ≤ p → p < 4 → Z 6 p = Y 6 p) (h : av_tr Y T) : av_tr Z T := by
  refine ⟨fun p hp => ?_, h.2.1, fun p hp x hx => ?_⟩
  · rw [ht p (by omega) (by omega)]
    refine at_is_fr _ _ _ (fun x hx => ?_) (h.1 p hp)
    have := av_in h hp hx
    exact ⟨hl 3 x (by omega) (by omega) this.1 this.2, hl 4 x (by omega) (by omega) this.1 this.2, hl 5 x (by omega) (by omega) this.1 this.2⟩
  · have := av_in h hp hx
    rw [hl 2 x (by omega) (by omega) this.1 this.2]
    exact h.2.2 p hp x hx
theorem av_al_cg {Y Z : Nat → Int → Int} {T : Nat → at_T} (hl : ∀ x, 0 ≤ x → x < 24 → Z 2 x = Y 2 x) (h : av_al Y T) : av_al Z T := fun p hp x h0 h1 h2 => h p hp x h0 h1 (by rw [← hl x h0 h1]; exact h2)
theorem av_lv_cg {Y Z : Nat → Int → Int} (hl : ∀ x, 0 ≤ x → x < 24 → Z 2 x = Y 2 x) : av_lv Z = av_lv Y := av_sm_cg 24 (fun x h0 h1 => by
  have := hl x h0 (by omega)
  simp only [this])
theorem av_cg {Y Z : Nat → Int → Int} {d : Int} (he : av_eq Y Z) (h7 : Z 0 7 = Y 0 7) (h8 : Z 0 8 = Y 0 8) (h9 : Z 0 9 = Y 0 9) (h10 : Z 0 10 = Y 0 10) (h : av_Yd Y d) : av_Yd Z d := by
  obtain ⟨hb, hn, T, ht, ha⟩ := h
  obtain ⟨b1, b2, b3, b4, b5⟩ := hb
  have e2 : ∀ x, 0 ≤ x → x < 24 → Z 2 x = Y 2 x := fun x h0 h1 => he.1 2 x (by omega) (by omega) h0 h1
  refine ⟨⟨by rw [h7]; exact b1, by rw [h8]; exact b2, fun x h0 h1 => ?_, fun x h0 h1 => ?_, fun p h0 h1 => ?_⟩, ?_, T, av_tr_cg (fun c x h2 h3 => he.1 c x (by omega) h3) (fun p h0 h1 => (he.2 p h0 h1).1) ht, av_al_cg e2 ha⟩
  · rw [he.1 1 x (by omega) (by omega) h0 h1]
    exact b3 x h0 h1
  · unfold av_dd
    rw [h7, h8, e2 x h0 h1, he.1 3 x (by omega) (by omega) h0 h1, he.1 4 x (by omega) (by omega) h0 h1, he.1 5 x (by omega) (by omega) h0 h1]
    exact b4 x h0 h1
  · rw [h7, (he.2 p h0 h1).2]
    exact b5 p h0 h1
  · unfold av_n
    rw [av_lv_cg e2, h8, h9, h10]
    exact hn
theorem av_scal {Y : Nat → Int → Int} {j v d : Int} (hj : j ≠ 7 ∧ j ≠ 8 ∧ j ≠ 9 ∧ j ≠ 10) (h : av_Yd Y d) : av_Yd (am_uy Y 0 j v) d :=
  av_cg ⟨fun c x h1 _ _ _ => ay_uy_ne (Or.inl (by omega)), fun p _ _ => ⟨ay_uy_ne (Or.inl (by decide)), ay_uy_ne (Or.inl (by decide))⟩⟩ (ay_uy_ne (Or.inr (by omega))) (ay_uy_ne (Or.inr (by omega))) (ay_uy_ne (Or.inr (by omega))) (ay_uy_ne (Or.inr (by omega))) h
theorem av_lv_le {Y : Nat → Int → Int} : 0 ≤ av_lv Y ∧ av_lv Y ≤ 24 := am_sm_le (f := fun x => am_b (Y 2 x ≠ -1)) (k := 1) (n := 24) (fun _ _ _ => am_b_le)
/-- which log is in which tree -/
theorem av_who {Y : Nat → Int → Int} {T : Nat → at_T} (hb : av_b Y) (ha : av_al Y T) {x : Int} (h0 : 0 ≤ x) (h1 : x < 24) (h2 : Y 2 x ≠ -1) : ∃ p : Nat, p < 4 ∧ Y 2 x = (p : Int) ∧ 0 < at_ct (T p) x := by
  rcases hb.2.2.2.1 x h0 h1 with h | h
  · exact absurd h.1 h2
  · refine ⟨(Y 2 x).toNat, by have := hb.1; omega, by omega, ha _ (by have := hb.1; omega) x h0 h1 (by omega)⟩
theorem av_no {Y : Nat → Int → Int} {T : Nat → at_T} (ht : av_tr Y T) {x : Int} (h2 : Y 2 x = -1) : ∀ q, q < 4 → at_ct (T q) x = 0 := by
  intro q hq
  by_cases h : 0 < at_ct (T q) x
  · have := ht.2.2 q hq x h
    omega
  · omega
theorem av_rm {Y : Nat → Int → Int} {l d : Int} (h : av_Yd Y (d + 1)) (hl : 0 ≤ l ∧ l < 24) (h2 : Y 2 l ≠ -1) : av_Yd (am_rmv Y l) d ∧ av_li Y (am_rmv Y l) 24 := by
  obtain ⟨hb, hn, T, ht, ha⟩ := h
  obtain ⟨p, hp, ep, hc⟩ := av_who hb ha hl.1 hl.2 h2
  obtain ⟨r1, r2, r3, r4, r5⟩ := av_rmv ht hp hc
  have f0 : ∀ j, j ≠ 11 → am_rmv Y l 0 j = Y 0 j := fun j hj => ay_rmv_fr (ay_out0 hj) (by decide) (by decide)
  refine ⟨⟨⟨?_, ?_, ?_, ?_, ?_⟩, ⟨?_, ?_, ?_⟩, _, r1, ?_⟩, _, at_co_le _ _ _, r4⟩
  · rw [f0 7 (by decide)]; exact hb.1
  · rw [f0 8 (by decide)]; exact hb.2.1
  · intro x h0 h1
    rw [ay_rmv_fr ⟨by decide, by decide, by decide, Or.inl (by decide)⟩ (by decide) (by decide)]
    exact hb.2.2.1 x h0 h1
  · intro x h0 h1
    rw [f0 7 (by decide), f0 8 (by decide)]
    by_cases q : x = l
    · refine Or.inl ?_
      rw [q]
      exact ⟨by rw [av_rm_2 hl, if_pos rfl], r3⟩
    · rw [av_rm_2 hl, if_neg q]
      rcases hb.2.2.2.1 x h0 h1 with w | w
      · refine Or.inl ?_
        have h3 := r2 x (av_no ht w.1 p hp) (by omega)
        refine ⟨by rw [av_rm_2 hl, if_neg q]; exact w.1, ?_⟩
        rw [h3.1, h3.2.1, h3.2.2]
        exact w.2
      · exact Or.inr w
  · intro r h0 h1
    rw [f0 7 (by decide), ay_rmv_fr ⟨by decide, by decide, by decide, Or.inl (by decide)⟩ (by decide) (by decide)]
    exact hb.2.2.2.2 r h0 h1
  · have h5 := av_sm_ch (f := fun x => am_b (am_rmv Y l 2 x ≠ -1)) (g := fun x => am_b (Y 2 x ≠ -1)) (l := l) (fun x hx => by
      show am_b (am_rmv Y l 2 x ≠ -1) = am_b (Y 2 x ≠ -1)
      simp only [av_rm_2 hl, if_neg hx]) hl.1 24
    rw [if_pos (by omega)] at h5
    have e1 : am_b (am_rmv Y l 2 l ≠ -1) = 0 := by
      rw [am_b_0, av_rm_2 hl, if_pos rfl]
      exact fun z => z rfl
    have e2 : am_b (Y 2 l ≠ -1) = 1 := by
      rw [am_b_1]
      exact h2
    rw [e1, e2] at h5
    show am_sm (fun x => am_b (am_rmv Y l 2 x ≠ -1)) 24 = _
    have h6 := hn.1
    rw [h5, f0 8 (by decide), f0 9 (by decide), f0 10 (by decide)]
    show av_lv Y + _ = _
    omega
  · rw [f0 9 (by decide)]; exact hn.2.1
  · rw [f0 10 (by decide)]; exact hn.2.2
  · intro q hq x h0 h1 hx
    rw [av_rm_2 hl] at hx
    by_cases e : x = l
    · rw [if_pos e] at hx
      omega
    · rw [if_neg e] at hx
      by_cases hqp : q = p
      · rw [hqp, av_up_eq, r5, if_neg e]
        rw [hqp] at hx
        exact ha p hp x h0 h1 hx
      · rw [av_up_ne hqp]
        exact ha q hq x h0 h1 hx
