/-! ===== joins and mends: pure (written by wip/p32/gens/pjoin.py) ===== -/
def mt (D H : Int → Int) (p : Int) : Nat → at_T
  | 0 => .leaf ()
  | i + 1 => if H i = p then at_jn D 24 (mt D H p i) (av_pc i) else mt D H p i
def mc (D H : Int → Int) (p : Int) : Nat → Nat
  | 0 => 0
  | i + 1 => mc D H p i + (if H i = p then at_co D 24 (mt D H p i) (av_pc i) else 0)
theorem mst2 {Y Z : Nat → Int → Int} {T : Nat → at_T} {p i : Nat} (hp : p < 4) (hi : i < 24) (h : av_mid Y p i Z T) : av_mid Y p (i + 1) (if Z 2 i = p then am_ci (ay_unl Z i) p i else Z) (if Z 2 i = p then av_up T p (at_jn (Y 1) 24 (T p) (av_pc i)) else T) ∧ (if Z 2 i = p then am_ci (ay_unl Z i) p i else Z) 0 11 = at_lf (if Z 2 i = p then at_co (Y 1) 24 (T p) (av_pc i) else 0) (Z 0 11) := by
  obtain ⟨h1, h2, h3, ⟨h4, h5⟩, h6, h7, h8⟩ := h
  have hii : (0 : Int) ≤ (i : Int) ∧ (i : Int) < ((24 : Nat) : Int) := by omega
  by_cases q : Z 2 i = (p : Int)
  · rw [if_pos q, if_pos q, if_pos q]
    have q' : Y 2 i = (p : Int) := by rw [← h4 2 i (by omega)]; exact q
    have ni : ∀ r, r < 4 → at_ct (T r) i = 0 := by
      intro r hr
      by_cases w : 0 < at_ct (T r) i
      · have := h1.2.2 r hr i w
        have hrp : r = p := by omega
        rw [hrp] at w
        have := h3 i w
        omega
      · omega
    have u : ∀ c x, (c ≠ 3 ∧ c ≠ 4 ∧ c ≠ 5) ∨ x ≠ (i : Int) → ay_unl Z i c x = Z c x := by
      intro c x w
      unfold ay_unl
      rw [ay_pt_ne (by omega), ay_pt_ne (by omega), ay_pt_ne (by omega)]
    have u4 : ay_unl Z i 4 i = -1 := by
      unfold ay_unl
      rw [ay_pt_ne (Or.inl (by decide)), ay_pt_eq hii]
    have u5 : ay_unl Z i 5 i = -1 := by
      unfold ay_unl
      rw [ay_pt_eq hii]
    have ht : av_tr (ay_unl Z i) T := by
      refine ⟨fun r hr => ?_, h1.2.1, fun r hr x hx => ?_⟩
      · rw [u 6 r (Or.inl (by decide))]
        refine at_is_fr _ _ _ (fun x hx => ?_) (h1.1 r hr)
        have hxi : x ≠ (i : Int) := by
          intro e
          rw [e] at hx
          have := ni r hr
          omega
        exact ⟨u 3 x (Or.inr hxi), u 4 x (Or.inr hxi), u 5 x (Or.inr hxi)⟩
      · rw [u 2 x (Or.inl (by decide))]
        exact h1.2.2 r hr x hx
    have eD : ay_unl Z i 1 = Y 1 := by
      funext x
      rw [u 1 x (Or.inl (by decide)), h4 1 x (by omega)]
    obtain ⟨c1, c2, c3, c4⟩ := av_ci ht hp hi ni u4 u5 (by rw [u 2 i (Or.inl (by decide)), q])
    rw [eD] at c1 c3 c4
    refine ⟨⟨c1, ?_, ?_, ⟨?_, ?_⟩, ?_, ?_, ?_⟩, by rw [c3, u 0 11 (Or.inl (by decide))]⟩
    · intro r hr x a b hx hxi
      by_cases e : r = p
      · rw [e, av_up_eq, c4]
        by_cases e2 : x = (i : Int)
        · rw [if_pos e2]
          omega
        · rw [e] at hx
          have := h2 p hp x a b hx (fun _ => by have := hxi e; omega)
          omega
      · rw [av_up_ne e]
        exact h2 r hr x a b hx (fun z => absurd z e)
    · intro x hx
      rw [av_up_eq, c4] at hx
      by_cases e2 : x = (i : Int)
      · omega
      · rw [if_neg e2] at hx
        have := h3 x (by omega)
        omega
    · intro c x hc
      rw [av_ci_fr ⟨by omega, by omega, by omega, Or.inl (by omega)⟩ (by omega), u c x (Or.inl (by omega))]
      exact h4 c x hc
    · intro j hj
      rw [ay_ci_0 hj, u 0 j (Or.inl (by decide))]
      exact h5 j hj
    · intro x a b hx
      have hxi : x ≠ (i : Int) := by
        intro e
        rw [e, q'] at hx
        omega
      have n0 : at_ct (T p) x = 0 := av_no h1 (by rw [h4 2 x (by omega)]; exact hx) p hp
      have := c2 x n0 hxi (by omega)
      rw [this.1, this.2.1, this.2.2, u 3 x (Or.inr hxi), u 4 x (Or.inr hxi), u 5 x (Or.inr hxi)]
      exact h6 x a b hx
    · have hs : av_li Z (am_ci (ay_unl Z i) p i) 24 := ⟨at_co (Y 1) 24 (T p) (av_pc i), at_co_le _ _ _, by rw [c3, u 0 11 (Or.inl (by decide))]⟩
      exact av_li_le (av_li_tr h7 hs) (by omega)
    · rw [av_up_eq]
      exact at_jn_ho _ _ _ _ h8 ⟨Or.inl rfl, trivial, trivial⟩
  · rw [if_neg q, if_neg q, if_neg q]
    refine ⟨⟨h1, ?_, ?_, ⟨h4, h5⟩, h6, av_li_le h7 (by omega), h8⟩, rfl⟩
    · intro r hr x a b hx hxi
      refine h2 r hr x a b hx (fun e => ?_)
      have := hxi e
      by_cases e2 : x = (i : Int)
      · exfalso
        apply q
        rw [h4 2 i (by omega), ← e2, hx, e]
      · omega
    · intro x hx
      have := h3 x hx
      omega
theorem mll2 {Y : Nat → Int → Int} {p : Nat} (hp : p < 4) : ∀ (n i : Nat) (Z : Nat → Int → Int) (T : Nat → at_T), i + n = 24 → av_mid Y p i Z T → T p = mt (Y 1) (Y 2) p i → Z 0 11 = at_lf (mc (Y 1) (Y 2) p i) (Y 0 11) → ∃ T', av_mid Y p 24 (ay_ml n Z p i) T' ∧ T' p = mt (Y 1) (Y 2) p 24 ∧ ay_ml n Z p i 0 11 = at_lf (mc (Y 1) (Y 2) p 24) (Y 0 11) := by
  intro n
  induction n with
  | zero =>
    intro i Z T h hm h1 h2
    have e : i = 24 := by omega
    subst e
    exact ⟨T, hm, h1, h2⟩
  | succ n ih =>
    intro i Z T h hm h1 h2
    obtain ⟨g1, g2⟩ := mst2 hp (by omega) hm
    have e2 : Z 2 i = Y 2 i := hm.2.2.2.1.1 2 i (by omega)
    have := ih (i + 1) _ _ (by omega) g1 (by
      rw [mt, e2]
      by_cases q : Y 2 i = (p : Int)
      · rw [if_pos q, if_pos q, av_up_eq, h1]
      · rw [if_neg q, if_neg q, h1]) (by
      rw [g2, h2, mc, at_lf_add, e2, h1])
    rw [ay_ml]
    exact this
theorem mend2 {Y : Nat → Int → Int} {p : Int} (h : av_Y Y) (hp : 0 ≤ p ∧ p < Y 0 7) : (∃ T, av_tr (ay_mend Y p) T ∧ T p.toNat = mt (Y 1) (Y 2) p 24) ∧ ay_mend Y p 0 11 = at_lf (mc (Y 1) (Y 2) p 24) (Y 0 11) := by
  obtain ⟨hb, hn, T, ht, ha⟩ := h
  obtain ⟨p', ep⟩ : ∃ q : Nat, p = (q : Int) := ⟨p.toNat, by omega⟩
  have hp4 : p' < 4 := by have := hb.1; omega
  subst ep
  have e0 : ∀ c x, c ≠ 6 → am_pt Y 6 4 p' (-1) c x = Y c x := fun c x h => ay_pt_ne (Or.inl h)
  have h0 : av_mid Y p' 0 (am_pt Y 6 4 p' (-1)) (av_up T p' (.leaf ())) := by
    refine ⟨⟨fun q hq => ?_, fun q hq x => ?_, fun q hq x hx => ?_⟩, fun q hq x a b hx hxi => ?_, fun x hx => ?_, ⟨fun c x hc => e0 c x (by omega), fun j _ => e0 0 j (by decide)⟩, fun x a b _ => ⟨e0 3 x (by decide), e0 4 x (by decide), e0 5 x (by decide)⟩, av_li_0 (e0 0 11 (by decide)), ?_⟩
    · by_cases e : q = p'
      · rw [e, av_up_eq, ay_pt_eq (by omega)]
        rfl
      · rw [av_up_ne e, ay_pt_ne (Or.inr (by omega))]
        exact at_is_fr _ _ _ (fun x _ => ⟨e0 3 x (by decide), e0 4 x (by decide), e0 5 x (by decide)⟩) (ht.1 q hq)
    · by_cases e : q = p'
      · rw [e, av_up_eq]
        simp [at_ct]
      · rw [av_up_ne e]
        exact ht.2.1 q hq x
    · rw [e0 2 x (by decide)]
      by_cases e : q = p'
      · rw [e, av_up_eq] at hx
        simp [at_ct] at hx
      · rw [av_up_ne e] at hx
        exact ht.2.2 q hq x hx
    · by_cases e : q = p'
      · have := hxi e
        omega
      · rw [av_up_ne e]
        exact ha q hq x a b hx
    · rw [av_up_eq] at hx
      simp [at_ct] at hx
    · rw [av_up_eq]
      trivial
  obtain ⟨T', m1, m2, m3⟩ := mll2 hp4 24 0 _ _ rfl h0 (by rw [av_up_eq]; rfl) (e0 0 11 (by decide))
  exact ⟨⟨T', m1.1, m2⟩, m3⟩
theorem at_un {Y : Nat → Int → Int} : ∀ (t t' : at_T) (u a : Int), at_is Y t u a → at_is Y t' u a → t = t' := by
  intro t
  induction t with
  | leaf v =>
    intro t' u a h h'
    cases t' with
    | leaf v' => rfl
    | branch n l r =>
      have h1 : a = -1 := h
      have h2 := h'.1.1
      omega
  | branch n l r ihl ihr =>
    intro t' u a h h'
    cases t' with
    | leaf v' =>
      have h1 : a = -1 := h'
      have h2 := h.1.1
      omega
    | branch m l' r' =>
      have e1 := h.1.1
      have e2 := h'.1.1
      have e : n = m := by omega
      subst e
      rw [ihl _ _ _ h.2.1 h'.2.1, ihr _ _ _ h.2.2 h'.2.2]
theorem tr_un {Y : Nat → Int → Int} {T R : Nat → at_T} (h : av_tr Y T) (h' : av_tr Y R) {p : Nat} (hp : p < 4) : T p = R p := at_un _ _ _ _ (h.1 p hp) (h'.1 p hp)
theorem co_pos {D : Int → Int} {n : Nat} {s t : at_T} (hs : fw_lf s = false) (ht : fw_lf t = false) : 1 ≤ at_co D (n + 1) s t := by
  cases s with
  | leaf v => cases hs
  | branch a l r =>
    cases t with
    | leaf v => cases ht
    | branch b l' r' =>
      rw [at_co]
      split <;> omega
theorem mt_in {D H : Int → Int} {p : Int} : ∀ (i : Nat), i ≤ 24 → at_sz (mt D H p i) ≤ i ∧ at_sz (mt D H p i) ≤ mc D H p i + 1 := by
  intro i
  induction i with
  | zero => intro _; exact ⟨Nat.le_refl _, Nat.zero_le _⟩
  | succ i ih =>
    intro h
    have hi := ih (by omega)
    rw [mt, mc]
    by_cases q : H i = p
    · rw [if_pos q, if_pos q]
      have hz : at_sz (av_pc i) = 1 := rfl
      have h1 := (at_jn_ct (D := D) (x := 0) 24 (mt D H p i) (av_pc i) (by omega)).2
      cases e : mt D H p i with
      | leaf v =>
        rw [e] at h1
        rw [h1, hz]
        simp only [at_sz]
        omega
      | branch a l r =>
        rw [e] at h1 hi
        have h2 : 1 ≤ at_co D 24 (.branch a l r) (av_pc i) := co_pos (n := 23) rfl rfl
        rw [h1, hz]
        omega
    · rw [if_neg q, if_neg q]
      omega
theorem mc_b {D H : Int → Int} {p : Int} : ∀ (i : Nat), mc D H p i ≤ 24 * i := by
  intro i
  induction i with
  | zero => exact Nat.le_refl _
  | succ i ih =>
    rw [mc]
    have := at_co_le (D := D) 24 (mt D H p i) (av_pc i)
    split <;> omega
/-- what drawing a mended pile empty costs, in trees -/
def dc (D : Int → Int) : Nat → at_T → Nat
  | 0, _ => 0
  | _ + 1, .leaf _ => 0
  | m + 1, .branch _ l r => at_co D 24 l r + dc D m (at_jn D 24 l r)
theorem dc_b {D : Int → Int} : ∀ (m : Nat) (t : at_T), dc D m t ≤ 24 * m := by
  intro m
  induction m with
  | zero => intro t; exact Nat.le_refl _
  | succ m ih =>
    intro t
    cases t with
    | leaf v => exact Nat.zero_le _
    | branch n l r =>
      rw [dc]
      have := at_co_le (D := D) 24 l r
      have := ih (at_jn D 24 l r)
      omega
theorem de_dc {p : Nat} : ∀ (m : Nat) (Y : Nat → Int → Int) (T : Nat → at_T), av_Y Y → p < 4 → av_hp Y p → av_tr Y T → ay_de m Y p 0 11 = at_lf (dc (Y 1) m (T p)) (Y 0 11) := by
  intro m
  induction m with
  | zero => intro Y T _ _ _ _; rfl
  | succ m ih =>
    intro Y T hY hp hh hT
    have ho := hp_oa hp hh
    have e6 : am_gt (Y 6) 4 p = Y 6 p := at_gt (by omega)
    have hI := hT.1 p hp
    rw [ay_de]
    by_cases ht : am_gt (Y 6) 4 p = -1
    · have ew : ay_why Y p = 1 := by
        unfold ay_why
        rw [if_pos ht]
      have el := fw_lf_eq ((fw_top hT hp).mp ht)
      rw [if_neg (by omega), el]
      rfl
    · have ew : ay_why Y p = 0 := by
        unfold ay_why
        rw [if_neg ht, if_neg (by omega)]
      obtain ⟨t1, t2, t3, t4⟩ := av_top_in hY ht
      have c : ∀ c x, c ≠ 0 → ay_bn0 Y p c x = Y c x := fun c x hc => ay_bn0_fr (Or.inl hc)
      have eb : ay_burn Y p = am_rmv (ay_bn0 Y p) (Y 6 p) := by
        unfold ay_burn
        rw [at_gt (by omega), c 6 p (by decide)]
      have ht1 : av_tr (ay_bn0 Y p) T := av_tr_cg (fun a x h2 _ _ _ => c a x (by omega)) (fun r _ _ => c 6 r (by decide)) hT
      have hc := (at_is_top hI (by omega)).2
      obtain ⟨r1, r2, r3, r4, r5⟩ := av_rmv ht1 hp hc
      have e1 : ay_bn0 Y p 1 = Y 1 := funext (fun x => c 1 x (by decide))
      rw [e1] at r1 r4
      rw [ay_bn0_fr (Or.inr ⟨by decide, by decide, by decide⟩)] at r4
      have hY' := (av_burn hY ht).1
      have hh' := hp_burn hY hp hh ht
      have hT' : av_tr (ay_burn Y p) (av_up T p (at_rm (Y 1) (Y 6 p) (T p))) := by rw [eb]; exact r1
      rw [if_pos ew, ih _ _ hY' hp hh' hT', bn_1 hY ht, av_up_eq, eb, r4, ← at_lf_add]
      congr 1
      cases hTp : T p with
      | leaf v =>
        rw [hTp] at hc
        simp [at_ct] at hc
      | branch n l r =>
        rw [hTp] at hI
        have en : Y 6 p = (n : Int) := hI.1.1
        rw [dc, at_rm, if_pos en, at_fi, if_pos en]
/-! the fewest lifts and one join -/
section PJ
variable {D : Int → Int} {T : Nat → at_T}
theorem fs_mo {f : (Nat → at_T) → Int} (hf : ∀ T, 0 ≤ f T) {p q : Nat} {a : Int} (ha : a = -1 ∨ 0 ≤ a) : (fw_st D f T p q a = -1 ∨ 0 ≤ fw_st D f T p q a) ∧ (0 ≤ a → 0 ≤ fw_st D f T p q a ∧ fw_st D f T p q a ≤ a) := by
  have := hf (fw_t D T p q)
  unfold fw_st fw_le
  repeat' split
  all_goals omega
theorem fs_ow {f : (Nat → at_T) → Int} (hf : ∀ T, 0 ≤ f T) {p q : Nat} {a : Int} (ha : a = -1 ∨ 0 ≤ a) (hp : fw_lf (T p) = false) (hq : fw_lf (T q) = false) : 0 ≤ fw_st D f T p q a ∧ fw_st D f T p q a ≤ (at_co D 24 (T p) (T q) : Int) + f (fw_t D T p q) := by
  have := hf (fw_t D T p q)
  unfold fw_st fw_le
  rw [if_neg (fun z => by rcases z with z | z; rw [hp] at z; cases z; rw [hq] at z; cases z)]
  split
  · omega
  · split <;> omega
theorem f2_0 (T : Nat → at_T) : 0 ≤ fw_f2 D T := by
  have b0 : ∀ T : Nat → at_T, 0 ≤ (fun _ => (0 : Int)) T ∧ (fun _ => (0 : Int)) T ≤ 0 := fun _ => ⟨Int.le_refl 0, Int.le_refl 0⟩
  have b1 := fw_lv_le (D := D) b0 (by decide)
  have b2 := fw_lv_le (D := D) b1 (by decide)
  exact (b2 T).1
theorem f3_b : 0 ≤ fw_f3 D T ∧ fw_f3 D T ≤ 72 := by
  have b0 : ∀ T : Nat → at_T, 0 ≤ (fun _ => (0 : Int)) T ∧ (fun _ => (0 : Int)) T ≤ 0 := fun _ => ⟨Int.le_refl 0, Int.le_refl 0⟩
  have b1 := fw_lv_le (D := D) b0 (by decide)
  have b2 := fw_lv_le (D := D) b1 (by decide)
  have b3 := fw_lv_le (D := D) b2 (by decide)
  exact b3 T
/-- no order is better than the fewest: a pair that is joined first -/
theorem f3_le {p q : Nat} (hpq : p < q) (hq : q < 4) (h1 : fw_lf (T p) = false) (h2 : fw_lf (T q) = false) : fw_f3 D T ≤ (at_co D 24 (T p) (T q) : Int) + fw_f2 D (fw_t D T p q) := by
  have m0 : (-1 : Int) = -1 ∨ (0 : Int) ≤ -1 := Or.inl rfl
  have mo := fun (a b : Nat) (x : Int) (hx : x = -1 ∨ 0 ≤ x) => fs_mo (D := D) (T := T) (f := fw_f2 D) f2_0 (p := a) (q := b) hx
  have ow := fun (a b : Nat) (x : Int) (hx : x = -1 ∨ 0 ≤ x) (ha : fw_lf (T a) = false) (hb : fw_lf (T b) = false) => fs_ow (D := D) (T := T) (f := fw_f2 D) f2_0 (p := a) (q := b) hx ha hb
  have e : fw_f3 D T = fw_lv D (fw_f2 D) T := rfl
  rw [e, fw_lv_eq]
  have a1 := mo 0 1 (-1) m0
  have a2 := mo 0 2 _ a1.1
  have a3 := mo 0 3 _ a2.1
  have a4 := mo 1 2 _ a3.1
  have a5 := mo 1 3 _ a4.1
  have a6 := mo 2 3 _ a5.1
  have fin : ∀ x : Int, 0 ≤ fw_st D (fw_f2 D) T 2 3 (fw_st D (fw_f2 D) T 1 3 (fw_st D (fw_f2 D) T 1 2 (fw_st D (fw_f2 D) T 0 3 (fw_st D (fw_f2 D) T 0 2 (fw_st D (fw_f2 D) T 0 1 (-1)))))) → fw_st D (fw_f2 D) T 2 3 (fw_st D (fw_f2 D) T 1 3 (fw_st D (fw_f2 D) T 1 2 (fw_st D (fw_f2 D) T 0 3 (fw_st D (fw_f2 D) T 0 2 (fw_st D (fw_f2 D) T 0 1 (-1)))))) ≤ x → (if fw_st D (fw_f2 D) T 2 3 (fw_st D (fw_f2 D) T 1 3 (fw_st D (fw_f2 D) T 1 2 (fw_st D (fw_f2 D) T 0 3 (fw_st D (fw_f2 D) T 0 2 (fw_st D (fw_f2 D) T 0 1 (-1)))))) = -1 then 0 else fw_st D (fw_f2 D) T 2 3 (fw_st D (fw_f2 D) T 1 3 (fw_st D (fw_f2 D) T 1 2 (fw_st D (fw_f2 D) T 0 3 (fw_st D (fw_f2 D) T 0 2 (fw_st D (fw_f2 D) T 0 1 (-1))))))) ≤ x := fun x h g => by
    rw [if_neg (by omega)]
    exact g
  rcases (show (p = 0 ∧ q = 1) ∨ (p = 0 ∧ q = 2) ∨ (p = 0 ∧ q = 3) ∨ (p = 1 ∧ q = 2) ∨ (p = 1 ∧ q = 3) ∨ (p = 2 ∧ q = 3) by omega) with ⟨rfl, rfl⟩ | ⟨rfl, rfl⟩ | ⟨rfl, rfl⟩ | ⟨rfl, rfl⟩ | ⟨rfl, rfl⟩ | ⟨rfl, rfl⟩
  · have b := ow 0 1 (-1) m0 h1 h2
    have c2 := a2.2 b.1
    have c3 := a3.2 c2.1
    have c4 := a4.2 c3.1
    have c5 := a5.2 c4.1
    have c6 := a6.2 c5.1
    exact fin _ c6.1 (by omega)
  · have b := ow 0 2 _ a1.1 h1 h2
    have c3 := a3.2 b.1
    have c4 := a4.2 c3.1
    have c5 := a5.2 c4.1
    have c6 := a6.2 c5.1
    exact fin _ c6.1 (by omega)
  · have b := ow 0 3 _ a2.1 h1 h2
    have c4 := a4.2 b.1
    have c5 := a5.2 c4.1
    have c6 := a6.2 c5.1
    exact fin _ c6.1 (by omega)
  · have b := ow 1 2 _ a3.1 h1 h2
    have c5 := a5.2 b.1
    have c6 := a6.2 c5.1
    exact fin _ c6.1 (by omega)
  · have b := ow 1 3 _ a4.1 h1 h2
    have c6 := a6.2 b.1
    exact fin _ c6.1 (by omega)
  · have b := ow 2 3 _ a5.1 h1 h2
    exact fin _ b.1 b.2
/-- three trees: the fewest, whatever their order -/
theorem f3_3 (h : fw_ok D T) {p q r s : Nat} (hp : p < 4) (hq : q < 4) (hr : r < 4) (hs : s < 4) (h1 : p ≠ q) (h2 : p ≠ r) (h3 : p ≠ s) (h4 : q ≠ r) (h5 : q ≠ s) (h6 : r ≠ s) (hl : fw_lf (T q) = true) : fw_f3 D T = fw_m3 D (T p) (T r) (T s) ∧ fw_f2 D T = fw_m3 D (T p) (T r) (T s) := by
  have x12 := fun (a b c : Nat) (ha : a < 4) (hb : b < 4) (hc : c < 4) (hn : a ≠ b) => fw_m3_12 h (p := a) (q := b) (r := c) ha hb hc hn
  have x23 := fun (a b c : Nat) (ha : a < 4) (hb : b < 4) (hc : c < 4) (hn : b ≠ c) => fw_m3_23 h (p := a) (q := b) (r := c) ha hb hc hn
  have srt : ∀ a b c : Nat, a < b → b < c → c < 4 → (p = a ∨ p = b ∨ p = c) → (r = a ∨ r = b ∨ r = c) → (s = a ∨ s = b ∨ s = c) → fw_m3 D (T p) (T r) (T s) = fw_m3 D (T a) (T b) (T c) := by
    intro a b c ab bc c4 kp kr ks
    rcases kp with rfl | rfl | rfl <;> rcases kr with rfl | rfl | rfl <;> rcases ks with rfl | rfl | rfl <;> first | (exfalso; omega) | skip
    · rfl
    · exact x23 _ _ _ (by omega) (by omega) (by omega) (by omega)
    · exact x12 _ _ _ (by omega) (by omega) (by omega) (by omega)
    · exact (x23 _ _ _ (by omega) (by omega) (by omega) (by omega)).trans (x12 _ _ _ (by omega) (by omega) (by omega) (by omega))
    · exact (x12 _ _ _ (by omega) (by omega) (by omega) (by omega)).trans (x23 _ _ _ (by omega) (by omega) (by omega) (by omega))
    · exact ((x12 _ _ _ (by omega) (by omega) (by omega) (by omega)).trans (x23 _ _ _ (by omega) (by omega) (by omega) (by omega))).trans (x12 _ _ _ (by omega) (by omega) (by omega) (by omega))
  rcases (show q = 0 ∨ q = 1 ∨ q = 2 ∨ q = 3 by omega) with rfl | rfl | rfl | rfl
  · rw [srt 1 2 3 (by omega) (by omega) (by omega) (by omega) (by omega) (by omega)]
    exact ⟨fw_3m_0 h hl, fw_2m_0 h hl⟩
  · rw [srt 0 2 3 (by omega) (by omega) (by omega) (by omega) (by omega) (by omega)]
    exact ⟨fw_3m_1 h hl, fw_2m_1 h hl⟩
  · rw [srt 0 1 3 (by omega) (by omega) (by omega) (by omega) (by omega) (by omega)]
    exact ⟨fw_3m_2 h hl, fw_2m_2 h hl⟩
  · rw [srt 0 1 2 (by omega) (by omega) (by omega) (by omega) (by omega) (by omega)]
    exact ⟨fw_3m_3 h hl, fw_2m_3 h hl⟩
theorem pq_rs {p q : Nat} (hp : p < 4) (hq : q < 4) (h : p ≠ q) : ∃ r s : Nat, r < 4 ∧ s < 4 ∧ p ≠ r ∧ p ≠ s ∧ q ≠ r ∧ q ≠ s ∧ r ≠ s := by
  rcases (show p = 0 ∨ p = 1 ∨ p = 2 ∨ p = 3 by omega) with rfl | rfl | rfl | rfl <;> rcases (show q = 0 ∨ q = 1 ∨ q = 2 ∨ q = 3 by omega) with rfl | rfl | rfl | rfl
  all_goals first
    | exact absurd rfl h
    | exact ⟨0, 1, by decide, by decide, by decide, by decide, by decide, by decide, by decide⟩
    | exact ⟨0, 2, by decide, by decide, by decide, by decide, by decide, by decide, by decide⟩
    | exact ⟨0, 3, by decide, by decide, by decide, by decide, by decide, by decide, by decide⟩
    | exact ⟨1, 2, by decide, by decide, by decide, by decide, by decide, by decide, by decide⟩
    | exact ⟨1, 3, by decide, by decide, by decide, by decide, by decide, by decide, by decide⟩
    | exact ⟨2, 3, by decide, by decide, by decide, by decide, by decide, by decide, by decide⟩
theorem f3_jn (h : fw_ok D T) {p q : Nat} (hp : p < 4) (hq : q < 4) (hpq : p ≠ q) : fw_f3 D T ≤ (at_co D 24 (T p) (T q) : Int) + fw_f3 D (fw_t D T p q) := by
  obtain ⟨r, s, hr, hs, n1, n2, n3, n4, n5⟩ := pq_rs hp hq hpq
  have hk := fw_ok_t h hp hq hpq
  have e3 := (f3_3 hk hp hq hr hs hpq n1 n2 n3 n4 n5 (by rw [fw_t_q]; rfl)).1
  rw [fw_t_p hpq, fw_t_o (fun z => n1 z.symm) (fun z => n3 z.symm), fw_t_o (fun z => n2 z.symm) (fun z => n4 z.symm)] at e3
  cases l1 : fw_lf (T p) with
  | true =>
    have zz := fw_zs (D := D) l1 (T q)
    have e4 := (f3_3 h hq hp hr hs (fun z => hpq z.symm) n3 n4 n1 n2 n5 l1).1
    rw [zz.2.2.1] at e3
    rw [e3, e4, zz.1]
    omega
  | false =>
    cases l2 : fw_lf (T q) with
    | true =>
      have zz := fw_zs (D := D) l2 (T p)
      have e4 := (f3_3 h hp hq hr hs hpq n1 n2 n3 n4 n5 l2).1
      rw [zz.2.2.2] at e3
      rw [e3, e4, zz.2.1]
      omega
    | false =>
      rcases Nat.lt_or_ge p q with g | g
      · have l := f3_le (D := D) g hq l1 l2
        have e2 := (f3_3 hk hp hq hr hs hpq n1 n2 n3 n4 n5 (by rw [fw_t_q]; rfl)).2
        rw [fw_t_p hpq, fw_t_o (fun z => n1 z.symm) (fun z => n3 z.symm), fw_t_o (fun z => n2 z.symm) (fun z => n4 z.symm)] at e2
        rw [e3, ← e2]
        exact l
      · have g' : q < p := by omega
        have l := f3_le (D := D) g' hp l2 l1
        have hk' := fw_ok_t h hq hp (fun z => hpq z.symm)
        have e2 := (f3_3 hk' hq hp hr hs (fun z => hpq z.symm) n3 n4 n1 n2 n5 (by rw [fw_t_q]; rfl)).2
        rw [fw_t_p (fun z => hpq z.symm), fw_t_o (fun z => n3 z.symm) (fun z => n1 z.symm), fw_t_o (fun z => n4 z.symm) (fun z => n2 z.symm)] at e2
        have sy := fw_sy h hp hq hpq
        rw [e3, sy.1, sy.2, ← e2]
        exact l
theorem f3_two (h : fw_ok D T) (h2 : fw_lf (T 2) = true) (h3 : fw_lf (T 3) = true) {p q : Nat} (hp : p < 2) (hq : q < 2) (hpq : p ≠ q) : fw_f3 D T = at_co D 24 (T p) (T q) := by
  have e := fw_3c T 0 1 h (by decide) (by decide) (fun r hr a b => by
    rcases (show r = 2 ∨ r = 3 by omega) with rfl | rfl
    · exact h2
    · exact h3)
  rcases (show (p = 0 ∧ q = 1) ∨ (p = 1 ∧ q = 0) by omega) with ⟨rfl, rfl⟩ | ⟨rfl, rfl⟩
  · exact e
  · rw [e, (fw_sy h (p := 1) (q := 0) (by decide) (by decide) (by decide)).2]
theorem fw_ge {Y : Nat → Int → Int} {T : Nat → at_T} (hb : av_b Y) (ht : av_tr Y T) {r : Nat} (hr : r < 4) (hnr : Y 0 7 ≤ r) : fw_lf (T r) = true := by
  cases hT : T r with
  | leaf u => rfl
  | branch m a b =>
    have hx : 0 < at_ct (T r) (m : Int) := by
      rw [hT]
      simp only [at_ct, if_true]
      omega
    have h2 := ht.2.2 r hr m hx
    have hi := av_in ht hr hx
    rcases hb.2.2.2.1 m hi.1 hi.2 with w | w
    · have := w.1
      omega
    · omega
end PJ
