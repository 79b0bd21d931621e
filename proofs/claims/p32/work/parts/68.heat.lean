/-! ===== heat and smoke stay small ===== -/
def av_H (Y : Nat → Int → Int) : Prop := (0 ≤ Y 0 12 ∧ Y 0 12 ≤ 100 * Y 0 9) ∧ (0 ≤ Y 0 13 ∧ Y 0 13 ≤ Y 0 9)
theorem av_H9 {Y : Nat → Int → Int} (h : av_Y Y) : 0 ≤ Y 0 9 ∧ Y 0 9 ≤ 24 := by
  obtain ⟨n1, n2, n3⟩ := h.2.1
  have h2 := av_lv_le (Y := Y)
  have h3 := h.1.2.1
  omega
theorem av_H_cg {Y Z : Nat → Int → Int} (h : av_H Y) (a : Z 0 12 = Y 0 12) (b : Z 0 13 = Y 0 13) (c : Z 0 9 = Y 0 9) : av_H Z := by
  unfold av_H
  rw [a, b, c]
  exact h
theorem av_Hburn {Y : Nat → Int → Int} {p : Int} (hY : av_Y Y) (h : av_H Y) (ht : am_gt (Y 6) 4 p ≠ -1) : av_H (ay_burn Y p) ∧ Y 0 12 ≤ ay_burn Y p 0 12 := by
  have h9 := av_H9 hY
  obtain ⟨t1, t2, t3, t4⟩ := av_top_in hY ht
  have hd := hY.1.2.2.1 (Y 6 p) t2.1 t2.2
  have ed : ay_td Y p = Y 1 (Y 6 p) := by
    unfold ay_td
    rw [at_gt (f := Y 6) (by omega), at_gt (by omega)]
  obtain ⟨⟨a, b⟩, c, e⟩ := h
  have g : ∀ j, j ≠ 11 → ay_burn Y p 0 j = ay_bn0 Y p 0 j := fun j hj => by
    unfold ay_burn
    rw [ay_rmv_fr (ay_out0 hj) (by decide) (by decide)]
  have w9 : am_w (Y 0 9 + 1) = Y 0 9 + 1 := am_wi (by omega) (by omega)
  unfold av_H
  rw [g 12 (by decide), g 13 (by decide), g 9 (by decide)]
  unfold ay_bn0 ay_bn2 ay_bn1
  rw [w9, ed, ay_uy_ne (show (0 : Nat) ≠ 0 ∨ (16 : Int) ≠ 9 from Or.inr (by decide)), ay_uy_ne (show (0 : Nat) ≠ 0 ∨ (12 : Int) ≠ 9 from Or.inr (by decide)), ay_uy_ne (show (0 : Nat) ≠ 0 ∨ (13 : Int) ≠ 9 from Or.inr (by decide))]
  have w1 : am_w (100 - Y 1 (Y 6 p)) = 100 - Y 1 (Y 6 p) := am_wi (by omega) (by omega)
  by_cases q : Y 1 (Y 6 p) ≤ Y 0 16
  · have x1 : ∀ v, am_uy (am_uy Y 0 9 (Y 0 9 + 1)) 0 12 v 0 12 = v := fun v => ay_uy_eq
    have x2 : ∀ v, am_uy (am_uy Y 0 9 (Y 0 9 + 1)) 0 12 v 0 13 = Y 0 13 := fun v => by rw [ay_uy_ne (Or.inr (by decide)), ay_uy_ne (Or.inr (by decide))]
    have x3 : ∀ v, am_uy (am_uy Y 0 9 (Y 0 9 + 1)) 0 12 v 0 9 = Y 0 9 + 1 := fun v => by rw [ay_uy_ne (Or.inr (by decide)), ay_uy_eq]
    rw [if_pos q, w1, am_wi (z := Y 0 12 + (100 - Y 1 (Y 6 p))) (by omega) (by omega), x1, x2, x3]
    omega
  · have x1 : ∀ v, am_uy (am_uy Y 0 9 (Y 0 9 + 1)) 0 13 v 0 12 = Y 0 12 := fun v => by rw [ay_uy_ne (Or.inr (by decide)), ay_uy_ne (Or.inr (by decide))]
    have x2 : ∀ v, am_uy (am_uy Y 0 9 (Y 0 9 + 1)) 0 13 v 0 13 = v := fun v => ay_uy_eq
    have x3 : ∀ v, am_uy (am_uy Y 0 9 (Y 0 9 + 1)) 0 13 v 0 9 = Y 0 9 + 1 := fun v => by rw [ay_uy_ne (Or.inr (by decide)), ay_uy_eq]
    rw [if_neg q, am_wi (z := Y 0 13 + 1) (by omega) (by omega), x1, x2, x3]
    omega
theorem av_Hnt {Y : Nat → Int → Int} (hY : av_Y Y) (h : av_H Y) : av_H (ay_nt1 Y) ∧ Y 0 12 ≤ ay_nt1 Y 0 12 := by
  unfold ay_nt1
  by_cases q : ay_dr Y (Y 0 7).toNat = -1
  · rw [if_pos q]
    refine ⟨av_H_cg h (ay_uy_ne (Or.inr (by decide))) (ay_uy_ne (Or.inr (by decide))) (ay_uy_ne (Or.inr (by decide))), ?_⟩
    rw [ay_uy_ne (Or.inr (by decide))]
    exact Int.le_refl _
  · rw [if_neg q]
    have hd : ∀ n, ay_dr Y n ≠ -1 → ay_why Y (ay_dr Y n) = 0 := by
      intro n
      induction n with
      | zero => intro z; exact absurd rfl z
      | succ n ih =>
        intro z
        rw [ay_dr] at z ⊢
        by_cases w : ay_why Y n = 0 ∧ (ay_dr Y n = -1 ∨ ay_td Y n < ay_td Y (ay_dr Y n))
        · rw [if_pos w]
          exact w.1
        · rw [if_neg w] at z ⊢
          exact ih z
    exact av_Hburn hY h (av_why0 (hd _ q)).1
theorem av_Hnts : ∀ (n : Nat) {Y : Nat → Int → Int}, av_Y Y → av_H Y → av_H (ay_nts n Y) ∧ Y 0 12 ≤ ay_nts n Y 0 12 := by
  intro n
  induction n with
  | zero => intro Y _ h; exact ⟨h, Int.le_refl _⟩
  | succ n ih =>
    intro Y hY h
    have h1 := av_Hnt hY h
    have h2 := ih (av_nt hY).1 h1.1
    exact ⟨h2.1, Int.le_trans h1.2 h2.2⟩
theorem av_Hob {Y : Nat → Int → Int} {k a c : Int} (hY : av_Y Y) (h : av_H Y) : av_H (ay_ob Y k a c) := by
  unfold ay_ob
  by_cases q : ay_can Y k a c = 0
  · rw [if_pos q]
    exact h
  · rw [if_neg q]
    rcases av_can q with w | w | w | w | w | w | w | w | w | w
    · rw [w.1]
      exact av_H_cg h (show am_uy Y 0 7 (Y 0 7 + 1) 0 12 = Y 0 12 from ay_uy_ne (Or.inr (by decide))) (show am_uy Y 0 7 (Y 0 7 + 1) 0 13 = Y 0 13 from ay_uy_ne (Or.inr (by decide))) (show am_uy Y 0 7 (Y 0 7 + 1) 0 9 = Y 0 9 from ay_uy_ne (Or.inr (by decide)))
    · rw [w.1]
      exact av_H_cg h (show am_lg Y a c 0 12 = Y 0 12 from ay_lg_0 (by decide) (by decide)) (show am_lg Y a c 0 13 = Y 0 13 from ay_lg_0 (by decide) (by decide)) (show am_lg Y a c 0 9 = Y 0 9 from ay_lg_0 (by decide) (by decide))
    · rw [w.1]
      exact (av_Hburn hY h (av_why0 w.2.2).1).1
    · rw [w.1]
      exact av_H_cg h (show ay_take Y a 0 12 = Y 0 12 from ay_take_0 (by decide) (by decide)) (show ay_take Y a 0 13 = Y 0 13 from ay_take_0 (by decide) (by decide)) (show ay_take Y a 0 9 = Y 0 9 from ay_take_0 (by decide) (by decide))
    · rw [w.1]
      exact av_H_cg h (show ay_jp Y a c 0 12 = Y 0 12 from ay_jp_0 (by decide)) (show ay_jp Y a c 0 13 = Y 0 13 from ay_jp_0 (by decide)) (show ay_jp Y a c 0 9 = Y 0 9 from ay_jp_0 (by decide))
    · rw [w.1]
      exact av_H_cg h (show am_pt Y 7 4 a (if c = 1 then 1 else 0) 0 12 = Y 0 12 from ay_pt_ne (Or.inl (by decide))) (show am_pt Y 7 4 a (if c = 1 then 1 else 0) 0 13 = Y 0 13 from ay_pt_ne (Or.inl (by decide))) (show am_pt Y 7 4 a (if c = 1 then 1 else 0) 0 9 = Y 0 9 from ay_pt_ne (Or.inl (by decide)))
    · rw [w.1]
      exact av_H_cg h (show ay_mend Y a 0 12 = Y 0 12 from ay_mend_0 (by decide)) (show ay_mend Y a 0 13 = Y 0 13 from ay_mend_0 (by decide)) (show ay_mend Y a 0 9 = Y 0 9 from ay_mend_0 (by decide))
    · rw [w.1]
      exact av_H_cg h (show ay_wind Y a 0 12 = Y 0 12 from ay_rg_ne (by decide)) (show ay_wind Y a 0 13 = Y 0 13 from ay_rg_ne (by decide)) (show ay_wind Y a 0 9 = Y 0 9 from ay_rg_ne (by decide))
    · rw [w.1]
      exact av_H_cg h (show ay_rain Y a 0 12 = Y 0 12 from ay_rg_ne (by decide)) (show ay_rain Y a 0 13 = Y 0 13 from ay_rg_ne (by decide)) (show ay_rain Y a 0 9 = Y 0 9 from ay_rg_ne (by decide))
    · rw [w.1]
      exact (av_Hnts a.toNat hY h).1
/-- all that holds of a yard, its lifts at most B -/
def av_G (B : Int) (Y : Nat → Int → Int) : Prop := av_Y Y ∧ av_H Y ∧ 0 ≤ Y 0 11 ∧ Y 0 11 ≤ B
theorem av_Gob {B : Int} {Y : Nat → Int → Int} {k a c : Int} (hB : B < 2147000000) (h : av_G B Y) : av_G (B + 576) (ay_ob Y k a c) ∧ Y 0 11 ≤ ay_ob Y k a c 0 11 := by
  obtain ⟨h1, h2, h3, h4⟩ := h
  have o := av_ob (k := k) (a := a) (c := c) h1
  obtain ⟨j, hj, ej⟩ := o.2
  rw [at_lf_eq _ _ h3 (by omega)] at ej
  exact ⟨⟨o.1, av_Hob h1 h2, by omega, by omega⟩, by omega⟩
theorem av_Gle {B C : Int} {Y : Nat → Int → Int} (h : av_G B Y) (hc : B ≤ C) : av_G C Y := ⟨h.1, h.2.1, h.2.2.1, by have := h.2.2.2; omega⟩
theorem av_up0 {Y Z : Nat → Int → Int} {n : Nat} (h : av_li Y Z n) (h0 : 0 ≤ Y 0 11) (hB : Y 0 11 + n < 2147483648) : 0 ≤ am_w (Z 0 11 - Y 0 11) := by
  obtain ⟨k, hk, ek⟩ := h
  rw [at_lf_eq _ _ h0 (by omega)] at ek
  rw [am_wi (by omega) (by omega)]
  omega
