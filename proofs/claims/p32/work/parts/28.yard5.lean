/-! ===== specs: a yard's counts that ask its order ===== -/
section YARD5
variable {E : am_E} {M : am_M} {b : Nat} {p l : Int}
abbrev am_of (Y : Nat → Int → Int) (p l : Int) : Prop := Y 2 l = p ∧ Y 3 l ≠ -1 ∧ am_ah Y l (Y 3 l)
abbrev am_un (Y : Nat → Int → Int) (w l : Int) : Prop := Y 2 l ≠ -1 ∧ am_ul (am_gt (Y 3) 24) w 24 (am_gt (Y 3) 24 l) = w
theorem am_s36l (hw : am_WY E b) : ∀ (m i : Nat), i + m = 24 → am_den 36 (4, [some (am_A (b, 0)), some (am_I p), some (am_I (am_sm (fun l => am_b (am_of (M b) p l)) i)), some (am_I i)], [], E, M) = some (.inl (some (am_I (am_sm (fun l => am_b (am_of (M b) p l)) 24))), E, M) := by
  intro m
  induction m with
  | zero =>
    intro i h
    have e : i = 24 := by omega
    subst e
    rw [am_B36_4, if_pos (by omega), am_B36_53]
  | succ m ih =>
    intro i h
    have hb := am_sm_le (f := fun l => am_b (am_of (M b) p l)) (k := 1) (n := i) (fun _ _ _ => am_b_le)
    have hg : (0 : Int) ≤ (i : Int) ∧ (i : Int) < ((24 : Nat) : Int) := by omega
    have h2 := ih (i + 1) (by omega)
    have w1 : am_w ((i : Int) + 1) = i + 1 := am_wi (by omega) (by omega)
    have w2 : am_w (am_sm (fun l => am_b (am_of (M b) p l)) i + 1) = am_sm (fun l => am_b (am_of (M b) p l)) i + 1 := am_wi (by omega) (by omega)
    simp only [am_sm, Int.natCast_add, Int.cast_ofNat_Int] at h2
    rw [am_B36_4, if_neg (by omega)]
    by_cases hp : am_of (M b) p i
    · rw [show am_b (am_of (M b) p i) = 1 by rw [am_b_1]; exact hp] at h2
      obtain ⟨q1, q2, q3⟩ := hp
      rw [am_B36_10 hw hg, if_neg (fun q => q q1), am_B36_20 hw hg, if_neg q2, am_B36_30 hw hg, am_s43 hw, am_bd_v]
      simp only [Nat.reduceAdd]
      rw [am_B36_41, if_neg (by rw [am_b_0]; exact fun q => q q3), am_B36_44, am_B36_47, w1, w2]
      exact h2
    · rw [show am_b (am_of (M b) p i) = 0 by rw [am_b_0]; exact hp, Int.add_zero] at h2
      rw [am_B36_10 hw hg]
      by_cases q1 : M b 2 i = p
      · rw [if_neg (fun q => q q1), am_B36_20 hw hg]
        by_cases q2 : M b 3 i = -1
        · rw [if_pos q2, am_B36_47, w1]
          exact h2
        · rw [if_neg q2, am_B36_30 hw hg, am_s43 hw, am_bd_v]
          simp only [Nat.reduceAdd]
          rw [am_B36_41, if_pos (by rw [am_b_0]; exact fun q => hp ⟨q1, q2, q⟩), am_B36_47, w1]
          exact h2
      · rw [if_pos q1, am_B36_47, w1]
        exact h2
theorem am_s36 (hw : am_WY E b) {u v : Option am_V} : am_den 36 (0, [some (am_A (b, 0)), some (am_I p), u, v], [], E, M) = some (.inl (some (am_I (am_sm (fun l => am_b (am_of (M b) p l)) 24))), E, M) := by
  rw [am_B36_0]
  exact am_s36l hw 24 0 rfl
theorem am_s41l (hw : am_WY E b) : ∀ (m i : Nat), i + m = 24 → am_den 41 (4, [some (am_A (b, 0)), some (am_I p), some (am_I (am_sm (fun l => am_b (am_un (M b) p l)) i)), some (am_I i)], [], E, M) = some (.inl (some (am_I (am_sm (fun l => am_b (am_un (M b) p l)) 24))), E, M) := by
  intro m
  induction m with
  | zero =>
    intro i h
    have e : i = 24 := by omega
    subst e
    rw [am_B41_4, if_pos (by omega), am_B41_38]
  | succ m ih =>
    intro i h
    have hb := am_sm_le (f := fun l => am_b (am_un (M b) p l)) (k := 1) (n := i) (fun _ _ _ => am_b_le)
    have hg : (0 : Int) ≤ (i : Int) ∧ (i : Int) < ((24 : Nat) : Int) := by omega
    have h2 := ih (i + 1) (by omega)
    have w1 : am_w ((i : Int) + 1) = i + 1 := am_wi (by omega) (by omega)
    have w2 : am_w (am_sm (fun l => am_b (am_un (M b) p l)) i + 1) = am_sm (fun l => am_b (am_un (M b) p l)) i + 1 := am_wi (by omega) (by omega)
    simp only [am_sm, Int.natCast_add, Int.cast_ofNat_Int] at h2
    rw [am_B41_4, if_neg (by omega)]
    by_cases hp : am_un (M b) p i
    · rw [show am_b (am_un (M b) p i) = 1 by rw [am_b_1]; exact hp] at h2
      obtain ⟨q1, q3⟩ := hp
      rw [am_B41_10 hw hg, if_neg q1, am_B41_20 hw, am_s42 hw, am_bd_v]
      simp only [Nat.reduceAdd]
      rw [am_B41_26, if_neg (by rw [am_b_0]; exact fun q => q q3), am_B41_29, am_B41_32, w1, w2]
      exact h2
    · rw [show am_b (am_un (M b) p i) = 0 by rw [am_b_0]; exact hp, Int.add_zero] at h2
      rw [am_B41_10 hw hg]
      by_cases q1 : M b 2 i = -1
      · rw [if_pos q1, am_B41_32, w1]
        exact h2
      · rw [if_neg q1, am_B41_20 hw, am_s42 hw, am_bd_v]
        simp only [Nat.reduceAdd]
        rw [am_B41_26, if_pos (by rw [am_b_0]; exact fun q => hp ⟨q1, q⟩), am_B41_32, w1]
        exact h2
theorem am_s41 (hw : am_WY E b) {u v : Option am_V} : am_den 41 (0, [some (am_A (b, 0)), some (am_I p), u, v], [], E, M) = some (.inl (some (am_I (am_sm (fun l => am_b (am_un (M b) p l)) 24))), E, M) := by
  rw [am_B41_0]
  exact am_s41l hw 24 0 rfl
theorem am_s39 (hw : am_WY E b) : am_den 39 (0, [some (am_A (b, 0)), some (am_I p)], [], E, M) = some (.inl (some (am_I (if am_gt (M b 6) 4 p = -1 then 1 else if 0 < am_sm (fun l => am_b (am_of (M b) p l)) 24 then 2 else 0))), E, M) := by
  simp only [am_B39_0 hw, am_s28 hw, am_bd_v, Nat.reduceAdd, am_B39_5, am_B39_9, am_B39_11 hw, am_s36 hw, am_B39_16, am_B39_19, am_B39_23, am_B39_24]
  repeat' split
  all_goals first | rfl | (exfalso; omega)
end YARD5
