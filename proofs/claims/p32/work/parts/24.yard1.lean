/-! ===== specs: a yard's questions ===== -/
def am_b (p : Prop) [Decidable p] : Int := if p then 1 else 0
theorem am_b_0 {p : Prop} [Decidable p] : (am_b p = 0) = ¬p := by unfold am_b; by_cases h : p <;> simp [h]
theorem am_b_1 {p : Prop} [Decidable p] : (am_b p = 1) = p := by unfold am_b; by_cases h : p <;> simp [h]
theorem am_b_z {p : Prop} [Decidable p] : am_b p = 0 ∨ am_b p = 1 := by unfold am_b; by_cases h : p <;> simp [h]
def am_gt (f : Int → Int) (n : Nat) (i : Int) : Int := if 0 ≤ i ∧ i < (n : Int) then f i else -1
theorem am_s112g {E : am_E} {M : am_M} {r : am_R} {i : Int} {n : Nat} (hk : am_kd E r = some (6, n)) : am_den 112 (0, [some (am_A r), some (am_I i)], [], E, M) = some (.inl (some (am_I (am_gt (M r.1 r.2) n i))), E, M) := am_s112 hk
section YARD1
variable {E : am_E} {M : am_M} {b : Nat} {p q l : Int}
theorem am_s23 (hw : am_WY E b) : am_den 23 (0, [some (am_A (b, 0)), some (am_I p)], [], E, M) = some (.inl (some (am_I (am_b (0 ≤ p ∧ p < M b 0 7)))), E, M) := by
  simp only [am_B23_0, am_B23_4 hw, am_B23_12, am_B23_16, am_B23_17 (Or.inl rfl), am_B23_17 (Or.inr rfl), am_b]
  repeat' split
  all_goals first | rfl | (exfalso; omega)
theorem am_s24 (hw : am_WY E b) : am_den 24 (0, [some (am_A (b, 0)), some (am_I p), some (am_I q)], [], E, M) = some (.inl (some (am_I (am_b ((0 ≤ p ∧ p < M b 0 7) ∧ (0 ≤ q ∧ q < M b 0 7) ∧ p ≠ q)))), E, M) := by
  simp only [am_B24_0 hw, am_s23 hw, am_bd_v, Nat.reduceAdd, am_B24_5, am_b_0, am_B24_8 hw, am_B24_13, am_B24_16, am_B24_21, am_B24_25, am_B24_26 (Or.inl rfl), am_B24_26 (Or.inr rfl)]
  unfold am_b
  repeat' split
  all_goals first | rfl | (exfalso; omega)
theorem am_s25 (hw : am_WY E b) : am_den 25 (0, [some (am_A (b, 0)), some (am_I l)], [], E, M) = some (.inl (some (am_I (am_b (am_gt (M b 2) 24 l ≠ -1)))), E, M) := by
  simp only [am_B25_0 hw, am_s112g (hw.2.2.1 2 (by decide) (by decide)), am_bd_v, Nat.reduceAdd, am_B25_8, am_B25_12, am_B25_16, am_B25_17 (Or.inl rfl), am_B25_17 (Or.inr rfl)]
  unfold am_b
  repeat' split
  all_goals first | rfl | (exfalso; omega)
theorem am_s26 (hw : am_WY E b) : am_den 26 (0, [some (am_A (b, 0))], [], E, M) = some (.inl (some (am_I (am_b (M b 0 7 < 4)))), E, M) := by
  simp only [am_B26_0 hw, am_B26_8, am_B26_12, am_B26_13 (Or.inl rfl), am_B26_13 (Or.inr rfl)]
  unfold am_b
  repeat' split
  all_goals first | rfl | (exfalso; omega)
theorem am_s27 (hw : am_WY E b) : am_den 27 (0, [some (am_A (b, 0))], [], E, M) = some (.inl (some (am_I (am_b (M b 0 8 < 24)))), E, M) := by
  simp only [am_B27_0 hw, am_B27_9, am_B27_13, am_B27_14 (Or.inl rfl), am_B27_14 (Or.inr rfl)]
  unfold am_b
  repeat' split
  all_goals first | rfl | (exfalso; omega)
theorem am_s28 (hw : am_WY E b) : am_den 28 (0, [some (am_A (b, 0)), some (am_I p)], [], E, M) = some (.inl (some (am_I (am_gt (M b 6) 4 p))), E, M) := by
  simp only [am_B28_0 hw, am_s112g hw.2.2.2.1, am_bd_v, Nat.reduceAdd, am_B28_8]
theorem am_s29 (hw : am_WY E b) : am_den 29 (0, [some (am_A (b, 0)), some (am_I p), some (am_I l)], [], E, M) = some (.inl (some (am_I (am_b ((0 ≤ p ∧ p < M b 0 7) ∧ am_gt (M b 2) 24 l ≠ -1 ∧ am_gt (M b 6) 4 p = l)))), E, M) := by
  simp only [am_B29_0 hw, am_s23 hw, am_bd_v, Nat.reduceAdd, am_B29_5, am_b_0, am_B29_8 hw, am_s25 hw, am_B29_13, am_B29_16 hw, am_s28 hw, am_B29_21, am_B29_25, am_B29_29, am_B29_30 (Or.inl rfl), am_B29_30 (Or.inr rfl)]
  unfold am_b
  repeat' split
  all_goals first | rfl | (exfalso; omega)
theorem am_s30 (hw : am_WY E b) : am_den 30 (0, [some (am_A (b, 0)), some (am_I p)], [], E, M) = some (.inl (some (am_I (am_gt (M b 1) 24 (am_gt (M b 6) 4 p)))), E, M) := by
  simp only [am_B30_0 hw, am_s28 hw, am_bd_v, Nat.reduceAdd, am_B30_9, am_s112g (hw.2.2.1 1 (by decide) (by decide)), am_B30_12]
theorem am_s31 (hw : am_WY E b) : am_den 31 (0, [some (am_A (b, 0)), some (am_I p)], [], E, M) = some (.inl (some (am_I (am_b (am_gt (M b 7) 4 p = 1)))), E, M) := by
  simp only [am_B31_0 hw, am_s112g hw.2.2.2.2, am_bd_v, Nat.reduceAdd, am_B31_8, am_B31_12, am_B31_16, am_B31_17 (Or.inl rfl), am_B31_17 (Or.inr rfl)]
  unfold am_b
  repeat' split
  all_goals first | rfl | (exfalso; omega)
end YARD1
