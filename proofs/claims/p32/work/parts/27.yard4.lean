/-! ===== specs: a yard's ways up, the order of logs ===== -/
abbrev am_ah (Y : Nat → Int → Int) (a c : Int) : Prop := (0 ≤ a ∧ a < 24 ∧ 0 ≤ c ∧ c < 24) ∧ (Y 1 a < Y 1 c ∨ (Y 1 a = Y 1 c ∧ a < c))
def am_dp (f : Int → Int) : Nat → Int → Int
  | 0, _ => 0
  | n + 1, u => if u = -1 then 0 else 1 + am_dp f n (f u)
def am_ul (f : Int → Int) (w : Int) : Nat → Int → Int
  | 0, u => u
  | n + 1, u => if u = -1 ∨ u = w then u else am_ul f w n (f u)
section YARD4
variable {E : am_E} {M : am_M} {b : Nat} {a c l w : Int}
theorem am_s43 (hw : am_WY E b) : am_den 43 (0, [some (am_A (b, 0)), some (am_I a), some (am_I c)], [], E, M) = some (.inl (some (am_I (am_b (am_ah (M b) a c)))), E, M) := by
  by_cases h : 0 ≤ a ∧ a < 24 ∧ 0 ≤ c ∧ c < 24
  · rw [am_B43_0, if_neg (by omega), am_B43_4, if_neg (by omega), am_B43_10, if_neg (by omega), am_B43_14, if_pos (by omega), am_B43_22 hw (by omega) (by omega), am_B43_37 hw (by omega) (by omega)]
    simp only [am_B43_52, am_B43_57, am_B43_61, am_B43_62 (Or.inl rfl), am_B43_62 (Or.inr rfl)]
    unfold am_b am_ah
    repeat' split
    all_goals first | rfl | (exfalso; omega)
  · have e : am_b (am_ah (M b) a c) = 0 := by
      rw [am_b_0]
      exact fun q => h q.1
    rw [e]
    simp only [am_B43_0, am_B43_4, am_B43_10, am_B43_14, am_B43_20]
    repeat' split
    all_goals first | rfl | (exfalso; omega)
theorem am_s40l (hw : am_WY E b) : ∀ (m i : Nat) (z u : Int), i + m = 24 → 0 ≤ z → z ≤ i → am_den 40 (14, [some (am_A (b, 0)), some (am_I l), some (am_I z), some (am_I u), some (am_I i)], [], E, M) = some (.inl (some (am_I (z + am_dp (am_gt (M b 3) 24) m u))), E, M) := by
  intro m
  induction m with
  | zero =>
    intro i z u h h0 h1
    rw [am_B40_14, if_pos (by omega), am_B40_44, am_dp, Int.add_zero]
  | succ m ih =>
    intro i z u h h0 h1
    rw [am_B40_14, if_neg (by omega), am_B40_21, am_dp]
    by_cases hu : u = -1
    · rw [if_pos hu, if_pos hu, am_B40_44, Int.add_zero]
    · rw [if_neg hu, if_neg hu, am_B40_26 hw, am_s112g (hw.2.2.1 3 (by decide) (by decide)), am_bd_v]
      simp only [Nat.reduceAdd]
      rw [am_B40_37, am_wi (by omega) (by omega), am_wi (by omega) (by omega)]
      have h2 := ih (i + 1) (z + 1) (am_gt (M b 3) 24 u) (by omega) (by omega) (by omega)
      simp only [Int.natCast_add, Int.cast_ofNat_Int] at h2
      rw [h2, Int.add_assoc]
theorem am_s40 (hw : am_WY E b) {u v x : Option am_V} : am_den 40 (0, [some (am_A (b, 0)), some (am_I l), u, v, x], [], E, M) = some (.inl (some (am_I (am_dp (am_gt (M b 3) 24) 24 (am_gt (M b 3) 24 l)))), E, M) := by
  rw [am_B40_0 hw, am_s112g (hw.2.2.1 3 (by decide) (by decide)), am_bd_v]
  simp only [Nat.reduceAdd]
  rw [am_B40_10]
  have h := am_s40l (l := l) (M := M) hw 24 0 0 (am_gt (M b 3) 24 l) rfl (by omega) (by omega)
  simp only [Int.zero_add] at h
  exact h
theorem am_s42l (hw : am_WY E b) : ∀ (m i : Nat) (u : Int), i + m = 24 → am_den 42 (12, [some (am_A (b, 0)), some (am_I l), some (am_I w), some (am_I u), some (am_I i)], [], E, M) = some (.inl (some (am_I (am_b (am_ul (am_gt (M b 3) 24) w m u = w)))), E, M) := by
  have fin : ∀ (u i : Int), am_den 42 (44, [some (am_A (b, 0)), some (am_I l), some (am_I w), some (am_I u), some (am_I i)], [], E, M) = some (.inl (some (am_I (am_b (u = w)))), E, M) := by
    intro u i
    rw [am_B42_44]
    by_cases hu : u = w
    · rw [if_neg (by simp [hu]), am_B42_49, am_B42_54 (Or.inr rfl)]; simp [am_b, hu]
    · rw [if_pos hu, am_B42_53, am_B42_54 (Or.inl rfl)]; simp [am_b, hu]
  intro m
  induction m with
  | zero =>
    intro i u h
    rw [am_B42_12, if_pos (by omega), fin, am_ul]
  | succ m ih =>
    intro i u h
    rw [am_B42_12, if_neg (by omega), am_B42_19, am_ul]
    by_cases hu : u = -1
    · rw [if_pos hu, if_pos (Or.inl hu), fin]
    · rw [if_neg hu, am_B42_24]
      by_cases hv : u = w
      · rw [if_pos hv, if_pos (Or.inr hv), fin]
      · rw [if_neg hv, if_neg (by omega), am_B42_29 hw, am_s112g (hw.2.2.1 3 (by decide) (by decide)), am_bd_v]
        simp only [Nat.reduceAdd]
        rw [am_B42_37, am_wi (by omega) (by omega)]
        have h2 := ih (i + 1) (am_gt (M b 3) 24 u) (by omega)
        simp only [Int.natCast_add, Int.cast_ofNat_Int] at h2
        exact h2
theorem am_s42 (hw : am_WY E b) {u v : Option am_V} : am_den 42 (0, [some (am_A (b, 0)), some (am_I l), some (am_I w), u, v], [], E, M) = some (.inl (some (am_I (am_b (am_ul (am_gt (M b 3) 24) w 24 (am_gt (M b 3) 24 l) = w)))), E, M) := by
  rw [am_B42_0 hw, am_s112g (hw.2.2.1 3 (by decide) (by decide)), am_bd_v]
  simp only [Nat.reduceAdd]
  rw [am_B42_8]
  exact am_s42l hw 24 0 _ rfl
end YARD4
