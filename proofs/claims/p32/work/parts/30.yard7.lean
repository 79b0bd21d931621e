/-! ===== specs: a yard's ranks by all ===== -/
def am_fd (P : Int → Prop) [DecidablePred P] : Nat → Int → Int
  | 0, _ => -1
  | m + 1, i => if P i then i else am_fd P m (i + 1)
section YARD7
variable {E : am_E} {M : am_M} {b : Nat} {p l w : Int}
abbrev am_ba (Y : Nat → Int → Int) (l p x : Int) : Prop := Y 2 x = p ∧ am_ah Y x l
theorem am_s47l (hw : am_WY E b) : ∀ (m i : Nat), i + m = 24 → am_den 47 (5, [some (am_A (b, 0)), some (am_I l), some (am_I p), some (am_I (am_sm (fun x => am_b (am_ba (M b) l p x)) i)), some (am_I i)], [], E, M) = some (.inl (some (am_I (am_sm (fun x => am_b (am_ba (M b) l p x)) 24))), E, M) := by
  intro m
  induction m with
  | zero =>
    intro i h
    have e : i = 24 := by omega
    subst e
    rw [am_B47_5, if_pos (by omega), am_B47_42]
  | succ m ih =>
    intro i h
    have hb := am_sm_le (f := fun x => am_b (am_ba (M b) l p x)) (k := 1) (n := i) (fun _ _ _ => am_b_le)
    have hg : (0 : Int) ≤ (i : Int) ∧ (i : Int) < ((24 : Nat) : Int) := by omega
    have h2 := ih (i + 1) (by omega)
    have w1 : am_w ((i : Int) + 1) = i + 1 := am_wi (by omega) (by omega)
    have w2 : am_w (am_sm (fun x => am_b (am_ba (M b) l p x)) i + 1) = am_sm (fun x => am_b (am_ba (M b) l p x)) i + 1 := am_wi (by omega) (by omega)
    simp only [am_sm, Int.natCast_add, Int.cast_ofNat_Int] at h2
    rw [am_B47_5, if_neg (by omega)]
    by_cases hp : am_ba (M b) l p i
    · rw [show am_b (am_ba (M b) l p i) = 1 by rw [am_b_1]; exact hp] at h2
      obtain ⟨q1, q3⟩ := hp
      rw [am_B47_12 hw hg, if_neg (fun q => q q1), am_B47_23 hw, am_s43 hw, am_bd_v]
      simp only [Nat.reduceAdd]
      rw [am_B47_30, if_neg (by rw [am_b_0]; exact fun q => q q3), am_B47_33, am_B47_36, w1, w2]
      exact h2
    · rw [show am_b (am_ba (M b) l p i) = 0 by rw [am_b_0]; exact hp, Int.add_zero] at h2
      rw [am_B47_12 hw hg]
      by_cases q1 : M b 2 i = p
      · rw [if_neg (fun q => q q1), am_B47_23 hw, am_s43 hw, am_bd_v]
        simp only [Nat.reduceAdd]
        rw [am_B47_30, if_pos (by rw [am_b_0]; exact fun q => hp ⟨q1, q⟩), am_B47_36, w1]
        exact h2
      · rw [if_pos q1, am_B47_36, w1]
        exact h2
theorem am_s47 (hw : am_WY E b) {u v : Option am_V} : am_den 47 (0, [some (am_A (b, 0)), some (am_I l), some (am_I p), u, v], [], E, M) = some (.inl (some (am_I (am_sm (fun x => am_b (am_ba (M b) l p x)) 24))), E, M) := by
  rw [am_B47_0]
  exact am_s47l hw 24 0 rfl
abbrev am_rp (Y : Nat → Int → Int) (p w l : Int) : Prop := Y 2 l = p ∧ am_sm (fun x => am_b (am_ba Y l p x)) 24 = w
theorem am_s46l (hw : am_WY E b) : ∀ (m i : Nat), i + m = 24 → am_den 46 (2, [some (am_A (b, 0)), some (am_I p), some (am_I w), some (am_I i)], [], E, M) = some (.inl (some (am_I (am_fd (am_rp (M b) p w) m i))), E, M) := by
  intro m
  induction m with
  | zero =>
    intro i h
    rw [am_B46_2, if_pos (by omega), am_B46_36, am_fd]
  | succ m ih =>
    intro i h
    have hg : (0 : Int) ≤ (i : Int) ∧ (i : Int) < ((24 : Nat) : Int) := by omega
    have h2 := ih (i + 1) (by omega)
    have w1 : am_w ((i : Int) + 1) = i + 1 := am_wi (by omega) (by omega)
    rw [show ((i + 1 : Nat) : Int) = (i : Int) + 1 by omega] at h2
    rw [am_B46_2, if_neg (by omega), am_B46_8 hw hg, am_fd]
    by_cases q1 : M b 2 i = p
    · rw [if_neg (fun q => q q1), am_B46_18 hw, am_s47 hw, am_bd_v]
      simp only [Nat.reduceAdd]
      rw [am_B46_24]
      by_cases q2 : am_sm (fun x => am_b (am_ba (M b) i p x)) 24 = w
      · rw [if_neg (fun q => q q2), am_B46_28, if_pos ⟨q1, q2⟩]
      · rw [if_pos q2, am_B46_30, w1, if_neg (fun q => q2 q.2)]
        exact h2
    · rw [if_pos q1, am_B46_30, w1, if_neg (fun q => q1 q.1)]
      exact h2
theorem am_s46 (hw : am_WY E b) {u : Option am_V} : am_den 46 (0, [some (am_A (b, 0)), some (am_I p), some (am_I w), u], [], E, M) = some (.inl (some (am_I (am_fd (am_rp (M b) p w) 24 0))), E, M) := by
  rw [am_B46_0]
  exact am_s46l hw 24 0 rfl
end YARD7
