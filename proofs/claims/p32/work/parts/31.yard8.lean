/-! ===== specs: a yard's small changes ===== -/
def am_pt (Y : Nat → Int → Int) (c n : Nat) (i v : Int) : Nat → Int → Int := if 0 ≤ i ∧ i < (n : Int) then am_uy Y c i v else Y
theorem am_s113p {E : am_E} {M : am_M} {b c : Nat} {i v : Int} {n : Nat} (hk : am_kd E (b, c) = some (6, n)) : am_den 113 (0, [some (am_A (b, c)), some (am_I i), some (am_I v)], [], E, M) = some (.inl none, E, am_sb M b (am_pt (M b) c n i v)) := by
  rw [am_s113 hk]
  unfold am_pt
  by_cases h : 0 ≤ i ∧ i < (n : Int)
  · rw [if_pos h, if_pos h]
    rfl
  · rw [if_neg h, if_neg h, am_sb_self]
section YARD8
variable {E : am_E} {M : am_M} {b : Nat} {p l w : Int}
theorem am_s48 (hw : am_WY E b) (h : 0 ≤ M b 0 7 ∧ M b 0 7 < 100) {u : Option am_V} : am_den 48 (0, [some (am_A (b, 0)), u], [], E, M) = some (.inl (some (am_I (M b 0 7))), E, am_sb M b (am_uy (M b) 0 7 (M b 0 7 + 1))) := by
  rw [am_B48_0 hw, am_B48_15, am_wi (by omega) (by omega), am_up_0]
theorem am_s53 (hw : am_WY E b) : am_den 53 (0, [some (am_A (b, 0)), some (am_I l)], [], E, M) = some (.inl none, E, am_sb M b (am_pt (am_pt (am_pt (M b) 3 24 l (-1)) 4 24 l (-1)) 5 24 l (-1))) := by
  simp only [am_B53_0 hw, am_B53_9 hw, am_B53_18 hw, am_B53_27, am_bd_u, Nat.reduceAdd, am_s113p (hw.2.2.1 3 (by decide) (by decide)), am_s113p (hw.2.2.1 4 (by decide) (by decide)), am_s113p (hw.2.2.1 5 (by decide) (by decide)), am_sb_at, am_sb_sb]
end YARD8
