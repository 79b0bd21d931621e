/-! ===== specs: a log comes ===== -/
section YARD10
variable {E : am_E} {M : am_M} {b : Nat} {p l a c w : Int}
abbrev am_jo (Y : Nat → Int → Int) (a c : Int) : (Nat → Int → Int) × Int := am_jl 24 Y a c (-1) (-1)
theorem am_s51 (hw : am_WY E b) {u3 u4 u5 u6 u7 u8 : Option am_V} : am_den 51 (0, [some (am_A (b, 0)), some (am_I a), some (am_I c), u3, u4, u5, u6, u7, u8], [], E, M) = some (.inl (some (am_I (am_jo (M b) a c).2)), E, am_sb M b (am_jo (M b) a c).1) := by
  rw [am_B51_0]
  have h := am_s51l (x1 := a) (x2 := c) (M := M) hw 24 0 (M b) a c (-1) (-1) u8 rfl
  rw [am_sb_self] at h
  exact h
def am_ci (Y : Nat → Int → Int) (p l : Int) : Nat → Int → Int := am_pt (am_jo Y (am_gt (Y 6) 4 p) l).1 6 4 p (am_jo Y (am_gt (Y 6) 4 p) l).2
theorem am_s50 (hw : am_WY E b) : am_den 50 (0, [some (am_A (b, 0)), some (am_I p), some (am_I l)], [], E, M) = some (.inl none, E, am_sb M b (am_ci (M b) p l)) := by
  rw [am_B50_0 hw, am_s28 hw, am_bd_v]
  simp only [Nat.reduceAdd]
  rw [am_B50_11 hw, am_s51 hw, am_bd_v]
  simp only [Nat.reduceAdd]
  rw [am_B50_15, am_s113p hw.2.2.2.1, am_bd_u]
  simp only [Nat.reduceAdd]
  rw [am_B50_18, am_sb_at, am_sb_sb]
  rfl
def am_lg (Y : Nat → Int → Int) (p w : Int) : Nat → Int → Int := am_ci (am_pt (am_pt (am_uy Y 0 8 (am_w (Y 0 8 + 1))) 1 24 (Y 0 8) w) 2 24 (Y 0 8) p) p (Y 0 8)
theorem am_s49 (hw : am_WY E b) {u : Option am_V} : am_den 49 (0, [some (am_A (b, 0)), some (am_I p), some (am_I w), u], [], E, M) = some (.inl (some (am_I (M b 0 8))), E, am_sb M b (am_lg (M b) p w)) := by
  simp only [am_B49_0 hw, am_up_0, am_B49_15 hw, am_s113p (hw.2.2.1 1 (by decide) (by decide)), am_s113p (hw.2.2.1 2 (by decide) (by decide)), am_bd_u, Nat.reduceAdd, am_B49_24 hw, am_B49_33 hw, am_s50 hw, am_B49_39, am_sb_at, am_sb_sb]
  rfl
end YARD10
