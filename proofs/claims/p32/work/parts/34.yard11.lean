/-! ===== specs: a log goes ===== -/
def am_rm1 (Y : Nat → Int → Int) (l : Int) : Nat → Int → Int := am_pt (am_jo Y (am_gt (Y 4) 24 l) (am_gt (Y 5) 24 l)).1 3 24 (am_jo Y (am_gt (Y 4) 24 l) (am_gt (Y 5) 24 l)).2 (am_gt (Y 3) 24 l)
def am_rm2 (Y : Nat → Int → Int) (l u j : Int) : Nat → Int → Int := if u = -1 then am_pt Y 6 4 (am_gt (Y 2) 24 l) j else if am_gt (Y 4) 24 u = l then am_pt Y 4 24 u j else am_pt Y 5 24 u j
def am_rm3 (Y : Nat → Int → Int) (l : Int) : Nat → Int → Int := am_pt (am_pt (am_pt (am_pt Y 2 24 l (-1)) 3 24 l (-1)) 4 24 l (-1)) 5 24 l (-1)
def am_rmv (Y : Nat → Int → Int) (l : Int) : Nat → Int → Int := am_rm3 (am_rm2 (am_rm1 Y l) l (am_gt (Y 3) 24 l) (am_jo Y (am_gt (Y 4) 24 l) (am_gt (Y 5) 24 l)).2) l
section YARD11
variable {E : am_E} {M : am_M} {b : Nat} {p l a c w : Int}
theorem am_s52e (hw : am_WY E b) {Y : Nat → Int → Int} {z u j : Int} : am_den 52 (106, [some (am_A (b, 0)), some (am_I l), some (am_I z), some (am_I u), some (am_I j)], [], E, am_sb M b Y) = some (.inl (some (am_I (am_w (am_rm3 Y l 0 11 - z)))), E, am_sb M b (am_rm3 Y l)) := by
  simp only [am_B52_106 hw, am_s113p (hw.2.2.1 2 (by decide) (by decide)), am_bd_u, Nat.reduceAdd, am_sb_at, am_sb_sb, am_B52_115 hw, am_s53 hw, am_B52_120 hw]
  rfl
theorem am_s52m (hw : am_WY E b) {Y : Nat → Int → Int} {z u j : Int} : am_den 52 (71, [some (am_A (b, 0)), some (am_I l), some (am_I z), some (am_I u), some (am_I j)], [], E, am_sb M b Y) = some (.inl (some (am_I (am_w (am_rm3 (if am_gt (Y 4) 24 u = l then am_pt Y 4 24 u j else am_pt Y 5 24 u j) l 0 11 - z)))), E, am_sb M b (am_rm3 (if am_gt (Y 4) 24 u = l then am_pt Y 4 24 u j else am_pt Y 5 24 u j) l)) := by
  have k5 := hw.2.2.1 5 (by decide) (by decide)
  have k4 := hw.2.2.1 4 (by decide) (by decide)
  by_cases h2 : am_gt (Y 4) 24 u = l
  · simp only [am_B52_71 hw, am_s112g k4, am_bd_v, Nat.reduceAdd, am_B52_79, am_sb_at, if_pos h2, if_neg (fun q : am_gt (Y 4) 24 u ≠ l => q h2), am_B52_83 hw, am_s113p k4, am_bd_u, am_sb_sb, am_B52_93, am_s52e hw]
  · simp only [am_B52_71 hw, am_s112g k4, am_bd_v, Nat.reduceAdd, am_B52_79, am_sb_at, if_neg h2, if_pos (show am_gt (Y 4) 24 u ≠ l from h2), am_B52_96 hw, am_s113p k5, am_bd_u, am_sb_sb, am_s52e hw]
theorem am_s52 (hw : am_WY E b) {u v x : Option am_V} : am_den 52 (0, [some (am_A (b, 0)), some (am_I l), u, v, x], [], E, M) = some (.inl (some (am_I (am_w (am_rmv (M b) l 0 11 - M b 0 11)))), E, am_sb M b (am_rmv (M b) l)) := by
  have k5 := hw.2.2.1 5 (by decide) (by decide)
  have k4 := hw.2.2.1 4 (by decide) (by decide)
  have k3 := hw.2.2.1 3 (by decide) (by decide)
  have k2 := hw.2.2.1 2 (by decide) (by decide)
  simp only [am_B52_0 hw, am_s112g k3, am_bd_v, Nat.reduceAdd, am_B52_13 hw, am_s112g k4, am_B52_23 hw, am_s112g k5, am_B52_31 hw, am_s51 hw, am_B52_34 hw, am_s113p k3, am_bd_u, am_sb_at, am_sb_sb, am_B52_46]
  unfold am_rmv am_rm2 am_rm1
  by_cases h1 : am_gt (M b 3) 24 l = -1
  · rw [if_neg (fun q => q h1), if_pos h1]
    simp only [am_B52_51 hw, am_s112g k2, am_bd_v, Nat.reduceAdd, am_B52_63, am_s113p hw.2.2.2.1, am_bd_u, am_sb_at, am_sb_sb, am_B52_68, am_s52e hw]
  · rw [if_pos h1, if_neg h1]
    rw [am_s52m hw]
end YARD11
