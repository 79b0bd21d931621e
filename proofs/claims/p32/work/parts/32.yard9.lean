/-! ===== specs: two trees joined ===== -/
def am_jf (Y : Nat → Int → Int) (o q t z : Int) : (Nat → Int → Int) × Int := (am_pt (am_pt Y 4 24 z (if o = -1 then q else o)) 3 24 (if o = -1 then q else o) z, if t = -1 then (if o = -1 then q else o) else t)
def am_j1 (Y : Nat → Int → Int) : Nat → Int → Int := am_uy Y 0 11 (am_w (Y 0 11 + 1))
def am_j2 (Y : Nat → Int → Int) (a z : Int) : Nat → Int → Int := am_pt (am_pt (am_pt Y 5 24 a (am_gt (Y 4) 24 a)) 4 24 z a) 3 24 a z
def am_ja (Y : Nat → Int → Int) (o q : Int) : Int := if am_ah Y o q then o else q
def am_jl : Nat → (Nat → Int → Int) → Int → Int → Int → Int → (Nat → Int → Int) × Int
  | 0, Y, o, q, t, z => am_jf Y o q t z
  | n + 1, Y, o, q, t, z => if o = -1 ∨ q = -1 then am_jf Y o q t z else
    am_jl n (am_j2 (am_j1 Y) (am_ja (am_j1 Y) o q) z) (am_gt (am_j1 Y 5) 24 (am_ja (am_j1 Y) o q)) (if am_ja (am_j1 Y) o q ≠ o then o else q) (if t = -1 then am_ja (am_j1 Y) o q else t) (am_ja (am_j1 Y) o q)
section YARD9
variable {E : am_E} {b : Nat} {x1 x2 : Int}
theorem am_s51f (hw : am_WY E b) {M : am_M} {Y : Nat → Int → Int} {o q t z i : Int} {u : Option am_V} : am_den 51 (149, [some (am_A (b, 0)), some (am_I x1), some (am_I x2), some (am_I o), some (am_I q), some (am_I t), some (am_I z), some (am_I i), u], [], E, am_sb M b Y) = some (.inl (some (am_I (am_jf Y o q t z).2)), E, am_sb M b (am_jf Y o q t z).1) := by
  have k4 := hw.2.2.1 4 (by decide) (by decide)
  have k3 := hw.2.2.1 3 (by decide) (by decide)
  have go : ∀ r : Int, am_den 51 (160, [some (am_A (b, 0)), some (am_I x1), some (am_I x2), some (am_I o), some (am_I q), some (am_I t), some (am_I z), some (am_I i), u], [am_I r], E, am_sb M b Y) = some (.inl (some (am_I (if t = -1 then r else t))), E, am_sb M b (am_pt (am_pt Y 4 24 z r) 3 24 r z)) := by
    intro r
    simp only [am_B51_160 hw, am_s113p k4, am_s113p k3, am_bd_u, Nat.reduceAdd, am_sb_at, am_sb_sb, am_B51_173 hw, am_B51_184, am_B51_190, am_B51_195, am_B51_197]
    by_cases h : t = -1 <;> simp [h]
  unfold am_jf
  rw [am_B51_149]
  by_cases h : o = -1
  · rw [if_neg (fun w => w h), am_B51_154, go, if_pos h]
  · rw [if_pos h, am_B51_159, go, if_neg h]
theorem am_s51l (hw : am_WY E b) {M : am_M} : ∀ (m i : Nat) (Y : Nat → Int → Int) (o q t z : Int) (u : Option am_V), i + m = 24 → am_den 51 (14, [some (am_A (b, 0)), some (am_I x1), some (am_I x2), some (am_I o), some (am_I q), some (am_I t), some (am_I z), some (am_I i), u], [], E, am_sb M b Y) = some (.inl (some (am_I (am_jl m Y o q t z).2)), E, am_sb M b (am_jl m Y o q t z).1) := by
  have k5 := hw.2.2.1 5 (by decide) (by decide)
  have k4 := hw.2.2.1 4 (by decide) (by decide)
  have k3 := hw.2.2.1 3 (by decide) (by decide)
  intro m
  induction m with
  | zero =>
    intro i Y o q t z u h
    rw [am_B51_14, if_pos (by omega), am_s51f hw, am_jl]
  | succ m ih =>
    intro i Y o q t z u h
    rw [am_B51_14, if_neg (by omega), am_B51_21, am_jl]
    by_cases h1 : o = -1
    · rw [if_pos h1, if_pos (Or.inl h1), am_s51f hw]
    · rw [if_neg h1, am_B51_26]
      by_cases h2 : q = -1
      · rw [if_pos h2, if_pos (Or.inr h2), am_s51f hw]
      · rw [if_neg h2, if_neg (by omega), am_B51_32 hw, am_up_sb, am_sb_at, am_B51_42 hw, am_s43 hw, am_bd_v, am_sb_at]
        have ec : ((i + 1 : Nat) : Int) = (i : Int) + 1 := by omega
        have w1 : am_w ((i : Int) + 1) = ((i + 1 : Nat) : Int) := by rw [am_wi (by omega) (by omega), ec]
        have go : ∀ a : Int, am_den 51 (58, [some (am_A (b, 0)), some (am_I x1), some (am_I x2), some (am_I o), some (am_I q), some (am_I t), some (am_I z), some (am_I i), u], [am_I a], E, am_sb M b (am_j1 Y)) = some (.inl (some (am_I (am_jl m (am_j2 (am_j1 Y) a z) (am_gt (am_j1 Y 5) 24 a) (if a ≠ o then o else q) (if t = -1 then a else t) a).2)), E, am_sb M b (am_jl m (am_j2 (am_j1 Y) a z) (am_gt (am_j1 Y 5) 24 a) (if a ≠ o then o else q) (if t = -1 then a else t) a).1) := by
          intro a
          have h3 := fun q' t' u' => ih (i + 1) (am_j2 (am_j1 Y) a z) (am_gt (am_j1 Y 5) 24 a) q' t' a u' (by omega)
          by_cases h5 : a ≠ o
          · by_cases h6 : t ≠ -1
            · have et : (if t = -1 then a else t) = t := if_neg h6
              simp only [am_B51_58, if_pos h5, am_B51_66, am_B51_71, am_B51_72 hw, am_B51_83 hw, am_B51_99, am_B51_102 hw, am_B51_113 hw, am_B51_124, if_pos h6, et, am_B51_130, am_B51_135, am_B51_137, am_s112g k5, am_s112g k4, am_s113p k5, am_s113p k4, am_s113p k3, am_bd_u, am_bd_v, Nat.reduceAdd, am_sb_at, am_sb_sb, w1]
              exact h3 _ _ _
            · have et : (if t = -1 then a else t) = a := if_pos (Decidable.not_not.mp h6)
              simp only [am_B51_58, if_pos h5, am_B51_66, am_B51_71, am_B51_72 hw, am_B51_83 hw, am_B51_99, am_B51_102 hw, am_B51_113 hw, am_B51_124, if_neg h6, et, am_B51_130, am_B51_135, am_B51_137, am_s112g k5, am_s112g k4, am_s113p k5, am_s113p k4, am_s113p k3, am_bd_u, am_bd_v, Nat.reduceAdd, am_sb_at, am_sb_sb, w1]
              exact h3 _ _ _
          · by_cases h6 : t ≠ -1
            · have et : (if t = -1 then a else t) = t := if_neg h6
              simp only [am_B51_58, if_neg h5, am_B51_66, am_B51_71, am_B51_72 hw, am_B51_83 hw, am_B51_99, am_B51_102 hw, am_B51_113 hw, am_B51_124, if_pos h6, et, am_B51_130, am_B51_135, am_B51_137, am_s112g k5, am_s112g k4, am_s113p k5, am_s113p k4, am_s113p k3, am_bd_u, am_bd_v, Nat.reduceAdd, am_sb_at, am_sb_sb, w1]
              exact h3 _ _ _
            · have et : (if t = -1 then a else t) = a := if_pos (Decidable.not_not.mp h6)
              simp only [am_B51_58, if_neg h5, am_B51_66, am_B51_71, am_B51_72 hw, am_B51_83 hw, am_B51_99, am_B51_102 hw, am_B51_113 hw, am_B51_124, if_neg h6, et, am_B51_130, am_B51_135, am_B51_137, am_s112g k5, am_s112g k4, am_s113p k5, am_s113p k4, am_s113p k3, am_bd_u, am_bd_v, Nat.reduceAdd, am_sb_at, am_sb_sb, w1]
              exact h3 _ _ _
        simp only [Nat.reduceAdd]
        rw [am_B51_49]
        have g := go (am_ja (am_j1 Y) o q)
        by_cases h4 : am_ah (am_j1 Y) o q
        · have e : am_ja (am_j1 Y) o q = o := if_pos h4
          rw [if_neg (by rw [am_b_0]; exact fun w => w h4), am_B51_52]
          rw [e] at g ⊢
          exact g
        · have e : am_ja (am_j1 Y) o q = q := if_neg h4
          rw [if_pos (by rw [am_b_0]; exact h4), am_B51_56]
          rw [e] at g ⊢
          exact g
end YARD9
