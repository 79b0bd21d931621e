/-! ===== specs: a yard's ranks from the top, the driest to draw ===== -/
def ay_bit (f l : Int) : Int := (Int32.ofInt ((Int32.ofInt f >>> (Int32.ofInt l &&& 31)).toInt) &&& Int32.ofInt 1).toInt
def ay_or (f l : Int) : Int := (Int32.ofInt f ||| Int32.ofInt ((Int32.ofInt 1 <<< (Int32.ofInt l &&& 31)).toInt)).toInt
abbrev ay_opn (Y : Nat → Int → Int) (f l : Int) : Prop := ay_bit f l = 0 ∧ Y 3 l ≠ -1 ∧ ay_bit f (Y 3 l) = 1
def ay_bst (Y : Nat → Int → Int) (f : Int) : Nat → Int
  | 0 => -1
  | n + 1 => if ay_opn Y f n ∧ (ay_bst Y f n = -1 ∨ am_ah Y n (ay_bst Y f n)) then n else ay_bst Y f n
def ay_rk (Y : Nat → Int → Int) : Nat → Int → Int → Int
  | 0, _, z => z
  | m + 1, f, z => ay_rk Y m (ay_or f z) (ay_bst Y (ay_or f z) 24)
def ay_why (Y : Nat → Int → Int) (p : Int) : Int := if am_gt (Y 6) 4 p = -1 then 1 else if 0 < am_oa Y p then 2 else 0
def ay_td (Y : Nat → Int → Int) (p : Int) : Int := am_gt (Y 1) 24 (am_gt (Y 6) 4 p)
def ay_dr (Y : Nat → Int → Int) : Nat → Int
  | 0 => -1
  | n + 1 => if ay_why Y n = 0 ∧ (ay_dr Y n = -1 ∨ ay_td Y n < ay_td Y (ay_dr Y n)) then n else ay_dr Y n
section YARD12
variable {E : am_E} {M : am_M} {b : Nat} {p l w : Int}
theorem ay_45l (hw : am_WY E b) {f : Int} : ∀ (m i : Nat) (u : Option am_V), i + m = 24 → am_den 45 (4, [some (am_A (b, 0)), some (am_I f), some (am_I (ay_bst (M b) f i)), some (am_I i), u], [], E, M) = some (.inl (some (am_I (ay_bst (M b) f 24))), E, M) := by
  intro m
  induction m with
  | zero =>
    intro i u h
    have e : i = 24 := by omega
    subst e
    rw [am_B45_4, if_pos (by omega), am_B45_76]
  | succ m ih =>
    intro i u h
    have hg : (0 : Int) ≤ (i : Int) ∧ (i : Int) < ((24 : Nat) : Int) := by omega
    have w1 : am_w ((i : Int) + 1) = i + 1 := am_wi (by omega) (by omega)
    have h2 := fun u => ih (i + 1) u (by omega)
    rw [show ((i + 1 : Nat) : Int) = (i : Int) + 1 by omega] at h2
    have fin : ∀ u, (ay_bst (M b) f (i + 1) = ay_bst (M b) f i) → am_den 45 (70, [some (am_A (b, 0)), some (am_I f), some (am_I (ay_bst (M b) f i)), some (am_I i), some (am_I u)], [], E, M) = some (.inl (some (am_I (ay_bst (M b) f 24))), E, M) := by
      intro u hu
      rw [am_B45_70, w1, ← hu]
      exact h2 _
    have fin2 : ∀ u, (ay_bst (M b) f (i + 1) = i) → am_den 45 (68, [some (am_A (b, 0)), some (am_I f), some (am_I (ay_bst (M b) f i)), some (am_I i), some (am_I u)], [], E, M) = some (.inl (some (am_I (ay_bst (M b) f 24))), E, M) := by
      intro u hu
      rw [am_B45_68, am_B45_70, w1]
      have h3 := h2 (some (am_I u))
      rw [hu] at h3
      exact h3
    have no : ¬ ay_opn (M b) f i → am_den 45 (46, [some (am_A (b, 0)), some (am_I f), some (am_I (ay_bst (M b) f i)), some (am_I i), u], [], E, M) = some (.inl (some (am_I (ay_bst (M b) f 24))), E, M) := by
      intro hn
      rw [am_B45_46, am_B45_47, if_pos rfl]
      exact fin 0 (by rw [ay_bst, if_neg (fun q => hn q.1)])
    rw [am_B45_4, if_neg (by omega), am_B45_10]
    by_cases q1 : ay_bit f i = 0
    · rw [if_neg (fun q => q q1), am_B45_18 hw hg]
      by_cases q2 : M b 3 i = -1
      · rw [if_pos q2]
        exact no (fun q => q.2.1 q2)
      · rw [if_neg q2, am_B45_28 hw hg]
        by_cases q3 : ay_bit f (M b 3 i) = 1
        · rw [if_neg (fun q => q q3), am_B45_42, am_B45_47, if_neg (by decide), am_B45_54]
          by_cases q4 : ay_bst (M b) f i = -1
          · rw [if_pos q4]
            exact fin2 1 (by rw [ay_bst, if_pos ⟨⟨q1, q2, q3⟩, Or.inl q4⟩])
          · rw [if_neg q4, am_B45_59 hw, am_s43 hw, am_bd_v]
            simp only [Nat.reduceAdd]
            rw [am_B45_65]
            by_cases q5 : am_ah (M b) i (ay_bst (M b) f i)
            · rw [if_neg (by rw [am_b_0]; exact fun q => q q5)]
              exact fin2 1 (by rw [ay_bst, if_pos ⟨⟨q1, q2, q3⟩, Or.inr q5⟩])
            · rw [if_pos (by rw [am_b_0]; exact q5)]
              exact fin 1 (by rw [ay_bst, if_neg (fun q => q.2.elim q4 q5)])
        · refine (if_pos q3).trans ?_
          exact no (fun q => q3 q.2.2)
    · refine (if_pos q1).trans ?_
      exact no (fun q => q1 q.1)
theorem ay_45 (hw : am_WY E b) {f : Int} {u v x : Option am_V} : am_den 45 (0, [some (am_A (b, 0)), some (am_I f), u, v, x], [], E, M) = some (.inl (some (am_I (ay_bst (M b) f 24))), E, M) := by
  rw [am_B45_0]
  exact ay_45l hw 24 0 _ rfl
theorem ay_44l (hw : am_WY E b) (hr : w ≤ 24) : ∀ (m i : Nat) (z f : Int), (i : Int) + m = w → am_den 44 (12, [some (am_A (b, 0)), some (am_I p), some (am_I w), some (am_I z), some (am_I f), some (am_I i)], [], E, M) = some (.inl (some (am_I (ay_rk (M b) m f z))), E, M) := by
  intro m
  induction m with
  | zero =>
    intro i z f h
    rw [am_B44_12, if_pos (by omega), am_B44_46, ay_rk]
  | succ m ih =>
    intro i z f h
    have w1 : am_w ((i : Int) + 1) = i + 1 := am_wi (by omega) (by omega)
    have h2 := fun z f => ih (i + 1) z f (by omega)
    rw [show ((i + 1 : Nat) : Int) = (i : Int) + 1 by omega] at h2
    rw [am_B44_12, if_neg (by omega), am_B44_18, if_neg (by omega), am_B44_25 hw, ay_45 hw, am_bd_v]
    simp only [Nat.reduceAdd]
    rw [am_B44_39, w1, ay_rk]
    exact h2 _ _
theorem ay_44 (hw : am_WY E b) (h0 : 0 ≤ w) (hr : w ≤ 24) {u v x : Option am_V} : am_den 44 (0, [some (am_A (b, 0)), some (am_I p), some (am_I w), u, v, x], [], E, M) = some (.inl (some (am_I (ay_rk (M b) w.toNat 0 (am_gt (M b 6) 4 p)))), E, M) := by
  rw [am_B44_0 hw, am_s28 hw, am_bd_v]
  simp only [Nat.reduceAdd]
  rw [am_B44_5]
  exact ay_44l hw hr w.toNat 0 _ _ (by omega)
theorem ay_39 (hw : am_WY E b) : am_den 39 (0, [some (am_A (b, 0)), some (am_I p)], [], E, M) = some (.inl (some (am_I (ay_why (M b) p))), E, M) := am_s39 hw
theorem ay_30 (hw : am_WY E b) : am_den 30 (0, [some (am_A (b, 0)), some (am_I p)], [], E, M) = some (.inl (some (am_I (ay_td (M b) p))), E, M) := am_s30 hw
theorem ay_63l (hw : am_WY E b) (h7 : 0 ≤ M b 0 7 ∧ M b 0 7 ≤ 4) : ∀ (m i : Nat), i + m = (M b 0 7).toNat → am_den 63 (4, [some (am_A (b, 0)), some (am_I (ay_dr (M b) i)), some (am_I i)], [], E, M) = some (.inl (some (am_I (ay_dr (M b) (M b 0 7).toNat))), E, M) := by
  intro m
  induction m with
  | zero =>
    intro i h
    have e : i = (M b 0 7).toNat := by omega
    rw [am_B63_4 hw, if_pos (by omega), am_B63_46, e]
  | succ m ih =>
    intro i h
    have w1 : am_w ((i : Int) + 1) = i + 1 := am_wi (by omega) (by omega)
    have h2 := ih (i + 1) (by omega)
    rw [show ((i + 1 : Nat) : Int) = (i : Int) + 1 by omega] at h2
    rw [am_B63_4 hw, if_neg (by omega), am_B63_12 hw, ay_39 hw, am_bd_v]
    simp only [Nat.reduceAdd]
    rw [am_B63_17]
    by_cases q1 : ay_why (M b) i = 0
    · rw [if_neg (fun q => q q1), am_B63_20]
      by_cases q2 : ay_dr (M b) i = -1
      · rw [if_pos q2, am_B63_38, am_B63_40, w1]
        rw [ay_dr, if_pos ⟨q1, Or.inl q2⟩] at h2
        exact h2
      · rw [if_neg q2, am_B63_25 hw, ay_30 hw, am_bd_v]
        simp only [Nat.reduceAdd]
        rw [am_B63_30 hw, ay_30 hw, am_bd_v]
        simp only [Nat.reduceAdd]
        rw [am_B63_35]
        by_cases q3 : ay_td (M b) i < ay_td (M b) (ay_dr (M b) i)
        · rw [if_neg (by omega), am_B63_38, am_B63_40, w1]
          rw [ay_dr, if_pos ⟨q1, Or.inr q3⟩] at h2
          exact h2
        · rw [if_pos (by omega), am_B63_40, w1]
          rw [ay_dr, if_neg (fun q => q.2.elim q2 q3)] at h2
          exact h2
    · rw [if_pos q1, am_B63_40, w1]
      rw [ay_dr, if_neg (fun q => q1 q.1)] at h2
      exact h2
theorem ay_63 (hw : am_WY E b) (h7 : 0 ≤ M b 0 7 ∧ M b 0 7 ≤ 4) {u v : Option am_V} : am_den 63 (0, [some (am_A (b, 0)), u, v], [], E, M) = some (.inl (some (am_I (ay_dr (M b) (M b 0 7).toNat))), E, M) := by
  rw [am_B63_0]
  exact ay_63l hw h7 _ 0 (Nat.zero_add _)
end YARD12
