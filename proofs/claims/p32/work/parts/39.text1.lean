/-! ===== specs: the text and its reader ===== -/
def ax_dg (n : Int) (s : Int → Int) (a : Int) : Int := if 0 ≤ a ∧ a < n ∧ a < 120 then s a else -1
def ax_n1 (n : Int) (s : Int → Int) (lo hi v a : Int) : Int × Int := if ax_dg n s a < 48 ∨ 57 < ax_dg n s a ∨ v * 10 + (ax_dg n s a - 48) < lo ∨ hi < v * 10 + (ax_dg n s a - 48) then (-1, a) else (v * 10 + (ax_dg n s a - 48), a + 1)
def ax_n2 (n : Int) (s : Int → Int) (lo hi a : Int) : Int × Int := if ax_dg n s a < 48 ∨ 57 < ax_dg n s a ∨ (ax_dg n s a - 48) * 10 + 9 < lo ∨ hi < (ax_dg n s a - 48) * 10 then (-1, a) else ax_n1 n s lo hi (ax_dg n s a - 48) (a + 1)
def ax_st (T : Nat → Int → Int) (a k f g : Int) : Nat → Int → Int := fun c i => if c = 0 ∧ i = 2 then a else if c = 0 ∧ i = 3 then k else if c = 0 ∧ i = 4 then f else if c = 0 ∧ i = 5 then g else T c i
theorem ax_st_0 {T : Nat → Int → Int} : ax_st T (T 0 2) (T 0 3) (T 0 4) (T 0 5) = T := by
  funext c i
  unfold ax_st
  repeat' split
  all_goals first | rfl | (rename_i h; rw [h.1, h.2])
section AXST
variable {T : Nat → Int → Int} {a k f g v a' k' f' g' : Int}
theorem ax_st_a : am_uy (ax_st T a k f g) 0 2 v = ax_st T v k f g := by
  funext c i
  rw [ay_uy_x]
  unfold ax_st
  repeat' split
  all_goals first | rfl | (exfalso; omega)
theorem ax_st_k : am_uy (ax_st T a k f g) 0 3 v = ax_st T a v f g := by
  funext c i
  rw [ay_uy_x]
  unfold ax_st
  repeat' split
  all_goals first | rfl | (exfalso; omega)
theorem ax_st_f : am_uy (ax_st T a k f g) 0 4 v = ax_st T a k v g := by
  funext c i
  rw [ay_uy_x]
  unfold ax_st
  repeat' split
  all_goals first | rfl | (exfalso; omega)
theorem ax_st_g : am_uy (ax_st T a k f g) 0 5 v = ax_st T a k f v := by
  funext c i
  rw [ay_uy_x]
  unfold ax_st
  repeat' split
  all_goals first | rfl | (exfalso; omega)
theorem ax_st_1 : ax_st T a k f g 0 1 = T 0 1 := rfl
theorem ax_st_2 : ax_st T a k f g 0 2 = a := rfl
theorem ax_st_3 : ax_st T a k f g 0 3 = k := rfl
theorem ax_st_4 : ax_st T a k f g 0 4 = f := rfl
theorem ax_st_5 : ax_st T a k f g 0 5 = g := rfl
theorem ax_st_s : ax_st T a k f g 1 = T 1 := by
  funext i
  unfold ax_st
  repeat' split
  all_goals first | rfl | (exfalso; omega)
theorem ax_st_st : ax_st (ax_st T a k f g) a' k' f' g' = ax_st T a' k' f' g' := by
  funext c i
  unfold ax_st
  repeat' split
  all_goals first | rfl | (exfalso; omega)
end AXST
section TEXT1
variable {E : am_E} {M : am_M} {T : Nat → Int → Int} {a k f g lo hi : Int}
theorem ax_13 (hE : am_Wr E) : am_den 13 (0, [some (am_A (30, 0))], [], E, M) = some (.inl (some (am_I (ax_dg (M 30 0 1) (M 30 1) (M 30 0 2)))), E, M) := by
  unfold ax_dg
  rw [am_B13_0 hE]
  by_cases h1 : M 30 0 2 < 0
  · rw [if_pos h1, am_B13_42, am_B13_43, if_neg (by omega)]
  · rw [if_neg h1, am_B13_7 hE]
    by_cases h2 : M 30 0 1 ≤ M 30 0 2
    · rw [if_pos h2, am_B13_42, am_B13_43, if_neg (by omega)]
    · rw [if_neg h2, am_B13_18 hE]
      by_cases h3 : ((120 : Nat) : Int) ≤ M 30 0 2
      · rw [if_pos h3, am_B13_42, am_B13_43, if_neg (by omega)]
      · rw [if_neg h3, am_B13_30 hE (by omega), am_B13_43, if_pos (by omega)]
theorem ax_13s (hE : am_Wr E) : am_den 13 (0, [some (am_A (30, 0))], [], E, am_sb M 30 (ax_st T a k f g)) = some (.inl (some (am_I (ax_dg (T 0 1) (T 1) a))), E, am_sb M 30 (ax_st T a k f g)) := by
  rw [ax_13 hE, am_sb_at, ax_st_1, ax_st_2, ax_st_s]
theorem ax_dg_le {n : Int} {s : Int → Int} (hs : ∀ i : Int, 0 ≤ i → i < 120 → 0 ≤ s i ∧ s i ≤ 65535) : -1 ≤ ax_dg n s a ∧ ax_dg n s a ≤ 65535 := by
  unfold ax_dg
  split
  · have := hs a (by omega) (by omega)
    omega
  · omega
/-- the last digit -/
theorem ax_19a (hE : am_Wr E) (hs : ∀ i : Int, 0 ≤ i → i < 120 → 0 ≤ T 1 i ∧ T 1 i ≤ 65535) (ha : 0 ≤ a ∧ a ≤ 1000) {w v i : Int} (hv : 0 ≤ v ∧ v ≤ 9) (hi' : i = w - 1) (hw : 0 ≤ w ∧ w ≤ 2) {u : Option am_V} : am_den 19 (19, [some (am_A (30, 0)), some (am_I w), some (am_I lo), some (am_I hi), some (am_I v), some (am_I 1), some (am_I i), u], [], E, am_sb M 30 (ax_st T a k f g)) = some (.inl (some (am_I (ax_n1 (T 0 1) (T 1) lo hi v a).1)), E, am_sb M 30 (ax_st T (ax_n1 (T 0 1) (T 1) lo hi v a).2 k f g)) := by
  have hd := ax_dg_le (n := T 0 1) (a := a) hs
  rw [am_B19_19, if_neg (by omega), am_B19_25 hE, ax_13s hE, am_bd_v]
  simp only [Nat.reduceAdd]
  rw [am_B19_29, am_wi (z := ax_dg (T 0 1) (T 1) a - 48) (by omega) (by omega)]
  unfold ax_n1
  by_cases h1 : ax_dg (T 0 1) (T 1) a - 48 < 0
  · rw [if_pos h1, am_B19_46, if_pos (by omega)]
  · rw [if_neg h1, am_B19_39]
    by_cases h2 : ax_dg (T 0 1) (T 1) a - 48 ≤ 9
    · rw [if_pos h2, am_B19_48]
      rw [am_wi (z := v * 10) (by omega) (by omega), am_wi (z := v * 10 + (ax_dg (T 0 1) (T 1) a - 48)) (by omega) (by omega)]
      rw [Int.mul_one, am_wi (z := v * 10 + (ax_dg (T 0 1) (T 1) a - 48)) (by omega) (by omega), am_wi (z := v * 10 + (ax_dg (T 0 1) (T 1) a - 48) + 1) (by omega) (by omega), am_wi (z := v * 10 + (ax_dg (T 0 1) (T 1) a - 48) + 1 - 1) (by omega) (by omega)]
      by_cases h3 : v * 10 + (ax_dg (T 0 1) (T 1) a - 48) + 1 - 1 < lo
      · rw [if_pos h3, am_B19_81, if_pos (by omega)]
      · rw [if_neg h3, am_B19_72, Int.mul_one, am_wi (z := v * 10 + (ax_dg (T 0 1) (T 1) a - 48)) (by omega) (by omega)]
        by_cases h4 : v * 10 + (ax_dg (T 0 1) (T 1) a - 48) ≤ hi
        · rw [if_pos h4, am_B19_83 hE, am_sb_at, am_up_sb, ax_st_2, ax_st_a, am_wi (z := a + 1) (by omega) (by omega), am_B19_93, am_wi (z := i + 1) (by omega) (by omega), am_B19_19, if_pos (by omega), am_B19_106, if_neg (by omega)]
        · rw [if_neg h4, am_B19_81, if_pos (by omega)]
    · rw [if_neg h2, am_B19_46, if_pos (by omega)]
theorem ax_19_1 (hE : am_Wr E) (hs : ∀ i : Int, 0 ≤ i → i < 120 → 0 ≤ T 1 i ∧ T 1 i ≤ 65535) (ha : 0 ≤ a ∧ a ≤ 1000) {u1 u2 u3 u4 : Option am_V} : am_den 19 (0, [some (am_A (30, 0)), some (am_I 1), some (am_I lo), some (am_I hi), u1, u2, u3, u4], [], E, am_sb M 30 (ax_st T a k f g)) = some (.inl (some (am_I (ax_n1 (T 0 1) (T 1) lo hi 0 a).1)), E, am_sb M 30 (ax_st T (ax_n1 (T 0 1) (T 1) lo hi 0 a).2 k f g)) := by
  rw [am_B19_0, if_pos (by decide), am_B19_13, am_B19_14]
  exact ax_19a hE hs ha (by omega) (by omega) (by omega)
theorem ax_19_2 (hE : am_Wr E) (hs : ∀ i : Int, 0 ≤ i → i < 120 → 0 ≤ T 1 i ∧ T 1 i ≤ 65535) (ha : 0 ≤ a ∧ a ≤ 999) {u1 u2 u3 u4 : Option am_V} : am_den 19 (0, [some (am_A (30, 0)), some (am_I 2), some (am_I lo), some (am_I hi), u1, u2, u3, u4], [], E, am_sb M 30 (ax_st T a k f g)) = some (.inl (some (am_I (ax_n2 (T 0 1) (T 1) lo hi a).1)), E, am_sb M 30 (ax_st T (ax_n2 (T 0 1) (T 1) lo hi a).2 k f g)) := by
  have hd := ax_dg_le (n := T 0 1) (a := a) hs
  rw [am_B19_0, if_neg (by decide), am_B19_8, am_B19_14, am_B19_19, if_neg (by omega), am_B19_25 hE, ax_13s hE, am_bd_v]
  simp only [Nat.reduceAdd]
  rw [am_B19_29, am_wi (z := ax_dg (T 0 1) (T 1) a - 48) (by omega) (by omega)]
  unfold ax_n2
  by_cases h1 : ax_dg (T 0 1) (T 1) a - 48 < 0
  · rw [if_pos h1, am_B19_46, if_pos (by omega)]
  · rw [if_neg h1, am_B19_39]
    by_cases h2 : ax_dg (T 0 1) (T 1) a - 48 ≤ 9
    · rw [if_pos h2, am_B19_48]
      have e0 : am_w (am_w ((0 : Int) * 10) + (ax_dg (T 0 1) (T 1) a - 48)) = ax_dg (T 0 1) (T 1) a - 48 := by
        rw [am_wi (z := (0 : Int) * 10) (by omega) (by omega), am_wi (by omega) (by omega)]; omega
      rw [e0, am_wi (z := (ax_dg (T 0 1) (T 1) a - 48) * 10) (by omega) (by omega), am_wi (z := (ax_dg (T 0 1) (T 1) a - 48) * 10 + 10) (by omega) (by omega), am_wi (z := (ax_dg (T 0 1) (T 1) a - 48) * 10 + 10 - 1) (by omega) (by omega)]
      by_cases h3 : (ax_dg (T 0 1) (T 1) a - 48) * 10 + 10 - 1 < lo
      · rw [if_pos h3, am_B19_81, if_pos (by omega)]
      · rw [if_neg h3, am_B19_72, am_wi (z := (ax_dg (T 0 1) (T 1) a - 48) * 10) (by omega) (by omega)]
        by_cases h4 : (ax_dg (T 0 1) (T 1) a - 48) * 10 ≤ hi
        · rw [if_pos h4, am_B19_83 hE, am_sb_at, am_up_sb, ax_st_2, ax_st_a, am_wi (z := a + 1) (by omega) (by omega), am_B19_93, am_wi (z := (0 : Int) + 1) (by omega) (by omega), if_neg (by omega)]
          exact ax_19a hE hs (by omega) (by omega) (by omega) (by omega)
        · rw [if_neg h4, am_B19_81, if_pos (by omega)]
    · rw [if_neg h2, am_B19_46, if_pos (by omega)]
end TEXT1
