/-! ===== specs from the leaves up: rows of ints ===== -/
def am_rg (Y : Nat → Int → Int) (c : Nat) (i n : Int) (g : Int → Int) : Nat → Int → Int := fun c' j => if c' = c ∧ i ≤ j ∧ j < n then g j else Y c' j
theorem am_rg_nil {Y : Nat → Int → Int} {c : Nat} {i n : Int} {g : Int → Int} (h : n ≤ i) : am_rg Y c i n g = Y := by
  funext c' j
  unfold am_rg
  rw [if_neg (by omega)]
theorem am_rg_up {Y : Nat → Int → Int} {c : Nat} {i n : Int} {g : Int → Int} (h : i < n) : am_rg (am_uy Y c i (g i)) c (i + 1) n g = am_rg Y c i n g := by
  funext c' j
  unfold am_rg am_uy
  by_cases hc : c' = c
  · subst hc
    by_cases hj : j = i
    · subst hj
      simp [h]
    · by_cases h2 : i ≤ j ∧ j < n
      · rw [if_pos (show c' = c' ∧ i + 1 ≤ j ∧ j < n by omega), if_pos (show c' = c' ∧ i ≤ j ∧ j < n by omega)]
      · rw [if_neg (show ¬(c' = c' ∧ i + 1 ≤ j ∧ j < n) by omega), if_neg (show ¬(c' = c' ∧ i ≤ j ∧ j < n) by omega)]
        simp [hj]
  · rw [if_neg (fun q => hc q.1), if_neg hc, if_neg (fun q => hc q.1)]
theorem am_sb_sb {M : am_M} {b : Nat} {Y Y' : Nat → Int → Int} : am_sb (am_sb M b Y) b Y' = am_sb M b Y' := by
  funext b'
  unfold am_sb
  by_cases h : b' = b <;> simp [h]
theorem am_sb_self {M : am_M} {b : Nat} : am_sb M b (M b) = M := by
  funext b'
  unfold am_sb
  by_cases h : b' = b <;> simp [h]
theorem am_sb_at {M : am_M} {b : Nat} {Y : Nat → Int → Int} : am_sb M b Y b = Y := by simp [am_sb]
theorem am_sb_ne {M : am_M} {b b' : Nat} {Y : Nat → Int → Int} (h : b' ≠ b) : am_sb M b Y b' = M b' := by simp [am_sb, h]
theorem am_wi {z : Int} (h1 : -2147483648 ≤ z) (h2 : z < 2147483648) : am_w z = z := by
  unfold am_w
  rw [Int.bmod_def]
  omega
theorem am_fill_l {E : am_E} {r : am_R} {v : Int} {n : Nat} (hk : am_kd E r = some (6, n)) (hn : n ≤ 4096) : ∀ (m : Nat) (M : am_M) (i : Int), 0 ≤ i → (n : Int) - i = m → am_den 114 (2, [some (am_A r), some (am_I v), some (am_I i)], [], E, M) = some (.inl none, E, am_sb M r.1 (am_rg (M r.1) r.2 i n (fun _ => v))) := by
  intro m
  induction m with
  | zero =>
    intro M i h0 hm
    rw [am_B114_2 hk, if_pos (by omega), am_B114_18, am_rg_nil (by omega), am_sb_self]
  | succ m ih =>
    intro M i h0 hm
    rw [am_B114_2 hk, if_neg (by omega), am_B114_8 hk (by omega), am_B114_12, am_wi (by omega) (by omega), ih _ _ (by omega) (by omega)]
    unfold am_up
    rw [am_sb_at, am_sb_sb, am_rg_up (g := fun _ => v) (by omega)]
theorem am_s114 {E : am_E} {M : am_M} {r : am_R} {v : Int} {u : Option am_V} {n : Nat} (hk : am_kd E r = some (6, n)) (hn : n ≤ 4096) : am_den 114 (0, [some (am_A r), some (am_I v), u], [], E, M) = some (.inl none, E, am_sb M r.1 (am_rg (M r.1) r.2 0 n (fun _ => v))) := by
  rw [am_B114_0, am_fill_l hk hn n _ _ (by omega) (by omega)]
theorem am_s113 {E : am_E} {M : am_M} {r : am_R} {i v : Int} {n : Nat} (hk : am_kd E r = some (6, n)) : am_den 113 (0, [some (am_A r), some (am_I i), some (am_I v)], [], E, M) = some (.inl none, E, if 0 ≤ i ∧ i < n then am_up M r i v else M) := by
  rw [am_B113_0]
  by_cases h : i < 0
  · rw [if_pos h, am_B113_14, if_neg (by omega)]
  · rw [if_neg h, am_B113_4 hk]
    by_cases h2 : (n : Int) ≤ i
    · rw [if_pos h2, am_B113_14, if_neg (by omega)]
    · rw [if_neg h2, am_B113_10 hk (by omega), am_B113_14, if_pos (by omega)]
theorem am_s112 {E : am_E} {M : am_M} {r : am_R} {i : Int} {n : Nat} (hk : am_kd E r = some (6, n)) : am_den 112 (0, [some (am_A r), some (am_I i)], [], E, M) = some (.inl (some (am_I (if 0 ≤ i ∧ i < n then M r.1 r.2 i else -1))), E, M) := by
  rw [am_B112_0]
  by_cases h : i < 0
  · rw [if_pos h, am_B112_16, am_B112_17, if_neg (by omega)]
  · rw [if_neg h, am_B112_4 hk]
    by_cases h2 : (n : Int) ≤ i
    · rw [if_pos h2, am_B112_16, am_B112_17, if_neg (by omega)]
    · rw [if_neg h2, am_B112_10 hk (by omega), am_B112_17, if_pos (by omega)]
theorem am_copy_l {E : am_E} {r r' : am_R} {n : Nat} (hk : am_kd E r = some (6, n)) (hk' : am_kd E r' = some (6, n)) (hn : n ≤ 4096) (hne : r ≠ r') : ∀ (m : Nat) (M : am_M) (i : Int), 0 ≤ i → (n : Int) - i = m → am_den 115 (2, [some (am_A r), some (am_A r'), some (am_I i)], [], E, M) = some (.inl none, E, am_sb M r'.1 (am_rg (M r'.1) r'.2 i n (M r.1 r.2))) := by
  intro m
  induction m with
  | zero =>
    intro M i h0 hm
    rw [am_B115_2 hk, if_pos (by omega), am_B115_26, am_rg_nil (by omega), am_sb_self]
  | succ m ih =>
    intro M i h0 hm
    rw [am_B115_2 hk, if_neg (by omega), am_B115_8 hk', if_neg (by omega), am_B115_14 hk hk' (by omega) (by omega), am_B115_20, am_wi (by omega) (by omega), ih _ _ (by omega) (by omega), am_up_ne hne]
    unfold am_up
    rw [am_sb_at, am_sb_sb, am_rg_up (g := M r.1 r.2) (by omega)]
theorem am_s115 {E : am_E} {M : am_M} {r r' : am_R} {u : Option am_V} {n : Nat} (hk : am_kd E r = some (6, n)) (hk' : am_kd E r' = some (6, n)) (hn : n ≤ 4096) (hne : r ≠ r') : am_den 115 (0, [some (am_A r), some (am_A r'), u], [], E, M) = some (.inl none, E, am_sb M r'.1 (am_rg (M r'.1) r'.2 0 n (M r.1 r.2))) := by
  rw [am_B115_0, am_copy_l hk hk' hn hne n _ _ (by omega) (by omega)]
