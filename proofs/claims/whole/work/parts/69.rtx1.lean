/-! ===== the reference reads its text ===== -/
theorem rt_sw {M : am_M} {a b : Nat} {f g : Int → Int} (h : a ≠ b) : ar_s (ar_s M a f) b g = ar_s (ar_s M b g) a f := by
  funext c i
  unfold ar_s
  by_cases h1 : c = b ∧ i = 0
  · rw [if_pos h1, if_neg (by omega), if_pos h1]
  · rw [if_neg h1]
    by_cases h2 : c = a ∧ i = 0
    · rw [if_pos h2, if_pos h2]
    · rw [if_neg h2, if_neg h2, if_neg h1]
theorem rt_uu {g : Int → Int} {j v w : Int} : ar_u (ar_u g j v) j w = ar_u g j w := by
  funext i
  unfold ar_u
  by_cases h : i = j
  · rw [if_pos h, if_pos h]
  · rw [if_neg h, if_neg h, if_neg h]
section RTX1
variable {E : am_E} {N : am_M} {g : Int → Int} {lo hi x1 : Int}
theorem rt_dg (hs : ∀ i : Int, 0 ≤ i → i < 120 → 0 ≤ N 36 0 i ∧ N 36 0 i ≤ 65535) (hE : am_Wr E) (hn : g 2 ≤ 120) (ha : 0 ≤ g 11) {x2 x3 x4 x5 x6 : Int} {u7 u8 : Option am_V} : am_den 158 (26, [some (am_A (35, 0)), some (am_I x1), some (am_I x2), some (am_I x3), some (am_I x4), some (am_I x5), some (am_I x6), u7, u8], [], E, ar_s N 35 g) = am_den 158 (53, [some (am_A (35, 0)), some (am_I x1), some (am_I x2), some (am_I x3), some (am_I x4), some (am_I x5), some (am_I x6), u7, u8], [am_I (if ax_dg (g 2) (N 36 0) (g 11) = -1 then -1 else ax_dg (g 2) (N 36 0) (g 11) - 48)], E, ar_s N 35 g) := by
  rw [am_B158_26 hE, ar_s_at]
  by_cases q : g 2 ≤ g 11
  · rw [if_pos q, am_B158_52]
    have e : ax_dg (g 2) (N 36 0) (g 11) = -1 := by
      unfold ax_dg
      rw [if_neg (by omega)]
    rw [if_pos e]
  · have e : ax_dg (g 2) (N 36 0) (g 11) = N 36 0 (g 11) := by
      unfold ax_dg
      rw [if_pos (by omega)]
    have hb := hs (g 11) ha (by omega)
    rw [if_neg q, am_B158_37 hE (by rw [ar_s_at]; omega), ar_s_at, ar_s_ne (by decide), am_wi (by omega) (by omega), e, if_neg (by omega)]
/-- one digit behind v -/
theorem rt_last (hs : ∀ i : Int, 0 ≤ i → i < 120 → 0 ≤ N 36 0 i ∧ N 36 0 i ≤ 65535) (hE : am_Wr E) (hn : g 2 ≤ 120) (ha : 0 ≤ g 11 ∧ g 11 ≤ 1000) (h1 : x1 ≠ -1) {w v : Int} (hv : 0 ≤ v ∧ v ≤ 9) {u7 u8 : Option am_V} : am_den 158 (16, [some (am_A (35, 0)), some (am_I x1), some (am_I w), some (am_I lo), some (am_I hi), some (am_I (v * 10)), some (am_I 1), u7, u8], [], E, ar_s N 35 g) = some (.inl (some (am_I (ax_n1 (g 2) (N 36 0) lo hi v (g 11)).1)), E, ar_s N 35 (ar_u g 11 (ax_n1 (g 2) (N 36 0) lo hi v (g 11)).2)) := by
  have hd := ax_dg_le (n := g 2) (a := g 11) hs
  rw [am_B158_16, if_neg (by decide), am_B158_21, if_neg h1, rt_dg hs hE hn ha.1]
  obtain ⟨d, ed⟩ : ∃ d, ax_dg (g 2) (N 36 0) (g 11) = d := ⟨_, rfl⟩
  rw [ed] at hd ⊢
  unfold ax_n1
  rw [ed]
  have e1 : ∀ t, am_w (t * 1) = am_w t := fun t => by rw [Int.mul_one]
  rw [am_B158_53, ar_120, am_bd_v]
  simp only [Nat.reduceAdd]
  rw [am_B158_75]
  by_cases q : d < 48 ∨ 57 < d
  · have q2 : ¬(0 ≤ (if d = -1 then -1 else d - 48) ∧ (if d = -1 then (-1 : Int) else d - 48) ≤ 9) := by split <;> omega
    rw [if_pos (show am_b _ = 0 by rw [am_b_0]; exact q2), am_B158_96, if_pos (by omega), ar_u_self]
  · have e2 : (if d = -1 then (-1 : Int) else d - 48) = d - 48 := if_neg (by omega)
    rw [e2, if_neg (show ¬ am_b (0 ≤ d - 48 ∧ d - 48 ≤ 9) = 0 by rw [am_b_0]; omega), am_B158_78, e1, am_wi (z := d - 48) (by omega) (by omega), am_wi (z := v * 10 + (d - 48)) (by omega) (by omega)]
    by_cases q3 : hi < v * 10 + (d - 48)
    · rw [if_pos q3, am_B158_96, if_pos (by omega), ar_u_self]
    · rw [if_neg q3, am_B158_85, am_wi (z := v * 10 + (d - 48) + 1) (by omega) (by omega), am_wi (z := v * 10 + (d - 48) + 1 - 1) (by omega) (by omega)]
      by_cases q4 : lo ≤ v * 10 + (d - 48) + 1 - 1
      · rw [if_pos q4, am_B158_98 hE, ar_s_at, am_wi (by omega) (by omega), ar_up, am_B158_112, am_B158_16, if_pos (by decide), am_B158_122, if_pos h1, am_B158_131, am_B158_133, if_neg (by omega)]
      · rw [if_neg q4, am_B158_96, if_pos (by omega), ar_u_self]
theorem rt_158_1 (hs : ∀ i : Int, 0 ≤ i → i < 120 → 0 ≤ N 36 0 i ∧ N 36 0 i ≤ 65535) (hE : am_Wr E) (hn : g 2 ≤ 120) (ha : 0 ≤ g 11 ∧ g 11 ≤ 1000) (h1 : x1 ≠ -1) {u5 u6 u7 u8 : Option am_V} : am_den 158 (0, [some (am_A (35, 0)), some (am_I x1), some (am_I 1), some (am_I lo), some (am_I hi), u5, u6, u7, u8], [], E, ar_s N 35 g) = some (.inl (some (am_I (ax_n1 (g 2) (N 36 0) lo hi 0 (g 11)).1)), E, ar_s N 35 (ar_u g 11 (ax_n1 (g 2) (N 36 0) lo hi 0 (g 11)).2)) := by
  rw [am_B158_0, if_pos (by decide), am_B158_13, am_B158_14]
  exact rt_last (v := 0) hs hE hn ha h1 (by omega)
theorem rt_158_2 (hs : ∀ i : Int, 0 ≤ i → i < 120 → 0 ≤ N 36 0 i ∧ N 36 0 i ≤ 65535) (hE : am_Wr E) (hn : g 2 ≤ 120) (ha : 0 ≤ g 11 ∧ g 11 ≤ 900) (h1 : x1 ≠ -1) {u5 u6 u7 u8 : Option am_V} : am_den 158 (0, [some (am_A (35, 0)), some (am_I x1), some (am_I 2), some (am_I lo), some (am_I hi), u5, u6, u7, u8], [], E, ar_s N 35 g) = some (.inl (some (am_I (ax_n2 (g 2) (N 36 0) lo hi (g 11)).1)), E, ar_s N 35 (ar_u g 11 (ax_n2 (g 2) (N 36 0) lo hi (g 11)).2)) := by
  have hd := ax_dg_le (n := g 2) (a := g 11) hs
  rw [am_B158_0, if_neg (by decide), am_B158_8, am_B158_14, am_B158_16, if_neg (by decide), am_B158_21, if_neg h1, rt_dg hs hE hn ha.1]
  obtain ⟨d, ed⟩ : ∃ d, ax_dg (g 2) (N 36 0) (g 11) = d := ⟨_, rfl⟩
  rw [ed] at hd ⊢
  unfold ax_n2
  rw [ed]
  rw [am_B158_53, ar_120, am_bd_v]
  simp only [Nat.reduceAdd]
  rw [am_B158_75]
  by_cases q : d < 48 ∨ 57 < d
  · have q2 : ¬(0 ≤ (if d = -1 then -1 else d - 48) ∧ (if d = -1 then (-1 : Int) else d - 48) ≤ 9) := by split <;> omega
    rw [if_pos (show am_b _ = 0 by rw [am_b_0]; exact q2), am_B158_96, if_pos (by omega), ar_u_self]
  · have e2 : (if d = -1 then (-1 : Int) else d - 48) = d - 48 := if_neg (by omega)
    rw [e2, if_neg (show ¬ am_b (0 ≤ d - 48 ∧ d - 48 ≤ 9) = 0 by rw [am_b_0]; omega), am_B158_78, am_wi (z := (d - 48) * 10) (by omega) (by omega), am_wi (z := 0 + (d - 48) * 10) (by omega) (by omega), Int.zero_add]
    by_cases q3 : hi < (d - 48) * 10
    · rw [if_pos q3, am_B158_96, if_pos (by omega), ar_u_self]
    · rw [if_neg q3, am_B158_85, am_wi (z := (d - 48) * 10 + 10) (by omega) (by omega), am_wi (z := (d - 48) * 10 + 10 - 1) (by omega) (by omega)]
      by_cases q4 : lo ≤ (d - 48) * 10 + 10 - 1
      · rw [if_pos q4, am_B158_98 hE, ar_s_at, am_wi (by omega) (by omega), ar_up, am_B158_112, if_neg (by omega)]
        have h := rt_last (N := N) (g := ar_u g 11 (g 11 + 1)) (lo := lo) (hi := hi) (x1 := x1) (w := 2) (v := d - 48) (u7 := some (am_I (d - 48))) (u8 := some (am_I ((d - 48) * 10))) hs hE (by rw [ar_u_ne (by decide)]; exact hn) (by rw [ar_u_eq]; omega) h1 (by omega)
        rw [ar_u_ne (show (2 : Int) ≠ 11 by decide), ar_u_eq, rt_uu] at h
        exact h
      · rw [if_neg q4, am_B158_96, if_pos (by omega), ar_u_self]
theorem rt_158_n (hE : am_Wr E) {w : Int} {M : am_M} (hw : w = 1 ∨ w = 2) {u5 u6 u7 u8 : Option am_V} : am_den 158 (0, [some (am_A (35, 0)), some (am_I (-1)), some (am_I w), some (am_I lo), some (am_I hi), u5, u6, u7, u8], [], E, M) = some (.inl (some (am_I (-1))), E, M) := by
  rw [am_B158_0]
  rcases hw with h | h
  · rw [if_pos (by omega), am_B158_13, am_B158_14, am_B158_16, if_neg (by decide), am_B158_21, if_pos rfl, am_B158_122, if_neg (by decide), am_B158_127, am_B158_133]
  · rw [if_neg (by omega), am_B158_8, am_B158_14, am_B158_16, if_neg (by decide), am_B158_21, if_pos rfl, am_B158_122, if_neg (by decide), am_B158_127, am_B158_133]
theorem rt_160 (hs : ∀ i : Int, 0 ≤ i → i < 120 → 0 ≤ N 36 0 i ∧ N 36 0 i ≤ 65535) (hE : am_Wr E) (hn : g 2 ≤ 120) (ha : 0 ≤ g 11 ∧ g 11 ≤ 1000) (h1 : x1 ≠ -1) : am_den 160 (0, [some (am_A (35, 0)), some (am_I x1)], [], E, ar_s N 35 g) = some (.inl (some (am_I (ax_n1 (g 2) (N 36 0) 0 3 0 (g 11)).1)), E, ar_s N 35 (ar_u g 11 (ax_n1 (g 2) (N 36 0) 0 3 0 (g 11)).2)) := by
  rw [am_B160_0 hE, rt_158_1 hs hE hn ha h1, am_bd_v]
  simp only [Nat.reduceAdd]
  rw [am_B160_8]
theorem rt_160_n (hE : am_Wr E) {M : am_M} : am_den 160 (0, [some (am_A (35, 0)), some (am_I (-1))], [], E, M) = some (.inl (some (am_I (-1))), E, M) := by
  rw [am_B160_0 hE, rt_158_n hE (Or.inl rfl), am_bd_v]
  simp only [Nat.reduceAdd]
  rw [am_B160_8]
theorem rt_159 (hE : am_Wr E) {v : Int} (ho : 0 ≤ g 12 ∧ g 12 ≤ 1000) : am_den 159 (0, [some (am_A (35, 0)), some (am_I v)], [], E, ar_s N 35 g) = some (.inl (some (am_I 1)), E, ar_s N 35 (ar_u g 12 (if v = 0 then g 12 + 1 else g 12))) := by
  rw [am_B159_0 hE, ar_s_at]
  by_cases h : v = 0
  · rw [if_pos h, if_pos h, am_B159_13, am_B159_14 hE, ar_up, am_B159_18, am_wi (by omega) (by omega)]
  · rw [if_neg h, if_neg h, am_B159_9, am_B159_14 hE, ar_up, am_B159_18, am_wi (by omega) (by omega), Int.add_zero]
end RTX1
