/-! ===== specs: a command of the text is read ===== -/
theorem ax_n1_le {n lo hi v a : Int} {s : Int → Int} : a ≤ (ax_n1 n s lo hi v a).2 ∧ (ax_n1 n s lo hi v a).2 ≤ a + 1 := by
  unfold ax_n1
  split
  · exact ⟨Int.le_refl _, by omega⟩
  · exact ⟨by omega, Int.le_refl _⟩
theorem ax_n2_le {n lo hi a : Int} {s : Int → Int} : a ≤ (ax_n2 n s lo hi a).2 ∧ (ax_n2 n s lo hi a).2 ≤ a + 2 := by
  unfold ax_n2
  split
  · exact ⟨Int.le_refl _, by omega⟩
  · have := ax_n1_le (n := n) (s := s) (lo := lo) (hi := hi) (v := ax_dg n s a - 48) (a := a + 1)
    omega
def ax_c1 (p : Int × Int) : Int × Int × Int × Int := (am_b (p.1 ≠ -1), p.2, p.1, 0)
def ax_c2 (p q : Int × Int) : Int × Int × Int × Int := if p.1 = -1 then (0, p.2, -1, 0) else (am_b (q.1 ≠ -1), q.2, p.1, q.1)
def ax_c3 (p : Int × Int) (d : Int) : Int × Int × Int × Int := if p.1 = -1 then (0, p.2, -1, 0) else if d = 43 then (1, p.2 + 1, p.1, 1) else if d = 45 then (1, p.2 + 1, p.1, 0) else (0, p.2, p.1, 0)
def ax_cm (n : Int) (s : Int → Int) (a k : Int) : Int × Int × Int × Int :=
  if k = 112 then (1, a + 1, 0, 0) else if k = 108 then ax_c2 (ax_n1 n s 0 3 0 (a + 1)) (ax_n2 n s 0 99 (ax_n1 n s 0 3 0 (a + 1)).2)
  else if k = 100 ∨ k = 109 then ax_c1 (ax_n1 n s 0 3 0 (a + 1)) else if k = 107 then ax_c1 (ax_n2 n s 0 23 (a + 1))
  else if k = 106 then ax_c2 (ax_n1 n s 0 3 0 (a + 1)) (ax_n1 n s 0 3 0 (ax_n1 n s 0 3 0 (a + 1)).2)
  else if k = 99 then ax_c3 (ax_n1 n s 0 3 0 (a + 1)) (ax_dg n s (ax_n1 n s 0 3 0 (a + 1)).2)
  else if k = 119 ∨ k = 114 then ax_c1 (ax_n2 n s 1 30 (a + 1)) else if k = 110 then ax_c1 (ax_n1 n s 1 9 0 (a + 1)) else (0, a, 0, 0)
section TEXT2
variable {E : am_E} {M : am_M} {T : Nat → Int → Int} {a k f g lo hi : Int}
theorem ax_16 (hE : am_Wr E) {w : Int} {r : Int × Int} (h : am_den 19 (0, [some (am_A (30, 0)), some (am_I w), some (am_I lo), some (am_I hi), none, none, none, none], [], E, am_sb M 30 (ax_st T a k f g)) = some (.inl (some (am_I r.1)), E, am_sb M 30 (ax_st T r.2 k f g))) : am_den 16 (0, [some (am_A (30, 0)), some (am_I w), some (am_I lo), some (am_I hi)], [], E, am_sb M 30 (ax_st T a k f g)) = some (.inl (some (am_I (am_b (r.1 ≠ -1)))), E, am_sb M 30 (ax_st T r.2 k r.1 g)) := by
  rw [am_B16_0 hE, h, am_bd_v]
  simp only [Nat.reduceAdd]
  rw [am_B16_8 hE, am_up_sb, ax_st_f, am_B16_11 hE, am_sb_at, ax_st_4]
  by_cases q : r.1 = -1
  · rw [if_pos q, am_B16_23, am_B16_24 (Or.inl rfl), am_b, if_neg (fun z => z q)]
  · rw [if_neg q, am_B16_19, am_B16_24 (Or.inr rfl), am_b, if_pos q]
theorem ax_17 (hE : am_Wr E) {w : Int} {r : Int × Int} (h : am_den 19 (0, [some (am_A (30, 0)), some (am_I w), some (am_I lo), some (am_I hi), none, none, none, none], [], E, am_sb M 30 (ax_st T a k f g)) = some (.inl (some (am_I r.1)), E, am_sb M 30 (ax_st T r.2 k f g))) : am_den 17 (0, [some (am_A (30, 0)), some (am_I w), some (am_I lo), some (am_I hi)], [], E, am_sb M 30 (ax_st T a k f g)) = some (.inl (some (am_I (am_b (r.1 ≠ -1)))), E, am_sb M 30 (ax_st T r.2 k f r.1)) := by
  rw [am_B17_0 hE, h, am_bd_v]
  simp only [Nat.reduceAdd]
  rw [am_B17_8 hE, am_up_sb, ax_st_g, am_B17_11 hE, am_sb_at, ax_st_5]
  by_cases q : r.1 = -1
  · rw [if_pos q, am_B17_23, am_B17_24 (Or.inl rfl), am_b, if_neg (fun z => z q)]
  · rw [if_neg q, am_B17_19, am_B17_24 (Or.inr rfl), am_b, if_pos q]
theorem ax_15 (hE : am_Wr E) (hs : ∀ i : Int, 0 ≤ i → i < 120 → 0 ≤ T 1 i ∧ T 1 i ≤ 65535) (ha : 0 ≤ a ∧ a ≤ 1000) : am_den 15 (0, [some (am_A (30, 0))], [], E, am_sb M 30 (ax_st T a k f g)) = some (.inl (some (am_I (am_b ((ax_n1 (T 0 1) (T 1) 0 3 0 a).1 ≠ -1)))), E, am_sb M 30 (ax_st T (ax_n1 (T 0 1) (T 1) 0 3 0 a).2 k (ax_n1 (T 0 1) (T 1) 0 3 0 a).1 g)) := by
  rw [am_B15_0 hE, ax_16 hE (ax_19_1 hE hs ha), am_bd_v]
  simp only [Nat.reduceAdd]
  rw [am_B15_7 am_b_z]
theorem ax_18 (hE : am_Wr E) (ha : 0 ≤ a ∧ a ≤ 1000) {u : Option am_V} : am_den 18 (0, [some (am_A (30, 0)), u], [], E, am_sb M 30 (ax_st T a k f g)) = some (.inl (some (am_I (am_b (ax_dg (T 0 1) (T 1) a = 43 ∨ ax_dg (T 0 1) (T 1) a = 45)))), E, am_sb M 30 (if ax_dg (T 0 1) (T 1) a = 43 then ax_st T (a + 1) k f 1 else if ax_dg (T 0 1) (T 1) a = 45 then ax_st T (a + 1) k f 0 else ax_st T a k f g)) := by
  rw [am_B18_0 hE, ax_13s hE, am_bd_v]
  simp only [Nat.reduceAdd]
  rw [am_B18_4]
  by_cases q1 : ax_dg (T 0 1) (T 1) a = 43
  · rw [if_pos q1, if_pos q1, am_B18_19 hE, am_sb_at, ax_st_2, am_up_sb, ax_st_a, am_wi (by omega) (by omega), am_B18_29, if_neg (by omega), am_B18_36, am_B18_41 hE, am_up_sb, ax_st_g, am_B18_44, am_b, if_pos (Or.inl q1)]
  · rw [if_neg q1, if_neg q1, am_B18_11]
    by_cases q2 : ax_dg (T 0 1) (T 1) a = 45
    · rw [if_pos q2, if_pos q2, am_B18_19 hE, am_sb_at, ax_st_2, am_up_sb, ax_st_a, am_wi (by omega) (by omega), am_B18_29, if_pos (by omega), am_B18_40, am_B18_41 hE, am_up_sb, ax_st_g, am_B18_44, am_b, if_pos (Or.inr q2)]
    · rw [if_neg q2, if_neg q2, am_B18_17, am_b, if_neg (fun z => z.elim q1 q2)]
theorem ax_14 (hE : am_Wr E) (hs : ∀ i : Int, 0 ≤ i → i < 120 → 0 ≤ T 1 i ∧ T 1 i ≤ 65535) (ha : 0 ≤ a ∧ a ≤ 900) {u : Option am_V} : am_den 14 (0, [some (am_A (30, 0)), u], [], E, am_sb M 30 (ax_st T a k f g)) = some (.inl (some (am_I (ax_cm (T 0 1) (T 1) a (ax_dg (T 0 1) (T 1) a)).1)), E, am_sb M 30 (ax_st T (ax_cm (T 0 1) (T 1) a (ax_dg (T 0 1) (T 1) a)).2.1 (ax_dg (T 0 1) (T 1) a) (ax_cm (T 0 1) (T 1) a (ax_dg (T 0 1) (T 1) a)).2.2.1 (ax_cm (T 0 1) (T 1) a (ax_dg (T 0 1) (T 1) a)).2.2.2)) := by
  rw [am_B14_0 hE, ax_13s hE, am_bd_v, am_sb_at, ax_st_2]
  simp only [Nat.reduceAdd]
  rw [am_B14_10 hE, am_up_sb, ax_st_k, am_B14_13 hE, am_up_sb, ax_st_f, am_B14_18 hE, am_up_sb, ax_st_g, am_B14_23 hE, am_up_sb, ax_st_a, am_wi (by omega) (by omega), am_B14_30 hE, am_sb_at, ax_st_3]
  generalize ax_dg (T 0 1) (T 1) a = k
  have b1 := fun lo hi v => ax_n1_le (n := T 0 1) (s := T 1) (lo := lo) (hi := hi) (v := v) (a := a + 1)
  have hd : k < 99 ∨ 119 < k ∨ (k = 101 ∨ k = 102 ∨ k = 103 ∨ k = 104 ∨ k = 105 ∨ k = 111 ∨ k = 113 ∨ k = 115 ∨ k = 116 ∨ k = 117 ∨ k = 118) → am_den 14 (233, [some (am_A (30, 0)), some (am_I a)], [], E, am_sb M 30 (ax_st T (a + 1) k 0 0)) = some (.inl (some (am_I (ax_cm (T 0 1) (T 1) a k).1)), E, am_sb M 30 (ax_st T (ax_cm (T 0 1) (T 1) a k).2.1 k (ax_cm (T 0 1) (T 1) a k).2.2.1 (ax_cm (T 0 1) (T 1) a k).2.2.2)) := by
    intro hk
    have e : ax_cm (T 0 1) (T 1) a k = (0, a, 0, 0) := by
      unfold ax_cm
      repeat' split
      all_goals first | rfl | (exfalso; omega)
    rw [e, am_B14_233 hE, am_up_sb, ax_st_a, am_B14_238]
  by_cases hk0 : k < 99 ∨ 119 < k
  · rw [am_S14_34d hk0]
    exact hd (by omega)
  · have hk : k = 99 ∨ k = 100 ∨ k = 101 ∨ k = 102 ∨ k = 103 ∨ k = 104 ∨ k = 105 ∨ k = 106 ∨ k = 107 ∨ k = 108 ∨ k = 109 ∨ k = 110 ∨ k = 111 ∨ k = 112 ∨ k = 113 ∨ k = 114 ∨ k = 115 ∨ k = 116 ∨ k = 117 ∨ k = 118 ∨ k = 119 := by omega
    rcases hk with h | h | h | h | h | h | h | h | h | h | h | h | h | h | h | h | h | h | h | h | h
    · rw [am_S14_34v99 h, h]
      have hp := b1 0 3 0
      have e : ax_cm (T 0 1) (T 1) a 99 = ax_c3 (ax_n1 (T 0 1) (T 1) 0 3 0 (a + 1)) (ax_dg (T 0 1) (T 1) (ax_n1 (T 0 1) (T 1) 0 3 0 (a + 1)).2) := rfl
      rw [e, am_B14_195 hE, ax_15 hE hs (by omega), am_bd_v]
      simp only [Nat.reduceAdd]
      rw [am_B14_199]
      unfold ax_c3
      by_cases q1 : (ax_n1 (T 0 1) (T 1) 0 3 0 (a + 1)).1 = -1
      · rw [if_pos (by rw [am_b_0]; exact fun z => z q1), am_B14_213, am_B14_214 (Or.inl rfl), if_pos q1, q1]
      · rw [if_neg (by rw [am_b_0]; exact fun z => z q1), am_B14_202 hE, ax_18 hE (by omega), am_bd_v, if_neg q1]
        simp only [Nat.reduceAdd]
        rw [am_B14_206]
        by_cases q2 : ax_dg (T 0 1) (T 1) (ax_n1 (T 0 1) (T 1) 0 3 0 (a + 1)).2 = 43
        · rw [if_neg (by rw [am_b_0]; exact fun z => z (Or.inl q2)), if_pos q2, if_pos q2, am_B14_209, am_B14_214 (Or.inr rfl)]
        · by_cases q3 : ax_dg (T 0 1) (T 1) (ax_n1 (T 0 1) (T 1) 0 3 0 (a + 1)).2 = 45
          · rw [if_neg (by rw [am_b_0]; exact fun z => z (Or.inr q3)), if_neg q2, if_neg q2, if_pos q3, if_pos q3, am_B14_209, am_B14_214 (Or.inr rfl)]
          · rw [if_pos (by rw [am_b_0]; exact fun z => z.elim q2 q3), if_neg q2, if_neg q2, if_neg q3, if_neg q3, am_B14_213, am_B14_214 (Or.inl rfl)]
    · rw [am_S14_34v100 h, h]
      have e : ax_cm (T 0 1) (T 1) a 100 = ax_c1 (ax_n1 (T 0 1) (T 1) 0 3 0 (a + 1)) := rfl
      rw [e, am_B14_158 hE, ax_15 hE hs (by omega), am_bd_v]
      simp only [Nat.reduceAdd]
      rw [am_B14_162 am_b_z]
      rfl
    · rw [am_S14_34v101 h]
      exact hd (by omega)
    · rw [am_S14_34v102 h]
      exact hd (by omega)
    · rw [am_S14_34v103 h]
      exact hd (by omega)
    · rw [am_S14_34v104 h]
      exact hd (by omega)
    · rw [am_S14_34v105 h]
      exact hd (by omega)
    · rw [am_S14_34v106 h, h]
      have hp := b1 0 3 0
      have e : ax_cm (T 0 1) (T 1) a 106 = ax_c2 (ax_n1 (T 0 1) (T 1) 0 3 0 (a + 1)) (ax_n1 (T 0 1) (T 1) 0 3 0 (ax_n1 (T 0 1) (T 1) 0 3 0 (a + 1)).2) := rfl
      rw [e, am_B14_172 hE, ax_15 hE hs (by omega), am_bd_v]
      simp only [Nat.reduceAdd]
      rw [am_B14_176]
      unfold ax_c2
      by_cases q1 : (ax_n1 (T 0 1) (T 1) 0 3 0 (a + 1)).1 = -1
      · rw [if_pos (by rw [am_b_0]; exact fun z => z q1), am_B14_193, am_B14_194 (Or.inl rfl), if_pos q1, q1]
      · rw [if_neg (by rw [am_b_0]; exact fun z => z q1), am_B14_179 hE, ax_17 hE (ax_19_1 hE hs (by omega)), am_bd_v, if_neg q1]
        simp only [Nat.reduceAdd]
        rw [am_B14_186]
        by_cases q2 : (ax_n1 (T 0 1) (T 1) 0 3 0 (ax_n1 (T 0 1) (T 1) 0 3 0 (a + 1)).2).1 = -1
        · rw [if_pos (by rw [am_b_0]; exact fun z => z q2), am_B14_193, am_B14_194 (Or.inl rfl), am_b, if_neg (fun z => z q2)]
        · rw [if_neg (by rw [am_b_0]; exact fun z => z q2), am_B14_189, am_B14_194 (Or.inr rfl), am_b, if_pos q2]
    · rw [am_S14_34v107 h, h]
      have e : ax_cm (T 0 1) (T 1) a 107 = ax_c1 (ax_n2 (T 0 1) (T 1) 0 23 (a + 1)) := rfl
      rw [e, am_B14_163 hE, ax_16 hE (ax_19_2 hE hs (by omega)), am_bd_v]
      simp only [Nat.reduceAdd]
      rw [am_B14_171 am_b_z]
      rfl
    · rw [am_S14_34v108 h, h]
      have hp := b1 0 3 0
      have e : ax_cm (T 0 1) (T 1) a 108 = ax_c2 (ax_n1 (T 0 1) (T 1) 0 3 0 (a + 1)) (ax_n2 (T 0 1) (T 1) 0 99 (ax_n1 (T 0 1) (T 1) 0 3 0 (a + 1)).2) := rfl
      rw [e, am_B14_134 hE, ax_15 hE hs (by omega), am_bd_v]
      simp only [Nat.reduceAdd]
      rw [am_B14_138]
      unfold ax_c2
      by_cases q1 : (ax_n1 (T 0 1) (T 1) 0 3 0 (a + 1)).1 = -1
      · rw [if_pos (by rw [am_b_0]; exact fun z => z q1), am_B14_156, am_B14_157 (Or.inl rfl), if_pos q1, q1]
      · rw [if_neg (by rw [am_b_0]; exact fun z => z q1), am_B14_141 hE, ax_17 hE (ax_19_2 hE hs (by omega)), am_bd_v, if_neg q1]
        simp only [Nat.reduceAdd]
        rw [am_B14_149]
        by_cases q2 : (ax_n2 (T 0 1) (T 1) 0 99 (ax_n1 (T 0 1) (T 1) 0 3 0 (a + 1)).2).1 = -1
        · rw [if_pos (by rw [am_b_0]; exact fun z => z q2), am_B14_156, am_B14_157 (Or.inl rfl), am_b, if_neg (fun z => z q2)]
        · rw [if_neg (by rw [am_b_0]; exact fun z => z q2), am_B14_152, am_B14_157 (Or.inr rfl), am_b, if_pos q2]
    · rw [am_S14_34v109 h, h]
      have e : ax_cm (T 0 1) (T 1) a 109 = ax_c1 (ax_n1 (T 0 1) (T 1) 0 3 0 (a + 1)) := rfl
      rw [e, am_B14_158 hE, ax_15 hE hs (by omega), am_bd_v]
      simp only [Nat.reduceAdd]
      rw [am_B14_162 am_b_z]
      rfl
    · rw [am_S14_34v110 h, h]
      have e : ax_cm (T 0 1) (T 1) a 110 = ax_c1 (ax_n1 (T 0 1) (T 1) 1 9 0 (a + 1)) := rfl
      rw [e, am_B14_224 hE, ax_16 hE (ax_19_1 hE hs (by omega)), am_bd_v]
      simp only [Nat.reduceAdd]
      rw [am_B14_232 am_b_z]
      rfl
    · rw [am_S14_34v111 h]
      exact hd (by omega)
    · rw [am_S14_34v112 h, am_B14_132, h]
      rfl
    · rw [am_S14_34v113 h]
      exact hd (by omega)
    · rw [am_S14_34v114 h, h]
      have e : ax_cm (T 0 1) (T 1) a 114 = ax_c1 (ax_n2 (T 0 1) (T 1) 1 30 (a + 1)) := rfl
      rw [e, am_B14_215 hE, ax_16 hE (ax_19_2 hE hs (by omega)), am_bd_v]
      simp only [Nat.reduceAdd]
      rw [am_B14_223 am_b_z]
      rfl
    · rw [am_S14_34v115 h]
      exact hd (by omega)
    · rw [am_S14_34v116 h]
      exact hd (by omega)
    · rw [am_S14_34v117 h]
      exact hd (by omega)
    · rw [am_S14_34v118 h]
      exact hd (by omega)
    · rw [am_S14_34v119 h, h]
      have e : ax_cm (T 0 1) (T 1) a 119 = ax_c1 (ax_n2 (T 0 1) (T 1) 1 30 (a + 1)) := rfl
      rw [e, am_B14_215 hE, ax_16 hE (ax_19_2 hE hs (by omega)), am_bd_v]
      simp only [Nat.reduceAdd]
      rw [am_B14_223 am_b_z]
      rfl
end TEXT2
