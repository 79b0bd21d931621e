/-! ===== specs: the whole text is read ===== -/
theorem ax_cm_le {n a k : Int} {s : Int → Int} : a ≤ (ax_cm n s a k).2.1 ∧ (ax_cm n s a k).2.1 ≤ a + 5 := by
  have b1 := fun lo hi v a => ax_n1_le (n := n) (s := s) (lo := lo) (hi := hi) (v := v) (a := a)
  have b2 := fun lo hi a => ax_n2_le (n := n) (s := s) (lo := lo) (hi := hi) (a := a)
  have p1 := b1 0 3 0 (a + 1)
  have p2 := b2 0 99 (ax_n1 n s 0 3 0 (a + 1)).2
  have p3 := b1 0 3 0 (ax_n1 n s 0 3 0 (a + 1)).2
  have p4 := b2 0 23 (a + 1)
  have p5 := b2 1 30 (a + 1)
  have p6 := b1 1 9 0 (a + 1)
  unfold ax_cm ax_c1 ax_c2 ax_c3
  repeat' split
  all_goals (dsimp only; omega)
theorem ax_cm_up {n a k : Int} {s : Int → Int} (h : (ax_cm n s a k).1 ≠ 0) : a + 1 ≤ (ax_cm n s a k).2.1 := by
  have b1 := fun lo hi v a => ax_n1_le (n := n) (s := s) (lo := lo) (hi := hi) (v := v) (a := a)
  have b2 := fun lo hi a => ax_n2_le (n := n) (s := s) (lo := lo) (hi := hi) (a := a)
  have p1 := b1 0 3 0 (a + 1)
  have p2 := b2 0 99 (ax_n1 n s 0 3 0 (a + 1)).2
  have p3 := b1 0 3 0 (ax_n1 n s 0 3 0 (a + 1)).2
  have p4 := b2 0 23 (a + 1)
  have p5 := b2 1 30 (a + 1)
  have p6 := b1 1 9 0 (a + 1)
  revert h
  unfold ax_cm ax_c1 ax_c2 ax_c3
  repeat' split
  all_goals first | (intro h; exact absurd rfl h) | (intro _; dsimp only; omega)
def ax_fw (n : Int) (s : Int → Int) : Nat → Int → Int
  | 0, _ => -1
  | m + 1, a => if n ≤ a then -1 else if (ax_cm n s a (ax_dg n s a)).1 = 0 then (ax_cm n s a (ax_dg n s a)).2.1 else ax_fw n s m (ax_cm n s a (ax_dg n s a)).2.1
def ax_ep (n : Int) (s : Int → Int) : Int := if ax_dg n s 0 = 79 then ax_fw n s 120 1 else 0
section TEXT3
variable {E : am_E} {M : am_M} {T : Nat → Int → Int} {a k f g lo hi : Int}
theorem ax_7 (hE : am_Wr E) : am_den 7 (0, [some (am_A (30, 0))], [], E, M) = some (.inl (some (am_I (am_b (120 ≤ M 30 0 1)))), E, M) := by
  simp only [am_B7_0 hE, am_B7_9, am_B7_13, am_B7_14 (Or.inl rfl), am_B7_14 (Or.inr rfl)]
  unfold am_b
  repeat' split
  all_goals first | rfl | (exfalso; omega)
theorem ax_8 (hE : am_Wr E) {x : Int} (hn : 0 ≤ M 30 0 1 ∧ M 30 0 1 < 120) (hx : 0 ≤ x ∧ x ≤ 65535) : am_den 8 (0, [some (am_A (30, 0)), some (am_I x)], [], E, M) = some (.inl (some (am_I (M 30 0 1 + 1))), E, am_sb M 30 (am_uy (am_uy (M 30) 1 (M 30 0 1) x) 0 1 (M 30 0 1 + 1))) := by
  have e : am_uy (M 30) 1 (M 30 0 1) x 0 1 = M 30 0 1 := ay_uy_ne (Or.inl (by decide))
  rw [am_B8_0 hE, if_neg (by omega), am_B8_7 hE, if_neg (by omega), am_B8_19 hE (by omega) (by omega), am_up_0, am_B8_29 hE, am_up_sb, am_sb_at, e, am_wi (by omega) (by omega), am_B8_39 hE, am_sb_at, ay_uy_eq]
theorem ax_9 (hE : am_Wr E) {u : Option am_V} : am_den 9 (0, [some (am_A (30, 0)), u], [], E, M) = some (.inl (some (am_I (M 30 0 1))), E, am_sb M 30 (am_uy (M 30) 0 1 0)) := by
  rw [am_B9_0 hE, am_up_0, am_B9_10]
theorem ax_12 (hE : am_Wr E) : am_den 12 (0, [some (am_A (30, 0))], [], E, M) = some (.inl (some (am_I (am_b (M 30 0 2 < M 30 0 1)))), E, M) := by
  simp only [am_B12_0 hE, am_B12_11, am_B12_15, am_B12_16 (Or.inl rfl), am_B12_16 (Or.inr rfl)]
  unfold am_b
  repeat' split
  all_goals first | rfl | (exfalso; omega)
theorem ax_12s (hE : am_Wr E) : am_den 12 (0, [some (am_A (30, 0))], [], E, am_sb M 30 (ax_st T a k f g)) = some (.inl (some (am_I (am_b (a < T 0 1)))), E, am_sb M 30 (ax_st T a k f g)) := by
  rw [ax_12 hE, am_sb_at, ax_st_1, ax_st_2]
theorem ax_11 (hE : am_Wr E) : am_den 11 (0, [some (am_A (30, 0))], [], E, am_sb M 30 (ax_st T a k f g)) = some (.inl (some (am_I (am_b (ax_dg (T 0 1) (T 1) 0 = 79)))), E, am_sb M 30 (ax_st T (if ax_dg (T 0 1) (T 1) 0 = 79 then 1 else 0) k f g)) := by
  rw [am_B11_0 hE, am_up_sb, ax_st_a, am_B11_5 hE, ax_13s hE, am_bd_v]
  simp only [Nat.reduceAdd]
  rw [am_B11_9]
  by_cases q : ax_dg (T 0 1) (T 1) 0 = 79
  · rw [if_pos q, if_pos q, am_B11_16 hE, am_sb_at, ax_st_2, am_up_sb, ax_st_a, am_B11_26, am_b, if_pos q]
    rfl
  · rw [if_neg q, if_neg q, am_B11_14, am_b, if_neg q]
theorem ax_10l (hE : am_Wr E) (hs : ∀ i : Int, 0 ≤ i → i < 120 → 0 ≤ T 1 i ∧ T 1 i ≤ 65535) (hn : T 0 1 ≤ 120) : ∀ (m i : Nat) (a k f g : Int), i + m = 120 → 0 ≤ a → ∃ a' k' f' g', am_den 10 (14, [some (am_A (30, 0)), some (am_I i)], [], E, am_sb M 30 (ax_st T a k f g)) = some (.inl (some (am_I (ax_fw (T 0 1) (T 1) m a))), E, am_sb M 30 (ax_st T a' k' f' g')) := by
  intro m
  induction m with
  | zero =>
    intro i a k f g h h0
    refine ⟨a, k, f, g, ?_⟩
    rw [am_B10_14, if_pos (by omega), am_B10_45, ax_fw]
  | succ m ih =>
    intro i a k f g h h0
    have w1 : am_w ((i : Int) + 1) = ((i + 1 : Nat) : Int) := by rw [am_wi (by omega) (by omega)]; omega
    rw [am_B10_14, if_neg (by omega), am_B10_20 hE, ax_12s hE, am_bd_v, ax_fw]
    simp only [Nat.reduceAdd]
    rw [am_B10_24]
    by_cases q1 : T 0 1 ≤ a
    · refine ⟨a, k, f, g, ?_⟩
      rw [if_pos (by rw [am_b_0]; omega), am_B10_45, if_pos q1]
    · rw [if_neg (by rw [am_b_0]; omega), am_B10_27 hE, ax_14 hE hs (by omega), am_bd_v, if_neg q1]
      simp only [Nat.reduceAdd]
      rw [am_B10_31]
      by_cases q2 : (ax_cm (T 0 1) (T 1) a (ax_dg (T 0 1) (T 1) a)).1 = 0
      · rw [if_neg (fun z => z q2), am_B10_34 hE, am_sb_at, ax_st_2, if_pos q2]
        exact ⟨_, _, _, _, rfl⟩
      · have := ax_cm_le (n := T 0 1) (s := T 1) (a := a) (k := ax_dg (T 0 1) (T 1) a)
        rw [if_pos q2, am_B10_39, w1, if_neg q2]
        exact ih (i + 1) _ _ _ _ (by omega) (by omega)
theorem ax_10 (hE : am_Wr E) (hs : ∀ i : Int, 0 ≤ i → i < 120 → 0 ≤ M 30 1 i ∧ M 30 1 i ≤ 65535) (hn : M 30 0 1 ≤ 120) {u : Option am_V} : ∃ a' k' f' g', am_den 10 (0, [some (am_A (30, 0)), u], [], E, M) = some (.inl (some (am_I (ax_ep (M 30 0 1) (M 30 1)))), E, am_sb M 30 (ax_st (M 30) a' k' f' g')) := by
  have h := ax_11 (E := E) (M := M) (T := M 30) (a := M 30 0 2) (k := M 30 0 3) (f := M 30 0 4) (g := M 30 0 5) hE
  rw [ax_st_0, am_sb_self] at h
  rw [am_B10_0 hE, h, am_bd_v]
  simp only [Nat.reduceAdd]
  rw [am_B10_4]
  unfold ax_ep
  by_cases q : ax_dg (M 30 0 1) (M 30 1) 0 = 79
  · rw [if_pos (fun z => by rw [am_b_0] at z; exact z q), if_pos q, if_pos q, am_B10_12]
    exact ax_10l hE hs hn 120 0 1 _ _ _ rfl (by omega)
  · rw [if_neg (fun z => z (by rw [am_b_0]; exact q)), am_B10_7 hE, am_sb_at, ax_st_2, if_neg q, if_neg q]
    exact ⟨_, _, _, _, rfl⟩
end TEXT3
