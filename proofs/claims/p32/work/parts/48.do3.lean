/-! ===== specs: the text's calls ===== -/
def ad_ld (n : Int) (s : Int → Int) : Nat → Int → (Nat → Int → Int) → Int → Int × (Nat → Int → Int)
  | 0, _, Y, c => (c, Y)
  | m + 1, a, Y, c => if n ≤ a then (c, Y) else if (ax_cm n s a (ax_dg n s a)).1 = 0 then (c, Y) else ad_ld n s m (ax_cm n s a (ax_dg n s a)).2.1 (ay_ob Y (ax_dg n s a) (ax_cm n s a (ax_dg n s a)).2.2.1 (ax_cm n s a (ax_dg n s a)).2.2.2) (if ay_can Y (ax_dg n s a) (ax_cm n s a (ax_dg n s a)).2.2.1 (ax_cm n s a (ax_dg n s a)).2.2.2 = 0 then c + 1 else c)
section DO3
variable {E : am_E} {M : am_M} {T : Nat → Int → Int} {w : Int}
theorem ad_67 (hE : am_Wr E) (hn : 0 ≤ M 30 0 1) : am_den 67 (0, [some (am_A (34, 0)), some (am_I w)], [], E, M) = if 0 ≤ w ∧ w ≤ 255 then (if M 30 0 1 < 120 then some (.inl (some (am_I (M 30 0 1 + 1))), E, am_sb M 30 (am_uy (am_uy (M 30) 1 (M 30 0 1) w) 0 1 (M 30 0 1 + 1))) else some (.inr 1, am_xE E, M)) else some (.inr 0, am_xE E, M) := by
  rw [am_B67_0]
  by_cases a1 : w < 0
  · rw [if_pos a1, am_B67_11, if_neg (by omega)]
  · rw [if_neg a1, am_B67_4]
    by_cases a2 : w ≤ 255
    · have e : ((Int32.ofInt w).toUInt32 % 65536).toInt32.toInt = w := by
        obtain ⟨k, hk⟩ : ∃ k : Nat, w = k := ⟨w.toNat, by omega⟩
        subst hk
        have hk2 : k < 256 := by omega
        have all : ∀ k : Fin 256, ((Int32.ofInt (k.1 : Int)).toUInt32 % 65536).toInt32.toInt = (k.1 : Int) := by decide +kernel
        exact all ⟨k, hk2⟩
      rw [if_pos a2, am_B67_21 hE, ax_7 hE, am_bd_v, if_pos (by omega)]
      simp only [Nat.reduceAdd]
      rw [am_B67_28]
      by_cases a3 : M 30 0 1 < 120
      · rw [if_pos (by rw [am_b_0]; omega), am_B67_41 hE, e, ax_8 hE ⟨hn, a3⟩ (by omega), am_bd_v, if_pos a3]
        simp only [Nat.reduceAdd]
        rw [am_B67_50]
      · rw [if_neg (by rw [am_b_0]; omega), am_B67_31, if_neg a3]
    · rw [if_neg a2, am_B67_11, if_neg (by omega)]
theorem ad_68 (hE : am_Wr E) : am_den 68 (0, [some (am_A (34, 0))], [], E, M) = some (.inl (some (am_I (M 30 0 1))), E, am_sb M 30 (am_uy (M 30) 0 1 0)) := by
  rw [am_B68_0 hE, ax_9 hE, am_bd_v]
  simp only [Nat.reduceAdd]
  rw [am_B68_7]
theorem ad_69 (hE : am_Wr E) (hs : ∀ i : Int, 0 ≤ i → i < 120 → 0 ≤ M 30 1 i ∧ M 30 1 i ≤ 65535) (hn : M 30 0 1 ≤ 120) : ∃ a' k' f' g', am_den 69 (0, [some (am_A (34, 0))], [], E, M) = some (.inl (some (am_I (ax_ep (M 30 0 1) (M 30 1)))), E, am_sb M 30 (ax_st (M 30) a' k' f' g')) := by
  obtain ⟨a, k, f, g, h⟩ := ax_10 (E := E) (M := M) hE hs hn (u := none)
  refine ⟨a, k, f, g, ?_⟩
  rw [am_B69_0 hE, h, am_bd_v]
  simp only [Nat.reduceAdd]
  rw [am_B69_7]
theorem ad_70l (hE : am_Wr E) (hs : ∀ i : Int, 0 ≤ i → i < 120 → 0 ≤ T 1 i ∧ T 1 i ≤ 65535) (hn : T 0 1 ≤ 120) : ∀ (m i : Nat) (a k f g c : Int) (Y : Nat → Int → Int), i + m = 120 → 0 ≤ a → 0 ≤ c → c ≤ i → 0 ≤ Y 0 7 ∧ Y 0 7 ≤ 4 → ∃ a' k' f' g', am_den 70 (63, [some (am_A (34, 0)), some (am_I c), some (am_I i)], [], E, am_sb (am_sb M 0 Y) 30 (ax_st T a k f g)) = some (.inl (some (am_I (ad_ld (T 0 1) (T 1) m a Y c).1)), E, am_sb (am_sb M 0 (ad_ld (T 0 1) (T 1) m a Y c).2) 30 (ax_st T a' k' f' g')) := by
  intro m
  induction m with
  | zero =>
    intro i a k f g c Y h h0 h1 h2 h7
    refine ⟨a, k, f, g, ?_⟩
    rw [am_B70_63, if_pos (by omega), am_B70_129, ad_ld]
  | succ m ih =>
    intro i a k f g c Y h h0 h1 h2 h7
    have w1 : am_w ((i : Int) + 1) = ((i + 1 : Nat) : Int) := by rw [am_wi (by omega) (by omega)]; omega
    have w2 : am_w (c + 1) = c + 1 := am_wi (by omega) (by omega)
    rw [am_B70_63, if_neg (by omega), am_B70_69 hE, ax_12s hE, am_bd_v, ad_ld]
    simp only [Nat.reduceAdd]
    rw [am_B70_76]
    by_cases q1 : T 0 1 ≤ a
    · refine ⟨a, k, f, g, ?_⟩
      rw [if_pos (by rw [am_b_0]; omega), am_B70_129, if_pos q1]
    · rw [if_neg (by rw [am_b_0]; omega), am_B70_79 hE, ax_14 hE hs (by omega), am_bd_v, if_neg q1]
      simp only [Nat.reduceAdd]
      rw [am_B70_86]
      by_cases q2 : (ax_cm (T 0 1) (T 1) a (ax_dg (T 0 1) (T 1) a)).1 = 0
      · rw [if_pos q2, am_B70_129, if_pos q2]
        exact ⟨_, _, _, _, rfl⟩
      · have hle := ax_cm_le (n := T 0 1) (s := T 1) (a := a) (k := ax_dg (T 0 1) (T 1) a)
        rw [if_neg q2, am_B70_89 hE, am_sb_at, ax_st_3, ax_st_4, ax_st_5, ay_64 (hE.1 0 (by omega)) (by rw [am_sb_ne (by decide), am_sb_at]; exact h7), am_bd_v, am_sb_ne (show (0 : Nat) ≠ 30 by decide), am_sb_at, ak_sw (show (30 : Nat) ≠ 0 by decide), am_sb_sb, if_neg q2]
        simp only [Nat.reduceAdd]
        rw [am_B70_117]
        by_cases q3 : ay_can Y (ax_dg (T 0 1) (T 1) a) (ax_cm (T 0 1) (T 1) a (ax_dg (T 0 1) (T 1) a)).2.2.1 (ax_cm (T 0 1) (T 1) a (ax_dg (T 0 1) (T 1) a)).2.2.2 = 0
        · rw [if_pos q3, if_neg (fun z => z rfl), am_B70_120, w2, am_B70_123, w1, if_pos q3]
          exact ih (i + 1) _ _ _ _ _ _ (by omega) (by omega) (by omega) (by omega) (ay_ob7 h7)
        · rw [if_neg q3, if_pos (by decide), am_B70_123, w1, if_neg q3]
          exact ih (i + 1) _ _ _ _ _ _ (by omega) (by omega) (by omega) (by omega) (ay_ob7 h7)
def ad_l0 (M : am_M) : am_M := am_sb (am_sb (am_sb M 31 (am_uy (M 31) 0 2 0)) 32 (am_uy (M 32) 0 1 0)) 33 (am_uy (M 33) 0 1 0)
theorem ad_70 (hE : am_Wr E) (hs : ∀ i : Int, 0 ≤ i → i < 120 → 0 ≤ M 30 1 i ∧ M 30 1 i ≤ 65535) (hn : M 30 0 1 ≤ 120) {u1 u2 : Option am_V} : ∃ a' k' f' g', am_den 70 (0, [some (am_A (34, 0)), u1, u2], [], E, M) = if ax_ep (M 30 0 1) (M 30 1) = -1 then some (.inl (some (am_I (ad_ld (M 30 0 1) (M 30 1) 120 1 (am_yc (M 0)) 0).1)), E, am_sb (am_sb (ad_l0 M) 0 (ad_ld (M 30 0 1) (M 30 1) 120 1 (am_yc (M 0)) 0).2) 30 (ax_st (M 30) a' k' f' g')) else some (.inr 1, am_xE E, am_sb M 30 (ax_st (M 30) a' k' f' g')) := by
  obtain ⟨a, k, f, g, h⟩ := ax_10 (E := E) (M := M) hE hs hn (u := none)
  rw [am_B70_0 hE, h, am_bd_v]
  simp only [Nat.reduceAdd]
  rw [am_B70_7]
  by_cases q : ax_ep (M 30 0 1) (M 30 1) = -1
  · have q2 : ax_dg (M 30 0 1) (M 30 1) 0 = 79 := by
      refine Decidable.byContradiction (fun z => ?_)
      rw [ax_ep, if_neg z] at q
      exact absurd q (by decide)
    have e7 : am_yc (M 0) 0 7 = 0 := by
      unfold am_yc
      simp [ay_uy_x]
    rw [if_pos q, am_B70_21 hE, am_s21 (hE.1 0 (by omega)), am_bd_u, am_sb_ne (show (0 : Nat) ≠ 30 by decide)]
    simp only [Nat.reduceAdd]
    rw [am_B70_28 hE, ak_2 hE, am_bd_u, am_sb_ne (show (31 : Nat) ≠ 0 by decide), am_sb_ne (show (31 : Nat) ≠ 30 by decide)]
    simp only [Nat.reduceAdd]
    rw [am_B70_35 hE, am_up_0, am_sb_ne (show (32 : Nat) ≠ 31 by decide), am_sb_ne (show (32 : Nat) ≠ 0 by decide), am_sb_ne (show (32 : Nat) ≠ 30 by decide)]
    rw [am_B70_43 hE, am_up_0, am_sb_ne (show (33 : Nat) ≠ 32 by decide), am_sb_ne (show (33 : Nat) ≠ 31 by decide), am_sb_ne (show (33 : Nat) ≠ 0 by decide), am_sb_ne (show (33 : Nat) ≠ 30 by decide)]
    have em : am_sb (am_sb (am_sb (am_sb (am_sb M 30 (ax_st (M 30) a k f g)) 0 (am_yc (M 0))) 31 (am_uy (M 31) 0 2 0)) 32 (am_uy (M 32) 0 1 0)) 33 (am_uy (M 33) 0 1 0) = am_sb (am_sb (ad_l0 M) 0 (am_yc (M 0))) 30 (ax_st (M 30) a k f g) := by
      funext b
      unfold ad_l0 am_sb
      repeat' split
      all_goals first | rfl | (exfalso; omega)
    rw [em, am_B70_51 hE, ax_11 hE, am_bd_v]
    simp only [Nat.reduceAdd]
    rw [am_B70_60, if_pos q2]
    obtain ⟨a', k', f', g', h2⟩ := ad_70l (M := ad_l0 M) (T := M 30) hE hs hn 120 0 1 k f g 0 (am_yc (M 0)) rfl (by omega) (by omega) (by omega) (by omega)
    refine ⟨a', k', f', g', ?_⟩
    rw [if_pos q]
    exact h2
  · refine ⟨a, k, f, g, ?_⟩
    rw [if_neg q, am_B70_11, if_neg q]
end DO3
