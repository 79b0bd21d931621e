/-! ===== specs: a group of a script, a turn of a simulation ===== -/
abbrev ad_p (g : Int) : Int := g / 1000 % 10
abbrev ad_q (g : Int) : Int := g / 100 % 10
abbrev ad_t (g : Int) : Int := g % 100
def ad_ob (Y : Nat → Int → Int) (c : Prop) [Decidable c] (k a e : Int) : Int × (Nat → Int → Int) := if c then (if ay_can Y k a e = 0 then 0 else 1, ay_ob Y k a e) else (0, Y)
def ad_do (Y : Nat → Int → Int) (g : Int) : Int × (Nat → Int → Int) :=
  if g / 10000 = 1 then ad_ob Y (ad_q g = 0) 108 (ad_p g) (ad_t g) else if g / 10000 = 2 then ad_ob Y (g % 1000 = 0) 100 (ad_p g) 0 else if g / 10000 = 3 then ad_ob Y (ad_t g = 0) 107 (g / 100 % 100) 0
  else if g / 10000 = 4 then ad_ob Y (ad_t g = 0) 106 (ad_p g) (ad_q g) else if g / 10000 = 5 then ad_ob Y (ad_p g ≤ 1 ∧ ad_q g = 0) (if ad_p g = 0 then 119 else 114) (ad_t g) 0 else if g / 10000 = 6 then ad_ob Y (g % 1000 = 0) 109 (ad_p g) 0
  else if g / 10000 = 7 then (am_b (ad_q g = 0 ∧ (0 ≤ ad_p g ∧ ad_p g < Y 0 7) ∧ ad_t g ≤ ac_in Y (ad_p g)), Y) else if g / 10000 = 8 then (am_b (g % 10 = 0 ∧ ((0 ≤ ad_p g ∧ ad_p g < Y 0 7) ∧ am_gt (Y 2) 24 (g / 10 % 100) ≠ -1 ∧ am_gt (Y 6) 4 (ad_p g) = g / 10 % 100)), Y)
  else if g / 10000 = 9 then (am_b (ad_q g = 0 ∧ (0 ≤ ad_p g ∧ ad_p g < Y 0 7) ∧ am_oa Y (ad_p g) ≤ ad_t g), Y) else (0, Y)
section DO1
variable {E : am_E} {M : am_M} {b : Nat} {g : Int}
theorem ad_wd (h : 0 ≤ g ∧ g < 100000) {k : Int} (hk : 0 < k) : am_w (g.tdiv k) = g / k := by
  have h1 : g / k ≤ g := Int.ediv_le_self _ h.1
  have h2 : 0 ≤ g / k := Int.ediv_nonneg h.1 (by omega)
  rw [Int.tdiv_eq_ediv_of_nonneg h.1, am_wi (by omega) (by omega)]
theorem ad_wm (h : 0 ≤ g) {k : Int} : g.tmod k = g % k := Int.tmod_eq_emod_of_nonneg h
theorem ad_108 (hw : am_WY E b) (h7 : 0 ≤ M b 0 7 ∧ M b 0 7 ≤ 4) (hg : 0 ≤ g ∧ g < 100000) {u v x : Option am_V} : am_den 108 (0, [some (am_A (b, 0)), some (am_I g), u, v, x], [], E, M) = some (.inl (some (am_I (ad_do (M b) g).1)), E, am_sb M b (ad_do (M b) g).2) := by
  have d1 : 0 ≤ g / 1000 := by omega
  have d2 : 0 ≤ g / 100 := by omega
  have d3 : 0 ≤ g / 10 := by omega
  rw [am_B108_0, ad_wd hg (by decide), ad_wd hg (by decide), ad_wd hg (by decide), ad_wm d1, ad_wm d2, ad_wm hg.1]
  unfold ad_do
  by_cases hd : g / 10000 < 1 ∨ 9 < g / 10000
  · rw [am_S108_28d hd, am_B108_322]
    repeat' rw [if_neg (by omega)]
    rw [am_sb_self]
  · have hk : g / 10000 = 1 ∨ g / 10000 = 2 ∨ g / 10000 = 3 ∨ g / 10000 = 4 ∨ g / 10000 = 5 ∨ g / 10000 = 6 ∨ g / 10000 = 7 ∨ g / 10000 = 8 ∨ g / 10000 = 9 := by omega
    rcases hk with h | h | h | h | h | h | h | h | h
    · rw [am_S108_28v1 h, if_pos h]
      unfold ad_ob
      rw [am_B108_80]
      by_cases q1 : ad_q g = 0
      · rw [if_neg (fun z => z q1), if_pos q1, am_B108_84 hw, ay_64 hw h7, am_bd_v]
        simp only [Nat.reduceAdd]
        rw [am_B108_93]
        by_cases q2 : ay_can (M b) 108 (ad_p g) (ad_t g) = 0
        · rw [if_pos q2, if_pos rfl, am_B108_100, am_B108_101 (Or.inl rfl)]
        · rw [if_neg q2, if_neg (by decide), am_B108_96, am_B108_101 (Or.inr rfl)]
      · rw [if_pos q1, if_neg q1, am_B108_100, am_B108_101 (Or.inl rfl), am_sb_self]
    · rw [am_S108_28v2 h, if_neg (by omega), if_pos h]
      unfold ad_ob
      rw [am_B108_102, ad_wm hg.1]
      by_cases q1 : g % 1000 = 0
      · rw [if_neg (fun z => z q1), if_pos q1, am_B108_110 hw, ay_64 hw h7, am_bd_v]
        simp only [Nat.reduceAdd]
        rw [am_B108_118]
        by_cases q2 : ay_can (M b) 100 (ad_p g) (0) = 0
        · rw [if_pos q2, if_pos rfl, am_B108_125, am_B108_126 (Or.inl rfl)]
        · rw [if_neg q2, if_neg (by decide), am_B108_121, am_B108_126 (Or.inr rfl)]
      · rw [if_pos q1, if_neg q1, am_B108_125, am_B108_126 (Or.inl rfl), am_sb_self]
    · rw [am_S108_28v3 h, if_neg (by omega), if_neg (by omega), if_pos h]
      unfold ad_ob
      rw [am_B108_127]
      by_cases q1 : ad_t g = 0
      · rw [if_neg (fun z => z q1), if_pos q1, am_B108_132 hw, ad_wd hg (by decide), ad_wm d2, ay_64 hw h7, am_bd_v]
        simp only [Nat.reduceAdd]
        rw [am_B108_146]
        by_cases q2 : ay_can (M b) 107 (g / 100 % 100) (0) = 0
        · rw [if_pos q2, if_pos rfl, am_B108_153, am_B108_154 (Or.inl rfl)]
        · rw [if_neg q2, if_neg (by decide), am_B108_149, am_B108_154 (Or.inr rfl)]
      · rw [if_pos q1, if_neg q1, am_B108_153, am_B108_154 (Or.inl rfl), am_sb_self]
    · rw [am_S108_28v4 h, if_neg (by omega), if_neg (by omega), if_neg (by omega), if_pos h]
      unfold ad_ob
      rw [am_B108_155]
      by_cases q1 : ad_t g = 0
      · rw [if_neg (fun z => z q1), if_pos q1, am_B108_160 hw, ay_64 hw h7, am_bd_v]
        simp only [Nat.reduceAdd]
        rw [am_B108_168]
        by_cases q2 : ay_can (M b) 106 (ad_p g) (ad_q g) = 0
        · rw [if_pos q2, if_pos rfl, am_B108_175, am_B108_176 (Or.inl rfl)]
        · rw [if_neg q2, if_neg (by decide), am_B108_171, am_B108_176 (Or.inr rfl)]
      · rw [if_pos q1, if_neg q1, am_B108_175, am_B108_176 (Or.inl rfl), am_sb_self]
    · rw [am_S108_28v5 h, if_neg (by omega), if_neg (by omega), if_neg (by omega), if_neg (by omega), if_pos h]
      unfold ad_ob
      rw [am_B108_177]
      have go : ∀ k, am_den 108 (198, [some (am_A (b, 0)), some (am_I g), some (am_I (ad_p g)), some (am_I (ad_q g)), some (am_I (ad_t g))], [am_I k, am_A (b, 0)], E, M) = some (.inl (some (am_I (if ay_can (M b) k (ad_t g) 0 = 0 then 0 else 1))), E, am_sb M b (ay_ob (M b) k (ad_t g) 0)) := by
        intro k
        rw [am_B108_198 hw, ay_64 hw h7, am_bd_v]
        simp only [Nat.reduceAdd]
        rw [am_B108_204]
        by_cases q2 : ay_can (M b) k (ad_t g) 0 = 0
        · rw [if_pos q2, if_pos rfl, am_B108_211, am_B108_212 (Or.inl rfl)]
        · rw [if_neg q2, if_neg (by decide), am_B108_207, am_B108_212 (Or.inr rfl)]
      by_cases q1 : ad_p g ≤ 1
      · rw [if_neg (show ¬ 1 < g / 1000 % 10 from Int.not_lt.mpr q1), am_B108_182]
        by_cases q3 : ad_q g = 0
        · rw [if_neg (fun z => z q3), if_pos (show ad_p g ≤ 1 ∧ ad_q g = 0 from ⟨q1, q3⟩), am_B108_186]
          by_cases q4 : ad_p g = 0
          · rw [if_neg (fun z => z q4), if_pos q4, am_B108_191, go]
          · rw [if_pos q4, if_neg q4, am_B108_196, go]
        · rw [if_pos q3, if_neg (show ¬(ad_p g ≤ 1 ∧ ad_q g = 0) from fun z => q3 z.2), am_B108_211, am_B108_212 (Or.inl rfl), am_sb_self]
      · rw [if_pos (show 1 < g / 1000 % 10 from Int.not_le.mp q1), if_neg (show ¬(ad_p g ≤ 1 ∧ ad_q g = 0) from fun z => q1 z.1), am_B108_211, am_B108_212 (Or.inl rfl), am_sb_self]
    · rw [am_S108_28v6 h, if_neg (by omega), if_neg (by omega), if_neg (by omega), if_neg (by omega), if_neg (by omega), if_pos h]
      unfold ad_ob
      rw [am_B108_213, ad_wm hg.1]
      by_cases q1 : g % 1000 = 0
      · rw [if_neg (fun z => z q1), if_pos q1, am_B108_221 hw, ay_64 hw h7, am_bd_v]
        simp only [Nat.reduceAdd]
        rw [am_B108_229]
        by_cases q2 : ay_can (M b) 109 (ad_p g) (0) = 0
        · rw [if_pos q2, if_pos rfl, am_B108_236, am_B108_237 (Or.inl rfl)]
        · rw [if_neg q2, if_neg (by decide), am_B108_232, am_B108_237 (Or.inr rfl)]
      · rw [if_pos q1, if_neg q1, am_B108_236, am_B108_237 (Or.inl rfl), am_sb_self]
    · rw [am_S108_28v7 h, if_neg (by omega), if_neg (by omega), if_neg (by omega), if_neg (by omega), if_neg (by omega), if_neg (by omega), if_pos h, am_B108_238]
      dsimp only
      rw [am_sb_self]
      by_cases q1 : ad_q g = 0
      · rw [if_neg (fun z => z q1), am_B108_242 hw, am_s23 hw, am_bd_v]
        simp only [Nat.reduceAdd]
        rw [am_B108_247]
        by_cases q2 : 0 ≤ ad_p g ∧ ad_p g < M b 0 7
        · rw [if_neg (by rw [am_b_0]; exact fun z => z q2), am_B108_250 hw, am_s32 hw, am_bd_v]
          simp only [Nat.reduceAdd]
          rw [am_B108_255]
          by_cases q3 : ad_t g ≤ ac_in (M b) (ad_p g)
          · have q4 : ¬ (ac_in (M b) (ad_p g) < ad_t g) := Int.not_lt.mpr q3
            rw [if_neg q4, am_B108_260, am_B108_265 (Or.inr rfl), am_b, if_pos ⟨q1, q2, q3⟩]
          · have q4 : ac_in (M b) (ad_p g) < ad_t g := Int.not_le.mp q3
            rw [if_pos q4, am_B108_264, am_B108_265 (Or.inl rfl), am_b, if_neg (fun z => q3 z.2.2)]
        · rw [if_pos (by rw [am_b_0]; exact q2), am_B108_264, am_B108_265 (Or.inl rfl), am_b, if_neg (fun z => q2 z.2.1)]
      · rw [if_pos q1, am_B108_264, am_B108_265 (Or.inl rfl), am_b, if_neg (fun z => q1 z.1)]
    · rw [am_S108_28v8 h, if_neg (by omega), if_neg (by omega), if_neg (by omega), if_neg (by omega), if_neg (by omega), if_neg (by omega), if_neg (by omega), if_pos h, am_B108_266, ad_wm hg.1]
      dsimp only
      rw [am_sb_self]
      by_cases q1 : g % 10 = 0
      · rw [if_neg (fun z => z q1), am_B108_273 hw, ad_wd hg (by decide), ad_wm d3, am_s29 hw, am_bd_v]
        simp only [Nat.reduceAdd]
        rw [am_B108_285]
        by_cases q3 : (0 ≤ ad_p g ∧ ad_p g < M b 0 7) ∧ am_gt (M b 2) 24 (g / 10 % 100) ≠ -1 ∧ am_gt (M b 6) 4 (ad_p g) = g / 10 % 100
        · rw [if_neg (by rw [am_b_0]; exact fun z => z q3), am_B108_288, am_B108_293 (Or.inr rfl), am_b, if_pos ⟨q1, q3⟩]
        · rw [if_pos (by rw [am_b_0]; exact q3), am_B108_292, am_B108_293 (Or.inl rfl), am_b, if_neg (fun z => q3 z.2)]
      · rw [if_pos q1, am_B108_292, am_B108_293 (Or.inl rfl), am_b, if_neg (fun z => q1 z.1)]
    · rw [am_S108_28v9 h, if_neg (by omega), if_neg (by omega), if_neg (by omega), if_neg (by omega), if_neg (by omega), if_neg (by omega), if_neg (by omega), if_neg (by omega), if_pos h, am_B108_294]
      dsimp only
      rw [am_sb_self]
      by_cases q1 : ad_q g = 0
      · rw [if_neg (fun z => z q1), am_B108_298 hw, am_s23 hw, am_bd_v]
        simp only [Nat.reduceAdd]
        rw [am_B108_303]
        by_cases q2 : 0 ≤ ad_p g ∧ ad_p g < M b 0 7
        · rw [if_neg (by rw [am_b_0]; exact fun z => z q2), am_B108_306 hw, am_s36 hw, am_bd_v]
          simp only [Nat.reduceAdd]
          rw [am_B108_311]
          by_cases q3 : am_oa (M b) (ad_p g) ≤ ad_t g
          · have q4 : ¬ (ad_t g < am_oa (M b) (ad_p g)) := Int.not_lt.mpr q3
            rw [if_neg q4, am_B108_316, am_B108_321 (Or.inr rfl), am_b, if_pos ⟨q1, q2, q3⟩]
          · have q4 : ad_t g < am_oa (M b) (ad_p g) := Int.not_le.mp q3
            rw [if_pos q4, am_B108_320, am_B108_321 (Or.inl rfl), am_b, if_neg (fun z => q3 z.2.2)]
        · rw [if_pos (by rw [am_b_0]; exact q2), am_B108_320, am_B108_321 (Or.inl rfl), am_b, if_neg (fun z => q2 z.2.1)]
      · rw [if_pos q1, am_B108_320, am_B108_321 (Or.inl rfl), am_b, if_neg (fun z => q1 z.1)]
theorem ad_107l {x : Int} : ∀ (m i : Nat) (y : Int), 0 ≤ y → y < 9223372036854775808 → i + m < 100 → am_den 107 (5, [some (am_J x), none, some (am_I ((i + m : Nat) : Int)), some (am_J y), none, some (am_I i)], [], E, M) = some (.inl (some (am_J (y / 100000 ^ m))), E, M) := by
  intro m
  induction m with
  | zero =>
    intro i y h0 h1 h2
    rw [am_B107_5, if_pos (by omega), am_B107_23, Int.pow_zero, Int.ediv_one]
  | succ m ih =>
    intro i y h0 h1 h2
    have w1 : am_w ((i : Int) + 1) = ((i + 1 : Nat) : Int) := by rw [am_wi (by omega) (by omega)]; omega
    have e : am_W (y.tdiv 100000) = y / 100000 := by
      rw [Int.tdiv_eq_ediv_of_nonneg h0]
      unfold am_W
      rw [Int.bmod_def]
      omega
    have h3 := ih (i + 1) (y / 100000) (by omega) (by omega) (by omega)
    rw [show ((i + 1 + m : Nat) : Int) = ((i + (m + 1) : Nat) : Int) by omega] at h3
    rw [am_B107_5, if_neg (by omega), am_B107_11, w1, e, h3, Int.pow_succ, Int.mul_comm (100000 ^ m) 100000, Int.ediv_ediv_of_nonneg (by decide)]
theorem ad_107 {x : Int} {n : Nat} (h0 : 0 ≤ x) (h1 : x < 9223372036854775808) (hn : n < 100) {u1 u2 u3 : Option am_V} : am_den 107 (0, [some (am_J x), none, some (am_I n), u1, u2, u3], [], E, M) = some (.inl (some (am_J (x / 100000 ^ n))), E, M) := by
  rw [am_B107_0]
  have h := ad_107l (E := E) (M := M) (x := x) n 0 x h0 h1 (by omega)
  rw [show 0 + n = n by omega] at h
  exact h
def ad_kl (k : Int) : Int := if k = 0 then 112 else if 1 ≤ k ∧ k ≤ 5 then 108 else if k = 6 ∨ k = 7 then 100 else if k = 8 then 107 else if k = 9 then 106 else if k = 10 then 99 else if k = 11 then 119 else if k = 12 then 114 else if k = 13 then 109 else 110
def ad_k1 (k q : Int) : Int := if k = 8 then q % 24 else if k = 11 ∨ k = 12 then 1 + q % 30 else if k = 14 ∨ k = 15 then 1 + q % 3 else q % 4
def ad_k2 (k q : Int) : Int := if k = 9 then q / 4 % 4 else if k = 10 then q / 4 % 2 else q / 4 % 100
theorem ad_109 {k : Int} (hk : 0 ≤ k ∧ k ≤ 15) : am_den 109 (0, [some (am_I k)], [], E, M) = some (.inl (some (am_I (ad_kl k))), E, M) := by
  rw [am_B109_0]
  have h : k = 0 ∨ k = 1 ∨ k = 2 ∨ k = 3 ∨ k = 4 ∨ k = 5 ∨ k = 6 ∨ k = 7 ∨ k = 8 ∨ k = 9 ∨ k = 10 ∨ k = 11 ∨ k = 12 ∨ k = 13 ∨ k = 14 ∨ k = 15 := by omega
  rcases h with h | h | h | h | h | h | h | h | h | h | h | h | h | h | h | h
  · rw [am_S109_1v0 h, h, am_B109_72]
    rfl
  · rw [am_S109_1v1 h, h, am_B109_75]
    rfl
  · rw [am_S109_1v2 h, h, am_B109_75]
    rfl
  · rw [am_S109_1v3 h, h, am_B109_75]
    rfl
  · rw [am_S109_1v4 h, h, am_B109_75]
    rfl
  · rw [am_S109_1v5 h, h, am_B109_75]
    rfl
  · rw [am_S109_1v6 h, h, am_B109_78]
    rfl
  · rw [am_S109_1v7 h, h, am_B109_78]
    rfl
  · rw [am_S109_1v8 h, h, am_B109_81]
    rfl
  · rw [am_S109_1v9 h, h, am_B109_84]
    rfl
  · rw [am_S109_1v10 h, h, am_B109_87]
    rfl
  · rw [am_S109_1v11 h, h, am_B109_90]
    rfl
  · rw [am_S109_1v12 h, h, am_B109_93]
    rfl
  · rw [am_S109_1v13 h, h, am_B109_96]
    rfl
  · rw [am_S109_1d (by omega), h, am_B109_99]
    rfl
  · rw [am_S109_1d (by omega), h, am_B109_99]
    rfl
theorem ad_110 {k q : Int} (hk : 0 ≤ k ∧ k ≤ 15) (hq : 0 ≤ q ∧ q < 2147483648) : am_den 110 (0, [some (am_I k), some (am_I q)], [], E, M) = some (.inl (some (am_I (ad_k1 k q))), E, M) := by
  rw [am_B110_0]
  unfold ad_k1
  by_cases h1 : k < 8
  · rw [am_S110_1d (Or.inl h1), am_B110_66, ad_wm hq.1, if_neg (by omega), if_neg (by omega), if_neg (by omega)]
  · have h : k = 8 ∨ k = 9 ∨ k = 10 ∨ k = 11 ∨ k = 12 ∨ k = 13 ∨ k = 14 ∨ k = 15 := by omega
    rcases h with h | h | h | h | h | h | h | h
    · rw [am_S110_1v8 h, am_B110_48, ad_wm hq.1, if_pos h]
    · rw [am_S110_1v9 h, am_B110_66, ad_wm hq.1, if_neg (by omega), if_neg (by omega), if_neg (by omega)]
    · rw [am_S110_1v10 h, am_B110_66, ad_wm hq.1, if_neg (by omega), if_neg (by omega), if_neg (by omega)]
    · rw [am_S110_1v11 h, am_B110_53, ad_wm hq.1, if_neg (by omega), if_pos (by omega), am_wi (by omega) (by omega)]
    · rw [am_S110_1v12 h, am_B110_53, ad_wm hq.1, if_neg (by omega), if_pos (by omega), am_wi (by omega) (by omega)]
    · rw [am_S110_1v13 h, am_B110_66, ad_wm hq.1, if_neg (by omega), if_neg (by omega), if_neg (by omega)]
    · rw [am_S110_1v14 h, am_B110_60, ad_wm hq.1, if_neg (by omega), if_neg (by omega), if_pos (by omega), am_wi (by omega) (by omega)]
    · rw [am_S110_1v15 h, am_B110_60, ad_wm hq.1, if_neg (by omega), if_neg (by omega), if_pos (by omega), am_wi (by omega) (by omega)]
theorem ad_111 {k q : Int} (hq : 0 ≤ q ∧ q < 2147483648) : am_den 111 (0, [some (am_I k), some (am_I q)], [], E, M) = some (.inl (some (am_I (ad_k2 k q))), E, M) := by
  have e : am_w (q.tdiv 4) = q / 4 := by rw [Int.tdiv_eq_ediv_of_nonneg hq.1, am_wi (by omega) (by omega)]
  have e2 : 0 ≤ q / 4 := by omega
  rw [am_B111_0]
  unfold ad_k2
  by_cases h1 : k = 9
  · rw [am_S111_1v9 h1, am_B111_28, e, ad_wm e2, if_pos h1]
  · by_cases h2 : k = 10
    · rw [am_S111_1v10 h2, am_B111_34, e, ad_wm e2, if_neg h1, if_pos h2]
    · rw [am_S111_1d ⟨h1, h2⟩, am_B111_40, e, ad_wm e2, if_neg h1, if_neg h2]
end DO1
