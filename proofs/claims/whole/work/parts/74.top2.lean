/-! ===== the reference remembers ===== -/
theorem ar_rg_cg {f g h : Int → Int} {i n : Int} (e : ∀ j, i ≤ j → j < n → g j = h j) : ar_rg f i n g = ar_rg f i n h := by
  funext j
  unfold ar_rg
  by_cases q : i ≤ j ∧ j < n
  · rw [if_pos q, if_pos q, e j q.1 q.2]
  · rw [if_neg q, if_neg q]
section TOP2
variable {E : am_E} {M N : am_M} {B : Int}
theorem tp_173l (hE : am_Wr E) : ∀ (m i : Nat) (D : Int → Int), i + m = 1794 → am_den 173 (11, [some (am_A (35, 0)), some (am_I i)], [], E, ar_s N 41 D) = am_den 173 (40, [some (am_A (35, 0)), some (am_I 1794)], [], E, ar_s N 41 (ar_rg D i 1794 (fun k => D (k + 138)))) := by
  intro m
  induction m with
  | zero =>
    intro i D h
    have e : (i : Int) = 1794 := by omega
    rw [am_B173_11, if_pos (by omega), ar_rg_nil (by omega), e]
  | succ m ih =>
    intro i D h
    have w1 : am_w ((i : Int) + 1) = ((i + 1 : Nat) : Int) := by rw [am_wi (by omega) (by omega)]; omega
    have w2 : am_w ((i : Int) + 138) = i + 138 := am_wi (by omega) (by omega)
    rw [am_B173_11, if_neg (by omega), am_B173_18 hE (by rw [w2]; omega) (by omega), w2, ar_s_at, ar_up, am_B173_34, w1, ih (i + 1) _ (by omega)]
    have e : ar_rg (ar_u D i (D (i + 138))) ((i + 1 : Nat) : Int) 1794 (fun k => ar_u D i (D (i + 138)) (k + 138)) = ar_rg D i 1794 (fun k => D (k + 138)) := by
      rw [show ((i + 1 : Nat) : Int) = (i : Int) + 1 by omega]
      rw [ar_rg_cg (h := fun k => D (k + 138)) (fun j a b => ar_u_ne (by omega))]
      exact ar_rg_up (by omega) rfl
    rw [e]
theorem tp_173 (hE : am_Wr E) (hm : tm M B) (h8 : N 35 0 8 = M 31 0 2) (h41 : N 41 0 = M 41 0) (h37 : N 37 0 = M 37 0) {u : Option am_V} : ∃ D, am_den 173 (0, [some (am_A (35, 0)), u], [], E, N) = some (.inl none, E, ar_s (ar_s N 41 D) 35 (ar_u (N 35 0) 8 (ak_c M + 1))) ∧ tdi M D := by
  obtain ⟨⟨o1, c1⟩, b, c⟩ := hm
  have k37 := hE.2.2.2.2.2.2.2.1
  have k41 := hE.2.2.2.2.2.2.2.2.2.2.2.1
  rw [am_B173_0 hE, h8]
  by_cases q : M 31 0 2 = 14
  · have ec : ak_c M = 13 := if_pos q
    rw [if_neg (fun z => z q), am_B173_9]
    have hl := tp_173l (N := N) hE 1794 0 (N 41 0) rfl
    rw [ar_s_self] at hl
    have hl' : am_den 173 (11, [some (am_A (35, 0)), some (am_I 0)], [], E, N) = _ := hl
    have e35 : ar_s N 41 (ar_rg (N 41 0) ((0 : Nat) : Int) 1794 (fun k => N 41 0 (k + 138))) 35 0 = N 35 0 := ar_s_ne (by decide)
    rw [hl', am_B173_40 hE, e35, h8, q, ar_up0, e35]
    have w1 : am_w ((14 : Int) - 1) = 13 := rfl
    have w2 : am_w (138 * (13 : Int)) = 1794 := rfl
    obtain ⟨X, eX⟩ : ∃ X, ar_rg (N 41 0) ((0 : Nat) : Int) 1794 (fun k => N 41 0 (k + 138)) = X := ⟨_, rfl⟩
    have e37 : ∀ G, ar_s (ar_s N 41 X) 35 G 37 0 = N 37 0 := fun G => by rw [ar_s_ne (by decide), ar_s_ne (by decide)]
    have e41 : ∀ G, ar_s (ar_s N 41 X) 35 G 41 0 = X := fun G => by rw [ar_s_ne (by decide), ar_s_at]
    rw [w1, eX, am_B173_50 hE, ar_s_at, ar_u_eq, w2, rt_121 (by decide) k37 k41 (by omega) (by omega) (by omega) (by omega), am_bd_u, e37, e41]
    simp only [Nat.reduceAdd]
    have f35 : ∀ D, ar_s (ar_s (ar_s N 41 X) 35 (ar_u (N 35 0) 8 13)) 41 D 35 0 = ar_u (N 35 0) 8 13 := fun D => by rw [ar_s_ne (by decide), ar_s_at]
    refine ⟨rt_cp (N 37 0) X 0 1794, ?_, ?_⟩
    · rw [am_B173_70 hE, f35, ar_u_eq, ar_up0, f35, rt_uu, am_B173_80, rt_sw (show (35 : Nat) ≠ 41 by decide), ar_s_s, ar_s_s, ec]
      rfl
    · intro j x j0 x0 x1
      rw [h37, ec, q]
      refine ⟨fun hj => ?_, fun hj => ?_⟩
      · rw [rt_cp_ne (by omega), if_pos rfl, ← eX]
        unfold ar_rg
        rw [if_pos (by omega)]
        show N 41 0 (138 * j + x + 138) = _
        rw [show 138 * j + x + 138 = 138 * (j + 1) + x by omega, h41]
      · rw [hj, show 138 * (13 : Int) + x = 1794 + x by omega, rt_cp_at ⟨x0, x1⟩, Int.zero_add]
  · have ec : ak_c M = M 31 0 2 := if_neg q
    have w2 : am_w (138 * M 31 0 2) = 138 * M 31 0 2 := am_wi (by omega) (by omega)
    rw [if_pos q, am_B173_50 hE, h8, w2, rt_121 (by decide) k37 k41 (by omega) (by omega) (by omega) (by omega), am_bd_u]
    simp only [Nat.reduceAdd]
    refine ⟨rt_cp (N 37 0) (N 41 0) 0 (138 * M 31 0 2), ?_, ?_⟩
    · rw [am_B173_70 hE, ar_s_ne (show (35 : Nat) ≠ 41 by decide), h8, am_wi (by omega) (by omega), ar_up0, ar_s_ne (show (35 : Nat) ≠ 41 by decide), am_B173_80, ec]
    · intro j x j0 x0 x1
      rw [h37, h41, ec, if_neg q]
      refine ⟨fun hj => ?_, fun hj => ?_⟩
      · rw [rt_cp_ne (by omega)]
      · rw [hj, rt_cp_at ⟨x0, x1⟩, Int.zero_add]
/-- an action done on both sides -/
theorem tp_act {N3 : am_M} {Y' : Nat → Int → Int} {f' : Int → Int} (hs : si M B) (hc : ∀ b, b < 35 → N3 b = am_sb (ak_kp M) 0 Y' b) (h37 : N3 37 0 = f') (ht : ts (B + 576) Y' f') (h8 : N3 35 0 8 = ak_c M + 1) (h2 : N3 35 0 2 = M 35 0 2) (h41 : tdi M (N3 41 0)) (h36 : N3 36 = M 36) (h42 : N3 42 = M 42) (h43 : N3 43 = M 43) : si N3 (B + 576) := by
  obtain ⟨s1, s2, s3, s4⟩ := hs
  have hb : ∀ b, 1 ≤ b → b < 35 → N3 b = ak_kp M b := fun b a c => by rw [hc b c, am_sb_ne (by omega)]
  have hk : ∀ b, 15 ≤ b → b ≠ 31 → ak_kp M b = M b := fun b a c => by
    have htt := ak_t_le (o := ak_o M) (c := ak_c M)
    unfold ak_kp
    rw [am_sb_ne c, am_sb_ne (by omega)]
  refine ⟨?_, ?_, ?_, ?_⟩
  · rw [hc 0 (by omega), am_sb_at, h37]
    exact ht
  · exact tm_cg (M := N3) (tm_keep s2 s1 (fun b a c => hb b a (by omega)) (hb 31 (by omega) (by omega)) h8 h41) (by omega) (fun _ _ _ => rfl) rfl rfl rfl
  · refine tl_cg s3 (by omega) (fun b w => ?_)
    rcases w with w | w | w | w | w | w
    · rw [w, hb 15 (by omega) (by omega), hk 15 (by omega) (by omega)]
    · rw [w, hb 16 (by omega) (by omega), hk 16 (by omega) (by omega)]
    · rw [w, hb 32 (by omega) (by omega), hk 32 (by omega) (by omega)]
    · rw [w, hb 33 (by omega) (by omega), hk 33 (by omega) (by omega)]
    · rw [w]; exact h42
    · rw [w]; exact h43
  · have e30 : N3 30 = M 30 := by rw [hb 30 (by omega) (by omega), hk 30 (by omega) (by omega)]
    exact tx_cg s4 (by rw [e30]) (by rw [e30]) h2 h36
/-- nothing but what no one reads is changed -/
theorem tp_cg {B C : Int} (h : si M B) (hBC : B ≤ C) (h0 : ∀ b, b < 17 → N b = M b) (h1 : ∀ b, b = 31 ∨ b = 32 ∨ b = 33 → N b = M b) (h30 : N 30 0 1 = M 30 0 1) (h301 : N 30 1 = M 30 1) (h2 : N 35 0 2 = M 35 0 2) (h8 : N 35 0 8 = M 35 0 8) (h3 : ∀ b, b = 36 ∨ b = 37 ∨ b = 41 ∨ b = 42 ∨ b = 43 → N b = M b) : si N C := by
  obtain ⟨s1, s2, s3, s4⟩ := h
  refine ⟨?_, ?_, ?_, ?_⟩
  · rw [h0 0 (by omega), h3 37 (by omega)]
    exact ts_le s1 hBC
  · exact tm_cg s2 hBC (fun b a c => h0 b (by omega)) (h1 31 (by omega)) h8 (h3 41 (by omega))
  · refine tl_cg s3 hBC (fun b w => ?_)
    rcases w with w | w | w | w | w | w
    · exact h0 b (by omega)
    · exact h0 b (by omega)
    · exact h1 b (by omega)
    · exact h1 b (by omega)
    · exact h3 b (by omega)
    · exact h3 b (by omega)
  · exact tx_cg s4 h30 h301 h2 (h3 36 (by omega))
end TOP2
