/-! ===== the law's turns without a handler, cover ===== -/
section TOP17
variable {E E1 : am_E} {M N : am_M} {B i : Int} {u5 u6 : Option am_V}
theorem tz_1 (hE : am_Wr E) (hs : si M B) (hB0 : 70000 ≤ B) (hB : B < 2140000000) (hi : 0 ≤ i ∧ i + 3 < ((E.2.2.1 : Nat) : Int)) (hL : E.2.2.1 ≤ 2048) : tz E M B i (am_den 225 (224, [some (am_A (45, 0)), some (am_A (34, 0)), some (am_A (35, 0)), some (am_A (44, 0)), some (am_I i), u5, u6], [], E, M)) := by
  obtain ⟨M1, hM, h⟩ := tp_clearText (u := none) hE hs
  rcases h with ⟨v, hX, h⟩ | ⟨x, _, hx, _⟩
  · obtain ⟨N2, e, e0, hb, hs2⟩ := h E M1 hE (fun _ _ => rfl)
    dsimp only at e
    rw [am_B225_224 hE, hX, am_bd_v]
    simp only [Nat.reduceAdd]
    rw [am_B225_228 hE, e, am_bd_v]
    simp only [Nat.reduceAdd]
    rw [am_B225_232, if_pos rfl]
    exact ⟨E, N2, _, _, rfl, Or.inl rfl, fun b hb' => by rw [hb b (by omega), hM b (by omega)], hs2⟩
  · exact absurd rfl hx
theorem tz_2 (hE : am_Wr E) (hs : si M B) (hB0 : 70000 ≤ B) (hB : B < 2140000000) (hi : 0 ≤ i ∧ i + 3 < ((E.2.2.1 : Nat) : Int)) (hL : E.2.2.1 ≤ 2048) : tz E M B i (am_den 225 (237, [some (am_A (45, 0)), some (am_A (34, 0)), some (am_A (35, 0)), some (am_A (44, 0)), some (am_I i), u5, u6], [], E, M)) := by
  obtain ⟨M1, hM, h⟩ := tp_errorPosition  hE hs
  rcases h with ⟨v, hX, h⟩ | ⟨x, _, hx, _⟩
  · obtain ⟨N2, e, e0, hb, hs2⟩ := h E M1 hE (fun _ _ => rfl)
    dsimp only at e
    rw [am_B225_237 hE, hX, am_bd_v]
    simp only [Nat.reduceAdd]
    rw [am_B225_241 hE, e, am_bd_v]
    simp only [Nat.reduceAdd]
    rw [am_B225_245, if_pos rfl]
    exact ⟨E, N2, _, _, rfl, Or.inl rfl, fun b hb' => by rw [hb b (by omega), hM b (by omega)], hs2⟩
  · exact absurd rfl hx
theorem tz_24 (hE : am_Wr E) (hs : si M B) (hB0 : 70000 ≤ B) (hB : B < 2140000000) (hi : 0 ≤ i ∧ i + 3 < ((E.2.2.1 : Nat) : Int)) (hL : E.2.2.1 ≤ 2048) : tz E M B i (am_den 225 (1483, [some (am_A (45, 0)), some (am_A (34, 0)), some (am_A (35, 0)), some (am_A (44, 0)), some (am_I i), u5, u6], [], E, M)) := by
  obtain ⟨M1, hM, h⟩ := tp_harmless (u1 := none) (u2 := none) (u3 := none) (u4 := none) hE hs
  rcases h with ⟨v, hX, h⟩ | ⟨x, _, hx, _⟩
  · obtain ⟨N2, e, e0, hb, hs2⟩ := h E M1 hE (fun _ _ => rfl)
    dsimp only at e
    rw [am_B225_1483 hE, hX, am_bd_v]
    simp only [Nat.reduceAdd]
    rw [am_B225_1487 hE, e, am_bd_v]
    simp only [Nat.reduceAdd]
    rw [am_B225_1491, if_pos rfl]
    exact ⟨E, N2, _, _, rfl, Or.inl rfl, fun b hb' => by rw [hb b (by omega), hM b (by omega)], hs2⟩
  · exact absurd rfl hx
theorem tz_13 (hE : am_Wr E) (hs : si M B) (hB0 : 70000 ≤ B) (hB : B < 2140000000) (hi : 0 ≤ i ∧ i + 3 < ((E.2.2.1 : Nat) : Int)) (hL : E.2.2.1 ≤ 2048) : tz E M B i (am_den 225 (858, [some (am_A (45, 0)), some (am_A (34, 0)), some (am_A (35, 0)), some (am_A (44, 0)), some (am_I i), u5, u6], [], E, M)) := by
  have gg : ∀ {j : Int}, 1 ≤ j ∧ j ≤ 3 → 0 ≤ am_w (i + j) ∧ am_w (i + j) < ((E.2.2.1 : Nat) : Int) := fun hj => tz_g hi hL hj
  obtain ⟨v, hv⟩ : ∃ v : Int, v = if M 45 0 (am_w (i + 2)) = 0 then 0 else 1 := ⟨_, rfl⟩
  have A : am_den 225 (858, [some (am_A (45, 0)), some (am_A (34, 0)), some (am_A (35, 0)), some (am_A (44, 0)), some (am_I i), u5, u6], [], E, M) = am_den 225 (879, [some (am_A (45, 0)), some (am_A (34, 0)), some (am_A (35, 0)), some (am_A (44, 0)), some (am_I i), u5, u6], [am_I v, am_I (M 45 0 (am_w (i + 1))), am_A (34, 0)], E, M) := by
    rw [am_B225_858 (gg (by decide)) (gg (by decide))]
    by_cases q : M 45 0 (am_w (i + 2)) = 0
    · rw [if_pos q, am_B225_878, hv, if_pos q]
    · rw [if_neg q, am_B225_874, hv, if_neg q]
  rw [A, am_B225_879]
  obtain ⟨c, E1, M1, hW, hE1, hM1, N2, r, hR, e0, e44, hb, hs2⟩ := tw_cover (p := M 45 0 (am_w (i + 1))) (w := v) hE hs hB0 hB
  have hE' := tz_E hE hE1
  have gg1 : ∀ {j : Int}, 1 ≤ j ∧ j ≤ 3 → 0 ≤ am_w (i + j) ∧ am_w (i + j) < ((E1.2.2.1 : Nat) : Int) := fun hj => by rw [tz_L hE1]; exact gg hj
  rw [hW, am_bd_v]
  simp only [Nat.reduceAdd]
  have A1 : am_den 225 (883, [some (am_A (45, 0)), some (am_A (34, 0)), some (am_A (35, 0)), some (am_A (44, 0)), some (am_I i), u5, u6], [am_I c], E1, M1) = am_den 225 (906, [some (am_A (45, 0)), some (am_A (34, 0)), some (am_A (35, 0)), some (am_A (44, 0)), some (am_I i), some (am_I c), u6], [am_I v, am_I (M 45 0 (am_w (i + 1))), am_A (35, 0)], E1, M1) := by
    rw [am_B225_883 (gg1 (by decide)) (gg1 (by decide)), hM1 45 (by decide)]
    by_cases q : M 45 0 (am_w (i + 2)) = 0
    · rw [if_pos q, am_B225_905, hv, if_pos q]
    · rw [if_neg q, am_B225_901, hv, if_neg q]
  rw [A1, am_B225_906 hE']
  have hR' := hR
  dsimp only at hR'
  rw [hR', am_bd_v]
  simp only [Nat.reduceAdd]
  rw [am_B225_909 hE', am_B118_0 hE', am_bd_v]
  simp only [Nat.reduceAdd]
  rw [am_B225_915, if_pos e0, am_B225_922]
  by_cases hc : c = 0
  · rw [if_neg (fun z => z hc), am_B225_927 hE', e44 hc, if_pos tz_c, am_B225_939]
    exact ⟨E1, N2, _, _, rfl, hE1, hb, hs2⟩
  · rw [if_pos hc, am_B225_939]
    exact ⟨E1, N2, _, _, rfl, hE1, hb, hs2⟩
end TOP17
