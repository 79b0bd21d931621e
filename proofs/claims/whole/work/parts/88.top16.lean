/-! ===== the law's turns ===== -/
def tz (E : am_E) (M : am_M) (B i : Int) (X : Option am_Rs) : Prop :=
  ∃ E1 M1 u5 u6, X = am_den 225 (1808, [some (am_A (45, 0)), some (am_A (34, 0)), some (am_A (35, 0)), some (am_A (44, 0)), some (am_I i), u5, u6], [], E1, M1) ∧ (E1 = E ∨ E1 = am_xE E) ∧ (∀ b, 44 < b → M1 b = M b) ∧ si M1 (B + 576)
section TOP16
variable {E E1 : am_E} {M N : am_M} {B i : Int} {u5 u6 : Option am_V}
theorem tz_E (hE : am_Wr E) (h : E1 = E ∨ E1 = am_xE E) : am_Wr E1 := by
  rcases h with h | h
  · rw [h]; exact hE
  · rw [h]; exact tw_x hE
theorem tz_L (h : E1 = E ∨ E1 = am_xE E) : E1.2.2.1 = E.2.2.1 := by
  rcases h with h | h <;> rw [h] <;> rfl
theorem tz_g (h : 0 ≤ i ∧ i + 3 < ((E.2.2.1 : Nat) : Int)) (hL : E.2.2.1 ≤ 2048) {j : Int} (hj : 1 ≤ j ∧ j ≤ 3) : 0 ≤ am_w (i + j) ∧ am_w (i + j) < ((E.2.2.1 : Nat) : Int) := by
  rw [am_wi (by omega) (by omega)]
  omega
theorem tz_c {r : Int} : (if r < r then (-1 : Int) else if r = r then 0 else 1) = 0 := by
  rw [if_neg (by omega), if_pos rfl]
theorem tz_0 (hE : am_Wr E) (hs : si M B) (hB0 : 70000 ≤ B) (hB : B < 2140000000) (hi : 0 ≤ i ∧ i + 3 < ((E.2.2.1 : Nat) : Int)) (hL : E.2.2.1 ≤ 2048) : tz E M B i (am_den 225 (168, [some (am_A (45, 0)), some (am_A (34, 0)), some (am_A (35, 0)), some (am_A (44, 0)), some (am_I i), u5, u6], [], E, M)) := by
  have gg : ∀ {j : Int}, 1 ≤ j ∧ j ≤ 3 → 0 ≤ am_w (i + j) ∧ am_w (i + j) < ((E.2.2.1 : Nat) : Int) := fun hj => tz_g hi hL hj
  rw [am_B225_168 (gg (by decide))]
  obtain ⟨c, E1, M1, hW, hE1, hM1, N2, r, hR, e0, e44, hb, hs2⟩ := tw_append (w := M 45 0 (am_w (i + 1))) hE hs hB0 hB
  have hE' := tz_E hE hE1
  have gg1 : ∀ {j : Int}, 1 ≤ j ∧ j ≤ 3 → 0 ≤ am_w (i + j) ∧ am_w (i + j) < ((E1.2.2.1 : Nat) : Int) := fun hj => by rw [tz_L hE1]; exact gg hj
  rw [hW, am_bd_v]
  simp only [Nat.reduceAdd]
  rw [am_B225_179 hE' (gg1 (by decide)), hM1 45 (by decide)]
  have hR' := hR
  dsimp only at hR'
  rw [hR', am_bd_v]
  simp only [Nat.reduceAdd]
  rw [am_B225_191 hE', am_B118_0 hE', am_bd_v]
  simp only [Nat.reduceAdd]
  rw [am_B225_197, if_pos e0, am_B225_204]
  by_cases hc : c = 0
  · rw [if_neg (fun z => z hc), am_B225_209 hE', e44 hc, if_pos tz_c, am_B225_221]
    exact ⟨E1, N2, _, _, rfl, hE1, hb, hs2⟩
  · rw [if_pos hc, am_B225_221]
    exact ⟨E1, N2, _, _, rfl, hE1, hb, hs2⟩
theorem tz_3 (hE : am_Wr E) (hs : si M B) (hB0 : 70000 ≤ B) (hB : B < 2140000000) (hi : 0 ≤ i ∧ i + 3 < ((E.2.2.1 : Nat) : Int)) (hL : E.2.2.1 ≤ 2048) : tz E M B i (am_den 225 (250, [some (am_A (45, 0)), some (am_A (34, 0)), some (am_A (35, 0)), some (am_A (44, 0)), some (am_I i), u5, u6], [], E, M)) := by
  rw [am_B225_250]
  obtain ⟨c, E1, M1, hW, hE1, hM1, N2, r, hR, e0, e44, hb, hs2⟩ := tw_load hE hs hB0 hB
  have hE' := tz_E hE hE1
  rw [hW, am_bd_v]
  simp only [Nat.reduceAdd]
  rw [am_B225_255 hE']
  have hR' := hR
  dsimp only at hR'
  rw [hR', am_bd_v]
  simp only [Nat.reduceAdd]
  rw [am_B225_261 hE', am_B118_0 hE', am_bd_v]
  simp only [Nat.reduceAdd]
  rw [am_B225_267, if_pos e0, am_B225_274]
  by_cases hc : c = 0
  · rw [if_neg (fun z => z hc), am_B225_279 hE', e44 hc, if_pos tz_c, am_B225_291]
    exact ⟨E1, N2, _, _, rfl, hE1, hb, hs2⟩
  · rw [if_pos hc, am_B225_291]
    exact ⟨E1, N2, _, _, rfl, hE1, hb, hs2⟩
theorem tz_4 (hE : am_Wr E) (hs : si M B) (hB0 : 70000 ≤ B) (hB : B < 2140000000) (hi : 0 ≤ i ∧ i + 3 < ((E.2.2.1 : Nat) : Int)) (hL : E.2.2.1 ≤ 2048) : tz E M B i (am_den 225 (294, [some (am_A (45, 0)), some (am_A (34, 0)), some (am_A (35, 0)), some (am_A (44, 0)), some (am_I i), u5, u6], [], E, M)) := by
  have gg : ∀ {j : Int}, 1 ≤ j ∧ j ≤ 3 → 0 ≤ am_w (i + j) ∧ am_w (i + j) < ((E.2.2.1 : Nat) : Int) := fun hj => tz_g hi hL hj
  rw [am_B225_294 (gg (by decide))]
  obtain ⟨c, E1, M1, hW, hE1, hM1, N2, r, hR, e0, e44, hb, hs2⟩ := tw_about (w := M 45 0 (am_w (i + 1))) hE hs hB0 hB
  have hE' := tz_E hE hE1
  have gg1 : ∀ {j : Int}, 1 ≤ j ∧ j ≤ 3 → 0 ≤ am_w (i + j) ∧ am_w (i + j) < ((E1.2.2.1 : Nat) : Int) := fun hj => by rw [tz_L hE1]; exact gg hj
  rw [hW, am_bd_v]
  simp only [Nat.reduceAdd]
  rw [am_B225_305 hE' (gg1 (by decide)), hM1 45 (by decide)]
  have hR' := hR
  dsimp only at hR'
  rw [hR', am_bd_v]
  simp only [Nat.reduceAdd]
  rw [am_B225_317 hE', am_B118_0 hE', am_bd_v]
  simp only [Nat.reduceAdd]
  rw [am_B225_323, if_pos e0, am_B225_330]
  by_cases hc : c = 0
  · rw [if_neg (fun z => z hc), am_B225_335 hE', e44 hc, if_pos tz_c, am_B225_347]
    exact ⟨E1, N2, _, _, rfl, hE1, hb, hs2⟩
  · rw [if_pos hc, am_B225_347]
    exact ⟨E1, N2, _, _, rfl, hE1, hb, hs2⟩
theorem tz_5 (hE : am_Wr E) (hs : si M B) (hB0 : 70000 ≤ B) (hB : B < 2140000000) (hi : 0 ≤ i ∧ i + 3 < ((E.2.2.1 : Nat) : Int)) (hL : E.2.2.1 ≤ 2048) : tz E M B i (am_den 225 (350, [some (am_A (45, 0)), some (am_A (34, 0)), some (am_A (35, 0)), some (am_A (44, 0)), some (am_I i), u5, u6], [], E, M)) := by
  have gg : ∀ {j : Int}, 1 ≤ j ∧ j ≤ 3 → 0 ≤ am_w (i + j) ∧ am_w (i + j) < ((E.2.2.1 : Nat) : Int) := fun hj => tz_g hi hL hj
  rw [am_B225_350 (gg (by decide)) (gg (by decide))]
  obtain ⟨c, E1, M1, hW, hE1, hM1, N2, r, hR, e0, e44, hb, hs2⟩ := tw_pileOf (p := M 45 0 (am_w (i + 1))) (w := M 45 0 (am_w (i + 2))) hE hs hB0 hB
  have hE' := tz_E hE hE1
  have gg1 : ∀ {j : Int}, 1 ≤ j ∧ j ≤ 3 → 0 ≤ am_w (i + j) ∧ am_w (i + j) < ((E1.2.2.1 : Nat) : Int) := fun hj => by rw [tz_L hE1]; exact gg hj
  rw [hW, am_bd_v]
  simp only [Nat.reduceAdd]
  rw [am_B225_367 hE' (gg1 (by decide)) (gg1 (by decide)), hM1 45 (by decide)]
  have hR' := hR
  dsimp only at hR'
  rw [hR', am_bd_v]
  simp only [Nat.reduceAdd]
  rw [am_B225_385 hE', am_B118_0 hE', am_bd_v]
  simp only [Nat.reduceAdd]
  rw [am_B225_391, if_pos e0, am_B225_398]
  by_cases hc : c = 0
  · rw [if_neg (fun z => z hc), am_B225_403 hE', e44 hc, if_pos tz_c, am_B225_415]
    exact ⟨E1, N2, _, _, rfl, hE1, hb, hs2⟩
  · rw [if_pos hc, am_B225_415]
    exact ⟨E1, N2, _, _, rfl, hE1, hb, hs2⟩
theorem tz_6 (hE : am_Wr E) (hs : si M B) (hB0 : 70000 ≤ B) (hB : B < 2140000000) (hi : 0 ≤ i ∧ i + 3 < ((E.2.2.1 : Nat) : Int)) (hL : E.2.2.1 ≤ 2048) : tz E M B i (am_den 225 (418, [some (am_A (45, 0)), some (am_A (34, 0)), some (am_A (35, 0)), some (am_A (44, 0)), some (am_I i), u5, u6], [], E, M)) := by
  have gg : ∀ {j : Int}, 1 ≤ j ∧ j ≤ 3 → 0 ≤ am_w (i + j) ∧ am_w (i + j) < ((E.2.2.1 : Nat) : Int) := fun hj => tz_g hi hL hj
  rw [am_B225_418 (gg (by decide)) (gg (by decide))]
  obtain ⟨c, E1, M1, hW, hE1, hM1, N2, r, hR, e0, e44, hb, hs2⟩ := tw_logOf (l := M 45 0 (am_w (i + 1))) (w := M 45 0 (am_w (i + 2))) hE hs hB0 hB
  have hE' := tz_E hE hE1
  have gg1 : ∀ {j : Int}, 1 ≤ j ∧ j ≤ 3 → 0 ≤ am_w (i + j) ∧ am_w (i + j) < ((E1.2.2.1 : Nat) : Int) := fun hj => by rw [tz_L hE1]; exact gg hj
  rw [hW, am_bd_v]
  simp only [Nat.reduceAdd]
  rw [am_B225_435 hE' (gg1 (by decide)) (gg1 (by decide)), hM1 45 (by decide)]
  have hR' := hR
  dsimp only at hR'
  rw [hR', am_bd_v]
  simp only [Nat.reduceAdd]
  rw [am_B225_453 hE', am_B118_0 hE', am_bd_v]
  simp only [Nat.reduceAdd]
  rw [am_B225_459, if_pos e0, am_B225_466]
  by_cases hc : c = 0
  · rw [if_neg (fun z => z hc), am_B225_471 hE', e44 hc, if_pos tz_c, am_B225_483]
    exact ⟨E1, N2, _, _, rfl, hE1, hb, hs2⟩
  · rw [if_pos hc, am_B225_483]
    exact ⟨E1, N2, _, _, rfl, hE1, hb, hs2⟩
theorem tz_7 (hE : am_Wr E) (hs : si M B) (hB0 : 70000 ≤ B) (hB : B < 2140000000) (hi : 0 ≤ i ∧ i + 3 < ((E.2.2.1 : Nat) : Int)) (hL : E.2.2.1 ≤ 2048) : tz E M B i (am_den 225 (486, [some (am_A (45, 0)), some (am_A (34, 0)), some (am_A (35, 0)), some (am_A (44, 0)), some (am_I i), u5, u6], [], E, M)) := by
  have gg : ∀ {j : Int}, 1 ≤ j ∧ j ≤ 3 → 0 ≤ am_w (i + j) ∧ am_w (i + j) < ((E.2.2.1 : Nat) : Int) := fun hj => tz_g hi hL hj
  rw [am_B225_486 (gg (by decide)) (gg (by decide)) (gg (by decide))]
  obtain ⟨c, E1, M1, hW, hE1, hM1, N2, r, hR, e0, e44, hb, hs2⟩ := tw_ranked (p := M 45 0 (am_w (i + 1))) (l := M 45 0 (am_w (i + 2))) (w := M 45 0 (am_w (i + 3))) hE hs hB0 hB
  have hE' := tz_E hE hE1
  have gg1 : ∀ {j : Int}, 1 ≤ j ∧ j ≤ 3 → 0 ≤ am_w (i + j) ∧ am_w (i + j) < ((E1.2.2.1 : Nat) : Int) := fun hj => by rw [tz_L hE1]; exact gg hj
  rw [hW, am_bd_v]
  simp only [Nat.reduceAdd]
  rw [am_B225_509 hE' (gg1 (by decide)) (gg1 (by decide)) (gg1 (by decide)), hM1 45 (by decide)]
  have hR' := hR
  dsimp only at hR'
  rw [hR', am_bd_v]
  simp only [Nat.reduceAdd]
  rw [am_B225_533 hE', am_B118_0 hE', am_bd_v]
  simp only [Nat.reduceAdd]
  rw [am_B225_539, if_pos e0, am_B225_546]
  by_cases hc : c = 0
  · rw [if_neg (fun z => z hc), am_B225_551 hE', e44 hc, if_pos tz_c, am_B225_563]
    exact ⟨E1, N2, _, _, rfl, hE1, hb, hs2⟩
  · rw [if_pos hc, am_B225_563]
    exact ⟨E1, N2, _, _, rfl, hE1, hb, hs2⟩
theorem tz_8 (hE : am_Wr E) (hs : si M B) (hB0 : 70000 ≤ B) (hB : B < 2140000000) (hi : 0 ≤ i ∧ i + 3 < ((E.2.2.1 : Nat) : Int)) (hL : E.2.2.1 ≤ 2048) : tz E M B i (am_den 225 (566, [some (am_A (45, 0)), some (am_A (34, 0)), some (am_A (35, 0)), some (am_A (44, 0)), some (am_I i), u5, u6], [], E, M)) := by
  rw [am_B225_566]
  obtain ⟨c, E1, M1, hW, hE1, hM1, N2, r, hR, e0, e44, hb, hs2⟩ := tw_pile hE hs hB0 hB
  have hE' := tz_E hE hE1
  rw [hW, am_bd_v]
  simp only [Nat.reduceAdd]
  rw [am_B225_571 hE']
  have hR' := hR
  dsimp only at hR'
  rw [hR', am_bd_v]
  simp only [Nat.reduceAdd]
  rw [am_B225_577 hE', am_B118_0 hE', am_bd_v]
  simp only [Nat.reduceAdd]
  rw [am_B225_583, if_pos e0, am_B225_590]
  by_cases hc : c = 0
  · rw [if_neg (fun z => z hc), am_B225_595 hE', e44 hc, if_pos tz_c, am_B225_607]
    exact ⟨E1, N2, _, _, rfl, hE1, hb, hs2⟩
  · rw [if_pos hc, am_B225_607]
    exact ⟨E1, N2, _, _, rfl, hE1, hb, hs2⟩
theorem tz_9 (hE : am_Wr E) (hs : si M B) (hB0 : 70000 ≤ B) (hB : B < 2140000000) (hi : 0 ≤ i ∧ i + 3 < ((E.2.2.1 : Nat) : Int)) (hL : E.2.2.1 ≤ 2048) : tz E M B i (am_den 225 (610, [some (am_A (45, 0)), some (am_A (34, 0)), some (am_A (35, 0)), some (am_A (44, 0)), some (am_I i), u5, u6], [], E, M)) := by
  have gg : ∀ {j : Int}, 1 ≤ j ∧ j ≤ 3 → 0 ≤ am_w (i + j) ∧ am_w (i + j) < ((E.2.2.1 : Nat) : Int) := fun hj => tz_g hi hL hj
  rw [am_B225_610 (gg (by decide)) (gg (by decide))]
  obtain ⟨c, E1, M1, hW, hE1, hM1, N2, r, hR, e0, e44, hb, hs2⟩ := tw_log (p := M 45 0 (am_w (i + 1))) (w := M 45 0 (am_w (i + 2))) hE hs hB0 hB
  have hE' := tz_E hE hE1
  have gg1 : ∀ {j : Int}, 1 ≤ j ∧ j ≤ 3 → 0 ≤ am_w (i + j) ∧ am_w (i + j) < ((E1.2.2.1 : Nat) : Int) := fun hj => by rw [tz_L hE1]; exact gg hj
  rw [hW, am_bd_v]
  simp only [Nat.reduceAdd]
  rw [am_B225_627 hE' (gg1 (by decide)) (gg1 (by decide)), hM1 45 (by decide)]
  have hR' := hR
  dsimp only at hR'
  rw [hR', am_bd_v]
  simp only [Nat.reduceAdd]
  rw [am_B225_645 hE', am_B118_0 hE', am_bd_v]
  simp only [Nat.reduceAdd]
  rw [am_B225_651, if_pos e0, am_B225_658]
  by_cases hc : c = 0
  · rw [if_neg (fun z => z hc), am_B225_663 hE', e44 hc, if_pos tz_c, am_B225_675]
    exact ⟨E1, N2, _, _, rfl, hE1, hb, hs2⟩
  · rw [if_pos hc, am_B225_675]
    exact ⟨E1, N2, _, _, rfl, hE1, hb, hs2⟩
theorem tz_10 (hE : am_Wr E) (hs : si M B) (hB0 : 70000 ≤ B) (hB : B < 2140000000) (hi : 0 ≤ i ∧ i + 3 < ((E.2.2.1 : Nat) : Int)) (hL : E.2.2.1 ≤ 2048) : tz E M B i (am_den 225 (678, [some (am_A (45, 0)), some (am_A (34, 0)), some (am_A (35, 0)), some (am_A (44, 0)), some (am_I i), u5, u6], [], E, M)) := by
  have gg : ∀ {j : Int}, 1 ≤ j ∧ j ≤ 3 → 0 ≤ am_w (i + j) ∧ am_w (i + j) < ((E.2.2.1 : Nat) : Int) := fun hj => tz_g hi hL hj
  rw [am_B225_678 (gg (by decide))]
  obtain ⟨c, E1, M1, hW, hE1, hM1, N2, r, hR, e0, e44, hb, hs2⟩ := tw_draw (p := M 45 0 (am_w (i + 1))) hE hs hB0 hB
  have hE' := tz_E hE hE1
  have gg1 : ∀ {j : Int}, 1 ≤ j ∧ j ≤ 3 → 0 ≤ am_w (i + j) ∧ am_w (i + j) < ((E1.2.2.1 : Nat) : Int) := fun hj => by rw [tz_L hE1]; exact gg hj
  rw [hW, am_bd_v]
  simp only [Nat.reduceAdd]
  rw [am_B225_689 hE' (gg1 (by decide)), hM1 45 (by decide)]
  have hR' := hR
  dsimp only at hR'
  rw [hR', am_bd_v]
  simp only [Nat.reduceAdd]
  rw [am_B225_701 hE', am_B118_0 hE', am_bd_v]
  simp only [Nat.reduceAdd]
  rw [am_B225_707, if_pos e0, am_B225_714]
  by_cases hc : c = 0
  · rw [if_neg (fun z => z hc), am_B225_719 hE', e44 hc, if_pos tz_c, am_B225_731]
    exact ⟨E1, N2, _, _, rfl, hE1, hb, hs2⟩
  · rw [if_pos hc, am_B225_731]
    exact ⟨E1, N2, _, _, rfl, hE1, hb, hs2⟩
theorem tz_11 (hE : am_Wr E) (hs : si M B) (hB0 : 70000 ≤ B) (hB : B < 2140000000) (hi : 0 ≤ i ∧ i + 3 < ((E.2.2.1 : Nat) : Int)) (hL : E.2.2.1 ≤ 2048) : tz E M B i (am_den 225 (734, [some (am_A (45, 0)), some (am_A (34, 0)), some (am_A (35, 0)), some (am_A (44, 0)), some (am_I i), u5, u6], [], E, M)) := by
  have gg : ∀ {j : Int}, 1 ≤ j ∧ j ≤ 3 → 0 ≤ am_w (i + j) ∧ am_w (i + j) < ((E.2.2.1 : Nat) : Int) := fun hj => tz_g hi hL hj
  rw [am_B225_734 (gg (by decide))]
  obtain ⟨c, E1, M1, hW, hE1, hM1, N2, r, hR, e0, e44, hb, hs2⟩ := tw_take (l := M 45 0 (am_w (i + 1))) hE hs hB0 hB
  have hE' := tz_E hE hE1
  have gg1 : ∀ {j : Int}, 1 ≤ j ∧ j ≤ 3 → 0 ≤ am_w (i + j) ∧ am_w (i + j) < ((E1.2.2.1 : Nat) : Int) := fun hj => by rw [tz_L hE1]; exact gg hj
  rw [hW, am_bd_v]
  simp only [Nat.reduceAdd]
  rw [am_B225_745 hE' (gg1 (by decide)), hM1 45 (by decide)]
  have hR' := hR
  dsimp only at hR'
  rw [hR', am_bd_v]
  simp only [Nat.reduceAdd]
  rw [am_B225_757 hE', am_B118_0 hE', am_bd_v]
  simp only [Nat.reduceAdd]
  rw [am_B225_763, if_pos e0, am_B225_770]
  by_cases hc : c = 0
  · rw [if_neg (fun z => z hc), am_B225_775 hE', e44 hc, if_pos tz_c, am_B225_787]
    exact ⟨E1, N2, _, _, rfl, hE1, hb, hs2⟩
  · rw [if_pos hc, am_B225_787]
    exact ⟨E1, N2, _, _, rfl, hE1, hb, hs2⟩
theorem tz_12 (hE : am_Wr E) (hs : si M B) (hB0 : 70000 ≤ B) (hB : B < 2140000000) (hi : 0 ≤ i ∧ i + 3 < ((E.2.2.1 : Nat) : Int)) (hL : E.2.2.1 ≤ 2048) : tz E M B i (am_den 225 (790, [some (am_A (45, 0)), some (am_A (34, 0)), some (am_A (35, 0)), some (am_A (44, 0)), some (am_I i), u5, u6], [], E, M)) := by
  have gg : ∀ {j : Int}, 1 ≤ j ∧ j ≤ 3 → 0 ≤ am_w (i + j) ∧ am_w (i + j) < ((E.2.2.1 : Nat) : Int) := fun hj => tz_g hi hL hj
  rw [am_B225_790 (gg (by decide)) (gg (by decide))]
  obtain ⟨c, E1, M1, hW, hE1, hM1, N2, r, hR, e0, e44, hb, hs2⟩ := tw_join (p := M 45 0 (am_w (i + 1))) (q := M 45 0 (am_w (i + 2))) hE hs hB0 hB
  have hE' := tz_E hE hE1
  have gg1 : ∀ {j : Int}, 1 ≤ j ∧ j ≤ 3 → 0 ≤ am_w (i + j) ∧ am_w (i + j) < ((E1.2.2.1 : Nat) : Int) := fun hj => by rw [tz_L hE1]; exact gg hj
  rw [hW, am_bd_v]
  simp only [Nat.reduceAdd]
  rw [am_B225_807 hE' (gg1 (by decide)) (gg1 (by decide)), hM1 45 (by decide)]
  have hR' := hR
  dsimp only at hR'
  rw [hR', am_bd_v]
  simp only [Nat.reduceAdd]
  rw [am_B225_825 hE', am_B118_0 hE', am_bd_v]
  simp only [Nat.reduceAdd]
  rw [am_B225_831, if_pos e0, am_B225_838]
  by_cases hc : c = 0
  · rw [if_neg (fun z => z hc), am_B225_843 hE', e44 hc, if_pos tz_c, am_B225_855]
    exact ⟨E1, N2, _, _, rfl, hE1, hb, hs2⟩
  · rw [if_pos hc, am_B225_855]
    exact ⟨E1, N2, _, _, rfl, hE1, hb, hs2⟩
theorem tz_14 (hE : am_Wr E) (hs : si M B) (hB0 : 70000 ≤ B) (hB : B < 2140000000) (hi : 0 ≤ i ∧ i + 3 < ((E.2.2.1 : Nat) : Int)) (hL : E.2.2.1 ≤ 2048) : tz E M B i (am_den 225 (942, [some (am_A (45, 0)), some (am_A (34, 0)), some (am_A (35, 0)), some (am_A (44, 0)), some (am_I i), u5, u6], [], E, M)) := by
  have gg : ∀ {j : Int}, 1 ≤ j ∧ j ≤ 3 → 0 ≤ am_w (i + j) ∧ am_w (i + j) < ((E.2.2.1 : Nat) : Int) := fun hj => tz_g hi hL hj
  rw [am_B225_942 (gg (by decide))]
  obtain ⟨c, E1, M1, hW, hE1, hM1, N2, r, hR, e0, e44, hb, hs2⟩ := tw_wind (w := M 45 0 (am_w (i + 1))) hE hs hB0 hB
  have hE' := tz_E hE hE1
  have gg1 : ∀ {j : Int}, 1 ≤ j ∧ j ≤ 3 → 0 ≤ am_w (i + j) ∧ am_w (i + j) < ((E1.2.2.1 : Nat) : Int) := fun hj => by rw [tz_L hE1]; exact gg hj
  rw [hW, am_bd_v]
  simp only [Nat.reduceAdd]
  rw [am_B225_953 hE' (gg1 (by decide)), hM1 45 (by decide)]
  have hR' := hR
  dsimp only at hR'
  rw [hR', am_bd_v]
  simp only [Nat.reduceAdd]
  rw [am_B225_965 hE', am_B118_0 hE', am_bd_v]
  simp only [Nat.reduceAdd]
  rw [am_B225_971, if_pos e0, am_B225_978]
  by_cases hc : c = 0
  · rw [if_neg (fun z => z hc), am_B225_983 hE', e44 hc, if_pos tz_c, am_B225_995]
    exact ⟨E1, N2, _, _, rfl, hE1, hb, hs2⟩
  · rw [if_pos hc, am_B225_995]
    exact ⟨E1, N2, _, _, rfl, hE1, hb, hs2⟩
theorem tz_15 (hE : am_Wr E) (hs : si M B) (hB0 : 70000 ≤ B) (hB : B < 2140000000) (hi : 0 ≤ i ∧ i + 3 < ((E.2.2.1 : Nat) : Int)) (hL : E.2.2.1 ≤ 2048) : tz E M B i (am_den 225 (998, [some (am_A (45, 0)), some (am_A (34, 0)), some (am_A (35, 0)), some (am_A (44, 0)), some (am_I i), u5, u6], [], E, M)) := by
  have gg : ∀ {j : Int}, 1 ≤ j ∧ j ≤ 3 → 0 ≤ am_w (i + j) ∧ am_w (i + j) < ((E.2.2.1 : Nat) : Int) := fun hj => tz_g hi hL hj
  rw [am_B225_998 (gg (by decide))]
  obtain ⟨c, E1, M1, hW, hE1, hM1, N2, r, hR, e0, e44, hb, hs2⟩ := tw_rain (w := M 45 0 (am_w (i + 1))) hE hs hB0 hB
  have hE' := tz_E hE hE1
  have gg1 : ∀ {j : Int}, 1 ≤ j ∧ j ≤ 3 → 0 ≤ am_w (i + j) ∧ am_w (i + j) < ((E1.2.2.1 : Nat) : Int) := fun hj => by rw [tz_L hE1]; exact gg hj
  rw [hW, am_bd_v]
  simp only [Nat.reduceAdd]
  rw [am_B225_1009 hE' (gg1 (by decide)), hM1 45 (by decide)]
  have hR' := hR
  dsimp only at hR'
  rw [hR', am_bd_v]
  simp only [Nat.reduceAdd]
  rw [am_B225_1021 hE', am_B118_0 hE', am_bd_v]
  simp only [Nat.reduceAdd]
  rw [am_B225_1027, if_pos e0, am_B225_1034]
  by_cases hc : c = 0
  · rw [if_neg (fun z => z hc), am_B225_1039 hE', e44 hc, if_pos tz_c, am_B225_1051]
    exact ⟨E1, N2, _, _, rfl, hE1, hb, hs2⟩
  · rw [if_pos hc, am_B225_1051]
    exact ⟨E1, N2, _, _, rfl, hE1, hb, hs2⟩
theorem tz_16 (hE : am_Wr E) (hs : si M B) (hB0 : 70000 ≤ B) (hB : B < 2140000000) (hi : 0 ≤ i ∧ i + 3 < ((E.2.2.1 : Nat) : Int)) (hL : E.2.2.1 ≤ 2048) : tz E M B i (am_den 225 (1054, [some (am_A (45, 0)), some (am_A (34, 0)), some (am_A (35, 0)), some (am_A (44, 0)), some (am_I i), u5, u6], [], E, M)) := by
  have gg : ∀ {j : Int}, 1 ≤ j ∧ j ≤ 3 → 0 ≤ am_w (i + j) ∧ am_w (i + j) < ((E.2.2.1 : Nat) : Int) := fun hj => tz_g hi hL hj
  rw [am_B225_1054 (gg (by decide))]
  obtain ⟨c, E1, M1, hW, hE1, hM1, N2, r, hR, e0, e44, hb, hs2⟩ := tw_mend (p := M 45 0 (am_w (i + 1))) hE hs hB0 hB
  have hE' := tz_E hE hE1
  have gg1 : ∀ {j : Int}, 1 ≤ j ∧ j ≤ 3 → 0 ≤ am_w (i + j) ∧ am_w (i + j) < ((E1.2.2.1 : Nat) : Int) := fun hj => by rw [tz_L hE1]; exact gg hj
  rw [hW, am_bd_v]
  simp only [Nat.reduceAdd]
  rw [am_B225_1065 hE' (gg1 (by decide)), hM1 45 (by decide)]
  have hR' := hR
  dsimp only at hR'
  rw [hR', am_bd_v]
  simp only [Nat.reduceAdd]
  rw [am_B225_1077 hE', am_B118_0 hE', am_bd_v]
  simp only [Nat.reduceAdd]
  rw [am_B225_1083, if_pos e0, am_B225_1090]
  by_cases hc : c = 0
  · rw [if_neg (fun z => z hc), am_B225_1095 hE', e44 hc, if_pos tz_c, am_B225_1107]
    exact ⟨E1, N2, _, _, rfl, hE1, hb, hs2⟩
  · rw [if_pos hc, am_B225_1107]
    exact ⟨E1, N2, _, _, rfl, hE1, hb, hs2⟩
theorem tz_17 (hE : am_Wr E) (hs : si M B) (hB0 : 70000 ≤ B) (hB : B < 2140000000) (hi : 0 ≤ i ∧ i + 3 < ((E.2.2.1 : Nat) : Int)) (hL : E.2.2.1 ≤ 2048) : tz E M B i (am_den 225 (1110, [some (am_A (45, 0)), some (am_A (34, 0)), some (am_A (35, 0)), some (am_A (44, 0)), some (am_I i), u5, u6], [], E, M)) := by
  have gg : ∀ {j : Int}, 1 ≤ j ∧ j ≤ 3 → 0 ≤ am_w (i + j) ∧ am_w (i + j) < ((E.2.2.1 : Nat) : Int) := fun hj => tz_g hi hL hj
  rw [am_B225_1110 (gg (by decide))]
  obtain ⟨c, E1, M1, hW, hE1, hM1, N2, r, hR, e0, e44, hb, hs2⟩ := tw_nights (w := M 45 0 (am_w (i + 1))) hE hs hB0 hB
  have hE' := tz_E hE hE1
  have gg1 : ∀ {j : Int}, 1 ≤ j ∧ j ≤ 3 → 0 ≤ am_w (i + j) ∧ am_w (i + j) < ((E1.2.2.1 : Nat) : Int) := fun hj => by rw [tz_L hE1]; exact gg hj
  rw [hW, am_bd_v]
  simp only [Nat.reduceAdd]
  rw [am_B225_1121 hE' (gg1 (by decide)), hM1 45 (by decide)]
  have hR' := hR
  dsimp only at hR'
  rw [hR', am_bd_v]
  simp only [Nat.reduceAdd]
  rw [am_B225_1133 hE', am_B118_0 hE', am_bd_v]
  simp only [Nat.reduceAdd]
  rw [am_B225_1139, if_pos e0, am_B225_1146]
  by_cases hc : c = 0
  · rw [if_neg (fun z => z hc), am_B225_1151 hE', e44 hc, if_pos tz_c, am_B225_1163]
    exact ⟨E1, N2, _, _, rfl, hE1, hb, hs2⟩
  · rw [if_pos hc, am_B225_1163]
    exact ⟨E1, N2, _, _, rfl, hE1, hb, hs2⟩
theorem tz_18 (hE : am_Wr E) (hs : si M B) (hB0 : 70000 ≤ B) (hB : B < 2140000000) (hi : 0 ≤ i ∧ i + 3 < ((E.2.2.1 : Nat) : Int)) (hL : E.2.2.1 ≤ 2048) : tz E M B i (am_den 225 (1166, [some (am_A (45, 0)), some (am_A (34, 0)), some (am_A (35, 0)), some (am_A (44, 0)), some (am_I i), u5, u6], [], E, M)) := by
  have gg : ∀ {j : Int}, 1 ≤ j ∧ j ≤ 3 → 0 ≤ am_w (i + j) ∧ am_w (i + j) < ((E.2.2.1 : Nat) : Int) := fun hj => tz_g hi hL hj
  rw [am_B225_1166 (gg (by decide))]
  obtain ⟨c, E1, M1, hW, hE1, hM1, N2, r, hR, e0, e44, hb, hs2⟩ := tw_set (w := M 45 0 (am_w (i + 1))) hE hs hB0 hB
  have hE' := tz_E hE hE1
  have gg1 : ∀ {j : Int}, 1 ≤ j ∧ j ≤ 3 → 0 ≤ am_w (i + j) ∧ am_w (i + j) < ((E1.2.2.1 : Nat) : Int) := fun hj => by rw [tz_L hE1]; exact gg hj
  rw [hW, am_bd_v]
  simp only [Nat.reduceAdd]
  rw [am_B225_1177 hE' (gg1 (by decide)), hM1 45 (by decide)]
  have hR' := hR
  dsimp only at hR'
  rw [hR', am_bd_v]
  simp only [Nat.reduceAdd]
  rw [am_B225_1189 hE', am_B118_0 hE', am_bd_v]
  simp only [Nat.reduceAdd]
  rw [am_B225_1195, if_pos e0, am_B225_1202]
  by_cases hc : c = 0
  · rw [if_neg (fun z => z hc), am_B225_1207 hE', e44 hc, if_pos tz_c, am_B225_1219]
    exact ⟨E1, N2, _, _, rfl, hE1, hb, hs2⟩
  · rw [if_pos hc, am_B225_1219]
    exact ⟨E1, N2, _, _, rfl, hE1, hb, hs2⟩
theorem tz_19 (hE : am_Wr E) (hs : si M B) (hB0 : 70000 ≤ B) (hB : B < 2140000000) (hi : 0 ≤ i ∧ i + 3 < ((E.2.2.1 : Nat) : Int)) (hL : E.2.2.1 ≤ 2048) : tz E M B i (am_den 225 (1222, [some (am_A (45, 0)), some (am_A (34, 0)), some (am_A (35, 0)), some (am_A (44, 0)), some (am_I i), u5, u6], [], E, M)) := by
  rw [am_B225_1222]
  obtain ⟨c, E1, M1, hW, hE1, hM1, N2, r, hR, e0, e44, hb, hs2⟩ := tw_undo hE hs hB0 hB
  have hE' := tz_E hE hE1
  rw [hW, am_bd_v]
  simp only [Nat.reduceAdd]
  rw [am_B225_1227 hE']
  have hR' := hR
  dsimp only at hR'
  rw [hR', am_bd_v]
  simp only [Nat.reduceAdd]
  rw [am_B225_1233 hE', am_B118_0 hE', am_bd_v]
  simp only [Nat.reduceAdd]
  rw [am_B225_1239, if_pos e0, am_B225_1246]
  by_cases hc : c = 0
  · rw [if_neg (fun z => z hc), am_B225_1251 hE', e44 hc, if_pos tz_c, am_B225_1263]
    exact ⟨E1, N2, _, _, rfl, hE1, hb, hs2⟩
  · rw [if_pos hc, am_B225_1263]
    exact ⟨E1, N2, _, _, rfl, hE1, hb, hs2⟩
theorem tz_20 (hE : am_Wr E) (hs : si M B) (hB0 : 70000 ≤ B) (hB : B < 2140000000) (hi : 0 ≤ i ∧ i + 3 < ((E.2.2.1 : Nat) : Int)) (hL : E.2.2.1 ≤ 2048) : tz E M B i (am_den 225 (1266, [some (am_A (45, 0)), some (am_A (34, 0)), some (am_A (35, 0)), some (am_A (44, 0)), some (am_I i), u5, u6], [], E, M)) := by
  have gg : ∀ {j : Int}, 1 ≤ j ∧ j ≤ 3 → 0 ≤ am_w (i + j) ∧ am_w (i + j) < ((E.2.2.1 : Nat) : Int) := fun hj => tz_g hi hL hj
  rw [am_B225_1266 (gg (by decide)) (gg (by decide))]
  obtain ⟨c, E1, M1, hW, hE1, hM1, N2, r, hR, e0, e44, hb, hs2⟩ := tw_drawsTill (p := M 45 0 (am_w (i + 1))) (w := M 45 0 (am_w (i + 2))) hE hs hB0 hB
  have hE' := tz_E hE hE1
  have gg1 : ∀ {j : Int}, 1 ≤ j ∧ j ≤ 3 → 0 ≤ am_w (i + j) ∧ am_w (i + j) < ((E1.2.2.1 : Nat) : Int) := fun hj => by rw [tz_L hE1]; exact gg hj
  rw [hW, am_bd_v]
  simp only [Nat.reduceAdd]
  rw [am_B225_1283 hE' (gg1 (by decide)) (gg1 (by decide)), hM1 45 (by decide)]
  have hR' := hR
  dsimp only at hR'
  rw [hR', am_bd_v]
  simp only [Nat.reduceAdd]
  rw [am_B225_1301 hE', am_B118_0 hE', am_bd_v]
  simp only [Nat.reduceAdd]
  rw [am_B225_1307, if_pos e0, am_B225_1314]
  by_cases hc : c = 0
  · rw [if_neg (fun z => z hc), am_B225_1319 hE', e44 hc, if_pos tz_c, am_B225_1331]
    exact ⟨E1, N2, _, _, rfl, hE1, hb, hs2⟩
  · rw [if_pos hc, am_B225_1331]
    exact ⟨E1, N2, _, _, rfl, hE1, hb, hs2⟩
theorem tz_21 (hE : am_Wr E) (hs : si M B) (hB0 : 70000 ≤ B) (hB : B < 2140000000) (hi : 0 ≤ i ∧ i + 3 < ((E.2.2.1 : Nat) : Int)) (hL : E.2.2.1 ≤ 2048) : tz E M B i (am_den 225 (1334, [some (am_A (45, 0)), some (am_A (34, 0)), some (am_A (35, 0)), some (am_A (44, 0)), some (am_I i), u5, u6], [], E, M)) := by
  have gg : ∀ {j : Int}, 1 ≤ j ∧ j ≤ 3 → 0 ≤ am_w (i + j) ∧ am_w (i + j) < ((E.2.2.1 : Nat) : Int) := fun hj => tz_g hi hL hj
  rw [am_B225_1334 (gg (by decide)) (gg (by decide))]
  obtain ⟨c, E1, M1, hW, hE1, hM1, N2, r, hR, e0, e44, hb, hs2⟩ := tw_ifJoined (p := M 45 0 (am_w (i + 1))) (q := M 45 0 (am_w (i + 2))) hE hs hB0 hB
  have hE' := tz_E hE hE1
  have gg1 : ∀ {j : Int}, 1 ≤ j ∧ j ≤ 3 → 0 ≤ am_w (i + j) ∧ am_w (i + j) < ((E1.2.2.1 : Nat) : Int) := fun hj => by rw [tz_L hE1]; exact gg hj
  rw [hW, am_bd_v]
  simp only [Nat.reduceAdd]
  rw [am_B225_1351 hE' (gg1 (by decide)) (gg1 (by decide)), hM1 45 (by decide)]
  have hR' := hR
  dsimp only at hR'
  rw [hR', am_bd_v]
  simp only [Nat.reduceAdd]
  rw [am_B225_1369 hE', am_B118_0 hE', am_bd_v]
  simp only [Nat.reduceAdd]
  rw [am_B225_1375, if_pos e0, am_B225_1382]
  by_cases hc : c = 0
  · rw [if_neg (fun z => z hc), am_B225_1387 hE', e44 hc, if_pos tz_c, am_B225_1399]
    exact ⟨E1, N2, _, _, rfl, hE1, hb, hs2⟩
  · rw [if_pos hc, am_B225_1399]
    exact ⟨E1, N2, _, _, rfl, hE1, hb, hs2⟩
theorem tz_23 (hE : am_Wr E) (hs : si M B) (hB0 : 70000 ≤ B) (hB : B < 2140000000) (hi : 0 ≤ i ∧ i + 3 < ((E.2.2.1 : Nat) : Int)) (hL : E.2.2.1 ≤ 2048) : tz E M B i (am_den 225 (1415, [some (am_A (45, 0)), some (am_A (34, 0)), some (am_A (35, 0)), some (am_A (44, 0)), some (am_I i), u5, u6], [], E, M)) := by
  have gg : ∀ {j : Int}, 1 ≤ j ∧ j ≤ 3 → 0 ≤ am_w (i + j) ∧ am_w (i + j) < ((E.2.2.1 : Nat) : Int) := fun hj => tz_g hi hL hj
  rw [am_B225_1415 (gg (by decide)) (gg (by decide))]
  obtain ⟨c, E1, M1, hW, hE1, hM1, N2, r, hR, e0, e44, hb, hs2⟩ := tw_ifMended (p := M 45 0 (am_w (i + 1))) (w := M 45 0 (am_w (i + 2))) hE hs hB0 hB
  have hE' := tz_E hE hE1
  have gg1 : ∀ {j : Int}, 1 ≤ j ∧ j ≤ 3 → 0 ≤ am_w (i + j) ∧ am_w (i + j) < ((E1.2.2.1 : Nat) : Int) := fun hj => by rw [tz_L hE1]; exact gg hj
  rw [hW, am_bd_v]
  simp only [Nat.reduceAdd]
  rw [am_B225_1432 hE' (gg1 (by decide)) (gg1 (by decide)), hM1 45 (by decide)]
  have hR' := hR
  dsimp only at hR'
  rw [hR', am_bd_v]
  simp only [Nat.reduceAdd]
  rw [am_B225_1450 hE', am_B118_0 hE', am_bd_v]
  simp only [Nat.reduceAdd]
  rw [am_B225_1456, if_pos e0, am_B225_1463]
  by_cases hc : c = 0
  · rw [if_neg (fun z => z hc), am_B225_1468 hE', e44 hc, if_pos tz_c, am_B225_1480]
    exact ⟨E1, N2, _, _, rfl, hE1, hb, hs2⟩
  · rw [if_pos hc, am_B225_1480]
    exact ⟨E1, N2, _, _, rfl, hE1, hb, hs2⟩
theorem tz_25 (hE : am_Wr E) (hs : si M B) (hB0 : 70000 ≤ B) (hB : B < 2140000000) (hi : 0 ≤ i ∧ i + 3 < ((E.2.2.1 : Nat) : Int)) (hL : E.2.2.1 ≤ 2048) : tz E M B i (am_den 225 (1496, [some (am_A (45, 0)), some (am_A (34, 0)), some (am_A (35, 0)), some (am_A (44, 0)), some (am_I i), u5, u6], [], E, M)) := by
  have gg : ∀ {j : Int}, 1 ≤ j ∧ j ≤ 3 → 0 ≤ am_w (i + j) ∧ am_w (i + j) < ((E.2.2.1 : Nat) : Int) := fun hj => tz_g hi hL hj
  rw [am_B225_1496 (gg (by decide)) (gg (by decide)) (gg (by decide))]
  obtain ⟨c, E1, M1, hW, hE1, hM1, N2, r, hR, e0, e44, hb, hs2⟩ := tw_runScript (n := M 45 0 (am_w (i + 1))) (x := (Int64.ofInt (((Int64.ofInt (M 45 0 (am_w (i + 2))) <<< ((Int32.ofInt 32).toInt64 &&& 63)).toInt)) ||| Int64.ofInt (((Int64.ofInt ((M 45 0 (am_w (i + 3)))) &&& Int64.ofInt (4294967295)).toInt))).toInt) hE hs hB0 hB (Int64.toInt_lt _)
  have hE' := tz_E hE hE1
  have gg1 : ∀ {j : Int}, 1 ≤ j ∧ j ≤ 3 → 0 ≤ am_w (i + j) ∧ am_w (i + j) < ((E1.2.2.1 : Nat) : Int) := fun hj => by rw [tz_L hE1]; exact gg hj
  rw [hW, am_bd_v]
  simp only [Nat.reduceAdd]
  rw [am_B225_1529 hE' (gg1 (by decide)) (gg1 (by decide)) (gg1 (by decide)), hM1 45 (by decide)]
  have hR' := hR
  dsimp only at hR'
  rw [hR', am_bd_v]
  simp only [Nat.reduceAdd]
  rw [am_B225_1563 hE', am_B118_0 hE', am_bd_v]
  simp only [Nat.reduceAdd]
  rw [am_B225_1569, if_pos e0, am_B225_1576]
  by_cases hc : c = 0
  · rw [if_neg (fun z => z hc), am_B225_1581 hE', e44 hc, if_pos tz_c, am_B225_1593]
    exact ⟨E1, N2, _, _, rfl, hE1, hb, hs2⟩
  · rw [if_pos hc, am_B225_1593]
    exact ⟨E1, N2, _, _, rfl, hE1, hb, hs2⟩
theorem tz_26 (hE : am_Wr E) (hs : si M B) (hB0 : 70000 ≤ B) (hB : B < 2140000000) (hi : 0 ≤ i ∧ i + 3 < ((E.2.2.1 : Nat) : Int)) (hL : E.2.2.1 ≤ 2048) : tz E M B i (am_den 225 (1596, [some (am_A (45, 0)), some (am_A (34, 0)), some (am_A (35, 0)), some (am_A (44, 0)), some (am_I i), u5, u6], [], E, M)) := by
  have gg : ∀ {j : Int}, 1 ≤ j ∧ j ≤ 3 → 0 ≤ am_w (i + j) ∧ am_w (i + j) < ((E.2.2.1 : Nat) : Int) := fun hj => tz_g hi hL hj
  rw [am_B225_1596 (gg (by decide)) (gg (by decide)) (gg (by decide))]
  obtain ⟨c, E1, M1, hW, hE1, hM1, N2, r, hR, e0, e44, hb, hs2⟩ := tw_simulate (x := (Int64.ofInt (((Int64.ofInt (M 45 0 (am_w (i + 1))) <<< ((Int32.ofInt 32).toInt64 &&& 63)).toInt)) ||| Int64.ofInt (((Int64.ofInt ((M 45 0 (am_w (i + 2)))) &&& Int64.ofInt (4294967295)).toInt))).toInt) (n := M 45 0 (am_w (i + 3))) hE hs hB0 hB
  have hE' := tz_E hE hE1
  have gg1 : ∀ {j : Int}, 1 ≤ j ∧ j ≤ 3 → 0 ≤ am_w (i + j) ∧ am_w (i + j) < ((E1.2.2.1 : Nat) : Int) := fun hj => by rw [tz_L hE1]; exact gg hj
  rw [hW, am_bd_v]
  simp only [Nat.reduceAdd]
  rw [am_B225_1629 hE' (gg1 (by decide)) (gg1 (by decide)) (gg1 (by decide)), hM1 45 (by decide)]
  have hR' := hR
  dsimp only at hR'
  rw [hR', am_bd_v]
  simp only [Nat.reduceAdd]
  rw [am_B225_1663 hE', am_B118_0 hE', am_bd_v]
  simp only [Nat.reduceAdd]
  rw [am_B225_1669, if_pos e0, am_B225_1676]
  by_cases hc : c = 0
  · rw [if_neg (fun z => z hc), am_B225_1681 hE', e44 hc, if_pos tz_c, am_B225_1693]
    exact ⟨E1, N2, _, _, rfl, hE1, hb, hs2⟩
  · rw [if_pos hc, am_B225_1693]
    exact ⟨E1, N2, _, _, rfl, hE1, hb, hs2⟩
theorem tz_27 (hE : am_Wr E) (hs : si M B) (hB0 : 70000 ≤ B) (hB : B < 2140000000) (hi : 0 ≤ i ∧ i + 3 < ((E.2.2.1 : Nat) : Int)) (hL : E.2.2.1 ≤ 2048) : tz E M B i (am_den 225 (1696, [some (am_A (45, 0)), some (am_A (34, 0)), some (am_A (35, 0)), some (am_A (44, 0)), some (am_I i), u5, u6], [], E, M)) := by
  have gg : ∀ {j : Int}, 1 ≤ j ∧ j ≤ 3 → 0 ≤ am_w (i + j) ∧ am_w (i + j) < ((E.2.2.1 : Nat) : Int) := fun hj => tz_g hi hL hj
  rw [am_B225_1696 (gg (by decide))]
  obtain ⟨c, E1, M1, hW, hE1, hM1, N2, r, hR, e0, e44, hb, hs2⟩ := tw_save (w := M 45 0 (am_w (i + 1))) hE hs hB0 hB
  have hE' := tz_E hE hE1
  have gg1 : ∀ {j : Int}, 1 ≤ j ∧ j ≤ 3 → 0 ≤ am_w (i + j) ∧ am_w (i + j) < ((E1.2.2.1 : Nat) : Int) := fun hj => by rw [tz_L hE1]; exact gg hj
  rw [hW, am_bd_v]
  simp only [Nat.reduceAdd]
  rw [am_B225_1707 hE' (gg1 (by decide)), hM1 45 (by decide)]
  have hR' := hR
  dsimp only at hR'
  rw [hR', am_bd_v]
  simp only [Nat.reduceAdd]
  rw [am_B225_1719 hE', am_B118_0 hE', am_bd_v]
  simp only [Nat.reduceAdd]
  rw [am_B225_1725, if_pos e0, am_B225_1732]
  by_cases hc : c = 0
  · rw [if_neg (fun z => z hc), am_B225_1737 hE', e44 hc, if_pos tz_c, am_B225_1749]
    exact ⟨E1, N2, _, _, rfl, hE1, hb, hs2⟩
  · rw [if_pos hc, am_B225_1749]
    exact ⟨E1, N2, _, _, rfl, hE1, hb, hs2⟩
theorem tz_28 (hE : am_Wr E) (hs : si M B) (hB0 : 70000 ≤ B) (hB : B < 2140000000) (hi : 0 ≤ i ∧ i + 3 < ((E.2.2.1 : Nat) : Int)) (hL : E.2.2.1 ≤ 2048) : tz E M B i (am_den 225 (1752, [some (am_A (45, 0)), some (am_A (34, 0)), some (am_A (35, 0)), some (am_A (44, 0)), some (am_I i), u5, u6], [], E, M)) := by
  have gg : ∀ {j : Int}, 1 ≤ j ∧ j ≤ 3 → 0 ≤ am_w (i + j) ∧ am_w (i + j) < ((E.2.2.1 : Nat) : Int) := fun hj => tz_g hi hL hj
  rw [am_B225_1752 (gg (by decide))]
  obtain ⟨c, E1, M1, hW, hE1, hM1, N2, r, hR, e0, e44, hb, hs2⟩ := tw_restore (w := M 45 0 (am_w (i + 1))) hE hs hB0 hB
  have hE' := tz_E hE hE1
  have gg1 : ∀ {j : Int}, 1 ≤ j ∧ j ≤ 3 → 0 ≤ am_w (i + j) ∧ am_w (i + j) < ((E1.2.2.1 : Nat) : Int) := fun hj => by rw [tz_L hE1]; exact gg hj
  rw [hW, am_bd_v]
  simp only [Nat.reduceAdd]
  rw [am_B225_1763 hE' (gg1 (by decide)), hM1 45 (by decide)]
  have hR' := hR
  dsimp only at hR'
  rw [hR', am_bd_v]
  simp only [Nat.reduceAdd]
  rw [am_B225_1775 hE', am_B118_0 hE', am_bd_v]
  simp only [Nat.reduceAdd]
  rw [am_B225_1781, if_pos e0, am_B225_1788]
  by_cases hc : c = 0
  · rw [if_neg (fun z => z hc), am_B225_1793 hE', e44 hc, if_pos tz_c, am_B225_1805]
    exact ⟨E1, N2, _, _, rfl, hE1, hb, hs2⟩
  · rw [if_pos hc, am_B225_1805]
    exact ⟨E1, N2, _, _, rfl, hE1, hb, hs2⟩
end TOP16
