/-! ===== the law's loop (fewestLifts' turn is a hypothesis here) ===== -/
def tz22 : Prop := ∀ (E : am_E) (M : am_M) (B i : Int) (u5 u6 : Option am_V), am_Wr E → si M B → 70000 ≤ B → B < 2140000000 → (0 ≤ i ∧ i + 3 < ((E.2.2.1 : Nat) : Int)) → E.2.2.1 ≤ 2048 → tz E M B i (am_den 225 (1402, [some (am_A (45, 0)), some (am_A (34, 0)), some (am_A (35, 0)), some (am_A (44, 0)), some (am_I i), u5, u6], [], E, M))
section TOP18
variable {E E1 : am_E} {M N : am_M} {B i : Int} {u5 u6 : Option am_V}
theorem tl_32 (H : tz22) (hE : am_Wr E) (hs : si M B) (hB0 : 70000 ≤ B) (hB : B < 2140000000) (hi : 0 ≤ i ∧ i + 3 < ((E.2.2.1 : Nat) : Int)) (hL : E.2.2.1 ≤ 2048) : tz E M B i (am_den 225 (32, [some (am_A (45, 0)), some (am_A (34, 0)), some (am_A (35, 0)), some (am_A (44, 0)), some (am_I i), u5, u6], [], E, M)) := by
  rw [am_B225_32 (by omega)]
  generalize (Int32.ofInt (M 45 0 i) &&& Int32.ofInt 31).toInt = k
  by_cases hd : k < 0 ∨ 28 < k
  · rw [am_S225_39d hd]
    exact ⟨E, M, _, _, rfl, Or.inl rfl, fun _ _ => rfl, tp_cg hs (by omega) (fun b _ => rfl) (fun b _ => rfl) rfl rfl rfl rfl (fun b _ => rfl)⟩
  · have hk : k = 0 ∨ k = 1 ∨ k = 2 ∨ k = 3 ∨ k = 4 ∨ k = 5 ∨ k = 6 ∨ k = 7 ∨ k = 8 ∨ k = 9 ∨ k = 10 ∨ k = 11 ∨ k = 12 ∨ k = 13 ∨ k = 14 ∨ k = 15 ∨ k = 16 ∨ k = 17 ∨ k = 18 ∨ k = 19 ∨ k = 20 ∨ k = 21 ∨ k = 22 ∨ k = 23 ∨ k = 24 ∨ k = 25 ∨ k = 26 ∨ k = 27 ∨ k = 28 := by omega
    rcases hk with h | h | h | h | h | h | h | h | h | h | h | h | h | h | h | h | h | h | h | h | h | h | h | h | h | h | h | h | h
    · rw [am_S225_39v0 h]
      exact tz_0 hE hs hB0 hB hi hL
    · rw [am_S225_39v1 h]
      exact tz_1 hE hs hB0 hB hi hL
    · rw [am_S225_39v2 h]
      exact tz_2 hE hs hB0 hB hi hL
    · rw [am_S225_39v3 h]
      exact tz_3 hE hs hB0 hB hi hL
    · rw [am_S225_39v4 h]
      exact tz_4 hE hs hB0 hB hi hL
    · rw [am_S225_39v5 h]
      exact tz_5 hE hs hB0 hB hi hL
    · rw [am_S225_39v6 h]
      exact tz_6 hE hs hB0 hB hi hL
    · rw [am_S225_39v7 h]
      exact tz_7 hE hs hB0 hB hi hL
    · rw [am_S225_39v8 h]
      exact tz_8 hE hs hB0 hB hi hL
    · rw [am_S225_39v9 h]
      exact tz_9 hE hs hB0 hB hi hL
    · rw [am_S225_39v10 h]
      exact tz_10 hE hs hB0 hB hi hL
    · rw [am_S225_39v11 h]
      exact tz_11 hE hs hB0 hB hi hL
    · rw [am_S225_39v12 h]
      exact tz_12 hE hs hB0 hB hi hL
    · rw [am_S225_39v13 h]
      exact tz_13 hE hs hB0 hB hi hL
    · rw [am_S225_39v14 h]
      exact tz_14 hE hs hB0 hB hi hL
    · rw [am_S225_39v15 h]
      exact tz_15 hE hs hB0 hB hi hL
    · rw [am_S225_39v16 h]
      exact tz_16 hE hs hB0 hB hi hL
    · rw [am_S225_39v17 h]
      exact tz_17 hE hs hB0 hB hi hL
    · rw [am_S225_39v18 h]
      exact tz_18 hE hs hB0 hB hi hL
    · rw [am_S225_39v19 h]
      exact tz_19 hE hs hB0 hB hi hL
    · rw [am_S225_39v20 h]
      exact tz_20 hE hs hB0 hB hi hL
    · rw [am_S225_39v21 h]
      exact tz_21 hE hs hB0 hB hi hL
    · rw [am_S225_39v22 h]
      exact H E M B i u5 u6 hE hs hB0 hB hi hL
    · rw [am_S225_39v23 h]
      exact tz_23 hE hs hB0 hB hi hL
    · rw [am_S225_39v24 h]
      exact tz_24 hE hs hB0 hB hi hL
    · rw [am_S225_39v25 h]
      exact tz_25 hE hs hB0 hB hi hL
    · rw [am_S225_39v26 h]
      exact tz_26 hE hs hB0 hB hi hL
    · rw [am_S225_39v27 h]
      exact tz_27 hE hs hB0 hB hi hL
    · rw [am_S225_39v28 h]
      exact tz_28 hE hs hB0 hB hi hL
theorem tl_23 (H : tz22) {L : Nat} (hL : L ≤ 2048) : ∀ (m : Nat) (i : Int) (E : am_E) (M : am_M) (B : Int) (u5 u6 : Option am_V), 0 ≤ i → i ≤ 4000 → (L : Int) - i ≤ 4 * m → 70000 ≤ B → B + 576 * m < 2140000000 → am_Wr E → si M B → E.2.2.1 = L →
    ∃ E1 M1, am_den 225 (23, [some (am_A (45, 0)), some (am_A (34, 0)), some (am_A (35, 0)), some (am_A (44, 0)), some (am_I i), u5, u6], [], E, M) = some (.inl (some (am_I 1)), E1, M1) ∧ E1.1 = E.1 ∧ E1.2.2 = E.2.2 ∧ E1.2.1 ≤ E.2.1 + m := by
  intro m
  induction m with
  | zero =>
    intro i E M B u5 u6 i0 i1 hm hB0 hB hE hs hEL
    have w1 : am_w (((E.2.2.1 : Nat) : Int) - 4) = (L : Int) - 4 := by rw [hEL, am_wi (by omega) (by omega)]
    exact ⟨E, M, by rw [am_B225_23, w1, if_pos (by omega), am_B225_1814], rfl, rfl, Nat.le_refl _⟩
  | succ m ih =>
    intro i E M B u5 u6 i0 i1 hm hB0 hB hE hs hEL
    have w1 : am_w (((E.2.2.1 : Nat) : Int) - 4) = (L : Int) - 4 := by rw [hEL, am_wi (by omega) (by omega)]
    by_cases q : (L : Int) - 4 < i
    · exact ⟨E, M, by rw [am_B225_23, w1, if_pos q, am_B225_1814], rfl, rfl, by omega⟩
    · obtain ⟨E1, M1, v5, v6, e, hE1, hM, hs1⟩ := tl_32 (u5 := u5) (u6 := u6) H hE hs hB0 (by omega) (show 0 ≤ i ∧ i + 3 < ((E.2.2.1 : Nat) : Int) by rw [hEL]; omega) (by omega)
      have w4 : am_w (i + 4) = i + 4 := am_wi (by omega) (by omega)
      obtain ⟨E2, M2, e2, a1, a2, a3⟩ := ih (i + 4) E1 M1 (B + 576) v5 v6 (by omega) (by omega) (by omega) (by omega) (by omega) (tz_E hE hE1) hs1 (by rw [tz_L hE1]; exact hEL)
      have x1 : E1.1 = E.1 := by rcases hE1 with h | h <;> rw [h] <;> rfl
      have x2 : E1.2.2 = E.2.2 := by rcases hE1 with h | h <;> rw [h] <;> rfl
      have x3 : E1.2.1 ≤ E.2.1 + 1 := by
        rcases hE1 with h | h
        · rw [h]; omega
        · rw [h]; exact Nat.le_refl _
      refine ⟨E2, M2, ?_, by rw [a1, x1], by rw [a2, x2], by omega⟩
      rw [am_B225_23, w1, if_neg q, e, am_B225_1808, w4, e2]
end TOP18
