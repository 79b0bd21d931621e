/-! ===== the law's calls ===== -/
def tw (E : am_E) (M : am_M) (B : Int) (W : Option am_Rs) (R : am_E → am_M → Option am_Rs) : Prop :=
  ∃ c E1 M1, W = some (.inl (some (am_I c)), E1, M1) ∧ (E1 = E ∨ E1 = am_xE E) ∧ (∀ b, 44 < b → M1 b = M b) ∧ ∃ N2 r, R E1 M1 = some (.inl (some (am_I r)), E1, N2) ∧ N2 35 0 0 = c ∧ (c = 0 → N2 44 0 0 = r) ∧ (∀ b, 44 < b → N2 b = M b) ∧ si N2 (B + 576)
section TOP15
variable {E : am_E} {M N : am_M} {B : Int}
theorem tw_xk {r : am_R} : am_kd (am_xE E) r = am_kd E r := rfl
theorem tw_xf {r : am_R} {j : Nat} : am_rf (am_xE E) r j = am_rf E r j := rfl
theorem tw_xo {r : am_R} {c : Nat} : am_ob (am_xE E) r c = am_ob E r c := by unfold am_ob; rw [tw_xk]
theorem tw_x (hE : am_Wr E) : am_Wr (am_xE E) := by
  unfold am_Wr am_WY at *
  simp only [tw_xk, tw_xf, tw_xo]
  exact hE
theorem tw_up {b : Nat} {v : Int} (h : b ≠ 44) : am_up M (44, 0) 0 v b = M b := by rw [am_up_0, am_sb_ne h]
theorem tw_uq {v : Int} : am_up M (44, 0) 0 v 44 0 0 = v := by rw [am_up_0, am_sb_at, ay_uy_eq]
theorem tw_c {k pc x pc' l : Nat} {ls : List (Option am_V)} {rest : List am_V} (hc : am_hc k pc x = some (pc', l)) (hl : l < ls.length) (hf : am_lf ls l = true) : am_bd k pc ls rest (some (.inr x, E, M)) = am_den k (pc', ls.set l none, [], E, M) := by
  unfold am_bd
  simp only [hc]
  rw [if_pos ⟨hl, hf⟩]
theorem tw_of {k pc : Nat} {ls : List (Option am_V)} {rest : List am_V} {X : Option am_Rs} {R : am_E → am_M → Option am_Rs} {tb : Nat → Int} (hE : am_Wr E) (h : tq E M B tb X R) (w0 : ∀ (v : Int) (M1 : am_M), am_bd k pc ls rest (some (.inl (some (am_I v)), E, M1)) = some (.inl (some (am_I 0)), E, am_up M1 (44, 0) 0 v))
    (w1 : ∀ (x : Nat) (M1 : am_M), tb x ≠ 0 → am_bd k pc ls rest (some (.inr x, am_xE E, M1)) = some (.inl (some (am_I (tb x))), am_xE E, M1)) : tw E M B (am_bd k pc ls rest X) R := by
  obtain ⟨M1, hM, h⟩ := h
  rcases h with ⟨v, hX, h⟩ | ⟨x, hX, hx, h⟩
  · obtain ⟨N2, e, e0, hb, hs⟩ := h E (am_up M1 (44, 0) 0 v) hE (fun b hb => tw_up hb)
    refine ⟨0, E, am_up M1 (44, 0) 0 v, by rw [hX]; exact w0 v M1, Or.inl rfl, fun b hb' => by rw [tw_up (by omega), hM b (by omega)], N2, v, e, e0, fun _ => ?_, fun b hb' => ?_, hs⟩
    · rw [hb 44 (by decide)]
      exact tw_uq
    · rw [hb b (by omega), tw_up (by omega), hM b (by omega)]
  · obtain ⟨N2, r, e, e0, hb, hs⟩ := h (am_xE E) M1 (tw_x hE) (fun _ _ => rfl)
    refine ⟨tb x, am_xE E, M1, by rw [hX]; exact w1 x M1 hx, Or.inr rfl, fun b hb' => hM b (by omega), N2, r, e, e0, fun z => absurd z hx, fun b hb' => ?_, hs⟩
    rw [hb b (by omega), hM b (by omega)]
theorem tw_append (hE : am_Wr E) (hs : si M B) (hB0 : 70000 ≤ B) (hB : B < 2140000000) {w : Int} : tw E M B (am_den 200 (0, [some (am_A (34, 0)), some (am_I w), some (am_A (44, 0)), none], [], E, M)) (fun E' N => am_den 156 (0, [some (am_A (35, 0)), some (am_I w)], [], E', N)) := by
  rw [am_B200_0 hE]
  refine tw_of hE (tp_append hE hs) (fun v M1 => ?_) (fun x M1 hx => ?_)
  · rw [am_bd_v]
    simp only [Nat.reduceAdd]
    rw [am_B200_7 hE ⟨by decide, by decide⟩, am_B200_9, am_B200_18]
  · by_cases q0 : x = 0
    · subst q0
      rw [tw_c (ls := [some (am_A (34, 0)), some (am_I w), some (am_A (44, 0)), none]) (show am_hc 200 4 0 = some (13, 3) from by decide +kernel) (show (3 : Nat) < 4 from by decide) rfl]
      exact (am_den_n (c' := (14, _, [am_I 1], am_xE E, M1)) 1 rfl).trans (am_d_iret (show am_fetch 200 14 = some (.ireturn, 1) from by decide +kernel) rfl)
    · by_cases q1 : x = 1
      · subst q1
        rw [tw_c (ls := [some (am_A (34, 0)), some (am_I w), some (am_A (44, 0)), none]) (show am_hc 200 4 1 = some (16, 3) from by decide +kernel) (show (3 : Nat) < 4 from by decide) rfl]
        exact (am_den_n (c' := (17, _, [am_I 2], am_xE E, M1)) 1 rfl).trans (am_d_iret (show am_fetch 200 17 = some (.ireturn, 1) from by decide +kernel) rfl)
      · exact absurd (by simp [q0, q1]) hx
theorem tw_load (hE : am_Wr E) (hs : si M B) (hB0 : 70000 ≤ B) (hB : B < 2140000000) : tw E M B (am_den 201 (0, [some (am_A (34, 0)), some (am_A (44, 0)), none], [], E, M)) (fun E' N => am_den 166 (0, [some (am_A (35, 0))], [], E', N)) := by
  rw [am_B201_0 hE]
  refine tw_of hE (tp_load hE hs hB0) (fun v M1 => ?_) (fun x M1 hx => ?_)
  · rw [am_bd_v]
    simp only [Nat.reduceAdd]
    rw [am_B201_6 hE ⟨by decide, by decide⟩, am_B201_8, am_B201_14]
  · by_cases q0 : x = 1
    · subst q0
      rw [tw_c (ls := [some (am_A (34, 0)), some (am_A (44, 0)), none]) (show am_hc 201 3 1 = some (12, 2) from by decide +kernel) (show (2 : Nat) < 3 from by decide) rfl]
      exact (am_den_n (c' := (13, _, [am_I 1], am_xE E, M1)) 1 rfl).trans (am_d_iret (show am_fetch 201 13 = some (.ireturn, 1) from by decide +kernel) rfl)
    · exact absurd (by simp [q0]) hx
theorem tw_about (hE : am_Wr E) (hs : si M B) (hB0 : 70000 ≤ B) (hB : B < 2140000000) {w : Int} : tw E M B (am_den 202 (0, [some (am_A (34, 0)), some (am_I w), some (am_A (44, 0)), none], [], E, M)) (fun E' N => am_den 167 (0, [some (am_A (35, 0)), some (am_I w)], [], E', N)) := by
  rw [am_B202_0 hE]
  refine tw_of hE (tp_about hE hs) (fun v M1 => ?_) (fun x M1 hx => ?_)
  · rw [am_bd_v]
    simp only [Nat.reduceAdd]
    rw [am_B202_7 hE ⟨by decide, by decide⟩, am_B202_9, am_B202_15]
  · by_cases q0 : x = 0
    · subst q0
      rw [tw_c (ls := [some (am_A (34, 0)), some (am_I w), some (am_A (44, 0)), none]) (show am_hc 202 4 0 = some (13, 3) from by decide +kernel) (show (3 : Nat) < 4 from by decide) rfl]
      exact (am_den_n (c' := (14, _, [am_I 1], am_xE E, M1)) 1 rfl).trans (am_d_iret (show am_fetch 202 14 = some (.ireturn, 1) from by decide +kernel) rfl)
    · exact absurd (by simp [q0]) hx
theorem tw_pileOf (hE : am_Wr E) (hs : si M B) (hB0 : 70000 ≤ B) (hB : B < 2140000000) {p w : Int} : tw E M B (am_den 203 (0, [some (am_A (34, 0)), some (am_I p), some (am_I w), some (am_A (44, 0)), none], [], E, M)) (fun E' N => am_den 169 (0, [some (am_A (35, 0)), some (am_I p), some (am_I w)], [], E', N)) := by
  rw [am_B203_0 hE]
  refine tw_of hE (tp_pileOf hE hs) (fun v M1 => ?_) (fun x M1 hx => ?_)
  · rw [am_bd_v]
    simp only [Nat.reduceAdd]
    rw [am_B203_8 hE ⟨by decide, by decide⟩, am_B203_10, am_B203_21]
  · by_cases q0 : x = 2
    · subst q0
      rw [tw_c (ls := [some (am_A (34, 0)), some (am_I p), some (am_I w), some (am_A (44, 0)), none]) (show am_hc 203 5 2 = some (15, 4) from by decide +kernel) (show (4 : Nat) < 5 from by decide) rfl]
      exact (am_den_n (c' := (16, _, [am_I 1], am_xE E, M1)) 1 rfl).trans (am_d_iret (show am_fetch 203 16 = some (.ireturn, 1) from by decide +kernel) rfl)
    · by_cases q1 : x = 0
      · subst q1
        rw [tw_c (ls := [some (am_A (34, 0)), some (am_I p), some (am_I w), some (am_A (44, 0)), none]) (show am_hc 203 5 0 = some (19, 4) from by decide +kernel) (show (4 : Nat) < 5 from by decide) rfl]
        exact (am_den_n (c' := (20, _, [am_I 2], am_xE E, M1)) 1 rfl).trans (am_d_iret (show am_fetch 203 20 = some (.ireturn, 1) from by decide +kernel) rfl)
      · exact absurd (by simp [q0, q1]) hx
theorem tw_logOf (hE : am_Wr E) (hs : si M B) (hB0 : 70000 ≤ B) (hB : B < 2140000000) {l w : Int} : tw E M B (am_den 204 (0, [some (am_A (34, 0)), some (am_I l), some (am_I w), some (am_A (44, 0)), none], [], E, M)) (fun E' N => am_den 170 (0, [some (am_A (35, 0)), some (am_I l), some (am_I w), none, none], [], E', N)) := by
  rw [am_B204_0 hE]
  refine tw_of hE (tp_logOf hE hs) (fun v M1 => ?_) (fun x M1 hx => ?_)
  · rw [am_bd_v]
    simp only [Nat.reduceAdd]
    rw [am_B204_8 hE ⟨by decide, by decide⟩, am_B204_10, am_B204_21]
  · by_cases q0 : x = 2
    · subst q0
      rw [tw_c (ls := [some (am_A (34, 0)), some (am_I l), some (am_I w), some (am_A (44, 0)), none]) (show am_hc 204 5 2 = some (15, 4) from by decide +kernel) (show (4 : Nat) < 5 from by decide) rfl]
      exact (am_den_n (c' := (16, _, [am_I 1], am_xE E, M1)) 1 rfl).trans (am_d_iret (show am_fetch 204 16 = some (.ireturn, 1) from by decide +kernel) rfl)
    · by_cases q1 : x = 0
      · subst q1
        rw [tw_c (ls := [some (am_A (34, 0)), some (am_I l), some (am_I w), some (am_A (44, 0)), none]) (show am_hc 204 5 0 = some (19, 4) from by decide +kernel) (show (4 : Nat) < 5 from by decide) rfl]
        exact (am_den_n (c' := (20, _, [am_I 2], am_xE E, M1)) 1 rfl).trans (am_d_iret (show am_fetch 204 20 = some (.ireturn, 1) from by decide +kernel) rfl)
      · exact absurd (by simp [q0, q1]) hx
theorem tw_ranked (hE : am_Wr E) (hs : si M B) (hB0 : 70000 ≤ B) (hB : B < 2140000000) {p l w : Int} : tw E M B (am_den 205 (0, [some (am_A (34, 0)), some (am_I p), some (am_I l), some (am_I w), some (am_A (44, 0)), none], [], E, M)) (fun E' N => am_den 172 (0, [some (am_A (35, 0)), some (am_I p), some (am_I l), some (am_I w), none], [], E', N)) := by
  rw [am_B205_0 hE]
  refine tw_of hE (tp_ranked hE hs) (fun v M1 => ?_) (fun x M1 hx => ?_)
  · rw [am_bd_v]
    simp only [Nat.reduceAdd]
    rw [am_B205_10 hE ⟨by decide, by decide⟩, am_B205_12, am_B205_27]
  · by_cases q0 : x = 2
    · subst q0
      rw [tw_c (ls := [some (am_A (34, 0)), some (am_I p), some (am_I l), some (am_I w), some (am_A (44, 0)), none]) (show am_hc 205 7 2 = some (17, 5) from by decide +kernel) (show (5 : Nat) < 6 from by decide) rfl]
      exact (am_den_n (c' := (18, _, [am_I 1], am_xE E, M1)) 1 rfl).trans (am_d_iret (show am_fetch 205 18 = some (.ireturn, 1) from by decide +kernel) rfl)
    · by_cases q1 : x = 0
      · subst q1
        rw [tw_c (ls := [some (am_A (34, 0)), some (am_I p), some (am_I l), some (am_I w), some (am_A (44, 0)), none]) (show am_hc 205 7 0 = some (21, 5) from by decide +kernel) (show (5 : Nat) < 6 from by decide) rfl]
        exact (am_den_n (c' := (22, _, [am_I 2], am_xE E, M1)) 1 rfl).trans (am_d_iret (show am_fetch 205 22 = some (.ireturn, 1) from by decide +kernel) rfl)
      · by_cases q2 : x = 1
        · subst q2
          rw [tw_c (ls := [some (am_A (34, 0)), some (am_I p), some (am_I l), some (am_I w), some (am_A (44, 0)), none]) (show am_hc 205 7 1 = some (25, 5) from by decide +kernel) (show (5 : Nat) < 6 from by decide) rfl]
          exact (am_den_n (c' := (26, _, [am_I 3], am_xE E, M1)) 1 rfl).trans (am_d_iret (show am_fetch 205 26 = some (.ireturn, 1) from by decide +kernel) rfl)
        · exact absurd (by simp [q0, q1, q2]) hx
theorem tw_pile (hE : am_Wr E) (hs : si M B) (hB0 : 70000 ≤ B) (hB : B < 2140000000) : tw E M B (am_den 206 (0, [some (am_A (34, 0)), some (am_A (44, 0)), none], [], E, M)) (fun E' N => am_den 174 (0, [some (am_A (35, 0))], [], E', N)) := by
  rw [am_B206_0 hE]
  refine tw_of hE (tp_pile hE hs (by omega)) (fun v M1 => ?_) (fun x M1 hx => ?_)
  · rw [am_bd_v]
    simp only [Nat.reduceAdd]
    rw [am_B206_6 hE ⟨by decide, by decide⟩, am_B206_8, am_B206_14]
  · by_cases q0 : x = 1
    · subst q0
      rw [tw_c (ls := [some (am_A (34, 0)), some (am_A (44, 0)), none]) (show am_hc 206 3 1 = some (12, 2) from by decide +kernel) (show (2 : Nat) < 3 from by decide) rfl]
      exact (am_den_n (c' := (13, _, [am_I 1], am_xE E, M1)) 1 rfl).trans (am_d_iret (show am_fetch 206 13 = some (.ireturn, 1) from by decide +kernel) rfl)
    · exact absurd (by simp [q0]) hx
theorem tw_log (hE : am_Wr E) (hs : si M B) (hB0 : 70000 ≤ B) (hB : B < 2140000000) {p w : Int} : tw E M B (am_den 207 (0, [some (am_A (34, 0)), some (am_I p), some (am_I w), some (am_A (44, 0)), none], [], E, M)) (fun E' N => am_den 175 (0, [some (am_A (35, 0)), some (am_I p), some (am_I w)], [], E', N)) := by
  rw [am_B207_0 hE]
  refine tw_of hE (tp_log hE hs (by omega)) (fun v M1 => ?_) (fun x M1 hx => ?_)
  · rw [am_bd_v]
    simp only [Nat.reduceAdd]
    rw [am_B207_8 hE ⟨by decide, by decide⟩, am_B207_10, am_B207_25]
  · by_cases q0 : x = 2
    · subst q0
      rw [tw_c (ls := [some (am_A (34, 0)), some (am_I p), some (am_I w), some (am_A (44, 0)), none]) (show am_hc 207 5 2 = some (15, 4) from by decide +kernel) (show (4 : Nat) < 5 from by decide) rfl]
      exact (am_den_n (c' := (16, _, [am_I 1], am_xE E, M1)) 1 rfl).trans (am_d_iret (show am_fetch 207 16 = some (.ireturn, 1) from by decide +kernel) rfl)
    · by_cases q1 : x = 0
      · subst q1
        rw [tw_c (ls := [some (am_A (34, 0)), some (am_I p), some (am_I w), some (am_A (44, 0)), none]) (show am_hc 207 5 0 = some (19, 4) from by decide +kernel) (show (4 : Nat) < 5 from by decide) rfl]
        exact (am_den_n (c' := (20, _, [am_I 2], am_xE E, M1)) 1 rfl).trans (am_d_iret (show am_fetch 207 20 = some (.ireturn, 1) from by decide +kernel) rfl)
      · by_cases q2 : x = 1
        · subst q2
          rw [tw_c (ls := [some (am_A (34, 0)), some (am_I p), some (am_I w), some (am_A (44, 0)), none]) (show am_hc 207 5 1 = some (23, 4) from by decide +kernel) (show (4 : Nat) < 5 from by decide) rfl]
          exact (am_den_n (c' := (24, _, [am_I 3], am_xE E, M1)) 1 rfl).trans (am_d_iret (show am_fetch 207 24 = some (.ireturn, 1) from by decide +kernel) rfl)
        · exact absurd (by simp [q0, q1, q2]) hx
theorem tw_draw (hE : am_Wr E) (hs : si M B) (hB0 : 70000 ≤ B) (hB : B < 2140000000) {p : Int} : tw E M B (am_den 208 (0, [some (am_A (34, 0)), some (am_I p), some (am_A (44, 0)), none], [], E, M)) (fun E' N => am_den 176 (0, [some (am_A (35, 0)), some (am_I p)], [], E', N)) := by
  rw [am_B208_0 hE]
  refine tw_of hE (tp_draw hE hs (by omega)) (fun v M1 => ?_) (fun x M1 hx => ?_)
  · rw [am_bd_v]
    simp only [Nat.reduceAdd]
    rw [am_B208_7 hE ⟨by decide, by decide⟩, am_B208_9, am_B208_15]
  · by_cases q0 : x = 2
    · subst q0
      rw [tw_c (ls := [some (am_A (34, 0)), some (am_I p), some (am_A (44, 0)), none]) (show am_hc 208 4 2 = some (13, 3) from by decide +kernel) (show (3 : Nat) < 4 from by decide) rfl]
      exact (am_den_n (c' := (14, _, [am_I 1], am_xE E, M1)) 1 rfl).trans (am_d_iret (show am_fetch 208 14 = some (.ireturn, 1) from by decide +kernel) rfl)
    · exact absurd (by simp [q0]) hx
theorem tw_take (hE : am_Wr E) (hs : si M B) (hB0 : 70000 ≤ B) (hB : B < 2140000000) {l : Int} : tw E M B (am_den 209 (0, [some (am_A (34, 0)), some (am_I l), some (am_A (44, 0)), none], [], E, M)) (fun E' N => am_den 177 (0, [some (am_A (35, 0)), some (am_I l)], [], E', N)) := by
  rw [am_B209_0 hE]
  refine tw_of hE (tp_take hE hs (by omega)) (fun v M1 => ?_) (fun x M1 hx => ?_)
  · rw [am_bd_v]
    simp only [Nat.reduceAdd]
    rw [am_B209_7 hE ⟨by decide, by decide⟩, am_B209_9, am_B209_15]
  · by_cases q0 : x = 2
    · subst q0
      rw [tw_c (ls := [some (am_A (34, 0)), some (am_I l), some (am_A (44, 0)), none]) (show am_hc 209 4 2 = some (13, 3) from by decide +kernel) (show (3 : Nat) < 4 from by decide) rfl]
      exact (am_den_n (c' := (14, _, [am_I 1], am_xE E, M1)) 1 rfl).trans (am_d_iret (show am_fetch 209 14 = some (.ireturn, 1) from by decide +kernel) rfl)
    · exact absurd (by simp [q0]) hx
theorem tw_join (hE : am_Wr E) (hs : si M B) (hB0 : 70000 ≤ B) (hB : B < 2140000000) {p q : Int} : tw E M B (am_den 210 (0, [some (am_A (34, 0)), some (am_I p), some (am_I q), some (am_A (44, 0)), none], [], E, M)) (fun E' N => am_den 178 (0, [some (am_A (35, 0)), some (am_I p), some (am_I q)], [], E', N)) := by
  rw [am_B210_0 hE]
  refine tw_of hE (tp_join hE hs (by omega)) (fun v M1 => ?_) (fun x M1 hx => ?_)
  · rw [am_bd_v]
    simp only [Nat.reduceAdd]
    rw [am_B210_8 hE ⟨by decide, by decide⟩, am_B210_10, am_B210_21]
  · by_cases q0 : x = 2
    · subst q0
      rw [tw_c (ls := [some (am_A (34, 0)), some (am_I p), some (am_I q), some (am_A (44, 0)), none]) (show am_hc 210 5 2 = some (15, 4) from by decide +kernel) (show (4 : Nat) < 5 from by decide) rfl]
      exact (am_den_n (c' := (16, _, [am_I 1], am_xE E, M1)) 1 rfl).trans (am_d_iret (show am_fetch 210 16 = some (.ireturn, 1) from by decide +kernel) rfl)
    · by_cases q1 : x = 0
      · subst q1
        rw [tw_c (ls := [some (am_A (34, 0)), some (am_I p), some (am_I q), some (am_A (44, 0)), none]) (show am_hc 210 5 0 = some (19, 4) from by decide +kernel) (show (4 : Nat) < 5 from by decide) rfl]
        exact (am_den_n (c' := (20, _, [am_I 2], am_xE E, M1)) 1 rfl).trans (am_d_iret (show am_fetch 210 20 = some (.ireturn, 1) from by decide +kernel) rfl)
      · exact absurd (by simp [q0, q1]) hx
theorem tw_cover (hE : am_Wr E) (hs : si M B) (hB0 : 70000 ≤ B) (hB : B < 2140000000) {p w : Int} : tw E M B (am_den 211 (0, [some (am_A (34, 0)), some (am_I p), some (am_I w), some (am_A (44, 0)), none], [], E, M)) (fun E' N => am_den 179 (0, [some (am_A (35, 0)), some (am_I p), some (am_I w)], [], E', N)) := by
  rw [am_B211_0 hE]
  refine tw_of hE (tp_cover hE hs (by omega)) (fun v M1 => ?_) (fun x M1 hx => ?_)
  · rw [am_bd_v]
    simp only [Nat.reduceAdd]
    rw [am_B211_8 hE ⟨by decide, by decide⟩, am_B211_10, am_B211_17]
  · by_cases q0 : x = 2
    · subst q0
      rw [tw_c (ls := [some (am_A (34, 0)), some (am_I p), some (am_I w), some (am_A (44, 0)), none]) (show am_hc 211 5 2 = some (15, 4) from by decide +kernel) (show (4 : Nat) < 5 from by decide) rfl]
      exact (am_den_n (c' := (16, _, [am_I 1], am_xE E, M1)) 1 rfl).trans (am_d_iret (show am_fetch 211 16 = some (.ireturn, 1) from by decide +kernel) rfl)
    · exact absurd (by simp [q0]) hx
theorem tw_wind (hE : am_Wr E) (hs : si M B) (hB0 : 70000 ≤ B) (hB : B < 2140000000) {w : Int} : tw E M B (am_den 212 (0, [some (am_A (34, 0)), some (am_I w), some (am_A (44, 0)), none], [], E, M)) (fun E' N => am_den 180 (0, [some (am_A (35, 0)), some (am_I w)], [], E', N)) := by
  rw [am_B212_0 hE]
  refine tw_of hE (tp_wind hE hs (by omega)) (fun v M1 => ?_) (fun x M1 hx => ?_)
  · rw [am_bd_v]
    simp only [Nat.reduceAdd]
    rw [am_B212_7 hE ⟨by decide, by decide⟩, am_B212_9, am_B212_15]
  · by_cases q0 : x = 0
    · subst q0
      rw [tw_c (ls := [some (am_A (34, 0)), some (am_I w), some (am_A (44, 0)), none]) (show am_hc 212 4 0 = some (13, 3) from by decide +kernel) (show (3 : Nat) < 4 from by decide) rfl]
      exact (am_den_n (c' := (14, _, [am_I 1], am_xE E, M1)) 1 rfl).trans (am_d_iret (show am_fetch 212 14 = some (.ireturn, 1) from by decide +kernel) rfl)
    · exact absurd (by simp [q0]) hx
theorem tw_rain (hE : am_Wr E) (hs : si M B) (hB0 : 70000 ≤ B) (hB : B < 2140000000) {w : Int} : tw E M B (am_den 213 (0, [some (am_A (34, 0)), some (am_I w), some (am_A (44, 0)), none], [], E, M)) (fun E' N => am_den 181 (0, [some (am_A (35, 0)), some (am_I w)], [], E', N)) := by
  rw [am_B213_0 hE]
  refine tw_of hE (tp_rain hE hs (by omega)) (fun v M1 => ?_) (fun x M1 hx => ?_)
  · rw [am_bd_v]
    simp only [Nat.reduceAdd]
    rw [am_B213_7 hE ⟨by decide, by decide⟩, am_B213_9, am_B213_15]
  · by_cases q0 : x = 0
    · subst q0
      rw [tw_c (ls := [some (am_A (34, 0)), some (am_I w), some (am_A (44, 0)), none]) (show am_hc 213 4 0 = some (13, 3) from by decide +kernel) (show (3 : Nat) < 4 from by decide) rfl]
      exact (am_den_n (c' := (14, _, [am_I 1], am_xE E, M1)) 1 rfl).trans (am_d_iret (show am_fetch 213 14 = some (.ireturn, 1) from by decide +kernel) rfl)
    · exact absurd (by simp [q0]) hx
theorem tw_mend (hE : am_Wr E) (hs : si M B) (hB0 : 70000 ≤ B) (hB : B < 2140000000) {p : Int} : tw E M B (am_den 214 (0, [some (am_A (34, 0)), some (am_I p), some (am_A (44, 0)), none], [], E, M)) (fun E' N => am_den 182 (0, [some (am_A (35, 0)), some (am_I p)], [], E', N)) := by
  rw [am_B214_0 hE]
  refine tw_of hE (tp_mend hE hs (by omega)) (fun v M1 => ?_) (fun x M1 hx => ?_)
  · rw [am_bd_v]
    simp only [Nat.reduceAdd]
    rw [am_B214_7 hE ⟨by decide, by decide⟩, am_B214_9, am_B214_15]
  · by_cases q0 : x = 2
    · subst q0
      rw [tw_c (ls := [some (am_A (34, 0)), some (am_I p), some (am_A (44, 0)), none]) (show am_hc 214 4 2 = some (13, 3) from by decide +kernel) (show (3 : Nat) < 4 from by decide) rfl]
      exact (am_den_n (c' := (14, _, [am_I 1], am_xE E, M1)) 1 rfl).trans (am_d_iret (show am_fetch 214 14 = some (.ireturn, 1) from by decide +kernel) rfl)
    · exact absurd (by simp [q0]) hx
theorem tw_nights (hE : am_Wr E) (hs : si M B) (hB0 : 70000 ≤ B) (hB : B < 2140000000) {w : Int} : tw E M B (am_den 215 (0, [some (am_A (34, 0)), some (am_I w), some (am_A (44, 0)), none], [], E, M)) (fun E' N => am_den 183 (0, [some (am_A (35, 0)), some (am_I w)], [], E', N)) := by
  rw [am_B215_0 hE]
  refine tw_of hE (tp_nights hE hs (by omega)) (fun v M1 => ?_) (fun x M1 hx => ?_)
  · rw [am_bd_v]
    simp only [Nat.reduceAdd]
    rw [am_B215_7 hE ⟨by decide, by decide⟩, am_B215_9, am_B215_15]
  · by_cases q0 : x = 0
    · subst q0
      rw [tw_c (ls := [some (am_A (34, 0)), some (am_I w), some (am_A (44, 0)), none]) (show am_hc 215 4 0 = some (13, 3) from by decide +kernel) (show (3 : Nat) < 4 from by decide) rfl]
      exact (am_den_n (c' := (14, _, [am_I 1], am_xE E, M1)) 1 rfl).trans (am_d_iret (show am_fetch 215 14 = some (.ireturn, 1) from by decide +kernel) rfl)
    · exact absurd (by simp [q0]) hx
theorem tw_set (hE : am_Wr E) (hs : si M B) (hB0 : 70000 ≤ B) (hB : B < 2140000000) {w : Int} : tw E M B (am_den 216 (0, [some (am_A (34, 0)), some (am_I w), some (am_A (44, 0)), none], [], E, M)) (fun E' N => am_den 184 (0, [some (am_A (35, 0)), some (am_I w), none], [], E', N)) := by
  rw [am_B216_0 hE]
  refine tw_of hE (tp_set hE hs (by omega)) (fun v M1 => ?_) (fun x M1 hx => ?_)
  · rw [am_bd_v]
    simp only [Nat.reduceAdd]
    rw [am_B216_7 hE ⟨by decide, by decide⟩, am_B216_9, am_B216_15]
  · by_cases q0 : x = 0
    · subst q0
      rw [tw_c (ls := [some (am_A (34, 0)), some (am_I w), some (am_A (44, 0)), none]) (show am_hc 216 4 0 = some (13, 3) from by decide +kernel) (show (3 : Nat) < 4 from by decide) rfl]
      exact (am_den_n (c' := (14, _, [am_I 1], am_xE E, M1)) 1 rfl).trans (am_d_iret (show am_fetch 216 14 = some (.ireturn, 1) from by decide +kernel) rfl)
    · exact absurd (by simp [q0]) hx
theorem tw_undo (hE : am_Wr E) (hs : si M B) (hB0 : 70000 ≤ B) (hB : B < 2140000000) : tw E M B (am_den 217 (0, [some (am_A (34, 0)), some (am_A (44, 0)), none], [], E, M)) (fun E' N => am_den 185 (0, [some (am_A (35, 0))], [], E', N)) := by
  rw [am_B217_0 hE]
  refine tw_of hE (tp_undo hE hs (by omega)) (fun v M1 => ?_) (fun x M1 hx => ?_)
  · rw [am_bd_v]
    simp only [Nat.reduceAdd]
    rw [am_B217_6 hE ⟨by decide, by decide⟩, am_B217_8, am_B217_14]
  · by_cases q0 : x = 1
    · subst q0
      rw [tw_c (ls := [some (am_A (34, 0)), some (am_A (44, 0)), none]) (show am_hc 217 3 1 = some (12, 2) from by decide +kernel) (show (2 : Nat) < 3 from by decide) rfl]
      exact (am_den_n (c' := (13, _, [am_I 1], am_xE E, M1)) 1 rfl).trans (am_d_iret (show am_fetch 217 13 = some (.ireturn, 1) from by decide +kernel) rfl)
    · exact absurd (by simp [q0]) hx
theorem tw_drawsTill (hE : am_Wr E) (hs : si M B) (hB0 : 70000 ≤ B) (hB : B < 2140000000) {p w : Int} : tw E M B (am_den 218 (0, [some (am_A (34, 0)), some (am_I p), some (am_I w), some (am_A (44, 0)), none], [], E, M)) (fun E' N => am_den 186 (0, [some (am_A (35, 0)), some (am_I p), some (am_I w), none], [], E', N)) := by
  rw [am_B218_0 hE]
  refine tw_of hE (tp_drawsTill hE hs) (fun v M1 => ?_) (fun x M1 hx => ?_)
  · rw [am_bd_v]
    simp only [Nat.reduceAdd]
    rw [am_B218_8 hE ⟨by decide, by decide⟩, am_B218_10, am_B218_21]
  · by_cases q0 : x = 2
    · subst q0
      rw [tw_c (ls := [some (am_A (34, 0)), some (am_I p), some (am_I w), some (am_A (44, 0)), none]) (show am_hc 218 5 2 = some (15, 4) from by decide +kernel) (show (4 : Nat) < 5 from by decide) rfl]
      exact (am_den_n (c' := (16, _, [am_I 1], am_xE E, M1)) 1 rfl).trans (am_d_iret (show am_fetch 218 16 = some (.ireturn, 1) from by decide +kernel) rfl)
    · by_cases q1 : x = 0
      · subst q1
        rw [tw_c (ls := [some (am_A (34, 0)), some (am_I p), some (am_I w), some (am_A (44, 0)), none]) (show am_hc 218 5 0 = some (19, 4) from by decide +kernel) (show (4 : Nat) < 5 from by decide) rfl]
        exact (am_den_n (c' := (20, _, [am_I 2], am_xE E, M1)) 1 rfl).trans (am_d_iret (show am_fetch 218 20 = some (.ireturn, 1) from by decide +kernel) rfl)
      · exact absurd (by simp [q0, q1]) hx
theorem tw_ifJoined (hE : am_Wr E) (hs : si M B) (hB0 : 70000 ≤ B) (hB : B < 2140000000) {p q : Int} : tw E M B (am_den 219 (0, [some (am_A (34, 0)), some (am_I p), some (am_I q), some (am_A (44, 0)), none], [], E, M)) (fun E' N => am_den 187 (0, [some (am_A (35, 0)), some (am_I p), some (am_I q)], [], E', N)) := by
  rw [am_B219_0 hE]
  refine tw_of hE (tp_ifJoined hE hs) (fun v M1 => ?_) (fun x M1 hx => ?_)
  · rw [am_bd_v]
    simp only [Nat.reduceAdd]
    rw [am_B219_8 hE ⟨by decide, by decide⟩, am_B219_10, am_B219_21]
  · by_cases q0 : x = 2
    · subst q0
      rw [tw_c (ls := [some (am_A (34, 0)), some (am_I p), some (am_I q), some (am_A (44, 0)), none]) (show am_hc 219 5 2 = some (15, 4) from by decide +kernel) (show (4 : Nat) < 5 from by decide) rfl]
      exact (am_den_n (c' := (16, _, [am_I 1], am_xE E, M1)) 1 rfl).trans (am_d_iret (show am_fetch 219 16 = some (.ireturn, 1) from by decide +kernel) rfl)
    · by_cases q1 : x = 0
      · subst q1
        rw [tw_c (ls := [some (am_A (34, 0)), some (am_I p), some (am_I q), some (am_A (44, 0)), none]) (show am_hc 219 5 0 = some (19, 4) from by decide +kernel) (show (4 : Nat) < 5 from by decide) rfl]
        exact (am_den_n (c' := (20, _, [am_I 2], am_xE E, M1)) 1 rfl).trans (am_d_iret (show am_fetch 219 20 = some (.ireturn, 1) from by decide +kernel) rfl)
      · exact absurd (by simp [q0, q1]) hx
theorem tw_ifMended (hE : am_Wr E) (hs : si M B) (hB0 : 70000 ≤ B) (hB : B < 2140000000) {p w : Int} : tw E M B (am_den 220 (0, [some (am_A (34, 0)), some (am_I p), some (am_I w), some (am_A (44, 0)), none], [], E, M)) (fun E' N => am_den 191 (0, [some (am_A (35, 0)), some (am_I p), some (am_I w), none, none], [], E', N)) := by
  rw [am_B220_0 hE]
  refine tw_of hE (tp_ifMended hE hs) (fun v M1 => ?_) (fun x M1 hx => ?_)
  · rw [am_bd_v]
    simp only [Nat.reduceAdd]
    rw [am_B220_8 hE ⟨by decide, by decide⟩, am_B220_10, am_B220_21]
  · by_cases q0 : x = 2
    · subst q0
      rw [tw_c (ls := [some (am_A (34, 0)), some (am_I p), some (am_I w), some (am_A (44, 0)), none]) (show am_hc 220 5 2 = some (15, 4) from by decide +kernel) (show (4 : Nat) < 5 from by decide) rfl]
      exact (am_den_n (c' := (16, _, [am_I 1], am_xE E, M1)) 1 rfl).trans (am_d_iret (show am_fetch 220 16 = some (.ireturn, 1) from by decide +kernel) rfl)
    · by_cases q1 : x = 0
      · subst q1
        rw [tw_c (ls := [some (am_A (34, 0)), some (am_I p), some (am_I w), some (am_A (44, 0)), none]) (show am_hc 220 5 0 = some (19, 4) from by decide +kernel) (show (4 : Nat) < 5 from by decide) rfl]
        exact (am_den_n (c' := (20, _, [am_I 2], am_xE E, M1)) 1 rfl).trans (am_d_iret (show am_fetch 220 20 = some (.ireturn, 1) from by decide +kernel) rfl)
      · exact absurd (by simp [q0, q1]) hx
theorem tw_runScript (hE : am_Wr E) (hs : si M B) (hB0 : 70000 ≤ B) (hB : B < 2140000000) {n x : Int} (h1 : x < 9223372036854775808) : tw E M B (am_den 221 (0, [some (am_A (34, 0)), some (am_I n), some (am_J x), none, some (am_A (44, 0)), none], [], E, M)) (fun E' N => am_den 194 (0, [some (am_A (35, 0)), some (am_I n), some (am_J x), none, none, none, none, none], [], E', N)) := by
  rw [am_B221_0 hE]
  refine tw_of hE (tp_runScript hE hs hB h1) (fun v M1 => ?_) (fun x M1 hx => ?_)
  · rw [am_bd_v]
    simp only [Nat.reduceAdd]
    rw [am_B221_9 hE ⟨by decide, by decide⟩, am_B221_11, am_B221_18]
  · by_cases q0 : x = 0
    · subst q0
      rw [tw_c (ls := [some (am_A (34, 0)), some (am_I n), some (am_J x), none, some (am_A (44, 0)), none]) (show am_hc 221 6 0 = some (16, 5) from by decide +kernel) (show (5 : Nat) < 6 from by decide) rfl]
      exact (am_den_n (c' := (17, _, [am_I 1], am_xE E, M1)) 1 rfl).trans (am_d_iret (show am_fetch 221 17 = some (.ireturn, 1) from by decide +kernel) rfl)
    · exact absurd (by simp [q0]) hx
theorem tw_simulate (hE : am_Wr E) (hs : si M B) (hB0 : 70000 ≤ B) (hB : B < 2140000000) {x n : Int} : tw E M B (am_den 222 (0, [some (am_A (34, 0)), some (am_J x), none, some (am_I n), some (am_A (44, 0)), none], [], E, M)) (fun E' N => am_den 197 (0, [some (am_A (35, 0)), some (am_J x), none, some (am_I n), none, none, none, none], [], E', N)) := by
  rw [am_B222_0 hE]
  refine tw_of hE (tp_simulate hE hs hB) (fun v M1 => ?_) (fun x M1 hx => ?_)
  · rw [am_bd_v]
    simp only [Nat.reduceAdd]
    rw [am_B222_9 hE ⟨by decide, by decide⟩, am_B222_11, am_B222_18]
  · by_cases q0 : x = 0
    · subst q0
      rw [tw_c (ls := [some (am_A (34, 0)), some (am_J x), none, some (am_I n), some (am_A (44, 0)), none]) (show am_hc 222 6 0 = some (16, 5) from by decide +kernel) (show (5 : Nat) < 6 from by decide) rfl]
      exact (am_den_n (c' := (17, _, [am_I 1], am_xE E, M1)) 1 rfl).trans (am_d_iret (show am_fetch 222 17 = some (.ireturn, 1) from by decide +kernel) rfl)
    · exact absurd (by simp [q0]) hx
theorem tw_save (hE : am_Wr E) (hs : si M B) (hB0 : 70000 ≤ B) (hB : B < 2140000000) {w : Int} : tw E M B (am_den 223 (0, [some (am_A (34, 0)), some (am_I w), some (am_A (44, 0)), none], [], E, M)) (fun E' N => am_den 198 (0, [some (am_A (35, 0)), some (am_I w)], [], E', N)) := by
  rw [am_B223_0 hE]
  refine tw_of hE (tp_save hE hs) (fun v M1 => ?_) (fun x M1 hx => ?_)
  · rw [am_bd_v]
    simp only [Nat.reduceAdd]
    rw [am_B223_7 hE ⟨by decide, by decide⟩, am_B223_9, am_B223_15]
  · by_cases q0 : x = 2
    · subst q0
      rw [tw_c (ls := [some (am_A (34, 0)), some (am_I w), some (am_A (44, 0)), none]) (show am_hc 223 4 2 = some (13, 3) from by decide +kernel) (show (3 : Nat) < 4 from by decide) rfl]
      exact (am_den_n (c' := (14, _, [am_I 1], am_xE E, M1)) 1 rfl).trans (am_d_iret (show am_fetch 223 14 = some (.ireturn, 1) from by decide +kernel) rfl)
    · exact absurd (by simp [q0]) hx
theorem tw_restore (hE : am_Wr E) (hs : si M B) (hB0 : 70000 ≤ B) (hB : B < 2140000000) {w : Int} : tw E M B (am_den 224 (0, [some (am_A (34, 0)), some (am_I w), some (am_A (44, 0)), none], [], E, M)) (fun E' N => am_den 199 (0, [some (am_A (35, 0)), some (am_I w)], [], E', N)) := by
  rw [am_B224_0 hE]
  refine tw_of hE (tp_restore hE hs) (fun v M1 => ?_) (fun x M1 hx => ?_)
  · rw [am_bd_v]
    simp only [Nat.reduceAdd]
    rw [am_B224_7 hE ⟨by decide, by decide⟩, am_B224_9, am_B224_18]
  · by_cases q0 : x = 2
    · subst q0
      rw [tw_c (ls := [some (am_A (34, 0)), some (am_I w), some (am_A (44, 0)), none]) (show am_hc 224 4 2 = some (13, 3) from by decide +kernel) (show (3 : Nat) < 4 from by decide) rfl]
      exact (am_den_n (c' := (14, _, [am_I 1], am_xE E, M1)) 1 rfl).trans (am_d_iret (show am_fetch 224 14 = some (.ireturn, 1) from by decide +kernel) rfl)
    · by_cases q1 : x = 1
      · subst q1
        rw [tw_c (ls := [some (am_A (34, 0)), some (am_I w), some (am_A (44, 0)), none]) (show am_hc 224 4 1 = some (16, 3) from by decide +kernel) (show (3 : Nat) < 4 from by decide) rfl]
        exact (am_den_n (c' := (17, _, [am_I 2], am_xE E, M1)) 1 rfl).trans (am_d_iret (show am_fetch 224 17 = some (.ireturn, 1) from by decide +kernel) rfl)
      · exact absurd (by simp [q0, q1]) hx
end TOP15
