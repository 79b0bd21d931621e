/-! ===== no run writes where nothing is ===== -/
def cl_v (b cc : Nat) (j : Int) : Prop := ∃ k n, rl_k (b, cc) = some (k, n) ∧ ((6 ≤ k ∧ 0 ≤ j ∧ j < (n : Int)) ∨ (k < 6 ∧ ∃ f : Nat, j = f ∧ am_isr k f = false ∧ f < am_fn k))
def cl (M : am_M) : Prop := ∀ b cc j, b ≠ 45 → ¬ cl_v b cc j → M b cc j = 0
theorem cl_up {M : am_M} {r : am_R} {j v : Int} (h : cl M) (hv : r.1 ≠ 45 → cl_v r.1 r.2 j) : cl (am_up M r j v) := by
  intro b cc i hb hn
  unfold am_up am_sb am_uy
  by_cases h1 : b = r.1
  · rw [if_pos h1]
    by_cases h2 : cc = r.2
    · rw [if_pos h2]
      by_cases h3 : i = j
      · exact absurd (by rw [h1, h2, h3]; exact hv (by omega)) hn
      · rw [if_neg h3, ← h1, ← h2]
        exact h b cc i hb hn
    · rw [if_neg h2, ← h1]
      exact h b cc i hb hn
  · rw [if_neg h1]
    exact h b cc i hb hn
theorem cl_ob {E : am_E} {r : am_R} {k idx c f : Nat} (hE : E.1 = 368) (ho : am_ob E r c = true) (hf : am_fl k idx = some (c, f)) (hi : am_isr c f = false) : r.1 ≠ 45 → cl_v r.1 r.2 f := by
  intro h45
  obtain ⟨n, hk⟩ := am_ob_i ho
  obtain ⟨h6, hfn, -⟩ := am_fl_i hf
  rw [rl_kd0 hE (fun z => h45 (by rw [z]))] at hk
  exact ⟨c, n, hk, Or.inr ⟨h6, f, rfl, hi, hfn⟩⟩
theorem cl_ar {E : am_E} {r : am_R} {k : Nat} {i : Int} (hE : E.1 = 368) (h6 : 6 ≤ k) (h : am_ar E r k i = true) : r.1 ≠ 45 → cl_v r.1 r.2 i := by
  intro h45
  obtain ⟨n, hk, h0, h1⟩ := am_ar_i h
  rw [rl_kd0 hE (fun z => h45 (by rw [z]))] at hk
  exact ⟨k, n, hk, Or.inl ⟨h6, h0, h1⟩⟩
theorem cl_wr {k : Nat} {i : Instr} {st st' : List am_V} {E E' : am_E} {M M' : am_M} (hE : E.1 = 368) (h : am_wr k i st E M = some (st', E', M')) : E'.1 = 368 ∧ (cl M → cl M') := by
  unfold am_wr at h
  split at h
  · split at h
    · rename_i hfl
      split at h <;> cases h
      rename_i hq
      exact ⟨hE, fun hc => cl_up hc (cl_ob hE hq.1 hfl hq.2.1)⟩
    · split at h <;> cases h
      exact ⟨hE, fun hc => hc⟩
    · cases h
  · split at h
    · split at h <;> cases h
      rename_i hq
      exact ⟨hE, fun hc => cl_up hc (cl_ar hE (by decide) hq)⟩
    · cases h
  · split at h
    · split at h <;> cases h
      rename_i hq
      exact ⟨hE, fun hc => cl_up hc (cl_ar hE (by decide) hq.1)⟩
    · cases h
  · split at h
    · split at h <;> cases h
      exact ⟨hE, fun hc => hc⟩
    · cases h
  · cases h
def cl_a (a : am_Ac) (M : am_M) : Prop := match a with
  | .inl c => c.2.2.2.1.1 = 368 ∧ (cl M → cl c.2.2.2.2)
  | .inr (.inl r) => r.2.1.1 = 368 ∧ (cl M → cl r.2.2)
  | .inr (.inr _) => True
theorem cl_stp {k : Nat} {c : am_Cf} {a : am_Ac} (hE : c.2.2.2.1.1 = 368) (h : am_stp k c = some a) : cl_a a c.2.2.2.2 := by
  obtain ⟨pc, ls, st, E, M⟩ := c
  have hE' : E.1 = 368 := hE
  unfold am_stp at h
  dsimp only at h
  cases hf : am_fetch k pc with
  | none => rw [hf] at h; cases h
  | some x =>
    obtain ⟨i, len⟩ := x
    rw [hf] at h
    dsimp only at h
    cases h1 : am_jp i pc len st with
    | some t => rw [h1] at h; cases h; exact ⟨hE', fun z => z⟩
    | none =>
      rw [h1] at h
      dsimp only at h
      split at h
      · cases h
      · cases h2 : am_op i st with
        | some t => rw [h2] at h; cases h; exact ⟨hE', fun z => z⟩
        | none =>
          rw [h2] at h
          dsimp only at h
          cases h3 : am_ld i ls with
          | some t => rw [h3] at h; cases h; exact ⟨hE', fun z => z⟩
          | none =>
            rw [h3] at h
            dsimp only at h
            cases h4 : am_st i ls st with
            | some t => rw [h4] at h; cases h; exact ⟨hE', fun z => z⟩
            | none =>
              rw [h4] at h
              dsimp only at h
              cases h5 : am_rd k i st E M with
              | some t => rw [h5] at h; cases h; exact ⟨hE', fun z => z⟩
              | none =>
                rw [h5] at h
                dsimp only at h
                cases h6 : am_wr k i st E M with
                | some t => rw [h6] at h; cases h; exact cl_wr hE' h6
                | none =>
                  rw [h6, rl_mk hE'] at h
                  dsimp only at h
                  cases h7 : am_rt k i st with
                  | some t => rw [h7] at h; cases h; exact ⟨hE', fun z => z⟩
                  | none =>
                    rw [h7] at h
                    dsimp only at h
                    cases h8 : am_iv k i st E with
                    | some t =>
                      rw [h8] at h
                      rcases t with t | ⟨t, as, rest⟩ <;> cases h
                      · exact ⟨hE', fun z => z⟩
                      · trivial
                    | none =>
                      rw [h8] at h
                      dsimp only at h
                      cases h9 : am_th k pc i st with
                      | some t => rw [h9] at h; cases h; exact ⟨hE', fun z => z⟩
                      | none => rw [h9] at h; cases h
theorem rl_en {t : Nat} {as : List am_V} {E : am_E} {M : am_M} : am_en t (rl_t as) (rl_E E) (rl_M M) = rl_c (am_en t as E M) := by
  unfold am_en rl_c am_el
  dsimp only
  rw [rl_xp, rl_len]
  simp [rl_l, rl_t]
theorem rl_run : ∀ (n k : Nat) (c : am_Cf), c.2.2.2.1.1 = 368 → am_run n k (rl_c c) = (am_run n k c).map rl_o ∧ ∀ r, am_run n k c = some r → r.2.1.1 = 368 ∧ (cl c.2.2.2.2 → cl r.2.2) := by
  intro n
  induction n with
  | zero => intro k c _; exact ⟨rfl, fun r h => by cases h⟩
  | succ n ih =>
    intro k c hE
    have hs := rl_stp (k := k) hE
    unfold am_run
    rw [hs]
    cases ha : am_stp k c with
    | none => exact ⟨rfl, fun r h => by cases h⟩
    | some a =>
      have hc := cl_stp hE ha
      rcases a with c' | r | ⟨t, as, rest⟩
      · have h1 := ih k c' hc.1
        exact ⟨h1.1, fun r h => ⟨(h1.2 r h).1, fun z => (h1.2 r h).2 (hc.2 z)⟩⟩
      · exact ⟨rfl, fun r' h => by cases h; exact hc⟩
      · have h1 := ih t (am_en t as c.2.2.2.1 c.2.2.2.2) hE
        dsimp only [Option.map, rl_a]
        have e1 : (rl_c c).2.2.2.1 = rl_E c.2.2.2.1 := rfl
        have e2 : (rl_c c).2.2.2.2 = rl_M c.2.2.2.2 := rfl
        rw [e1, e2, rl_en, h1.1]
        cases hr : am_run n t (am_en t as c.2.2.2.1 c.2.2.2.2) with
        | none => exact ⟨rfl, fun r h => by cases h⟩
        | some r =>
          obtain ⟨o, E1, M1⟩ := r
          have h2 := h1.2 _ hr
          rcases o with v | x
          · have h3 := ih k (c.1 + 3, c.2.1, am_ol v ++ rest, E1, M1) h2.1
            dsimp only [Option.map, rl_o]
            have e3 : rl_c (c.1 + 3, c.2.1, am_ol v ++ rest, E1, M1) = (c.1 + 3, (rl_c c).2.1, am_ol (v.map rl_v) ++ rl_t rest, rl_E E1, rl_M M1) := by
              unfold rl_c
              cases v <;> simp [am_ol, rl_t]
            rw [e3] at h3
            exact ⟨h3.1, fun r h => ⟨(h3.2 r h).1, fun z => (h3.2 r h).2 (h2.2 z)⟩⟩
          · dsimp only [Option.map, rl_o]
            have e4 : (rl_c c).1 = c.1 := rfl
            rw [e4]
            cases hh : am_hc k c.1 x with
            | none =>
              dsimp only
              split
              · exact ⟨rfl, fun r h => by cases h; exact h2⟩
              · exact ⟨rfl, fun r h => by cases h⟩
            | some y =>
              obtain ⟨pc, l⟩ := y
              dsimp only
              have e5 : (rl_c c).2.1 = rl_l c.2.1 := rfl
              rw [e5, rl_len, rl_lf]
              split
              · have h3 := ih k (pc, c.2.1.set l none, [], E1, M1) h2.1
                have e3 : rl_c (pc, c.2.1.set l none, [], E1, M1) = (pc, (rl_l c.2.1).set l none, [], rl_E E1, rl_M M1) := by
                  unfold rl_c
                  simp [rl_l, List.map_set]
                rw [e3] at h3
                exact ⟨h3.1, fun r h => ⟨(h3.2 r h).1, fun z => (h3.2 r h).2 (h2.2 z)⟩⟩
              · exact ⟨rfl, fun r h => by cases h⟩
theorem rl_den {k : Nat} {c : am_Cf} {r : am_Rs} (hE : c.2.2.2.1.1 = 368) (h : am_den k c = some r) : am_den k (rl_c c) = some (rl_o r) := by
  obtain ⟨n, hn⟩ := am_den_i h
  refine am_den_of (n := n) ?_
  rw [(rl_run n k c hE).1, hn]
  rfl
theorem cl_den {k : Nat} {c : am_Cf} {r : am_Rs} (hE : c.2.2.2.1.1 = 368) (h : am_den k c = some r) : r.2.1.1 = 368 ∧ (cl c.2.2.2.2 → cl r.2.2) := by
  obtain ⟨n, hn⟩ := am_den_i h
  exact (rl_run n k c hE).2 r hn
/-! what a clean yard is -/
def cl_y (Y : Nat → Int → Int) : Prop := (∀ j, j < 7 ∨ 16 < j → Y 0 j = 0) ∧ (∀ c j, 1 ≤ c → c ≤ 5 → j < 0 ∨ 24 ≤ j → Y c j = 0) ∧ (∀ c j, c = 6 ∨ c = 7 → j < 0 ∨ 4 ≤ j → Y c j = 0) ∧ (∀ c j, 8 ≤ c → Y c j = 0)
theorem cl_k : ∀ b, b < 22 → rl_k (b, 0) = some (3, 17) ∧ rl_k (b, 1) = some (6, 24) ∧ rl_k (b, 2) = some (6, 24) ∧ rl_k (b, 3) = some (6, 24) ∧ rl_k (b, 4) = some (6, 24) ∧ rl_k (b, 5) = some (6, 24) ∧ rl_k (b, 6) = some (6, 4) ∧ rl_k (b, 7) = some (6, 4) := by decide +kernel
theorem cl_k8 : ∀ t ∈ am_tab, t.1.1 < 22 → t.1.2 < 8 := by decide +kernel
theorem cl_yd {M : am_M} (h : cl M) {b : Nat} (hb : b < 22) : cl_y (M b) := by
  obtain ⟨k0, k1, k2, k3, k4, k5, k6, k7⟩ := cl_k b hb
  refine ⟨fun j hj => h b 0 j (by omega) (fun z => ?_), fun c j h1 h5 hj => h b c j (by omega) (fun z => ?_), fun c j hc hj => h b c j (by omega) (fun z => ?_), fun c j hc => h b c j (by omega) (fun z => ?_)⟩
  · obtain ⟨k, n, e, z⟩ := z
    rw [k0] at e
    cases e
    rcases z with z | ⟨-, f, e, hi, hf⟩
    · omega
    · have : am_fn 3 = 17 := rfl
      have h2 : am_isr 3 f = decide (f < 7) := rfl
      rw [h2] at hi
      have : ¬ f < 7 := by simpa using hi
      omega
  · obtain ⟨k, n, e, z⟩ := z
    have e2 : rl_k (b, c) = some (6, 24) := by
      rcases (show c = 1 ∨ c = 2 ∨ c = 3 ∨ c = 4 ∨ c = 5 by omega) with w | w | w | w | w <;> rw [w] <;> assumption
    rw [e2] at e
    cases e
    rcases z with z | ⟨z, -⟩ <;> omega
  · obtain ⟨k, n, e, z⟩ := z
    have e2 : rl_k (b, c) = some (6, 4) := by
      rcases hc with w | w <;> rw [w] <;> assumption
    rw [e2] at e
    cases e
    rcases z with z | ⟨z, -⟩ <;> omega
  · obtain ⟨k, n, e, z⟩ := z
    obtain ⟨t, ht, e1, -⟩ := rl_k2 e
    have := cl_k8 t ht (by rw [e1]; exact hb)
    rw [e1] at this
    dsimp only at this
    omega
def cl_in (c : Nat) (j : Int) : Prop := (c = 0 ∧ 7 ≤ j ∧ j ≤ 16) ∨ (1 ≤ c ∧ c ≤ 5 ∧ 0 ≤ j ∧ j < 24) ∨ ((c = 6 ∨ c = 7) ∧ 0 ≤ j ∧ j < 4)
theorem cl_out {Y : Nat → Int → Int} (h : cl_y Y) {c : Nat} {j : Int} (hn : ¬ cl_in c j) : Y c j = 0 := by
  obtain ⟨a1, a2, a3, a4⟩ := h
  unfold cl_in at hn
  by_cases h0 : c = 0
  · subst h0
    exact a1 j (by omega)
  · by_cases h5 : c ≤ 5
    · exact a2 c j (by omega) h5 (by omega)
    · by_cases h8 : 8 ≤ c
      · exact a4 c j h8
      · exact a3 c j (by omega) (by omega)
theorem yp_no {Z Y : Nat → Int → Int} {c : Nat} {j : Int} (hn : ¬ cl_in c j) : am_yp Z Y c j = Y c j := by
  unfold cl_in at hn
  unfold am_yp
  simp only [ay_uy_x, am_rg]
  repeat rw [if_neg (by omega)]
theorem cl_yp {Z Y : Nat → Int → Int} (hZ : cl_y Z) (hY : cl_y Y) : am_yp Z Y = Z := by
  funext c j
  by_cases h : cl_in c j
  · unfold cl_in at h
    rcases h with ⟨h0, h1, h2⟩ | ⟨h1, h2, h3, h4⟩ | ⟨h1, h2, h3⟩
    · rw [h0]
      exact ts_yp_s h1 h2
    · exact ts_yp_e.1 c j h1 h2 h3 h4
    · rcases h1 with w | w
      · rw [w]; exact (ts_yp_e.2 j h2 h3).1
      · rw [w]; exact (ts_yp_e.2 j h2 h3).2
  · rw [yp_no h, cl_out hY h, cl_out hZ h]
