/-! ===== clean in the making; a number of the script ===== -/
theorem cg_kd {E : am_E} {r : am_R} {x : Nat × Nat} (h : am_kd E r = some x) (h45 : r ≠ (45, 0)) : rl_k r = some x := by
  unfold am_kd at h
  rw [if_neg h45] at h
  unfold rl_k
  rw [List.find?_eq_getElem?_findIdx]
  split at h
  · split at h
    · rename_i t ht
      cases h
      have e : am_tab[List.findIdx (fun t => t.1 == r) am_tab]? = some t := ht
      rw [e]
      rfl
    · cases h
  · cases h
theorem cg_ob {E : am_E} {r : am_R} {k idx c f : Nat} (ho : am_ob E r c = true) (hf : am_fl k idx = some (c, f)) (hi : am_isr c f = false) : r.1 ≠ 45 → cl_v r.1 r.2 f := by
  intro h45
  obtain ⟨n, hk⟩ := am_ob_i ho
  obtain ⟨h6, hfn, -⟩ := am_fl_i hf
  exact ⟨c, n, cg_kd (r := r) hk (fun z => h45 (by rw [z])), Or.inr ⟨h6, f, rfl, hi, hfn⟩⟩
theorem cg_ar {E : am_E} {r : am_R} {k : Nat} {i : Int} (h6 : 6 ≤ k) (h : am_ar E r k i = true) : r.1 ≠ 45 → cl_v r.1 r.2 i := by
  intro h45
  obtain ⟨n, hk, h0, h1⟩ := am_ar_i h
  exact ⟨k, n, cg_kd (r := r) hk (fun z => h45 (by rw [z])), Or.inl ⟨h6, h0, h1⟩⟩
theorem cg_wr {k : Nat} {i : Instr} {st st' : List am_V} {E E' : am_E} {M M' : am_M} (h : am_wr k i st E M = some (st', E', M')) (hc : cl M) : cl M' := by
  unfold am_wr at h
  split at h
  · split at h
    · rename_i hfl
      split at h <;> cases h
      rename_i hq
      exact cl_up hc (cg_ob hq.1 hfl hq.2.1)
    · split at h <;> cases h
      exact hc
    · cases h
  · split at h
    · split at h <;> cases h
      rename_i hq
      exact cl_up hc (cg_ar (by decide) hq)
    · cases h
  · split at h
    · split at h <;> cases h
      rename_i hq
      exact cl_up hc (cg_ar (by decide) hq.1)
    · cases h
  · split at h
    · split at h <;> cases h
      exact hc
    · cases h
  · cases h
theorem cg_nM {M : am_M} {r : am_R} (h : cl M) : cl (am_nM M r) := by
  intro b cc j hb hn
  unfold am_nM am_sb
  by_cases q : b = r.1
  · rw [if_pos q]
    by_cases q2 : cc = r.2
    · rw [if_pos q2]
    · rw [if_neg q2, ← q]
      exact h b cc j hb hn
  · rw [if_neg q]
    exact h b cc j hb hn
theorem cg_mk {k : Nat} {i : Instr} {st st' : List am_V} {E E' : am_E} {M M' : am_M} (h : am_mk k i st E M = some (st', E', M')) (hc : cl M) : cl M' := by
  unfold am_mk at h
  split at h
  · split at h
    · split at h <;> cases h
      exact cg_nM hc
    · cases h
  · split at h
    · split at h
      · split at h <;> cases h
        exact cg_nM hc
      · cases h
    · cases h
  · split at h
    · split at h
      · split at h <;> cases h
        exact cg_nM hc
      · cases h
    · cases h
  · cases h
def cg_a (a : am_Ac) (M : am_M) : Prop := match a with
  | .inl c => cl M → cl c.2.2.2.2
  | .inr (.inl r) => cl M → cl r.2.2
  | .inr (.inr _) => True
theorem cg_stp {k : Nat} {c : am_Cf} {a : am_Ac} (h : am_stp k c = some a) : cg_a a c.2.2.2.2 := by
  obtain ⟨pc, ls, st, E, M⟩ := c
  unfold am_stp at h
  dsimp only at h
  cases hf : am_fetch k pc with
  | none => rw [hf] at h; cases h
  | some x =>
    obtain ⟨i, len⟩ := x
    rw [hf] at h
    dsimp only at h
    cases h1 : am_jp i pc len st with
    | some t => rw [h1] at h; cases h; exact fun z => z
    | none =>
      rw [h1] at h
      dsimp only at h
      split at h
      · cases h
      · cases h2 : am_op i st with
        | some t => rw [h2] at h; cases h; exact fun z => z
        | none =>
          rw [h2] at h
          dsimp only at h
          cases h3 : am_ld i ls with
          | some t => rw [h3] at h; cases h; exact fun z => z
          | none =>
            rw [h3] at h
            dsimp only at h
            cases h4 : am_st i ls st with
            | some t => rw [h4] at h; cases h; exact fun z => z
            | none =>
              rw [h4] at h
              dsimp only at h
              cases h5 : am_rd k i st E M with
              | some t => rw [h5] at h; cases h; exact fun z => z
              | none =>
                rw [h5] at h
                dsimp only at h
                cases h6 : am_wr k i st E M with
                | some t => rw [h6] at h; cases h; exact cg_wr h6
                | none =>
                  rw [h6] at h
                  dsimp only at h
                  cases h10 : am_mk k i st E M with
                  | some t => rw [h10] at h; cases h; exact cg_mk h10
                  | none =>
                    rw [h10] at h
                    dsimp only at h
                    cases h7 : am_rt k i st with
                    | some t => rw [h7] at h; cases h; exact fun z => z
                    | none =>
                      rw [h7] at h
                      dsimp only at h
                      cases h8 : am_iv k i st E with
                      | some t =>
                        rw [h8] at h
                        rcases t with t | ⟨t, as, rest⟩ <;> cases h
                        · exact fun z => z
                        · trivial
                      | none =>
                        rw [h8] at h
                        dsimp only at h
                        cases h9 : am_th k pc i st with
                        | some t => rw [h9] at h; cases h; exact fun z => z
                        | none => rw [h9] at h; cases h
theorem cg_run : ∀ (n k : Nat) (c : am_Cf) (r : am_Rs), am_run n k c = some r → cl c.2.2.2.2 → cl r.2.2 := by
  intro n
  induction n with
  | zero => intro k c r h; cases h
  | succ n ih =>
    intro k c r h hc
    unfold am_run at h
    cases ha : am_stp k c with
    | none => rw [ha] at h; cases h
    | some a =>
      have hs := cg_stp ha
      rw [ha] at h
      rcases a with c' | r' | ⟨t, as, rest⟩
      · exact ih k c' r h (hs hc)
      · cases h
        exact hs hc
      · dsimp only at h
        cases hr : am_run n t (am_en t as c.2.2.2.1 c.2.2.2.2) with
        | none => rw [hr] at h; cases h
        | some r' =>
          obtain ⟨o, E1, M1⟩ := r'
          have h2 := ih t _ _ hr hc
          rw [hr] at h
          rcases o with v | x
          · exact ih k _ r h h2
          · dsimp only at h
            split at h
            · split at h
              · cases h
                exact h2
              · cases h
            · split at h
              · exact ih k _ r h h2
              · cases h
theorem cg_den {k : Nat} {c : am_Cf} {r : am_Rs} (h : am_den k c = some r) (hc : cl c.2.2.2.2) : cl r.2.2 := by
  obtain ⟨n, hn⟩ := am_den_i h
  exact cg_run n k c r hn hc
theorem yc_u {Y : Nat → Int → Int} (h : cl_y (am_yc Y)) : am_yc Y = am_yc (fun _ _ => 0) := by
  have hi : ∀ Z Z' : Nat → Int → Int, ∀ c j, cl_in c j → am_yc Z c j = am_yc Z' c j := by
    intro Z Z' c j hc
    unfold cl_in at hc
    unfold am_yc
    simp only [ay_uy_x, am_rg]
    rcases hc with ⟨h0, h1, h2⟩ | ⟨h1, h2, h3, h4⟩ | ⟨h1, h2, h3⟩
    · subst h0
      rcases (show j = 7 ∨ j = 8 ∨ j = 9 ∨ j = 10 ∨ j = 11 ∨ j = 12 ∨ j = 13 ∨ j = 14 ∨ j = 15 ∨ j = 16 by omega) with w | w | w | w | w | w | w | w | w | w <;> subst w <;> simp
    · rcases (show c = 1 ∨ c = 2 ∨ c = 3 ∨ c = 4 ∨ c = 5 by omega) with w | w | w | w | w <;> subst w <;> simp [h3, h4]
    · rcases h1 with w | w <;> subst w <;> simp [h2, h3]
  have ho : ∀ Z : Nat → Int → Int, ∀ c j, ¬ cl_in c j → am_yc Z c j = Z c j := by
    intro Z c j hc
    unfold cl_in at hc
    unfold am_yc
    simp only [ay_uy_x, am_rg]
    repeat rw [if_neg (by omega)]
  funext c j
  by_cases q : cl_in c j
  · exact hi _ _ c j q
  · rw [cl_out h q, ho _ c j q]
/-! a number of the script -/
theorem ce_b {z : Int} : 0 ≤ (Int32.ofInt z &&& Int32.ofInt 2147483647).toInt ∧ (Int32.ofInt z &&& Int32.ofInt 2147483647).toInt < 2147483648 := by
  have h1 := Int32.toInt_lt (Int32.ofInt z &&& Int32.ofInt 2147483647)
  refine ⟨?_, by omega⟩
  have e : (Int32.ofInt z &&& Int32.ofInt 2147483647).toInt = ((Int32.ofInt z).toBitVec &&& (Int32.ofInt 2147483647).toBitVec).toInt := rfl
  rw [e]
  have m : ((Int32.ofInt z).toBitVec &&& (Int32.ofInt 2147483647).toBitVec).msb = false := by
    rw [BitVec.msb_and, show (Int32.ofInt 2147483647).toBitVec.msb = false by decide, Bool.and_false]
  rw [BitVec.toInt_eq_toNat_of_msb m]
  omega
theorem ce_143 {E : am_E} {M : am_M} {i : Int} (hi : 0 ≤ i) : ∃ v, (0 ≤ v ∧ v < 2147483648) ∧ am_den 143 (0, [some (am_A (45, 0)), some (am_I i)], [], E, M) = some (.inl (some (am_I v)), E, M) := by
  rw [am_B143_0]
  by_cases q : ((E.2.2.1 : Nat) : Int) ≤ i
  · rw [if_pos q, am_B143_12, am_B143_22]
    exact ⟨_, ce_b, rfl⟩
  · rw [if_neg q, am_B143_6 ⟨hi, by omega⟩, am_B143_22]
    exact ⟨_, ce_b, rfl⟩
