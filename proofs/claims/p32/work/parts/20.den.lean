/-! ===== what the abstract machine's run comes to: equations ===== -/
theorem am_run_mono : ∀ (n k : Nat) (c : am_Cf) (r : am_Rs), am_run n k c = some r → am_run (n + 1) k c = some r := by
  intro n
  induction n with
  | zero => intro k c r h; cases h
  | succ n ih =>
    intro k c r h
    unfold am_run at h ⊢
    split at h
    · cases h
    · exact ih _ _ _ h
    · exact h
    · rename_i t as rest hs
      split at h
      · cases h
      · rename_i hr
        rw [ih _ _ _ hr]
        exact ih _ _ _ h
      · rename_i hr
        rw [ih _ _ _ hr]
        dsimp only
        split at h
        · exact h
        · split at h
          · rename_i hc
            rw [if_pos hc]
            exact ih _ _ _ h
          · cases h
theorem am_run_le2 {n m k : Nat} {c : am_Cf} {r : am_Rs} (h : am_run n k c = some r) (hm : n ≤ m) : am_run m k c = some r := by
  induction hm with
  | refl => exact h
  | step _ ih => exact am_run_mono _ _ _ _ ih
noncomputable def am_den (k : Nat) (c : am_Cf) : Option am_Rs := @dite _ (∃ r n, am_run n k c = some r) (Classical.propDecidable _) (fun h => some (Classical.choose h)) (fun _ => none)
theorem am_den_of {n k : Nat} {c : am_Cf} {r : am_Rs} (h : am_run n k c = some r) : am_den k c = some r := by
  have h1 : ∃ r n, am_run n k c = some r := ⟨r, n, h⟩
  unfold am_den
  rw [dif_pos h1]
  obtain ⟨m, hm⟩ := Classical.choose_spec h1
  rcases Nat.le_total n m with q | q
  · exact hm.symm.trans (am_run_le2 h q)
  · exact (am_run_le2 hm q).symm.trans h
theorem am_den_i {k : Nat} {c : am_Cf} {r : am_Rs} (h : am_den k c = some r) : ∃ n, am_run n k c = some r := by
  unfold am_den at h
  by_cases h1 : ∃ r n, am_run n k c = some r
  · rw [dif_pos h1] at h
    have h2 := Classical.choose_spec h1
    rw [Option.some.inj h] at h2
    exact h2
  · rw [dif_neg h1] at h
    cases h
theorem am_den_n0 {k : Nat} {c : am_Cf} (h : ∀ r n, am_run n k c ≠ some r) : am_den k c = none := by
  cases hd : am_den k c with
  | none => rfl
  | some r =>
    obtain ⟨n, hn⟩ := am_den_i hd
    exact absurd hn (h r n)
theorem am_den_ret {k : Nat} {c : am_Cf} {r : am_Rs} (h : am_stp k c = some (.inr (.inl r))) : am_den k c = some r := am_den_of (n := 1) (by unfold am_run; rw [h])
theorem am_den_go {k : Nat} {c c' : am_Cf} (h : am_stp k c = some (.inl c')) : am_den k c = am_den k c' := by
  cases hd : am_den k c' with
  | some r =>
    obtain ⟨n, hn⟩ := am_den_i hd
    exact am_den_of (n := n + 1) (by unfold am_run; rw [h]; exact hn)
  | none =>
    refine am_den_n0 (fun r n hn => ?_)
    cases n with
    | zero => cases hn
    | succ n =>
      unfold am_run at hn
      rw [h] at hn
      rw [am_den_of hn] at hd
      cases hd
/-- behind a call -/
noncomputable def am_bd (k pc : Nat) (ls : List (Option am_V)) (rest : List am_V) (o : Option am_Rs) : Option am_Rs := match o with
  | none => none
  | some (.inl v, E, M) => am_den k (pc + 3, ls, am_ol v ++ rest, E, M)
  | some (.inr x, E, M) => (match am_hc k pc x with
    | none => if (am_mt k).2.2.2.2.2.2.1 = [] then some (.inr x, E, M) else none
    | some (pc', l) => if l < ls.length ∧ am_lf ls l = true then am_den k (pc', ls.set l none, [], E, M) else none)
theorem am_den_call {k t : Nat} {c : am_Cf} {as rest : List am_V} (h : am_stp k c = some (.inr (.inr (t, as, rest)))) : am_den k c = am_bd k c.1 c.2.1 rest (am_den t (am_en t as c.2.2.2.1 c.2.2.2.2)) := by
  cases hd : am_bd k c.1 c.2.1 rest (am_den t (am_en t as c.2.2.2.1 c.2.2.2.2)) with
  | some r =>
    unfold am_bd at hd
    split at hd
    · cases hd
    · rename_i v E M ho
      obtain ⟨n1, h1⟩ := am_den_i ho
      obtain ⟨n2, h2⟩ := am_den_i hd
      refine am_den_of (n := (n1 + n2) + 1) ?_
      unfold am_run
      rw [h]
      dsimp only
      rw [am_run_le2 h1 (Nat.le_add_right _ _)]
      exact am_run_le2 h2 (Nat.le_add_left _ _)
    · rename_i x E M ho
      obtain ⟨n1, h1⟩ := am_den_i ho
      split at hd
      · rename_i hc
        refine am_den_of (n := n1 + 1) ?_
        unfold am_run
        rw [h]
        dsimp only
        rw [h1]
        dsimp only
        rw [hc]
        exact hd
      · rename_i pc' l hc
        split at hd
        · rename_i hcond
          obtain ⟨n2, h2⟩ := am_den_i hd
          refine am_den_of (n := (n1 + n2) + 1) ?_
          unfold am_run
          rw [h]
          dsimp only
          rw [am_run_le2 h1 (Nat.le_add_right _ _)]
          dsimp only
          rw [hc]
          dsimp only
          rw [if_pos hcond]
          exact am_run_le2 h2 (Nat.le_add_left _ _)
        · cases hd
  | none =>
    refine am_den_n0 (fun r n hn => ?_)
    cases n with
    | zero => cases hn
    | succ n =>
      unfold am_run at hn
      rw [h] at hn
      dsimp only at hn
      split at hn
      · cases hn
      · rename_i v E M hr
        rw [am_den_of hr] at hd
        unfold am_bd at hd
        dsimp only at hd
        rw [am_den_of hn] at hd
        cases hd
      · rename_i x E M hr
        rw [am_den_of hr] at hd
        unfold am_bd at hd
        dsimp only at hd
        split at hn
        · rename_i hc
          rw [hc] at hd
          dsimp only at hd
          rw [hn] at hd
          cases hd
        · rename_i pc' l hc
          rw [hc] at hd
          dsimp only at hd
          split at hn
          · rename_i hcond
            rw [if_pos hcond, am_den_of hn] at hd
            cases hd
          · cases hn
theorem am_bd_v {k pc : Nat} {ls : List (Option am_V)} {rest : List am_V} {v : am_V} {E : am_E} {M : am_M} : am_bd k pc ls rest (some (.inl (some v), E, M)) = am_den k (pc + 3, ls, v :: rest, E, M) := rfl
theorem am_bd_u {k pc : Nat} {ls : List (Option am_V)} {rest : List am_V} {E : am_E} {M : am_M} : am_bd k pc ls rest (some (.inl none, E, M)) = am_den k (pc + 3, ls, rest, E, M) := rfl
/-- an exception that goes on -/
theorem am_bd_x {k pc x : Nat} {ls : List (Option am_V)} {rest : List am_V} {E : am_E} {M : am_M} (hh : (am_mt k).2.2.2.2.2.2.1 = []) : am_bd k pc ls rest (some (.inr x, E, M)) = some (.inr x, E, M) := by
  unfold am_bd am_hc
  dsimp only
  rw [hh]
  unfold am_hd
  simp
/-- several steps at once -/
def am_stpn (k : Nat) : Nat → am_Cf → Option am_Cf
  | 0, c => some c
  | n + 1, c => (match am_stp k c with
    | some (.inl c') => am_stpn k n c'
    | _ => none)
theorem am_den_n {k : Nat} (n : Nat) : ∀ {c c' : am_Cf}, am_stpn k n c = some c' → am_den k c = am_den k c' := by
  induction n with
  | zero => intro c c' h; cases h; rfl
  | succ n ih =>
    intro c c' h
    unfold am_stpn at h
    split at h
    · rename_i c2 hs
      exact (am_den_go hs).trans (ih h)
    · cases h
section DEN
variable {k pc idx : Nat} {ls : List (Option am_V)} {st : List am_V} {E : am_E} {M : am_M} {b c f : Nat} {r r' : am_R} {z i : Int}
theorem am_d_gfi (F : am_fetch k pc = some (.getfield idx, 3)) (hf : am_fl k idx = some (c, f)) (ho : am_ob E r c = true) (hr : am_isr c f = false) : am_den k (pc, ls, am_A r :: st, E, M) = am_den k (pc + 3, ls, am_I (M r.1 r.2 f) :: st, E, M) :=
  am_den_go (by simp [am_stp, F, am_jp, am_ln, am_op, am_ld, am_st, am_rd, hf, ho, hr])
theorem am_d_gfr (F : am_fetch k pc = some (.getfield idx, 3)) (hf : am_fl k idx = some (c, f)) (ho : am_ob E r c = true) (hr : am_isr c f = true) (h : am_rf E r f = some r') : am_den k (pc, ls, am_A r :: st, E, M) = am_den k (pc + 3, ls, am_A r' :: st, E, M) :=
  am_den_go (by simp [am_stp, F, am_jp, am_ln, am_op, am_ld, am_st, am_rd, hf, ho, hr, h, am_rv])
theorem am_d_ial (F : am_fetch k pc = some (.iaload, 1)) (h : am_ar E r 6 i = true) : am_den k (pc, ls, am_I i :: am_A r :: st, E, M) = am_den k (pc + 1, ls, am_I (M r.1 r.2 i) :: st, E, M) :=
  am_den_go (by simp [am_stp, F, am_jp, am_ln, am_op, am_ld, am_st, am_rd, h, am_sw])
theorem am_d_sal (F : am_fetch k pc = some (.iaload, 1)) (h : am_ar E r 12 i = true) : am_den k (pc, ls, am_I i :: am_A r :: st, E, M) = am_den k (pc + 1, ls, am_I (M r.1 r.2 i) :: st, E, M) :=
  am_den_go (by simp [am_stp, F, am_jp, am_ln, am_op, am_ld, am_st, am_rd, h, am_sw])
theorem am_d_cal (F : am_fetch k pc = some (.caload, 1)) (h : am_ar E r 7 i = true) : am_den k (pc, ls, am_I i :: am_A r :: st, E, M) = am_den k (pc + 1, ls, am_I (M r.1 r.2 i) :: st, E, M) :=
  am_den_go (by simp [am_stp, F, am_jp, am_ln, am_op, am_ld, am_st, am_rd, h, am_sw])
theorem am_d_aal (F : am_fetch k pc = some (.aaload, 1)) (h : am_ar E r 10 i = true) (hr : am_rf E r i.toNat = some r') : am_den k (pc, ls, am_I i :: am_A r :: st, E, M) = am_den k (pc + 1, ls, am_A r' :: st, E, M) :=
  am_den_go (by simp [am_stp, F, am_jp, am_ln, am_op, am_ld, am_st, am_rd, h, hr, am_rv, am_sw])
theorem am_d_len {n : Nat} (F : am_fetch k pc = some (.arraylength, 1)) (h : am_kd E r = some (c, n)) (h6 : 6 ≤ c) : am_den k (pc, ls, am_A r :: st, E, M) = am_den k (pc + 1, ls, am_I n :: st, E, M) :=
  am_den_go (by simp [am_stp, F, am_jp, am_ln, am_op, am_ld, am_st, am_rd, h, h6, am_sw])
theorem am_d_pfi (F : am_fetch k pc = some (.putfield idx, 3)) (hf : am_fl k idx = some (c, f)) (ho : am_ob E r c = true) (hr : am_isr c f = false) (hz : am_isz c f = true → z = 0 ∨ z = 1) : am_den k (pc, ls, am_I z :: am_A r :: st, E, M) = am_den k (pc + 3, ls, st, E, am_up M r f z) := by
  have h1 : am_wr k (.putfield idx) (am_I z :: am_A r :: st) E M = some (st, E, am_up M r f z) := by
    unfold am_wr
    simp only [hf]
    rw [if_pos ⟨ho, hr, hz⟩]
  exact am_den_go (by simp [am_stp, F, am_jp, am_ln, am_op, am_ld, am_st, am_rd, h1])
theorem am_d_pfr (F : am_fetch k pc = some (.putfield idx, 3)) (hf : am_fl k idx = some (c, f)) (ho : am_ob E r c = true) (hr : am_isr c f = true) (hn : (am_mt k).2.2.1.name = "<init>") (hc : (am_mt k).2.1 = c) : am_den k (pc, ls, am_A r' :: am_A r :: st, E, M) = am_den k (pc + 3, ls, st, am_srf E r f r', M) := by
  have h1 : am_wr k (.putfield idx) (am_A r' :: am_A r :: st) E M = some (st, am_srf E r f r', M) := by
    unfold am_wr
    simp only [hf]
    rw [if_pos ⟨ho, hr, hn, hc⟩]
  exact am_den_go (by simp [am_stp, F, am_jp, am_ln, am_op, am_ld, am_st, am_rd, h1])
theorem am_d_ias (F : am_fetch k pc = some (.iastore, 1)) (h : am_ar E r 6 i = true) : am_den k (pc, ls, am_I z :: am_I i :: am_A r :: st, E, M) = am_den k (pc + 1, ls, st, E, am_up M r i z) :=
  am_den_go (by simp [am_stp, F, am_jp, am_ln, am_op, am_ld, am_st, am_rd, am_wr, h, am_sw])
theorem am_d_cas (F : am_fetch k pc = some (.castore, 1)) (h : am_ar E r 7 i = true) (h0 : 0 ≤ z) (h1 : z < 65536) : am_den k (pc, ls, am_I z :: am_I i :: am_A r :: st, E, M) = am_den k (pc + 1, ls, st, E, am_up M r i z) :=
  am_den_go (by simp [am_stp, F, am_jp, am_ln, am_op, am_ld, am_st, am_rd, am_wr, h, h0, h1, am_sw])
theorem am_d_aas (F : am_fetch k pc = some (.aastore, 1)) (h : am_ar E r 10 i = true) (h0 : am_ob E r' 3 = true) : am_den k (pc, ls, am_A r' :: am_I i :: am_A r :: st, E, M) = am_den k (pc + 1, ls, st, am_srf E r i.toNat r', M) :=
  am_den_go (by simp [am_stp, F, am_jp, am_ln, am_op, am_ld, am_st, am_rd, am_wr, h, h0, am_sw])
theorem am_d_if {co : Jvm.ClassFile.Cond} {off : Int} {t : Nat} {q : Prop} [Decidable q] (F : am_fetch k pc = some (.ifCond co off, 3)) (ht : am_at pc off = some t) (hq : am_cc co z 0 = decide q) : am_den k (pc, ls, am_I z :: st, E, M) = if q then am_den k (t, ls, st, E, M) else am_den k (pc + 3, ls, st, E, M) := by
  have h1 : am_jp (.ifCond co off) pc 3 (am_I z :: st) = some (bif am_cc co z 0 then t else pc + 3, st) := by simp [am_jp, ht]
  rw [am_den_go (c' := (bif am_cc co z 0 then t else pc + 3, ls, st, E, M)) (by simp only [am_stp, F, h1]), hq]
  by_cases h : q
  · rw [if_pos h, decide_eq_true h]; rfl
  · rw [if_neg h, decide_eq_false h]; rfl
theorem am_d_ic {co : Jvm.ClassFile.Cond} {off : Int} {t : Nat} {q : Prop} [Decidable q] (F : am_fetch k pc = some (.if_icmp co off, 3)) (ht : am_at pc off = some t) (hq : am_cc co i z = decide q) : am_den k (pc, ls, am_I z :: am_I i :: st, E, M) = if q then am_den k (t, ls, st, E, M) else am_den k (pc + 3, ls, st, E, M) := by
  have h1 : am_jp (.if_icmp co off) pc 3 (am_I z :: am_I i :: st) = some (bif am_cc co i z then t else pc + 3, st) := by simp [am_jp, ht]
  rw [am_den_go (c' := (bif am_cc co i z then t else pc + 3, ls, st, E, M)) (by simp only [am_stp, F, h1]), hq]
  by_cases h : q
  · rw [if_pos h, decide_eq_true h]; rfl
  · rw [if_neg h, decide_eq_false h]; rfl
theorem am_d_iv {i' : Instr} {t : Nat} {as rest : List am_V} (F : am_fetch k pc = some (i', 3)) (hi : (∃ x, i' = .invokestatic x) ∨ (∃ x, i' = .invokevirtual x) ∨ (∃ x, i' = .invokespecial x)) (h : am_iv k i' st E = some (.inr (t, as, rest))) : am_den k (pc, ls, st, E, M) = am_bd k pc ls rest (am_den t (am_en t as E M)) := by
  refine am_den_call (c := (pc, ls, st, E, M)) ?_
  rcases hi with ⟨x, rfl⟩ | ⟨x, rfl⟩ | ⟨x, rfl⟩ <;> simp [am_stp, F, am_jp, am_ln, am_op, am_ld, am_st, am_rd, am_wr, am_mk, am_rt, h]
theorem am_iv_v {t n : Nat} {as rest : List am_V} (h1 : am_ml k idx = some (t, 1)) (hn : (am_mt t).2.2.2.2.2.2.2 = n) (hc : (am_mt t).2.1 = c) (h2 : Nat.blt (am_rk t) (am_rk k) = true) (h3 : (st.take n).reverse = am_A r :: as) (h4 : st.drop n = rest) (h5 : Nat.ble n st.length = true) (h6 : Nat.ble (am_wt rest) 8 = true) (h7 : Nat.ble (am_xp (am_A r :: as)).length (am_mt t).2.2.2.2.1 = true) (ho : am_ob E r c = true) :
    am_iv k (.invokevirtual idx) st E = some (.inr (t, am_A r :: as, rest)) := by
  unfold am_iv
  simp only [h1]
  rw [if_pos ⟨by have h9 := h2; simp [Nat.blt] at h9; omega, by rw [hn]; exact Nat.le_of_ble_eq_true h5, by rw [hn, h4]; exact Nat.le_of_ble_eq_true h6, by rw [hn, h3]; simp [am_ivc, am_rcv, hc, ho], by rw [hn, h3]; exact Nat.le_of_ble_eq_true h7⟩, hn, h3, h4]
theorem am_iv_i2 {t n : Nat} {as rest : List am_V} (h1 : am_ml k idx = some (t, 2)) (hn : (am_mt t).2.2.2.2.2.2.2 = n) (hc : (am_mt t).2.1 = c) (h2 : Nat.blt (am_rk t) (am_rk k) = true) (h3 : (st.take n).reverse = am_A r :: as) (h4 : st.drop n = rest) (h5 : Nat.ble n st.length = true) (h6 : Nat.ble (am_wt rest) 8 = true) (h7 : Nat.ble (am_xp (am_A r :: as)).length (am_mt t).2.2.2.2.1 = true) (ho : am_ob E r c = true) :
    am_iv k (.invokespecial idx) st E = some (.inr (t, am_A r :: as, rest)) := by
  unfold am_iv
  simp only [h1]
  rw [if_pos ⟨by have h9 := h2; simp [Nat.blt] at h9; omega, by rw [hn]; exact Nat.le_of_ble_eq_true h5, by rw [hn, h4]; exact Nat.le_of_ble_eq_true h6, by rw [hn, h3]; simp [am_ivc, am_rcv, hc, ho], by rw [hn, h3]; exact Nat.le_of_ble_eq_true h7⟩, hn, h3, h4]
theorem am_iv_s {t n kd : Nat} {as rest : List am_V} (h1 : am_ml k idx = some (t, kd)) (hk : kd = 0 ∨ kd = 3 ∨ kd = 4) (hn : (am_mt t).2.2.2.2.2.2.2 = n) (h2 : Nat.blt (am_rk t) (am_rk k) = true) (h3 : (st.take n).reverse = as) (h4 : st.drop n = rest) (h5 : Nat.ble n st.length = true) (h6 : Nat.ble (am_wt rest) 8 = true) (h7 : Nat.ble (am_xp as).length (am_mt t).2.2.2.2.1 = true) :
    am_iv k (.invokestatic idx) st E = some (.inr (t, as, rest)) := by
  rcases hk with rfl | rfl | rfl <;>
  · unfold am_iv
    simp only [h1]
    rw [if_pos ⟨by have h9 := h2; simp [Nat.blt] at h9; omega, by rw [hn]; exact Nat.le_of_ble_eq_true h5, by rw [hn, h4]; exact Nat.le_of_ble_eq_true h6, by simp [am_ivc], by rw [hn, h3]; exact Nat.le_of_ble_eq_true h7⟩, hn, h3, h4]
theorem am_d_ret {v : Option am_V} {len : Nat} {i' : Instr} (F : am_fetch k pc = some (i', len)) (h : am_stp k (pc, ls, st, E, M) = some (.inr (.inl (.inl v, E, M)))) : am_den k (pc, ls, st, E, M) = some (.inl v, E, M) := am_den_ret h
end DEN
