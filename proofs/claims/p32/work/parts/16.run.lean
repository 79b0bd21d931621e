/-! ===== calls and ends ===== -/
theorem am_cv_ol (B0 b : Nat) (v : Option am_V) (rest : List am_V) : (v.map (am_cv B0 b)).toList ++ rest.map (am_cv B0 b) = (am_ol v ++ rest).map (am_cv B0 b) := by
  cases v <;> rfl
theorem am_ivc_i {t c : Nat} {i : Instr} {as : List am_V} {E : am_E} (h : am_ivc t c i as E = true) : (∃ idx, i = .invokestatic idx ∧ (c = 0 ∨ c = 3 ∨ c = 4)) ∨ (∃ idx r as', i = .invokevirtual idx ∧ c = 1 ∧ as = am_A r :: as' ∧ am_ob E r (am_mt t).2.1 = true) ∨ (∃ idx r as', i = .invokespecial idx ∧ c = 2 ∧ as = am_A r :: as' ∧ am_ob E r (am_mt t).2.1 = true) := by
  have hr : am_rcv as (am_mt t).2.1 E = true → ∃ r as', as = am_A r :: as' ∧ am_ob E r (am_mt t).2.1 = true := fun h => by
    unfold am_rcv at h
    split at h
    · exact ⟨_, _, rfl, h⟩
    · cases h
  unfold am_ivc at h
  split at h
  · simp only [Bool.or_eq_true, beq_iff_eq] at h
    exact Or.inl ⟨_, rfl, by omega⟩
  · simp only [Bool.and_eq_true, beq_iff_eq] at h
    obtain ⟨r, as', h1, h2⟩ := hr h.2
    exact Or.inr (Or.inl ⟨_, r, as', rfl, h.1, h1, h2⟩)
  · simp only [Bool.and_eq_true, beq_iff_eq] at h
    obtain ⟨r, as', h1, h2⟩ := hr h.2
    exact Or.inr (Or.inr ⟨_, r, as', rfl, h.1, h1, h2⟩)
  · cases h
section AMC
variable {dC : Nat → ClassId} {dI : Nat → Nat → Nat} {cy : Nat → ClassId} {B0 b L : Nat} {xs : Nat → Int32}
theorem am_F_mv {s U : State} {locs : List Loc} (hF : am_F dC dI cy B0 b L xs s) (hW : s.WarmedH U.vm) (hS : va_S (fun q => B0 ≤ q) s.heap U.heap locs) : am_F dC dI cy B0 b L xs U := by
  obtain ⟨h1, h2, h3, h4, h5, h6, h7, h8, h9, h10, h11⟩ := hF
  have ha := hW.alike
  have hk : ∀ a : Nat, a < s.heap.size → ¬ B0 ≤ a → U.heap[a]? = s.heap[a]? := fun a q1 q2 => hS.2.1 a q1 q2
  refine ⟨fun w hw a => am_wmv (List.mem_filter.mp hw).2 hW (h1 w hw #[]) a, h2.moved ha, (h3.kept (hk b (by omega) (by omega))).moved ha, h4, Nat.le_trans h5 hS.1, h6, (h7.kept hk).moved ha, (h8.kept hk).moved ha, fun q hq => ?_, va_AO.moved ha h10, fun x y hx hy hxy => va_Nc.moved ha (h11 x y hx hy hxy)⟩
  obtain ⟨a, h⟩ := h9 q hq
  exact ⟨a, h.warm hW⟩
def am_Pc (dC : Nat → ClassId) (dI : Nat → Nat → Nat) (cy : Nat → ClassId) (B0 b L : Nat) (xs : Nat → Int32) (as : List am_V) (E : am_E) (M : am_M) : Array Value → State → Prop := va_Pc (as.map (am_cv B0 b)) (fun U => am_F dC dI cy B0 b L xs U ∧ am_H dC dI cy B0 b L xs E M U.heap ∧ (E.2.1 = 0 → U.heap.size = B0 + E.1))
def am_Qc (dC : Nat → ClassId) (dI : Nat → Nat → Nat) (cy : Nat → ClassId) (B0 b L : Nat) (xs : Nat → Int32) (r : am_Rs) : Array Value → State → Outcome → State → Prop := fun _ st o t => (∃ v, r.1 = .inl v ∧ o = .returned (v.map (am_cv B0 b)) ∧ ∀ x ∈ am_ol v, am_nv x) ∧ am_H dC dI cy B0 b L xs r.2.1 r.2.2 t.heap ∧ va_F (fun q => B0 ≤ q) st t
def am_XC (dC : Nat → ClassId) (dI : Nat → Nat → Nat) (cy : Nat → ClassId) (B0 b L : Nat) (xs : Nat → Int32) (r : am_Rs) : String → State → State → Prop := fun X st t => (∃ x, r.1 = .inr x ∧ X = am_xn x ∧ x < 3) ∧ am_H dC dI cy B0 b L xs r.2.1 r.2.2 t.heap ∧ va_F (fun q => B0 ≤ q) st t
def am_rm (k : Nat) (E : am_E) (r : am_Rs) : Room := { frames := 10 + am_rk k, cells := am_qc r.2.1 - am_qc E, slots := am_qs r.2.1 - am_qs E, locals := 200 + 60 * am_rk k }
/-- the contract of a method that runs so -/
def am_Ctr (l : Launch) (dC : Nat → ClassId) (dI : Nat → Nat → Nat) (cy : Nat → ClassId) (B0 b L : Nat) (xs : Nat → Int32) (k : Nat) (as : List am_V) (E : am_E) (M : am_M) (r : am_Rs) : Prop :=
  vx_Met l (am_mt k).2.2.1 [am_cw k] (am_rm k E r) (am_Pc dC dI cy B0 b L xs as E M) (am_Qc dC dI cy B0 b L xs r) (am_XC dC dI cy B0 b L xs r) (am_qc r.2.1 - am_qc E) (am_qs r.2.1 - am_qs E) (fun q => B0 ≤ q)
theorem am_blind {as : List am_V} {E : am_E} {M : am_M} : FrameBlind (am_Pc dC dI cy B0 b L xs as E M) := by
  intro a U g mk ⟨h1, h2, h3, h4⟩
  refine ⟨h1, ?_, h3, h4⟩
  exact am_F_mv (U := U.calling g mk a) h2 (State.WarmedH.refl U) (va_S.rf)
variable {p : Program} {l : Launch} {e : Env} {R : Room} {s : State} {m : MethodId} {args : Array Value} {below : List Frame} {meth : Method} {c : Code} {H : Heap} {locs : List Loc} {cells slots : Nat} {Q : State → Prop}
variable {cc : ByteArray} {pc : Nat} {lsC : Array Slot} {E : am_E} {M : am_M} {k : Nat}
/-- what every call of a method owes -/
theorem am_callB {t : Nat} {r : am_Rs} (hF : am_F dC dI cy B0 b L xs s) (ht : t < 229) (h225 : t ≠ 225) (hrk : am_rk t < am_rk k) (hRf : 10 + am_rk k ≤ R.frames) (hRl : 200 + 60 * am_rk k ≤ R.locals) (hh : (am_mt t).2.2.2.2.2.2.1 = []) {idx n : Nat} (hlk : (Cond.methodLink (am_gn (am_mt k).1) idx (am_mt t).2.2.1).before args s = true)
    (hn : n = if (am_mp t).2.2.2 = true then (am_mt t).2.2.2.2.2.2.2 else (am_mt t).2.2.2.2.2.2.2 - 1) :
    CallB R s args (am_gn (am_mt k).1) idx (am_mt t).2.2.1 (am_mt t).2.2.2.1 (am_mt t).2.2.2.2.1 (am_mt t).2.2.2.2.2.1 [am_cw t] (am_rm t E r) (am_qc r.2.1 - am_qc E) (am_qs r.2.1 - am_qs E) n := by
  obtain ⟨a1, a2, a3, a4, a5, a6, a7, a8, a9⟩ := am_mt_i ht h225
  have hcw : am_cw t = .code (am_mt t).2.2.1 (am_mt t).2.2.2.1 (am_mt t).2.2.2.2.1 (am_mt t).2.2.2.2.2.1 := by unfold am_cw; rw [hh]
  have hpl := am_plain _ a5
  refine ⟨rfl, rfl, by unfold am_rm; dsimp only; omega, by unfold am_rm; dsimp only; omega, fun w hw a' U hW => ?_, by rw [hcw]; exact List.mem_singleton_self _, by rw [← hcw]; exact hF.1 _ a1 _, by rw [a4]; exact hF.1 _ a9 _, by rw [a4]; exact ⟨hpl.2.1, hpl.2.2⟩, fun sig h => ?_, hlk⟩
  · rw [List.mem_singleton.mp hw]
    exact am_wmv (List.mem_filter.mp a1).2 hW (hF.1 _ a1 #[]) a'
  · rw [h] at a7
    rw [hn]
    exact (Option.some.inj a7).symm
theorem am_pre {as : List am_V} (hF : am_F dC dI cy B0 b L xs s) (hH : am_H dC dI cy B0 b L xs E M H) (hS : va_S (fun q => B0 ≤ q) s.heap H locs) (hsz : E.2.1 = 0 → H.size = B0 + E.1) {vs : List Value} (hv : vs = as.map (am_cv B0 b)) : PreS s H (am_Pc dC dI cy B0 b L xs as E M) vs :=
  ⟨am_blind, fun U hU hW => ⟨by rw [hv], am_F_mv (locs := locs) hF hW (by rw [hU]; exact hS), by rw [hU]; exact hH, by rw [hU]; exact hsz⟩⟩
/-- a call, as an instruction: it is run, or throws -/
theorem am_W_iv (hk : k < 229) (hx : p.tables.exec = Jvm.exec) (hb : c.code = cc) {nL : Nat} (hml : c.maxLocals = nL) (hls : lsC.size = nL) (hF : am_F dC dI cy B0 b L xs s) (hown : s.vm.findClass (am_gn (am_mt k).1) = some m.cls) (hH : am_H dC dI cy B0 b L xs E M H) (hS : va_S (fun q => B0 ≤ q) s.heap H locs) (hsz : E.2.1 = 0 → H.size = B0 + E.1) (hRf : 10 + am_rk k ≤ R.frames) (hRl : 200 + 60 * am_rk k ≤ R.locals)
    {i : Instr} {len t : Nat} {st as rest : List am_V} {r : am_Rs} (hd : decode cc pc = .ok (i, len)) (hl : len = am_ln i) (hs : am_iv k i st E = some (.inr (t, as, rest))) (hfit : cells + (am_qc r.2.1 - am_qc E) ≤ R.cells ∧ slots + (am_qs r.2.1 - am_qs E) ≤ R.slots) (hC : am_rk t < am_rk k → t < 229 → t ≠ 225 → as.length = (am_mt t).2.2.2.2.2.2.2 → (∀ x ∈ as, x ∈ st) → (am_xp as).length ≤ (am_mt t).2.2.2.2.1 → am_Ctr l dC dI cy B0 b L xs t as E M r) :
    (∀ x ∈ rest, x ∈ st) ∧ (∀ x ∈ as, x ∈ st) ∧ len = 3 ∧ vx_Run p l e R s m args below meth c H locs cells slots (am_qc r.2.1 - am_qc E) (am_qs r.2.1 - am_qs E) (F0 m pc lsC (st.map (am_cv B0 b))) (rest.map (am_cv B0 b)) (am_Qc dC dI cy B0 b L xs r #[]) (am_XC dC dI cy B0 b L xs r) (fun q => B0 ≤ q) := by
  have hts : ∀ w ∈ am_Ts, w.before args s = true := fun w h => hF.1 w h args
  have hFix : CallFix p m c cc nL s args am_Ts (am_gn (am_mt k).1) := ⟨hx, hb, hml, hown, hts⟩
  unfold am_iv at hs
  split at hs
  · cases hs
  · split at hs
    · split at hs <;> cases hs
    · cases hs
  · split at hs
    · split at hs <;> cases hs
    · cases hs
  · split at hs
    · split at hs <;> cases hs
    · cases hs
  · rename_i t' kd n5 n6 n7 hml'
    split at hs
    · rename_i hcond
      simp only [Option.some.injEq, Sum.inr.injEq, Prod.mk.injEq] at hs
      obtain ⟨e1, e2, e3⟩ := hs
      subst e1
      obtain ⟨hrk, hna, hwt, hki, hxp⟩ := hcond
      generalize hnn : (am_mt t').2.2.2.2.2.2.2 = n at *
      have hre : as.length = n := by rw [← e2, List.length_reverse, List.length_take]; omega
      have hm1 : ∀ x ∈ rest, x ∈ st := fun x h => by rw [← e3] at h; exact List.mem_of_mem_drop h
      have hm2 : ∀ x ∈ as, x ∈ st := fun x h => by rw [← e2] at h; exact List.mem_of_mem_take (List.mem_reverse.mp h)
      have hstk : st.map (am_cv B0 b) = (as.map (am_cv B0 b)).reverse ++ rest.map (am_cv B0 b) := by
        rw [← e2, ← e3, ← List.map_reverse, List.reverse_reverse, ← List.map_append, List.take_append_drop]
      rw [e3] at hwt
      rw [e2] at hki hxp
      refine ⟨hm1, hm2, ?_⟩
      have hW : ∀ pc' ls' st', 2 * (F0 m pc' ls' st').monitorRoom + ((rest.map (am_cv B0 b)).map fun v => v.category).sum ≤ 8 := fun pc' ls' st' => lv_room (by rw [am_wt_cv]; exact hwt)
      rcases am_ivc_i hki with ⟨idx, rfl, hkd⟩ | ⟨idx, r9, as', rfl, rfl, rfl, hob⟩ | ⟨idx, r9, as', rfl, rfl, rfl, hob⟩
      · obtain ⟨pp, hmr⟩ := am_ml_i hml'
        refine ⟨hl, ?_⟩
        subst hl
        rcases hkd with rfl | rfl | rfl
        · simp only [am_mrB, Bool.and_eq_true, decide_eq_true_eq, bne_iff_ne] at hmr
          obtain ⟨⟨⟨⟨g1, g2⟩, g3⟩, g4⟩, g5⟩ := hmr
          have hC' := hC hrk g1 g2 hre hm2 hxp
          obtain ⟨a1, a2, a3, a4, a5, a6, a7, a8, a9⟩ := am_mt_i g1 g2
          rw [if_pos g3] at a2
          exact vx_runS (n := n) (As := as.map (am_cv B0 b)) hFix hC' ⟨am_callB hF g1 g2 hrk hRf hRl g4 (hts _ (am_in_p g5 rfl)) (by rw [if_pos g3, hnn]), hts _ a2⟩ (am_pre hF hH hS hsz rfl) rfl (by rw [List.length_map]; exact hre) hls hstk (hW _ _ _) hd hfit
        · simp only [am_mrB, Bool.and_eq_true, decide_eq_true_eq, bne_iff_ne] at hmr
          obtain ⟨⟨⟨⟨g1, g2⟩, g3⟩, g4⟩, g5⟩ := hmr
          have hC' := hC hrk g1 g2 hre hm2 hxp
          obtain ⟨a1, a2, a3, a4, a5, a6, a7, a8, a9⟩ := am_mt_i g1 g2
          rw [if_pos g3] at a2
          have hcw : am_cw t' = .code (am_mt t').2.2.1 (am_mt t').2.2.2.1 (am_mt t').2.2.2.2.1 (am_mt t').2.2.2.2.2.1 := by unfold am_cw; rw [g4]
          have hpl := am_plain _ a5
          refine vx_runSN (bytes := (am_mt t').2.2.2.1) (maxL := (am_mt t').2.2.2.2.1) (ret := (am_mt t').2.2.2.2.2.1) (n := n) (As := as.map (am_cv B0 b)) (host := RX4) hFix hC' ⟨⟨⟨rfl, rfl, by unfold am_rm; dsimp only; omega, by unfold am_rm; dsimp only; omega, fun w hw a' U hW => ?_, by rw [hcw]; exact List.mem_singleton_self _⟩, by rw [← hcw]; exact hts _ a1, by rw [a4]; exact hts _ a9, by rw [a4]; exact ⟨hpl.2.1, hpl.2.2⟩, fun sig h => ?_, hts _ (am_in_p g5 rfl)⟩, hts _ a2, trivial⟩ (am_pre hF hH hS hsz rfl) rfl (by rw [List.length_map]; exact hre) hls hstk (hW _ _ _) hd hfit
          · rw [List.mem_singleton.mp hw]
            exact am_wmv (List.mem_filter.mp a1).2 hW (hF.1 _ a1 #[]) a'
          · rw [h, if_pos g3, hnn] at a7
            exact (Option.some.inj a7).symm
        · simp only [am_mrB, Bool.and_eq_true, decide_eq_true_eq, bne_iff_ne] at hmr
          obtain ⟨⟨⟨⟨g1, g2⟩, g3⟩, g4⟩, g5⟩ := hmr
          have hC' := hC hrk g1 g2 hre hm2 hxp
          obtain ⟨a1, a2, a3, a4, a5, a6, a7, a8, a9⟩ := am_mt_i g1 g2
          rw [if_pos g3] at a2
          have hcw : am_cw t' = .codeWith (am_mt t').2.2.1 (am_mt t').2.2.2.1 (am_mt t').2.2.2.2.1 (am_mt t').2.2.2.2.2.1 (am_mt t').2.2.2.2.2.2.1 := by
            unfold am_cw
            split
            · rename_i h0; exact absurd h0 g4
            · rfl
          have hpl := am_plain _ a5
          refine vx_runSX (n := n) (As := as.map (am_cv B0 b)) (hh := (am_mt t').2.2.2.2.2.2.1) (bytes := (am_mt t').2.2.2.1) (maxL := (am_mt t').2.2.2.2.1) (ret := (am_mt t').2.2.2.2.2.1) hFix hC' ⟨⟨rfl, rfl, by unfold am_rm; dsimp only; omega, by unfold am_rm; dsimp only; omega, fun w hw a' U hW => ?_, by rw [hcw]; exact List.mem_singleton_self _⟩, by rw [← hcw]; exact hts _ a1, by rw [a4]; exact hts _ a9, by rw [a4]; exact ⟨hpl.2.1, hpl.2.2⟩, fun sig h => ?_, hts _ (am_in_p g5 rfl), hts _ a2⟩ (am_pre hF hH hS hsz rfl) rfl (by rw [List.length_map]; exact hre) hls hstk (hW _ _ _) hd hfit
          · rw [List.mem_singleton.mp hw]
            exact am_wmv (List.mem_filter.mp a1).2 hW (hF.1 _ a1 #[]) a'
          · rw [h, if_pos g3, hnn] at a7
            exact (Option.some.inj a7).symm
      · obtain ⟨pp, hmr⟩ := am_ml_i hml'
        refine ⟨hl, ?_⟩
        subst hl
        simp only [am_mrB, Bool.and_eq_true, decide_eq_true_eq, bne_iff_ne, Bool.not_eq_true'] at hmr
        obtain ⟨⟨⟨⟨⟨g1, g2⟩, g3⟩, g4⟩, g6⟩, g5⟩ := hmr
        have hC' := hC hrk g1 g2 hre hm2 hxp
        obtain ⟨a1, a2, a3, a4, a5, a6, a7, a8, a9⟩ := am_mt_i g1 g2
        rw [if_neg (by rw [g3]; decide)] at a2
        have a3' : Cond.selects (am_cn (am_mt t').2.1) (am_mt t').2.2.1 (am_mt t').2.2.1 ∈ am_Ts := by
          rcases a3 with a3 | a3 | a3
          · rw [g3] at a3; cases a3
          · exact absurd a3 g6
          · exact a3
        have h6 : (am_mt t').2.1 < 6 := by
          have h1 := List.all_eq_true.mp am_mt_ok t' (List.mem_range.mpr g1)
          simp only [am_mtB, Bool.and_eq_true, Bool.or_eq_true, beq_iff_eq, decide_eq_true_eq] at h1
          rcases h1 with h1 | h1
          · exact absurd h1 g2
          · rcases h1.2 with h1 | h1
            · exact h1
            · rw [g3] at h1; cases h1
        obtain ⟨hr9, hlt9, ht9⟩ := am_ob_c hob h6
        have he := am_ws_get (cy := cy) (B0 := B0) (b := b) (M := M) hlt9 ht9
        unfold am_ce at he
        rw [if_pos h6] at he
        have hrc := va_recv hF.2.1 hH.1 (am_cl6 h6) he
        have hPS := am_pre (as := am_A r9 :: as') hF hH hS hsz rfl
        have had : am_cv B0 b (am_A r9) = .ref (B0 + am_ix r9) := by
          show va_rf (some (am_ad B0 b r9)) = _
          rw [am_ad_of hr9]; rfl
        have hlen' : as'.length = n - 1 := by simp only [List.length_cons] at hre; omega
        have h3 : vx_Run p l e R s m args below meth c H locs cells slots (am_qc r.2.1 - am_qc E) (am_qs r.2.1 - am_qs E) (F0 m pc lsC (st.map (am_cv B0 b))) (rest.map (am_cv B0 b)) (am_Qc dC dI cy B0 b L xs r (Value.ref (B0 + am_ix r9) :: as'.map (am_cv B0 b)).toArray) (am_XC dC dI cy B0 b L xs r) (fun q => B0 ≤ q) :=
          vx_runV (n := n - 1) (C := am_cn (am_mt t').2.1) (b := B0 + am_ix r9) (As := as'.map (am_cv B0 b)) hFix hC' ⟨am_callB hF g1 g2 hrk hRf hRl g4 (hts _ (am_in_p g5 rfl)) (by rw [if_neg (by rw [g3]; decide), hnn]), hts _ a2, hts _ a3'⟩ ⟨hPS.1, hrc, by
            have h := hPS.2
            rw [List.map_cons, had] at h
            exact h⟩ rfl (by rw [List.length_map]; exact hlen') hls (by
            show st.map (am_cv B0 b) = _
            rw [hstk, List.map_cons, had, List.reverse_cons, List.append_assoc]; rfl) (hW _ _ _) hd hfit
        exact h3
      · obtain ⟨pp, hmr⟩ := am_ml_i hml'
        refine ⟨hl, ?_⟩
        subst hl
        simp only [am_mrB, Bool.and_eq_true, decide_eq_true_eq, bne_iff_ne, beq_iff_eq, Bool.not_eq_true'] at hmr
        obtain ⟨⟨⟨⟨⟨⟨g1, g2⟩, g3⟩, g4⟩, g6⟩, g7⟩, g5⟩ := hmr
        have hC' := hC hrk g1 g2 hre hm2 hxp
        obtain ⟨a1, a2, a3, a4, a5, a6, a7, a8, a9⟩ := am_mt_i g1 g2
        rw [if_neg (by rw [g3]; decide)] at a2
        have h6 : (am_mt t').2.1 < 6 := by
          have h1 := List.all_eq_true.mp am_mt_ok t' (List.mem_range.mpr g1)
          simp only [am_mtB, Bool.and_eq_true, Bool.or_eq_true, beq_iff_eq, decide_eq_true_eq] at h1
          rcases h1 with h1 | h1
          · exact absurd h1 g2
          · rcases h1.2 with h1 | h1
            · exact h1
            · rw [g3] at h1; cases h1
        obtain ⟨hr9, hlt9, ht9⟩ := am_ob_c hob h6
        have hPS := am_pre (as := am_A r9 :: as') hF hH hS hsz rfl
        have had : am_cv B0 b (am_A r9) = .ref (B0 + am_ix r9) := by
          show va_rf (some (am_ad B0 b r9)) = _
          rw [am_ad_of hr9]; rfl
        have hlen' : as'.length = n - 1 := by simp only [List.length_cons] at hre; omega
        have hcb := am_callB (E := E) (r := r) (args := args) hF g1 g2 hrk hRf hRl g4 (hts _ (am_in_p g5 rfl)) (n := n - 1) (by rw [if_neg (by rw [g3]; decide), hnn])
        rw [g7] at hcb
        have h3 : vx_Run p l e R s m args below meth c H locs cells slots (am_qc r.2.1 - am_qc E) (am_qs r.2.1 - am_qs E) (F0 m pc lsC (st.map (am_cv B0 b))) (rest.map (am_cv B0 b)) (am_Qc dC dI cy B0 b L xs r (Value.ref (B0 + am_ix r9) :: as'.map (am_cv B0 b)).toArray) (am_XC dC dI cy B0 b L xs r) (fun q => B0 ≤ q) :=
          vx_runI (n := n - 1) (b := B0 + am_ix r9) (As := as'.map (am_cv B0 b)) hFix hC' ⟨hcb, g6, hts _ a2⟩ (by
            have h := hPS
            rw [List.map_cons, had] at h
            exact h) rfl (by rw [List.length_map]; exact hlen') hls (by
            show st.map (am_cv B0 b) = _
            rw [hstk, List.map_cons, had, List.reverse_cons, List.append_assoc]; rfl) (hW _ _ _) hd hfit
        exact h3
    · cases hs
end AMC
