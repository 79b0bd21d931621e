/-! ===== a method's run ===== -/
theorem am_cn_ok {k : Nat} (hk : k < 229) : am_gn (am_mt k).1 = am_cn (am_mt k).2.1 := by
  unfold am_mt
  split
  · rename_i t ht
    have := List.all_eq_true.mp am_mts_ok t (List.mem_of_getElem? ht)
    simpa using this
  · rename_i ht
    have h2 : am_mts.length = 229 := by decide +kernel
    rw [List.getElem?_eq_none_iff] at ht
    omega
theorem am_th_i {k pc : Nat} {i : Instr} {st : List am_V} {x : Nat} (h : am_th k pc i st = some x) : ∃ idx, i = .new idx ∧ am_cl k idx = some (.inr x) ∧ st = [] ∧ (am_mt k).1 = 4 ∧ (am_mt k).2.2.2.2.2.2.1 = [] ∧ am_fetch k (pc + 3) = some (.dup, 1) ∧
    ((∃ is, am_fetch k (pc + 4) = some (.ldc is, 2) ∧ (∃ q ∈ am_strs, q.1 = RX4 ∧ q.2.1 = is) ∧ am_fetch k (pc + 6) = some (.invokespecial (am_ic x), 3) ∧ am_fetch k (pc + 9) = some (.athrow, 1)) ∨
     (∃ is, am_fetch k (pc + 4) = some (.ldc_w is, 3) ∧ (∃ q ∈ am_strs, q.1 = RX4 ∧ q.2.1 = is) ∧ am_fetch k (pc + 7) = some (.invokespecial (am_ic x), 3) ∧ am_fetch k (pc + 10) = some (.athrow, 1))) := by
  have hstr : ∀ {is : Nat}, am_strs.any (fun q => q.1 == RX4 && q.2.1 == is) = true → ∃ q ∈ am_strs, q.1 = RX4 ∧ q.2.1 = is := fun h => by
    obtain ⟨q, h1, h2⟩ := List.any_eq_true.mp h
    simp only [Bool.and_eq_true, beq_iff_eq] at h2
    exact ⟨q, h1, h2⟩
  unfold am_th at h
  split at h
  · rename_i idx
    split at h
    · rename_i x' hcl
      split at h
      · rename_i h0
        obtain ⟨g1, g2, g3, g4⟩ := h0
        split at h
        · rename_i is hf
          split at h <;> cases h
          rename_i h5
          exact ⟨idx, rfl, hcl, g1, g2, g3, g4, Or.inl ⟨is, hf, hstr h5.1, h5.2.1, h5.2.2⟩⟩
        · rename_i is hf
          split at h <;> cases h
          rename_i h5
          exact ⟨idx, rfl, hcl, g1, g2, g3, g4, Or.inr ⟨is, hf, hstr h5.1, h5.2.1, h5.2.2⟩⟩
        · cases h
      · cases h
    · cases h
  · cases h
theorem am_iv_i {k : Nat} {i : Instr} {st st' : List am_V} {E : am_E} (h : am_iv k i st E = some (.inl st')) :
    (∃ idx t r, i = .invokespecial idx ∧ am_ml k idx = some (t, 5) ∧ st = am_A r :: st' ∧ am_wt st' ≤ 8) ∨
    (∃ idx t a d rest, i = .invokestatic idx ∧ am_ml k idx = some (t, 6) ∧ st = .inl d :: .inl a :: rest ∧ st' = .inl (if a < d then d else a) :: rest ∧ am_wt rest ≤ 8) ∨
    (∃ idx t a d rest, i = .invokestatic idx ∧ am_ml k idx = some (t, 7) ∧ st = .inl d :: .inl a :: rest ∧ st' = .inl (if d < a then d else a) :: rest ∧ am_wt rest ≤ 8) := by
  unfold am_iv at h
  split at h
  · cases h
  · rename_i t hm
    split at h
    · split at h <;> cases h
      rename_i hw
      exact Or.inl ⟨_, t, _, rfl, hm, rfl, hw⟩
    · cases h
  · rename_i t hm
    split at h
    · split at h <;> cases h
      rename_i hw
      exact Or.inr (Or.inl ⟨_, t, _, _, _, rfl, hm, rfl, rfl, hw⟩)
    · cases h
  · rename_i t hm
    split at h
    · split at h <;> cases h
      rename_i hw
      exact Or.inr (Or.inr ⟨_, t, _, _, _, rfl, hm, rfl, rfl, hw⟩)
    · cases h
  · split at h <;> cases h
theorem am_L_exc {B0 b nL : Nat} {ls : List (Option am_V)} {lsC lsC' : Array Slot} {n : Nat} {v : Value} (h : am_L B0 b nL ls lsC) (hn : n < ls.length) (hf : am_lf ls n = true)
    (h' : lv_has lsC' nL ((n, v) :: (am_lp B0 b ls).filter (fun q => !(q.1 == n) && !(q.1 + 1 == n && q.2.category == 2)))) : am_L B0 b nL (ls.set n none) lsC' := by
  have hg : ∀ j w, am_g (ls.set n none) j = some w → j ≠ n ∧ am_g ls j = some w := fun j w hw => by
    rw [am_g_set hn] at hw
    by_cases hjn : j = n
    · rw [if_pos hjn] at hw
      cases hw
    · rw [if_neg hjn] at hw
      exact ⟨hjn, hw⟩
  refine ⟨by rw [List.length_set]; exact h.1, ⟨h'.1, h'.2.1, fun q hq => ?_⟩, fun j w hw => h.2.2 j w (hg j w hw).2⟩
  obtain ⟨j, w, hj, rfl⟩ := am_lp_mem.mp hq
  obtain ⟨hjn, hj⟩ := hg j w hj
  refine h'.2.2 _ (List.mem_cons_of_mem _ (List.mem_filter.mpr ⟨am_lp_mem.mpr ⟨j, w, hj, rfl⟩, ?_⟩))
  have : ¬ j + 1 = n ∨ ¬ (am_cv B0 b w).category = 2 := by
    by_cases h1 : j + 1 = n
    · exact Or.inr (by rw [am_cat_cv, am_lf_i hf h1 hj]; decide)
    · exact Or.inl h1
  simpa [hjn] using this
section AMX
variable {dC : Nat → ClassId} {dI : Nat → Nat → Nat} {cy : Nat → ClassId} {B0 b L : Nat} {xs : Nat → Int32}
variable {p : Program} {l : Launch} {e : Env} {R : Room} {s : State} {m : MethodId} {args : Array Value} {below : List Frame} {meth : Method} {c : Code} {Q : State → Prop}
variable {k nL : Nat}
/-- caught: on behind the handler's store -/
theorem am_W_catch {H : Heap} {locs : List Loc} {cells slots pc : Nat} {lsC : Array Slot} {ls : List (Option am_V)} (hk : k < 229) (hx : p.tables.exec = Jvm.exec) (hb : c.code = (am_mt k).2.2.2.1) (hown : s.vm.findClass (am_gn (am_mt k).1) = some m.cls) (hF : am_F dC dI cy B0 b L xs s) (htb : (am_mt k).2.2.2.2.2.2.1 ≠ [] → c.exceptionTable.toList = tableOf (am_mt k).2.2.2.2.2.2.1)
    {x pc' nl : Nat} (hx3 : x < 3) (hc : am_hc k pc x = some (pc', nl)) (hn1 : nl < ls.length) (hn2 : am_lf ls nl = true) (hL : am_L B0 b nL ls lsC) {q : Addr} {ce : Cell} {rest : List Value} (hcell : H[q]? = some ce) (hv : ce.vm = .none) (hcl : s.vm.findClass (am_xn x) = some ce.cls)
    (kk : ∀ lsC', am_L B0 b nL (ls.set nl none) lsC' → W p l e R s m args below meth c H locs cells slots Q (F0 m pc' lsC' [])) : vx_W p l e R s m args below meth c H locs cells slots Q (F0 m pc lsC rest) q := by
  have hts : ∀ w ∈ am_Ts, w.before args s = true := fun w h => hF.1 w h args
  have hN := hF.2.2.2.2.2.2.2.2.2.2
  unfold am_hc at hc
  split at hc
  · cases hc
  · rename_i h hh
    have htb := htb (fun h0 => by rw [h0] at hh; cases hh)
    have key : ∀ hs pre, tableOf (am_mt k).2.2.2.2.2.2.1 = pre ++ tableOf hs → (∀ z ∈ pre, covers z pc = false ∨ (z.catchType ≠ 0 ∧ ∃ nm : String, (Cond.classLink (am_gn (am_mt k).1) z.catchType nm).before args s = true ∧ va_Nc (am_xn x) nm s)) → am_hd k pc x hs = some h →
        (∀ lsC', am_L B0 b nL (ls.set nl none) lsC' → W p l e R s m args below meth c H locs cells slots Q (F0 m pc' lsC' [])) → vx_W p l e R s m args below meth c H locs cells slots Q (F0 m pc lsC rest) q := by
      intro hs
      induction hs with
      | nil => intro pre _ _ h0; cases h0
      | cons a t ih =>
        intro pre hp hpre h0 kk
        unfold am_hd at h0
        have hp2 : tableOf (am_mt k).2.2.2.2.2.2.1 = (pre ++ [⟨a.1, a.2.1, a.2.2.1, a.2.2.2⟩]) ++ tableOf t := by rw [hp, List.append_assoc]; rfl
        split at h0
        · rename_i hcov
          split at h0
          · rename_i x' hx'
            obtain ⟨y3, hlk⟩ := am_cl_x hx'
            have hne0 : a.2.2.2 ≠ 0 := fun h => by
              rw [h] at hx'
              revert hx'
              unfold am_cl
              have h9 : ∀ g, am_cr.lookup (g, 0) = none := by
                intro g
                cases hq : am_cr.lookup (g, 0) with
                | none => rfl
                | some v =>
                  have := List.all_eq_true.mp (show am_cr.all (fun e => e.1.2 != 0) = true by decide +kernel) _ (am_lk hq)
                  simp at this
              rw [h9]
              intro h; cases h
            split at h0
            · rename_i hxx
              cases h0
              subst hxx
              obtain ⟨e1, e2, e3, e4⟩ := am_exw x' y3
              have hkk : W p l e R s m args below meth c H locs cells slots Q (F0 m a.2.2.1 lsC [.ref q]) := by
                split at hc
                · rename_i n hf
                  cases hc
                  have hd := am_fetch_i hk hf
                  exact lv_astore hx hb hd hL.2.1 (by have := hL.1; omega) rfl (fun lsC' h' => kk lsC' (am_L_exc hL hn1 hn2 h'))
                · rename_i n hf
                  cases hc
                  have hd := am_fetch_i hk hf
                  exact lv_astore_n hx hb hd rfl hL.2.1 (by have := hL.1; omega) rfl (fun lsC' h' => kk lsC' (am_L_exc hL hn1 hn2 h'))
                · cases hc
              exact vx_catch hown pre _ (tableOf t) (by rw [htb, hp]; rfl) hpre (by simp [covers, hcov]) hne0 (hts _ hlk) (hts _ e3) hcell hv hcl hkk
            · rename_i hxx
              refine ih _ hp2 (fun z hz => ?_) h0 kk
              rcases List.mem_append.mp hz with hz | hz
              · exact hpre z hz
              · rw [List.mem_singleton.mp hz]
                exact Or.inr ⟨hne0, am_xn x', hts _ hlk, hN x x' hx3 y3 (Ne.symm hxx)⟩
          · cases h0
        · rename_i hcov
          refine ih _ hp2 (fun z hz => ?_) h0 kk
          rcases List.mem_append.mp hz with hz | hz
          · exact hpre z hz
          · rw [List.mem_singleton.mp hz]
            refine Or.inl ?_
            simp only [covers, Bool.and_eq_false_iff, decide_eq_false_iff_not]
            omega
    exact key _ [] rfl (fun z hz => by cases hz) hh kk
/-- from the abstract machine's run to the machine's -/
theorem am_W_run (hk : k < 229) (hx : p.tables.exec = Jvm.exec) (hb : c.code = (am_mt k).2.2.2.1) (hml : c.maxLocals = nL) (hown : s.vm.findClass (am_gn (am_mt k).1) = some m.cls) (hmn : (am_mt k).2.2.1.name = "<init>" → meth.name = "<init>") (hF : am_F dC dI cy B0 b L xs s) (htb : (am_mt k).2.2.2.2.2.2.1 ≠ [] → c.exceptionTable.toList = tableOf (am_mt k).2.2.2.2.2.2.1)
    {E0 : am_E} {r : am_Rs} (hRf : 10 + am_rk k ≤ R.frames) (hRl : 200 + 60 * am_rk k ≤ R.locals) (hRc : am_qc r.2.1 ≤ am_qc E0 + R.cells) (hRs : am_qs r.2.1 ≤ am_qs E0 + R.slots) (hsz0 : E0.2.1 = 0 → s.heap.size = B0 + E0.1)
    (IH : ∀ (t : Nat) (as : List am_V) (E : am_E) (M : am_M) (r' : am_Rs) (n : Nat), am_rk t < am_rk k → t < 229 → t ≠ 225 → as.length = (am_mt t).2.2.2.2.2.2.2 → (∀ v ∈ as, am_nv v) → (am_xp as).length ≤ (am_mt t).2.2.2.2.1 → am_run n t (am_en t as E M) = some r' → am_Ctr l dC dI cy B0 b L xs t as E M r')
    (hret : ∀ (pc : Nat) (i : Instr) (v : Option am_V) (st : List am_V) (lsC : Array Slot) (H : Heap) (locs : List Loc) (cells slots : Nat), am_rt k i st = some v → r.1 = .inl v → decode (am_mt k).2.2.2.1 pc = .ok (i, 1) → (∀ x ∈ st, am_nv x) → am_H dC dI cy B0 b L xs r.2.1 r.2.2 H → va_S (fun q => B0 ≤ q) s.heap H locs → cells + am_qc E0 = am_qc r.2.1 → slots + am_qs E0 = am_qs r.2.1 → W p l e R s m args below meth c H locs cells slots Q (F0 m pc lsC (st.map (am_cv B0 b))))
    (hthr : ∀ (pc : Nat) (i : Instr) (x : Nat) (E : am_E) (M : am_M) (lsC : Array Slot) (H : Heap) (locs : List Loc) (cells slots : Nat), am_th k pc i [] = some x → am_fetch k pc = some (i, 3) → r = (.inr x, am_xE E, M) → lsC.size = nL → am_H dC dI cy B0 b L xs E M H → va_S (fun q => B0 ≤ q) s.heap H locs → cells + am_qc E0 = am_qc E → slots + am_qs E0 = am_qs E → W p l e R s m args below meth c H locs cells slots Q (F0 m pc lsC []))
    (hexc : ∀ (pc x : Nat) (ce : Cell) (q : Addr) (rest : List Value) (lsC : Array Slot) (H : Heap) (locs : List Loc) (cells slots : Nat), r.1 = .inr x → (am_mt k).2.2.2.2.2.2.1 = [] → x < 3 → am_H dC dI cy B0 b L xs r.2.1 r.2.2 H → va_S (fun q => B0 ≤ q) s.heap H locs → cells + am_qc E0 = am_qc r.2.1 → slots + am_qs E0 = am_qs r.2.1 → H[q]? = some ce → ce.vm = .none → s.vm.findClass (am_xn x) = some ce.cls → vx_W p l e R s m args below meth c H locs cells slots Q (F0 m pc lsC rest) q) :
    ∀ (n pc : Nat) (ls : List (Option am_V)) (st : List am_V) (E : am_E) (M : am_M) (lsC : Array Slot) (H : Heap) (locs : List Loc) (cells slots : Nat), am_run n k (pc, ls, st, E, M) = some r → am_L B0 b nL ls lsC → (∀ v ∈ st, am_nv v) → am_H dC dI cy B0 b L xs E M H → va_S (fun q => B0 ≤ q) s.heap H locs → cells + am_qc E0 = am_qc E → slots + am_qs E0 = am_qs E → am_leE E0 E →
      W p l e R s m args below meth c H locs cells slots Q (F0 m pc lsC (st.map (am_cv B0 b))) := by
  intro n
  induction n with
  | zero => intro pc ls st E M lsC H locs cells slots h; cases h
  | succ n ih =>
    intro pc ls st E M lsC H locs cells slots h hL hn hH hS hc hs hE
    have hgn := am_cn_ok hk
    have hle := am_run_le _ _ _ _ h
    dsimp only at hle
    have hts : ∀ w ∈ am_Ts, w.before args s = true := fun w h => hF.1 w h args
    have hfr : ∀ {q : Nat}, s.heap.size ≤ q → B0 ≤ q := fun h => Nat.le_trans hF.2.2.2.2.1 h
    have hBH : B0 ≤ H.size := Nat.le_trans hF.2.2.2.2.1 hS.1
    refine am_know (fun hkn => ?_)
    have hsz : E.2.1 = 0 → H.size = B0 + E.1 := fun h0 => by
      have h1 : E0.2.1 = 0 := by have := hE.2; omega
      have h2 := hsz0 h1
      have h3 := am_H_lo hH hBH
      unfold am_qc at hc
      omega
    have hqc := am_qc_m hle
    have hqs := am_qs_m hle
    unfold am_run at h
    split at h
    · cases h
    · rename_i c' hst
      obtain ⟨i, len, hf, hst⟩ := am_stp_i hst
      dsimp only at hf hst
      have hd := am_fetch_i hk hf
      have hle' := am_run_le _ _ _ _ h
      rcases hst with ⟨t, st', hj, hst⟩ | ⟨hl, ⟨st', hj, hst⟩ | ⟨v, hj, hst⟩ | ⟨ls', st', hj, hst⟩ | ⟨st', hj, hst⟩ | ⟨st', E', M', hj, hst⟩ | ⟨st', E', M', hj, hst⟩ | ⟨v, hj, hst⟩ | ⟨st', hj, hst⟩ | ⟨t, hj, hst⟩ | ⟨x, hj, hst⟩⟩ <;> cases hst
      · exact am_W_jp hx hb hd hj hn (fun hn' => ih _ _ _ _ _ _ _ _ _ _ h hL hn' hH hS hc hs hE)
      · exact am_W_op hx hb hd hl hj hn (fun hn' => ih _ _ _ _ _ _ _ _ _ _ h hL hn' hH hS hc hs hE)
      · exact am_W_ld hx hb hL hd hl hj hn (fun hn' => ih _ _ _ _ _ _ _ _ _ _ h hL hn' hH hS hc hs hE)
      · exact am_W_st hx hb hL hd hl hj hn (fun hn' lsC' hL' => ih _ _ _ _ _ _ _ _ _ _ h hL' hn' hH hS hc hs hE)
      · exact am_W_rd hx hb hF hown hH hS hd hl hj hn (fun hn' => ih _ _ _ _ _ _ _ _ _ _ h hL hn' hH hS hc hs hE)
      · have e1 := am_wr_E hj
        have e2 : am_qc E' = am_qc E := by unfold am_qc; rw [e1.1, e1.2]
        have e3 : am_qs E' = am_qs E := by unfold am_qs; rw [e1.1, e1.2]
        exact am_W_wr hx hb hF hown hgn hmn hH hS hd hl hj hn (fun hn' H1 locs1 hH' hS' => ih _ _ _ _ _ _ _ _ _ _ h hL hn' hH' hS' (by rw [e2]; exact hc) (by rw [e3]; exact hs) ⟨by rw [e1.1]; exact hE.1, by rw [e1.2]; exact hE.2⟩)
      · have e1 := am_mk_E hj
        dsimp only at hle'
        have q1 := am_qc_m hle'
        have q2 := am_qs_m hle'
        have e2 : am_qc E' = am_qc E + 1 := by unfold am_qc; rw [e1.1, e1.2]; omega
        have e3 : ∀ t, am_tab[E.1]? = some t → am_qs E' = am_qs E + t.2.2 := fun t ht => by unfold am_qs; rw [e1.1, e1.2, am_qt_s ht]; omega
        exact am_W_mk hx hb hF hown hH hS hsz hd hl hj hn (by omega) (fun t ht => by have := e3 t ht; omega) (fun hn' H1 hH' hS' t ht _ _ => ih _ _ _ _ _ _ _ _ _ _ h hL hn' hH' hS' (by omega) (by have := e3 t ht; omega) ⟨by have := hE.1; omega, by have := hE.2; omega⟩)
      · have h8 := am_iv_i hj
        rcases h8 with ⟨idx, t, r9, rfl, hm, rfl, hw⟩ | ⟨idx, t, a, d, rest, rfl, hm, rfl, rfl, hw⟩ | ⟨idx, t, a, d, rest, rfl, hm, rfl, rfl, hw⟩
        · subst hl
          obtain ⟨pp, hmr⟩ := am_ml_i hm
          simp only [am_mrB, decide_eq_true_eq] at hmr
          exact W.objInit hx hb hown (hts _ (am_in_p hmr rfl)) (hts _ am_obj.1) (hts _ am_obj.2) rfl (by show lsC.size = c.maxLocals; rw [hml]; exact hL.2.1.1) rfl hd (by omega) (by
            have hm0 : (F0 m pc lsC ((am_A r9 :: st').map (am_cv B0 b))).monitorRoom = 0 := rfl
            rw [hm0, am_wt_cv]; omega) (ih _ _ _ _ _ _ _ _ _ _ h hL (am_nc hn).2 hH hS hc hs hE)
        · subst hl
          obtain ⟨pp, hmr⟩ := am_ml_i hm
          simp only [am_mrB, decide_eq_true_eq] at hmr
          have ha : am_n32 a := (am_nc (am_nc hn).2).1
          have hdd : am_n32 d := (am_nc hn).1
          refine va_mmax hx hb (by rw [hml]; exact hL.2.1.1.symm) hown (hts _ (am_in_p hmr rfl)) (hts _ am_mxw.1.1) (hts _ am_mxw.2.2) (hts _ am_mxw.1.2) (by omega) (by rw [am_wt_cv]; omega) (by omega) (by omega) hd ?_
          have e9 : (if Int32.ofInt a < Int32.ofInt d then Int32.ofInt d else Int32.ofInt a) = Int32.ofInt (if a < d then d else a) := by
            simp only [am_lt ha hdd]
            split <;> rfl
          rw [e9]
          exact ih _ _ _ _ _ _ _ _ _ _ h hL (am_ncc (by show am_n32 _; split <;> assumption) (am_nc (am_nc hn).2).2) hH hS hc hs hE
        · subst hl
          obtain ⟨pp, hmr⟩ := am_ml_i hm
          simp only [am_mrB, decide_eq_true_eq] at hmr
          have ha : am_n32 a := (am_nc (am_nc hn).2).1
          have hdd : am_n32 d := (am_nc hn).1
          refine va_mmin hx hb (by rw [hml]; exact hL.2.1.1.symm) hown (hts _ (am_in_p hmr rfl)) (hts _ am_mxw.2.1.1) (hts _ am_mxw.2.2) (hts _ am_mxw.2.1.2) (by omega) (by rw [am_wt_cv]; omega) (by omega) (by omega) hd ?_
          have e9 : (if Int32.ofInt d < Int32.ofInt a then Int32.ofInt d else Int32.ofInt a) = Int32.ofInt (if d < a then d else a) := by
            simp only [am_lt hdd ha]
            split <;> rfl
          rw [e9]
          exact ih _ _ _ _ _ _ _ _ _ _ h hL (am_ncc (by show am_n32 _; split <;> assumption) (am_nc (am_nc hn).2).2) hH hS hc hs hE
    · rename_i r' hst
      have h0 := Option.some.inj h
      subst h0
      obtain ⟨i, len, hf, hst⟩ := am_stp_i hst
      dsimp only at hf hst
      have hd := am_fetch_i hk hf
      rcases hst with ⟨t, st', hj, hst⟩ | ⟨hl, ⟨st', hj, hst⟩ | ⟨v, hj, hst⟩ | ⟨ls', st', hj, hst⟩ | ⟨st', hj, hst⟩ | ⟨st', E', M', hj, hst⟩ | ⟨st', E', M', hj, hst⟩ | ⟨v, hj, hst⟩ | ⟨st', hj, hst⟩ | ⟨t, hj, hst⟩ | ⟨x, hj, hst⟩⟩ <;> cases hst
      · have hl1 : len = 1 := by
          rw [hl]
          unfold am_rt at hj
          split at hj <;> first | rfl | cases hj
        subst hl1
        exact hret pc i v st lsC H locs cells slots hj rfl hd hn hH hS hc hs
      · have h9 := am_th_i hj
        obtain ⟨idx, rfl, -, hst0, -⟩ := h9
        subst hst0
        subst hl
        exact hthr pc _ x E M lsC H locs cells slots hj hf rfl hL.2.1.1 hH hS hc hs
    · rename_i t as rest hst
      obtain ⟨i, len, hf, hst⟩ := am_stp_i hst
      dsimp only at hf hst
      have hd := am_fetch_i hk hf
      rcases hst with ⟨t', st', hj, hst⟩ | ⟨hl, ⟨st', hj, hst⟩ | ⟨v, hj, hst⟩ | ⟨ls', st', hj, hst⟩ | ⟨st', hj, hst⟩ | ⟨st', E', M', hj, hst⟩ | ⟨st', E', M', hj, hst⟩ | ⟨v, hj, hst⟩ | ⟨st', hj, hst⟩ | ⟨t', hj, hst⟩ | ⟨x, hj, hst⟩⟩ <;> cases hst
      have hcall : ∀ (r1 : am_Rs), am_run n t (am_en t as E M) = some r1 → am_leE r1.2.1 r.2.1 →
          (∀ x ∈ rest, x ∈ st) ∧ (∀ x ∈ as, x ∈ st) ∧ len = 3 ∧ am_qc E ≤ am_qc r1.2.1 ∧ am_qs E ≤ am_qs r1.2.1 ∧ vx_Run p l e R s m args below meth c H locs cells slots (am_qc r1.2.1 - am_qc E) (am_qs r1.2.1 - am_qs E) (F0 m pc lsC (st.map (am_cv B0 b))) (rest.map (am_cv B0 b)) (am_Qc dC dI cy B0 b L xs r1 #[]) (am_XC dC dI cy B0 b L xs r1) (fun q => B0 ≤ q) := by
        intro r1 hr1 hle1
        have g1 := am_run_le _ _ _ _ hr1
        have g2 := am_qc_m g1
        have g3 := am_qs_m g1
        have g4 := am_qc_m hle1
        have g5 := am_qs_m hle1
        have g2' : am_qc E ≤ am_qc r1.2.1 := g2
        have g3' : am_qs E ≤ am_qs r1.2.1 := g3
        have h9 := am_W_iv (args := args) (r := r1) (cells := cells) (slots := slots) (p := p) (e := e) (below := below) (meth := meth) (l := l) hk hx hb hml hL.2.1.1 hF hown hH hS hsz hRf hRl hd hl hj ⟨by omega, by omega⟩ (fun q1 q2 q3 q4 q5 q6 => IH t as E M r1 n q1 q2 q3 q4 (fun v hv => hn v (q5 v hv)) q6 hr1)
        exact ⟨h9.1, h9.2.1, h9.2.2.1, g2', g3', h9.2.2.2⟩
      split at h
      · cases h
      · rename_i v E1 M1 hr
        obtain ⟨hm1, hm2, hl3, g2, g3, hrun⟩ := hcall _ hr (am_run_le _ _ _ _ h)
        dsimp only at g2 g3
        subst hl3
        intro T hT X
        have g1 := am_run_le _ _ _ _ hr
        rcases hrun T hT X with ⟨v', st₀, t', T', Lc, h0, X', hLc, e1, e2, ⟨⟨v2, hv1, hv2, hv3⟩, hH', hF'⟩, stp⟩ | ⟨q, st₀, t', T', Lc, X9, ce, h0, X', hLc, e1, e2, ⟨⟨x, hx1, -⟩, -⟩, -⟩
        · cases hv1
          cases hv2
          obtain ⟨k1, k2, k3⟩ := vx_keep (A0 := fun q => B0 ≤ q) (A1 := fun q => B0 ≤ q) (free := fun q => B0 ≤ q) h0 e1 hS (fun q _ h => h) (fun q h => h) hLc hF'
          have hW := ih (pc + 3) ls (am_ol v ++ rest) E1 M1 lsC T'.heap (locs ++ Lc) (cells + (am_qc E1 - am_qc E)) (slots + (am_qs E1 - am_qs E)) h hL (fun x hx => by
            rcases List.mem_append.mp hx with hx | hx
            · exact hv3 x hx
            · exact hn x (hm1 x hx)) (by rw [e1]; exact hH') k3 (by first | omega | (dsimp only; omega)) (by first | omega | (dsimp only; omega)) ⟨Nat.le_trans hE.1 g1.1, Nat.le_trans hE.2 g1.2⟩
          obtain ⟨t2, a1, b1⟩ := hW T' rfl X'
          refine ⟨t2, stp t2 ?_, b1⟩
          rw [am_cv_ol]
          exact a1
        · cases hx1
      · rename_i x E1 M1 hr
        split at h
        · rename_i hhc
          split at h
          · rename_i hh0
            cases h
            obtain ⟨hm1, hm2, hl3, g2, g3, hrun⟩ := hcall _ hr ⟨Nat.le_refl _, Nat.le_refl _⟩
            dsimp only at g2 g3
            intro T hT X
            rcases hrun T hT X with ⟨v', st₀, t', T', Lc, h0, X', hLc, e1, e2, ⟨⟨v2, hv1, -⟩, -⟩, -⟩ | ⟨q, st₀, t', T', Lc, X9, ce, h0, X', hLc, e1, e2, ⟨⟨x', hx1, rfl, hx3⟩, hH', hF'⟩, hce, hcv, hcl, stp⟩
            · cases hv1
            · cases hx1
              obtain ⟨k1, k2, k3⟩ := vx_keep (A0 := fun q => B0 ≤ q) (A1 := fun q => B0 ≤ q) (free := fun q => B0 ≤ q) h0 e1 hS (fun q _ h => h) (fun q h => h) hLc hF'
              obtain ⟨t2, a1, b1⟩ := hexc pc x ce q (rest.map (am_cv B0 b)) lsC T'.heap (locs ++ Lc) (cells + (am_qc E1 - am_qc E)) (slots + (am_qs E1 - am_qs E)) rfl hh0 hx3 (by rw [e1]; exact hH') k3 (by first | omega | (dsimp only; omega)) (by first | omega | (dsimp only; omega)) (by rw [e1]; exact hce) hcv hcl T' rfl X'
              exact ⟨t2, stp.trans a1, b1⟩
          · cases h
        · rename_i pc' nl hhc
          split at h
          · rename_i hcond
            obtain ⟨hm1, hm2, hl3, g2, g3, hrun⟩ := hcall _ hr (am_run_le _ _ _ _ h)
            dsimp only at g2 g3
            have g1 := am_run_le _ _ _ _ hr
            intro T hT X
            rcases hrun T hT X with ⟨v', st₀, t', T', Lc, h0, X', hLc, e1, e2, ⟨⟨v2, hv1, -⟩, -⟩, -⟩ | ⟨q, st₀, t', T', Lc, X9, ce, h0, X', hLc, e1, e2, ⟨⟨x', hx1, rfl, hx3⟩, hH', hF'⟩, hce, hcv, hcl, stp⟩
            · cases hv1
            · cases hx1
              obtain ⟨k1, k2, k3⟩ := vx_keep (A0 := fun q => B0 ≤ q) (A1 := fun q => B0 ≤ q) (free := fun q => B0 ≤ q) h0 e1 hS (fun q _ h => h) (fun q h => h) hLc hF'
              obtain ⟨t2, a1, b1⟩ := am_W_catch (rest := rest.map (am_cv B0 b)) (Q := Q) hk hx hb hown hF htb hx3 hhc hcond.1 hcond.2 hL (by rw [e1]; exact hce) hcv hcl (fun lsC' hL' => ih pc' _ [] E1 M1 lsC' T'.heap (locs ++ Lc) (cells + (am_qc E1 - am_qc E)) (slots + (am_qs E1 - am_qs E)) h hL' (fun v hv => by cases hv) (by rw [e1]; exact hH') k3 (by first | omega | (dsimp only; omega)) (by first | omega | (dsimp only; omega)) ⟨Nat.le_trans hE.1 g1.1, Nat.le_trans hE.2 g1.2⟩) T' rfl X'
              exact ⟨t2, stp.trans a1, b1⟩
          · cases h
end AMX
