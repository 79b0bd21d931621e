/-! ===== every method keeps its contract ===== -/
theorem am_g_app {l1 l2 : List (Option am_V)} {j : Nat} : am_g (l1 ++ l2) j = if j < l1.length then am_g l1 j else am_g l2 (j - l1.length) := by
  unfold am_g
  by_cases h : j < l1.length
  · rw [if_pos h, List.getElem?_append_left h]
  · rw [if_neg h, List.getElem?_append_right (by omega)]
theorem am_xp_at {B0 b : Nat} {as : List am_V} : ∀ {i j : Nat} {v : am_V}, am_g (am_xp as) j = some v → (i + j, am_cv B0 b v) ∈ lv_args i (as.map (am_cv B0 b)) ∧ v ∈ as := by
  induction as with
  | nil => intro i j v h; unfold am_g am_xp at h; simp at h
  | cons a t ih =>
    intro i j v h
    unfold am_xp at h
    rw [List.map_cons]
    unfold lv_args
    rw [am_cat_cv]
    by_cases hc : am_cat a = 2
    · rw [if_pos hc] at h
      rw [if_pos hc]
      match j, h with
      | 0, h =>
        cases h
        exact ⟨List.mem_cons_self, List.mem_cons_self⟩
      | 1, h => cases h
      | j + 2, h =>
        have h1 : am_g (am_xp t) j = some v := h
        obtain ⟨h2, h3⟩ := ih (i := i + 2) h1
        exact ⟨List.mem_cons_of_mem _ (by rw [show i + (j + 2) = i + 2 + j by omega]; exact h2), List.mem_cons_of_mem _ h3⟩
    · rw [if_neg hc] at h
      rw [if_neg hc]
      match j, h with
      | 0, h =>
        cases h
        exact ⟨List.mem_cons_self, List.mem_cons_self⟩
      | j + 1, h =>
        have h1 : am_g (am_xp t) j = some v := h
        obtain ⟨h2, h3⟩ := ih (i := i + 1) h1
        exact ⟨List.mem_cons_of_mem _ (by rw [show i + (j + 1) = i + 1 + j by omega]; exact h2), List.mem_cons_of_mem _ h3⟩
theorem am_xp_len {B0 b : Nat} {as : List am_V} : (lg_sl (as.map (am_cv B0 b))).length = (am_xp as).length := by
  induction as with
  | nil => rfl
  | cons a t ih =>
    unfold lg_sl at ih ⊢
    rw [List.map_cons, List.flatMap_cons, List.length_append, ih, am_cat_cv]
    have e : am_xp (a :: t) = if am_cat a = 2 then some a :: none :: am_xp t else some a :: am_xp t := rfl
    rw [e]
    by_cases hc : am_cat a = 2
    · rw [if_pos hc, if_pos hc]; simp only [List.length_cons, List.length_nil]; omega
    · rw [if_neg hc, if_neg hc]; simp only [List.length_cons, List.length_nil]; omega
theorem am_L_entry {B0 b nL : Nat} {as : List am_V} (h : (am_xp as).length ≤ nL) (hn : ∀ v ∈ as, am_nv v) : am_L B0 b nL (am_el nL as) ((lg_sl (as.map (am_cv B0 b)) ++ List.replicate (nL - (lg_sl (as.map (am_cv B0 b))).length) Slot.unset).toArray) := by
  have hl := lv_entry (as.map (am_cv B0 b)) (n := nL) (by rw [am_xp_len]; exact h)
  have hg : ∀ j v, am_g (am_el nL as) j = some v → am_g (am_xp as) j = some v := fun j v hj => by
    unfold am_el at hj
    rw [am_g_app] at hj
    by_cases hjl : j < (am_xp as).length
    · rwa [if_pos hjl] at hj
    · rw [if_neg hjl] at hj
      unfold am_g at hj
      split at hj
      · rename_i x hx
        rw [List.getElem?_replicate] at hx
        split at hx <;> cases hx
        cases hj
      · cases hj
  refine ⟨?_, ⟨hl.1, hl.2.1, fun q hq => ?_⟩, fun j v hj => hn v (am_xp_at (B0 := B0) (b := b) (i := 0) (hg j v hj)).2⟩
  · unfold am_el
    rw [List.length_append, List.length_replicate]
    omega
  · obtain ⟨j, v, hj, rfl⟩ := am_lp_mem.mp hq
    have h1 := (am_xp_at (B0 := B0) (b := b) (i := 0) (hg j v hj)).1
    rw [Nat.zero_add] at h1
    exact hl.2.2 _ h1
section AMZ
variable {dC : Nat → ClassId} {dI : Nat → Nat → Nat} {cy : Nat → ClassId} {B0 b L : Nat} {xs : Nat → Int32}
/-- a method's return, as its contract has it -/
theorem am_end {p : Program} {l : Launch} {e : Env} {R : Room} {s : State} {m : MethodId} {args : Array Value} {below : List Frame} {meth : Method} {c : Code} {k : Nat} {r : am_Rs} {E0 : am_E}
    (hx : p.tables.exec = Jvm.exec) (hb : c.code = (am_mt k).2.2.2.1) (hrt : meth.sig.returnType = (am_mt k).2.2.2.2.2.1) (hlocks : meth.locks = false)
    {pc : Nat} {i : Instr} {v : Option am_V} {st : List am_V} {lsC : Array Slot} {H : Heap} {locs : List Loc} {cells slots : Nat} (hj : am_rt k i st = some v) (hr : r.1 = .inl v) (hd : decode (am_mt k).2.2.2.1 pc = .ok (i, 1)) (hn : ∀ x ∈ st, am_nv x) (hH : am_H dC dI cy B0 b L xs r.2.1 r.2.2 H) (hS : va_S (fun q => B0 ≤ q) s.heap H locs) (hc : cells = am_qc r.2.1 - am_qc E0) (hs : slots = am_qs r.2.1 - am_qs E0) :
    W p l e R s m args below meth c H locs cells slots (vx_MQ below (am_Qc dC dI cy B0 b L xs r) (am_XC dC dI cy B0 b L xs r) args s (am_qc r.2.1 - am_qc E0) (am_qs r.2.1 - am_qs E0) (fun q => B0 ≤ q)) (F0 m pc lsC (st.map (am_cv B0 b))) := by
  subst hc; subst hs
  refine vx_ret ?_
  have hQ : ∀ (t : State) (o : Outcome), t.heap = H → o = .returned (v.map (am_cv B0 b)) → (∀ x ∈ am_ol v, am_nv x) → am_Qc dC dI cy B0 b L xs r args s o t := fun t o ht ho hv => ⟨⟨v, hr, ho, hv⟩, by rw [ht]; exact hH, hS.F ht⟩
  have hf : ∀ q ∈ locs, B0 ≤ q.base := hS.2.2
  unfold am_rt at hj
  split at hj
  · split at hj
    · rename_i _ z
      split at hj <;> cases hj
      rename_i hok
      have hz : am_n32 z := hn _ List.mem_cons_self
      have hol : ∀ x ∈ am_ol (some (.inl z)), am_nv x := fun x hx => by rw [List.mem_singleton.mp hx]; exact hz
      cases hty : (am_mt k).2.2.2.2.2.1 with
      | none => rw [hty] at hok; cases hok
      | some ty =>
        rw [hty] at hok hrt
        refine W.zret (ty := ty) hx hb hrt ?_ (fun t ht _ => hQ t _ ht rfl hol) hf hd hlocks
        cases ty with
        | int => rfl
        | boolean =>
          have h0 : z = 0 ∨ z = 1 := by simpa [am_rok] using hok
          have := am_nar_z h0
          rcases h0 with rfl | rfl <;> rfl
        | char =>
          have h0 : 0 ≤ z ∧ z < 65536 := by simpa [am_rok] using hok
          have h1 := am_nar_c h0.1 h0.2
          rw [vp_nar_char] at h1
          show Value.int _ = _
          rw [h1]
        | _ => simp [am_rok] at hok
    · cases hj
  · split at hj
    · rename_i _ z
      split at hj <;> cases hj
      rename_i hok
      have hz : am_n64 z := hn _ List.mem_cons_self
      have hol : ∀ x ∈ am_ol (some (.inr (.inl z))), am_nv x := fun x hx => by rw [List.mem_singleton.mp hx]; exact hz
      cases hty : (am_mt k).2.2.2.2.2.1 with
      | none => rw [hty] at hok; cases hok
      | some ty =>
        rw [hty] at hok hrt
        cases ty with
        | long => exact W.lret hx hb hrt (fun t ht _ => hQ t _ ht rfl hol) hf hd hlocks
        | _ => simp [am_rok] at hok
    · cases hj
  · split at hj
    · rename_i _ q
      split at hj <;> cases hj
      rename_i hok
      have hol : ∀ x ∈ am_ol (some (.inr (.inr q))), am_nv x := fun x hx => by rw [List.mem_singleton.mp hx]; trivial
      cases hty : (am_mt k).2.2.2.2.2.1 with
      | none => rw [hty] at hok; cases hok
      | some ty =>
        rw [hty] at hok hrt
        cases ty with
        | object n => exact W.aret hx hb hrt (Or.inl ⟨n, rfl⟩) (va_rf_or _) (fun t ht _ => hQ t _ ht rfl hol) hf hd hlocks
        | _ => simp [am_rok] at hok
    · cases hj
  · split at hj
    · split at hj <;> cases hj
      rename_i hok
      rw [hok] at hrt
      exact W.vret hx hb hrt (fun t ht _ => hQ t _ ht rfl (fun x hx => by cases hx)) hf hd hlocks
    · cases hj
  · cases hj
theorem am_body {l : Launch} (hl : l.stackTraces = false) {k : Nat} (hk : k < 229) (h225 : k ≠ 225)
    (IH : ∀ (t : Nat) (as : List am_V) (E : am_E) (M : am_M) (r' : am_Rs) (n : Nat), am_rk t < am_rk k → t < 229 → t ≠ 225 → as.length = (am_mt t).2.2.2.2.2.2.2 → (∀ v ∈ as, am_nv v) → (am_xp as).length ≤ (am_mt t).2.2.2.2.1 → am_run n t (am_en t as E M) = some r' → am_Ctr l dC dI cy B0 b L xs t as E M r')
    {as : List am_V} {E : am_E} {M : am_M} {r : am_Rs} {n : Nat} (hnv : ∀ v ∈ as, am_nv v) (hxp : (am_xp as).length ≤ (am_mt k).2.2.2.2.1) (hrun : am_run n k (am_en k as E M) = some r) {ws : List Cond} {w1 : List Cond}
    {p : Program} {e : Env} {s : State} {m : MethodId} {args : Array Value} {below : List Frame} {meth : Method} {c : Code} {s₁ : State}
    (B : BodyLoose p l (am_mt k).2.2.1 (headSpec ws (am_rm k E r)) (am_mt k).2.2.2.1 (am_mt k).2.2.2.2.1 (am_mt k).2.2.2.2.2.1 e s m args below meth c s₁) (hml : c.maxLocals = (am_mt k).2.2.2.2.1) (htb : c.exceptionTable.toList = tableOf (am_mt k).2.2.2.2.2.2.1) (hv : am_Pc dC dI cy B0 b L xs as E M args s) :
    W p l e (am_rm k E r) s m args below meth c s.heap [] 0 0 (vx_MQ below (am_Qc dC dI cy B0 b L xs r) (am_XC dC dI cy B0 b L xs r) args s (am_qc r.2.1 - am_qc E) (am_qs r.2.1 - am_qs E) (fun q => B0 ≤ q)) (entryFrame m args (am_mt k).2.2.2.2.1) := by
  obtain ⟨rfl, hF, hH, hsz⟩ := hv
  obtain ⟨a1, a2, a3, a4, a5, a6, a7, a8, a9⟩ := am_mt_i hk h225
  have hgn := am_cn_ok hk
  have hown : s.vm.findClass (am_gn (am_mt k).1) = some m.cls := by
    rw [hgn, ← a4]; exact findClass_of_methodNamed B.named
  have hmn : meth.name = (am_mt k).2.2.1.name := (name_of_methodNamed B.named B.method).1
  have hle := am_run_le _ _ _ _ hrun
  have hqc := am_qc_m hle
  have hqs := am_qs_m hle
  have hqc' : am_qc E ≤ am_qc r.2.1 := hqc
  have hqs' : am_qs E ≤ am_qs r.2.1 := hqs
  have hts : ∀ w ∈ am_Ts, w.before (as.map (am_cv B0 b)).toArray s = true := fun w h => hF.1 w h _
  rw [lg_entry_eq]
  refine am_W_run (E0 := E) (r := r) hk B.exec B.bytes hml hown (fun h => hmn.trans h) hF (fun _ => htb) (Nat.le_refl _) (Nat.le_refl _) (by unfold am_rm; dsimp only; omega) (by unfold am_rm; dsimp only; omega) hsz IH ?_ ?_ ?_ n 0 (am_el (am_mt k).2.2.2.2.1 as) [] E M _ _ _ _ _ hrun (am_L_entry hxp hnv) (fun v hv => by cases hv) hH va_S.rf (Nat.zero_add _) (Nat.zero_add _) ⟨Nat.le_refl _, Nat.le_refl _⟩
  · intro pc i v st lsC H locs cells slots g1 g2 g3 g4 g5 g6 g7 g8
    exact am_end B.exec B.bytes B.returns B.notSynchronized g1 g2 g3 g4 g5 g6 (by omega) (by omega)
  · intro pc i x E9 M9 lsC H locs cells slots g1 g2 g3 g4 g5 g6 g7 g8
    subst g3
    obtain ⟨idx, rfl, hcl, -, hg4, hhh, hdup, hrest⟩ := am_th_i g1
    obtain ⟨hx3, hlk⟩ := am_cl_x hcl
    obtain ⟨e1, e2, e3, e4⟩ := am_exw x hx3
    have hgr : am_gn (am_mt k).1 = RX4 := by rw [hg4]; rfl
    rw [hgr] at hown hlk
    have q1 : am_qc (am_xE E9) = am_qc E9 + 1 := by unfold am_qc am_xE; dsimp only; omega
    have q2 : am_qs (am_xE E9) = am_qs E9 + 6 := by unfold am_qs am_xE; dsimp only; omega
    dsimp only at hqc' hqs'
    have htab : ∀ pc', ∀ x ∈ c.exceptionTable.toList, covers x pc' = false := fun pc' x hx => by
      rw [htb, hhh] at hx
      cases hx
    have hxq : ∀ t : State, s.vm.Alike t.vm → H.size ≤ t.heap.size → (∀ q : Nat, q < H.size → t.heap[q]? = H[q]?) → am_XC dC dI cy B0 b L xs (.inr x, am_xE E9, M9) (am_xn x) s t := fun t _ h1 h2 => by
      refine ⟨⟨x, rfl, rfl, hx3⟩, ?_, ⟨Nat.le_trans g6.1 h1, fun q hq hnq => (h2 q (Nat.lt_of_lt_of_le hq g6.1)).trans (g6.2.1 q hq hnq)⟩⟩
      obtain ⟨hP, k1, k2, k3, k4⟩ := g5
      exact ⟨hP.kept (fun j q hq => h2 q.1 (hP j q hq).lt), k1, k2, k3, k4⟩
    have hgood : ∀ w ∈ Cond.classLink RX4 idx (am_xn x) :: Cond.initialized (am_xn x) :: vx_atS RX4 (am_ic x) (am_xn x) am_nms, vx_ot w = true := fun w hw => by
      rcases List.mem_cons.mp hw with rfl | hw
      · rfl
      · rcases List.mem_cons.mp hw with rfl | hw
        · rfl
        · exact (e1 w hw).2
    have hstr : ∀ {is : Nat}, (∃ q ∈ am_strs, q.1 = RX4 ∧ q.2.1 = is) → ∃ (tx : String) (sa : Nat), vk_R RX4 is tx sa s := fun ⟨q, hq, h1, h2⟩ => by
      obtain ⟨a, ha⟩ := hF.2.2.2.2.2.2.2.2.1 q hq
      rw [h1, h2] at ha
      exact ⟨_, a, ha⟩
    have hlen : am_nms.length = 2 := rfl
    rcases hrest with ⟨is, f1, hst, f2, f3⟩ | ⟨is, f1, hst, f2, f3⟩
    · obtain ⟨tx, sa, hR⟩ := hstr hst
      exact vx_throwS (rest := []) B.exec B.bytes hl hown e4 am_fits (hts _ hlk) (hts _ e2) hR (fun w hw => hts _ (e1 w hw).1) hgood hF.2.2.2.2.2.2.1 hF.2.2.2.2.2.2.2.1 g6 (by rw [hml]; exact g4) (am_fetch_i hk g2) (am_fetch_i hk hdup) (am_fetch_i hk f1) (am_fetch_i hk f2) (am_fetch_i hk f3) (htab _)
        (by unfold am_rm; dsimp only; omega) (by unfold am_rm; dsimp only; rw [hlen]; simp only [List.map_nil, List.sum_nil]; omega) (by unfold am_rm; dsimp only; omega) (by unfold am_rm; dsimp only; omega) B.notSynchronized hxq g6.2.2 (by dsimp only; omega) (by dsimp only; omega)
    · obtain ⟨tx, sa, hR⟩ := hstr hst
      exact vx_throwSW (rest := []) B.exec B.bytes hl hown e4 am_fits (hts _ hlk) (hts _ e2) hR (fun w hw => hts _ (e1 w hw).1) hgood hF.2.2.2.2.2.2.1 hF.2.2.2.2.2.2.2.1 g6 (by rw [hml]; exact g4) (am_fetch_i hk g2) (am_fetch_i hk hdup) (am_fetch_i hk f1) (am_fetch_i hk f2) (am_fetch_i hk f3) (htab _)
        (by unfold am_rm; dsimp only; omega) (by unfold am_rm; dsimp only; rw [hlen]; simp only [List.map_nil, List.sum_nil]; omega) (by unfold am_rm; dsimp only; omega) (by unfold am_rm; dsimp only; omega) B.notSynchronized hxq g6.2.2 (by dsimp only; omega) (by dsimp only; omega)
  · intro pc x ce q rest lsC H locs cells slots g1 g2 g3 g4 g5 g6 g7 g8 g9 g10
    refine vx_out (fun y hy => ?_) B.notSynchronized g8 g9 g10 (fun t ht _ => ⟨⟨x, g1, rfl, g3⟩, by rw [ht]; exact g4, g5.F ht⟩) g5.2.2 (by omega) (by omega)
    rw [htb, g2] at hy
    cases hy
/-- EVERY METHOD -/
theorem am_ctr {l : Launch} (hl : l.stackTraces = false) : ∀ (N k : Nat), am_rk k < N → k < 229 → k ≠ 225 → ∀ (as : List am_V) (E : am_E) (M : am_M) (r : am_Rs) (n : Nat), (∀ v ∈ as, am_nv v) → (am_xp as).length ≤ (am_mt k).2.2.2.2.1 → am_run n k (am_en k as E M) = some r → am_Ctr l dC dI cy B0 b L xs k as E M r := by
  intro N
  induction N with
  | zero => intro k h; omega
  | succ N ih =>
    intro k hN hk h225 as E M r n hnv hxp hrun
    have IH : ∀ (t : Nat) (as : List am_V) (E : am_E) (M : am_M) (r' : am_Rs) (n : Nat), am_rk t < am_rk k → t < 229 → t ≠ 225 → as.length = (am_mt t).2.2.2.2.2.2.2 → (∀ v ∈ as, am_nv v) → (am_xp as).length ≤ (am_mt t).2.2.2.2.1 → am_run n t (am_en t as E M) = some r' → am_Ctr l dC dI cy B0 b L xs t as E M r' :=
      fun t as E M r' n h1 h2 h3 _ h5 h6 h7 => ih t (by omega) h2 h3 as E M r' n h5 h6 h7
    obtain ⟨a1, a2, a3, a4, a5, a6, a7, a8, a9⟩ := am_mt_i hk h225
    have hpl : plainName (am_mt k).2.2.1.cls = true := by rw [a4]; exact (am_plain _ a5).1
    unfold am_Ctr
    by_cases hh : (am_mt k).2.2.2.2.2.2.1 = []
    · have hcw : am_cw k = .code (am_mt k).2.2.1 (am_mt k).2.2.2.1 (am_mt k).2.2.2.2.1 (am_mt k).2.2.2.2.2.1 := by unfold am_cw; rw [hh]
      refine vx_ofW (ws' := []) (cc := (am_mt k).2.2.2.1) (maxL := (am_mt k).2.2.2.2.1) (ret := (am_mt k).2.2.2.2.2.1) hpl (by rw [hcw]) ?_
      intro p e s m args below meth c s₁ B hml htab hv
      refine am_body hl hk h225 IH hnv hxp hrun (w1 := []) B hml ?_ hv
      rw [hh]
      show c.exceptionTable.toList = []
      cases hq : c.exceptionTable.toList with
      | nil => rfl
      | cons x t => exact absurd (htab x (by rw [hq]; exact List.mem_cons_self)) id
    · have hcw : am_cw k = .codeWith (am_mt k).2.2.1 (am_mt k).2.2.2.1 (am_mt k).2.2.2.2.1 (am_mt k).2.2.2.2.2.1 (am_mt k).2.2.2.2.2.2.1 := by
        unfold am_cw
        split
        · rename_i h0; exact absurd h0 hh
        · rfl
      refine vx_ofWH (ws' := []) (cc := (am_mt k).2.2.2.1) (maxL := (am_mt k).2.2.2.2.1) (ret := (am_mt k).2.2.2.2.2.1) (hh := (am_mt k).2.2.2.2.2.2.1) hpl (by rw [hcw]) ?_
      intro p e s m args below meth c s₁ B hml hv
      refine am_body hl hk h225 IH hnv hxp hrun (w1 := []) B hml ?_ hv
      exact vx_table (x := (am_mt k).2.2.1) B (by rw [← hcw]; exact hv.2.1.1 _ a1 _)
end AMZ
