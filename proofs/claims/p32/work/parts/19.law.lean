/-! THE CLAIM OUT OF ONE WALK OF THE LAW'S BODY. Your part is whole_start (and what it stands on); all else here is the same for every law, but numbers. -/
def R_law : String := "WoodPilesLaw"
def lw_P (b : Addr) (xs : List Int32) (args : Array Value) (s : State) : Prop := args = #[.ref b] ∧ s.IntsAt b xs ∧ xs.length ≤ 260 ∧ (Jvm.Cond.and given_1 narrow_1).before args s = true
def lw_Q (_ : Array Value) (s : State) (o : Outcome) (t : State) : Prop := o = .returned (some (.int 1)) ∧ Framed s o t [] 898798 6405074
def lw_Z (below : List Frame) (a : Array Value) (s : State) : State → Prop := fun t => ∃ o, t.status = .running ∧ Ended t below o ∧ lw_Q a s o t
/-- the law's own end, with 1 on the stack, nothing written that was there before, its room as the claim has it -/
theorem lw_ret {p : Program} {l : Launch} {e : Env} {s : State} {m : MethodId} {below : List Frame} {meth : Method} {c : Code} {b : Nat} (hx : p.tables.exec = Jvm.exec) (hb : c.code = code) (hr : meth.sig.returnType = ret) (hlocks : meth.locks = false) {pc : Nat} {H : Heap} {ls : Array Slot} (hdg : decode code pc = .ok (.ireturn, 1)) : W p l e room_1 s m #[Value.ref b] below meth c H [] 898798 6405074 (lw_Z below #[Value.ref b] s) (F0 m pc ls [.int 1]) := by
  intro T hT X
  obtain ⟨fs, hret, hrun, hended, hW, hframe⟩ := X.leave (v := some (.int 1)) (hlocks := hlocks) (fun h => by rw [hr] at h; cases h)
  have hmeth' : T.vm.method? m = some meth := X.method'
  refine ⟨T.setFrames fs, ?_, .returned (some (.int 1)), hrun, hended, rfl, ⟨_, rfl⟩, hW, hframe⟩
  jvm_step X.here [X.here.top, hx, hb, hdg, hmeth', hr, ret, narrow_b1]
  (try refine ⟨rfl, ?_⟩); (try refine ⟨rfl, ?_⟩)
  first | (intro acts; rw [hret _ acts rfl rfl rfl]) | rw [hret _ _ rfl rfl rfl]
  exact Steps.refl _
/-- what holds at the law's entry: the machine, the code, the tables' words (any of lw_tbl by 'hts w (by decide +kernel)'), the script of L ints xs at the cell b, what the Statement gives of the start (any of its parts by flat_of_before) -/
def lw_At (p : Program) (s : State) (m : MethodId) (meth : Method) (c : Code) (b L : Nat) (xs : Nat → Int32) : Prop :=
  p.tables.exec = Jvm.exec ∧ c.code = code ∧ meth.sig.returnType = ret ∧ c.maxLocals = 9 ∧ s.vm.findClass R_law = some m.cls ∧ (∀ w ∈ lw_tbl, w.before #[Value.ref b] s = true) ∧ va_X b L xs s s.heap ∧ b < s.heap.size ∧ meth.locks = false ∧ (Jvm.Cond.and given_1 narrow_1).before #[Value.ref b] s = true
/-! ===== the law, out of its run on the abstract machine ===== -/
def am_M0 (L : Nat) (xs : Nat → Int32) : am_M := fun b' c' j => if b' = 45 ∧ c' = 0 ∧ 0 ≤ j ∧ j < (L : Int) then (xs j.toNat).toInt else 0
def am_E0 (L : Nat) : am_E := (0, 0, L, fun _ _ => none)
/-- WHAT IS LEFT TO PROVE OF THE ABSTRACT MACHINE: on every script the law's run ends with true, in its room -/
def am_Law : Prop := ∀ (L : Nat) (xs : Nat → Int32), L ≤ 260 → ∃ (n : Nat) (E : am_E) (M : am_M), am_run n 225 (am_en 225 [am_A (45, 0)] (am_E0 L) (am_M0 L xs)) = some (.inl (some (am_I 1)), E, M) ∧ am_qc E ≤ 898798 ∧ am_qs E ≤ 6405074
theorem am_tyA {s : State} {ty : FieldType} (h : (Cond.arrayClass ty).before #[] s = true) (hto : ∀ C, ty ≠ .object C) : ∃ cA, ArrOfT s cA ty ∧ va_RA s cA ty := by
  obtain ⟨cA, k, comp, h1, h2, h3⟩ := Cond.arrayClass_spec (show (Cond.arrayClass ty).holds #[] s none s [] = true from h)
  refine ⟨cA, fun n z => ⟨(fun k h => by cases h), k, h2, comp, h3⟩, ?_⟩
  cases ty with
  | object C => exact absurd rfl (hto C)
  | _ => exact h1
theorem am_tyO {s : State} (h : (Cond.arrayOver (.object RX3)).before #[] s = true) : ∃ cA, ArrOfT s cA (.object RX3) ∧ va_RA s cA (.object RX3) := by
  obtain ⟨comp, cA, k, h1, -, h2, h3, h4⟩ := Cond.arrayOver_spec (show (Cond.arrayOver (.object RX3)).holds #[] s none s [] = true from h)
  exact ⟨cA, fun n z => ⟨(fun k h => by cases h), k, h2, comp, h3⟩, k, comp, h2, h3, h1, h4⟩
theorem am_strs_in : ∀ q ∈ am_strs, q.1 = RX4 ∧ Cond.stringRef q.1 q.2.1 q.2.2 ∈ lw_tbl := by decide +kernel
theorem am_stat_in : Cond.laysStatic Bundle.tN "UNASSIGNED_STACK" Bundle.steD ∈ lw_tbl ∧ Cond.laysStatic Bundle.tN "SUPPRESSED_SENTINEL" Bundle.listD ∈ lw_tbl ∧ Cond.initialized Bundle.tN ∈ lw_tbl ∧ Cond.arrayOver (.object RX3) ∈ lw_tbl := by decide +kernel
theorem am_nc_in : ∀ x, x < 3 → ∀ y, y < 3 → x ≠ y → Cond.not (.castable (am_xn x) (am_xn y)) ∈ flatC (Jvm.Cond.and given_1 narrow_1) := by decide +kernel
theorem am_isr_in : Cond.isRef (.static Bundle.tN "UNASSIGNED_STACK" Bundle.steD) ∈ flatC (Jvm.Cond.and given_1 narrow_1) ∧ Cond.isRef (.static Bundle.tN "SUPPRESSED_SENTINEL" Bundle.listD) ∈ flatC (Jvm.Cond.and given_1 narrow_1) := by decide +kernel
theorem am_F_start {s : State} {b L : Nat} {xs : Nat → Int32} (hL : L ≤ 260) (hts : ∀ w ∈ lw_tbl, w.before #[Value.ref b] s = true) (hX : va_X b L xs s s.heap) (hbl : b < s.heap.size) (hgv : (Jvm.Cond.and given_1 narrow_1).before #[Value.ref b] s = true) :
    ∃ (dC : Nat → ClassId) (dI : Nat → Nat → Nat) (cy : Nat → ClassId), am_F dC dI cy s.heap.size b L xs s := by
  have hw : ∀ w ∈ am_Ts, ∀ a, w.before a s = true := fun w h a => am_wmv (List.mem_filter.mp h).2 (State.WarmedH.refl s) (hts w (List.mem_filter.mp h).1) a
  have hgs := flat_of_before _ hgv
  have hkn : ∀ c : Nat, ∃ (cC : ClassId) (iS : Nat → Nat), ∀ q : vw_C, vwCl[c]? = some q → u_Kn s q.1 q.2.1 q.2.2 cC iS := by
    intro c
    by_cases h6 : c < 6
    · obtain ⟨cC, iS, h⟩ := u_known (ws := am_Ts) (args := #[]) (fun w h => hw w h #[]) (am_wsX h6) (hw _ (am_inst h6).1 #[])
      exact ⟨cC, iS, fun q hq => by
        rw [am_cl6 h6] at hq
        cases hq
        exact h⟩
    · exact ⟨0, fun _ => 0, fun q hq => by
        have : c < 6 := (List.getElem?_eq_some_iff.mp hq).1
        omega⟩
  have hk1 : ∃ (dC : Nat → ClassId) (dI : Nat → Nat → Nat), ∀ (c : Nat) (q : vw_C), vwCl[c]? = some q → u_Kn s q.1 q.2.1 q.2.2 (dC c) (dI c) :=
    ⟨fun c => Classical.choose (hkn c), fun c => Classical.choose (Classical.choose_spec (hkn c)), fun c q hq => Classical.choose_spec (Classical.choose_spec (hkn c)) q hq⟩
  obtain ⟨dC, dI, hk⟩ := hk1
  obtain ⟨w1, w2⟩ := am_arrc
  obtain ⟨c6, a6, b6⟩ := am_tyA (hw _ w1 #[]) (fun C h => by cases h)
  obtain ⟨c7, a7, b7⟩ := am_tyA (hw _ w2 #[]) (fun C h => by cases h)
  have hAO : va_AO RX3 s := va_AO.of (hts _ am_stat_in.2.2.2)
  obtain ⟨c10, a10, b10⟩ := am_tyO hAO
  have hK : va_K (dC, dI) vwCl (am_tys (fun k => if k = 6 then c6 else if k = 7 then c7 else c10)) s := by
    refine ⟨hk, fun j q hq => ?_⟩
    unfold am_tys at hq
    match j, hq with
    | 0, hq => cases hq; exact ⟨a6, b6⟩
    | 1, hq => cases hq; exact ⟨a7, b7⟩
    | 2, hq => cases hq; exact ⟨a6, b6⟩
    | 3, hq => cases hq; exact ⟨a6, b6⟩
    | 4, hq => cases hq; exact ⟨a10, b10⟩
    | j + 5, hq => simp at hq
  have hA : ∀ a : Nat, a < s.heap.size → ¬ s.heap.size ≤ a := fun a h => Nat.not_le.mpr h
  refine ⟨dC, dI, _, hw, hK, hX, hbl, Nat.le_refl _, hL, vx_Zqof (hts _ am_stat_in.1) (hts _ am_stat_in.2.2.1) (hgs _ am_isr_in.1) hA, vx_Zqof (hts _ am_stat_in.2.1) (hts _ am_stat_in.2.2.1) (hgs _ am_isr_in.2) hA, fun q hq => ?_, hAO, fun x y hx hy hxy => va_Nc.of (hgs _ (am_nc_in x hx y hy hxy))⟩
  obtain ⟨h1, h2⟩ := am_strs_in q hq
  have h3 : (Cond.stringRef q.1 q.2.1 q.2.2).holds #[Value.ref b] s none s [] = true := hts _ h2
  have hcur : s.vm.findClass q.1 = some (dC 4) := by
    rw [h1]; exact (hk 4 _ rfl).2.1
  obtain ⟨k, cf, i, a, g1, g2, g3, g4, g5, g6⟩ := Cond.stringRef_spec hcur h3
  exact ⟨a, vk_R.same (U := s) rfl (by
    refine vk_R.of (A := #[]) ?_ ?_
    · exact h3
    · exact g6)⟩
theorem am_H_start {s : State} {dC : Nat → ClassId} {dI : Nat → Nat → Nat} {cy : Nat → ClassId} {B0 b L : Nat} {xs : Nat → Int32} {H : Heap} : am_H dC dI cy B0 b L xs (am_E0 L) (am_M0 L xs) H := by
  refine ⟨fun k q h => ?_, fun b' c' j => ?_, Nat.zero_le _, rfl, fun j hj => ?_⟩
  · unfold am_ws am_E0 at h
    simp at h
  · unfold am_M0
    by_cases h : b' = 45 ∧ c' = 0 ∧ 0 ≤ j ∧ j < (L : Int)
    · rw [if_pos h, if_neg (by omega)]
      exact am_nI _
    · rw [if_neg h]
      split <;> constructor <;> decide
  · unfold am_M0
    rw [if_pos ⟨rfl, rfl, by omega, by omega⟩]
    rfl
theorem am_rk225 : am_rk 225 = 11 := by decide +kernel
/-- from the entry, for every script of at most 260 ints, the law comes to its end with true -/
theorem whole_start_open (hLaw : am_Law) {p : Program} {e : Env} {s : State} {m : MethodId} {below : List Frame} {meth : Method} {c : Code} (l : Launch) (hflags : l.flags = flags0) {b L : Nat} {xs : Nat → Int32} (hL : L ≤ 260) (C0 : lw_At p s m meth c b L xs) : W p l e room_1 s m #[Value.ref b] below meth c s.heap [] 0 0 (lw_Z below #[Value.ref b] s) (entryFrame m ([Value.ref b] : List Value).toArray 9) := by
  obtain ⟨hx, hb, hr, hml, hown, hts, hX, hbl, hlocks, hgv⟩ := id C0
  have hst : l.stackTraces = false := by unfold Launch.stackTraces; rw [hflags]; decide
  obtain ⟨dC, dI, cy, hF⟩ := am_F_start hL hts hX hbl hgv
  obtain ⟨n, E, M, hrun, hqc, hqs⟩ := hLaw L xs hL
  have hL0 := am_L_entry (B0 := s.heap.size) (b := b) (nL := 9) (as := [am_A (45, 0)]) (by decide) (fun v hv => by rw [List.mem_singleton.mp hv]; trivial)
  have e1 : ([am_A (45, 0)] : List am_V).map (am_cv s.heap.size b) = [Value.ref b] := rfl
  rw [e1] at hL0
  rw [lg_entry_eq]
  have h0 : am_qc (am_E0 L) = 0 := rfl
  have h1 : am_qs (am_E0 L) = 0 := rfl
  have h2 : am_mt 225 = (6, 6, ⟨RL, "law", "([I)Z"⟩, code, 9, some .boolean, [], 1) := rfl
  refine am_W_run (E0 := am_E0 L) (r := (.inl (some (am_I 1)), E, M)) (k := 225) (nL := 9) (dC := dC) (dI := dI) (cy := cy) (B0 := s.heap.size) (b := b) (L := L) (xs := xs) (by decide) hx (by rw [h2]; exact hb) hml (by rw [h2]; exact hown) (fun h => by rw [h2] at h; exact absurd h (by decide)) hF (fun h => by rw [h2] at h; exact absurd rfl h) (by rw [am_rk225]; exact Nat.le_of_ble_eq_true rfl) (by rw [am_rk225]; exact Nat.le_of_ble_eq_true rfl) (by rw [h0, Nat.zero_add]; exact hqc) (by rw [h1, Nat.zero_add]; exact hqs) (fun _ => rfl)
    (fun t as E9 M9 r' n9 g1 g2 g3 _ g5 g6 g7 => am_ctr hst (am_rk t + 1) t (Nat.lt_succ_self _) g2 g3 as E9 M9 r' n9 g5 g6 g7) ?_ ?_ ?_ n 0 (am_el 9 [am_A (45, 0)]) [] (am_E0 L) (am_M0 L xs) _ _ _ _ _ hrun hL0 (fun v hv => by cases hv) (am_H_start (s := s)) va_S.rf rfl rfl ⟨Nat.le_refl _, Nat.le_refl _⟩
  · intro pc i v st lsC H locs cells slots g1 g2 g3 g4 g5 g6 g7 g8
    have hv : v = some (am_I 1) := (Sum.inl.inj g2).symm
    subst hv
    unfold am_rt at g1
    split at g1
    · split at g1
      · split at g1 <;> cases g1
        have hd : decode code pc = .ok (.ireturn, 1) := by rw [h2] at g3; exact g3
        refine va_forget g6.2.2 ?_
        refine W.widen (k := 898798) (n := 6405074) (by dsimp only at g7; omega) (by dsimp only at g8; omega) ?_
        exact lw_ret hx hb hr hlocks hd
      · cases g1
    · split at g1
      · split at g1 <;> cases g1
      · cases g1
    · split at g1
      · split at g1 <;> cases g1
      · cases g1
    · split at g1
      · split at g1 <;> cases g1
      · cases g1
    · cases g1
  · intro pc i x E9 M9 lsC H locs cells slots _ _ g3
    cases g3
  · intro pc x ce q rest lsC H locs cells slots g1
    cases g1
