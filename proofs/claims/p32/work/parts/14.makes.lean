/-! ===== cells that are made ===== -/
def am_crB (e : (Nat × Nat) × (Nat ⊕ Nat) × Nat) : Bool := match e.2.1 with
  | .inl c => decide (c < 6) && decide (lw_tbl[e.2.2]? = some (.classLink (am_gn e.1.1) e.1.2 (am_cn c)))
  | .inr x => decide (x < 3) && decide (lw_tbl[e.2.2]? = some (.classLink (am_gn e.1.1) e.1.2 (am_xn x)))
theorem am_cr_ok : am_cr.all am_crB = true := by decide +kernel
theorem am_cl_i {k idx c : Nat} (h : am_cl k idx = some (.inl c)) : c < 6 ∧ Cond.classLink (am_gn (am_mt k).1) idx (am_cn c) ∈ am_Ts := by
  unfold am_cl at h
  split at h
  · rename_i t ht
    have h1 := List.all_eq_true.mp am_cr_ok _ (am_lk ht)
    have h2 := Option.some.inj h
    simp only [am_crB, h2, Bool.and_eq_true, decide_eq_true_eq] at h1
    exact ⟨h1.1, am_in_p h1.2 rfl⟩
  · cases h
theorem am_cl_x {k idx x : Nat} (h : am_cl k idx = some (.inr x)) : x < 3 ∧ Cond.classLink (am_gn (am_mt k).1) idx (am_xn x) ∈ am_Ts := by
  unfold am_cl at h
  split at h
  · rename_i t ht
    have h1 := List.all_eq_true.mp am_cr_ok _ (am_lk ht)
    have h2 := Option.some.inj h
    simp only [am_crB, h2, Bool.and_eq_true, decide_eq_true_eq] at h1
    exact ⟨h1.1, am_in_p h1.2 rfl⟩
  · cases h
theorem am_inst {c : Nat} (h : c < 6) : Cond.instantiable (am_cn c) (am_fn c) ∈ am_Ts ∧ Cond.initialized (am_cn c) ∈ am_Ts := by
  rcases (show c = 0 ∨ c = 1 ∨ c = 2 ∨ c = 3 ∨ c = 4 ∨ c = 5 by omega) with rfl | rfl | rfl | rfl | rfl | rfl <;> decide +kernel
theorem am_arrc : Cond.arrayClass .int ∈ am_Ts ∧ Cond.arrayClass .char ∈ am_Ts := by decide +kernel
theorem am_nx_i {E : am_E} {c : Nat} {n : Int} {r : am_R} (h : am_nx E c n = some r) : ∃ n' : Nat, am_tab[E.1]? = some (r, c, n') ∧ (n' : Int) = n ∧ E.2.1 = 0 := by
  unfold am_nx at h
  split at h
  · rename_i r' c' n' ht
    split at h
    · rename_i hc
      cases h
      exact ⟨n', by rw [ht, hc.1], hc.2.1, hc.2.2⟩
    · cases h
  · cases h
theorem am_nM_ne {M : am_M} {r r' : am_R} (h : r' ≠ r) : am_nM M r r'.1 r'.2 = M r'.1 r'.2 := by
  unfold am_nM am_sb
  by_cases h1 : r'.1 = r.1
  · have h2 : r'.2 ≠ r.2 := fun h2 => h (Prod.ext h1 h2)
    funext j
    simp [h1, h2]
  · simp [h1]
theorem am_nM_at {M : am_M} {r : am_R} {j : Int} : am_nM M r r.1 r.2 j = 0 := by
  unfold am_nM am_sb
  simp
theorem am_nm_nM {M : am_M} {r : am_R} (h : am_nm M) : am_nm (am_nM M r) := by
  intro b c j
  have h0 : ∀ q : Nat, if q = 44 then am_n64 0 else am_n32 0 := fun q => by
    split <;> constructor <;> decide
  by_cases hb : (b, c) = r
  · subst hb
    rw [am_nM_at (r := (b, c))]
    exact h0 b
  · have e := congrFun (am_nM_ne (M := M) (r := r) (r' := (b, c)) hb) j
    dsimp only at e
    rw [e]
    exact h b c j
theorem am_ce_new {cy : Nat → ClassId} {B0 b : Nat} {E : am_E} {M : am_M} {t : am_R × Nat × Nat} {r : am_R} (h : t.1 ≠ r) : am_ce cy B0 b (am_nE E r) (am_nM M r) t = am_ce cy B0 b E M t := by
  have e : ∀ k, am_rf (am_nE E r) t.1 k = am_rf E t.1 k := fun k => by
    unfold am_rf am_nE
    simp [h]
  have e2 := am_nM_ne (M := M) h
  unfold am_ce am_fv
  simp only [e, e2]
theorem am_ws_new {cy : Nat → ClassId} {B0 b : Nat} {E : am_E} {M : am_M} {t : am_R × Nat × Nat} (ht : am_tab[E.1]? = some t) : am_ws cy B0 b (am_nE E t.1) (am_nM M t.1) = am_ws cy B0 b E M ++ [(B0 + E.1, am_ce cy B0 b (am_nE E t.1) (am_nM M t.1) t)] := by
  unfold am_ws
  have e : (am_nE E t.1).1 = E.1 + 1 := rfl
  rw [e, List.range_succ, List.map_append]
  congr 1
  · apply List.map_congr_left
    intro i hi
    have hi := List.mem_range.mp hi
    congr 1
    unfold am_cl1
    split
    · rename_i t' ht'
      exact am_ce_new (am_tab_ne ht ht' (by omega))
    · rfl
  · simp [am_cl1, ht]
section AMK
variable {p : Program} {l : Launch} {e : Env} {R : Room} {s : State} {m : MethodId} {args : Array Value} {below : List Frame} {meth : Method} {c : Code} {H : Heap} {locs : List Loc} {cells slots : Nat} {Q : State → Prop}
variable {cc : ByteArray} {pc : Nat} {lsC : Array Slot} {dC : Nat → ClassId} {dI : Nat → Nat → Nat} {cy : Nat → ClassId} {B0 b L : Nat} {xs : Nat → Int32} {E : am_E} {M : am_M} {k : Nat}
theorem am_know {g : JFrame} (h : H.size ≤ s.heap.size + cells → W p l e R s m args below meth c H locs cells slots Q g) : W p l e R s m args below meth c H locs cells slots Q g := fun T hT X => by
  have h1 : T.heap.size ≤ s.heap.size + cells := X.same.2.2.1
  rw [hT] at h1
  exact h h1 T hT X
theorem am_H_new {H1 : Heap} {t : am_R × Nat × Nat} (hH : am_H dC dI cy B0 b L xs E M H) (ht : am_tab[E.1]? = some t) (o1 : ∀ q, q < H.size → H1[q]? = H[q]?)
    (h1 : va_at (dC, dI) vwCl (B0 + E.1, am_ce cy B0 b (am_nE E t.1) (am_nM M t.1) t) H1) : am_H dC dI cy B0 b L xs (am_nE E t.1) (am_nM M t.1) H1 := by
  obtain ⟨hP, h3, h4, h5, h6⟩ := hH
  have h9 := am_tab_i ht
  refine ⟨?_, am_nm_nM h3, by have : (am_nE E t.1).1 = E.1 + 1 := rfl; omega, h5, fun j hj => ?_⟩
  · rw [am_ws_new ht]
    refine (hP.kept (fun k q hq => o1 q.1 (hP k q hq).lt)).app (fun k q hq => ?_)
    have hz : k < 1 := (List.getElem?_eq_some_iff.mp hq).1
    rw [show k = 0 by omega] at hq
    cases hq
    exact h1
  · rw [← h6 j hj]
    exact congrFun (am_nM_ne (r' := (45, 0)) (Ne.symm h9.2.2.1)) _
theorem am_H_lo (hH : am_H dC dI cy B0 b L xs E M H) (hB : B0 ≤ H.size) : B0 + E.1 ≤ H.size := by
  obtain ⟨hP, h3, h4, h5, h6⟩ := hH
  by_cases h0 : E.1 = 0
  · omega
  · have hlt : E.1 - 1 < am_tab.length := by rw [am_tab_len]; omega
    have he := am_ws_get (cy := cy) (B0 := B0) (b := b) (E := E) (M := M) (i := E.1 - 1) (by omega) (List.getElem?_eq_getElem hlt)
    have := (hP _ _ he).lt
    dsimp only at this
    omega
theorem am_S_new {H1 : Heap} (hS : va_S (fun q => B0 ≤ q) s.heap H locs) (z1 : H1.size = H.size + 1) (o1 : ∀ q, q < H.size → H1[q]? = H[q]?) : va_S (fun q => B0 ≤ q) s.heap H1 locs :=
  ⟨Nat.le_trans hS.1 (by omega), fun x h1 h2 => (o1 x (Nat.lt_of_lt_of_le h1 hS.1)).trans (hS.2.1 x h1 h2), hS.2.2⟩
theorem am_cyN {k : Nat} {ty : FieldType} {cA : ClassId} (hK : va_K (dC, dI) vwCl (am_tys cy) s) (j : Nat) (hj : (am_tys cy)[j]? = some (cy k, ty)) (hty : ∀ C, ty ≠ .object C) (h : s.vm.findClass ("[" ++ ty.toString) = some cA) : cA = cy k := by
  have h1 := (hK.2 j _ hj).2
  dsimp only at h1
  have h2 : s.vm.findClass ("[" ++ ty.toString) = some (cy k) := by
    cases ty with
    | object C => exact absurd rfl (hty C)
    | _ => exact h1
  exact Option.some.inj (h.symm.trans h2)
theorem am_W_na (hx : p.tables.exec = Jvm.exec) (hb : c.code = cc) (hF : am_F dC dI cy B0 b L xs s) (hH : am_H dC dI cy B0 b L xs E M H) (hS : va_S (fun q => B0 ≤ q) s.heap H locs) (hsz : H.size = B0 + E.1)
    {at9 : ArrayType} {kd : Nat} {ty : FieldType} {r : am_R} {n : Nat} {rest : List Value} (hty : newarray.typeOf at9 = ty) (hw : Cond.arrayClass ty ∈ am_Ts) (j : Nat) (hj : (am_tys cy)[j]? = some (cy kd, ty)) (hto : ∀ C, ty ≠ .object C) (ht : am_tab[E.1]? = some (r, kd, n)) (hn : n < 100000) (hcb : componentBytes ty ≤ 8)
    (hcell : vp_cell (cy kd) (n, .inl (fun j => Int32.ofInt (am_nM M r r.1 r.2 j))) = arrV (cy kd) n (fun _ => defaultValue ty) ∧ am_ce cy B0 b (am_nE E r) (am_nM M r) (r, kd, n) = .inl (cy kd, n, .inl (fun j => Int32.ofInt (am_nM M r r.1 r.2 j))) ∨ vp_cell (cy kd) (n, .inr (.inl (fun j => Int64.ofInt (am_nM M r r.1 r.2 j)))) = arrV (cy kd) n (fun _ => defaultValue ty) ∧ am_ce cy B0 b (am_nE E r) (am_nM M r) (r, kd, n) = .inl (cy kd, n, .inr (.inl (fun j => Int64.ofInt (am_nM M r r.1 r.2 j)))))
    (hc : cells + 1 ≤ R.cells) (hsl : slots + n ≤ R.slots) (hd : decode cc pc = .ok (.newarray at9, 2))
    (kk : ∀ H1, am_H dC dI cy B0 b L xs (am_nE E r) (am_nM M r) H1 → va_S (fun q => B0 ≤ q) s.heap H1 locs → W p l e R s m args below meth c H1 locs (cells + 1) (slots + n) Q (F0 m (pc + 2) lsC (.ref (B0 + E.1) :: rest))) : W p l e R s m args below meth c H locs cells slots Q (F0 m pc lsC (.int (Int32.ofInt (n : Int)) :: rest)) := by
  subst hty
  have hnn : am_n32 (n : Int) := ⟨by omega, by omega⟩
  have e1 : (Int32.ofInt (n : Int)).toNatClampNeg = n := by rw [Int32.toNatClampNeg, am_toI hnn]; omega
  refine va_newaK hx hb (hF.1 _ hw _) rfl hd rfl (fun h => ?_) e1 (Nat.le_trans (Nat.mul_le_mul_left n hcb) (by omega)) hc hsl hsz fun H1 cA e1 z1 o1 hAr hNm => ?_
  · rw [← am_o0, am_lt hnn am_z0] at h; omega
  · have hcA : cA = cy kd := am_cyN hF.2.1 j hj hto hNm
    subst hcA
    rw [← hsz] at o1 z1
    refine kk H1 (am_H_new hH ht o1 ?_) (am_S_new hS z1 o1)
    rcases hcell with ⟨q1, q2⟩ | ⟨q1, q2⟩
    · rw [q2]
      show H1[B0 + E.1]? = some (vp_cell _ _)
      rw [q1]; exact e1
    · rw [q2]
      show H1[B0 + E.1]? = some (vp_cell _ _)
      rw [q1]; exact e1
theorem am_arr0 {cA : ClassId} {n : Nat} {M : am_M} {r : am_R} {ty : FieldType} (h : defaultValue ty = .int 0) : vp_cell cA (n, .inl (fun j => Int32.ofInt (am_nM M r r.1 r.2 j))) = arrV cA n (fun _ => defaultValue ty) := by
  rw [vp_cell_i, h]
  congr 1
  funext j
  rw [am_nM_at]
  rfl
theorem am_arr0l {cA : ClassId} {n : Nat} {M : am_M} {r : am_R} : vp_cell cA (n, .inr (.inl (fun j => Int64.ofInt (am_nM M r r.1 r.2 j)))) = arrV cA n (fun _ => defaultValue .long) := by
  rw [vp_cell_l]
  congr 1
  funext j
  rw [am_nM_at]
  rfl
theorem am_W_mk (hx : p.tables.exec = Jvm.exec) (hb : c.code = cc) (hF : am_F dC dI cy B0 b L xs s) (hown : s.vm.findClass (am_gn (am_mt k).1) = some m.cls) (hH : am_H dC dI cy B0 b L xs E M H) (hS : va_S (fun q => B0 ≤ q) s.heap H locs) (hsz : E.2.1 = 0 → H.size = B0 + E.1)
    {i : Instr} {len : Nat} {st st' : List am_V} {E' : am_E} {M' : am_M} (hd : decode cc pc = .ok (i, len)) (hl : len = am_ln i) (hs : am_mk k i st E M = some (st', E', M')) (hn : ∀ v ∈ st, am_nv v)
    (hc : cells + 1 ≤ R.cells) (hsl : ∀ t, am_tab[E.1]? = some t → slots + t.2.2 ≤ R.slots)
    (kk : (∀ v ∈ st', am_nv v) → ∀ H1, am_H dC dI cy B0 b L xs E' M' H1 → va_S (fun q => B0 ≤ q) s.heap H1 locs → ∀ t, am_tab[E.1]? = some t → E'.1 = E.1 + 1 → E'.2.1 = E.2.1 → W p l e R s m args below meth c H1 locs (cells + 1) (slots + t.2.2) Q (F0 m (pc + len) lsC (st'.map (am_cv B0 b)))) : W p l e R s m args below meth c H locs cells slots Q (F0 m pc lsC (st.map (am_cv B0 b))) := by
  subst hl
  have hts : ∀ w ∈ am_Ts, w.before args s = true := fun w h => hF.1 w h args
  have hK := hF.2.1
  have had : ∀ {r : am_R} {kd n : Nat}, am_tab[E.1]? = some (r, kd, n) → am_ad B0 b r = B0 + E.1 := fun ht => by
    have h9 := am_tab_i ht
    rw [am_ad_of h9.2.2.1, h9.2.1]
  unfold am_mk at hs
  split at hs
  · rename_i idx
    split at hs
    · rename_i c9 hcl
      split at hs
      · rename_i r hr
        cases hs
        obtain ⟨n', ht, hn', hx0⟩ := am_nx_i hr
        have hn9 : n' = am_fn c9 := by omega
        subst hn9
        obtain ⟨h6, hlk⟩ := am_cl_i hcl
        obtain ⟨hi1, hi2⟩ := am_inst h6
        have hKn := hK.1 c9 _ (am_cl6 h6)
        have hs0 := hsz hx0
        refine W.newcK hx hb hown (hts _ hlk) (hts _ hi1) (hts _ hi2) rfl hd hc (hsl _ ht) hKn.2.1 hs0 fun H1 kC hkC e1 z1 o1 => ?_
        rw [← hs0] at o1 z1
        have k2 := kk (am_ncc trivial hn) H1 (am_H_new hH ht o1 ?_) (am_S_new hS z1 o1) _ ht rfl rfl
        · have e3 : am_cv B0 b (am_A r) = .ref (B0 + E.1) := by
            show va_rf (some (am_ad B0 b r)) = _
            rw [had ht]; rfl
          rw [List.map_cons, e3] at k2
          exact k2
        · unfold am_ce
          rw [if_pos h6]
          refine ⟨_, am_cl6 h6, (u_born (am_tX c9) hts (am_wsX h6) hKn hkC e1 (am_tX_ok h6)).to (fun j hj => ?_)⟩
          have hq := am_fld c9 h6 j hj
          unfold vp_V
          rw [List.getD_eq_getElem?_getD, List.getElem?_map, List.getElem?_range hj]
          show defaultValue (am_tX c9 j) = am_fv B0 b (am_nE E r) (am_nM M r) r c9 j
          unfold am_fv
          cases hisr : am_isr c9 j
          · rw [if_neg (by decide), am_nM_at, hq.2.2.1 hisr]
            split <;> rfl
          · rw [if_pos rfl]
            have e5 : am_rf (am_nE E r) r j = none := by
              unfold am_rf am_nE
              simp
            rw [e5]
            have e6 := hq.2.2.2 hisr
            cases hty : am_tX c9 j <;> rw [hty] at e6 <;> first | rfl | cases e6
      · cases hs
    · cases hs
  · split at hs
    · rename_i a9 _ n rest
      split at hs
      · rename_i hn9
        split at hs
        · rename_i r hr
          cases hs
          obtain ⟨n', ht, hn', hx0⟩ := am_nx_i hr
          subst hn'
          have hs0 := hsz hx0
          have kk2 : ∀ H1, am_H dC dI cy B0 b L xs (am_nE E r) (am_nM M r) H1 → va_S (fun q => B0 ≤ q) s.heap H1 locs → W p l e R s m args below meth c H1 locs (cells + 1) (slots + n') Q (F0 m (pc + 2) lsC (.ref (B0 + E.1) :: rest.map (am_cv B0 b))) := fun H1 g1 g2 => by
            have k2 := kk (am_ncc trivial (am_nc hn).2) H1 g1 g2 _ ht rfl rfl
            have e3 : am_cv B0 b (am_A r) = .ref (B0 + E.1) := by
              show va_rf (some (am_ad B0 b r)) = _
              rw [had ht]; rfl
            rw [List.map_cons, e3] at k2
            exact k2
          obtain ⟨w1, w2⟩ := am_arrc
          cases a9 <;> first | (exfalso; exact absurd hn9.2.2 (by decide)) | skip
          · exact am_W_na (at9 := .char) (ty := .char) hx hb hF hH hS hs0 rfl w2 1 rfl (fun C h => by cases h) ht (by omega) (by decide) (Or.inl ⟨am_arr0 rfl, rfl⟩) hc (hsl _ ht) hd kk2
          · exact am_W_na (at9 := .int) (ty := .int) hx hb hF hH hS hs0 rfl w1 0 rfl (fun C h => by cases h) ht (by omega) (by decide) (Or.inl ⟨am_arr0 rfl, rfl⟩) hc (hsl _ ht) hd kk2
        · cases hs
      · cases hs
    · cases hs
  · split at hs
    · rename_i idx _ _ n rest hcl
      split at hs
      · rename_i hn9
        split at hs
        · rename_i r hr
          cases hs
          obtain ⟨n', ht, hn', hx0⟩ := am_nx_i hr
          subst hn'
          have hs0 := hsz hx0
          obtain ⟨-, hlk⟩ := am_cl_i hcl
          have hnn : am_n32 (n' : Int) := ⟨by omega, by omega⟩
          have e1 : (Int32.ofInt (n' : Int)).toNatClampNeg = n' := by rw [Int32.toNatClampNeg, am_toI hnn]; omega
          obtain ⟨-, -, -, -, -, -, -, -, -, hAO, -⟩ := hF
          refine W.anew (C := RX3) hx hb hown (hts _ hlk) (va_AO.use hAO) rfl hd rfl (fun h => ?_) (by rw [e1]; omega) hc (by rw [e1]; exact hsl _ ht) fun cA kA comp f1 f2 f3 f4 => ?_
          · rw [← am_o0, am_lt hnn am_z0] at h; omega
          · rw [e1]
            generalize hH1 : H.push ({ cls := cA, slots := Array.replicate n' .null, vm := .none } : Cell) = H1
            have z1 : H1.size = H.size + 1 := by rw [← hH1, Array.size_push]
            have g1 : H1[H.size]? = some (arrV cA n' (fun _ => .null)) := by rw [← hH1, Array.getElem?_push_size, ← arrV_new]
            have o1 : ∀ q : Nat, q < H.size → H1[q]? = H[q]? := fun q hq => by rw [← hH1, Array.getElem?_push, if_neg (Nat.ne_of_lt hq)]
            have hcA : cA = cy 10 := by
              obtain ⟨kA', comp', -, -, -, h4⟩ := (hK.2 4 _ rfl).2
              exact Option.some.inj (f1.symm.trans h4)
            subst hcA
            have k2 := kk (am_ncc trivial (am_nc hn).2) H1 (am_H_new hH ht o1 ?_) (am_S_new hS z1 o1) _ ht rfl rfl
            · have e3 : am_cv B0 b (am_A r) = .ref (B0 + E.1) := by
                show va_rf (some (am_ad B0 b r)) = _
                rw [had ht]; rfl
              rw [List.map_cons, e3, ← hs0] at k2
              exact k2
            · rw [← hs0]
              show H1[H.size]? = some (vp_cell _ _)
              rw [vp_cell_q]
              rw [g1]
              congr 2
              funext j
              have e5 : am_rf (am_nE E r) r j = none := by
                unfold am_rf am_nE
                simp
              dsimp only
              rw [e5]
              rfl
        · cases hs
      · cases hs
    · cases hs
  · cases hs
end AMK
