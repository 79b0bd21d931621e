/-! ===== writes into the heap ===== -/
theorem am_up_ne {M : am_M} {r r' : am_R} {j v : Int} (h : r' ≠ r) : am_up M r j v r'.1 r'.2 = M r'.1 r'.2 := by
  unfold am_up am_sb am_uy
  by_cases h1 : r'.1 = r.1
  · have h2 : r'.2 ≠ r.2 := fun h2 => h (Prod.ext h1 h2)
    simp only [h1, h2, if_true, if_false]
  · simp only [h1, if_false]
theorem am_up_at {M : am_M} {r : am_R} {j v j' : Int} : am_up M r j v r.1 r.2 j' = if j' = j then v else M r.1 r.2 j' := by
  unfold am_up am_sb am_uy
  simp only [if_true]
theorem am_ce_ne {cy : Nat → ClassId} {B0 b : Nat} {E : am_E} {M M' : am_M} {t : am_R × Nat × Nat} (h : M' t.1.1 t.1.2 = M t.1.1 t.1.2) : am_ce cy B0 b E M' t = am_ce cy B0 b E M t := by
  unfold am_ce am_fv
  rw [h]
theorem am_ce_srf {cy : Nat → ClassId} {B0 b : Nat} {E : am_E} {M : am_M} {t : am_R × Nat × Nat} {r v : am_R} {f : Nat} (h : t.1 ≠ r) : am_ce cy B0 b (am_srf E r f v) M t = am_ce cy B0 b E M t := by
  have e : ∀ k, am_rf (am_srf E r f v) t.1 k = am_rf E t.1 k := fun k => by
    unfold am_rf am_srf
    simp [h]
  unfold am_ce am_fv
  simp only [e]
theorem am_nm_up {M : am_M} {r : am_R} {j v : Int} (h : am_nm M) (hv : if r.1 = 44 then am_n64 v else am_n32 v) : am_nm (am_up M r j v) := by
  intro b c j'
  unfold am_up am_sb am_uy
  by_cases h1 : b = r.1
  · subst h1
    simp only [if_true]
    by_cases h2 : c = r.2
    · subst h2
      simp only [if_true]
      by_cases h3 : j' = j
      · simp only [h3, if_true]; exact hv
      · simp only [h3, if_false]; exact h _ _ _
    · simp only [h2, if_false]; exact h _ _ _
  · simp only [h1, if_false]; exact h _ _ _
theorem am_tab_ne {i j : Nat} {t t' : am_R × Nat × Nat} (h : am_tab[i]? = some t) (h' : am_tab[j]? = some t') (hj : j ≠ i) : t'.1 ≠ t.1 := fun he => by
  have h1 := (am_tab_i h).2.1
  have h2 := (am_tab_i h').2.1
  rw [he] at h2
  omega
theorem am_ar45 {E : am_E} {M : am_M} {r : am_R} {j v : Int} {L : Nat} {xs : Nat → Int32} (hr : r ≠ (45, 0)) (h : ∀ j : Nat, j < L → M 45 0 j = (xs j).toInt) : ∀ j' : Nat, j' < L → am_up M r j v 45 0 j' = (xs j').toInt := fun j' hj => by
  rw [← h j' hj]
  exact congrFun (am_up_ne (r' := (45, 0)) (Ne.symm hr)) _
theorem am_updE {f : Nat → Int32} {M : am_M} {r : am_R} {i : Int} {z : Int} (h0 : 0 ≤ i) (hf : f = fun j : Nat => Int32.ofInt (M r.1 r.2 j)) : upd f i.toNat (Int32.ofInt z) = fun j : Nat => Int32.ofInt (am_up M r i z r.1 r.2 j) := by
  funext j
  rw [am_up_at, hf]
  unfold upd
  by_cases h : j = i.toNat
  · rw [if_pos h, if_pos (by omega)]
  · rw [if_neg h, if_neg (by omega)]
theorem am_updEL {f : Nat → Int64} {M : am_M} {r : am_R} {i : Int} {z : Int} (h0 : 0 ≤ i) (hf : f = fun j : Nat => Int64.ofInt (M r.1 r.2 j)) : vp_updL f i.toNat (Int64.ofInt z) = fun j : Nat => Int64.ofInt (am_up M r i z r.1 r.2 j) := by
  funext j
  rw [am_up_at, hf]
  unfold vp_updL
  by_cases h : j = i.toNat
  · rw [if_pos h, if_pos (by omega)]
  · rw [if_neg h, if_neg (by omega)]
theorem am_nar_c {z : Int} (h0 : 0 ≤ z) (h1 : z < 65536) : vp_nar .char (Int32.ofInt z) = Int32.ofInt z := by
  rw [vp_nar_char]
  have h : z = ((z.toNat : Nat) : Int) := by omega
  have h2 : z.toNat < 65536 := by omega
  generalize z.toNat = n at h h2
  subst h
  apply Int32.toInt_inj.mp
  have e1 : (Int32.ofInt (n : Int)).toUInt32 = UInt32.ofNat n := by
    apply UInt32.toNat_inj.mp
    have e0 : (Int32.ofInt (n : Int)) = Int32.ofNat n := rfl
    rw [e0]
    rfl
  rw [e1]
  have e2 : (UInt32.ofNat n).toUInt16.toUInt32 = UInt32.ofNat n := by
    apply UInt32.toNat_inj.mp
    rw [UInt16.toNat_toUInt32, UInt32.toNat_toUInt16, UInt32.toNat_ofNat']
    omega
  rw [e2]
  rfl
theorem am_nar_z {z : Int} (h : z = 0 ∨ z = 1) : vp_nar .boolean (Int32.ofInt z) = Int32.ofInt z := by
  rcases h with rfl | rfl <;> decide
section AMWR
variable {p : Program} {l : Launch} {e : Env} {R : Room} {s : State} {m : MethodId} {args : Array Value} {below : List Frame} {meth : Method} {c : Code} {H : Heap} {locs : List Loc} {cells slots : Nat} {Q : State → Prop}
variable {cc : ByteArray} {pc : Nat} {lsC : Array Slot} {dC : Nat → ClassId} {dI : Nat → Nat → Nat} {cy : Nat → ClassId} {B0 b L : Nat} {xs : Nat → Int32} {E : am_E} {M : am_M} {k : Nat}
/-- behind a write of ints -/
theorem am_H_up {H1 : Heap} {r : am_R} {c' n : Nat} {j v : Int} (hH : am_H dC dI cy B0 b L xs E M H) (hr : r ≠ (45, 0)) (ht : am_tab[am_ix r]? = some (r, c', n)) (hv : if r.1 = 44 then am_n64 v else am_n32 v)
    {x : va_E} (hx : x = am_ce cy B0 b E (am_up M r j v) (r, c', n)) (hP : va_P (dC, dI) vwCl ((am_ws cy B0 b E M).set (am_ix r) (B0 + am_ix r, x)) H1) : am_H dC dI cy B0 b L xs E (am_up M r j v) H1 := by
  obtain ⟨-, h3, h4, h5, h6⟩ := hH
  subst hx
  refine ⟨?_, am_nm_up h3 hv, h4, h5, am_ar45 (E := E) hr h6⟩
  rwa [am_ws_set (E := E) (E' := E) (M' := am_up M r j v) ht rfl (fun j' t' hj ht' => am_ce_ne (am_up_ne (am_tab_ne ht ht' hj)))] at hP
theorem am_H_srf {H1 : Heap} {r v : am_R} {c' n f : Nat} (hH : am_H dC dI cy B0 b L xs E M H) (ht : am_tab[am_ix r]? = some (r, c', n))
    {x : va_E} (hx : x = am_ce cy B0 b (am_srf E r f v) M (r, c', n)) (hP : va_P (dC, dI) vwCl ((am_ws cy B0 b E M).set (am_ix r) (B0 + am_ix r, x)) H1) : am_H dC dI cy B0 b L xs (am_srf E r f v) M H1 := by
  obtain ⟨-, h3, h4, h5, h6⟩ := hH
  subst hx
  refine ⟨?_, h3, h4, h5, h6⟩
  rwa [am_ws_set (E := E) (E' := am_srf E r f v) (M' := M) ht rfl (fun j' t' hj ht' => am_ce_srf (am_tab_ne ht ht' hj))] at hP
theorem am_fs_set {n f : Nat} {v : Value} {g g' : Nat → Value} (hv : g' f = v) (h : ∀ j, j ≠ f → g' j = g j) : ((List.range n).map g).set f v = (List.range n).map g' := by
  apply List.ext_getElem?
  intro j
  by_cases hj : j = f
  · subst hj
    by_cases hl : j < n
    · rw [List.getElem?_set_self (by rw [List.length_map, List.length_range]; exact hl), List.getElem?_map, List.getElem?_range hl, Option.map_some, hv]
    · rw [List.getElem?_eq_none (by rw [List.length_set, List.length_map, List.length_range]; omega), List.getElem?_eq_none (by rw [List.length_map, List.length_range]; omega)]
  · rw [List.getElem?_set_ne (Ne.symm hj), List.getElem?_map, List.getElem?_map]
    by_cases hl : j < n
    · rw [List.getElem?_range hl, Option.map_some, Option.map_some, h j hj]
    · rw [List.getElem?_eq_none (by rw [List.length_range]; omega)]
      rfl
theorem am_refT {ty : FieldType} (h : ty.isReference = true) (a : Nat) : narrow ty (.ref a) = .ref a ∧ fits ty (.ref a) = true := by
  cases ty <;> first | exact ⟨rfl, rfl⟩ | cases h
theorem am_W_wr (hx : p.tables.exec = Jvm.exec) (hb : c.code = cc) (hF : am_F dC dI cy B0 b L xs s) (hown : s.vm.findClass (am_gn (am_mt k).1) = some m.cls) (hgn : am_gn (am_mt k).1 = am_cn (am_mt k).2.1) (hmn : (am_mt k).2.2.1.name = "<init>" → meth.name = "<init>") (hH : am_H dC dI cy B0 b L xs E M H) (hS : va_S (fun q => B0 ≤ q) s.heap H locs)
    {i : Instr} {len : Nat} {st st' : List am_V} {E' : am_E} {M' : am_M} (hd : decode cc pc = .ok (i, len)) (hl : len = am_ln i) (hs : am_wr k i st E M = some (st', E', M')) (hn : ∀ v ∈ st, am_nv v)
    (kk : (∀ v ∈ st', am_nv v) → ∀ H1 locs1, am_H dC dI cy B0 b L xs E' M' H1 → va_S (fun q => B0 ≤ q) s.heap H1 locs1 → W p l e R s m args below meth c H1 locs1 cells slots Q (F0 m (pc + len) lsC (st'.map (am_cv B0 b)))) : W p l e R s m args below meth c H locs cells slots Q (F0 m pc lsC (st.map (am_cv B0 b))) := by
  subst hl
  obtain ⟨hw, hK, hX, hbB, hBs, hL, -, -, -, -, -⟩ := hF
  have hts : ∀ w ∈ am_Ts, w.before args s = true := fun w h => hw w h args
  have hP := hH.1
  have hD := am_ws_D cy B0 b E M
  unfold am_wr at hs
  split at hs
  · split at hs
    · rename_i idx _ _ z r rest c f hfl
      split at hs <;> cases hs
      rename_i hob
      obtain ⟨hob, hisr, hz⟩ := hob
      obtain ⟨h6, hf, hlk⟩ := am_fl_i hfl
      obtain ⟨hr, hlt, ht⟩ := am_ob_c hob h6
      have hzn : am_n32 z := (am_nc hn).1
      show W _ _ _ _ _ _ _ _ _ _ _ _ _ _ _ (F0 m pc lsC (.int (Int32.ofInt z) :: .ref (am_ad B0 b r) :: st'.map (am_cv B0 b)))
      rw [am_ad_of hr]
      have he := am_ws_get (cy := cy) (B0 := B0) (b := b) (M := M) hlt ht
      unfold am_ce at he
      rw [if_pos h6] at he
      have hq := am_fld c h6 f hf
      have h44 : r.1 ≠ 44 := fun h => by
        have := (am_tab_i ht).2.2.2.2.2
        dsimp only at this
        omega
      have hty := hq.2.2.1 hisr
      have hnf : narrow (am_tX c f) (.int (Int32.ofInt z)) = .int (Int32.ofInt z) ∧ fits (am_tX c f) (.int (Int32.ofInt z)) = true := by
        rw [hty]
        cases hisz : am_isz c f
        · exact ⟨rfl, rfl⟩
        · rcases hz hisz with rfl | rfl <;> exact ⟨rfl, rfl⟩
      refine va_put (ty := am_tX c f) hx hb hts (am_wsX h6) (am_tX c) (am_tX_ok h6) (am_nmX h6) hown hK hP hD hS (am_ix r) he (am_cl6 h6) f hf (hts _ hlk) (fun x h => by rw [hq.1] at h; exact h) (by rw [hq.2.1]; exact hisr) (am_tX_ok h6 f hf) hnf.1 hnf.2 (by rw [List.length_map, List.length_range]; exact hf) hd (fun H1 locs1 hP1 _ hS1 => ?_)
      refine kk (am_nc (am_nc hn).2).2 H1 locs1 (am_H_up hH hr ht (by rw [if_neg h44]; exact hzn) ?_ hP1) hS1
      unfold am_ce
      rw [if_pos h6]
      congr 2
      refine am_fs_set ?_ (fun j hj => ?_)
      · unfold am_fv
        rw [if_neg (by rw [hisr]; decide), am_up_at, if_pos rfl]
      · unfold am_fv
        split
        · rfl
        · rw [am_up_at, if_neg (by omega)]
    · rename_i idx _ _ v r rest c f hfl
      split at hs <;> cases hs
      rename_i hob
      obtain ⟨hob, hisr, hini, hc⟩ := hob
      obtain ⟨h6, hf, hlk⟩ := am_fl_i hfl
      obtain ⟨hr, hlt, ht⟩ := am_ob_c hob h6
      show W _ _ _ _ _ _ _ _ _ _ _ _ _ _ _ (F0 m pc lsC (.ref (am_ad B0 b v) :: .ref (am_ad B0 b r) :: st'.map (am_cv B0 b)))
      rw [am_ad_of hr]
      have he := am_ws_get (cy := cy) (B0 := B0) (b := b) (M := M) hlt ht
      unfold am_ce at he
      rw [if_pos h6] at he
      have hq := am_fld c h6 f hf
      obtain ⟨hn1, hn2⟩ := am_refT (hq.2.2.2 hisr) (am_ad B0 b v)
      refine va_putF (ty := am_tX c f) hx hb hts (am_wsX h6) (am_tX c) (am_tX_ok h6) (am_nmX h6) hown hK hP hD hS (am_ix r) he (am_cl6 h6) f hf (hts _ hlk) (fun x h => by rw [hq.1] at h; exact h) (by rw [hq.2.1]; exact hisr) (hmn hini) (by rw [hq.1, hgn, hc]) (am_tX_ok h6 f hf) hn1 hn2 (by rw [List.length_map, List.length_range]; exact hf) hd (fun H1 locs1 hP1 _ hS1 => ?_)
      refine kk (am_nc (am_nc hn).2).2 H1 locs1 (am_H_srf hH ht ?_ hP1) hS1
      unfold am_ce
      rw [if_pos h6]
      congr 2
      refine am_fs_set ?_ (fun j hj => ?_)
      · unfold am_fv am_rf am_srf
        rw [if_pos hisr]
        simp [va_rf]
      · unfold am_fv am_rf am_srf
        simp [hj]
    · cases hs
  · split at hs
    · rename_i _ z i r rest
      have hzn : am_n32 z := (am_nc hn).1
      have hi : am_n32 i := (am_nc (am_nc hn).2).1
      split at hs <;> cases hs
      rename_i har
      obtain ⟨n, hr, hlt, ht, h0, h1⟩ := am_ar_c har (by decide)
      obtain ⟨g1, g2⟩ := am_in h0 h1 hi
      show W _ _ _ _ _ _ _ _ _ _ _ _ _ _ _ (F0 m pc lsC (.int (Int32.ofInt z) :: .int (Int32.ofInt i) :: .ref (am_ad B0 b r) :: st'.map (am_cv B0 b)))
      rw [am_ad_of hr]
      have he := am_ws_get (cy := cy) (B0 := B0) (b := b) (M := M) hlt ht
      have h44 : r.1 ≠ 44 := fun h => by
        have := (am_tab_i ht).2.2.2.2.2
        dsimp only at this
        omega
      refine va_iast hx hb hK hP hD hS (am_ix r) 0 he rfl g1 hd (fun H1 locs1 hP1 _ hS1 => ?_)
      refine kk (am_nc (am_nc (am_nc hn).2).2).2 H1 locs1 (am_H_up hH hr ht (by rw [if_neg h44]; exact hzn) ?_ hP1) hS1
      rw [g2, am_updE h0 rfl]
      rfl
    · cases hs
  · split at hs
    · rename_i _ z i r rest
      have hzn : am_n32 z := (am_nc hn).1
      have hi : am_n32 i := (am_nc (am_nc hn).2).1
      split at hs <;> cases hs
      rename_i har
      obtain ⟨har, hz0, hz1⟩ := har
      obtain ⟨n, hr, hlt, ht, h0, h1⟩ := am_ar_c har (by decide)
      obtain ⟨g1, g2⟩ := am_in h0 h1 hi
      show W _ _ _ _ _ _ _ _ _ _ _ _ _ _ _ (F0 m pc lsC (.int (Int32.ofInt z) :: .int (Int32.ofInt i) :: .ref (am_ad B0 b r) :: st'.map (am_cv B0 b)))
      rw [am_ad_of hr]
      have he := am_ws_get (cy := cy) (B0 := B0) (b := b) (M := M) hlt ht
      have h44 : r.1 ≠ 44 := fun h => by
        have := (am_tab_i ht).2.2.2.2.2
        dsimp only at this
        omega
      refine va_cast hx hb hK hP hD hS (am_ix r) 1 he rfl g1 hd (fun H1 locs1 hP1 _ hS1 => ?_)
      refine kk (am_nc (am_nc (am_nc hn).2).2).2 H1 locs1 (am_H_up hH hr ht (by rw [if_neg h44]; exact hzn) ?_ hP1) hS1
      rw [g2, am_nar_c hz0 hz1, am_updE h0 rfl]
      rfl
    · cases hs
  · split at hs
    · rename_i _ v i r rest
      have hi : am_n32 i := (am_nc (am_nc hn).2).1
      split at hs <;> cases hs
      rename_i har
      obtain ⟨har, hob⟩ := har
      obtain ⟨n, hr, hlt, ht, h0, h1⟩ := am_ar_c har (by decide)
      obtain ⟨hr2, hlt2, ht2⟩ := am_ob_c hob (by decide)
      obtain ⟨g1, g2⟩ := am_in h0 h1 hi
      show W _ _ _ _ _ _ _ _ _ _ _ _ _ _ _ (F0 m pc lsC (.ref (am_ad B0 b v) :: .int (Int32.ofInt i) :: .ref (am_ad B0 b r) :: st'.map (am_cv B0 b)))
      rw [am_ad_of hr, am_ad_of hr2]
      have he := am_ws_get (cy := cy) (B0 := B0) (b := b) (M := M) hlt ht
      have he2 := am_ws_get (cy := cy) (B0 := B0) (b := b) (M := M) hlt2 ht2
      refine va_astq hx hb hK hP hD hS (am_ix r) 4 (am_ix v) 3 he rfl he2 (am_cl6 (by decide)) g1 hd (fun H1 locs1 hP1 _ hS1 => ?_)
      refine kk (am_nc (am_nc (am_nc hn).2).2).2 H1 locs1 (am_H_srf hH ht ?_ hP1) hS1
      rw [g2]
      unfold am_ce
      simp only [show ¬ (10 : Nat) < 6 by decide, show ¬ (10 : Nat) = 9 by decide, if_false, if_true]
      congr 7
      funext j
      unfold va_up am_rf am_srf
      by_cases hj : j = i.toNat
      · rw [if_pos hj]
        simp [hj, am_ad_of hr2]
      · rw [if_neg hj]
        simp [hj]
    · cases hs
  · cases hs
end AMWR
