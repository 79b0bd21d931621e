/-! ===== reads of the heap ===== -/
theorem am_ad_of {B0 b : Nat} {r : am_R} (h : r ≠ (45, 0)) : am_ad B0 b r = B0 + am_ix r := if_neg h
theorem am_tab89 : ∀ t ∈ am_tab, t.2.1 ≠ 8 ∧ t.2.1 ≠ 9 := by decide +kernel
theorem am_ar_i {E : am_E} {r : am_R} {k : Nat} {i : Int} (h : am_ar E r k i = true) : ∃ n, am_kd E r = some (k, n) ∧ 0 ≤ i ∧ i < (n : Int) := by
  unfold am_ar at h
  split at h
  · rename_i k' n hk
    simp only [Bool.and_eq_true, beq_iff_eq, decide_eq_true_eq] at h
    obtain ⟨⟨rfl, h2⟩, h3⟩ := h
    exact ⟨n, hk, h2, h3⟩
  · cases h
theorem am_ob_i {E : am_E} {r : am_R} {c : Nat} (h : am_ob E r c = true) : ∃ n, am_kd E r = some (c, n) := by
  unfold am_ob at h
  split at h
  · rename_i k' n hk
    have : k' = c := by simpa using h
    subst this
    exact ⟨n, hk⟩
  · cases h
theorem am_ob_c {E : am_E} {r : am_R} {c : Nat} (h : am_ob E r c = true) (hc : c < 6) : r ≠ (45, 0) ∧ am_ix r < E.1 ∧ am_tab[am_ix r]? = some (r, c, am_fn c) := by
  obtain ⟨n, hk⟩ := am_ob_i h
  rcases am_kd_i hk with ⟨h1, h2, h3⟩ | ⟨h1, h2, h3⟩
  · omega
  · have h4 := (am_tab_i h3).2.2.2.2.1
    dsimp only at h4
    have h5 : n = am_fn c := by omega
    subst h5
    exact ⟨h1, h2, h3⟩
theorem am_ar_c {E : am_E} {r : am_R} {c : Nat} {i : Int} (h : am_ar E r c i = true) (hc : c ≠ 12) : ∃ n, r ≠ (45, 0) ∧ am_ix r < E.1 ∧ am_tab[am_ix r]? = some (r, c, n) ∧ 0 ≤ i ∧ i < (n : Int) := by
  obtain ⟨n, hk, h4, h5⟩ := am_ar_i h
  rcases am_kd_i hk with ⟨h1, h2, h3⟩ | ⟨h1, h2, h3⟩
  · exact absurd h2 hc
  · exact ⟨n, h1, h2, h3, h4, h5⟩
theorem am_nm_i {M : am_M} (h : am_nm M) {b c : Nat} {j : Int} (hb : b ≠ 44) : am_n32 (M b c j) := by
  have := h b c j
  rwa [if_neg hb] at this
theorem am_nm_j {M : am_M} (h : am_nm M) {c : Nat} {j : Int} : am_n64 (M 44 c j) := by
  have := h 44 c j
  rwa [if_pos rfl] at this
theorem am_ofnat (n : Nat) : Int32.ofNat n = Int32.ofInt (n : Int) := rfl
section AMR
variable {p : Program} {l : Launch} {e : Env} {R : Room} {s : State} {m : MethodId} {args : Array Value} {below : List Frame} {meth : Method} {c : Code} {H : Heap} {locs : List Loc} {cells slots : Nat} {Q : State → Prop}
variable {cc : ByteArray} {pc : Nat} {lsC : Array Slot} {dC : Nat → ClassId} {dI : Nat → Nat → Nat} {cy : Nat → ClassId} {B0 b L : Nat} {xs : Nat → Int32} {E : am_E} {M : am_M} {k : Nat}
theorem am_W_rd (hx : p.tables.exec = Jvm.exec) (hb : c.code = cc) (hF : am_F dC dI cy B0 b L xs s) (hown : s.vm.findClass (am_gn (am_mt k).1) = some m.cls) (hH : am_H dC dI cy B0 b L xs E M H) (hS : va_S (fun q => B0 ≤ q) s.heap H locs)
    {i : Instr} {len : Nat} {st st' : List am_V} (hd : decode cc pc = .ok (i, len)) (hl : len = am_ln i) (hs : am_rd k i st E M = some st') (hn : ∀ v ∈ st, am_nv v)
    (kk : (∀ v ∈ st', am_nv v) → W p l e R s m args below meth c H locs cells slots Q (F0 m (pc + len) lsC (st'.map (am_cv B0 b)))) : W p l e R s m args below meth c H locs cells slots Q (F0 m pc lsC (st.map (am_cv B0 b))) := by
  subst hl
  obtain ⟨hw, hK, hX, hbB, hBs, hL, -, -, -, -, -⟩ := hF
  have hts : ∀ w ∈ am_Ts, w.before args s = true := fun w h => hw w h args
  obtain ⟨hP, hM, -, hEL, hsc⟩ := hH
  unfold am_rd at hs
  split at hs
  · split at hs
    · rename_i idx _ _ r rest c f hfl
      split at hs <;> cases hs
      rename_i hob
      obtain ⟨h6, hf, hlk⟩ := am_fl_i hfl
      obtain ⟨hr, hlt, ht⟩ := am_ob_c hob h6
      show W _ _ _ _ _ _ _ _ _ _ _ _ _ _ _ (F0 m pc lsC (.ref (am_ad B0 b r) :: rest.map (am_cv B0 b)))
      rw [am_ad_of hr]
      have he := am_ws_get (cy := cy) (B0 := B0) (b := b) (M := M) hlt ht
      unfold am_ce at he
      rw [if_pos h6] at he
      have hq := am_fld c h6 f hf
      refine va_get (v := am_fv B0 b E M r c f) hx hb hts (am_wsX h6) hown hK hP (am_ix r) he (am_cl6 h6) f hf (hts _ hlk) (fun x h => by rw [hq.1] at h; exact h) ?_ hd ?_
      · rw [List.getElem?_map, List.getElem?_range hf]; rfl
      · have e1 : am_cv B0 b (bif am_isr c f then am_rv (am_rf E r f) else am_I (M r.1 r.2 f)) = am_fv B0 b E M r c f := by
          unfold am_fv
          cases am_isr c f <;> rfl
        have h44 : r.1 ≠ 44 := fun h => by
          have := (am_tab_i ht).2.2.2.2.2
          dsimp only at this
          omega
        rw [← e1]
        refine kk (am_ncc ?_ (am_nc hn).2)
        cases am_isr c f
        · exact am_nm_i hM h44
        · trivial
    · cases hs
  · split at hs
    · rename_i _ i r rest
      have hi : am_n32 i := (am_nc hn).1
      split at hs <;> cases hs
      rename_i har
      rcases har with har | har
      · obtain ⟨n, hr, hlt, ht, h0, h1⟩ := am_ar_c har (by decide)
        obtain ⟨g1, g2⟩ := am_in h0 h1 hi
        show W _ _ _ _ _ _ _ _ _ _ _ _ _ _ _ (F0 m pc lsC (.int (Int32.ofInt i) :: .ref (am_ad B0 b r) :: rest.map (am_cv B0 b)))
        rw [am_ad_of hr]
        have he := am_ws_get (cy := cy) (B0 := B0) (b := b) (M := M) hlt ht
        have h44 : r.1 ≠ 44 := fun h => by
          have := (am_tab_i ht).2.2.2.2.2
          dsimp only at this
          omega
        refine va_iald hx hb hK hP (am_ix r) 0 he rfl g1 hd ?_
        rw [g2, Int.toNat_of_nonneg h0]
        exact kk (am_ncc (am_nm_i hM h44) (am_nc (am_nc hn).2).2)
      · obtain ⟨n, hk, h0, h1⟩ := am_ar_i har
        rcases am_kd_i hk with ⟨rfl, -, rfl⟩ | ⟨q1, q2, q3⟩
        · rw [hEL] at h1
          obtain ⟨g1, g2⟩ := am_in h0 h1 hi
          show W _ _ _ _ _ _ _ _ _ _ _ _ _ _ _ (F0 m pc lsC (.int (Int32.ofInt i) :: .ref b :: rest.map (am_cv B0 b)))
          refine va_sld hx hb hX (by omega) (show ¬ B0 ≤ b by omega) hS g1 hd ?_
          rw [g2]
          have e2 : M 45 0 i = (xs i.toNat).toInt := by
            have := hsc i.toNat (by omega)
            rwa [Int.toNat_of_nonneg h0] at this
          have e3 : xs i.toNat = Int32.ofInt (M 45 0 i) := by rw [e2, am_ofI]
          rw [e3]
          exact kk (am_ncc (am_nm_i hM (by decide)) (am_nc (am_nc hn).2).2)
        · have := (am_tab_i q3).2.2.2.2.1
          dsimp only at this
          omega
    · cases hs
  · split at hs
    · rename_i _ i r rest
      have hi : am_n32 i := (am_nc hn).1
      split at hs <;> cases hs
      rename_i har
      obtain ⟨n, hr, hlt, ht, h0, h1⟩ := am_ar_c har (by decide)
      obtain ⟨g1, g2⟩ := am_in h0 h1 hi
      show W _ _ _ _ _ _ _ _ _ _ _ _ _ _ _ (F0 m pc lsC (.int (Int32.ofInt i) :: .ref (am_ad B0 b r) :: rest.map (am_cv B0 b)))
      rw [am_ad_of hr]
      have he := am_ws_get (cy := cy) (B0 := B0) (b := b) (M := M) hlt ht
      have h44 : r.1 ≠ 44 := fun h => by
        have := (am_tab_i ht).2.2.2.2.2
        dsimp only at this
        omega
      refine va_cald hx hb hK hP (am_ix r) 1 he rfl g1 hd ?_
      rw [g2, Int.toNat_of_nonneg h0]
      exact kk (am_ncc (am_nm_i hM h44) (am_nc (am_nc hn).2).2)
    · cases hs
  · split at hs
    · rename_i _ i r rest
      have hi : am_n32 i := (am_nc hn).1
      split at hs <;> cases hs
      rename_i har
      obtain ⟨n, hr, hlt, ht, h0, h1⟩ := am_ar_c har (by decide)
      obtain ⟨g1, g2⟩ := am_in h0 h1 hi
      show W _ _ _ _ _ _ _ _ _ _ _ _ _ _ _ (F0 m pc lsC (.int (Int32.ofInt i) :: .ref (am_ad B0 b r) :: rest.map (am_cv B0 b)))
      rw [am_ad_of hr]
      have he := am_ws_get (cy := cy) (B0 := B0) (b := b) (M := M) hlt ht
      refine va_aldq hx hb hK hP (am_ix r) 4 he rfl g1 hd ?_
      rw [g2]
      exact kk (am_ncc trivial (am_nc (am_nc hn).2).2)
    · cases hs
  · split at hs
    · rename_i _ r rest
      split at hs
      · rename_i c n hk
        split at hs <;> cases hs
        rename_i h6
        rcases am_kd_i hk with ⟨rfl, -, rfl⟩ | ⟨hr, hlt, ht⟩
        · show W _ _ _ _ _ _ _ _ _ _ _ _ _ _ _ (F0 m pc lsC (.ref b :: rest.map (am_cv B0 b)))
          refine va_slen hx hb hX (by omega) (show ¬ B0 ≤ b by omega) hS hd ?_
          rw [hEL, am_ofnat] at *
          exact kk (am_ncc ⟨by omega, by omega⟩ (am_nc hn).2)
        · show W _ _ _ _ _ _ _ _ _ _ _ _ _ _ _ (F0 m pc lsC (.ref (am_ad B0 b r) :: rest.map (am_cv B0 b)))
          rw [am_ad_of hr]
          have he := am_ws_get (cy := cy) (B0 := B0) (b := b) (M := M) hlt ht
          have h7 := am_tab_i ht
          dsimp only at h7
          have h8 : c = 6 ∨ c = 7 ∨ c = 8 ∨ c = 9 ∨ c = 10 := by omega
          have kk' := kk (am_ncc (v := am_I n) (show am_n32 n from ⟨by omega, by omega⟩) (am_nc hn).2)
          rcases h8 with rfl | rfl | rfl | rfl | rfl
          · exact va_alen hx hb hK hP (am_ix r) 0 he rfl (am_ofnat n) hd kk'
          · exact va_alen hx hb hK hP (am_ix r) 1 he rfl (am_ofnat n) hd kk'
          · exact absurd rfl (am_tab89 _ (List.mem_of_getElem? ht)).1
          · exact absurd rfl (am_tab89 _ (List.mem_of_getElem? ht)).2
          · exact va_alen hx hb hK hP (am_ix r) 4 he rfl (am_ofnat n) hd kk'
      · cases hs
    · cases hs
  · split at hs
    · rename_i z hz
      cases hs
      obtain ⟨h1, h2⟩ := am_kl_i hz
      exact lv_ldc2 hx hb hown (hts _ h2) hd (kk (am_ncc h1 hn))
    · cases hs
  · split at hs
    · rename_i z hz
      cases hs
      obtain ⟨h1, h2⟩ := am_ki_i hz
      exact lv_ldc hx hb hown (hts _ h2) hd (kk (am_ncc h1 hn))
    · cases hs
  · cases hs
end AMR
