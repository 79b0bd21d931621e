/-! ===== refuses: calls that are refused by their arguments (written by wip/p32/gens/refuses.py) ===== -/
theorem py_top {Y : Nat → Int → Int} (h : av_Y Y) {p : Nat} (hp : p < 4) (hc : ac_in Y p ≠ 0) : am_gt (Y 6) 4 p ≠ -1 := by
  intro ht
  obtain ⟨T, h1, h2⟩ := h.2.2
  have e := fw_lf_eq ((fw_top h1 hp).mp ht)
  refine hc ?_
  have z : am_sm (fun l => am_b (Y 2 l = (p : Int))) 24 = am_sm (fun _ => 0) 24 := av_sm_cg 24 (fun x a b => by
    refine if_neg (fun q => ?_)
    have := h2 p hp x a b q
    rw [e] at this
    exact absurd this (by simp [at_ct]))
  show am_sm (fun l => am_b (Y 2 l = (p : Int))) 24 = 0
  rw [z]
  rfl
theorem py_hl {Y : Nat → Int → Int} (h : av_Y Y) {p : Int} (ht : am_gt (Y 6) 4 p ≠ -1) : am_gt (Y 2) 24 (am_gt (Y 6) 4 p) ≠ -1 := by
  obtain ⟨h0, h1, h2, h3⟩ := av_top_in h ht
  rw [show am_gt (Y 6) 4 p = Y 6 p from at_gt (n := 4) (by omega), at_gt (n := 24) (by omega), h2]
  omega
theorem py_no {Y : Nat → Int → Int} (h : av_Y Y) {l : Int} (hl : l < 0 ∨ Y 0 8 ≤ l) : am_gt (Y 2) 24 l = -1 := by
  unfold am_gt
  by_cases q : 0 ≤ l ∧ l < ((24 : Nat) : Int)
  · rw [if_pos q]
    rcases h.1.2.2.2.1 l (by omega) (by omega) with z | z
    · exact z.1
    · omega
  · exact if_neg q
section RF
variable {S : am_M} {B x p g no nl : Int}
theorem rf_712 {E : am_E} {M : am_M} (hw : wl E M) (hS : st M = S) (hi : si B S) (hx : 0 ≤ x ∧ x < 100000) (hp : p = S 0 0 7) (hg : g = S 0 0 8) (hp1 : 1 ≤ S 0 0 7) (hno : ¬(0 ≤ no ∧ no < S 0 0 7)) (hnl : am_gt (S 0 2) 24 nl = -1) {u6 : Option am_V} : cs 8 E M (am_den 145 (712, [some (am_A (34, 0)), some (am_I x), some (am_I p), some (am_I g), some (am_I no), some (am_I nl), u6], [am_I 1], E, M)) 1 S := by
  have t9 : x.tmod 9 = x % 9 := Int.tmod_eq_emod_of_nonneg hx.1
  rw [am_B145_712, if_neg (by decide), am_B145_719]
  have go3 : ∀ (E : am_E) (M : am_M), wl E M → st M = S → cs 4 E M (am_den 145 (758, [some (am_A (34, 0)), some (am_I x), some (am_I p), some (am_I g), some (am_I no), some (am_I nl), some (am_I 1)], [], E, M)) 1 S := by
    intro E M hw hS
    rw [am_B145_758]
    refine cs_b1 (pc' := 766) (ct_told hw hS hi) rfl (show _ = ac_in (S 0) ((0 : Nat) : Int) from by exact (if_pos ⟨Int.le_refl _, by omega⟩).trans (if_pos (by decide))) rfl (fun E M hw hS => ?_)
    rw [am_B145_766]
    by_cases q : ac_in (S 0) ((0 : Nat) : Int) = 0
    · rw [if_pos q, am_B145_813, am_B145_818 (Or.inr rfl)]
      exact cs_ret hw hS
    · have hin := ac_in_le (Y := S 0) (p := ((0 : Nat) : Int))
      rw [if_neg q, am_B145_769]
      refine cs_b1 (pc' := 782) (ct_ranked hw hS hi) rfl (show _ = (-9999002) from by rw [t9, am_wi (by omega) (by omega)]; exact (if_pos ⟨⟨Int.le_refl _, by omega⟩, Int.le_refl _, show (0 : Int) < ac_in (S 0) ((0 : Nat) : Int) by omega⟩).trans (if_neg (by omega))) rfl (fun E M hw hS => ?_)
      rw [am_B145_782, if_neg (by decide), am_B145_787]
      refine cs_b1 (pc' := 797) (ct_told hw hS hi) rfl (show _ = am_gt (S 0 6) 4 ((0 : Nat) : Int) from by exact (if_pos ⟨Int.le_refl _, by omega⟩).trans (if_pos (by decide))) rfl (fun E M hw hS => ?_)
      rw [am_B145_797]
      refine cs_b1 (pc' := 808) (ct_log hw hS hi) rfl (show _ = (-9999002) from by rw [t9, am_wi (by omega) (by omega)]; exact (if_pos (py_hl hi.1.1 (py_top hi.1.1 (by decide) q))).trans (if_neg (by omega))) rfl (fun E M hw hS => ?_)
      rw [am_B145_808, if_neg (by decide), am_B145_813, am_B145_818 (Or.inr rfl)]
      exact cs_ret hw hS
  have go2 : ∀ (E : am_E) (M : am_M), wl E M → st M = S → cs 5 E M (am_den 145 (738, [some (am_A (34, 0)), some (am_I x), some (am_I p), some (am_I g), some (am_I no), some (am_I nl), some (am_I 1)], [], E, M)) 1 S := by
    intro E M hw hS
    rw [am_B145_738]
    by_cases q : g < 24
    · rw [if_pos q]
      obtain ⟨n, N, hn, h⟩ := go3 E M hw hS
      exact ⟨n, N, by omega, h⟩
    · rw [if_neg q, am_B145_744]
      refine cs_b1 (pc' := 753) (ct_come hw hS hi) rfl (show _ = (-9999003) from by exact (if_pos ⟨Int.le_refl _, by omega⟩).trans ((if_pos (by decide)).trans (if_neg (by omega)))) (by exact (if_pos ⟨Int.le_refl _, by omega⟩).trans ((if_pos (by decide)).trans (if_neg (by omega)))) (fun E M hw hS => ?_)
      rw [am_B145_753, if_neg (by decide)]
      exact go3 E M hw hS
  by_cases q : p < 4
  · rw [if_pos q]
    obtain ⟨n, N, hn, h⟩ := go2 E M hw hS
    exact ⟨n, N, by omega, h⟩
  · rw [if_neg q, am_B145_724]
    refine cs_le ?_ (show 6 ≤ 8 by decide)
    refine cs_b1 (pc' := 733) (ct_pile hw hS hi) rfl (show _ = (-9999003) from by exact if_neg (by omega)) (by exact if_neg (by omega)) (fun E M hw hS => ?_)
    rw [am_B145_733, if_neg (by decide)]
    exact go2 E M hw hS
theorem rf_536 {E : am_E} {M : am_M} {t : Int} (ht : t < 0 ∨ 99 < t) (hw : wl E M) (hS : st M = S) (hi : si B S) (hx : 0 ≤ x ∧ x < 100000) (hp : p = S 0 0 7) (hg : g = S 0 0 8) (hp1 : 1 ≤ S 0 0 7) (hno : ¬(0 ≤ no ∧ no < S 0 0 7)) (hnl : am_gt (S 0 2) 24 nl = -1) {u6 : Option am_V} : cs 19 E M (am_den 145 (536, [some (am_A (34, 0)), some (am_I x), some (am_I p), some (am_I g), some (am_I no), some (am_I nl), u6], [am_I t, am_I 0, am_I 17, am_A (34, 0)], E, M)) 1 S := by
  have t9 : x.tmod 9 = x % 9 := Int.tmod_eq_emod_of_nonneg hx.1
  have t50 : x.tmod 50 = x % 50 := Int.tmod_eq_emod_of_nonneg hx.1
  rw [am_B145_536]
  refine cs_b1 (pc' := 540) (S1' := S) (ct_till hw hS hi) rfl (show _ = (-9999002) from by exact (if_pos ⟨Int.le_refl _, by omega⟩).trans (if_neg (by omega))) rfl (fun E M hw hS => ?_)
  rw [am_B145_540, if_neg (by decide)]
  rw [am_B145_545]
  refine cs_b1 (pc' := 555) (S1' := S) (ct_ifj hw hS hi) rfl (show _ = (-9999001) from by exact if_neg (fun z => hno z.1)) rfl (fun E M hw hS => ?_)
  rw [am_B145_555, if_neg (by decide)]
  rw [am_B145_560]
  refine cs_b1 (pc' := 570) (S1' := S) (ct_ifj hw hS hi) rfl (show _ = (-9999001) from by exact if_neg (fun z => hno z.2)) rfl (fun E M hw hS => ?_)
  rw [am_B145_570, if_neg (by decide)]
  rw [am_B145_575]
  refine cs_b1 (pc' := 584) (S1' := S) (ct_ifj hw hS hi) rfl (show _ = (-9999002) from by exact (if_pos ⟨⟨Int.le_refl _, by omega⟩, ⟨Int.le_refl _, by omega⟩⟩).trans (if_neg (fun z => z rfl))) rfl (fun E M hw hS => ?_)
  rw [am_B145_584, if_neg (by decide)]
  rw [am_B145_589]
  refine cs_b1 (pc' := 600) (S1' := S) (ct_mended hw hS hi) rfl (show _ = (-9999001) from by exact if_neg hno) rfl (fun E M hw hS => ?_)
  rw [am_B145_600, if_neg (by decide)]
  rw [am_B145_605]
  refine cs_b1 (pc' := 619) (S1' := S) (ct_mended hw hS hi) rfl (show _ = (-9999002) from by rw [t9, am_wi (by omega) (by omega)]; exact (if_pos ⟨Int.le_refl _, by omega⟩).trans (if_neg (by omega))) rfl (fun E M hw hS => ?_)
  rw [am_B145_619, if_neg (by decide)]
  rw [am_B145_624]
  refine cs_b1 (pc' := 638) (S1' := S) (ct_keep hw hS) rfl (show _ = (-9999001) from by rw [t50, am_wi (by omega) (by omega)]; exact if_neg (by omega)) (by rw [t50, am_wi (by omega) (by omega)]; exact if_neg (by omega)) (fun E M hw hS => ?_)
  rw [am_B145_638, if_neg (by decide)]
  rw [am_B145_643]
  refine cs_b1 (pc' := 657) (S1' := S) (ct_back hw hS) rfl (show _ = (-9999001) from by rw [t9, am_wi (by omega) (by omega)]; exact if_neg (by omega)) (by rw [t9, am_wi (by omega) (by omega)]; exact if_neg (by omega)) (fun E M hw hS => ?_)
  rw [am_B145_657, if_neg (by decide)]
  rw [am_B145_662]
  refine cs_b1 (pc' := 668) (S1' := S) (ct_script0 hw hS hi) rfl (show _ = (-9999002) from by exact rfl) rfl (fun E M hw hS => ?_)
  rw [am_B145_668, if_neg (by decide)]
  rw [am_B145_673, am_Wi (by omega) (by omega)]
  refine cs_b1 (pc' := 684) (ct_script1 hw hS hi (by omega)) rfl rfl rfl (fun E M hw hS => ?_)
  rw [am_B145_684, if_neg (by decide)]
  rw [am_B145_689]
  refine cs_b1 (pc' := 702) (S1' := S) (ct_sim hw hS hi) rfl (show _ = (-9999002) from by rw [t9, am_wi (by omega) (by omega)]; exact if_neg (by omega)) rfl (fun E M hw hS => ?_)
  rw [am_B145_702, if_neg (by decide)]
  rw [am_B145_707]
  exact rf_712 hw hS hi hx hp hg hp1 hno hnl
theorem rf_488 {E : am_E} {M : am_M} {t : Int} (ht : t < 0 ∨ 99 < t) (hw : wl E M) (hS : st M = S) (hi : si B S) (hx : 0 ≤ x ∧ x < 100000) (hp : p = S 0 0 7) (hg : g = S 0 0 8) (hp1 : 1 ≤ S 0 0 7) (hno : ¬(0 ≤ no ∧ no < S 0 0 7)) (hnl : am_gt (S 0 2) 24 nl = -1) {u6 : Option am_V} : cs 21 E M (am_den 145 (488, [some (am_A (34, 0)), some (am_I x), some (am_I p), some (am_I g), some (am_I no), some (am_I nl), u6], [am_I t, am_I 15, am_A (34, 0)], E, M)) 1 S := by
  have t9 : x.tmod 9 = x % 9 := Int.tmod_eq_emod_of_nonneg hx.1
  rw [am_B145_488]
  refine cs_b1 (pc' := 493) (S1' := S) (ct_lay hw hS hi) rfl (show _ = (-9999002) from by exact if_neg (by omega)) (by exact if_neg (by omega)) (fun E M hw hS => ?_)
  rw [am_B145_493, if_neg (by decide)]
  rw [am_B145_498]
  refine cs_b1 (pc' := 510) (S1' := S) (ct_till hw hS hi) rfl (show _ = (-9999001) from by exact if_neg hno) rfl (fun E M hw hS => ?_)
  rw [am_B145_510, if_neg (by decide)]
  rw [am_B145_515]
  have t2 : x.tmod 2 = x % 2 := Int.tmod_eq_emod_of_nonneg hx.1
  by_cases q : x.tmod 2 ≠ 0
  · rw [if_pos q, am_B145_529, t9, am_wi (by omega) (by omega)]
    exact rf_536 (by omega) hw hS hi hx hp hg hp1 hno hnl
  · rw [if_neg q, am_B145_525]
    exact rf_536 (by omega) hw hS hi hx hp hg hp1 hno hnl
theorem rf_458 {E : am_E} {M : am_M} {t : Int} (ht : t < 1 ∨ 9 < t) (hw : wl E M) (hS : st M = S) (hi : si B S) (hx : 0 ≤ x ∧ x < 100000) (hp : p = S 0 0 7) (hg : g = S 0 0 8) (hp1 : 1 ≤ S 0 0 7) (hno : ¬(0 ≤ no ∧ no < S 0 0 7)) (hnl : am_gt (S 0 2) 24 nl = -1) {u6 : Option am_V} : cs 22 E M (am_den 145 (458, [some (am_A (34, 0)), some (am_I x), some (am_I p), some (am_I g), some (am_I no), some (am_I nl), u6], [am_I t, am_I 14, am_A (34, 0)], E, M)) 1 S := by
  have t9 : x.tmod 9 = x % 9 := Int.tmod_eq_emod_of_nonneg hx.1
  rw [am_B145_458]
  refine cs_b1 (pc' := 463) (S1' := S) (ct_nights hw hS hi) rfl (show _ = (-9999002) from by exact if_neg (by omega)) (by exact if_neg (by omega)) (fun E M hw hS => ?_)
  rw [am_B145_463, if_neg (by decide)]
  rw [am_B145_468]
  have t2 : x.tmod 2 = x % 2 := Int.tmod_eq_emod_of_nonneg hx.1
  by_cases q : x.tmod 2 ≠ 0
  · rw [if_pos q, am_B145_481, t9, am_wi (by omega) (by omega)]
    exact rf_488 (by omega) hw hS hi hx hp hg hp1 hno hnl
  · rw [if_neg q, am_B145_477]
    exact rf_488 (by omega) hw hS hi hx hp hg hp1 hno hnl
theorem rf_413 {E : am_E} {M : am_M} {t : Int} (ht : t < 1 ∨ 30 < t) (hw : wl E M) (hS : st M = S) (hi : si B S) (hx : 0 ≤ x ∧ x < 100000) (hp : p = S 0 0 7) (hg : g = S 0 0 8) (hp1 : 1 ≤ S 0 0 7) (hno : ¬(0 ≤ no ∧ no < S 0 0 7)) (hnl : am_gt (S 0 2) 24 nl = -1) {u6 : Option am_V} : cs 24 E M (am_den 145 (413, [some (am_A (34, 0)), some (am_I x), some (am_I p), some (am_I g), some (am_I no), some (am_I nl), u6], [am_I t, am_I 12, am_A (34, 0)], E, M)) 1 S := by
  have t9 : x.tmod 9 = x % 9 := Int.tmod_eq_emod_of_nonneg hx.1
  rw [am_B145_413]
  refine cs_b1 (pc' := 418) (S1' := S) (ct_rain hw hS hi) rfl (show _ = (-9999002) from by exact if_neg (by omega)) (by exact if_neg (by omega)) (fun E M hw hS => ?_)
  rw [am_B145_418, if_neg (by decide)]
  rw [am_B145_423]
  refine cs_b1 (pc' := 433) (S1' := S) (ct_mend hw hS hi) rfl (show _ = (-9999001) from by exact if_neg hno) (by exact if_neg hno) (fun E M hw hS => ?_)
  rw [am_B145_433, if_neg (by decide)]
  rw [am_B145_438]
  have t2 : x.tmod 2 = x % 2 := Int.tmod_eq_emod_of_nonneg hx.1
  by_cases q : x.tmod 2 ≠ 0
  · rw [if_pos q, am_B145_451, t9, am_wi (by omega) (by omega)]
    exact rf_458 (by omega) hw hS hi hx hp hg hp1 hno hnl
  · rw [if_neg q, am_B145_447]
    exact rf_458 (by omega) hw hS hi hx hp hg hp1 hno hnl
theorem rf_383 {E : am_E} {M : am_M} {t : Int} (ht : t < 1 ∨ 30 < t) (hw : wl E M) (hS : st M = S) (hi : si B S) (hx : 0 ≤ x ∧ x < 100000) (hp : p = S 0 0 7) (hg : g = S 0 0 8) (hp1 : 1 ≤ S 0 0 7) (hno : ¬(0 ≤ no ∧ no < S 0 0 7)) (hnl : am_gt (S 0 2) 24 nl = -1) {u6 : Option am_V} : cs 25 E M (am_den 145 (383, [some (am_A (34, 0)), some (am_I x), some (am_I p), some (am_I g), some (am_I no), some (am_I nl), u6], [am_I t, am_I 11, am_A (34, 0)], E, M)) 1 S := by
  have t9 : x.tmod 9 = x % 9 := Int.tmod_eq_emod_of_nonneg hx.1
  rw [am_B145_383]
  refine cs_b1 (pc' := 388) (S1' := S) (ct_wind hw hS hi) rfl (show _ = (-9999002) from by exact if_neg (by omega)) (by exact if_neg (by omega)) (fun E M hw hS => ?_)
  rw [am_B145_388, if_neg (by decide)]
  rw [am_B145_393]
  have t2 : x.tmod 2 = x % 2 := Int.tmod_eq_emod_of_nonneg hx.1
  by_cases q : x.tmod 2 ≠ 0
  · rw [if_pos q, am_B145_406, t9, am_wi (by omega) (by omega)]
    exact rf_413 (by omega) hw hS hi hx hp hg hp1 hno hnl
  · rw [if_neg q, am_B145_402]
    exact rf_413 (by omega) hw hS hi hx hp hg hp1 hno hnl
theorem rf_268 {E : am_E} {M : am_M} {t : Int} (ht : t < 0 ∨ 99 < t) (hw : wl E M) (hS : st M = S) (hi : si B S) (hx : 0 ≤ x ∧ x < 100000) (hp : p = S 0 0 7) (hg : g = S 0 0 8) (hp1 : 1 ≤ S 0 0 7) (hno : ¬(0 ≤ no ∧ no < S 0 0 7)) (hnl : am_gt (S 0 2) 24 nl = -1) {u6 : Option am_V} : cs 32 E M (am_den 145 (268, [some (am_A (34, 0)), some (am_I x), some (am_I p), some (am_I g), some (am_I no), some (am_I nl), u6], [am_I t, am_I 0, am_I 7, am_A (34, 0)], E, M)) 1 S := by
  have t9 : x.tmod 9 = x % 9 := Int.tmod_eq_emod_of_nonneg hx.1
  rw [am_B145_268]
  refine cs_b1 (pc' := 272) (S1' := S) (ct_come hw hS hi) rfl (show _ = (-9999002) from by exact (if_pos ⟨Int.le_refl _, by omega⟩).trans (if_neg (by omega))) (by exact (if_pos ⟨Int.le_refl _, by omega⟩).trans (if_neg (by omega))) (fun E M hw hS => ?_)
  rw [am_B145_272, if_neg (by decide)]
  rw [am_B145_277]
  refine cs_b1 (pc' := 287) (S1' := S) (ct_draw hw hS hi) rfl (show _ = (-9999001) from by exact if_neg hno) (by exact if_neg hno) (fun E M hw hS => ?_)
  rw [am_B145_287, if_neg (by decide)]
  rw [am_B145_292]
  refine cs_b1 (pc' := 302) (S1' := S) (ct_take hw hS hi) rfl (show _ = (-9999001) from by exact if_neg (fun z => z hnl)) (by exact if_neg (fun z => z hnl)) (fun E M hw hS => ?_)
  rw [am_B145_302, if_neg (by decide)]
  rw [am_B145_307]
  refine cs_b1 (pc' := 317) (S1' := S) (ct_join hw hS hi) rfl (show _ = (-9999001) from by exact if_neg (fun z => hno z.1)) (by exact if_neg (fun z => hno z.1)) (fun E M hw hS => ?_)
  rw [am_B145_317, if_neg (by decide)]
  rw [am_B145_322]
  refine cs_b1 (pc' := 332) (S1' := S) (ct_join hw hS hi) rfl (show _ = (-9999001) from by exact if_neg (fun z => hno z.2)) (by exact if_neg (fun z => hno z.2)) (fun E M hw hS => ?_)
  rw [am_B145_332, if_neg (by decide)]
  rw [am_B145_337]
  refine cs_b1 (pc' := 346) (S1' := S) (ct_join hw hS hi) rfl (show _ = (-9999002) from by exact (if_pos ⟨⟨Int.le_refl _, by omega⟩, ⟨Int.le_refl _, by omega⟩⟩).trans (if_neg (fun z => z rfl))) (by exact (if_pos ⟨⟨Int.le_refl _, by omega⟩, ⟨Int.le_refl _, by omega⟩⟩).trans (if_neg (fun z => z rfl))) (fun E M hw hS => ?_)
  rw [am_B145_346, if_neg (by decide)]
  rw [am_B145_351]
  refine cs_b1 (pc' := 358) (S1' := S) (ct_covers (z := 0) hw hS hi) rfl (show _ = (-9999001) from by exact if_neg hno) (by exact if_neg hno) (fun E M hw hS => ?_)
  rw [am_B145_358, if_neg (by decide)]
  rw [am_B145_363]
  have t2 : x.tmod 2 = x % 2 := Int.tmod_eq_emod_of_nonneg hx.1
  by_cases q : x.tmod 2 ≠ 0
  · rw [if_pos q, am_B145_376, t9, am_wi (by omega) (by omega)]
    exact rf_383 (by omega) hw hS hi hx hp hg hp1 hno hnl
  · rw [if_neg q, am_B145_372]
    exact rf_383 (by omega) hw hS hi hx hp hg hp1 hno hnl
theorem rf_89 {E : am_E} {M : am_M} {t : Int} (ht : t < 0 ∨ 255 < t) (hw : wl E M) (hS : st M = S) (hi : si B S) (hx : 0 ≤ x ∧ x < 100000) (hp : p = S 0 0 7) (hg : g = S 0 0 8) (hp1 : 1 ≤ S 0 0 7) (hno : ¬(0 ≤ no ∧ no < S 0 0 7)) (hnl : am_gt (S 0 2) 24 nl = -1) {u6 : Option am_V} : cs 42 E M (am_den 145 (89, [some (am_A (34, 0)), some (am_I x), some (am_I p), some (am_I g), some (am_I no), some (am_I nl), u6], [am_I t, am_I 0, am_A (34, 0)], E, M)) 1 S := by
  have t9 : x.tmod 9 = x % 9 := Int.tmod_eq_emod_of_nonneg hx.1
  have t50 : x.tmod 50 = x % 50 := Int.tmod_eq_emod_of_nonneg hx.1
  rw [am_B145_89]
  refine cs_b1 (pc' := 94) (ct_append hw hS ht) rfl rfl rfl (fun E M hw hS => ?_)
  rw [am_B145_94, if_neg (by decide)]
  rw [am_B145_99]
  refine cs_b1 (pc' := 113) (S1' := S) (ct_about hw hS hi) rfl (show _ = (-9999002) from by rw [t50, am_wi (by omega) (by omega)]; exact if_neg (by omega)) rfl (fun E M hw hS => ?_)
  rw [am_B145_113, if_neg (by decide)]
  rw [am_B145_118]
  refine cs_b1 (pc' := 128) (S1' := S) (ct_told hw hS hi) rfl (show _ = (-9999001) from by exact if_neg hno) rfl (fun E M hw hS => ?_)
  rw [am_B145_128, if_neg (by decide)]
  rw [am_B145_133]
  refine cs_b1 (pc' := 147) (S1' := S) (ct_told hw hS hi) rfl (show _ = (-9999002) from by rw [t9, am_wi (by omega) (by omega)]; exact (if_pos ⟨Int.le_refl _, by omega⟩).trans (if_neg (by omega))) rfl (fun E M hw hS => ?_)
  rw [am_B145_147, if_neg (by decide)]
  rw [am_B145_152]
  refine cs_b1 (pc' := 162) (S1' := S) (ct_log hw hS hi) rfl (show _ = (-9999001) from by exact if_neg (fun z => z hnl)) rfl (fun E M hw hS => ?_)
  rw [am_B145_162, if_neg (by decide)]
  rw [am_B145_167]
  refine cs_b1 (pc' := 177) (S1' := S) (ct_ranked hw hS hi) rfl (show _ = (-9999001) from by exact if_neg (fun z => hno z.1)) rfl (fun E M hw hS => ?_)
  rw [am_B145_177, if_neg (by decide)]
  rw [am_B145_182]
  refine cs_b1 (pc' := 193) (S1' := S) (ct_told hw hS hi) rfl (show _ = ac_in (S 0) 0 from by exact (if_pos ⟨Int.le_refl _, by omega⟩).trans (if_pos (by decide))) rfl (fun E M hw hS => ?_)
  have hin := ac_in_le (Y := S 0) (p := 0)
  rw [am_B145_193]
  refine cs_b1 (pc' := 203) (S1' := S) (ct_ranked hw hS hi) rfl (show _ = (-9999001) from by rw [t9, am_wi (by omega) (by omega)]; exact if_neg (fun z => by omega)) rfl (fun E M hw hS => ?_)
  rw [am_B145_203, if_neg (by decide)]
  rw [am_B145_208]
  refine cs_b1 (pc' := 221) (S1' := S) (ct_ranked hw hS hi) rfl (show _ = (-9999001) from by rw [t9, am_wi (by omega) (by omega)]; exact if_neg (fun z => by omega)) rfl (fun E M hw hS => ?_)
  rw [am_B145_221, if_neg (by decide)]
  rw [am_B145_226]
  refine cs_b1 (pc' := 237) (S1' := S) (ct_come hw hS hi) rfl (show _ = (-9999001) from by exact if_neg hno) (by exact if_neg hno) (fun E M hw hS => ?_)
  rw [am_B145_237, if_neg (by decide)]
  rw [am_B145_242]
  have t2 : x.tmod 2 = x % 2 := Int.tmod_eq_emod_of_nonneg hx.1
  by_cases q : x.tmod 2 ≠ 0
  · rw [if_pos q, am_B145_261, t9, am_wi (by omega) (by omega)]
    exact rf_268 (by omega) hw hS hi hx hp hg hp1 hno hnl
  · rw [if_neg q, am_B145_252, t9, am_wi (by omega) (by omega)]
    exact rf_268 (by omega) hw hS hi hx hp hg hp1 hno hnl
theorem rf_62 {E : am_E} {M : am_M} (hw : wl E M) (hS : st M = S) (hi : si B S) (hx : 0 ≤ x ∧ x < 100000) (hp : p = S 0 0 7) (hg : g = S 0 0 8) (hp1 : 1 ≤ S 0 0 7) (hno : ¬(0 ≤ no ∧ no < S 0 0 7)) (hnl : nl < 0 ∨ S 0 0 8 ≤ nl) {u5 u6 : Option am_V} : cs 42 E M (am_den 145 (62, [some (am_A (34, 0)), some (am_I x), some (am_I p), some (am_I g), some (am_I no), u5, u6], [am_I nl], E, M)) 1 S := by
  have hnl := py_no hi.1.1 hnl
  have t9 : x.tmod 9 = x % 9 := Int.tmod_eq_emod_of_nonneg hx.1
  rw [am_B145_62]
  have t2 : x.tmod 2 = x % 2 := Int.tmod_eq_emod_of_nonneg hx.1
  by_cases q : x.tmod 2 ≠ 0
  · rw [if_pos q, am_B145_81, t9, am_wi (by omega) (by omega)]
    exact rf_89 (by omega) hw hS hi hx hp hg hp1 hno hnl
  · rw [if_neg q, am_B145_72, t9, am_wi (by omega) (by omega)]
    exact rf_89 (by omega) hw hS hi hx hp hg hp1 hno hnl
theorem rf_0 {E : am_E} {M : am_M} (hw : wl E M) (hS : st M = S) (hi : si B S) (hx : 0 ≤ x ∧ x < 100000) (hp1 : 1 ≤ S 0 0 7) {u2 u3 u4 u5 u6 : Option am_V} : cs 44 E M (am_den 145 (0, [some (am_A (34, 0)), some (am_I x), u2, u3, u4, u5, u6], [], E, M)) 1 S := by
  obtain ⟨hb1, hb2, -⟩ := hi.1.1.1
  have t99 : x.tmod 99 = x % 99 := Int.tmod_eq_emod_of_nonneg hx.1
  rw [am_B145_0]
  refine cs_b1 (pc' := 8) (ct_about hw hS hi) rfl (show _ = S 0 0 7 from by exact if_pos (by decide)) rfl (fun E M hw hS => ?_)
  rw [am_B145_8]
  refine cs_b1 (pc' := 17) (ct_about hw hS hi) rfl (show _ = S 0 0 8 from by exact if_pos (by decide)) rfl (fun E M hw hS => ?_)
  rw [am_B145_17]
  by_cases q : x.tmod 2 ≠ 0
  · rw [if_pos q, am_B145_33, t99, am_wi (by omega) (by omega), am_B145_39, if_pos q, am_B145_56, t99, am_wi (by omega) (by omega)]
    exact rf_62 hw hS hi hx rfl rfl hp1 (by omega) (by omega)
  · rw [if_neg q, am_B145_24, t99, am_wi (by omega) (by omega), am_B145_39, if_neg q, am_B145_47, t99, am_wi (by omega) (by omega)]
    exact rf_62 hw hS hi hx rfl rfl hp1 (by omega) (by omega)
end RF
