/-! ===== joins: joining and mending take the lifts that were told (written by wip/p32/gens/joins.py) ===== -/
section JOI
variable {S S1 : am_M} {B : Int} {p q : Nat} {x lf fe al me dr : Int}
/-- the tail: undone twice -/
theorem jo_332 (hi : si B S) (hq : pi S) (hy : sy S) {Y1 Y2 : Nat → Int → Int} (h1 : si (B + 576) (sd S Y1)) (p1 : pi (sd S Y1)) (hy1 : sy (sd S Y1)) (h2 : si (B + 1152) (sd (sd S Y1) Y2)) (p2 : pi (sd (sd S Y1) Y2)) {E : am_E} {M : am_M} (hw : wl E M) (hS : st M = sd (sd S Y1) Y2) (hT : st (rl_M M) = sd (sd S Y1) Y2) : l2 5 (B + 2304) E M (am_den 151 (332, [some (am_A (34, 0)), some (am_A (84, 0)), some (am_I x), some (am_I (S 0 0 7)), some (am_I p), some (am_I q), some (am_I lf), some (am_I (S 0 0 11)), some (am_I fe), some (am_I al), some (am_I 1), some (am_I me), some (am_I dr)], [], E, M)) 1 := by
  have hy2 := sy_of hw hS
  obtain ⟨g1, g2, g3, g4⟩ := ud_i h1 p1 hy1 (by rw [show B + 576 + 576 = B + 1152 by omega]; exact h2) p2 hy2
  have hm := hi.2.1
  have hm1 := h1.2.1
  have hc1 := sd_c (Y := Y1) hm
  have hoc := iv_oc hm1
  have en : nw (su (sd (sd S Y1) Y2)) = S 0 := by
    rw [ud_nw hm1 hc1]
    unfold nw
    rw [sd_31.2, show ak_c S + 1 - 1 = ak_c S by omega, sd_new hy]
  have hc3 : su (sd (sd S Y1) Y2) 31 0 2 ≠ 0 := by
    rw [ud_c hm1]
    obtain ⟨a1, a2⟩ := hm1
    unfold ak_c
    split <;> omega
  have c3 := g1.2.1.2
  rw [am_B151_332]
  refine l2_b1 (K := 4) (pc' := 341) (S1' := su (sd (sd S Y1) Y2)) (T1' := sd (sd S Y1) Y2) (c2_s (ct_undo hw hS h2) hT) rfl rfl rfl rfl (fun E M hw hS hT _ => ?_)
  rw [am_B151_341, th_144 g4, am_bd_v]
  simp only [Nat.reduceAdd]
  rw [am_B151_344, if_neg (by decide), am_B151_347]
  refine l2_b1 (K := 3) (pc' := 356) (S1' := su (sd (sd S Y1) Y2)) (T1' := su (sd (sd S Y1) Y2)) (c2_q (cr_undo hw hT h2) hS) rfl rfl rfl rfl (fun E M hw hS hT _ => ?_)
  rw [am_B151_356, th_144 g4, am_bd_v]
  simp only [Nat.reduceAdd]
  rw [am_B151_359, if_neg (by decide), am_B151_362]
  have hy3 := sy_of hw hS
  obtain ⟨S3, e3⟩ : ∃ S3, su (sd (sd S Y1) Y2) = S3 := ⟨_, rfl⟩
  rw [e3] at g1 g2 g3 en hc3 c3 hS hT hy3
  have g5 : -9999001 < sv_undo S3 := by
    unfold sv_undo
    rw [if_neg hc3]
    omega
  have i4 := si_su g1 hy3
  have p4 := pi_su g2 g1.2.1 hy3 hc3 (by rw [en]; exact hq.1)
  have z4 : su S3 0 = S 0 := by rw [su_0 hy3 hc3, en]
  refine l2_b1 (K := 2) (pc' := 371) (S1' := su S3) (T1' := S3) (c2_s (ct_undo hw hS g1) hT) rfl rfl rfl rfl (fun E M hw hS hT _ => ?_)
  rw [am_B151_371, th_144 g5, am_bd_v]
  simp only [Nat.reduceAdd]
  rw [am_B151_374, if_neg (by decide), am_B151_377]
  refine l2_b1 (K := 1) (pc' := 386) (S1' := su S3) (T1' := su S3) (c2_q (cr_undo hw hT g1) hS) rfl rfl rfl rfl (fun E M hw hS hT _ => ?_)
  rw [am_B151_386, th_144 g5, am_bd_v]
  simp only [Nat.reduceAdd]
  rw [am_B151_389, if_neg (by decide), am_B151_392]
  refine l2_b1 (K := 0) (pc' := 400) (S1' := su S3) (T1' := su S3) (c2_s (ct_about hw hS i4) hT) rfl (show _ = S 0 0 11 from by rw [z4]; exact if_pos (by decide)) rfl rfl (fun E M hw hS hT _ => ?_)
  rw [am_B151_400, if_neg (fun z => z rfl), am_B151_405, am_B151_410 (Or.inr rfl)]
  exact l2_ret hw hS hT (si_le i4 (by omega)) p4
theorem lf_w {c : Nat} {x : Int} (h0 : 0 ≤ x) (h1 : x + c < 2147483648) : am_w (at_lf c x - x) = (c : Int) := by
  rw [at_lf_eq _ _ h0 h1, am_wi (by omega) (by omega)]
  omega
theorem jo_lf {Y : Nat → Int → Int} {R : Nat → at_T} (hR : av_tr Y R) (h0 : 0 ≤ Y 0 11) (h1 : Y 0 11 < 2147480000) (hp : p < 4) (hq : q < 4) (hpq : p ≠ q) : am_w (ay_jp Y p q 0 11 - Y 0 11) = (at_co (Y 1) 24 (R p) (R q) : Int) := by
  have := at_co_le (D := Y 1) 24 (R p) (R q)
  rw [(av_jp hR hp hq hpq).2.2.1]
  exact lf_w (c := at_co (Y 1) 24 (R p) (R q)) h0 (by omega)
/-- mended and drawn, in trees -/
theorem jo_md {Y : Nat → Int → Int} (hG : av_G B Y) (hB : B < 2147000000) (hp : (p : Int) < Y 0 7) : am_w (ay_mend Y p 0 11 - Y 0 11) = (mc (Y 1) (Y 2) p 24 : Int) ∧ am_w (ay_de 24 (ay_mend Y p) p 0 11 - ay_mend Y p 0 11) = (dc (Y 1) 24 (mt (Y 1) (Y 2) p 24) : Int) := by
  have h7 := hG.1.1.1
  have hP : 0 ≤ (p : Int) ∧ (p : Int) < Y 0 7 := ⟨Int.natCast_nonneg p, hp⟩
  obtain ⟨⟨T, ht, e⟩, hl⟩ := mend2 hG.1 hP
  obtain ⟨m1, m2, m3, m4, T2, ht2, ha2, ho2⟩ := av_mend hG.1 hP
  have b1 := mc_b (D := Y 1) (H := Y 2) (p := (p : Int)) 24
  have b2 := dc_b (D := Y 1) 24 (mt (Y 1) (Y 2) p 24)
  have g0 := hG.2.2.1
  have g1 := hG.2.2.2
  rw [Int.toNat_natCast] at e ho2
  have hd := de_dc (p := p) 24 (ay_mend Y p) T m1 (by omega) ⟨T2, ht2, ha2, by rw [m3]; exact ho2⟩ ht
  rw [m3, e] at hd
  have h11 : ay_mend Y p 0 11 = Y 0 11 + (mc (Y 1) (Y 2) p 24 : Int) := by rw [hl, at_lf_eq _ _ g0 (by omega)]
  refine ⟨by rw [hl]; exact lf_w (c := mc (Y 1) (Y 2) p 24) g0 (by omega), ?_⟩
  rw [hd]
  exact lf_w (c := dc (Y 1) 24 (mt (Y 1) (Y 2) p 24)) (by omega) (by omega)
theorem jo_200 (hB : B < 2140000000) (hi : si B S) (hq : pi S) (hy : sy S) {Y1 : Nat → Int → Int} (h1 : si (B + 576) (sd S Y1)) (p1 : pi (sd S Y1)) (hp : (p : Int) < Y1 0 7) (hal : al = ac_in Y1 p) {u10 u11 u12 : Option am_V} {E : am_E} {M : am_M} (hw : wl E M) (hS : st M = sd S Y1) (hT : st (rl_M M) = sd S Y1) : l2 20 (B + 2304) E M (am_den 151 (200, [some (am_A (34, 0)), some (am_A (84, 0)), some (am_I x), some (am_I (S 0 0 7)), some (am_I p), some (am_I q), some (am_I lf), some (am_I (S 0 0 11)), some (am_I fe), some (am_I al), u10, u11, u12], [am_I 1], E, M)) 1 := by
  have hy1 := sy_of hw hS
  have y0 : sd S Y1 0 = Y1 := sd_0
  have hG1 : av_G (B + 576) Y1 := by have := h1.1; rw [y0] at this; exact this
  have h7 := hG1.1.1.1
  have hP : 0 ≤ (p : Int) ∧ (p : Int) < Y1 0 7 := ⟨Int.natCast_nonneg p, hp⟩
  obtain ⟨md, dd⟩ := jo_md (p := p) hG1 (by omega) hp
  obtain ⟨m1, m2, m3, m4, T2, ht2, ha2, ho2⟩ := av_mend hG1.1 hP
  rw [Int.toNat_natCast] at ho2
  have m4' : ay_mend Y1 p 2 = Y1 2 := funext m4
  have iv := iv_mend (x := (p : Int)) (y := 0) (z := 0) (show B + 576 < 2147000000 by omega) h1 p1 hy1
  have es : ss_mend (sd S Y1) p 0 0 = sd (sd S Y1) (ay_mend Y1 p) := by
    unfold ss_mend
    rw [y0, if_pos hP]
  rw [es, show B + 576 + 576 = B + 1152 by omega] at iv
  have z0 : sd (sd S Y1) (ay_mend Y1 p) 0 = ay_mend Y1 p := sd_0
  have hG2 : av_G (B + 1152) (ay_mend Y1 p) := by have := iv.1.1; rw [z0] at this; exact this
  have e7 : ay_mend Y1 p 0 7 = Y1 0 7 := ay_mend_0 (by decide)
  have hP2 : 0 ≤ (p : Int) ∧ (p : Int) < ay_mend Y1 p 0 7 := by rw [e7]; exact hP
  obtain ⟨md2, dd2⟩ := jo_md (p := p) hG2 (by omega) hP2.2
  rw [m3, m4'] at dd2
  have b1 := mc_b (D := Y1 1) (H := Y1 2) (p := (p : Int)) 24
  have hin := ac_in_le (Y := Y1) (p := p)
  have ein : ac_in (ay_mend Y1 p) p = ac_in Y1 p := by
    show am_sm (fun l => am_b (ay_mend Y1 p 2 l = (p : Int))) 24 = am_sm (fun l => am_b (Y1 2 l = (p : Int))) 24
    rw [m4']
  have hmc : ac_in Y1 p ≤ (mc (Y1 1) (Y1 2) p 24 : Int) + 1 := by
    obtain ⟨⟨T, ht, e⟩, -⟩ := mend2 hG1.1 hP
    rw [Int.toNat_natCast] at e
    have hsz := (mt_in (D := Y1 1) (H := Y1 2) (p := (p : Int)) 24 (by omega)).2
    rw [← ein, py_cn ht2 ha2 (by omega), tr_un ht2 ht (by omega), e]
    omega
  rw [am_B151_200]
  refine l2_b1 (K := 19) (pc' := 212) (S1' := sd S Y1) (T1' := sd S Y1) (c2_s (ct_mended hw hS h1) hT) rfl (show _ = (mc (Y1 1) (Y1 2) p 24 : Int) from by rw [y0, ← md]; exact (if_pos hP).trans ((if_pos (Or.inl rfl)).trans (if_pos rfl))) rfl rfl (fun E M hw hS hT _ => ?_)
  rw [am_B151_212]
  refine l2_b1 (K := 18) (pc' := 224) (S1' := sd S Y1) (T1' := sd S Y1) (c2_s (ct_mended hw hS h1) hT) rfl (show _ = (dc (Y1 1) 24 (mt (Y1 1) (Y1 2) p 24) : Int) from by rw [y0, ← dd]; exact (if_pos hP).trans ((if_pos (Or.inr rfl)).trans (if_neg (by decide)))) rfl rfl (fun E M hw hS hT _ => ?_)
  rw [am_B151_224, if_neg (by decide), am_B151_231]
  refine l2_b1 (K := 17) (pc' := 241) (S1' := sd (sd S Y1) (ay_mend Y1 p)) (T1' := sd S Y1) (c2_s (ct_mend hw hS h1) hT) rfl (show _ = (mc (Y1 1) (Y1 2) p 24 : Int) from by rw [y0, ← md]; exact if_pos hP) es rfl (fun E M hw hS hT _ => ?_)
  rw [am_B151_241, if_neg (fun z => z rfl), am_B151_246]
  refine l2_b1 (K := 16) (pc' := 256) (S1' := sd (sd S Y1) (ay_mend Y1 p)) (T1' := sd (sd S Y1) (ay_mend Y1 p)) (c2_q (cr_mend hw hT h1) hS) rfl (show _ = (mc (Y1 1) (Y1 2) p 24 : Int) from by rw [y0, ← md]; exact if_pos hP) rfl es (fun E M hw hS hT _ => ?_)
  rw [am_B151_256, if_neg (fun z => z rfl), am_B151_261]
  refine l2_b1 (K := 15) (pc' := 270) (S1' := sd (sd S Y1) (ay_mend Y1 p)) (T1' := sd (sd S Y1) (ay_mend Y1 p)) (c2_s (ct_told hw hS iv.1) hT) rfl (show _ = 0 from by
    rw [z0]
    refine (if_pos hP2).trans ((if_pos (by decide)).trans ?_)
    show am_oa (ay_mend Y1 p) p = 0
    exact hp_oa (by omega) ⟨T2, ht2, ha2, by rw [m3]; exact ho2⟩) rfl rfl (fun E M hw hS hT _ => ?_)
  rw [am_B151_270, if_neg (by decide), am_B151_273]
  refine l2_b1 (K := 14) (pc' := 283) (S1' := sd (sd S Y1) (ay_mend Y1 p)) (T1' := sd (sd S Y1) (ay_mend Y1 p)) (c2_s (ct_mended hw hS iv.1) hT) rfl (show _ = (dc (Y1 1) 24 (mt (Y1 1) (Y1 2) p 24) : Int) from by rw [z0, ← dd2]; exact (if_pos hP2).trans ((if_pos (Or.inr rfl)).trans (if_neg (by decide)))) rfl rfl (fun E M hw hS hT _ => ?_)
  rw [am_B151_283, if_neg (fun z => z rfl), am_B151_288]
  refine l2_b1 (K := 13) (pc' := 297) (S1' := sd (sd S Y1) (ay_mend Y1 p)) (T1' := sd (sd S Y1) (ay_mend Y1 p)) (c2_s (ct_told hw hS iv.1) hT) rfl (show _ = al from by rw [z0, hal, ← ein]; exact (if_pos hP2).trans (if_pos (by decide))) rfl rfl (fun E M hw hS hT _ => ?_)
  rw [am_B151_297, if_neg (fun z => z rfl), am_B151_302]
  by_cases qa : al ≤ 0
  · rw [if_pos qa, am_B151_316, am_B151_317, if_neg (by omega), am_B151_320, am_B151_325, if_neg (by decide)]
    exact l2_le (jo_332 hi hq hy h1 p1 hy1 iv.1 iv.2 hw hS hT) (by omega) (Int.le_refl _)
  · rw [if_neg qa, am_B151_309, am_wi (by omega) (by omega), am_B151_317, if_neg (by omega), am_B151_320, am_B151_325, if_neg (by decide)]
    exact l2_le (jo_332 hi hq hy h1 p1 hy1 iv.1 iv.2 hw hS hT) (by omega) (Int.le_refl _)
theorem jo_151 (hB : B < 2140000000) (hi : si B S) (hq : pi S) (hx : 0 ≤ x ∧ x < 2147483648) {E : am_E} {M : am_M} {u3 u4 u5 u6 u7 u8 u9 u10 u11 u12 : Option am_V} (hw : wl E M) (hS : st M = S) (hT : st (rl_M M) = S) : l2 40 (B + 2304) E M (am_den 151 (0, [some (am_A (34, 0)), some (am_A (84, 0)), some (am_I x), u3, u4, u5, u6, u7, u8, u9, u10, u11, u12], [], E, M)) 1 := by
  have hq1 := hq.1
  have hy := sy_of hw hS
  have h7 := hi.1.1.1.1
  have hG := hi.1
  have g0 := hG.2.2.1
  have g1 := hG.2.2.2
  obtain ⟨p, ep⟩ : ∃ p : Nat, x.tmod (S 0 0 7) = (p : Int) := ⟨(x % S 0 0 7).toNat, by
    have : 0 ≤ x % S 0 0 7 := Int.emod_nonneg _ (by omega)
    rw [Int.tmod_eq_emod_of_nonneg hx.1]; omega⟩
  have hp : (p : Int) < S 0 0 7 := by rw [← ep, Int.tmod_eq_emod_of_nonneg hx.1]; exact Int.emod_lt_of_pos _ (by omega)
  obtain ⟨k, ek⟩ : ∃ k, (am_w (x.tdiv 4)).tmod (am_w (S 0 0 7 - 1)) = k := ⟨_, rfl⟩
  have hk : 0 ≤ k ∧ k < S 0 0 7 - 1 := by
    rw [Int.tdiv_eq_ediv_of_nonneg hx.1, am_wi (by omega) (by omega), am_wi (by omega) (by omega), Int.tmod_eq_emod_of_nonneg (by omega)] at ek
    rw [← ek]
    exact ⟨Int.emod_nonneg _ (by omega), Int.emod_lt_of_pos _ (by omega)⟩
  obtain ⟨q, eq⟩ : ∃ q : Nat, (am_w (am_w ((p : Int) + 1) + k)).tmod (S 0 0 7) = (q : Int) := ⟨(((p : Int) + 1 + k) % S 0 0 7).toNat, by
    have : 0 ≤ ((p : Int) + 1 + k) % S 0 0 7 := Int.emod_nonneg _ (by omega)
    rw [am_wi (z := (p : Int) + 1) (by omega) (by omega), am_wi (by omega) (by omega), Int.tmod_eq_emod_of_nonneg (by omega)]; omega⟩
  have hqq : (q : Int) < S 0 0 7 ∧ p ≠ q := by
    rw [am_wi (z := (p : Int) + 1) (by omega) (by omega), am_wi (by omega) (by omega), Int.tmod_eq_emod_of_nonneg (by omega)] at eq
    have h1 : ((p : Int) + 1 + k) % S 0 0 7 < S 0 0 7 := Int.emod_lt_of_pos _ (by omega)
    refine ⟨by omega, fun z => ?_⟩
    by_cases c : (p : Int) + 1 + k < S 0 0 7
    · rw [Int.emod_eq_of_lt (by omega) c] at eq
      omega
    · have e2 : ((p : Int) + 1 + k) % S 0 0 7 = (p : Int) + 1 + k - S 0 0 7 := by
        rw [← Int.sub_emod_right, Int.emod_eq_of_lt (by omega) (by omega)]
      omega
  obtain ⟨hqr, hpq⟩ := hqq
  have hpi : (p : Int) ≠ (q : Int) := by omega
  have P2 : (0 ≤ (p : Int) ∧ (p : Int) < S 0 0 7) ∧ (0 ≤ (q : Int) ∧ (q : Int) < S 0 0 7) := ⟨⟨by omega, hp⟩, by omega, hqr⟩
  obtain ⟨R, hR, hA⟩ := hi.1.1.2.2
  have hok : fw_ok (S 0 1) R := ⟨S 0, hR, fun _ _ _ => rfl⟩
  have lv := jo_lf (p := p) (q := q) hR g0 (by omega) (by omega) (by omega) hpq
  have lv2 := jo_lf (p := q) (q := p) hR g0 (by omega) (by omega) (by omega) (fun z => hpq z.symm)
  have sy := fw_sy hok (p := q) (q := p) (by omega) (by omega) (fun z => hpq z.symm)
  rw [sy.2] at lv2
  have cb := at_co_le (D := S 0 1) 24 (R p) (R q)
  have fb := f3_b (D := S 0 1) (T := R)
  have inp := ac_in_le (Y := S 0) (p := p)
  have inq := ac_in_le (Y := S 0) (p := q)
  obtain ⟨a1, a2, a3, a4⟩ := av_jp hR (p := p) (q := q) (by omega) (by omega) hpq
  have eR : av_up (av_up R p (at_jn (S 0 1) 24 (R p) (R q))) q (.leaf ()) = fw_t (S 0 1) R p q := rfl
  rw [eR] at a1
  have iv := iv_join (x := (p : Int)) (y := (q : Int)) (z := 0) (show B < 2147000000 by omega) hi hq hy
  have es : ss_join S p q 0 = sd S (ay_jp (S 0) p q) := by
    unfold ss_join
    rw [if_pos P2, if_pos hpi]
  rw [es] at iv
  have y0 : sd S (ay_jp (S 0) p q) 0 = ay_jp (S 0) p q := sd_0
  have e7 : ay_jp (S 0) p q 0 7 = S 0 0 7 := ay_jp_0 (by decide)
  have hp1 : (p : Int) < ay_jp (S 0) p q 0 7 := by rw [e7]; exact hp
  have e11 : ay_jp (S 0) p q 0 11 = S 0 0 11 + (at_co (S 0 1) 24 (R p) (R q) : Int) := by rw [a3, at_lf_eq _ _ g0 (by omega)]
  have eal : ac_in (ay_jp (S 0) p q) p = ac_in (S 0) p + ac_in (S 0) q := by
    have hY1 := iv.1.1.1
    rw [y0] at hY1
    obtain ⟨-, -, T1, ht1, ha1⟩ := hY1
    have hsz := py_sz hR (q := p) (by omega)
    have h24 := at_sz_le (s := R p) (w := R q) (fun x => by
      have h1 := hR.2.1 p (by omega) x
      have h2 := hR.2.1 q (by omega) x
      have h3 := av_dj hR (p := p) (q := q) (by omega) (by omega) hpq x
      omega) (fun x hx => (av_in hR (by omega) hx).2) (fun x hx => (av_in hR (by omega) hx).2)
    rw [py_cn ht1 ha1 (by omega), tr_un ht1 a1 (by omega), fw_t_p hpq, (at_jn_ct (x := 0) 24 (R p) (R q) (by omega)).2, py_cn hR hA (by omega), py_cn hR hA (by omega)]
    omega
  rw [am_B151_0]
  refine l2_b1 (K := 39) (pc' := 8) (S1' := S) (T1' := S) (c2_s (ct_about hw hS hi) hT) rfl (show _ = S 0 0 7 from if_pos (by decide)) rfl rfl (fun E M hw hS hT _ => ?_)
  rw [am_B151_8 (by omega) (by rw [am_wi (by omega) (by omega)]; omega) (by omega), ep, ek, eq]
  refine l2_b1 (K := 38) (pc' := 41) (S1' := S) (T1' := S) (c2_s (ct_ifj hw hS hi) hT) rfl (show _ = (at_co (S 0 1) 24 (R p) (R q) : Int) from by rw [← lv]; exact (if_pos P2).trans (if_pos hpi)) rfl rfl (fun E M hw hS hT _ => ?_)
  rw [am_B151_41]
  refine l2_b1 (K := 37) (pc' := 51) (S1' := S) (T1' := S) (c2_s (ct_about hw hS hi) hT) rfl (show _ = S 0 0 11 from if_pos (by decide)) rfl rfl (fun E M hw hS hT _ => ?_)
  rw [am_B151_51 hw.1]
  refine l2_b1 (K := 36) (pc' := 57) (S1' := S) (T1' := S) (c2_s (ct_fewest hw hS hi (by omega) hR) hT) rfl (show _ = fw_f3 (S 0 1) R from rfl) rfl rfl (fun E M hw hS hT _ => ?_)
  rw [am_B151_57]
  refine l2_b1 (K := 35) (pc' := 68) (S1' := S) (T1' := S) (c2_s (ct_told hw hS hi) hT) rfl (show _ = ac_in (S 0) p from (if_pos P2.1).trans (if_pos (by decide))) rfl rfl (fun E M hw hS hT _ => ?_)
  rw [am_B151_68]
  refine l2_b1 (K := 34) (pc' := 77) (S1' := S) (T1' := S) (c2_s (ct_told hw hS hi) hT) rfl (show _ = ac_in (S 0) q from (if_pos P2.2).trans (if_pos (by decide))) rfl rfl (fun E M hw hS hT _ => ?_)
  rw [am_B151_77, am_wi (z := ac_in (S 0) p + ac_in (S 0) q) (by omega) (by omega), ← eal]
  refine l2_b1 (K := 33) (pc' := 93) (S1' := S) (T1' := S) (c2_s (ct_ifj hw hS hi) hT) rfl (show _ = (at_co (S 0 1) 24 (R p) (R q) : Int) from by rw [← lv2]; exact (if_pos ⟨P2.2, P2.1⟩).trans (if_pos (fun z => hpi z.symm))) rfl rfl (fun E M hw hS hT _ => ?_)
  rw [am_B151_93, if_neg (fun z => z rfl), am_B151_96]
  refine l2_b1 (K := 32) (pc' := 107) (S1' := sd S (ay_jp (S 0) p q)) (T1' := S) (c2_s (ct_join hw hS hi) hT) rfl (show _ = (at_co (S 0 1) 24 (R p) (R q) : Int) from by rw [← lv]; exact (if_pos P2).trans (if_pos hpi)) es rfl (fun E M hw hS hT _ => ?_)
  rw [am_B151_107, if_neg (fun z => z rfl), am_B151_112]
  refine l2_b1 (K := 31) (pc' := 123) (S1' := sd S (ay_jp (S 0) p q)) (T1' := sd S (ay_jp (S 0) p q)) (c2_q (cr_join hw hT hi) hS) rfl (show _ = (at_co (S 0 1) 24 (R p) (R q) : Int) from by rw [← lv]; exact (if_pos P2).trans (if_pos hpi)) rfl es (fun E M hw hS hT _ => ?_)
  rw [am_B151_123, if_neg (fun z => z rfl), am_B151_128]
  refine l2_b1 (K := 30) (pc' := 136) (S1' := sd S (ay_jp (S 0) p q)) (T1' := sd S (ay_jp (S 0) p q)) (c2_s (ct_about hw hS iv.1) hT) rfl (show _ = S 0 0 11 + (at_co (S 0 1) 24 (R p) (R q) : Int) from by rw [y0, ← e11]; exact if_pos (by decide)) rfl rfl (fun E M hw hS hT _ => ?_)
  rw [am_B151_136, am_wi (by omega) (by omega), if_neg (fun z => z rfl), am_B151_144]
  refine l2_b1 (K := 29) (pc' := 153) (S1' := sd S (ay_jp (S 0) p q)) (T1' := sd S (ay_jp (S 0) p q)) (c2_s (ct_told hw hS iv.1) hT) rfl (show _ = ac_in (ay_jp (S 0) p q) p from by rw [y0]; exact (if_pos ⟨by omega, hp1⟩).trans (if_pos (by decide))) rfl rfl (fun E M hw hS hT _ => ?_)
  rw [am_B151_153, if_neg (fun z => z rfl), am_B151_158]
  refine l2_b1 (K := 28) (pc' := 167) (S1' := sd S (ay_jp (S 0) p q)) (T1' := sd S (ay_jp (S 0) p q)) (c2_s (ct_told hw hS iv.1) hT) rfl (show _ = -1 from by
    rw [y0]
    refine (if_pos ⟨by omega, by rw [e7]; exact hqr⟩).trans ((if_pos (by decide)).trans ?_)
    show am_gt (ay_jp (S 0) p q 6) 4 q = -1
    have h := a1.1 q (by omega)
    rw [fw_t_q] at h
    rw [at_gt (n := 4) (by omega)]
    exact h) rfl rfl (fun E M hw hS hT _ => ?_)
  rw [am_B151_167, if_neg (by decide), am_B151_171 hw.1]
  refine l2_b1 (K := 27) (pc' := 179) (S1' := sd S (ay_jp (S 0) p q)) (T1' := sd S (ay_jp (S 0) p q)) (c2_s (ct_fewest (R := fw_t (S 0 1) R p q) hw hS iv.1 (by omega) (by rw [y0]; exact a1)) hT) rfl (show _ = fw_f3 (S 0 1) (fw_t (S 0 1) R p q) from by rw [y0, fw_jp1]) rfl rfl (fun E M hw hS hT _ => ?_)
  have jn := f3_jn hok (p := p) (q := q) (by omega) (by omega) hpq
  have fb2 := f3_b (D := S 0 1) (T := fw_t (S 0 1) R p q)
  have s200 : ∀ (E : am_E) (M : am_M), wl E M → st M = sd S (ay_jp (S 0) p q) → st (rl_M M) = sd S (ay_jp (S 0) p q) → l2 20 (B + 2304) E M (am_den 151 (195, [some (am_A (34, 0)), some (am_A (84, 0)), some (am_I x), some (am_I (S 0 0 7)), some (am_I p), some (am_I q), some (am_I (at_co (S 0 1) 24 (R p) (R q) : Int)), some (am_I (S 0 0 11)), some (am_I (fw_f3 (S 0 1) R)), some (am_I (ac_in (ay_jp (S 0) p q) p)), u10, u11, u12], [], E, M)) 1 := by
    intro E M hw hS hT
    rw [am_B151_195]
    exact jo_200 hB hi hq hy iv.1 iv.2 hp1 rfl hw hS hT
  rw [am_B151_179, am_wi (by omega) (by omega), if_neg (by omega), am_B151_183]
  by_cases q2 : 2 < S 0 0 7
  · rw [if_pos q2]
    exact l2_le (s200 E M hw hS hT) (by omega) (Int.le_refl _)
  · have two := f3_two hok (fw_ge hi.1.1.1 hR (r := 2) (by decide) (by omega)) (fw_ge hi.1.1.1 hR (r := 3) (by decide) (by omega)) (p := p) (q := q) (by omega) (by omega) hpq
    rw [if_neg q2, am_B151_188, if_neg (fun z => z two)]
    exact l2_le (s200 E M hw hS hT) (by omega) (Int.le_refl _)
end JOI
