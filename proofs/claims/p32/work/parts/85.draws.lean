/-! ===== draws: a pile that is not off is drawn in its order (written by wip/p32/gens/draws.py) ===== -/
section DRW
variable {S : am_M} {B : Int} {p : Nat} {x t nx : Int}
theorem dt_b (hi : si B S) (hp : (p : Int) < S 0 0 7) : 0 ≤ ac_dt 24 (S 0) p t 0 ∧ ac_dt 24 (S 0) p t 0 ≤ ac_in (S 0) p := by
  have h := cn_le (Y := S 0) (p := p) (w := t)
  rw [dt_24 hi.1.1 hp]
  split <;> omega
theorem bn_9 {Y : Nat → Int → Int} (hY : av_Y Y) (ht : am_gt (Y 6) 4 p ≠ -1) : ay_burn Y p 0 9 = Y 0 9 + 1 := by
  have h9 := av_H9 hY
  obtain ⟨t1, t2, t3, t4⟩ := av_top_in hY ht
  have c : ∀ c x, c ≠ 0 → ay_bn0 Y p c x = Y c x := fun c x hc => ay_bn0_fr (Or.inl hc)
  have eb : ay_burn Y p = am_rmv (ay_bn0 Y p) (Y 6 p) := by
    unfold ay_burn
    rw [at_gt (by omega), c 6 p (by decide)]
  rw [eb, ay_rmv_fr ⟨by decide, by decide, by decide, Or.inr (by decide)⟩ (by decide) (by decide)]
  unfold ay_bn0 ay_bn2 ay_bn1
  split
  · rw [ay_uy_ne (Or.inr (by decide)), ay_uy_eq, am_wi (by omega) (by omega)]
  · rw [ay_uy_ne (Or.inr (by decide)), ay_uy_eq, am_wi (by omega) (by omega)]
/-- the tail: undone it is as before, and what was told holds -/
theorem dr_283 (hi : si B S) (hq : pi S) (hy : sy S) (hp : (p : Int) < S 0 0 7) (ht : 0 ≤ t ∧ t ≤ 99) {Y1 : Nat → Int → Int} (h1 : si (B + 576) (sd S Y1)) (h2 : pi (sd S Y1)) {E : am_E} {M : am_M} (hw : wl E M) (hS : st M = sd S Y1) (hT : st (rl_M M) = sd S Y1) : l2 10 (B + 1152) E M (am_den 150 (283, [some (am_A (34, 0)), some (am_A (84, 0)), some (am_I x), some (am_I p), some (am_I t), some (am_I (ac_dt 24 (S 0) p t 0)), some (am_I (ac_in (S 0) p)), some (am_I (ay_why (S 0) p)), some (am_I (am_gt (S 0 6) 4 p)), some (am_I nx), some (am_I (S 0 0 9)), some (am_I 1)], [], E, M)) 1 := by
  have hy1 := sy_of hw hS
  obtain ⟨g1, g2, g3, g4⟩ := ud_i hi hq hy h1 h2 hy1
  have hin := ac_in_le (Y := S 0) (p := p)
  have hdt := dt_b (t := t) hi hp
  rw [am_B150_283, if_neg (by decide), am_B150_288]
  refine l2_b1 (K := 9) (pc' := 297) (S1' := su (sd S Y1)) (T1' := sd S Y1) (c2_s (ct_undo hw hS h1) hT) rfl rfl rfl rfl (fun E M hw hS hT _ => ?_)
  rw [am_B150_297, th_144 g4, am_bd_v]
  simp only [Nat.reduceAdd]
  rw [am_B150_300, if_neg (by decide), am_B150_303]
  refine l2_b1 (K := 8) (pc' := 312) (S1' := su (sd S Y1)) (T1' := su (sd S Y1)) (c2_q (cr_undo hw hT h1) hS) rfl rfl rfl rfl (fun E M hw hS hT _ => ?_)
  rw [am_B150_312, th_144 g4, am_bd_v]
  simp only [Nat.reduceAdd]
  rw [am_B150_315, if_neg (by decide), am_B150_318]
  obtain ⟨S2, e2⟩ : ∃ S2, su (sd S Y1) = S2 := ⟨_, rfl⟩
  rw [e2] at g1 g2 g3 hS hT
  refine l2_b1 (K := 7) (pc' := 326) (S1' := S2) (T1' := S2) (c2_s (ct_told hw hS g1) hT) rfl (show _ = am_gt (S 0 6) 4 p from by rw [g3]; exact (if_pos ⟨Int.natCast_nonneg p, hp⟩).trans (if_pos (by decide))) rfl rfl (fun E M hw hS hT _ => ?_)
  rw [am_B150_326, if_neg (fun z => z rfl), am_B150_331]
  refine l2_b1 (K := 6) (pc' := 339) (S1' := S2) (T1' := S2) (c2_s (ct_about hw hS g1) hT) rfl (show _ = S 0 0 9 from by rw [g3]; exact if_pos (by decide)) rfl rfl (fun E M hw hS hT _ => ?_)
  rw [am_B150_339, if_neg (fun z => z rfl), am_B150_344, am_B150_349]
  by_cases qw : ay_why (S 0) p = 0
  · have ho := (av_why0 qw).2
    have en : ac_dt 24 (S 0) p t 0 = cn (S 0) p t := by rw [dt_24 hi.1.1 hp, if_pos qw]
    rw [if_neg (fun z => z qw), am_B150_356, if_neg (by decide), am_B150_361]
    have s389 : ∀ (E : am_E) (M : am_M), wl E M → st M = S2 → st (rl_M M) = S2 → l2 4 (B + 1152) E M (am_den 150 (389, [some (am_A (34, 0)), some (am_A (84, 0)), some (am_I x), some (am_I p), some (am_I t), some (am_I (ac_dt 24 (S 0) p t 0)), some (am_I (ac_in (S 0) p)), some (am_I (ay_why (S 0) p)), some (am_I (am_gt (S 0 6) 4 p)), some (am_I nx), some (am_I (S 0 0 9)), some (am_I 1)], [], E, M)) 1 := by
      intro E M hw hS hT
      rw [am_B150_389]
      by_cases q0 : ac_dt 24 (S 0) p t 0 = 0
      · rw [if_pos q0, am_B150_417, am_B150_422, am_B150_424 (Or.inr rfl)]
        exact l2_ret hw hS hT g1 g2
      · have a12 : av_pi (S 0) p (rkv (S 0) p (cn (S 0) p t - 1)) ∧ _ := rk_at hi.1.1 ⟨Int.natCast_nonneg p, hp⟩ ho (l := cn (S 0) p t - 1) ⟨by omega, by omega⟩
        rw [if_neg q0, am_B150_394, am_wi (by omega) (by omega), en]
        refine l2_b1 (K := 3) (pc' := 407) (S1' := S2) (T1' := S2) (c2_s (ct_ranked hw hS g1) hT) rfl (show _ = rkv (S 0) p (cn (S 0) p t - 1) from by rw [g3]; exact sv_rk hi.1.1 ⟨Int.natCast_nonneg p, hp⟩ ho ⟨by omega, by omega⟩ (Or.inr rfl)) rfl rfl (fun E M hw hS hT _ => ?_)
        rw [am_B150_407]
        refine l2_b1 (K := 2) (pc' := 412) (S1' := S2) (T1' := S2) (c2_s (ct_log hw hS g1) hT) rfl (show _ = S 0 1 (rkv (S 0) p (cn (S 0) p t - 1)) from by rw [g3]; exact lo_0 (rk_lv (Int.natCast_nonneg p) a12.1)) rfl rfl (fun E M hw hS hT _ => ?_)
        have hd := rk_dry (w := t) hi.1.1 hp ho (by omega)
        rw [am_B150_412, if_neg (by omega), am_B150_417, am_B150_422, am_B150_424 (Or.inr rfl)]
        exact l2_ret hw hS hT g1 g2
    by_cases qn : ac_dt 24 (S 0) p t 0 = ac_in (S 0) p
    · rw [if_pos qn]
      exact l2_le (s389 E M hw hS hT) (by omega) (by omega)
    · have a12 : av_pi (S 0) p (rkv (S 0) p (cn (S 0) p t)) ∧ _ := rk_at hi.1.1 ⟨Int.natCast_nonneg p, hp⟩ ho (l := cn (S 0) p t) ⟨by omega, by omega⟩
      rw [if_neg qn, am_B150_368]
      refine l2_b1 (K := 5) (pc' := 379) (S1' := S2) (T1' := S2) (c2_s (ct_ranked hw hS g1) hT) rfl (show _ = rkv (S 0) p (cn (S 0) p t) from by rw [g3, en]; exact sv_rk hi.1.1 ⟨Int.natCast_nonneg p, hp⟩ ho ⟨by omega, by omega⟩ (Or.inl rfl)) rfl rfl (fun E M hw hS hT _ => ?_)
      rw [am_B150_379]
      refine l2_b1 (K := 4) (pc' := 384) (S1' := S2) (T1' := S2) (c2_s (ct_log hw hS g1) hT) rfl (show _ = S 0 1 (rkv (S 0) p (cn (S 0) p t)) from by rw [g3]; exact lo_0 (rk_lv (Int.natCast_nonneg p) a12.1)) rfl rfl (fun E M hw hS hT _ => ?_)
      have hd := rk_wet (w := t) hi.1.1 hp ho (by omega)
      rw [am_B150_384, if_neg (by omega)]
      exact s389 E M hw hS hT
  · rw [if_pos qw, am_B150_424 (Or.inr rfl)]
    exact l2_ret hw hS hT g1 g2
/-- from the draw on -/
theorem dr_119 (hB : B < 2147000000) (hi : si B S) (hq : pi S) (hp : (p : Int) < S 0 0 7) (ht : 0 ≤ t ∧ t ≤ 99) (hnx : nx = if ay_why (S 0) p = 0 ∧ 1 < ac_in (S 0) p then rkv (S 0) p 1 else -1) {u11 : Option am_V} {E : am_E} {M : am_M} (hw : wl E M) (hS : st M = S) (hT : st (rl_M M) = S) : l2 20 (B + 1152) E M (am_den 150 (119, [some (am_A (34, 0)), some (am_A (84, 0)), some (am_I x), some (am_I p), some (am_I t), some (am_I (ac_dt 24 (S 0) p t 0)), some (am_I (ac_in (S 0) p)), some (am_I (ay_why (S 0) p)), some (am_I (am_gt (S 0 6) 4 p)), some (am_I nx), some (am_I (S 0 0 9)), u11], [], E, M)) 1 := by
  have hy := sy_of hw hS
  have hin := ac_in_le (Y := S 0) (p := p)
  have hdt := dt_b (t := t) hi hp
  have h9 := av_H9 hi.1.1
  have iv := iv_draw (x := (p : Int)) (y := 0) (z := 0) hB hi hq hy
  obtain ⟨Y1, eY⟩ : ∃ Y1, (if ay_why (S 0) p = 0 then ay_burn (S 0) p else am_uy (S 0) 0 15 (am_w (S 0 0 15 + 1))) = Y1 := ⟨_, rfl⟩
  have es : ss_draw S p 0 0 = sd S Y1 := by
    unfold ss_draw
    rw [if_pos ⟨Int.natCast_nonneg p, hp⟩, eY]
  rw [es] at iv
  have y0 : sd S Y1 0 = Y1 := sd_0
  have n1 := (iv.1.1.1.2.1).2.1
  rw [am_B150_119]
  refine l2_b1 (K := 19) (pc' := 128) (S1' := sd S Y1) (T1' := S) (c2_s (ct_draw hw hS hi) hT) rfl (show _ = ay_why (S 0) p from if_pos ⟨Int.natCast_nonneg p, hp⟩) es rfl (fun E M hw hS hT _ => ?_)
  rw [am_B150_128, if_neg (fun z => z rfl), am_B150_133]
  refine l2_b1 (K := 18) (pc' := 142) (S1' := sd S Y1) (T1' := sd S Y1) (c2_q (cr_draw hw hT hi) hS) rfl (show _ = ay_why (S 0) p from if_pos ⟨Int.natCast_nonneg p, hp⟩) rfl es (fun E M hw hS hT _ => ?_)
  rw [am_B150_142, if_neg (fun z => z rfl), am_B150_147]
  by_cases qw : ay_why (S 0) p = 0
  · obtain ⟨hto, ho⟩ := av_why0 qw
    rw [if_pos qw] at eY
    obtain ⟨t1, t2, t3, t4⟩ := av_top_in hi.1.1 hto
    have hY' := (av_burn hi.1.1 hto).1
    have hpb := hp_burn hi.1.1 (by omega) (hp_of hi.1.1 (p := p) (by have := hi.1.1.1.1; omega) ho) hto
    have e9 : Y1 0 9 = S 0 0 9 + 1 := by rw [← eY]; exact bn_9 hi.1.1 hto
    have e7 : Y1 0 7 = S 0 0 7 := by rw [← eY]; exact bn_7
    have hp' : (0 : Int) ≤ p ∧ (p : Int) < Y1 0 7 := ⟨Int.natCast_nonneg p, by rw [e7]; exact hp⟩
    have en : ac_dt 24 (S 0) p t 0 = cn (S 0) p t := by rw [dt_24 hi.1.1 hp, if_pos qw]
    have ecn := bn_cn (w := t) hi.1.1 hto
    have ein := bn_in hi.1.1 hto
    have e11 : ac_dt 24 Y1 p t 0 = cn Y1 p t := by
      rw [← eY, dt_cn 24 _ 0 hY' (by rw [bn_7]; exact hp) (by rw [hp_oa (by have := hi.1.1.1.1; omega) hpb]; exact Int.le_refl _) ac_in_le.2]
      omega
    have ncn := cn_le (Y := Y1) (p := p) (w := t)
    refine l2_b1 (K := 17) (pc' := 155) (S1' := sd S Y1) (T1' := sd S Y1) (c2_s (ct_about hw hS iv.1) hT) rfl (show _ = S 0 0 9 + 1 from by rw [y0, ← e9]; exact if_pos (by decide)) rfl rfl (fun E M hw hS hT _ => ?_)
    rw [am_B150_155, if_neg (fun z => z qw), am_B150_162, am_B150_167, am_wi (by omega) (by omega), if_neg (fun z => z rfl), am_B150_171, am_B150_176, if_neg (fun z => z qw), am_B150_183, if_neg (by decide), am_B150_188]
    refine l2_b1 (K := 16) (pc' := 196) (S1' := sd S Y1) (T1' := sd S Y1) (c2_s (ct_told hw hS iv.1) hT) rfl (show _ = ac_in (S 0) p - 1 from by rw [y0, ← ein, eY]; exact (if_pos hp').trans (if_pos (by decide))) rfl rfl (fun E M hw hS hT _ => ?_)
    rw [am_B150_196, am_wi (by omega) (by omega), if_neg (fun z => z rfl), am_B150_203]
    refine l2_b1 (K := 15) (pc' := 212) (S1' := sd S Y1) (T1' := sd S Y1) (c2_s (ct_log hw hS iv.1) hT) rfl (show _ = (-9999001) from by
      rw [y0]
      refine lo_n ?_
      have e6 : am_gt (S 0 6) 4 p = S 0 6 p := at_gt (n := 4) (by omega)
      rw [at_gt (n := 24) (by rw [e6]; omega), ← eY, bn_2 hi.1.1 hto, if_pos rfl]) rfl rfl (fun E M hw hS hT _ => ?_)
    rw [am_B150_212, if_neg (by decide), am_B150_217]
    refine l2_b1 (K := 14) (pc' := 225) (S1' := sd S Y1) (T1' := sd S Y1) (c2_s (ct_told hw hS iv.1) hT) rfl (show _ = nx from by
      have eb := bn_top hi.1.1 hp qw
      rw [y0, hnx]
      refine (if_pos hp').trans ((if_pos (by decide)).trans ?_)
      show am_gt (Y1 6) 4 p = _
      rw [← eY, eb]
      by_cases q1 : 1 < ac_in (S 0) p
      · rw [if_pos q1, if_pos ⟨qw, q1⟩]
      · rw [if_neg q1, if_neg (fun z => q1 z.2)]) rfl rfl (fun E M hw hS hT _ => ?_)
    rw [am_B150_225, if_neg (fun z => z rfl), am_B150_230]
    refine l2_b1 (K := 13) (pc' := 238) (S1' := sd S Y1) (T1' := sd S Y1) (c2_s (ct_told hw hS iv.1) hT) rfl (show _ = 0 from by
      rw [y0]
      refine (if_pos hp').trans ((if_pos (by decide)).trans ?_)
      show am_oa Y1 p = 0
      rw [← eY]
      exact hp_oa (by omega) hpb) rfl rfl (fun E M hw hS hT _ => ?_)
    rw [am_B150_238, if_neg (by decide), am_B150_241]
    refine l2_b1 (K := 12) (pc' := 251) (S1' := sd S Y1) (T1' := sd S Y1) (c2_s (ct_till hw hS iv.1) hT) rfl (show _ = cn Y1 p t from by
      rw [y0, ← e11]
      exact (if_pos hp').trans (if_pos ht)) rfl rfl (fun E M hw hS hT _ => ?_)
    have s273 : ∀ (E : am_E) (M : am_M), wl E M → st M = sd S Y1 → st (rl_M M) = sd S Y1 → l2 11 (B + 1152) E M (am_den 150 (273, [some (am_A (34, 0)), some (am_A (84, 0)), some (am_I x), some (am_I p), some (am_I t), some (am_I (ac_dt 24 (S 0) p t 0)), some (am_I (ac_in (S 0) p)), some (am_I (ay_why (S 0) p)), some (am_I (am_gt (S 0 6) 4 p)), some (am_I nx), some (am_I (S 0 0 9)), some (am_I 1)], [am_I (cn Y1 p t), am_I (cn Y1 p t)], E, M)) 1 := by
      intro E M hw hS hT
      rw [am_B150_273, if_neg (fun z => z rfl), am_B150_276, am_B150_281]
      exact l2_le (dr_283 hi hq hy hp ht iv.1 iv.2 hw hS hT) (by omega) (Int.le_refl _)
    rw [am_B150_251]
    by_cases q0 : ac_dt 24 (S 0) p t 0 = 0
    · rw [if_neg (fun z => z q0), am_B150_256]
      refine l2_b1 (K := 11) (pc' := 266) (S1' := sd S Y1) (T1' := sd S Y1) (c2_s (ct_till hw hS iv.1) hT) rfl (show _ = cn Y1 p t from by
        rw [y0, ← e11]
        exact (if_pos hp').trans (if_pos ht)) rfl rfl (fun E M hw hS hT _ => ?_)
      rw [am_B150_266]
      exact s273 E M hw hS hT
    · have etd : ay_td (S 0) p ≤ t := by
        refine Int.not_lt.mp (fun z => ?_)
        have := cn_0 (w := t) hi.1.1 hp ho (Or.inr z)
        omega
      rw [if_pos etd, eY] at ecn
      rw [if_pos q0, am_B150_269, am_wi (by omega) (by omega), en, ← ecn]
      have t9 := s273 E M hw hS hT
      rw [en] at t9
      exact l2_le t9 (by omega) (Int.le_refl _)
  · rw [if_neg qw] at eY
    have e9 : Y1 0 9 = S 0 0 9 := by rw [← eY]; exact ay_uy_ne (Or.inr (by decide))
    refine l2_b1 (K := 17) (pc' := 155) (S1' := sd S Y1) (T1' := sd S Y1) (c2_s (ct_about hw hS iv.1) hT) rfl (show _ = S 0 0 9 from by rw [y0, ← e9]; exact if_pos (by decide)) rfl rfl (fun E M hw hS hT _ => ?_)
    rw [am_B150_155, if_pos qw, am_B150_166, am_B150_167, am_wi (by omega) (by omega), Int.add_zero, if_neg (fun z => z rfl), am_B150_171, am_B150_176, if_pos qw]
    exact l2_le (dr_283 hi hq hy hp ht iv.1 iv.2 hw hS hT) (by omega) (Int.le_refl _)
theorem dr_150 (hB : B < 2147000000) (hi : si B S) (hq : pi S) (hx : 0 ≤ x ∧ x < 2147483648) {E : am_E} {M : am_M} {u3 u4 u5 u6 u7 u8 u9 u10 u11 : Option am_V} (hw : wl E M) (hS : st M = S) (hT : st (rl_M M) = S) : l2 30 (B + 1152) E M (am_den 150 (0, [some (am_A (34, 0)), some (am_A (84, 0)), some (am_I x), u3, u4, u5, u6, u7, u8, u9, u10, u11], [], E, M)) 1 := by
  have hq1 := hq.1
  have h7 := hi.1.1.1.1
  have mp : 0 ≤ x % S 0 0 7 ∧ x % S 0 0 7 < S 0 0 7 := ⟨Int.emod_nonneg _ (by omega), Int.emod_lt_of_pos _ (by omega)⟩
  obtain ⟨p, ep⟩ : ∃ p : Nat, x.tmod (S 0 0 7) = (p : Int) := ⟨(x % S 0 0 7).toNat, by rw [Int.tmod_eq_emod_of_nonneg hx.1]; omega⟩
  have hp : (p : Int) < S 0 0 7 := by rw [← ep, Int.tmod_eq_emod_of_nonneg hx.1]; exact mp.2
  obtain ⟨t, et⟩ : ∃ t, (am_w (x.tdiv 4)).tmod 100 = t := ⟨_, rfl⟩
  have ht : 0 ≤ t ∧ t ≤ 99 := by
    rw [Int.tdiv_eq_ediv_of_nonneg hx.1, am_wi (by omega) (by omega), Int.tmod_eq_emod_of_nonneg (by omega)] at et
    omega
  have hin := ac_in_le (Y := S 0) (p := p)
  have hdt := dt_b (t := t) hi hp
  rw [am_B150_0]
  refine l2_b1 (K := 29) (pc' := 9) (S1' := S) (T1' := S) (c2_s (ct_about hw hS hi) hT) rfl (show _ = S 0 0 7 from if_pos (by decide)) rfl rfl (fun E M hw hS hT _ => ?_)
  rw [am_B150_9 (by omega), ep, et]
  refine l2_b1 (K := 28) (pc' := 29) (S1' := S) (T1' := S) (c2_s (ct_till hw hS hi) hT) rfl (show _ = ac_dt 24 (S 0) p t 0 from (if_pos ⟨Int.natCast_nonneg p, hp⟩).trans (if_pos ht)) rfl rfl (fun E M hw hS hT _ => ?_)
  rw [am_B150_29]
  refine l2_b1 (K := 27) (pc' := 39) (S1' := S) (T1' := S) (c2_s (ct_told hw hS hi) hT) rfl (show _ = ac_in (S 0) p from (if_pos ⟨Int.natCast_nonneg p, hp⟩).trans (if_pos (by decide))) rfl rfl (fun E M hw hS hT _ => ?_)
  rw [am_B150_39]
  refine l2_b1 (K := 26) (pc' := 50) (S1' := S) (T1' := S) (c2_s (ct_told hw hS hi) hT) rfl (show _ = ay_why (S 0) p from (if_pos ⟨Int.natCast_nonneg p, hp⟩).trans (if_pos (by decide))) rfl rfl (fun E M hw hS hT _ => ?_)
  rw [am_B150_50]
  refine l2_b1 (K := 25) (pc' := 60) (S1' := S) (T1' := S) (c2_s (ct_told hw hS hi) hT) rfl (show _ = am_gt (S 0 6) 4 p from (if_pos ⟨Int.natCast_nonneg p, hp⟩).trans (if_pos (by decide))) rfl rfl (fun E M hw hS hT _ => ?_)
  have s85 : ∀ (nx : Int), nx = (if ay_why (S 0) p = 0 ∧ 1 < ac_in (S 0) p then rkv (S 0) p 1 else -1) → ∀ (E : am_E) (M : am_M) (u9 u10 u11 : Option am_V), wl E M → st M = S → st (rl_M M) = S → l2 21 (B + 1152) E M (am_den 150 (85, [some (am_A (34, 0)), some (am_A (84, 0)), some (am_I x), some (am_I p), some (am_I t), some (am_I (ac_dt 24 (S 0) p t 0)), some (am_I (ac_in (S 0) p)), some (am_I (ay_why (S 0) p)), some (am_I (am_gt (S 0 6) 4 p)), u9, u10, u11], [am_I nx], E, M)) 1 := by
    intro nx hnx E M u9 u10 u11 hw hS hT
    rw [am_B150_85]
    refine l2_b1 (K := 20) (pc' := 95) (S1' := S) (T1' := S) (c2_s (ct_about hw hS hi) hT) rfl (show _ = S 0 0 9 from if_pos (by decide)) rfl rfl (fun E M hw hS hT _ => ?_)
    rw [am_B150_95, if_neg (by omega), am_B150_102, if_neg (by omega), am_B150_109]
    by_cases qw : ay_why (S 0) p = 0
    · rw [if_pos qw]
      exact dr_119 hB hi hq hp ht hnx hw hS hT
    · have e0 : ac_dt 24 (S 0) p t 0 = 0 := by rw [dt_24 hi.1.1 hp, if_neg qw]
      rw [if_neg qw, am_B150_114, if_neg (fun z => z e0)]
      exact dr_119 hB hi hq hp ht hnx hw hS hT
  rw [am_B150_60]
  by_cases qw : ay_why (S 0) p = 0
  · rw [if_neg (fun z => z qw), am_B150_67]
    by_cases q1 : ac_in (S 0) p ≤ 1
    · rw [if_pos q1, am_B150_84]
      exact l2_le (s85 (-1) (by rw [if_neg (fun z => by have := z.2; omega)]) E M _ _ _ hw hS hT) (by omega) (Int.le_refl _)
    · rw [if_neg q1, am_B150_73]
      refine l2_b1 (K := 24) (pc' := 81) (S1' := S) (T1' := S) (c2_s (ct_ranked hw hS hi) hT) rfl (show _ = rkv (S 0) p 1 from sv_rk hi.1.1 ⟨Int.natCast_nonneg p, hp⟩ (av_why0 qw).2 ⟨by omega, by omega⟩ (Or.inl rfl)) rfl rfl (fun E M hw hS hT _ => ?_)
      rw [am_B150_81]
      exact l2_le (s85 (rkv (S 0) p 1) (by rw [if_pos ⟨qw, by omega⟩]) E M _ _ _ hw hS hT) (by omega) (Int.le_refl _)
  · rw [if_pos qw, am_B150_84]
    exact l2_le (s85 (-1) (by rw [if_neg (fun z => qw z.1)]) E M _ _ _ hw hS hT) (by omega) (Int.le_refl _)
end DRW
