/-! ===== actions keep what holds; act (written by wip/p32/gens/acts.py) ===== -/
section ACT
variable {S : am_M} {B x y z : Int}
theorem gg {Y Y' : Nat → Int → Int} (hB : B < 2147000000) (hG : av_G B Y) (hY : av_Y Y') (hH : av_H Y') (hl : av_li Y Y' 576) : av_G (B + 576) Y' := by
  have h := av_lb hl hG.2.2.1 hG.2.2.2 (by omega)
  exact ⟨hY, hH, h.1, h.2⟩
theorem lg_8 {Y : Nat → Int → Int} {p v : Int} (h : av_Y Y) (h8 : Y 0 8 < 24) : am_lg Y p v 0 8 ≤ Y 0 8 + 1 := by
  have hb := h.1.2.1
  unfold am_lg
  rw [ay_ci_0 (by decide), ay_pt_ne (Or.inl (by decide)), ay_pt_ne (Or.inl (by decide)), ay_uy_eq, am_wi (by omega) (by omega)]
  exact Int.le_refl _
theorem iv_sd {Y : Nat → Int → Int} (hi : si B S) (hp : pi S) (hy : sy S) (hG : av_G (B + 576) Y) (h7 : S 0 0 7 ≤ Y 0 7) (h8 : Y 0 8 ≤ S 0 0 8 + 1) : si (B + 576) (sd S Y) ∧ pi (sd S Y) := by
  have := hp.1
  exact ⟨si_sd hi hy (by omega) hG, pi_sd hp hi.2.1 hy (by omega) h8⟩
theorem iv_no (hi : si B S) (hp : pi S) : si (B + 576) S ∧ pi S := ⟨si_le hi (by omega), hp⟩
theorem iv_pile (hB : B < 2147000000) (hi : si B S) (hp : pi S) (hy : sy S) : si (B + 576) (ss_pile S x y z) ∧ pi (ss_pile S x y z) := by
  have hG := hi.1
  unfold ss_pile
  by_cases q0 : S 0 0 7 < 4
  · rw [if_pos q0]
    refine iv_sd hi hp hy ?_ ?_ ?_
    · exact gg hB hG (av_pile hG.1 q0) (av_H_cg hG.2.1 (ay_uy_ne (Or.inr (by decide))) (ay_uy_ne (Or.inr (by decide))) (ay_uy_ne (Or.inr (by decide)))) (av_li_0 (ay_uy_ne (Or.inr (by decide))))
    · rw [ay_uy_eq]; omega
    · rw [ay_uy_ne (Or.inr (by decide))]; omega
  · rw [if_neg q0]
    exact iv_no hi hp
theorem iv_come (hB : B < 2147000000) (hi : si B S) (hp : pi S) (hy : sy S) : si (B + 576) (ss_come S x y z) ∧ pi (ss_come S x y z) := by
  have hG := hi.1
  unfold ss_come
  by_cases q0 : 0 ≤ x ∧ x < S 0 0 7
  · rw [if_pos q0]
    by_cases q1 : 0 ≤ y ∧ y ≤ 99
    · rw [if_pos q1]
      by_cases q2 : S 0 0 8 < 24
      · rw [if_pos q2]
        refine iv_sd hi hp hy ?_ ?_ ?_
        · exact gg hB hG (av_lg hG.1 q0 q1 q2).1 (av_H_cg hG.2.1 (ay_lg_0 (by decide) (by decide)) (ay_lg_0 (by decide) (by decide)) (ay_lg_0 (by decide) (by decide))) (av_li_le (av_lg hG.1 q0 q1 q2).2 (by omega))
        · rw [ay_lg_0 (by decide) (by decide)]; exact Int.le_refl _
        · exact lg_8 hG.1 q2
      · rw [if_neg q2]
        exact iv_no hi hp
    · rw [if_neg q1]
      exact iv_no hi hp
  · rw [if_neg q0]
    exact iv_no hi hp
theorem iv_take (hB : B < 2147000000) (hi : si B S) (hp : pi S) (hy : sy S) : si (B + 576) (ss_take S x y z) ∧ pi (ss_take S x y z) := by
  have hG := hi.1
  unfold ss_take
  by_cases q0 : am_gt (S 0 2) 24 x ≠ -1
  · rw [if_pos q0]
    refine iv_sd hi hp hy ?_ ?_ ?_
    · exact gg hB hG (av_take hG.1 q0).1 (av_H_cg hG.2.1 (ay_take_0 (by decide) (by decide)) (ay_take_0 (by decide) (by decide)) (ay_take_0 (by decide) (by decide))) (av_li_le (av_take hG.1 q0).2 (by omega))
    · rw [ay_take_0 (by decide) (by decide)]; exact Int.le_refl _
    · rw [ay_take_0 (by decide) (by decide)]; omega
  · rw [if_neg q0]
    exact iv_no hi hp
theorem iv_join (hB : B < 2147000000) (hi : si B S) (hp : pi S) (hy : sy S) : si (B + 576) (ss_join S x y z) ∧ pi (ss_join S x y z) := by
  have hG := hi.1
  unfold ss_join
  by_cases q0 : (0 ≤ x ∧ x < S 0 0 7) ∧ (0 ≤ y ∧ y < S 0 0 7)
  · rw [if_pos q0]
    by_cases q1 : x ≠ y
    · rw [if_pos q1]
      refine iv_sd hi hp hy ?_ ?_ ?_
      · exact gg hB hG (av_jpY hG.1 q0.1 q0.2 q1).1 (av_H_cg hG.2.1 (ay_jp_0 (by decide)) (ay_jp_0 (by decide)) (ay_jp_0 (by decide))) (av_li_le (av_jpY hG.1 q0.1 q0.2 q1).2 (by omega))
      · rw [ay_jp_0 (by decide)]; exact Int.le_refl _
      · rw [ay_jp_0 (by decide)]; omega
    · rw [if_neg q1]
      exact iv_no hi hp
  · rw [if_neg q0]
    exact iv_no hi hp
theorem iv_rain (hB : B < 2147000000) (hi : si B S) (hp : pi S) (hy : sy S) : si (B + 576) (ss_rain S x y z) ∧ pi (ss_rain S x y z) := by
  have hG := hi.1
  unfold ss_rain
  by_cases q0 : 1 ≤ x ∧ x ≤ 30
  · rw [if_pos q0]
    refine iv_sd hi hp hy ?_ ?_ ?_
    · exact gg hB hG (av_rain hG.1 q0) (av_H_cg hG.2.1 (show ay_rain (S 0) x 0 12 = S 0 0 12 from ay_rg_ne (by decide)) (show ay_rain (S 0) x 0 13 = S 0 0 13 from ay_rg_ne (by decide)) (show ay_rain (S 0) x 0 9 = S 0 0 9 from ay_rg_ne (by decide))) (av_li_0 (show ay_rain (S 0) x 0 11 = S 0 0 11 from ay_rg_ne (by decide)))
    · rw [show ay_rain (S 0) x 0 7 = S 0 0 7 from ay_rg_ne (by decide)]; exact Int.le_refl _
    · rw [show ay_rain (S 0) x 0 8 = S 0 0 8 from ay_rg_ne (by decide)]; omega
  · rw [if_neg q0]
    exact iv_no hi hp
theorem iv_wind (hB : B < 2147000000) (hi : si B S) (hp : pi S) (hy : sy S) : si (B + 576) (ss_wind S x y z) ∧ pi (ss_wind S x y z) := by
  have hG := hi.1
  unfold ss_wind
  by_cases q0 : 1 ≤ x ∧ x ≤ 30
  · rw [if_pos q0]
    refine iv_sd hi hp hy ?_ ?_ ?_
    · exact gg hB hG (av_wind hG.1 q0) (av_H_cg hG.2.1 (show ay_wind (S 0) x 0 12 = S 0 0 12 from ay_rg_ne (by decide)) (show ay_wind (S 0) x 0 13 = S 0 0 13 from ay_rg_ne (by decide)) (show ay_wind (S 0) x 0 9 = S 0 0 9 from ay_rg_ne (by decide))) (av_li_0 (show ay_wind (S 0) x 0 11 = S 0 0 11 from ay_rg_ne (by decide)))
    · rw [show ay_wind (S 0) x 0 7 = S 0 0 7 from ay_rg_ne (by decide)]; exact Int.le_refl _
    · rw [show ay_wind (S 0) x 0 8 = S 0 0 8 from ay_rg_ne (by decide)]; omega
  · rw [if_neg q0]
    exact iv_no hi hp
theorem iv_mend (hB : B < 2147000000) (hi : si B S) (hp : pi S) (hy : sy S) : si (B + 576) (ss_mend S x y z) ∧ pi (ss_mend S x y z) := by
  have hG := hi.1
  unfold ss_mend
  by_cases q0 : 0 ≤ x ∧ x < S 0 0 7
  · rw [if_pos q0]
    refine iv_sd hi hp hy ?_ ?_ ?_
    · exact gg hB hG (av_mend hG.1 q0).1 (av_H_cg hG.2.1 (ay_mend_0 (by decide)) (ay_mend_0 (by decide)) (ay_mend_0 (by decide))) (av_mend hG.1 q0).2.1
    · rw [ay_mend_0 (by decide)]; exact Int.le_refl _
    · rw [ay_mend_0 (by decide)]; omega
  · rw [if_neg q0]
    exact iv_no hi hp
theorem iv_nights (hB : B < 2147000000) (hi : si B S) (hp : pi S) (hy : sy S) : si (B + 576) (ss_nights S x y z) ∧ pi (ss_nights S x y z) := by
  have hG := hi.1
  unfold ss_nights
  by_cases q0 : 1 ≤ x ∧ x ≤ 9
  · rw [if_pos q0]
    refine iv_sd hi hp hy ?_ ?_ ?_
    · exact gg hB hG (av_nts x.toNat hG.1).1 (av_Hnts x.toNat hG.1 hG.2.1).1 (av_li_le (av_nts x.toNat hG.1).2 (by omega))
    · rw [ay_nts_0 (by decide) ⟨by decide, by decide, by decide⟩ (by decide)]; exact Int.le_refl _
    · rw [ay_nts_0 (by decide) ⟨by decide, by decide, by decide⟩ (by decide)]; omega
  · rw [if_neg q0]
    exact iv_no hi hp
theorem iv_lay (hB : B < 2147000000) (hi : si B S) (hp : pi S) (hy : sy S) : si (B + 576) (ss_lay S x y z) ∧ pi (ss_lay S x y z) := by
  have hG := hi.1
  unfold ss_lay
  by_cases q0 : 0 ≤ x ∧ x ≤ 99
  · rw [if_pos q0]
    refine iv_sd hi hp hy ?_ ?_ ?_
    · exact gg hB hG (av_scal ⟨by decide, by decide, by decide, by decide⟩ hG.1) (av_H_cg hG.2.1 (ay_uy_ne (Or.inr (by decide))) (ay_uy_ne (Or.inr (by decide))) (ay_uy_ne (Or.inr (by decide)))) (av_li_0 (ay_uy_ne (Or.inr (by decide))))
    · rw [ay_uy_ne (Or.inr (by decide))]; exact Int.le_refl _
    · rw [ay_uy_ne (Or.inr (by decide))]; omega
  · rw [if_neg q0]
    exact iv_no hi hp
theorem iv_covers (hB : B < 2147000000) (hi : si B S) (hp : pi S) (hy : sy S) : si (B + 576) (ss_covers S x y z) ∧ pi (ss_covers S x y z) := by
  have hG := hi.1
  unfold ss_covers
  by_cases q0 : 0 ≤ x ∧ x < S 0 0 7
  · rw [if_pos q0]
    refine iv_sd hi hp hy ?_ ?_ ?_
    · exact gg hB hG (av_cover hG.1 q0 (by split <;> omega)) (av_H_cg hG.2.1 (ay_pt_ne (Or.inl (by decide))) (ay_pt_ne (Or.inl (by decide))) (ay_pt_ne (Or.inl (by decide)))) (av_li_0 (ay_pt_ne (Or.inl (by decide))))
    · rw [ay_pt_ne (Or.inl (by decide))]; exact Int.le_refl _
    · rw [ay_pt_ne (Or.inl (by decide))]; omega
  · rw [if_neg q0]
    exact iv_no hi hp
theorem iv_draw (hB : B < 2147000000) (hi : si B S) (hp : pi S) (hy : sy S) : si (B + 576) (ss_draw S x y z) ∧ pi (ss_draw S x y z) := by
  have hG := hi.1
  unfold ss_draw
  by_cases q0 : 0 ≤ x ∧ x < S 0 0 7
  · rw [if_pos q0]
    by_cases q1 : ay_why (S 0) x = 0
    · rw [if_pos q1]
      have ht := (av_why0 q1).1
      refine iv_sd hi hp hy ?_ ?_ ?_
      · exact gg hB hG (av_burn hG.1 ht).1 (av_Hburn hG.1 hG.2.1 ht).1 (av_li_le (av_burn hG.1 ht).2 (by omega))
      · rw [ay_burn_0 (by decide) ⟨by decide, by decide, by decide⟩]; exact Int.le_refl _
      · rw [ay_burn_0 (by decide) ⟨by decide, by decide, by decide⟩]; omega
    · rw [if_neg q1]
      refine iv_sd hi hp hy ?_ ?_ ?_
      · exact gg hB hG (av_scal ⟨by decide, by decide, by decide, by decide⟩ hG.1) (av_H_cg hG.2.1 (ay_uy_ne (Or.inr (by decide))) (ay_uy_ne (Or.inr (by decide))) (ay_uy_ne (Or.inr (by decide)))) (av_li_0 (ay_uy_ne (Or.inr (by decide))))
      · rw [ay_uy_ne (Or.inr (by decide))]; exact Int.le_refl _
      · rw [ay_uy_ne (Or.inr (by decide))]; omega
  · rw [if_neg q0]
    exact iv_no hi hp
theorem iv_undo (hi : si B S) (hp : pi S) (hy : sy S) (h3 : 3 ≤ S 0 0 8 ∨ 2 ≤ nw S 0 7) : si (B + 576) (su S) ∧ pi (su S) := by
  refine ⟨si_le (si_su hi hy) (by omega), ?_⟩
  by_cases hc : S 31 0 2 = 0
  · unfold su
    rw [if_pos hc]
    exact hp
  · exact pi_su hp hi.2.1 hy hc (by rcases h3 with h | h; exact pi_3 hp hi.2.1 hc h; exact h)
/-- act: what it answers and makes is told by the state alone -/
theorem ac_148 (hB : B < 2147000000) (hi : si B S) (hp : pi S) (hy : sy S) (hx : 0 ≤ x ∧ x < 2147483648) : ∃ v S', si (B + 576) S' ∧ pi S' ∧ ∀ (E : am_E) (M : am_M) (u2 u3 u4 u5 : Option am_V), wl E M → st M = S → cs 3 E M (am_den 148 (0, [some (am_A (34, 0)), some (am_I x), u2, u3, u4, u5], [], E, M)) v S' := by
  have hp1 := hp.1
  have h7 := hi.1.1.1.1
  have h8 := hi.1.1.1.2.1
  obtain ⟨Y, eY⟩ : ∃ Y, x / 16 = Y := ⟨_, rfl⟩
  have hY : 0 ≤ Y ∧ Y < 134217728 := by omega
  have w16 : am_w (x.tdiv 16) = Y := by rw [Int.tdiv_eq_ediv_of_nonneg hx.1, am_wi (by omega) (by omega), eY]
  have m16 : x.tmod 16 = x % 16 := Int.tmod_eq_emod_of_nonneg hx.1
  have mP : Y.tmod (S 0 0 7) = Y % S 0 0 7 := Int.tmod_eq_emod_of_nonneg hY.1
  have mp1 : 0 ≤ Y % S 0 0 7 ∧ Y % S 0 0 7 < S 0 0 7 := ⟨Int.emod_nonneg _ (by omega), Int.emod_lt_of_pos _ (by omega)⟩
  have d4 : am_w (Y.tdiv 4) = Y / 4 := by rw [Int.tdiv_eq_ediv_of_nonneg hY.1, am_wi (by omega) (by omega)]
  have d2 : am_w (Y.tdiv 2) = Y / 2 := by rw [Int.tdiv_eq_ediv_of_nonneg hY.1, am_wi (by omega) (by omega)]
  have m3 : Y.tmod 3 = Y % 3 := Int.tmod_eq_emod_of_nonneg hY.1
  have m30 : Y.tmod 30 = Y % 30 := Int.tmod_eq_emod_of_nonneg hY.1
  have m100 : Y.tmod 100 = Y % 100 := Int.tmod_eq_emod_of_nonneg hY.1
  have m2 : Y.tmod 2 = Y % 2 := Int.tmod_eq_emod_of_nonneg hY.1
  have m42 : (Y / 4).tmod 2 = Y / 4 % 2 := Int.tmod_eq_emod_of_nonneg (by omega)
  have m22 : (Y / 2).tmod 2 = Y / 2 % 2 := Int.tmod_eq_emod_of_nonneg (by omega)
  have pre : ∀ (v : Int) (S' : am_M), (∀ (E : am_E) (M : am_M), wl E M → st M = S → cs 1 E M (am_den 148 (33, [some (am_A (34, 0)), some (am_I x), some (am_I Y), some (am_I (S 0 0 7)), some (am_I (S 0 0 8)), some (am_I (Y % S 0 0 7))], [am_I (x % 16)], E, M)) v S') → ∀ (E : am_E) (M : am_M) (u2 u3 u4 u5 : Option am_V), wl E M → st M = S → cs 3 E M (am_den 148 (0, [some (am_A (34, 0)), some (am_I x), u2, u3, u4, u5], [], E, M)) v S' := by
    intro v S' h E M u2 u3 u4 u5 hw hS
    rw [am_B148_0, w16]
    refine cs_b1 (pc' := 13) (S1' := S) (ct_about hw hS hi) rfl (show _ = S 0 0 7 from if_pos (by decide)) rfl (fun E M hw hS => ?_)
    rw [am_B148_13]
    refine cs_b1 (pc' := 22) (S1' := S) (ct_about hw hS hi) rfl (show _ = S 0 0 8 from if_pos (by decide)) rfl (fun E M hw hS => ?_)
    rw [am_B148_22 (by omega), mP, m16]
    exact h E M hw hS
  have hk : x % 16 = 0 ∨ x % 16 = 1 ∨ x % 16 = 2 ∨ x % 16 = 3 ∨ x % 16 = 4 ∨ x % 16 = 5 ∨ x % 16 = 6 ∨ x % 16 = 7 ∨ x % 16 = 8 ∨ x % 16 = 9 ∨ x % 16 = 10 ∨ x % 16 = 11 ∨ x % 16 = 12 ∨ x % 16 = 13 ∨ x % 16 = 14 ∨ x % 16 = 15 := by omega
  rcases hk with k | k | k | k | k | k | k | k | k | k | k | k | k | k | k | k
  · have iv := iv_pile (x := 0) (y := 0) (z := 0) hB hi hp hy
    refine ⟨(sv_pile (S 0) 0 0 0), (ss_pile S 0 0 0), iv.1, iv.2, pre _ _ (fun E M hw hS => ?_)⟩
    rw [am_S148_33v0 k, am_B148_108]
    refine cs_b1 (K := 0) (pc' := 117) (ct_pile hw hS hi) rfl rfl rfl (fun E M hw hS => ?_)
    rw [am_B148_117]
    exact cs_ret hw hS
  · by_cases q3 : Y % 3 = 0
    · have iv := iv_come (x := (Y % S 0 0 7)) (y := (Y / 4 % 20)) (z := 0) hB hi hp hy
      refine ⟨sv_come (S 0) (Y % S 0 0 7) (Y / 4 % 20) 0, ss_come S (Y % S 0 0 7) (Y / 4 % 20) 0, iv.1, iv.2, pre _ _ (fun E M hw hS => ?_)⟩
      rw [am_S148_33v1 k, am_B148_118, m3, d4, if_neg (fun z => z q3), am_B148_132, am_B148_139 (by decide), show (Y / 4).tmod 20 = Y / 4 % 20 from Int.tmod_eq_emod_of_nonneg (by omega)]
      refine cs_b1 (K := 0) (pc' := 144) (ct_come hw hS hi) rfl rfl rfl (fun E M hw hS => ?_)
      rw [am_B148_144]
      exact cs_ret hw hS
    · have iv := iv_come (x := (Y % S 0 0 7)) (y := (Y / 4 % 100)) (z := 0) hB hi hp hy
      refine ⟨sv_come (S 0) (Y % S 0 0 7) (Y / 4 % 100) 0, ss_come S (Y % S 0 0 7) (Y / 4 % 100) 0, iv.1, iv.2, pre _ _ (fun E M hw hS => ?_)⟩
      rw [am_S148_33v1 k, am_B148_118, m3, d4, if_pos q3, am_B148_137, am_B148_139 (by decide), show (Y / 4).tmod 100 = Y / 4 % 100 from Int.tmod_eq_emod_of_nonneg (by omega)]
      refine cs_b1 (K := 0) (pc' := 144) (ct_come hw hS hi) rfl rfl rfl (fun E M hw hS => ?_)
      rw [am_B148_144]
      exact cs_ret hw hS
  · by_cases q3 : Y % 3 = 0
    · have iv := iv_come (x := (Y % S 0 0 7)) (y := (Y / 4 % 20)) (z := 0) hB hi hp hy
      refine ⟨sv_come (S 0) (Y % S 0 0 7) (Y / 4 % 20) 0, ss_come S (Y % S 0 0 7) (Y / 4 % 20) 0, iv.1, iv.2, pre _ _ (fun E M hw hS => ?_)⟩
      rw [am_S148_33v2 k, am_B148_118, m3, d4, if_neg (fun z => z q3), am_B148_132, am_B148_139 (by decide), show (Y / 4).tmod 20 = Y / 4 % 20 from Int.tmod_eq_emod_of_nonneg (by omega)]
      refine cs_b1 (K := 0) (pc' := 144) (ct_come hw hS hi) rfl rfl rfl (fun E M hw hS => ?_)
      rw [am_B148_144]
      exact cs_ret hw hS
    · have iv := iv_come (x := (Y % S 0 0 7)) (y := (Y / 4 % 100)) (z := 0) hB hi hp hy
      refine ⟨sv_come (S 0) (Y % S 0 0 7) (Y / 4 % 100) 0, ss_come S (Y % S 0 0 7) (Y / 4 % 100) 0, iv.1, iv.2, pre _ _ (fun E M hw hS => ?_)⟩
      rw [am_S148_33v2 k, am_B148_118, m3, d4, if_pos q3, am_B148_137, am_B148_139 (by decide), show (Y / 4).tmod 100 = Y / 4 % 100 from Int.tmod_eq_emod_of_nonneg (by omega)]
      refine cs_b1 (K := 0) (pc' := 144) (ct_come hw hS hi) rfl rfl rfl (fun E M hw hS => ?_)
      rw [am_B148_144]
      exact cs_ret hw hS
  · by_cases q3 : Y % 3 = 0
    · have iv := iv_come (x := (Y % S 0 0 7)) (y := (Y / 4 % 20)) (z := 0) hB hi hp hy
      refine ⟨sv_come (S 0) (Y % S 0 0 7) (Y / 4 % 20) 0, ss_come S (Y % S 0 0 7) (Y / 4 % 20) 0, iv.1, iv.2, pre _ _ (fun E M hw hS => ?_)⟩
      rw [am_S148_33v3 k, am_B148_118, m3, d4, if_neg (fun z => z q3), am_B148_132, am_B148_139 (by decide), show (Y / 4).tmod 20 = Y / 4 % 20 from Int.tmod_eq_emod_of_nonneg (by omega)]
      refine cs_b1 (K := 0) (pc' := 144) (ct_come hw hS hi) rfl rfl rfl (fun E M hw hS => ?_)
      rw [am_B148_144]
      exact cs_ret hw hS
    · have iv := iv_come (x := (Y % S 0 0 7)) (y := (Y / 4 % 100)) (z := 0) hB hi hp hy
      refine ⟨sv_come (S 0) (Y % S 0 0 7) (Y / 4 % 100) 0, ss_come S (Y % S 0 0 7) (Y / 4 % 100) 0, iv.1, iv.2, pre _ _ (fun E M hw hS => ?_)⟩
      rw [am_S148_33v3 k, am_B148_118, m3, d4, if_pos q3, am_B148_137, am_B148_139 (by decide), show (Y / 4).tmod 100 = Y / 4 % 100 from Int.tmod_eq_emod_of_nonneg (by omega)]
      refine cs_b1 (K := 0) (pc' := 144) (ct_come hw hS hi) rfl rfl rfl (fun E M hw hS => ?_)
      rw [am_B148_144]
      exact cs_ret hw hS
  · by_cases q3 : Y % 3 = 0
    · have iv := iv_come (x := (Y % S 0 0 7)) (y := (Y / 4 % 20)) (z := 0) hB hi hp hy
      refine ⟨sv_come (S 0) (Y % S 0 0 7) (Y / 4 % 20) 0, ss_come S (Y % S 0 0 7) (Y / 4 % 20) 0, iv.1, iv.2, pre _ _ (fun E M hw hS => ?_)⟩
      rw [am_S148_33v4 k, am_B148_118, m3, d4, if_neg (fun z => z q3), am_B148_132, am_B148_139 (by decide), show (Y / 4).tmod 20 = Y / 4 % 20 from Int.tmod_eq_emod_of_nonneg (by omega)]
      refine cs_b1 (K := 0) (pc' := 144) (ct_come hw hS hi) rfl rfl rfl (fun E M hw hS => ?_)
      rw [am_B148_144]
      exact cs_ret hw hS
    · have iv := iv_come (x := (Y % S 0 0 7)) (y := (Y / 4 % 100)) (z := 0) hB hi hp hy
      refine ⟨sv_come (S 0) (Y % S 0 0 7) (Y / 4 % 100) 0, ss_come S (Y % S 0 0 7) (Y / 4 % 100) 0, iv.1, iv.2, pre _ _ (fun E M hw hS => ?_)⟩
      rw [am_S148_33v4 k, am_B148_118, m3, d4, if_pos q3, am_B148_137, am_B148_139 (by decide), show (Y / 4).tmod 100 = Y / 4 % 100 from Int.tmod_eq_emod_of_nonneg (by omega)]
      refine cs_b1 (K := 0) (pc' := 144) (ct_come hw hS hi) rfl rfl rfl (fun E M hw hS => ?_)
      rw [am_B148_144]
      exact cs_ret hw hS
  · have iv := iv_draw (x := (Y % S 0 0 7)) (y := 0) (z := 0) hB hi hp hy
    refine ⟨(sv_draw (S 0) (Y % S 0 0 7) 0 0), (ss_draw S (Y % S 0 0 7) 0 0), iv.1, iv.2, pre _ _ (fun E M hw hS => ?_)⟩
    rw [am_S148_33v5 k, am_B148_145]
    refine cs_b1 (K := 0) (pc' := 155) (ct_draw hw hS hi) rfl rfl rfl (fun E M hw hS => ?_)
    rw [am_B148_155]
    exact cs_ret hw hS
  · by_cases q8 : S 0 0 8 = 0
    · have iv := iv_take (x := 0) (y := 0) (z := 0) hB hi hp hy
      refine ⟨sv_take (S 0) 0 0 0, ss_take S 0 0 0, iv.1, iv.2, pre _ _ (fun E M hw hS => ?_)⟩
      rw [am_S148_33v6 k, am_B148_156, if_neg (fun z => z q8), am_B148_164, am_B148_172]
      refine cs_b1 (K := 0) (pc' := 177) (ct_take hw hS hi) rfl rfl rfl (fun E M hw hS => ?_)
      rw [am_B148_177]
      exact cs_ret hw hS
    · have iv := iv_take (x := (Y % S 0 0 8)) (y := 0) (z := 0) hB hi hp hy
      refine ⟨sv_take (S 0) (Y % S 0 0 8) 0 0, ss_take S (Y % S 0 0 8) 0 0, iv.1, iv.2, pre _ _ (fun E M hw hS => ?_)⟩
      rw [am_S148_33v6 k, am_B148_156, if_pos q8, am_B148_168 q8, am_B148_172, show Y.tmod (S 0 0 8) = Y % S 0 0 8 from Int.tmod_eq_emod_of_nonneg hY.1]
      refine cs_b1 (K := 0) (pc' := 177) (ct_take hw hS hi) rfl rfl rfl (fun E M hw hS => ?_)
      rw [am_B148_177]
      exact cs_ret hw hS
  · have iv := iv_join (x := (Y % S 0 0 7)) (y := (Y / 4 % S 0 0 7)) (z := 0) hB hi hp hy
    refine ⟨(sv_join (S 0) (Y % S 0 0 7) (Y / 4 % S 0 0 7) 0), (ss_join S (Y % S 0 0 7) (Y / 4 % S 0 0 7) 0), iv.1, iv.2, pre _ _ (fun E M hw hS => ?_)⟩
    rw [am_S148_33v7 k, am_B148_178 (by omega), d4, show (Y / 4).tmod (S 0 0 7) = Y / 4 % S 0 0 7 from Int.tmod_eq_emod_of_nonneg (by omega)]
    refine cs_b1 (K := 0) (pc' := 192) (ct_join hw hS hi) rfl rfl rfl (fun E M hw hS => ?_)
    rw [am_B148_192]
    exact cs_ret hw hS
  · by_cases q2 : Y / 4 % 2 = 0
    · have iv := iv_covers (x := (Y % S 0 0 7)) (y := 1) (z := 0) hB hi hp hy
      refine ⟨sv_covers (S 0) (Y % S 0 0 7) 1 0, ss_covers S (Y % S 0 0 7) 1 0, iv.1, iv.2, pre _ _ (fun E M hw hS => ?_)⟩
      rw [am_S148_33v8 k, am_B148_193, d4, m42, if_neg (fun z => z q2), am_B148_204, am_B148_209]
      refine cs_b1 (K := 0) (pc' := 212) (ct_covers (z := 0) hw hS hi) rfl rfl rfl (fun E M hw hS => ?_)
      rw [am_B148_212]
      exact cs_ret hw hS
    · have iv := iv_covers (x := (Y % S 0 0 7)) (y := 0) (z := 0) hB hi hp hy
      refine ⟨sv_covers (S 0) (Y % S 0 0 7) 0 0, ss_covers S (Y % S 0 0 7) 0 0, iv.1, iv.2, pre _ _ (fun E M hw hS => ?_)⟩
      rw [am_S148_33v8 k, am_B148_193, d4, m42, if_pos q2, am_B148_208, am_B148_209]
      refine cs_b1 (K := 0) (pc' := 212) (ct_covers (z := 0) hw hS hi) rfl rfl rfl (fun E M hw hS => ?_)
      rw [am_B148_212]
      exact cs_ret hw hS
  · have iv := iv_wind (x := (1 + Y % 30)) (y := 0) (z := 0) hB hi hp hy
    refine ⟨(sv_wind (S 0) (1 + Y % 30) 0 0), (ss_wind S (1 + Y % 30) 0 0), iv.1, iv.2, pre _ _ (fun E M hw hS => ?_)⟩
    rw [am_S148_33v9 k, am_B148_213, m30, am_wi (by omega) (by omega)]
    refine cs_b1 (K := 0) (pc' := 227) (ct_wind hw hS hi) rfl rfl rfl (fun E M hw hS => ?_)
    rw [am_B148_227]
    exact cs_ret hw hS
  · have iv := iv_rain (x := (1 + Y % 30)) (y := 0) (z := 0) hB hi hp hy
    refine ⟨(sv_rain (S 0) (1 + Y % 30) 0 0), (ss_rain S (1 + Y % 30) 0 0), iv.1, iv.2, pre _ _ (fun E M hw hS => ?_)⟩
    rw [am_S148_33v10 k, am_B148_228, m30, am_wi (by omega) (by omega)]
    refine cs_b1 (K := 0) (pc' := 242) (ct_rain hw hS hi) rfl rfl rfl (fun E M hw hS => ?_)
    rw [am_B148_242]
    exact cs_ret hw hS
  · have iv := iv_mend (x := (Y % S 0 0 7)) (y := 0) (z := 0) hB hi hp hy
    refine ⟨(sv_mend (S 0) (Y % S 0 0 7) 0 0), (ss_mend S (Y % S 0 0 7) 0 0), iv.1, iv.2, pre _ _ (fun E M hw hS => ?_)⟩
    rw [am_S148_33v11 k, am_B148_243]
    refine cs_b1 (K := 0) (pc' := 253) (ct_mend hw hS hi) rfl rfl rfl (fun E M hw hS => ?_)
    rw [am_B148_253]
    exact cs_ret hw hS
  · have iv := iv_nights (x := (1 + Y % 3)) (y := 0) (z := 0) hB hi hp hy
    refine ⟨(sv_nights (S 0) (1 + Y % 3) 0 0), (ss_nights S (1 + Y % 3) 0 0), iv.1, iv.2, pre _ _ (fun E M hw hS => ?_)⟩
    rw [am_S148_33v12 k, am_B148_254, m3, am_wi (by omega) (by omega)]
    refine cs_b1 (K := 0) (pc' := 267) (ct_nights hw hS hi) rfl rfl rfl (fun E M hw hS => ?_)
    rw [am_B148_267]
    exact cs_ret hw hS
  · have iv := iv_lay (x := (Y % 100)) (y := 0) (z := 0) hB hi hp hy
    refine ⟨(sv_lay (S 0) (Y % 100) 0 0), (ss_lay S (Y % 100) 0 0), iv.1, iv.2, pre _ _ (fun E M hw hS => ?_)⟩
    rw [am_S148_33v13 k, am_B148_268, m100]
    refine cs_b1 (K := 0) (pc' := 280) (ct_lay hw hS hi) rfl rfl rfl (fun E M hw hS => ?_)
    rw [am_B148_280]
    exact cs_ret hw hS
  · by_cases q2 : Y % 2 = 0
    · refine ⟨sv_keep S (Y / 2 % 2), sk S (Y / 2 % 2), si_le (si_sk hi hy) (by omega), pi_sk hp hy, pre _ _ (fun E M hw hS => ?_)⟩
      rw [am_S148_33v14 k, am_B148_281, m2, if_neg (fun z => z q2), am_B148_287, d2, m22]
      refine cs_b1 (K := 0) (pc' := 300) (ct_keep hw hS) rfl rfl rfl (fun E M hw hS => ?_)
      rw [am_B148_300, am_B148_316]
      exact cs_ret hw hS
    · refine ⟨sv_back S (Y / 2 % 2), sg S (Y / 2 % 2), si_le (si_sg hi hy) (by omega), pi_sg hp hi hy, pre _ _ (fun E M hw hS => ?_)⟩
      rw [am_S148_33v14 k, am_B148_281, m2, if_pos q2, am_B148_303, d2, m22]
      refine cs_b1 (K := 0) (pc' := 316) (ct_back hw hS) rfl rfl rfl (fun E M hw hS => ?_)
      rw [am_B148_316]
      exact cs_ret hw hS
  · by_cases q3 : 3 ≤ S 0 0 8
    · have iv := iv_undo hi hp hy (Or.inl q3)
      refine ⟨sv_undo S, su S, iv.1, iv.2, pre _ _ (fun E M hw hS => ?_)⟩
      rw [am_S148_33d (by omega), am_B148_317, if_pos q3, am_B148_327]
      refine cs_b1 (K := 0) (pc' := 336) (ct_undo hw hS hi) rfl rfl rfl (fun E M hw hS => ?_)
      rw [am_B148_336]
      exact cs_ret hw hS
    · refine ⟨-1, S, si_le hi (by omega), hp, pre _ _ (fun E M hw hS => ?_)⟩
      rw [am_S148_33d (by omega), am_B148_317, if_neg q3, am_B148_323, am_B148_336]
      exact cs_ret hw hS
end ACT
