/-! ===== the law's first calls ===== -/
section LAW3
variable {E : am_E} {M S : am_M} {B : Int}
/-- no log has come, none in what is remembered, no slot filled -/
def pq (S : am_M) : Prop := S 0 0 8 = 0 ∧ (∀ j : Int, 0 ≤ j → j < S 31 0 2 → ent S j 0 8 = 0) ∧ (∀ s : Nat, s < 2 → S (32 + s) 0 1 = 0)
theorem pq_sd {Y : Nat → Int → Int} (h : pq S) (hm : ak_ok S) (hy : sy S) (h8 : Y 0 8 = 0) : pq (sd S Y) := by
  obtain ⟨a, b, e⟩ := h
  have hoc := iv_oc hm
  have hm2 := hm
  obtain ⟨m1, m2⟩ := hm2
  have hk : (S 31 0 2 = 14 ∧ ak_c S = 13) ∨ (S 31 0 2 ≠ 14 ∧ ak_c S = S 31 0 2) := by
    by_cases q : S 31 0 2 = 14
    · exact Or.inl ⟨q, if_pos q⟩
    · exact Or.inr ⟨q, if_neg q⟩
  refine ⟨by rw [sd_0]; exact h8, fun j j0 j1 => ?_, fun s hs => ?_⟩
  · rw [sd_31.2] at j1
    by_cases q : j = ak_c S
    · rw [q, sd_new hy]
      exact a
    · rw [sd_old hm j0 (by omega)]
      exact b _ (by split <;> omega) (by split <;> omega)
  · rw [sd_o (by omega)]
    exact e s hs
theorem pq_pi (h : pq S) (hm : ak_ok S) (h7 : 2 ≤ S 0 0 7) : pi S := by
  obtain ⟨a, b, e⟩ := h
  obtain ⟨m1, m2⟩ := hm
  refine ⟨h7, fun j j0 j1 h2 => ?_, fun j j0 j1 => ?_, fun hc => ?_, fun s hs hz => ?_⟩
  · rw [b j j0 j1] at h2
    omega
  · rw [b j j0 (by omega), b (j + 1) (by omega) j1]
    omega
  · unfold nw
    rw [a, b _ (by omega) (by omega)]
    omega
  · rw [e s hs] at hz
    omega
theorem fp_1 (hB : B < 2147000000) (hi : si B S) (hq : pq S) (hy : sy S) (h4 : S 0 0 7 < 4) {x y z : Int} : sv_pile (S 0) x y z = S 0 0 7 ∧ si (B + 576) (ss_pile S x y z) ∧ pq (ss_pile S x y z) ∧ ss_pile S x y z 0 0 7 = S 0 0 7 + 1 := by
  have hG := hi.1
  unfold sv_pile ss_pile
  rw [if_pos h4, if_pos h4]
  refine ⟨rfl, si_sd hi hy (by omega) (gg hB hG (av_pile hG.1 h4) (av_H_cg hG.2.1 (ay_uy_ne (Or.inr (by decide))) (ay_uy_ne (Or.inr (by decide))) (ay_uy_ne (Or.inr (by decide)))) (av_li_0 (ay_uy_ne (Or.inr (by decide))))), pq_sd hq hi.2.1 hy ?_, ?_⟩
  · rw [ay_uy_ne (Or.inr (by decide))]
    exact hq.1
  · rw [sd_0, ay_uy_eq]
theorem fp_2 (hi : si B S) {x y z : Int} (hx : 0 ≤ x ∧ x < S 0 0 7) (hy1 : 0 ≤ y ∧ y ≤ 99) (h8 : S 0 0 8 < 24) : sv_come (S 0) x y z = S 0 0 8 ∧ ss_come S x y z 0 0 8 = S 0 0 8 + 1 ∧ ss_come S x y z 0 0 7 = S 0 0 7 := by
  have hG := hi.1
  have hb := hG.1.1.2.1
  unfold sv_come ss_come
  rw [if_pos hx, if_pos hy1, if_pos h8, if_pos hx, if_pos hy1, if_pos h8]
  refine ⟨rfl, ?_, ?_⟩
  · rw [sd_0]
    unfold am_lg
    rw [ay_ci_0 (by decide), ay_pt_ne (Or.inl (by decide)), ay_pt_ne (Or.inl (by decide)), ay_uy_eq, am_wi (by omega) (by omega)]
  · rw [sd_0, ay_lg_0 (by decide) (by decide)]
theorem fp_33 (hi : si 0 S) (hq : pq S) (h7 : S 0 0 7 = 0) {x3 x4 : Int} (h3 : x3 ≤ 36) (h4 : 0 ≤ x4 ∧ x4 < 2147483648) {u4 u5 u6 u7 u8 : Option am_V} (hw : wl E M) (hS : st M = S) (hT : st (rl_M M) = S) : l2 129608 10000000 E M (am_den 225 (33, [some (am_A (45, 0)), some (am_A (34, 0)), some (am_A (84, 0)), some (am_I x3), u4, u5, u6, u7, u8], [am_I x4], E, M)) 1 := by
  have hy := sy_of hw hS
  have t1 : 0 ≤ x4.tmod 100 ∧ x4.tmod 100 ≤ 99 := by rw [Int.tmod_eq_emod_of_nonneg h4.1]; omega
  have t2 : 0 ≤ (am_w (x4.tdiv 100)).tmod 100 ∧ (am_w (x4.tdiv 100)).tmod 100 ≤ 99 := by rw [Int.tdiv_eq_ediv_of_nonneg h4.1, am_wi (by omega) (by omega), Int.tmod_eq_emod_of_nonneg (by omega)]; omega
  obtain ⟨v1, i1, q1, e1⟩ := fp_1 (x := 0) (y := 0) (z := 0) (by omega) hi hq hy (by omega)
  rw [am_B225_33]
  refine l2_b1 (K := 129607) (pc' := 44) (S1' := ss_pile S 0 0 0) (T1' := S) (c2_s (ct_pile hw hS hi) hT) rfl (show _ = (0 : Int) by rw [v1, h7]) rfl rfl (fun E M hw hS hT _ => ?_)
  have hy1 := sy_of hw hS
  rw [am_B225_44, if_neg (fun z => z rfl), am_B225_47]
  refine l2_b1 (K := 129606) (pc' := 56) (S1' := ss_pile S 0 0 0) (T1' := ss_pile S 0 0 0) (c2_q (cr_pile hw hT hi) hS) rfl (show _ = (0 : Int) by rw [v1, h7]) rfl rfl (fun E M hw hS hT _ => ?_)
  rw [am_B225_56, if_neg (fun z => z rfl), am_B225_59]
  generalize ss_pile S 0 0 0 = S1 at *
  obtain ⟨v2, i2, q2, e2⟩ := fp_1 (x := 0) (y := 0) (z := 0) (by omega) i1 q1 hy1 (by omega)
  refine l2_b1 (K := 129605) (pc' := 68) (S1' := ss_pile S1 0 0 0) (T1' := S1) (c2_s (ct_pile hw hS i1) hT) rfl (show _ = (1 : Int) by rw [v2, e1, h7]; rfl) rfl rfl (fun E M hw hS hT _ => ?_)
  have hy2 := sy_of hw hS
  rw [am_B225_68, if_neg (fun z => z rfl), am_B225_72]
  refine l2_b1 (K := 129604) (pc' := 81) (S1' := ss_pile S1 0 0 0) (T1' := ss_pile S1 0 0 0) (c2_q (cr_pile hw hT i1) hS) rfl (show _ = (1 : Int) by rw [v2, e1, h7]; rfl) rfl rfl (fun E M hw hS hT _ => ?_)
  rw [am_B225_81, if_neg (fun z => z rfl), am_B225_85]
  generalize ss_pile S1 0 0 0 = S2 at *
  have p2 := pq_pi q2 i2.2.1 (by omega)
  have a8 := q2.1
  obtain ⟨v3, e3, f3⟩ := fp_2 (x := 0) (y := x4.tmod 100) (z := 0) i2 (by omega) t1 (by omega)
  obtain ⟨i3, p3⟩ := iv_come (x := 0) (y := x4.tmod 100) (z := 0) (by omega) i2 p2 hy2
  refine l2_b1 (K := 129603) (pc' := 98) (S1' := ss_come S2 0 (x4.tmod 100) 0) (T1' := S2) (c2_s (ct_come hw hS i2) hT) rfl (show _ = (0 : Int) by rw [v3, a8]) rfl rfl (fun E M hw hS hT _ => ?_)
  have hy3 := sy_of hw hS
  rw [am_B225_98, if_neg (fun z => z rfl), am_B225_101]
  refine l2_b1 (K := 129602) (pc' := 114) (S1' := ss_come S2 0 (x4.tmod 100) 0) (T1' := ss_come S2 0 (x4.tmod 100) 0) (c2_q (cr_come hw hT i2) hS) rfl (show _ = (0 : Int) by rw [v3, a8]) rfl rfl (fun E M hw hS hT _ => ?_)
  rw [am_B225_114, if_neg (fun z => z rfl), am_B225_117]
  generalize ss_come S2 0 (x4.tmod 100) 0 = S3 at *
  obtain ⟨v4, e4, f4⟩ := fp_2 (x := 1) (y := (am_w (x4.tdiv 100)).tmod 100) (z := 0) i3 (by omega) t2 (by omega)
  obtain ⟨i4, p4⟩ := iv_come (x := 1) (y := (am_w (x4.tdiv 100)).tmod 100) (z := 0) (by omega) i3 p3 hy3
  refine l2_b1 (K := 129601) (pc' := 133) (S1' := ss_come S3 1 ((am_w (x4.tdiv 100)).tmod 100) 0) (T1' := S3) (c2_s (ct_come hw hS i3) hT) rfl (show _ = (1 : Int) by rw [v4, e3, a8]; rfl) rfl rfl (fun E M hw hS hT _ => ?_)
  rw [am_B225_133, if_neg (fun z => z rfl), am_B225_137]
  refine l2_b1 (K := 129600) (pc' := 153) (S1' := ss_come S3 1 ((am_w (x4.tdiv 100)).tmod 100) 0) (T1' := ss_come S3 1 ((am_w (x4.tdiv 100)).tmod 100) 0) (c2_q (cr_come hw hT i3) hS) rfl (show _ = (1 : Int) by rw [v4, e3, a8]; rfl) rfl rfl (fun E M hw hS hT _ => ?_)
  rw [am_B225_153, if_neg (fun z => z rfl), am_B225_157, am_B225_162]
  exact la_l h3 36 0 _ E M _ _ _ (by decide) (by omega) hw hS hT i4 p4
end LAW3
