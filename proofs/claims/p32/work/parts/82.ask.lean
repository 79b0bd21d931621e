/-! ===== harmless and fewestLifts of either object ===== -/
def th_ok (Y : Nat → Int → Int) (w : Int) : Int := am_sm (am_oa (ay_rain Y w)) (Y 0 7).toNat
def th_f (V : Int → Int) : Nat → Int
  | 0 => 0
  | n + 1 => if V ((n + 1 : Nat) : Int) = 0 then ((n + 1 : Nat) : Int) else th_f V n
def hm (Y : Nat → Int → Int) : Int := if 0 < am_sm (am_oa Y) (Y 0 7).toNat then -1 else th_f (th_ok Y) 30
theorem cl_rg {Y : Nat → Int → Int} {g : Int → Int} (h : cl_y Y) : cl_y (am_rg Y 1 0 24 g) := by
  obtain ⟨a1, a2, a3, a4⟩ := h
  refine ⟨fun j hj => ?_, fun c j h1 h5 hj => ?_, fun c j hc hj => ?_, fun c j hc => ?_⟩
  · rw [ay_rg_ne (by decide)]; exact a1 j hj
  · unfold am_rg
    rw [if_neg (by omega)]
    exact a2 c j h1 h5 hj
  · rw [ay_rg_ne (by omega)]; exact a3 c j hc hj
  · rw [ay_rg_ne (by omega)]; exact a4 c j hc
section ASK
variable {E : am_E} {M S T : am_M} {B : Int}
theorem wl_q (hw : wl E M) : am_ob E (84, 0) 4 = true := by
  have h := hw.2.1.2.2.2.2.1.1
  have e : am_ob (rl_E E) (34, 0) 4 = am_ob E (84, 0) 4 := rl_ob (r := (84, 0)) hw.2.2.1
  rw [← e]
  exact h
theorem ha_l (hw : wl E M) (h7 : 0 ≤ M 0 0 7 ∧ M 0 0 7 ≤ 4) : ∀ (m : Nat) (X : Nat → Int → Int) (u : Option am_V), m ≤ 30 → cl_y X → ∃ X', am_den 91 (15, [some (am_A (34, 0)), some (am_I m), u], [], E, am_sb M 17 X) = some (.inl (some (am_I (th_f (th_ok (M 0)) m))), E, am_sb M 17 X') := by
  have hE := hw.1
  have hW := hE.1 17 (by omega)
  have c0 := cl_yd hw.2.2.2 (b := 0) (by decide)
  intro m
  induction m with
  | zero =>
    intro X u h _
    exact ⟨X, by rw [am_B91_15, if_pos (by omega), am_B91_44]; rfl⟩
  | succ m ih =>
    intro X u h hX
    have hw : 1 ≤ ((m + 1 : Nat) : Int) ∧ ((m + 1 : Nat) : Int) ≤ 30 := by omega
    have w1 : am_w (((m + 1 : Nat) : Int) + -1) = (m : Int) := by rw [am_wi (by omega) (by omega)]; omega
    have h105 : am_den 105 (0, [some (am_A (34, 0))], [], E, am_sb M 17 X) = some (.inl (some (am_A (17, 0))), E, am_sb M 17 (M 0)) := by
      rw [ac_105 hE, am_sb_ne (show (0 : Nat) ≠ 17 by decide), am_sb_at, am_sb_sb, cl_yp c0 hX]
    have e7 : ay_rain (M 0) ((m + 1 : Nat) : Int) 0 7 = M 0 0 7 := ay_rg_ne (by decide)
    rw [am_B91_15, if_neg (by omega), am_B91_19 hE, h105, am_bd_v]
    simp only [Nat.reduceAdd]
    rw [am_B91_23 hW, ay_60 hW, am_bd_u, am_sb_at, am_sb_sb]
    simp only [Nat.reduceAdd]
    rw [am_B91_29 hW, am_s37 hW (by rw [am_sb_at, e7]; exact h7), am_bd_v, am_sb_at, e7]
    simp only [Nat.reduceAdd]
    rw [am_B91_33, th_f]
    have ev : am_sm (am_oa (ay_rain (M 0) ((m + 1 : Nat) : Int))) (M 0 0 7).toNat = th_ok (M 0) ((m + 1 : Nat) : Int) := rfl
    rw [ev]
    by_cases q : th_ok (M 0) ((m + 1 : Nat) : Int) = 0
    · rw [if_neg (show ¬ th_ok (M 0) ((m + 1 : Nat) : Int) ≠ 0 from fun z => z q), am_B91_36, if_pos q]
      exact ⟨_, rfl⟩
    · rw [if_pos (show th_ok (M 0) ((m + 1 : Nat) : Int) ≠ 0 from q), am_B91_38, w1, if_neg q]
      exact ih _ _ (by omega) (cl_rg c0)
theorem ct_harmless (hw : wl E M) (hS : st M = S) (hi : si B S) : cs 1 E M (am_den 91 (0, [some (am_A (34, 0)), none, none], [], E, M)) (hm (S 0)) S := by
  subst hS
  have h7 := si_7 hi
  have hE := hw.1
  have self : am_sb M 17 (M 17) = M := am_sb_self
  obtain ⟨X', ec⟩ : ∃ X', am_den 91 (0, [some (am_A (34, 0)), none, none], [], E, M) = some (.inl (some (am_I (hm (M 0)))), E, am_sb M 17 X') := by
    unfold hm
    rw [am_B91_0 hE, am_s37 (hE.1 0 (by omega)) h7, am_bd_v]
    simp only [Nat.reduceAdd]
    rw [am_B91_7]
    by_cases q : 0 < am_sm (am_oa (M 0)) (M 0 0 7).toNat
    · exact ⟨M 17, by rw [if_neg (by omega), am_B91_10, if_pos q, self]⟩
    · rw [if_pos (by omega), am_B91_12]
      obtain ⟨X', e⟩ := ha_l hw h7 30 (M 17) none (by omega) (cl_yd hw.2.2.2 (by decide))
      rw [self] at e
      exact ⟨X', by rw [if_neg q]; exact e⟩
  exact cs_le (cs_v hw (n := 0) ec (st_sb (by decide)) (fun b hb => am_sb_ne (by omega))) (by decide)
theorem cr_harmless (hw : wl E M) (hT : st (rl_M M) = S) (hi : si B S) : cq 1 E M (am_den 91 (0, [some (am_A (84, 0)), none, none], [], E, M)) (hm (S 0)) S := cq_of hw (ct_harmless (wl_rl hw) hT hi) rfl
theorem ct_fewest (hw : wl E M) (hS : st M = S) (hi : si B S) (hB : B < 2147000000) {R : Nat → at_T} (ht : av_tr (S 0) R) : cs 1 E M (am_den 89 (0, [some (am_A (34, 0)), none], [], E, M)) (fw_f3 (S 0 1) R) S := by
  subst hS
  have hE := hw.1
  have hG := hi.1
  have e18 : am_yp (M 0) (M 18) = M 0 := cl_yp (cl_yd hw.2.2.2 (by decide)) (cl_yd hw.2.2.2 (by decide))
  have g18 : fw_g (M 0 1) B R (M 0) := ⟨ht, fun _ _ _ => rfl, hG.2.2.1, hG.2.2.2⟩
  obtain ⟨M1, e1, k1⟩ := fw_s0 (E := E) (D := M 0 1) (C := B) hE (by omega) (am_sb M 18 (M 0)) R (by rw [am_sb_at]; exact g18)
  have km : ∀ b, (b < 18 ∨ 21 < b) → M1 b = M b := fun b hb => by rw [k1 b (by omega), am_sb_ne (by omega)]
  have ec : am_den 89 (0, [some (am_A (34, 0)), none], [], E, M) = some (.inl (some (am_I (fw_f3 (M 0 1) R))), E, M1) := by
    rw [fw_89 hE, e18, e1, am_bd_v]
    simp only [Nat.reduceAdd]
    rw [am_B89_31]
  exact cs_le (cs_v hw (n := 0) ec (st_ext (fun b hb => km b (by omega))) (fun b hb => km b (by omega))) (by decide)
theorem cr_fewest (hw : wl E M) (hT : st (rl_M M) = S) (hi : si B S) (hB : B < 2147000000) {R : Nat → at_T} (ht : av_tr (S 0) R) : cq 1 E M (am_den 89 (0, [some (am_A (84, 0)), none], [], E, M)) (fw_f3 (S 0 1) R) S := cq_of hw (ct_fewest (wl_rl hw) hT hi hB ht) rfl
/-- alike: two objects of one state -/
theorem al_l (hi : si B S) {x : Int} : ∀ (m k : Nat), k + m = 24 → ∀ (E : am_E) (M : am_M), wl E M → st M = S → st (rl_M M) = S → c2 (6 * m) E M (am_den 149 (58, [some (am_A (34, 0)), some (am_A (84, 0)), some (am_I x), some (am_I 1), some (am_I k)], [], E, M)) 1 S S := by
  intro m
  induction m with
  | zero =>
    intro k h E M hw hS hT
    rw [am_B149_58, if_pos (by omega), am_B149_154 (Or.inr rfl)]
    exact c2_ret hw hS hT
  | succ m ih =>
    intro k h E M hw hS hT
    have w1 : am_w ((k : Int) + 1) = ((k + 1 : Nat) : Int) := by rw [am_wi (by omega) (by omega)]; omega
    rw [am_B149_58, if_neg (by omega), am_B149_65, if_neg (by decide), am_B149_69]
    refine c2_b1 (K := 6 * m + 5) (pc' := 78) (S1' := S) (T1' := S) (c2_s (ct_about hw hS hi) hT) rfl rfl rfl rfl (fun E M hw hS hT _ => ?_)
    rw [am_B149_78]
    refine c2_b1 (K := 6 * m + 4) (pc' := 87) (S1' := S) (T1' := S) (c2_q (cr_about hw hT hi) hS) rfl rfl rfl rfl (fun E M hw hS hT _ => ?_)
    rw [am_B149_87, if_neg (fun z => z rfl), am_B149_90]
    refine c2_b1 (K := 6 * m + 3) (pc' := 102) (S1' := S) (T1' := S) (c2_s (ct_log hw hS hi) hT) rfl rfl rfl rfl (fun E M hw hS hT _ => ?_)
    rw [am_B149_102]
    refine c2_b1 (K := 6 * m + 2) (pc' := 114) (S1' := S) (T1' := S) (c2_q (cr_log hw hT hi) hS) rfl rfl rfl rfl (fun E M hw hS hT _ => ?_)
    rw [am_B149_114, if_neg (fun z => z rfl), am_B149_117]
    refine c2_b1 (K := 6 * m + 1) (pc' := 128) (S1' := S) (T1' := S) (c2_s (ct_told hw hS hi) hT) rfl rfl rfl rfl (fun E M hw hS hT _ => ?_)
    rw [am_B149_128]
    refine c2_b1 (K := 6 * m) (pc' := 139) (S1' := S) (T1' := S) (c2_q (cr_told hw hT hi) hS) rfl rfl rfl rfl (fun E M hw hS hT _ => ?_)
    rw [am_B149_139, if_neg (fun z => z rfl), am_B149_142, am_B149_147, w1]
    exact ih (k + 1) (by omega) E M hw hS hT
theorem al_149 (hi : si B S) (hB : B < 2147000000) {x : Int} {u3 u4 : Option am_V} (hw : wl E M) (hS : st M = S) (hT : st (rl_M M) = S) : c2 150 E M (am_den 149 (0, [some (am_A (34, 0)), some (am_A (84, 0)), some (am_I x), u3, u4], [], E, M)) 1 S S := by
  obtain ⟨R, hR, -⟩ := hi.1.1.2.2
  rw [am_B149_0]
  refine c2_b1 (K := 149) (pc' := 12) (S1' := S) (T1' := S) (c2_s (ct_sim hw hS hi) hT) rfl rfl rfl rfl (fun E M hw hS hT _ => ?_)
  rw [am_B149_12]
  refine c2_b1 (K := 148) (pc' := 24) (S1' := S) (T1' := S) (c2_q (cr_sim hw hT hi) hS) rfl rfl rfl rfl (fun E M hw hS hT _ => ?_)
  rw [am_B149_24, if_neg (fun z => z rfl), am_B149_27 hw.1]
  refine c2_b1 (K := 147) (pc' := 31) (S1' := S) (T1' := S) (c2_s (ct_harmless hw hS hi) hT) rfl rfl rfl rfl (fun E M hw hS hT _ => ?_)
  rw [am_B149_31 (wl_q hw)]
  refine c2_b1 (K := 146) (pc' := 35) (S1' := S) (T1' := S) (c2_q (cr_harmless hw hT hi) hS) rfl rfl rfl rfl (fun E M hw hS hT _ => ?_)
  rw [am_B149_35, if_neg (fun z => z rfl), am_B149_38 hw.1]
  refine c2_b1 (K := 145) (pc' := 42) (S1' := S) (T1' := S) (c2_s (ct_fewest hw hS hi hB hR) hT) rfl rfl rfl rfl (fun E M hw hS hT _ => ?_)
  rw [am_B149_42 (wl_q hw)]
  refine c2_b1 (K := 144) (pc' := 46) (S1' := S) (T1' := S) (c2_q (cr_fewest hw hT hi hB hR) hS) rfl rfl rfl rfl (fun E M hw hS hT _ => ?_)
  rw [am_B149_46, if_neg (fun z => z rfl), am_B149_49, am_B149_54]
  exact al_l hi 24 0 (by omega) E M hw hS hT
end ASK
