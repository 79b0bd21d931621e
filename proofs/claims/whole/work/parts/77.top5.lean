/-! ===== pairs: the text ===== -/
section TCG
variable {n : Int} {s s' : Int → Int}
theorem tc_dg (h : ∀ i, 0 ≤ i → i < n → s i = s' i) : ax_dg n s = ax_dg n s' := by
  funext a
  unfold ax_dg
  by_cases q : 0 ≤ a ∧ a < n ∧ a < 120
  · rw [if_pos q, if_pos q, h a q.1 q.2.1]
  · rw [if_neg q, if_neg q]
theorem tc_n1 (h : ax_dg n s = ax_dg n s') {lo hi v a : Int} : ax_n1 n s lo hi v a = ax_n1 n s' lo hi v a := by
  unfold ax_n1
  rw [h]
theorem tc_n2 (h : ax_dg n s = ax_dg n s') {lo hi a : Int} : ax_n2 n s lo hi a = ax_n2 n s' lo hi a := by
  unfold ax_n2
  rw [h, tc_n1 h]
theorem tc_cm (h : ax_dg n s = ax_dg n s') {a k : Int} : ax_cm n s a k = ax_cm n s' a k := by
  unfold ax_cm
  rw [tc_n1 h, tc_n2 h, tc_n2 h, tc_n1 h, tc_n2 h, tc_n1 h, h]
theorem tc_fw (h : ax_dg n s = ax_dg n s') : ∀ (m : Nat) (a : Int), ax_fw n s m a = ax_fw n s' m a := by
  intro m
  induction m with
  | zero => intro a; rfl
  | succ m ih =>
    intro a
    rw [ax_fw, ax_fw, h, tc_cm h, ih]
theorem tc_ep (h : ax_dg n s = ax_dg n s') : ax_ep n s = ax_ep n s' := by
  unfold ax_ep
  rw [h, tc_fw h]
theorem tc_ld (h : ax_dg n s = ax_dg n s') : ∀ (m : Nat) (a c : Int) (Y : Nat → Int → Int), ad_ld n s m a Y c = ad_ld n s' m a Y c := by
  intro m
  induction m with
  | zero => intro a c Y; rfl
  | succ m ih =>
    intro a c Y
    rw [ad_ld, ad_ld, h, tc_cm h, ih]
end TCG
theorem tc_ob15 {Y : Nat → Int → Int} {k a c : Int} : ay_ob Y k a c 0 15 = Y 0 15 := by
  unfold ay_ob
  by_cases q : ay_can Y k a c = 0
  · rw [if_pos q]
  rw [if_neg q]
  rcases av_can q with w | w | w | w | w | w | w | w | w | w
  · rw [w.1]; exact (ay_uy_ne (Or.inr (by decide)) : am_uy Y 0 7 (Y 0 7 + 1) 0 15 = Y 0 15)
  · rw [w.1]; exact (ay_lg_0 (by decide) (by decide) : am_lg Y a c 0 15 = Y 0 15)
  · rw [w.1]; exact (ay_burn_0 (by decide) ⟨by decide, by decide, by decide⟩ : ay_burn Y a 0 15 = Y 0 15)
  · rw [w.1]; exact (ay_take_0 (by decide) (by decide) : ay_take Y a 0 15 = Y 0 15)
  · rw [w.1]; exact (ay_jp_0 (by decide) : ay_jp Y a c 0 15 = Y 0 15)
  · rw [w.1]; exact (ay_pt_ne (Or.inl (by decide)) : am_pt Y 7 4 a (if c = 1 then 1 else 0) 0 15 = Y 0 15)
  · rw [w.1]; exact (ay_mend_0 (by decide) : ay_mend Y a 0 15 = Y 0 15)
  · rw [w.1]; exact (ay_rg_ne (by decide) : ay_wind Y a 0 15 = Y 0 15)
  · rw [w.1]; exact (ay_rg_ne (by decide) : ay_rain Y a 0 15 = Y 0 15)
  · rw [w.1]; exact (ay_nts_0 (by decide) ⟨by decide, by decide, by decide⟩ (by decide) _ _ : ay_nts a.toNat Y 0 15 = Y 0 15)
theorem tc_ld15 {n : Int} {s : Int → Int} : ∀ (m : Nat) (a c : Int) (Y : Nat → Int → Int), (ad_ld n s m a Y c).2 0 15 = Y 0 15 := by
  intro m
  induction m with
  | zero => intro a c Y; rfl
  | succ m ih =>
    intro a c Y
    rw [ad_ld]
    split
    · rfl
    · split
      · rfl
      · rw [ih, tc_ob15]
theorem tc_ldH {n : Int} {s : Int → Int} : ∀ (m : Nat) (a c : Int) (Y : Nat → Int → Int), av_Y Y → av_H Y → av_H (ad_ld n s m a Y c).2 := by
  intro m
  induction m with
  | zero => intro a c Y _ h; exact h
  | succ m ih =>
    intro a c Y hY h
    rw [ad_ld]
    split
    · exact h
    · split
      · exact h
      · exact ih _ _ _ (av_ob hY).1 (av_Hob hY h)
theorem tc_yc {Y : Nat → Int → Int} : av_G 0 (am_yc Y) ∧ am_yc Y 0 15 = 0 := by
  obtain ⟨h1, h2⟩ := av_clear (Y := Y)
  have e12 : am_yc Y 0 12 = 0 := by unfold am_yc; simp [ay_uy_x]
  have e13 : am_yc Y 0 13 = 0 := by unfold am_yc; simp [ay_uy_x]
  have e9 : am_yc Y 0 9 = 0 := by unfold am_yc; simp [ay_uy_x]
  have e15 : am_yc Y 0 15 = 0 := by unfold am_yc; simp [ay_uy_x]
  refine ⟨⟨h1, ⟨by omega, by omega⟩, by omega, by omega⟩, e15⟩
section TOP5
variable {E : am_E} {M N : am_M} {B : Int}
theorem tp_append (hE : am_Wr E) (hs : si M B) {w : Int} : tq E M B (fun x => if x = 0 then 1 else if x = 1 then 2 else 0) (am_den 67 (0, [some (am_A (34, 0)), some (am_I w)], [], E, M)) (fun E' N => am_den 156 (0, [some (am_A (35, 0)), some (am_I w)], [], E', N)) := by
  obtain ⟨t1, t2, t3, t4, t5⟩ := hs.2.2.2
  rw [ad_67 hE t1.1]
  by_cases h1 : 0 ≤ w ∧ w ≤ 255
  · rw [if_pos h1]
    by_cases h2 : M 30 0 1 < 120
    · rw [if_pos h2]
      refine ⟨_, fun b hb => am_sb_ne (by omega), Or.inl ⟨_, rfl, fun E' N hE' hN => ?_⟩⟩
      have nb : ∀ b, b ≠ 44 → b ≠ 30 → N b = M b := fun b a c => by rw [hN b a, am_sb_ne c]
      have n30 : N 30 = am_uy (am_uy (M 30) 1 (M 30 0 1) w) 0 1 (M 30 0 1 + 1) := by rw [hN 30 (by decide), am_sb_at]
      have e2 : N 35 0 2 = M 30 0 1 := by rw [nb 35 (by decide) (by decide), t2]
      refine ⟨ar_s (ar_s (ar_s N 35 (ar_u (N 35 0) 0 0)) 36 (ar_u (N 36 0) (M 30 0 1) w)) 35 (ar_u (ar_u (N 35 0) 0 0) 2 (M 30 0 1 + 1)), ?_, by rw [ar_s_at, ar_u_ne (by decide), ar_u_eq], fun b hb => by rw [ar_s_nb (by omega), ar_s_nb (by omega), ar_s_nb (by omega)], ?_⟩
      · show am_den 156 (0, [some (am_A (35, 0)), some (am_I w)], [], E', N) = _
        rw [am_B156_0, ar_120, am_bd_v]
        simp only [Nat.reduceAdd]
        rw [am_B156_10, if_pos (show am_b (0 ≤ w ∧ w ≤ 255) ≠ 0 by rw [ne_eq, am_b_0]; exact fun z => z h1), am_B156_17 hE', e2, if_pos (show M 30 0 1 ≠ 120 by omega), am_B156_30, am_B156_31 hE', tp_119 hE', am_bd_v]
        simp only [Nat.reduceAdd]
        have f2 : ar_s N 35 (ar_u (N 35 0) 0 0) 35 0 2 = M 30 0 1 := by rw [ar_s_at, ar_u_ne (by decide), e2]
        rw [am_B156_34, if_pos (by rw [am_b_0]; decide), am_B156_39 hE' (by rw [f2]; omega), f2, ar_up0, ar_s_ne (show (36 : Nat) ≠ 35 by decide)]
        have f3 : ar_s (ar_s N 35 (ar_u (N 35 0) 0 0)) 36 (ar_u (N 36 0) (M 30 0 1) w) 35 0 = ar_u (N 35 0) 0 0 := by rw [ar_s_ne (by decide), ar_s_at]
        rw [am_B156_49 hE', f3, ar_u_ne (by decide), e2, am_wi (by omega) (by omega), ar_up0, f3, am_B156_59 hE', ar_s_at, ar_u_eq]
      · have e : ∀ b, b ≠ 44 → b ≠ 30 → b ≠ 35 → b ≠ 36 → ar_s (ar_s (ar_s N 35 (ar_u (N 35 0) 0 0)) 36 (ar_u (N 36 0) (M 30 0 1) w)) 35 (ar_u (ar_u (N 35 0) 0 0) 2 (M 30 0 1 + 1)) b = M b := fun b a c d f => by rw [ar_s_nb d, ar_s_nb f, ar_s_nb d, nb b a c]
        have e30 : ar_s (ar_s (ar_s N 35 (ar_u (N 35 0) 0 0)) 36 (ar_u (N 36 0) (M 30 0 1) w)) 35 (ar_u (ar_u (N 35 0) 0 0) 2 (M 30 0 1 + 1)) 30 = am_uy (am_uy (M 30) 1 (M 30 0 1) w) 0 1 (M 30 0 1 + 1) := by rw [ar_s_nb (by decide), ar_s_nb (by decide), ar_s_nb (by decide), n30]
        have e35 : ar_s (ar_s (ar_s N 35 (ar_u (N 35 0) 0 0)) 36 (ar_u (N 36 0) (M 30 0 1) w)) 35 (ar_u (ar_u (N 35 0) 0 0) 2 (M 30 0 1 + 1)) 35 0 = ar_u (ar_u (N 35 0) 0 0) 2 (M 30 0 1 + 1) := ar_s_at
        have e36 : ar_s (ar_s (ar_s N 35 (ar_u (N 35 0) 0 0)) 36 (ar_u (N 36 0) (M 30 0 1) w)) 35 (ar_u (ar_u (N 35 0) 0 0) 2 (M 30 0 1 + 1)) 36 0 = ar_u (M 36 0) (M 30 0 1) w := by rw [ar_s_ne (by decide), ar_s_at, nb 36 (by decide) (by decide)]
        refine ⟨?_, ?_, ?_, ?_⟩
        · rw [e 0 (by decide) (by decide) (by decide) (by decide), e 37 (by decide) (by decide) (by decide) (by decide)]
          exact ts_le hs.1 (by omega)
        · refine tm_cg hs.2.1 (by omega) (fun b a c => e b (by omega) (by omega) (by omega) (by omega)) (e 31 (by decide) (by decide) (by decide) (by decide)) ?_ (e 41 (by decide) (by decide) (by decide) (by decide))
          rw [e35, ar_u_ne (by decide), ar_u_ne (by decide), nb 35 (by decide) (by decide)]
        · exact tl_cg hs.2.2.1 (by omega) (fun b a => e b (by omega) (by omega) (by omega) (by omega))
        · unfold tx
          rw [e30, e35, e36]
          have l1 : am_uy (am_uy (M 30) 1 (M 30 0 1) w) 0 1 (M 30 0 1 + 1) 0 1 = M 30 0 1 + 1 := ay_uy_eq
          have l2 : ∀ i, am_uy (am_uy (M 30) 1 (M 30 0 1) w) 0 1 (M 30 0 1 + 1) 1 i = if i = M 30 0 1 then w else M 30 1 i := by
            intro i
            rw [ay_uy_ne (Or.inl (by decide)), ay_uy_x]
            by_cases q : i = M 30 0 1
            · rw [if_pos ⟨rfl, q⟩, if_pos q]
            · rw [if_neg (fun z => q z.2), if_neg q]
          rw [l1]
          refine ⟨by omega, ar_u_eq, fun i i0 i1 => ?_, fun i i0 i1 => ?_, fun i i0 i1 => ?_⟩
          · rw [l2]
            unfold ar_u
            by_cases q : i = M 30 0 1
            · rw [if_pos q, if_pos q]
            · rw [if_neg q, if_neg q]
              exact t3 i i0 (by omega)
          · rw [l2]
            split
            · omega
            · exact t4 i i0 i1
          · unfold ar_u
            split
            · omega
            · exact t5 i i0 i1
    · rw [if_neg h2]
      refine ⟨M, fun _ _ => rfl, Or.inr ⟨1, rfl, by decide, fun E' N hE' hN => ?_⟩⟩
      obtain ⟨f1, f2, f3⟩ := tp_no (c := 2) (tp_44 hs hN)
      have e2 : N 35 0 2 = 120 := by rw [hN 35 (by decide), t2]; omega
      refine ⟨_, 0, ?_, f2, f3, f1⟩
      show am_den 156 (0, [some (am_A (35, 0)), some (am_I w)], [], E', N) = _
      rw [am_B156_0, ar_120, am_bd_v]
      simp only [Nat.reduceAdd]
      rw [am_B156_10, if_pos (show am_b (0 ≤ w ∧ w ≤ 255) ≠ 0 by rw [ne_eq, am_b_0]; exact fun z => z h1), am_B156_17 hE', e2, if_neg (by decide), am_B156_26, am_B156_31 hE', tp_119 hE', am_bd_v]
      simp only [Nat.reduceAdd]
      rw [am_B156_34, if_neg (by rw [am_b_0]; decide), am_B156_37]
  · rw [if_neg h1]
    refine ⟨M, fun _ _ => rfl, Or.inr ⟨0, rfl, by decide, fun E' N hE' hN => ?_⟩⟩
    obtain ⟨f1, f2, f3⟩ := tp_no (c := 1) (tp_44 hs hN)
    refine ⟨_, 0, ?_, f2, f3, f1⟩
    show am_den 156 (0, [some (am_A (35, 0)), some (am_I w)], [], E', N) = _
    rw [am_B156_0, ar_120, am_bd_v]
    simp only [Nat.reduceAdd]
    rw [am_B156_10, if_neg (show ¬ am_b (0 ≤ w ∧ w ≤ 255) ≠ 0 by rw [ne_eq, am_b_0]; exact fun z => z h1), am_B156_13, am_B156_31 hE', tp_119 hE', am_bd_v]
    simp only [Nat.reduceAdd]
    rw [am_B156_34, if_neg (by rw [am_b_0]; decide), am_B156_37]
theorem tp_clearText (hE : am_Wr E) (hs : si M B) {u : Option am_V} : tq E M B (fun _ => 0) (am_den 68 (0, [some (am_A (34, 0))], [], E, M)) (fun E' N => am_den 157 (0, [some (am_A (35, 0)), u], [], E', N)) := by
  obtain ⟨t1, t2, t3, t4, t5⟩ := hs.2.2.2
  rw [ad_68 hE]
  refine ⟨_, fun b hb => am_sb_ne (by omega), Or.inl ⟨_, rfl, fun E' N hE' hN => ?_⟩⟩
  have nb : ∀ b, b ≠ 44 → b ≠ 30 → N b = M b := fun b a c => by rw [hN b a, am_sb_ne c]
  have n30 : N 30 = am_uy (M 30) 0 1 0 := by rw [hN 30 (by decide), am_sb_at]
  have e2 : N 35 0 2 = M 30 0 1 := by rw [nb 35 (by decide) (by decide), t2]
  refine ⟨ar_s N 35 (ar_u (ar_u (N 35 0) 0 0) 2 0), ?_, by rw [ar_s_at, ar_u_ne (by decide), ar_u_eq], fun b hb => by rw [ar_s_nb (by omega)], ?_⟩
  · show am_den 157 (0, [some (am_A (35, 0)), u], [], E', N) = _
    rw [am_B157_0 hE', ar_up0, am_B157_5 hE', ar_s_at, ar_u_ne (show (2 : Int) ≠ 0 by decide), e2, ar_up, am_B157_15]
  · have e : ∀ b, b ≠ 44 → b ≠ 30 → b ≠ 35 → ar_s N 35 (ar_u (ar_u (N 35 0) 0 0) 2 0) b = M b := fun b a c d => by rw [ar_s_nb d, nb b a c]
    have e30 : ar_s N 35 (ar_u (ar_u (N 35 0) 0 0) 2 0) 30 = am_uy (M 30) 0 1 0 := by rw [ar_s_nb (by decide), n30]
    have e35 : ar_s N 35 (ar_u (ar_u (N 35 0) 0 0) 2 0) 35 0 = ar_u (ar_u (N 35 0) 0 0) 2 0 := ar_s_at
    refine ⟨?_, ?_, ?_, ?_⟩
    · rw [e 0 (by decide) (by decide) (by decide), e 37 (by decide) (by decide) (by decide)]
      exact ts_le hs.1 (by omega)
    · refine tm_cg hs.2.1 (by omega) (fun b a c => e b (by omega) (by omega) (by omega)) (e 31 (by decide) (by decide) (by decide)) ?_ (e 41 (by decide) (by decide) (by decide))
      rw [e35, ar_u_ne (by decide), ar_u_ne (by decide), nb 35 (by decide) (by decide)]
    · exact tl_cg hs.2.2.1 (by omega) (fun b a => e b (by omega) (by omega) (by omega))
    · unfold tx
      have l1 : am_uy (M 30) 0 1 0 0 1 = 0 := ay_uy_eq
      have l2 : ∀ i, am_uy (M 30) 0 1 0 1 i = M 30 1 i := fun i => ay_uy_ne (Or.inl (by decide))
      rw [e30, e35, e 36 (by decide) (by decide) (by decide), l1]
      exact ⟨by omega, ar_u_eq, fun i i0 i1 => by omega, fun i i0 i1 => by rw [l2]; exact t4 i i0 i1, t5⟩
/-- the whole text is read -/
theorem tp_164 (hE : am_Wr E) (ht : tx N) (Y0 : Nat → Int → Int) : ∃ f' g', am_den 164 (0, [some (am_A (35, 0)), some (am_A (38, 0))], [], E, N) = some (.inl (some (am_I (ax_ep (N 35 0 2) (N 36 0)))), E, rt_s N f' g') ∧ (∀ j, j ≠ 11 → j ≠ 12 → g' j = N 35 0 j) ∧ (ax_ep (N 35 0 2) (N 36 0) = -1 → ra_q f' (ad_ld (N 35 0 2) (N 36 0) 120 1 (am_yc Y0) 0).2 ∧ g' 12 = (ad_ld (N 35 0 2) (N 36 0) 120 1 (am_yc Y0) 0).1 ∧ f' 8 = 0) := by
  obtain ⟨t1, t2, t3, t4, t5⟩ := ht
  have hk := hE.2.2.2.2.2.2.2.2.1
  have e122 := rt_122 (M := N) (f := N 38 0) (d := 38) (u := none) hk
  rw [ar_s_self] at e122
  have st : ∀ g, ar_s (ar_s N 38 (rt_cl (N 38 0))) 35 g = rt_s N (rt_cl (N 38 0)) g := fun g => rfl
  have c35 : ar_s N 38 (rt_cl (N 38 0)) 35 0 = N 35 0 := ar_s_ne (by decide)
  have c8 : rt_cl (N 38 0) 8 = 0 := by
    unfold rt_cl ar_rg
    rw [ar_u_ne (by decide), if_pos (by omega)]
  rw [am_B164_0, e122, am_bd_u]
  simp only [Nat.reduceAdd]
  rw [am_B164_4 hE, ar_up0, c35, am_B164_9 hE, ar_up, am_B164_14 hE, ar_s_at, ar_u_ne (show (2 : Int) ≠ 11 by decide), ar_u_ne (show (2 : Int) ≠ 12 by decide), st]
  have keep : ∀ j, j ≠ 11 → j ≠ 12 → ar_u (ar_u (N 35 0) 12 0) 11 0 j = N 35 0 j := fun j a b => by rw [ar_u_ne a, ar_u_ne b]
  unfold ax_ep
  by_cases q1 : N 35 0 2 = 0
  · have e : ax_dg (N 35 0 2) (N 36 0) 0 = -1 := by
      unfold ax_dg
      rw [if_neg (by omega)]
    refine ⟨rt_cl (N 38 0), ar_u (ar_u (N 35 0) 12 0) 11 0, ?_, keep, fun z => ?_⟩
    · rw [if_pos q1, am_B164_32, e, if_neg (by decide)]
    · rw [e, if_neg (by decide)] at z
      exact absurd z (by decide)
  · have e : ax_dg (N 35 0 2) (N 36 0) 0 = N 36 0 0 := by
      unfold ax_dg
      rw [if_pos (by omega)]
    rw [if_neg q1, am_B164_21 hE, rt_36, e]
    by_cases q2 : N 36 0 0 = 79
    · rw [if_pos q2, if_pos q2, am_B164_34 hE]
      have e3 : am_up (rt_s N (rt_cl (N 38 0)) (ar_u (ar_u (N 35 0) 12 0) 11 0)) (35, 0) 11 1 = rt_s N (rt_cl (N 38 0)) (ar_u (ar_u (N 35 0) 12 0) 11 1) := by
        unfold rt_s
        rw [ar_up, rt_uu]
      have g2 : ar_u (ar_u (N 35 0) 12 0) 11 1 2 = N 35 0 2 := by rw [ar_u_ne (by decide), ar_u_ne (by decide)]
      have g11 : ar_u (ar_u (N 35 0) 12 0) 11 1 11 = 1 := ar_u_eq
      have g12 : ar_u (ar_u (N 35 0) 12 0) 11 1 12 = 0 := by rw [ar_u_ne (by decide), ar_u_eq]
      obtain ⟨f', g', x1, x2, x3⟩ := rt_164l (M := N) hE (fun i a b => by have := t5 i a b; omega) 120 (rt_cl (N 38 0)) (ar_u (ar_u (N 35 0) 12 0) 11 1) (am_yc Y0) 0 rt_cl_q tc_yc.1 (by decide) (by rw [g2]; omega) (by rw [g11]; decide) (by rw [g2, g11]; omega) (by rw [g12]; decide) (by rw [g12]; decide)
      rw [g2, g11] at x1
      rw [g2, g11, g12] at x3
      refine ⟨f', g', by rw [e3]; exact x1, fun j a b => by rw [x2 j a b, ar_u_ne a, ar_u_ne b], fun z => ?_⟩
      have x4 := x3 z
      exact ⟨x4.1, x4.2.1, by rw [x4.2.2, c8]⟩
    · refine ⟨rt_cl (N 38 0), ar_u (ar_u (N 35 0) 12 0) 11 0, ?_, keep, fun z => ?_⟩
      · rw [if_neg q2, if_neg q2, am_B164_32]
      · rw [if_neg q2] at z
        exact absurd z (by decide)
theorem tp_txs (ht : tx M) : ax_dg (M 30 0 1) (M 30 1) = ax_dg (M 30 0 1) (M 36 0) := (tc_dg (fun i a b => (ht.2.2.1 i a b))).symm
theorem tp_txN (hs : tx M) {a k f g : Int} (hN : ∀ b, b ≠ 44 → b ≠ 30 → N b = M b) (h30 : N 30 = ax_st (M 30) a k f g) : tx N :=
  tx_cg hs (by rw [h30, ax_st_1]) (by rw [h30, ax_st_s]) (by rw [hN 35 (by decide) (by decide)]) (hN 36 (by decide) (by decide))
theorem tp_errorPosition (hE : am_Wr E) (hs : si M B) : tq E M B (fun _ => 0) (am_den 69 (0, [some (am_A (34, 0))], [], E, M)) (fun E' N => am_den 165 (0, [some (am_A (35, 0))], [], E', N)) := by
  obtain ⟨t1, t2, t3, t4, t5⟩ := hs.2.2.2
  obtain ⟨a, k, f, g, e⟩ := ad_69 (E := E) (M := M) hE (fun i a b => by have := t4 i a b; omega) t1.2
  rw [e]
  refine ⟨_, fun b hb => am_sb_ne (by omega), Or.inl ⟨_, rfl, fun E' N hE' hN => ?_⟩⟩
  have nb : ∀ b, b ≠ 44 → b ≠ 30 → N b = M b := fun b a c => by rw [hN b a, am_sb_ne c]
  have n30 : N 30 = ax_st (M 30) a k f g := by rw [hN 30 (by decide), am_sb_at]
  have e35 : ∀ j, j ≠ 0 → ar_s N 35 (ar_u (N 35 0) 0 0) 35 0 j = M 35 0 j := fun j hj => by rw [ar_s_at, ar_u_ne hj, nb 35 (by decide) (by decide)]
  have nn : ∀ b, b ≠ 35 → ar_s N 35 (ar_u (N 35 0) 0 0) b = N b := fun b hb => ar_s_nb hb
  have htx : tx (ar_s N 35 (ar_u (N 35 0) 0 0)) := tx_cg hs.2.2.2 (by rw [nn 30 (by decide), n30, ax_st_1]) (by rw [nn 30 (by decide), n30, ax_st_s]) (e35 2 (by decide)) (by rw [nn 36 (by decide), nb 36 (by decide) (by decide)])
  obtain ⟨f', g', x1, x2, x3⟩ := tp_164 (E := E') (N := ar_s N 35 (ar_u (N 35 0) 0 0)) hE' htx (M 0)
  have ev : ax_ep (ar_s N 35 (ar_u (N 35 0) 0 0) 35 0 2) (ar_s N 35 (ar_u (N 35 0) 0 0) 36 0) = ax_ep (M 30 0 1) (M 30 1) := by
    rw [e35 2 (by decide), t2, nn 36 (by decide), nb 36 (by decide) (by decide)]
    exact (tc_ep (tp_txs hs.2.2.2)).symm
  rw [ev] at x1
  have c : ∀ b, b ≠ 35 → b ≠ 38 → rt_s (ar_s N 35 (ar_u (N 35 0) 0 0)) f' g' b = N b := fun b p q => by
    unfold rt_s
    rw [ar_s_nb p, ar_s_nb q, nn b p]
  have c35 : rt_s (ar_s N 35 (ar_u (N 35 0) 0 0)) f' g' 35 0 = g' := rt_35
  refine ⟨_, ?_, ?_, fun b hb => c b (by omega) (by omega), ?_⟩
  · show am_den 165 (0, [some (am_A (35, 0))], [], E', N) = _
    rw [am_B165_0 hE', ar_up0, am_B165_5 hE', x1, am_bd_v]
    simp only [Nat.reduceAdd]
    rw [am_B165_13]
  · rw [c35, x2 0 (by decide) (by decide), ar_s_at, ar_u_eq]
  · refine tp_cg (N := rt_s (ar_s N 35 (ar_u (N 35 0) 0 0)) f' g') hs (by omega) (fun b hb => ?_) (fun b w => ?_) ?_ ?_ ?_ ?_ (fun b w => ?_)
    · rw [c b (by omega) (by omega), nb b (by omega) (by omega)]
    · rw [c b (by omega) (by omega), nb b (by omega) (by omega)]
    · rw [c 30 (by decide) (by decide), n30, ax_st_1]
    · rw [c 30 (by decide) (by decide), n30, ax_st_s]
    · rw [c35, x2 2 (by decide) (by decide), e35 2 (by decide)]
    · rw [c35, x2 8 (by decide) (by decide), e35 8 (by decide)]
    · rw [c b (by omega) (by omega), nb b (by omega) (by omega)]
theorem tp_load (hE : am_Wr E) (hs : si M B) (hB : 70000 ≤ B) {u1 u2 : Option am_V} : tq E M B (fun x => if x = 1 then 1 else 0) (am_den 70 (0, [some (am_A (34, 0)), u1, u2], [], E, M)) (fun E' N => am_den 166 (0, [some (am_A (35, 0))], [], E', N)) := by
  obtain ⟨t1, t2, t3, t4, t5⟩ := hs.2.2.2
  obtain ⟨a, k, f, g, e⟩ := ad_70 (E := E) (M := M) hE (fun i a b => by have := t4 i a b; omega) t1.2 (u1 := u1) (u2 := u2)
  rw [e]
  -- the reference's text, in a state that is the class's in what both read
  have red : ∀ (E' : am_E) (N : am_M), am_Wr E' → (∀ b, b ≠ 44 → b ≠ 30 → b ≠ 0 → b ≠ 31 → b ≠ 32 → b ≠ 33 → N b = M b) → N 30 = ax_st (M 30) a k f g → ∃ f' g', am_den 164 (0, [some (am_A (35, 0)), some (am_A (38, 0))], [], E', N) = some (.inl (some (am_I (ax_ep (M 30 0 1) (M 30 1)))), E', rt_s N f' g') ∧ (∀ j, j ≠ 11 → j ≠ 12 → g' j = M 35 0 j) ∧ (ax_ep (M 30 0 1) (M 30 1) = -1 → ra_q f' (ad_ld (M 30 0 1) (M 30 1) 120 1 (am_yc (M 0)) 0).2 ∧ g' 12 = (ad_ld (M 30 0 1) (M 30 1) 120 1 (am_yc (M 0)) 0).1 ∧ f' 8 = 0) := by
    intro E' N hE' hN h30
    have htx : tx N := tx_cg hs.2.2.2 (by rw [h30, ax_st_1]) (by rw [h30, ax_st_s]) (by rw [hN 35 (by decide) (by decide) (by decide) (by decide) (by decide) (by decide)]) (hN 36 (by decide) (by decide) (by decide) (by decide) (by decide) (by decide))
    obtain ⟨f', g', x1, x2, x3⟩ := tp_164 hE' htx (M 0)
    have e35 : N 35 0 = M 35 0 := by rw [hN 35 (by decide) (by decide) (by decide) (by decide) (by decide) (by decide)]
    have e36 : N 36 0 = M 36 0 := by rw [hN 36 (by decide) (by decide) (by decide) (by decide) (by decide) (by decide)]
    rw [e35, e36, t2, ← tc_ep (tp_txs hs.2.2.2)] at x1
    rw [e35, e36, t2, ← tc_ep (tp_txs hs.2.2.2), ← tc_ld (tp_txs hs.2.2.2)] at x3
    exact ⟨f', g', x1, fun j p q => by rw [x2 j p q, e35], x3⟩
  by_cases h1 : ax_ep (M 30 0 1) (M 30 1) = -1
  · rw [if_pos h1]
    have l0 : ∀ b, b ≠ 31 → b ≠ 32 → b ≠ 33 → ad_l0 M b = M b := fun b p q r => by
      unfold ad_l0
      rw [am_sb_ne r, am_sb_ne q, am_sb_ne p]
    refine ⟨am_sb (am_sb (ad_l0 M) 0 (ad_ld (M 30 0 1) (M 30 1) 120 1 (am_yc (M 0)) 0).2) 30 (ax_st (M 30) a k f g), fun b hb => by rw [am_sb_ne (by omega), am_sb_ne (by omega), l0 b (by omega) (by omega) (by omega)], Or.inl ⟨_, rfl, fun E' N hE' hN => ?_⟩⟩
    have nb : ∀ b, b ≠ 44 → b ≠ 30 → b ≠ 0 → b ≠ 31 → b ≠ 32 → b ≠ 33 → N b = M b := fun b p q r s t u => by rw [hN b p, am_sb_ne q, am_sb_ne r, l0 b s t u]
    have n30 : N 30 = ax_st (M 30) a k f g := by rw [hN 30 (by decide), am_sb_at]
    have n0 : N 0 = (ad_ld (M 30 0 1) (M 30 1) 120 1 (am_yc (M 0)) 0).2 := by rw [hN 0 (by decide), am_sb_ne (by decide), am_sb_at]
    have n31 : N 31 = am_uy (M 31) 0 2 0 := by rw [hN 31 (by decide), am_sb_ne (by decide), am_sb_ne (by decide), ad_l0, am_sb_ne (by decide), am_sb_ne (by decide), am_sb_at]
    have n32 : N 32 = am_uy (M 32) 0 1 0 := by rw [hN 32 (by decide), am_sb_ne (by decide), am_sb_ne (by decide), ad_l0, am_sb_ne (by decide), am_sb_at]
    have n33 : N 33 = am_uy (M 33) 0 1 0 := by rw [hN 33 (by decide), am_sb_ne (by decide), am_sb_ne (by decide), ad_l0, am_sb_at]
    obtain ⟨f', g', x1, x2, x3⟩ := red E' N hE' nb n30
    obtain ⟨x4, x5, x6⟩ := x3 h1
    have k37 := hE'.2.2.2.2.2.2.2.1
    have k38 := hE'.2.2.2.2.2.2.2.2.1
    have r35 : rt_s N f' g' 35 0 = g' := rt_35
    have r38 : ∀ g2, ar_s (rt_s N f' g') 35 g2 38 0 = f' := fun g2 => by
      unfold rt_s
      rw [ar_s_ne (by decide), ar_s_ne (by decide), ar_s_at]
    have rb : ∀ b, b ≠ 35 → b ≠ 38 → rt_s N f' g' b = N b := fun b p q => by
      unfold rt_s
      rw [ar_s_nb p, ar_s_nb q]
    -- the state behind the call
    obtain ⟨N2, eN2⟩ : ∃ N2, ar_s (ar_s (ar_s (ar_s (rt_s N f' g') 35 (ar_u g' 0 0)) 37 (rt_cp f' (N 37 0) 0 0)) 35 (ar_u (ar_u g' 0 0) 8 0)) 43 (ar_u (ar_u (N 43 0) 0 0) 1 0) = N2 := ⟨_, rfl⟩
    have s : ∀ b, b ≠ 35 → b ≠ 37 → b ≠ 38 → b ≠ 43 → N2 b = N b := fun b p q r t => by rw [← eN2, ar_s_nb t, ar_s_nb p, ar_s_nb q, ar_s_nb p, rb b p r]
    have s35 : N2 35 0 = ar_u (ar_u g' 0 0) 8 0 := by rw [← eN2, ar_s_ne (by decide), ar_s_at]
    have s37 : N2 37 0 = rt_cp f' (N 37 0) 0 0 := by rw [← eN2, ar_s_ne (by decide), ar_s_ne (by decide), ar_s_at]
    have s43 : N2 43 0 = ar_u (ar_u (N 43 0) 0 0) 1 0 := by rw [← eN2, ar_s_at]
    have run : am_den 166 (0, [some (am_A (35, 0))], [], E', N) = some (.inl (some (am_I (g' 12))), E', N2) := by
      rw [am_B166_0 hE', x1, am_bd_v, h1]
      simp only [Nat.reduceAdd]
      rw [am_B166_9, if_neg (by decide), am_B166_13, am_B166_18 hE', tp_119 hE', am_bd_v, r35]
      simp only [Nat.reduceAdd]
      have a35 : ∀ F, ar_s (ar_s (rt_s N f' g') 35 (ar_u g' 0 0)) 37 F 35 0 = ar_u g' 0 0 := fun F => by rw [ar_s_ne (by decide), ar_s_at]
      have a37 : ar_s (rt_s N f' g') 35 (ar_u g' 0 0) 37 0 = N 37 0 := by rw [ar_s_ne (by decide), rb 37 (by decide) (by decide)]
      have a43 : ∀ F G, ar_s (ar_s (ar_s (rt_s N f' g') 35 (ar_u g' 0 0)) 37 F) 35 G 43 0 = N 43 0 := fun F G => by rw [ar_s_ne (by decide), ar_s_ne (by decide), ar_s_ne (by decide), rb 43 (by decide) (by decide)]
      rw [am_B166_21, if_pos (by rw [am_b_0]; decide), am_B166_26 hE', rt_121 (by decide) k38 k37 (by omega) (by omega) (by omega) (by omega), am_bd_u, r38, a37]
      simp only [Nat.reduceAdd]
      rw [am_B166_39 hE', ar_up0, a35, am_B166_44 hE', ar_up0, a43, am_B166_51 hE', ar_up, eN2, am_B166_58 hE', s35, ar_u_ne (by decide), ar_u_ne (by decide)]
    rw [x5] at run
    refine ⟨N2, run, by rw [s35, ar_u_ne (by decide), ar_u_eq], fun b hb => s b (by omega) (by omega) (by omega) (by omega), ?_, ?_, ?_, ?_⟩
    · rw [s 0 (by decide) (by decide) (by decide) (by decide), n0, s37]
      have hl := av_ld (n := M 30 0 1) (s := M 30 1) 120 1 0 (am_yc (M 0)) tc_yc.1.1
      have hb := av_lb hl.2 tc_yc.1.2.2.1 tc_yc.1.2.2.2 (by omega)
      have hH := tc_ldH (n := M 30 0 1) (s := M 30 1) 120 1 0 (am_yc (M 0)) tc_yc.1.1 tc_yc.1.2.1
      refine ts_f (f := f') ⟨⟨hl.1, hH, hb.1, by omega⟩, x4, by rw [x6, tc_ld15, tc_yc.2]⟩ (fun j p q => ?_)
      have e := rt_cp_at (f := f') (g := N 37 0) (a := 0) (b := 0) ⟨p, q⟩
      rw [Int.zero_add] at e
      exact e
    · unfold tm ak_ok
      have p1 : am_uy (M 31) 0 2 0 0 1 = M 31 0 1 := ay_uy_ne (Or.inr (by decide))
      have p2 : am_uy (M 31) 0 2 0 0 2 = 0 := ay_uy_eq
      rw [s 31 (by decide) (by decide) (by decide) (by decide), n31, s35, p1, p2]
      exact ⟨⟨hs.2.1.1.1, by omega⟩, ar_u_eq, fun j j0 j1 => by omega⟩
    · intro i hi
      have z32 : am_uy (M 32) 0 1 0 0 1 = 0 := ay_uy_eq
      have z33 : am_uy (M 33) 0 1 0 0 1 = 0 := ay_uy_eq
      have hc : i = 0 ∨ i = 1 := by omega
      rcases hc with q | q
      · subst q
        have e : N2 (32 + 0) 0 1 = 0 := by rw [s (32 + 0) (by decide) (by decide) (by decide) (by decide), show 32 + 0 = 32 from rfl, n32, z32]
        have e2 : N2 43 0 ((0 : Nat) : Int) = 0 := by rw [s43, ar_u_ne (by decide)]; exact ar_u_eq
        rw [e, e2]
        exact ⟨Or.inl rfl, rfl, fun z => absurd z (by decide)⟩
      · subst q
        have e : N2 (32 + 1) 0 1 = 0 := by rw [s (32 + 1) (by decide) (by decide) (by decide) (by decide), show 32 + 1 = 33 from rfl, n33, z33]
        have e2 : N2 43 0 ((1 : Nat) : Int) = 0 := by rw [s43]; exact ar_u_eq
        rw [e, e2]
        exact ⟨Or.inl rfl, rfl, fun z => absurd z (by decide)⟩
    · refine tx_cg hs.2.2.2 ?_ ?_ ?_ ?_
      · rw [s 30 (by decide) (by decide) (by decide) (by decide), n30, ax_st_1]
      · rw [s 30 (by decide) (by decide) (by decide) (by decide), n30, ax_st_s]
      · rw [s35, ar_u_ne (by decide), ar_u_ne (by decide), x2 2 (by decide) (by decide)]
      · rw [s 36 (by decide) (by decide) (by decide) (by decide), nb 36 (by decide) (by decide) (by decide) (by decide) (by decide) (by decide)]
  · rw [if_neg h1]
    refine ⟨_, fun b hb => am_sb_ne (by omega), Or.inr ⟨1, rfl, by decide, fun E' N hE' hN => ?_⟩⟩
    have nb : ∀ b, b ≠ 44 → b ≠ 30 → N b = M b := fun b p q => by rw [hN b p, am_sb_ne q]
    have n30 : N 30 = ax_st (M 30) a k f g := by rw [hN 30 (by decide), am_sb_at]
    obtain ⟨f', g', x1, x2, x3⟩ := red E' N hE' (fun b p q _ _ _ _ => nb b p q) n30
    have r35 : rt_s N f' g' 35 0 = g' := rt_35
    have c : ∀ b, b ≠ 35 → b ≠ 38 → ar_s (rt_s N f' g') 35 (ar_u g' 0 1) b = N b := fun b p q => by
      unfold rt_s
      rw [ar_s_nb p, ar_s_nb p, ar_s_nb q]
    refine ⟨ar_s (rt_s N f' g') 35 (ar_u g' 0 1), 0, ?_, by rw [ar_s_at, ar_u_eq]; rfl, fun b hb => c b (by omega) (by omega), ?_⟩
    · show am_den 166 (0, [some (am_A (35, 0))], [], E', N) = _
      rw [am_B166_0 hE', x1, am_bd_v]
      simp only [Nat.reduceAdd]
      rw [am_B166_9, if_pos h1, am_B166_17, am_B166_18 hE', tp_119 hE', am_bd_v, r35]
      simp only [Nat.reduceAdd]
      rw [am_B166_21, if_neg (by rw [am_b_0]; decide), am_B166_24]
    · refine tp_cg hs (by omega) (fun b hb => ?_) (fun b w => ?_) ?_ ?_ ?_ ?_ (fun b w => ?_)
      · rw [c b (by omega) (by omega), nb b (by omega) (by omega)]
      · rw [c b (by omega) (by omega), nb b (by omega) (by omega)]
      · rw [c 30 (by decide) (by decide), n30, ax_st_1]
      · rw [c 30 (by decide) (by decide), n30, ax_st_s]
      · rw [ar_s_at, ar_u_ne (by decide), x2 2 (by decide) (by decide)]
      · rw [ar_s_at, ar_u_ne (by decide), x2 8 (by decide) (by decide)]
      · rw [c b (by omega) (by omega), nb b (by omega) (by omega)]
end TOP5
