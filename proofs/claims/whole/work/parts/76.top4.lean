/-! ===== pairs: draw, set, undo ===== -/
section TOP4
variable {E : am_E} {M N : am_M} {B : Int}
theorem tp_draw (hE : am_Wr E) (hs : si M B) (hB : B < 2147000000) {p : Int} {u : Option am_V} : tq E M B (fun x => if x = 2 then 1 else 0) (am_den 77 (0, [some (am_A (34, 0)), some (am_I p), u], [], E, M)) (fun E' N => am_den 176 (0, [some (am_A (35, 0)), some (am_I p)], [], E', N)) := by
  obtain ⟨hG, hq, h8⟩ := hs.1
  rw [ac_77 hE hs.2.1.1]
  by_cases h1 : 0 ≤ p ∧ p < M 0 0 7
  · rw [if_pos h1]
    have pre : ∀ (Y' : Nat → Int → Int) (E' : am_E) (N N2 : am_M), am_Wr E' → (∀ b, b ≠ 44 → N b = am_sb (ak_kp M) 0 Y' b) → am_den 173 (0, [some (am_A (35, 0)), none], [], E', ar_s N 35 (ar_u (N 35 0) 0 0)) = some (.inl none, E', N2) → ∀ (v : Int) (N3 : am_M), am_den 148 (0, [some (am_A (37, 0)), some (am_I p), none], [], E', N2) = some (.inl (some (am_I v)), E', N3) → am_den 176 (0, [some (am_A (35, 0)), some (am_I p)], [], E', N) = some (.inl (some (am_I v)), E', N3) := by
      intro Y' E' N N2 hE' hN e2 v N3 e3
      have q37 : ra_q (N 37 0) (M 0) := by rw [hN 37 (by decide), tp_kp35 37 (by decide)]; exact hq
      have k37 := hE'.2.2.2.2.2.2.2.1
      rw [am_B176_0 hE', ra_127 (Y := M 0) (p := p) k37 q37 hG.1.1, am_bd_v]
      simp only [Nat.reduceAdd]
      rw [am_B176_9, if_neg (show ¬ am_b (0 ≤ p ∧ p < M 0 0 7) = 0 by rw [am_b_0]; exact fun z => z h1), am_B176_12, am_B176_17 hE', tp_119 hE', am_bd_v]
      simp only [Nat.reduceAdd]
      rw [am_B176_20, if_pos (by rw [am_b_0]; decide), am_B176_25 hE', e2, am_bd_u]
      simp only [Nat.reduceAdd]
      rw [am_B176_29 hE', e3, am_bd_v]
      simp only [Nat.reduceAdd]
      rw [am_B176_37]
    by_cases h2 : ay_why (M 0) p = 0
    · rw [if_pos h2, h2]
      refine ⟨am_sb (ak_kp M) 0 (ay_burn (M 0) p), tp_kp35, Or.inl ⟨0, rfl, fun E' N hE' hN => ?_⟩⟩
      have k37 := hE'.2.2.2.2.2.2.2.1
      obtain ⟨N2, e2, n37, fin⟩ := tp_acc hE' hs hN
      obtain ⟨f', e3, hq', h8'⟩ := ra_148a (M := N2) (d := 37) (u := none) k37 hq hG.1 (av_Hh hG.1 hG.2.1) h1.1 h1.2 h2
      have s37 : ar_s N2 37 (M 37 0) = N2 := by rw [← n37, ar_s_self]
      rw [s37] at e3
      have ht := (av_why0 h2).1
      obtain ⟨f1, f2, f3⟩ := fin f' (tp_ts (f := M 37 0) (tp_g hB hG (av_burn hG.1 ht).1 (av_Hburn hG.1 hG.2.1 ht).1 (av_li_le (av_burn hG.1 ht).2 (by omega))) hq' h8' (by rw [ay_burn_0 (by decide) ⟨by decide, by decide, by decide⟩]; exact h8))
      exact ⟨_, pre _ E' N N2 hE' hN e2 0 _ e3, f2, f3, f1⟩
    · rw [if_neg h2]
      refine ⟨am_sb (ak_kp M) 0 (am_uy (M 0) 0 15 (am_w (M 0 0 15 + 1))), tp_kp35, Or.inl ⟨ay_why (M 0) p, rfl, fun E' N hE' hN => ?_⟩⟩
      have k37 := hE'.2.2.2.2.2.2.2.1
      obtain ⟨N2, e2, n37, fin⟩ := tp_acc hE' hs hN
      have e3 := ra_148b (M := N2) (d := 37) (u := none) k37 hq hG.1 h1.1 h1.2 h2
      have s37 : ar_s N2 37 (M 37 0) = N2 := by rw [← n37, ar_s_self]
      rw [s37] at e3
      have hts : ts (B + 576) (am_uy (M 0) 0 15 (am_w (M 0 0 15 + 1))) (ar_u (M 37 0) 8 (am_w (M 37 0 8 + 1))) := by
        refine ⟨tp_g hB hG (av_scal ⟨by decide, by decide, by decide, by decide⟩ hG.1) (av_H_cg hG.2.1 (ay_uy_ne (Or.inr (by decide))) (ay_uy_ne (Or.inr (by decide))) (ay_uy_ne (Or.inr (by decide)))) (av_li_0 (ay_uy_ne (Or.inr (by decide)))), ?_, by rw [ar_u_eq, ay_uy_eq, h8]⟩
        exact ra_q_Y (ra_u8 hq) hG.1.1.1.2 hG.1.1.2.1.2 ⟨fun c x h _ _ _ => ay_uy_ne (Or.inl (by omega)), fun p _ _ => ⟨ay_uy_ne (Or.inl (by decide)), ay_uy_ne (Or.inl (by decide))⟩⟩ (fun j a b => ay_uy_ne (Or.inr (by omega))) (ay_uy_ne (Or.inr (by decide)))
      obtain ⟨f1, f2, f3⟩ := fin _ hts
      exact ⟨_, pre _ E' N N2 hE' hN e2 _ _ e3, f2, f3, f1⟩
  · rw [if_neg h1]
    refine ⟨M, fun _ _ => rfl, Or.inr ⟨2, rfl, by decide, fun E' N hE' hN => ?_⟩⟩
    have q37 : ra_q (N 37 0) (M 0) := by rw [hN 37 (by decide)]; exact hq
    have k37 := hE'.2.2.2.2.2.2.2.1
    obtain ⟨f1, f2, f3⟩ := tp_no (c := 1) (tp_44 hs hN)
    refine ⟨_, 0, ?_, f2, f3, f1⟩
    show am_den 176 (0, [some (am_A (35, 0)), some (am_I p)], [], E', N) = _
    rw [am_B176_0 hE', ra_127 (Y := M 0) (p := p) k37 q37 hG.1.1, am_bd_v]
    simp only [Nat.reduceAdd]
    rw [am_B176_9, if_pos (show am_b (0 ≤ p ∧ p < M 0 0 7) = 0 by rw [am_b_0]; exact h1), am_B176_16, am_B176_17 hE', tp_119 hE', am_bd_v]
    simp only [Nat.reduceAdd]
    rw [am_B176_20, if_neg (by rw [am_b_0]; decide), am_B176_23]
theorem tp_set (hE : am_Wr E) (hs : si M B) (hB : B < 2147000000) {w : Int} {u u' : Option am_V} : tq E M B (fun x => if x = 0 then 1 else 0) (am_den 85 (0, [some (am_A (34, 0)), some (am_I w), u], [], E, M)) (fun E' N => am_den 184 (0, [some (am_A (35, 0)), some (am_I w), u'], [], E', N)) := by
  obtain ⟨hG, hq, h8⟩ := hs.1
  rw [ac_85 hE hs.2.1.1]
  by_cases h1 : 0 ≤ w ∧ w ≤ 99
  · rw [if_pos h1]
    refine ⟨am_sb (ak_kp M) 0 (am_uy (M 0) 0 16 w), tp_kp35, Or.inl ⟨M 0 0 16, rfl, fun E' N hE' hN => ?_⟩⟩
    obtain ⟨N2, e2, n37, fin⟩ := tp_acc hE' hs hN
    have hts : ts (B + 576) (am_uy (M 0) 0 16 w) (ar_u (M 37 0) 9 w) := ⟨tp_g hB hG (av_scal ⟨by decide, by decide, by decide, by decide⟩ hG.1) (av_H_cg hG.2.1 (ay_uy_ne (Or.inr (by decide))) (ay_uy_ne (Or.inr (by decide))) (ay_uy_ne (Or.inr (by decide)))) (av_li_0 (ay_uy_ne (Or.inr (by decide)))), ra_us9 hq, by rw [ar_u_ne (by decide), ay_uy_ne (Or.inr (by decide))]; exact h8⟩
    obtain ⟨f1, f2, f3⟩ := fin _ hts
    refine ⟨_, ?_, f2, f3, f1⟩
    show am_den 184 (0, [some (am_A (35, 0)), some (am_I w), u'], [], E', N) = _
    rw [am_B184_0, ar_120, am_bd_v]
    simp only [Nat.reduceAdd]
    rw [am_B184_10, if_neg (show ¬ am_b (0 ≤ w ∧ w ≤ 99) = 0 by rw [am_b_0]; exact fun z => z h1), am_B184_13, am_B184_18 hE', tp_119 hE', am_bd_v]
    simp only [Nat.reduceAdd]
    rw [am_B184_21, if_pos (by rw [am_b_0]; decide), am_B184_26 hE', e2, am_bd_u]
    simp only [Nat.reduceAdd]
    rw [am_B184_30 hE', n37, hq.1.2.2.2.2.2.2.2.2, am_B184_46, ar_up0, n37]
  · rw [if_neg h1]
    refine ⟨M, fun _ _ => rfl, Or.inr ⟨0, rfl, by decide, fun E' N hE' hN => ?_⟩⟩
    obtain ⟨f1, f2, f3⟩ := tp_no (c := 1) (tp_44 hs hN)
    refine ⟨_, 0, ?_, f2, f3, f1⟩
    show am_den 184 (0, [some (am_A (35, 0)), some (am_I w), u'], [], E', N) = _
    rw [am_B184_0, ar_120, am_bd_v]
    simp only [Nat.reduceAdd]
    rw [am_B184_10, if_pos (show am_b (0 ≤ w ∧ w ≤ 99) = 0 by rw [am_b_0]; exact h1), am_B184_17, am_B184_18 hE', tp_119 hE', am_bd_v]
    simp only [Nat.reduceAdd]
    rw [am_B184_21, if_neg (by rw [am_b_0]; decide), am_B184_24]
theorem tp_undo (hE : am_Wr E) (hs : si M B) (hB : B < 2147000000) : tq E M B (fun x => if x = 1 then 1 else 0) (am_den 86 (0, [some (am_A (34, 0))], [], E, M)) (fun E' N => am_den 185 (0, [some (am_A (35, 0))], [], E', N)) := by
  obtain ⟨⟨o1, c1⟩, b8, cc⟩ := hs.2.1
  rw [ac_86 hE hs.2.1.1]
  by_cases h1 : M 31 0 2 = 0
  · rw [if_pos h1]
    refine ⟨M, fun _ _ => rfl, Or.inr ⟨1, rfl, by decide, fun E' N hE' hN => ?_⟩⟩
    obtain ⟨f1, f2, f3⟩ := tp_no (c := 1) (tp_44 hs hN)
    have e8 : N 35 0 8 = 0 := by rw [hN 35 (by decide), b8, h1]
    refine ⟨_, 0, ?_, f2, f3, f1⟩
    show am_den 185 (0, [some (am_A (35, 0))], [], E', N) = _
    rw [am_B185_0 hE', e8, if_neg (by decide), am_B185_8, am_B185_13 hE', tp_119 hE', am_bd_v]
    simp only [Nat.reduceAdd]
    rw [am_B185_16, if_neg (by rw [am_b_0]; decide), am_B185_19]
  · rw [if_neg h1]
    have ht := ak_t_le (o := M 31 0 1) (c := M 31 0 2 - 1)
    have gk : ∀ b, b ≠ 0 → b ≠ 31 → ak_gb M b = M b := fun b a c => by
      unfold ak_gb
      rw [am_sb_ne a, am_sb_ne c]
    have g0 : ak_gb M 0 = am_yp (M (ak_t (M 31 0 1) (M 31 0 2 - 1))) (M 0) := by
      unfold ak_gb
      rw [am_sb_at]
    have g31 : ak_gb M 31 = am_uy (M 31) 0 2 (M 31 0 2 - 1) := by
      unfold ak_gb
      rw [am_sb_ne (by decide), am_sb_at]
    refine ⟨ak_gb M, fun b a => gk b (by omega) (by omega), Or.inl ⟨M 31 0 2 - 1, rfl, fun E' N hE' hN => ?_⟩⟩
    have k37 := hE'.2.2.2.2.2.2.2.1
    have k41 := hE'.2.2.2.2.2.2.2.2.2.2.2.1
    have n35 : N 35 0 = M 35 0 := by rw [hN 35 (by decide), gk 35 (by decide) (by decide)]
    have n41 : N 41 0 = M 41 0 := by rw [hN 41 (by decide), gk 41 (by decide) (by decide)]
    have e8 : N 35 0 8 = M 31 0 2 := by rw [n35, b8]
    have w1 : am_w (M 31 0 2 - 1) = M 31 0 2 - 1 := am_wi (by omega) (by omega)
    have w2 : am_w (138 * (M 31 0 2 - 1)) = 138 * (M 31 0 2 - 1) := am_wi (by omega) (by omega)
    have st : ar_s (ar_s N 35 (ar_u (N 35 0) 0 0)) 35 (ar_u (ar_s N 35 (ar_u (N 35 0) 0 0) 35 0) 8 (M 31 0 2 - 1)) = ar_s N 35 (ar_u (ar_u (N 35 0) 0 0) 8 (M 31 0 2 - 1)) := by rw [ar_s_at, ar_s_s]
    have run : am_den 185 (0, [some (am_A (35, 0))], [], E', N) = some (.inl (some (am_I (M 31 0 2 - 1))), E', ar_s (ar_s N 35 (ar_u (ar_u (N 35 0) 0 0) 8 (M 31 0 2 - 1))) 37 (rt_cp (N 41 0) (N 37 0) (138 * (M 31 0 2 - 1)) 0)) := by
      rw [am_B185_0 hE', e8, if_pos h1, am_B185_12, am_B185_13 hE', tp_119 hE', am_bd_v]
      simp only [Nat.reduceAdd]
      rw [am_B185_16, if_pos (by rw [am_b_0]; decide), am_B185_21 hE', ar_s_at, ar_u_ne (show (8 : Int) ≠ 0 by decide), e8, w1, ar_up, am_B185_31 hE', ar_s_at, ar_u_eq, w2, rt_121 (by decide) k41 k37 (by omega) (by omega) (by omega) (by omega), am_bd_u]
      simp only [Nat.reduceAdd]
      rw [ar_s_ne (show (41 : Nat) ≠ 35 by decide), ar_s_ne (show (37 : Nat) ≠ 35 by decide), am_B185_51 hE', ar_s_ne (show (35 : Nat) ≠ 37 by decide), ar_s_at, ar_u_eq]
    refine ⟨_, run, by rw [ar_s_ne (by decide), ar_s_at, ar_u_ne (by decide), ar_u_eq], fun b hb => by rw [ar_s_nb (by omega), ar_s_nb (by omega)], ?_⟩
    have nb : ∀ b, b ≠ 44 → b ≠ 0 → b ≠ 31 → b ≠ 35 → b ≠ 37 → ar_s (ar_s N 35 (ar_u (ar_u (N 35 0) 0 0) 8 (M 31 0 2 - 1))) 37 (rt_cp (N 41 0) (N 37 0) (138 * (M 31 0 2 - 1)) 0) b = M b := fun b a c d e f => by rw [ar_s_nb f, ar_s_nb e, hN b a, gk b c d]
    have nb31 : ar_s (ar_s N 35 (ar_u (ar_u (N 35 0) 0 0) 8 (M 31 0 2 - 1))) 37 (rt_cp (N 41 0) (N 37 0) (138 * (M 31 0 2 - 1)) 0) 31 = am_uy (M 31) 0 2 (M 31 0 2 - 1) := by rw [ar_s_nb (by decide), ar_s_nb (by decide), hN 31 (by decide), g31]
    have nb35 : ar_s (ar_s N 35 (ar_u (ar_u (N 35 0) 0 0) 8 (M 31 0 2 - 1))) 37 (rt_cp (N 41 0) (N 37 0) (138 * (M 31 0 2 - 1)) 0) 35 0 = ar_u (ar_u (M 35 0) 0 0) 8 (M 31 0 2 - 1) := by rw [ar_s_ne (by decide), ar_s_at, n35]
    refine ⟨?_, ?_, ?_, ?_⟩
    · rw [ar_s_nb (show (0 : Nat) ≠ 37 by decide), ar_s_nb (show (0 : Nat) ≠ 35 by decide), hN 0 (by decide), g0, ar_s_at]
      refine ts_f (ts_copy (ts_le (cc (M 31 0 2 - 1) (by omega) (by omega)) (by omega))) (fun j a b => ?_)
      have e := rt_cp_at (f := N 41 0) (g := N 37 0) (a := 138 * (M 31 0 2 - 1)) (b := 0) ⟨a, b⟩
      rw [Int.zero_add] at e
      rw [e, n41]
    · have e31a : am_uy (M 31) 0 2 (M 31 0 2 - 1) 0 1 = M 31 0 1 := ay_uy_ne (Or.inr (by decide))
      have e31b : am_uy (M 31) 0 2 (M 31 0 2 - 1) 0 2 = M 31 0 2 - 1 := ay_uy_eq
      unfold tm ak_ok
      rw [nb31, nb35, e31a, e31b, nb 41 (by decide) (by decide) (by decide) (by decide) (by decide)]
      refine ⟨⟨o1, by omega⟩, ar_u_eq, fun j j0 j1 => ?_⟩
      have htj := ak_t_le (o := M 31 0 1) (c := j)
      rw [nb _ (by omega) (by omega) (by omega) (by omega) (by omega)]
      exact ts_le (cc j j0 (by omega)) (by omega)
    · refine tl_cg hs.2.2.1 (by omega) (fun b w => nb b (by omega) (by omega) (by omega) (by omega) (by omega))
    · refine tx_cg hs.2.2.2 ?_ ?_ ?_ ?_
      · rw [nb 30 (by decide) (by decide) (by decide) (by decide) (by decide)]
      · rw [nb 30 (by decide) (by decide) (by decide) (by decide) (by decide)]
      · rw [nb35, ar_u_ne (by decide), ar_u_ne (by decide)]
      · exact nb 36 (by decide) (by decide) (by decide) (by decide) (by decide)
end TOP4
