/-! ===== pairs: simulate, the whole ===== -/
section TOP14
variable {E : am_E} {M N : am_M} {B : Int} {Y Z : Nat → Int → Int} {f f' : Int → Int}
theorem tv_197l (hE : am_Wr E) {s0 n l0 : Int} (hn : n ≤ 60) {u2 : Option am_V} (hl0 : N 37 0 4 = l0) : ∀ (m i : Nat) (Y : Nat → Int → Int) (f : Int → Int) (x : Int) (B : Int) (u7 : Option am_V), (i : Int) + m = n → B + 576 * m < 2147000000 → av_G B Y → ra_q f Y → ∃ f', am_den 197 (45, [some (am_A (35, 0)), some (am_J s0), u2, some (am_I n), some (am_J x), none, some (am_I i), u7], [], E, ar_s N 38 f) = some (.inl (some (am_I (am_w (am_w (10000 * am_sm (ac_in (ad_sm m Y x)) (ad_sm m Y x 0 7).toNat) + (if am_w (ad_sm m Y x 0 11 - l0) ≤ 9999 then am_w (ad_sm m Y x 0 11 - l0) else 9999))))), E, ar_s N 38 f') := by
  have hk38 := hE.2.2.2.2.2.2.2.2.1
  intro m
  induction m with
  | zero =>
    intro i Y f x B u7 h hB hG hq
    have b1 : n ≤ (i : Int) := by omega
    have q38 : ra_q (ar_s N 38 f 38 0) Y := by rw [ar_s_at]; exact hq
    have e4 : ar_s N 38 f 38 0 4 = Y 0 11 := by rw [ar_s_at, hq.1.2.2.2.2.1]
    have e37 : ar_s N 38 f 37 0 4 = l0 := by rw [ar_s_ne (by decide), hl0]
    refine ⟨f, ?_⟩
    rw [am_B197_45, if_pos b1, am_B197_94 hE, e4, e37, ra_139 hk38 q38 hG.1, am_bd_v, ad_sm]
    simp only [Nat.reduceAdd]
    rw [am_B197_119]
    by_cases h2 : am_w (Y 0 11 - l0) ≤ 9999
    · rw [if_pos h2, am_B197_134, am_B197_136, if_pos h2]
    · rw [if_neg h2, am_B197_128, am_B197_136, if_neg h2]
  | succ m ih =>
    intro i Y f x B u7 h hB hG hq
    have hr := ad_rr_le (y := ad_nx x)
    have b1 : ¬ n ≤ (i : Int) := by omega
    have b2 : B < 2147000000 := by omega
    have b3 : B + 576 + 576 * (m : Int) < 2147000000 := by omega
    have b5 : ((i + 1 : Nat) : Int) + m = n := by omega
    have w1 : am_w ((i : Int) + 1) = ((i + 1 : Nat) : Int) := by rw [am_wi (by omega) (by omega)]; omega
    have w2 : am_w (ad_rr (ad_nx x)) = ad_rr (ad_nx x) := am_wi (by omega) (by omega)
    have w3 : am_w ((ad_rr (ad_nx x)).tdiv 16) = ad_rr (ad_nx x) / 16 := by rw [Int.tdiv_eq_ediv_of_nonneg hr.1, am_wi (by omega) (by omega)]
    have w4 : (ad_rr (ad_nx x)).tmod 16 = ad_rr (ad_nx x) % 16 := ad_wm hr.1
    rw [am_B197_45, if_neg b1, am_B197_51 hE]
    have g : ∃ f', am_bd 197 85 [some (am_A (35, 0)), some (am_J s0), u2, some (am_I n), some (am_J (ad_nx x)), none, some (am_I i), some (am_I (am_w (ad_rr (ad_nx x))))] [] (am_den 196 (0, [some (am_A (38, 0)), some (am_I ((am_w (ad_rr (ad_nx x))).tmod 16)), some (am_I (am_w ((am_w (ad_rr (ad_nx x))).tdiv 16)))], [], E, ar_s N 38 f)) = some (.inl (some (am_I (am_w (am_w (10000 * am_sm (ac_in (ad_sm (m + 1) Y x)) (ad_sm (m + 1) Y x 0 7).toNat) + (if am_w (ad_sm (m + 1) Y x 0 11 - l0) ≤ 9999 then am_w (ad_sm (m + 1) Y x 0 11 - l0) else 9999))))), E, ar_s N 38 f') := by
      rw [w2, w3, w4, ad_sm]
      obtain ⟨f1, e1, q1⟩ := ts_196 (N := N) hE hq hG (k := ad_rr (ad_nx x) % 16) (q := ad_rr (ad_nx x) / 16) (by omega) (by omega)
      rw [e1, am_bd_u]
      simp only [Nat.reduceAdd]
      rw [am_B197_88, w1]
      exact ih (i + 1) (ad_tn Y (ad_rr (ad_nx x))) f1 (ad_nx x) (B + 576) _ b5 b3 (av_Gob b2 hG).1 q1
    exact g
theorem tv_smY : ∀ (m : Nat) (Y : Nat → Int → Int) (x : Int), av_Y Y → av_Y (ad_sm m Y x) := by
  intro m
  induction m with
  | zero => intro Y x h; rw [ad_sm]; exact h
  | succ m ih => intro Y x h; rw [ad_sm]; exact ih _ _ (av_ob h).1
theorem tp_simulate (hE : am_Wr E) (hs : si M B) (hB : B < 2140000000) {n x : Int} {u2 u4 u5 u6 u7 u8 u9 u10 v2 v4 v5 v6 v7 : Option am_V} : tq E M B (fun x => if x = 0 then 1 else 0) (am_den 93 (0, [some (am_A (34, 0)), some (am_J x), u2, some (am_I n), u4, u5, u6, u7, u8, u9, u10], [], E, M)) (fun E' N => am_den 197 (0, [some (am_A (35, 0)), some (am_J x), v2, some (am_I n), v4, v5, v6, v7], [], E', N)) := by
  obtain ⟨hG, hq, h8⟩ := hs.1
  have c7 := (tp_cpq (M := M) (g := M 38 0) (X := M 17) hs.1).2.1.1.1
  rw [ad_93 hE c7]
  have pre : ∀ (E' : am_E) (N : am_M), am_Wr E' → am_den 197 (0, [some (am_A (35, 0)), some (am_J x), v2, some (am_I n), v4, v5, v6, v7], [], E', N) = am_den 197 (18, [some (am_A (35, 0)), some (am_J x), v2, some (am_I n), v4, v5, v6, v7], [am_I (1 - am_b (1 ≤ n ∧ n ≤ 60)), am_A (35, 0)], E', N) := by
    intro E' N hE'
    rw [am_B197_0, ar_120, am_bd_v]
    simp only [Nat.reduceAdd]
    rw [am_B197_10]
    by_cases a1 : 1 ≤ n ∧ n ≤ 60
    · rw [if_neg (show ¬ am_b (1 ≤ n ∧ n ≤ 60) = 0 by rw [am_b_0]; exact fun z => z a1), am_B197_13, show am_b (1 ≤ n ∧ n ≤ 60) = 1 by rw [am_b_1]; exact a1]
      rfl
    · rw [if_pos (show am_b (1 ≤ n ∧ n ≤ 60) = 0 by rw [am_b_0]; exact a1), am_B197_17, show am_b (1 ≤ n ∧ n ≤ 60) = 0 by rw [am_b_0]; exact a1]
      rfl
  by_cases h2 : 1 ≤ n ∧ n ≤ 60
  · rw [if_pos h2]
    refine ⟨_, fun b hb => am_sb_ne (by omega), Or.inl ⟨_, rfl, fun E' N hE' hN => ?_⟩⟩
    obtain ⟨hsN, hb⟩ := tp_17 hs hN
    have e37 : ar_s N 35 (ar_u (N 35 0) 0 0) 37 0 = M 37 0 := by rw [ar_s_ne (by decide), hb 37 (by decide) (by decide)]
    obtain ⟨c1, c2⟩ := tp_cpq (M := M) (g := ar_s N 35 (ar_u (N 35 0) 0 0) 38 0) (X := M 17) hs.1
    obtain ⟨f', ef⟩ := tv_197l (N := ar_s N 35 (ar_u (N 35 0) 0 0)) (s0 := x) (n := n) (l0 := M 0 0 11) (u2 := v2) hE' h2.2 (by rw [e37, hq.1.2.2.2.2.1]) n.toNat 0 (ac_cp M) _ x B v7 (by omega) (by omega) c2 c1
    obtain ⟨f1, f2, f3⟩ := tp_ok (f' := f') hsN
    have hS : av_Y (ad_sm n.toNat (ac_cp M) x) := tv_smY _ _ _ c2.1
    have sv : am_w (am_w (10000 * am_sm (ac_in (ad_sm n.toNat (ac_cp M) x)) (ad_sm n.toNat (ac_cp M) x 0 7).toNat) + (if am_w (ad_sm n.toNat (ac_cp M) x 0 11 - M 0 0 11) ≤ 9999 then am_w (ad_sm n.toNat (ac_cp M) x 0 11 - M 0 0 11) else 9999)) = ad_sv (ad_sm n.toNat (ac_cp M) x) (M 0) := by
      rw [ad_sv, ra_lia hS]
    rw [sv] at ef
    refine ⟨_, ?_, f2, f3, f1⟩
    show am_den 197 (0, [some (am_A (35, 0)), some (am_J x), v2, some (am_I n), v4, v5, v6, v7], [], E', N) = _
    rw [pre E' N hE', show am_b (1 ≤ n ∧ n ≤ 60) = 1 by rw [am_b_1]; exact h2, am_B197_18 hE', show (1 : Int) - 1 = 0 from rfl, tp_119 hE', am_bd_v]
    simp only [Nat.reduceAdd]
    rw [am_B197_21, if_pos (by rw [am_b_0]; decide), am_B197_26 hE', tp_121 hE', am_bd_u]
    simp only [Nat.reduceAdd]
    rw [am_B197_39, e37]
    exact ef
  · rw [if_neg h2]
    refine ⟨M, fun _ _ => rfl, Or.inr ⟨0, rfl, by decide, fun E' N hE' hN => ?_⟩⟩
    obtain ⟨f1, f2, f3⟩ := tp_no (c := 1) (tp_44 hs hN)
    refine ⟨_, 0, ?_, f2, f3, f1⟩
    show am_den 197 (0, [some (am_A (35, 0)), some (am_J x), v2, some (am_I n), v4, v5, v6, v7], [], E', N) = _
    rw [pre E' N hE', show am_b (1 ≤ n ∧ n ≤ 60) = 0 by rw [am_b_0]; exact h2, am_B197_18 hE', show (1 : Int) - 0 = 1 from rfl, tp_119 hE', am_bd_v]
    simp only [Nat.reduceAdd]
    rw [am_B197_21, if_neg (by rw [am_b_0]; decide), am_B197_24]
end TOP14
