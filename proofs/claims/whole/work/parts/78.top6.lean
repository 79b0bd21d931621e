/-! ===== pairs: what there is ===== -/
section TOP6
variable {E : am_E} {M N : am_M} {B : Int}
theorem tp_about (hE : am_Wr E) (hs : si M B) {w : Int} : tq E M B (fun x => if x = 0 then 1 else 0) (am_den 71 (0, [some (am_A (34, 0)), some (am_I w)], [], E, M)) (fun E' N => am_den 167 (0, [some (am_A (35, 0)), some (am_I w)], [], E', N)) := by
  obtain ⟨hG, hq, h8⟩ := hs.1
  rw [ac_71 hE hG.1.1.2.2.1 hG.1.1.1]
  by_cases h1 : 0 ≤ w ∧ w ≤ 11
  · rw [if_pos h1]
    refine ⟨M, fun _ _ => rfl, Or.inl ⟨_, rfl, fun E' N hE' hN => ?_⟩⟩
    have k37 := hE'.2.2.2.2.2.2.2.1
    obtain ⟨f1, f2, f3⟩ := tp_no (c := 0) (tp_44 hs hN)
    refine ⟨_, ?_, f2, f3, f1⟩
    have e37 : ar_s N 35 (ar_u (N 35 0) 0 0) 37 0 = M 37 0 := by rw [ar_s_ne (by decide), hN 37 (by decide)]
    have q37 : ra_q (ar_s N 35 (ar_u (N 35 0) 0 0) 37 0) (M 0) := by rw [e37]; exact hq
    obtain ⟨⟨a0, a1, a2, a3, a4, a5, a6, a7, a9⟩, _⟩ := hq
    show am_den 167 (0, [some (am_A (35, 0)), some (am_I w)], [], E', N) = _
    rw [am_B167_0, ar_120, am_bd_v]
    simp only [Nat.reduceAdd]
    rw [am_B167_10, if_neg (show ¬ am_b (0 ≤ w ∧ w ≤ 11) = 0 by rw [am_b_0]; exact fun z => z h1), am_B167_13, am_B167_18 hE', tp_119 hE', am_bd_v]
    simp only [Nat.reduceAdd]
    rw [am_B167_21, if_pos (by rw [am_b_0]; decide), am_B167_26]
    have hk : w = 0 ∨ w = 1 ∨ w = 2 ∨ w = 3 ∨ w = 4 ∨ w = 5 ∨ w = 6 ∨ w = 7 ∨ w = 8 ∨ w = 9 ∨ w = 10 ∨ w = 11 := by omega
    rcases hk with h | h | h | h | h | h | h | h | h | h | h | h
    · rw [am_S167_27v0 h, am_B167_88 hE' (by omega), e37, h, a0]
      rfl
    · rw [am_S167_27v1 h, am_B167_88 hE' (by omega), e37, h, a1]
      rfl
    · rw [am_S167_27v2 h, am_B167_95 hE', ra_139 k37 q37 hG.1, am_bd_v, h, ← ra_lia hG.1]
      simp only [Nat.reduceAdd]
      rw [am_B167_102]
      rfl
    · rw [am_S167_27v3 h, am_B167_119 hE' (by rw [am_wi (by omega) (by omega)]; omega), am_wi (by omega) (by omega), e37, h, show (3 : Int) - 1 = 2 from rfl, a2]
      rfl
    · rw [am_S167_27v4 h, am_B167_119 hE' (by rw [am_wi (by omega) (by omega)]; omega), am_wi (by omega) (by omega), e37, h, show (4 : Int) - 1 = 3 from rfl, a3]
      rfl
    · rw [am_S167_27v5 h, am_B167_119 hE' (by rw [am_wi (by omega) (by omega)]; omega), am_wi (by omega) (by omega), e37, h, show (5 : Int) - 1 = 4 from rfl, a4]
      rfl
    · rw [am_S167_27v6 h, am_B167_119 hE' (by rw [am_wi (by omega) (by omega)]; omega), am_wi (by omega) (by omega), e37, h, show (6 : Int) - 1 = 5 from rfl, a5]
      rfl
    · rw [am_S167_27v7 h, am_B167_119 hE' (by rw [am_wi (by omega) (by omega)]; omega), am_wi (by omega) (by omega), e37, h, show (7 : Int) - 1 = 6 from rfl, a6]
      rfl
    · rw [am_S167_27v8 h, am_B167_119 hE' (by rw [am_wi (by omega) (by omega)]; omega), am_wi (by omega) (by omega), e37, h, show (8 : Int) - 1 = 7 from rfl, a7]
      rfl
    · rw [am_S167_27v9 h, am_B167_119 hE' (by rw [am_wi (by omega) (by omega)]; omega), am_wi (by omega) (by omega), e37, h, show (9 : Int) - 1 = 8 from rfl, h8]
      rfl
    · rw [am_S167_27v10 h, am_B167_103 hE', ra_138 k37 q37 hG.1, am_bd_v, h]
      simp only [Nat.reduceAdd]
      rw [am_B167_110]
      rfl
    · rw [am_S167_27v11 h, am_B167_111 hE', e37, h, a9]
      rfl
  · rw [if_neg h1]
    refine ⟨M, fun _ _ => rfl, Or.inr ⟨0, rfl, by decide, fun E' N hE' hN => ?_⟩⟩
    obtain ⟨f1, f2, f3⟩ := tp_no (c := 1) (tp_44 hs hN)
    refine ⟨_, 0, ?_, f2, f3, f1⟩
    show am_den 167 (0, [some (am_A (35, 0)), some (am_I w)], [], E', N) = _
    rw [am_B167_0, ar_120, am_bd_v]
    simp only [Nat.reduceAdd]
    rw [am_B167_10, if_pos (show am_b (0 ≤ w ∧ w ≤ 11) = 0 by rw [am_b_0]; exact h1), am_B167_17, am_B167_18 hE', tp_119 hE', am_bd_v]
    simp only [Nat.reduceAdd]
    rw [am_B167_21, if_neg (by rw [am_b_0]; decide), am_B167_24]
theorem tp_pileOf (hE : am_Wr E) (hs : si M B) {p w : Int} : tq E M B (fun x => if x = 2 then 1 else if x = 0 then 2 else 0) (am_den 72 (0, [some (am_A (34, 0)), some (am_I p), some (am_I w)], [], E, M)) (fun E' N => am_den 169 (0, [some (am_A (35, 0)), some (am_I p), some (am_I w)], [], E', N)) := by
  obtain ⟨hG, hq, h8⟩ := hs.1
  rw [ac_72 hE hG.1.1.2.2.1]
  by_cases h1 : 0 ≤ p ∧ p < M 0 0 7
  · rw [if_pos h1]
    by_cases h2 : 0 ≤ w ∧ w ≤ 6
    · rw [if_pos h2]
      refine ⟨M, fun _ _ => rfl, Or.inl ⟨_, rfl, fun E' N hE' hN => ?_⟩⟩
      have k37 := hE'.2.2.2.2.2.2.2.1
      obtain ⟨f1, f2, f3⟩ := tp_no (c := 0) (tp_44 hs hN)
      refine ⟨_, ?_, f2, f3, f1⟩
      have e37 : ar_s N 35 (ar_u (N 35 0) 0 0) 37 0 = M 37 0 := by rw [ar_s_ne (by decide), hN 37 (by decide)]
      have q37 : ra_q (ar_s N 35 (ar_u (N 35 0) 0 0) 37 0) (M 0) := by rw [e37]; exact hq
      have qN : ra_q (N 37 0) (M 0) := by rw [hN 37 (by decide)]; exact hq
      show am_den 169 (0, [some (am_A (35, 0)), some (am_I p), some (am_I w)], [], E', N) = _
      rw [am_B169_0 hE', ra_127 (Y := M 0) (p := p) k37 qN hG.1.1, am_bd_v]
      simp only [Nat.reduceAdd]
      rw [am_B169_9, if_pos (show am_b (0 ≤ p ∧ p < M 0 0 7) ≠ 0 by rw [ne_eq, am_b_0]; exact fun z => z h1), am_B169_16, ar_120, am_bd_v]
      simp only [Nat.reduceAdd]
      rw [am_B169_25, if_neg (show ¬ am_b (0 ≤ w ∧ w ≤ 6) = 0 by rw [am_b_0]; exact fun z => z h2), am_B169_28, am_B169_33 hE', tp_119 hE', am_bd_v]
      simp only [Nat.reduceAdd]
      rw [am_B169_36, if_pos (by rw [am_b_0]; decide)]
      have hp : p ≠ -1 := by omega
      rw [am_B169_41]
      have hk : w = 0 ∨ w = 1 ∨ w = 2 ∨ w = 3 ∨ w = 4 ∨ w = 5 ∨ w = 6 := by omega
      rcases hk with h | h | h | h | h | h | h
      · rw [am_S169_42v0 h, am_B169_80 hE', ra_134 k37 q37 hG.1 hp, am_bd_v, h]
        simp only [Nat.reduceAdd]
        rw [am_B169_88]
        rfl
      · rw [am_S169_42v1 h, am_B169_89 hE', ra_125 k37 q37 hG.1.1 h1.1 h1.2, am_bd_v, h]
        simp only [Nat.reduceAdd]
        rw [am_B169_97]
        rfl
      · rw [am_S169_42v2 h, am_B169_98 hE', ra_168 k37 q37 hG.1 hp, am_bd_v, h]
        simp only [Nat.reduceAdd]
        rw [am_B169_106]
        rfl
      · have e : ac_po (M 0) p 3 = am_b (am_gt (M 0 7) 4 p = 1) := rfl
        rw [am_S169_42v3 h, am_B169_107 hE', ra_126 k37 q37 hG.1.1 h1.1 h1.2, am_bd_v, h, e]
        simp only [Nat.reduceAdd]
        rw [am_B169_115]
        by_cases h3 : am_gt (M 0 7) 4 p = 1
        · rw [if_neg (show ¬ am_b (am_gt (M 0 7) 4 p = 1) = 0 by rw [am_b_0]; exact fun z => z h3), am_B169_118, am_B169_123, am_b, if_pos h3]
        · rw [if_pos (show am_b (am_gt (M 0 7) 4 p = 1) = 0 by rw [am_b_0]; exact h3), am_B169_122, am_B169_123, am_b, if_neg h3]
      · rw [am_S169_42v4 h, am_B169_124 hE', ra_135 k37 q37 hG.1 hp, am_bd_v, h]
        simp only [Nat.reduceAdd]
        rw [am_B169_132]
        rfl
      · rw [am_S169_42v5 h, am_B169_133 hE', ra_136 k37 q37 hG.1 hp, am_bd_v, h]
        simp only [Nat.reduceAdd]
        rw [am_B169_141]
        rfl
      · rw [am_S169_42d (by omega), am_B169_142 hE', ra_146 k37 q37 hG.1 h1.1 h1.2, am_bd_v, h]
        simp only [Nat.reduceAdd]
        rw [am_B169_150]
        rfl

    · rw [if_neg h2]
      refine ⟨M, fun _ _ => rfl, Or.inr ⟨0, rfl, by decide, fun E' N hE' hN => ?_⟩⟩
      have k37 := hE'.2.2.2.2.2.2.2.1
      have qN : ra_q (N 37 0) (M 0) := by rw [hN 37 (by decide)]; exact hq
      obtain ⟨f1, f2, f3⟩ := tp_no (c := 2) (tp_44 hs hN)
      refine ⟨_, 0, ?_, f2, f3, f1⟩
      show am_den 169 (0, [some (am_A (35, 0)), some (am_I p), some (am_I w)], [], E', N) = _
      rw [am_B169_0 hE', ra_127 (Y := M 0) (p := p) k37 qN hG.1.1, am_bd_v]
      simp only [Nat.reduceAdd]
      rw [am_B169_9, if_pos (show am_b (0 ≤ p ∧ p < M 0 0 7) ≠ 0 by rw [ne_eq, am_b_0]; exact fun z => z h1), am_B169_16, ar_120, am_bd_v]
      simp only [Nat.reduceAdd]
      rw [am_B169_25, if_pos (show am_b (0 ≤ w ∧ w ≤ 6) = 0 by rw [am_b_0]; exact h2), am_B169_32, am_B169_33 hE', tp_119 hE', am_bd_v]
      simp only [Nat.reduceAdd]
      rw [am_B169_36, if_neg (by rw [am_b_0]; decide), am_B169_39]
  · rw [if_neg h1]
    refine ⟨M, fun _ _ => rfl, Or.inr ⟨2, rfl, by decide, fun E' N hE' hN => ?_⟩⟩
    have k37 := hE'.2.2.2.2.2.2.2.1
    have qN : ra_q (N 37 0) (M 0) := by rw [hN 37 (by decide)]; exact hq
    obtain ⟨f1, f2, f3⟩ := tp_no (c := 1) (tp_44 hs hN)
    refine ⟨_, 0, ?_, f2, f3, f1⟩
    show am_den 169 (0, [some (am_A (35, 0)), some (am_I p), some (am_I w)], [], E', N) = _
    rw [am_B169_0 hE', ra_127 (Y := M 0) (p := p) k37 qN hG.1.1, am_bd_v]
    simp only [Nat.reduceAdd]
    rw [am_B169_9, if_neg (show ¬ am_b (0 ≤ p ∧ p < M 0 0 7) ≠ 0 by rw [ne_eq, am_b_0]; exact fun z => z h1), am_B169_12, am_B169_33 hE', tp_119 hE', am_bd_v]
    simp only [Nat.reduceAdd]
    rw [am_B169_36, if_neg (by rw [am_b_0]; decide), am_B169_39]
theorem tp_170l (hE : am_Wr E) (hq : ra_q (N 37 0) (M 0)) (hY : av_Y (M 0)) {l w : Int} : ∀ (m i : Nat), i + m = (M 0 0 8).toNat → am_den 170 (46, [some (am_A (35, 0)), some (am_I l), some (am_I w), some (am_I (am_sm (fun x => am_b (am_un (M 0) l x)) i)), some (am_I i)], [], E, N) = am_den 170 (96, [some (am_A (35, 0)), some (am_I l), some (am_I w), some (am_I (am_sm (fun x => am_b (am_un (M 0) l x)) (M 0 0 8).toNat)), some (am_I (M 0 0 8))], [], E, N) := by
  have h8 := hY.1.2.1
  have k37 := hE.2.2.2.2.2.2.2.1
  intro m
  induction m with
  | zero =>
    intro i h
    have e : i = (M 0 0 8).toNat := by omega
    have e2 : (i : Int) = M 0 0 8 := by omega
    rw [am_B170_46 hE, hq.1.2.1, if_pos (by omega), e2, e]
  | succ m ih =>
    intro i h
    have w1 : am_w ((i : Int) + 1) = i + 1 := am_wi (by omega) (by omega)
    have h2 := ih (i + 1) (by omega)
    simp only [am_sm, Int.natCast_add, Int.cast_ofNat_Int] at h2
    have hb : 0 ≤ am_sm (fun x => am_b (am_un (M 0) l x)) i ∧ am_sm (fun x => am_b (am_un (M 0) l x)) i ≤ i * 1 := am_sm_le (fun j a c => am_b_le)
    have eg : am_gt (M 0 2) 24 i = M 0 2 i := at_gt (by omega)
    rw [am_B170_46 hE, hq.1.2.1, if_neg (by omega), am_B170_57 hE, ra_128 k37 hq hY.1, am_bd_v, eg]
    simp only [Nat.reduceAdd]
    rw [am_B170_67]
    by_cases q1 : M 0 2 i = -1
    · rw [if_pos (show am_b (M 0 2 i ≠ -1) = 0 by rw [am_b_0]; exact fun z => z q1), am_B170_87, am_B170_88, am_wi (by omega) (by omega), w1]
      rw [show am_b (am_un (M 0) l i) = 0 by rw [am_b_0]; exact fun z => z.1 q1] at h2
      exact h2
    · rw [if_neg (show ¬ am_b (M 0 2 i ≠ -1) = 0 by rw [am_b_0]; exact fun z => z q1), am_B170_70 hE, ra_132 k37 hq hY (by omega) (by omega) q1, am_bd_v]
      simp only [Nat.reduceAdd]
      rw [am_B170_80]
      by_cases q2 : am_ul (am_gt (M 0 3) 24) l 24 (am_gt (M 0 3) 24 i) = l
      · rw [if_neg (show ¬ am_b (am_ul (am_gt (M 0 3) 24) l 24 (am_gt (M 0 3) 24 i) = l) = 0 by rw [am_b_0]; exact fun z => z q2), am_B170_83, am_B170_88, am_wi (by omega) (by omega), w1]
        rw [show am_b (am_un (M 0) l i) = 1 by rw [am_b_1]; exact ⟨q1, q2⟩] at h2
        exact h2
      · rw [if_pos (show am_b (am_ul (am_gt (M 0 3) 24) l 24 (am_gt (M 0 3) 24 i) = l) = 0 by rw [am_b_0]; exact q2), am_B170_87, am_B170_88, am_wi (by omega) (by omega), w1]
        rw [show am_b (am_un (M 0) l i) = 0 by rw [am_b_0]; exact fun z => q2 z.2] at h2
        exact h2
theorem tp_logOf (hE : am_Wr E) (hs : si M B) {l w : Int} {u3 u4 : Option am_V} : tq E M B (fun x => if x = 2 then 1 else if x = 0 then 2 else 0) (am_den 73 (0, [some (am_A (34, 0)), some (am_I l), some (am_I w)], [], E, M)) (fun E' N => am_den 170 (0, [some (am_A (35, 0)), some (am_I l), some (am_I w), u3, u4], [], E', N)) := by
  obtain ⟨hG, hq, h8⟩ := hs.1
  rw [ac_73 hE]
  by_cases h1 : am_gt (M 0 2) 24 l ≠ -1
  · rw [if_pos h1]
    by_cases h2 : 0 ≤ w ∧ w ≤ 6
    · rw [if_pos h2]
      refine ⟨M, fun _ _ => rfl, Or.inl ⟨_, rfl, fun E' N hE' hN => ?_⟩⟩
      have k37 := hE'.2.2.2.2.2.2.2.1
      obtain ⟨f1, f2, f3⟩ := tp_no (c := 0) (tp_44 hs hN)
      refine ⟨_, ?_, f2, f3, f1⟩
      have e37 : ar_s N 35 (ar_u (N 35 0) 0 0) 37 0 = M 37 0 := by rw [ar_s_ne (by decide), hN 37 (by decide)]
      have q37 : ra_q (ar_s N 35 (ar_u (N 35 0) 0 0) 37 0) (M 0) := by rw [e37]; exact hq
      have qN : ra_q (N 37 0) (M 0) := by rw [hN 37 (by decide)]; exact hq
      show am_den 170 (0, [some (am_A (35, 0)), some (am_I l), some (am_I w), u3, u4], [], E', N) = _
      rw [am_B170_0 hE', ra_128 (Y := M 0) (l := l) k37 qN hG.1.1, am_bd_v]
      simp only [Nat.reduceAdd]
      rw [am_B170_9, if_pos (show am_b (am_gt (M 0 2) 24 l ≠ -1) ≠ 0 by rw [ne_eq, am_b_0]; exact fun z => z h1), am_B170_16, ar_120, am_bd_v]
      simp only [Nat.reduceAdd]
      rw [am_B170_25, if_neg (show ¬ am_b (0 ≤ w ∧ w ≤ 6) = 0 by rw [am_b_0]; exact fun z => z h2), am_B170_28, am_B170_33 hE', tp_119 hE', am_bd_v]
      simp only [Nat.reduceAdd]
      rw [am_B170_36, if_pos (by rw [am_b_0]; decide)]
      have hl : 0 ≤ l ∧ l < 24 := by
        refine Decidable.byContradiction (fun q => ?_)
        unfold am_gt at h1
        rw [if_neg (by omega)] at h1
        exact h1 rfl
      have h2l : M 0 2 l ≠ -1 := by rw [at_gt (by omega)] at h1; exact h1
      have hv := ra_lv hG.1.1 hl.1 hl.2 h2l
      have lk := hq.2.2.2 l hl.1 hv.1 h2l
      have ld := hq.2.2.1 l hl.1 hv.1
      have h81 := hG.1.1.2.1
      have gt : ∀ c : Nat, am_gt (M 0 c) 24 l = M 0 c l := fun c => at_gt (by omega)
      have hl0 := tp_170l (N := ar_s N 35 (ar_u (N 35 0) 0 0)) (l := l) (w := w) hE' q37 hG.1 (M 0 0 8).toNat 0 (Nat.zero_add _)
      have hl1 : am_den 170 (46, [some (am_A (35, 0)), some (am_I l), some (am_I w), some (am_I 0), some (am_I 0)], [], E', ar_s N 35 (ar_u (N 35 0) 0 0)) = _ := hl0
      rw [am_B170_41, hl1, ra_came hG.1.1 (g := fun x => am_b (am_un (M 0) l x)) (fun x hx => by rw [am_b_0]; exact fun z => z.1 hx), am_B170_96]
      have hk : w = 0 ∨ w = 1 ∨ w = 2 ∨ w = 3 ∨ w = 4 ∨ w = 5 ∨ w = 6 := by omega
      rcases hk with h | h | h | h | h | h | h
      · have e : ac_lo (M 0) l 0 = am_gt (M 0 1) 24 l := rfl
        rw [if_neg (by omega), am_B170_101 hE', h, ar_123 k37 hl (by omega), am_bd_v, e37, ld.1, e, gt]
        simp only [Nat.reduceAdd]
        rw [am_B170_110, am_B170_150]
      · have e : ac_lo (M 0) l 1 = am_gt (M 0 2) 24 l := rfl
        rw [if_neg (by omega), am_B170_101 hE', h, ar_123 k37 hl (by omega), am_bd_v, e37, ld.2, e, gt]
        simp only [Nat.reduceAdd]
        rw [am_B170_110, am_B170_150]
      · have e : ac_lo (M 0) l 2 = ay_dep (M 0) l := rfl
        rw [if_pos (by omega), am_B170_113, if_neg (by omega), am_B170_118 hE', h, ra_131 k37 q37 hG.1 hl.1 hl.2 h2l, am_bd_v, e]
        simp only [Nat.reduceAdd]
        rw [am_B170_126, am_B170_150]
      · have e : ac_lo (M 0) l 3 = am_gt (M 0 3) 24 l := rfl
        rw [if_pos (by omega), am_B170_113, if_pos (by omega), am_B170_129, if_neg (by omega), am_B170_135 hE', am_wi (by omega) (by omega), h, show (3 : Int) - 1 = 2 from rfl, ar_123 k37 hl (by omega), am_bd_v, e37, lk.1, e, gt]
        simp only [Nat.reduceAdd]
        rw [am_B170_146, am_B170_150]
      · have e : ac_lo (M 0) l 4 = am_gt (M 0 4) 24 l := rfl
        rw [if_pos (by omega), am_B170_113, if_pos (by omega), am_B170_129, if_neg (by omega), am_B170_135 hE', am_wi (by omega) (by omega), h, show (4 : Int) - 1 = 3 from rfl, ar_123 k37 hl (by omega), am_bd_v, e37, lk.2.1, e, gt]
        simp only [Nat.reduceAdd]
        rw [am_B170_146, am_B170_150]
      · have e : ac_lo (M 0) l 5 = am_gt (M 0 5) 24 l := rfl
        rw [if_pos (by omega), am_B170_113, if_pos (by omega), am_B170_129, if_neg (by omega), am_B170_135 hE', am_wi (by omega) (by omega), h, show (5 : Int) - 1 = 4 from rfl, ar_123 k37 hl (by omega), am_bd_v, e37, lk.2.2, e, gt]
        simp only [Nat.reduceAdd]
        rw [am_B170_146, am_B170_150]
      · have e : ac_lo (M 0) l 6 = am_sm (fun x => am_b (am_un (M 0) l x)) 24 := rfl
        rw [if_pos (by omega), am_B170_113, if_pos (by omega), am_B170_129, if_pos (by omega), am_B170_149, am_B170_150, h, e]

    · rw [if_neg h2]
      refine ⟨M, fun _ _ => rfl, Or.inr ⟨0, rfl, by decide, fun E' N hE' hN => ?_⟩⟩
      have k37 := hE'.2.2.2.2.2.2.2.1
      have qN : ra_q (N 37 0) (M 0) := by rw [hN 37 (by decide)]; exact hq
      obtain ⟨f1, f2, f3⟩ := tp_no (c := 2) (tp_44 hs hN)
      refine ⟨_, 0, ?_, f2, f3, f1⟩
      show am_den 170 (0, [some (am_A (35, 0)), some (am_I l), some (am_I w), u3, u4], [], E', N) = _
      rw [am_B170_0 hE', ra_128 (Y := M 0) (l := l) k37 qN hG.1.1, am_bd_v]
      simp only [Nat.reduceAdd]
      rw [am_B170_9, if_pos (show am_b (am_gt (M 0 2) 24 l ≠ -1) ≠ 0 by rw [ne_eq, am_b_0]; exact fun z => z h1), am_B170_16, ar_120, am_bd_v]
      simp only [Nat.reduceAdd]
      rw [am_B170_25, if_pos (show am_b (0 ≤ w ∧ w ≤ 6) = 0 by rw [am_b_0]; exact h2), am_B170_32, am_B170_33 hE', tp_119 hE', am_bd_v]
      simp only [Nat.reduceAdd]
      rw [am_B170_36, if_neg (by rw [am_b_0]; decide), am_B170_39]
  · rw [if_neg h1]
    refine ⟨M, fun _ _ => rfl, Or.inr ⟨2, rfl, by decide, fun E' N hE' hN => ?_⟩⟩
    have k37 := hE'.2.2.2.2.2.2.2.1
    have qN : ra_q (N 37 0) (M 0) := by rw [hN 37 (by decide)]; exact hq
    obtain ⟨f1, f2, f3⟩ := tp_no (c := 1) (tp_44 hs hN)
    refine ⟨_, 0, ?_, f2, f3, f1⟩
    show am_den 170 (0, [some (am_A (35, 0)), some (am_I l), some (am_I w), u3, u4], [], E', N) = _
    rw [am_B170_0 hE', ra_128 (Y := M 0) (l := l) k37 qN hG.1.1, am_bd_v]
    simp only [Nat.reduceAdd]
    rw [am_B170_9, if_neg (show ¬ am_b (am_gt (M 0 2) 24 l ≠ -1) ≠ 0 by rw [ne_eq, am_b_0]; exact fun z => z h1), am_B170_12, am_B170_33 hE', tp_119 hE', am_bd_v]
    simp only [Nat.reduceAdd]
    rw [am_B170_36, if_neg (by rw [am_b_0]; decide), am_B170_39]
end TOP6
