/-! ===== pairs: scripts ===== -/
def tr_R (E : am_E) (N : am_M) (Y : Nat → Int → Int) (g : Int) (X : Option am_Rs) : Prop := ∃ f', X = some (.inl (some (am_I (ad_do Y g).1)), E, ar_s N 38 f') ∧ ra_q f' (ad_do Y g).2
section TOP11
variable {E : am_E} {M N : am_M} {B : Int} {Y Z : Nat → Int → Int} {f f' : Int → Int} {g : Int} {X : Option am_Rs}
theorem tr_no (h : ad_do Y g = (0, Y)) (hq : ra_q f Y) (hX : X = some (.inl (some (am_I 0)), E, ar_s N 38 f)) : tr_R E N Y g X := ⟨f, by rw [h, hX], by rw [h]; exact hq⟩
theorem tr_ye (h : ad_do Y g = (1, Z)) (hX : X = some (.inl (some (am_I 1)), E, ar_s N 38 f')) (hq : ra_q f' Z) : tr_R E N Y g X := ⟨f', by rw [h, hX], by rw [h]; exact hq⟩
theorem tr_on {c : Prop} [Decidable c] {k a e : Int} (h : c → ay_can Y k a e = 0) : ad_ob Y c k a e = (0, Y) := by
  unfold ad_ob
  by_cases q : c
  · rw [if_pos q, if_pos (h q)]
    unfold ay_ob
    rw [if_pos (h q)]
  · rw [if_neg q]
theorem tr_oy {c : Prop} [Decidable c] {k a e : Int} (q : c) (h : ay_can Y k a e ≠ 0) : ad_ob Y c k a e = (1, ay_act Y k a e) := by
  unfold ad_ob
  rw [if_pos q, if_neg h]
  unfold ay_ob
  rw [if_neg h]
theorem tr_k1 (hE : am_Wr E) (hq : ra_q f Y) (hG : av_G B Y) (hB : B < 2147000000) (hg : 0 ≤ g ∧ g < 100000) (h : g / 10000 = 1) : tr_R E N Y g (am_den 193 (92, [some (am_A (35, 0)), some (am_I (g / 10000)), some (am_I (g % 10000)), some (am_I (ad_p g)), some (am_I (ad_q g)), some (am_I (g / 100 % 100)), some (am_I (g / 10 % 100)), some (am_I (ad_t g)), some (am_I (g % 10))], [], E, ar_s N 38 f)) := by
  have hk := hE.2.2.2.2.2.2.2.2.1
  have q38 : ra_q (ar_s N 38 f 38 0) Y := by rw [ar_s_at]; exact hq
  have h127 : ∀ p, am_den 127 (0, [some (am_A (38, 0)), some (am_I p)], [], E, ar_s N 38 f) = some (.inl (some (am_I (am_b (0 ≤ p ∧ p < Y 0 7)))), E, ar_s N 38 f) := fun p => ra_127 hk q38 hG.1.1
  have ed : ad_do Y g = ad_ob Y (ad_q g = 0) 108 (ad_p g) (ad_t g) := by
    unfold ad_do
    rw [if_pos h]
  have bad : ad_do Y g = (0, Y) → tr_R E N Y g (am_den 193 (136, [some (am_A (35, 0)), some (am_I (g / 10000)), some (am_I (g % 10000)), some (am_I (ad_p g)), some (am_I (ad_q g)), some (am_I (g / 100 % 100)), some (am_I (g / 10 % 100)), some (am_I (ad_t g)), some (am_I (g % 10))], [], E, ar_s N 38 f)) := fun z => tr_no z hq (by rw [am_B193_136, am_B193_137 (Or.inl rfl)])
  have ec : ay_can Y 108 (ad_p g) (ad_t g) = am_b ((0 ≤ ad_p g ∧ ad_p g < Y 0 7) ∧ (0 ≤ ad_t g ∧ ad_t g ≤ 99) ∧ Y 0 8 < 24) := rfl
  have ht : 0 ≤ ad_t g ∧ ad_t g ≤ 99 := (by omega : 0 ≤ g % 100 ∧ g % 100 ≤ 99)
  have no : ¬ (ad_q g = 0 ∧ (0 ≤ ad_p g ∧ ad_p g < Y 0 7) ∧ Y 0 8 < 24) → ad_do Y g = (0, Y) := fun z => by
    rw [ed]
    exact tr_on (fun c => by rw [ec, am_b_0]; exact fun y => z ⟨c, y.1, y.2.2⟩)
  rw [am_B193_92]
  by_cases q1 : ad_q g = 0
  · rw [if_neg (show ¬ ad_q g ≠ 0 from fun z => z q1), am_B193_97 hE, h127, am_bd_v]
    simp only [Nat.reduceAdd]
    rw [am_B193_105]
    by_cases q2 : 0 ≤ ad_p g ∧ ad_p g < Y 0 7
    · have e1 : ar_s N 38 f 38 0 1 = Y 0 8 := by rw [ar_s_at, hq.1.2.1]
      rw [if_neg (show ¬ am_b (0 ≤ ad_p g ∧ ad_p g < Y 0 7) = 0 by rw [am_b_0]; exact fun z => z q2), am_B193_108 hE, e1]
      by_cases q3 : Y 0 8 < 24
      · obtain ⟨f', e, hq', _⟩ := ra_145 (M := N) (d := 38) (u := none) hk hq hG.1 q2 ht q3
        have h8 := hG.1.1.2.1
        rw [if_neg (show ¬ 24 ≤ Y 0 8 by omega), am_B193_119 hE, e, am_bd_v]
        simp only [Nat.reduceAdd]
        rw [am_B193_129, if_neg (show ¬ Y 0 8 < 0 by omega), am_B193_132, am_B193_137 (Or.inr rfl)]
        exact tr_ye (by rw [ed]; exact tr_oy q1 (by rw [ec, ne_eq, am_b_0]; exact fun z => z ⟨q2, ht, q3⟩)) rfl hq'
      · rw [if_pos (show 24 ≤ Y 0 8 by omega)]
        exact bad (no (fun z => q3 z.2.2))
    · rw [if_pos (show am_b (0 ≤ ad_p g ∧ ad_p g < Y 0 7) = 0 by rw [am_b_0]; exact q2)]
      exact bad (no (fun z => q2 z.2.1))
  · rw [if_pos (show ad_q g ≠ 0 from q1)]
    exact bad (no (fun z => q1 z.1))
theorem tr_k3 (hE : am_Wr E) (hq : ra_q f Y) (hG : av_G B Y) (hB : B < 2147000000) (hg : 0 ≤ g ∧ g < 100000) (h : g / 10000 = 3) : tr_R E N Y g (am_den 193 (174, [some (am_A (35, 0)), some (am_I (g / 10000)), some (am_I (g % 10000)), some (am_I (ad_p g)), some (am_I (ad_q g)), some (am_I (g / 100 % 100)), some (am_I (g / 10 % 100)), some (am_I (ad_t g)), some (am_I (g % 10))], [], E, ar_s N 38 f)) := by
  have hk := hE.2.2.2.2.2.2.2.2.1
  have q38 : ra_q (ar_s N 38 f 38 0) Y := by rw [ar_s_at]; exact hq
  have h127 : ∀ p, am_den 127 (0, [some (am_A (38, 0)), some (am_I p)], [], E, ar_s N 38 f) = some (.inl (some (am_I (am_b (0 ≤ p ∧ p < Y 0 7)))), E, ar_s N 38 f) := fun p => ra_127 hk q38 hG.1.1
  have ed : ad_do Y g = ad_ob Y (ad_t g = 0) 107 (g / 100 % 100) 0 := by
    unfold ad_do
    rw [if_neg (show ¬ g / 10000 = 1 by omega), if_neg (show ¬ g / 10000 = 2 by omega), if_pos h]
  have bad : ad_do Y g = (0, Y) → tr_R E N Y g (am_den 193 (207, [some (am_A (35, 0)), some (am_I (g / 10000)), some (am_I (g % 10000)), some (am_I (ad_p g)), some (am_I (ad_q g)), some (am_I (g / 100 % 100)), some (am_I (g / 10 % 100)), some (am_I (ad_t g)), some (am_I (g % 10))], [], E, ar_s N 38 f)) := fun z => tr_no z hq (by rw [am_B193_207, am_B193_208 (Or.inl rfl)])
  have ec : ay_can Y 107 (g / 100 % 100) 0 = am_b (am_gt (Y 2) 24 (g / 100 % 100) ≠ -1) := rfl
  have no : ¬ (ad_t g = 0 ∧ am_gt (Y 2) 24 (g / 100 % 100) ≠ -1) → ad_do Y g = (0, Y) := fun z => by
    rw [ed]
    exact tr_on (fun c => by rw [ec, am_b_0]; exact fun y => z ⟨c, y⟩)
  rw [am_B193_174]
  by_cases q1 : ad_t g = 0
  · rw [if_neg (show ¬ ad_t g ≠ 0 from fun z => z q1), am_B193_179 hE, ra_128 hk q38 hG.1.1, am_bd_v]
    simp only [Nat.reduceAdd]
    rw [am_B193_188]
    by_cases q2 : am_gt (Y 2) 24 (g / 100 % 100) ≠ -1
    · obtain ⟨f', e, hq', _⟩ := ra_149 (M := N) (d := 38) (u := none) hk hq hG.1 q2
      have hpos := av_up0 (av_take hG.1 q2).2 hG.2.2.1 (by have := hG.2.2.2; omega)
      rw [if_neg (show ¬ am_b (am_gt (Y 2) 24 (g / 100 % 100) ≠ -1) = 0 by rw [am_b_0]; exact fun z => z q2), am_B193_191 hE, e, am_bd_v]
      simp only [Nat.reduceAdd]
      rw [am_B193_200, if_neg (by omega), am_B193_203, am_B193_208 (Or.inr rfl)]
      exact tr_ye (by rw [ed]; exact tr_oy q1 (by rw [ec, ne_eq, am_b_0]; exact fun z => z q2)) rfl hq'
    · rw [if_pos (show am_b (am_gt (Y 2) 24 (g / 100 % 100) ≠ -1) = 0 by rw [am_b_0]; exact q2)]
      exact bad (no (fun z => q2 z.2))
  · rw [if_pos (show ad_t g ≠ 0 from q1)]
    exact bad (no (fun z => q1 z.1))
theorem tr_k4 (hE : am_Wr E) (hq : ra_q f Y) (hG : av_G B Y) (hB : B < 2147000000) (hg : 0 ≤ g ∧ g < 100000) (h : g / 10000 = 4) : tr_R E N Y g (am_den 193 (209, [some (am_A (35, 0)), some (am_I (g / 10000)), some (am_I (g % 10000)), some (am_I (ad_p g)), some (am_I (ad_q g)), some (am_I (g / 100 % 100)), some (am_I (g / 10 % 100)), some (am_I (ad_t g)), some (am_I (g % 10))], [], E, ar_s N 38 f)) := by
  have hk := hE.2.2.2.2.2.2.2.2.1
  have q38 : ra_q (ar_s N 38 f 38 0) Y := by rw [ar_s_at]; exact hq
  have h127 : ∀ p, am_den 127 (0, [some (am_A (38, 0)), some (am_I p)], [], E, ar_s N 38 f) = some (.inl (some (am_I (am_b (0 ≤ p ∧ p < Y 0 7)))), E, ar_s N 38 f) := fun p => ra_127 hk q38 hG.1.1
  have ed : ad_do Y g = ad_ob Y (ad_t g = 0) 106 (ad_p g) (ad_q g) := by
    unfold ad_do
    rw [if_neg (show ¬ g / 10000 = 1 by omega), if_neg (show ¬ g / 10000 = 2 by omega), if_neg (show ¬ g / 10000 = 3 by omega), if_pos h]
  have bad : ad_do Y g = (0, Y) → tr_R E N Y g (am_den 193 (260, [some (am_A (35, 0)), some (am_I (g / 10000)), some (am_I (g % 10000)), some (am_I (ad_p g)), some (am_I (ad_q g)), some (am_I (g / 100 % 100)), some (am_I (g / 10 % 100)), some (am_I (ad_t g)), some (am_I (g % 10))], [], E, ar_s N 38 f)) := fun z => tr_no z hq (by rw [am_B193_260, am_B193_261 (Or.inl rfl)])
  have ec : ay_can Y 106 (ad_p g) (ad_q g) = am_b ((0 ≤ ad_p g ∧ ad_p g < Y 0 7) ∧ (0 ≤ ad_q g ∧ ad_q g < Y 0 7) ∧ ad_p g ≠ ad_q g) := rfl
  have no : ¬ (ad_t g = 0 ∧ (0 ≤ ad_p g ∧ ad_p g < Y 0 7) ∧ (0 ≤ ad_q g ∧ ad_q g < Y 0 7) ∧ ad_p g ≠ ad_q g) → ad_do Y g = (0, Y) := fun z => by
    rw [ed]
    exact tr_on (fun c => by rw [ec, am_b_0]; exact fun y => z ⟨c, y⟩)
  rw [am_B193_209]
  by_cases q1 : ad_t g = 0
  · rw [if_neg (show ¬ ad_t g ≠ 0 from fun z => z q1), am_B193_214 hE, h127, am_bd_v]
    simp only [Nat.reduceAdd]
    rw [am_B193_222]
    by_cases q2 : 0 ≤ ad_p g ∧ ad_p g < Y 0 7
    · rw [if_neg (show ¬ am_b (0 ≤ ad_p g ∧ ad_p g < Y 0 7) = 0 by rw [am_b_0]; exact fun z => z q2), am_B193_225 hE, h127, am_bd_v]
      simp only [Nat.reduceAdd]
      rw [am_B193_234]
      by_cases q3 : 0 ≤ ad_q g ∧ ad_q g < Y 0 7
      · rw [if_neg (show ¬ am_b (0 ≤ ad_q g ∧ ad_q g < Y 0 7) = 0 by rw [am_b_0]; exact fun z => z q3), am_B193_237]
        by_cases q4 : ad_p g = ad_q g
        · rw [if_pos q4]
          exact bad (no (fun z => z.2.2.2 q4))
        · obtain ⟨f', e, hq', _⟩ := ra_150 (M := N) (d := 38) (u1 := none) (u2 := none) hk hq hG.1 q2 q3 q4
          have hpos := av_up0 (av_jpY hG.1 q2 q3 q4).2 hG.2.2.1 (by have := hG.2.2.2; omega)
          rw [if_neg q4, am_B193_243 hE, e, am_bd_v]
          simp only [Nat.reduceAdd]
          rw [am_B193_253, if_neg (by omega), am_B193_256, am_B193_261 (Or.inr rfl)]
          exact tr_ye (by rw [ed]; exact tr_oy q1 (by rw [ec, ne_eq, am_b_0]; exact fun z => z ⟨q2, q3, q4⟩)) rfl hq'
      · rw [if_pos (show am_b (0 ≤ ad_q g ∧ ad_q g < Y 0 7) = 0 by rw [am_b_0]; exact q3)]
        exact bad (no (fun z => q3 z.2.2.1))
    · rw [if_pos (show am_b (0 ≤ ad_p g ∧ ad_p g < Y 0 7) = 0 by rw [am_b_0]; exact q2)]
      exact bad (no (fun z => q2 z.2.1))
  · rw [if_pos (show ad_t g ≠ 0 from q1)]
    exact bad (no (fun z => q1 z.1))
theorem tr_k5 (hE : am_Wr E) (hq : ra_q f Y) (hG : av_G B Y) (hB : B < 2147000000) (hg : 0 ≤ g ∧ g < 100000) (h : g / 10000 = 5) : tr_R E N Y g (am_den 193 (262, [some (am_A (35, 0)), some (am_I (g / 10000)), some (am_I (g % 10000)), some (am_I (ad_p g)), some (am_I (ad_q g)), some (am_I (g / 100 % 100)), some (am_I (g / 10 % 100)), some (am_I (ad_t g)), some (am_I (g % 10))], [], E, ar_s N 38 f)) := by
  have hk := hE.2.2.2.2.2.2.2.2.1
  have q38 : ra_q (ar_s N 38 f 38 0) Y := by rw [ar_s_at]; exact hq
  have h127 : ∀ p, am_den 127 (0, [some (am_A (38, 0)), some (am_I p)], [], E, ar_s N 38 f) = some (.inl (some (am_I (am_b (0 ≤ p ∧ p < Y 0 7)))), E, ar_s N 38 f) := fun p => ra_127 hk q38 hG.1.1
  have ed : ad_do Y g = ad_ob Y (ad_p g ≤ 1 ∧ ad_q g = 0) (if ad_p g = 0 then 119 else 114) (ad_t g) 0 := by
    unfold ad_do
    rw [if_neg (show ¬ g / 10000 = 1 by omega), if_neg (show ¬ g / 10000 = 2 by omega), if_neg (show ¬ g / 10000 = 3 by omega), if_neg (show ¬ g / 10000 = 4 by omega), if_pos h]
  have bad : ad_do Y g = (0, Y) → tr_R E N Y g (am_den 193 (317, [some (am_A (35, 0)), some (am_I (g / 10000)), some (am_I (g % 10000)), some (am_I (ad_p g)), some (am_I (ad_q g)), some (am_I (g / 100 % 100)), some (am_I (g / 10 % 100)), some (am_I (ad_t g)), some (am_I (g % 10))], [], E, ar_s N 38 f)) := fun z => tr_no z hq (by rw [am_B193_317, am_B193_318 (Or.inl rfl)])
  have ec : ay_can Y (if ad_p g = 0 then 119 else 114) (ad_t g) 0 = am_b (1 ≤ ad_t g ∧ ad_t g ≤ 30) := by split <;> rfl
  have no : ¬ ((ad_p g ≤ 1 ∧ ad_q g = 0) ∧ (1 ≤ ad_t g ∧ ad_t g ≤ 30)) → ad_do Y g = (0, Y) := fun z => by
    rw [ed]
    exact tr_on (fun c => by rw [ec, am_b_0]; exact fun y => z ⟨c, y⟩)
  rw [am_B193_262]
  by_cases q1 : ad_q g = 0
  · rw [if_neg (show ¬ ad_q g ≠ 0 from fun z => z q1), am_B193_267]
    by_cases q2 : ad_p g ≤ 1
    · rw [if_neg (show ¬ 2 ≤ ad_p g by omega), am_B193_272, ar_120, am_bd_v]
      simp only [Nat.reduceAdd]
      rw [am_B193_282]
      by_cases q3 : 1 ≤ ad_t g ∧ ad_t g ≤ 30
      · rw [if_neg (show ¬ am_b (1 ≤ ad_t g ∧ ad_t g ≤ 30) = 0 by rw [am_b_0]; exact fun z => z q3), am_B193_285]
        by_cases q4 : ad_p g = 0
        · obtain ⟨f', e, hq', _⟩ := ra_152 (M := N) (d := 38) (u2 := none) (u3 := none) (u4 := none) hk hq hG.1 q3
          have hpos : 0 ≤ am_sm (am_da (ay_wind Y (ad_t g))) (Y 0 7).toNat := rt_sm0 (fun x => rt_da0 (av_wind hG.1 q3)) _
          rw [if_neg (show ¬ ad_p g ≠ 0 from fun z => z q4), am_B193_289 hE, e, am_bd_v]
          simp only [Nat.reduceAdd]
          rw [am_B193_298, am_B193_310, if_neg (show ¬ am_sm (am_da (ay_wind Y (ad_t g))) (Y 0 7).toNat < 0 by omega), am_B193_313, am_B193_318 (Or.inr rfl)]
          exact tr_ye (Z := ay_wind Y (ad_t g)) (by rw [ed, tr_oy ⟨q2, q1⟩ (by rw [ec, ne_eq, am_b_0]; exact fun z => z q3), if_pos q4]; rfl) rfl hq'
        · obtain ⟨f', e, hq', _⟩ := ra_153 (M := N) (d := 38) (u2 := none) (u3 := none) hk hq hG.1 q3
          have hpos : 0 ≤ am_sm (am_oa (ay_rain Y (ad_t g))) (Y 0 7).toNat := rt_sm0 (fun x => am_oa_le.1) _
          rw [if_pos (show ad_p g ≠ 0 from q4), am_B193_301 hE, e, am_bd_v]
          simp only [Nat.reduceAdd]
          rw [am_B193_310, if_neg (show ¬ am_sm (am_oa (ay_rain Y (ad_t g))) (Y 0 7).toNat < 0 by omega), am_B193_313, am_B193_318 (Or.inr rfl)]
          exact tr_ye (Z := ay_rain Y (ad_t g)) (by rw [ed, tr_oy ⟨q2, q1⟩ (by rw [ec, ne_eq, am_b_0]; exact fun z => z q3), if_neg q4]; rfl) rfl hq'
      · rw [if_pos (show am_b (1 ≤ ad_t g ∧ ad_t g ≤ 30) = 0 by rw [am_b_0]; exact q3)]
        exact bad (no (fun z => q3 z.2))
    · rw [if_pos (show 2 ≤ ad_p g by omega)]
      exact bad (no (fun z => q2 z.1.1))
  · rw [if_pos (show ad_q g ≠ 0 from q1)]
    exact bad (no (fun z => q1 z.1.2))
theorem tr_k2 (hE : am_Wr E) (hq : ra_q f Y) (hG : av_G B Y) (hB : B < 2147000000) (hg : 0 ≤ g ∧ g < 100000) (h : g / 10000 = 2) : tr_R E N Y g (am_den 193 (138, [some (am_A (35, 0)), some (am_I (g / 10000)), some (am_I (g % 10000)), some (am_I (ad_p g)), some (am_I (ad_q g)), some (am_I (g / 100 % 100)), some (am_I (g / 10 % 100)), some (am_I (ad_t g)), some (am_I (g % 10))], [], E, ar_s N 38 f)) := by
  have hk := hE.2.2.2.2.2.2.2.2.1
  have q38 : ra_q (ar_s N 38 f 38 0) Y := by rw [ar_s_at]; exact hq
  have h127 : ∀ p, am_den 127 (0, [some (am_A (38, 0)), some (am_I p)], [], E, ar_s N 38 f) = some (.inl (some (am_I (am_b (0 ≤ p ∧ p < Y 0 7)))), E, ar_s N 38 f) := fun p => ra_127 hk q38 hG.1.1
  have ed : ad_do Y g = ad_ob Y (g % 1000 = 0) 100 (ad_p g) 0 := by
    unfold ad_do
    rw [if_neg (show ¬ g / 10000 = 1 by omega), if_pos h]
  have bad : ad_do Y g = (0, Y) → tr_R E N Y g (am_den 193 (172, [some (am_A (35, 0)), some (am_I (g / 10000)), some (am_I (g % 10000)), some (am_I (ad_p g)), some (am_I (ad_q g)), some (am_I (g / 100 % 100)), some (am_I (g / 10 % 100)), some (am_I (ad_t g)), some (am_I (g % 10))], [], E, ar_s N 38 f)) := fun z => tr_no z hq (by rw [am_B193_172, am_B193_173 (Or.inl rfl)])
  have e9 : (g % 10000).tmod 1000 = g % 1000 := by rw [ad_wm (by omega)]; omega
  have ec : ay_can Y 100 (ad_p g) 0 = am_b ((0 ≤ ad_p g ∧ ad_p g < Y 0 7) ∧ ay_why Y (ad_p g) = 0) := rfl
  have no : ¬ (g % 1000 = 0 ∧ (0 ≤ ad_p g ∧ ad_p g < Y 0 7) ∧ ay_why Y (ad_p g) = 0) → ad_do Y g = (0, Y) := fun z => by
    rw [ed]
    exact tr_on (fun c => by rw [ec, am_b_0]; exact fun y => z ⟨c, y⟩)
  rw [am_B193_138, e9]
  by_cases q1 : g % 1000 = 0
  · rw [if_neg (show ¬ g % 1000 ≠ 0 from fun z => z q1), am_B193_146 hE, h127, am_bd_v]
    simp only [Nat.reduceAdd]
    rw [am_B193_154]
    by_cases q2 : 0 ≤ ad_p g ∧ ad_p g < Y 0 7
    · rw [if_neg (show ¬ am_b (0 ≤ ad_p g ∧ ad_p g < Y 0 7) = 0 by rw [am_b_0]; exact fun z => z q2), am_B193_157 hE]
      by_cases q3 : ay_why Y (ad_p g) = 0
      · obtain ⟨f', e, hq', _⟩ := ra_148a (M := N) (d := 38) (u := none) hk hq hG.1 (av_Hh hG.1 hG.2.1) q2.1 q2.2 q3
        rw [e, am_bd_v]
        simp only [Nat.reduceAdd]
        rw [am_B193_165, if_neg (by decide), am_B193_168, am_B193_173 (Or.inr rfl)]
        exact tr_ye (by rw [ed]; exact tr_oy q1 (by rw [ec, ne_eq, am_b_0]; exact fun z => z ⟨q2, q3⟩)) rfl hq'
      · rw [ra_148b hk hq hG.1 q2.1 q2.2 q3, am_bd_v]
        simp only [Nat.reduceAdd]
        rw [am_B193_165, if_pos (show ay_why Y (ad_p g) ≠ 0 from q3)]
        exact tr_no (no (fun z => q3 z.2.2)) (ra_u8 hq) (by rw [am_B193_172, am_B193_173 (Or.inl rfl)])
    · rw [if_pos (show am_b (0 ≤ ad_p g ∧ ad_p g < Y 0 7) = 0 by rw [am_b_0]; exact q2)]
      exact bad (no (fun z => q2 z.2.1))
  · rw [if_pos (show g % 1000 ≠ 0 from q1)]
    exact bad (no (fun z => q1 z.1))
theorem tr_k6 (hE : am_Wr E) (hq : ra_q f Y) (hG : av_G B Y) (hB : B < 2147000000) (hg : 0 ≤ g ∧ g < 100000) (h : g / 10000 = 6) : tr_R E N Y g (am_den 193 (319, [some (am_A (35, 0)), some (am_I (g / 10000)), some (am_I (g % 10000)), some (am_I (ad_p g)), some (am_I (ad_q g)), some (am_I (g / 100 % 100)), some (am_I (g / 10 % 100)), some (am_I (ad_t g)), some (am_I (g % 10))], [], E, ar_s N 38 f)) := by
  have hk := hE.2.2.2.2.2.2.2.2.1
  have q38 : ra_q (ar_s N 38 f 38 0) Y := by rw [ar_s_at]; exact hq
  have h127 : ∀ p, am_den 127 (0, [some (am_A (38, 0)), some (am_I p)], [], E, ar_s N 38 f) = some (.inl (some (am_I (am_b (0 ≤ p ∧ p < Y 0 7)))), E, ar_s N 38 f) := fun p => ra_127 hk q38 hG.1.1
  have ed : ad_do Y g = ad_ob Y (g % 1000 = 0) 109 (ad_p g) 0 := by
    unfold ad_do
    rw [if_neg (show ¬ g / 10000 = 1 by omega), if_neg (show ¬ g / 10000 = 2 by omega), if_neg (show ¬ g / 10000 = 3 by omega), if_neg (show ¬ g / 10000 = 4 by omega), if_neg (show ¬ g / 10000 = 5 by omega), if_pos h]
  have bad : ad_do Y g = (0, Y) → tr_R E N Y g (am_den 193 (353, [some (am_A (35, 0)), some (am_I (g / 10000)), some (am_I (g % 10000)), some (am_I (ad_p g)), some (am_I (ad_q g)), some (am_I (g / 100 % 100)), some (am_I (g / 10 % 100)), some (am_I (ad_t g)), some (am_I (g % 10))], [], E, ar_s N 38 f)) := fun z => tr_no z hq (by rw [am_B193_353, am_B193_354 (Or.inl rfl)])
  have e9 : (g % 10000).tmod 1000 = g % 1000 := by rw [ad_wm (by omega)]; omega
  have ec : ay_can Y 109 (ad_p g) 0 = am_b (0 ≤ ad_p g ∧ ad_p g < Y 0 7) := rfl
  have no : ¬ (g % 1000 = 0 ∧ (0 ≤ ad_p g ∧ ad_p g < Y 0 7)) → ad_do Y g = (0, Y) := fun z => by
    rw [ed]
    exact tr_on (fun c => by rw [ec, am_b_0]; exact fun y => z ⟨c, y⟩)
  rw [am_B193_319, e9]
  by_cases q1 : g % 1000 = 0
  · rw [if_neg (show ¬ g % 1000 ≠ 0 from fun z => z q1), am_B193_327 hE, h127, am_bd_v]
    simp only [Nat.reduceAdd]
    rw [am_B193_335]
    by_cases q2 : 0 ≤ ad_p g ∧ ad_p g < Y 0 7
    · obtain ⟨f', e, hq', _⟩ := ra_154 (M := N) (d := 38) (u2 := none) (u3 := none) hk hq hG.1 q2
      have hpos := av_up0 (av_mend hG.1 q2).2.1 hG.2.2.1 (by have := hG.2.2.2; omega)
      rw [if_neg (show ¬ am_b (0 ≤ ad_p g ∧ ad_p g < Y 0 7) = 0 by rw [am_b_0]; exact fun z => z q2), am_B193_338 hE, e, am_bd_v]
      simp only [Nat.reduceAdd]
      rw [am_B193_346, if_neg (by omega), am_B193_349, am_B193_354 (Or.inr rfl)]
      exact tr_ye (by rw [ed]; exact tr_oy q1 (by rw [ec, ne_eq, am_b_0]; exact fun z => z q2)) rfl hq'
    · rw [if_pos (show am_b (0 ≤ ad_p g ∧ ad_p g < Y 0 7) = 0 by rw [am_b_0]; exact q2)]
      exact bad (no (fun z => q2 z.2))
  · rw [if_pos (show g % 1000 ≠ 0 from q1)]
    exact bad (no (fun z => q1 z.1))
theorem tr_k7 (hE : am_Wr E) (hq : ra_q f Y) (hG : av_G B Y) (hB : B < 2147000000) (hg : 0 ≤ g ∧ g < 100000) (h : g / 10000 = 7) : tr_R E N Y g (am_den 193 (355, [some (am_A (35, 0)), some (am_I (g / 10000)), some (am_I (g % 10000)), some (am_I (ad_p g)), some (am_I (ad_q g)), some (am_I (g / 100 % 100)), some (am_I (g / 10 % 100)), some (am_I (ad_t g)), some (am_I (g % 10))], [], E, ar_s N 38 f)) := by
  have hk := hE.2.2.2.2.2.2.2.2.1
  have q38 : ra_q (ar_s N 38 f 38 0) Y := by rw [ar_s_at]; exact hq
  have h127 : ∀ p, am_den 127 (0, [some (am_A (38, 0)), some (am_I p)], [], E, ar_s N 38 f) = some (.inl (some (am_I (am_b (0 ≤ p ∧ p < Y 0 7)))), E, ar_s N 38 f) := fun p => ra_127 hk q38 hG.1.1
  have ed : ad_do Y g = (am_b (ad_q g = 0 ∧ (0 ≤ ad_p g ∧ ad_p g < Y 0 7) ∧ ad_t g ≤ ac_in Y (ad_p g)), Y) := by
    unfold ad_do
    rw [if_neg (show ¬ g / 10000 = 1 by omega), if_neg (show ¬ g / 10000 = 2 by omega), if_neg (show ¬ g / 10000 = 3 by omega), if_neg (show ¬ g / 10000 = 4 by omega), if_neg (show ¬ g / 10000 = 5 by omega), if_neg (show ¬ g / 10000 = 6 by omega), if_pos h]
  have bad : ad_do Y g = (0, Y) → tr_R E N Y g (am_den 193 (388, [some (am_A (35, 0)), some (am_I (g / 10000)), some (am_I (g % 10000)), some (am_I (ad_p g)), some (am_I (ad_q g)), some (am_I (g / 100 % 100)), some (am_I (g / 10 % 100)), some (am_I (ad_t g)), some (am_I (g % 10))], [], E, ar_s N 38 f)) := fun z => tr_no z hq (by rw [am_B193_388, am_B193_389 (Or.inl rfl)])
  have no : ¬ (ad_q g = 0 ∧ (0 ≤ ad_p g ∧ ad_p g < Y 0 7) ∧ ad_t g ≤ ac_in Y (ad_p g)) → ad_do Y g = (0, Y) := fun z => by
    rw [ed, show am_b (ad_q g = 0 ∧ (0 ≤ ad_p g ∧ ad_p g < Y 0 7) ∧ ad_t g ≤ ac_in Y (ad_p g)) = 0 by rw [am_b_0]; exact z]
  have ye : (ad_q g = 0 ∧ (0 ≤ ad_p g ∧ ad_p g < Y 0 7) ∧ ad_t g ≤ ac_in Y (ad_p g)) → ad_do Y g = (1, Y) := fun z => by
    rw [ed, show am_b (ad_q g = 0 ∧ (0 ≤ ad_p g ∧ ad_p g < Y 0 7) ∧ ad_t g ≤ ac_in Y (ad_p g)) = 1 by rw [am_b_1]; exact z]
  rw [am_B193_355]
  by_cases q1 : ad_q g = 0
  · rw [if_neg (show ¬ ad_q g ≠ 0 from fun z => z q1), am_B193_360 hE, h127, am_bd_v]
    simp only [Nat.reduceAdd]
    rw [am_B193_368]
    by_cases q2 : 0 ≤ ad_p g ∧ ad_p g < Y 0 7
    · rw [if_neg (show ¬ am_b (0 ≤ ad_p g ∧ ad_p g < Y 0 7) = 0 by rw [am_b_0]; exact fun z => z q2)]
      have e : am_den 134 (0, [some (am_A (38, 0)), some (am_I (ad_p g)), none, none], [], E, ar_s N 38 f) = some (.inl (some (am_I (ac_in Y (ad_p g)))), E, ar_s N 38 f) := ra_134 hk q38 hG.1 (by omega)
      rw [am_B193_371 hE, e, am_bd_v]
      simp only [Nat.reduceAdd]
      rw [am_B193_379]
      by_cases q3 : ad_t g ≤ ac_in Y (ad_p g)
      · rw [if_neg (show ¬ ac_in Y (ad_p g) < ad_t g by omega), am_B193_384, am_B193_389 (Or.inr rfl)]
        exact tr_ye (ye ⟨q1, q2, q3⟩) rfl hq
      · rw [if_pos (show ac_in Y (ad_p g) < ad_t g by omega)]
        exact bad (no (fun z => q3 z.2.2))
    · rw [if_pos (show am_b (0 ≤ ad_p g ∧ ad_p g < Y 0 7) = 0 by rw [am_b_0]; exact q2)]
      exact bad (no (fun z => q2 z.2.1))
  · rw [if_pos (show ad_q g ≠ 0 from q1)]
    exact bad (no (fun z => q1 z.1))
theorem tr_k9 (hE : am_Wr E) (hq : ra_q f Y) (hG : av_G B Y) (hB : B < 2147000000) (hg : 0 ≤ g ∧ g < 100000) (h : g / 10000 = 9) : tr_R E N Y g (am_den 193 (437, [some (am_A (35, 0)), some (am_I (g / 10000)), some (am_I (g % 10000)), some (am_I (ad_p g)), some (am_I (ad_q g)), some (am_I (g / 100 % 100)), some (am_I (g / 10 % 100)), some (am_I (ad_t g)), some (am_I (g % 10))], [], E, ar_s N 38 f)) := by
  have hk := hE.2.2.2.2.2.2.2.2.1
  have q38 : ra_q (ar_s N 38 f 38 0) Y := by rw [ar_s_at]; exact hq
  have h127 : ∀ p, am_den 127 (0, [some (am_A (38, 0)), some (am_I p)], [], E, ar_s N 38 f) = some (.inl (some (am_I (am_b (0 ≤ p ∧ p < Y 0 7)))), E, ar_s N 38 f) := fun p => ra_127 hk q38 hG.1.1
  have ed : ad_do Y g = (am_b (ad_q g = 0 ∧ (0 ≤ ad_p g ∧ ad_p g < Y 0 7) ∧ am_oa Y (ad_p g) ≤ ad_t g), Y) := by
    unfold ad_do
    rw [if_neg (show ¬ g / 10000 = 1 by omega), if_neg (show ¬ g / 10000 = 2 by omega), if_neg (show ¬ g / 10000 = 3 by omega), if_neg (show ¬ g / 10000 = 4 by omega), if_neg (show ¬ g / 10000 = 5 by omega), if_neg (show ¬ g / 10000 = 6 by omega), if_neg (show ¬ g / 10000 = 7 by omega), if_neg (show ¬ g / 10000 = 8 by omega), if_pos h]
  have bad : ad_do Y g = (0, Y) → tr_R E N Y g (am_den 193 (470, [some (am_A (35, 0)), some (am_I (g / 10000)), some (am_I (g % 10000)), some (am_I (ad_p g)), some (am_I (ad_q g)), some (am_I (g / 100 % 100)), some (am_I (g / 10 % 100)), some (am_I (ad_t g)), some (am_I (g % 10))], [], E, ar_s N 38 f)) := fun z => tr_no z hq (by rw [am_B193_470, am_B193_471 (Or.inl rfl)])
  have no : ¬ (ad_q g = 0 ∧ (0 ≤ ad_p g ∧ ad_p g < Y 0 7) ∧ am_oa Y (ad_p g) ≤ ad_t g) → ad_do Y g = (0, Y) := fun z => by
    rw [ed, show am_b (ad_q g = 0 ∧ (0 ≤ ad_p g ∧ ad_p g < Y 0 7) ∧ am_oa Y (ad_p g) ≤ ad_t g) = 0 by rw [am_b_0]; exact z]
  have ye : (ad_q g = 0 ∧ (0 ≤ ad_p g ∧ ad_p g < Y 0 7) ∧ am_oa Y (ad_p g) ≤ ad_t g) → ad_do Y g = (1, Y) := fun z => by
    rw [ed, show am_b (ad_q g = 0 ∧ (0 ≤ ad_p g ∧ ad_p g < Y 0 7) ∧ am_oa Y (ad_p g) ≤ ad_t g) = 1 by rw [am_b_1]; exact z]
  rw [am_B193_437]
  by_cases q1 : ad_q g = 0
  · rw [if_neg (show ¬ ad_q g ≠ 0 from fun z => z q1), am_B193_442 hE, h127, am_bd_v]
    simp only [Nat.reduceAdd]
    rw [am_B193_450]
    by_cases q2 : 0 ≤ ad_p g ∧ ad_p g < Y 0 7
    · rw [if_neg (show ¬ am_b (0 ≤ ad_p g ∧ ad_p g < Y 0 7) = 0 by rw [am_b_0]; exact fun z => z q2)]
      have e : am_den 135 (0, [some (am_A (38, 0)), some (am_I (ad_p g)), none, none], [], E, ar_s N 38 f) = some (.inl (some (am_I (am_oa Y (ad_p g)))), E, ar_s N 38 f) := ra_135 hk q38 hG.1 (by omega)
      rw [am_B193_453 hE, e, am_bd_v]
      simp only [Nat.reduceAdd]
      rw [am_B193_461]
      by_cases q3 : am_oa Y (ad_p g) ≤ ad_t g
      · rw [if_neg (show ¬ ad_t g < am_oa Y (ad_p g) by omega), am_B193_466, am_B193_471 (Or.inr rfl)]
        exact tr_ye (ye ⟨q1, q2, q3⟩) rfl hq
      · rw [if_pos (show ad_t g < am_oa Y (ad_p g) by omega)]
        exact bad (no (fun z => q3 z.2.2))
    · rw [if_pos (show am_b (0 ≤ ad_p g ∧ ad_p g < Y 0 7) = 0 by rw [am_b_0]; exact q2)]
      exact bad (no (fun z => q2 z.2.1))
  · rw [if_pos (show ad_q g ≠ 0 from q1)]
    exact bad (no (fun z => q1 z.1))
theorem tr_k8 (hE : am_Wr E) (hq : ra_q f Y) (hG : av_G B Y) (hB : B < 2147000000) (hg : 0 ≤ g ∧ g < 100000) (h : g / 10000 = 8) : tr_R E N Y g (am_den 193 (390, [some (am_A (35, 0)), some (am_I (g / 10000)), some (am_I (g % 10000)), some (am_I (ad_p g)), some (am_I (ad_q g)), some (am_I (g / 100 % 100)), some (am_I (g / 10 % 100)), some (am_I (ad_t g)), some (am_I (g % 10))], [], E, ar_s N 38 f)) := by
  have hk := hE.2.2.2.2.2.2.2.2.1
  have q38 : ra_q (ar_s N 38 f 38 0) Y := by rw [ar_s_at]; exact hq
  have h127 : ∀ p, am_den 127 (0, [some (am_A (38, 0)), some (am_I p)], [], E, ar_s N 38 f) = some (.inl (some (am_I (am_b (0 ≤ p ∧ p < Y 0 7)))), E, ar_s N 38 f) := fun p => ra_127 hk q38 hG.1.1
  have ed : ad_do Y g = (am_b (g % 10 = 0 ∧ (0 ≤ ad_p g ∧ ad_p g < Y 0 7) ∧ am_gt (Y 2) 24 (g / 10 % 100) ≠ -1 ∧ am_gt (Y 6) 4 (ad_p g) = g / 10 % 100), Y) := by
    unfold ad_do
    rw [if_neg (show ¬ g / 10000 = 1 by omega), if_neg (show ¬ g / 10000 = 2 by omega), if_neg (show ¬ g / 10000 = 3 by omega), if_neg (show ¬ g / 10000 = 4 by omega), if_neg (show ¬ g / 10000 = 5 by omega), if_neg (show ¬ g / 10000 = 6 by omega), if_neg (show ¬ g / 10000 = 7 by omega), if_pos h]
  have bad : ad_do Y g = (0, Y) → tr_R E N Y g (am_den 193 (435, [some (am_A (35, 0)), some (am_I (g / 10000)), some (am_I (g % 10000)), some (am_I (ad_p g)), some (am_I (ad_q g)), some (am_I (g / 100 % 100)), some (am_I (g / 10 % 100)), some (am_I (ad_t g)), some (am_I (g % 10))], [], E, ar_s N 38 f)) := fun z => tr_no z hq (by rw [am_B193_435, am_B193_436 (Or.inl rfl)])
  have no : ¬ (g % 10 = 0 ∧ (0 ≤ ad_p g ∧ ad_p g < Y 0 7) ∧ am_gt (Y 2) 24 (g / 10 % 100) ≠ -1 ∧ am_gt (Y 6) 4 (ad_p g) = g / 10 % 100) → ad_do Y g = (0, Y) := fun z => by
    rw [ed, show am_b (g % 10 = 0 ∧ (0 ≤ ad_p g ∧ ad_p g < Y 0 7) ∧ am_gt (Y 2) 24 (g / 10 % 100) ≠ -1 ∧ am_gt (Y 6) 4 (ad_p g) = g / 10 % 100) = 0 by rw [am_b_0]; exact z]
  have ye : (g % 10 = 0 ∧ (0 ≤ ad_p g ∧ ad_p g < Y 0 7) ∧ am_gt (Y 2) 24 (g / 10 % 100) ≠ -1 ∧ am_gt (Y 6) 4 (ad_p g) = g / 10 % 100) → ad_do Y g = (1, Y) := fun z => by
    rw [ed, show am_b (g % 10 = 0 ∧ (0 ≤ ad_p g ∧ ad_p g < Y 0 7) ∧ am_gt (Y 2) 24 (g / 10 % 100) ≠ -1 ∧ am_gt (Y 6) 4 (ad_p g) = g / 10 % 100) = 1 by rw [am_b_1]; exact z]
  rw [am_B193_390]
  by_cases q1 : g % 10 = 0
  · rw [if_neg (show ¬ g % 10 ≠ 0 from fun z => z q1), am_B193_395 hE, h127, am_bd_v]
    simp only [Nat.reduceAdd]
    rw [am_B193_403]
    by_cases q2 : 0 ≤ ad_p g ∧ ad_p g < Y 0 7
    · rw [if_neg (show ¬ am_b (0 ≤ ad_p g ∧ ad_p g < Y 0 7) = 0 by rw [am_b_0]; exact fun z => z q2)]
      rw [am_B193_406 hE, ra_128 hk q38 hG.1.1, am_bd_v]
      simp only [Nat.reduceAdd]
      rw [am_B193_415]
      by_cases q3 : am_gt (Y 2) 24 (g / 10 % 100) ≠ -1
      · rw [if_neg (show ¬ am_b (am_gt (Y 2) 24 (g / 10 % 100) ≠ -1) = 0 by rw [am_b_0]; exact fun z => z q3), am_B193_418 hE, ra_125 hk q38 hG.1.1 q2.1 q2.2, am_bd_v]
        simp only [Nat.reduceAdd]
        rw [am_B193_426]
        by_cases q4 : am_gt (Y 6) 4 (ad_p g) = g / 10 % 100
        · rw [if_neg (show ¬ am_gt (Y 6) 4 (ad_p g) ≠ g / 10 % 100 from fun z => z q4), am_B193_431, am_B193_436 (Or.inr rfl)]
          exact tr_ye (ye ⟨q1, q2, q3, q4⟩) rfl hq
        · rw [if_pos (show am_gt (Y 6) 4 (ad_p g) ≠ g / 10 % 100 from q4)]
          exact bad (no (fun z => q4 z.2.2.2))
      · rw [if_pos (show am_b (am_gt (Y 2) 24 (g / 10 % 100) ≠ -1) = 0 by rw [am_b_0]; exact q3)]
        exact bad (no (fun z => q3 z.2.2.1))
    · rw [if_pos (show am_b (0 ≤ ad_p g ∧ ad_p g < Y 0 7) = 0 by rw [am_b_0]; exact q2)]
      exact bad (no (fun z => q2 z.2.1))
  · rw [if_pos (show g % 10 ≠ 0 from q1)]
    exact bad (no (fun z => q1 z.1))
theorem tr_193 (hE : am_Wr E) (hq : ra_q f Y) (hG : av_G B Y) (hB : B < 2147000000) (hg : 0 ≤ g ∧ g < 100000) {u3 u4 u5 u6 u7 u8 : Option am_V} : tr_R E N Y g (am_den 193 (0, [some (am_A (35, 0)), some (am_I (g / 10000)), some (am_I (g % 10000)), u3, u4, u5, u6, u7, u8], [], E, ar_s N 38 f)) := by
  have hm : 0 ≤ g % 10000 ∧ g % 10000 < 100000 := by omega
  have e3 : am_w ((g % 10000).tdiv 1000) = ad_p g := by rw [ad_wd hm (by decide), show ad_p g = g / 1000 % 10 from rfl]; omega
  have e4 : (am_w ((g % 10000).tdiv 100)).tmod 10 = ad_q g := by rw [ad_wd hm (by decide), ad_wm (by omega), show ad_q g = g / 100 % 10 from rfl]; omega
  have e5 : am_w ((g % 10000).tdiv 100) = g / 100 % 100 := by rw [ad_wd hm (by decide)]; omega
  have e6 : (am_w ((g % 10000).tdiv 10)).tmod 100 = g / 10 % 100 := by rw [ad_wd hm (by decide), ad_wm (by omega)]; omega
  have e7 : (g % 10000).tmod 100 = ad_t g := by rw [ad_wm hm.1, show ad_t g = g % 100 from rfl]; omega
  have e8 : (g % 10000).tmod 10 = g % 10 := by rw [ad_wm hm.1]; omega
  rw [am_B193_0, e3, e4, e5, e6, e7, e8]
  by_cases hd : g / 10000 < 1 ∨ 9 < g / 10000
  · have ed : ad_do Y g = (0, Y) := by
      unfold ad_do
      repeat' rw [if_neg (by omega)]
    rw [am_S193_43d hd, am_B193_472]
    exact tr_no ed hq rfl
  · have hk : g / 10000 = 1 ∨ g / 10000 = 2 ∨ g / 10000 = 3 ∨ g / 10000 = 4 ∨ g / 10000 = 5 ∨ g / 10000 = 6 ∨ g / 10000 = 7 ∨ g / 10000 = 8 ∨ g / 10000 = 9 := by omega
    rcases hk with h | h | h | h | h | h | h | h | h
    · rw [am_S193_43v1 h]
      exact tr_k1 hE hq hG hB hg h
    · rw [am_S193_43v2 h]
      exact tr_k2 hE hq hG hB hg h
    · rw [am_S193_43v3 h]
      exact tr_k3 hE hq hG hB hg h
    · rw [am_S193_43v4 h]
      exact tr_k4 hE hq hG hB hg h
    · rw [am_S193_43v5 h]
      exact tr_k5 hE hq hG hB hg h
    · rw [am_S193_43v6 h]
      exact tr_k6 hE hq hG hB hg h
    · rw [am_S193_43v7 h]
      exact tr_k7 hE hq hG hB hg h
    · rw [am_S193_43v8 h]
      exact tr_k8 hE hq hG hB hg h
    · rw [am_S193_43v9 h]
      exact tr_k9 hE hq hG hB hg h
end TOP11
