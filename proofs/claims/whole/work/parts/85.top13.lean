/-! ===== pairs: simulate ===== -/
def tS (E : am_E) (N : am_M) (Z : Nat → Int → Int) (X : Option am_Rs) : Prop := ∃ f', X = some (.inl none, E, ar_s N 38 f') ∧ ra_q f' Z
section TOP13
variable {E : am_E} {M N : am_M} {B : Int} {Y Z : Nat → Int → Int} {f f' : Int → Int} {k q : Int}
theorem tS_no {K a c : Int} {X : Option am_Rs} (h : ay_can Y K a c = 0) (hq : ra_q f' Y) (hX : X = some (.inl none, E, ar_s N 38 f')) : tS E N (ay_ob Y K a c) X := ⟨f', hX, by rw [rt_no h]; exact hq⟩
theorem tS_ye {K a c : Int} {X : Option am_Rs} (h : ay_can Y K a c ≠ 0) (hq : ra_q f' (ay_act Y K a c)) (hX : X = some (.inl none, E, ar_s N 38 f')) : tS E N (ay_ob Y K a c) X := ⟨f', hX, by rw [rt_ye h]; exact hq⟩
theorem ts_195 (hE : am_Wr E) (hq : ra_q f Y) (hG : av_G B Y) (hk : 0 ≤ k ∧ k ≤ 13) (hn : k ≠ 8 ∧ k ≠ 11 ∧ k ≠ 12) (h0 : 0 ≤ q ∧ q < 2147483648) : tS E N (ay_ob Y (ad_kl k) (ad_k1 k q) (ad_k2 k q)) (am_den 195 (0, [some (am_A (38, 0)), some (am_I k), some (am_I q), none], [], E, ar_s N 38 f)) := by
  have hk38 := hE.2.2.2.2.2.2.2.2.1
  have q38 : ra_q (ar_s N 38 f 38 0) Y := by rw [ar_s_at]; exact hq
  have h127 : ∀ p, am_den 127 (0, [some (am_A (38, 0)), some (am_I p)], [], E, ar_s N 38 f) = some (.inl (some (am_I (am_b (0 ≤ p ∧ p < Y 0 7)))), E, ar_s N 38 f) := fun p => ra_127 hk38 q38 hG.1.1
  have e4 : q.tmod 4 = q % 4 := ad_wm h0.1
  have d0 : 0 ≤ q / 4 := by omega
  have e5 : am_w (q.tdiv 4) = q / 4 := by rw [Int.tdiv_eq_ediv_of_nonneg h0.1, am_wi (by omega) (by omega)]
  have k1 : ad_k1 k q = q % 4 := by
    unfold ad_k1
    rw [if_neg (by omega), if_neg (by omega), if_neg (by omega)]
  have hp : 0 ≤ q % 4 ∧ q % 4 < 4 := by omega
  have hc : 0 ≤ q / 4 % 100 ∧ q / 4 % 100 ≤ 99 := by omega
  have hw2 : q / 4 % 2 = 0 ∨ q / 4 % 2 = 1 := by omega
  have ed : ∀ j, (q / 4).tmod j = q / 4 % j := fun j => ad_wm d0
  rw [am_B195_0, e4, k1]
  generalize q % 4 = p at *
  by_cases a0 : k = 0
  · have kl : ad_kl k = 112 := by unfold ad_kl; rw [if_pos a0]
    rw [kl, if_neg (fun z => z a0), am_B195_8 hk38 (by omega)]
    generalize ad_k2 k q = c
    have ec : ay_can Y 112 p c = am_b (Y 0 7 < 4) := rfl
    have e1 : ar_s N 38 f (38, 0).1 (38, 0).2 0 = Y 0 7 := by
      show ar_s N 38 f 38 0 0 = Y 0 7
      rw [ar_s_at, hq.1.1]
    rw [e1]
    by_cases q1 : Y 0 7 < 4
    · obtain ⟨f', e, hq', _⟩ := ra_144 (M := N) (d := 38) (u := none) hk38 hq hG.1 q1
      rw [if_neg (by omega), am_B195_15, e, am_bd_v]
      simp only [Nat.reduceAdd]
      rw [am_B195_19, am_B195_152]
      exact tS_ye (by rw [ec, ne_eq, am_b_0]; exact fun z => z q1) hq' rfl
    · rw [if_pos (by omega), am_B195_152]
      exact tS_no (by rw [ec, am_b_0]; exact q1) hq rfl
  · rw [if_pos (show k ≠ 0 from a0), am_B195_23, h127, am_bd_v]
    simp only [Nat.reduceAdd]
    rw [am_B195_28]
    by_cases q2 : 0 ≤ p ∧ p < Y 0 7
    · rw [if_pos (show am_b (0 ≤ p ∧ p < Y 0 7) ≠ 0 by rw [ne_eq, am_b_0]; exact fun z => z q2), am_B195_32]
      by_cases a1 : k ≤ 5
      · have kl : ad_kl k = 108 := by unfold ad_kl; rw [if_neg a0, if_pos (by omega)]
        have k2 : ad_k2 k q = q / 4 % 100 := by unfold ad_k2; rw [if_neg (by omega), if_neg (by omega)]
        have ec : ay_can Y 108 p (q / 4 % 100) = am_b ((0 ≤ p ∧ p < Y 0 7) ∧ (0 ≤ q / 4 % 100 ∧ q / 4 % 100 ≤ 99) ∧ Y 0 8 < 24) := rfl
        have e1 : ar_s N 38 f (38, 0).1 (38, 0).2 1 = Y 0 8 := by
          show ar_s N 38 f 38 0 1 = Y 0 8
          rw [ar_s_at, hq.1.2.1]
        rw [kl, k2, if_neg (by omega), am_B195_38 hk38 (by omega), e1]
        by_cases q3 : Y 0 8 < 24
        · obtain ⟨f', e, hq', _⟩ := ra_145 (M := N) (d := 38) (u := none) hk38 hq hG.1 q2 hc q3
          rw [if_neg (by omega), am_B195_46, e5, ed, e, am_bd_v]
          simp only [Nat.reduceAdd]
          rw [am_B195_57, am_B195_152]
          exact tS_ye (by rw [ec, ne_eq, am_b_0]; exact fun z => z ⟨q2, hc, q3⟩) hq' rfl
        · rw [if_pos (by omega), am_B195_152]
          exact tS_no (by rw [ec, am_b_0]; exact fun z => q3 z.2.2) hq rfl
      · rw [if_pos (by omega), am_B195_61]
        by_cases a2 : k ≤ 7
        · have kl : ad_kl k = 100 := by unfold ad_kl; rw [if_neg a0, if_neg (by omega), if_pos (by omega)]
          rw [kl, if_neg (by omega), am_B195_67]
          generalize ad_k2 k q = c
          have ec : ay_can Y 100 p c = am_b ((0 ≤ p ∧ p < Y 0 7) ∧ ay_why Y p = 0) := rfl
          by_cases q3 : ay_why Y p = 0
          · obtain ⟨f', e, hq', _⟩ := ra_148a (M := N) (d := 38) (u := none) hk38 hq hG.1 (av_Hh hG.1 hG.2.1) q2.1 q2.2 q3
            rw [e, am_bd_v]
            simp only [Nat.reduceAdd]
            rw [am_B195_72, am_B195_152]
            exact tS_ye (by rw [ec, ne_eq, am_b_0]; exact fun z => z ⟨q2, q3⟩) hq' rfl
          · rw [ra_148b hk38 hq hG.1 q2.1 q2.2 q3, am_bd_v]
            simp only [Nat.reduceAdd]
            rw [am_B195_72, am_B195_152]
            exact tS_no (by rw [ec, am_b_0]; exact fun z => q3 z.2) (ra_u8 hq) rfl
        · rw [if_pos (by omega), am_B195_76]
          by_cases a3 : k = 9
          · have kl : ad_kl k = 106 := by unfold ad_kl; rw [if_neg a0, if_neg (by omega), if_neg (by omega), if_neg (by omega), if_pos a3]
            have k2 : ad_k2 k q = q / 4 % 4 := by unfold ad_k2; rw [if_pos a3]
            have ec : ay_can Y 106 p (q / 4 % 4) = am_b ((0 ≤ p ∧ p < Y 0 7) ∧ (0 ≤ q / 4 % 4 ∧ q / 4 % 4 < Y 0 7) ∧ p ≠ q / 4 % 4) := rfl
            rw [kl, k2, if_neg (fun z => z a3), am_B195_82, e5, ed, h127, am_bd_v]
            simp only [Nat.reduceAdd]
            rw [am_B195_91]
            by_cases q3 : 0 ≤ q / 4 % 4 ∧ q / 4 % 4 < Y 0 7
            · rw [if_neg (show ¬ am_b (0 ≤ q / 4 % 4 ∧ q / 4 % 4 < Y 0 7) = 0 by rw [am_b_0]; exact fun z => z q3), am_B195_94, e5, ed]
              by_cases q4 : p = q / 4 % 4
              · rw [if_pos q4, am_B195_152]
                exact tS_no (by rw [ec, am_b_0]; exact fun z => z.2.2 q4) hq rfl
              · obtain ⟨f', e, hq', _⟩ := ra_150 (M := N) (d := 38) (u1 := none) (u2 := none) hk38 hq hG.1 q2 q3 q4
                rw [if_neg q4, am_B195_103, e5, ed, e, am_bd_v]
                simp only [Nat.reduceAdd]
                rw [am_B195_113, am_B195_152]
                exact tS_ye (by rw [ec, ne_eq, am_b_0]; exact fun z => z ⟨q2, q3, q4⟩) hq' rfl
            · rw [if_pos (show am_b (0 ≤ q / 4 % 4 ∧ q / 4 % 4 < Y 0 7) = 0 by rw [am_b_0]; exact q3), am_B195_152]
              exact tS_no (by rw [ec, am_b_0]; exact fun z => q3 z.2.1) hq rfl
          · rw [if_pos (show k ≠ 9 from a3), am_B195_117]
            by_cases a4 : k = 10
            · have kl : ad_kl k = 99 := by unfold ad_kl; rw [if_neg a0, if_neg (by omega), if_neg (by omega), if_neg (by omega), if_neg a3, if_pos a4]
              have k2 : ad_k2 k q = q / 4 % 2 := by unfold ad_k2; rw [if_neg a3, if_pos a4]
              have ec : ay_can Y 99 p (q / 4 % 2) = am_b (0 ≤ p ∧ p < Y 0 7) := rfl
              rw [kl, k2, if_neg (fun z => z a4), am_B195_123, e5, ed]
              have fin : ∀ v : Int, (if v = 0 then (0 : Int) else 1) = (if q / 4 % 2 = 1 then 1 else 0) → tS E N (ay_ob Y 99 p (q / 4 % 2)) (am_den 195 (139, [some (am_A (38, 0)), some (am_I k), some (am_I q), some (am_I p)], [am_I v, am_I p, am_A (38, 0)], E, ar_s N 38 f)) := by
                intro v hv
                obtain ⟨f', e, hq', _⟩ := ra_151 (M := N) (d := 38) (w := v) (u := none) hk38 hq hG.1 q2
                rw [hv] at hq'
                rw [am_B195_139, e, am_bd_v]
                simp only [Nat.reduceAdd]
                rw [am_B195_142, am_B195_152]
                exact tS_ye (by rw [ec, ne_eq, am_b_0]; exact fun z => z q2) hq' rfl
              by_cases q3 : q / 4 % 2 = 1
              · rw [if_neg (fun z => z q3), am_B195_134]
                exact fin 1 (by rw [if_pos q3]; rfl)
              · rw [if_pos (show q / 4 % 2 ≠ 1 from q3), am_B195_138]
                exact fin 0 (by rw [if_neg q3]; rfl)
            · have kl : ad_kl k = 109 := by
                unfold ad_kl
                rw [if_neg a0, if_neg (by omega), if_neg (by omega), if_neg (by omega), if_neg a3, if_neg a4, if_neg (by omega), if_neg (by omega), if_pos (by omega)]
              obtain ⟨f', e, hq', _⟩ := ra_154 (M := N) (d := 38) (u2 := none) (u3 := none) hk38 hq hG.1 q2
              rw [kl, if_pos (show k ≠ 10 from a4), am_B195_146, e, am_bd_v]
              simp only [Nat.reduceAdd]
              rw [am_B195_151, am_B195_152]
              generalize ad_k2 k q = c
              have ec : ay_can Y 109 p c = am_b (0 ≤ p ∧ p < Y 0 7) := rfl
              exact tS_ye (by rw [ec, ne_eq, am_b_0]; exact fun z => z q2) hq' rfl
    · rw [if_neg (show ¬ am_b (0 ≤ p ∧ p < Y 0 7) ≠ 0 by rw [ne_eq, am_b_0]; exact fun z => z q2), am_B195_31]
      have can : ay_can Y (ad_kl k) p (ad_k2 k q) = 0 := by
        generalize ad_k2 k q = c
        have e108 : ay_can Y 108 p c = am_b ((0 ≤ p ∧ p < Y 0 7) ∧ (0 ≤ c ∧ c ≤ 99) ∧ Y 0 8 < 24) := rfl
        have e100 : ay_can Y 100 p c = am_b ((0 ≤ p ∧ p < Y 0 7) ∧ ay_why Y p = 0) := rfl
        have e106 : ay_can Y 106 p c = am_b ((0 ≤ p ∧ p < Y 0 7) ∧ (0 ≤ c ∧ c < Y 0 7) ∧ p ≠ c) := rfl
        have e99 : ay_can Y 99 p c = am_b (0 ≤ p ∧ p < Y 0 7) := rfl
        have e109 : ay_can Y 109 p c = am_b (0 ≤ p ∧ p < Y 0 7) := rfl
        have h : (1 ≤ k ∧ k ≤ 5) ∨ (k = 6 ∨ k = 7) ∨ k = 9 ∨ k = 10 ∨ k = 13 := by omega
        unfold ad_kl
        rcases h with h | h | h | h | h
        · rw [if_neg a0, if_pos h, e108, am_b_0]
          exact fun z => q2 z.1
        · rw [if_neg a0, if_neg (by omega), if_pos h, e100, am_b_0]
          exact fun z => q2 z.1
        · rw [if_neg a0, if_neg (by omega), if_neg (by omega), if_neg (by omega), if_pos h, e106, am_b_0]
          exact fun z => q2 z.1
        · rw [if_neg a0, if_neg (by omega), if_neg (by omega), if_neg (by omega), if_neg (by omega), if_pos h, e99, am_b_0]
          exact q2
        · rw [if_neg a0, if_neg (by omega), if_neg (by omega), if_neg (by omega), if_neg (by omega), if_neg (by omega), if_neg (by omega), if_neg (by omega), if_pos h, e109, am_b_0]
          exact q2
      exact tS_no can hq rfl
theorem ts_196 (hE : am_Wr E) (hq : ra_q f Y) (hG : av_G B Y) (hk : 0 ≤ k ∧ k ≤ 15) (h0 : 0 ≤ q ∧ q < 2147483648) : tS E N (ay_ob Y (ad_kl k) (ad_k1 k q) (ad_k2 k q)) (am_den 196 (0, [some (am_A (38, 0)), some (am_I k), some (am_I q)], [], E, ar_s N 38 f)) := by
  have hk38 := hE.2.2.2.2.2.2.2.2.1
  have q38 : ra_q (ar_s N 38 f 38 0) Y := by rw [ar_s_at]; exact hq
  have ed : ∀ j, q.tmod j = q % j := fun j => ad_wm h0.1
  rw [am_B196_0]
  by_cases a8 : k = 8
  · have kl : ad_kl k = 107 := by unfold ad_kl; rw [if_neg (by omega), if_neg (by omega), if_neg (by omega), if_pos a8]
    have k1 : ad_k1 k q = q % 24 := by unfold ad_k1; rw [if_pos a8]
    rw [kl, k1, if_neg (fun z => z a8), am_B196_6, ed, ra_128 hk38 q38 hG.1.1, am_bd_v]
    simp only [Nat.reduceAdd]
    rw [am_B196_14]
    generalize ad_k2 k q = c
    have ec : ay_can Y 107 (q % 24) c = am_b (am_gt (Y 2) 24 (q % 24) ≠ -1) := rfl
    by_cases q2 : am_gt (Y 2) 24 (q % 24) ≠ -1
    · obtain ⟨f', e, hq', _⟩ := ra_149 (M := N) (d := 38) (u := none) hk38 hq hG.1 q2
      rw [if_neg (show ¬ am_b (am_gt (Y 2) 24 (q % 24) ≠ -1) = 0 by rw [am_b_0]; exact fun z => z q2), am_B196_17, ed, e, am_bd_v]
      simp only [Nat.reduceAdd]
      rw [am_B196_25, am_B196_94]
      exact tS_ye (by rw [ec, ne_eq, am_b_0]; exact fun z => z q2) hq' rfl
    · rw [if_pos (show am_b (am_gt (Y 2) 24 (q % 24) ≠ -1) = 0 by rw [am_b_0]; exact q2), am_B196_94]
      exact tS_no (by rw [ec, am_b_0]; exact q2) hq rfl
  · rw [if_pos (show k ≠ 8 from a8), am_B196_29]
    by_cases a11 : k = 11
    · have kl : ad_kl k = 119 := by unfold ad_kl; rw [if_neg (by omega), if_neg (by omega), if_neg (by omega), if_neg (by omega), if_neg (by omega), if_neg (by omega), if_pos a11]
      have k1 : ad_k1 k q = 1 + q % 30 := by unfold ad_k1; rw [if_neg a8, if_pos (by omega)]
      have hw : 1 ≤ 1 + q % 30 ∧ 1 + q % 30 ≤ 30 := by omega
      have ew : am_w (1 + q % 30) = 1 + q % 30 := am_wi (by omega) (by omega)
      obtain ⟨f', e, hq', _⟩ := ra_152 (M := N) (d := 38) (u2 := none) (u3 := none) (u4 := none) hk38 hq hG.1 hw
      rw [kl, k1, if_neg (fun z => z a11), am_B196_35, ed, ew, e, am_bd_v]
      simp only [Nat.reduceAdd]
      rw [am_B196_45, am_B196_94]
      generalize ad_k2 k q = c
      have ec : ay_can Y 119 (1 + q % 30) c = am_b (1 ≤ 1 + q % 30 ∧ 1 + q % 30 ≤ 30) := rfl
      exact tS_ye (by rw [ec, ne_eq, am_b_0]; exact fun z => z hw) hq' rfl
    · rw [if_pos (show k ≠ 11 from a11), am_B196_49]
      by_cases a12 : k = 12
      · have kl : ad_kl k = 114 := by unfold ad_kl; rw [if_neg (by omega), if_neg (by omega), if_neg (by omega), if_neg (by omega), if_neg (by omega), if_neg (by omega), if_neg a11, if_pos a12]
        have k1 : ad_k1 k q = 1 + q % 30 := by unfold ad_k1; rw [if_neg a8, if_pos (by omega)]
        have hw : 1 ≤ 1 + q % 30 ∧ 1 + q % 30 ≤ 30 := by omega
        have ew : am_w (1 + q % 30) = 1 + q % 30 := am_wi (by omega) (by omega)
        obtain ⟨f', e, hq', _⟩ := ra_153 (M := N) (d := 38) (u2 := none) (u3 := none) hk38 hq hG.1 hw
        rw [kl, k1, if_neg (fun z => z a12), am_B196_55, ed, ew, e, am_bd_v]
        simp only [Nat.reduceAdd]
        rw [am_B196_65, am_B196_94]
        generalize ad_k2 k q = c
        have ec : ay_can Y 114 (1 + q % 30) c = am_b (1 ≤ 1 + q % 30 ∧ 1 + q % 30 ≤ 30) := rfl
        exact tS_ye (by rw [ec, ne_eq, am_b_0]; exact fun z => z hw) hq' rfl
      · rw [if_pos (show k ≠ 12 from a12), am_B196_69]
        by_cases a13 : k ≤ 13
        · obtain ⟨f', e, hq'⟩ := ts_195 (N := N) hE hq hG ⟨hk.1, a13⟩ ⟨a8, a11, a12⟩ h0
          rw [if_pos a13, am_B196_88, e, am_bd_u]
          simp only [Nat.reduceAdd]
          rw [am_B196_94]
          exact ⟨f', rfl, hq'⟩
        · have kl : ad_kl k = 110 := by unfold ad_kl; rw [if_neg (by omega), if_neg (by omega), if_neg (by omega), if_neg (by omega), if_neg (by omega), if_neg (by omega), if_neg a11, if_neg a12, if_neg (by omega)]
          have k1 : ad_k1 k q = 1 + q % 3 := by unfold ad_k1; rw [if_neg a8, if_neg (by omega), if_pos (by omega)]
          have hw : 1 ≤ 1 + q % 3 ∧ 1 + q % 3 ≤ 9 := by omega
          have ew : am_w (1 + q % 3) = 1 + q % 3 := am_wi (by omega) (by omega)
          obtain ⟨f', e, hq', _⟩ := ra_155 (M := N) (d := 38) (w := 1 + q % 3) (u2 := none) (u3 := none) (u4 := none) (u5 := none) (u6 := none) hk38 hq hG.1 (av_Hh hG.1 hG.2.1) (by omega)
          rw [kl, k1, if_neg a13, am_B196_75, ed, ew, e, am_bd_v]
          simp only [Nat.reduceAdd]
          rw [am_B196_84, am_B196_94]
          generalize ad_k2 k q = c
          have ec : ay_can Y 110 (1 + q % 3) c = am_b (1 ≤ 1 + q % 3 ∧ 1 + q % 3 ≤ 9) := rfl
          exact tS_ye (by rw [ec, ne_eq, am_b_0]; exact fun z => z hw) hq' rfl
end TOP13
