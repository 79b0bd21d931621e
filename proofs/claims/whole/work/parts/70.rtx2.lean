/-! ===== the reference does what a letter means ===== -/
def rt_s (M : am_M) (f g : Int → Int) : am_M := ar_s (ar_s M 38 f) 35 g
theorem rt_s_sw {M : am_M} {f g : Int → Int} : rt_s M f g = ar_s (ar_s M 35 g) 38 f := rt_sw (by decide)
def rt_do (E : am_E) (M : am_M) (f g : Int → Int) (Y : Nat → Int → Int) (k a b : Int) (X : Option am_Rs) : Prop := ∃ f', X = some (.inl (some (am_I 1)), E, rt_s M f' (ar_u g 12 (if ay_can Y k a b = 0 then g 12 + 1 else g 12))) ∧ ra_q f' (ay_ob Y k a b) ∧ f' 8 = f 8
theorem rt_no {Y : Nat → Int → Int} {k a b : Int} (h : ay_can Y k a b = 0) : ay_ob Y k a b = Y := if_pos h
theorem rt_ye {Y : Nat → Int → Int} {k a b : Int} (h : ay_can Y k a b ≠ 0) : ay_ob Y k a b = ay_act Y k a b := if_neg h
section RTX2
variable {E : am_E} {M : am_M} {f g : Int → Int} {Y : Nat → Int → Int} {B a b x : Int}
theorem rt_127 (hE : am_Wr E) (hq : ra_q f Y) (hY : av_Y Y) : am_den 127 (0, [some (am_A (38, 0)), some (am_I a)], [], E, rt_s M f g) = some (.inl (some (am_I (am_b (0 ≤ a ∧ a < Y 0 7)))), E, rt_s M f g) := by
  rw [rt_s_sw]
  exact ra_127 hE.2.2.2.2.2.2.2.2.1 (by rw [ar_s_at]; exact hq) hY.1
theorem rt_128 (hE : am_Wr E) (hq : ra_q f Y) (hY : av_Y Y) : am_den 128 (0, [some (am_A (38, 0)), some (am_I a)], [], E, rt_s M f g) = some (.inl (some (am_I (am_b (am_gt (Y 2) 24 a ≠ -1)))), E, rt_s M f g) := by
  rw [rt_s_sw]
  exact ra_128 hE.2.2.2.2.2.2.2.2.1 (by rw [ar_s_at]; exact hq) hY.1
theorem rt_59 (hE : am_Wr E) (ho : 0 ≤ g 12 ∧ g 12 ≤ 1000) : am_den 159 (0, [some (am_A (35, 0)), some (am_I x)], [], E, rt_s M f g) = some (.inl (some (am_I 1)), E, rt_s M f (ar_u g 12 (if x = 0 then g 12 + 1 else g 12))) := rt_159 hE ho
theorem rt_to {v : Option am_V} {Z : Nat → Int → Int} {X : am_M → Option am_Rs} (h : ra_to E (ar_s M 35 g) 38 f v Z (X (ar_s (ar_s M 35 g) 38 f))) : ∃ f', X (rt_s M f g) = some (.inl v, E, rt_s M f' g) ∧ ra_q f' Z ∧ f' 8 = f 8 := by
  obtain ⟨f', e, hq, h8⟩ := h
  refine ⟨f', ?_, hq, h8⟩
  rw [rt_s_sw, rt_s_sw, e]
theorem rt_l (hE : am_Wr E) (hq : ra_q f Y) (hG : av_G B Y) (ho : 0 ≤ g 12 ∧ g 12 ≤ 1000) (hb : 0 ≤ b ∧ b ≤ 99) : rt_do E M f g Y 108 a b (am_den 162 (84, [some (am_A (35, 0)), some (am_A (38, 0)), some (am_I 108), some (am_I a), some (am_I b)], [], E, rt_s M f g)) := by
  have hk := hE.2.2.2.2.2.2.2.2.1
  have ec : ay_can Y 108 a b = am_b ((0 ≤ a ∧ a < Y 0 7) ∧ (0 ≤ b ∧ b ≤ 99) ∧ Y 0 8 < 24) := rfl
  have bad : ¬((0 ≤ a ∧ a < Y 0 7) ∧ (0 ≤ b ∧ b ≤ 99) ∧ Y 0 8 < 24) → rt_do E M f g Y 108 a b (am_den 162 (115, [some (am_A (35, 0)), some (am_A (38, 0)), some (am_I 108), some (am_I a), some (am_I b)], [am_A (35, 0)], E, rt_s M f g)) := by
    intro h
    have h0 : ay_can Y 108 a b = 0 := by rw [ec, am_b_0]; exact h
    refine ⟨f, ?_, by rw [rt_no h0]; exact hq, rfl⟩
    rw [am_B162_115, am_B162_116 hE, rt_59 hE ho, am_bd_v, if_pos rfl, if_pos h0]
    simp only [Nat.reduceAdd]
    rw [am_B162_119 (Or.inr rfl)]
  rw [am_B162_84, rt_127 hE hq hG.1, am_bd_v]
  simp only [Nat.reduceAdd]
  rw [am_B162_90]
  by_cases h1 : 0 ≤ a ∧ a < Y 0 7
  · rw [if_neg (show ¬ am_b (0 ≤ a ∧ a < Y 0 7) = 0 by rw [am_b_0]; exact fun z => z h1), am_B162_93 hk (by omega)]
    have e1 : rt_s M f g 38 0 1 = Y 0 8 := by rw [rt_s_sw, ar_s_at, hq.1.2.1]
    rw [e1]
    by_cases h2 : Y 0 8 < 24
    · have h0 : ay_can Y 108 a b ≠ 0 := by rw [ec, ne_eq, am_b_0]; exact fun z => z ⟨h1, hb, h2⟩
      obtain ⟨f', e, hq', h8'⟩ := rt_to (X := fun Z => am_den 145 (0, [some (am_A (38, 0)), some (am_I a), some (am_I b), none], [], E, Z)) (ra_145 (M := ar_s M 35 g) (d := 38) (u := none) hk hq hG.1 h1 hb h2)
      have h8 := hG.1.1.2.1
      refine ⟨f', ?_, by rw [rt_ye h0]; exact hq', h8'⟩
      rw [if_neg (by omega), am_B162_101, e, am_bd_v]
      simp only [Nat.reduceAdd]
      rw [am_B162_108, if_neg (by omega), am_B162_111, am_B162_116 hE, rt_59 hE ho, am_bd_v, if_neg (show ¬ (1 : Int) = 0 by decide), if_neg h0]
      simp only [Nat.reduceAdd]
      rw [am_B162_119 (Or.inr rfl)]
    · rw [if_pos (by omega)]
      exact bad (fun z => h2 z.2.2)
  · rw [if_pos (show am_b (0 ≤ a ∧ a < Y 0 7) = 0 by rw [am_b_0]; exact h1)]
    exact bad (fun z => h1 z.1)
theorem rt_d (hE : am_Wr E) (hq : ra_q f Y) (hG : av_G B Y) (ho : 0 ≤ g 12 ∧ g 12 ≤ 1000) {c : Int} : rt_do E M f g Y 100 a b (am_den 162 (120, [some (am_A (35, 0)), some (am_A (38, 0)), some (am_I 100), some (am_I a), some (am_I c)], [], E, rt_s M f g)) := by
  have hk := hE.2.2.2.2.2.2.2.2.1
  have ec : ay_can Y 100 a b = am_b ((0 ≤ a ∧ a < Y 0 7) ∧ ay_why Y a = 0) := rfl
  have bad : ¬((0 ≤ a ∧ a < Y 0 7) ∧ ay_why Y a = 0) → rt_do E M f g Y 100 a b (am_den 162 (149, [some (am_A (35, 0)), some (am_A (38, 0)), some (am_I 100), some (am_I a), some (am_I c)], [am_A (35, 0)], E, rt_s M f g)) := by
    intro h
    have h0 : ay_can Y 100 a b = 0 := by rw [ec, am_b_0]; exact h
    refine ⟨f, ?_, by rw [rt_no h0]; exact hq, rfl⟩
    rw [am_B162_149, am_B162_150 hE, rt_59 hE ho, am_bd_v, if_pos rfl, if_pos h0]
    simp only [Nat.reduceAdd]
    rw [am_B162_153 (Or.inr rfl)]
  rw [am_B162_120, rt_127 hE hq hG.1, am_bd_v]
  simp only [Nat.reduceAdd]
  rw [am_B162_126]
  by_cases h1 : 0 ≤ a ∧ a < Y 0 7
  · have e1 : am_den 146 (0, [some (am_A (38, 0)), some (am_I a)], [], E, rt_s M f g) = some (.inl (some (am_I (ay_why Y a))), E, rt_s M f g) := by
      rw [rt_s_sw]
      exact ra_146s hk hq hG.1 h1.1 h1.2
    rw [if_neg (show ¬ am_b (0 ≤ a ∧ a < Y 0 7) = 0 by rw [am_b_0]; exact fun z => z h1), am_B162_129, e1, am_bd_v]
    simp only [Nat.reduceAdd]
    rw [am_B162_134]
    by_cases h2 : ay_why Y a = 0
    · have h0 : ay_can Y 100 a b ≠ 0 := by rw [ec, ne_eq, am_b_0]; exact fun z => z ⟨h1, h2⟩
      obtain ⟨f', e, hq', h8'⟩ := rt_to (X := fun Z => am_den 148 (0, [some (am_A (38, 0)), some (am_I a), none], [], E, Z)) (ra_148a (M := ar_s M 35 g) (d := 38) (u := none) hk hq hG.1 (av_Hh hG.1 hG.2.1) h1.1 h1.2 h2)
      refine ⟨f', ?_, by rw [rt_ye h0]; exact hq', h8'⟩
      rw [if_neg (show ¬ ay_why Y a ≠ 0 from fun z => z h2), am_B162_137, e, am_bd_v]
      simp only [Nat.reduceAdd]
      rw [am_B162_142, if_neg (by decide), am_B162_145, am_B162_150 hE, rt_59 hE ho, am_bd_v, if_neg (show ¬ (1 : Int) = 0 by decide), if_neg h0]
      simp only [Nat.reduceAdd]
      rw [am_B162_153 (Or.inr rfl)]
    · rw [if_pos (show ay_why Y a ≠ 0 from h2)]
      exact bad (fun z => h2 z.2)
  · rw [if_pos (show am_b (0 ≤ a ∧ a < Y 0 7) = 0 by rw [am_b_0]; exact h1)]
    exact bad (fun z => h1 z.1)
theorem rt_j (hE : am_Wr E) (hq : ra_q f Y) (hG : av_G B Y) (hB : B < 2147000000) (ho : 0 ≤ g 12 ∧ g 12 ≤ 1000) : rt_do E M f g Y 106 a b (am_den 162 (154, [some (am_A (35, 0)), some (am_A (38, 0)), some (am_I 106), some (am_I a), some (am_I b)], [], E, rt_s M f g)) := by
  have hk := hE.2.2.2.2.2.2.2.2.1
  have ec : ay_can Y 106 a b = am_b ((0 ≤ a ∧ a < Y 0 7) ∧ (0 ≤ b ∧ b < Y 0 7) ∧ a ≠ b) := rfl
  have bad : ¬((0 ≤ a ∧ a < Y 0 7) ∧ (0 ≤ b ∧ b < Y 0 7) ∧ a ≠ b) → rt_do E M f g Y 106 a b (am_den 162 (192, [some (am_A (35, 0)), some (am_A (38, 0)), some (am_I 106), some (am_I a), some (am_I b)], [am_A (35, 0)], E, rt_s M f g)) := by
    intro h
    have h0 : ay_can Y 106 a b = 0 := by rw [ec, am_b_0]; exact h
    refine ⟨f, ?_, by rw [rt_no h0]; exact hq, rfl⟩
    rw [am_B162_192, am_B162_193 hE, rt_59 hE ho, am_bd_v, if_pos rfl, if_pos h0]
    simp only [Nat.reduceAdd]
    rw [am_B162_196 (Or.inr rfl)]
  rw [am_B162_154, rt_127 hE hq hG.1, am_bd_v]
  simp only [Nat.reduceAdd]
  rw [am_B162_160]
  by_cases h1 : 0 ≤ a ∧ a < Y 0 7
  · rw [if_neg (show ¬ am_b (0 ≤ a ∧ a < Y 0 7) = 0 by rw [am_b_0]; exact fun z => z h1), am_B162_163, rt_127 hE hq hG.1, am_bd_v]
    simp only [Nat.reduceAdd]
    rw [am_B162_169]
    by_cases h2 : 0 ≤ b ∧ b < Y 0 7
    · rw [if_neg (show ¬ am_b (0 ≤ b ∧ b < Y 0 7) = 0 by rw [am_b_0]; exact fun z => z h2), am_B162_172]
      by_cases h3 : a = b
      · rw [if_pos h3]
        exact bad (fun z => z.2.2 h3)
      · have h0 : ay_can Y 106 a b ≠ 0 := by rw [ec, ne_eq, am_b_0]; exact fun z => z ⟨h1, h2, h3⟩
        obtain ⟨f', e, hq', h8'⟩ := rt_to (X := fun Z => am_den 150 (0, [some (am_A (38, 0)), some (am_I a), some (am_I b), none, none], [], E, Z)) (ra_150 (M := ar_s M 35 g) (d := 38) (u1 := none) (u2 := none) hk hq hG.1 h1 h2 h3)
        have hpos := av_up0 (av_jpY hG.1 h1 h2 h3).2 hG.2.2.1 (by have := hG.2.2.2; omega)
        refine ⟨f', ?_, by rw [rt_ye h0]; exact hq', h8'⟩
        rw [if_neg h3, am_B162_178, e, am_bd_v]
        simp only [Nat.reduceAdd]
        rw [am_B162_185, if_neg (by omega), am_B162_188, am_B162_193 hE, rt_59 hE ho, am_bd_v, if_neg (show ¬ (1 : Int) = 0 by decide), if_neg h0]
        simp only [Nat.reduceAdd]
        rw [am_B162_196 (Or.inr rfl)]
    · rw [if_pos (show am_b (0 ≤ b ∧ b < Y 0 7) = 0 by rw [am_b_0]; exact h2)]
      exact bad (fun z => h2 z.2.1)
  · rw [if_pos (show am_b (0 ≤ a ∧ a < Y 0 7) = 0 by rw [am_b_0]; exact h1)]
    exact bad (fun z => h1 z.1)
theorem rt_m (hE : am_Wr E) (hq : ra_q f Y) (hG : av_G B Y) (hB : B < 2147000000) (ho : 0 ≤ g 12 ∧ g 12 ≤ 1000) {c : Int} : rt_do E M f g Y 109 a b (am_den 162 (197, [some (am_A (35, 0)), some (am_A (38, 0)), some (am_I 109), some (am_I a), some (am_I c)], [], E, rt_s M f g)) := by
  have hk := hE.2.2.2.2.2.2.2.2.1
  have ec : ay_can Y 109 a b = am_b (0 ≤ a ∧ a < Y 0 7) := rfl
  rw [am_B162_197, rt_127 hE hq hG.1, am_bd_v]
  simp only [Nat.reduceAdd]
  rw [am_B162_203]
  by_cases h1 : 0 ≤ a ∧ a < Y 0 7
  · have h0 : ay_can Y 109 a b ≠ 0 := by rw [ec, ne_eq, am_b_0]; exact fun z => z h1
    obtain ⟨f', e, hq', h8'⟩ := rt_to (X := fun Z => am_den 154 (0, [some (am_A (38, 0)), some (am_I a), none, none], [], E, Z)) (ra_154 (M := ar_s M 35 g) (d := 38) (u2 := none) (u3 := none) hk hq hG.1 h1)
    have hpos := av_up0 (av_mend hG.1 h1).2.1 hG.2.2.1 (by have := hG.2.2.2; omega)
    refine ⟨f', ?_, by rw [rt_ye h0]; exact hq', h8'⟩
    rw [if_neg (show ¬ am_b (0 ≤ a ∧ a < Y 0 7) = 0 by rw [am_b_0]; exact fun z => z h1), am_B162_206, e, am_bd_v]
    simp only [Nat.reduceAdd]
    rw [am_B162_211, if_neg (by omega), am_B162_214, am_B162_219 hE, rt_59 hE ho, am_bd_v, if_neg (show ¬ (1 : Int) = 0 by decide), if_neg h0]
    simp only [Nat.reduceAdd]
    rw [am_B162_222 (Or.inr rfl)]
  · have h0 : ay_can Y 109 a b = 0 := by rw [ec, am_b_0]; exact h1
    refine ⟨f, ?_, by rw [rt_no h0]; exact hq, rfl⟩
    rw [if_pos (show am_b (0 ≤ a ∧ a < Y 0 7) = 0 by rw [am_b_0]; exact h1), am_B162_218, am_B162_219 hE, rt_59 hE ho, am_bd_v, if_pos rfl, if_pos h0]
    simp only [Nat.reduceAdd]
    rw [am_B162_222 (Or.inr rfl)]
theorem rt_c (hE : am_Wr E) (hq : ra_q f Y) (hG : av_G B Y) (ho : 0 ≤ g 12 ∧ g 12 ≤ 1000) (hb : b = 0 ∨ b = 1) : rt_do E M f g Y 99 a b (am_den 161 (82, [some (am_A (35, 0)), some (am_A (38, 0)), some (am_I a), some (am_I b)], [], E, rt_s M f g)) := by
  have hk := hE.2.2.2.2.2.2.2.2.1
  have ec : ay_can Y 99 a b = am_b (0 ≤ a ∧ a < Y 0 7) := rfl
  rw [am_B161_82, rt_127 hE hq hG.1, am_bd_v]
  simp only [Nat.reduceAdd]
  rw [am_B161_88]
  by_cases h1 : 0 ≤ a ∧ a < Y 0 7
  · have h0 : ay_can Y 99 a b ≠ 0 := by rw [ec, ne_eq, am_b_0]; exact fun z => z h1
    obtain ⟨f', e, hq', h8'⟩ := rt_to (X := fun Z => am_den 151 (0, [some (am_A (38, 0)), some (am_I a), some (am_I b), none], [], E, Z)) (ra_151 (M := ar_s M 35 g) (d := 38) (w := b) (u := none) hk hq hG.1 h1)
    have hpos := am_b_le (p := am_gt (Y 7) 4 a = 1)
    have ea : ay_act Y 99 a b = am_pt Y 7 4 a (if b = 0 then 0 else 1) := by
      show am_pt Y 7 4 a (if b = 1 then 1 else 0) = _
      rcases hb with h | h
      · rw [if_neg (by omega), if_pos h]
      · rw [if_pos h, if_neg (by omega)]
    refine ⟨f', ?_, by rw [rt_ye h0, ea]; exact hq', h8'⟩
    rw [if_neg (show ¬ am_b (0 ≤ a ∧ a < Y 0 7) = 0 by rw [am_b_0]; exact fun z => z h1), am_B161_91, e, am_bd_v]
    simp only [Nat.reduceAdd]
    rw [am_B161_97, if_neg (by omega), am_B161_100, am_B161_105 hE, rt_59 hE ho, am_bd_v, if_neg (show ¬ (1 : Int) = 0 by decide), if_neg h0]
    simp only [Nat.reduceAdd]
    rw [am_B161_108 (Or.inr rfl)]
  · have h0 : ay_can Y 99 a b = 0 := by rw [ec, am_b_0]; exact h1
    refine ⟨f, ?_, by rw [rt_no h0]; exact hq, rfl⟩
    rw [if_pos (show am_b (0 ≤ a ∧ a < Y 0 7) = 0 by rw [am_b_0]; exact h1), am_B161_104, am_B161_105 hE, rt_59 hE ho, am_bd_v, if_pos rfl, if_pos h0]
    simp only [Nat.reduceAdd]
    rw [am_B161_108 (Or.inr rfl)]
theorem rt_p (hE : am_Wr E) (hq : ra_q f Y) (hG : av_G B Y) (ho : 0 ≤ g 12 ∧ g 12 ≤ 1000) {u : Option am_V} : rt_do E M f g Y 112 a b (am_den 163 (120, [some (am_A (35, 0)), some (am_A (38, 0)), some (am_I 112), u], [], E, rt_s M f g)) := by
  have hk := hE.2.2.2.2.2.2.2.2.1
  have ec : ay_can Y 112 a b = am_b (Y 0 7 < 4) := rfl
  have e1 : rt_s M f g 38 0 0 = Y 0 7 := by rw [rt_s_sw, ar_s_at, hq.1.1]
  rw [am_B163_120 hk (by omega), e1]
  by_cases h1 : Y 0 7 < 4
  · have h0 : ay_can Y 112 a b ≠ 0 := by rw [ec, ne_eq, am_b_0]; exact fun z => z h1
    have h7 := hG.1.1.1
    obtain ⟨f', e, hq', h8'⟩ := rt_to (X := fun Z => am_den 144 (0, [some (am_A (38, 0)), none], [], E, Z)) (ra_144 (M := ar_s M 35 g) (d := 38) (u := none) hk hq hG.1 h1)
    refine ⟨f', ?_, by rw [rt_ye h0]; exact hq', h8'⟩
    rw [if_neg (by omega), am_B163_128, e, am_bd_v]
    simp only [Nat.reduceAdd]
    rw [am_B163_132, if_neg (by omega), am_B163_135, am_B163_140 hE, rt_59 hE ho, am_bd_v, if_neg (show ¬ (1 : Int) = 0 by decide), if_neg h0]
    simp only [Nat.reduceAdd]
    rw [am_B163_143 (Or.inr rfl)]
  · have h0 : ay_can Y 112 a b = 0 := by rw [ec, am_b_0]; exact h1
    refine ⟨f, ?_, by rw [rt_no h0]; exact hq, rfl⟩
    rw [if_pos (by omega), am_B163_139, am_B163_140 hE, rt_59 hE ho, am_bd_v, if_pos rfl, if_pos h0]
    simp only [Nat.reduceAdd]
    rw [am_B163_143 (Or.inr rfl)]
theorem rt_k (hE : am_Wr E) (hq : ra_q f Y) (hG : av_G B Y) (hB : B < 2147000000) (ho : 0 ≤ g 12 ∧ g 12 ≤ 1000) : rt_do E M f g Y 107 a b (am_den 163 (166, [some (am_A (35, 0)), some (am_A (38, 0)), some (am_I 107), some (am_I a)], [], E, rt_s M f g)) := by
  have hk := hE.2.2.2.2.2.2.2.2.1
  have ec : ay_can Y 107 a b = am_b (am_gt (Y 2) 24 a ≠ -1) := rfl
  rw [am_B163_166, rt_128 hE hq hG.1, am_bd_v]
  simp only [Nat.reduceAdd]
  rw [am_B163_172]
  by_cases h1 : am_gt (Y 2) 24 a ≠ -1
  · have h0 : ay_can Y 107 a b ≠ 0 := by rw [ec, ne_eq, am_b_0]; exact fun z => z h1
    obtain ⟨f', e, hq', h8'⟩ := rt_to (X := fun Z => am_den 149 (0, [some (am_A (38, 0)), some (am_I a), none], [], E, Z)) (ra_149 (M := ar_s M 35 g) (d := 38) (u := none) hk hq hG.1 h1)
    have hpos := av_up0 (av_take hG.1 h1).2 hG.2.2.1 (by have := hG.2.2.2; omega)
    refine ⟨f', ?_, by rw [rt_ye h0]; exact hq', h8'⟩
    rw [if_neg (show ¬ am_b (am_gt (Y 2) 24 a ≠ -1) = 0 by rw [am_b_0]; exact fun z => z h1), am_B163_175, e, am_bd_v]
    simp only [Nat.reduceAdd]
    rw [am_B163_180, if_neg (by omega), am_B163_183, am_B163_188 hE, rt_59 hE ho, am_bd_v, if_neg (show ¬ (1 : Int) = 0 by decide), if_neg h0]
    simp only [Nat.reduceAdd]
    rw [am_B163_191, if_neg (by decide), am_B163_194, am_B163_199 (Or.inr rfl)]
  · have h0 : ay_can Y 107 a b = 0 := by rw [ec, am_b_0]; exact h1
    refine ⟨f, ?_, by rw [rt_no h0]; exact hq, rfl⟩
    rw [if_pos (show am_b (am_gt (Y 2) 24 a ≠ -1) = 0 by rw [am_b_0]; exact h1), am_B163_187, am_B163_188 hE, rt_59 hE ho, am_bd_v, if_pos rfl, if_pos h0]
    simp only [Nat.reduceAdd]
    rw [am_B163_191, if_neg (by decide), am_B163_194, am_B163_199 (Or.inr rfl)]
theorem rt_sm0 {F : Int → Int} (hF : ∀ x, 0 ≤ F x) : ∀ n : Nat, 0 ≤ am_sm F n := by
  intro n
  induction n with
  | zero => exact Int.le_refl _
  | succ n ih =>
    simp only [am_sm]
    have := hF n
    omega
theorem rt_da0 (hY : av_Y Y) {p : Int} : 0 ≤ am_da Y p := (am_da_le hY.1.2.2.1).1
theorem rt_w (hE : am_Wr E) (hq : ra_q f Y) (hG : av_G B Y) (ho : 0 ≤ g 12 ∧ g 12 ≤ 1000) (ha : 1 ≤ a ∧ a ≤ 30) {k : Int} (hk2 : k = 119 ∨ k = 114) : rt_do E M f g Y k a b (am_den 163 (221, [some (am_A (35, 0)), some (am_A (38, 0)), some (am_I k), some (am_I a)], [], E, rt_s M f g)) := by
  have hk := hE.2.2.2.2.2.2.2.2.1
  have fin : ∀ (f' : Int → Int) (v : Int), 0 ≤ v → ay_can Y k a b ≠ 0 → am_den 163 (241, [some (am_A (35, 0)), some (am_A (38, 0)), some (am_I k), some (am_I a)], [am_I v, am_A (35, 0)], E, rt_s M f' g) = some (.inl (some (am_I 1)), E, rt_s M f' (ar_u g 12 (if ay_can Y k a b = 0 then g 12 + 1 else g 12))) := by
    intro f' v hv h0
    rw [am_B163_241, if_neg (by omega), am_B163_244, am_B163_249 hE, rt_59 hE ho, am_bd_v, if_neg (show ¬ (1 : Int) = 0 by decide), if_neg h0]
    simp only [Nat.reduceAdd]
    rw [am_B163_252, if_neg (by decide), am_B163_255, am_B163_260 (Or.inr rfl)]
  rcases hk2 with e | e
  · subst e
    have h0 : ay_can Y 119 a b ≠ 0 := by
      show am_b (1 ≤ a ∧ a ≤ 30) ≠ 0
      rw [ne_eq, am_b_0]; exact fun z => z ha
    obtain ⟨f', e, hq', h8'⟩ := rt_to (X := fun Z => am_den 152 (0, [some (am_A (38, 0)), some (am_I a), none, none, none], [], E, Z)) (ra_152 (M := ar_s M 35 g) (d := 38) (u2 := none) (u3 := none) (u4 := none) hk hq hG.1 ha)
    refine ⟨f', ?_, by rw [rt_ye h0]; exact hq', h8'⟩
    rw [am_B163_221, if_neg (by decide), am_B163_228, e, am_bd_v]
    simp only [Nat.reduceAdd]
    rw [am_B163_233]
    exact fin f' _ (rt_sm0 (fun x => rt_da0 (av_wind hG.1 ha)) _) h0
  · subst e
    have h0 : ay_can Y 114 a b ≠ 0 := by
      show am_b (1 ≤ a ∧ a ≤ 30) ≠ 0
      rw [ne_eq, am_b_0]; exact fun z => z ha
    obtain ⟨f', e, hq', h8'⟩ := rt_to (X := fun Z => am_den 153 (0, [some (am_A (38, 0)), some (am_I a), none, none], [], E, Z)) (ra_153 (M := ar_s M 35 g) (d := 38) (u2 := none) (u3 := none) hk hq hG.1 ha)
    refine ⟨f', ?_, by rw [rt_ye h0]; exact hq', h8'⟩
    rw [am_B163_221, if_pos (by decide), am_B163_236, e, am_bd_v]
    simp only [Nat.reduceAdd]
    exact fin f' _ (rt_sm0 (fun x => am_oa_le.1) _) h0
theorem rt_n (hE : am_Wr E) (hq : ra_q f Y) (hG : av_G B Y) (ho : 0 ≤ g 12 ∧ g 12 ≤ 1000) (ha : 1 ≤ a ∧ a ≤ 9) : rt_do E M f g Y 110 a b (am_den 163 (276, [some (am_A (35, 0)), some (am_A (38, 0)), some (am_I 110), some (am_I a)], [], E, rt_s M f g)) := by
  have hk := hE.2.2.2.2.2.2.2.2.1
  have h0 : ay_can Y 110 a b ≠ 0 := by
    show am_b (1 ≤ a ∧ a ≤ 9) ≠ 0
    rw [ne_eq, am_b_0]; exact fun z => z ha
  obtain ⟨f', e, hq', h8'⟩ := rt_to (X := fun Z => am_den 155 (0, [some (am_A (38, 0)), some (am_I a), none, none, none, none, none], [], E, Z)) (ra_155 (M := ar_s M 35 g) (d := 38) (w := a) (u2 := none) (u3 := none) (u4 := none) (u5 := none) (u6 := none) hk hq hG.1 (av_Hh hG.1 hG.2.1) (by omega))
  have hH := av_Hnts a.toNat hG.1 hG.2.1
  have h9 := av_H9 hG.1
  have h9' := av_H9 (av_nts a.toNat hG.1).1
  have hpos : 0 ≤ am_w (ay_nts a.toNat Y 0 12 - Y 0 12) := by
    obtain ⟨⟨⟨c1, c2⟩, _⟩, c3⟩ := hH
    have := hG.2.1.1
    rw [am_wi (by omega) (by omega)]
    omega
  refine ⟨f', ?_, by rw [rt_ye h0]; exact hq', h8'⟩
  rw [am_B163_276, e, am_bd_v]
  simp only [Nat.reduceAdd]
  rw [am_B163_282, if_neg (by omega), am_B163_285, am_B163_290 hE, rt_59 hE ho, am_bd_v, if_neg (show ¬ (1 : Int) = 0 by decide), if_neg h0]
  simp only [Nat.reduceAdd]
  rw [am_B163_293, if_neg (by decide), am_B163_296, am_B163_301 (Or.inr rfl)]
end RTX2
