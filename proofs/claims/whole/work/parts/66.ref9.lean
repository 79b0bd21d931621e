/-! ===== the reference: winds, rains, mending, nights ===== -/
theorem av_part {Y : Nat → Int → Int} {g : Int → Int} {i : Int} (h : av_Y Y) (hi : i ≤ 24) (hg : ∀ x, 0 ≤ x → x < 24 → 0 ≤ g x ∧ g x ≤ 99) : av_Y (am_rg Y 1 0 i g) := by
  have e : am_rg Y 1 0 i g = am_rg Y 1 0 24 (fun x => if x < i then g x else Y 1 x) := by
    funext c x
    unfold am_rg
    by_cases a : c = 1 ∧ 0 ≤ x ∧ x < i
    · rw [if_pos a, if_pos ⟨a.1, a.2.1, by omega⟩]
      exact (if_pos a.2.2).symm
    · rw [if_neg a]
      by_cases b : c = 1 ∧ 0 ≤ x ∧ x < 24
      · rw [if_pos b, b.1]
        exact (if_neg (fun z => a ⟨b.1, b.2.1, z⟩)).symm
      · rw [if_neg b]
  rw [e]
  refine av_damp h (fun x a b => ?_)
  show 0 ≤ (if x < i then g x else Y 1 x) ∧ (if x < i then g x else Y 1 x) ≤ 99
  split
  · exact hg x a b
  · exact h.1.2.2.1 x a b
theorem ra_dend {Y : Nat → Int → Int} {g : Int → Int} (h : av_b Y) (hg : ∀ x, 0 ≤ x → x < 24 → Y 2 x = -1 → g x = Y 1 x) : am_rg Y 1 0 (Y 0 8) g = am_rg Y 1 0 24 g := by
  funext c x
  unfold am_rg
  have h8 := h.2.1
  by_cases a : c = 1 ∧ 0 ≤ x ∧ x < Y 0 8
  · rw [if_pos a, if_pos ⟨a.1, a.2.1, by omega⟩]
  · rw [if_neg a]
    by_cases b : c = 1 ∧ 0 ≤ x ∧ x < 24
    · rw [if_pos b]
      rcases h.2.2.2.1 x b.2.1 b.2.2 with w | w
      · rw [hg x b.2.1 b.2.2 w.1, b.1]
      · exact absurd ⟨b.1, b.2.1, w.2⟩ a
    · rw [if_neg b]
theorem ra_wdg {Y : Nat → Int → Int} {w : Int} (h : av_Y Y) (hw : 1 ≤ w ∧ w ≤ 30) : ∀ x, 0 ≤ x → x < 24 → 0 ≤ ay_wd Y w x ∧ ay_wd Y w x ≤ 99 := by
  intro x a b
  have := (av_wind h hw).1.2.2.1 x a b
  unfold ay_wind am_rg at this
  rw [if_pos ⟨rfl, a, b⟩] at this
  exact this
theorem ra_rdg {Y : Nat → Int → Int} {w : Int} (h : av_Y Y) (hw : 1 ≤ w ∧ w ≤ 30) : ∀ x, 0 ≤ x → x < 24 → 0 ≤ ay_rd Y w x ∧ ay_rd Y w x ≤ 99 := by
  intro x a b
  have := (av_rain h hw).1.2.2.1 x a b
  unfold ay_rain am_rg at this
  rw [if_pos ⟨rfl, a, b⟩] at this
  exact this
section REF9
variable {E : am_E} {M : am_M} {d : Nat} {Y : Nat → Int → Int} {f : Int → Int} {p q l m w v : Int}
theorem ra_152l (hk : am_kd E (d, 0) = some (6, 138)) (hY : av_Y Y) (hw : 1 ≤ w ∧ w ≤ 30) : ∀ (m i : Nat) (g : Int → Int) (u3 u4 : Option am_V), i + m = (Y 0 8).toNat → ra_q g (am_rg Y 1 0 i (ay_wd Y w)) → ra_to E M d g (some (am_I (am_sm (am_da (ay_wind Y w)) (Y 0 7).toNat))) (ay_wind Y w) (am_den 152 (2, [some (am_A (d, 0)), some (am_I w), some (am_I i), u3, u4], [], E, ar_s M d g)) := by
  have h8 := hY.1.2.1
  have s0 : ∀ i j, am_rg Y 1 0 i (ay_wd Y w) 0 j = Y 0 j := fun i j => ay_rg_ne (by decide)
  have sc : ∀ (c : Nat) i, c ≠ 1 → am_rg Y 1 0 i (ay_wd Y w) c = Y c := fun c i hc => funext (fun x => ay_rg_ne hc)
  intro m
  induction m with
  | zero =>
    intro i g u3 u4 h hg
    have e : (i : Int) = Y 0 8 := by omega
    have ew : am_rg Y 1 0 i (ay_wd Y w) = ay_wind Y w := by
      rw [e]
      exact ra_dend hY.1 (fun x a b hx => by rw [ay_wd, if_pos hx])
    rw [ew] at hg
    have e7 : ay_wind Y w 0 7 = Y 0 7 := ay_rg_ne (by decide)
    refine ⟨g, ?_, hg, rfl⟩
    rw [am_B152_2 hk (by omega), ar_s_at, hg.1.2.1, show ay_wind Y w 0 8 = Y 0 8 from ay_rg_ne (by decide), if_pos (by omega), am_B152_86, ra_138 hk (by rw [ar_s_at]; exact hg) (av_wind hY hw), am_bd_v, e7]
    simp only [Nat.reduceAdd]
    rw [am_B152_90]
  | succ m ih =>
    intro i g u3 u4 h hg
    have w1 : am_w ((i : Int) + 1) = ((i + 1 : Nat) : Int) := by rw [am_wi (by omega) (by omega)]; omega
    have hi : 0 ≤ (i : Int) ∧ (i : Int) < 24 := by omega
    have hZ := av_part (i := (i : Int)) hY (by omega) (ra_wdg hY hw)
    have hq' : ra_q (ar_s M d g d 0) (am_rg Y 1 0 i (ay_wd Y w)) := by rw [ar_s_at]; exact hg
    have c1 := hg.2.2.1 i (by omega) (by rw [s0]; omega)
    have r1 : am_rg Y 1 0 i (ay_wd Y w) 1 i = Y 1 i := by
      unfold am_rg
      rw [if_neg (by omega)]
    rw [r1, sc 2 i (by decide)] at c1
    rw [am_B152_2 hk (by omega), ar_s_at, hg.1.2.1, s0, if_neg (by omega), am_B152_9, ra_128 hk hq' hZ.1, am_bd_v, sc 2 i (by decide), at_gt (by omega)]
    simp only [Nat.reduceAdd]
    rw [am_B152_14]
    by_cases q1 : Y 2 i = -1
    · rw [if_pos (show am_b (Y 2 i ≠ -1) = 0 by rw [am_b_0]; exact fun z => z q1), am_B152_80, w1]
      have e : am_rg Y 1 0 ((i + 1 : Nat) : Int) (ay_wd Y w) = am_rg Y 1 0 i (ay_wd Y w) := by
        have hs := ra_snoc (Y := Y) (c := 1) (i := (i : Int)) (g := ay_wd Y w) (by omega)
        rw [show ay_wd Y w i = am_rg Y 1 0 i (ay_wd Y w) 1 i by rw [r1, ay_wd, if_pos q1], ay_uy_self] at hs
        rw [hs]
        rfl
      exact ih (i + 1) g u3 u4 (by omega) (by rw [e]; exact hg)
    · have hv := ra_lv hY.1 hi.1 hi.2 q1
      have hp7 := hY.1.1
      have hb := av_wby (Y := Y) (l := (i : Int)) hw
      have hdm := hY.1.2.2.1 i hi.1 hi.2
      have e0 : am_w (Y 1 i - ay_wby Y w i) = Y 1 i - ay_wby Y w i := am_wi (by omega) (by omega)
      have fin : ∀ x u3 u4, x = ay_wby Y w i → ra_to E M d g (some (am_I (am_sm (am_da (ay_wind Y w)) (Y 0 7).toNat))) (ay_wind Y w) (am_den 152 (52, [some (am_A (d, 0)), some (am_I w), some (am_I i), u3, u4], [am_I x], E, ar_s M d g)) := by
        intro x u3 u4 hx
        have last : ∀ v u3 u4, v = ay_wd Y w i → ra_to E M d g (some (am_I (am_sm (am_da (ay_wind Y w)) (Y 0 7).toNat))) (ay_wind Y w) (am_den 152 (77, [some (am_A (d, 0)), some (am_I w), some (am_I i), some (am_I u3), some (am_I u4)], [am_I v, am_I 0, am_I i, am_A (d, 0)], E, ar_s M d g)) := by
          intro v u3 u4 hv
          rw [am_B152_77, ra_124 hk hi (by omega), am_bd_u]
          simp only [Nat.reduceAdd]
          rw [am_B152_80, w1]
          have hn := ra_udm (v := v) (l := (i : Int)) hg (by rw [s0]; exact hp7.2) hi.1
          rw [hv, ra_snoc (by omega)] at hn
          rw [hv]
          refine ra_to_tr ?_ (ih (i + 1) _ _ _ (by omega) hn)
          exact ar_u_ne (by omega)
        rw [am_B152_52, ra_123 hk hi (by omega), am_bd_v, c1.1, hx]
        simp only [Nat.reduceAdd]
        rw [am_B152_59, e0]
        have ev : ay_wd Y w i = if 0 < Y 1 i - ay_wby Y w i then Y 1 i - ay_wby Y w i else 0 := by rw [ay_wd, if_neg q1, e0]
        by_cases q2 : 0 ≤ Y 1 i - ay_wby Y w i
        · rw [if_pos q2, am_B152_75]
          exact last _ _ _ (by rw [ev]; split <;> omega)
        · rw [if_neg q2, am_B152_71]
          exact last _ _ _ (by rw [ev]; split <;> omega)
      rw [if_neg (show ¬ am_b (Y 2 i ≠ -1) = 0 by rw [am_b_0]; exact fun z => z q1), am_B152_17, ra_123 hk hi (by omega), am_bd_v, c1.2]
      simp only [Nat.reduceAdd]
      rw [am_B152_24, ra_126 hk hq' hZ.1 (by omega) (by rw [s0]; omega), am_bd_v, sc 7 i (by decide)]
      simp only [Nat.reduceAdd]
      rw [am_B152_27]
      by_cases q2 : am_gt (Y 7) 4 (Y 2 i) = 1
      · rw [if_neg (show ¬ am_b (am_gt (Y 7) 4 (Y 2 i) = 1) = 0 by rw [am_b_0]; exact fun z => z q2), am_B152_30]
        exact fin _ _ _ (by rw [ay_wby, if_pos q2])
      · rw [if_pos (show am_b (am_gt (Y 7) 4 (Y 2 i) = 1) = 0 by rw [am_b_0]; exact q2), am_B152_36, ra_131 hk hq' hZ hi.1 hi.2 (by rw [sc 2 i (by decide)]; exact q1), am_bd_v]
        simp only [Nat.reduceAdd]
        have ed : ay_dep (am_rg Y 1 0 i (ay_wd Y w)) i = ay_dep Y i := by
          unfold ay_dep
          rw [sc 3 i (by decide)]
        rw [am_B152_41, ed]
        by_cases q3 : ay_dep Y i ≤ 1
        · rw [if_neg (show ¬ 2 ≤ ay_dep Y i by omega), am_B152_45]
          exact fin _ _ _ (by rw [ay_wby, if_neg q2, if_pos q3])
        · rw [if_pos (show 2 ≤ ay_dep Y i by omega), am_B152_49]
          exact fin _ _ _ (by rw [ay_wby, if_neg q2, if_neg q3])
theorem ra_152 (hk : am_kd E (d, 0) = some (6, 138)) (hq : ra_q f Y) (hY : av_Y Y) (hw : 1 ≤ w ∧ w ≤ 30) {u2 u3 u4 : Option am_V} : ra_to E M d f (some (am_I (am_sm (am_da (ay_wind Y w)) (Y 0 7).toNat))) (ay_wind Y w) (am_den 152 (0, [some (am_A (d, 0)), some (am_I w), u2, u3, u4], [], E, ar_s M d f)) := by
  rw [am_B152_0]
  refine ra_152l hk hY hw (Y 0 8).toNat 0 f u3 u4 (Nat.zero_add _) ?_
  have e : am_rg Y 1 0 ((0 : Nat) : Int) (ay_wd Y w) = Y := am_rg_nil (by omega)
  rw [e]
  exact hq
theorem ra_153l (hk : am_kd E (d, 0) = some (6, 138)) (hY : av_Y Y) (hw : 1 ≤ w ∧ w ≤ 30) : ∀ (m i : Nat) (g : Int → Int) (u3 : Option am_V), i + m = (Y 0 8).toNat → ra_q g (am_rg Y 1 0 i (ay_rd Y w)) → ra_to E M d g (some (am_I (am_sm (am_oa (ay_rain Y w)) (Y 0 7).toNat))) (ay_rain Y w) (am_den 153 (2, [some (am_A (d, 0)), some (am_I w), some (am_I i), u3], [], E, ar_s M d g)) := by
  have h8 := hY.1.2.1
  have s0 : ∀ i j, am_rg Y 1 0 i (ay_rd Y w) 0 j = Y 0 j := fun i j => ay_rg_ne (by decide)
  have sc : ∀ (c : Nat) i, c ≠ 1 → am_rg Y 1 0 i (ay_rd Y w) c = Y c := fun c i hc => funext (fun x => ay_rg_ne hc)
  intro m
  induction m with
  | zero =>
    intro i g u3 h hg
    have e : (i : Int) = Y 0 8 := by omega
    have ew : am_rg Y 1 0 i (ay_rd Y w) = ay_rain Y w := by
      rw [e]
      exact ra_dend hY.1 (fun x a b hx => by rw [ay_rd, if_pos (Or.inl hx)])
    rw [ew] at hg
    have e7 : ay_rain Y w 0 7 = Y 0 7 := ay_rg_ne (by decide)
    refine ⟨g, ?_, hg, rfl⟩
    rw [am_B153_2 hk (by omega), ar_s_at, hg.1.2.1, show ay_rain Y w 0 8 = Y 0 8 from ay_rg_ne (by decide), if_pos (by omega), am_B153_78, ra_137 hk (by rw [ar_s_at]; exact hg) (av_rain hY hw), am_bd_v, e7]
    simp only [Nat.reduceAdd]
    rw [am_B153_82]
  | succ m ih =>
    intro i g u3 h hg
    have w1 : am_w ((i : Int) + 1) = ((i + 1 : Nat) : Int) := by rw [am_wi (by omega) (by omega)]; omega
    have hi : 0 ≤ (i : Int) ∧ (i : Int) < 24 := by omega
    have hZ := av_part (i := (i : Int)) hY (by omega) (ra_rdg hY hw)
    have hq' : ra_q (ar_s M d g d 0) (am_rg Y 1 0 i (ay_rd Y w)) := by rw [ar_s_at]; exact hg
    have c1 := hg.2.2.1 i (by omega) (by rw [s0]; omega)
    have r1 : am_rg Y 1 0 i (ay_rd Y w) 1 i = Y 1 i := by
      unfold am_rg
      rw [if_neg (by omega)]
    rw [r1, sc 2 i (by decide)] at c1
    have same : Y 2 i = -1 ∨ am_gt (Y 7) 4 (Y 2 i) = 1 → ra_to E M d g (some (am_I (am_sm (am_oa (ay_rain Y w)) (Y 0 7).toNat))) (ay_rain Y w) (am_den 153 (72, [some (am_A (d, 0)), some (am_I w), some (am_I i), u3], [], E, ar_s M d g)) := by
      intro hx
      rw [am_B153_72, w1]
      have e : am_rg Y 1 0 ((i + 1 : Nat) : Int) (ay_rd Y w) = am_rg Y 1 0 i (ay_rd Y w) := by
        have hs := ra_snoc (Y := Y) (c := 1) (i := (i : Int)) (g := ay_rd Y w) (by omega)
        rw [show ay_rd Y w i = am_rg Y 1 0 i (ay_rd Y w) 1 i by rw [r1, ay_rd, if_pos hx], ay_uy_self] at hs
        rw [hs]
        rfl
      exact ih (i + 1) g u3 (by omega) (by rw [e]; exact hg)
    rw [am_B153_2 hk (by omega), ar_s_at, hg.1.2.1, s0, if_neg (by omega), am_B153_9, ra_128 hk hq' hZ.1, am_bd_v, sc 2 i (by decide), at_gt (by omega)]
    simp only [Nat.reduceAdd]
    rw [am_B153_14]
    by_cases q1 : Y 2 i = -1
    · rw [if_pos (show am_b (Y 2 i ≠ -1) = 0 by rw [am_b_0]; exact fun z => z q1)]
      exact same (Or.inl q1)
    · have hv := ra_lv hY.1 hi.1 hi.2 q1
      have hp7 := hY.1.1
      have hb := av_rby (Y := Y) (l := (i : Int)) hw
      have hdm := hY.1.2.2.1 i hi.1 hi.2
      have e0 : am_w (Y 1 i + ay_rby Y w i) = Y 1 i + ay_rby Y w i := am_wi (by omega) (by omega)
      rw [if_neg (show ¬ am_b (Y 2 i ≠ -1) = 0 by rw [am_b_0]; exact fun z => z q1), am_B153_17, ra_123 hk hi (by omega), am_bd_v, c1.2]
      simp only [Nat.reduceAdd]
      rw [am_B153_24, ra_126 hk hq' hZ.1 (by omega) (by rw [s0]; omega), am_bd_v, sc 7 i (by decide)]
      simp only [Nat.reduceAdd]
      rw [am_B153_27]
      by_cases q2 : am_gt (Y 7) 4 (Y 2 i) = 1
      · rw [if_pos (show am_b (am_gt (Y 7) 4 (Y 2 i) = 1) ≠ 0 by rw [ne_eq, am_b_0]; exact fun z => z q2)]
        exact same (Or.inr q2)
      · have fin : ∀ x, x = ay_rby Y w i → ra_to E M d g (some (am_I (am_sm (am_oa (ay_rain Y w)) (Y 0 7).toNat))) (ay_rain Y w) (am_den 153 (52, [some (am_A (d, 0)), some (am_I w), some (am_I i), u3], [am_I x, am_I (Y 1 i)], E, ar_s M d g)) := by
          intro x hx
          have last : ∀ v u3, v = ay_rd Y w i → ra_to E M d g (some (am_I (am_sm (am_oa (ay_rain Y w)) (Y 0 7).toNat))) (ay_rain Y w) (am_den 153 (69, [some (am_A (d, 0)), some (am_I w), some (am_I i), some (am_I u3)], [am_I v, am_I 0, am_I i, am_A (d, 0)], E, ar_s M d g)) := by
            intro v u3 hv
            rw [am_B153_69, ra_124 hk hi (by omega), am_bd_u]
            simp only [Nat.reduceAdd]
            rw [am_B153_72, w1]
            have hn := ra_udm (v := v) (l := (i : Int)) hg (by rw [s0]; exact hp7.2) hi.1
            rw [hv, ra_snoc (by omega)] at hn
            rw [hv]
            refine ra_to_tr ?_ (ih (i + 1) _ _ (by omega) hn)
            exact ar_u_ne (by omega)
          rw [am_B153_52, hx, e0]
          have ev : ay_rd Y w i = if Y 1 i + ay_rby Y w i < 99 then Y 1 i + ay_rby Y w i else 99 := by
            rw [ay_rd, if_neg (show ¬(Y 2 i = -1 ∨ am_gt (Y 7) 4 (Y 2 i) = 1) from fun z => z.elim q1 q2), e0]
          by_cases q3 : Y 1 i + ay_rby Y w i ≤ 99
          · rw [if_pos q3, am_B153_68]
            exact last _ _ (by rw [ev]; split <;> omega)
          · rw [if_neg q3, am_B153_63]
            exact last _ _ (by rw [ev]; split <;> omega)
        have ed : ay_dep (am_rg Y 1 0 i (ay_rd Y w)) i = ay_dep Y i := by
          unfold ay_dep
          rw [sc 3 i (by decide)]
        rw [if_neg (show ¬ am_b (am_gt (Y 7) 4 (Y 2 i) = 1) ≠ 0 by rw [ne_eq, am_b_0]; exact fun z => z q2), am_B153_30, ra_123 hk hi (by omega), am_bd_v, c1.1]
        simp only [Nat.reduceAdd]
        rw [am_B153_36, ra_131 hk hq' hZ hi.1 hi.2 (by rw [sc 2 i (by decide)]; exact q1), am_bd_v, ed]
        simp only [Nat.reduceAdd]
        rw [am_B153_41]
        by_cases q3 : ay_dep Y i ≤ 1
        · rw [if_neg (show ¬ 2 ≤ ay_dep Y i by omega), am_B153_45]
          exact fin _ (by rw [ay_rby, if_pos q3])
        · rw [if_pos (show 2 ≤ ay_dep Y i by omega), am_B153_49]
          exact fin _ (by rw [ay_rby, if_neg q3])
theorem ra_153 (hk : am_kd E (d, 0) = some (6, 138)) (hq : ra_q f Y) (hY : av_Y Y) (hw : 1 ≤ w ∧ w ≤ 30) {u2 u3 : Option am_V} : ra_to E M d f (some (am_I (am_sm (am_oa (ay_rain Y w)) (Y 0 7).toNat))) (ay_rain Y w) (am_den 153 (0, [some (am_A (d, 0)), some (am_I w), u2, u3], [], E, ar_s M d f)) := by
  rw [am_B153_0]
  refine ra_153l hk hY hw (Y 0 8).toNat 0 f u3 (Nat.zero_add _) ?_
  have e : am_rg Y 1 0 ((0 : Nat) : Int) (ay_rd Y w) = Y := am_rg_nil (by omega)
  rw [e]
  exact hq
end REF9
