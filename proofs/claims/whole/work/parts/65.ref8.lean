/-! ===== the reference: burning, drawing, taking, joining, covering ===== -/
theorem ra_ww {x : Int} : am_w (am_w x) = am_w x := by
  unfold am_w
  exact Int.bmod_bmod
def av_h (Y : Nat → Int → Int) : Prop := am_w (Y 0 12) = Y 0 12 ∧ am_w (Y 0 13) = Y 0 13
theorem av_h_cg {Y Z : Nat → Int → Int} (h : av_h Y) (a : Z 0 12 = Y 0 12) (b : Z 0 13 = Y 0 13) : av_h Z := by
  unfold av_h
  rw [a, b]
  exact h
theorem av_hburn {Y : Nat → Int → Int} {p : Int} (h : av_h Y) : av_h (ay_burn Y p) := by
  have e : ∀ j, j ≠ 11 → ay_burn Y p 0 j = ay_bn0 Y p 0 j := fun j hj => by
    unfold ay_burn
    rw [ay_rmv_fr (ay_out0 hj) (by decide) (by decide)]
  have e1 : ∀ j, j ≠ 9 → ay_bn1 Y p 0 j = Y 0 j := fun j hj => ay_uy_ne (Or.inr hj)
  unfold av_h
  rw [e 12 (by decide), e 13 (by decide)]
  unfold ay_bn0 ay_bn2
  split
  · rw [ay_uy_eq, ay_uy_ne (Or.inr (by decide)), ra_ww, e1 13 (by decide)]
    exact ⟨rfl, h.2⟩
  · rw [ay_uy_eq, ay_uy_ne (Or.inr (by decide)), ra_ww, e1 12 (by decide)]
    exact ⟨h.1, rfl⟩
theorem av_hnts : ∀ (n : Nat) {Y : Nat → Int → Int}, av_h Y → av_h (ay_nts n Y) := by
  intro n
  induction n with
  | zero => intro Y h; exact h
  | succ n ih =>
    intro Y h
    refine ih ?_
    unfold ay_nt1
    split
    · exact av_h_cg h (ay_uy_ne (Or.inr (by decide))) (ay_uy_ne (Or.inr (by decide)))
    · exact av_hburn h
theorem av_hob {Y : Nat → Int → Int} {k a c : Int} (h : av_h Y) : av_h (ay_ob Y k a c) := by
  unfold ay_ob
  by_cases q : ay_can Y k a c = 0
  · rw [if_pos q]
    exact h
  rw [if_neg q]
  unfold ay_act
  by_cases h1 : k = 112
  · rw [if_pos h1]
    exact av_h_cg h (ay_uy_ne (Or.inr (by decide))) (ay_uy_ne (Or.inr (by decide)))
  rw [if_neg h1]
  by_cases h2 : k = 108
  · rw [if_pos h2]
    exact av_h_cg h (ay_lg_0 (by decide) (by decide)) (ay_lg_0 (by decide) (by decide))
  rw [if_neg h2]
  by_cases h3 : k = 100
  · rw [if_pos h3]
    exact av_hburn h
  rw [if_neg h3]
  by_cases h4 : k = 107
  · rw [if_pos h4]
    exact av_h_cg h (ay_take_0 (by decide) (by decide)) (ay_take_0 (by decide) (by decide))
  rw [if_neg h4]
  by_cases h5 : k = 106
  · rw [if_pos h5]
    exact av_h_cg h (ay_jp_0 (by decide)) (ay_jp_0 (by decide))
  rw [if_neg h5]
  by_cases h6 : k = 99
  · rw [if_pos h6]
    exact av_h_cg h (ay_pt_ne (Or.inl (by decide))) (ay_pt_ne (Or.inl (by decide)))
  rw [if_neg h6]
  by_cases h7 : k = 109
  · rw [if_pos h7]
    exact av_h_cg h (ay_mend_0 (by decide)) (ay_mend_0 (by decide))
  rw [if_neg h7]
  by_cases h8 : k = 119
  · rw [if_pos h8]
    exact av_h_cg h (show ay_wind Y a 0 12 = Y 0 12 from ay_rg_ne (by decide)) (show ay_wind Y a 0 13 = Y 0 13 from ay_rg_ne (by decide))
  rw [if_neg h8]
  by_cases h9 : k = 114
  · rw [if_pos h9]
    exact av_h_cg h (show ay_rain Y a 0 12 = Y 0 12 from ay_rg_ne (by decide)) (show ay_rain Y a 0 13 = Y 0 13 from ay_rg_ne (by decide))
  rw [if_neg h9]
  exact av_hnts _ h
theorem ra_snoc {Y : Nat → Int → Int} {c : Nat} {i : Int} {g : Int → Int} (h : 0 ≤ i) : am_uy (am_rg Y c 0 i g) c i (g i) = am_rg Y c 0 (i + 1) g := by
  funext c' j
  rw [ay_uy_x]
  unfold am_rg
  by_cases a : c' = c ∧ j = i
  · rw [if_pos a, if_pos ⟨a.1, by omega, by omega⟩, a.2]
  · rw [if_neg a]
    by_cases b : c' = c ∧ 0 ≤ j ∧ j < i
    · rw [if_pos b, if_pos ⟨b.1, b.2.1, by omega⟩]
    · rw [if_neg b, if_neg (fun z => b ⟨z.1, z.2.1, by have : ¬ j = i := fun e => a ⟨z.1, e⟩; omega⟩)]
section REF8
variable {E : am_E} {M : am_M} {d : Nat} {Y : Nat → Int → Int} {f : Int → Int} {p q l m w v : Int}
theorem ra_147 (hk : am_kd E (d, 0) = some (6, 138)) (hq : ra_q f Y) (hY : av_Y Y) (hh : av_h Y) (ht : am_gt (Y 6) 4 p ≠ -1) {u1 u2 : Option am_V} : ra_to E M d f none (ay_burn Y p) (am_den 147 (0, [some (am_A (d, 0)), some (am_I p), u1, u2], [], E, ar_s M d f)) := by
  obtain ⟨t1, t2, t3, t4⟩ := av_top_in hY ht
  have hp7 := (ra_lv hY.1 t2.1 t2.2 (by rw [t3]; omega))
  rw [t3] at hp7
  have e6 : am_gt (Y 6) 4 p = Y 6 p := at_gt (by omega)
  have ed : ay_td Y p = Y 1 (Y 6 p) := by
    unfold ay_td
    rw [e6, at_gt (by omega)]
  obtain ⟨g, e, hqg, h8g⟩ := ra_143 (M := M) (d := d) (f := f) (l := Y 6 p) hk hq hY t2.1 t2.2 (by rw [t3]; omega) (v2 := none) (v3 := none) (v4 := none) (v5 := none)
  have rm0 : ∀ j, j ≠ 11 → am_rmv Y (Y 6 p) 0 j = Y 0 j := fun j hj => ay_rmv_fr (ay_out0 hj) (by decide) (by decide)
  have g2 : g 2 = Y 0 9 := by rw [hqg.1.2.2.1, rm0 9 (by decide)]
  have g5 : g 5 = Y 0 12 := by rw [hqg.1.2.2.2.2.2.1, rm0 12 (by decide)]
  have g6 : g 6 = Y 0 13 := by rw [hqg.1.2.2.2.2.2.2.1, rm0 13 (by decide)]
  have g9 : g 9 = Y 0 16 := by rw [hqg.1.2.2.2.2.2.2.2.2, rm0 16 (by decide)]
  have eb0 : ay_bn0 Y p 6 = Y 6 := by
    funext x
    exact ay_bn0_fr (Or.inl (by decide))
  have eb : ay_burn Y p = am_rmv (ay_bn0 Y p) (Y 6 p) := by
    unfold ay_burn
    rw [eb0, e6]
  rw [am_B147_0, ar_125 hk t1, am_bd_v, ar_s_at, (hq.2.1 p t1.1 hp7.2.2).1]
  simp only [Nat.reduceAdd]
  rw [am_B147_5, ra_123 hk t2 (by omega), am_bd_v, (hq.2.2.1 (Y 6 p) t2.1 hp7.1).1]
  simp only [Nat.reduceAdd]
  rw [am_B147_12, e, am_bd_u]
  simp only [Nat.reduceAdd]
  have h1 : ra_q (ar_u g 2 (am_w (Y 0 9 + 1))) (am_uy (am_rmv Y (Y 6 p)) 0 9 (am_w (Y 0 9 + 1))) := ra_us2 hqg
  have a9 : ar_u g 2 (am_w (Y 0 9 + 1)) 9 = Y 0 16 := by rw [ar_u_ne (by decide), g9]
  have a5 : ar_u g 2 (am_w (Y 0 9 + 1)) 5 = Y 0 12 := by rw [ar_u_ne (by decide), g5]
  rw [am_B147_18 hk (by omega) (by omega), ar_s_at, g2, ar_up, am_B147_25 hk (by omega) (by omega), ar_s_at, a9, a5]
  by_cases q1 : Y 0 16 < Y 1 (Y 6 p)
  · have eb2 : ay_bn0 Y p = am_uy (am_uy Y 0 9 (am_w (Y 0 9 + 1))) 0 13 (am_w (Y 0 13 + 1)) := by
      unfold ay_bn0 ay_bn2 ay_bn1
      rw [ed, if_neg (by rw [ay_uy_ne (Or.inr (by decide))]; omega), ay_uy_ne (Or.inr (by decide))]
    have b9 : ar_u (ar_u g 2 (am_w (Y 0 9 + 1))) 5 (am_w (Y 0 12 + 0)) 9 = Y 0 16 := by rw [ar_u_ne (by decide), a9]
    have b6 : ar_u (ar_u g 2 (am_w (Y 0 9 + 1))) 5 (am_w (Y 0 12 + 0)) 6 = Y 0 13 := by rw [ar_u_ne (by decide), ar_u_ne (by decide), g6]
    rw [if_pos q1, am_B147_44, am_B147_45 hk (by omega), ar_up, am_B147_47 hk (by omega) (by omega), ar_s_at, b9, b6, if_pos q1, am_B147_64, am_B147_65 hk (by omega), ar_up, am_B147_67]
    refine ⟨_, rfl, ?_, by rw [ar_u_ne (by decide), ar_u_ne (by decide), ar_u_ne (by decide), h8g]⟩
    rw [eb, eb2, ra_rmvs (by decide), ra_rmvs (by decide)]
    have h2 := ra_us6 (v := am_w (Y 0 13 + 1)) (ra_us5 (v := Y 0 12) h1)
    rw [Int.add_zero, hh.1]
    have es : am_uy (am_uy (am_rmv Y (Y 6 p)) 0 9 (am_w (Y 0 9 + 1))) 0 12 (Y 0 12) = am_uy (am_rmv Y (Y 6 p)) 0 9 (am_w (Y 0 9 + 1)) := by
      have := ay_uy_self (Y := am_uy (am_rmv Y (Y 6 p)) 0 9 (am_w (Y 0 9 + 1))) (c := 0) (i := 12)
      rw [ay_uy_ne (Or.inr (by decide)), rm0 12 (by decide)] at this
      exact this
    rw [es] at h2
    exact h2
  · have eb2 : ay_bn0 Y p = am_uy (am_uy Y 0 9 (am_w (Y 0 9 + 1))) 0 12 (am_w (Y 0 12 + am_w (100 - Y 1 (Y 6 p)))) := by
      unfold ay_bn0 ay_bn2 ay_bn1
      rw [ed, if_pos (by rw [ay_uy_ne (Or.inr (by decide))]; omega), ay_uy_ne (Or.inr (by decide))]
    have b9 : ar_u (ar_u g 2 (am_w (Y 0 9 + 1))) 5 (am_w (Y 0 12 + am_w (100 - Y 1 (Y 6 p)))) 9 = Y 0 16 := by rw [ar_u_ne (by decide), a9]
    have b6 : ar_u (ar_u g 2 (am_w (Y 0 9 + 1))) 5 (am_w (Y 0 12 + am_w (100 - Y 1 (Y 6 p)))) 6 = Y 0 13 := by rw [ar_u_ne (by decide), ar_u_ne (by decide), g6]
    rw [if_neg q1, am_B147_37, am_B147_45 hk (by omega), ar_up, am_B147_47 hk (by omega) (by omega), ar_s_at, b9, b6, if_neg q1, am_B147_60, am_B147_65 hk (by omega), ar_up, am_B147_67]
    refine ⟨_, rfl, ?_, by rw [ar_u_ne (by decide), ar_u_ne (by decide), ar_u_ne (by decide), h8g]⟩
    rw [eb, eb2, ra_rmvs (by decide), ra_rmvs (by decide)]
    have h2 := ra_us6 (v := Y 0 13) (ra_us5 (v := am_w (Y 0 12 + am_w (100 - Y 1 (Y 6 p)))) h1)
    rw [Int.add_zero, hh.2]
    have es : am_uy (am_uy (am_uy (am_rmv Y (Y 6 p)) 0 9 (am_w (Y 0 9 + 1))) 0 12 (am_w (Y 0 12 + am_w (100 - Y 1 (Y 6 p))))) 0 13 (Y 0 13) = am_uy (am_uy (am_rmv Y (Y 6 p)) 0 9 (am_w (Y 0 9 + 1))) 0 12 (am_w (Y 0 12 + am_w (100 - Y 1 (Y 6 p)))) := by
      have := ay_uy_self (Y := am_uy (am_uy (am_rmv Y (Y 6 p)) 0 9 (am_w (Y 0 9 + 1))) 0 12 (am_w (Y 0 12 + am_w (100 - Y 1 (Y 6 p))))) (c := 0) (i := 13)
      rw [ay_uy_ne (Or.inr (by decide)), ay_uy_ne (Or.inr (by decide)), rm0 13 (by decide)] at this
      exact this
    rw [es] at h2
    exact h2
theorem ra_146s (hk : am_kd E (d, 0) = some (6, 138)) (hq : ra_q f Y) (hY : av_Y Y) (h0 : 0 ≤ p) (h1 : p < Y 0 7) : am_den 146 (0, [some (am_A (d, 0)), some (am_I p)], [], E, ar_s M d f) = some (.inl (some (am_I (ay_why Y p))), E, ar_s M d f) := ra_146 hk (by rw [ar_s_at]; exact hq) hY h0 h1
theorem ra_148a (hk : am_kd E (d, 0) = some (6, 138)) (hq : ra_q f Y) (hY : av_Y Y) (hh : av_h Y) (h0 : 0 ≤ p) (h1 : p < Y 0 7) (hw : ay_why Y p = 0) {u : Option am_V} : ra_to E M d f (some (am_I 0)) (ay_burn Y p) (am_den 148 (0, [some (am_A (d, 0)), some (am_I p), u], [], E, ar_s M d f)) := by
  obtain ⟨g, e, hqg, h8g⟩ := ra_147 (M := M) (u1 := none) (u2 := none) hk hq hY hh (av_why0 hw).1
  refine ⟨g, ?_, hqg, h8g⟩
  rw [am_B148_0, ra_146s hk hq hY h0 h1, am_bd_v, hw]
  simp only [Nat.reduceAdd]
  rw [am_B148_5, if_neg (by decide), am_B148_10, e, am_bd_u]
  simp only [Nat.reduceAdd]
  rw [am_B148_15, am_B148_26]
theorem ra_148b (hk : am_kd E (d, 0) = some (6, 138)) (hq : ra_q f Y) (hY : av_Y Y) (h0 : 0 ≤ p) (h1 : p < Y 0 7) (hw : ay_why Y p ≠ 0) {u : Option am_V} : am_den 148 (0, [some (am_A (d, 0)), some (am_I p), u], [], E, ar_s M d f) = some (.inl (some (am_I (ay_why Y p))), E, ar_s M d (ar_u f 8 (am_w (f 8 + 1)))) := by
  rw [am_B148_0, ra_146s hk hq hY h0 h1, am_bd_v]
  simp only [Nat.reduceAdd]
  rw [am_B148_5, if_pos hw, am_B148_18 hk (by omega) (by omega), ar_s_at, ar_up, am_B148_26]
theorem ra_149 (hk : am_kd E (d, 0) = some (6, 138)) (hq : ra_q f Y) (hY : av_Y Y) (hl : am_gt (Y 2) 24 l ≠ -1) {u : Option am_V} : ra_to E M d f (some (am_I (am_w (ay_take Y l 0 11 - Y 0 11)))) (ay_take Y l) (am_den 149 (0, [some (am_A (d, 0)), some (am_I l), u], [], E, ar_s M d f)) := by
  have h0 : 0 ≤ l ∧ l < 24 := by
    refine Decidable.byContradiction (fun q => ?_)
    unfold am_gt at hl
    rw [if_neg (by omega)] at hl
    exact hl rfl
  rw [at_gt (by omega)] at hl
  obtain ⟨g, e, hqg, h8g⟩ := ra_143 (M := M) (d := d) (f := f) (l := l) hk hq hY h0.1 h0.2 hl (v2 := none) (v3 := none) (v4 := none) (v5 := none)
  have et : ay_take Y l = am_uy (am_rmv Y l) 0 10 (am_w (Y 0 10 + 1)) := by
    unfold ay_take
    rw [ra_rmvs (by decide)]
  have g3 : g 3 = Y 0 10 := by rw [hqg.1.2.2.2.1, ay_rmv_fr (ay_out0 (by decide)) (by decide) (by decide)]
  have g4 : ar_u g 3 (am_w (Y 0 10 + 1)) 4 = ay_take Y l 0 11 := by rw [ar_u_ne (by decide), hqg.1.2.2.2.2.1, et, ay_uy_ne (Or.inr (by decide))]
  refine ⟨ar_u g 3 (am_w (Y 0 10 + 1)), ?_, ?_, by rw [ar_u_ne (by decide), h8g]⟩
  · rw [am_B149_0 hk (by omega), e, am_bd_u, ar_s_at, hq.1.2.2.2.2.1]
    simp only [Nat.reduceAdd]
    rw [am_B149_9 hk (by omega) (by omega), ar_s_at, g3, ar_up, am_B149_16 hk (by omega), ar_s_at, g4]
  · rw [et]
    exact ra_us3 hqg
theorem ra_150l (hk : am_kd E (d, 0) = some (6, 138)) {Y0 : Nat → Int → Int} {z0 : Int} (h7 : Y0 0 7 ≤ 4) (h8 : 0 ≤ Y0 0 8 ∧ Y0 0 8 ≤ 24) (hp : p ≠ -1) (hq1 : q ≠ -1) : ∀ (m i : Nat) (g : Int → Int), i + m = (Y0 0 8).toNat → ra_q g (am_rg Y0 2 0 i (ay_mv Y0 p q)) → ra_to E M d g (some (am_I (am_w (Y0 0 11 - z0)))) (am_rg Y0 2 0 (Y0 0 8) (ay_mv Y0 p q)) (am_den 150 (38, [some (am_A (d, 0)), some (am_I p), some (am_I q), some (am_I z0), some (am_I i)], [], E, ar_s M d g)) := by
  have s0 : ∀ i j, am_rg Y0 2 0 i (ay_mv Y0 p q) 0 j = Y0 0 j := fun i j => ay_rg_ne (by decide)
  intro m
  induction m with
  | zero =>
    intro i g h hg
    have e : (i : Int) = Y0 0 8 := by omega
    refine ⟨g, ?_, by rw [← e]; exact hg, rfl⟩
    rw [am_B150_38 hk (by omega), ar_s_at, hg.1.2.1, s0, if_pos (by omega), am_B150_80 hk (by omega), ar_s_at, hg.1.2.2.2.2.1, s0]
  | succ m ih =>
    intro i g h hg
    have w1 : am_w ((i : Int) + 1) = ((i + 1 : Nat) : Int) := by rw [am_wi (by omega) (by omega)]; omega
    have c1 := (hg.2.2.1 i (by omega) (by rw [s0]; omega)).2
    have r2 : am_rg Y0 2 0 i (ay_mv Y0 p q) 2 i = Y0 2 i := by
      unfold am_rg
      rw [if_neg (by omega)]
    rw [r2] at c1
    have fin : ∀ v, v = ay_mv Y0 p q i → ra_to E M d g (some (am_I (am_w (Y0 0 11 - z0)))) (am_rg Y0 2 0 (Y0 0 8) (ay_mv Y0 p q)) (am_den 150 (71, [some (am_A (d, 0)), some (am_I p), some (am_I q), some (am_I z0), some (am_I i)], [am_I v, am_I 1, am_I i, am_A (d, 0)], E, ar_s M d g)) := by
      intro v hv
      rw [am_B150_71, ra_124 hk (by omega) (by omega), am_bd_u]
      simp only [Nat.reduceAdd]
      rw [am_B150_74, w1]
      have hn := ra_uhm (v := v) (l := (i : Int)) hg (by rw [s0]; exact h7) (by omega) (by
        rw [r2, hv]
        unfold ay_mv
        by_cases e : Y0 2 i = q
        · exact Or.inr (by rw [e]; exact hq1)
        · rw [if_neg e]
          by_cases e2 : Y0 2 i = -1
          · exact Or.inl e2
          · exact Or.inr e2)
      rw [hv, ra_snoc (by omega)] at hn
      rw [hv]
      refine ra_to_tr ?_ (ih (i + 1) _ (by omega) hn)
      exact ar_u_ne (by omega)
    rw [am_B150_38 hk (by omega), ar_s_at, hg.1.2.1, s0, if_neg (by omega), am_B150_46, ar_133 hk (by omega), am_bd_v, ar_s_at, c1]
    simp only [Nat.reduceAdd]
    rw [am_B150_57]
    by_cases e : Y0 2 i = q
    · rw [if_neg (show ¬ am_b (Y0 2 i = q) = 0 by rw [am_b_0]; exact fun z => z e), am_B150_60]
      exact fin p (by rw [ay_mv, if_pos e])
    · rw [if_pos (show am_b (Y0 2 i = q) = 0 by rw [am_b_0]; exact e), am_B150_64, ra_123 hk (by omega) (by omega), am_bd_v, c1]
      simp only [Nat.reduceAdd]
      exact fin _ (by rw [ay_mv, if_neg e])
theorem ra_150 (hk : am_kd E (d, 0) = some (6, 138)) (hq : ra_q f Y) (hY : av_Y Y) (hp : 0 ≤ p ∧ p < Y 0 7) (hq' : 0 ≤ q ∧ q < Y 0 7) (hpq : p ≠ q) {u1 u2 : Option am_V} : ra_to E M d f (some (am_I (am_w (ay_jp Y p q 0 11 - Y 0 11)))) (ay_jp Y p q) (am_den 150 (0, [some (am_A (d, 0)), some (am_I p), some (am_I q), u1, u2], [], E, ar_s M d f)) := by
  obtain ⟨hb, hn, T, ht, ha⟩ := hY
  obtain ⟨p', ep⟩ : ∃ r : Nat, p = (r : Int) := ⟨p.toNat, by omega⟩
  obtain ⟨q', eq⟩ : ∃ r : Nat, q = (r : Int) := ⟨q.toNat, by omega⟩
  have hp4 : p' < 4 := by have := hb.1; omega
  have hq4 : q' < 4 := by have := hb.1; omega
  subst ep
  subst eq
  have hne : p' ≠ q' := fun e => hpq (by rw [e])
  have onp : ∀ r, r < 4 → ra_on Y (T r) := by
    intro r hr x hx
    have e := ht.2.2 r hr x hx
    have hi := av_in ht hr hx
    have := ra_lv hb hi.1 hi.2 (by rw [e]; omega)
    exact ⟨this.1, by rw [e]; omega⟩
  have hn2 : ∀ x, at_ct (T p') x + at_ct (T q') x ≤ 1 := by
    intro x
    have h1 := ht.2.1 p' hp4 x
    have h2 := ht.2.1 q' hq4 x
    have h3 := av_dj ht hp4 hq4 hne x
    omega
  obtain ⟨R, eR⟩ : ∃ R, am_jo Y (Y 6 p') (Y 6 q') = R := ⟨_, rfl⟩
  obtain ⟨g, eg, hqg, h8g⟩ := ra_141 (M := M) (Y := Y) (d := d) hk hq hb.1.2 hb.2.2.1 (at_is_rt (ht.1 p' hp4)) (at_is_rt (ht.1 q' hq4)) (onp p' hp4) (onp q' hq4) hn2 (u3 := none) (u4 := none) (u5 := none) (u6 := none) (u7 := none) (u8 := none) (u9 := none)
  rw [eR] at eg hqg
  have Rf : ∀ c j, ay_out c j → R.1 c j = Y c j := fun c j h => by rw [← eR, ay_jl_fr h]
  have e0 : ay_jp0 Y p' q' = am_uy (am_uy R.1 6 p' R.2) 6 q' (-1) := by
    unfold ay_jp0
    rw [at_gt (by omega), at_gt (by omega), eR, ay_pt_in (by omega), ay_pt_in (by omega)]
  have h7 : R.1 0 7 ≤ 4 := by rw [Rf 0 7 (ay_out0 (by decide))]; exact hb.1.2
  have hq2 : ra_q (ar_u (ar_u g (10 + 2 * (p' : Int)) R.2) (10 + 2 * (q' : Int)) (-1)) (ay_jp0 Y p' q') := by
    rw [e0]
    exact ra_utp (ra_utp hqg h7 (by omega)) (by rw [ay_uy_ne (Or.inl (by decide))]; exact h7) (by omega)
  have s0 : ∀ j, ay_jp0 Y p' q' 0 j = R.1 0 j := fun j => by rw [e0, ay_uy_ne (Or.inl (by decide)), ay_uy_ne (Or.inl (by decide))]
  have s2 : ∀ x, ay_jp0 Y p' q' 2 x = Y 2 x := fun x => by rw [e0, ay_uy_ne (Or.inl (by decide)), ay_uy_ne (Or.inl (by decide)), Rf 2 x ⟨by decide, by decide, by decide, Or.inl (by decide)⟩]
  have s8 : ay_jp0 Y p' q' 0 8 = Y 0 8 := by rw [s0, Rf 0 8 (ay_out0 (by decide))]
  have s11 : ay_jp Y p' q' 0 11 = ay_jp0 Y p' q' 0 11 := ay_rg_ne (by decide)
  have ej : ay_jp Y p' q' = am_rg (ay_jp0 Y p' q') 2 0 (ay_jp0 Y p' q' 0 8) (ay_mv (ay_jp0 Y p' q') p' q') := by
    funext c x
    unfold ay_jp am_rg
    rw [s8]
    have h8 := hb.2.1
    by_cases a : c = 2 ∧ 0 ≤ x ∧ x < Y 0 8
    · rw [if_pos ⟨a.1, a.2.1, by omega⟩, if_pos a]
    · rw [if_neg a]
      by_cases b : c = 2 ∧ 0 ≤ x ∧ x < 24
      · rw [if_pos b, ay_mv, s2]
        rcases hb.2.2.2.1 x b.2.1 b.2.2 with w | w
        · rw [if_neg (by rw [w.1]; omega), b.1, s2]
        · exact absurd ⟨b.1, b.2.1, w.2⟩ a
      · rw [if_neg b]
  have hl := ra_150l (M := M) (d := d) (p := p') (q := q') (Y0 := ay_jp0 Y p' q') (z0 := Y 0 11) hk (by rw [s0]; exact h7) (by rw [s8]; exact hb.2.1) (by omega) (by omega) (ay_jp0 Y p' q' 0 8).toNat 0 _ (Nat.zero_add _) (by
    have e : am_rg (ay_jp0 Y p' q') 2 0 ((0 : Nat) : Int) (ay_mv (ay_jp0 Y p' q') p' q') = ay_jp0 Y p' q' := am_rg_nil (by omega)
    rw [e]
    exact hq2)
  rw [← ej] at hl
  rw [am_B150_0 hk (by omega), ar_125 hk (by omega), am_bd_v, ar_s_at, hq.1.2.2.2.2.1, (hq.2.1 p' (by omega) hp.2).1, ra_pw (by omega)]
  simp only [Nat.reduceAdd]
  rw [am_B150_17, ar_125 hk (by omega), am_bd_v, ar_s_at, (hq.2.1 q' (by omega) hq'.2).1]
  simp only [Nat.reduceAdd]
  rw [am_B150_22, eg, am_bd_v]
  simp only [Nat.reduceAdd]
  rw [am_B150_25 hk (by omega), ar_up, am_B150_26 hk (by rw [ra_pw (by omega)]; omega), ra_pw (by omega), ar_up, am_B150_35, s11]
  refine ra_to_tr ?_ hl
  rw [ar_u_ne (by omega), ar_u_ne (by omega), h8g]
theorem ra_151 (hk : am_kd E (d, 0) = some (6, 138)) (hq : ra_q f Y) (hY : av_Y Y) (hp : 0 ≤ p ∧ p < Y 0 7) {u : Option am_V} : ra_to E M d f (some (am_I (am_b (am_gt (Y 7) 4 p = 1)))) (am_pt Y 7 4 p (if w = 0 then 0 else 1)) (am_den 151 (0, [some (am_A (d, 0)), some (am_I p), some (am_I w), u], [], E, ar_s M d f)) := by
  have h7 := hY.1.1
  have hp4 : 0 ≤ p ∧ p < 4 := by omega
  have hv := (hY.1.2.2.2.2 p hp4.1 hp4.2).1
  have ev : Y 7 p = am_b (am_gt (Y 7) 4 p = 1) := by
    rw [at_gt (by omega)]
    unfold am_b
    split <;> omega
  have fin : ∀ v, ra_to E M d f (some (am_I (am_b (am_gt (Y 7) 4 p = 1)))) (am_pt Y 7 4 p v) (am_den 151 (29, [some (am_A (d, 0)), some (am_I p), some (am_I w), some (am_I (Y 7 p))], [am_I v, am_I (11 + 2 * p), am_A (d, 0)], E, ar_s M d f)) := by
    intro v
    refine ⟨ar_u f (11 + 2 * p) v, ?_, ?_, by rw [ar_u_ne (by omega)]⟩
    · rw [am_B151_29 hk (by omega), ar_up, am_B151_30, ← ev]
    · rw [ay_pt_in (by omega)]
      exact ra_ucv hq h7.2 hp4
  rw [am_B151_0 hk (by rw [ra_pw1 hp4]; omega), ra_pw1 hp4, ar_s_at, (hq.2.1 p hp4.1 hp.2).2]
  by_cases h : w = 0
  · rw [if_pos h, if_pos h, am_B151_28]
    exact fin 0
  · rw [if_neg h, if_neg h, am_B151_24]
    exact fin 1
end REF8
