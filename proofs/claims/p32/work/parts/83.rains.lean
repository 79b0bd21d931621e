/-! ===== rains: the strongest rain that does no harm ===== -/
def l2 (K : Nat) (B : Int) (E : am_E) (M : am_M) (X : Option am_Rs) (v : Int) : Prop := ∃ S', c2 K E M X v S' S' ∧ si B S' ∧ pi S'
section RAI
variable {E : am_E} {M S S1 T1 : am_M} {B : Int}
theorem l2_bd {k pc pc' J K L : Nat} {X : Option am_Rs} {v v' w : Int} {ls : List (Option am_V)} {rest : List am_V} {S1' T1' : am_M} (h : c2 J E M X v S1 T1) (hp : pc + 3 = pc') (hv : v = v') (hs : S1 = S1') (ht : T1 = T1') (hJ : J + K ≤ L) (hc : ∀ (E1 : am_E) (M1 : am_M), wl E1 M1 → st M1 = S1' → st (rl_M M1) = T1' → M1 45 = M 45 → l2 K B E1 M1 (am_den k (pc', ls, am_I v' :: rest, E1, M1)) w) : l2 L B E M (am_bd k pc ls rest X) w := by
  obtain ⟨n, N, hn, hX, hS, hT, hb, hW⟩ := h
  obtain ⟨S', ⟨n2, N2, hn2, hX2, hS2, hT2, hb2, hW2⟩, h3⟩ := hc _ N hW (hS.trans hs) (hT.trans ht) hb
  subst hv
  subst hp
  refine ⟨S', ?_, h3⟩
  rw [hX, am_bd_v, hX2]
  rw [xn_xn] at hW2 ⊢
  exact ⟨n + n2, N2, by omega, rfl, hS2, hT2, by rw [hb2, hb], hW2⟩
theorem l2_b1 {k pc pc' K : Nat} {X : Option am_Rs} {v v' w : Int} {ls : List (Option am_V)} {rest : List am_V} {S1' T1' : am_M} (h : c2 1 E M X v S1 T1) (hp : pc + 3 = pc') (hv : v = v') (hs : S1 = S1') (ht : T1 = T1') (hc : ∀ (E1 : am_E) (M1 : am_M), wl E1 M1 → st M1 = S1' → st (rl_M M1) = T1' → M1 45 = M 45 → l2 K B E1 M1 (am_den k (pc', ls, am_I v' :: rest, E1, M1)) w) : l2 (K + 1) B E M (am_bd k pc ls rest X) w := l2_bd h hp hv hs ht (by omega) hc
theorem l2_le {J K : Nat} {C : Int} {X : Option am_Rs} {v : Int} (h : l2 J B E M X v) (hJ : J ≤ K) (hB : B ≤ C) : l2 K C E M X v := by
  obtain ⟨S', h1, h2, h3⟩ := h
  exact ⟨S', c2_le h1 hJ, si_le h2 hB, h3⟩
theorem l2_ret {K : Nat} {v : Int} (hw : wl E M) (hS : st M = S) (hT : st (rl_M M) = S) (hi : si B S) (hp : pi S) : l2 K B E M (some (.inl (some (am_I v)), E, M)) v := ⟨S, c2_ret hw hS hT, hi, hp⟩
theorem th_144 {v : Int} (hv : -9999001 < v) : am_den 144 (0, [some (am_I v)], [], E, M) = some (.inl (some (am_I 0)), E, M) := by
  rw [am_B144_0, if_neg (by omega), am_B144_6, if_neg (by omega), am_B144_12, if_pos (by omega), am_B144_22, am_B144_23 (Or.inl rfl)]
theorem th_f_i {V : Int → Int} : ∀ n : Nat, (0 ≤ th_f V n ∧ th_f V n ≤ n) ∧ (0 < th_f V n → V (th_f V n) = 0) ∧ ∀ v : Int, th_f V n < v → v ≤ n → V v ≠ 0 := by
  intro n
  induction n with
  | zero => exact ⟨⟨Int.le_refl _, Int.le_refl _⟩, fun h => absurd h (by rw [th_f]; decide), fun v h1 h2 => by rw [th_f] at h1; omega⟩
  | succ n ih =>
    rw [th_f]
    by_cases q : V ((n + 1 : Nat) : Int) = 0
    · rw [if_pos q]
      exact ⟨by omega, fun _ => q, fun v h1 h2 => by omega⟩
    · rw [if_neg q]
      obtain ⟨a, b, c⟩ := ih
      refine ⟨by omega, b, fun v h1 h2 => ?_⟩
      by_cases e : v = ((n + 1 : Nat) : Int)
      · rw [e]; exact q
      · exact c v h1 (by omega)
theorem sm_ge {f : Int → Int} (h : ∀ x, 0 ≤ f x) : ∀ n : Nat, 0 ≤ am_sm f n := by
  intro n
  induction n with
  | zero => exact Int.le_refl _
  | succ n ih =>
    have := h n
    rw [am_sm]
    omega
theorem oa_b {Y : Nat → Int → Int} {p : Int} : 0 ≤ am_oa Y p ∧ am_oa Y p ≤ 24 := am_sm_le (f := fun l => am_b (am_of Y p l)) (k := 1) (n := 24) (fun _ _ _ => am_b_le)
theorem hm_i {Y : Nat → Int → Int} : (hm Y = -1 ↔ 0 < am_sm (am_oa Y) (Y 0 7).toNat) ∧ -1 ≤ hm Y ∧ hm Y ≤ 30 := by
  have h := (th_f_i (V := th_ok Y) 30).1
  unfold hm
  by_cases q : 0 < am_sm (am_oa Y) (Y 0 7).toNat
  · rw [if_pos q]
    exact ⟨⟨fun _ => q, fun _ => rfl⟩, by decide, by decide⟩
  · rw [if_neg q]
    exact ⟨⟨fun z => by omega, fun z => absurd z q⟩, by omega, by omega⟩
/-- two undos behind an action of both -/
theorem ud_i (hi : si B S) (hp : pi S) (hy : sy S) {Y : Nat → Int → Int} (h1 : si (B + 576) (sd S Y)) (h2 : pi (sd S Y)) (hy1 : sy (sd S Y)) : si (B + 1152) (su (sd S Y)) ∧ pi (su (sd S Y)) ∧ su (sd S Y) 0 = S 0 ∧ -9999001 < sv_undo (sd S Y) := by
  have hm := hi.2.1
  have hoc := iv_oc hm
  have hn : nw (sd S Y) = S 0 := by
    unfold nw
    rw [sd_31.2, show ak_c S + 1 - 1 = ak_c S by omega, sd_new hy]
  have h3 := iv_undo h1 h2 hy1 (Or.inr (by rw [hn]; exact hp.1))
  refine ⟨si_le h3.1 (by omega), h3.2, ud_0 hm hy hy1, ?_⟩
  unfold sv_undo
  rw [sd_31.2, if_neg (by omega)]
  omega
theorem rn_l {Y : Nat → Int → Int} {x3 x4 : Int} : ∀ (m : Nat) (v : Int) (B : Int) (S : am_M) (E : am_E) (M : am_M) (u7 : Option am_V), hm Y ≤ v → (hm Y = -1 → v < 0) → 31 ≤ v + m → v ≤ 31 → si B S → pi S → S 0 = Y → B + 1152 * m < 2147000000 → wl E M → st M = S → st (rl_M M) = S → l2 (6 * m + 2) (B + 1152 * m) E M (am_den 152 (79, [some (am_A (34, 0)), some (am_A (84, 0)), some (am_I (hm Y)), some (am_I x3), some (am_I x4), some (am_I 1), some (am_I v), u7], [], E, M)) 1 := by
  have hmi := hm_i (Y := Y)
  have tf := th_f_i (V := th_ok Y) 30
  have fin : ∀ (v : Int) (B : Int) (S : am_M) (E : am_E) (M : am_M) (u7 : Option am_V), si B S → pi S → S 0 = Y → wl E M → st M = S → st (rl_M M) = S → l2 2 B E M (am_den 152 (220, [some (am_A (34, 0)), some (am_A (84, 0)), some (am_I (hm Y)), some (am_I x3), some (am_I x4), some (am_I 1), some (am_I v), u7], [], E, M)) 1 := by
    intro v B S E M u7 hi hp h0 hw hS hT
    rw [am_B152_220, if_neg (by decide), am_B152_225 hw.1]
    refine l2_b1 (K := 1) (pc' := 229) (S1' := S) (T1' := S) (c2_s (ct_harmless hw hS hi) hT) rfl (show _ = hm Y by rw [h0]) rfl rfl (fun E M hw hS hT _ => ?_)
    rw [am_B152_229, if_neg (fun z => z rfl), am_B152_233, am_B152_238 (Or.inr rfl)]
    exact l2_ret hw hS hT hi hp
  intro m
  induction m with
  | zero =>
    intro v B S E M u7 h1 h1' h2 h3 hi hp h0 hB hw hS hT
    rw [am_B152_79, if_neg (by omega), am_B152_84, if_pos (by omega)]
    exact l2_le (fin v B S E M u7 hi hp h0 hw hS hT) (by omega) (by omega)
  | succ m ih =>
    intro v B S E M u7 h1 h1' h2 h3 hi hp h0 hB hw hS hT
    rw [am_B152_79]
    by_cases q0 : v < 0
    · rw [if_pos q0]
      exact l2_le (fin v B S E M u7 hi hp h0 hw hS hT) (by omega) (by omega)
    · rw [if_neg q0, am_B152_84]
      by_cases q1 : 30 < v
      · rw [if_pos q1]
        exact l2_le (fin v B S E M u7 hi hp h0 hw hS hT) (by omega) (by omega)
      · rw [if_neg q1, am_B152_91, if_neg (by decide), am_B152_96]
        -- the next strength
        have nx : ∀ (B' : Int) (S' : am_M) (E : am_E) (M : am_M) (u7 : Option am_V), B' ≤ B + 1152 → si B' S' → pi S' → S' 0 = Y → wl E M → st M = S' → st (rl_M M) = S' → l2 (6 * m + 2) (B + 1152 * (m + 1 : Nat)) E M (am_den 152 (189, [some (am_A (34, 0)), some (am_A (84, 0)), some (am_I (hm Y)), some (am_I x3), some (am_I x4), some (am_I 1), some (am_I v), u7], [], E, M)) 1 := by
          intro B' S' E M u7 hB' hi hp h0 hw hS hT
          rw [am_B152_189]
          by_cases z0 : v = 0
          · rw [if_neg (fun z => z z0), am_B152_196, am_B152_214, am_wi (by omega) (by omega)]
            exact l2_le (ih (v + 1) B' S' E M u7 (by omega) (fun z => by omega) (by omega) (by omega) hi hp h0 (by omega) hw hS hT) (by omega) (by omega)
          · rw [if_pos z0, am_B152_200, am_wi (by omega) (by omega)]
            by_cases z1 : 30 - v ≤ 3
            · rw [if_pos z1, am_B152_213, am_B152_214, am_wi (by omega) (by omega)]
              exact l2_le (ih (v + 1) B' S' E M u7 (by omega) (fun z => by omega) (by omega) (by omega) hi hp h0 (by omega) hw hS hT) (by omega) (by omega)
            · rw [if_neg z1, am_B152_209, am_B152_214, am_wi (by omega) (by omega)]
              exact l2_le (ih (v + 3) B' S' E M u7 (by omega) (fun z => by omega) (by omega) (by omega) hi hp h0 (by omega) hw hS hT) (by omega) (by omega)
        by_cases q2 : v ≤ 0
        · rw [if_pos q2]
          exact l2_le (nx B S E M u7 (by omega) hi hp h0 hw hS hT) (by omega) (by omega)
        · have hv : 1 ≤ v ∧ v ≤ 30 := by omega
          have hBB : B < 2147000000 := by omega
          have hy := sy_of hw hS
          have es : ss_rain S v 0 0 = sd S (ay_rain Y v) := by
            unfold ss_rain
            rw [if_pos hv, h0]
          have iv := iv_rain (x := v) (y := 0) (z := 0) hBB hi hp hy
          rw [es] at iv
          have ev : sv_rain (S 0) v 0 0 = th_ok Y v := by
            rw [h0]
            exact if_pos hv
          rw [if_neg q2, am_B152_101]
          refine l2_le (C := B + 1152 * (m + 1 : Nat)) (J := 6 * m + 6) (K := 6 * (m + 1) + 2) ?_ (by omega) (Int.le_refl _)
          refine l2_b1 (K := 6 * m + 5) (pc' := 111) (S1' := sd S (ay_rain Y v)) (T1' := S) (c2_s (ct_rain hw hS hi) hT) rfl ev es rfl (fun E M hw hS hT _ => ?_)
          rw [am_B152_111]
          refine l2_b1 (K := 6 * m + 4) (pc' := 123) (S1' := sd S (ay_rain Y v)) (T1' := sd S (ay_rain Y v)) (c2_q (cr_rain hw hT hi) hS) rfl ev rfl es (fun E M hw hS hT _ => ?_)
          have hy1 := sy_of hw hS
          obtain ⟨g1, g2, g3, g4⟩ := ud_i hi hp hy iv.1 iv.2 hy1
          have s152 : ∀ (E : am_E) (M : am_M), wl E M → st M = sd S (ay_rain Y v) → st (rl_M M) = sd S (ay_rain Y v) → l2 (6 * m + 4) (B + 1152 * (m + 1 : Nat)) E M (am_den 152 (152, [some (am_A (34, 0)), some (am_A (84, 0)), some (am_I (hm Y)), some (am_I x3), some (am_I x4), some (am_I 1), some (am_I v), some (am_I (th_ok Y v))], [], E, M)) 1 := by
            intro E M hw hS hT
            rw [am_B152_152]
            refine l2_b1 (K := 6 * m + 3) (pc' := 161) (S1' := su (sd S (ay_rain Y v))) (T1' := sd S (ay_rain Y v)) (c2_s (ct_undo hw hS iv.1) hT) rfl rfl rfl rfl (fun E M hw hS hT _ => ?_)
            rw [am_B152_161, th_144 g4, am_bd_v]
            simp only [Nat.reduceAdd]
            rw [am_B152_164, if_neg (by decide), am_B152_167]
            refine l2_b1 (K := 6 * m + 2) (pc' := 176) (S1' := su (sd S (ay_rain Y v))) (T1' := su (sd S (ay_rain Y v))) (c2_q (cr_undo hw hT iv.1) hS) rfl rfl rfl rfl (fun E M hw hS hT _ => ?_)
            rw [am_B152_176, th_144 g4, am_bd_v]
            simp only [Nat.reduceAdd]
            rw [am_B152_179, if_neg (by decide), am_B152_182, am_B152_187]
            exact nx (B + 1152) _ E M _ (Int.le_refl _) g1 g2 (by rw [g3, h0]) hw hS hT
          rw [am_B152_123, if_neg (fun z => z rfl), am_B152_128]
          -- is it the strongest
          have hh : hm Y = th_f (th_ok Y) 30 ∨ hm Y = -1 := by
            unfold hm
            split
            · exact Or.inr rfl
            · exact Or.inl rfl
          by_cases qv : v = hm Y
          · have z0 : th_ok Y v = 0 := by
              rcases hh with hh | hh
              · rw [qv, hh]; exact tf.2.1 (by omega)
              · omega
            rw [if_neg (fun z => z z0), am_B152_133, am_B152_138, if_neg (fun z => z qv), am_B152_144, am_B152_149, if_neg (fun z => z rfl)]
            exact s152 E M hw hS hT
          · have z0 : th_ok Y v ≠ 0 := by
              rcases hh with hh | hh
              · exact tf.2.2 v (by omega) (by omega)
              · omega
            rw [if_pos z0, am_B152_137, am_B152_138, if_pos qv, am_B152_148, am_B152_149, if_neg (fun z => z rfl)]
            exact s152 E M hw hS hT
theorem rn_s (hi : si B S) {w : Int} : ∀ (m p : Nat), (p : Int) + m = S 0 0 7 → ∀ (E : am_E) (M : am_M) (u6 u7 : Option am_V), wl E M → st M = S → st (rl_M M) = S → (∀ (E : am_E) (M : am_M) (u6 u7 : Option am_V), wl E M → st M = S → st (rl_M M) = S → l2 210 (B + 40000) E M (am_den 152 (46, [some (am_A (34, 0)), some (am_A (84, 0)), some (am_I w), some (am_I (S 0 0 7)), some (am_I (am_sm (am_oa (S 0)) (S 0 0 7).toNat)), some (am_I (S 0 0 7)), u6, u7], [], E, M)) 1) → l2 (210 + m) (B + 40000) E M (am_den 152 (20, [some (am_A (34, 0)), some (am_A (84, 0)), some (am_I w), some (am_I (S 0 0 7)), some (am_I (am_sm (am_oa (S 0)) p)), some (am_I p), u6, u7], [], E, M)) 1 := by
  have h7 := hi.1.1.1.1
  intro m
  induction m with
  | zero =>
    intro p h E M u6 u7 hw hS hT hn
    have e : p = (S 0 0 7).toNat := by omega
    have e2 : (p : Int) = S 0 0 7 := by omega
    have := hn E M u6 u7 hw hS hT
    rw [am_B152_20, if_pos (by omega), e2, e]
    exact this
  | succ m ih =>
    intro p h E M u6 u7 hw hS hT hn
    have w1 : am_w ((p : Int) + 1) = ((p + 1 : Nat) : Int) := by rw [am_wi (by omega) (by omega)]; omega
    have hs := am_sm_le (f := am_oa (S 0)) (k := 24) (n := p) (fun i a b => oa_b)
    have ho := oa_b (Y := S 0) (p := p)
    have w2 : am_w (am_sm (am_oa (S 0)) p + am_oa (S 0) p) = am_sm (am_oa (S 0)) (p + 1) := by rw [am_wi (by omega) (by omega)]; rfl
    rw [am_B152_20, if_neg (by omega), am_B152_26]
    refine l2_b1 (K := 210 + m) (pc' := 37) (S1' := S) (T1' := S) (c2_s (ct_told hw hS hi) hT) rfl (show _ = am_oa (S 0) p from (if_pos ⟨by omega, by omega⟩).trans (if_pos (by decide))) rfl rfl (fun E M hw hS hT _ => ?_)
    rw [am_B152_37, w1, w2]
    exact ih (p + 1) (by omega) E M u6 u7 hw hS hT hn
theorem rn_152 (hi : si B S) (hp : pi S) (hB : B < 2140000000) {u2 u3 u4 u5 u6 u7 : Option am_V} (hw : wl E M) (hS : st M = S) (hT : st (rl_M M) = S) : l2 220 (B + 40000) E M (am_den 152 (0, [some (am_A (34, 0)), some (am_A (84, 0)), u2, u3, u4, u5, u6, u7], [], E, M)) 1 := by
  have h7 := hi.1.1.1.1
  have hmi := hm_i (Y := S 0)
  rw [am_B152_0 hw.1]
  refine l2_b1 (K := 219) (pc' := 4) (S1' := S) (T1' := S) (c2_s (ct_harmless hw hS hi) hT) rfl rfl rfl rfl (fun E M hw hS hT _ => ?_)
  rw [am_B152_4]
  refine l2_b1 (K := 218) (pc' := 13) (S1' := S) (T1' := S) (c2_s (ct_about hw hS hi) hT) rfl (show _ = S 0 0 7 from if_pos (by decide)) rfl rfl (fun E M hw hS hT _ => ?_)
  rw [am_B152_13]
  refine l2_le (rn_s hi (w := hm (S 0)) (S 0 0 7).toNat 0 (by omega) E M u6 u7 hw hS hT (fun E M u6 u7 hw hS hT => ?_)) (by omega) (Int.le_refl _)
  have h0 := sm_ge (f := am_oa (S 0)) (fun x => oa_b.1) (S 0 0 7).toNat
  have go : ∀ (E : am_E) (M : am_M) (u7 : Option am_V), wl E M → st M = S → st (rl_M M) = S → l2 210 (B + 40000) E M (am_den 152 (79, [some (am_A (34, 0)), some (am_A (84, 0)), some (am_I (hm (S 0))), some (am_I (S 0 0 7)), some (am_I (am_sm (am_oa (S 0)) (S 0 0 7).toNat)), some (am_I 1), some (am_I (hm (S 0))), u7], [], E, M)) 1 := by
    intro E M u7 hw hS hT
    exact l2_le (rn_l (Y := S 0) 32 (hm (S 0)) B S E M u7 (Int.le_refl _) (fun z => by omega) (by omega) (by omega) hi hp rfl (by omega) hw hS hT) (by omega) (by omega)
  rw [am_B152_46]
  by_cases q : hm (S 0) = -1
  · have q2 := hmi.1.mp q
    rw [if_neg (fun z => z q), am_B152_51, am_B152_56, if_neg (by omega), am_B152_61, am_B152_66, if_neg (fun z => z rfl), am_B152_69, am_B152_74]
    exact go E M u7 hw hS hT
  · have q2 : ¬ 0 < am_sm (am_oa (S 0)) (S 0 0 7).toNat := fun z => q (hmi.1.mpr z)
    rw [if_pos q, am_B152_55, am_B152_56, if_pos (by omega), am_B152_65, am_B152_66, if_neg (fun z => z rfl), am_B152_69, am_B152_74]
    exact go E M u7 hw hS hT
end RAI
