/-! ===== the reference: mending, nights ===== -/
theorem ra_mlz {p : Int} : ∀ (n : Nat) (Z : Nat → Int → Int) (i : Int), (∀ x, i ≤ x → x < i + n → Z 2 x ≠ p) → ay_ml n Z p i = Z := by
  intro n
  induction n with
  | zero => intro Z i _; rfl
  | succ n ih =>
    intro Z i h
    rw [ay_ml, if_neg (h i (by omega) (by omega))]
    exact ih Z (i + 1) (fun x a b => h x (by omega) (by omega))
theorem ra_mla {p : Int} {k : Nat} : ∀ (n : Nat) (Z : Nat → Int → Int) (i : Int), ay_ml (n + k) Z p i = ay_ml k (ay_ml n Z p i) p (i + n) := by
  intro n
  induction n with
  | zero => intro Z i; rw [Nat.zero_add, ay_ml, show i + ((0 : Nat) : Int) = i by omega]
  | succ n ih =>
    intro Z i
    rw [show n + 1 + k = (n + k) + 1 by omega, ay_ml, ay_ml, ih, show i + 1 + (n : Int) = i + ((n + 1 : Nat) : Int) by omega]
section REF10
variable {E : am_E} {M : am_M} {d : Nat} {Y : Nat → Int → Int} {f : Int → Int} {q l m w v : Int}
theorem ra_154l (hk : am_kd E (d, 0) = some (6, 138)) (hb : av_b Y) {p : Nat} (hp : (p : Int) < Y 0 7) {z0 : Int} : ∀ (m i : Nat) (g : Int → Int) (Z : Nat → Int → Int) (T : Nat → at_T), i + m = (Y 0 8).toNat → av_mid Y p i Z T → ra_q g Z → ra_to E M d g (some (am_I (am_w (ay_ml m Z p i 0 11 - z0)))) (ay_ml m Z p i) (am_den 154 (15, [some (am_A (d, 0)), some (am_I p), some (am_I z0), some (am_I i)], [], E, ar_s M d g)) := by
  have h8 := hb.2.1
  have h7 := hb.1
  have hp4 : p < 4 := by omega
  intro m
  induction m with
  | zero =>
    intro i g Z T h hm hg
    refine ⟨g, ?_, hg, rfl⟩
    rw [am_B154_15 hk (by omega), ar_s_at, hg.1.2.1, hm.2.2.2.1.2 8 (by decide), if_pos (by omega), am_B154_43 hk (by omega), ar_s_at, hg.1.2.2.2.2.1, ay_ml]
  | succ m ih =>
    intro i g Z T h hm hg
    have w1 : am_w ((i : Int) + 1) = ((i + 1 : Nat) : Int) := by rw [am_wi (by omega) (by omega)]; omega
    have hi : 0 ≤ (i : Int) ∧ (i : Int) < 24 := by omega
    have hii : 0 ≤ (i : Int) ∧ (i : Int) < ((24 : Nat) : Int) := by omega
    obtain ⟨T', hm'⟩ := av_mst hp4 (by omega) hm
    obtain ⟨m1, m2, m3, ⟨m4, m5⟩, m6, m7, m8⟩ := hm
    have z2 : ∀ x, Z 2 x = Y 2 x := fun x => m4 2 x (by omega)
    have z8 : Z 0 8 = Y 0 8 := m5 8 (by decide)
    have z7 : Z 0 7 = Y 0 7 := m5 7 (by decide)
    rw [am_B154_15 hk (by omega), ar_s_at, hg.1.2.1, z8, if_neg (by omega), am_B154_22, ar_133 hk hi, am_bd_v, ar_s_at, (hg.2.2.1 i hi.1 (by rw [z8]; omega)).2]
    simp only [Nat.reduceAdd]
    rw [am_B154_28, ay_ml]
    by_cases q1 : Z 2 i = (p : Int)
    · rw [if_pos q1] at hm'
      rw [if_neg (show ¬ am_b (Z 2 i = p) = 0 by rw [am_b_0]; exact fun z => z q1), am_B154_31, if_pos q1]
      have ni : ∀ r, r < 4 → at_ct (T r) i = 0 := by
        intro r hr
        by_cases w : 0 < at_ct (T r) i
        · have := m1.2.2 r hr i w
          have hrp : r = p := by omega
          rw [hrp] at w
          have := m3 i w
          omega
        · omega
      have u : ∀ c x, (c ≠ 3 ∧ c ≠ 4 ∧ c ≠ 5) ∨ x ≠ (i : Int) → ay_unl Z i c x = Z c x := by
        intro c x w
        unfold ay_unl
        rw [ay_pt_ne (by omega), ay_pt_ne (by omega), ay_pt_ne (by omega)]
      have u4 : ay_unl Z i 4 i = -1 := by
        unfold ay_unl
        rw [ay_pt_ne (Or.inl (by decide)), ay_pt_eq hii]
      have u5 : ay_unl Z i 5 i = -1 := by
        unfold ay_unl
        rw [ay_pt_eq hii]
      have hq4 : ra_q (ar_u (ar_u (ar_u (ar_u g (18 + 5 * (i : Int) + 1) p) (18 + 5 * (i : Int) + 2) (-1)) (18 + 5 * (i : Int) + 3) (-1)) (18 + 5 * (i : Int) + 4) (-1)) (ay_unl Z i) := by
        have s1 := ra_uhm (v := (p : Int)) (l := (i : Int)) hg (by rw [z7]; exact h7.2) hi.1 (Or.inr (by rw [q1]; omega))
        have es : am_uy Z 2 i p = Z := by
          have := ay_uy_self (Y := Z) (c := 2) (i := (i : Int))
          rw [q1] at this
          exact this
        rw [es] at s1
        have s2 := ra_ulk (v := -1) (a := 2) (c := 3) s1 (by rw [z7]; exact h7.2) (Or.inl rfl) (by decide) hi.1
        have s3 := ra_ulk (v := -1) (a := 3) (c := 4) s2 (by rw [ay_uy_ne (Or.inl (by decide)), z7]; exact h7.2) (Or.inr (Or.inl rfl)) (by decide) hi.1
        have s4 := ra_ulk (v := -1) (a := 4) (c := 5) s3 (by rw [ay_uy_ne (Or.inl (by decide)), ay_uy_ne (Or.inl (by decide)), z7]; exact h7.2) (Or.inr (Or.inr rfl)) (by decide) hi.1
        unfold ay_unl
        rw [ay_pt_in hii, ay_pt_in hii, ay_pt_in hii]
        exact s4
      have htr : at_rt (ay_unl Z i) (T p) (ay_unl Z i 6 p) := by
        rw [u 6 p (Or.inl (by decide))]
        refine at_is_rt (at_is_fr _ _ _ (fun x hx => ?_) (m1.1 p hp4))
        have hxi : x ≠ (i : Int) := by
          intro e
          rw [e] at hx
          have := ni p hp4
          omega
        exact ⟨u 3 x (Or.inr hxi), u 4 x (Or.inr hxi), u 5 x (Or.inr hxi)⟩
      have onp : ra_on (ay_unl Z i) (T p) := by
        intro x hx
        have e := m1.2.2 p hp4 x hx
        have hin := av_in m1 hp4 hx
        have := ra_lv hb hin.1 hin.2 (by rw [← z2 x, e]; omega)
        rw [u 0 8 (Or.inl (by decide)), u 2 x (Or.inl (by decide)), z8, e]
        exact ⟨this.1, by omega⟩
      obtain ⟨g', e, hqg, h8g⟩ := ra_142 (M := M) (d := d) (Y := ay_unl Z i) (t := T p) (p := p) (l := i) hk hq4 (by rw [u 0 7 (Or.inl (by decide)), z7]; exact h7.2) (fun x a b => by rw [u 1 x (Or.inl (by decide)), m4 1 x (by omega)]; exact hb.2.2.1 x a b) (by rw [u 0 7 (Or.inl (by decide)), z7]; exact hp) (by omega) htr onp ⟨by rw [u 0 8 (Or.inl (by decide)), z8]; omega, by rw [u 2 i (Or.inl (by decide)), q1]; omega⟩ u4 u5 (fun x => by
        have h1 := m1.2.1 p hp4 x
        have h2 := ni p hp4
        rw [av_pc_ct]
        by_cases e : x = (i : Int)
        · rw [if_pos e, e]; omega
        · rw [if_neg e]; omega)
      rw [e, am_bd_u]
      simp only [Nat.reduceAdd]
      rw [am_B154_37, w1]
      exact ra_to_tr h8g (ih (i + 1) g' _ T' (by omega) hm' hqg)
    · rw [if_neg q1] at hm'
      rw [if_pos (show am_b (Z 2 i = p) = 0 by rw [am_b_0]; exact q1), am_B154_37, w1, if_neg q1]
      exact ih (i + 1) g _ T' (by omega) hm' hg
theorem ra_mid0 {p : Nat} (hp : p < 4) (hY : av_Y Y) : ∃ T, av_mid Y p 0 (am_pt Y 6 4 p (-1)) T := by
  obtain ⟨hb, hn, T, ht, ha⟩ := hY
  have e0 : ∀ c x, c ≠ 6 → am_pt Y 6 4 p (-1) c x = Y c x := fun c x h => ay_pt_ne (Or.inl h)
  refine ⟨av_up T p (.leaf ()), ⟨fun q hq => ?_, fun q hq x => ?_, fun q hq x hx => ?_⟩, fun q hq x a b hx hxi => ?_, fun x hx => ?_, ⟨fun c x hc => e0 c x (by omega), fun j _ => e0 0 j (by decide)⟩, fun x a b _ => ⟨e0 3 x (by decide), e0 4 x (by decide), e0 5 x (by decide)⟩, av_li_0 (e0 0 11 (by decide)), ?_⟩
  · by_cases e : q = p
    · rw [e, av_up_eq, ay_pt_eq (by omega)]
      rfl
    · rw [av_up_ne e, ay_pt_ne (Or.inr (by omega))]
      exact at_is_fr _ _ _ (fun x _ => ⟨e0 3 x (by decide), e0 4 x (by decide), e0 5 x (by decide)⟩) (ht.1 q hq)
  · by_cases e : q = p
    · rw [e, av_up_eq]
      simp [at_ct]
    · rw [av_up_ne e]
      exact ht.2.1 q hq x
  · rw [e0 2 x (by decide)]
    by_cases e : q = p
    · rw [e, av_up_eq] at hx
      simp [at_ct] at hx
    · rw [av_up_ne e] at hx
      exact ht.2.2 q hq x hx
  · by_cases e : q = p
    · have := hxi e
      omega
    · rw [av_up_ne e]
      exact ha q hq x a b hx
  · rw [av_up_eq] at hx
    simp [at_ct] at hx
  · rw [av_up_eq]
    trivial
theorem ra_154 (hk : am_kd E (d, 0) = some (6, 138)) (hq : ra_q f Y) (hY : av_Y Y) {p : Int} (hp : 0 ≤ p ∧ p < Y 0 7) {u2 u3 : Option am_V} : ra_to E M d f (some (am_I (am_w (ay_mend Y p 0 11 - Y 0 11)))) (ay_mend Y p) (am_den 154 (0, [some (am_A (d, 0)), some (am_I p), u2, u3], [], E, ar_s M d f)) := by
  obtain ⟨p', ep⟩ : ∃ q : Nat, p = (q : Int) := ⟨p.toNat, by omega⟩
  subst ep
  have h7 := hY.1.1
  have h8 := hY.1.2.1
  have hp4 : p' < 4 := by omega
  obtain ⟨T, hm⟩ := ra_mid0 hp4 hY
  have hq2 : ra_q (ar_u f (10 + 2 * (p' : Int)) (-1)) (am_pt Y 6 4 p' (-1)) := by
    rw [ay_pt_in (by omega)]
    exact ra_utp hq h7.2 (by omega)
  have hl := ra_154l (M := M) (d := d) (z0 := Y 0 11) hk hY.1 hp.2 (Y 0 8).toNat 0 _ _ T (Nat.zero_add _) hm hq2
  have em : ay_mend Y p' = ay_ml (Y 0 8).toNat (am_pt Y 6 4 p' (-1)) p' ((0 : Nat) : Int) := by
    unfold ay_mend
    have e := ra_mla (p := (p' : Int)) (k := 24 - (Y 0 8).toNat) (Y 0 8).toNat (am_pt Y 6 4 p' (-1)) 0
    rw [show (Y 0 8).toNat + (24 - (Y 0 8).toNat) = 24 by omega] at e
    rw [e]
    refine ra_mlz _ _ _ (fun x a b => ?_)
    have e2 : ay_ml (Y 0 8).toNat (am_pt Y 6 4 p' (-1)) p' 0 2 x = Y 2 x := by
      have hh : ∀ (n : Nat) (Z : Nat → Int → Int) (l : Int), ay_ml n Z p' l 2 x = Z 2 x := by
        intro n
        induction n with
        | zero => intro Z l; rfl
        | succ n ih =>
          intro Z l
          rw [ay_ml, ih]
          split
          · rw [av_ci_fr ⟨by decide, by decide, by decide, Or.inl (by decide)⟩ (by decide)]
            unfold ay_unl
            rw [ay_pt_ne (Or.inl (by decide)), ay_pt_ne (Or.inl (by decide)), ay_pt_ne (Or.inl (by decide))]
          · rfl
      rw [hh, ay_pt_ne (Or.inl (by decide))]
    rw [e2]
    rcases hY.1.2.2.2.1 x (by omega) (by omega) with w | w
    · rw [w.1]; omega
    · omega
  rw [← em] at hl
  rw [am_B154_0 hk (by omega) (by rw [ra_pw (by omega)]; omega), ar_s_at, hq.1.2.2.2.2.1, ra_pw (by omega), ar_up, am_B154_13]
  refine ra_to_tr ?_ hl
  exact ar_u_ne (by omega)
theorem ra_155i (hk : am_kd E (d, 0) = some (6, 138)) (hq : ra_q f Y) (hY : av_Y Y) {x1 x2 x3 : Int} : ∀ (m i : Nat) (u6 : Option am_V), i + m = (Y 0 7).toNat → ∃ v6, am_den 155 (17, [some (am_A (d, 0)), some (am_I x1), some (am_I x2), some (am_I x3), some (am_I (ay_dr Y i)), some (am_I i), u6], [], E, ar_s M d f) = am_den 155 (92, [some (am_A (d, 0)), some (am_I x1), some (am_I x2), some (am_I x3), some (am_I (ay_dr Y (Y 0 7).toNat)), some (am_I (Y 0 7)), v6], [], E, ar_s M d f) := by
  have h7 := hY.1.1
  have td : ∀ p, 0 ≤ p → p < Y 0 7 → ay_why Y p = 0 → 0 ≤ Y 6 p ∧ Y 6 p < 24 ∧ Y 6 p < Y 0 8 ∧ Y 1 (Y 6 p) = ay_td Y p := by
    intro p a b c
    obtain ⟨t1, t2, t3, t4⟩ := av_top_in hY (av_why0 c).1
    have := ra_lv hY.1 t2.1 t2.2 (by rw [t3]; omega)
    refine ⟨t2.1, t2.2, this.1, ?_⟩
    unfold ay_td
    rw [at_gt (f := Y 6) (by omega), at_gt (by omega)]
  have drin : ∀ n : Nat, ay_dr Y n = -1 ∨ (0 ≤ ay_dr Y n ∧ ay_dr Y n < n ∧ ay_why Y (ay_dr Y n) = 0) := by
    intro n
    induction n with
    | zero => exact Or.inl rfl
    | succ n ih =>
      rw [ay_dr]
      by_cases w : ay_why Y n = 0 ∧ (ay_dr Y n = -1 ∨ ay_td Y n < ay_td Y (ay_dr Y n))
      · rw [if_pos w]
        exact Or.inr ⟨by omega, by omega, w.1⟩
      · rw [if_neg w]
        rcases ih with h | h
        · exact Or.inl h
        · exact Or.inr ⟨h.1, by omega, h.2.2⟩
  intro m
  induction m with
  | zero =>
    intro i u6 h
    have e : i = (Y 0 7).toNat := by omega
    have e2 : (i : Int) = Y 0 7 := by omega
    refine ⟨u6, ?_⟩
    rw [am_B155_17 hk (by omega), ar_s_at, hq.1.1, if_pos (by omega), e2, e]
  | succ m ih =>
    intro i u6 h
    have w1 : am_w ((i : Int) + 1) = ((i + 1 : Nat) : Int) := by rw [am_wi (by omega) (by omega)]; omega
    have e0 : ay_dr Y (i + 1) = if ay_why Y i = 0 ∧ (ay_dr Y i = -1 ∨ ay_td Y i < ay_td Y (ay_dr Y i)) then (i : Int) else ay_dr Y i := rfl
    rw [am_B155_17 hk (by omega), ar_s_at, hq.1.1, if_neg (by omega), am_B155_25, ra_146s hk hq hY (by omega) (by omega), am_bd_v]
    simp only [Nat.reduceAdd]
    rw [am_B155_31]
    by_cases q1 : ay_why Y i = 0
    · rw [if_neg (show ¬ ay_why Y i ≠ 0 from fun z => z q1), am_B155_34, am_B155_39, if_neg (show ¬ (1 : Int) = 0 by decide), am_B155_46]
      by_cases q2 : ay_dr Y i = -1
      · rw [if_pos q2, am_B155_77, am_B155_84, w1]
        have e1 : (i : Int) = ay_dr Y (i + 1) := by rw [e0, if_pos ⟨q1, Or.inl q2⟩]
        have h3 := ih (i + 1) (some (am_I 1)) (by omega)
        rw [← e1] at h3
        exact h3
      · rcases drin i with hd | hd
        · exact absurd hd q2
        · have t1 := td i (by omega) (by omega) q1
          have t2 := td (ay_dr Y i) hd.1 (by omega) hd.2.2
          have p1 : 0 ≤ (i : Int) ∧ (i : Int) < 4 := by omega
          have p2 : 0 ≤ ay_dr Y i ∧ ay_dr Y i < 4 := by omega
          rw [if_neg q2, am_B155_52, ar_125 hk p1, am_bd_v, ar_s_at, (hq.2.1 i (by omega) (by omega)).1]
          simp only [Nat.reduceAdd]
          rw [am_B155_59, ra_123 hk ⟨t1.1, t1.2.1⟩ (by omega), am_bd_v, (hq.2.2.1 (Y 6 i) t1.1 t1.2.2.1).1, t1.2.2.2]
          simp only [Nat.reduceAdd]
          rw [am_B155_63, ar_125 hk p2, am_bd_v, ar_s_at, (hq.2.1 (ay_dr Y i) hd.1 (by omega)).1]
          simp only [Nat.reduceAdd]
          rw [am_B155_70, ra_123 hk ⟨t2.1, t2.2.1⟩ (by omega), am_bd_v, (hq.2.2.1 (Y 6 (ay_dr Y i)) t2.1 t2.2.2.1).1, t2.2.2.2]
          simp only [Nat.reduceAdd]
          rw [am_B155_74]
          by_cases q3 : ay_td Y i < ay_td Y (ay_dr Y i)
          · rw [if_neg (by omega), am_B155_77, am_B155_84, w1]
            have e1 : (i : Int) = ay_dr Y (i + 1) := by rw [e0, if_pos ⟨q1, Or.inr q3⟩]
            have h3 := ih (i + 1) (some (am_I 1)) (by omega)
            rw [← e1] at h3
            exact h3
          · rw [if_pos (by omega), am_B155_82, am_B155_84, w1]
            have e1 : ay_dr Y i = ay_dr Y (i + 1) := by rw [e0, if_neg (fun z => z.2.elim q2 q3)]
            have h3 := ih (i + 1) (some (am_I 1)) (by omega)
            rw [← e1] at h3
            exact h3
    · rw [if_pos (show ay_why Y i ≠ 0 from q1), am_B155_38, am_B155_39, if_pos rfl, am_B155_82, am_B155_84, w1]
      have e1 : ay_dr Y i = ay_dr Y (i + 1) := by rw [e0, if_neg (fun z => q1 z.1)]
      have h3 := ih (i + 1) (some (am_I 0)) (by omega)
      rw [← e1] at h3
      exact h3
theorem ra_155l (hk : am_kd E (d, 0) = some (6, 138)) {z0 : Int} {n : Nat} (hn : n < 1000) : ∀ (m i : Nat) (Y : Nat → Int → Int) (g : Int → Int) (u4 u5 u6 : Option am_V), i + m = n → ra_q g Y → av_Y Y → av_h Y → ra_to E M d g (some (am_I (am_w (ay_nts m Y 0 12 - z0)))) (ay_nts m Y) (am_den 155 (6, [some (am_A (d, 0)), some (am_I n), some (am_I z0), some (am_I i), u4, u5, u6], [], E, ar_s M d g)) := by
  intro m
  induction m with
  | zero =>
    intro i Y g u4 u5 u6 h hg hY hh
    refine ⟨g, ?_, hg, rfl⟩
    rw [am_B155_6, if_pos (by omega), am_B155_121 hk (by omega), ar_s_at, hg.1.2.2.2.2.2.1, ay_nts]
  | succ m ih =>
    intro i Y g u4 u5 u6 h hg hY hh
    have w1 : am_w ((i : Int) + 1) = ((i + 1 : Nat) : Int) := by rw [am_wi (by omega) (by omega)]; omega
    have hY' := (av_nt hY).1
    have hh' : av_h (ay_nt1 Y) := av_hnts 1 hh
    obtain ⟨v6, e6⟩ := ra_155i (M := M) (d := d) (x1 := (n : Int)) (x2 := z0) (x3 := (i : Int)) hk hg hY (Y 0 7).toNat 0 u6 (Nat.zero_add _)
    rw [am_B155_6, if_neg (by omega), am_B155_11]
    have e6' : am_den 155 (17, [some (am_A (d, 0)), some (am_I n), some (am_I z0), some (am_I i), some (am_I (-1)), some (am_I 0), u6], [], E, ar_s M d g) = _ := e6
    rw [e6', am_B155_92, ay_nts]
    by_cases q : ay_dr Y (Y 0 7).toNat = -1
    · have en : ay_nt1 Y = am_uy Y 0 14 (am_w (Y 0 14 + 1)) := by rw [ay_nt1, if_pos q]
      rw [if_neg (show ¬ ay_dr Y (Y 0 7).toNat ≠ -1 from fun z => z q), am_B155_98 hk (by omega) (by omega), ar_s_at, hg.1.2.2.2.2.2.2.2.1, ar_up, am_B155_106, am_B155_115, w1]
      refine ra_to_tr ?_ (ih (i + 1) (ay_nt1 Y) _ _ _ _ (by omega) (by rw [en]; exact ra_us7 hg) hY' hh')
      exact ar_u_ne (by decide)
    · have en : ay_nt1 Y = ay_burn Y (ay_dr Y (Y 0 7).toNat) := by rw [ay_nt1, if_neg q]
      have hd : ∀ n, ay_dr Y n ≠ -1 → ay_why Y (ay_dr Y n) = 0 := by
        intro n
        induction n with
        | zero => intro z; exact absurd rfl z
        | succ n ih =>
          intro z
          rw [ay_dr] at z ⊢
          by_cases w : ay_why Y n = 0 ∧ (ay_dr Y n = -1 ∨ ay_td Y n < ay_td Y (ay_dr Y n))
          · rw [if_pos w]
            exact w.1
          · rw [if_neg w] at z ⊢
            exact ih z
      obtain ⟨g', e, hqg, h8g⟩ := ra_147 (M := M) (d := d) (u1 := none) (u2 := none) hk hg hY hh (av_why0 (hd _ q)).1
      rw [if_pos (show ay_dr Y (Y 0 7).toNat ≠ -1 from q), am_B155_109, e, am_bd_u]
      simp only [Nat.reduceAdd]
      rw [am_B155_115, w1]
      exact ra_to_tr h8g (ih (i + 1) (ay_nt1 Y) g' _ _ _ (by omega) (by rw [en]; exact hqg) hY' hh')
theorem ra_155 (hk : am_kd E (d, 0) = some (6, 138)) (hq : ra_q f Y) (hY : av_Y Y) (hh : av_h Y) (hw : 0 ≤ w ∧ w < 1000) {u2 u3 u4 u5 u6 : Option am_V} : ra_to E M d f (some (am_I (am_w (ay_nts w.toNat Y 0 12 - Y 0 12)))) (ay_nts w.toNat Y) (am_den 155 (0, [some (am_A (d, 0)), some (am_I w), u2, u3, u4, u5, u6], [], E, ar_s M d f)) := by
  obtain ⟨n, en⟩ : ∃ n : Nat, w = (n : Int) := ⟨w.toNat, by omega⟩
  subst en
  rw [am_B155_0 hk (by omega), ar_s_at, hq.1.2.2.2.2.2.1]
  exact ra_155l hk (by omega) n 0 Y f _ _ _ (Nat.zero_add _) hq hY hh
end REF10
