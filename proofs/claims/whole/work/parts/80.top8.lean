/-! ===== pairs: a mended pile, rain without harm, slots ===== -/
def av_hp (Y : Nat → Int → Int) (p : Nat) : Prop := ∃ T, av_tr Y T ∧ av_al Y T ∧ at_ho (Y 1) (T p) (-1)
theorem at_ho_no {Y : Nat → Int → Int} {D : Int → Int} {x : Int} : ∀ (t : at_T) (u a : Int), at_is Y t u a → at_ho D t u → 0 < at_ct t x → Y 3 x = -1 ∨ ¬ at_ah D x (Y 3 x) := by
  intro t
  induction t with
  | leaf v => intro u a _ _ h; simp [at_ct] at h
  | branch n l r ihl ihr =>
    intro u a h ho hc
    simp only [at_is] at h
    simp only [at_ho] at ho
    simp only [at_ct] at hc
    by_cases q : x = (n : Int)
    · rw [q, h.1.2.2]
      exact ho.1
    · rw [if_neg q] at hc
      by_cases q2 : 0 < at_ct l x
      · exact ihl _ _ h.2.1 ho.2.1 q2
      · exact ihr _ _ h.2.2 ho.2.2 (by omega)
theorem at_ho_up {D : Int → Int} {t : at_T} {u : Int} (h : at_ho D t u) : at_ho D t (-1) := by
  cases t with
  | leaf v => exact h
  | branch n l r => exact ⟨Or.inl rfl, h.2⟩
theorem av_sm0 {f : Int → Int} : ∀ n : Nat, (∀ x : Int, 0 ≤ x → x < n → f x = 0) → am_sm f n = 0 := by
  intro n
  induction n with
  | zero => intro _; rfl
  | succ n ih =>
    intro h
    simp only [am_sm]
    rw [ih (fun x a b => h x a (by omega)), h n (by omega) (by omega)]
    rfl
theorem hp_oa {Y : Nat → Int → Int} {p : Nat} (hp : p < 4) (h : av_hp Y p) : am_oa Y p = 0 := by
  obtain ⟨T, ht, ha, ho⟩ := h
  refine av_sm0 24 (fun x a b => ?_)
  show am_b (am_of Y p x) = 0
  rw [am_b_0]
  intro z
  have hx := ha p hp x a (by omega) z.1
  rcases at_ho_no (T p) _ _ (ht.1 p hp) ho hx with w | w
  · exact z.2.1 w
  · exact w z.2.2.2
theorem hp_burn {Y : Nat → Int → Int} {p : Nat} (hY : av_Y Y) (hp : p < 4) (h : av_hp Y p) (htop : am_gt (Y 6) 4 p ≠ -1) : av_hp (ay_burn Y p) p := by
  obtain ⟨T, ht, ha, ho⟩ := h
  obtain ⟨t1, t2, t3, t4⟩ := av_top_in hY htop
  have e6 : am_gt (Y 6) 4 p = Y 6 p := at_gt (by omega)
  have c : ∀ c x, c ≠ 0 → ay_bn0 Y p c x = Y c x := fun c x hc => ay_bn0_fr (Or.inl hc)
  have ht1 : av_tr (ay_bn0 Y p) T := av_tr_cg (fun a x h2 _ _ _ => c a x (by omega)) (fun r _ _ => c 6 r (by decide)) ht
  have hI := ht.1 p hp
  rw [e6] at htop
  have hc := (at_is_top hI htop).2
  obtain ⟨r1, r2, r3, r4, r5⟩ := av_rmv ht1 hp hc
  have e1 : ay_bn0 Y p 1 = Y 1 := funext (fun x => c 1 x (by decide))
  have eb : ay_burn Y p = am_rmv (ay_bn0 Y p) (Y 6 p) := by
    unfold ay_burn
    rw [at_gt (by omega), c 6 p (by decide)]
  have eb1 : ay_burn Y p 1 = Y 1 := by
    funext x
    rw [eb, ay_rmv_fr ⟨by decide, by decide, by decide, Or.inl (by decide)⟩ (by decide) (by decide), c 1 x (by decide)]
  rw [e1] at r1 r5
  refine ⟨av_up T p (at_rm (Y 1) (Y 6 p) (T p)), by rw [eb]; exact r1, fun q hq x a b hx => ?_, ?_⟩
  · rw [eb, av_rm_2 t2] at hx
    by_cases e : x = Y 6 p
    · rw [if_pos e] at hx
      omega
    · rw [if_neg e, c 2 x (by decide)] at hx
      by_cases hqp : q = p
      · rw [hqp, av_up_eq, r5, if_neg e]
        rw [hqp] at hx
        exact ha p hp x a b hx
      · rw [av_up_ne hqp]
        exact ha q hq x a b hx
  · rw [eb1, av_up_eq]
    cases hT : T p with
    | leaf v =>
      rw [hT] at hc
      simp [at_ct] at hc
    | branch n l r =>
      rw [hT] at hI ho
      have en : Y 6 p = (n : Int) := hI.1.1
      rw [at_rm, if_pos en]
      exact at_jn_ho _ _ _ _ (at_ho_up ho.2.1) (at_ho_up ho.2.2)
section TOP8
variable {E : am_E} {M N : am_M} {B : Int}
theorem tp_191l (hE : am_Wr E) {p : Nat} {w x3 x4 : Int} (hp4 : p < 4) : ∀ (m : Nat) (Y : Nat → Int → Int) (f : Int → Int), av_Y Y → av_H Y → av_hp Y p → ra_q f Y → (p : Int) < Y 0 7 → av_lv Y ≤ m → ∃ f', am_den 191 (69, [some (am_A (35, 0)), some (am_I p), some (am_I w), some (am_I x3), some (am_I x4)], [], E, ar_s N 38 f) = am_den 191 (92, [some (am_A (35, 0)), some (am_I p), some (am_I w), some (am_I x3), some (am_I x4)], [], E, ar_s N 38 f') ∧ ra_q f' (ay_de m Y p) := by
  have k38 := hE.2.2.2.2.2.2.2.2.1
  intro m
  induction m with
  | zero =>
    intro Y f hY hH hh hq hp hl
    have ht := tq_top0 (p := (p : Int)) hY (by omega)
    refine ⟨f, ?_, hq⟩
    have h6 := (hq.2.1 p (by omega) hp).1
    rw [at_gt (by omega)] at ht
    rw [am_B191_69 hE, ar_125 k38 (by omega), am_bd_v, ar_s_at, h6, ht]
    simp only [Nat.reduceAdd]
    rw [am_B191_77, if_pos rfl]
  | succ m ih =>
    intro Y f hY hH hh hq hp hl
    have h6 := (hq.2.1 p (by omega) hp).1
    have eg : am_gt (Y 6) 4 p = Y 6 p := at_gt (by omega)
    rw [am_B191_69 hE, ar_125 k38 (by omega), am_bd_v, ar_s_at, h6, ay_de]
    simp only [Nat.reduceAdd]
    rw [am_B191_77]
    by_cases q : Y 6 p = -1
    · have hw : ay_why Y p = 1 := by rw [ay_why, if_pos (by rw [eg]; exact q)]
      refine ⟨f, by rw [if_pos q], ?_⟩
      rw [hw, if_neg (by decide)]
      exact hq
    · have htop : am_gt (Y 6) 4 p ≠ -1 := by rw [eg]; exact q
      have hw : ay_why Y p = 0 := by
        have := hp_oa hp4 hh
        rw [ay_why, if_neg htop, if_neg (by omega)]
      obtain ⟨f1, e1, hq1, _⟩ := ra_147 (M := N) (d := 38) (u1 := none) (u2 := none) k38 hq hY (av_Hh hY hH) htop
      have hl2 := tq_lv hY htop
      obtain ⟨f', e', hq'⟩ := ih (ay_burn Y p) f1 (av_burn hY htop).1 (av_Hburn hY hH htop).1 (hp_burn hY hp4 hh htop) hq1 (by rw [ay_burn_0 (by decide) ⟨by decide, by decide, by decide⟩]; exact hp) (by omega)
      refine ⟨f', ?_, by rw [if_pos hw]; exact hq'⟩
      rw [if_neg q, am_B191_81 hE, e1, am_bd_u]
      simp only [Nat.reduceAdd]
      rw [am_B191_89, e']
theorem tp_ifMended (hE : am_Wr E) (hs : si M B) {p w : Int} {u1 u2 u3 u4 : Option am_V} : tq E M B (fun x => if x = 2 then 1 else if x = 0 then 2 else 0) (am_den 90 (0, [some (am_A (34, 0)), some (am_I p), some (am_I w), u1, u2], [], E, M)) (fun E' N => am_den 191 (0, [some (am_A (35, 0)), some (am_I p), some (am_I w), u3, u4], [], E', N)) := by
  obtain ⟨hG, hq, h8⟩ := hs.1
  have e01 : (0 ≤ w ∧ w ≤ 1) ↔ (w = 0 ∨ w = 1) := by omega
  rw [ac_90 hE]
  have pre : ∀ (E' : am_E) (N : am_M), am_Wr E' → (∀ b, b ≠ 44 → b ≠ 17 → N b = M b) → (ac_hp M p → am_den 191 (0, [some (am_A (35, 0)), some (am_I p), some (am_I w), u3, u4], [], E', N) = (if w = 0 ∨ w = 1 then am_den 191 (39, [some (am_A (35, 0)), some (am_I p), some (am_I w), u3, u4], [], E', ar_s N 35 (ar_u (N 35 0) 0 0)) else some (.inl (some (am_I 0)), E', ar_s N 35 (ar_u (N 35 0) 0 2)))) ∧ (¬ ac_hp M p → am_den 191 (0, [some (am_A (35, 0)), some (am_I p), some (am_I w), u3, u4], [], E', N) = some (.inl (some (am_I 0)), E', ar_s N 35 (ar_u (N 35 0) 0 1))) := by
    intro E' N hE' hN
    have k37 := hE'.2.2.2.2.2.2.2.1
    have qN : ra_q (N 37 0) (M 0) := by rw [hN 37 (by decide) (by decide)]; exact hq
    refine ⟨fun h1 => ?_, fun h1 => ?_⟩
    · rw [am_B191_0 hE', ra_127 (Y := M 0) (p := p) k37 qN hG.1.1, am_bd_v]
      simp only [Nat.reduceAdd]
      rw [am_B191_9, if_pos (show am_b (0 ≤ p ∧ p < M 0 0 7) ≠ 0 by rw [ne_eq, am_b_0]; exact fun z => z h1), am_B191_16, ar_120, am_bd_v]
      simp only [Nat.reduceAdd]
      rw [am_B191_23]
      by_cases h2 : w = 0 ∨ w = 1
      · rw [if_neg (show ¬ am_b (0 ≤ w ∧ w ≤ 1) = 0 by rw [am_b_0]; exact fun z => z (e01.mpr h2)), am_B191_26, am_B191_31 hE', tp_119 hE', am_bd_v, if_pos h2]
        simp only [Nat.reduceAdd]
        rw [am_B191_34, if_pos (by rw [am_b_0]; decide)]
      · rw [if_pos (show am_b (0 ≤ w ∧ w ≤ 1) = 0 by rw [am_b_0]; exact fun z => h2 (e01.mp z)), am_B191_30, am_B191_31 hE', tp_119 hE', am_bd_v, if_neg h2]
        simp only [Nat.reduceAdd]
        rw [am_B191_34, if_neg (by rw [am_b_0]; decide), am_B191_37]
    · rw [am_B191_0 hE', ra_127 (Y := M 0) (p := p) k37 qN hG.1.1, am_bd_v]
      simp only [Nat.reduceAdd]
      rw [am_B191_9, if_neg (show ¬ am_b (0 ≤ p ∧ p < M 0 0 7) ≠ 0 by rw [ne_eq, am_b_0]; exact fun z => z h1), am_B191_12, am_B191_31 hE', tp_119 hE', am_bd_v]
      simp only [Nat.reduceAdd]
      rw [am_B191_34, if_neg (by rw [am_b_0]; decide), am_B191_37]
  by_cases h1 : ac_hp M p
  · rw [if_pos h1]
    by_cases h2 : w = 0 ∨ w = 1
    · rw [if_pos h2]
      refine ⟨_, fun b hb => am_sb_ne (by omega), Or.inl ⟨_, rfl, fun E' N hE' hN => ?_⟩⟩
      obtain ⟨hsN, hb⟩ := tp_17 hs hN
      have k38 := hE'.2.2.2.2.2.2.2.2.1
      have e37 : ar_s N 35 (ar_u (N 35 0) 0 0) 37 0 = M 37 0 := by rw [ar_s_ne (by decide), hb 37 (by decide) (by decide)]
      obtain ⟨c1, c2⟩ := tp_cpq (M := M) (g := ar_s N 35 (ar_u (N 35 0) 0 0) 38 0) (X := M 17) hs.1
      have e7 : am_yp (M 0) (M 17) 0 7 = M 0 0 7 := ts_yp_s (by omega) (by omega)
      obtain ⟨p', ep⟩ : ∃ r : Nat, p = (r : Int) := ⟨p.toNat, by omega⟩
      subst ep
      have h7 := hG.1.1.1
      have hp4 : p' < 4 := by omega
      have hpY : 0 ≤ (p' : Int) ∧ (p' : Int) < am_yp (M 0) (M 17) 0 7 := by rw [e7]; exact h1
      obtain ⟨f1, x1, xq, _⟩ := ra_154 (E := E') (M := ar_s N 35 (ar_u (N 35 0) 0 0)) (d := 38) (u2 := none) (u3 := none) k38 c1 c2.1 hpY
      obtain ⟨m1, m2, m3, m4, T, m5, m6, m7⟩ := av_mend c2.1 hpY
      have hZ : av_hp (ay_mend (am_yp (M 0) (M 17)) p') p' := by
        refine ⟨T, m5, m6, ?_⟩
        rw [m3]
        rw [show (p' : Int).toNat = p' from rfl] at m7
        exact m7
      have hHZ : av_H (ay_mend (am_yp (M 0) (M 17)) p') := av_H_cg c2.2.1 (ay_mend_0 (by decide)) (ay_mend_0 (by decide)) (ay_mend_0 (by decide))
      have hlv := av_lv_le (Y := ay_mend (am_yp (M 0) (M 17)) p')
      obtain ⟨f2, x2, xq2⟩ := tp_191l (E := E') (N := ar_s N 35 (ar_u (N 35 0) 0 0)) (p := p') (w := w) (x3 := am_w (ay_mend (am_yp (M 0) (M 17)) p' 0 11 - am_yp (M 0) (M 17) 0 11)) (x4 := ay_mend (am_yp (M 0) (M 17)) p' 0 11) hE' hp4 24 _ f1 m1 hHZ hZ xq (by rw [ay_mend_0 (by decide), e7]; exact h1.2) (by omega)
      obtain ⟨g1, g2, g3⟩ := tp_ok (f' := f2) hsN
      refine ⟨_, ?_, g2, g3, g1⟩
      show am_den 191 (0, [some (am_A (35, 0)), some (am_I p'), some (am_I w), u3, u4], [], E', N) = _
      rw [(pre E' N hE' hb).1 h1, if_pos h2, am_B191_39 hE', tp_121 hE', am_bd_u, e37]
      simp only [Nat.reduceAdd]
      rw [am_B191_52 hE', x1, am_bd_v]
      simp only [Nat.reduceAdd]
      rw [am_B191_60 hE', ar_s_at, xq.1.2.2.2.2.1, x2, am_B191_92]
      by_cases h3 : w = 0
      · rw [if_neg (show ¬ w ≠ 0 from fun z => z h3), am_B191_96, am_B191_109, if_pos h3]
      · rw [if_pos (show w ≠ 0 from h3), am_B191_100 hE', ar_s_at, xq2.1.2.2.2.2.1, am_B191_109, if_neg h3]
    · rw [if_neg h2]
      refine ⟨M, fun _ _ => rfl, Or.inr ⟨0, rfl, by decide, fun E' N hE' hN => ?_⟩⟩
      obtain ⟨f1, f2, f3⟩ := tp_no (c := 2) (tp_44 hs hN)
      refine ⟨_, 0, ?_, f2, f3, f1⟩
      show am_den 191 (0, [some (am_A (35, 0)), some (am_I p), some (am_I w), u3, u4], [], E', N) = _
      rw [(pre E' N hE' (fun b a _ => hN b a)).1 h1, if_neg h2]
  · rw [if_neg h1]
    refine ⟨M, fun _ _ => rfl, Or.inr ⟨2, rfl, by decide, fun E' N hE' hN => ?_⟩⟩
    obtain ⟨f1, f2, f3⟩ := tp_no (c := 1) (tp_44 hs hN)
    refine ⟨_, 0, ?_, f2, f3, f1⟩
    show am_den 191 (0, [some (am_A (35, 0)), some (am_I p), some (am_I w), u3, u4], [], E', N) = _
    rw [(pre E' N hE' (fun b a _ => hN b a)).2 h1]
end TOP8
