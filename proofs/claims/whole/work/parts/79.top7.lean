/-! ===== pairs: what would be ===== -/
theorem tq_lv {Y : Nat → Int → Int} {p : Int} (hY : av_Y Y) (ht : am_gt (Y 6) 4 p ≠ -1) : av_lv (ay_burn Y p) = av_lv Y - 1 := by
  have h1 := hY.2.1.1
  have h2 := (av_burn hY ht).1.2.1.1
  have h9 := av_H9 hY
  have e9 : ay_burn Y p 0 9 = Y 0 9 + 1 := by
    have e : ay_burn Y p 0 9 = ay_bn0 Y p 0 9 := by
      unfold ay_burn
      rw [ay_rmv_fr (ay_out0 (by decide)) (by decide) (by decide)]
    rw [e]
    unfold ay_bn0 ay_bn2 ay_bn1
    split
    · rw [ay_uy_ne (Or.inr (by decide)), ay_uy_eq, am_wi (by omega) (by omega)]
    · rw [ay_uy_ne (Or.inr (by decide)), ay_uy_eq, am_wi (by omega) (by omega)]
  rw [h2, h1, e9, ay_burn_0 (by decide) ⟨by decide, by decide, by decide⟩, ay_burn_0 (by decide) ⟨by decide, by decide, by decide⟩]
  omega
theorem tq_top0 {Y : Nat → Int → Int} {p : Int} (hY : av_Y Y) (h : av_lv Y ≤ 0) : am_gt (Y 6) 4 p = -1 := by
  refine Decidable.byContradiction (fun q => ?_)
  have h1 := tq_lv hY q
  have h2 := av_lv_le (Y := ay_burn Y p)
  omega
section TOP7
variable {E : am_E} {M N : am_M} {B : Int}
theorem tp_cpq {g : Int → Int} {X : Nat → Int → Int} (h : ts B (M 0) (M 37 0)) : ra_q (rt_cp (M 37 0) g 0 0) (am_yp (M 0) X) ∧ av_G B (am_yp (M 0) X) := by
  have h1 := ts_copy (Y := X) h
  have h2 := ts_f (g := rt_cp (M 37 0) g 0 0) h1 (fun j a b => by
    have e := rt_cp_at (f := M 37 0) (g := g) (a := 0) (b := 0) ⟨a, b⟩
    rw [Int.zero_add] at e
    exact e)
  exact ⟨h2.2.1, h2.1⟩
/-- the reference's trial row is a copy -/
theorem tp_121 (hE : am_Wr E) {u : Option am_V} : am_den 121 (0, [some (am_A (37, 0)), some (am_I 0), some (am_A (38, 0)), some (am_I 0), u], [], E, N) = some (.inl none, E, ar_s N 38 (rt_cp (N 37 0) (N 38 0) 0 0)) :=
  rt_121 (by decide) hE.2.2.2.2.2.2.2.1 hE.2.2.2.2.2.2.2.2.1 (by omega) (by omega) (by omega) (by omega)
theorem tp_ok {f' : Int → Int} (h : si N B) : si (ar_s (ar_s N 35 (ar_u (N 35 0) 0 0)) 38 f') (B + 576) ∧ (ar_s (ar_s N 35 (ar_u (N 35 0) 0 0)) 38 f') 35 0 0 = 0 ∧ ∀ b, 43 < b → (ar_s (ar_s N 35 (ar_u (N 35 0) 0 0)) 38 f') b = N b := by
  obtain ⟨f1, f2, f3⟩ := tp_no (c := 0) h
  have e : ∀ b, b ≠ 38 → (ar_s (ar_s N 35 (ar_u (N 35 0) 0 0)) 38 f') b = (ar_s N 35 (ar_u (N 35 0) 0 0)) b := fun b hb => ar_s_nb hb
  exact ⟨tp_cg f1 (Int.le_refl _) (fun b a => e b (by omega)) (fun b w => e b (by omega)) (by rw [e 30 (by decide)]) (by rw [e 30 (by decide)]) (by rw [e 35 (by decide)]) (by rw [e 35 (by decide)]) (fun b w => e b (by omega)), by rw [e 35 (by decide)]; exact f2, fun b hb => by rw [e b (by omega)]; exact f3 b hb⟩
/-- only the trial yard is changed -/
theorem tp_17 {X : Nat → Int → Int} (hs : si M B) (hN : ∀ b, b ≠ 44 → N b = am_sb M 17 X b) : si N B ∧ ∀ b, b ≠ 44 → b ≠ 17 → N b = M b := by
  have e : ∀ b, b ≠ 44 → b ≠ 17 → N b = M b := fun b a c => by rw [hN b a, am_sb_ne c]
  exact ⟨tp_cg hs (Int.le_refl _) (fun b a => e b (by omega) (by omega)) (fun b w => e b (by omega) (by omega)) (by rw [e 30 (by decide) (by decide)]) (by rw [e 30 (by decide) (by decide)]) (by rw [e 35 (by decide) (by decide)]) (by rw [e 35 (by decide) (by decide)]) (fun b w => e b (by omega) (by omega)), e⟩
theorem tp_186l (hE : am_Wr E) {p w : Int} (hp0 : 0 ≤ p) : ∀ (m : Nat) (n : Int) (Y : Nat → Int → Int) (f : Int → Int), av_Y Y → av_H Y → ra_q f Y → p < Y 0 7 → av_lv Y ≤ m → 0 ≤ n → n + m < 1000 → ∃ f', am_den 186 (56, [some (am_A (35, 0)), some (am_I p), some (am_I w), some (am_I n)], [], E, ar_s N 38 f) = some (.inl (some (am_I (ac_dt m Y p w n))), E, ar_s N 38 f') := by
  have k38 := hE.2.2.2.2.2.2.2.2.1
  intro m
  induction m with
  | zero =>
    intro n Y f hY hH hq hp hl n0 n1
    have ht := tq_top0 (p := p) hY (by omega)
    have hw : ay_why Y p = 1 := by rw [ay_why, if_pos ht]
    refine ⟨f, ?_⟩
    rw [am_B186_56 hE, ra_146s k38 hq hY hp0 hp, am_bd_v, hw]
    simp only [Nat.reduceAdd]
    rw [am_B186_64, if_pos (by decide), am_B186_101]
    rfl
  | succ m ih =>
    intro n Y f hY hH hq hp hl n0 n1
    rw [am_B186_56 hE, ra_146s k38 hq hY hp0 hp, am_bd_v, ac_dt]
    simp only [Nat.reduceAdd]
    rw [am_B186_64]
    by_cases q1 : ay_why Y p = 0
    · have htop := (av_why0 q1).1
      obtain ⟨t1, t2, t3, t4⟩ := av_top_in hY htop
      have hv := ra_lv hY.1 t2.1 t2.2 (by rw [t3]; omega)
      have etd : ay_td Y p = Y 1 (Y 6 p) := by
        unfold ay_td
        rw [at_gt (f := Y 6) (by omega), at_gt (by omega)]
      rw [if_neg (show ¬ ay_why Y p ≠ 0 from fun z => z q1), am_B186_67 hE, ar_125 k38 t1, am_bd_v, ar_s_at, (hq.2.1 p hp0 hp).1]
      simp only [Nat.reduceAdd]
      rw [am_B186_79, ra_123 k38 t2 (by omega), am_bd_v, (hq.2.2.1 (Y 6 p) t2.1 hv.1).1, ← etd]
      simp only [Nat.reduceAdd]
      rw [am_B186_83]
      by_cases q2 : ay_td Y p ≤ w
      · obtain ⟨f1, e1, hq1, _⟩ := ra_147 (M := N) (d := 38) (u1 := none) (u2 := none) k38 hq hY (av_Hh hY hH) htop
        have hl2 := tq_lv hY htop
        obtain ⟨f', e'⟩ := ih (n + 1) (ay_burn Y p) f1 (av_burn hY htop).1 (av_Hburn hY hH htop).1 hq1 (by rw [ay_burn_0 (by decide) ⟨by decide, by decide, by decide⟩]; exact hp) (by omega) (by omega) (by omega)
        refine ⟨f', ?_⟩
        rw [if_neg (by omega), am_B186_87 hE, e1, am_bd_u, if_pos ⟨q1, q2⟩]
        simp only [Nat.reduceAdd]
        rw [am_B186_95, am_wi (by omega) (by omega), e']
      · refine ⟨f, ?_⟩
        rw [if_pos (by omega), am_B186_101, if_neg (fun z => q2 z.2)]
    · refine ⟨f, ?_⟩
      rw [if_pos (show ay_why Y p ≠ 0 from q1), am_B186_101, if_neg (fun z => q1 z.1)]
theorem tp_drawsTill (hE : am_Wr E) (hs : si M B) {p w : Int} {u1 u2 u3 u4 : Option am_V} : tq E M B (fun x => if x = 2 then 1 else if x = 0 then 2 else 0) (am_den 87 (0, [some (am_A (34, 0)), some (am_I p), some (am_I w), u1, u2, u3], [], E, M)) (fun E' N => am_den 186 (0, [some (am_A (35, 0)), some (am_I p), some (am_I w), u4], [], E', N)) := by
  obtain ⟨hG, hq, h8⟩ := hs.1
  rw [ac_87 hE]
  have pre : ∀ (E' : am_E) (N : am_M), am_Wr E' → (∀ b, b ≠ 44 → b ≠ 17 → N b = M b) → (ac_hp M p → am_den 186 (0, [some (am_A (35, 0)), some (am_I p), some (am_I w), u4], [], E', N) = (if 0 ≤ w ∧ w ≤ 99 then am_den 186 (41, [some (am_A (35, 0)), some (am_I p), some (am_I w), u4], [], E', ar_s N 35 (ar_u (N 35 0) 0 0)) else some (.inl (some (am_I 0)), E', ar_s N 35 (ar_u (N 35 0) 0 2)))) ∧ (¬ ac_hp M p → am_den 186 (0, [some (am_A (35, 0)), some (am_I p), some (am_I w), u4], [], E', N) = some (.inl (some (am_I 0)), E', ar_s N 35 (ar_u (N 35 0) 0 1))) := by
    intro E' N hE' hN
    have k37 := hE'.2.2.2.2.2.2.2.1
    have qN : ra_q (N 37 0) (M 0) := by rw [hN 37 (by decide) (by decide)]; exact hq
    refine ⟨fun h1 => ?_, fun h1 => ?_⟩
    · rw [am_B186_0 hE', ra_127 (Y := M 0) (p := p) k37 qN hG.1.1, am_bd_v]
      simp only [Nat.reduceAdd]
      rw [am_B186_9, if_pos (show am_b (0 ≤ p ∧ p < M 0 0 7) ≠ 0 by rw [ne_eq, am_b_0]; exact fun z => z h1), am_B186_16, ar_120, am_bd_v]
      simp only [Nat.reduceAdd]
      rw [am_B186_25]
      by_cases h2 : 0 ≤ w ∧ w ≤ 99
      · rw [if_neg (show ¬ am_b (0 ≤ w ∧ w ≤ 99) = 0 by rw [am_b_0]; exact fun z => z h2), am_B186_28, am_B186_33 hE', tp_119 hE', am_bd_v, if_pos h2]
        simp only [Nat.reduceAdd]
        rw [am_B186_36, if_pos (by rw [am_b_0]; decide)]
      · rw [if_pos (show am_b (0 ≤ w ∧ w ≤ 99) = 0 by rw [am_b_0]; exact h2), am_B186_32, am_B186_33 hE', tp_119 hE', am_bd_v, if_neg h2]
        simp only [Nat.reduceAdd]
        rw [am_B186_36, if_neg (by rw [am_b_0]; decide), am_B186_39]
    · rw [am_B186_0 hE', ra_127 (Y := M 0) (p := p) k37 qN hG.1.1, am_bd_v]
      simp only [Nat.reduceAdd]
      rw [am_B186_9, if_neg (show ¬ am_b (0 ≤ p ∧ p < M 0 0 7) ≠ 0 by rw [ne_eq, am_b_0]; exact fun z => z h1), am_B186_12, am_B186_33 hE', tp_119 hE', am_bd_v]
      simp only [Nat.reduceAdd]
      rw [am_B186_36, if_neg (by rw [am_b_0]; decide), am_B186_39]
  by_cases h1 : ac_hp M p
  · rw [if_pos h1]
    by_cases h2 : 0 ≤ w ∧ w ≤ 99
    · rw [if_pos h2]
      refine ⟨am_sb M 17 (ac_de 24 (ac_cp M) p w), fun b hb => am_sb_ne (by omega), Or.inl ⟨_, rfl, fun E' N hE' hN => ?_⟩⟩
      obtain ⟨hsN, hb⟩ := tp_17 hs hN
      have e37 : ar_s N 35 (ar_u (N 35 0) 0 0) 37 0 = M 37 0 := by rw [ar_s_ne (by decide), hb 37 (by decide) (by decide)]
      obtain ⟨c1, c2⟩ := tp_cpq (M := M) (g := ar_s N 35 (ar_u (N 35 0) 0 0) 38 0) (X := M 17) hs.1
      have hlv := av_lv_le (Y := ac_cp M)
      obtain ⟨f', e'⟩ := tp_186l (E := E') (N := ar_s N 35 (ar_u (N 35 0) 0 0)) (w := w) hE' h1.1 24 0 (ac_cp M) _ c2.1 c2.2.1 c1 (by rw [show ac_cp M 0 7 = M 0 0 7 from ts_yp_s (by omega) (by omega)]; exact h1.2) (by omega) (by decide) (by decide)
      obtain ⟨f1, f2, f3⟩ := tp_ok (f' := f') hsN
      refine ⟨_, ?_, f2, f3, f1⟩
      show am_den 186 (0, [some (am_A (35, 0)), some (am_I p), some (am_I w), u4], [], E', N) = _
      rw [(pre E' N hE' hb).1 h1, if_pos h2, am_B186_41 hE', tp_121 hE', am_bd_u, e37]
      simp only [Nat.reduceAdd]
      rw [am_B186_54]
      exact e'
    · rw [if_neg h2]
      refine ⟨M, fun _ _ => rfl, Or.inr ⟨0, rfl, by decide, fun E' N hE' hN => ?_⟩⟩
      obtain ⟨f1, f2, f3⟩ := tp_no (c := 2) (tp_44 hs hN)
      refine ⟨_, 0, ?_, f2, f3, f1⟩
      show am_den 186 (0, [some (am_A (35, 0)), some (am_I p), some (am_I w), u4], [], E', N) = _
      rw [(pre E' N hE' (fun b a _ => hN b a)).1 h1, if_neg h2]
  · rw [if_neg h1]
    refine ⟨M, fun _ _ => rfl, Or.inr ⟨2, rfl, by decide, fun E' N hE' hN => ?_⟩⟩
    obtain ⟨f1, f2, f3⟩ := tp_no (c := 1) (tp_44 hs hN)
    refine ⟨_, 0, ?_, f2, f3, f1⟩
    show am_den 186 (0, [some (am_A (35, 0)), some (am_I p), some (am_I w), u4], [], E', N) = _
    rw [(pre E' N hE' (fun b a _ => hN b a)).2 h1]
theorem tp_ifJoined (hE : am_Wr E) (hs : si M B) {p q : Int} : tq E M B (fun x => if x = 2 then 1 else if x = 0 then 2 else 0) (am_den 88 (0, [some (am_A (34, 0)), some (am_I p), some (am_I q)], [], E, M)) (fun E' N => am_den 187 (0, [some (am_A (35, 0)), some (am_I p), some (am_I q)], [], E', N)) := by
  obtain ⟨hG, hq, h8⟩ := hs.1
  rw [ac_88 hE]
  have no : ∀ (E' : am_E) (N : am_M), am_Wr E' → (∀ b, b ≠ 44 → N b = M b) → ¬(ac_hp M p ∧ ac_hp M q) → am_den 187 (0, [some (am_A (35, 0)), some (am_I p), some (am_I q)], [], E', N) = some (.inl (some (am_I 0)), E', ar_s N 35 (ar_u (N 35 0) 0 1)) := by
    intro E' N hE' hN h
    have k37 := hE'.2.2.2.2.2.2.2.1
    have qN : ra_q (N 37 0) (M 0) := by rw [hN 37 (by decide)]; exact hq
    have fin : am_den 187 (23, [some (am_A (35, 0)), some (am_I p), some (am_I q)], [am_A (35, 0)], E', N) = some (.inl (some (am_I 0)), E', ar_s N 35 (ar_u (N 35 0) 0 1)) := by
      rw [am_B187_23, am_B187_37 hE', tp_119 hE', am_bd_v]
      simp only [Nat.reduceAdd]
      rw [am_B187_40, if_neg (by rw [am_b_0]; decide), am_B187_43]
    rw [am_B187_0 hE', ra_127 (Y := M 0) (p := p) k37 qN hG.1.1, am_bd_v]
    simp only [Nat.reduceAdd]
    rw [am_B187_9]
    by_cases h1 : ac_hp M p
    · rw [if_neg (show ¬ am_b (0 ≤ p ∧ p < M 0 0 7) = 0 by rw [am_b_0]; exact fun z => z h1), am_B187_12 hE', ra_127 (Y := M 0) (p := q) k37 qN hG.1.1, am_bd_v]
      simp only [Nat.reduceAdd]
      rw [am_B187_20, if_neg (show ¬ am_b (0 ≤ q ∧ q < M 0 0 7) ≠ 0 by rw [ne_eq, am_b_0]; exact fun z => z (fun h2 => h ⟨h1, h2⟩))]
      exact fin
    · rw [if_pos (show am_b (0 ≤ p ∧ p < M 0 0 7) = 0 by rw [am_b_0]; exact h1)]
      exact fin
  have yes : ∀ (E' : am_E) (N : am_M), am_Wr E' → (∀ b, b ≠ 44 → b ≠ 17 → N b = M b) → (ac_hp M p ∧ ac_hp M q) → am_den 187 (0, [some (am_A (35, 0)), some (am_I p), some (am_I q)], [], E', N) = if p ≠ q then am_den 187 (45, [some (am_A (35, 0)), some (am_I p), some (am_I q)], [], E', ar_s N 35 (ar_u (N 35 0) 0 0)) else some (.inl (some (am_I 0)), E', ar_s N 35 (ar_u (N 35 0) 0 2)) := by
    intro E' N hE' hN h
    have k37 := hE'.2.2.2.2.2.2.2.1
    have qN : ra_q (N 37 0) (M 0) := by rw [hN 37 (by decide) (by decide)]; exact hq
    rw [am_B187_0 hE', ra_127 (Y := M 0) (p := p) k37 qN hG.1.1, am_bd_v]
    simp only [Nat.reduceAdd]
    rw [am_B187_9, if_neg (show ¬ am_b (0 ≤ p ∧ p < M 0 0 7) = 0 by rw [am_b_0]; exact fun z => z h.1), am_B187_12 hE', ra_127 (Y := M 0) (p := q) k37 qN hG.1.1, am_bd_v]
    simp only [Nat.reduceAdd]
    rw [am_B187_20, if_pos (show am_b (0 ≤ q ∧ q < M 0 0 7) ≠ 0 by rw [ne_eq, am_b_0]; exact fun z => z h.2), am_B187_27]
    by_cases h3 : p ≠ q
    · rw [if_pos h3, if_pos h3, am_B187_36, am_B187_37 hE', tp_119 hE', am_bd_v]
      simp only [Nat.reduceAdd]
      rw [am_B187_40, if_pos (by rw [am_b_0]; decide)]
    · rw [if_neg h3, if_neg h3, am_B187_32, am_B187_37 hE', tp_119 hE', am_bd_v]
      simp only [Nat.reduceAdd]
      rw [am_B187_40, if_neg (by rw [am_b_0]; decide), am_B187_43]
  by_cases h1 : ac_hp M p ∧ ac_hp M q
  · rw [if_pos h1]
    by_cases h3 : p ≠ q
    · rw [if_pos h3]
      refine ⟨am_sb M 17 (ay_jp (ac_cp M) p q), fun b hb => am_sb_ne (by omega), Or.inl ⟨_, rfl, fun E' N hE' hN => ?_⟩⟩
      obtain ⟨hsN, hb⟩ := tp_17 hs hN
      have k38 := hE'.2.2.2.2.2.2.2.2.1
      have e37 : ar_s N 35 (ar_u (N 35 0) 0 0) 37 0 = M 37 0 := by rw [ar_s_ne (by decide), hb 37 (by decide) (by decide)]
      obtain ⟨c1, c2⟩ := tp_cpq (M := M) (g := ar_s N 35 (ar_u (N 35 0) 0 0) 38 0) (X := M 17) hs.1
      have e7 : am_yp (M 0) (M 17) 0 7 = M 0 0 7 := ts_yp_s (by omega) (by omega)
      obtain ⟨f', e', _, _⟩ := ra_150 (E := E') (M := ar_s N 35 (ar_u (N 35 0) 0 0)) (d := 38) (u1 := none) (u2 := none) k38 c1 c2.1 (by rw [e7]; exact h1.1) (by rw [e7]; exact h1.2) h3
      obtain ⟨f1, f2, f3⟩ := tp_ok (f' := f') hsN
      refine ⟨_, ?_, f2, f3, f1⟩
      show am_den 187 (0, [some (am_A (35, 0)), some (am_I p), some (am_I q)], [], E', N) = _
      rw [yes E' N hE' hb h1, if_pos h3, am_B187_45 hE', tp_121 hE', am_bd_u, e37]
      simp only [Nat.reduceAdd]
      rw [am_B187_58 hE', e', am_bd_v]
      simp only [Nat.reduceAdd]
      rw [am_B187_67]
    · rw [if_neg h3]
      refine ⟨M, fun _ _ => rfl, Or.inr ⟨0, rfl, by decide, fun E' N hE' hN => ?_⟩⟩
      obtain ⟨f1, f2, f3⟩ := tp_no (c := 2) (tp_44 hs hN)
      refine ⟨_, 0, ?_, f2, f3, f1⟩
      show am_den 187 (0, [some (am_A (35, 0)), some (am_I p), some (am_I q)], [], E', N) = _
      rw [yes E' N hE' (fun b a _ => hN b a) h1, if_neg h3]
  · rw [if_neg h1]
    refine ⟨M, fun _ _ => rfl, Or.inr ⟨2, rfl, by decide, fun E' N hE' hN => ?_⟩⟩
    obtain ⟨f1, f2, f3⟩ := tp_no (c := 1) (tp_44 hs hN)
    exact ⟨_, 0, no E' N hE' hN h1, f2, f3, f1⟩
end TOP7
