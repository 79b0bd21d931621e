/-! ===== pairs: scripts, the whole ===== -/
section TOP12
variable {E : am_E} {M N : am_M} {B : Int} {Y Z : Nat → Int → Int} {f f' : Int → Int} {g : Int}
theorem tr_ldv {k pc : Nat} {ls : List (Option am_V)} {st : List am_V} {a b : Int} (F : am_fetch k pc = some (.ldiv, 1)) (hb : b ≠ 0) : am_den k (pc, ls, am_J b :: am_J a :: st, E, M) = am_den k (pc + 1, ls, am_J (am_W (a.tdiv b)) :: st, E, M) :=
  am_den_go (by simp [am_stp, F, am_jp, am_ln, am_op, am_dl2, hb])
set_option maxRecDepth 20000 in theorem tr_B92 (hE : am_Wr E) {n x d x6 : Int} {u7 : Option am_V} (hd : am_W (d.tdiv 100000) ≠ 0) : am_den 194 (92, [some (am_A (35, 0)), some (am_I n), some (am_J x), none, some (am_J d), none, some (am_I x6), u7], [], E, M) =
    am_bd 194 124 [some (am_A (35, 0)), some (am_I n), some (am_J x), none, some (am_J (am_W (d.tdiv 100000))), none, some (am_I x6), some (am_I (am_w ((am_W (x.tdiv (am_W (d.tdiv 100000)))).tmod 100000)))] [] (am_den 193 (0, [some (am_A (35, 0)), some (am_I (am_w ((am_w ((am_W (x.tdiv (am_W (d.tdiv 100000)))).tmod 100000)).tdiv 10000))), some (am_I ((am_w ((am_W (x.tdiv (am_W (d.tdiv 100000)))).tmod 100000)).tmod 10000)), none, none, none, none, none, none], [], E, M)) :=
  (am_den_n (c' := (94, [some (am_A (35, 0)), some (am_I n), some (am_J x), none, some (am_J d), none, some (am_I x6), u7], [am_J d], E, M)) 1 rfl).trans <|
  (am_d_ldc (z := 100000) (show am_fetch 194 94 = some (.ldc2_w 228, 3) from by decide +kernel) (show am_kl 194 228 = some 100000 from by decide +kernel)).trans <|
  (am_den_n (c' := (103, [some (am_A (35, 0)), some (am_I n), some (am_J x), none, some (am_J (am_W (d.tdiv 100000))), none, some (am_I x6), u7], [am_J (am_W (d.tdiv 100000)), am_J x], E, M)) 4 rfl).trans <|
  (tr_ldv (show am_fetch 194 103 = some (.ldiv, 1) from by decide +kernel) hd).trans <|
  (am_d_ldc (z := 100000) (show am_fetch 194 104 = some (.ldc2_w 228, 3) from by decide +kernel) (show am_kl 194 228 = some 100000 from by decide +kernel)).trans <|
  (am_den_n (c' := (124, [some (am_A (35, 0)), some (am_I n), some (am_J x), none, some (am_J (am_W (d.tdiv 100000))), none, some (am_I x6), some (am_I (am_w ((am_W (x.tdiv (am_W (d.tdiv 100000)))).tmod 100000)))], [am_I ((am_w ((am_W (x.tdiv (am_W (d.tdiv 100000)))).tmod 100000)).tmod 10000), am_I (am_w ((am_w ((am_W (x.tdiv (am_W (d.tdiv 100000)))).tmod 100000)).tdiv 10000)), am_A (35, 0)], E, M)) 10 rfl).trans <|
  am_d_iv (ls := [some (am_A (35, 0)), some (am_I n), some (am_J x), none, some (am_J (am_W (d.tdiv 100000))), none, some (am_I x6), some (am_I (am_w ((am_W (x.tdiv (am_W (d.tdiv 100000)))).tmod 100000)))]) (M := M) (show am_fetch 194 124 = some (.invokevirtual 232, 3) from by decide +kernel) (Or.inr (Or.inl ⟨_, rfl⟩)) (am_iv_v (st := [am_I ((am_w ((am_W (x.tdiv (am_W (d.tdiv 100000)))).tmod 100000)).tmod 10000), am_I (am_w ((am_w ((am_W (x.tdiv (am_W (d.tdiv 100000)))).tmod 100000)).tdiv 10000)), am_A (35, 0)]) (as := [am_I (am_w ((am_w ((am_W (x.tdiv (am_W (d.tdiv 100000)))).tmod 100000)).tdiv 10000)), am_I ((am_w ((am_W (x.tdiv (am_W (d.tdiv 100000)))).tmod 100000)).tmod 10000)]) (rest := []) (idx := 232) (t := 193) (n := 3) (c := 5) rfl rfl rfl rfl rfl rfl rfl rfl rfl hE.2.2.2.2.2.1.1)
theorem tr_G (hB : B < 2147000000) (h : av_G B Y) : av_G (B + 576) (ad_do Y g).2 := by
  have w : av_G (B + 576) Y := ⟨h.1, h.2.1, h.2.2.1, by have := h.2.2.2; omega⟩
  have o : ∀ (c : Prop) [Decidable c] (k a e : Int), av_G (B + 576) (ad_ob Y c k a e).2 := by
    intro c _ k a e
    unfold ad_ob
    split
    · exact (av_Gob hB h).1
    · exact w
  unfold ad_do
  repeat' split
  all_goals first | exact o _ _ _ _ | exact w
theorem tr_pw {m : Nat} (hm : m ≤ 2) : am_W (((100000 : Int) ^ (m + 1)).tdiv 100000) = 100000 ^ m ∧ am_W ((100000 : Int) ^ m * 100000) = 100000 ^ (m + 1) := by
  have h : m = 0 ∨ m = 1 ∨ m = 2 := by omega
  rcases h with h | h | h <;> subst h <;> decide +kernel
theorem tr_0 {n x : Int} {u7 : Option am_V} : ∀ (m i : Nat), i + m = 3 → ((i : Int) ≤ n ∨ i = 0) → ∃ d x6, am_den 194 (6, [some (am_A (35, 0)), some (am_I n), some (am_J x), none, some (am_J (100000 ^ i)), none, some (am_I i), u7], [], E, N) = am_den 194 (32, [some (am_A (35, 0)), some (am_I n), some (am_J x), none, some (am_J d), none, some (am_I x6), u7], [], E, N) ∧ ((1 ≤ n ∧ n ≤ 3) → d = 100000 ^ n.toNat) := by
  intro m
  induction m with
  | zero =>
    intro i h hi
    have e3 : i = 3 := by omega
    by_cases q : n ≤ (i : Int)
    · refine ⟨100000 ^ i, i, by rw [am_B194_6, if_pos q], fun z => ?_⟩
      rw [show n.toNat = i by omega]
    · refine ⟨100000 ^ i, i, by rw [am_B194_6, if_neg q, am_B194_12, if_pos (by omega)], fun z => ?_⟩
      omega
  | succ m ih =>
    intro i h hi
    by_cases q : n ≤ (i : Int)
    · refine ⟨100000 ^ i, i, by rw [am_B194_6, if_pos q], fun z => ?_⟩
      rw [show n.toNat = i by omega]
    · obtain ⟨d, x6, e, hd⟩ := ih (i + 1) (by omega) (by omega)
      refine ⟨d, x6, ?_, hd⟩
      have w1 : am_w ((i : Int) + 1) = ((i + 1 : Nat) : Int) := by rw [am_wi (by omega) (by omega)]; omega
      rw [am_B194_6, if_neg q, am_B194_12, if_neg (by omega), am_B194_18, (tr_pw (by omega)).2, w1]
      exact e
theorem tr_194l (hE : am_Wr E) {n x : Int} (hx : 0 ≤ x ∧ x < 9223372036854775808) : ∀ (m i : Nat) (Y : Nat → Int → Int) (f : Int → Int) (B : Int) (u7 : Option am_V), n ≤ 3 → (i : Int) + m = n → B + 576 * m < 2147000000 → av_G B Y → ra_q f Y → ∃ f', am_den 194 (86, [some (am_A (35, 0)), some (am_I n), some (am_J x), none, some (am_J (100000 ^ m)), none, some (am_I i), u7], [], E, ar_s N 38 f) = some (.inl (some (am_I (ad_rs m Y x i).1)), E, ar_s N 38 f') := by
  intro m
  induction m with
  | zero =>
    intro i Y f B u7 _ h _ _ _
    have b1 : n ≤ (i : Int) := by omega
    exact ⟨f, by rw [am_B194_86, if_pos b1, am_B194_139, ad_rs]⟩
  | succ m ih =>
    intro i Y f B u7 hm h hB hG hq
    have b0 : m ≤ 2 := by omega
    have b1 : ¬ n ≤ (i : Int) := by omega
    have b2 : B < 2147000000 := by omega
    have b3 : B + 576 + 576 * (m : Int) < 2147000000 := by omega
    have b5 : ((i + 1 : Nat) : Int) + m = n := by omega
    have w1 : am_w ((i : Int) + 1) = ((i + 1 : Nat) : Int) := by
      rw [am_wi (by omega) (by omega)]
      omega
    have w2 : ((i + 1 : Nat) : Int) = (i : Int) + 1 := by omega
    have pw := (tr_pw (m := m) b0).1
    have hp : (0 : Int) < 100000 ^ m := Int.pow_pos (by decide)
    have d1 : x / 100000 ^ m ≤ x := Int.ediv_le_self _ hx.1
    have d0 : 0 ≤ x / 100000 ^ m := Int.ediv_nonneg hx.1 (by omega)
    have eW : am_W (x.tdiv (100000 ^ m)) = x / 100000 ^ m := by
      rw [Int.tdiv_eq_ediv_of_nonneg hx.1]
      generalize x / 100000 ^ m = y at *
      unfold am_W
      rw [Int.bmod_def]
      omega
    have eG : am_w ((x / 100000 ^ m).tmod 100000) = x / 100000 ^ m % 100000 := by rw [ad_wm d0, am_wi (by omega) (by omega)]
    rw [am_B194_86, if_neg b1, tr_B92 hE (by rw [pw]; exact Int.ne_of_gt hp), pw, eW, eG, ad_rs]
    obtain ⟨G, eqG⟩ : ∃ G, x / 100000 ^ m % 100000 = G := ⟨_, rfl⟩
    have hg : 0 ≤ G ∧ G < 100000 := by
      rw [← eqG]
      exact ⟨Int.emod_nonneg _ (by decide), Int.emod_lt_of_pos _ (by decide)⟩
    rw [eqG, ad_wd hg (by decide), ad_wm hg.1]
    obtain ⟨f1, e1, q1⟩ := tr_193 (N := N) hE hq hG b2 hg (u3 := none) (u4 := none) (u5 := none) (u6 := none) (u7 := none) (u8 := none)
    rw [e1, am_bd_v]
    simp only [Nat.reduceAdd]
    rw [am_B194_127]
    by_cases h2 : (ad_do Y G).1 = 0
    · exact ⟨f1, by rw [if_neg (fun z => z h2), am_B194_130, if_pos h2]⟩
    · obtain ⟨f2, e2⟩ := ih (i + 1) (ad_do Y G).2 f1 (B + 576) (some (am_I G)) hm b5 b3 (tr_G b2 hG) q1
      rw [if_pos h2, am_B194_133, w1, if_neg h2]
      refine ⟨f2, ?_⟩
      rw [w2] at e2
      rw [w2]
      exact e2
theorem tp_runScript (hE : am_Wr E) (hs : si M B) (hB : B < 2140000000) {n x : Int} (h1 : x < 9223372036854775808) {u1 u2 u3 u4 u5 u6 u7 : Option am_V} : tq E M B (fun x => if x = 0 then 1 else 0) (am_den 92 (0, [some (am_A (34, 0)), some (am_I n), some (am_J x), none, u1, u2, u3], [], E, M)) (fun E' N => am_den 194 (0, [some (am_A (35, 0)), some (am_I n), some (am_J x), none, u4, u5, u6, u7], [], E', N)) := by
  obtain ⟨hG, hq, h8⟩ := hs.1
  have c7 := (tp_cpq (M := M) (g := M 38 0) (X := M 17) hs.1).2.1.1.1
  rw [ad_92 hE c7 h1]
  have pre : ∀ (E' : am_E) (N : am_M), am_Wr E' → ∃ d x6, am_den 194 (0, [some (am_A (35, 0)), some (am_I n), some (am_J x), none, u4, u5, u6, u7], [], E', N) = am_den 194 (62, [some (am_A (35, 0)), some (am_I n), some (am_J x), none, some (am_J d), none, some (am_I x6), u7], [am_I (1 - am_b ((1 ≤ n ∧ n ≤ 3) ∧ (0 ≤ x ∧ x / 100000 ^ n.toNat = 0))), am_A (35, 0)], E', N) ∧ ((1 ≤ n ∧ n ≤ 3) → d = 100000 ^ n.toNat) := by
    intro E' N hE'
    obtain ⟨d, x6, e, hd⟩ := tr_0 (E := E') (N := N) (n := n) (x := x) (u7 := u7) 3 0 rfl (Or.inr rfl)
    refine ⟨d, x6, ?_, hd⟩
    have bad : ¬ ((1 ≤ n ∧ n ≤ 3) ∧ (0 ≤ x ∧ x / 100000 ^ n.toNat = 0)) → am_den 194 (61, [some (am_A (35, 0)), some (am_I n), some (am_J x), none, some (am_J d), none, some (am_I x6), u7], [am_A (35, 0)], E', N) = am_den 194 (62, [some (am_A (35, 0)), some (am_I n), some (am_J x), none, some (am_J d), none, some (am_I x6), u7], [am_I (1 - am_b ((1 ≤ n ∧ n ≤ 3) ∧ (0 ≤ x ∧ x / 100000 ^ n.toNat = 0))), am_A (35, 0)], E', N) := by
      intro z
      rw [am_B194_61, show am_b ((1 ≤ n ∧ n ≤ 3) ∧ (0 ≤ x ∧ x / 100000 ^ n.toNat = 0)) = 0 by rw [am_b_0]; exact z]
      rfl
    have e' : am_den 194 (6, [some (am_A (35, 0)), some (am_I n), some (am_J x), none, some (am_J 1), none, some (am_I 0), u7], [], E', N) = am_den 194 (32, [some (am_A (35, 0)), some (am_I n), some (am_J x), none, some (am_J d), none, some (am_I x6), u7], [], E', N) := e
    rw [am_B194_0, e', am_B194_32, ar_120, am_bd_v]
    simp only [Nat.reduceAdd]
    rw [am_B194_42]
    by_cases a1 : 1 ≤ n ∧ n ≤ 3
    · rw [if_neg (show ¬ am_b (1 ≤ n ∧ n ≤ 3) = 0 by rw [am_b_0]; exact fun z => z a1), am_B194_45, ar_120, am_bd_v]
      simp only [Nat.reduceAdd]
      rw [am_B194_54]
      have hp : (0 : Int) < d := by rw [hd a1]; exact Int.pow_pos (by decide)
      have hp2 : d ≤ 1000000000000000 := by
        rw [hd a1]
        have h : n = 1 ∨ n = 2 ∨ n = 3 := by omega
        rcases h with h | h | h <;> subst h <;> decide +kernel
      have eW : am_W (d - 1) = d - 1 := by
        unfold am_W
        rw [Int.bmod_def]
        omega
      have key : (0 ≤ x ∧ x ≤ am_W (d - 1)) ↔ (0 ≤ x ∧ x / 100000 ^ n.toNat = 0) := by
        rw [eW, ← hd a1]
        constructor
        · intro z
          exact ⟨z.1, Int.ediv_eq_zero_of_lt z.1 (by omega)⟩
        · intro z
          refine ⟨z.1, ?_⟩
          have := Int.lt_ediv_add_one_mul_self x hp
          rw [z.2] at this
          omega
      by_cases a2 : 0 ≤ x ∧ x / 100000 ^ n.toNat = 0
      · rw [if_neg (show ¬ am_b (0 ≤ x ∧ x ≤ am_W (d - 1)) = 0 by rw [am_b_0]; exact fun z => z (key.mpr a2)), am_B194_57, show am_b ((1 ≤ n ∧ n ≤ 3) ∧ (0 ≤ x ∧ x / 100000 ^ n.toNat = 0)) = 1 by rw [am_b_1]; exact ⟨a1, a2⟩]
        rfl
      · rw [if_pos (show am_b (0 ≤ x ∧ x ≤ am_W (d - 1)) = 0 by rw [am_b_0]; exact fun z => a2 (key.mp z))]
        exact bad (fun z => a2 z.2)
    · rw [if_pos (show am_b (1 ≤ n ∧ n ≤ 3) = 0 by rw [am_b_0]; exact a1)]
      exact bad (fun z => a1 z.1)
  by_cases h2 : (1 ≤ n ∧ n ≤ 3) ∧ (0 ≤ x ∧ x / 100000 ^ n.toNat = 0)
  · rw [if_pos h2]
    refine ⟨_, fun b hb => am_sb_ne (by omega), Or.inl ⟨_, rfl, fun E' N hE' hN => ?_⟩⟩
    obtain ⟨hsN, hb⟩ := tp_17 hs hN
    have e37 : ar_s N 35 (ar_u (N 35 0) 0 0) 37 0 = M 37 0 := by rw [ar_s_ne (by decide), hb 37 (by decide) (by decide)]
    obtain ⟨d, x6, ep, hd⟩ := pre E' N hE'
    obtain ⟨c1, c2⟩ := tp_cpq (M := M) (g := ar_s N 35 (ar_u (N 35 0) 0 0) 38 0) (X := M 17) hs.1
    obtain ⟨f', ef⟩ := tr_194l (N := ar_s N 35 (ar_u (N 35 0) 0 0)) (x := x) (n := n) hE' ⟨h2.2.1, h1⟩ n.toNat 0 (am_yp (M 0) (M 17)) _ B u7 h2.1.2 (by omega) (by omega) c2 c1
    obtain ⟨f1, f2, f3⟩ := tp_ok (f' := f') hsN
    refine ⟨_, ?_, f2, f3, f1⟩
    show am_den 194 (0, [some (am_A (35, 0)), some (am_I n), some (am_J x), none, u4, u5, u6, u7], [], E', N) = _
    rw [ep, show am_b ((1 ≤ n ∧ n ≤ 3) ∧ (0 ≤ x ∧ x / 100000 ^ n.toNat = 0)) = 1 by rw [am_b_1]; exact h2, am_B194_62 hE', tp_119 hE', am_bd_v]
    simp only [Nat.reduceAdd]
    rw [am_B194_65, if_pos (by rw [am_b_0]; decide), am_B194_70 hE', show (1 : Int) - 1 = 0 from rfl, tp_121 hE', am_bd_u]
    simp only [Nat.reduceAdd]
    rw [am_B194_83, hd h2.1, e37]
    exact ef
  · rw [if_neg h2]
    refine ⟨M, fun _ _ => rfl, Or.inr ⟨0, rfl, by decide, fun E' N hE' hN => ?_⟩⟩
    obtain ⟨f1, f2, f3⟩ := tp_no (c := 1) (tp_44 hs hN)
    obtain ⟨d, x6, ep, hd⟩ := pre E' N hE'
    refine ⟨_, 0, ?_, f2, f3, f1⟩
    show am_den 194 (0, [some (am_A (35, 0)), some (am_I n), some (am_J x), none, u4, u5, u6, u7], [], E', N) = _
    rw [ep, show am_b ((1 ≤ n ∧ n ≤ 3) ∧ (0 ≤ x ∧ x / 100000 ^ n.toNat = 0)) = 0 by rw [am_b_0]; exact h2, am_B194_62 hE', show (1 : Int) - 0 = 1 from rfl, tp_119 hE', am_bd_v]
    simp only [Nat.reduceAdd]
    rw [am_B194_65, if_neg (by rw [am_b_0]; decide), am_B194_68]
end TOP12
