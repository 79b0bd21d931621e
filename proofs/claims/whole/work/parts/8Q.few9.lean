/-! ===== fewestLifts: the reference's loops ===== -/
theorem fw_jh {D : Int → Int} {C : Int} {T : Nat → at_T} {Y : Nat → Int → Int} (h : fw_g D C T Y) {p q : Nat} (hp : p < 4) (hq : q < 4) (hpq : p ≠ q) (hC : C + 24 < 2147483648) : fw_g D (C + 24) (fw_t D T p q) (ay_jp Y p q) ∧ ay_jp Y p q 0 11 = Y 0 11 + (at_co D 24 (T p) (T q) : Int) := by
  obtain ⟨h1, h2, h3, h4⟩ := h
  obtain ⟨j1, _, j3, _⟩ := av_jp h1 hp hq hpq
  obtain ⟨d1, d2⟩ := fw_td h1 h2 hp hq
  have hc := at_co_le (D := D) 24 (T p) (T q)
  rw [d2, at_lf_eq _ _ h3 (by omega)] at j3
  rw [show av_up (av_up T p (at_jn (Y 1) 24 (T p) (T q))) q (.leaf ()) = fw_t D T p q from d1] at j1
  refine ⟨⟨j1, fun x a b => ?_, by omega, by omega⟩, j3⟩
  rw [fw_jp1]
  exact h2 x a b
theorem fr_rs_in {g p q : Nat} : ∀ n : Nat, fr_rs g p q n = -1 ∨ ((0 ≤ fr_rs g p q n ∧ fr_rs g p q n < n) ∧ fr_rs g p q n ≠ p) := by
  intro n
  induction n with
  | zero => exact Or.inl rfl
  | succ n ih =>
    rw [fr_rs]
    split <;> omega
section FEW9
variable {E : am_E} {M : am_M} {D : Int → Int} {C : Int} {Y : Nat → Int → Int} {T : Nat → at_T} {n g : Nat}
theorem fr_rl (hE : am_Wr E) {f : Int → Int} (hf : f 0 = n) (hn : n ≤ 4) {p q : Nat} {a : Int} : ∀ (m i : Nat), i + m = n → am_den 189 (80, [some (am_A (35, 0)), some (am_I g), some (am_I a), some (am_I p), some (am_I q), some (am_I (fr_rs g p q i)), some (am_I i)], [], E, ar_s M 40 f) = am_den 189 (125, [some (am_A (35, 0)), some (am_I g), some (am_I a), some (am_I p), some (am_I q), some (am_I (fr_rs g p q n)), some (am_I n)], [], E, ar_s M 40 f) := by
  intro m
  induction m with
  | zero =>
    intro i h
    have e : i = n := by omega
    subst e
    rw [am_B189_80 hE, ar_s_at, hf, if_pos (by omega)]
  | succ m ih =>
    intro i h
    have w1 : am_w ((i : Int) + 1) = ((i + 1 : Nat) : Int) := by rw [am_wi (by omega) (by omega)]; omega
    have st : fr_rs g p q (i + 1) = if i ≠ g ∧ i ≠ q ∧ i ≠ p then (i : Int) else fr_rs g p q i := rfl
    have h1 := ih (i + 1) (by omega)
    rw [st] at h1
    rw [am_B189_80 hE, ar_s_at, hf, if_neg (by omega), am_B189_91]
    by_cases c1 : (i : Int) = g
    · rw [if_pos c1, am_B189_115, am_B189_117, w1]
      rw [if_neg (by omega)] at h1
      exact h1
    · rw [if_neg c1, am_B189_97]
      by_cases c2 : (i : Int) = q
      · rw [if_pos c2, am_B189_115, am_B189_117, w1]
        rw [if_neg (by omega)] at h1
        exact h1
      · rw [if_neg c2, am_B189_104]
        by_cases c3 : (i : Int) = p
        · rw [if_pos c3, am_B189_115, am_B189_117, w1]
          rw [if_neg (by omega)] at h1
          exact h1
        · rw [if_neg c3, am_B189_110, am_B189_117, w1]
          rw [if_pos (by omega)] at h1
          exact h1
theorem fr_189i (hE : am_Wr E) (hq3 : ra_q (M 39 0) Y) (hY : av_Y Y) (hT : fw_g D C T Y) (hn : Y 0 7 = n) (hC : C + 48 < 2147483648) {p : Nat} (hp : p < 4) : ∀ (m q : Nat) (a : Int) (u5 u6 : Option am_V) (f : Int → Int), p < q → q + m = 4 → ∃ (f' : Int → Int) (u5' u6' : Option am_V), am_den 189 (14, [some (am_A (35, 0)), some (am_I g), some (am_I a), some (am_I p), some (am_I q), u5, u6], [], E, ar_s M 40 f) = am_den 189 (159, [some (am_A (35, 0)), some (am_I g), some (am_I (lp_in (fr_s2 D n g (Y 0 11) T) p m q a)), some (am_I p), some (am_I 4), u5', u6'], [], E, ar_s M 40 f') := by
  have k39 := hE.2.2.2.2.2.2.2.2.2.1
  have k40 := hE.2.2.2.2.2.2.2.2.2.2.1
  have h7 : M 39 0 0 = n := by rw [hq3.1.1, hn]
  have h4 := hY.1.1
  have h8 := hY.1.2.1
  intro m
  induction m with
  | zero =>
    intro q a u5 u6 f hpq hqm
    have e : q = 4 := by omega
    subst e
    refine ⟨f, u5, u6, ?_⟩
    rw [am_B189_14, if_pos (by decide)]
    rfl
  | succ m ih =>
    intro q a u5 u6 f hpq hqm
    have hq4 : q < 4 := by omega
    have w1 : am_w ((q : Int) + 1) = ((q + 1 : Nat) : Int) := by rw [am_wi (by omega) (by omega)]; omega
    rw [lp_in, am_B189_14, if_neg (by omega), am_B189_20 hE, ar_s_ne (by decide), h7, am_wi (z := (n : Int) - 1) (by omega) (by omega), ar_120, am_bd_v]
    simp only [Nat.reduceAdd]
    rw [am_B189_36]
    by_cases c : q < n ∧ p ≠ g ∧ q ≠ g
    · have es : fr_s2 D n g (Y 0 11) T p q a = fw_le a (Y 0 11 + (at_co D 24 (T p) (T q) : Int) + fr_c D n T g p q) := if_pos c
      have J := fw_jh hT hp hq4 (by omega) (by omega)
      have hY1 := (av_jpY (p := (p : Int)) (q := (q : Int)) hY (by omega) (by omega) (by omega)).1
      have hcp : ra_q (rt_cp (M 39 0) f 0 0) Y := ra_q_cg hq3 h4.2 h8.2 (fun j a b => by
        have e := rt_cp_at (f := M 39 0) (g := f) (a := 0) (b := 0) ⟨a, b⟩
        rw [Int.zero_add] at e
        exact e)
      obtain ⟨f1, x1, q1, _⟩ := ra_150 (E := E) (M := M) (d := 40) (f := rt_cp (M 39 0) f 0 0) (Y := Y) (p := (p : Int)) (q := (q : Int)) (u1 := none) (u2 := none) k40 hcp hY (by omega) (by omega) (by omega)
      have e7 : ay_jp Y p q 0 7 = n := by rw [ay_jp_0 (by decide), hn]
      have e80 : am_den 189 (80, [some (am_A (35, 0)), some (am_I g), some (am_I a), some (am_I p), some (am_I q), some (am_I (-1)), some (am_I 0)], [], E, ar_s M 40 f1) = am_den 189 (125, [some (am_A (35, 0)), some (am_I g), some (am_I a), some (am_I p), some (am_I q), some (am_I (fr_rs g p q n)), some (am_I n)], [], E, ar_s M 40 f1) := fr_rl hE (by rw [q1.1.1, e7]) (by omega) n 0 (Nat.zero_add n)
      have fin : ∀ (f2 : Int → Int) (x5 x6 : Int), f2 4 = Y 0 11 + (at_co D 24 (T p) (T q) : Int) + fr_c D n T g p q → ∃ (f' : Int → Int) (u5' u6' : Option am_V), am_den 189 (142, [some (am_A (35, 0)), some (am_I g), some (am_I a), some (am_I p), some (am_I q), some (am_I x5), some (am_I x6)], [], E, ar_s M 40 f2) = am_den 189 (159, [some (am_A (35, 0)), some (am_I g), some (am_I (lp_in (fr_s2 D n g (Y 0 11) T) p m (q + 1) (fr_s2 D n g (Y 0 11) T p q a))), some (am_I p), some (am_I 4), u5', u6'], [], E, ar_s M 40 f') := by
        intro f2 x5 x6 h2
        rw [am_B189_142 hE, ar_s_at, h2, fw_188, am_bd_v]
        simp only [Nat.reduceAdd]
        rw [am_B189_152, am_B189_153, w1, es]
        exact ih (q + 1) _ _ _ f2 (by omega) (by omega)
      rw [if_neg (by rw [am_b_0]; omega), am_B189_39, if_neg (by omega), am_B189_44, if_neg (by omega), am_B189_50 hE, rt_121 (by decide) k39 k40 (by omega) (by omega) (by omega) (by omega), am_bd_u, ar_s_ne (by decide), ar_s_at, ar_s_s]
      simp only [Nat.reduceAdd]
      rw [am_B189_63 hE, x1, am_bd_v]
      simp only [Nat.reduceAdd]
      rw [am_B189_73, e80, am_B189_125]
      by_cases r0 : fr_rs g p q n = -1
      · rw [if_pos r0]
        refine fin f1 _ _ ?_
        rw [q1.1.2.2.2.2.1, J.2, show fr_c D n T g p q = 0 from if_pos r0]
        omega
      · rw [if_neg r0, am_B189_131 hE]
        have rr := fr_rs_in (g := g) (p := p) (q := q) n
        obtain ⟨r, er⟩ : ∃ r : Nat, fr_rs g p q n = (r : Int) := ⟨(fr_rs g p q n).toNat, by omega⟩
        have J2 := fw_jh J.1 (p := p) (q := r) hp (by omega) (by omega) (by omega)
        obtain ⟨f2, x2, q2, _⟩ := ra_150 (E := E) (M := M) (d := 40) (f := f1) (Y := ay_jp Y p q) (p := (p : Int)) (q := (r : Int)) (u1 := none) (u2 := none) k40 q1 hY1 (by omega) (by omega) (by omega)
        rw [er, x2, am_bd_v]
        simp only [Nat.reduceAdd]
        rw [am_B189_141]
        refine fin f2 _ _ ?_
        rw [q2.1.2.2.2.2.1, J2.2, J.2]
        unfold fr_c
        rw [if_neg r0, er, Int.toNat_natCast]
    · have es : fr_s2 D n g (Y 0 11) T p q a = a := if_neg c
      have skip : ∃ (f' : Int → Int) (u5' u6' : Option am_V), am_den 189 (153, [some (am_A (35, 0)), some (am_I g), some (am_I a), some (am_I p), some (am_I q), u5, u6], [], E, ar_s M 40 f) = am_den 189 (159, [some (am_A (35, 0)), some (am_I g), some (am_I (lp_in (fr_s2 D n g (Y 0 11) T) p m (q + 1) (fr_s2 D n g (Y 0 11) T p q a))), some (am_I p), some (am_I 4), u5', u6'], [], E, ar_s M 40 f') := by
        rw [am_B189_153, w1, es]
        exact ih (q + 1) a u5 u6 f (by omega) (by omega)
      by_cases c1 : q < n
      · rw [if_neg (by rw [am_b_0]; omega), am_B189_39]
        by_cases c2 : (p : Int) = g
        · rw [if_pos c2]
          exact skip
        · rw [if_neg c2, am_B189_44, if_pos (by omega)]
          exact skip
      · rw [if_pos (by rw [am_b_0]; omega)]
        exact skip
theorem fr_189o (hE : am_Wr E) (hq3 : ra_q (M 39 0) Y) (hY : av_Y Y) (hT : fw_g D C T Y) (hn : Y 0 7 = n) (hC : C + 48 < 2147483648) : ∀ (m p : Nat) (a : Int) (u4 u5 u6 : Option am_V) (f : Int → Int), p + m = 4 → ∃ (f' : Int → Int) (u4' u5' u6' : Option am_V), am_den 189 (4, [some (am_A (35, 0)), some (am_I g), some (am_I a), some (am_I p), u4, u5, u6], [], E, ar_s M 40 f) = am_den 189 (165, [some (am_A (35, 0)), some (am_I g), some (am_I (lp_out (fr_s2 D n g (Y 0 11) T) 4 m p a)), some (am_I 4), u4', u5', u6'], [], E, ar_s M 40 f') := by
  intro m
  induction m with
  | zero =>
    intro p a u4 u5 u6 f h
    have e : p = 4 := by omega
    subst e
    refine ⟨f, u4, u5, u6, ?_⟩
    rw [am_B189_4, if_pos (by decide)]
    rfl
  | succ m ih =>
    intro p a u4 u5 u6 f h
    have w1 : am_w ((p : Int) + 1) = ((p + 1 : Nat) : Int) := by rw [am_wi (by omega) (by omega)]; omega
    obtain ⟨f1, v5, v6, e1⟩ := fr_189i (g := g) hE hq3 hY hT hn hC (p := p) (by omega) (4 - (p + 1)) (p + 1) a u5 u6 f (by omega) (by omega)
    rw [lp_out, am_B189_4, if_neg (by omega), am_B189_9, w1, e1, am_B189_159, w1]
    exact ih (p + 1) _ _ _ _ f1 (by omega)
theorem fr_189 (hE : am_Wr E) (hq3 : ra_q (M 39 0) Y) (hY : av_Y Y) (hT : fw_g D C T Y) (hn : Y 0 7 = n) (hC : C + 48 < 2147483648) : ∃ f' : Int → Int, am_den 189 (0, [some (am_A (35, 0)), some (am_I g), none, none, none, none, none], [], E, M) = some (.inl (some (am_I (fr_lv D n g (Y 0 11) T))), E, ar_s M 40 f') := by
  obtain ⟨f1, v4, v5, v6, e1⟩ := fr_189o (g := g) hE hq3 hY hT hn hC 4 0 (-1) none none none (M 40 0) rfl
  rw [ar_s_self] at e1
  refine ⟨f1, ?_⟩
  rw [am_B189_0]
  refine Eq.trans e1 ?_
  unfold fr_lv
  by_cases h : lp_out (fr_s2 D n g (Y 0 11) T) 4 4 0 (-1) = -1
  · rw [am_B189_165, if_neg (fun z => z h), am_B189_170 hE, am_B189_180, if_pos h, ar_s_ne (by decide), hq3.1.2.2.2.2.1]
  · rw [am_B189_165, if_pos h, am_B189_179, am_B189_180, if_neg h]
theorem fr_190i (hE : am_Wr E) (hY : av_Y Y) (hT : fw_g D C T Y) (hn : Y 0 7 = n) (hC : C + 72 < 2147483648) {p : Nat} (hp : p < n) : ∀ (m q : Nat) (a : Int) (M : am_M), p < q → q + m = n → ra_q (M 37 0) Y → ∃ M' : am_M, am_den 190 (23, [some (am_A (35, 0)), some (am_I a), some (am_I p), some (am_I q)], [], E, M) = am_den 190 (72, [some (am_A (35, 0)), some (am_I (lp_in (fr_s1 D n (Y 0 11) T) p m q a)), some (am_I p), some (am_I n)], [], E, M') ∧ ∀ b, b ≠ 39 → b ≠ 40 → M' b = M b := by
  have k37 := hE.2.2.2.2.2.2.2.1
  have k39 := hE.2.2.2.2.2.2.2.2.2.1
  have h4 := hY.1.1
  have h8 := hY.1.2.1
  intro m
  induction m with
  | zero =>
    intro q a M hpq hqm hq7
    have e : q = n := by omega
    subst e
    refine ⟨M, ?_, fun _ _ _ => rfl⟩
    rw [am_B190_23 hE, hq7.1.1, hn, if_pos (by omega)]
    rfl
  | succ m ih =>
    intro q a M hpq hqm hq7
    have w1 : am_w ((q : Int) + 1) = ((q + 1 : Nat) : Int) := by rw [am_wi (by omega) (by omega)]; omega
    have J := fw_jh hT (p := p) (q := q) (by omega) (by omega) (by omega) (by omega)
    have hY1 := (av_jpY (p := (p : Int)) (q := (q : Int)) hY (by omega) (by omega) (by omega)).1
    have hcp : ra_q (rt_cp (M 37 0) (M 39 0) 0 0) Y := ra_q_cg hq7 h4.2 h8.2 (fun j a b => by
      have e := rt_cp_at (f := M 37 0) (g := M 39 0) (a := 0) (b := 0) ⟨a, b⟩
      rw [Int.zero_add] at e
      exact e)
    obtain ⟨f1, x1, q1, _⟩ := ra_150 (E := E) (M := M) (d := 39) (f := rt_cp (M 37 0) (M 39 0) 0 0) (Y := Y) (p := (p : Int)) (q := (q : Int)) (u1 := none) (u2 := none) k39 hcp hY (by omega) (by omega) (by omega)
    obtain ⟨f2, x2⟩ := fr_189 (M := ar_s M 39 f1) (g := q) (n := n) hE (by rw [ar_s_at]; exact q1) hY1 J.1 (by rw [ay_jp_0 (by decide), hn]) (by omega)
    have kk : ∀ b, b ≠ 39 → b ≠ 40 → ar_s (ar_s M 39 f1) 40 f2 b = M b := fun b h1 h2 => by rw [ar_s_nb h2, ar_s_nb h1]
    obtain ⟨M3, x3, k3⟩ := ih (q + 1) (fr_s1 D n (Y 0 11) T p q a) (ar_s (ar_s M 39 f1) 40 f2) (by omega) (by omega) (by rw [kk 37 (by decide) (by decide)]; exact hq7)
    refine ⟨M3, ?_, fun b h1 h2 => by rw [k3 b h1 h2, kk b h1 h2]⟩
    rw [lp_in, am_B190_23 hE, hq7.1.1, hn, if_neg (by omega), am_B190_33 hE, rt_121 (by decide) k37 k39 (by omega) (by omega) (by omega) (by omega), am_bd_u]
    simp only [Nat.reduceAdd]
    rw [am_B190_46 hE, x1, am_bd_v]
    simp only [Nat.reduceAdd]
    rw [am_B190_55 hE, x2, am_bd_v]
    simp only [Nat.reduceAdd]
    rw [am_B190_62, fw_188, am_bd_v, J.2]
    simp only [Nat.reduceAdd]
    rw [am_B190_65, w1]
    exact x3
theorem fr_190o (hE : am_Wr E) (hY : av_Y Y) (hT : fw_g D C T Y) (hn : Y 0 7 = n) (hC : C + 72 < 2147483648) : ∀ (m p : Nat) (a : Int) (u3 : Option am_V) (M : am_M), p + m = n → ra_q (M 37 0) Y → ∃ (M' : am_M) (u3' : Option am_V), am_den 190 (9, [some (am_A (35, 0)), some (am_I a), some (am_I p), u3], [], E, M) = am_den 190 (78, [some (am_A (35, 0)), some (am_I (lp_out (fr_s1 D n (Y 0 11) T) n m p a)), some (am_I n), u3'], [], E, M') ∧ ∀ b, b ≠ 39 → b ≠ 40 → M' b = M b := by
  have h4 := hY.1.1
  intro m
  induction m with
  | zero =>
    intro p a u3 M h hq7
    have e : p = n := by omega
    subst e
    refine ⟨M, u3, ?_, fun _ _ _ => rfl⟩
    rw [am_B190_9 hE, hq7.1.1, hn, if_pos (by omega)]
    rfl
  | succ m ih =>
    intro p a u3 M h hq7
    have w1 : am_w ((p : Int) + 1) = ((p + 1 : Nat) : Int) := by rw [am_wi (by omega) (by omega)]; omega
    obtain ⟨M1, e1, k1⟩ := fr_190i hE hY hT hn hC (p := p) (by omega) (n - (p + 1)) (p + 1) a M (by omega) (by omega) hq7
    obtain ⟨M2, v3, e2, k2⟩ := ih (p + 1) (lp_in (fr_s1 D n (Y 0 11) T) p (n - (p + 1)) (p + 1) a) (some (am_I n)) M1 (by omega) (by rw [k1 37 (by decide) (by decide)]; exact hq7)
    refine ⟨M2, v3, ?_, fun b h1 h2 => by rw [k2 b h1 h2, k1 b h1 h2]⟩
    rw [lp_out, am_B190_9 hE, hq7.1.1, hn, if_neg (by omega), am_B190_19, w1, e1, am_B190_72, w1]
    exact e2
theorem fr_190 (hE : am_Wr E) (hY : av_Y Y) (hT : fw_g D C T Y) (hn : Y 0 7 = n) (hC : C + 72 < 2147483648) (hq7 : ra_q (M 37 0) Y) (hb : 0 ≤ fr_all D n (Y 0 11) T ∧ fr_all D n (Y 0 11) T < 1000) {u1 u2 u3 : Option am_V} : ∃ M' : am_M, am_den 190 (0, [some (am_A (35, 0)), u1, u2, u3], [], E, M) = some (.inl (some (am_I (fr_all D n (Y 0 11) T))), E, M') ∧ ∀ b, b ≠ 39 → b ≠ 40 → M' b = ar_s M 35 (ar_u (M 35 0) 0 0) b := by
  have e37 : ar_s M 35 (ar_u (M 35 0) 0 0) 37 0 = M 37 0 := ar_s_ne (by decide)
  obtain ⟨M1, v3, e1, k1⟩ := fr_190o hE hY hT hn hC n 0 (-1) u3 (ar_s M 35 (ar_u (M 35 0) 0 0)) (Nat.zero_add n) (by rw [e37]; exact hq7)
  refine ⟨M1, ?_, k1⟩
  rw [am_B190_0 hE, ar_up0, am_B190_5]
  refine Eq.trans e1 ?_
  unfold fr_all at hb ⊢
  by_cases h : lp_out (fr_s1 D n (Y 0 11) T) n n 0 (-1) = -1
  · rw [am_B190_78, if_neg (fun z => z h), am_B190_83, am_B190_95, if_pos h]
  · rw [if_neg h] at hb
    rw [am_B190_78, if_pos h, am_B190_87 hE, am_B190_95, if_neg h, k1 37 (by decide) (by decide), e37, hq7.1.2.2.2.2.1, am_wi (by omega) (by omega)]
end FEW9
