/-! ===== the law's loop ===== -/
section LAW2
variable {E : am_E} {M S : am_M} {B : Int}
theorem l2_bl {k pc pc' J K L : Nat} {B1 : Int} {X : Option am_Rs} {v v' w : Int} {ls : List (Option am_V)} {rest : List am_V} (h : l2 J B1 E M X v) (hp : pc + 3 = pc') (hv : v = v') (hJ : J + K ≤ L) (hc : ∀ (E1 : am_E) (M1 S1 : am_M), wl E1 M1 → st M1 = S1 → st (rl_M M1) = S1 → si B1 S1 → pi S1 → l2 K B E1 M1 (am_den k (pc', ls, am_I v' :: rest, E1, M1)) w) : l2 L B E M (am_bd k pc ls rest X) w := by
  obtain ⟨S1, h1, h2, h3⟩ := h
  exact l2_bd h1 hp hv rfl rfl hJ (fun E1 M1 a b c _ => hc E1 M1 S1 a b c h2 h3)
theorem rf_q {x : Int} (hw : wl E M) (hT : st (rl_M M) = S) (hi : si B S) (hx : 0 ≤ x ∧ x < 100000) (hp1 : 1 ≤ S 0 0 7) : cq 44 E M (am_den 145 (0, [some (am_A (84, 0)), some (am_I x), none, none, none, none, none], [], E, M)) 1 S := cq_of hw (rf_0 (u2 := none) (u3 := none) (u4 := none) (u5 := none) (u6 := none) (wl_rl hw) hT hi hx hp1) rfl
theorem ho_q (hw : wl E M) (hT : st (rl_M M) = S) (hi : si B S) : cq 3000 E M (am_den 147 (0, [some (am_A (84, 0)), none, none, none, none, none, none, none, none, none, none, none, none, none, none, none, none, none, none], [], E, M)) 1 S := cq_of hw (ho_147 (u1 := none) (u2 := none) (u3 := none) (u4 := none) (u5 := none) (u6 := none) (u7 := none) (u8 := none) (u9 := none) (u10 := none) (u11 := none) (u12 := none) (u13 := none) (u14 := none) (u15 := none) (u16 := none) (u17 := none) (u18 := none) hi (wl_rl hw) hT) rfl
/-- one turn -/
theorem la_t {C : Int} (hB : B < 2100000000) (hi : si B S) (hp : pi S) {x3 x4 : Int} {k K : Nat} (hk : k < 100) (hn : ∀ (B1 : Int) (E : am_E) (M S : am_M) (u7 u8 : Option am_V), B1 = B + 50000 → wl E M → st M = S → st (rl_M M) = S → si B1 S → pi S → l2 K C E M (am_den 225 (167, [some (am_A (45, 0)), some (am_A (34, 0)), some (am_A (84, 0)), some (am_I x3), some (am_I x4), some (am_I 1), some (am_I ((k + 1 : Nat) : Int)), u7, u8], [], E, M)) 1) {u7 u8 : Option am_V} (hw : wl E M) (hS : st M = S) (hT : st (rl_M M) = S) : l2 (K + 3600) C E M (am_den 225 (178, [some (am_A (45, 0)), some (am_A (34, 0)), some (am_A (84, 0)), some (am_I x3), some (am_I x4), some (am_I 1), some (am_I k), u7, u8], [], E, M)) 1 := by
  have hy := sy_of hw hS
  have w2 : am_w (2 + (k : Int)) = 2 + k := am_wi (by omega) (by omega)
  have w1 : am_w ((k : Int) + 1) = ((k + 1 : Nat) : Int) := by rw [am_wi (by omega) (by omega)]; omega
  obtain ⟨x, hx, ex⟩ := ce_143 (E := E) (M := M) (i := 2 + k) (by omega)
  obtain ⟨v, S', i1, p1, ha⟩ := ac_148 (by omega) hi hp hy hx
  have hp1 := hp.1
  have hp2 := p1.1
  have t5 : 0 ≤ x.tmod 100000 ∧ x.tmod 100000 < 100000 := by rw [Int.tmod_eq_emod_of_nonneg hx.1]; omega
  have t3 : 0 ≤ x.tmod 1000 ∧ x.tmod 1000 < 100000 := by rw [Int.tmod_eq_emod_of_nonneg hx.1]; omega
  have d7 : 0 ≤ am_w (x.tdiv 7) ∧ am_w (x.tdiv 7) < 2147483648 := by rw [Int.tdiv_eq_ediv_of_nonneg hx.1, am_wi (by omega) (by omega)]; omega
  have d11 : 0 ≤ am_w (x.tdiv 11) ∧ am_w (x.tdiv 11) < 2147483648 := by rw [Int.tdiv_eq_ediv_of_nonneg hx.1, am_wi (by omega) (by omega)]; omega
  rw [am_B225_178, w2, ex, am_bd_v]
  simp only [Nat.reduceAdd]
  rw [am_B225_186]
  refine l2_bd (J := 3) (K := K + 3590) (pc' := 194) (S1' := S') (T1' := S) (c2_s (ha E M none none none none hw hS) hT) rfl rfl rfl rfl (by omega) (fun E M hw hS hT _ => ?_)
  rw [am_B225_194]
  refine l2_bd (J := 44) (K := K + 3545) (pc' := 205) (S1' := S') (T1' := S) (c2_q (rf_q hw hT hi t5 (by omega)) hS) rfl rfl rfl rfl (by omega) (fun E M hw hS hT _ => ?_)
  rw [am_B225_205, if_neg (by decide), am_B225_208]
  refine l2_bd (J := 3) (K := K + 3540) (pc' := 214) (S1' := S') (T1' := S') (c2_q (cq_of hw (ha _ _ none none none none (wl_rl hw) hT) rfl) hS) rfl rfl rfl rfl (by omega) (fun E M hw hS hT _ => ?_)
  rw [am_B225_214, if_neg (fun z => z rfl), am_B225_219]
  refine l2_bd (J := 44) (K := K + 3490) (pc' := 229) (S1' := S') (T1' := S') (c2_q (rf_q hw hT i1 t3 (by omega)) hS) rfl rfl rfl rfl (by omega) (fun E M hw hS hT _ => ?_)
  rw [am_B225_229, if_neg (by decide), am_B225_232]
  refine l2_bd (J := 150) (K := K + 3340) (pc' := 243) (S1' := S') (T1' := S') (al_149 i1 (by omega) hw hS hT) rfl rfl rfl rfl (by omega) (fun E M hw hS hT _ => ?_)
  rw [am_B225_243, if_neg (by decide), am_B225_246]
  have s270 : ∀ (E : am_E) (M : am_M), wl E M → st M = S' → st (rl_M M) = S' → l2 (K + 340) C E M (am_den 225 (270, [some (am_A (45, 0)), some (am_A (34, 0)), some (am_A (84, 0)), some (am_I x3), some (am_I x4), some (am_I 1), some (am_I k), some (am_I x), some (am_I v)], [], E, M)) 1 := by
    intro E M hw hS hT
    rw [am_B225_270]
    refine l2_bl (J := 30) (K := K + 300) (pc' := 280) (dr_150 (u3 := none) (u4 := none) (u5 := none) (u6 := none) (u7 := none) (u8 := none) (u9 := none) (u10 := none) (u11 := none) (by omega) i1 p1 d7 hw hS hT) rfl rfl (by omega) (fun E M S2 hw hS hT i2 p2 => ?_)
    rw [am_B225_280, if_neg (by decide), am_B225_283]
    refine l2_bl (J := 40) (K := K + 250) (pc' := 293) (jo_151 (u3 := none) (u4 := none) (u5 := none) (u6 := none) (u7 := none) (u8 := none) (u9 := none) (u10 := none) (u11 := none) (u12 := none) (by omega) i2 p2 d11 hw hS hT) rfl rfl (by omega) (fun E M S3 hw hS hT i3 p3 => ?_)
    rw [am_B225_293, if_neg (by decide), am_B225_296]
    refine l2_bl (J := 220) (K := K) (pc' := 301) (rn_152 (u2 := none) (u3 := none) (u4 := none) (u5 := none) (u6 := none) (u7 := none) i3 p3 (by omega) hw hS hT) rfl rfl (by omega) (fun E M S4 hw hS hT i4 p4 => ?_)
    rw [am_B225_301, if_neg (by decide), am_B225_304, am_B225_309, w1]
    exact hn _ E M S4 _ _ rfl hw hS hT (si_le i4 (by omega)) p4
  by_cases q : (k : Int).tmod 2 ≠ 0
  · rw [if_pos q, am_B225_263]
    refine l2_bd (J := 3000) (K := K + 340) (pc' := 267) (S1' := S') (T1' := S') (c2_q (ho_q hw hT i1) hS) rfl rfl rfl rfl (by omega) (fun E M hw hS hT _ => ?_)
    rw [am_B225_267, if_neg (by decide)]
    exact s270 E M hw hS hT
  · rw [if_neg q, am_B225_253]
    refine l2_bd (J := 3000) (K := K + 340) (pc' := 257) (S1' := S') (T1' := S') (c2_s (ho_147 i1 hw hS) hT) rfl rfl rfl rfl (by omega) (fun E M hw hS hT _ => ?_)
    rw [am_B225_257, if_neg (by decide), am_B225_260]
    exact s270 E M hw hS hT
theorem la_l {x3 x4 : Int} (h3 : x3 ≤ 36) : ∀ (m k : Nat) (B : Int) (E : am_E) (M S : am_M) (u7 u8 : Option am_V), k + m = 36 → B ≤ 50000 * k + 10000 → wl E M → st M = S → st (rl_M M) = S → si B S → pi S → l2 (3600 * m) 10000000 E M (am_den 225 (167, [some (am_A (45, 0)), some (am_A (34, 0)), some (am_A (84, 0)), some (am_I x3), some (am_I x4), some (am_I 1), some (am_I k), u7, u8], [], E, M)) 1 := by
  intro m
  induction m with
  | zero =>
    intro k B E M S u7 u8 h hB hw hS hT hi hp
    rw [am_B225_167, if_pos (by omega), am_B225_317 (Or.inr rfl)]
    exact l2_ret hw hS hT (si_le hi (by omega)) hp
  | succ m ih =>
    intro k B E M S u7 u8 h hB hw hS hT hi hp
    rw [am_B225_167]
    by_cases q : x3 ≤ (k : Int)
    · rw [if_pos q, am_B225_317 (Or.inr rfl)]
      exact l2_ret hw hS hT (si_le hi (by omega)) hp
    · rw [if_neg q, am_B225_173, if_neg (by decide)]
      have h2 := la_t (K := 3600 * m) (C := 10000000) (x3 := x3) (x4 := x4) (k := k) (u7 := u7) (u8 := u8) (by omega) hi hp (by omega) (fun B1 E M S v7 v8 hb a b c d e => ih (k + 1) B1 E M S v7 v8 (by omega) (by omega) a b c d e) hw hS hT
      exact l2_le h2 (by omega) (Int.le_refl _)
end LAW2
