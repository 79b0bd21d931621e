/-! ===== constructors: the class's four trial yards ===== -/
theorem ct_T4 : ∀ (i : Fin 4) (c : Fin 8), am_tab[152 + 8 * i.val + c.val]? = some ((18 + i.val, c.val), if c.val = 0 then 3 else 6, if c.val = 0 then 17 else if c.val < 6 then 24 else 4) := by decide +kernel
section CTOR4
variable {L : Nat} {F : am_R → Nat → Option am_R} {M : am_M}
theorem ct_66l : ∀ (m i : Nat) (G : am_R → Nat → Option am_R) (M : am_M), i + m = 4 → G (34, 0) 6 = some (34, 1) →
    ∃ G' M', am_den 66 (80, [some (am_A (34, 0)), some (am_I i)], [], (152 + 8 * i, 0, L, G), M) = some (.inl none, (184, 0, L, G'), M') ∧ (∀ j, i ≤ j → j < 4 → G' (34, 1) j = some (18 + j, 0) ∧ ∀ f, f < 7 → G' (18 + j, 0) f = some (18 + j, f + 1)) ∧ (∀ r q, (r.1 < 18 + i ∨ 22 ≤ r.1) → (r ≠ (34, 1) ∨ q < i) → G' r q = G r q) ∧ (∀ c, (c < 18 + i ∨ 22 ≤ c) → M' c = M c) := by
  have t11 : am_tab[0]? = some ((34, 0), 4, 7) := by decide +kernel
  have t12 : am_tab[151]? = some ((34, 1), 10, 4) := by decide +kernel
  intro m
  induction m with
  | zero =>
    intro i G M h hG
    have e : i = 4 := by omega
    subst e
    refine ⟨G, M, ?_, fun j a b => by omega, fun _ _ _ _ => rfl, fun _ _ => rfl⟩
    refine (am_den_n (c' := (82, [some (am_A (34, 0)), some (am_I 4)], [am_A (34, 0), am_I 4], (184, 0, L, G), M)) 2 rfl).trans ?_
    refine (am_d_gfr (c := 4) (f := 6) (show am_fetch 66 82 = some (.getfield 43, 3) from by decide +kernel) rfl (ct_obj t11 (by decide)) rfl hG).trans ?_
    refine (am_d_len (c := 10) (n := 4) (show am_fetch 66 85 = some (.arraylength, 1) from by decide +kernel) (ct_kd t12 (by decide)) (by decide)).trans ?_
    refine (am_d_ic (q := ((4 : Nat) : Int) ≤ 4) (show am_fetch 66 86 = some (.if_icmp .ge 22, 3) from by decide +kernel) rfl rfl).trans ?_
    rw [if_pos (by decide)]
    exact am_d_ret (show am_fetch 66 108 = some (.return_, 1) from by decide +kernel) rfl
  | succ m ih =>
    intro i G M h hG
    have hi : i < 4 := by omega
    have hT : ct_T (152 + 8 * i) (18 + i) := ct_Tof (ct_T4 ⟨i, hi⟩)
    obtain ⟨G1, M1, e, g1, g2, m1, _⟩ := ct_yard (k := 66) (pc := 94) (idx := 16) (idx2 := 18) (L := L) (F := G) (M := M) (ls := [some (am_A (34, 0)), some (am_I i)]) (st := [am_I i, am_A (34, 1)]) (by decide +kernel) rfl (by decide +kernel) (by decide +kernel) rfl rfl rfl hT
    have w1 : am_w ((i : Int) + 1) = ((i + 1 : Nat) : Int) := by rw [am_wi (by omega) (by omega)]; omega
    obtain ⟨G', M', e2, a1, a2, a3⟩ := ih (i + 1) (fun r' k' => if r' = (34, 1) ∧ k' = i then some (18 + i, 0) else G1 r' k') M1 (by omega) (by
      try dsimp only
      rw [if_neg (by simp), g2 (34, 0) 6 (show (34 : Nat) ≠ 18 + i by omega)]
      exact hG)
    refine ⟨G', M', ?_, fun j b c => ?_, fun r q hr hq => ?_, fun c hc => ?_⟩
    · refine (am_den_n (c' := (82, [some (am_A (34, 0)), some (am_I i)], [am_A (34, 0), am_I i], (152 + 8 * i, 0, L, G), M)) 2 rfl).trans ?_
      refine (am_d_gfr (c := 4) (f := 6) (show am_fetch 66 82 = some (.getfield 43, 3) from by decide +kernel) rfl (ct_obj t11 (by omega)) rfl hG).trans ?_
      refine (am_d_len (c := 10) (n := 4) (show am_fetch 66 85 = some (.arraylength, 1) from by decide +kernel) (ct_kd t12 (by omega)) (by decide)).trans ?_
      refine (am_d_ic (q := ((4 : Nat) : Int) ≤ (i : Int)) (show am_fetch 66 86 = some (.if_icmp .ge 22, 3) from by decide +kernel) rfl rfl).trans ?_
      rw [if_neg (by omega)]
      refine (am_den_n (c' := (90, [some (am_A (34, 0)), some (am_I i)], [am_A (34, 0)], (152 + 8 * i, 0, L, G), M)) 1 rfl).trans ?_
      refine (am_d_gfr (c := 4) (f := 6) (show am_fetch 66 90 = some (.getfield 43, 3) from by decide +kernel) rfl (ct_obj t11 (by omega)) rfl hG).trans ?_
      refine (am_den_n (c' := (94, [some (am_A (34, 0)), some (am_I i)], [am_I i, am_A (34, 1)], (152 + 8 * i, 0, L, G), M)) 1 rfl).trans ?_
      rw [e]
      refine (am_d_aas (show am_fetch 66 101 = some (.aastore, 1) from by decide +kernel) (am_ar_of (n := 4) (ct_kd t12 (by omega)) (by omega)) (ct_obj (hT 0 (by omega)) (by omega))).trans ?_
      refine (am_den_n (c' := (80, [some (am_A (34, 0)), some (am_I (am_w ((i : Int) + 1)))], [], (152 + 8 * i + 8, 0, L, fun r' k' => if r' = (34, 1) ∧ k' = i then some (18 + i, 0) else G1 r' k'), M1)) 2 rfl).trans ?_
      rw [w1, show 152 + 8 * i + 8 = 152 + 8 * (i + 1) by omega]
      exact e2
    · by_cases q : j = i
      · subst q
        refine ⟨?_, fun f hf => ?_⟩
        · rw [a2 (34, 1) j (Or.inr (by decide)) (Or.inr (by omega))]
          simp
        · rw [a2 (18 + j, 0) f (Or.inl (show 18 + j < 18 + (j + 1) by omega)) (Or.inl (by simp))]
          try dsimp only
          rw [if_neg (fun z => by have := congrArg (fun p => p.1.1) (Prod.ext z.1 z.2 : ((18 + j, 0), f) = ((34, 1), j)); simp at this; omega), g1 f hf]
      · exact a1 j (by omega) c
    · rw [a2 r q (by omega) (by rcases hq with w | w; exact Or.inl w; exact Or.inr (by omega))]
      try dsimp only
      rw [if_neg (fun z => by rcases hq with w | w; exact w z.1; omega), g2 r q (by omega)]
    · rw [a3 c (by omega), m1 c (by omega)]
end CTOR4
