/-! ===== the second object's constructors (written by wip/p32/gens/ctor.py) ===== -/
section CU2
variable {n b L k pc idx idx2 : Nat} {F : am_R → Nat → Option am_R} {E : am_E} {M : am_M} {ls : List (Option am_V)} {st : List am_V} {r : am_R}
theorem cu_6 : am_den 6 (0, [some (am_A (80, 0))], [], (186, 0, L, F), M) = some (.inl none, (187, 0, L, fun r' k' => if r' = (80, 0) ∧ k' = 0 then some (80, 1) else if r' = (80, 1) then none else F r' k'), am_nM M (80, 1)) := by
  have hx : am_nx (186, 0, L, F) 7 120 = some (80, 1) := ct_nx (i := 186) (c := 7) (k := 120) (by decide +kernel)
  refine (am_den_n (c' := (1, [some (am_A (80, 0))], [am_A (80, 0)], (186, 0, L, F), M)) 1 rfl).trans <| (am_d_obj (show am_fetch 6 1 = some (.invokespecial 3, 3) from by decide +kernel) rfl rfl).trans ?_
  refine (am_den_n (c' := (7, [some (am_A (80, 0))], [am_I 120, am_A (80, 0)], (186, 0, L, F), M)) 2 rfl).trans <| (am_d_na (show am_fetch 6 7 = some (.newarray .char, 2) from by decide +kernel) (by decide) (by decide) (by decide) hx).trans <| (am_d_pfr (c := 2) (f := 0) (show am_fetch 6 9 = some (.putfield 9, 3) from by decide +kernel) rfl (ct_obj (i := 185) (k := 6) (by decide +kernel) (show 185 < 186 + 1 from by decide)) rfl rfl rfl).trans ?_
  exact am_d_ret (show am_fetch 6 12 = some (.return_, 1) from by decide +kernel) rfl
end CU2
theorem cu_T14 : ∀ (i : Fin 14) (c : Fin 8), am_tab[197 + 8 * i.val + c.val]? = some ((i.val + 51, c.val), if c.val = 0 then 3 else 6, if c.val = 0 then 17 else if c.val < 6 then 24 else 4) := by decide +kernel
section CTOR3
variable {L : Nat} {F : am_R → Nat → Option am_R} {M : am_M}
theorem cu_0l : ∀ (m i : Nat) (G : am_R → Nat → Option am_R) (M : am_M), i + m = 14 → G (81, 0) 0 = some (81, 1) →
    ∃ G' M', am_den 0 (15, [some (am_A (81, 0)), some (am_I i)], [], (197 + 8 * i, 0, L, G), M) = some (.inl none, (309, 0, L, G'), M') ∧ (∀ j, i ≤ j → j < 14 → G' (81, 1) j = some (j + 51, 0) ∧ ∀ f, f < 7 → G' (j + 51, 0) f = some (j + 51, f + 1)) ∧ (∀ r q, (r.1 ≤ i + 50 ∨ 64 < r.1) → (r ≠ (81, 1) ∨ q < i) → G' r q = G r q) ∧ (∀ c, (c ≤ i + 50 ∨ 64 < c) → M' c = M c) ∧ (∀ j, i ≤ j → j < 14 → ∃ Y, M' (j + 51) = am_yc Y) := by
  have t11 : am_tab[195]? = some ((81, 0), 0, 3) := by decide +kernel
  have t12 : am_tab[196]? = some ((81, 1), 10, 14) := by decide +kernel
  intro m
  induction m with
  | zero =>
    intro i G M h hG
    have e : i = 14 := by omega
    subst e
    refine ⟨G, M, ?_, fun j a b => by omega, fun _ _ _ _ => rfl, fun _ _ => rfl, fun j a b => by omega⟩
    refine (am_den_n (c' := (17, [some (am_A (81, 0)), some (am_I 14)], [am_A (81, 0), am_I 14], (309, 0, L, G), M)) 2 rfl).trans ?_
    refine (am_d_gfr (c := 0) (f := 0) (show am_fetch 0 17 = some (.getfield 11, 3) from by decide +kernel) rfl (ct_obj t11 (by decide)) rfl hG).trans ?_
    refine (am_d_len (c := 10) (n := 14) (show am_fetch 0 20 = some (.arraylength, 1) from by decide +kernel) (ct_kd t12 (by decide)) (by decide)).trans ?_
    refine (am_d_ic (q := ((14 : Nat) : Int) ≤ 14) (show am_fetch 0 21 = some (.if_icmp .ge 22, 3) from by decide +kernel) rfl rfl).trans ?_
    rw [if_pos (by decide)]
    exact am_d_ret (show am_fetch 0 43 = some (.return_, 1) from by decide +kernel) rfl
  | succ m ih =>
    intro i G M h hG
    have hi : i < 14 := by omega
    have hT : ct_T (197 + 8 * i) (i + 51) := ct_Tof (cu_T14 ⟨i, hi⟩)
    obtain ⟨G1, M1, e, g1, g2, m1, y0⟩ := ct_yard (k := 0) (pc := 29) (idx := 9) (idx2 := 17) (L := L) (F := G) (M := M) (ls := [some (am_A (81, 0)), some (am_I i)]) (st := [am_I i, am_A (81, 1)]) (by decide +kernel) rfl (by decide +kernel) (by decide +kernel) rfl rfl rfl hT
    have w1 : am_w ((i : Int) + 1) = ((i + 1 : Nat) : Int) := by rw [am_wi (by omega) (by omega)]; omega
    obtain ⟨G', M', e2, a1, a2, a3, a4⟩ := ih (i + 1) (fun r' k' => if r' = (81, 1) ∧ k' = i then some (i + 51, 0) else G1 r' k') M1 (by omega) (by
      try dsimp only
      rw [if_neg (by simp), g2 (81, 0) 0 (show (81 : Nat) ≠ i + 51 by omega)]
      exact hG)
    refine ⟨G', M', ?_, fun j b c => ?_, fun r q hr hq => ?_, fun c hc => ?_, fun j b c => ?_⟩
    · refine (am_den_n (c' := (17, [some (am_A (81, 0)), some (am_I i)], [am_A (81, 0), am_I i], (197 + 8 * i, 0, L, G), M)) 2 rfl).trans ?_
      refine (am_d_gfr (c := 0) (f := 0) (show am_fetch 0 17 = some (.getfield 11, 3) from by decide +kernel) rfl (ct_obj t11 (by omega)) rfl hG).trans ?_
      refine (am_d_len (c := 10) (n := 14) (show am_fetch 0 20 = some (.arraylength, 1) from by decide +kernel) (ct_kd t12 (by omega)) (by decide)).trans ?_
      refine (am_d_ic (q := ((14 : Nat) : Int) ≤ (i : Int)) (show am_fetch 0 21 = some (.if_icmp .ge 22, 3) from by decide +kernel) rfl rfl).trans ?_
      rw [if_neg (by omega)]
      refine (am_den_n (c' := (25, [some (am_A (81, 0)), some (am_I i)], [am_A (81, 0)], (197 + 8 * i, 0, L, G), M)) 1 rfl).trans ?_
      refine (am_d_gfr (c := 0) (f := 0) (show am_fetch 0 25 = some (.getfield 11, 3) from by decide +kernel) rfl (ct_obj t11 (by omega)) rfl hG).trans ?_
      refine (am_den_n (c' := (29, [some (am_A (81, 0)), some (am_I i)], [am_I i, am_A (81, 1)], (197 + 8 * i, 0, L, G), M)) 1 rfl).trans ?_
      rw [e]
      refine (am_d_aas (show am_fetch 0 36 = some (.aastore, 1) from by decide +kernel) (am_ar_of (n := 14) (ct_kd t12 (by omega)) (by omega)) (ct_obj (hT 0 (by omega)) (by omega))).trans ?_
      refine (am_den_n (c' := (15, [some (am_A (81, 0)), some (am_I (am_w ((i : Int) + 1)))], [], (197 + 8 * i + 8, 0, L, fun r' k' => if r' = (81, 1) ∧ k' = i then some (i + 51, 0) else G1 r' k'), M1)) 2 rfl).trans ?_
      rw [w1, show 197 + 8 * i + 8 = 197 + 8 * (i + 1) by omega]
      exact e2
    · by_cases q : j = i
      · subst q
        refine ⟨?_, fun f hf => ?_⟩
        · rw [a2 (81, 1) j (Or.inr (by decide)) (Or.inr (by omega))]
          simp
        · rw [a2 (j + 51, 0) f (Or.inl (show j + 51 ≤ j + 1 + 50 by omega)) (Or.inl (by simp))]
          try dsimp only
          rw [if_neg (by simp), g1 f hf]
      · exact a1 j (by omega) c
    · rw [a2 r q (by omega) (by rcases hq with w | w; exact Or.inl w; exact Or.inr (by omega))]
      try dsimp only
      rw [if_neg (fun z => by rcases hq with w | w; exact w z.1; omega), g2 r q (by omega)]
    · rw [a3 c (by omega), m1 c (by omega)]
    · by_cases q : j = i
      · subst q
        rw [a3 (j + 51) (Or.inl (by omega))]
        exact y0
      · exact a4 j (by omega) c
theorem cu_0 : ∃ G' M', am_den 0 (0, [some (am_A (81, 0)), none], [], (196, 0, L, F), M) = some (.inl none, (309, 0, L, G'), M') ∧ G' (81, 0) 0 = some (81, 1) ∧ (∀ j, j < 14 → G' (81, 1) j = some (j + 51, 0) ∧ ∀ f, f < 7 → G' (j + 51, 0) f = some (j + 51, f + 1)) ∧ (∀ r q, (r.1 ≤ 50 ∨ 64 < r.1) → r.1 ≠ 81 → G' r q = F r q) ∧ (∀ c, (c ≤ 50 ∨ 64 < c) → c ≠ 81 → M' c = M c) ∧ M' 81 0 = M 81 0 ∧ M' 81 = am_nM M (81, 1) 81 ∧ (∀ j, j < 14 → ∃ Y, M' (j + 51) = am_yc Y) := by
  have t11 : am_tab[195]? = some ((81, 0), 0, 3) := by decide +kernel
  have hx : am_nx (196, 0, L, F) 10 14 = some (81, 1) := ct_nx (i := 196) (c := 10) (k := 14) (by decide +kernel)
  obtain ⟨G', M', e, a1, a2, a3, a4⟩ := cu_0l (L := L) 14 0 (fun r' k' => if r' = (81, 0) ∧ k' = 0 then some (81, 1) else if r' = (81, 1) then none else F r' k') (am_nM M (81, 1)) rfl (by simp)
  refine ⟨G', M', ?_, ?_, fun j hj => a1 j (by omega) hj, fun r q h1 h2 => ?_, fun c h1 h2 => ?_, ?_, a3 81 (by omega), fun j hj => a4 j (by omega) hj⟩
  · refine (am_den_n (c' := (1, [some (am_A (81, 0)), none], [am_A (81, 0)], (196, 0, L, F), M)) 1 rfl).trans <| (am_d_obj (show am_fetch 0 1 = some (.invokespecial 3, 3) from by decide +kernel) rfl rfl).trans ?_
    refine (am_den_n (c' := (7, [some (am_A (81, 0)), none], [am_I 14, am_A (81, 0)], (196, 0, L, F), M)) 2 rfl).trans ?_
    refine (am_d_nb (show am_fetch 0 7 = some (.anewarray 9, 3) from by decide +kernel) rfl (by decide) (by decide) hx).trans ?_
    refine (am_d_pfr (c := 0) (f := 0) (show am_fetch 0 10 = some (.putfield 11, 3) from by decide +kernel) rfl (ct_obj t11 (show 195 < 196 + 1 from by decide)) rfl rfl rfl).trans ?_
    refine (am_den_n (c' := (15, [some (am_A (81, 0)), some (am_I 0)], [], (197, 0, L, fun r' k' => if r' = (81, 0) ∧ k' = 0 then some (81, 1) else if r' = (81, 1) then none else F r' k'), am_nM M (81, 1))) 2 rfl).trans ?_
    exact e
  · rw [a2 (81, 0) 0 (Or.inr (by decide)) (Or.inl (by simp))]
    simp
  · rw [a2 r q (by omega) (Or.inl (fun z => h2 (by rw [z])))]
    try dsimp only
    rw [if_neg (fun z => h2 (by rw [z.1])), if_neg (fun z => h2 (by rw [z]))]
  · rw [a3 c (by omega)]
    unfold am_nM
    rw [am_sb_ne h2]
  · rw [a3 81 (by omega)]
    unfold am_nM
    rw [am_sb_at]
    funext j
    simp
end CTOR3
/-! ===== constructors: the class's four trial yards ===== -/
theorem cu_T4 : ∀ (i : Fin 4) (c : Fin 8), am_tab[336 + 8 * i.val + c.val]? = some ((68 + i.val, c.val), if c.val = 0 then 3 else 6, if c.val = 0 then 17 else if c.val < 6 then 24 else 4) := by decide +kernel
section CTOR4
variable {L : Nat} {F : am_R → Nat → Option am_R} {M : am_M}
theorem cu_66l : ∀ (m i : Nat) (G : am_R → Nat → Option am_R) (M : am_M), i + m = 4 → G (84, 0) 6 = some (84, 1) →
    ∃ G' M', am_den 66 (80, [some (am_A (84, 0)), some (am_I i)], [], (336 + 8 * i, 0, L, G), M) = some (.inl none, (368, 0, L, G'), M') ∧ (∀ j, i ≤ j → j < 4 → G' (84, 1) j = some (68 + j, 0) ∧ ∀ f, f < 7 → G' (68 + j, 0) f = some (68 + j, f + 1)) ∧ (∀ r q, (r.1 < 68 + i ∨ 72 ≤ r.1) → (r ≠ (84, 1) ∨ q < i) → G' r q = G r q) ∧ (∀ c, (c < 68 + i ∨ 72 ≤ c) → M' c = M c) := by
  have t11 : am_tab[184]? = some ((84, 0), 4, 7) := by decide +kernel
  have t12 : am_tab[335]? = some ((84, 1), 10, 4) := by decide +kernel
  intro m
  induction m with
  | zero =>
    intro i G M h hG
    have e : i = 4 := by omega
    subst e
    refine ⟨G, M, ?_, fun j a b => by omega, fun _ _ _ _ => rfl, fun _ _ => rfl⟩
    refine (am_den_n (c' := (82, [some (am_A (84, 0)), some (am_I 4)], [am_A (84, 0), am_I 4], (368, 0, L, G), M)) 2 rfl).trans ?_
    refine (am_d_gfr (c := 4) (f := 6) (show am_fetch 66 82 = some (.getfield 43, 3) from by decide +kernel) rfl (ct_obj t11 (by decide)) rfl hG).trans ?_
    refine (am_d_len (c := 10) (n := 4) (show am_fetch 66 85 = some (.arraylength, 1) from by decide +kernel) (ct_kd t12 (by decide)) (by decide)).trans ?_
    refine (am_d_ic (q := ((4 : Nat) : Int) ≤ 4) (show am_fetch 66 86 = some (.if_icmp .ge 22, 3) from by decide +kernel) rfl rfl).trans ?_
    rw [if_pos (by decide)]
    exact am_d_ret (show am_fetch 66 108 = some (.return_, 1) from by decide +kernel) rfl
  | succ m ih =>
    intro i G M h hG
    have hi : i < 4 := by omega
    have hT : ct_T (336 + 8 * i) (68 + i) := ct_Tof (cu_T4 ⟨i, hi⟩)
    obtain ⟨G1, M1, e, g1, g2, m1, _⟩ := ct_yard (k := 66) (pc := 94) (idx := 16) (idx2 := 18) (L := L) (F := G) (M := M) (ls := [some (am_A (84, 0)), some (am_I i)]) (st := [am_I i, am_A (84, 1)]) (by decide +kernel) rfl (by decide +kernel) (by decide +kernel) rfl rfl rfl hT
    have w1 : am_w ((i : Int) + 1) = ((i + 1 : Nat) : Int) := by rw [am_wi (by omega) (by omega)]; omega
    obtain ⟨G', M', e2, a1, a2, a3⟩ := ih (i + 1) (fun r' k' => if r' = (84, 1) ∧ k' = i then some (68 + i, 0) else G1 r' k') M1 (by omega) (by
      try dsimp only
      rw [if_neg (by simp), g2 (84, 0) 6 (show (84 : Nat) ≠ 68 + i by omega)]
      exact hG)
    refine ⟨G', M', ?_, fun j b c => ?_, fun r q hr hq => ?_, fun c hc => ?_⟩
    · refine (am_den_n (c' := (82, [some (am_A (84, 0)), some (am_I i)], [am_A (84, 0), am_I i], (336 + 8 * i, 0, L, G), M)) 2 rfl).trans ?_
      refine (am_d_gfr (c := 4) (f := 6) (show am_fetch 66 82 = some (.getfield 43, 3) from by decide +kernel) rfl (ct_obj t11 (by omega)) rfl hG).trans ?_
      refine (am_d_len (c := 10) (n := 4) (show am_fetch 66 85 = some (.arraylength, 1) from by decide +kernel) (ct_kd t12 (by omega)) (by decide)).trans ?_
      refine (am_d_ic (q := ((4 : Nat) : Int) ≤ (i : Int)) (show am_fetch 66 86 = some (.if_icmp .ge 22, 3) from by decide +kernel) rfl rfl).trans ?_
      rw [if_neg (by omega)]
      refine (am_den_n (c' := (90, [some (am_A (84, 0)), some (am_I i)], [am_A (84, 0)], (336 + 8 * i, 0, L, G), M)) 1 rfl).trans ?_
      refine (am_d_gfr (c := 4) (f := 6) (show am_fetch 66 90 = some (.getfield 43, 3) from by decide +kernel) rfl (ct_obj t11 (by omega)) rfl hG).trans ?_
      refine (am_den_n (c' := (94, [some (am_A (84, 0)), some (am_I i)], [am_I i, am_A (84, 1)], (336 + 8 * i, 0, L, G), M)) 1 rfl).trans ?_
      rw [e]
      refine (am_d_aas (show am_fetch 66 101 = some (.aastore, 1) from by decide +kernel) (am_ar_of (n := 4) (ct_kd t12 (by omega)) (by omega)) (ct_obj (hT 0 (by omega)) (by omega))).trans ?_
      refine (am_den_n (c' := (80, [some (am_A (84, 0)), some (am_I (am_w ((i : Int) + 1)))], [], (336 + 8 * i + 8, 0, L, fun r' k' => if r' = (84, 1) ∧ k' = i then some (68 + i, 0) else G1 r' k'), M1)) 2 rfl).trans ?_
      rw [w1, show 336 + 8 * i + 8 = 336 + 8 * (i + 1) by omega]
      exact e2
    · by_cases q : j = i
      · subst q
        refine ⟨?_, fun f hf => ?_⟩
        · rw [a2 (84, 1) j (Or.inr (by decide)) (Or.inr (by omega))]
          simp
        · rw [a2 (68 + j, 0) f (Or.inl (show 68 + j < 68 + (j + 1) by omega)) (Or.inl (by simp))]
          try dsimp only
          rw [if_neg (fun z => by have := congrArg (fun p => p.1.1) (Prod.ext z.1 z.2 : ((68 + j, 0), f) = ((84, 1), j)); simp at this; omega), g1 f hf]
      · exact a1 j (by omega) c
    · rw [a2 r q (by omega) (by rcases hq with w | w; exact Or.inl w; exact Or.inr (by omega))]
      try dsimp only
      rw [if_neg (fun z => by rcases hq with w | w; exact w z.1; omega), g2 r q (by omega)]
    · rw [a3 c (by omega), m1 c (by omega)]
end CTOR4
/-! ===== constructors: the class ===== -/
theorem cu_T0 : ct_T 187 50 := ct_Tof (by decide +kernel)
theorem cu_T15 : ct_T (309 + 1) 65 := ct_Tof (by decide +kernel)
theorem cu_T16 : ct_T (318 + 1) 66 := ct_Tof (by decide +kernel)
theorem cu_T17 : ct_T 327 67 := ct_Tof (by decide +kernel)
section CTOR5
variable {L : Nat} {F : am_R → Nat → Option am_R} {M : am_M}
theorem cu_66 (hM : ∀ c, 45 < c → c < 95 → M c = fun _ _ => 0) : ∃ G M', am_den 66 (0, [some (am_A (84, 0)), none], [], (185, 0, L, F), M) = some (.inl none, (368, 0, L, G), M') ∧ (∀ b, 50 ≤ b → b < 72 → ∀ f, f < 7 → G (b, 0) f = some (b, f + 1)) ∧ G (80, 0) 0 = some (80, 1) ∧ G (81, 0) 0 = some (81, 1) ∧ (∀ i, i < 14 → G (81, 1) i = some (i + 51, 0)) ∧ (G (82, 0) 0 = some (65, 0) ∧ G (83, 0) 0 = some (66, 0)) ∧ (G (84, 0) 0 = some (80, 0) ∧ G (84, 0) 1 = some (50, 0) ∧ G (84, 0) 2 = some (81, 0) ∧ G (84, 0) 3 = some (82, 0) ∧ G (84, 0) 4 = some (83, 0) ∧ G (84, 0) 5 = some (67, 0) ∧ G (84, 0) 6 = some (84, 1)) ∧ (∀ i, i < 4 → G (84, 1) i = some (68 + i, 0)) ∧ (∀ r q, r.1 < 50 → G r q = F r q) ∧ (∀ c, c < 50 → M' c = M c) ∧ (∀ b, 50 ≤ b → b ≤ 66 → ∃ Y, M' b = am_yc Y) ∧ (M' 81 = fun _ _ => 0) ∧ (M' 82 = fun _ _ => 0) ∧ (M' 83 = fun _ _ => 0) := by
  have t0 : am_tab[184]? = some ((84, 0), 4, 7) := by decide +kernel
  have ob : ∀ (m : Nat) (G : am_R → Nat → Option am_R), 184 < m → am_ob (m, 0, L, G) (84, 0) 4 = true := fun m G hm => ct_obj t0 hm
  have x0 : am_nx (185, 0, L, F) 2 (am_fn 2) = some (80, 0) := ct_nx (i := 185) (c := 2) (k := 6) (by decide +kernel)
  have x1 : ∀ G, am_nx (195, 0, L, G) 0 (am_fn 0) = some (81, 0) := fun G => ct_nx (i := 195) (c := 0) (k := 3) (by decide +kernel)
  have t125 : am_tab[309]? = some ((82, 0), 1, 2) := by decide +kernel
  have t134 : am_tab[318]? = some ((83, 0), 1, 2) := by decide +kernel
  have x2 : ∀ G, am_nx (309, 0, L, G) 1 (am_fn 1) = some (82, 0) := fun G => ct_nx (i := 309) (c := 1) (k := 2) t125
  have x3 : ∀ G, am_nx (318, 0, L, G) 1 (am_fn 1) = some (83, 0) := fun G => ct_nx (i := 318) (c := 1) (k := 2) t134
  have x4 : ∀ G, am_nx (335, 0, L, G) 10 4 = some (84, 1) := fun G => ct_nx (i := 335) (c := 10) (k := 4) (by decide +kernel)
  obtain ⟨Fc, eFc⟩ : ∃ Fc : am_R → Nat → Option am_R, Fc = fun r' k' => if r' = (84, 0) ∧ k' = 0 then some (80, 0) else if r' = (80, 0) ∧ k' = 0 then some (80, 1) else if r' = (80, 1) then none else if r' = (80, 0) then none else F r' k' := ⟨_, rfl⟩
  obtain ⟨Mb, eMb⟩ : ∃ Mb, Mb = am_nM (am_nM M (80, 0)) (80, 1) := ⟨_, rfl⟩
  have zb : ∀ c, 45 < c → c < 95 → Mb c = fun _ _ => 0 := fun c hd hc => by
    rw [eMb]
    by_cases q : c = 80
    · subst q
      exact ct_zz (r := (80, 1)) (ct_zz (r := (80, 0)) (hM 80 hd hc))
    · rw [ct_zn q, ct_zn q, hM c hd hc]
  obtain ⟨G1, M1, e1, y1, f1, m1, Y0, hY0⟩ := ct_yard (k := 66) (pc := 16) (idx := 16) (idx2 := 18) (L := L) (F := Fc) (M := Mb) (ls := [some (am_A (84, 0)), none]) (st := [am_A (84, 0)]) (by decide +kernel) rfl (by decide +kernel) (by decide +kernel) rfl rfl rfl cu_T0
  obtain ⟨H1, eH1⟩ : ∃ H1 : am_R → Nat → Option am_R, H1 = fun r' k' => if r' = (84, 0) ∧ k' = 1 then some (50, 0) else G1 r' k' := ⟨_, rfl⟩
  obtain ⟨G2, M2, e2, y2, z2, f2, m2, n2, k2, w2⟩ := cu_0 (L := L) (F := fun r' k' => if r' = (81, 0) then none else H1 r' k') (M := am_nM M1 (81, 0))
  obtain ⟨H2, eH2⟩ : ∃ H2 : am_R → Nat → Option am_R, H2 = fun r' k' => if r' = (84, 0) ∧ k' = 2 then some (81, 0) else G2 r' k' := ⟨_, rfl⟩
  obtain ⟨G3, M3, e3, y3, z3, f3, m3, w3⟩ := ct_5 (L := L) (F := fun r' k' => if r' = (82, 0) then none else H2 r' k') (M := am_nM M2 (82, 0)) t125 cu_T15 (by decide)
  obtain ⟨H3, eH3⟩ : ∃ H3 : am_R → Nat → Option am_R, H3 = fun r' k' => if r' = (84, 0) ∧ k' = 3 then some (82, 0) else G3 r' k' := ⟨_, rfl⟩
  obtain ⟨G4, M4, e4, y4, z4, f4, m4, w4⟩ := ct_5 (L := L) (F := fun r' k' => if r' = (83, 0) then none else H3 r' k') (M := am_nM M3 (83, 0)) t134 cu_T16 (by decide)
  obtain ⟨H4, eH4⟩ : ∃ H4 : am_R → Nat → Option am_R, H4 = fun r' k' => if r' = (84, 0) ∧ k' = 4 then some (83, 0) else G4 r' k' := ⟨_, rfl⟩
  obtain ⟨G5, M5, e5, y5, f5, m5, _⟩ := ct_yard (k := 66) (pc := 60) (idx := 16) (idx2 := 18) (L := L) (F := H4) (M := M4) (ls := [some (am_A (84, 0)), none]) (st := [am_A (84, 0)]) (by decide +kernel) rfl (by decide +kernel) (by decide +kernel) rfl rfl rfl cu_T17
  obtain ⟨H6, eH6⟩ : ∃ H6 : am_R → Nat → Option am_R, H6 = fun r' k' => if r' = (84, 0) ∧ k' = 6 then some (84, 1) else if r' = (84, 1) then none else if r' = (84, 0) ∧ k' = 5 then some (67, 0) else G5 r' k' := ⟨_, rfl⟩
  obtain ⟨G7, M7, e7, y7, f7, m7⟩ := cu_66l (L := L) 4 0 H6 (am_nM M5 (84, 1)) rfl (by rw [eH6]; simp)
  refine ⟨G7, M7, ?_, ?_⟩
  · refine (am_den_n (c' := (1, [some (am_A (84, 0)), none], [am_A (84, 0)], (185, 0, L, F), M)) 1 rfl).trans <| (am_d_obj (show am_fetch 66 1 = some (.invokespecial 1, 3) from by decide +kernel) rfl rfl).trans ?_
    refine (am_den_n (c' := (5, [some (am_A (84, 0)), none], [am_A (84, 0)], (185, 0, L, F), M)) 1 rfl).trans ?_
    refine (am_d_new (show am_fetch 66 5 = some (.new 7, 3) from by decide +kernel) rfl x0).trans ((ct_dup (by decide +kernel)).trans ?_)
    refine (am_d_iv (show am_fetch 66 9 = some (.invokespecial 9, 3) from by decide +kernel) (Or.inr (Or.inr ⟨_, rfl⟩)) (am_iv_i2 (st := [am_A (80, 0), am_A (80, 0), am_A (84, 0)]) (as := []) (rest := [am_A (80, 0), am_A (84, 0)]) (t := 6) (n := 1) (c := 2) rfl rfl rfl rfl rfl rfl rfl rfl rfl (ct_obj (i := 185) (k := 6) (by decide +kernel) (show 185 < 185 + 1 from by decide)))).trans ?_
    refine (congrArg _ (cu_6 (L := L) (F := fun r' k' => if r' = (80, 0) then none else F r' k') (M := am_nM M (80, 0)))).trans ?_
    refine (am_d_pfr (c := 4) (f := 0) (show am_fetch 66 12 = some (.putfield 10, 3) from by decide +kernel) rfl (ob _ _ (by decide)) rfl rfl rfl).trans ?_
    refine (am_den_n (c' := (16, [some (am_A (84, 0)), none], [am_A (84, 0)], (187, 0, L, Fc), Mb)) 1 (by rw [eFc, eMb]; rfl)).trans ?_
    rw [e1]
    refine (am_d_pfr (c := 4) (f := 1) (show am_fetch 66 23 = some (.putfield 19, 3) from by decide +kernel) rfl (ob _ _ (by decide)) rfl rfl rfl).trans ?_
    refine (am_den_n (c' := (27, [some (am_A (84, 0)), none], [am_A (84, 0)], (195, 0, L, H1), M1)) 1 (by rw [eH1]; rfl)).trans ?_
    refine (am_d_new (show am_fetch 66 27 = some (.new 23, 3) from by decide +kernel) rfl (x1 _)).trans ((ct_dup (by decide +kernel)).trans ?_)
    refine (am_d_iv (show am_fetch 66 31 = some (.invokespecial 25, 3) from by decide +kernel) (Or.inr (Or.inr ⟨_, rfl⟩)) (am_iv_i2 (st := [am_A (81, 0), am_A (81, 0), am_A (84, 0)]) (as := []) (rest := [am_A (81, 0), am_A (84, 0)]) (t := 0) (n := 1) (c := 0) rfl rfl rfl rfl rfl rfl rfl rfl rfl (ct_obj (i := 195) (k := 3) (by decide +kernel) (show 195 < 195 + 1 from by decide)))).trans ?_
    refine (congrArg _ e2).trans ?_
    refine (am_d_pfr (c := 4) (f := 2) (show am_fetch 66 34 = some (.putfield 26, 3) from by decide +kernel) rfl (ob _ _ (by decide)) rfl rfl rfl).trans ?_
    refine (am_den_n (c' := (38, [some (am_A (84, 0)), none], [am_A (84, 0)], (309, 0, L, H2), M2)) 1 (by rw [eH2]; rfl)).trans ?_
    refine (am_d_new (show am_fetch 66 38 = some (.new 30, 3) from by decide +kernel) rfl (x2 _)).trans ((ct_dup (by decide +kernel)).trans ?_)
    refine (am_d_iv (show am_fetch 66 42 = some (.invokespecial 32, 3) from by decide +kernel) (Or.inr (Or.inr ⟨_, rfl⟩)) (am_iv_i2 (st := [am_A (82, 0), am_A (82, 0), am_A (84, 0)]) (as := []) (rest := [am_A (82, 0), am_A (84, 0)]) (t := 5) (n := 1) (c := 1) rfl rfl rfl rfl rfl rfl rfl rfl rfl (ct_obj t125 (show 309 < 309 + 1 from by decide)))).trans ?_
    refine (congrArg _ e3).trans ?_
    refine (am_d_pfr (c := 4) (f := 3) (show am_fetch 66 45 = some (.putfield 33, 3) from by decide +kernel) rfl (ob _ _ (by decide)) rfl rfl rfl).trans ?_
    refine (am_den_n (c' := (49, [some (am_A (84, 0)), none], [am_A (84, 0)], (318, 0, L, H3), M3)) 1 (by rw [eH3]; rfl)).trans ?_
    refine (am_d_new (show am_fetch 66 49 = some (.new 30, 3) from by decide +kernel) rfl (x3 _)).trans ((ct_dup (by decide +kernel)).trans ?_)
    refine (am_d_iv (show am_fetch 66 53 = some (.invokespecial 32, 3) from by decide +kernel) (Or.inr (Or.inr ⟨_, rfl⟩)) (am_iv_i2 (st := [am_A (83, 0), am_A (83, 0), am_A (84, 0)]) (as := []) (rest := [am_A (83, 0), am_A (84, 0)]) (t := 5) (n := 1) (c := 1) rfl rfl rfl rfl rfl rfl rfl rfl rfl (ct_obj t134 (show 318 < 318 + 1 from by decide)))).trans ?_
    refine (congrArg _ e4).trans ?_
    refine (am_d_pfr (c := 4) (f := 4) (show am_fetch 66 56 = some (.putfield 37, 3) from by decide +kernel) rfl (ob _ _ (by decide)) rfl rfl rfl).trans ?_
    refine (am_den_n (c' := (60, [some (am_A (84, 0)), none], [am_A (84, 0)], (327, 0, L, H4), M4)) 1 (by rw [eH4]; rfl)).trans ?_
    rw [e5]
    refine (am_d_pfr (c := 4) (f := 5) (show am_fetch 66 67 = some (.putfield 40, 3) from by decide +kernel) rfl (ob _ _ (by decide)) rfl rfl rfl).trans ?_
    refine (am_den_n (c' := (72, [some (am_A (84, 0)), none], [am_I 4, am_A (84, 0)], (335, 0, L, fun r' k' => if r' = (84, 0) ∧ k' = 5 then some (67, 0) else G5 r' k'), M5)) 2 rfl).trans ?_
    refine (am_d_nb (show am_fetch 66 72 = some (.anewarray 16, 3) from by decide +kernel) rfl (by decide) (by decide) (x4 _)).trans ?_
    refine (am_d_pfr (c := 4) (f := 6) (show am_fetch 66 75 = some (.putfield 43, 3) from by decide +kernel) rfl (ob _ _ (show 184 < 335 + 1 from by decide)) rfl rfl rfl).trans ?_
    refine (am_den_n (c' := (80, [some (am_A (84, 0)), some (am_I 0)], [], (336, 0, L, H6), am_nM M5 (84, 1))) 2 (by rw [eH6]; rfl)).trans ?_
    exact e7
  · have n0 : ∀ {r : am_R} {c d : Nat}, r.1 ≠ c → r ≠ (c, d) := fun h z => h (by rw [z])
    have a7 : ∀ r q, (r.1 < 68 ∨ 72 ≤ r.1) → r.1 ≠ 84 → G7 r q = G5 r q := fun r q h1 h2 => by
      rw [f7 r q (by omega) (Or.inl (n0 h2)), eH6]
      simp only [n0 h2, false_and, if_false]
    have a5 : ∀ r q, r.1 ≠ 67 → r.1 ≠ 84 → G5 r q = G4 r q := fun r q h1 h2 => by
      rw [f5 r q h1, eH4]
      simp only [n0 h2, false_and, if_false]
    have a4 : ∀ r q, r.1 ≠ 83 → r.1 ≠ 66 → r.1 ≠ 84 → G4 r q = G3 r q := fun r q h1 h2 h3 => by
      rw [f4 r q h1 h2, eH3]
      simp only [n0 h1, n0 h3, false_and, if_false]
    have a3 : ∀ r q, r.1 ≠ 82 → r.1 ≠ 65 → r.1 ≠ 84 → G3 r q = G2 r q := fun r q h1 h2 h3 => by
      rw [f3 r q h1 h2, eH2]
      simp only [n0 h1, n0 h3, false_and, if_false]
    have a2 : ∀ r q, (r.1 ≤ 50 ∨ 64 < r.1) → r.1 ≠ 81 → r.1 ≠ 84 → G2 r q = G1 r q := fun r q h1 h2 h3 => by
      rw [f2 r q h1 h2, eH1]
      simp only [n0 h2, n0 h3, false_and, if_false]
    have a1 : ∀ r q, r.1 ≠ 50 → r.1 ≠ 80 → r.1 ≠ 84 → G1 r q = F r q := fun r q h1 h2 h3 => by
      rw [f1 r q h1, eFc]
      simp only [n0 h2, n0 h3, false_and, if_false]
    have b34 : ∀ q, G7 (84, 0) q = H6 (84, 0) q := fun q => f7 (84, 0) q (by simp) (Or.inl (by simp))
    have c34 : ∀ q, G5 (84, 0) q = H4 (84, 0) q := fun q => f5 (84, 0) q (by simp)
    have d34 : ∀ q, G4 (84, 0) q = H3 (84, 0) q := fun q => (f4 (84, 0) q (by simp) (by simp)).trans (by simp)
    have g34 : ∀ q, G3 (84, 0) q = H2 (84, 0) q := fun q => (f3 (84, 0) q (by simp) (by simp)).trans (by simp)
    have h34 : ∀ q, G2 (84, 0) q = H1 (84, 0) q := fun q => (f2 (84, 0) q (by simp) (by simp)).trans (by simp)
    have i34 : ∀ q, G1 (84, 0) q = Fc (84, 0) q := fun q => f1 (84, 0) q (by simp)
    have p7 : ∀ c, (c < 68 ∨ 72 ≤ c) → c ≠ 84 → M7 c = M5 c := fun c h1 h2 => by rw [m7 c (by omega), ct_zn h2]
    have p4 : ∀ c, c ≠ 66 → c ≠ 83 → M4 c = M3 c := fun c h1 h2 => by rw [m4 c h1, ct_zn h2]
    have p3 : ∀ c, c ≠ 65 → c ≠ 82 → M3 c = M2 c := fun c h1 h2 => by rw [m3 c h1, ct_zn h2]
    have p2 : ∀ c, (c ≤ 50 ∨ 64 < c) → c ≠ 81 → M2 c = M1 c := fun c h1 h2 => by rw [m2 c h1 h2, ct_zn h2]
    refine ⟨fun b hb0 hb f hf => ?_, ?_, ?_, fun i hi => ?_, ⟨?_, ?_⟩, ⟨?_, ?_, ?_, ?_, ?_, ?_, ?_⟩, fun i hi => (y7 i (by omega) hi).1, fun r q h => ?_, fun c h => ?_, fun b hb0 hb => ?_, ?_, ?_, ?_⟩
    · by_cases q1 : 68 ≤ b
      · have h := (y7 (b - 68) (by omega) (by omega)).2 f hf
        rw [show 68 + (b - 68) = b by omega] at h
        exact h
      · rw [a7 (b, 0) f (Or.inl (show b < 68 by omega)) (show b ≠ 84 by omega)]
        by_cases q2 : b = 67
        · subst q2
          exact y5 f hf
        · rw [a5 (b, 0) f q2 (show b ≠ 84 by omega)]
          by_cases q3 : b = 66
          · subst q3
            exact z4 f hf
          · rw [a4 (b, 0) f (show b ≠ 83 by omega) q3 (show b ≠ 84 by omega)]
            by_cases q4 : b = 65
            · subst q4
              exact z3 f hf
            · rw [a3 (b, 0) f (show b ≠ 82 by omega) q4 (show b ≠ 84 by omega)]
              by_cases q5 : b = 50
              · subst q5
                rw [a2 (50, 0) f (Or.inl (Nat.le_refl _)) (by simp) (by simp)]
                exact y1 f hf
              · have h := (z2 (b - 51) (by omega)).2 f hf
                rw [show b - 51 + 51 = b by omega] at h
                exact h
    · rw [a7 _ _ (by simp) (by simp), a5 _ _ (by simp) (by simp), a4 _ _ (by simp) (by simp) (by simp), a3 _ _ (by simp) (by simp) (by simp), a2 _ _ (by simp) (by simp) (by simp), f1 _ _ (by simp), eFc]
      simp
    · rw [a7 _ _ (by simp) (by simp), a5 _ _ (by simp) (by simp), a4 _ _ (by simp) (by simp) (by simp), a3 _ _ (by simp) (by simp) (by simp), y2]
    · rw [a7 _ _ (by simp) (by simp), a5 _ _ (by simp) (by simp), a4 _ _ (by simp) (by simp) (by simp), a3 _ _ (by simp) (by simp) (by simp), (z2 i hi).1]
    · rw [a7 _ _ (by simp) (by simp), a5 _ _ (by simp) (by simp), a4 _ _ (by simp) (by simp) (by simp), y3]
    · rw [a7 _ _ (by simp) (by simp), a5 _ _ (by simp) (by simp), y4]
    · rw [b34, eH6]; simp [c34, eH4, d34, eH3, g34, eH2, h34, eH1, i34, eFc]
    · rw [b34, eH6]; simp [c34, eH4, d34, eH3, g34, eH2, h34, eH1]
    · rw [b34, eH6]; simp [c34, eH4, d34, eH3, g34, eH2]
    · rw [b34, eH6]; simp [c34, eH4, d34, eH3]
    · rw [b34, eH6]; simp [c34, eH4]
    · rw [b34, eH6]; simp
    · rw [b34, eH6]; simp
    · rw [a7 r q (by omega) (by omega), a5 r q (by omega) (by omega), a4 r q (by omega) (by omega) (by omega), a3 r q (by omega) (by omega) (by omega), a2 r q (by omega) (by omega) (by omega), a1 r q (by omega) (by omega) (by omega)]
    · rw [p7 c (by omega) (by omega), m5 c (by omega), p4 c (by omega) (by omega), p3 c (by omega) (by omega), p2 c (by omega) (by omega), m1 c (by omega), eMb, ct_zn (show c ≠ 80 by omega), ct_zn (show c ≠ 80 by omega)]
    · rw [p7 b (by omega) (by omega), m5 b (by omega)]
      by_cases q1 : b = 66
      · rw [q1]; exact w4
      · rw [p4 b q1 (by omega)]
        by_cases q2 : b = 65
        · rw [q2]; exact w3
        · rw [p3 b q2 (by omega)]
          by_cases q3 : b = 50
          · rw [q3, p2 50 (by omega) (by omega)]
            exact ⟨Y0, hY0⟩
          · have h := w2 (b - 51) (by omega)
            rw [show b - 51 + 51 = b by omega] at h
            exact h
    · rw [p7 81 (by omega) (by omega), m5 81 (by omega), p4 81 (by omega) (by omega), p3 81 (by omega) (by omega), k2]
      exact ct_zz (r := (81, 1)) (ct_zz (r := (81, 0)) (by rw [m1 81 (by omega), zb 81 (by omega) (by omega)]))
    · rw [p7 82 (by omega) (by omega), m5 82 (by omega), p4 82 (by omega) (by omega), m3 82 (by omega)]
      exact ct_zz (r := (82, 0)) (by rw [p2 82 (by omega) (by omega), m1 82 (by omega), zb 82 (by omega) (by omega)])
    · rw [p7 83 (by omega) (by omega), m5 83 (by omega), m4 83 (by omega)]
      exact ct_zz (r := (83, 0)) (by rw [p3 83 (by omega) (by omega), p2 83 (by omega) (by omega), m1 83 (by omega), zb 83 (by omega) (by omega)])
end CTOR5
