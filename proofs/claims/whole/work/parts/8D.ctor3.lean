/-! ===== constructors: the memory ===== -/
theorem ct_Tof {n b : Nat} (h : ∀ c : Fin 8, am_tab[n + c.val]? = some ((b, c.val), if c.val = 0 then 3 else 6, if c.val = 0 then 17 else if c.val < 6 then 24 else 4)) : ct_T n b := fun c hc => h ⟨c, hc⟩
theorem ct_T14 : ∀ (i : Fin 14) (c : Fin 8), am_tab[13 + 8 * i.val + c.val]? = some ((i.val + 1, c.val), if c.val = 0 then 3 else 6, if c.val = 0 then 17 else if c.val < 6 then 24 else 4) := by decide +kernel
section CTOR3
variable {L : Nat} {F : am_R → Nat → Option am_R} {M : am_M}
theorem ct_0l : ∀ (m i : Nat) (G : am_R → Nat → Option am_R) (M : am_M), i + m = 14 → G (31, 0) 0 = some (31, 1) →
    ∃ G' M', am_den 0 (15, [some (am_A (31, 0)), some (am_I i)], [], (13 + 8 * i, 0, L, G), M) = some (.inl none, (125, 0, L, G'), M') ∧ (∀ j, i ≤ j → j < 14 → G' (31, 1) j = some (j + 1, 0) ∧ ∀ f, f < 7 → G' (j + 1, 0) f = some (j + 1, f + 1)) ∧ (∀ r q, (r.1 ≤ i ∨ 14 < r.1) → (r ≠ (31, 1) ∨ q < i) → G' r q = G r q) ∧ (∀ c, (c ≤ i ∨ 14 < c) → M' c = M c) := by
  have t11 : am_tab[11]? = some ((31, 0), 0, 3) := by decide +kernel
  have t12 : am_tab[12]? = some ((31, 1), 10, 14) := by decide +kernel
  intro m
  induction m with
  | zero =>
    intro i G M h hG
    have e : i = 14 := by omega
    subst e
    refine ⟨G, M, ?_, fun j a b => by omega, fun _ _ _ _ => rfl, fun _ _ => rfl⟩
    refine (am_den_n (c' := (17, [some (am_A (31, 0)), some (am_I 14)], [am_A (31, 0), am_I 14], (125, 0, L, G), M)) 2 rfl).trans ?_
    refine (am_d_gfr (c := 0) (f := 0) (show am_fetch 0 17 = some (.getfield 11, 3) from by decide +kernel) rfl (ct_obj t11 (by decide)) rfl hG).trans ?_
    refine (am_d_len (c := 10) (n := 14) (show am_fetch 0 20 = some (.arraylength, 1) from by decide +kernel) (ct_kd t12 (by decide)) (by decide)).trans ?_
    refine (am_d_ic (q := ((14 : Nat) : Int) ≤ 14) (show am_fetch 0 21 = some (.if_icmp .ge 22, 3) from by decide +kernel) rfl rfl).trans ?_
    rw [if_pos (by decide)]
    exact am_d_ret (show am_fetch 0 43 = some (.return_, 1) from by decide +kernel) rfl
  | succ m ih =>
    intro i G M h hG
    have hi : i < 14 := by omega
    have hT : ct_T (13 + 8 * i) (i + 1) := ct_Tof (ct_T14 ⟨i, hi⟩)
    obtain ⟨G1, M1, e, g1, g2, m1, _⟩ := ct_yard (k := 0) (pc := 29) (idx := 9) (idx2 := 17) (L := L) (F := G) (M := M) (ls := [some (am_A (31, 0)), some (am_I i)]) (st := [am_I i, am_A (31, 1)]) (by decide +kernel) rfl (by decide +kernel) (by decide +kernel) rfl rfl rfl hT
    have w1 : am_w ((i : Int) + 1) = ((i + 1 : Nat) : Int) := by rw [am_wi (by omega) (by omega)]; omega
    obtain ⟨G', M', e2, a1, a2, a3⟩ := ih (i + 1) (fun r' k' => if r' = (31, 1) ∧ k' = i then some (i + 1, 0) else G1 r' k') M1 (by omega) (by
      try dsimp only
      rw [if_neg (by simp), g2 (31, 0) 0 (show (31 : Nat) ≠ i + 1 by omega)]
      exact hG)
    refine ⟨G', M', ?_, fun j b c => ?_, fun r q hr hq => ?_, fun c hc => ?_⟩
    · refine (am_den_n (c' := (17, [some (am_A (31, 0)), some (am_I i)], [am_A (31, 0), am_I i], (13 + 8 * i, 0, L, G), M)) 2 rfl).trans ?_
      refine (am_d_gfr (c := 0) (f := 0) (show am_fetch 0 17 = some (.getfield 11, 3) from by decide +kernel) rfl (ct_obj t11 (by omega)) rfl hG).trans ?_
      refine (am_d_len (c := 10) (n := 14) (show am_fetch 0 20 = some (.arraylength, 1) from by decide +kernel) (ct_kd t12 (by omega)) (by decide)).trans ?_
      refine (am_d_ic (q := ((14 : Nat) : Int) ≤ (i : Int)) (show am_fetch 0 21 = some (.if_icmp .ge 22, 3) from by decide +kernel) rfl rfl).trans ?_
      rw [if_neg (by omega)]
      refine (am_den_n (c' := (25, [some (am_A (31, 0)), some (am_I i)], [am_A (31, 0)], (13 + 8 * i, 0, L, G), M)) 1 rfl).trans ?_
      refine (am_d_gfr (c := 0) (f := 0) (show am_fetch 0 25 = some (.getfield 11, 3) from by decide +kernel) rfl (ct_obj t11 (by omega)) rfl hG).trans ?_
      refine (am_den_n (c' := (29, [some (am_A (31, 0)), some (am_I i)], [am_I i, am_A (31, 1)], (13 + 8 * i, 0, L, G), M)) 1 rfl).trans ?_
      rw [e]
      refine (am_d_aas (show am_fetch 0 36 = some (.aastore, 1) from by decide +kernel) (am_ar_of (n := 14) (ct_kd t12 (by omega)) (by omega)) (ct_obj (hT 0 (by omega)) (by omega))).trans ?_
      refine (am_den_n (c' := (15, [some (am_A (31, 0)), some (am_I (am_w ((i : Int) + 1)))], [], (13 + 8 * i + 8, 0, L, fun r' k' => if r' = (31, 1) ∧ k' = i then some (i + 1, 0) else G1 r' k'), M1)) 2 rfl).trans ?_
      rw [w1, show 13 + 8 * i + 8 = 13 + 8 * (i + 1) by omega]
      exact e2
    · by_cases q : j = i
      · subst q
        refine ⟨?_, fun f hf => ?_⟩
        · rw [a2 (31, 1) j (Or.inr (by decide)) (Or.inr (by omega))]
          simp
        · rw [a2 (j + 1, 0) f (Or.inl (Nat.le_refl _)) (Or.inl (by simp))]
          try dsimp only
          rw [if_neg (by simp), g1 f hf]
      · exact a1 j (by omega) c
    · rw [a2 r q (by omega) (by rcases hq with w | w; exact Or.inl w; exact Or.inr (by omega))]
      try dsimp only
      rw [if_neg (fun z => by rcases hq with w | w; exact w z.1; omega), g2 r q (by omega)]
    · rw [a3 c (by omega), m1 c (by omega)]
theorem ct_0 : ∃ G' M', am_den 0 (0, [some (am_A (31, 0)), none], [], (12, 0, L, F), M) = some (.inl none, (125, 0, L, G'), M') ∧ G' (31, 0) 0 = some (31, 1) ∧ (∀ j, j < 14 → G' (31, 1) j = some (j + 1, 0) ∧ ∀ f, f < 7 → G' (j + 1, 0) f = some (j + 1, f + 1)) ∧ (∀ r q, (r.1 = 0 ∨ 14 < r.1) → r.1 ≠ 31 → G' r q = F r q) ∧ (∀ c, (c = 0 ∨ 14 < c) → c ≠ 31 → M' c = M c) ∧ M' 31 0 = M 31 0 := by
  have t11 : am_tab[11]? = some ((31, 0), 0, 3) := by decide +kernel
  have hx : am_nx (12, 0, L, F) 10 14 = some (31, 1) := ct_nx (i := 12) (c := 10) (k := 14) (by decide +kernel)
  obtain ⟨G', M', e, a1, a2, a3⟩ := ct_0l (L := L) 14 0 (fun r' k' => if r' = (31, 0) ∧ k' = 0 then some (31, 1) else if r' = (31, 1) then none else F r' k') (am_nM M (31, 1)) rfl (by simp)
  refine ⟨G', M', ?_, ?_, fun j hj => a1 j (by omega) hj, fun r q h1 h2 => ?_, fun c h1 h2 => ?_, ?_⟩
  · refine (am_den_n (c' := (1, [some (am_A (31, 0)), none], [am_A (31, 0)], (12, 0, L, F), M)) 1 rfl).trans <| (am_d_obj (show am_fetch 0 1 = some (.invokespecial 3, 3) from by decide +kernel) rfl rfl).trans ?_
    refine (am_den_n (c' := (7, [some (am_A (31, 0)), none], [am_I 14, am_A (31, 0)], (12, 0, L, F), M)) 2 rfl).trans ?_
    refine (am_d_nb (show am_fetch 0 7 = some (.anewarray 9, 3) from by decide +kernel) rfl (by decide) (by decide) hx).trans ?_
    refine (am_d_pfr (c := 0) (f := 0) (show am_fetch 0 10 = some (.putfield 11, 3) from by decide +kernel) rfl (ct_obj t11 (show 11 < 12 + 1 from by decide)) rfl rfl rfl).trans ?_
    refine (am_den_n (c' := (15, [some (am_A (31, 0)), some (am_I 0)], [], (13, 0, L, fun r' k' => if r' = (31, 0) ∧ k' = 0 then some (31, 1) else if r' = (31, 1) then none else F r' k'), am_nM M (31, 1))) 2 rfl).trans ?_
    exact e
  · rw [a2 (31, 0) 0 (Or.inr (by decide)) (Or.inl (by simp))]
    simp
  · rw [a2 r q (by omega) (Or.inl (fun z => h2 (by rw [z])))]
    try dsimp only
    rw [if_neg (fun z => h2 (by rw [z.1])), if_neg (fun z => h2 (by rw [z]))]
  · rw [a3 c (by omega)]
    unfold am_nM
    rw [am_sb_ne h2]
  · rw [a3 31 (by omega)]
    unfold am_nM
    rw [am_sb_at]
    funext j
    simp
end CTOR3
