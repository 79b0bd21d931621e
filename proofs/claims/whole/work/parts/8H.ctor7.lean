/-! ===== the law's prelude ===== -/
section CTOR7
variable {L : Nat}
theorem ct_Wr {G : am_R → Nat → Option am_R} (h1 : ∀ b, b < 22 → ∀ f, f < 7 → G (b, 0) f = some (b, f + 1)) (h2 : G (30, 0) 0 = some (30, 1)) (h3 : G (31, 0) 0 = some (31, 1)) (h4 : ∀ i, i < 14 → G (31, 1) i = some (i + 1, 0)) (h5 : G (32, 0) 0 = some (15, 0) ∧ G (33, 0) 0 = some (16, 0))
    (h6 : G (34, 0) 0 = some (30, 0) ∧ G (34, 0) 1 = some (0, 0) ∧ G (34, 0) 2 = some (31, 0) ∧ G (34, 0) 3 = some (32, 0) ∧ G (34, 0) 4 = some (33, 0) ∧ G (34, 0) 5 = some (17, 0) ∧ G (34, 0) 6 = some (34, 1)) (h7 : ∀ i, i < 4 → G (34, 1) i = some (18 + i, 0))
    (h8 : G (35, 0) 1 = some (36, 0) ∧ G (35, 0) 3 = some (37, 0) ∧ G (35, 0) 4 = some (38, 0) ∧ G (35, 0) 5 = some (39, 0) ∧ G (35, 0) 6 = some (40, 0) ∧ G (35, 0) 7 = some (41, 0) ∧ G (35, 0) 9 = some (42, 0) ∧ G (35, 0) 10 = some (43, 0)) : am_Wr (194, 0, L, G) := by
  have kd : ∀ {i : Nat} {r : am_R} {c k : Nat}, am_tab[i]? = some (r, c, k) → i < 194 → am_kd (194, 0, L, G) r = some (c, k) := fun {i r c k} h hi => ct_kd (m := 194) (x := 0) (i := i) (t := (r, c, k)) h hi
  have ob : ∀ {i : Nat} {r : am_R} {c k : Nat}, am_tab[i]? = some (r, c, k) → i < 194 → am_ob (194, 0, L, G) r c = true := fun {i r c k} h hi => ct_obj (m := 194) (x := 0) (i := i) (k := k) h hi
  refine ⟨fun b hb => ?_, ⟨ob (i := 1) (k := 6) (by decide +kernel) (by decide), h2, kd (i := 2) (by decide +kernel) (by decide)⟩, ⟨ob (i := 11) (k := 3) (by decide +kernel) (by decide), h3, kd (i := 12) (by decide +kernel) (by decide), h4⟩, fun s hs => ?_,
    ⟨ob (i := 0) (k := 7) (by decide +kernel) (by decide), h6.1, h6.2.1, h6.2.2.1, h6.2.2.2.1, h6.2.2.2.2.1, h6.2.2.2.2.2.1, h6.2.2.2.2.2.2, kd (i := 151) (by decide +kernel) (by decide), h7⟩,
    ⟨ob (i := 184) (k := 13) (by decide +kernel) (by decide), h8⟩,
    kd (i := 185) (by decide +kernel) (by decide), kd (i := 186) (by decide +kernel) (by decide), kd (i := 187) (by decide +kernel) (by decide), kd (i := 188) (by decide +kernel) (by decide), kd (i := 189) (by decide +kernel) (by decide), kd (i := 190) (by decide +kernel) (by decide), kd (i := 191) (by decide +kernel) (by decide), kd (i := 192) (by decide +kernel) (by decide), kd (i := 193) (by decide +kernel) (by decide)⟩
  · by_cases q1 : 18 ≤ b
    · have hT : ct_T (152 + 8 * (b - 18)) (18 + (b - 18)) := ct_Tof (ct_T4 ⟨b - 18, by omega⟩)
      rw [show 18 + (b - 18) = b by omega] at hT
      exact ct_WY hT (by omega) (h1 b hb)
    · by_cases q2 : b = 17
      · subst q2
        exact ct_WY ct_T17 (by decide) (h1 17 hb)
      · by_cases q3 : b = 16
        · subst q3
          exact ct_WY ct_T16 (by decide) (h1 16 hb)
        · by_cases q4 : b = 15
          · subst q4
            exact ct_WY ct_T15 (by decide) (h1 15 hb)
          · by_cases q5 : b = 0
            · subst q5
              exact ct_WY ct_T0 (by decide) (h1 0 hb)
            · have hT : ct_T (13 + 8 * (b - 1)) (b - 1 + 1) := ct_Tof (ct_T14 ⟨b - 1, by omega⟩)
              rw [show b - 1 + 1 = b by omega] at hT
              exact ct_WY hT (by omega) (h1 b hb)
  · rcases hs with e | e
    · subst e
      exact ⟨ob (i := 125) (k := 2) (by decide +kernel) (by decide), h5.1⟩
    · subst e
      exact ⟨ob (i := 134) (k := 2) (by decide +kernel) (by decide), h5.2⟩
theorem ct_si {M : am_M} (h0 : ∃ Y, M 0 = am_yc Y) (h30 : M 30 = fun _ _ => 0) (h31 : M 31 0 = fun _ => 0) (h32 : M 32 = fun _ _ => 0) (h33 : M 33 = fun _ _ => 0) (h35 : ∀ c, 35 ≤ c → c < 44 → c ≠ 37 → M c = fun _ _ => 0) (h37 : ∃ f, M 37 0 = rt_cl f) : si M 70000 := by
  obtain ⟨Y, hY⟩ := h0
  obtain ⟨f, hf⟩ := h37
  have a := av_clear (Y := Y)
  refine ⟨⟨⟨by rw [hY]; exact a.1, ?_, by rw [hY, a.2]; omega, by rw [hY, a.2]; omega⟩, by rw [hY, hf]; exact rt_cl_q, ?_⟩, ⟨⟨?_, ?_⟩, ?_, ?_⟩, ?_, ⟨?_, ?_, ?_, ?_, ?_⟩⟩
  · rw [hY]
    unfold av_H am_yc
    simp [ay_uy_x]
  · rw [hY, hf]
    unfold rt_cl am_yc
    simp [ay_uy_x, ar_u_ne, ar_rg]
  · rw [h31]; decide
  · rw [h31]; decide
  · rw [h31, h35 35 (by decide) (by decide) (by decide)]
  · intro j j0 j1
    rw [h31] at j1
    dsimp only at j1
    omega
  · intro s hs
    have e : M (32 + s) = fun _ _ => 0 := by
      have : s = 0 ∨ s = 1 := by omega
      rcases this with w | w <;> rw [w]
      · exact h32
      · exact h33
    rw [e, h35 43 (by decide) (by decide) (by decide)]
    exact ⟨Or.inl rfl, rfl, fun z => absurd (show (0 : Int) = 1 from z) (by decide)⟩
  · rw [h30]; decide
  · rw [h30, h35 35 (by decide) (by decide) (by decide)]
  · intro i i0 i1
    rw [h30, h35 36 (by decide) (by decide) (by decide)]
  · intro i i0 i1
    rw [h30]
    exact (by decide : (0 : Int) ≤ 0 ∧ (0 : Int) ≤ 255)
  · intro i i0 i1
    rw [h35 36 (by decide) (by decide) (by decide)]
    exact (by decide : (0 : Int) ≤ 0 ∧ (0 : Int) ≤ 255)
theorem ct_225 {xs : Nat → Int32} : ∃ G M, am_den 225 (am_en 225 [am_A (45, 0)] (am_E0 L) (am_M0 L xs)) = am_den 225 (23, [some (am_A (45, 0)), some (am_A (34, 0)), some (am_A (35, 0)), some (am_A (44, 0)), some (am_I 0), none, none], [], (194, 0, L, G), M) ∧ am_Wr (194, 0, L, G) ∧ si M 70000 := by
  have z0 : ∀ c, c < 45 → am_M0 L xs c = fun _ _ => 0 := fun c hc => by
    funext c' j
    unfold am_M0
    rw [if_neg (fun z => by omega)]
  have z1 : ∀ c, c < 45 → am_nM (am_M0 L xs) (34, 0) c = fun _ _ => 0 := fun c hc => by
    by_cases q : c = 34
    · subst q
      exact ct_zz (r := (34, 0)) (z0 34 hc)
    · rw [ct_zn q, z0 c hc]
  obtain ⟨G1, M1, e1, a1, a2, a3, a4, a5, a6, a7, a8, m1, b0, b30, b31, b32, b33⟩ := ct_66 (L := L) (F := fun r' k' => if r' = (34, 0) then none else none) (M := am_nM (am_M0 L xs) (34, 0)) z1
  have z2 : ∀ c, 35 ≤ c → c < 45 → am_nM M1 (35, 0) c = fun _ _ => 0 := fun c h1 h2 => by
    have e : M1 c = fun _ _ => 0 := by rw [m1 c (by omega), z1 c h2]
    by_cases q : c = 35
    · subst q
      exact ct_zz (r := (35, 0)) e
    · rw [ct_zn q, e]
  obtain ⟨G2, M2, e2, c1, c2, m2, d1, d37⟩ := ct_117 (L := L) (F := fun r' k' => if r' = (35, 0) then none else G1 r' k') (M := am_nM M1 (35, 0)) z2
  have fr : ∀ r q, r.1 < 35 → G2 r q = G1 r q := fun r q h => by
    rw [c2 r q h]
    rw [if_neg (fun z => by rw [z] at h; exact absurd h (by decide))]
  obtain ⟨G3, eG3⟩ : ∃ G3 : am_R → Nat → Option am_R, G3 = fun r' k' => if r' = (44, 0) then none else G2 r' k' := ⟨_, rfl⟩
  have gr : ∀ r q, r.1 < 44 → G3 r q = G2 r q := fun r q h => by
    rw [eG3]
    show (if r = (44, 0) then none else G2 r q) = G2 r q
    rw [if_neg (fun z => by rw [z] at h; exact absurd h (by decide))]
  have p : ∀ c, c < 35 → am_nM M2 (44, 0) c = M1 c := fun c h => by rw [ct_zn (show c ≠ 44 by omega), m2 c (by omega), ct_zn (show c ≠ 35 by omega)]
  refine ⟨G3, am_nM M2 (44, 0), ?_, ?_, ?_⟩
  · refine (am_d_new (st := []) (ls := [some (am_A (45, 0)), none, none, none, none, none, none]) (E := am_E0 L) (show am_fetch 225 0 = some (.new 8, 3) from by decide +kernel) rfl (ct_nx (i := 0) (c := 4) (k := 7) (r := (34, 0)) (by decide +kernel))).trans ((ct_dup (by decide +kernel)).trans ?_)
    refine (am_d_iv (show am_fetch 225 4 = some (.invokespecial 97, 3) from by decide +kernel) (Or.inr (Or.inr ⟨_, rfl⟩)) (am_iv_i2 (st := [am_A (34, 0), am_A (34, 0)]) (as := []) (rest := [am_A (34, 0)]) (t := 66) (n := 1) (c := 4) rfl rfl rfl rfl rfl rfl rfl rfl rfl (ct_obj (i := 0) (k := 7) (by decide +kernel) (show 0 < 0 + 1 from by decide)))).trans ?_
    refine (congrArg _ e1).trans ?_
    refine (am_den_n (c' := (8, [some (am_A (45, 0)), some (am_A (34, 0)), none, none, none, none, none], [], (184, 0, L, G1), M1)) 1 rfl).trans ?_
    refine (am_d_new (show am_fetch 225 8 = some (.new 98, 3) from by decide +kernel) rfl (ct_nx (i := 184) (c := 5) (k := 13) (r := (35, 0)) (by decide +kernel))).trans ((ct_dup (by decide +kernel)).trans ?_)
    refine (am_d_iv (show am_fetch 225 12 = some (.invokespecial 100, 3) from by decide +kernel) (Or.inr (Or.inr ⟨_, rfl⟩)) (am_iv_i2 (st := [am_A (35, 0), am_A (35, 0)]) (as := []) (rest := [am_A (35, 0)]) (t := 117) (n := 1) (c := 5) rfl rfl rfl rfl rfl rfl rfl rfl rfl (ct_obj (i := 184) (k := 13) (by decide +kernel) (show 184 < 184 + 1 from by decide)))).trans ?_
    refine (congrArg _ e2).trans ?_
    refine (am_den_n (c' := (17, [some (am_A (45, 0)), some (am_A (34, 0)), some (am_A (35, 0)), none, none, none, none], [am_I 1], (193, 0, L, G2), M2)) 2 rfl).trans ?_
    refine (am_d_na (show am_fetch 225 17 = some (.newarray .long, 2) from by decide +kernel) (by decide) (by decide) (by decide) (ct_nx (i := 193) (c := 9) (k := 1) (r := (44, 0)) (by decide +kernel))).trans ?_
    exact am_den_n 3 (by rw [eG3]; rfl)
  · refine ct_Wr (fun b hb f hf => ?_) ?_ ?_ (fun i hi => ?_) ⟨?_, ?_⟩ ⟨?_, ?_, ?_, ?_, ?_, ?_, ?_⟩ (fun i hi => ?_) ⟨?_, ?_, ?_, ?_, ?_, ?_, ?_, ?_⟩
    · rw [gr (b, 0) f (show b < 44 by omega), fr (b, 0) f (show b < 35 by omega)]; exact a1 b hb f hf
    · rw [gr _ _ (by decide), fr _ _ (by decide)]; exact a2
    · rw [gr _ _ (by decide), fr _ _ (by decide)]; exact a3
    · rw [gr _ _ (by decide), fr _ _ (by decide)]; exact a4 i hi
    · rw [gr _ _ (by decide), fr _ _ (by decide)]; exact a5.1
    · rw [gr _ _ (by decide), fr _ _ (by decide)]; exact a5.2
    · rw [gr _ _ (by decide), fr _ _ (by decide)]; exact a6.1
    · rw [gr _ _ (by decide), fr _ _ (by decide)]; exact a6.2.1
    · rw [gr _ _ (by decide), fr _ _ (by decide)]; exact a6.2.2.1
    · rw [gr _ _ (by decide), fr _ _ (by decide)]; exact a6.2.2.2.1
    · rw [gr _ _ (by decide), fr _ _ (by decide)]; exact a6.2.2.2.2.1
    · rw [gr _ _ (by decide), fr _ _ (by decide)]; exact a6.2.2.2.2.2.1
    · rw [gr _ _ (by decide), fr _ _ (by decide)]; exact a6.2.2.2.2.2.2
    · rw [gr _ _ (by decide), fr _ _ (by decide)]; exact a7 i hi
    · rw [gr _ _ (by decide)]; exact c1.1
    · rw [gr _ _ (by decide)]; exact c1.2.1
    · rw [gr _ _ (by decide)]; exact c1.2.2.1
    · rw [gr _ _ (by decide)]; exact c1.2.2.2.1
    · rw [gr _ _ (by decide)]; exact c1.2.2.2.2.1
    · rw [gr _ _ (by decide)]; exact c1.2.2.2.2.2.1
    · rw [gr _ _ (by decide)]; exact c1.2.2.2.2.2.2.1
    · rw [gr _ _ (by decide)]; exact c1.2.2.2.2.2.2.2
  · refine ct_si ?_ ?_ ?_ ?_ ?_ (fun c h1 h2 h3 => ?_) ?_
    · rw [p 0 (by decide)]; exact b0
    · rw [p 30 (by decide)]; exact b30
    · rw [p 31 (by decide)]; exact b31
    · rw [p 32 (by decide)]; exact b32
    · rw [p 33 (by decide)]; exact b33
    · rw [ct_zn (show c ≠ 44 by omega)]; exact d1 c h1 (by omega) h3
    · rw [ct_zn (show (37 : Nat) ≠ 44 by decide)]; exact d37
theorem am_law_of (H : tz22) : am_Law := by
  intro L xs hL
  obtain ⟨G, M, e, hW, hs⟩ := ct_225 (L := L) (xs := xs)
  obtain ⟨E1, M1, e1, a1, a2, a3⟩ := tl_23 H hL 512 0 (194, 0, L, G) M 70000 none none (by decide) (by decide) (by omega) (by decide) (by decide) hW hs rfl
  rw [e1] at e
  obtain ⟨n, hn⟩ := am_den_i e
  have b1 : E1.1 = 194 := a1
  have b3 : E1.2.1 ≤ 512 := by
    have : E1.2.1 ≤ 0 + 512 := a3
    omega
  refine ⟨n, E1, M1, hn, ?_, ?_⟩
  · unfold am_qc
    omega
  · unfold am_qs
    have : am_qt E1.1 ≤ 7289962 := by
      rw [b1]
      decide +kernel
    omega
end CTOR7
