/-! ===== constructors: the class ===== -/
theorem ct_T0 : ct_T 3 0 := ct_Tof (by decide +kernel)
theorem ct_T15 : ct_T (125 + 1) 15 := ct_Tof (by decide +kernel)
theorem ct_T16 : ct_T (134 + 1) 16 := ct_Tof (by decide +kernel)
theorem ct_T17 : ct_T 143 17 := ct_Tof (by decide +kernel)
section CTOR5
variable {L : Nat} {F : am_R → Nat → Option am_R} {M : am_M}
theorem ct_zz {r : am_R} (h : M r.1 = fun _ _ => 0) : am_nM M r r.1 = fun _ _ => 0 := by
  unfold am_nM
  rw [am_sb_at, h]
  funext c j
  simp
theorem ct_zn {r : am_R} {c : Nat} (h : c ≠ r.1) : am_nM M r c = M c := by
  unfold am_nM
  rw [am_sb_ne h]
theorem ct_66 (hM : ∀ c, c < 45 → M c = fun _ _ => 0) : ∃ G M', am_den 66 (0, [some (am_A (34, 0)), none], [], (1, 0, L, F), M) = some (.inl none, (184, 0, L, G), M') ∧ (∀ b, b < 22 → ∀ f, f < 7 → G (b, 0) f = some (b, f + 1)) ∧ G (30, 0) 0 = some (30, 1) ∧ G (31, 0) 0 = some (31, 1) ∧ (∀ i, i < 14 → G (31, 1) i = some (i + 1, 0)) ∧ (G (32, 0) 0 = some (15, 0) ∧ G (33, 0) 0 = some (16, 0)) ∧ (G (34, 0) 0 = some (30, 0) ∧ G (34, 0) 1 = some (0, 0) ∧ G (34, 0) 2 = some (31, 0) ∧ G (34, 0) 3 = some (32, 0) ∧ G (34, 0) 4 = some (33, 0) ∧ G (34, 0) 5 = some (17, 0) ∧ G (34, 0) 6 = some (34, 1)) ∧ (∀ i, i < 4 → G (34, 1) i = some (18 + i, 0)) ∧ (∀ r q, 34 < r.1 → G r q = F r q) ∧ (∀ c, 34 < c → M' c = M c) ∧ (∃ Y, M' 0 = am_yc Y) ∧ (M' 30 = fun _ _ => 0) ∧ (M' 31 0 = fun _ => 0) ∧ (M' 32 = fun _ _ => 0) ∧ (M' 33 = fun _ _ => 0) := by
  have t0 : am_tab[0]? = some ((34, 0), 4, 7) := by decide +kernel
  have ob : ∀ (m : Nat) (G : am_R → Nat → Option am_R), 0 < m → am_ob (m, 0, L, G) (34, 0) 4 = true := fun m G hm => ct_obj t0 hm
  have x0 : am_nx (1, 0, L, F) 2 (am_fn 2) = some (30, 0) := ct_nx (i := 1) (c := 2) (k := 6) (by decide +kernel)
  have x1 : ∀ G, am_nx (11, 0, L, G) 0 (am_fn 0) = some (31, 0) := fun G => ct_nx (i := 11) (c := 0) (k := 3) (by decide +kernel)
  have t125 : am_tab[125]? = some ((32, 0), 1, 2) := by decide +kernel
  have t134 : am_tab[134]? = some ((33, 0), 1, 2) := by decide +kernel
  have x2 : ∀ G, am_nx (125, 0, L, G) 1 (am_fn 1) = some (32, 0) := fun G => ct_nx (i := 125) (c := 1) (k := 2) t125
  have x3 : ∀ G, am_nx (134, 0, L, G) 1 (am_fn 1) = some (33, 0) := fun G => ct_nx (i := 134) (c := 1) (k := 2) t134
  have x4 : ∀ G, am_nx (151, 0, L, G) 10 4 = some (34, 1) := fun G => ct_nx (i := 151) (c := 10) (k := 4) (by decide +kernel)
  obtain ⟨Fc, eFc⟩ : ∃ Fc : am_R → Nat → Option am_R, Fc = fun r' k' => if r' = (34, 0) ∧ k' = 0 then some (30, 0) else if r' = (30, 0) ∧ k' = 0 then some (30, 1) else if r' = (30, 1) then none else if r' = (30, 0) then none else F r' k' := ⟨_, rfl⟩
  obtain ⟨Mb, eMb⟩ : ∃ Mb, Mb = am_nM (am_nM M (30, 0)) (30, 1) := ⟨_, rfl⟩
  have zb : ∀ c, c < 45 → Mb c = fun _ _ => 0 := fun c hc => by
    rw [eMb]
    by_cases q : c = 30
    · subst q
      exact ct_zz (r := (30, 1)) (ct_zz (r := (30, 0)) (hM 30 hc))
    · rw [ct_zn q, ct_zn q, hM c hc]
  obtain ⟨G1, M1, e1, y1, f1, m1, Y0, hY0⟩ := ct_yard (k := 66) (pc := 16) (idx := 16) (idx2 := 18) (L := L) (F := Fc) (M := Mb) (ls := [some (am_A (34, 0)), none]) (st := [am_A (34, 0)]) (by decide +kernel) rfl (by decide +kernel) (by decide +kernel) rfl rfl rfl ct_T0
  obtain ⟨H1, eH1⟩ : ∃ H1 : am_R → Nat → Option am_R, H1 = fun r' k' => if r' = (34, 0) ∧ k' = 1 then some (0, 0) else G1 r' k' := ⟨_, rfl⟩
  obtain ⟨G2, M2, e2, y2, z2, f2, m2, n2⟩ := ct_0 (L := L) (F := fun r' k' => if r' = (31, 0) then none else H1 r' k') (M := am_nM M1 (31, 0))
  obtain ⟨H2, eH2⟩ : ∃ H2 : am_R → Nat → Option am_R, H2 = fun r' k' => if r' = (34, 0) ∧ k' = 2 then some (31, 0) else G2 r' k' := ⟨_, rfl⟩
  obtain ⟨G3, M3, e3, y3, z3, f3, m3⟩ := ct_5 (L := L) (F := fun r' k' => if r' = (32, 0) then none else H2 r' k') (M := am_nM M2 (32, 0)) t125 ct_T15 (by decide)
  obtain ⟨H3, eH3⟩ : ∃ H3 : am_R → Nat → Option am_R, H3 = fun r' k' => if r' = (34, 0) ∧ k' = 3 then some (32, 0) else G3 r' k' := ⟨_, rfl⟩
  obtain ⟨G4, M4, e4, y4, z4, f4, m4⟩ := ct_5 (L := L) (F := fun r' k' => if r' = (33, 0) then none else H3 r' k') (M := am_nM M3 (33, 0)) t134 ct_T16 (by decide)
  obtain ⟨H4, eH4⟩ : ∃ H4 : am_R → Nat → Option am_R, H4 = fun r' k' => if r' = (34, 0) ∧ k' = 4 then some (33, 0) else G4 r' k' := ⟨_, rfl⟩
  obtain ⟨G5, M5, e5, y5, f5, m5, _⟩ := ct_yard (k := 66) (pc := 60) (idx := 16) (idx2 := 18) (L := L) (F := H4) (M := M4) (ls := [some (am_A (34, 0)), none]) (st := [am_A (34, 0)]) (by decide +kernel) rfl (by decide +kernel) (by decide +kernel) rfl rfl rfl ct_T17
  obtain ⟨H6, eH6⟩ : ∃ H6 : am_R → Nat → Option am_R, H6 = fun r' k' => if r' = (34, 0) ∧ k' = 6 then some (34, 1) else if r' = (34, 1) then none else if r' = (34, 0) ∧ k' = 5 then some (17, 0) else G5 r' k' := ⟨_, rfl⟩
  obtain ⟨G7, M7, e7, y7, f7, m7⟩ := ct_66l (L := L) 4 0 H6 (am_nM M5 (34, 1)) rfl (by rw [eH6]; simp)
  refine ⟨G7, M7, ?_, ?_⟩
  · refine (am_den_n (c' := (1, [some (am_A (34, 0)), none], [am_A (34, 0)], (1, 0, L, F), M)) 1 rfl).trans <| (am_d_obj (show am_fetch 66 1 = some (.invokespecial 1, 3) from by decide +kernel) rfl rfl).trans ?_
    refine (am_den_n (c' := (5, [some (am_A (34, 0)), none], [am_A (34, 0)], (1, 0, L, F), M)) 1 rfl).trans ?_
    refine (am_d_new (show am_fetch 66 5 = some (.new 7, 3) from by decide +kernel) rfl x0).trans ((ct_dup (by decide +kernel)).trans ?_)
    refine (am_d_iv (show am_fetch 66 9 = some (.invokespecial 9, 3) from by decide +kernel) (Or.inr (Or.inr ⟨_, rfl⟩)) (am_iv_i2 (st := [am_A (30, 0), am_A (30, 0), am_A (34, 0)]) (as := []) (rest := [am_A (30, 0), am_A (34, 0)]) (t := 6) (n := 1) (c := 2) rfl rfl rfl rfl rfl rfl rfl rfl rfl (ct_obj (i := 1) (k := 6) (by decide +kernel) (show 1 < 1 + 1 from by decide)))).trans ?_
    refine (congrArg _ (ct_6 (L := L) (F := fun r' k' => if r' = (30, 0) then none else F r' k') (M := am_nM M (30, 0)))).trans ?_
    refine (am_d_pfr (c := 4) (f := 0) (show am_fetch 66 12 = some (.putfield 10, 3) from by decide +kernel) rfl (ob _ _ (by decide)) rfl rfl rfl).trans ?_
    refine (am_den_n (c' := (16, [some (am_A (34, 0)), none], [am_A (34, 0)], (3, 0, L, Fc), Mb)) 1 (by rw [eFc, eMb]; rfl)).trans ?_
    rw [e1]
    refine (am_d_pfr (c := 4) (f := 1) (show am_fetch 66 23 = some (.putfield 19, 3) from by decide +kernel) rfl (ob _ _ (by decide)) rfl rfl rfl).trans ?_
    refine (am_den_n (c' := (27, [some (am_A (34, 0)), none], [am_A (34, 0)], (11, 0, L, H1), M1)) 1 (by rw [eH1]; rfl)).trans ?_
    refine (am_d_new (show am_fetch 66 27 = some (.new 23, 3) from by decide +kernel) rfl (x1 _)).trans ((ct_dup (by decide +kernel)).trans ?_)
    refine (am_d_iv (show am_fetch 66 31 = some (.invokespecial 25, 3) from by decide +kernel) (Or.inr (Or.inr ⟨_, rfl⟩)) (am_iv_i2 (st := [am_A (31, 0), am_A (31, 0), am_A (34, 0)]) (as := []) (rest := [am_A (31, 0), am_A (34, 0)]) (t := 0) (n := 1) (c := 0) rfl rfl rfl rfl rfl rfl rfl rfl rfl (ct_obj (i := 11) (k := 3) (by decide +kernel) (show 11 < 11 + 1 from by decide)))).trans ?_
    refine (congrArg _ e2).trans ?_
    refine (am_d_pfr (c := 4) (f := 2) (show am_fetch 66 34 = some (.putfield 26, 3) from by decide +kernel) rfl (ob _ _ (by decide)) rfl rfl rfl).trans ?_
    refine (am_den_n (c' := (38, [some (am_A (34, 0)), none], [am_A (34, 0)], (125, 0, L, H2), M2)) 1 (by rw [eH2]; rfl)).trans ?_
    refine (am_d_new (show am_fetch 66 38 = some (.new 30, 3) from by decide +kernel) rfl (x2 _)).trans ((ct_dup (by decide +kernel)).trans ?_)
    refine (am_d_iv (show am_fetch 66 42 = some (.invokespecial 32, 3) from by decide +kernel) (Or.inr (Or.inr ⟨_, rfl⟩)) (am_iv_i2 (st := [am_A (32, 0), am_A (32, 0), am_A (34, 0)]) (as := []) (rest := [am_A (32, 0), am_A (34, 0)]) (t := 5) (n := 1) (c := 1) rfl rfl rfl rfl rfl rfl rfl rfl rfl (ct_obj t125 (show 125 < 125 + 1 from by decide)))).trans ?_
    refine (congrArg _ e3).trans ?_
    refine (am_d_pfr (c := 4) (f := 3) (show am_fetch 66 45 = some (.putfield 33, 3) from by decide +kernel) rfl (ob _ _ (by decide)) rfl rfl rfl).trans ?_
    refine (am_den_n (c' := (49, [some (am_A (34, 0)), none], [am_A (34, 0)], (134, 0, L, H3), M3)) 1 (by rw [eH3]; rfl)).trans ?_
    refine (am_d_new (show am_fetch 66 49 = some (.new 30, 3) from by decide +kernel) rfl (x3 _)).trans ((ct_dup (by decide +kernel)).trans ?_)
    refine (am_d_iv (show am_fetch 66 53 = some (.invokespecial 32, 3) from by decide +kernel) (Or.inr (Or.inr ⟨_, rfl⟩)) (am_iv_i2 (st := [am_A (33, 0), am_A (33, 0), am_A (34, 0)]) (as := []) (rest := [am_A (33, 0), am_A (34, 0)]) (t := 5) (n := 1) (c := 1) rfl rfl rfl rfl rfl rfl rfl rfl rfl (ct_obj t134 (show 134 < 134 + 1 from by decide)))).trans ?_
    refine (congrArg _ e4).trans ?_
    refine (am_d_pfr (c := 4) (f := 4) (show am_fetch 66 56 = some (.putfield 37, 3) from by decide +kernel) rfl (ob _ _ (by decide)) rfl rfl rfl).trans ?_
    refine (am_den_n (c' := (60, [some (am_A (34, 0)), none], [am_A (34, 0)], (143, 0, L, H4), M4)) 1 (by rw [eH4]; rfl)).trans ?_
    rw [e5]
    refine (am_d_pfr (c := 4) (f := 5) (show am_fetch 66 67 = some (.putfield 40, 3) from by decide +kernel) rfl (ob _ _ (by decide)) rfl rfl rfl).trans ?_
    refine (am_den_n (c' := (72, [some (am_A (34, 0)), none], [am_I 4, am_A (34, 0)], (151, 0, L, fun r' k' => if r' = (34, 0) ∧ k' = 5 then some (17, 0) else G5 r' k'), M5)) 2 rfl).trans ?_
    refine (am_d_nb (show am_fetch 66 72 = some (.anewarray 16, 3) from by decide +kernel) rfl (by decide) (by decide) (x4 _)).trans ?_
    refine (am_d_pfr (c := 4) (f := 6) (show am_fetch 66 75 = some (.putfield 43, 3) from by decide +kernel) rfl (ob _ _ (show 0 < 151 + 1 from by decide)) rfl rfl rfl).trans ?_
    refine (am_den_n (c' := (80, [some (am_A (34, 0)), some (am_I 0)], [], (152, 0, L, H6), am_nM M5 (34, 1))) 2 (by rw [eH6]; rfl)).trans ?_
    exact e7
  · have n0 : ∀ {r : am_R} {c d : Nat}, r.1 ≠ c → r ≠ (c, d) := fun h z => h (by rw [z])
    have a7 : ∀ r q, (r.1 < 18 ∨ 22 ≤ r.1) → r.1 ≠ 34 → G7 r q = G5 r q := fun r q h1 h2 => by
      rw [f7 r q (by omega) (Or.inl (n0 h2)), eH6]
      simp only [n0 h2, false_and, if_false]
    have a5 : ∀ r q, r.1 ≠ 17 → r.1 ≠ 34 → G5 r q = G4 r q := fun r q h1 h2 => by
      rw [f5 r q h1, eH4]
      simp only [n0 h2, false_and, if_false]
    have a4 : ∀ r q, r.1 ≠ 33 → r.1 ≠ 16 → r.1 ≠ 34 → G4 r q = G3 r q := fun r q h1 h2 h3 => by
      rw [f4 r q h1 h2, eH3]
      simp only [n0 h1, n0 h3, false_and, if_false]
    have a3 : ∀ r q, r.1 ≠ 32 → r.1 ≠ 15 → r.1 ≠ 34 → G3 r q = G2 r q := fun r q h1 h2 h3 => by
      rw [f3 r q h1 h2, eH2]
      simp only [n0 h1, n0 h3, false_and, if_false]
    have a2 : ∀ r q, (r.1 = 0 ∨ 14 < r.1) → r.1 ≠ 31 → r.1 ≠ 34 → G2 r q = G1 r q := fun r q h1 h2 h3 => by
      rw [f2 r q h1 h2, eH1]
      simp only [n0 h2, n0 h3, false_and, if_false]
    have a1 : ∀ r q, r.1 ≠ 0 → r.1 ≠ 30 → r.1 ≠ 34 → G1 r q = F r q := fun r q h1 h2 h3 => by
      rw [f1 r q h1, eFc]
      simp only [n0 h2, n0 h3, false_and, if_false]
    have b34 : ∀ q, G7 (34, 0) q = H6 (34, 0) q := fun q => f7 (34, 0) q (by simp) (Or.inl (by simp))
    have c34 : ∀ q, G5 (34, 0) q = H4 (34, 0) q := fun q => f5 (34, 0) q (by simp)
    have d34 : ∀ q, G4 (34, 0) q = H3 (34, 0) q := fun q => (f4 (34, 0) q (by simp) (by simp)).trans (by simp)
    have g34 : ∀ q, G3 (34, 0) q = H2 (34, 0) q := fun q => (f3 (34, 0) q (by simp) (by simp)).trans (by simp)
    have h34 : ∀ q, G2 (34, 0) q = H1 (34, 0) q := fun q => (f2 (34, 0) q (by simp) (by simp)).trans (by simp)
    have i34 : ∀ q, G1 (34, 0) q = Fc (34, 0) q := fun q => f1 (34, 0) q (by simp)
    have p7 : ∀ c, (c < 18 ∨ 22 ≤ c) → c ≠ 34 → M7 c = M5 c := fun c h1 h2 => by rw [m7 c (by omega), ct_zn h2]
    have p4 : ∀ c, c ≠ 16 → c ≠ 33 → M4 c = M3 c := fun c h1 h2 => by rw [m4 c h1, ct_zn h2]
    have p3 : ∀ c, c ≠ 15 → c ≠ 32 → M3 c = M2 c := fun c h1 h2 => by rw [m3 c h1, ct_zn h2]
    have p2 : ∀ c, (c = 0 ∨ 14 < c) → c ≠ 31 → M2 c = M1 c := fun c h1 h2 => by rw [m2 c h1 h2, ct_zn h2]
    refine ⟨fun b hb f hf => ?_, ?_, ?_, fun i hi => ?_, ⟨?_, ?_⟩, ⟨?_, ?_, ?_, ?_, ?_, ?_, ?_⟩, fun i hi => (y7 i (by omega) hi).1, fun r q h => ?_, fun c h => ?_, ⟨Y0, ?_⟩, ?_, ?_, ?_, ?_⟩
    · by_cases q1 : 18 ≤ b
      · have h := (y7 (b - 18) (by omega) (by omega)).2 f hf
        rw [show 18 + (b - 18) = b by omega] at h
        exact h
      · rw [a7 (b, 0) f (Or.inl (show b < 18 by omega)) (show b ≠ 34 by omega)]
        by_cases q2 : b = 17
        · subst q2
          exact y5 f hf
        · rw [a5 (b, 0) f q2 (show b ≠ 34 by omega)]
          by_cases q3 : b = 16
          · subst q3
            exact z4 f hf
          · rw [a4 (b, 0) f (show b ≠ 33 by omega) q3 (show b ≠ 34 by omega)]
            by_cases q4 : b = 15
            · subst q4
              exact z3 f hf
            · rw [a3 (b, 0) f (show b ≠ 32 by omega) q4 (show b ≠ 34 by omega)]
              by_cases q5 : b = 0
              · subst q5
                rw [a2 (0, 0) f (Or.inl rfl) (by simp) (by simp)]
                exact y1 f hf
              · have h := (z2 (b - 1) (by omega)).2 f hf
                rw [show b - 1 + 1 = b by omega] at h
                exact h
    · rw [a7 _ _ (by simp) (by simp), a5 _ _ (by simp) (by simp), a4 _ _ (by simp) (by simp) (by simp), a3 _ _ (by simp) (by simp) (by simp), a2 _ _ (by simp) (by simp) (by simp), f1 _ _ (by simp), eFc]
      simp
    · rw [a7 _ _ (by simp) (by simp), a5 _ _ (by simp) (by simp), a4 _ _ (by simp) (by simp) (by simp), a3 _ _ (by simp) (by simp) (by simp), y2]
    · rw [a7 _ _ (by simp) (by simp), a5 _ _ (by simp) (by simp), a4 _ _ (by simp) (by simp) (by simp), a3 _ _ (by simp) (by simp) (by simp), (z2 i hi).1]
    · rw [a7 _ _ (by simp) (by simp), a5 _ _ (by simp) (by simp), a4 _ _ (by simp) (by simp) (by simp), y3]
    · rw [a7 _ _ (by simp) (by simp), a5 _ _ (by simp) (by simp), y4]
    · rw [b34, eH6]; simp [c34, eH4, d34, eH3, g34, eH2, h34, eH1, i34, eFc]
    · rw [b34, eH6]; simp [c34, eH4, d34, eH3, g34, eH2, h34, eH1]
    · rw [b34, eH6]; simp [c34, eH4, d34, eH3, g34, eH2]
    · rw [b34, eH6]; simp [c34, eH4, d34, eH3]
    · rw [b34, eH6]; simp [c34, eH4]
    · rw [b34, eH6]; simp
    · rw [b34, eH6]; simp
    · rw [a7 r q (by omega) (by omega), a5 r q (by omega) (by omega), a4 r q (by omega) (by omega) (by omega), a3 r q (by omega) (by omega) (by omega), a2 r q (by omega) (by omega) (by omega), a1 r q (by omega) (by omega) (by omega)]
    · rw [p7 c (by omega) (by omega), m5 c (by omega), p4 c (by omega) (by omega), p3 c (by omega) (by omega), p2 c (by omega) (by omega), m1 c (by omega), eMb, ct_zn (show c ≠ 30 by omega), ct_zn (show c ≠ 30 by omega)]
    · rw [p7 0 (by omega) (by omega), m5 0 (by omega), p4 0 (by omega) (by omega), p3 0 (by omega) (by omega), p2 0 (by omega) (by omega), hY0]
    · rw [p7 30 (by omega) (by omega), m5 30 (by omega), p4 30 (by omega) (by omega), p3 30 (by omega) (by omega), p2 30 (by omega) (by omega), m1 30 (by omega), zb 30 (by omega)]
    · rw [p7 31 (by omega) (by omega), m5 31 (by omega), p4 31 (by omega) (by omega), p3 31 (by omega) (by omega), n2, ct_zz (r := (31, 0)) (by rw [m1 31 (by omega), zb 31 (by omega)])]
    · rw [p7 32 (by omega) (by omega), m5 32 (by omega), p4 32 (by omega) (by omega), m3 32 (by omega)]
      exact ct_zz (r := (32, 0)) (by rw [p2 32 (by omega) (by omega), m1 32 (by omega), zb 32 (by omega)])
    · rw [p7 33 (by omega) (by omega), m5 33 (by omega), m4 33 (by omega)]
      exact ct_zz (r := (33, 0)) (by rw [p3 33 (by omega) (by omega), p2 33 (by omega) (by omega), m1 33 (by omega), zb 33 (by omega)])
end CTOR5
