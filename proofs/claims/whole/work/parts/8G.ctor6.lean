/-! ===== constructors: the reference ===== -/
section CTOR6
variable {L : Nat} {F : am_R → Nat → Option am_R} {M : am_M}
theorem ct_117 (hM : ∀ c, 35 ≤ c → c < 45 → M c = fun _ _ => 0) : ∃ G M', am_den 117 (0, [some (am_A (35, 0))], [], (185, 0, L, F), M) = some (.inl none, (193, 0, L, G), M') ∧ (G (35, 0) 1 = some (36, 0) ∧ G (35, 0) 3 = some (37, 0) ∧ G (35, 0) 4 = some (38, 0) ∧ G (35, 0) 5 = some (39, 0) ∧ G (35, 0) 6 = some (40, 0) ∧ G (35, 0) 7 = some (41, 0) ∧ G (35, 0) 9 = some (42, 0) ∧ G (35, 0) 10 = some (43, 0)) ∧ (∀ r q, r.1 < 35 → G r q = F r q) ∧ (∀ c, c < 35 ∨ 43 < c → M' c = M c) ∧ (∀ c, 35 ≤ c → c < 45 → c ≠ 37 → M' c = fun _ _ => 0) ∧ (∃ f, M' 37 0 = rt_cl f) := by
  have t0 : am_tab[184]? = some ((35, 0), 5, 13) := by decide +kernel
  have ob : ∀ (m : Nat) (G : am_R → Nat → Option am_R), 184 < m → am_ob (m, 0, L, G) (35, 0) 5 = true := fun m G hm => ct_obj t0 hm
  have t36 : am_tab[185]? = some ((36, 0), 6, 120) := by decide +kernel
  have x36 : ∀ G, am_nx (185, 0, L, G) 6 120 = some (36, 0) := fun G => ct_nx (i := 185) (c := 6) (k := 120) t36
  obtain ⟨F36, eF36⟩ : ∃ F36 : am_R → Nat → Option am_R, F36 = fun r' k' => if r' = (35, 0) ∧ k' = 1 then some (36, 0) else if r' = (36, 0) then none else F r' k' := ⟨_, rfl⟩
  obtain ⟨M36, eM36⟩ : ∃ M36, M36 = am_nM M (36, 0) := ⟨_, rfl⟩
  have z36 : ∀ c, 35 ≤ c → c < 45 → M36 c = fun _ _ => 0 := fun c h1 h2 => by
    rw [eM36]
    by_cases q : c = 36
    · subst q
      exact ct_zz (r := (36, 0)) (hM 36 (by omega) (by omega))
    · rw [ct_zn q, hM c h1 h2]
  have t37 : am_tab[186]? = some ((37, 0), 6, 138) := by decide +kernel
  have x37 : ∀ G, am_nx (186, 0, L, G) 6 138 = some (37, 0) := fun G => ct_nx (i := 186) (c := 6) (k := 138) t37
  obtain ⟨F37, eF37⟩ : ∃ F37 : am_R → Nat → Option am_R, F37 = fun r' k' => if r' = (35, 0) ∧ k' = 3 then some (37, 0) else if r' = (37, 0) then none else F36 r' k' := ⟨_, rfl⟩
  obtain ⟨M37, eM37⟩ : ∃ M37, M37 = am_nM M36 (37, 0) := ⟨_, rfl⟩
  have z37 : ∀ c, 35 ≤ c → c < 45 → M37 c = fun _ _ => 0 := fun c h1 h2 => by
    rw [eM37]
    by_cases q : c = 37
    · subst q
      exact ct_zz (r := (37, 0)) (z36 37 (by omega) (by omega))
    · rw [ct_zn q, z36 c h1 h2]
  have t38 : am_tab[187]? = some ((38, 0), 6, 138) := by decide +kernel
  have x38 : ∀ G, am_nx (187, 0, L, G) 6 138 = some (38, 0) := fun G => ct_nx (i := 187) (c := 6) (k := 138) t38
  obtain ⟨F38, eF38⟩ : ∃ F38 : am_R → Nat → Option am_R, F38 = fun r' k' => if r' = (35, 0) ∧ k' = 4 then some (38, 0) else if r' = (38, 0) then none else F37 r' k' := ⟨_, rfl⟩
  obtain ⟨M38, eM38⟩ : ∃ M38, M38 = am_nM M37 (38, 0) := ⟨_, rfl⟩
  have z38 : ∀ c, 35 ≤ c → c < 45 → M38 c = fun _ _ => 0 := fun c h1 h2 => by
    rw [eM38]
    by_cases q : c = 38
    · subst q
      exact ct_zz (r := (38, 0)) (z37 38 (by omega) (by omega))
    · rw [ct_zn q, z37 c h1 h2]
  have t39 : am_tab[188]? = some ((39, 0), 6, 138) := by decide +kernel
  have x39 : ∀ G, am_nx (188, 0, L, G) 6 138 = some (39, 0) := fun G => ct_nx (i := 188) (c := 6) (k := 138) t39
  obtain ⟨F39, eF39⟩ : ∃ F39 : am_R → Nat → Option am_R, F39 = fun r' k' => if r' = (35, 0) ∧ k' = 5 then some (39, 0) else if r' = (39, 0) then none else F38 r' k' := ⟨_, rfl⟩
  obtain ⟨M39, eM39⟩ : ∃ M39, M39 = am_nM M38 (39, 0) := ⟨_, rfl⟩
  have z39 : ∀ c, 35 ≤ c → c < 45 → M39 c = fun _ _ => 0 := fun c h1 h2 => by
    rw [eM39]
    by_cases q : c = 39
    · subst q
      exact ct_zz (r := (39, 0)) (z38 39 (by omega) (by omega))
    · rw [ct_zn q, z38 c h1 h2]
  have t40 : am_tab[189]? = some ((40, 0), 6, 138) := by decide +kernel
  have x40 : ∀ G, am_nx (189, 0, L, G) 6 138 = some (40, 0) := fun G => ct_nx (i := 189) (c := 6) (k := 138) t40
  obtain ⟨F40, eF40⟩ : ∃ F40 : am_R → Nat → Option am_R, F40 = fun r' k' => if r' = (35, 0) ∧ k' = 6 then some (40, 0) else if r' = (40, 0) then none else F39 r' k' := ⟨_, rfl⟩
  obtain ⟨M40, eM40⟩ : ∃ M40, M40 = am_nM M39 (40, 0) := ⟨_, rfl⟩
  have z40 : ∀ c, 35 ≤ c → c < 45 → M40 c = fun _ _ => 0 := fun c h1 h2 => by
    rw [eM40]
    by_cases q : c = 40
    · subst q
      exact ct_zz (r := (40, 0)) (z39 40 (by omega) (by omega))
    · rw [ct_zn q, z39 c h1 h2]
  have t41 : am_tab[190]? = some ((41, 0), 6, 1932) := by decide +kernel
  have x41 : ∀ G, am_nx (190, 0, L, G) 6 1932 = some (41, 0) := fun G => ct_nx (i := 190) (c := 6) (k := 1932) t41
  obtain ⟨F41, eF41⟩ : ∃ F41 : am_R → Nat → Option am_R, F41 = fun r' k' => if r' = (35, 0) ∧ k' = 7 then some (41, 0) else if r' = (41, 0) then none else F40 r' k' := ⟨_, rfl⟩
  obtain ⟨M41, eM41⟩ : ∃ M41, M41 = am_nM M40 (41, 0) := ⟨_, rfl⟩
  have z41 : ∀ c, 35 ≤ c → c < 45 → M41 c = fun _ _ => 0 := fun c h1 h2 => by
    rw [eM41]
    by_cases q : c = 41
    · subst q
      exact ct_zz (r := (41, 0)) (z40 41 (by omega) (by omega))
    · rw [ct_zn q, z40 c h1 h2]
  have t42 : am_tab[191]? = some ((42, 0), 6, 276) := by decide +kernel
  have x42 : ∀ G, am_nx (191, 0, L, G) 6 276 = some (42, 0) := fun G => ct_nx (i := 191) (c := 6) (k := 276) t42
  obtain ⟨F42, eF42⟩ : ∃ F42 : am_R → Nat → Option am_R, F42 = fun r' k' => if r' = (35, 0) ∧ k' = 9 then some (42, 0) else if r' = (42, 0) then none else F41 r' k' := ⟨_, rfl⟩
  obtain ⟨M42, eM42⟩ : ∃ M42, M42 = am_nM M41 (42, 0) := ⟨_, rfl⟩
  have z42 : ∀ c, 35 ≤ c → c < 45 → M42 c = fun _ _ => 0 := fun c h1 h2 => by
    rw [eM42]
    by_cases q : c = 42
    · subst q
      exact ct_zz (r := (42, 0)) (z41 42 (by omega) (by omega))
    · rw [ct_zn q, z41 c h1 h2]
  have t43 : am_tab[192]? = some ((43, 0), 8, 2) := by decide +kernel
  have x43 : ∀ G, am_nx (192, 0, L, G) 8 2 = some (43, 0) := fun G => ct_nx (i := 192) (c := 8) (k := 2) t43
  obtain ⟨F43, eF43⟩ : ∃ F43 : am_R → Nat → Option am_R, F43 = fun r' k' => if r' = (35, 0) ∧ k' = 10 then some (43, 0) else if r' = (43, 0) then none else F42 r' k' := ⟨_, rfl⟩
  obtain ⟨M43, eM43⟩ : ∃ M43, M43 = am_nM M42 (43, 0) := ⟨_, rfl⟩
  have z43 : ∀ c, 35 ≤ c → c < 45 → M43 c = fun _ _ => 0 := fun c h1 h2 => by
    rw [eM43]
    by_cases q : c = 43
    · subst q
      exact ct_zz (r := (43, 0)) (z42 43 (by omega) (by omega))
    · rw [ct_zn q, z42 c h1 h2]
  have kd : am_kd (193, 0, L, F43) (37, 0) = some (6, 138) := ct_kd (m := 193) (x := 0) (i := 186) (t := ((37, 0), 6, 138)) t37 (by decide)
  refine ⟨F43, ar_s M43 37 (rt_cl (M43 37 0)), ?_, ?_, ?_, ?_, ?_, ⟨_, ar_s_at⟩⟩
  · refine (am_den_n (c' := (1, [some (am_A (35, 0))], [am_A (35, 0)], (185, 0, L, F), M)) 1 rfl).trans <| (am_d_obj (show am_fetch 117 1 = some (.invokespecial 1, 3) from by decide +kernel) rfl rfl).trans ?_
    refine (am_den_n (c' := (7, [some (am_A (35, 0))], [am_I 120, am_A (35, 0)], (185, 0, L, F), M)) 2 rfl).trans ?_
    refine (am_d_na (show am_fetch 117 7 = some (.newarray .int, 2) from by decide +kernel) (by decide) (by decide) (by decide) (x36 _)).trans ?_
    refine (am_d_pfr (c := 5) (f := 1) (show am_fetch 117 9 = some (.putfield 7, 3) from by decide +kernel) rfl (ob _ _ (show 184 < 185 + 1 from by decide)) rfl rfl rfl).trans ?_
    refine (am_den_n (c' := (16, [some (am_A (35, 0))], [am_I 138, am_A (35, 0)], (186, 0, L, F36), M36)) 2 (by rw [eF36, eM36]; rfl)).trans ?_
    refine (am_d_na (show am_fetch 117 16 = some (.newarray .int, 2) from by decide +kernel) (by decide) (by decide) (by decide) (x37 _)).trans ?_
    refine (am_d_pfr (c := 5) (f := 3) (show am_fetch 117 18 = some (.putfield 13, 3) from by decide +kernel) rfl (ob _ _ (show 184 < 186 + 1 from by decide)) rfl rfl rfl).trans ?_
    refine (am_den_n (c' := (25, [some (am_A (35, 0))], [am_I 138, am_A (35, 0)], (187, 0, L, F37), M37)) 2 (by rw [eF37, eM37]; rfl)).trans ?_
    refine (am_d_na (show am_fetch 117 25 = some (.newarray .int, 2) from by decide +kernel) (by decide) (by decide) (by decide) (x38 _)).trans ?_
    refine (am_d_pfr (c := 5) (f := 4) (show am_fetch 117 27 = some (.putfield 16, 3) from by decide +kernel) rfl (ob _ _ (show 184 < 187 + 1 from by decide)) rfl rfl rfl).trans ?_
    refine (am_den_n (c' := (34, [some (am_A (35, 0))], [am_I 138, am_A (35, 0)], (188, 0, L, F38), M38)) 2 (by rw [eF38, eM38]; rfl)).trans ?_
    refine (am_d_na (show am_fetch 117 34 = some (.newarray .int, 2) from by decide +kernel) (by decide) (by decide) (by decide) (x39 _)).trans ?_
    refine (am_d_pfr (c := 5) (f := 5) (show am_fetch 117 36 = some (.putfield 19, 3) from by decide +kernel) rfl (ob _ _ (show 184 < 188 + 1 from by decide)) rfl rfl rfl).trans ?_
    refine (am_den_n (c' := (43, [some (am_A (35, 0))], [am_I 138, am_A (35, 0)], (189, 0, L, F39), M39)) 2 (by rw [eF39, eM39]; rfl)).trans ?_
    refine (am_d_na (show am_fetch 117 43 = some (.newarray .int, 2) from by decide +kernel) (by decide) (by decide) (by decide) (x40 _)).trans ?_
    refine (am_d_pfr (c := 5) (f := 6) (show am_fetch 117 45 = some (.putfield 22, 3) from by decide +kernel) rfl (ob _ _ (show 184 < 189 + 1 from by decide)) rfl rfl rfl).trans ?_
    refine (am_den_n (c' := (52, [some (am_A (35, 0))], [am_I 1932, am_A (35, 0)], (190, 0, L, F40), M40)) 2 (by rw [eF40, eM40]; rfl)).trans ?_
    refine (am_d_na (show am_fetch 117 52 = some (.newarray .int, 2) from by decide +kernel) (by decide) (by decide) (by decide) (x41 _)).trans ?_
    refine (am_d_pfr (c := 5) (f := 7) (show am_fetch 117 54 = some (.putfield 25, 3) from by decide +kernel) rfl (ob _ _ (show 184 < 190 + 1 from by decide)) rfl rfl rfl).trans ?_
    refine (am_den_n (c' := (61, [some (am_A (35, 0))], [am_I 276, am_A (35, 0)], (191, 0, L, F41), M41)) 2 (by rw [eF41, eM41]; rfl)).trans ?_
    refine (am_d_na (show am_fetch 117 61 = some (.newarray .int, 2) from by decide +kernel) (by decide) (by decide) (by decide) (x42 _)).trans ?_
    refine (am_d_pfr (c := 5) (f := 9) (show am_fetch 117 63 = some (.putfield 28, 3) from by decide +kernel) rfl (ob _ _ (show 184 < 191 + 1 from by decide)) rfl rfl rfl).trans ?_
    refine (am_den_n (c' := (68, [some (am_A (35, 0))], [am_I 2, am_A (35, 0)], (192, 0, L, F42), M42)) 2 (by rw [eF42, eM42]; rfl)).trans ?_
    refine (am_d_na (show am_fetch 117 68 = some (.newarray .boolean, 2) from by decide +kernel) (by decide) (by decide) (by decide) (x43 _)).trans ?_
    refine (am_d_pfr (c := 5) (f := 10) (show am_fetch 117 70 = some (.putfield 31, 3) from by decide +kernel) rfl (ob _ _ (show 184 < 192 + 1 from by decide)) rfl rfl rfl).trans ?_
    refine (am_den_n (c' := (74, [some (am_A (35, 0))], [am_A (35, 0)], (193, 0, L, F43), M43)) 1 (by rw [eF43, eM43]; rfl)).trans ?_
    refine (am_d_gfr (c := 5) (f := 3) (r' := (37, 0)) (show am_fetch 117 74 = some (.getfield 13, 3) from by decide +kernel) rfl (ob _ _ (by decide)) rfl (by show F43 (35, 0) 3 = some (37, 0); simp [eF43, eF42, eF41, eF40, eF39, eF38, eF37])).trans ?_
    refine (am_d_iv (show am_fetch 117 77 = some (.invokestatic 35, 3) from by decide +kernel) (Or.inl ⟨_, rfl⟩) (am_iv_s (st := [am_A (37, 0)]) (as := [am_A (37, 0)]) (rest := []) (idx := 35) (t := 122) (n := 1) (kd := 0) rfl (by decide) rfl rfl rfl rfl rfl rfl rfl)).trans ?_
    have cl := rt_122 (E := (193, 0, L, F43)) (M := M43) (f := M43 37 0) (u := none) kd
    rw [show ar_s M43 37 (M43 37 0) = M43 from ar_s_self] at cl
    refine (congrArg _ cl).trans ?_
    exact am_d_ret (show am_fetch 117 80 = some (.return_, 1) from by decide +kernel) rfl
  · refine ⟨?_, ?_, ?_, ?_, ?_, ?_, ?_, ?_⟩ <;> simp [eF43, eF42, eF41, eF40, eF39, eF38, eF37, eF36]
  · intro r q h
    have n0 : ∀ {c d : Nat}, 35 ≤ c → r ≠ (c, d) := fun h2 z => by rw [z] at h; exact absurd h (by omega)
    simp only [eF43, eF42, eF41, eF40, eF39, eF38, eF37, eF36]
    simp [n0 (c := 35) (d := 0) (by omega), n0 (c := 36) (d := 0) (by omega), n0 (c := 37) (d := 0) (by omega), n0 (c := 38) (d := 0) (by omega), n0 (c := 39) (d := 0) (by omega), n0 (c := 40) (d := 0) (by omega), n0 (c := 41) (d := 0) (by omega), n0 (c := 42) (d := 0) (by omega), n0 (c := 43) (d := 0) (by omega)]
  · intro c h
    rw [ar_s_nb (show c ≠ 37 by omega), eM43, ct_zn (show c ≠ 43 by omega), eM42, ct_zn (show c ≠ 42 by omega), eM41, ct_zn (show c ≠ 41 by omega), eM40, ct_zn (show c ≠ 40 by omega), eM39, ct_zn (show c ≠ 39 by omega), eM38, ct_zn (show c ≠ 38 by omega), eM37, ct_zn (show c ≠ 37 by omega), eM36, ct_zn (show c ≠ 36 by omega)]
  · intro c h1 h2 h3
    rw [ar_s_nb h3, z43 c h1 h2]
end CTOR6
