/-! ===== the law's prelude ===== -/
section LAW4
variable {L : Nat}
theorem ct_Wr {G : am_R → Nat → Option am_R} (h1 : ∀ b, b < 22 → ∀ f, f < 7 → G (b, 0) f = some (b, f + 1)) (h2 : G (30, 0) 0 = some (30, 1)) (h3 : G (31, 0) 0 = some (31, 1)) (h4 : ∀ i, i < 14 → G (31, 1) i = some (i + 1, 0)) (h5 : G (32, 0) 0 = some (15, 0) ∧ G (33, 0) 0 = some (16, 0))
    (h6 : G (34, 0) 0 = some (30, 0) ∧ G (34, 0) 1 = some (0, 0) ∧ G (34, 0) 2 = some (31, 0) ∧ G (34, 0) 3 = some (32, 0) ∧ G (34, 0) 4 = some (33, 0) ∧ G (34, 0) 5 = some (17, 0) ∧ G (34, 0) 6 = some (34, 1)) (h7 : ∀ i, i < 4 → G (34, 1) i = some (18 + i, 0)) : am_Wr (368, 0, L, G) := by
  have kd : ∀ {i : Nat} {r : am_R} {c k : Nat}, am_tab[i]? = some (r, c, k) → i < 368 → am_kd (368, 0, L, G) r = some (c, k) := fun {i r c k} h hi => ct_kd (m := 368) (x := 0) (i := i) (t := (r, c, k)) h hi
  have ob : ∀ {i : Nat} {r : am_R} {c k : Nat}, am_tab[i]? = some (r, c, k) → i < 368 → am_ob (368, 0, L, G) r c = true := fun {i r c k} h hi => ct_obj (m := 368) (x := 0) (i := i) (k := k) h hi
  refine ⟨fun b hb => ?_, ⟨ob (i := 1) (k := 6) (by decide +kernel) (by decide), h2, kd (i := 2) (by decide +kernel) (by decide)⟩, ⟨ob (i := 11) (k := 3) (by decide +kernel) (by decide), h3, kd (i := 12) (by decide +kernel) (by decide), h4⟩, fun s hs => ?_,
    ⟨ob (i := 0) (k := 7) (by decide +kernel) (by decide), h6.1, h6.2.1, h6.2.2.1, h6.2.2.2.1, h6.2.2.2.2.1, h6.2.2.2.2.2.1, h6.2.2.2.2.2.2, kd (i := 151) (by decide +kernel) (by decide), h7⟩, trivial⟩
  · by_cases q1 : 18 ≤ b
    · have hT : ct_T (152 + 8 * (b - 18)) (18 + (b - 18)) := ct_Tof (ct_T4 ⟨b - 18, by omega⟩)
      rw [show 18 + (b - 18) = b by omega] at hT
      exact ct_WY hT (by omega) (h1 b hb)
    · by_cases q2 : b = 17
      · subst q2
        exact ct_WY ct_T17 (by decide) (h1 17 hb)
      · by_cases q3 : b = 16
        · subst q3
          exact ct_WY ct_T16 (by decide) (h1 16 hb)
        · by_cases q4 : b = 15
          · subst q4
            exact ct_WY ct_T15 (by decide) (h1 15 hb)
          · by_cases q5 : b = 0
            · subst q5
              exact ct_WY ct_T0 (by decide) (h1 0 hb)
            · have hT : ct_T (13 + 8 * (b - 1)) (b - 1 + 1) := ct_Tof (ct_T14 ⟨b - 1, by omega⟩)
              rw [show b - 1 + 1 = b by omega] at hT
              exact ct_WY hT (by omega) (h1 b hb)
  · rcases hs with e | e
    · subst e
      exact ⟨ob (i := 125) (k := 2) (by decide +kernel) (by decide), h5.1⟩
    · subst e
      exact ⟨ob (i := 134) (k := 2) (by decide +kernel) (by decide), h5.2⟩
/-- a new object's state -/
def z_S : am_M := fun b => if b ≤ 16 then am_yc (fun _ _ => 0) else fun _ _ => 0
theorem z_st {M : am_M} (hc : cl M) (h : ∀ b, b ≤ 16 → ∃ Y, M b = am_yc Y) (h31 : M 31 = fun _ _ => 0) (h32 : M 32 = fun _ _ => 0) (h33 : M 33 = fun _ _ => 0) : st M = z_S := by
  funext b
  unfold z_S
  by_cases q : b ≤ 16
  · rw [st_at (Or.inl q), if_pos q]
    obtain ⟨Y, hY⟩ := h b q
    have := cl_yd hc (b := b) (by omega)
    rw [hY] at this ⊢
    exact yc_u this
  · rw [if_neg q]
    by_cases q2 : b ≤ 16 ∨ b = 31 ∨ b = 32 ∨ b = 33
    · rw [st_at q2]
      rcases q2 with w | w | w | w
      · exact absurd w q
      · rw [w]; exact h31
      · rw [w]; exact h32
      · rw [w]; exact h33
    · exact if_neg q2
theorem z_0 : z_S 0 = am_yc (fun _ _ => 0) := rfl
theorem z_hi {b : Nat} (h : 16 < b) : z_S b = fun _ _ => 0 := if_neg (by omega)
theorem z_7 : z_S 0 0 7 = 0 ∧ z_S 0 0 8 = 0 := by
  rw [z_0]
  unfold am_yc
  constructor <;> simp [ay_uy_x]
theorem z_si : si 0 z_S := by
  have a := av_clear (Y := fun _ _ => 0)
  refine ⟨⟨by rw [z_0]; exact a.1, ?_, by rw [z_0, a.2]; omega, by rw [z_0, a.2]; omega⟩, ⟨?_, ?_⟩, ?_, ?_⟩
  · rw [z_0]
    unfold av_H am_yc
    simp [ay_uy_x]
  · rw [z_hi (by decide)]; decide
  · rw [z_hi (by decide)]; decide
  · intro j j0 j1
    rw [z_hi (by decide)] at j1
    dsimp only at j1
    omega
  · intro s hs
    rw [z_hi (b := 32 + s) (by omega)]
    exact ⟨Or.inl rfl, fun z => absurd (show (0 : Int) = 1 from z) (by decide)⟩
theorem z_pq : pq z_S := by
  refine ⟨z_7.2, fun j j0 j1 => ?_, fun s hs => ?_⟩
  · rw [z_hi (by decide)] at j1
    dsimp only at j1
    omega
  · rw [z_hi (by omega)]
theorem z_cl {xs : Nat → Int32} : cl (am_M0 L xs) := by
  intro b cc j hb _
  unfold am_M0
  rw [if_neg (fun z => hb z.1)]
theorem ct_225 {xs : Nat → Int32} : ∃ G M, am_den 225 (am_en 225 [am_A (45, 0)] (am_E0 L) (am_M0 L xs)) = am_den 225 (20, [some (am_A (45, 0)), some (am_A (34, 0)), some (am_A (84, 0)), none, none, none, none, none, none], [am_I 0, am_A (45, 0), am_I 14], (368, 0, L, G), M) ∧ wl (368, 0, L, G) M ∧ st M = z_S ∧ st (rl_M M) = z_S := by
  have z0 : ∀ c, c ≠ 45 → am_M0 L xs c = fun _ _ => 0 := fun c hc => by
    funext c' j
    unfold am_M0
    rw [if_neg (fun z => hc z.1)]
  have z1 : ∀ c, c ≠ 45 → am_nM (am_M0 L xs) (34, 0) c = fun _ _ => 0 := fun c hc => by
    by_cases q : c = 34
    · subst q
      exact ct_zz (r := (34, 0)) (z0 34 hc)
    · rw [ct_zn q, z0 c hc]
  obtain ⟨G1, M1, e1, a1, a2, a3, a4, a5, a6, a7, a8, m1, b0, b31, b32, b33⟩ := ct_66 (L := L) (F := fun r' k' => if r' = (34, 0) then none else none) (M := am_nM (am_M0 L xs) (34, 0)) (fun c hc => z1 c (by omega))
  have k1 := cg_den e1 (cg_nM z_cl)
  have z2 : ∀ c, 45 < c → c < 95 → am_nM M1 (84, 0) c = fun _ _ => 0 := fun c h1 h2 => by
    have e : M1 c = fun _ _ => 0 := by rw [m1 c (by omega), z1 c (by omega)]
    by_cases q : c = 84
    · subst q
      exact ct_zz (r := (84, 0)) e
    · rw [ct_zn q, e]
  obtain ⟨G2, M2, e2, c1, c2, c3, c4, c5, c6, c7, c8, m2, d0, d31, d32, d33⟩ := cu_66 (L := L) (F := fun r' k' => if r' = (84, 0) then none else G1 r' k') (M := am_nM M1 (84, 0)) z2
  have k2 := cg_den e2 (cg_nM k1)
  have fr : ∀ r q, r.1 < 50 → G2 r q = G1 r q := fun r q h => by
    rw [c8 r q h]
    rw [if_neg (fun z => by rw [z] at h; exact absurd h (by decide))]
  have p : ∀ c, c < 50 → M2 c = M1 c := fun c h => by rw [m2 c h, ct_zn (show c ≠ 84 by omega)]
  have W1 : am_Wr (368, 0, L, G2) := by
    refine ct_Wr (fun b hb f hf => ?_) ?_ ?_ (fun i hi => ?_) ⟨?_, ?_⟩ ⟨?_, ?_, ?_, ?_, ?_, ?_, ?_⟩ (fun i hi => ?_)
    · rw [fr (b, 0) f (show b < 50 by omega)]; exact a1 b hb f hf
    · rw [fr _ _ (by decide)]; exact a2
    · rw [fr _ _ (by decide)]; exact a3
    · rw [fr _ _ (by decide)]; exact a4 i hi
    · rw [fr _ _ (by decide)]; exact a5.1
    · rw [fr _ _ (by decide)]; exact a5.2
    · rw [fr _ _ (by decide)]; exact a6.1
    · rw [fr _ _ (by decide)]; exact a6.2.1
    · rw [fr _ _ (by decide)]; exact a6.2.2.1
    · rw [fr _ _ (by decide)]; exact a6.2.2.2.1
    · rw [fr _ _ (by decide)]; exact a6.2.2.2.2.1
    · rw [fr _ _ (by decide)]; exact a6.2.2.2.2.2.1
    · rw [fr _ _ (by decide)]; exact a6.2.2.2.2.2.2
    · rw [fr _ _ (by decide)]; exact a7 i hi
  have sh : ∀ b c, b < 35 → rl_r (b, c) = (b + 50, c) := fun b c h => by
    unfold rl_r rl_s
    dsimp only
    rw [if_pos h]
  have sb : ∀ b c, b < 35 → rl_r (b + 50, c) = (b, c) := fun b c h => by rw [← sh b c h, rl_rr]
  have gm : ∀ (b c q : Nat) (b' c' : Nat), b < 35 → b' < 35 → G2 (b + 50, c) q = some (b' + 50, c') → (G2 (rl_r (b, c)) q).map rl_r = some (b', c') := fun b c q b' c' h h' e => by
    rw [sh b c h, e]
    show some (rl_r (b' + 50, c')) = _
    rw [sb b' c' h']
  have W2 : am_Wr (rl_E (368, 0, L, G2)) := by
    refine ct_Wr (G := fun r k => (G2 (rl_r r) k).map rl_r) (fun b hb f hf => ?_) ?_ ?_ (fun i hi => ?_) ⟨?_, ?_⟩ ⟨?_, ?_, ?_, ?_, ?_, ?_, ?_⟩ (fun i hi => ?_)
    · exact gm b 0 f b (f + 1) (by omega) (by omega) (c1 (b + 50) (by omega) (by omega) f hf)
    · exact gm 30 0 0 30 1 (by decide) (by decide) c2
    · exact gm 31 0 0 31 1 (by decide) (by decide) c3
    · exact gm 31 1 i (i + 1) 0 (by decide) (by omega) (by rw [show i + 1 + 50 = i + 51 by omega]; exact c4 i hi)
    · exact gm 32 0 0 15 0 (by decide) (by decide) c5.1
    · exact gm 33 0 0 16 0 (by decide) (by decide) c5.2
    · exact gm 34 0 0 30 0 (by decide) (by decide) c6.1
    · exact gm 34 0 1 0 0 (by decide) (by decide) c6.2.1
    · exact gm 34 0 2 31 0 (by decide) (by decide) c6.2.2.1
    · exact gm 34 0 3 32 0 (by decide) (by decide) c6.2.2.2.1
    · exact gm 34 0 4 33 0 (by decide) (by decide) c6.2.2.2.2.1
    · exact gm 34 0 5 17 0 (by decide) (by decide) c6.2.2.2.2.2.1
    · exact gm 34 0 6 34 1 (by decide) (by decide) c6.2.2.2.2.2.2
    · exact gm 34 1 i (18 + i) 0 (by decide) (by omega) (by rw [show 18 + i + 50 = 68 + i by omega]; exact c7 i hi)
  have rm : ∀ b, b < 35 → rl_M M2 b = M2 (b + 50) := fun b h => by
    show M2 (rl_s b) = _
    unfold rl_s
    rw [if_pos h]
  refine ⟨G2, M2, ?_, ⟨W1, W2, rfl, k2⟩, ?_, ?_⟩
  · refine (am_d_new (st := []) (ls := [some (am_A (45, 0)), none, none, none, none, none, none, none, none]) (E := am_E0 L) (show am_fetch 225 0 = some (.new 8, 3) from by decide +kernel) rfl (ct_nx (i := 0) (c := 4) (k := 7) (r := (34, 0)) (by decide +kernel))).trans ((ct_dup (by decide +kernel)).trans ?_)
    refine (am_d_iv (show am_fetch 225 4 = some (.invokespecial 202, 3) from by decide +kernel) (Or.inr (Or.inr ⟨_, rfl⟩)) (am_iv_i2 (st := [am_A (34, 0), am_A (34, 0)]) (as := []) (rest := [am_A (34, 0)]) (t := 66) (n := 1) (c := 4) rfl rfl rfl rfl rfl rfl rfl rfl rfl (ct_obj (i := 0) (k := 7) (by decide +kernel) (show 0 < 0 + 1 from by decide)))).trans ?_
    refine (congrArg _ e1).trans ?_
    refine (am_den_n (c' := (8, [some (am_A (45, 0)), some (am_A (34, 0)), none, none, none, none, none, none, none], [], (184, 0, L, G1), M1)) 1 rfl).trans ?_
    refine (am_d_new (show am_fetch 225 8 = some (.new 8, 3) from by decide +kernel) rfl (ct_nx (i := 184) (c := 4) (k := 7) (r := (84, 0)) (by decide +kernel))).trans ((ct_dup (by decide +kernel)).trans ?_)
    refine (am_d_iv (show am_fetch 225 12 = some (.invokespecial 202, 3) from by decide +kernel) (Or.inr (Or.inr ⟨_, rfl⟩)) (am_iv_i2 (st := [am_A (84, 0), am_A (84, 0)]) (as := []) (rest := [am_A (84, 0)]) (t := 66) (n := 1) (c := 4) rfl rfl rfl rfl rfl rfl rfl rfl rfl (ct_obj (i := 184) (k := 7) (by decide +kernel) (show 184 < 184 + 1 from by decide)))).trans ?_
    refine (congrArg _ e2).trans ?_
    exact am_den_n (c' := (20, [some (am_A (45, 0)), some (am_A (34, 0)), some (am_A (84, 0)), none, none, none, none, none, none], [am_I 0, am_A (45, 0), am_I 14], (368, 0, L, G2), M2)) 4 rfl
  · refine z_st k2 (fun b hb => ?_) ?_ ?_ ?_
    · rw [p b (by omega)]; exact b0 b hb
    · rw [p 31 (by decide)]; exact b31
    · rw [p 32 (by decide)]; exact b32
    · rw [p 33 (by decide)]; exact b33
  · refine z_st (cl_rl k2) (fun b hb => ?_) ?_ ?_ ?_
    · rw [rm b (by omega)]; exact d0 (b + 50) (by omega) (by omega)
    · rw [rm 31 (by decide)]; exact d31
    · rw [rm 32 (by decide)]; exact d32
    · rw [rm 33 (by decide)]; exact d33
theorem am_law_p : am_Law := by
  intro L xs hL
  obtain ⟨G, M, e, hw, hS, hT⟩ := ct_225 (L := L) (xs := xs)
  obtain ⟨v, hv, ev⟩ := ce_143 (E := (368, 0, L, G)) (M := M) (i := 0) (by decide)
  obtain ⟨x, hx, ex⟩ := ce_143 (E := (368, 0, L, G)) (M := M) (i := 1) (by decide)
  have e20 : am_den 225 (20, [some (am_A (45, 0)), some (am_A (34, 0)), some (am_A (84, 0)), none, none, none, none, none, none], [am_I 0, am_A (45, 0), am_I 14], (368, 0, L, G), M) = am_bd 225 20 [some (am_A (45, 0)), some (am_A (34, 0)), some (am_A (84, 0)), none, none, none, none, none, none] [am_I 14] (am_den 143 (0, [some (am_A (45, 0)), some (am_I 0)], [], (368, 0, L, G), M)) :=
    am_d_iv (show am_fetch 225 20 = some (.invokestatic 203, 3) from by decide +kernel) (Or.inl ⟨_, rfl⟩) (am_iv_s (st := [am_I 0, am_A (45, 0), am_I 14]) (as := [am_A (45, 0), am_I 0]) (rest := [am_I 14]) (idx := 203) (t := 143) (n := 2) (kd := 0) rfl (by decide) rfl rfl rfl rfl rfl rfl rfl)
  rw [e20, ev, am_bd_v] at e
  simp only [Nat.reduceAdd] at e
  rw [am_B225_23, ex, am_bd_v] at e
  simp only [Nat.reduceAdd] at e
  have h3 : am_w (14 + v.tmod 23) ≤ 36 := by
    rw [Int.tmod_eq_emod_of_nonneg hv.1, am_wi (by omega) (by omega)]
    omega
  obtain ⟨S', ⟨n, N, hn, hX, -⟩, -⟩ := fp_33 z_si z_pq z_7.1 h3 hx (u4 := none) (u5 := none) (u6 := none) (u7 := none) (u8 := none) hw hS hT
  rw [hX] at e
  obtain ⟨m, hm⟩ := am_den_i e
  refine ⟨m, _, _, hm, ?_, ?_⟩
  · show 368 + (0 + n) ≤ 898798
    omega
  · show am_qt 368 + 6 * (0 + n) ≤ 6405074
    have : am_qt 368 ≤ 7000 := by decide +kernel
    omega
end LAW4
