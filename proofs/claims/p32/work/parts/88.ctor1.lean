/-! ===== constructors: a yard ===== -/
def ct_T (n b : Nat) : Prop := ∀ c, c < 8 → am_tab[n + c]? = some ((b, c), if c = 0 then 3 else 6, if c = 0 then 17 else if c < 6 then 24 else 4)
def ct_F (b : Nat) (F : am_R → Nat → Option am_R) : Nat → am_R → Nat → Option am_R
  | 0 => F
  | j + 1 => fun r' k' => if r' = (b, 0) ∧ k' = j then some (b, j + 1) else if r' = (b, j + 1) then none else ct_F b F j r' k'
def ct_M (b : Nat) (M : am_M) : Nat → am_M
  | 0 => M
  | j + 1 => am_nM (ct_M b M j) (b, j + 1)
section CTOR1
variable {n b L : Nat} {F : am_R → Nat → Option am_R} {E : am_E} {M : am_M}
theorem ct_kd {m x i : Nat} {t : am_R × Nat × Nat} (h : am_tab[i]? = some t) (hi : i < m) : am_kd (m, x, L, F) t.1 = some t.2 := by
  obtain ⟨h1, h2, h3, _⟩ := am_tab_i h
  unfold am_kd
  rw [if_neg h3, h2, if_pos (show i < (m, x, L, F).1 from hi), h]
theorem ct_obj {m x i : Nat} {r : am_R} {c k : Nat} (h : am_tab[i]? = some (r, c, k)) (hi : i < m) : am_ob (m, x, L, F) r c = true := by
  have e := ct_kd (x := x) (L := L) (F := F) h hi
  dsimp only at e
  unfold am_ob
  rw [e]
  simp
theorem ct_nx {i c k : Nat} {r : am_R} (h : am_tab[i]? = some (r, c, k)) : am_nx (i, 0, L, F) c (k : Int) = some r := by
  unfold am_nx
  dsimp only
  rw [h]
  simp
theorem ct_F_in : ∀ (j f : Nat), f < j → ct_F b F j (b, 0) f = some (b, f + 1) := by
  intro j
  induction j with
  | zero => intro f h; omega
  | succ j ih =>
    intro f h
    by_cases e : f = j
    · subst e
      simp [ct_F]
    · simp only [ct_F]
      rw [if_neg (fun z => e z.2), if_neg (by simp)]
      exact ih f (by omega)
theorem ct_F_out {r : am_R} {k : Nat} (h : r.1 ≠ b) : ∀ j : Nat, ct_F b F j r k = F r k := by
  intro j
  induction j with
  | zero => rfl
  | succ j ih =>
    simp only [ct_F]
    rw [if_neg (fun z => h (by rw [z.1])), if_neg (fun z => h (by rw [z])), ih]
theorem ct_M_out {c : Nat} (h : c ≠ b) : ∀ j : Nat, ct_M b M j c = M c := by
  intro j
  induction j with
  | zero => rfl
  | succ j ih =>
    simp only [ct_M]
    unfold am_nM
    rw [am_sb_ne h, ih]
theorem ct_WY (hT : ct_T n b) {m x : Nat} {G : am_R → Nat → Option am_R} (hm : n + 8 ≤ m) (hG : ∀ f, f < 7 → G (b, 0) f = some (b, f + 1)) : am_WY (m, x, L, G) b := by
  have kd : ∀ c, c < 8 → am_kd (m, x, L, G) (b, c) = some (if c = 0 then 3 else 6, if c = 0 then 17 else if c < 6 then 24 else 4) := fun c hc => ct_kd (hT c hc) (by omega)
  refine ⟨ct_obj (hT 0 (by omega)) (by omega), hG, fun c h1 h5 => ?_, ?_, ?_⟩
  · rw [kd c (by omega), if_neg (by omega), if_neg (by omega), if_pos (by omega)]
  · exact kd 6 (by omega)
  · exact kd 7 (by omega)
theorem ct_20 (hT : ct_T n b) : am_den 20 (0, [some (am_A (b, 0))], [], (n + 1, 0, L, F), M) = some (.inl none, (n + 8, 0, L, ct_F b F 7), am_sb (ct_M b M 7) b (am_yc (ct_M b M 7 b))) := by
  have nx : ∀ (j : Nat) (G : am_R → Nat → Option am_R), j < 5 → am_nx (n + (j + 1), 0, L, G) 6 24 = some (b, j + 1) := fun j G hj => by
    have h := hT (j + 1) (by omega)
    rw [if_neg (by omega), if_neg (by omega), if_pos (by omega)] at h
    exact ct_nx h
  have nx5 : ∀ (G : am_R → Nat → Option am_R), am_nx (n + 6, 0, L, G) 6 4 = some (b, 6) := fun G => ct_nx (hT 6 (by omega))
  have nx6 : ∀ (G : am_R → Nat → Option am_R), am_nx (n + 7, 0, L, G) 6 4 = some (b, 7) := fun G => ct_nx (hT 7 (by omega))
  have ob : ∀ (m : Nat) (G : am_R → Nat → Option am_R), n < m → am_ob (m, 0, L, G) (b, 0) 3 = true := fun m G hm => ct_obj (hT 0 (by omega)) hm
  refine (am_den_n (c' := (1, [some (am_A (b, 0))], [am_A (b, 0)], (n + 1, 0, L, F), M)) 1 rfl).trans <| (am_d_obj (show am_fetch 20 1 = some (.invokespecial 3, 3) from by decide +kernel) rfl rfl).trans ?_
  refine (am_den_n (c' := (7, [some (am_A (b, 0))], [am_I 24, am_A (b, 0)], (n + 1, 0, L, ct_F b F 0), ct_M b M 0)) 2 rfl).trans <| (am_d_na (show am_fetch 20 7 = some (.newarray .int, 2) from by decide +kernel) (by decide) (by decide) (by decide) (nx 0 _ (by decide))).trans <| (am_d_pfr (c := 3) (f := 0) (show am_fetch 20 9 = some (.putfield 9, 3) from by decide +kernel) rfl (ob _ _ (by omega)) rfl rfl rfl).trans ?_
  refine (am_den_n (c' := (15, [some (am_A (b, 0))], [am_I 24, am_A (b, 0)], (n + 2, 0, L, ct_F b F 1), ct_M b M 1)) 2 rfl).trans <| (am_d_na (show am_fetch 20 15 = some (.newarray .int, 2) from by decide +kernel) (by decide) (by decide) (by decide) (nx 1 _ (by decide))).trans <| (am_d_pfr (c := 3) (f := 1) (show am_fetch 20 17 = some (.putfield 15, 3) from by decide +kernel) rfl (ob _ _ (by omega)) rfl rfl rfl).trans ?_
  refine (am_den_n (c' := (23, [some (am_A (b, 0))], [am_I 24, am_A (b, 0)], (n + 3, 0, L, ct_F b F 2), ct_M b M 2)) 2 rfl).trans <| (am_d_na (show am_fetch 20 23 = some (.newarray .int, 2) from by decide +kernel) (by decide) (by decide) (by decide) (nx 2 _ (by decide))).trans <| (am_d_pfr (c := 3) (f := 2) (show am_fetch 20 25 = some (.putfield 18, 3) from by decide +kernel) rfl (ob _ _ (by omega)) rfl rfl rfl).trans ?_
  refine (am_den_n (c' := (31, [some (am_A (b, 0))], [am_I 24, am_A (b, 0)], (n + 4, 0, L, ct_F b F 3), ct_M b M 3)) 2 rfl).trans <| (am_d_na (show am_fetch 20 31 = some (.newarray .int, 2) from by decide +kernel) (by decide) (by decide) (by decide) (nx 3 _ (by decide))).trans <| (am_d_pfr (c := 3) (f := 3) (show am_fetch 20 33 = some (.putfield 21, 3) from by decide +kernel) rfl (ob _ _ (by omega)) rfl rfl rfl).trans ?_
  refine (am_den_n (c' := (39, [some (am_A (b, 0))], [am_I 24, am_A (b, 0)], (n + 5, 0, L, ct_F b F 4), ct_M b M 4)) 2 rfl).trans <| (am_d_na (show am_fetch 20 39 = some (.newarray .int, 2) from by decide +kernel) (by decide) (by decide) (by decide) (nx 4 _ (by decide))).trans <| (am_d_pfr (c := 3) (f := 4) (show am_fetch 20 41 = some (.putfield 24, 3) from by decide +kernel) rfl (ob _ _ (by omega)) rfl rfl rfl).trans ?_
  refine (am_den_n (c' := (46, [some (am_A (b, 0))], [am_I 4, am_A (b, 0)], (n + 6, 0, L, ct_F b F 5), ct_M b M 5)) 2 rfl).trans <| (am_d_na (show am_fetch 20 46 = some (.newarray .int, 2) from by decide +kernel) (by decide) (by decide) (by decide) (nx5 _)).trans <| (am_d_pfr (c := 3) (f := 5) (show am_fetch 20 48 = some (.putfield 27, 3) from by decide +kernel) rfl (ob _ _ (by omega)) rfl rfl rfl).trans ?_
  refine (am_den_n (c' := (53, [some (am_A (b, 0))], [am_I 4, am_A (b, 0)], (n + 7, 0, L, ct_F b F 6), ct_M b M 6)) 2 rfl).trans <| (am_d_na (show am_fetch 20 53 = some (.newarray .int, 2) from by decide +kernel) (by decide) (by decide) (by decide) (nx6 _)).trans <| (am_d_pfr (c := 3) (f := 6) (show am_fetch 20 55 = some (.putfield 30, 3) from by decide +kernel) rfl (ob _ _ (by omega)) rfl rfl rfl).trans ?_
  refine (am_den_n (c' := (59, [some (am_A (b, 0))], [am_A (b, 0)], (n + 8, 0, L, ct_F b F 7), ct_M b M 7)) 1 rfl).trans ?_
  refine (am_d_iv (ls := [some (am_A (b, 0))]) (show am_fetch 20 59 = some (.invokevirtual 33, 3) from by decide +kernel) (Or.inr (Or.inl ⟨_, rfl⟩)) (am_iv_v (st := [am_A (b, 0)]) (as := []) (rest := []) (idx := 33) (t := 21) (n := 1) (c := 3) rfl rfl rfl rfl rfl rfl rfl rfl rfl (ob _ _ (by omega)))).trans ?_
  have hW : am_WY (n + 8, 0, L, ct_F b F 7) b := ct_WY hT (Nat.le_refl _) (fun f hf => ct_F_in 7 f hf)
  refine (congrArg _ (am_s21 hW)).trans ?_
  exact am_d_ret (show am_fetch 20 62 = some (.return_, 1) from by decide +kernel) rfl
end CTOR1
/-! ===== constructors: new yards, the text, slots, the memory ===== -/
section CTOR2
variable {n b L k pc idx idx2 : Nat} {F : am_R → Nat → Option am_R} {E : am_E} {M : am_M} {ls : List (Option am_V)} {st : List am_V} {r : am_R}
theorem ct_dup (Fd : am_fetch k pc = some (.dup, 1)) : am_den k (pc, ls, am_A r :: st, E, M) = am_den k (pc + 1, ls, am_A r :: am_A r :: st, E, M) :=
  am_den_go (by simp [am_stp, Fd, am_jp, am_ln, am_op, am_cat])
theorem ct_yard (Fn : am_fetch k pc = some (.new idx, 3)) (hc : am_cl k idx = some (.inl 3)) (Fd : am_fetch k (pc + 3) = some (.dup, 1)) (Fi : am_fetch k (pc + 3 + 1) = some (.invokespecial idx2, 3)) (hm : am_ml k idx2 = some (20, 2)) (hr : Nat.blt (am_rk 20) (am_rk k) = true) (hw : Nat.ble (am_wt (am_A (b, 0) :: st)) 8 = true) (hT : ct_T n b) :
    ∃ G M', am_den k (pc, ls, st, (n, 0, L, F), M) = am_den k (pc + 7, ls, am_A (b, 0) :: st, (n + 8, 0, L, G), M') ∧ (∀ f, f < 7 → G (b, 0) f = some (b, f + 1)) ∧ (∀ r j, r.1 ≠ b → G r j = F r j) ∧ (∀ c, c ≠ b → M' c = M c) ∧ (∃ Y, M' b = am_yc Y) := by
  have hx : am_nx (n, 0, L, F) 3 (am_fn 3) = some (b, 0) := ct_nx (hT 0 (by omega))
  refine ⟨ct_F b (fun r' k' => if r' = (b, 0) then none else F r' k') 7, am_sb (ct_M b (am_nM M (b, 0)) 7) b (am_yc (ct_M b (am_nM M (b, 0)) 7 b)), ?_, fun f hf => ct_F_in 7 f hf, fun r j h => ?_, fun c h => ?_, ⟨_, am_sb_at⟩⟩
  · refine (am_d_new Fn hc hx).trans ((ct_dup Fd).trans ((am_d_iv Fi (Or.inr (Or.inr ⟨_, rfl⟩)) (am_iv_i2 (st := am_A (b, 0) :: am_A (b, 0) :: st) (as := []) (rest := am_A (b, 0) :: st) (idx := idx2) (t := 20) (n := 1) (c := 3) hm rfl rfl hr rfl rfl rfl hw rfl (ct_obj (hT 0 (by omega)) (Nat.lt_succ_self _)))).trans ?_))
    exact congrArg _ (ct_20 (L := L) (F := fun r' k' => if r' = (b, 0) then none else F r' k') (M := am_nM M (b, 0)) hT)
  · rw [ct_F_out h, if_neg (fun z => h (by rw [z]))]
  · rw [am_sb_ne h, ct_M_out h]
    unfold am_nM
    rw [am_sb_ne h]
theorem ct_6 : am_den 6 (0, [some (am_A (30, 0))], [], (2, 0, L, F), M) = some (.inl none, (3, 0, L, fun r' k' => if r' = (30, 0) ∧ k' = 0 then some (30, 1) else if r' = (30, 1) then none else F r' k'), am_nM M (30, 1)) := by
  have hx : am_nx (2, 0, L, F) 7 120 = some (30, 1) := ct_nx (i := 2) (c := 7) (k := 120) (by decide +kernel)
  refine (am_den_n (c' := (1, [some (am_A (30, 0))], [am_A (30, 0)], (2, 0, L, F), M)) 1 rfl).trans <| (am_d_obj (show am_fetch 6 1 = some (.invokespecial 3, 3) from by decide +kernel) rfl rfl).trans ?_
  refine (am_den_n (c' := (7, [some (am_A (30, 0))], [am_I 120, am_A (30, 0)], (2, 0, L, F), M)) 2 rfl).trans <| (am_d_na (show am_fetch 6 7 = some (.newarray .char, 2) from by decide +kernel) (by decide) (by decide) (by decide) hx).trans <| (am_d_pfr (c := 2) (f := 0) (show am_fetch 6 9 = some (.putfield 9, 3) from by decide +kernel) rfl (ct_obj (i := 1) (k := 6) (by decide +kernel) (show 1 < 2 + 1 from by decide)) rfl rfl rfl).trans ?_
  exact am_d_ret (show am_fetch 6 12 = some (.return_, 1) from by decide +kernel) rfl
theorem ct_5 {s : Nat} (hs : am_tab[n]? = some ((s, 0), 1, 2)) (hT : ct_T (n + 1) b) (hsb : s ≠ b) : ∃ G M', am_den 5 (0, [some (am_A (s, 0))], [], (n + 1, 0, L, F), M) = some (.inl none, (n + 9, 0, L, G), M') ∧ G (s, 0) 0 = some (b, 0) ∧ (∀ f, f < 7 → G (b, 0) f = some (b, f + 1)) ∧ (∀ r j, r.1 ≠ s → r.1 ≠ b → G r j = F r j) ∧ (∀ c, c ≠ b → M' c = M c) ∧ (∃ Y, M' b = am_yc Y) := by
  obtain ⟨G, M', e, g1, g2, m1, y1⟩ := ct_yard (k := 5) (pc := 5) (idx := 7) (idx2 := 9) (L := L) (F := F) (M := M) (ls := [some (am_A (s, 0))]) (st := [am_A (s, 0)]) (by decide +kernel) rfl (by decide +kernel) (by decide +kernel) rfl rfl rfl hT
  refine ⟨fun r' k' => if r' = (s, 0) ∧ k' = 0 then some (b, 0) else G r' k', M', ?_, by simp, fun f hf => ?_, fun r j h1 h2 => ?_, m1, y1⟩
  · refine (am_den_n (c' := (1, [some (am_A (s, 0))], [am_A (s, 0)], (n + 1, 0, L, F), M)) 1 rfl).trans <| (am_d_obj (show am_fetch 5 1 = some (.invokespecial 1, 3) from by decide +kernel) rfl rfl).trans ?_
    refine (am_den_n (c' := (5, [some (am_A (s, 0))], [am_A (s, 0)], (n + 1, 0, L, F), M)) 1 rfl).trans ?_
    rw [e]
    refine (am_d_pfr (c := 1) (f := 0) (show am_fetch 5 12 = some (.putfield 10, 3) from by decide +kernel) rfl (ct_obj hs (by omega)) rfl rfl rfl).trans ?_
    exact am_d_ret (show am_fetch 5 15 = some (.return_, 1) from by decide +kernel) rfl
  · dsimp only
    rw [if_neg (fun z => hsb (by have := congrArg Prod.fst z.1; exact this.symm)), g1 f hf]
  · dsimp only
    rw [if_neg (fun z => h1 (by rw [z.1])), g2 r j h2]
end CTOR2
/-! ===== constructors: the memory ===== -/
theorem ct_Tof {n b : Nat} (h : ∀ c : Fin 8, am_tab[n + c.val]? = some ((b, c.val), if c.val = 0 then 3 else 6, if c.val = 0 then 17 else if c.val < 6 then 24 else 4)) : ct_T n b := fun c hc => h ⟨c, hc⟩
theorem ct_T14 : ∀ (i : Fin 14) (c : Fin 8), am_tab[13 + 8 * i.val + c.val]? = some ((i.val + 1, c.val), if c.val = 0 then 3 else 6, if c.val = 0 then 17 else if c.val < 6 then 24 else 4) := by decide +kernel
section CTOR3
variable {L : Nat} {F : am_R → Nat → Option am_R} {M : am_M}
theorem ct_0l : ∀ (m i : Nat) (G : am_R → Nat → Option am_R) (M : am_M), i + m = 14 → G (31, 0) 0 = some (31, 1) →
    ∃ G' M', am_den 0 (15, [some (am_A (31, 0)), some (am_I i)], [], (13 + 8 * i, 0, L, G), M) = some (.inl none, (125, 0, L, G'), M') ∧ (∀ j, i ≤ j → j < 14 → G' (31, 1) j = some (j + 1, 0) ∧ ∀ f, f < 7 → G' (j + 1, 0) f = some (j + 1, f + 1)) ∧ (∀ r q, (r.1 ≤ i ∨ 14 < r.1) → (r ≠ (31, 1) ∨ q < i) → G' r q = G r q) ∧ (∀ c, (c ≤ i ∨ 14 < c) → M' c = M c) ∧ (∀ j, i ≤ j → j < 14 → ∃ Y, M' (j + 1) = am_yc Y) := by
  have t11 : am_tab[11]? = some ((31, 0), 0, 3) := by decide +kernel
  have t12 : am_tab[12]? = some ((31, 1), 10, 14) := by decide +kernel
  intro m
  induction m with
  | zero =>
    intro i G M h hG
    have e : i = 14 := by omega
    subst e
    refine ⟨G, M, ?_, fun j a b => by omega, fun _ _ _ _ => rfl, fun _ _ => rfl, fun j a b => by omega⟩
    refine (am_den_n (c' := (17, [some (am_A (31, 0)), some (am_I 14)], [am_A (31, 0), am_I 14], (125, 0, L, G), M)) 2 rfl).trans ?_
    refine (am_d_gfr (c := 0) (f := 0) (show am_fetch 0 17 = some (.getfield 11, 3) from by decide +kernel) rfl (ct_obj t11 (by decide)) rfl hG).trans ?_
    refine (am_d_len (c := 10) (n := 14) (show am_fetch 0 20 = some (.arraylength, 1) from by decide +kernel) (ct_kd t12 (by decide)) (by decide)).trans ?_
    refine (am_d_ic (q := ((14 : Nat) : Int) ≤ 14) (show am_fetch 0 21 = some (.if_icmp .ge 22, 3) from by decide +kernel) rfl rfl).trans ?_
    rw [if_pos (by decide)]
    exact am_d_ret (show am_fetch 0 43 = some (.return_, 1) from by decide +kernel) rfl
  | succ m ih =>
    intro i G M h hG
    have hi : i < 14 := by omega
    have hT : ct_T (13 + 8 * i) (i + 1) := ct_Tof (ct_T14 ⟨i, hi⟩)
    obtain ⟨G1, M1, e, g1, g2, m1, y0⟩ := ct_yard (k := 0) (pc := 29) (idx := 9) (idx2 := 17) (L := L) (F := G) (M := M) (ls := [some (am_A (31, 0)), some (am_I i)]) (st := [am_I i, am_A (31, 1)]) (by decide +kernel) rfl (by decide +kernel) (by decide +kernel) rfl rfl rfl hT
    have w1 : am_w ((i : Int) + 1) = ((i + 1 : Nat) : Int) := by rw [am_wi (by omega) (by omega)]; omega
    obtain ⟨G', M', e2, a1, a2, a3, a4⟩ := ih (i + 1) (fun r' k' => if r' = (31, 1) ∧ k' = i then some (i + 1, 0) else G1 r' k') M1 (by omega) (by
      try dsimp only
      rw [if_neg (by simp), g2 (31, 0) 0 (show (31 : Nat) ≠ i + 1 by omega)]
      exact hG)
    refine ⟨G', M', ?_, fun j b c => ?_, fun r q hr hq => ?_, fun c hc => ?_, fun j b c => ?_⟩
    · refine (am_den_n (c' := (17, [some (am_A (31, 0)), some (am_I i)], [am_A (31, 0), am_I i], (13 + 8 * i, 0, L, G), M)) 2 rfl).trans ?_
      refine (am_d_gfr (c := 0) (f := 0) (show am_fetch 0 17 = some (.getfield 11, 3) from by decide +kernel) rfl (ct_obj t11 (by omega)) rfl hG).trans ?_
      refine (am_d_len (c := 10) (n := 14) (show am_fetch 0 20 = some (.arraylength, 1) from by decide +kernel) (ct_kd t12 (by omega)) (by decide)).trans ?_
      refine (am_d_ic (q := ((14 : Nat) : Int) ≤ (i : Int)) (show am_fetch 0 21 = some (.if_icmp .ge 22, 3) from by decide +kernel) rfl rfl).trans ?_
      rw [if_neg (by omega)]
      refine (am_den_n (c' := (25, [some (am_A (31, 0)), some (am_I i)], [am_A (31, 0)], (13 + 8 * i, 0, L, G), M)) 1 rfl).trans ?_
      refine (am_d_gfr (c := 0) (f := 0) (show am_fetch 0 25 = some (.getfield 11, 3) from by decide +kernel) rfl (ct_obj t11 (by omega)) rfl hG).trans ?_
      refine (am_den_n (c' := (29, [some (am_A (31, 0)), some (am_I i)], [am_I i, am_A (31, 1)], (13 + 8 * i, 0, L, G), M)) 1 rfl).trans ?_
      rw [e]
      refine (am_d_aas (show am_fetch 0 36 = some (.aastore, 1) from by decide +kernel) (am_ar_of (n := 14) (ct_kd t12 (by omega)) (by omega)) (ct_obj (hT 0 (by omega)) (by omega))).trans ?_
      refine (am_den_n (c' := (15, [some (am_A (31, 0)), some (am_I (am_w ((i : Int) + 1)))], [], (13 + 8 * i + 8, 0, L, fun r' k' => if r' = (31, 1) ∧ k' = i then some (i + 1, 0) else G1 r' k'), M1)) 2 rfl).trans ?_
      rw [w1, show 13 + 8 * i + 8 = 13 + 8 * (i + 1) by omega]
      exact e2
    · by_cases q : j = i
      · subst q
        refine ⟨?_, fun f hf => ?_⟩
        · rw [a2 (31, 1) j (Or.inr (by decide)) (Or.inr (by omega))]
          simp
        · rw [a2 (j + 1, 0) f (Or.inl (Nat.le_refl _)) (Or.inl (by simp))]
          try dsimp only
          rw [if_neg (by simp), g1 f hf]
      · exact a1 j (by omega) c
    · rw [a2 r q (by omega) (by rcases hq with w | w; exact Or.inl w; exact Or.inr (by omega))]
      try dsimp only
      rw [if_neg (fun z => by rcases hq with w | w; exact w z.1; omega), g2 r q (by omega)]
    · rw [a3 c (by omega), m1 c (by omega)]
    · by_cases q : j = i
      · subst q
        rw [a3 (j + 1) (Or.inl (Nat.le_refl _))]
        exact y0
      · exact a4 j (by omega) c
theorem ct_0 : ∃ G' M', am_den 0 (0, [some (am_A (31, 0)), none], [], (12, 0, L, F), M) = some (.inl none, (125, 0, L, G'), M') ∧ G' (31, 0) 0 = some (31, 1) ∧ (∀ j, j < 14 → G' (31, 1) j = some (j + 1, 0) ∧ ∀ f, f < 7 → G' (j + 1, 0) f = some (j + 1, f + 1)) ∧ (∀ r q, (r.1 = 0 ∨ 14 < r.1) → r.1 ≠ 31 → G' r q = F r q) ∧ (∀ c, (c = 0 ∨ 14 < c) → c ≠ 31 → M' c = M c) ∧ M' 31 0 = M 31 0 ∧ M' 31 = am_nM M (31, 1) 31 ∧ (∀ j, j < 14 → ∃ Y, M' (j + 1) = am_yc Y) := by
  have t11 : am_tab[11]? = some ((31, 0), 0, 3) := by decide +kernel
  have hx : am_nx (12, 0, L, F) 10 14 = some (31, 1) := ct_nx (i := 12) (c := 10) (k := 14) (by decide +kernel)
  obtain ⟨G', M', e, a1, a2, a3, a4⟩ := ct_0l (L := L) 14 0 (fun r' k' => if r' = (31, 0) ∧ k' = 0 then some (31, 1) else if r' = (31, 1) then none else F r' k') (am_nM M (31, 1)) rfl (by simp)
  refine ⟨G', M', ?_, ?_, fun j hj => a1 j (by omega) hj, fun r q h1 h2 => ?_, fun c h1 h2 => ?_, ?_, a3 31 (by omega), fun j hj => a4 j (by omega) hj⟩
  · refine (am_den_n (c' := (1, [some (am_A (31, 0)), none], [am_A (31, 0)], (12, 0, L, F), M)) 1 rfl).trans <| (am_d_obj (show am_fetch 0 1 = some (.invokespecial 3, 3) from by decide +kernel) rfl rfl).trans ?_
    refine (am_den_n (c' := (7, [some (am_A (31, 0)), none], [am_I 14, am_A (31, 0)], (12, 0, L, F), M)) 2 rfl).trans ?_
    refine (am_d_nb (show am_fetch 0 7 = some (.anewarray 9, 3) from by decide +kernel) rfl (by decide) (by decide) hx).trans ?_
    refine (am_d_pfr (c := 0) (f := 0) (show am_fetch 0 10 = some (.putfield 11, 3) from by decide +kernel) rfl (ct_obj t11 (show 11 < 12 + 1 from by decide)) rfl rfl rfl).trans ?_
    refine (am_den_n (c' := (15, [some (am_A (31, 0)), some (am_I 0)], [], (13, 0, L, fun r' k' => if r' = (31, 0) ∧ k' = 0 then some (31, 1) else if r' = (31, 1) then none else F r' k'), am_nM M (31, 1))) 2 rfl).trans ?_
    exact e
  · rw [a2 (31, 0) 0 (Or.inr (by decide)) (Or.inl (by simp))]
    simp
  · rw [a2 r q (by omega) (Or.inl (fun z => h2 (by rw [z])))]
    try dsimp only
    rw [if_neg (fun z => h2 (by rw [z.1])), if_neg (fun z => h2 (by rw [z]))]
  · rw [a3 c (by omega)]
    unfold am_nM
    rw [am_sb_ne h2]
  · rw [a3 31 (by omega)]
    unfold am_nM
    rw [am_sb_at]
    funext j
    simp
end CTOR3
/-! ===== constructors: the class's four trial yards ===== -/
theorem ct_T4 : ∀ (i : Fin 4) (c : Fin 8), am_tab[152 + 8 * i.val + c.val]? = some ((18 + i.val, c.val), if c.val = 0 then 3 else 6, if c.val = 0 then 17 else if c.val < 6 then 24 else 4) := by decide +kernel
section CTOR4
variable {L : Nat} {F : am_R → Nat → Option am_R} {M : am_M}
theorem ct_66l : ∀ (m i : Nat) (G : am_R → Nat → Option am_R) (M : am_M), i + m = 4 → G (34, 0) 6 = some (34, 1) →
    ∃ G' M', am_den 66 (80, [some (am_A (34, 0)), some (am_I i)], [], (152 + 8 * i, 0, L, G), M) = some (.inl none, (184, 0, L, G'), M') ∧ (∀ j, i ≤ j → j < 4 → G' (34, 1) j = some (18 + j, 0) ∧ ∀ f, f < 7 → G' (18 + j, 0) f = some (18 + j, f + 1)) ∧ (∀ r q, (r.1 < 18 + i ∨ 22 ≤ r.1) → (r ≠ (34, 1) ∨ q < i) → G' r q = G r q) ∧ (∀ c, (c < 18 + i ∨ 22 ≤ c) → M' c = M c) := by
  have t11 : am_tab[0]? = some ((34, 0), 4, 7) := by decide +kernel
  have t12 : am_tab[151]? = some ((34, 1), 10, 4) := by decide +kernel
  intro m
  induction m with
  | zero =>
    intro i G M h hG
    have e : i = 4 := by omega
    subst e
    refine ⟨G, M, ?_, fun j a b => by omega, fun _ _ _ _ => rfl, fun _ _ => rfl⟩
    refine (am_den_n (c' := (82, [some (am_A (34, 0)), some (am_I 4)], [am_A (34, 0), am_I 4], (184, 0, L, G), M)) 2 rfl).trans ?_
    refine (am_d_gfr (c := 4) (f := 6) (show am_fetch 66 82 = some (.getfield 43, 3) from by decide +kernel) rfl (ct_obj t11 (by decide)) rfl hG).trans ?_
    refine (am_d_len (c := 10) (n := 4) (show am_fetch 66 85 = some (.arraylength, 1) from by decide +kernel) (ct_kd t12 (by decide)) (by decide)).trans ?_
    refine (am_d_ic (q := ((4 : Nat) : Int) ≤ 4) (show am_fetch 66 86 = some (.if_icmp .ge 22, 3) from by decide +kernel) rfl rfl).trans ?_
    rw [if_pos (by decide)]
    exact am_d_ret (show am_fetch 66 108 = some (.return_, 1) from by decide +kernel) rfl
  | succ m ih =>
    intro i G M h hG
    have hi : i < 4 := by omega
    have hT : ct_T (152 + 8 * i) (18 + i) := ct_Tof (ct_T4 ⟨i, hi⟩)
    obtain ⟨G1, M1, e, g1, g2, m1, _⟩ := ct_yard (k := 66) (pc := 94) (idx := 16) (idx2 := 18) (L := L) (F := G) (M := M) (ls := [some (am_A (34, 0)), some (am_I i)]) (st := [am_I i, am_A (34, 1)]) (by decide +kernel) rfl (by decide +kernel) (by decide +kernel) rfl rfl rfl hT
    have w1 : am_w ((i : Int) + 1) = ((i + 1 : Nat) : Int) := by rw [am_wi (by omega) (by omega)]; omega
    obtain ⟨G', M', e2, a1, a2, a3⟩ := ih (i + 1) (fun r' k' => if r' = (34, 1) ∧ k' = i then some (18 + i, 0) else G1 r' k') M1 (by omega) (by
      try dsimp only
      rw [if_neg (by simp), g2 (34, 0) 6 (show (34 : Nat) ≠ 18 + i by omega)]
      exact hG)
    refine ⟨G', M', ?_, fun j b c => ?_, fun r q hr hq => ?_, fun c hc => ?_⟩
    · refine (am_den_n (c' := (82, [some (am_A (34, 0)), some (am_I i)], [am_A (34, 0), am_I i], (152 + 8 * i, 0, L, G), M)) 2 rfl).trans ?_
      refine (am_d_gfr (c := 4) (f := 6) (show am_fetch 66 82 = some (.getfield 43, 3) from by decide +kernel) rfl (ct_obj t11 (by omega)) rfl hG).trans ?_
      refine (am_d_len (c := 10) (n := 4) (show am_fetch 66 85 = some (.arraylength, 1) from by decide +kernel) (ct_kd t12 (by omega)) (by decide)).trans ?_
      refine (am_d_ic (q := ((4 : Nat) : Int) ≤ (i : Int)) (show am_fetch 66 86 = some (.if_icmp .ge 22, 3) from by decide +kernel) rfl rfl).trans ?_
      rw [if_neg (by omega)]
      refine (am_den_n (c' := (90, [some (am_A (34, 0)), some (am_I i)], [am_A (34, 0)], (152 + 8 * i, 0, L, G), M)) 1 rfl).trans ?_
      refine (am_d_gfr (c := 4) (f := 6) (show am_fetch 66 90 = some (.getfield 43, 3) from by decide +kernel) rfl (ct_obj t11 (by omega)) rfl hG).trans ?_
      refine (am_den_n (c' := (94, [some (am_A (34, 0)), some (am_I i)], [am_I i, am_A (34, 1)], (152 + 8 * i, 0, L, G), M)) 1 rfl).trans ?_
      rw [e]
      refine (am_d_aas (show am_fetch 66 101 = some (.aastore, 1) from by decide +kernel) (am_ar_of (n := 4) (ct_kd t12 (by omega)) (by omega)) (ct_obj (hT 0 (by omega)) (by omega))).trans ?_
      refine (am_den_n (c' := (80, [some (am_A (34, 0)), some (am_I (am_w ((i : Int) + 1)))], [], (152 + 8 * i + 8, 0, L, fun r' k' => if r' = (34, 1) ∧ k' = i then some (18 + i, 0) else G1 r' k'), M1)) 2 rfl).trans ?_
      rw [w1, show 152 + 8 * i + 8 = 152 + 8 * (i + 1) by omega]
      exact e2
    · by_cases q : j = i
      · subst q
        refine ⟨?_, fun f hf => ?_⟩
        · rw [a2 (34, 1) j (Or.inr (by decide)) (Or.inr (by omega))]
          simp
        · rw [a2 (18 + j, 0) f (Or.inl (show 18 + j < 18 + (j + 1) by omega)) (Or.inl (by simp))]
          try dsimp only
          rw [if_neg (fun z => by have := congrArg (fun p => p.1.1) (Prod.ext z.1 z.2 : ((18 + j, 0), f) = ((34, 1), j)); simp at this; omega), g1 f hf]
      · exact a1 j (by omega) c
    · rw [a2 r q (by omega) (by rcases hq with w | w; exact Or.inl w; exact Or.inr (by omega))]
      try dsimp only
      rw [if_neg (fun z => by rcases hq with w | w; exact w z.1; omega), g2 r q (by omega)]
    · rw [a3 c (by omega), m1 c (by omega)]
end CTOR4
/-! ===== constructors: the class ===== -/
theorem ct_T0 : ct_T 3 0 := ct_Tof (by decide +kernel)
theorem ct_T15 : ct_T (125 + 1) 15 := ct_Tof (by decide +kernel)
theorem ct_T16 : ct_T (134 + 1) 16 := ct_Tof (by decide +kernel)
theorem ct_T17 : ct_T 143 17 := ct_Tof (by decide +kernel)
section CTOR5
variable {L : Nat} {F : am_R → Nat → Option am_R} {M : am_M}
theorem ct_zz {r : am_R} (h : M r.1 = fun _ _ => 0) : am_nM M r r.1 = fun _ _ => 0 := by
  unfold am_nM
  rw [am_sb_at, h]
  funext c j
  simp
theorem ct_zn {r : am_R} {c : Nat} (h : c ≠ r.1) : am_nM M r c = M c := by
  unfold am_nM
  rw [am_sb_ne h]
theorem ct_66 (hM : ∀ c, c < 45 → M c = fun _ _ => 0) : ∃ G M', am_den 66 (0, [some (am_A (34, 0)), none], [], (1, 0, L, F), M) = some (.inl none, (184, 0, L, G), M') ∧ (∀ b, b < 22 → ∀ f, f < 7 → G (b, 0) f = some (b, f + 1)) ∧ G (30, 0) 0 = some (30, 1) ∧ G (31, 0) 0 = some (31, 1) ∧ (∀ i, i < 14 → G (31, 1) i = some (i + 1, 0)) ∧ (G (32, 0) 0 = some (15, 0) ∧ G (33, 0) 0 = some (16, 0)) ∧ (G (34, 0) 0 = some (30, 0) ∧ G (34, 0) 1 = some (0, 0) ∧ G (34, 0) 2 = some (31, 0) ∧ G (34, 0) 3 = some (32, 0) ∧ G (34, 0) 4 = some (33, 0) ∧ G (34, 0) 5 = some (17, 0) ∧ G (34, 0) 6 = some (34, 1)) ∧ (∀ i, i < 4 → G (34, 1) i = some (18 + i, 0)) ∧ (∀ r q, 34 < r.1 → G r q = F r q) ∧ (∀ c, 34 < c → M' c = M c) ∧ (∀ b, b ≤ 16 → ∃ Y, M' b = am_yc Y) ∧ (M' 31 = fun _ _ => 0) ∧ (M' 32 = fun _ _ => 0) ∧ (M' 33 = fun _ _ => 0) := by
  have t0 : am_tab[0]? = some ((34, 0), 4, 7) := by decide +kernel
  have ob : ∀ (m : Nat) (G : am_R → Nat → Option am_R), 0 < m → am_ob (m, 0, L, G) (34, 0) 4 = true := fun m G hm => ct_obj t0 hm
  have x0 : am_nx (1, 0, L, F) 2 (am_fn 2) = some (30, 0) := ct_nx (i := 1) (c := 2) (k := 6) (by decide +kernel)
  have x1 : ∀ G, am_nx (11, 0, L, G) 0 (am_fn 0) = some (31, 0) := fun G => ct_nx (i := 11) (c := 0) (k := 3) (by decide +kernel)
  have t125 : am_tab[125]? = some ((32, 0), 1, 2) := by decide +kernel
  have t134 : am_tab[134]? = some ((33, 0), 1, 2) := by decide +kernel
  have x2 : ∀ G, am_nx (125, 0, L, G) 1 (am_fn 1) = some (32, 0) := fun G => ct_nx (i := 125) (c := 1) (k := 2) t125
  have x3 : ∀ G, am_nx (134, 0, L, G) 1 (am_fn 1) = some (33, 0) := fun G => ct_nx (i := 134) (c := 1) (k := 2) t134
  have x4 : ∀ G, am_nx (151, 0, L, G) 10 4 = some (34, 1) := fun G => ct_nx (i := 151) (c := 10) (k := 4) (by decide +kernel)
  obtain ⟨Fc, eFc⟩ : ∃ Fc : am_R → Nat → Option am_R, Fc = fun r' k' => if r' = (34, 0) ∧ k' = 0 then some (30, 0) else if r' = (30, 0) ∧ k' = 0 then some (30, 1) else if r' = (30, 1) then none else if r' = (30, 0) then none else F r' k' := ⟨_, rfl⟩
  obtain ⟨Mb, eMb⟩ : ∃ Mb, Mb = am_nM (am_nM M (30, 0)) (30, 1) := ⟨_, rfl⟩
  have zb : ∀ c, c < 45 → Mb c = fun _ _ => 0 := fun c hc => by
    rw [eMb]
    by_cases q : c = 30
    · subst q
      exact ct_zz (r := (30, 1)) (ct_zz (r := (30, 0)) (hM 30 hc))
    · rw [ct_zn q, ct_zn q, hM c hc]
  obtain ⟨G1, M1, e1, y1, f1, m1, Y0, hY0⟩ := ct_yard (k := 66) (pc := 16) (idx := 16) (idx2 := 18) (L := L) (F := Fc) (M := Mb) (ls := [some (am_A (34, 0)), none]) (st := [am_A (34, 0)]) (by decide +kernel) rfl (by decide +kernel) (by decide +kernel) rfl rfl rfl ct_T0
  obtain ⟨H1, eH1⟩ : ∃ H1 : am_R → Nat → Option am_R, H1 = fun r' k' => if r' = (34, 0) ∧ k' = 1 then some (0, 0) else G1 r' k' := ⟨_, rfl⟩
  obtain ⟨G2, M2, e2, y2, z2, f2, m2, n2, k2, w2⟩ := ct_0 (L := L) (F := fun r' k' => if r' = (31, 0) then none else H1 r' k') (M := am_nM M1 (31, 0))
  obtain ⟨H2, eH2⟩ : ∃ H2 : am_R → Nat → Option am_R, H2 = fun r' k' => if r' = (34, 0) ∧ k' = 2 then some (31, 0) else G2 r' k' := ⟨_, rfl⟩
  obtain ⟨G3, M3, e3, y3, z3, f3, m3, w3⟩ := ct_5 (L := L) (F := fun r' k' => if r' = (32, 0) then none else H2 r' k') (M := am_nM M2 (32, 0)) t125 ct_T15 (by decide)
  obtain ⟨H3, eH3⟩ : ∃ H3 : am_R → Nat → Option am_R, H3 = fun r' k' => if r' = (34, 0) ∧ k' = 3 then some (32, 0) else G3 r' k' := ⟨_, rfl⟩
  obtain ⟨G4, M4, e4, y4, z4, f4, m4, w4⟩ := ct_5 (L := L) (F := fun r' k' => if r' = (33, 0) then none else H3 r' k') (M := am_nM M3 (33, 0)) t134 ct_T16 (by decide)
  obtain ⟨H4, eH4⟩ : ∃ H4 : am_R → Nat → Option am_R, H4 = fun r' k' => if r' = (34, 0) ∧ k' = 4 then some (33, 0) else G4 r' k' := ⟨_, rfl⟩
  obtain ⟨G5, M5, e5, y5, f5, m5, _⟩ := ct_yard (k := 66) (pc := 60) (idx := 16) (idx2 := 18) (L := L) (F := H4) (M := M4) (ls := [some (am_A (34, 0)), none]) (st := [am_A (34, 0)]) (by decide +kernel) rfl (by decide +kernel) (by decide +kernel) rfl rfl rfl ct_T17
  obtain ⟨H6, eH6⟩ : ∃ H6 : am_R → Nat → Option am_R, H6 = fun r' k' => if r' = (34, 0) ∧ k' = 6 then some (34, 1) else if r' = (34, 1) then none else if r' = (34, 0) ∧ k' = 5 then some (17, 0) else G5 r' k' := ⟨_, rfl⟩
  obtain ⟨G7, M7, e7, y7, f7, m7⟩ := ct_66l (L := L) 4 0 H6 (am_nM M5 (34, 1)) rfl (by rw [eH6]; simp)
  refine ⟨G7, M7, ?_, ?_⟩
  · refine (am_den_n (c' := (1, [some (am_A (34, 0)), none], [am_A (34, 0)], (1, 0, L, F), M)) 1 rfl).trans <| (am_d_obj (show am_fetch 66 1 = some (.invokespecial 1, 3) from by decide +kernel) rfl rfl).trans ?_
    refine (am_den_n (c' := (5, [some (am_A (34, 0)), none], [am_A (34, 0)], (1, 0, L, F), M)) 1 rfl).trans ?_
    refine (am_d_new (show am_fetch 66 5 = some (.new 7, 3) from by decide +kernel) rfl x0).trans ((ct_dup (by decide +kernel)).trans ?_)
    refine (am_d_iv (show am_fetch 66 9 = some (.invokespecial 9, 3) from by decide +kernel) (Or.inr (Or.inr ⟨_, rfl⟩)) (am_iv_i2 (st := [am_A (30, 0), am_A (30, 0), am_A (34, 0)]) (as := []) (rest := [am_A (30, 0), am_A (34, 0)]) (t := 6) (n := 1) (c := 2) rfl rfl rfl rfl rfl rfl rfl rfl rfl (ct_obj (i := 1) (k := 6) (by decide +kernel) (show 1 < 1 + 1 from by decide)))).trans ?_
    refine (congrArg _ (ct_6 (L := L) (F := fun r' k' => if r' = (30, 0) then none else F r' k') (M := am_nM M (30, 0)))).trans ?_
    refine (am_d_pfr (c := 4) (f := 0) (show am_fetch 66 12 = some (.putfield 10, 3) from by decide +kernel) rfl (ob _ _ (by decide)) rfl rfl rfl).trans ?_
    refine (am_den_n (c' := (16, [some (am_A (34, 0)), none], [am_A (34, 0)], (3, 0, L, Fc), Mb)) 1 (by rw [eFc, eMb]; rfl)).trans ?_
    rw [e1]
    refine (am_d_pfr (c := 4) (f := 1) (show am_fetch 66 23 = some (.putfield 19, 3) from by decide +kernel) rfl (ob _ _ (by decide)) rfl rfl rfl).trans ?_
    refine (am_den_n (c' := (27, [some (am_A (34, 0)), none], [am_A (34, 0)], (11, 0, L, H1), M1)) 1 (by rw [eH1]; rfl)).trans ?_
    refine (am_d_new (show am_fetch 66 27 = some (.new 23, 3) from by decide +kernel) rfl (x1 _)).trans ((ct_dup (by decide +kernel)).trans ?_)
    refine (am_d_iv (show am_fetch 66 31 = some (.invokespecial 25, 3) from by decide +kernel) (Or.inr (Or.inr ⟨_, rfl⟩)) (am_iv_i2 (st := [am_A (31, 0), am_A (31, 0), am_A (34, 0)]) (as := []) (rest := [am_A (31, 0), am_A (34, 0)]) (t := 0) (n := 1) (c := 0) rfl rfl rfl rfl rfl rfl rfl rfl rfl (ct_obj (i := 11) (k := 3) (by decide +kernel) (show 11 < 11 + 1 from by decide)))).trans ?_
    refine (congrArg _ e2).trans ?_
    refine (am_d_pfr (c := 4) (f := 2) (show am_fetch 66 34 = some (.putfield 26, 3) from by decide +kernel) rfl (ob _ _ (by decide)) rfl rfl rfl).trans ?_
    refine (am_den_n (c' := (38, [some (am_A (34, 0)), none], [am_A (34, 0)], (125, 0, L, H2), M2)) 1 (by rw [eH2]; rfl)).trans ?_
    refine (am_d_new (show am_fetch 66 38 = some (.new 30, 3) from by decide +kernel) rfl (x2 _)).trans ((ct_dup (by decide +kernel)).trans ?_)
    refine (am_d_iv (show am_fetch 66 42 = some (.invokespecial 32, 3) from by decide +kernel) (Or.inr (Or.inr ⟨_, rfl⟩)) (am_iv_i2 (st := [am_A (32, 0), am_A (32, 0), am_A (34, 0)]) (as := []) (rest := [am_A (32, 0), am_A (34, 0)]) (t := 5) (n := 1) (c := 1) rfl rfl rfl rfl rfl rfl rfl rfl rfl (ct_obj t125 (show 125 < 125 + 1 from by decide)))).trans ?_
    refine (congrArg _ e3).trans ?_
    refine (am_d_pfr (c := 4) (f := 3) (show am_fetch 66 45 = some (.putfield 33, 3) from by decide +kernel) rfl (ob _ _ (by decide)) rfl rfl rfl).trans ?_
    refine (am_den_n (c' := (49, [some (am_A (34, 0)), none], [am_A (34, 0)], (134, 0, L, H3), M3)) 1 (by rw [eH3]; rfl)).trans ?_
    refine (am_d_new (show am_fetch 66 49 = some (.new 30, 3) from by decide +kernel) rfl (x3 _)).trans ((ct_dup (by decide +kernel)).trans ?_)
    refine (am_d_iv (show am_fetch 66 53 = some (.invokespecial 32, 3) from by decide +kernel) (Or.inr (Or.inr ⟨_, rfl⟩)) (am_iv_i2 (st := [am_A (33, 0), am_A (33, 0), am_A (34, 0)]) (as := []) (rest := [am_A (33, 0), am_A (34, 0)]) (t := 5) (n := 1) (c := 1) rfl rfl rfl rfl rfl rfl rfl rfl rfl (ct_obj t134 (show 134 < 134 + 1 from by decide)))).trans ?_
    refine (congrArg _ e4).trans ?_
    refine (am_d_pfr (c := 4) (f := 4) (show am_fetch 66 56 = some (.putfield 37, 3) from by decide +kernel) rfl (ob _ _ (by decide)) rfl rfl rfl).trans ?_
    refine (am_den_n (c' := (60, [some (am_A (34, 0)), none], [am_A (34, 0)], (143, 0, L, H4), M4)) 1 (by rw [eH4]; rfl)).trans ?_
    rw [e5]
    refine (am_d_pfr (c := 4) (f := 5) (show am_fetch 66 67 = some (.putfield 40, 3) from by decide +kernel) rfl (ob _ _ (by decide)) rfl rfl rfl).trans ?_
    refine (am_den_n (c' := (72, [some (am_A (34, 0)), none], [am_I 4, am_A (34, 0)], (151, 0, L, fun r' k' => if r' = (34, 0) ∧ k' = 5 then some (17, 0) else G5 r' k'), M5)) 2 rfl).trans ?_
    refine (am_d_nb (show am_fetch 66 72 = some (.anewarray 16, 3) from by decide +kernel) rfl (by decide) (by decide) (x4 _)).trans ?_
    refine (am_d_pfr (c := 4) (f := 6) (show am_fetch 66 75 = some (.putfield 43, 3) from by decide +kernel) rfl (ob _ _ (show 0 < 151 + 1 from by decide)) rfl rfl rfl).trans ?_
    refine (am_den_n (c' := (80, [some (am_A (34, 0)), some (am_I 0)], [], (152, 0, L, H6), am_nM M5 (34, 1))) 2 (by rw [eH6]; rfl)).trans ?_
    exact e7
  · have n0 : ∀ {r : am_R} {c d : Nat}, r.1 ≠ c → r ≠ (c, d) := fun h z => h (by rw [z])
    have a7 : ∀ r q, (r.1 < 18 ∨ 22 ≤ r.1) → r.1 ≠ 34 → G7 r q = G5 r q := fun r q h1 h2 => by
      rw [f7 r q (by omega) (Or.inl (n0 h2)), eH6]
      simp only [n0 h2, false_and, if_false]
    have a5 : ∀ r q, r.1 ≠ 17 → r.1 ≠ 34 → G5 r q = G4 r q := fun r q h1 h2 => by
      rw [f5 r q h1, eH4]
      simp only [n0 h2, false_and, if_false]
    have a4 : ∀ r q, r.1 ≠ 33 → r.1 ≠ 16 → r.1 ≠ 34 → G4 r q = G3 r q := fun r q h1 h2 h3 => by
      rw [f4 r q h1 h2, eH3]
      simp only [n0 h1, n0 h3, false_and, if_false]
    have a3 : ∀ r q, r.1 ≠ 32 → r.1 ≠ 15 → r.1 ≠ 34 → G3 r q = G2 r q := fun r q h1 h2 h3 => by
      rw [f3 r q h1 h2, eH2]
      simp only [n0 h1, n0 h3, false_and, if_false]
    have a2 : ∀ r q, (r.1 = 0 ∨ 14 < r.1) → r.1 ≠ 31 → r.1 ≠ 34 → G2 r q = G1 r q := fun r q h1 h2 h3 => by
      rw [f2 r q h1 h2, eH1]
      simp only [n0 h2, n0 h3, false_and, if_false]
    have a1 : ∀ r q, r.1 ≠ 0 → r.1 ≠ 30 → r.1 ≠ 34 → G1 r q = F r q := fun r q h1 h2 h3 => by
      rw [f1 r q h1, eFc]
      simp only [n0 h2, n0 h3, false_and, if_false]
    have b34 : ∀ q, G7 (34, 0) q = H6 (34, 0) q := fun q => f7 (34, 0) q (by simp) (Or.inl (by simp))
    have c34 : ∀ q, G5 (34, 0) q = H4 (34, 0) q := fun q => f5 (34, 0) q (by simp)
    have d34 : ∀ q, G4 (34, 0) q = H3 (34, 0) q := fun q => (f4 (34, 0) q (by simp) (by simp)).trans (by simp)
    have g34 : ∀ q, G3 (34, 0) q = H2 (34, 0) q := fun q => (f3 (34, 0) q (by simp) (by simp)).trans (by simp)
    have h34 : ∀ q, G2 (34, 0) q = H1 (34, 0) q := fun q => (f2 (34, 0) q (by simp) (by simp)).trans (by simp)
    have i34 : ∀ q, G1 (34, 0) q = Fc (34, 0) q := fun q => f1 (34, 0) q (by simp)
    have p7 : ∀ c, (c < 18 ∨ 22 ≤ c) → c ≠ 34 → M7 c = M5 c := fun c h1 h2 => by rw [m7 c (by omega), ct_zn h2]
    have p4 : ∀ c, c ≠ 16 → c ≠ 33 → M4 c = M3 c := fun c h1 h2 => by rw [m4 c h1, ct_zn h2]
    have p3 : ∀ c, c ≠ 15 → c ≠ 32 → M3 c = M2 c := fun c h1 h2 => by rw [m3 c h1, ct_zn h2]
    have p2 : ∀ c, (c = 0 ∨ 14 < c) → c ≠ 31 → M2 c = M1 c := fun c h1 h2 => by rw [m2 c h1 h2, ct_zn h2]
    refine ⟨fun b hb f hf => ?_, ?_, ?_, fun i hi => ?_, ⟨?_, ?_⟩, ⟨?_, ?_, ?_, ?_, ?_, ?_, ?_⟩, fun i hi => (y7 i (by omega) hi).1, fun r q h => ?_, fun c h => ?_, fun b hb => ?_, ?_, ?_, ?_⟩
    · by_cases q1 : 18 ≤ b
      · have h := (y7 (b - 18) (by omega) (by omega)).2 f hf
        rw [show 18 + (b - 18) = b by omega] at h
        exact h
      · rw [a7 (b, 0) f (Or.inl (show b < 18 by omega)) (show b ≠ 34 by omega)]
        by_cases q2 : b = 17
        · subst q2
          exact y5 f hf
        · rw [a5 (b, 0) f q2 (show b ≠ 34 by omega)]
          by_cases q3 : b = 16
          · subst q3
            exact z4 f hf
          · rw [a4 (b, 0) f (show b ≠ 33 by omega) q3 (show b ≠ 34 by omega)]
            by_cases q4 : b = 15
            · subst q4
              exact z3 f hf
            · rw [a3 (b, 0) f (show b ≠ 32 by omega) q4 (show b ≠ 34 by omega)]
              by_cases q5 : b = 0
              · subst q5
                rw [a2 (0, 0) f (Or.inl rfl) (by simp) (by simp)]
                exact y1 f hf
              · have h := (z2 (b - 1) (by omega)).2 f hf
                rw [show b - 1 + 1 = b by omega] at h
                exact h
    · rw [a7 _ _ (by simp) (by simp), a5 _ _ (by simp) (by simp), a4 _ _ (by simp) (by simp) (by simp), a3 _ _ (by simp) (by simp) (by simp), a2 _ _ (by simp) (by simp) (by simp), f1 _ _ (by simp), eFc]
      simp
    · rw [a7 _ _ (by simp) (by simp), a5 _ _ (by simp) (by simp), a4 _ _ (by simp) (by simp) (by simp), a3 _ _ (by simp) (by simp) (by simp), y2]
    · rw [a7 _ _ (by simp) (by simp), a5 _ _ (by simp) (by simp), a4 _ _ (by simp) (by simp) (by simp), a3 _ _ (by simp) (by simp) (by simp), (z2 i hi).1]
    · rw [a7 _ _ (by simp) (by simp), a5 _ _ (by simp) (by simp), a4 _ _ (by simp) (by simp) (by simp), y3]
    · rw [a7 _ _ (by simp) (by simp), a5 _ _ (by simp) (by simp), y4]
    · rw [b34, eH6]; simp [c34, eH4, d34, eH3, g34, eH2, h34, eH1, i34, eFc]
    · rw [b34, eH6]; simp [c34, eH4, d34, eH3, g34, eH2, h34, eH1]
    · rw [b34, eH6]; simp [c34, eH4, d34, eH3, g34, eH2]
    · rw [b34, eH6]; simp [c34, eH4, d34, eH3]
    · rw [b34, eH6]; simp [c34, eH4]
    · rw [b34, eH6]; simp
    · rw [b34, eH6]; simp
    · rw [a7 r q (by omega) (by omega), a5 r q (by omega) (by omega), a4 r q (by omega) (by omega) (by omega), a3 r q (by omega) (by omega) (by omega), a2 r q (by omega) (by omega) (by omega), a1 r q (by omega) (by omega) (by omega)]
    · rw [p7 c (by omega) (by omega), m5 c (by omega), p4 c (by omega) (by omega), p3 c (by omega) (by omega), p2 c (by omega) (by omega), m1 c (by omega), eMb, ct_zn (show c ≠ 30 by omega), ct_zn (show c ≠ 30 by omega)]
    · rw [p7 b (by omega) (by omega), m5 b (by omega)]
      by_cases q1 : b = 16
      · rw [q1]; exact w4
      · rw [p4 b q1 (by omega)]
        by_cases q2 : b = 15
        · rw [q2]; exact w3
        · rw [p3 b q2 (by omega)]
          by_cases q3 : b = 0
          · rw [q3, p2 0 (by omega) (by omega)]
            exact ⟨Y0, hY0⟩
          · have h := w2 (b - 1) (by omega)
            rw [show b - 1 + 1 = b by omega] at h
            exact h
    · rw [p7 31 (by omega) (by omega), m5 31 (by omega), p4 31 (by omega) (by omega), p3 31 (by omega) (by omega), k2]
      exact ct_zz (r := (31, 1)) (ct_zz (r := (31, 0)) (by rw [m1 31 (by omega), zb 31 (by omega)]))
    · rw [p7 32 (by omega) (by omega), m5 32 (by omega), p4 32 (by omega) (by omega), m3 32 (by omega)]
      exact ct_zz (r := (32, 0)) (by rw [p2 32 (by omega) (by omega), m1 32 (by omega), zb 32 (by omega)])
    · rw [p7 33 (by omega) (by omega), m5 33 (by omega), m4 33 (by omega)]
      exact ct_zz (r := (33, 0)) (by rw [p3 33 (by omega) (by omega), p2 33 (by omega) (by omega), m1 33 (by omega), zb 33 (by omega)])
end CTOR5
