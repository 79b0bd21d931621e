/-! ===== constructors: a yard ===== -/
def ct_T (n b : Nat) : Prop := ∀ c, c < 8 → am_tab[n + c]? = some ((b, c), if c = 0 then 3 else 6, if c = 0 then 17 else if c < 6 then 24 else 4)
def ct_F (b : Nat) (F : am_R → Nat → Option am_R) : Nat → am_R → Nat → Option am_R
  | 0 => F
  | j + 1 => fun r' k' => if r' = (b, 0) ∧ k' = j then some (b, j + 1) else if r' = (b, j + 1) then none else ct_F b F j r' k'
def ct_M (b : Nat) (M : am_M) : Nat → am_M
  | 0 => M
  | j + 1 => am_nM (ct_M b M j) (b, j + 1)
section CTOR1
variable {n b L : Nat} {F : am_R → Nat → Option am_R} {E : am_E} {M : am_M}
theorem ct_kd {m x i : Nat} {t : am_R × Nat × Nat} (h : am_tab[i]? = some t) (hi : i < m) : am_kd (m, x, L, F) t.1 = some t.2 := by
  obtain ⟨h1, h2, h3, _⟩ := am_tab_i h
  unfold am_kd
  rw [if_neg h3, h2, if_pos (show i < (m, x, L, F).1 from hi), h]
theorem ct_obj {m x i : Nat} {r : am_R} {c k : Nat} (h : am_tab[i]? = some (r, c, k)) (hi : i < m) : am_ob (m, x, L, F) r c = true := by
  have e := ct_kd (x := x) (L := L) (F := F) h hi
  dsimp only at e
  unfold am_ob
  rw [e]
  simp
theorem ct_nx {i c k : Nat} {r : am_R} (h : am_tab[i]? = some (r, c, k)) : am_nx (i, 0, L, F) c (k : Int) = some r := by
  unfold am_nx
  dsimp only
  rw [h]
  simp
theorem ct_F_in : ∀ (j f : Nat), f < j → ct_F b F j (b, 0) f = some (b, f + 1) := by
  intro j
  induction j with
  | zero => intro f h; omega
  | succ j ih =>
    intro f h
    by_cases e : f = j
    · subst e
      simp [ct_F]
    · simp only [ct_F]
      rw [if_neg (fun z => e z.2), if_neg (by simp)]
      exact ih f (by omega)
theorem ct_F_out {r : am_R} {k : Nat} (h : r.1 ≠ b) : ∀ j : Nat, ct_F b F j r k = F r k := by
  intro j
  induction j with
  | zero => rfl
  | succ j ih =>
    simp only [ct_F]
    rw [if_neg (fun z => h (by rw [z.1])), if_neg (fun z => h (by rw [z])), ih]
theorem ct_M_out {c : Nat} (h : c ≠ b) : ∀ j : Nat, ct_M b M j c = M c := by
  intro j
  induction j with
  | zero => rfl
  | succ j ih =>
    simp only [ct_M]
    unfold am_nM
    rw [am_sb_ne h, ih]
theorem ct_WY (hT : ct_T n b) {m x : Nat} {G : am_R → Nat → Option am_R} (hm : n + 8 ≤ m) (hG : ∀ f, f < 7 → G (b, 0) f = some (b, f + 1)) : am_WY (m, x, L, G) b := by
  have kd : ∀ c, c < 8 → am_kd (m, x, L, G) (b, c) = some (if c = 0 then 3 else 6, if c = 0 then 17 else if c < 6 then 24 else 4) := fun c hc => ct_kd (hT c hc) (by omega)
  refine ⟨ct_obj (hT 0 (by omega)) (by omega), hG, fun c h1 h5 => ?_, ?_, ?_⟩
  · rw [kd c (by omega), if_neg (by omega), if_neg (by omega), if_pos (by omega)]
  · exact kd 6 (by omega)
  · exact kd 7 (by omega)
theorem ct_20 (hT : ct_T n b) : am_den 20 (0, [some (am_A (b, 0))], [], (n + 1, 0, L, F), M) = some (.inl none, (n + 8, 0, L, ct_F b F 7), am_sb (ct_M b M 7) b (am_yc (ct_M b M 7 b))) := by
  have nx : ∀ (j : Nat) (G : am_R → Nat → Option am_R), j < 5 → am_nx (n + (j + 1), 0, L, G) 6 24 = some (b, j + 1) := fun j G hj => by
    have h := hT (j + 1) (by omega)
    rw [if_neg (by omega), if_neg (by omega), if_pos (by omega)] at h
    exact ct_nx h
  have nx5 : ∀ (G : am_R → Nat → Option am_R), am_nx (n + 6, 0, L, G) 6 4 = some (b, 6) := fun G => ct_nx (hT 6 (by omega))
  have nx6 : ∀ (G : am_R → Nat → Option am_R), am_nx (n + 7, 0, L, G) 6 4 = some (b, 7) := fun G => ct_nx (hT 7 (by omega))
  have ob : ∀ (m : Nat) (G : am_R → Nat → Option am_R), n < m → am_ob (m, 0, L, G) (b, 0) 3 = true := fun m G hm => ct_obj (hT 0 (by omega)) hm
  refine (am_den_n (c' := (1, [some (am_A (b, 0))], [am_A (b, 0)], (n + 1, 0, L, F), M)) 1 rfl).trans <| (am_d_obj (show am_fetch 20 1 = some (.invokespecial 3, 3) from by decide +kernel) rfl rfl).trans ?_
  refine (am_den_n (c' := (7, [some (am_A (b, 0))], [am_I 24, am_A (b, 0)], (n + 1, 0, L, ct_F b F 0), ct_M b M 0)) 2 rfl).trans <| (am_d_na (show am_fetch 20 7 = some (.newarray .int, 2) from by decide +kernel) (by decide) (by decide) (by decide) (nx 0 _ (by decide))).trans <| (am_d_pfr (c := 3) (f := 0) (show am_fetch 20 9 = some (.putfield 9, 3) from by decide +kernel) rfl (ob _ _ (by omega)) rfl rfl rfl).trans ?_
  refine (am_den_n (c' := (15, [some (am_A (b, 0))], [am_I 24, am_A (b, 0)], (n + 2, 0, L, ct_F b F 1), ct_M b M 1)) 2 rfl).trans <| (am_d_na (show am_fetch 20 15 = some (.newarray .int, 2) from by decide +kernel) (by decide) (by decide) (by decide) (nx 1 _ (by decide))).trans <| (am_d_pfr (c := 3) (f := 1) (show am_fetch 20 17 = some (.putfield 15, 3) from by decide +kernel) rfl (ob _ _ (by omega)) rfl rfl rfl).trans ?_
  refine (am_den_n (c' := (23, [some (am_A (b, 0))], [am_I 24, am_A (b, 0)], (n + 3, 0, L, ct_F b F 2), ct_M b M 2)) 2 rfl).trans <| (am_d_na (show am_fetch 20 23 = some (.newarray .int, 2) from by decide +kernel) (by decide) (by decide) (by decide) (nx 2 _ (by decide))).trans <| (am_d_pfr (c := 3) (f := 2) (show am_fetch 20 25 = some (.putfield 18, 3) from by decide +kernel) rfl (ob _ _ (by omega)) rfl rfl rfl).trans ?_
  refine (am_den_n (c' := (31, [some (am_A (b, 0))], [am_I 24, am_A (b, 0)], (n + 4, 0, L, ct_F b F 3), ct_M b M 3)) 2 rfl).trans <| (am_d_na (show am_fetch 20 31 = some (.newarray .int, 2) from by decide +kernel) (by decide) (by decide) (by decide) (nx 3 _ (by decide))).trans <| (am_d_pfr (c := 3) (f := 3) (show am_fetch 20 33 = some (.putfield 21, 3) from by decide +kernel) rfl (ob _ _ (by omega)) rfl rfl rfl).trans ?_
  refine (am_den_n (c' := (39, [some (am_A (b, 0))], [am_I 24, am_A (b, 0)], (n + 5, 0, L, ct_F b F 4), ct_M b M 4)) 2 rfl).trans <| (am_d_na (show am_fetch 20 39 = some (.newarray .int, 2) from by decide +kernel) (by decide) (by decide) (by decide) (nx 4 _ (by decide))).trans <| (am_d_pfr (c := 3) (f := 4) (show am_fetch 20 41 = some (.putfield 24, 3) from by decide +kernel) rfl (ob _ _ (by omega)) rfl rfl rfl).trans ?_
  refine (am_den_n (c' := (46, [some (am_A (b, 0))], [am_I 4, am_A (b, 0)], (n + 6, 0, L, ct_F b F 5), ct_M b M 5)) 2 rfl).trans <| (am_d_na (show am_fetch 20 46 = some (.newarray .int, 2) from by decide +kernel) (by decide) (by decide) (by decide) (nx5 _)).trans <| (am_d_pfr (c := 3) (f := 5) (show am_fetch 20 48 = some (.putfield 27, 3) from by decide +kernel) rfl (ob _ _ (by omega)) rfl rfl rfl).trans ?_
  refine (am_den_n (c' := (53, [some (am_A (b, 0))], [am_I 4, am_A (b, 0)], (n + 7, 0, L, ct_F b F 6), ct_M b M 6)) 2 rfl).trans <| (am_d_na (show am_fetch 20 53 = some (.newarray .int, 2) from by decide +kernel) (by decide) (by decide) (by decide) (nx6 _)).trans <| (am_d_pfr (c := 3) (f := 6) (show am_fetch 20 55 = some (.putfield 30, 3) from by decide +kernel) rfl (ob _ _ (by omega)) rfl rfl rfl).trans ?_
  refine (am_den_n (c' := (59, [some (am_A (b, 0))], [am_A (b, 0)], (n + 8, 0, L, ct_F b F 7), ct_M b M 7)) 1 rfl).trans ?_
  refine (am_d_iv (ls := [some (am_A (b, 0))]) (show am_fetch 20 59 = some (.invokevirtual 33, 3) from by decide +kernel) (Or.inr (Or.inl ⟨_, rfl⟩)) (am_iv_v (st := [am_A (b, 0)]) (as := []) (rest := []) (idx := 33) (t := 21) (n := 1) (c := 3) rfl rfl rfl rfl rfl rfl rfl rfl rfl (ob _ _ (by omega)))).trans ?_
  have hW : am_WY (n + 8, 0, L, ct_F b F 7) b := ct_WY hT (Nat.le_refl _) (fun f hf => ct_F_in 7 f hf)
  refine (congrArg _ (am_s21 hW)).trans ?_
  exact am_d_ret (show am_fetch 20 62 = some (.return_, 1) from by decide +kernel) rfl
end CTOR1
