/-! ===== constructors: new yards, the text, slots, the memory ===== -/
section CTOR2
variable {n b L k pc idx idx2 : Nat} {F : am_R → Nat → Option am_R} {E : am_E} {M : am_M} {ls : List (Option am_V)} {st : List am_V} {r : am_R}
theorem ct_dup (Fd : am_fetch k pc = some (.dup, 1)) : am_den k (pc, ls, am_A r :: st, E, M) = am_den k (pc + 1, ls, am_A r :: am_A r :: st, E, M) :=
  am_den_go (by simp [am_stp, Fd, am_jp, am_ln, am_op, am_cat])
theorem ct_yard (Fn : am_fetch k pc = some (.new idx, 3)) (hc : am_cl k idx = some (.inl 3)) (Fd : am_fetch k (pc + 3) = some (.dup, 1)) (Fi : am_fetch k (pc + 3 + 1) = some (.invokespecial idx2, 3)) (hm : am_ml k idx2 = some (20, 2)) (hr : Nat.blt (am_rk 20) (am_rk k) = true) (hw : Nat.ble (am_wt (am_A (b, 0) :: st)) 8 = true) (hT : ct_T n b) :
    ∃ G M', am_den k (pc, ls, st, (n, 0, L, F), M) = am_den k (pc + 7, ls, am_A (b, 0) :: st, (n + 8, 0, L, G), M') ∧ (∀ f, f < 7 → G (b, 0) f = some (b, f + 1)) ∧ (∀ r j, r.1 ≠ b → G r j = F r j) ∧ (∀ c, c ≠ b → M' c = M c) ∧ (∃ Y, M' b = am_yc Y) := by
  have hx : am_nx (n, 0, L, F) 3 (am_fn 3) = some (b, 0) := ct_nx (hT 0 (by omega))
  refine ⟨ct_F b (fun r' k' => if r' = (b, 0) then none else F r' k') 7, am_sb (ct_M b (am_nM M (b, 0)) 7) b (am_yc (ct_M b (am_nM M (b, 0)) 7 b)), ?_, fun f hf => ct_F_in 7 f hf, fun r j h => ?_, fun c h => ?_, ⟨_, am_sb_at⟩⟩
  · refine (am_d_new Fn hc hx).trans ((ct_dup Fd).trans ((am_d_iv Fi (Or.inr (Or.inr ⟨_, rfl⟩)) (am_iv_i2 (st := am_A (b, 0) :: am_A (b, 0) :: st) (as := []) (rest := am_A (b, 0) :: st) (idx := idx2) (t := 20) (n := 1) (c := 3) hm rfl rfl hr rfl rfl rfl hw rfl (ct_obj (hT 0 (by omega)) (Nat.lt_succ_self _)))).trans ?_))
    exact congrArg _ (ct_20 (L := L) (F := fun r' k' => if r' = (b, 0) then none else F r' k') (M := am_nM M (b, 0)) hT)
  · rw [ct_F_out h, if_neg (fun z => h (by rw [z]))]
  · rw [am_sb_ne h, ct_M_out h]
    unfold am_nM
    rw [am_sb_ne h]
theorem ct_6 : am_den 6 (0, [some (am_A (30, 0))], [], (2, 0, L, F), M) = some (.inl none, (3, 0, L, fun r' k' => if r' = (30, 0) ∧ k' = 0 then some (30, 1) else if r' = (30, 1) then none else F r' k'), am_nM M (30, 1)) := by
  have hx : am_nx (2, 0, L, F) 7 120 = some (30, 1) := ct_nx (i := 2) (c := 7) (k := 120) (by decide +kernel)
  refine (am_den_n (c' := (1, [some (am_A (30, 0))], [am_A (30, 0)], (2, 0, L, F), M)) 1 rfl).trans <| (am_d_obj (show am_fetch 6 1 = some (.invokespecial 3, 3) from by decide +kernel) rfl rfl).trans ?_
  refine (am_den_n (c' := (7, [some (am_A (30, 0))], [am_I 120, am_A (30, 0)], (2, 0, L, F), M)) 2 rfl).trans <| (am_d_na (show am_fetch 6 7 = some (.newarray .char, 2) from by decide +kernel) (by decide) (by decide) (by decide) hx).trans <| (am_d_pfr (c := 2) (f := 0) (show am_fetch 6 9 = some (.putfield 9, 3) from by decide +kernel) rfl (ct_obj (i := 1) (k := 6) (by decide +kernel) (show 1 < 2 + 1 from by decide)) rfl rfl rfl).trans ?_
  exact am_d_ret (show am_fetch 6 12 = some (.return_, 1) from by decide +kernel) rfl
theorem ct_5 {s : Nat} (hs : am_tab[n]? = some ((s, 0), 1, 2)) (hT : ct_T (n + 1) b) (hsb : s ≠ b) : ∃ G M', am_den 5 (0, [some (am_A (s, 0))], [], (n + 1, 0, L, F), M) = some (.inl none, (n + 9, 0, L, G), M') ∧ G (s, 0) 0 = some (b, 0) ∧ (∀ f, f < 7 → G (b, 0) f = some (b, f + 1)) ∧ (∀ r j, r.1 ≠ s → r.1 ≠ b → G r j = F r j) ∧ (∀ c, c ≠ b → M' c = M c) := by
  obtain ⟨G, M', e, g1, g2, m1, _⟩ := ct_yard (k := 5) (pc := 5) (idx := 7) (idx2 := 9) (L := L) (F := F) (M := M) (ls := [some (am_A (s, 0))]) (st := [am_A (s, 0)]) (by decide +kernel) rfl (by decide +kernel) (by decide +kernel) rfl rfl rfl hT
  refine ⟨fun r' k' => if r' = (s, 0) ∧ k' = 0 then some (b, 0) else G r' k', M', ?_, by simp, fun f hf => ?_, fun r j h1 h2 => ?_, m1⟩
  · refine (am_den_n (c' := (1, [some (am_A (s, 0))], [am_A (s, 0)], (n + 1, 0, L, F), M)) 1 rfl).trans <| (am_d_obj (show am_fetch 5 1 = some (.invokespecial 1, 3) from by decide +kernel) rfl rfl).trans ?_
    refine (am_den_n (c' := (5, [some (am_A (s, 0))], [am_A (s, 0)], (n + 1, 0, L, F), M)) 1 rfl).trans ?_
    rw [e]
    refine (am_d_pfr (c := 1) (f := 0) (show am_fetch 5 12 = some (.putfield 10, 3) from by decide +kernel) rfl (ct_obj hs (by omega)) rfl rfl rfl).trans ?_
    exact am_d_ret (show am_fetch 5 15 = some (.return_, 1) from by decide +kernel) rfl
  · dsimp only
    rw [if_neg (fun z => hsb (by have := congrArg Prod.fst z.1; exact this.symm)), g1 f hf]
  · dsimp only
    rw [if_neg (fun z => h1 (by rw [z.1])), g2 r j h2]
end CTOR2
