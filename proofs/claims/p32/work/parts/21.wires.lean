/-! ===== the wires: which cell holds which ===== -/
def am_WY (E : am_E) (b : Nat) : Prop := am_ob E (b, 0) 3 = true ∧ (∀ f, f < 7 → am_rf E (b, 0) f = some (b, f + 1)) ∧ (∀ c, 1 ≤ c → c ≤ 5 → am_kd E (b, c) = some (6, 24)) ∧ am_kd E (b, 6) = some (6, 4) ∧ am_kd E (b, 7) = some (6, 4)
def am_Wr (E : am_E) : Prop := (∀ b, b < 22 → am_WY E b) ∧
  (am_ob E (30, 0) 2 = true ∧ am_rf E (30, 0) 0 = some (30, 1) ∧ am_kd E (30, 1) = some (7, 120)) ∧
  (am_ob E (31, 0) 0 = true ∧ am_rf E (31, 0) 0 = some (31, 1) ∧ am_kd E (31, 1) = some (10, 14) ∧ ∀ i, i < 14 → am_rf E (31, 1) i = some (i + 1, 0)) ∧
  (∀ s, s = 32 ∨ s = 33 → am_ob E (s, 0) 1 = true ∧ am_rf E (s, 0) 0 = some (s - 17, 0)) ∧
  (am_ob E (34, 0) 4 = true ∧ am_rf E (34, 0) 0 = some (30, 0) ∧ am_rf E (34, 0) 1 = some (0, 0) ∧ am_rf E (34, 0) 2 = some (31, 0) ∧ am_rf E (34, 0) 3 = some (32, 0) ∧ am_rf E (34, 0) 4 = some (33, 0) ∧ am_rf E (34, 0) 5 = some (17, 0) ∧ am_rf E (34, 0) 6 = some (34, 1) ∧ am_kd E (34, 1) = some (10, 4) ∧ ∀ i, i < 4 → am_rf E (34, 1) i = some (18 + i, 0)) ∧
  True
theorem am_ar_of {E : am_E} {r : am_R} {k n : Nat} {i : Int} (h : am_kd E r = some (k, n)) (g : 0 ≤ i ∧ i < (n : Int)) : am_ar E r k i = true := by
  unfold am_ar
  rw [h]
  simp [g.1, g.2]
theorem am_kd45 {E : am_E} : am_kd E (45, 0) = some (12, E.2.2.1) := rfl
section DEN2
variable {k pc idx : Nat} {ls : List (Option am_V)} {st : List am_V} {E : am_E} {M : am_M} {b c f t : Nat} {r r' : am_R} {z i : Int}
theorem am_d_ldc (F : am_fetch k pc = some (.ldc2_w idx, 3)) (h : am_kl k idx = some z) : am_den k (pc, ls, st, E, M) = am_den k (pc + 3, ls, am_J z :: st, E, M) :=
  am_den_go (by simp [am_stp, F, am_jp, am_ln, am_op, am_ld, am_st, am_rd, h])
theorem am_d_ldi (F : am_fetch k pc = some (.ldc idx, 2)) (h : am_ki k idx = some z) : am_den k (pc, ls, st, E, M) = am_den k (pc + 2, ls, am_I z :: st, E, M) :=
  am_den_go (by simp [am_stp, F, am_jp, am_ln, am_op, am_ld, am_st, am_rd, h, am_sw])
theorem am_d_irm {a b' : Int} (F : am_fetch k pc = some (.irem, 1)) (h : b' ≠ 0) : am_den k (pc, ls, am_I b' :: am_I a :: st, E, M) = am_den k (pc + 1, ls, am_I (a.tmod b') :: st, E, M) :=
  am_den_go (by simp [am_stp, F, am_jp, am_ln, am_op, am_d2, h, am_sw])
theorem am_d_iret (F : am_fetch k pc = some (.ireturn, 1)) (h : am_rok (am_mt k).2.2.2.2.2.1 (.inl z) = true) : am_den k (pc, ls, [am_I z], E, M) = some (.inl (some (am_I z)), E, M) := by
  have h1 : am_rt k .ireturn [am_I z] = some (some (am_I z)) := by
    unfold am_rt
    simp only []
    rw [if_pos h]
  exact am_den_ret (by simp [am_stp, F, am_jp, am_ln, am_op, am_ld, am_st, am_rd, am_wr, am_mk, am_sw, h1])
theorem am_d_max (F : am_fetch k pc = some (.invokestatic idx, 3)) (h : am_ml k idx = some (t, 6)) (hw : Nat.ble (am_wt st) 8 = true) : am_den k (pc, ls, am_I z :: am_I i :: st, E, M) = am_den k (pc + 3, ls, am_I (if i < z then z else i) :: st, E, M) := by
  have h1 : am_iv k (.invokestatic idx) (am_I z :: am_I i :: st) E = some (.inl (am_I (if i < z then z else i) :: st)) := by
    unfold am_iv
    simp only [h]
    rw [if_pos (Nat.le_of_ble_eq_true hw)]
  exact am_den_go (by simp [am_stp, F, am_jp, am_ln, am_op, am_ld, am_st, am_rd, am_wr, am_mk, am_rt, h1])
theorem am_d_min (F : am_fetch k pc = some (.invokestatic idx, 3)) (h : am_ml k idx = some (t, 7)) (hw : Nat.ble (am_wt st) 8 = true) : am_den k (pc, ls, am_I z :: am_I i :: st, E, M) = am_den k (pc + 3, ls, am_I (if z < i then z else i) :: st, E, M) := by
  have h1 : am_iv k (.invokestatic idx) (am_I z :: am_I i :: st) E = some (.inl (am_I (if z < i then z else i) :: st)) := by
    unfold am_iv
    simp only [h]
    rw [if_pos (Nat.le_of_ble_eq_true hw)]
  exact am_den_go (by simp [am_stp, F, am_jp, am_ln, am_op, am_ld, am_st, am_rd, am_wr, am_mk, am_rt, h1])
theorem am_d_obj (F : am_fetch k pc = some (.invokespecial idx, 3)) (h : am_ml k idx = some (t, 5)) (hw : Nat.ble (am_wt st) 8 = true) : am_den k (pc, ls, am_A r :: st, E, M) = am_den k (pc + 3, ls, st, E, M) := by
  have h1 : am_iv k (.invokespecial idx) (am_A r :: st) E = some (.inl st) := by
    unfold am_iv
    simp only [h]
    rw [if_pos (Nat.le_of_ble_eq_true hw)]
  exact am_den_go (by simp [am_stp, F, am_jp, am_ln, am_op, am_ld, am_st, am_rd, am_wr, am_mk, am_rt, h1])
theorem am_d_thr {x : Nat} (F : am_fetch k pc = some (.new idx, 3)) (hc : am_cl k idx = some (.inr x)) (h : am_th k pc (.new idx) [] = some x) : am_den k (pc, ls, [], E, M) = some (.inr x, am_xE E, M) :=
  am_den_ret (by simp [am_stp, F, am_jp, am_ln, am_op, am_ld, am_st, am_rd, am_wr, am_mk, am_rt, am_iv, hc, h])
theorem am_d_new (F : am_fetch k pc = some (.new idx, 3)) (hc : am_cl k idx = some (.inl c)) (hx : am_nx E c (am_fn c) = some r) : am_den k (pc, ls, st, E, M) = am_den k (pc + 3, ls, am_A r :: st, am_nE E r, am_nM M r) :=
  am_den_go (by simp [am_stp, F, am_jp, am_ln, am_op, am_ld, am_st, am_rd, am_wr, am_mk, hc, hx])
theorem am_d_na {a : ArrayType} (F : am_fetch k pc = some (.newarray a, 2)) (h0 : 0 ≤ z) (h1 : z < 100000) (ha : am_ty a < 99) (hx : am_nx E (am_ty a) z = some r) : am_den k (pc, ls, am_I z :: st, E, M) = am_den k (pc + 2, ls, am_A r :: st, am_nE E r, am_nM M r) :=
  am_den_go (by simp [am_stp, F, am_jp, am_ln, am_op, am_ld, am_st, am_rd, am_wr, am_mk, h0, h1, ha, hx, am_sw])
theorem am_d_nb (F : am_fetch k pc = some (.anewarray idx, 3)) (hc : am_cl k idx = some (.inl 3)) (h0 : 0 ≤ z) (h1 : z < 100000) (hx : am_nx E 10 z = some r) : am_den k (pc, ls, am_I z :: st, E, M) = am_den k (pc + 3, ls, am_A r :: st, am_nE E r, am_nM M r) :=
  am_den_go (by simp [am_stp, F, am_jp, am_ln, am_op, am_ld, am_st, am_rd, am_wr, am_mk, h0, h1, hc, hx])
end DEN2
