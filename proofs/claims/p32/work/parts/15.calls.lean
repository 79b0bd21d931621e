/-! ===== methods and their words ===== -/
theorem am_lkN {α : Type} {l : List (Nat × α)} {k : Nat} {v : α} (h : l.lookup k = some v) : (k, v) ∈ l := by
  induction l with
  | nil => cases h
  | cons a t ih =>
    obtain ⟨k', v'⟩ := a
    rw [List.lookup_cons] at h
    split at h
    · rename_i he
      cases h
      have : k = k' := by simpa using he
      subst this
      exact List.mem_cons_self
    · exact List.mem_cons_of_mem _ (ih h)
theorem am_fetch_i {k pc : Nat} {i : Instr} {len : Nat} (hk : k < 229) (h : am_fetch k pc = some (i, len)) : decode (am_mt k).2.2.2.1 pc = .ok (i, len) := by
  have h1 := am_lkN h
  have h2 := List.all_eq_true.mp (am_code_ok k hk) _ h1
  simpa [am_dB] using h2
def am_mtB (t : Nat) : Bool := t == 225 || (decide (lw_tbl[(am_mp t).2.1]? = some (if (am_mp t).2.2.2 = true then .static (am_mt t).2.2.1 else .instanceMethod (am_mt t).2.2.1)) &&
  ((am_mp t).2.2.2 || (am_mt t).2.2.1.name == "<init>" || decide (lw_tbl[(am_mp t).2.2.1]? = some (.selects (am_cn (am_mt t).2.1) (am_mt t).2.2.1 (am_mt t).2.2.1))) && ((am_mt t).2.2.1.cls == am_cn (am_mt t).2.1) && decide ((am_mt t).2.1 < 7) && decide ((am_mt t).2.2.2.2.1 ≤ 41) &&
  decide ((parseMethodDescriptor (am_mt t).2.2.1.desc).map (fun d => d.parameters.length) = some (if (am_mp t).2.2.2 = true then (am_mt t).2.2.2.2.2.2.2 else (am_mt t).2.2.2.2.2.2.2 - 1)) && ((am_mp t).2.2.2 || decide (1 ≤ (am_mt t).2.2.2.2.2.2.2)) && decide ((am_mt t).2.1 < 6 ∨ (am_mp t).2.2.2 = true))
theorem am_mt_ok : (List.range 229).all am_mtB = true := by decide +kernel
def am_mrB (e : (Nat × Nat) × Nat × Nat × Nat) : Bool := match e.2.2.1 with
  | 0 => decide (e.2.1 < 229) && (e.2.1 != 225) && (am_mp e.2.1).2.2.2 && decide ((am_mt e.2.1).2.2.2.2.2.2.1 = []) && decide (lw_tbl[e.2.2.2]? = some (.methodLink (am_gn e.1.1) e.1.2 (am_mt e.2.1).2.2.1))
  | 1 => decide (e.2.1 < 229) && (e.2.1 != 225) && !(am_mp e.2.1).2.2.2 && decide ((am_mt e.2.1).2.2.2.2.2.2.1 = []) && ((am_mt e.2.1).2.2.1.name != "<init>") && decide (lw_tbl[e.2.2.2]? = some (.methodLink (am_gn e.1.1) e.1.2 (am_mt e.2.1).2.2.1))
  | 2 => decide (e.2.1 < 229) && (e.2.1 != 225) && !(am_mp e.2.1).2.2.2 && decide ((am_mt e.2.1).2.2.2.2.2.2.1 = []) && ((am_mt e.2.1).2.2.1.name == "<init>") && decide ((am_mt e.2.1).2.2.2.2.2.1 = none) && decide (lw_tbl[e.2.2.2]? = some (.methodLink (am_gn e.1.1) e.1.2 (am_mt e.2.1).2.2.1))
  | 3 => decide (e.2.1 < 229) && (e.2.1 != 225) && (am_mp e.2.1).2.2.2 && decide ((am_mt e.2.1).2.2.2.2.2.2.1 = []) && decide (lw_tbl[e.2.2.2]? = some (.methodLinkNest (am_gn e.1.1) e.1.2 (am_mt e.2.1).2.2.1 RX4))
  | 4 => decide (e.2.1 < 229) && (e.2.1 != 225) && (am_mp e.2.1).2.2.2 && decide ((am_mt e.2.1).2.2.2.2.2.2.1 ≠ []) && decide (lw_tbl[e.2.2.2]? = some (.methodLink (am_gn e.1.1) e.1.2 (am_mt e.2.1).2.2.1))
  | 5 => decide (lw_tbl[e.2.2.2]? = some (.methodLink (am_gn e.1.1) e.1.2 objectInit))
  | 6 => decide (lw_tbl[e.2.2.2]? = some (.methodLink (am_gn e.1.1) e.1.2 Lib.Math.max.name))
  | 7 => decide (lw_tbl[e.2.2.2]? = some (.methodLink (am_gn e.1.1) e.1.2 Lib.Math.min.name))
  | _ => false
theorem am_mr_ok : am_mr.all am_mrB = true := by decide +kernel
theorem am_obj : Cond.instanceMethod objectInit ∈ am_Ts ∧ Cond.code objectInit ⟨#[0xb1]⟩ 1 none ∈ am_Ts := by decide +kernel
theorem am_mxw : (Cond.static Lib.Math.max.name ∈ am_Ts ∧ Cond.code Lib.Math.max.name Lib.Math.max.code 2 (some .int) ∈ am_Ts) ∧ (Cond.static Lib.Math.min.name ∈ am_Ts ∧ Cond.code Lib.Math.min.name Lib.Math.min.code 2 (some .int) ∈ am_Ts) ∧ Cond.initialized "java/lang/Math" ∈ am_Ts := by decide +kernel
theorem am_iniL : Cond.initialized RL ∈ am_Ts := by decide +kernel
def am_nms : List String := ["java/lang/RuntimeException", "java/lang/Exception"]
theorem am_exw : ∀ x, x < 3 → (∀ w ∈ vx_atS RX4 (am_ic x) (am_xn x) am_nms, w ∈ am_Ts ∧ vx_ot w = true) ∧ Cond.initialized (am_xn x) ∈ am_Ts ∧ Cond.castable (am_xn x) (am_xn x) ∈ am_Ts ∧ Bundle.fit (am_xn x) = true := by decide +kernel
theorem am_fits : ∀ n ∈ am_nms, Bundle.fit n = true := by decide +kernel
theorem am_plain : ∀ c, c < 7 → plainName (am_cn c) = true ∧ am_cn c ≠ "java/lang/invoke/MethodHandle" ∧ am_cn c ≠ "java/lang/invoke/VarHandle" := by decide +kernel
/-- what the tables say of a method -/
theorem am_mt_i {t : Nat} (h : t < 229) (h2 : t ≠ 225) : am_cw t ∈ am_Ts ∧ (if (am_mp t).2.2.2 = true then Cond.static (am_mt t).2.2.1 else Cond.instanceMethod (am_mt t).2.2.1) ∈ am_Ts ∧
    ((am_mp t).2.2.2 = true ∨ (am_mt t).2.2.1.name = "<init>" ∨ Cond.selects (am_cn (am_mt t).2.1) (am_mt t).2.2.1 (am_mt t).2.2.1 ∈ am_Ts) ∧ (am_mt t).2.2.1.cls = am_cn (am_mt t).2.1 ∧ (am_mt t).2.1 < 7 ∧ (am_mt t).2.2.2.2.1 ≤ 41 ∧
    (parseMethodDescriptor (am_mt t).2.2.1.desc).map (fun d => d.parameters.length) = some (if (am_mp t).2.2.2 = true then (am_mt t).2.2.2.2.2.2.2 else (am_mt t).2.2.2.2.2.2.2 - 1) ∧ ((am_mp t).2.2.2 = true ∨ 1 ≤ (am_mt t).2.2.2.2.2.2.2) ∧ Cond.initialized (am_cn (am_mt t).2.1) ∈ am_Ts := by
  have h1 := List.all_eq_true.mp am_mt_ok t (List.mem_range.mpr h)
  simp only [am_mtB, Bool.and_eq_true, Bool.or_eq_true, beq_iff_eq, decide_eq_true_eq] at h1
  rcases h1 with h1 | h1
  · exact absurd h1 h2
  · obtain ⟨⟨⟨⟨⟨⟨⟨a2, a3⟩, a4⟩, a5⟩, a6⟩, a7⟩, a8⟩, a9⟩ := h1
    have a1 := (am_cw_ok t h).resolve_left h2
    refine ⟨am_in_p a1 ?_, am_in_p a2 ?_, ?_, a4, a5, a6, a7, a8, ?_⟩
    · unfold am_cw
      split <;> rfl
    · split <;> rfl
    · rcases a3 with (a3 | a3) | a3
      · exact Or.inl a3
      · exact Or.inr (Or.inl a3)
      · exact Or.inr (Or.inr (am_in_p a3 rfl))
    · by_cases h6 : (am_mt t).2.1 < 6
      · exact (am_inst h6).2
      · rw [show (am_mt t).2.1 = 6 by omega]
        exact am_iniL
theorem am_ml_i {k idx t kd : Nat} (h : am_ml k idx = some (t, kd)) : ∃ p, am_mrB (((am_mt k).1, idx), t, kd, p) = true := by
  unfold am_ml at h
  split at h
  · rename_i q hq
    cases h
    exact ⟨q.2.2, List.all_eq_true.mp am_mr_ok _ (am_lk hq)⟩
  · cases h
/-! ===== an instruction's step, by its kind ===== -/
theorem am_stp_i {k : Nat} {c : am_Cf} {a : am_Ac} (h : am_stp k c = some a) : ∃ i len, am_fetch k c.1 = some (i, len) ∧
    ((∃ t st, am_jp i c.1 len c.2.2.1 = some (t, st) ∧ a = .inl (t, c.2.1, st, c.2.2.2.1, c.2.2.2.2)) ∨ (len = am_ln i ∧
    ((∃ st, am_op i c.2.2.1 = some st ∧ a = .inl (c.1 + len, c.2.1, st, c.2.2.2.1, c.2.2.2.2)) ∨
     (∃ v, am_ld i c.2.1 = some v ∧ a = .inl (c.1 + len, c.2.1, v :: c.2.2.1, c.2.2.2.1, c.2.2.2.2)) ∨
     (∃ ls st, am_st i c.2.1 c.2.2.1 = some (ls, st) ∧ a = .inl (c.1 + len, ls, st, c.2.2.2.1, c.2.2.2.2)) ∨
     (∃ st, am_rd k i c.2.2.1 c.2.2.2.1 c.2.2.2.2 = some st ∧ a = .inl (c.1 + len, c.2.1, st, c.2.2.2.1, c.2.2.2.2)) ∨
     (∃ st E M, am_wr k i c.2.2.1 c.2.2.2.1 c.2.2.2.2 = some (st, E, M) ∧ a = .inl (c.1 + len, c.2.1, st, E, M)) ∨
     (∃ st E M, am_mk k i c.2.2.1 c.2.2.2.1 c.2.2.2.2 = some (st, E, M) ∧ a = .inl (c.1 + len, c.2.1, st, E, M)) ∨
     (∃ v, am_rt k i c.2.2.1 = some v ∧ a = .inr (.inl (.inl v, c.2.2.2.1, c.2.2.2.2))) ∨
     (∃ st, am_iv k i c.2.2.1 c.2.2.2.1 = some (.inl st) ∧ a = .inl (c.1 + len, c.2.1, st, c.2.2.2.1, c.2.2.2.2)) ∨
     (∃ t, am_iv k i c.2.2.1 c.2.2.2.1 = some (.inr t) ∧ a = .inr (.inr t)) ∨
     (∃ x, am_th k c.1 i c.2.2.1 = some x ∧ a = .inr (.inl (.inr x, am_xE c.2.2.2.1, c.2.2.2.2)))))) := by
  unfold am_stp at h
  split at h
  · cases h
  · rename_i i len hf
    refine ⟨i, len, hf, ?_⟩
    split at h
    · rename_i t st hs
      exact Or.inl ⟨t, st, hs, (Option.some.inj h).symm⟩
    · split at h
      · cases h
      · rename_i hl
        refine Or.inr ⟨Decidable.not_not.mp hl, ?_⟩
        split at h
        · exact Or.inl ⟨_, by assumption, (Option.some.inj h).symm⟩
        · refine Or.inr ?_
          split at h
          · exact Or.inl ⟨_, by assumption, (Option.some.inj h).symm⟩
          · refine Or.inr ?_
            split at h
            · exact Or.inl ⟨_, _, by assumption, (Option.some.inj h).symm⟩
            · refine Or.inr ?_
              split at h
              · exact Or.inl ⟨_, by assumption, (Option.some.inj h).symm⟩
              · refine Or.inr ?_
                split at h
                · exact Or.inl ⟨_, _, _, by assumption, (Option.some.inj h).symm⟩
                · refine Or.inr ?_
                  split at h
                  · exact Or.inl ⟨_, _, _, by assumption, (Option.some.inj h).symm⟩
                  · refine Or.inr ?_
                    split at h
                    · exact Or.inl ⟨_, by assumption, (Option.some.inj h).symm⟩
                    · refine Or.inr ?_
                      split at h
                      · exact Or.inl ⟨_, by assumption, (Option.some.inj h).symm⟩
                      · exact Or.inr (Or.inl ⟨_, by assumption, (Option.some.inj h).symm⟩)
                      · refine Or.inr (Or.inr ?_)
                        split at h
                        · exact ⟨_, by assumption, (Option.some.inj h).symm⟩
                        · cases h
/-- cells and exceptions are made, not lost -/
def am_leE (E E' : am_E) : Prop := E.1 ≤ E'.1 ∧ E.2.1 ≤ E'.2.1
theorem am_wr_E {k : Nat} {i : Instr} {st st' : List am_V} {E E' : am_E} {M M' : am_M} (h : am_wr k i st E M = some (st', E', M')) : E'.1 = E.1 ∧ E'.2.1 = E.2.1 := by
  unfold am_wr at h
  repeat' split at h
  all_goals first | cases h; exact ⟨rfl, rfl⟩ | cases h
theorem am_mk_E {k : Nat} {i : Instr} {st st' : List am_V} {E E' : am_E} {M M' : am_M} (h : am_mk k i st E M = some (st', E', M')) : E'.1 = E.1 + 1 ∧ E'.2.1 = E.2.1 := by
  unfold am_mk at h
  repeat' split at h
  all_goals first | cases h; exact ⟨rfl, rfl⟩ | cases h
theorem am_run_le : ∀ (n k : Nat) (c : am_Cf) (r : am_Rs), am_run n k c = some r → am_leE c.2.2.2.1 r.2.1 := by
  intro n
  induction n with
  | zero => intro k c r h; cases h
  | succ n ih =>
    intro k c r h
    unfold am_run at h
    split at h
    · cases h
    · rename_i c' hs
      have h1 := ih k c' r h
      obtain ⟨i, len, hf, hs⟩ := am_stp_i hs
      rcases hs with ⟨t, st, -, hs⟩ | ⟨-, ⟨st, -, hs⟩ | ⟨v, -, hs⟩ | ⟨ls, st, -, hs⟩ | ⟨st, -, hs⟩ | ⟨st, E, M, hw, hs⟩ | ⟨st, E, M, hw, hs⟩ | ⟨v, -, hs⟩ | ⟨st, -, hs⟩ | ⟨t, -, hs⟩ | ⟨x, -, hs⟩⟩ <;> cases hs <;> first | exact h1 | skip
      · obtain ⟨e1, e2⟩ := am_wr_E hw
        exact ⟨by have := h1.1; dsimp only at this; omega, by have := h1.2; dsimp only at this; omega⟩
      · obtain ⟨e1, e2⟩ := am_mk_E hw
        exact ⟨by have := h1.1; dsimp only at this; omega, by have := h1.2; dsimp only at this; omega⟩
    · rename_i r' hs
      cases h
      obtain ⟨i, len, hf, hs⟩ := am_stp_i hs
      rcases hs with ⟨t, st, -, hs⟩ | ⟨-, ⟨st, -, hs⟩ | ⟨v, -, hs⟩ | ⟨ls, st, -, hs⟩ | ⟨st, -, hs⟩ | ⟨st, E, M, hw, hs⟩ | ⟨st, E, M, hw, hs⟩ | ⟨v, -, hs⟩ | ⟨st, -, hs⟩ | ⟨t, -, hs⟩ | ⟨x, -, hs⟩⟩ <;> cases hs
      · exact ⟨Nat.le_refl _, Nat.le_refl _⟩
      · exact ⟨Nat.le_refl _, Nat.le_succ _⟩
    · split at h
      · cases h
      · rename_i hr
        have h1 := ih _ _ _ hr
        have h2 := ih _ _ _ h
        exact ⟨Nat.le_trans h1.1 h2.1, Nat.le_trans h1.2 h2.2⟩
      · rename_i hr
        have h1 := ih _ _ _ hr
        split at h
        · split at h <;> cases h
          exact h1
        · split at h
          · have h2 := ih _ _ _ h
            exact ⟨Nat.le_trans h1.1 h2.1, Nat.le_trans h1.2 h2.2⟩
          · cases h
def am_qc (E : am_E) : Nat := E.1 + E.2.1
def am_qt (n : Nat) : Nat := ((am_tab.take n).map (fun t => t.2.2)).sum
def am_qs (E : am_E) : Nat := am_qt E.1 + 6 * E.2.1
theorem am_qt_s {n : Nat} {t : am_R × Nat × Nat} (h : am_tab[n]? = some t) : am_qt (n + 1) = am_qt n + t.2.2 := by
  unfold am_qt
  rw [List.take_add_one, h]
  simp
theorem am_qt_m {a c : Nat} (h : a ≤ c) : am_qt a ≤ am_qt c := by
  induction h with
  | refl => exact Nat.le_refl _
  | step _ ih =>
    rename_i m _
    refine Nat.le_trans ih ?_
    unfold am_qt
    rw [List.take_add_one]
    simp
theorem am_qc_m {E E' : am_E} (h : am_leE E E') : am_qc E ≤ am_qc E' := Nat.add_le_add h.1 h.2
theorem am_qs_m {E E' : am_E} (h : am_leE E E') : am_qs E ≤ am_qs E' := Nat.add_le_add (am_qt_m h.1) (Nat.mul_le_mul_left 6 h.2)
