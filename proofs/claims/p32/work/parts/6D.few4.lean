/-! ===== fewestLifts: joins read damp at the trees' logs only ===== -/
theorem at_cg {D D' : Int → Int} : ∀ (n : Nat) (s t : at_T), (∀ x, 0 < at_ct s x + at_ct t x → D' x = D x) → at_jn D' n s t = at_jn D n s t ∧ at_co D' n s t = at_co D n s t := by
  intro n
  induction n with
  | zero =>
    intro s t h
    cases s with
    | leaf u => exact ⟨by rw [at_jn_l, at_jn_l], by rw [at_co_l, at_co_l]⟩
    | branch a l r =>
      cases t with
      | leaf u => exact ⟨by rw [at_jn_r, at_jn_r], by rw [at_co_r, at_co_r]⟩
      | branch b l' r' => exact ⟨rfl, rfl⟩
  | succ n ih =>
    intro s t h
    cases s with
    | leaf u => exact ⟨by rw [at_jn_l, at_jn_l], by rw [at_co_l, at_co_l]⟩
    | branch a l r =>
      cases t with
      | leaf u => exact ⟨by rw [at_jn_r, at_jn_r], by rw [at_co_r, at_co_r]⟩
      | branch b l' r' =>
        have ha : D' (a : Int) = D a := h a (by simp only [at_ct, if_true]; omega)
        have hb : D' (b : Int) = D b := h b (by simp only [at_ct, if_true]; omega)
        have i1 := ih r (.branch b l' r') (fun x hx => h x (by simp only [at_ct] at hx ⊢; omega))
        have i2 := ih r' (.branch a l r) (fun x hx => h x (by simp only [at_ct] at hx ⊢; omega))
        have e : at_ah D' a b ↔ at_ah D a b := by unfold at_ah; rw [ha, hb]
        by_cases q : at_ah D a b
        · have q' := e.mpr q
          exact ⟨by rw [at_jn, at_jn, if_pos q, if_pos q', i1.1], by rw [at_co, at_co, if_pos q, if_pos q', i1.2]⟩
        · have q' : ¬ at_ah D' a b := fun z => q (e.mp z)
          exact ⟨by rw [at_jn, at_jn, if_neg q, if_neg q', i2.1], by rw [at_co, at_co, if_neg q, if_neg q', i2.2]⟩
