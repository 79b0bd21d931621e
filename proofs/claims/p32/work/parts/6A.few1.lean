/-! ===== fewestLifts: a join does not care for the order of the two ===== -/
theorem at_sy {D : Int → Int} {n : Nat} {s t : at_T} (h : ∀ x, at_ct s x + at_ct t x ≤ 1) : at_jn D (n + 1) s t = at_jn D (n + 1) t s ∧ at_co D (n + 1) s t = at_co D (n + 1) t s := by
  cases s with
  | leaf u => exact ⟨by rw [at_jn_l, at_jn_r], by rw [at_co_l, at_co_r]⟩
  | branch a l r =>
    cases t with
    | leaf u => exact ⟨by rw [at_jn_l, at_jn_r], by rw [at_co_l, at_co_r]⟩
    | branch b l' r' =>
      have hab : a ≠ b := by
        intro e
        subst e
        have := h (a : Int)
        simp only [at_ct, if_pos] at this
        omega
      by_cases q : at_ah D a b
      · have q2 : ¬ at_ah D b a := by
          unfold at_ah at q ⊢
          omega
        exact ⟨by rw [at_jn, at_jn, if_pos q, if_neg q2], by rw [at_co, at_co, if_pos q, if_neg q2]⟩
      · have q2 : at_ah D b a := by
          unfold at_ah at q ⊢
          omega
        exact ⟨by rw [at_jn, at_jn, if_neg q, if_pos q2], by rw [at_co, at_co, if_neg q, if_pos q2]⟩
