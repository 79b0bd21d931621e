/-! ===== commands keep what holds of a yard ===== -/
theorem av_can {Y : Nat → Int → Int} {k a c : Int} (h : ay_can Y k a c ≠ 0) :
    (k = 112 ∧ Y 0 7 < 4) ∨ (k = 108 ∧ (0 ≤ a ∧ a < Y 0 7) ∧ (0 ≤ c ∧ c ≤ 99) ∧ Y 0 8 < 24) ∨ (k = 100 ∧ (0 ≤ a ∧ a < Y 0 7) ∧ ay_why Y a = 0) ∨ (k = 107 ∧ am_gt (Y 2) 24 a ≠ -1) ∨
    (k = 106 ∧ (0 ≤ a ∧ a < Y 0 7) ∧ (0 ≤ c ∧ c < Y 0 7) ∧ a ≠ c) ∨ (k = 99 ∧ (0 ≤ a ∧ a < Y 0 7)) ∨ (k = 109 ∧ (0 ≤ a ∧ a < Y 0 7)) ∨ (k = 119 ∧ (1 ≤ a ∧ a ≤ 30)) ∨ (k = 114 ∧ (1 ≤ a ∧ a ≤ 30)) ∨ (k = 110 ∧ (1 ≤ a ∧ a ≤ 9)) := by
  have nb : ∀ {P : Prop} [Decidable P], am_b P ≠ 0 → P := fun h => Decidable.not_not.mp (by rw [ne_eq, am_b_0] at h; exact h)
  unfold ay_can at h
  by_cases h1 : k = 112
  · rw [if_pos h1] at h; exact Or.inl ⟨h1, nb h⟩
  rw [if_neg h1] at h
  by_cases h2 : k = 108
  · rw [if_pos h2] at h; exact Or.inr (Or.inl ⟨h2, nb h⟩)
  rw [if_neg h2] at h
  by_cases h3 : k = 100
  · rw [if_pos h3] at h; exact Or.inr (Or.inr (Or.inl ⟨h3, nb h⟩))
  rw [if_neg h3] at h
  by_cases h4 : k = 107
  · rw [if_pos h4] at h; exact Or.inr (Or.inr (Or.inr (Or.inl ⟨h4, nb h⟩)))
  rw [if_neg h4] at h
  by_cases h5 : k = 106
  · rw [if_pos h5] at h; exact Or.inr (Or.inr (Or.inr (Or.inr (Or.inl ⟨h5, nb h⟩))))
  rw [if_neg h5] at h
  by_cases h6 : k = 99 ∨ k = 109
  · rw [if_pos h6] at h
    rcases h6 with h6 | h6
    · exact Or.inr (Or.inr (Or.inr (Or.inr (Or.inr (Or.inl ⟨h6, nb h⟩)))))
    · exact Or.inr (Or.inr (Or.inr (Or.inr (Or.inr (Or.inr (Or.inl ⟨h6, nb h⟩))))))
  rw [if_neg h6] at h
  by_cases h7 : k = 119 ∨ k = 114
  · rw [if_pos h7] at h
    rcases h7 with h7 | h7
    · exact Or.inr (Or.inr (Or.inr (Or.inr (Or.inr (Or.inr (Or.inr (Or.inl ⟨h7, nb h⟩)))))))
    · exact Or.inr (Or.inr (Or.inr (Or.inr (Or.inr (Or.inr (Or.inr (Or.inr (Or.inl ⟨h7, nb h⟩))))))))
  rw [if_neg h7] at h
  by_cases h8 : k = 110
  · rw [if_pos h8] at h; exact Or.inr (Or.inr (Or.inr (Or.inr (Or.inr (Or.inr (Or.inr (Or.inr (Or.inr ⟨h8, nb h⟩))))))))
  rw [if_neg h8] at h
  exact absurd rfl h
theorem av_ob {Y : Nat → Int → Int} {k a c : Int} (h : av_Y Y) : av_Y (ay_ob Y k a c) ∧ av_li Y (ay_ob Y k a c) 576 := by
  unfold ay_ob
  by_cases q : ay_can Y k a c = 0
  · rw [if_pos q]
    exact ⟨h, av_li_0 rfl⟩
  · rw [if_neg q]
    rcases av_can q with w | w | w | w | w | w | w | w | w | w
    · rw [w.1]
      exact ⟨av_pile h w.2, av_li_0 (show am_uy Y 0 7 (Y 0 7 + 1) 0 11 = Y 0 11 from ay_uy_ne (Or.inr (by decide)))⟩
    · rw [w.1]
      have := av_lg h w.2.1 w.2.2.1 w.2.2.2
      exact ⟨this.1, av_li_le this.2 (by omega)⟩
    · rw [w.1]
      have := av_burn h (av_why0 w.2.2).1
      exact ⟨this.1, av_li_le this.2 (by omega)⟩
    · rw [w.1]
      have := av_take h w.2
      exact ⟨this.1, av_li_le this.2 (by omega)⟩
    · rw [w.1]
      have := av_jpY h w.2.1 w.2.2.1 w.2.2.2
      exact ⟨this.1, av_li_le this.2 (by omega)⟩
    · rw [w.1]
      exact ⟨av_cover h w.2 (by split <;> omega), av_li_0 (show am_pt Y 7 4 a (if c = 1 then 1 else 0) 0 11 = Y 0 11 from ay_pt_ne (Or.inl (by decide)))⟩
    · rw [w.1]
      have := av_mend h w.2
      exact ⟨this.1, this.2.1⟩
    · rw [w.1]
      exact ⟨av_wind h w.2, av_li_0 (show ay_wind Y a 0 11 = Y 0 11 from ay_rg_ne (by decide))⟩
    · rw [w.1]
      exact ⟨av_rain h w.2, av_li_0 (show ay_rain Y a 0 11 = Y 0 11 from ay_rg_ne (by decide))⟩
    · rw [w.1]
      have := av_nts a.toNat h
      exact ⟨this.1, av_li_le this.2 (by omega)⟩
theorem av_do {Y : Nat → Int → Int} {g : Int} (h : av_Y Y) : av_Y (ad_do Y g).2 ∧ av_li Y (ad_do Y g).2 576 := by
  have o : ∀ (c : Prop) [Decidable c] (k a e : Int), av_Y (ad_ob Y c k a e).2 ∧ av_li Y (ad_ob Y c k a e).2 576 := by
    intro c _ k a e
    unfold ad_ob
    split
    · exact av_ob h
    · exact ⟨h, av_li_0 rfl⟩
  unfold ad_do
  repeat' split
  all_goals first | exact o _ _ _ _ | exact ⟨h, av_li_0 rfl⟩
theorem av_lb {Y Z : Nat → Int → Int} {n : Nat} {B : Int} (h : av_li Y Z n) (h0 : 0 ≤ Y 0 11) (h1 : Y 0 11 ≤ B) (hB : B + n < 2147483648) : 0 ≤ Z 0 11 ∧ Z 0 11 ≤ B + n := by
  obtain ⟨k, hk, ek⟩ := h
  rw [ek, at_lf_eq _ _ h0 (by omega)]
  omega
