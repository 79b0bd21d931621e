/-! ===== what a copy copies ===== -/
theorem ts_yp_s {Z Y : Nat → Int → Int} {j : Int} (a : 7 ≤ j) (b : j ≤ 16) : am_yp Z Y 0 j = Z 0 j := by
  have hj : j = 7 ∨ j = 8 ∨ j = 9 ∨ j = 10 ∨ j = 11 ∨ j = 12 ∨ j = 13 ∨ j = 14 ∨ j = 15 ∨ j = 16 := by omega
  unfold am_yp
  rcases hj with w | w | w | w | w | w | w | w | w | w <;> rw [w] <;> simp [ay_uy_x]
theorem ts_yp_e {Z Y : Nat → Int → Int} : av_eq Z (am_yp Z Y) := by
  refine ⟨fun c x h1 h2 a b => ?_, fun p a b => ⟨?_, ?_⟩⟩
  · have hc : c = 1 ∨ c = 2 ∨ c = 3 ∨ c = 4 ∨ c = 5 := by omega
    unfold am_yp
    rcases hc with w | w | w | w | w <;> rw [w] <;> simp [ay_uy_x, am_rg, a, b]
  · unfold am_yp; simp [ay_uy_x, am_rg, a, b]
  · unfold am_yp; simp [ay_uy_x, am_rg, a, b]
