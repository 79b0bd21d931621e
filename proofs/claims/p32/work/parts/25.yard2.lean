/-! ===== specs: a yard's sums ===== -/
def am_sm (f : Int → Int) : Nat → Int
  | 0 => 0
  | n + 1 => am_sm f n + f n
theorem am_sm_le {f : Int → Int} {k : Int} : ∀ {n : Nat}, (∀ i : Int, 0 ≤ i → i < n → 0 ≤ f i ∧ f i ≤ k) → 0 ≤ am_sm f n ∧ am_sm f n ≤ n * k := by
  intro n
  induction n with
  | zero => intro _; simp [am_sm]
  | succ n ih =>
    intro h
    have h1 := ih (fun i a c => h i a (by omega))
    have h2 := h n (by omega) (by omega)
    refine ⟨by simp only [am_sm]; omega, ?_⟩
    have e : ((n + 1 : Nat) : Int) * k = (n : Int) * k + k := by rw [Int.natCast_add, Int.add_mul]; simp
    simp only [am_sm]
    rw [e]
    omega
theorem am_b_le {p : Prop} [Decidable p] : 0 ≤ am_b p ∧ am_b p ≤ 1 := by unfold am_b; split <;> omega
section YARD2
variable {E : am_E} {M : am_M} {b : Nat} {p q l : Int}
theorem am_s32l (hw : am_WY E b) : ∀ (m i : Nat), i + m = 24 → am_den 32 (4, [some (am_A (b, 0)), some (am_I p), some (am_I (am_sm (fun l => am_b (M b 2 l = p)) i)), some (am_I i)], [], E, M) = some (.inl (some (am_I (am_sm (fun l => am_b (M b 2 l = p)) 24))), E, M) := by
  intro m
  induction m with
  | zero =>
    intro i h
    have e : i = 24 := by omega
    subst e
    rw [am_B32_4, if_pos (by omega), am_B32_29]
  | succ m ih =>
    intro i h
    have hb := am_sm_le (f := fun l => am_b (M b 2 l = p)) (k := 1) (n := i) (fun _ _ _ => am_b_le)
    rw [am_B32_4, if_neg (by omega), am_B32_10 hw (by omega)]
    have h2 := ih (i + 1) (by omega)
    simp only [am_sm, Int.natCast_add, Int.cast_ofNat_Int] at h2
    by_cases hp : M b 2 i = p
    · rw [if_neg (by simp [hp]), am_B32_20, am_B32_23, am_wi (by omega) (by omega), am_wi (by omega) (by omega)]
      rw [show am_b (M b 2 i = p) = 1 by simp [am_b, hp]] at h2
      exact h2
    · rw [if_pos hp, am_B32_23, am_wi (by omega) (by omega)]
      rw [show am_b (M b 2 i = p) = 0 by simp [am_b, hp], Int.add_zero] at h2
      exact h2
theorem am_s32 (hw : am_WY E b) {u v : Option am_V} : am_den 32 (0, [some (am_A (b, 0)), some (am_I p), u, v], [], E, M) = some (.inl (some (am_I (am_sm (fun l => am_b (M b 2 l = p)) 24))), E, M) := by
  rw [am_B32_0]
  exact am_s32l hw 24 0 rfl
theorem am_s34l (hw : am_WY E b) (hd : ∀ i : Int, 0 ≤ i → i < 24 → 0 ≤ M b 1 i ∧ M b 1 i ≤ 99) : ∀ (m i : Nat), i + m = 24 → am_den 34 (4, [some (am_A (b, 0)), some (am_I p), some (am_I (am_sm (fun l => if M b 2 l = p then M b 1 l else 0) i)), some (am_I i)], [], E, M) = some (.inl (some (am_I (am_sm (fun l => if M b 2 l = p then M b 1 l else 0) 24))), E, M) := by
  intro m
  induction m with
  | zero =>
    intro i h
    have e : i = 24 := by omega
    subst e
    rw [am_B34_4, if_pos (by omega), am_B34_35]
  | succ m ih =>
    intro i h
    have hb := am_sm_le (f := fun l => if M b 2 l = p then M b 1 l else 0) (k := 99) (n := i) (fun j a c => by
      have h3 := hd j a (by omega)
      show 0 ≤ (if M b 2 j = p then M b 1 j else 0) ∧ (if M b 2 j = p then M b 1 j else 0) ≤ 99
      split <;> omega)
    have h3 := hd i (by omega) (by omega)
    rw [am_B34_4, if_neg (by omega), am_B34_10 hw (by omega)]
    have h2 := ih (i + 1) (by omega)
    simp only [am_sm, Int.natCast_add, Int.cast_ofNat_Int] at h2
    by_cases hp : M b 2 i = p
    · rw [if_neg (by simp [hp]), am_B34_20 hw (by omega), am_B34_29, am_wi (by omega) (by omega), am_wi (by omega) (by omega)]
      rw [if_pos hp] at h2
      exact h2
    · rw [if_pos hp, am_B34_29, am_wi (by omega) (by omega)]
      rw [if_neg hp, Int.add_zero] at h2
      exact h2
theorem am_s34 (hw : am_WY E b) (hd : ∀ i : Int, 0 ≤ i → i < 24 → 0 ≤ M b 1 i ∧ M b 1 i ≤ 99) {u v : Option am_V} : am_den 34 (0, [some (am_A (b, 0)), some (am_I p), u, v], [], E, M) = some (.inl (some (am_I (am_sm (fun l => if M b 2 l = p then M b 1 l else 0) 24))), E, M) := by
  rw [am_B34_0]
  exact am_s34l hw hd 24 0 rfl
end YARD2
