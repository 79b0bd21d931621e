/-! ===== specs: a yard's sums over piles, its greatest depth ===== -/
def am_mx (f : Int → Int) : Nat → Int
  | 0 => -1
  | n + 1 => if am_mx f n < f n then f n else am_mx f n
section YARD6
variable {E : am_E} {M : am_M} {b : Nat} {p l : Int}
abbrev am_da (Y : Nat → Int → Int) (p : Int) : Int := am_sm (fun l => if Y 2 l = p then Y 1 l else 0) 24
abbrev am_oa (Y : Nat → Int → Int) (p : Int) : Int := am_sm (fun l => am_b (am_of Y p l)) 24
theorem am_da_le {Y : Nat → Int → Int} {p : Int} (hd : ∀ i : Int, 0 ≤ i → i < 24 → 0 ≤ Y 1 i ∧ Y 1 i ≤ 99) : 0 ≤ am_da Y p ∧ am_da Y p ≤ 2376 :=
  am_sm_le (f := fun l => if Y 2 l = p then Y 1 l else 0) (k := 99) (n := 24) (fun j a c => by
    have h3 := hd j a (by omega)
    show 0 ≤ (if Y 2 j = p then Y 1 j else 0) ∧ (if Y 2 j = p then Y 1 j else 0) ≤ 99
    split <;> omega)
theorem am_oa_le {Y : Nat → Int → Int} {p : Int} : 0 ≤ am_oa Y p ∧ am_oa Y p ≤ 24 :=
  am_sm_le (f := fun l => am_b (am_of Y p l)) (k := 1) (n := 24) (fun _ _ _ => am_b_le)
theorem am_s35l (hw : am_WY E b) (hd : ∀ i : Int, 0 ≤ i → i < 24 → 0 ≤ M b 1 i ∧ M b 1 i ≤ 99) (h7 : 0 ≤ M b 0 7 ∧ M b 0 7 ≤ 4) : ∀ (m i : Nat), i + m = (M b 0 7).toNat → am_den 35 (4, [some (am_A (b, 0)), some (am_I (am_sm (am_da (M b)) i)), some (am_I i)], [], E, M) = some (.inl (some (am_I (am_sm (am_da (M b)) (M b 0 7).toNat))), E, M) := by
  intro m
  induction m with
  | zero =>
    intro i h
    have e : i = (M b 0 7).toNat := by omega
    rw [am_B35_4 hw, if_pos (by omega), am_B35_26, e]
  | succ m ih =>
    intro i h
    have hb := am_sm_le (f := am_da (M b)) (k := 2376) (n := i) (fun _ _ _ => am_da_le hd)
    have hc : 0 ≤ am_sm (fun l => if M b 2 l = (i : Int) then M b 1 l else 0) 24 ∧ am_sm (fun l => if M b 2 l = (i : Int) then M b 1 l else 0) 24 ≤ 2376 := am_da_le hd
    have h2 := ih (i + 1) (by omega)
    simp only [am_sm, Int.natCast_add, Int.cast_ofNat_Int] at h2
    rw [am_B35_4 hw, if_neg (by omega), am_B35_12 hw, am_s34 hw hd, am_bd_v]
    simp only [Nat.reduceAdd]
    rw [am_B35_18, am_wi (by omega) (by omega), am_wi (by omega) (by omega)]
    exact h2
theorem am_s35 (hw : am_WY E b) (hd : ∀ i : Int, 0 ≤ i → i < 24 → 0 ≤ M b 1 i ∧ M b 1 i ≤ 99) (h7 : 0 ≤ M b 0 7 ∧ M b 0 7 ≤ 4) {u v : Option am_V} : am_den 35 (0, [some (am_A (b, 0)), u, v], [], E, M) = some (.inl (some (am_I (am_sm (am_da (M b)) (M b 0 7).toNat))), E, M) := by
  rw [am_B35_0]
  exact am_s35l hw hd h7 _ 0 (Nat.zero_add _)
theorem am_s37l (hw : am_WY E b) (h7 : 0 ≤ M b 0 7 ∧ M b 0 7 ≤ 4) : ∀ (m i : Nat), i + m = (M b 0 7).toNat → am_den 37 (4, [some (am_A (b, 0)), some (am_I (am_sm (am_oa (M b)) i)), some (am_I i)], [], E, M) = some (.inl (some (am_I (am_sm (am_oa (M b)) (M b 0 7).toNat))), E, M) := by
  intro m
  induction m with
  | zero =>
    intro i h
    have e : i = (M b 0 7).toNat := by omega
    rw [am_B37_4 hw, if_pos (by omega), am_B37_26, e]
  | succ m ih =>
    intro i h
    have hb := am_sm_le (f := am_oa (M b)) (k := 24) (n := i) (fun _ _ _ => am_oa_le)
    have hc : 0 ≤ am_sm (fun l => am_b (am_of (M b) (i : Int) l)) 24 ∧ am_sm (fun l => am_b (am_of (M b) (i : Int) l)) 24 ≤ 24 := am_oa_le
    have h2 := ih (i + 1) (by omega)
    simp only [am_sm, Int.natCast_add, Int.cast_ofNat_Int] at h2
    rw [am_B37_4 hw, if_neg (by omega), am_B37_12 hw, am_s36 hw, am_bd_v]
    simp only [Nat.reduceAdd]
    rw [am_B37_18, am_wi (by omega) (by omega), am_wi (by omega) (by omega)]
    exact h2
theorem am_s37 (hw : am_WY E b) (h7 : 0 ≤ M b 0 7 ∧ M b 0 7 ≤ 4) {u v : Option am_V} : am_den 37 (0, [some (am_A (b, 0)), u, v], [], E, M) = some (.inl (some (am_I (am_sm (am_oa (M b)) (M b 0 7).toNat))), E, M) := by
  rw [am_B37_0]
  exact am_s37l hw h7 _ 0 (Nat.zero_add _)
def am_dl (Y : Nat → Int → Int) (p l : Int) : Int := if Y 2 l = p then am_dp (am_gt (Y 3) 24) 24 (am_gt (Y 3) 24 l) else -1
theorem am_mx_ge {f : Int → Int} : ∀ {n : Nat}, -1 ≤ am_mx f n := by
  intro n
  induction n with
  | zero => simp [am_mx]
  | succ n ih => simp only [am_mx]; split <;> omega
theorem am_s38l (hw : am_WY E b) : ∀ (m i : Nat) (u : Option am_V), i + m = 24 → am_den 38 (4, [some (am_A (b, 0)), some (am_I p), some (am_I (am_mx (am_dl (M b) p) i)), some (am_I i), u], [], E, M) = some (.inl (some (am_I (am_mx (am_dl (M b) p) 24))), E, M) := by
  intro m
  induction m with
  | zero =>
    intro i u h
    have e : i = 24 := by omega
    subst e
    rw [am_B38_4, if_pos (by omega), am_B38_46]
  | succ m ih =>
    intro i u h
    have hg : (0 : Int) ≤ (i : Int) ∧ (i : Int) < ((24 : Nat) : Int) := by omega
    have h2 : ∀ u, am_den 38 (4, [some (am_A (b, 0)), some (am_I p), some (am_I (am_mx (am_dl (M b) p) (i + 1))), some (am_I ((i + 1 : Nat) : Int)), u], [], E, M) = some (.inl (some (am_I (am_mx (am_dl (M b) p) 24))), E, M) := fun u => ih (i + 1) u (by omega)
    have w1 : am_w ((i : Int) + 1) = i + 1 := am_wi (by omega) (by omega)
    have h4 := am_mx_ge (f := am_dl (M b) p) (n := i)
    have ec : ((i + 1 : Nat) : Int) = (i : Int) + 1 := by omega
    have em : am_mx (am_dl (M b) p) (i + 1) = if am_mx (am_dl (M b) p) i < am_dl (M b) p i then am_dl (M b) p i else am_mx (am_dl (M b) p) i := rfl
    simp only [em, ec] at h2
    rw [am_B38_4, if_neg (by omega), am_B38_10 hw hg]
    by_cases q1 : M b 2 i = p
    · have e : am_dl (M b) p i = am_dp (am_gt (M b 3) 24) 24 (am_gt (M b 3) 24 i) := if_pos q1
      rw [if_neg (fun q => q q1), am_B38_20 hw, am_s40 hw, am_bd_v]
      simp only [Nat.reduceAdd]
      rw [am_B38_25, ← e]
      by_cases q2 : am_mx (am_dl (M b) p) i < am_dl (M b) p i
      · rw [if_neg (by omega), am_B38_33, am_B38_39, am_B38_40, w1]
        have h3 := h2 (some (am_I (am_dl (M b) p i)))
        rw [if_pos q2] at h3
        exact h3
      · rw [if_pos (by omega), am_B38_38, am_B38_39, am_B38_40, w1]
        have h3 := h2 (some (am_I (am_dl (M b) p i)))
        rw [if_neg q2] at h3
        exact h3
    · have e : am_dl (M b) p i = -1 := if_neg q1
      have h3 := h2 u
      rw [if_neg (by omega)] at h3
      rw [if_pos q1, am_B38_40, w1]
      exact h3
theorem am_s38 (hw : am_WY E b) {u v w : Option am_V} : am_den 38 (0, [some (am_A (b, 0)), some (am_I p), u, v, w], [], E, M) = some (.inl (some (am_I (am_mx (am_dl (M b) p) 24))), E, M) := by
  rw [am_B38_0]
  exact am_s38l hw 24 0 _ rfl
end YARD6
