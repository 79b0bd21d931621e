/-! ===== the abstract machine's values among the machine's ===== -/
def am_n32 (z : Int) : Prop := -2147483648 ≤ z ∧ z < 2147483648
def am_n64 (z : Int) : Prop := -9223372036854775808 ≤ z ∧ z < 9223372036854775808
def am_nv (v : am_V) : Prop := match v with
  | .inl z => am_n32 z
  | .inr (.inl z) => am_n64 z
  | .inr (.inr _) => True
theorem am_toI {z : Int} (h : am_n32 z) : (Int32.ofInt z).toInt = z := Int32.toInt_ofInt_of_le (by have := h.1; omega) (by have := h.2; omega)
theorem am_toJ {z : Int} (h : am_n64 z) : (Int64.ofInt z).toInt = z := Int64.toInt_ofInt_of_le (by have := h.1; omega) (by have := h.2; omega)
theorem am_nI (x : Int32) : am_n32 x.toInt := ⟨by have := x.le_toInt; omega, by have := x.toInt_lt; omega⟩
theorem am_nJ (x : Int64) : am_n64 x.toInt := ⟨by have := x.le_toInt; omega, by have := x.toInt_lt; omega⟩
theorem am_ofI (x : Int32) : Int32.ofInt x.toInt = x := Int32.ofInt_toInt x
theorem am_ofJ (x : Int64) : Int64.ofInt x.toInt = x := Int64.ofInt_toInt x
theorem am_wI (z : Int) : am_n32 (am_w z) := ⟨by unfold am_w; have := @Int.le_bmod z 4294967296 (by decide); omega, by unfold am_w; have := @Int.bmod_lt z 4294967296 (by decide); omega⟩
theorem am_wJ (z : Int) : am_n64 (am_W z) := ⟨by unfold am_W; have := @Int.le_bmod z 18446744073709551616 (by decide); omega, by unfold am_W; have := @Int.bmod_lt z 18446744073709551616 (by decide); omega⟩
theorem am_w_of (z : Int) : Int32.ofInt (am_w z) = Int32.ofInt z := by
  apply Int32.toInt_inj.mp
  rw [am_toI (am_wI z), Int32.toInt_ofInt]
  rfl
theorem am_W_of (z : Int) : Int64.ofInt (am_W z) = Int64.ofInt z := by
  apply Int64.toInt_inj.mp
  rw [am_toJ (am_wJ z), Int64.toInt_ofInt]
  rfl
theorem am_w_id {z : Int} (h : am_n32 z) : am_w z = z := by
  have e := am_w_of z
  have h2 := congrArg Int32.toInt e
  rwa [am_toI (am_wI z), am_toI h] at h2
theorem am_W_id {z : Int} (h : am_n64 z) : am_W z = z := by
  have e := am_W_of z
  have h2 := congrArg Int64.toInt e
  rwa [am_toJ (am_wJ z), am_toJ h] at h2
theorem am_div {a b : Int} (ha : am_n32 a) (hb : am_n32 b) : Int32.ofInt a / Int32.ofInt b = Int32.ofInt (am_w (a.tdiv b)) := by
  apply Int32.toInt_inj.mp
  rw [am_toI (am_wI _), Int32.toInt_div, am_toI ha, am_toI hb]
  rfl
theorem am_divJ {a b : Int} (ha : am_n64 a) (hb : am_n64 b) : Int64.ofInt a / Int64.ofInt b = Int64.ofInt (am_W (a.tdiv b)) := by
  apply Int64.toInt_inj.mp
  rw [am_toJ (am_wJ _), Int64.toInt_div, am_toJ ha, am_toJ hb]
  rfl
theorem am_rem {a b : Int} (ha : am_n32 a) (hb : am_n32 b) : Int32.ofInt a - Int32.ofInt a / Int32.ofInt b * Int32.ofInt b = Int32.ofInt (a.tmod b) := by
  rw [am_div ha hb, am_w_of, ← Int32.ofInt_mul, ← Int32.ofInt_sub]
  congr 1
  have := Int.tmod_add_mul_tdiv a b
  rw [Int.mul_comm] at this
  omega
theorem am_remJ {a b : Int} (ha : am_n64 a) (hb : am_n64 b) : Int64.ofInt a - Int64.ofInt a / Int64.ofInt b * Int64.ofInt b = Int64.ofInt (a.tmod b) := by
  rw [am_divJ ha hb, am_W_of, ← Int64.ofInt_mul, ← Int64.ofInt_sub]
  congr 1
  have := Int.tmod_add_mul_tdiv a b
  rw [Int.mul_comm] at this
  omega
theorem am_tmod_n {a b : Int} (ha : am_n32 a) (hb : am_n32 b) : am_n32 (a.tmod b) := by
  have e := am_rem ha hb
  by_cases h0 : b = 0
  · subst h0
    rw [Int.tmod_zero]
    exact ha
  · have h1 := Int.natAbs_tmod a b
    have h2 : a.natAbs % b.natAbs < b.natAbs := Nat.mod_lt _ (by omega)
    have h3 := ha.1
    have h4 := hb.1
    have h5 := hb.2
    rcases Int.le_total 0 a with h6 | h6
    · have h7 : 0 ≤ a.tmod b := Int.tmod_nonneg b h6
      constructor <;> omega
    · have h7 : a.natAbs % b.natAbs ≤ a.natAbs := Nat.mod_le _ _
      have h8 : 0 ≤ (-a).tmod b := Int.tmod_nonneg b (by omega)
      rw [Int.neg_tmod] at h8
      constructor <;> omega
theorem am_tmod_nJ {a b : Int} (ha : am_n64 a) (hb : am_n64 b) : am_n64 (a.tmod b) := by
  by_cases h0 : b = 0
  · subst h0
    rw [Int.tmod_zero]
    exact ha
  · have h1 := Int.natAbs_tmod a b
    have h2 : a.natAbs % b.natAbs < b.natAbs := Nat.mod_lt _ (by omega)
    have h3 := ha.1
    have h4 := hb.1
    have h5 := hb.2
    rcases Int.le_total 0 a with h6 | h6
    · have h7 : 0 ≤ a.tmod b := Int.tmod_nonneg b h6
      constructor <;> omega
    · have h7 : a.natAbs % b.natAbs ≤ a.natAbs := Nat.mod_le _ _
      have h8 : 0 ≤ (-a).tmod b := Int.tmod_nonneg b (by omega)
      rw [Int.neg_tmod] at h8
      constructor <;> omega
theorem am_lt {a b : Int} (ha : am_n32 a) (hb : am_n32 b) : Int32.ofInt a < Int32.ofInt b ↔ a < b := by rw [Int32.lt_iff_toInt_lt, am_toI ha, am_toI hb]
theorem am_le {a b : Int} (ha : am_n32 a) (hb : am_n32 b) : Int32.ofInt a ≤ Int32.ofInt b ↔ a ≤ b := by rw [Int32.le_iff_toInt_le, am_toI ha, am_toI hb]
theorem am_eq {a b : Int} (ha : am_n32 a) (hb : am_n32 b) : Int32.ofInt a = Int32.ofInt b ↔ a = b := by rw [← Int32.toInt_inj, am_toI ha, am_toI hb]
theorem am_ltJ {a b : Int} (ha : am_n64 a) (hb : am_n64 b) : Int64.ofInt a < Int64.ofInt b ↔ a < b := by rw [Int64.lt_iff_toInt_lt, am_toJ ha, am_toJ hb]
theorem am_eqJ {a b : Int} (ha : am_n64 a) (hb : am_n64 b) : Int64.ofInt a = Int64.ofInt b ↔ a = b := by rw [← Int64.toInt_inj, am_toJ ha, am_toJ hb]
theorem am_cmp {a b : Int} (ha : am_n64 a) (hb : am_n64 b) : lg_cmp (Int64.ofInt a) (Int64.ofInt b) = Int32.ofInt (if a < b then -1 else if a = b then 0 else 1) := by
  unfold lg_cmp
  simp only [am_ltJ hb ha, am_eqJ ha hb]
  by_cases h : a < b
  · rw [if_pos h, if_neg (by omega), if_neg (by omega)]; rfl
  · by_cases h2 : a = b
    · rw [if_neg h, if_pos h2, if_neg (by omega), if_pos h2]; rfl
    · have h3 : b < a := by omega
      simp only [h, h2, h3, if_true, if_false]; rfl
theorem am_z0 : am_n32 0 := by constructor <;> decide
theorem am_in {z : Int} {n : Nat} (h0 : 0 ≤ z) (h1 : z < (n : Int)) (hz : am_n32 z) : vp_in (Int32.ofInt z) n ∧ (Int32.ofInt z).toNatClampNeg = z.toNat := by
  have e : (Int32.ofInt z).toInt = z := am_toI hz
  have e2 : (Int32.ofInt z).toNatClampNeg = z.toNat := by rw [Int32.toNatClampNeg, e]
  refine ⟨?_, e2⟩
  rintro (h | h)
  · rw [Int32.lt_iff_toInt_lt, e, Int32.toInt_zero] at h; omega
  · rw [e2] at h; omega
def am_ad (B0 b : Nat) (r : am_R) : Nat := if r = (45, 0) then b else B0 + am_ix r
def am_cv (B0 b : Nat) (v : am_V) : Value := match v with
  | .inl z => .int (Int32.ofInt z)
  | .inr (.inl z) => .long (Int64.ofInt z)
  | .inr (.inr r) => va_rf (r.map (am_ad B0 b))
theorem am_cat_cv (B0 b : Nat) (v : am_V) : (am_cv B0 b v).category = am_cat v := by
  rcases v with z | z | (_ | r) <;> rfl
theorem am_wt_cv (B0 b : Nat) (st : List am_V) : ((st.map (am_cv B0 b)).map fun v => v.category).sum = am_wt st := by
  unfold am_wt
  rw [List.map_map]
  congr 1
  apply List.map_congr_left
  intro v _
  exact am_cat_cv B0 b v
