/-! ===== the reference: rows ===== -/
def ar_u (f : Int → Int) (j v : Int) : Int → Int := fun i => if i = j then v else f i
def ar_s (M : am_M) (d : Nat) (f : Int → Int) : am_M := fun b c => if b = d ∧ c = 0 then f else M b c
theorem ar_s_at {M : am_M} {d : Nat} {f : Int → Int} : ar_s M d f d 0 = f := if_pos ⟨rfl, rfl⟩
theorem ar_s_ne {M : am_M} {d b c : Nat} {f : Int → Int} (h : b ≠ d) : ar_s M d f b c = M b c := if_neg (fun q => h q.1)
theorem ar_s_nb {M : am_M} {d b : Nat} {f : Int → Int} (h : b ≠ d) : ar_s M d f b = M b := funext (fun _ => ar_s_ne h)
theorem ar_s_s {M : am_M} {d : Nat} {f g : Int → Int} : ar_s (ar_s M d f) d g = ar_s M d g := by
  funext b c
  unfold ar_s
  by_cases h : b = d ∧ c = 0
  · rw [if_pos h, if_pos h]
  · rw [if_neg h, if_neg h, if_neg h]
theorem ar_s_self {M : am_M} {d : Nat} : ar_s M d (M d 0) = M := by
  funext b c
  unfold ar_s
  by_cases h : b = d ∧ c = 0
  · rw [if_pos h, h.1, h.2]
  · rw [if_neg h]
theorem ar_up {M : am_M} {d : Nat} {f : Int → Int} {j v : Int} : am_up (ar_s M d f) (d, 0) j v = ar_s M d (ar_u f j v) := by
  funext b c
  unfold am_up am_sb am_uy ar_s ar_u
  by_cases h : b = d
  · subst h
    by_cases h2 : c = 0
    · subst h2
      funext i
      simp
    · funext i
      simp [h2]
  · funext i
    simp [h]
theorem ar_up0 {M : am_M} {d : Nat} {j v : Int} : am_up M (d, 0) j v = ar_s M d (ar_u (M d 0) j v) := by
  have h := ar_up (M := M) (d := d) (f := M d 0) (j := j) (v := v)
  rw [ar_s_self] at h
  exact h
theorem ar_u_eq {f : Int → Int} {j v : Int} : ar_u f j v j = v := if_pos rfl
theorem ar_u_ne {f : Int → Int} {j v i : Int} (h : i ≠ j) : ar_u f j v i = f i := if_neg h
theorem ar_u_self {f : Int → Int} {j : Int} : ar_u f j (f j) = f := by
  funext i
  unfold ar_u
  by_cases h : i = j
  · rw [if_pos h, h]
  · rw [if_neg h]
def ar_rg (f : Int → Int) (i n : Int) (g : Int → Int) : Int → Int := fun j => if i ≤ j ∧ j < n then g j else f j
theorem ar_rg_nil {f g : Int → Int} {i n : Int} (h : n ≤ i) : ar_rg f i n g = f := by
  funext j
  unfold ar_rg
  rw [if_neg (by omega)]
theorem ar_rg_up {f g : Int → Int} {i n v : Int} (h : i < n) (hv : v = g i) : ar_rg (ar_u f i v) (i + 1) n g = ar_rg f i n g := by
  funext j
  unfold ar_rg ar_u
  by_cases hj : j = i
  · subst hj
    rw [if_neg (by omega), if_pos rfl, if_pos (by omega), hv]
  · by_cases h2 : i ≤ j ∧ j < n
    · rw [if_pos (by omega), if_pos h2]
    · rw [if_neg (by omega), if_neg hj, if_neg h2]
section REF1
variable {E : am_E} {M : am_M} {d : Nat} {p q l m w v : Int}
theorem ar_119 (hE : am_Wr E) : am_den 119 (0, [some (am_A (35, 0)), some (am_I v)], [], E, M) = some (.inl (some (am_I (am_b (0 < v)))), E, am_up M (35, 0) 0 v) := by
  simp only [am_B119_0 hE, am_B119_5, am_B119_9, am_B119_13, am_B119_14 (Or.inl rfl), am_B119_14 (Or.inr rfl)]
  unfold am_b
  repeat' split
  all_goals first | rfl | (exfalso; omega)
theorem ar_cmp0 {x y : Int} : ((if x < y then (-1 : Int) else if x = y then 0 else 1) < 0) = (x < y) := by
  apply propext
  repeat' split
  all_goals omega
theorem ar_cmp1 {x y : Int} : (0 < (if x < y then (-1 : Int) else if x = y then 0 else 1)) = (y < x) := by
  apply propext
  repeat' split
  all_goals omega
theorem ar_120 {u1 u2 u3 : Option am_V} : am_den 120 (0, [some (am_J v), u1, some (am_J l), u2, some (am_J w), u3], [], E, M) = some (.inl (some (am_I (am_b (l ≤ v ∧ v ≤ w)))), E, M) := by
  simp only [am_B120_0, am_B120_6, am_B120_13, am_B120_17, am_B120_18 (Or.inl rfl), am_B120_18 (Or.inr rfl), ar_cmp0, ar_cmp1]
  unfold am_b
  repeat' split
  all_goals first | rfl | (exfalso; omega)
theorem ar_123 (hk : am_kd E (d, 0) = some (6, 138)) (hl : 0 ≤ l ∧ l < 24) (hw : 0 ≤ w ∧ w < 5) : am_den 123 (0, [some (am_A (d, 0)), some (am_I l), some (am_I w)], [], E, M) = some (.inl (some (am_I (M d 0 (18 + 5 * l + w)))), E, M) := by
  have e : am_w (am_w (18 + am_w (5 * l)) + w) = 18 + 5 * l + w := by
    rw [am_wi (z := 5 * l) (by omega) (by omega), am_wi (z := 18 + 5 * l) (by omega) (by omega), am_wi (by omega) (by omega)]
  rw [am_B123_0 hk (by rw [e]; omega), e]
theorem ar_124 (hk : am_kd E (d, 0) = some (6, 138)) (hl : 0 ≤ l ∧ l < 24) (hw : 0 ≤ w ∧ w < 5) : am_den 124 (0, [some (am_A (d, 0)), some (am_I l), some (am_I w), some (am_I v)], [], E, M) = some (.inl none, E, ar_s M d (ar_u (M d 0) (18 + 5 * l + w) v)) := by
  have e : am_w (am_w (18 + am_w (5 * l)) + w) = 18 + 5 * l + w := by
    rw [am_wi (z := 5 * l) (by omega) (by omega), am_wi (z := 18 + 5 * l) (by omega) (by omega), am_wi (by omega) (by omega)]
  rw [am_B124_0 hk (by rw [e]; omega), e, am_B124_11, ar_up0]
theorem ar_125 (hk : am_kd E (d, 0) = some (6, 138)) (hp : 0 ≤ p ∧ p < 4) : am_den 125 (0, [some (am_A (d, 0)), some (am_I p)], [], E, M) = some (.inl (some (am_I (M d 0 (10 + 2 * p)))), E, M) := by
  have e : am_w (10 + am_w (2 * p)) = 10 + 2 * p := by
    rw [am_wi (z := 2 * p) (by omega) (by omega), am_wi (by omega) (by omega)]
  rw [am_B125_0 hk (by rw [e]; omega), e]
theorem ar_126 (hk : am_kd E (d, 0) = some (6, 138)) (hp : 0 ≤ p ∧ p < 4) : am_den 126 (0, [some (am_A (d, 0)), some (am_I p)], [], E, M) = some (.inl (some (am_I (am_b (M d 0 (11 + 2 * p) = 1)))), E, M) := by
  have e : am_w (am_w (10 + am_w (2 * p)) + 1) = 11 + 2 * p := by
    rw [am_wi (z := 2 * p) (by omega) (by omega), am_wi (z := 10 + 2 * p) (by omega) (by omega), am_wi (by omega) (by omega)]
    omega
  rw [am_B126_0 hk (by rw [e]; omega), e]
  by_cases h : M d 0 (11 + 2 * p) = 1
  · rw [if_neg (fun z => z h), am_B126_14, am_B126_19 (Or.inr rfl), am_b, if_pos h]
  · rw [if_pos h, am_B126_18, am_B126_19 (Or.inl rfl), am_b, if_neg h]
theorem ar_127 (hk : am_kd E (d, 0) = some (6, 138)) (h0 : 0 ≤ M d 0 0 ∧ M d 0 0 ≤ 100) : am_den 127 (0, [some (am_A (d, 0)), some (am_I p)], [], E, M) = some (.inl (some (am_I (am_b (0 ≤ p ∧ p < M d 0 0)))), E, M) := by
  have e : am_b (0 ≤ p ∧ p ≤ M d 0 0 - 1) = am_b (0 ≤ p ∧ p < M d 0 0) := by
    unfold am_b
    repeat' split
    all_goals first | rfl | (exfalso; omega)
  rw [am_B127_0 hk (by omega), am_wi (z := M d 0 0 - 1) (by omega) (by omega), ar_120, am_bd_v, e]
  simp only [Nat.reduceAdd]
  rw [am_B127_12 am_b_z]
theorem ar_128 (hk : am_kd E (d, 0) = some (6, 138)) (h0 : 0 ≤ M d 0 1 ∧ M d 0 1 ≤ 24) : am_den 128 (0, [some (am_A (d, 0)), some (am_I l)], [], E, M) = some (.inl (some (am_I (am_b ((0 ≤ l ∧ l < M d 0 1) ∧ M d 0 (18 + 5 * l + 1) ≠ -1)))), E, M) := by
  rw [am_B128_0 hk (by omega), am_wi (z := M d 0 1 - 1) (by omega) (by omega), ar_120, am_bd_v]
  simp only [Nat.reduceAdd]
  rw [am_B128_12]
  by_cases h : 0 ≤ l ∧ l < M d 0 1
  · rw [if_neg (by rw [am_b_0]; omega), am_B128_15, ar_123 hk (by omega) (by omega), am_bd_v]
    simp only [Nat.reduceAdd]
    rw [am_B128_21]
    by_cases h2 : M d 0 (18 + 5 * l + 1) = -1
    · rw [if_pos h2, am_B128_29, am_B128_30 (Or.inl rfl), am_b, if_neg (fun z => z.2 h2)]
    · rw [if_neg h2, am_B128_25, am_B128_30 (Or.inr rfl), am_b, if_pos ⟨h, h2⟩]
  · rw [if_pos (by rw [am_b_0]; omega), am_B128_29, am_B128_30 (Or.inl rfl), am_b, if_neg (fun z => h z.1)]
abbrev ar_ah (f : Int → Int) (a c : Int) : Prop := f (18 + 5 * a + 0) < f (18 + 5 * c + 0) ∨ (f (18 + 5 * a + 0) = f (18 + 5 * c + 0) ∧ a < c)
theorem ar_129 (hk : am_kd E (d, 0) = some (6, 138)) (hl : 0 ≤ l ∧ l < 24) (hm : 0 ≤ m ∧ m < 24) (d1 : 0 ≤ M d 0 (18 + 5 * l + 0) ∧ M d 0 (18 + 5 * l + 0) ≤ 99) (d2 : 0 ≤ M d 0 (18 + 5 * m + 0) ∧ M d 0 (18 + 5 * m + 0) ≤ 99) {u : Option am_V} : am_den 129 (0, [some (am_A (d, 0)), some (am_I l), some (am_I m), u], [], E, M) = some (.inl (some (am_I (am_b (ar_ah (M d 0) l m)))), E, M) := by
  simp only [am_B129_0, ar_123 hk hl (show 0 ≤ (0 : Int) ∧ (0 : Int) < 5 by omega), ar_123 hk hm (show 0 ≤ (0 : Int) ∧ (0 : Int) < 5 by omega), am_bd_v, Nat.reduceAdd, am_B129_6, am_B129_12, am_wi (z := M d 0 (18 + 5 * l + 0) - M d 0 (18 + 5 * m + 0)) (by omega) (by omega), am_B129_18, am_B129_22, am_B129_27, am_B129_31, am_B129_32 (Or.inl rfl), am_B129_32 (Or.inr rfl)]
  unfold am_b ar_ah
  repeat' split
  all_goals first | rfl | (exfalso; omega)
theorem ar_133 (hk : am_kd E (d, 0) = some (6, 138)) (hl : 0 ≤ l ∧ l < 24) : am_den 133 (0, [some (am_A (d, 0)), some (am_I l), some (am_I p)], [], E, M) = some (.inl (some (am_I (am_b (M d 0 (18 + 5 * l + 1) = p)))), E, M) := by
  simp only [am_B133_0, ar_123 hk hl (show 0 ≤ (1 : Int) ∧ (1 : Int) < 5 by omega), am_bd_v, Nat.reduceAdd, am_B133_6, am_B133_10, am_B133_14, am_B133_15 (Or.inl rfl), am_B133_15 (Or.inr rfl)]
  unfold am_b
  repeat' split
  all_goals first | rfl | (exfalso; omega)
end REF1
