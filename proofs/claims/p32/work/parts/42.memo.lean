/-! ===== specs: states remembered ===== -/
theorem ak_sw {M : am_M} {b b' : Nat} {Y Y' : Nat → Int → Int} (h : b ≠ b') : am_sb (am_sb M b Y) b' Y' = am_sb (am_sb M b' Y') b Y := by
  funext c
  unfold am_sb
  by_cases h1 : c = b'
  · rw [if_pos h1, if_neg (by omega), if_pos h1]
  · rw [if_neg h1]
    by_cases h2 : c = b
    · rw [if_pos h2, if_pos h2]
    · rw [if_neg h2, if_neg h2, if_neg h1]
theorem ak_116 {E : am_E} {M : am_M} {r : am_R} {n b : Nat} {i : Int} (hk : am_kd E r = some (10, n)) (h0 : 0 ≤ i ∧ i < (n : Int)) (hr : am_rf E r i.toNat = some (b, 0)) : am_den 116 (0, [some (am_A r), some (am_I i)], [], E, M) = some (.inl (some (am_A (b, 0))), E, M) := by
  rw [am_B116_0, if_neg (by omega), am_B116_4 hk, if_neg (by omega), am_B116_10 hk h0 hr, am_B116_17]
theorem ak_1 {E : am_E} {M : am_M} (hE : am_Wr E) : am_den 1 (0, [some (am_A (31, 0))], [], E, M) = some (.inl (some (am_I (am_b (M 31 0 2 = 0)))), E, M) := by
  simp only [am_B1_0 hE, am_B1_7, am_B1_11, am_B1_12 (Or.inl rfl), am_B1_12 (Or.inr rfl)]
  unfold am_b
  repeat' split
  all_goals first | rfl | (exfalso; omega)
theorem ak_2 {E : am_E} {M : am_M} (hE : am_Wr E) : am_den 2 (0, [some (am_A (31, 0))], [], E, M) = some (.inl none, E, am_sb M 31 (am_uy (M 31) 0 2 0)) := by
  rw [am_B2_0 hE, am_up_0, am_B2_5]
def ak_t (o c : Int) : Nat := ((o + c) % 14).toNat + 1
theorem ak_t_le {o c : Int} : 1 ≤ ak_t o c ∧ ak_t o c ≤ 14 := by
  unfold ak_t
  omega
theorem ak_slot {E : am_E} {M : am_M} (hE : am_Wr E) {o c : Int} (h0 : 0 ≤ o + c) (h1 : o + c < 100) : am_den 116 (0, [some (am_A (31, 1)), some (am_I ((am_w (o + c)).tmod 14))], [], E, M) = some (.inl (some (am_A (ak_t o c, 0))), E, M) := by
  rw [am_wi (by omega) (by omega), Int.tmod_eq_emod_of_nonneg h0]
  exact ak_116 hE.2.2.1.2.2.1 (by omega) (hE.2.2.1.2.2.2 _ (by omega))
theorem ak_3l {E : am_E} {M : am_M} (hE : am_Wr E) {W : Nat → Int → Int} (ho : 0 ≤ W 0 1 ∧ W 0 1 < 14) (hc : 0 ≤ W 0 2 ∧ W 0 2 ≤ 13) {u : Option am_V} : am_den 3 (32, [some (am_A (31, 0)), some (am_A (0, 0)), u], [], E, am_sb M 31 W) = some (.inl none, E, am_sb (am_sb M (ak_t (W 0 1) (W 0 2)) (am_yp (M 0) (M (ak_t (W 0 1) (W 0 2))))) 31 (am_uy W 0 2 (W 0 2 + 1))) := by
  have ht := ak_t_le (o := W 0 1) (c := W 0 2)
  rw [am_B3_32 hE, am_sb_at, ak_slot hE (by omega) (by omega), am_bd_v]
  simp only [Nat.reduceAdd]
  rw [am_B3_51 (hE.1 _ (by omega)), am_s22 (hE.1 _ (by omega)) (hE.1 0 (by omega)) (by omega), am_bd_u]
  simp only [Nat.reduceAdd]
  rw [am_sb_ne (show (0 : Nat) ≠ 31 by decide), am_sb_ne (show ak_t (W 0 1) (W 0 2) ≠ 31 by omega), am_B3_61 hE, am_sb_ne (show (31 : Nat) ≠ ak_t (W 0 1) (W 0 2) by omega), am_sb_at, am_wi (by omega) (by omega), ak_sw (by omega), am_up_sb, am_B3_71]
def ak_o (M : am_M) : Int := if M 31 0 2 = 14 then (M 31 0 1 + 1) % 14 else M 31 0 1
def ak_c (M : am_M) : Int := if M 31 0 2 = 14 then 13 else M 31 0 2
def ak_kp (M : am_M) : am_M := am_sb (am_sb M (ak_t (ak_o M) (ak_c M)) (am_yp (M 0) (M (ak_t (ak_o M) (ak_c M))))) 31 (am_uy (am_uy (M 31) 0 1 (ak_o M)) 0 2 (ak_c M + 1))
def ak_ok (M : am_M) : Prop := (0 ≤ M 31 0 1 ∧ M 31 0 1 < 14) ∧ (0 ≤ M 31 0 2 ∧ M 31 0 2 ≤ 14)
theorem ak_uu {Y : Nat → Int → Int} {c : Nat} {i v v' : Int} : am_uy (am_uy Y c i v) c i v' = am_uy Y c i v' := by
  funext c' j
  rw [ay_uy_x, ay_uy_x, ay_uy_x]
  by_cases h : c' = c ∧ j = i
  · rw [if_pos h, if_pos h]
  · rw [if_neg h, if_neg h, if_neg h]
theorem ak_3 {E : am_E} {M : am_M} (hE : am_Wr E) (hm : ak_ok M) {u : Option am_V} : am_den 3 (0, [some (am_A (31, 0)), some (am_A (0, 0)), u], [], E, M) = some (.inl none, E, ak_kp M) := by
  obtain ⟨h1, h2⟩ := hm
  rw [am_B3_0 hE]
  by_cases q : M 31 0 2 = 14
  · have eo : ak_o M = (M 31 0 1 + 1) % 14 := if_pos q
    have ec : ak_c M = 13 := if_pos q
    have e1 : (am_w (M 31 0 1 + 1)).tmod 14 = ak_o M := by rw [am_wi (by omega) (by omega), Int.tmod_eq_emod_of_nonneg (by omega), eo]
    have e2 : am_uy (M 31) 0 1 (ak_o M) 0 2 = 14 := by rw [ay_uy_ne (Or.inr (by decide)), q]
    have e3 : am_w ((14 : Int) - 1) = ak_c M := by rw [ec]; rfl
    rw [if_neg (fun z => z q), am_B3_9 hE, am_up_0, e1, am_B3_22 hE, am_up_sb, am_sb_at, e2, e3]
    rw [ak_3l hE (by rw [ay_uy_ne (Or.inr (by decide)), ay_uy_eq, eo]; omega) (by rw [ay_uy_eq, ec]; omega)]
    rw [ay_uy_ne (Or.inr (by decide)), ay_uy_eq, ay_uy_eq, ak_uu]
    rfl
  · have eo : ak_o M = M 31 0 1 := if_neg q
    have ec : ak_c M = M 31 0 2 := if_neg q
    have h := ak_3l (M := M) (W := M 31) hE h1 (by omega) (u := u)
    rw [am_sb_self] at h
    rw [if_pos q, h]
    unfold ak_kp
    rw [eo, ec, ay_uy_self]
def ak_gb (M : am_M) : am_M := am_sb (am_sb M 31 (am_uy (M 31) 0 2 (M 31 0 2 - 1))) 0 (am_yp (M (ak_t (M 31 0 1) (M 31 0 2 - 1))) (M 0))
theorem ak_4 {E : am_E} {M : am_M} (hE : am_Wr E) (hm : ak_ok M) (hc : 1 ≤ M 31 0 2) {u : Option am_V} : am_den 4 (0, [some (am_A (31, 0)), some (am_A (0, 0)), u], [], E, M) = some (.inl (some (am_I (M 31 0 2 - 1))), E, ak_gb M) := by
  obtain ⟨h1, h2⟩ := hm
  have ht := ak_t_le (o := M 31 0 1) (c := M 31 0 2 - 1)
  have e1 : am_uy (M 31) 0 2 (M 31 0 2 - 1) 0 1 = M 31 0 1 := ay_uy_ne (Or.inr (by decide))
  rw [am_B4_0 hE, am_up_0, am_wi (by omega) (by omega), am_B4_10 hE, am_sb_at, e1, ay_uy_eq, ak_slot hE (by omega) (by omega), am_bd_v]
  simp only [Nat.reduceAdd]
  rw [am_B4_29 (hE.1 0 (by omega)), am_s22 (hE.1 0 (by omega)) (hE.1 _ (by omega)) (by omega), am_bd_u]
  simp only [Nat.reduceAdd]
  rw [am_sb_ne (show (0 : Nat) ≠ 31 by decide), am_sb_ne (show ak_t (M 31 0 1) (M 31 0 2 - 1) ≠ 31 by omega), am_B4_39 hE, am_sb_ne (show (31 : Nat) ≠ 0 by decide), am_sb_at, ay_uy_eq]
  rfl
theorem ak_kp0 {M : am_M} : ak_kp M 0 = M 0 := by
  have ht := ak_t_le (o := ak_o M) (c := ak_c M)
  unfold ak_kp
  rw [am_sb_ne (by decide), am_sb_ne (by omega)]
