/-! ===== fewestLifts: the levels' yards, the last level ===== -/
def fw_le (a x : Int) : Int := if a = -1 then x else if a ≤ x then a else x
section FEW2
variable {E : am_E} {M : am_M}
theorem fw_116 (hE : am_Wr E) {i : Nat} (hi : i < 4) : am_den 116 (0, [some (am_A (34, 1)), some (am_I i)], [], E, M) = some (.inl (some (am_A (18 + i, 0))), E, M) := by
  have kd := hE.2.2.2.2.1.2.2.2.2.2.2.2.2.1
  have rf := hE.2.2.2.2.1.2.2.2.2.2.2.2.2.2 i hi
  rw [am_B116_0, if_neg (by omega), am_B116_4 kd, if_neg (by omega), am_B116_10 (b91 := 18 + i) kd (by omega) (by rw [Int.toNat_natCast]; exact rf), am_B116_17]
theorem fw_116n (hE : am_Wr E) : am_den 116 (0, [some (am_A (34, 1)), some (am_I 4)], [], E, M) = some (.inl (some am_N), E, M) := by
  have kd := hE.2.2.2.2.1.2.2.2.2.2.2.2.2.1
  rw [am_B116_0, if_neg (by decide), am_B116_4 kd, if_pos (by decide)]
  exact (am_den_n (c' := (17, [some (am_A (34, 1)), some (am_I 4)], [am_N], E, M)) 1 rfl).trans (am_d_ret (show am_fetch 116 17 = some (.areturn, 1) from by decide +kernel) rfl)
theorem fw_228 (hE : am_Wr E) {u2 u3 u4 u5 u6 u7 : Option am_V} : am_den 228 (0, [some (am_A (34, 1)), some (am_I 3), u2, u3, u4, u5, u6, u7], [], E, M) = some (.inl (some (am_I 0)), E, M) := by
  have h3 : am_den 116 (0, [some (am_A (34, 1)), some (am_I 3)], [], E, M) = some (.inl (some (am_A (21, 0))), E, M) := fw_116 hE (i := 3) (by decide)
  rw [am_B228_0, h3, am_bd_v]
  simp only [Nat.reduceAdd]
  rw [am_B228_5, show am_w ((3 : Int) + 1) = 4 by decide, fw_116n hE, am_bd_v]
  simp only [Nat.reduceAdd]
  refine (am_den_n (c' := (23, [some (am_A (34, 1)), some (am_I 3), some (am_A (21, 0)), some am_N, u4, u5, u6, u7], [am_I 0], E, M)) 6 rfl).trans ?_
  exact am_d_iret (show am_fetch 228 23 = some (.ireturn, 1) from by decide +kernel) rfl
theorem fw_89 (hE : am_Wr E) {u : Option am_V} : am_den 89 (0, [some (am_A (34, 0)), u], [], E, M) = am_bd 89 28 [some (am_A (34, 0)), some (am_A (18, 0))] [] (am_den 106 (0, [some (am_A (34, 1)), some (am_I 0), none, none, none, none, none, none], [], E, am_sb M 18 (am_yp (M 0) (M 18)))) := by
  have h0 : am_den 116 (0, [some (am_A (34, 1)), some (am_I 0)], [], E, M) = some (.inl (some (am_A (18, 0))), E, M) := fw_116 hE (i := 0) (by decide)
  rw [am_B89_0 hE, h0, am_bd_v]
  simp only [Nat.reduceAdd]
  rw [am_B89_8, am_B89_15 hE (hE.1 18 (by decide)), am_s22 (hE.1 18 (by decide)) (hE.1 0 (by decide)) (by decide), am_bd_u]
  simp only [Nat.reduceAdd]
  rw [am_B89_23 hE]
end FEW2
