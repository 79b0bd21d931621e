/-! ===== specs: what the calls need; the actions ===== -/
section CLS1
variable {E : am_E} {M : am_M} {p q l w v : Int}
abbrev ac_hp (M : am_M) (p : Int) : Prop := 0 ≤ p ∧ p < M 0 0 7
abbrev ac_hl (M : am_M) (l : Int) : Prop := am_gt (M 0 2) 24 l ≠ -1
theorem ac_96 (hE : am_Wr E) : am_den 96 (0, [some (am_A (34, 0)), some (am_I p)], [], E, M) = if ac_hp M p then some (.inl none, E, M) else some (.inr 2, am_xE E, M) := by
  rw [am_B96_0 hE, am_s23 (hE.1 0 (by omega)), am_bd_v]
  simp only [Nat.reduceAdd]
  rw [am_B96_8]
  by_cases h : ac_hp M p
  · rw [if_pos (by rw [ne_eq, am_b_0]; exact fun z => z h), am_B96_22, if_pos h]
  · rw [if_neg (by rw [ne_eq, am_b_0]; exact fun z => z h), am_B96_11, if_neg h]
theorem ac_97 (hE : am_Wr E) : am_den 97 (0, [some (am_A (34, 0)), some (am_I p), some (am_I q)], [], E, M) = if ac_hp M p ∧ ac_hp M q then (if p ≠ q then some (.inl none, E, M) else some (.inr 0, am_xE E, M)) else some (.inr 2, am_xE E, M) := by
  rw [am_B97_0 hE, am_s23 (hE.1 0 (by omega)), am_bd_v]
  simp only [Nat.reduceAdd]
  rw [am_B97_8]
  by_cases h : ac_hp M p
  · rw [if_neg (by rw [am_b_0]; exact fun z => z h), am_B97_11 hE, am_s23 (hE.1 0 (by omega)), am_bd_v]
    simp only [Nat.reduceAdd]
    rw [am_B97_19]
    by_cases h2 : ac_hp M q
    · rw [if_pos (by rw [ne_eq, am_b_0]; exact fun z => z h2), am_B97_33, am_B97_49, am_B97_38, if_pos (show ac_hp M p ∧ ac_hp M q from ⟨h, h2⟩)]
    · rw [if_neg (by rw [ne_eq, am_b_0]; exact fun z => z h2), am_B97_22, if_neg (fun z => h2 z.2)]
  · rw [if_pos (by rw [am_b_0]; exact h), am_B97_22, if_neg (fun z => h z.1)]
theorem ac_98 (hE : am_Wr E) : am_den 98 (0, [some (am_A (34, 0)), some (am_I l)], [], E, M) = if ac_hl M l then some (.inl none, E, M) else some (.inr 2, am_xE E, M) := by
  rw [am_B98_0 hE, am_s25 (hE.1 0 (by omega)), am_bd_v]
  simp only [Nat.reduceAdd]
  rw [am_B98_8]
  by_cases h : ac_hl M l
  · rw [if_pos (by rw [ne_eq, am_b_0]; exact fun z => z h), am_B98_22, if_pos h]
  · rw [if_neg (by rw [ne_eq, am_b_0]; exact fun z => z h), am_B98_11, if_neg h]
theorem ac_99 : am_den 99 (0, [some (am_I w)], [], E, M) = if 0 ≤ w ∧ w ≤ 99 then some (.inl none, E, M) else some (.inr 0, am_xE E, M) := by
  rw [am_B99_0, ay_102, am_bd_v]
  simp only [Nat.reduceAdd]
  rw [am_B99_4]
  by_cases h : 0 ≤ w ∧ w ≤ 99
  · rw [if_pos (by rw [ne_eq, am_b_0]; exact fun z => z h), am_B99_18, if_pos h]
  · rw [if_neg (by rw [ne_eq, am_b_0]; exact fun z => z h), am_B99_7, if_neg h]
theorem ac_100 : am_den 100 (0, [some (am_I w)], [], E, M) = if 1 ≤ w ∧ w ≤ 30 then some (.inl none, E, M) else some (.inr 0, am_xE E, M) := by
  rw [am_B100_0, ay_103, am_bd_v]
  simp only [Nat.reduceAdd]
  rw [am_B100_4]
  by_cases h : 1 ≤ w ∧ w ≤ 30
  · rw [if_pos (by rw [ne_eq, am_b_0]; exact fun z => z h), am_B100_18, if_pos h]
  · rw [if_neg (by rw [ne_eq, am_b_0]; exact fun z => z h), am_B100_7, if_neg h]
theorem ac_101 : am_den 101 (0, [some (am_I w)], [], E, M) = if w = 0 ∨ w = 1 then some (.inl none, E, M) else some (.inr 2, am_xE E, M) := by
  simp only [am_B101_0, am_B101_4, am_B101_9, am_B101_20]
  repeat' split
  all_goals first | rfl | (exfalso; omega)
theorem ac_104 (hE : am_Wr E) (h : w = 0 ∨ w = 1) : am_den 104 (0, [some (am_A (34, 0)), some (am_I w)], [], E, M) = some (.inl (some (am_A (if w = 0 then 32 else 33, 0))), E, M) := by
  rw [am_B104_0]
  rcases h with h | h
  · rw [if_neg (by omega), am_B104_4 hE, am_B104_15, if_pos h]
  · rw [if_pos (by omega), am_B104_11 hE, am_B104_15, if_neg (by omega)]
theorem ac_105 (hE : am_Wr E) : am_den 105 (0, [some (am_A (34, 0))], [], E, M) = some (.inl (some (am_A (17, 0))), E, am_sb M 17 (am_yp (M 0) (M 17))) := by
  rw [am_B105_0 hE, am_s22 (hE.1 17 (by omega)) (hE.1 0 (by omega)) (by omega), am_bd_u]
  simp only [Nat.reduceAdd]
  rw [am_B105_11 hE]
theorem ac_75 (hE : am_Wr E) (hm : ak_ok M) (h7 : 0 ≤ M 0 0 7 ∧ M 0 0 7 ≤ 4) : am_den 75 (0, [some (am_A (34, 0))], [], E, M) = if M 0 0 7 < 4 then some (.inl (some (am_I (M 0 0 7))), E, am_sb (ak_kp M) 0 (am_uy (M 0) 0 7 (M 0 0 7 + 1))) else some (.inr 1, am_xE E, M) := by
  rw [am_B75_0 hE, am_s26 (hE.1 0 (by omega)), am_bd_v]
  simp only [Nat.reduceAdd]
  rw [am_B75_7]
  by_cases h : M 0 0 7 < 4
  · rw [if_pos (by rw [ne_eq, am_b_0]; exact fun z => z h), am_B75_20 hE, ak_3 hE hm, am_bd_u]
    simp only [Nat.reduceAdd]
    rw [am_B75_31 hE, am_s48 (hE.1 0 (by omega)) (by rw [ak_kp0]; omega), am_bd_v, ak_kp0]
    simp only [Nat.reduceAdd]
    rw [am_B75_38, if_pos h]
  · rw [if_neg (by rw [ne_eq, am_b_0]; exact fun z => z h), am_B75_10, if_neg h]
theorem ac_76 (hE : am_Wr E) (hm : ak_ok M) : am_den 76 (0, [some (am_A (34, 0)), some (am_I p), some (am_I w)], [], E, M) = if ac_hp M p then (if 0 ≤ w ∧ w ≤ 99 then (if M 0 0 8 < 24 then some (.inl (some (am_I (M 0 0 8))), E, am_sb (ak_kp M) 0 (am_lg (M 0) p w)) else some (.inr 1, am_xE E, M)) else some (.inr 0, am_xE E, M)) else some (.inr 2, am_xE E, M) := by
  rw [am_B76_0 hE, ac_96 hE]
  by_cases h1 : ac_hp M p
  · rw [if_pos h1, if_pos h1, am_bd_u]
    simp only [Nat.reduceAdd]
    rw [am_B76_5, ac_99]
    by_cases h2 : 0 ≤ w ∧ w ≤ 99
    · rw [if_pos h2, if_pos h2, am_bd_u]
      simp only [Nat.reduceAdd]
      rw [am_B76_9 hE, am_s27 (hE.1 0 (by omega)), am_bd_v]
      simp only [Nat.reduceAdd]
      rw [am_B76_16]
      by_cases h3 : M 0 0 8 < 24
      · rw [if_pos (by rw [ne_eq, am_b_0]; exact fun z => z h3), am_B76_29 hE, ak_3 hE hm, am_bd_u]
        simp only [Nat.reduceAdd]
        rw [am_B76_40 hE, am_s49 (hE.1 0 (by omega)), am_bd_v, ak_kp0]
        simp only [Nat.reduceAdd]
        rw [am_B76_49, if_pos h3]
      · rw [if_neg (by rw [ne_eq, am_b_0]; exact fun z => z h3), am_B76_19, if_neg h3]
    · rw [if_neg h2, if_neg h2, am_bd_x rfl]
  · rw [if_neg h1, if_neg h1, am_bd_x rfl]
theorem ac_77 (hE : am_Wr E) (hm : ak_ok M) {u : Option am_V} : am_den 77 (0, [some (am_A (34, 0)), some (am_I p), u], [], E, M) = if ac_hp M p then some (.inl (some (am_I (ay_why (M 0) p))), E, am_sb (ak_kp M) 0 (if ay_why (M 0) p = 0 then ay_burn (M 0) p else am_uy (M 0) 0 15 (am_w (M 0 0 15 + 1)))) else some (.inr 2, am_xE E, M) := by
  rw [am_B77_0 hE, ac_96 hE]
  by_cases h1 : ac_hp M p
  · rw [if_pos h1, if_pos h1, am_bd_u]
    simp only [Nat.reduceAdd]
    rw [am_B77_5 hE, ak_3 hE hm, am_bd_u]
    simp only [Nat.reduceAdd]
    rw [am_B77_16 hE, ay_39 (hE.1 0 (by omega)), am_bd_v, ak_kp0]
    simp only [Nat.reduceAdd]
    rw [am_B77_24]
    by_cases h2 : ay_why (M 0) p = 0
    · rw [if_neg (fun z => z h2), if_pos h2, am_B77_29 hE, ay_55 (hE.1 0 (by omega)), am_bd_v, ak_kp0]
      simp only [Nat.reduceAdd]
      rw [am_B77_37, am_B77_54]
    · rw [if_pos h2, if_neg h2, am_B77_41 hE, ak_kp0, am_up_0, ak_kp0, am_B77_54]
  · rw [if_neg h1, if_neg h1, am_bd_x rfl]
theorem ac_78 (hE : am_Wr E) (hm : ak_ok M) : am_den 78 (0, [some (am_A (34, 0)), some (am_I l)], [], E, M) = if ac_hl M l then some (.inl (some (am_I (am_w (ay_take (M 0) l 0 11 - M 0 0 11)))), E, am_sb (ak_kp M) 0 (ay_take (M 0) l)) else some (.inr 2, am_xE E, M) := by
  rw [am_B78_0 hE, ac_98 hE]
  by_cases h1 : ac_hl M l
  · rw [if_pos h1, if_pos h1, am_bd_u]
    simp only [Nat.reduceAdd]
    rw [am_B78_5 hE, ak_3 hE hm, am_bd_u]
    simp only [Nat.reduceAdd]
    rw [am_B78_16 hE, ay_54 (hE.1 0 (by omega)), am_bd_v, ak_kp0]
    simp only [Nat.reduceAdd]
    rw [am_B78_24]
  · rw [if_neg h1, if_neg h1, am_bd_x rfl]
theorem ac_79 (hE : am_Wr E) (hm : ak_ok M) : am_den 79 (0, [some (am_A (34, 0)), some (am_I p), some (am_I q)], [], E, M) = if ac_hp M p ∧ ac_hp M q then (if p ≠ q then some (.inl (some (am_I (am_w (ay_jp (M 0) p q 0 11 - M 0 0 11)))), E, am_sb (ak_kp M) 0 (ay_jp (M 0) p q)) else some (.inr 0, am_xE E, M)) else some (.inr 2, am_xE E, M) := by
  rw [am_B79_0 hE, ac_97 hE]
  by_cases h1 : ac_hp M p ∧ ac_hp M q
  · rw [if_pos h1, if_pos h1]
    by_cases h2 : p ≠ q
    · rw [if_pos h2, if_pos h2, am_bd_u]
      simp only [Nat.reduceAdd]
      rw [am_B79_6 hE, ak_3 hE hm, am_bd_u]
      simp only [Nat.reduceAdd]
      rw [am_B79_17 hE, ay_57 (hE.1 0 (by omega)), am_bd_v, ak_kp0]
      simp only [Nat.reduceAdd]
      rw [am_B79_26]
    · rw [if_neg h2, if_neg h2, am_bd_x rfl]
  · rw [if_neg h1, if_neg h1, am_bd_x rfl]
theorem ac_80 (hE : am_Wr E) (hm : ak_ok M) : am_den 80 (0, [some (am_A (34, 0)), some (am_I p), some (am_I w)], [], E, M) = if ac_hp M p then some (.inl (some (am_I (am_b (am_gt (M 0 7) 4 p = 1)))), E, am_sb (ak_kp M) 0 (am_pt (M 0) 7 4 p (if w = 0 then 0 else 1))) else some (.inr 2, am_xE E, M) := by
  rw [am_B80_0 hE, ac_96 hE]
  by_cases h1 : ac_hp M p
  · rw [if_pos h1, if_pos h1, am_bd_u]
    simp only [Nat.reduceAdd]
    rw [am_B80_5 hE, ak_3 hE hm, am_bd_u]
    simp only [Nat.reduceAdd]
    rw [am_B80_16 hE, ay_58 (hE.1 0 (by omega)), am_bd_v, ak_kp0]
    simp only [Nat.reduceAdd]
    rw [am_B80_25]
    by_cases h2 : am_gt (M 0 7) 4 p = 1
    · rw [if_neg (by rw [am_b_0]; exact fun z => z h2), am_B80_28, am_B80_33, am_b, if_pos h2]
    · rw [if_pos (by rw [am_b_0]; exact h2), am_B80_32, am_B80_33, am_b, if_neg h2]
  · rw [if_neg h1, if_neg h1, am_bd_x rfl]
theorem ac_81 (hE : am_Wr E) (hm : ak_ok M) (hd : ∀ i : Int, 0 ≤ i → i < 24 → 0 ≤ ay_wind (M 0) w 1 i ∧ ay_wind (M 0) w 1 i ≤ 99) (h7 : 0 ≤ M 0 0 7 ∧ M 0 0 7 ≤ 4) : am_den 81 (0, [some (am_A (34, 0)), some (am_I w)], [], E, M) = if 1 ≤ w ∧ w ≤ 30 then some (.inl (some (am_I (am_sm (am_da (ay_wind (M 0) w)) (M 0 0 7).toNat))), E, am_sb (ak_kp M) 0 (ay_wind (M 0) w)) else some (.inr 0, am_xE E, M) := by
  have e7 : ay_wind (M 0) w 0 7 = M 0 0 7 := by
    unfold ay_wind am_rg
    rw [if_neg (by omega)]
  rw [am_B81_0, ac_100]
  by_cases h1 : 1 ≤ w ∧ w ≤ 30
  · rw [if_pos h1, if_pos h1, am_bd_u]
    simp only [Nat.reduceAdd]
    rw [am_B81_4 hE, ak_3 hE hm, am_bd_u]
    simp only [Nat.reduceAdd]
    rw [am_B81_15 hE, ay_59 (hE.1 0 (by omega)), am_bd_u, ak_kp0]
    simp only [Nat.reduceAdd]
    rw [am_B81_23 hE, am_s35 (hE.1 0 (by omega)) (by rw [am_sb_at]; exact hd) (by rw [am_sb_at, e7]; exact h7), am_bd_v, am_sb_at, e7]
    simp only [Nat.reduceAdd]
    rw [am_B81_30]
  · rw [if_neg h1, if_neg h1, am_bd_x rfl]
theorem ac_82 (hE : am_Wr E) (hm : ak_ok M) (h7 : 0 ≤ M 0 0 7 ∧ M 0 0 7 ≤ 4) : am_den 82 (0, [some (am_A (34, 0)), some (am_I w)], [], E, M) = if 1 ≤ w ∧ w ≤ 30 then some (.inl (some (am_I (am_sm (am_oa (ay_rain (M 0) w)) (M 0 0 7).toNat))), E, am_sb (ak_kp M) 0 (ay_rain (M 0) w)) else some (.inr 0, am_xE E, M) := by
  have e7 : ay_rain (M 0) w 0 7 = M 0 0 7 := by
    unfold ay_rain am_rg
    rw [if_neg (by omega)]
  rw [am_B82_0, ac_100]
  by_cases h1 : 1 ≤ w ∧ w ≤ 30
  · rw [if_pos h1, if_pos h1, am_bd_u]
    simp only [Nat.reduceAdd]
    rw [am_B82_4 hE, ak_3 hE hm, am_bd_u]
    simp only [Nat.reduceAdd]
    rw [am_B82_15 hE, ay_60 (hE.1 0 (by omega)), am_bd_u, ak_kp0]
    simp only [Nat.reduceAdd]
    rw [am_B82_23 hE, am_s37 (hE.1 0 (by omega)) (by rw [am_sb_at, e7]; exact h7), am_bd_v, am_sb_at, e7]
    simp only [Nat.reduceAdd]
    rw [am_B82_30]
  · rw [if_neg h1, if_neg h1, am_bd_x rfl]
theorem ac_83 (hE : am_Wr E) (hm : ak_ok M) : am_den 83 (0, [some (am_A (34, 0)), some (am_I p)], [], E, M) = if ac_hp M p then some (.inl (some (am_I (am_w (ay_mend (M 0) p 0 11 - M 0 0 11)))), E, am_sb (ak_kp M) 0 (ay_mend (M 0) p)) else some (.inr 2, am_xE E, M) := by
  rw [am_B83_0 hE, ac_96 hE]
  by_cases h1 : ac_hp M p
  · rw [if_pos h1, if_pos h1, am_bd_u]
    simp only [Nat.reduceAdd]
    rw [am_B83_5 hE, ak_3 hE hm, am_bd_u]
    simp only [Nat.reduceAdd]
    rw [am_B83_16 hE, ay_61 (hE.1 0 (by omega)), am_bd_v, ak_kp0]
    simp only [Nat.reduceAdd]
    rw [am_B83_24]
  · rw [if_neg h1, if_neg h1, am_bd_x rfl]
theorem ac_84 (hE : am_Wr E) (hm : ak_ok M) (h7 : 0 ≤ M 0 0 7 ∧ M 0 0 7 ≤ 4) : am_den 84 (0, [some (am_A (34, 0)), some (am_I w)], [], E, M) = if 1 ≤ w ∧ w ≤ 9 then some (.inl (some (am_I (am_w (ay_nts w.toNat (M 0) 0 12 - M 0 0 12)))), E, am_sb (ak_kp M) 0 (ay_nts w.toNat (M 0))) else some (.inr 0, am_xE E, M) := by
  have no : ¬(1 ≤ w ∧ w ≤ 9) → am_den 84 (11, [some (am_A (34, 0)), some (am_I w)], [], E, M) = if 1 ≤ w ∧ w ≤ 9 then some (.inl (some (am_I (am_w (ay_nts w.toNat (M 0) 0 12 - M 0 0 12)))), E, am_sb (ak_kp M) 0 (ay_nts w.toNat (M 0))) else some (.inr 0, am_xE E, M) := by
    intro h
    rw [am_B84_11, if_neg h]
  rw [am_B84_0]
  by_cases h1 : w < 1
  · rw [if_pos h1]
    exact no (by omega)
  · rw [if_neg h1, am_B84_5]
    by_cases h2 : w ≤ 9
    · rw [if_pos h2, am_B84_22 hE, ak_3 hE hm, am_bd_u, if_pos (by omega)]
      simp only [Nat.reduceAdd]
      rw [am_B84_33 hE, ay_62 (hE.1 0 (by omega)) (by rw [ak_kp0]; exact h7) (by omega) (by omega), am_bd_v, ak_kp0]
      simp only [Nat.reduceAdd]
      rw [am_B84_41]
    · rw [if_neg h2]
      exact no (by omega)
theorem ac_85 (hE : am_Wr E) (hm : ak_ok M) {u : Option am_V} : am_den 85 (0, [some (am_A (34, 0)), some (am_I w), u], [], E, M) = if 0 ≤ w ∧ w ≤ 99 then some (.inl (some (am_I (M 0 0 16))), E, am_sb (ak_kp M) 0 (am_uy (M 0) 0 16 w)) else some (.inr 0, am_xE E, M) := by
  rw [am_B85_0, ac_99]
  by_cases h1 : 0 ≤ w ∧ w ≤ 99
  · rw [if_pos h1, if_pos h1, am_bd_u]
    simp only [Nat.reduceAdd]
    rw [am_B85_4 hE, ak_3 hE hm, am_bd_u]
    simp only [Nat.reduceAdd]
    rw [am_B85_15 hE, ak_kp0, am_up_0, ak_kp0, am_B85_31]
  · rw [if_neg h1, if_neg h1, am_bd_x rfl]
theorem ac_86 (hE : am_Wr E) (hm : ak_ok M) : am_den 86 (0, [some (am_A (34, 0))], [], E, M) = if M 31 0 2 = 0 then some (.inr 1, am_xE E, M) else some (.inl (some (am_I (M 31 0 2 - 1))), E, ak_gb M) := by
  rw [am_B86_0 hE, ak_1 hE, am_bd_v]
  simp only [Nat.reduceAdd]
  rw [am_B86_7]
  have hm2 := hm.2
  by_cases h : M 31 0 2 = 0
  · rw [if_neg (by rw [am_b_0]; exact fun z => z h), am_B86_10, if_pos h]
  · rw [if_pos (by rw [am_b_0]; exact h), am_B86_21 hE, ak_4 hE hm (by omega), am_bd_v, if_neg h]
    simp only [Nat.reduceAdd]
    rw [am_B86_32]
end CLS1
