/-! ===== what a join leaves as it was ===== -/
theorem ay_pt_ne {Y : Nat → Int → Int} {c n c' : Nat} {i v j : Int} (h : c' ≠ c ∨ j ≠ i) : am_pt Y c n i v c' j = Y c' j := by
  unfold am_pt
  split
  · exact ay_uy_ne h
  · rfl
theorem ay_pt_eq {Y : Nat → Int → Int} {c n : Nat} {i v : Int} (h : 0 ≤ i ∧ i < (n : Int)) : am_pt Y c n i v c i = v := by
  unfold am_pt
  rw [if_pos h, ay_uy_eq]
theorem ay_pt_in {Y : Nat → Int → Int} {c n : Nat} {i v : Int} (h : 0 ≤ i ∧ i < (n : Int)) : am_pt Y c n i v = am_uy Y c i v := by
  unfold am_pt
  rw [if_pos h]
theorem ay_pt_no {Y : Nat → Int → Int} {c n : Nat} {i v : Int} (h : ¬(0 ≤ i ∧ i < (n : Int))) : am_pt Y c n i v = Y := by
  unfold am_pt
  rw [if_neg h]
def ay_out (c : Nat) (j : Int) : Prop := c ≠ 3 ∧ c ≠ 4 ∧ c ≠ 5 ∧ (c ≠ 0 ∨ j ≠ 11)
theorem ay_jf_fr {Y : Nat → Int → Int} {o q t z : Int} {c : Nat} {j : Int} (h : ay_out c j) : (am_jf Y o q t z).1 c j = Y c j := by
  unfold am_jf
  dsimp only
  rw [ay_pt_ne (Or.inl h.1), ay_pt_ne (Or.inl h.2.1)]
theorem ay_jl_fr {c : Nat} {j : Int} (h : ay_out c j) : ∀ (n : Nat) (Y : Nat → Int → Int) (o q t z : Int), (am_jl n Y o q t z).1 c j = Y c j := by
  intro n
  induction n with
  | zero =>
    intro Y o q t z
    rw [am_jl]
    exact ay_jf_fr h
  | succ n ih =>
    intro Y o q t z
    rw [am_jl]
    split
    · exact ay_jf_fr h
    · rw [ih]
      unfold am_j2 am_j1
      rw [ay_pt_ne (Or.inl h.1), ay_pt_ne (Or.inl h.2.1), ay_pt_ne (Or.inl h.2.2.1), ay_uy_ne h.2.2.2]
theorem ay_rm3_fr {Y : Nat → Int → Int} {l : Int} {c : Nat} {j : Int} (h2 : c ≠ 2) (h3 : c ≠ 3) (h4 : c ≠ 4) (h5 : c ≠ 5) : am_rm3 Y l c j = Y c j := by
  unfold am_rm3
  rw [ay_pt_ne (Or.inl h5), ay_pt_ne (Or.inl h4), ay_pt_ne (Or.inl h3), ay_pt_ne (Or.inl h2)]
theorem ay_rm2_fr {Y : Nat → Int → Int} {l u k : Int} {c : Nat} {j : Int} (h6 : c ≠ 6) (h4 : c ≠ 4) (h5 : c ≠ 5) : am_rm2 Y l u k c j = Y c j := by
  unfold am_rm2
  split
  · rw [ay_pt_ne (Or.inl h6)]
  · split
    · rw [ay_pt_ne (Or.inl h4)]
    · rw [ay_pt_ne (Or.inl h5)]
theorem ay_rmv_fr {Y : Nat → Int → Int} {l : Int} {c : Nat} {j : Int} (h : ay_out c j) (h2 : c ≠ 2) (h6 : c ≠ 6) : am_rmv Y l c j = Y c j := by
  unfold am_rmv am_rm1
  rw [ay_rm3_fr h2 h.1 h.2.1 h.2.2.1, ay_rm2_fr h6 h.2.1 h.2.2.1, ay_pt_ne (Or.inl h.1), ay_jl_fr h]
theorem ay_bn0_fr {Y : Nat → Int → Int} {p : Int} {c : Nat} {j : Int} (h : c ≠ 0 ∨ (j ≠ 9 ∧ j ≠ 12 ∧ j ≠ 13)) : ay_bn0 Y p c j = Y c j := by
  unfold ay_bn0 ay_bn2
  split
  · rw [ay_uy_ne (h.elim Or.inl (fun q => Or.inr q.2.1))]
    exact ay_uy_ne (h.elim Or.inl (fun q => Or.inr q.1))
  · rw [ay_uy_ne (h.elim Or.inl (fun q => Or.inr q.2.2))]
    exact ay_uy_ne (h.elim Or.inl (fun q => Or.inr q.1))
theorem ay_out0 {j : Int} (h : j ≠ 11) : ay_out 0 j := ⟨by decide, by decide, by decide, Or.inr h⟩
theorem ay_burn7 {Y : Nat → Int → Int} {p : Int} : ay_burn Y p 0 7 = Y 0 7 := by
  unfold ay_burn
  rw [ay_rmv_fr (ay_out0 (by decide)) (by decide) (by decide), ay_bn0_fr (Or.inr ⟨by decide, by decide, by decide⟩)]
theorem ay_nt7 {Y : Nat → Int → Int} : ay_nt1 Y 0 7 = Y 0 7 := by
  unfold ay_nt1
  split
  · exact ay_uy_ne (Or.inr (by decide))
  · exact ay_burn7
section YARD15
variable {E : am_E} {M : am_M} {b : Nat} {p q l w : Int}
theorem ay_62l (hw : am_WY E b) {z : Int} : ∀ (m i : Nat) (Y : Nat → Int → Int) (u : Option am_V), 0 ≤ Y 0 7 ∧ Y 0 7 ≤ 4 → (i : Int) + m = w → w < 1000 → am_den 62 (7, [some (am_A (b, 0)), some (am_I w), some (am_I z), some (am_I i), u], [], E, am_sb M b Y) = some (.inl (some (am_I (am_w (ay_nts m Y 0 12 - z)))), E, am_sb M b (ay_nts m Y)) := by
  intro m
  induction m with
  | zero =>
    intro i Y u h7 h hw'
    rw [am_B62_7, if_pos (by omega), am_B62_50 hw, am_sb_at, ay_nts]
  | succ m ih =>
    intro i Y u h7 h hw'
    have w1 : am_w ((i : Int) + 1) = i + 1 := am_wi (by omega) (by omega)
    have h2 := fun u => ih (i + 1) (ay_nt1 Y) u (by rw [ay_nt7]; exact h7) (by omega) hw'
    rw [show ((i + 1 : Nat) : Int) = (i : Int) + 1 by omega] at h2
    rw [am_B62_7, if_neg (by omega), am_B62_12 hw, ay_63 hw (by rw [am_sb_at]; exact h7), am_bd_v, am_sb_at]
    simp only [Nat.reduceAdd]
    rw [am_B62_16, ay_nts]
    by_cases q1 : ay_dr Y (Y 0 7).toNat = -1
    · have e : ay_nt1 Y = am_uy Y 0 14 (am_w (Y 0 14 + 1)) := if_pos q1
      rw [if_neg (fun q => q q1), am_B62_24 hw, am_sb_at, am_up_sb, ← e, am_B62_34, am_B62_44, w1]
      exact h2 _
    · have e : ay_nt1 Y = ay_burn Y (ay_dr Y (Y 0 7).toNat) := if_neg q1
      rw [if_pos q1, am_B62_37 hw, ay_55 hw, am_bd_v, am_sb_at, am_sb_sb, ← e]
      simp only [Nat.reduceAdd]
      rw [am_B62_43, am_B62_44, w1]
      exact h2 _
theorem ay_62 (hw : am_WY E b) (h7 : 0 ≤ M b 0 7 ∧ M b 0 7 ≤ 4) (h0 : 0 ≤ w) (h1 : w < 1000) {u v x : Option am_V} : am_den 62 (0, [some (am_A (b, 0)), some (am_I w), u, v, x], [], E, M) = some (.inl (some (am_I (am_w (ay_nts w.toNat (M b) 0 12 - M b 0 12)))), E, am_sb M b (ay_nts w.toNat (M b))) := by
  rw [am_B62_0 hw]
  have h := ay_62l (M := M) (z := M b 0 12) hw w.toNat 0 (M b) x h7 (by omega) h1
  rw [am_sb_self] at h
  exact h
theorem ay_102 : am_den 102 (0, [some (am_I w)], [], E, M) = some (.inl (some (am_I (am_b (0 ≤ w ∧ w ≤ 99)))), E, M) := by
  simp only [am_B102_0, am_B102_4, am_B102_10, am_B102_14, am_B102_15 (Or.inl rfl), am_B102_15 (Or.inr rfl)]
  unfold am_b
  repeat' split
  all_goals first | rfl | (exfalso; omega)
theorem ay_103 : am_den 103 (0, [some (am_I w)], [], E, M) = some (.inl (some (am_I (am_b (1 ≤ w ∧ w ≤ 30)))), E, M) := by
  simp only [am_B103_0, am_B103_5, am_B103_11, am_B103_15, am_B103_16 (Or.inl rfl), am_B103_16 (Or.inr rfl)]
  unfold am_b
  repeat' split
  all_goals first | rfl | (exfalso; omega)
def ay_can (Y : Nat → Int → Int) (k a c : Int) : Int :=
  if k = 112 then am_b (Y 0 7 < 4) else if k = 108 then am_b ((0 ≤ a ∧ a < Y 0 7) ∧ (0 ≤ c ∧ c ≤ 99) ∧ Y 0 8 < 24) else if k = 100 then am_b ((0 ≤ a ∧ a < Y 0 7) ∧ ay_why Y a = 0)
  else if k = 107 then am_b (am_gt (Y 2) 24 a ≠ -1) else if k = 106 then am_b ((0 ≤ a ∧ a < Y 0 7) ∧ (0 ≤ c ∧ c < Y 0 7) ∧ a ≠ c) else if k = 99 ∨ k = 109 then am_b (0 ≤ a ∧ a < Y 0 7)
  else if k = 119 ∨ k = 114 then am_b (1 ≤ a ∧ a ≤ 30) else if k = 110 then am_b (1 ≤ a ∧ a ≤ 9) else 0
def ay_act (Y : Nat → Int → Int) (k a c : Int) : Nat → Int → Int :=
  if k = 112 then am_uy Y 0 7 (Y 0 7 + 1) else if k = 108 then am_lg Y a c else if k = 100 then ay_burn Y a else if k = 107 then ay_take Y a else if k = 106 then ay_jp Y a c
  else if k = 99 then am_pt Y 7 4 a (if c = 1 then 1 else 0) else if k = 109 then ay_mend Y a else if k = 119 then ay_wind Y a else if k = 114 then ay_rain Y a else ay_nts a.toNat Y
def ay_ob (Y : Nat → Int → Int) (k a c : Int) : Nat → Int → Int := if ay_can Y k a c = 0 then Y else ay_act Y k a c
theorem ay_65 (hw : am_WY E b) {k a c : Int} : am_den 65 (0, [some (am_A (b, 0)), some (am_I k), some (am_I a), some (am_I c)], [], E, M) = some (.inl (some (am_I (ay_can (M b) k a c))), E, M) := by
  by_cases hd : k < 99 ∨ 119 < k
  · rw [am_B65_0, am_S65_1d hd, am_B65_196]
    unfold ay_can
    repeat' split
    all_goals first | rfl | (exfalso; omega)
  · have hk : k = 99 ∨ k = 100 ∨ k = 101 ∨ k = 102 ∨ k = 103 ∨ k = 104 ∨ k = 105 ∨ k = 106 ∨ k = 107 ∨ k = 108 ∨ k = 109 ∨ k = 110 ∨ k = 111 ∨ k = 112 ∨ k = 113 ∨ k = 114 ∨ k = 115 ∨ k = 116 ∨ k = 117 ∨ k = 118 ∨ k = 119 := by omega
    rcases hk with h | h | h | h | h | h | h | h | h | h | h | h | h | h | h | h | h | h | h | h | h
    · subst h
      rw [am_B65_0, am_S65_1v99 rfl, am_B65_168 hw, am_s23 hw, am_bd_v]
      simp only [Nat.reduceAdd]
      rw [am_B65_173 am_b_z]
      rfl
    · subst h
      have e : ay_can (M b) 100 a c = am_b ((0 ≤ a ∧ a < M b 0 7) ∧ ay_why (M b) a = 0) := rfl
      simp only [am_B65_0, am_S65_1v100 rfl, e, am_B65_133 hw, am_s23 hw, am_bd_v, Nat.reduceAdd, am_B65_138, am_b_0, am_B65_141 hw, ay_39 hw, am_B65_146, am_B65_149, am_B65_153, am_B65_154 (Or.inl rfl), am_B65_154 (Or.inr rfl)]
      unfold am_b
      repeat' split
      all_goals first | rfl | (exfalso; omega)
    · subst h
      rw [am_B65_0, am_S65_1v101 rfl, am_B65_196]
      rfl
    · subst h
      rw [am_B65_0, am_S65_1v102 rfl, am_B65_196]
      rfl
    · subst h
      rw [am_B65_0, am_S65_1v103 rfl, am_B65_196]
      rfl
    · subst h
      rw [am_B65_0, am_S65_1v104 rfl, am_B65_196]
      rfl
    · subst h
      rw [am_B65_0, am_S65_1v105 rfl, am_B65_196]
      rfl
    · subst h
      rw [am_B65_0, am_S65_1v106 rfl, am_B65_161 hw, am_s24 hw, am_bd_v]
      simp only [Nat.reduceAdd]
      rw [am_B65_167 am_b_z]
      rfl
    · subst h
      rw [am_B65_0, am_S65_1v107 rfl, am_B65_155 hw, am_s25 hw, am_bd_v]
      simp only [Nat.reduceAdd]
      rw [am_B65_160 am_b_z]
      rfl
    · subst h
      have e : ay_can (M b) 108 a c = am_b ((0 ≤ a ∧ a < M b 0 7) ∧ (0 ≤ c ∧ c ≤ 99) ∧ M b 0 8 < 24) := rfl
      simp only [am_B65_0, am_S65_1v108 rfl, e, am_B65_105 hw, am_s23 hw, am_bd_v, Nat.reduceAdd, am_B65_110, am_b_0, am_B65_113, ay_102, am_B65_117, am_B65_120 hw, am_s27 hw, am_B65_124, am_B65_127, am_B65_131, am_B65_132 (Or.inl rfl), am_B65_132 (Or.inr rfl)]
      unfold am_b
      repeat' split
      all_goals first | rfl | (exfalso; omega)
    · subst h
      rw [am_B65_0, am_S65_1v109 rfl, am_B65_168 hw, am_s23 hw, am_bd_v]
      simp only [Nat.reduceAdd]
      rw [am_B65_173 am_b_z]
      rfl
    · subst h
      have e : ay_can (M b) 110 a c = am_b (1 ≤ a ∧ a ≤ 9) := rfl
      simp only [am_B65_0, am_S65_1v110 rfl, e, am_B65_179, am_B65_184, am_B65_190, am_B65_194, am_B65_195 (Or.inl rfl), am_B65_195 (Or.inr rfl)]
      unfold am_b
      repeat' split
      all_goals first | rfl | (exfalso; omega)
    · subst h
      rw [am_B65_0, am_S65_1v111 rfl, am_B65_196]
      rfl
    · subst h
      rw [am_B65_0, am_S65_1v112 rfl, am_B65_100 hw, am_s26 hw, am_bd_v]
      simp only [Nat.reduceAdd]
      rw [am_B65_104 am_b_z]
      rfl
    · subst h
      rw [am_B65_0, am_S65_1v113 rfl, am_B65_196]
      rfl
    · subst h
      rw [am_B65_0, am_S65_1v114 rfl, am_B65_174, ay_103, am_bd_v]
      simp only [Nat.reduceAdd]
      rw [am_B65_178 am_b_z]
      rfl
    · subst h
      rw [am_B65_0, am_S65_1v115 rfl, am_B65_196]
      rfl
    · subst h
      rw [am_B65_0, am_S65_1v116 rfl, am_B65_196]
      rfl
    · subst h
      rw [am_B65_0, am_S65_1v117 rfl, am_B65_196]
      rfl
    · subst h
      rw [am_B65_0, am_S65_1v118 rfl, am_B65_196]
      rfl
    · subst h
      rw [am_B65_0, am_S65_1v119 rfl, am_B65_174, ay_103, am_bd_v]
      simp only [Nat.reduceAdd]
      rw [am_B65_178 am_b_z]
      rfl
theorem ay_64 (hw : am_WY E b) (h7 : 0 ≤ M b 0 7 ∧ M b 0 7 ≤ 4) {k a c : Int} : am_den 64 (0, [some (am_A (b, 0)), some (am_I k), some (am_I a), some (am_I c)], [], E, M) = some (.inl (some (am_I (if ay_can (M b) k a c = 0 then 0 else 1))), E, am_sb M b (ay_ob (M b) k a c)) := by
  rw [am_B64_0 hw, ay_65 hw, am_bd_v]
  simp only [Nat.reduceAdd]
  rw [am_B64_7]
  unfold ay_ob
  by_cases hc : ay_can (M b) k a c = 0
  · rw [if_neg (fun q => q hc), am_B64_10, if_pos hc, if_pos hc, am_sb_self]
  · rw [if_pos hc, if_neg hc, if_neg hc, am_B64_12]
    by_cases hd : k < 99 ∨ 119 < k
    · refine absurd ?_ hc
      unfold ay_can
      repeat' split
      all_goals first | rfl | (exfalso; omega)
    · have hk : k = 99 ∨ k = 100 ∨ k = 101 ∨ k = 102 ∨ k = 103 ∨ k = 104 ∨ k = 105 ∨ k = 106 ∨ k = 107 ∨ k = 108 ∨ k = 109 ∨ k = 110 ∨ k = 111 ∨ k = 112 ∨ k = 113 ∨ k = 114 ∨ k = 115 ∨ k = 116 ∨ k = 117 ∨ k = 118 ∨ k = 119 := by omega
      rcases hk with h | h | h | h | h | h | h | h | h | h | h | h | h | h | h | h | h | h | h | h | h
      · subst h
        have e : ay_act (M b) 99 a c = am_pt (M b) 7 4 a (if c = 1 then 1 else 0) := rfl
        rw [am_S64_13v99 rfl, am_B64_158, e]
        by_cases h1 : c = 1
        · rw [if_neg (fun q => q h1), if_pos h1, am_B64_165, am_B64_170 hw, ay_58 hw, am_bd_v]
          simp only [Nat.reduceAdd]
          rw [am_B64_173, am_B64_208]
          rfl
        · rw [if_pos h1, if_neg h1, am_B64_169, am_B64_170 hw, ay_58 hw, am_bd_v]
          simp only [Nat.reduceAdd]
          rw [am_B64_173, am_B64_208]
          rfl
      · subst h
        rw [am_S64_13v100 rfl, am_B64_130 hw, ay_55 hw, am_bd_v]
        simp only [Nat.reduceAdd]
        rw [am_B64_135, am_B64_208]
        rfl
      · subst h
        exact absurd rfl hc
      · subst h
        exact absurd rfl hc
      · subst h
        exact absurd rfl hc
      · subst h
        exact absurd rfl hc
      · subst h
        exact absurd rfl hc
      · subst h
        rw [am_S64_13v106 rfl, am_B64_148 hw, ay_57 hw, am_bd_v]
        simp only [Nat.reduceAdd]
        rw [am_B64_154, am_B64_208]
        rfl
      · subst h
        rw [am_S64_13v107 rfl, am_B64_139 hw, ay_54 hw, am_bd_v]
        simp only [Nat.reduceAdd]
        rw [am_B64_144, am_B64_208]
        rfl
      · subst h
        rw [am_S64_13v108 rfl, am_B64_120 hw, am_s49 hw, am_bd_v]
        simp only [Nat.reduceAdd]
        rw [am_B64_126, am_B64_208]
        rfl
      · subst h
        rw [am_S64_13v109 rfl, am_B64_193 hw, ay_61 hw, am_bd_v]
        simp only [Nat.reduceAdd]
        rw [am_B64_198, am_B64_208]
        rfl
      · subst h
        have e : ay_can (M b) 110 a c = am_b (1 ≤ a ∧ a ≤ 9) := rfl
        have ha : 1 ≤ a ∧ a ≤ 9 := Decidable.not_not.mp (by rw [e, am_b_0] at hc; exact hc)
        rw [am_S64_13v110 rfl, am_B64_202 hw, ay_62 hw h7 (by omega) (by omega), am_bd_v]
        simp only [Nat.reduceAdd]
        rw [am_B64_207, am_B64_208]
        rfl
      · subst h
        exact absurd rfl hc
      · subst h
        rw [am_S64_13v112 rfl, am_B64_112 hw, am_s48 hw (by omega), am_bd_v]
        simp only [Nat.reduceAdd]
        rw [am_B64_116, am_B64_208]
        rfl
      · subst h
        exact absurd rfl hc
      · subst h
        rw [am_S64_13v114 rfl, am_B64_185 hw, ay_60 hw, am_bd_u]
        simp only [Nat.reduceAdd]
        rw [am_B64_190, am_B64_208]
        rfl
      · subst h
        exact absurd rfl hc
      · subst h
        exact absurd rfl hc
      · subst h
        exact absurd rfl hc
      · subst h
        exact absurd rfl hc
      · subst h
        rw [am_S64_13v119 rfl, am_B64_177 hw, ay_59 hw, am_bd_u]
        simp only [Nat.reduceAdd]
        rw [am_B64_182, am_B64_208]
        rfl
end YARD15
