/-! ===== specs: what there is ===== -/
abbrev ac_dm (M : am_M) (b : Nat) : Prop := ∀ i : Int, 0 ≤ i → i < 24 → 0 ≤ M b 1 i ∧ M b 1 i ≤ 99
def ac_ab (Y : Nat → Int → Int) (w : Int) : Int := if w = 0 then Y 0 7 else if w = 1 then Y 0 8 else if w = 2 then am_w (am_w (Y 0 8 - Y 0 9) - Y 0 10) else if w = 3 then Y 0 9 else if w = 4 then Y 0 10 else if w = 5 then Y 0 11 else if w = 6 then Y 0 12 else if w = 7 then Y 0 13 else if w = 8 then Y 0 14 else if w = 9 then Y 0 15 else if w = 10 then am_sm (am_da Y) (Y 0 7).toNat else Y 0 16
def ac_po (Y : Nat → Int → Int) (p w : Int) : Int := if w = 0 then am_sm (fun l => am_b (Y 2 l = p)) 24 else if w = 1 then am_gt (Y 6) 4 p else if w = 2 then am_mx (am_dl Y p) 24 else if w = 3 then am_b (am_gt (Y 7) 4 p = 1) else if w = 4 then am_oa Y p else if w = 5 then am_da Y p else ay_why Y p
def ac_lo (Y : Nat → Int → Int) (l w : Int) : Int := if w = 0 then am_gt (Y 1) 24 l else if w = 1 then am_gt (Y 2) 24 l else if w = 2 then ay_dep Y l else if w = 3 then am_gt (Y 3) 24 l else if w = 4 then am_gt (Y 4) 24 l else if w = 5 then am_gt (Y 5) 24 l else am_sm (fun x => am_b (am_un Y l x)) 24
section CLS2
variable {E : am_E} {M : am_M} {p q l w v : Int}
theorem ac_71 (hE : am_Wr E) (hd : ac_dm M 0) (h7 : 0 ≤ M 0 0 7 ∧ M 0 0 7 ≤ 4) : am_den 71 (0, [some (am_A (34, 0)), some (am_I w)], [], E, M) = if 0 ≤ w ∧ w ≤ 11 then some (.inl (some (am_I (ac_ab (M 0) w))), E, M) else some (.inr 0, am_xE E, M) := by
  rw [am_B71_0]
  by_cases hw : 0 ≤ w ∧ w ≤ 11
  · rw [if_pos hw]
    have hk : w = 0 ∨ w = 1 ∨ w = 2 ∨ w = 3 ∨ w = 4 ∨ w = 5 ∨ w = 6 ∨ w = 7 ∨ w = 8 ∨ w = 9 ∨ w = 10 ∨ w = 11 := by omega
    rcases hk with h | h | h | h | h | h | h | h | h | h | h | h
    · rw [am_S71_1v0 h, h]
      rw [am_B71_64 hE]
      rfl
    · rw [am_S71_1v1 h, h]
      rw [am_B71_72 hE]
      rfl
    · rw [am_S71_1v2 h, h]
      rw [am_B71_80 hE, am_B33_0 (hE.1 0 (by omega)), am_bd_v]
      simp only [Nat.reduceAdd]
      rw [am_B71_87]
      rfl
    · rw [am_S71_1v3 h, h]
      rw [am_B71_88 hE]
      rfl
    · rw [am_S71_1v4 h, h]
      rw [am_B71_96 hE]
      rfl
    · rw [am_S71_1v5 h, h]
      rw [am_B71_104 hE]
      rfl
    · rw [am_S71_1v6 h, h]
      rw [am_B71_112 hE]
      rfl
    · rw [am_S71_1v7 h, h]
      rw [am_B71_120 hE]
      rfl
    · rw [am_S71_1v8 h, h]
      rw [am_B71_128 hE]
      rfl
    · rw [am_S71_1v9 h, h]
      rw [am_B71_136 hE]
      rfl
    · rw [am_S71_1v10 h, h]
      rw [am_B71_144 hE, am_s35 (hE.1 0 (by omega)) hd h7, am_bd_v]
      simp only [Nat.reduceAdd]
      rw [am_B71_151]
      rfl
    · rw [am_S71_1v11 h, h]
      rw [am_B71_152 hE]
      rfl
  · rw [am_S71_1d (by omega), am_B71_160, if_neg hw]
theorem ac_72 (hE : am_Wr E) (hd : ac_dm M 0) : am_den 72 (0, [some (am_A (34, 0)), some (am_I p), some (am_I w)], [], E, M) = if ac_hp M p then (if 0 ≤ w ∧ w ≤ 6 then some (.inl (some (am_I (ac_po (M 0) p w))), E, M) else some (.inr 0, am_xE E, M)) else some (.inr 2, am_xE E, M) := by
  have hW := hE.1 0 (by omega)
  rw [am_B72_0 hE, ac_96 hE]
  by_cases h1 : ac_hp M p
  · rw [if_pos h1, if_pos h1, am_bd_u]
    simp only [Nat.reduceAdd]
    rw [am_B72_5]
    by_cases hw : 0 ≤ w ∧ w ≤ 6
    · rw [if_pos hw]
      have hk : w = 0 ∨ w = 1 ∨ w = 2 ∨ w = 3 ∨ w = 4 ∨ w = 5 ∨ w = 6 := by omega
      rcases hk with h | h | h | h | h | h | h
      · rw [am_S72_6v0 h, h]
        rw [am_B72_48 hE, am_s32 hW, am_bd_v]
        simp only [Nat.reduceAdd]
        rw [am_B72_56]
        rfl
      · rw [am_S72_6v1 h, h]
        rw [am_B72_57 hE, am_s28 hW, am_bd_v]
        simp only [Nat.reduceAdd]
        rw [am_B72_65]
        rfl
      · rw [am_S72_6v2 h, h]
        rw [am_B72_66 hE, am_s38 hW, am_bd_v]
        simp only [Nat.reduceAdd]
        rw [am_B72_74]
        rfl
      · rw [am_S72_6v3 h, h]
        have e : ac_po (M 0) p 3 = am_b (am_gt (M 0 7) 4 p = 1) := rfl
        rw [am_B72_75 hE, am_s31 hW, am_bd_v, e]
        simp only [Nat.reduceAdd]
        rw [am_B72_83]
        by_cases h2 : am_gt (M 0 7) 4 p = 1
        · rw [if_neg (by rw [am_b_0]; exact fun z => z h2), am_B72_86, am_B72_91, am_b, if_pos h2]
        · rw [if_pos (by rw [am_b_0]; exact h2), am_B72_90, am_B72_91, am_b, if_neg h2]
      · rw [am_S72_6v4 h, h]
        rw [am_B72_92 hE, am_s36 hW, am_bd_v]
        simp only [Nat.reduceAdd]
        rw [am_B72_100]
        rfl
      · rw [am_S72_6v5 h, h]
        rw [am_B72_101 hE, am_s34 hW hd, am_bd_v]
        simp only [Nat.reduceAdd]
        rw [am_B72_109]
        rfl
      · rw [am_S72_6v6 h, h]
        rw [am_B72_110 hE, ay_39 hW, am_bd_v]
        simp only [Nat.reduceAdd]
        rw [am_B72_118]
        rfl
    · rw [am_S72_6d (by omega), am_B72_119, if_neg hw]
  · rw [if_neg h1, if_neg h1, am_bd_x rfl]
theorem ac_73 (hE : am_Wr E) : am_den 73 (0, [some (am_A (34, 0)), some (am_I l), some (am_I w)], [], E, M) = if ac_hl M l then (if 0 ≤ w ∧ w ≤ 6 then some (.inl (some (am_I (ac_lo (M 0) l w))), E, M) else some (.inr 0, am_xE E, M)) else some (.inr 2, am_xE E, M) := by
  have hW := hE.1 0 (by omega)
  rw [am_B73_0 hE, ac_98 hE]
  by_cases h1 : ac_hl M l
  · rw [if_pos h1, if_pos h1, am_bd_u]
    simp only [Nat.reduceAdd]
    rw [am_B73_5]
    by_cases hw : 0 ≤ w ∧ w ≤ 6
    · rw [if_pos hw]
      have hk : w = 0 ∨ w = 1 ∨ w = 2 ∨ w = 3 ∨ w = 4 ∨ w = 5 ∨ w = 6 := by omega
      rcases hk with h | h | h | h | h | h | h
      · rw [am_S73_6v0 h, h]
        rw [am_B73_48 hE, am_s112g (hW.2.2.1 1 (by decide) (by decide)), am_bd_v]
        simp only [Nat.reduceAdd]
        rw [am_B73_59]
        rfl
      · rw [am_S73_6v1 h, h]
        rw [am_B73_60 hE, am_s112g (hW.2.2.1 2 (by decide) (by decide)), am_bd_v]
        simp only [Nat.reduceAdd]
        rw [am_B73_71]
        rfl
      · rw [am_S73_6v2 h, h]
        rw [am_B73_72 hE, am_s40 hW, am_bd_v]
        simp only [Nat.reduceAdd]
        rw [am_B73_80]
        rfl
      · rw [am_S73_6v3 h, h]
        rw [am_B73_81 hE, am_s112g (hW.2.2.1 3 (by decide) (by decide)), am_bd_v]
        simp only [Nat.reduceAdd]
        rw [am_B73_92]
        rfl
      · rw [am_S73_6v4 h, h]
        rw [am_B73_93 hE, am_s112g (hW.2.2.1 4 (by decide) (by decide)), am_bd_v]
        simp only [Nat.reduceAdd]
        rw [am_B73_104]
        rfl
      · rw [am_S73_6v5 h, h]
        rw [am_B73_105 hE, am_s112g (hW.2.2.1 5 (by decide) (by decide)), am_bd_v]
        simp only [Nat.reduceAdd]
        rw [am_B73_116]
        rfl
      · rw [am_S73_6v6 h, h]
        rw [am_B73_117 hE, am_s41 hW, am_bd_v]
        simp only [Nat.reduceAdd]
        rw [am_B73_125]
        rfl
    · rw [am_S73_6d (by omega), am_B73_126, if_neg hw]
  · rw [if_neg h1, if_neg h1, am_bd_x rfl]
abbrev ac_in (Y : Nat → Int → Int) (p : Int) : Int := am_sm (fun l => am_b (Y 2 l = p)) 24
theorem ac_in_le {Y : Nat → Int → Int} {p : Int} : 0 ≤ ac_in Y p ∧ ac_in Y p ≤ 24 := am_sm_le (f := fun l => am_b (Y 2 l = p)) (k := 1) (n := 24) (fun _ _ _ => am_b_le)
theorem ac_74 (hE : am_Wr E) : am_den 74 (0, [some (am_A (34, 0)), some (am_I p), some (am_I l), some (am_I w)], [], E, M) = if ac_hp M p ∧ (0 ≤ l ∧ l < ac_in (M 0) p) then (if w = 0 ∨ w = 1 then (if 0 < am_oa (M 0) p then some (.inr 1, am_xE E, M) else some (.inl (some (am_I (if w = 0 then ay_rk (M 0) l.toNat 0 (am_gt (M 0 6) 4 p) else am_fd (am_rp (M 0) p l) 24 0))), E, M)) else some (.inr 0, am_xE E, M)) else some (.inr 2, am_xE E, M) := by
  have hW := hE.1 0 (by omega)
  have hin : 0 ≤ ac_in (M 0) p ∧ ac_in (M 0) p ≤ 24 := ac_in_le
  rw [am_B74_0 hE, ac_96 hE]
  by_cases h1 : ac_hp M p
  · rw [if_pos h1, am_bd_u]
    simp only [Nat.reduceAdd]
    rw [am_B74_5]
    by_cases h2 : l < 0
    · rw [if_pos h2, am_B74_21, if_neg (by omega)]
    · rw [if_neg h2, am_B74_9 hE, am_s32 hW, am_bd_v]
      simp only [Nat.reduceAdd]
      rw [am_B74_18]
      by_cases h3 : l < ac_in (M 0) p
      · have h3' : l < am_sm (fun l => am_b (M 0 2 l = p)) 24 := h3
        rw [if_pos h3', if_pos (show ac_hp M p ∧ (0 ≤ l ∧ l < ac_in (M 0) p) from ⟨h1, by omega, h3⟩), am_B74_31]
        have go : w = 0 ∨ w = 1 → am_den 74 (50, [some (am_A (34, 0)), some (am_I p), some (am_I l), some (am_I w)], [], E, M) = if w = 0 ∨ w = 1 then (if 0 < am_oa (M 0) p then some (.inr 1, am_xE E, M) else some (.inl (some (am_I (if w = 0 then ay_rk (M 0) l.toNat 0 (am_gt (M 0 6) 4 p) else am_fd (am_rp (M 0) p l) 24 0))), E, M)) else some (.inr 0, am_xE E, M) := by
          intro hw
          rw [if_pos hw, am_B74_50 hE, am_s36 hW, am_bd_v]
          simp only [Nat.reduceAdd]
          rw [am_B74_58]
          by_cases h4 : 0 < am_oa (M 0) p
          · have h4' : ¬ am_sm (fun l => am_b (am_of (M 0) p l)) 24 ≤ 0 := Int.not_le.mpr h4
            rw [if_neg h4', am_B74_61, if_pos h4]
          · have h4' : am_sm (fun l => am_b (am_of (M 0) p l)) 24 ≤ 0 := Int.not_lt.mp h4
            rw [if_pos h4', am_B74_71, if_neg h4]
            by_cases h5 : w = 0
            · rw [if_neg (fun z => z h5), am_B74_75 hE, ay_44 hW (by omega) (by omega), am_bd_v, if_pos h5]
              simp only [Nat.reduceAdd]
              rw [am_B74_84, am_B74_96]
            · rw [if_pos h5, am_B74_87 hE, am_s46 hW, am_bd_v, if_neg h5]
              simp only [Nat.reduceAdd]
              rw [am_B74_96]
        by_cases h5 : w = 0
        · rw [if_pos h5]
          exact go (Or.inl h5)
        · rw [if_neg h5, am_B74_35]
          by_cases h6 : w = 1
          · rw [if_pos h6]
            exact go (Or.inr h6)
          · rw [if_neg h6, am_B74_40, if_neg (by omega)]
      · have h3' : ¬ l < am_sm (fun l => am_b (M 0 2 l = p)) 24 := h3
        rw [if_neg h3', am_B74_21, if_neg (fun z => h3 z.2.2)]
  · rw [if_neg h1, if_neg (fun z => h1 z.1), am_bd_x rfl]
def ac_dt : Nat → (Nat → Int → Int) → Int → Int → Int → Int
  | 0, _, _, _, n => n
  | m + 1, Y, p, w, n => if ay_why Y p = 0 ∧ ay_td Y p ≤ w then ac_dt m (ay_burn Y p) p w (n + 1) else n
def ac_de : Nat → (Nat → Int → Int) → Int → Int → (Nat → Int → Int)
  | 0, Y, _, _ => Y
  | m + 1, Y, p, w => if ay_why Y p = 0 ∧ ay_td Y p ≤ w then ac_de m (ay_burn Y p) p w else Y
theorem ac_87l (hE : am_Wr E) : ∀ (m i : Nat) (n : Int) (Y : Nat → Int → Int), i + m = 24 → 0 ≤ n → n ≤ i → am_den 87 (20, [some (am_A (34, 0)), some (am_I p), some (am_I w), some (am_A (17, 0)), some (am_I n), some (am_I i)], [], E, am_sb M 17 Y) = some (.inl (some (am_I (ac_dt m Y p w n))), E, am_sb M 17 (ac_de m Y p w)) := by
  have hW := hE.1 17 (by omega)
  intro m
  induction m with
  | zero =>
    intro i n Y h h0 h1
    rw [am_B87_20, if_pos (by omega), am_B87_59, ac_dt, ac_de]
  | succ m ih =>
    intro i n Y h h0 h1
    have w1 : am_w ((i : Int) + 1) = i + 1 := am_wi (by omega) (by omega)
    have w2 : am_w (n + 1) = n + 1 := am_wi (by omega) (by omega)
    have h2 := fun Y => ih (i + 1) (n + 1) Y (by omega) (by omega) (by omega)
    rw [show ((i + 1 : Nat) : Int) = (i : Int) + 1 by omega] at h2
    rw [am_B87_20, if_neg (by omega), am_B87_27 hW, ay_39 hW, am_bd_v, am_sb_at, ac_dt, ac_de]
    simp only [Nat.reduceAdd]
    rw [am_B87_32]
    by_cases q1 : ay_why Y p = 0
    · rw [if_neg (fun z => z q1), am_B87_35 hW, ay_30 hW, am_bd_v, am_sb_at]
      simp only [Nat.reduceAdd]
      rw [am_B87_40]
      by_cases q2 : ay_td Y p ≤ w
      · rw [if_neg (by omega), am_B87_44 hW, ay_55 hW, am_bd_v, am_sb_at, am_sb_sb, if_pos ⟨q1, q2⟩, if_pos ⟨q1, q2⟩]
        simp only [Nat.reduceAdd]
        rw [am_B87_49, w1, w2]
        exact h2 _
      · rw [if_pos (by omega), am_B87_59, if_neg (fun z => q2 z.2), if_neg (fun z => q2 z.2)]
    · rw [if_pos q1, am_B87_59, if_neg (fun z => q1 z.1), if_neg (fun z => q1 z.1)]
abbrev ac_cp (M : am_M) : Nat → Int → Int := am_yp (M 0) (M 17)
theorem ac_87 (hE : am_Wr E) {u1 u2 u3 : Option am_V} : am_den 87 (0, [some (am_A (34, 0)), some (am_I p), some (am_I w), u1, u2, u3], [], E, M) = if ac_hp M p then (if 0 ≤ w ∧ w ≤ 99 then some (.inl (some (am_I (ac_dt 24 (ac_cp M) p w 0))), E, am_sb M 17 (ac_de 24 (ac_cp M) p w)) else some (.inr 0, am_xE E, M)) else some (.inr 2, am_xE E, M) := by
  rw [am_B87_0 hE, ac_96 hE]
  by_cases h1 : ac_hp M p
  · rw [if_pos h1, if_pos h1, am_bd_u]
    simp only [Nat.reduceAdd]
    rw [am_B87_5, ac_99]
    by_cases h2 : 0 ≤ w ∧ w ≤ 99
    · rw [if_pos h2, if_pos h2, am_bd_u]
      simp only [Nat.reduceAdd]
      rw [am_B87_9 hE, ac_105 hE, am_bd_v]
      simp only [Nat.reduceAdd]
      rw [am_B87_13]
      exact ac_87l hE 24 0 0 _ rfl (by omega) (by omega)
    · rw [if_neg h2, if_neg h2, am_bd_x rfl]
  · rw [if_neg h1, if_neg h1, am_bd_x rfl]
theorem ac_88 (hE : am_Wr E) : am_den 88 (0, [some (am_A (34, 0)), some (am_I p), some (am_I q)], [], E, M) = if ac_hp M p ∧ ac_hp M q then (if p ≠ q then some (.inl (some (am_I (am_w (ay_jp (ac_cp M) p q 0 11 - ac_cp M 0 11)))), E, am_sb M 17 (ay_jp (ac_cp M) p q)) else some (.inr 0, am_xE E, M)) else some (.inr 2, am_xE E, M) := by
  have hW := hE.1 17 (by omega)
  rw [am_B88_0 hE, ac_97 hE]
  by_cases h1 : ac_hp M p ∧ ac_hp M q
  · rw [if_pos h1, if_pos h1]
    by_cases h2 : p ≠ q
    · rw [if_pos h2, if_pos h2, am_bd_u]
      simp only [Nat.reduceAdd]
      rw [am_B88_6 hE, ac_105 hE, am_bd_v]
      simp only [Nat.reduceAdd]
      rw [am_B88_10 hW, ay_57 hW, am_bd_v, am_sb_at, am_sb_sb]
      simp only [Nat.reduceAdd]
      rw [am_B88_15]
    · rw [if_neg h2, if_neg h2, am_bd_x rfl]
  · rw [if_neg h1, if_neg h1, am_bd_x rfl]
theorem ac_90 (hE : am_Wr E) {u1 u2 : Option am_V} : am_den 90 (0, [some (am_A (34, 0)), some (am_I p), some (am_I w), u1, u2], [], E, M) = if ac_hp M p then (if w = 0 ∨ w = 1 then some (.inl (some (am_I (if w = 0 then am_w (ay_mend (ac_cp M) p 0 11 - ac_cp M 0 11) else am_w (ay_de 24 (ay_mend (ac_cp M) p) p 0 11 - ay_mend (ac_cp M) p 0 11)))), E, am_sb M 17 (if w = 0 then ay_mend (ac_cp M) p else ay_de 24 (ay_mend (ac_cp M) p) p)) else some (.inr 0, am_xE E, M)) else some (.inr 2, am_xE E, M) := by
  have hW := hE.1 17 (by omega)
  rw [am_B90_0 hE, ac_96 hE]
  by_cases h1 : ac_hp M p
  · rw [if_pos h1, if_pos h1, am_bd_u]
    simp only [Nat.reduceAdd]
    rw [am_B90_5]
    have go : w = 0 ∨ w = 1 → am_den 90 (25, [some (am_A (34, 0)), some (am_I p), some (am_I w), u1, u2], [], E, M) = if w = 0 ∨ w = 1 then some (.inl (some (am_I (if w = 0 then am_w (ay_mend (ac_cp M) p 0 11 - ac_cp M 0 11) else am_w (ay_de 24 (ay_mend (ac_cp M) p) p 0 11 - ay_mend (ac_cp M) p 0 11)))), E, am_sb M 17 (if w = 0 then ay_mend (ac_cp M) p else ay_de 24 (ay_mend (ac_cp M) p) p)) else some (.inr 0, am_xE E, M) := by
      intro hw
      rw [am_B90_25 hE, ac_105 hE, am_bd_v, if_pos hw]
      simp only [Nat.reduceAdd]
      rw [am_B90_29 hW, ay_61 hW, am_bd_v, am_sb_at, am_sb_sb]
      simp only [Nat.reduceAdd]
      rw [am_B90_35]
      by_cases h2 : w = 0
      · rw [if_neg (fun z => z h2), am_B90_41, am_B90_51, if_pos h2, if_pos h2]
      · rw [if_pos h2, am_B90_46 hW, ay_56 hW, am_bd_v, am_sb_at, am_sb_sb, if_neg h2, if_neg h2]
        simp only [Nat.reduceAdd]
        rw [am_B90_51]
    by_cases h5 : w = 0
    · rw [if_pos h5]
      exact go (Or.inl h5)
    · rw [if_neg h5, am_B90_9]
      by_cases h6 : w = 1
      · rw [if_pos h6]
        exact go (Or.inr h6)
      · rw [if_neg h6, am_B90_14, if_neg (by omega)]
  · rw [if_neg h1, if_neg h1, am_bd_x rfl]
end CLS2
