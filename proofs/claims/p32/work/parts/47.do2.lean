/-! ===== what the changes leave as it was ===== -/
theorem ay_ci_0 {Y : Nat → Int → Int} {p l j : Int} (h : j ≠ 11) : am_ci Y p l 0 j = Y 0 j := by
  unfold am_ci
  rw [ay_pt_ne (Or.inl (by decide)), ay_jl_fr (ay_out0 h)]
theorem ay_lg_0 {Y : Nat → Int → Int} {p w j : Int} (h : j ≠ 11) (h8 : j ≠ 8) : am_lg Y p w 0 j = Y 0 j := by
  unfold am_lg
  rw [ay_ci_0 h, ay_pt_ne (Or.inl (by decide)), ay_pt_ne (Or.inl (by decide)), ay_uy_ne (Or.inr h8)]
theorem ay_take_0 {Y : Nat → Int → Int} {l j : Int} (h : j ≠ 11) (h1 : j ≠ 10) : ay_take Y l 0 j = Y 0 j := by
  unfold ay_take
  rw [ay_rmv_fr (ay_out0 h) (by decide) (by decide), ay_uy_ne (Or.inr h1)]
theorem ay_burn_0 {Y : Nat → Int → Int} {p j : Int} (h : j ≠ 11) (h1 : j ≠ 9 ∧ j ≠ 12 ∧ j ≠ 13) : ay_burn Y p 0 j = Y 0 j := by
  unfold ay_burn
  rw [ay_rmv_fr (ay_out0 h) (by decide) (by decide), ay_bn0_fr (Or.inr h1)]
theorem ay_rg_ne {Y : Nat → Int → Int} {c c' : Nat} {i n j : Int} {g : Int → Int} (h : c' ≠ c) : am_rg Y c i n g c' j = Y c' j := by
  unfold am_rg
  rw [if_neg (fun q => h q.1)]
theorem ay_jp_0 {Y : Nat → Int → Int} {p q j : Int} (h : j ≠ 11) : ay_jp Y p q 0 j = Y 0 j := by
  unfold ay_jp ay_jp0
  rw [ay_rg_ne (by decide), ay_pt_ne (Or.inl (by decide)), ay_pt_ne (Or.inl (by decide)), ay_jl_fr (ay_out0 h)]
theorem ay_ml_0 {p j : Int} (h : j ≠ 11) : ∀ (n : Nat) (Y : Nat → Int → Int) (l : Int), ay_ml n Y p l 0 j = Y 0 j := by
  intro n
  induction n with
  | zero => intro Y l; rfl
  | succ n ih =>
    intro Y l
    rw [ay_ml, ih]
    split
    · rw [ay_ci_0 h]
      unfold ay_unl
      rw [ay_pt_ne (Or.inl (by decide)), ay_pt_ne (Or.inl (by decide)), ay_pt_ne (Or.inl (by decide))]
    · rfl
theorem ay_mend_0 {Y : Nat → Int → Int} {p j : Int} (h : j ≠ 11) : ay_mend Y p 0 j = Y 0 j := by
  unfold ay_mend
  rw [ay_ml_0 h, ay_pt_ne (Or.inl (by decide))]
theorem ay_nt_0 {Y : Nat → Int → Int} {j : Int} (h : j ≠ 11) (h1 : j ≠ 9 ∧ j ≠ 12 ∧ j ≠ 13) (h2 : j ≠ 14) : ay_nt1 Y 0 j = Y 0 j := by
  unfold ay_nt1
  split
  · exact ay_uy_ne (Or.inr h2)
  · exact ay_burn_0 h h1
theorem ay_nts_0 {j : Int} (h : j ≠ 11) (h1 : j ≠ 9 ∧ j ≠ 12 ∧ j ≠ 13) (h2 : j ≠ 14) : ∀ (n : Nat) (Y : Nat → Int → Int), ay_nts n Y 0 j = Y 0 j := by
  intro n
  induction n with
  | zero => intro Y; rfl
  | succ n ih =>
    intro Y
    rw [ay_nts, ih, ay_nt_0 h h1 h2]
theorem ay_act7 {Y : Nat → Int → Int} {k a c : Int} (hk : k ≠ 112) : ay_act Y k a c 0 7 = Y 0 7 := by
  unfold ay_act
  rw [if_neg hk]
  repeat' split
  all_goals first
    | exact ay_lg_0 (by decide) (by decide)
    | exact ay_burn_0 (by decide) ⟨by decide, by decide, by decide⟩
    | exact ay_take_0 (by decide) (by decide)
    | exact ay_jp_0 (by decide)
    | exact ay_pt_ne (Or.inl (by decide))
    | exact ay_mend_0 (by decide)
    | exact ay_rg_ne (by decide)
    | exact ay_nts_0 (by decide) ⟨by decide, by decide, by decide⟩ (by decide) _ _
theorem ay_ob7 {Y : Nat → Int → Int} {k a c : Int} (h7 : 0 ≤ Y 0 7 ∧ Y 0 7 ≤ 4) : 0 ≤ ay_ob Y k a c 0 7 ∧ ay_ob Y k a c 0 7 ≤ 4 := by
  unfold ay_ob
  split
  · exact h7
  · rename_i hc
    by_cases hk : k = 112
    · subst hk
      have e : ay_can Y 112 a c = am_b (Y 0 7 < 4) := rfl
      have h4 : Y 0 7 < 4 := Decidable.not_not.mp (by rw [e, am_b_0] at hc; exact hc)
      have e2 : ay_act Y 112 a c = am_uy Y 0 7 (Y 0 7 + 1) := rfl
      rw [e2, ay_uy_eq]
      omega
    · rw [ay_act7 hk]
      exact h7
theorem ad_do7 {Y : Nat → Int → Int} {g : Int} (h7 : 0 ≤ Y 0 7 ∧ Y 0 7 ≤ 4) : 0 ≤ (ad_do Y g).2 0 7 ∧ (ad_do Y g).2 0 7 ≤ 4 := by
  have o : ∀ (c : Prop) [Decidable c] (k a e : Int), 0 ≤ (ad_ob Y c k a e).2 0 7 ∧ (ad_ob Y c k a e).2 0 7 ≤ 4 := by
    intro c _ k a e
    unfold ad_ob
    split
    · exact ay_ob7 h7
    · exact h7
  unfold ad_do
  repeat' split
  all_goals first | exact o _ _ _ _ | exact h7
/-! ===== specs: scripts, simulations ===== -/
def ad_rs : Nat → (Nat → Int → Int) → Int → Int → Int × (Nat → Int → Int)
  | 0, Y, _, _ => (-1, Y)
  | m + 1, Y, x, i => if (ad_do Y (x / 100000 ^ m % 100000)).1 = 0 then (i, (ad_do Y (x / 100000 ^ m % 100000)).2) else ad_rs m (ad_do Y (x / 100000 ^ m % 100000)).2 x (i + 1)
def ad_nx (x : Int) : Int := am_W ((am_W (x * 6364136223846793005)) + 1442695040888963407)
def ad_rr (y : Int) : Int := ((Int64.ofInt y).toUInt64 >>> ((Int32.ofInt 33).toInt64.toUInt64 &&& Int64.toUInt64 63)).toInt64.toInt
theorem ad_rr_le {y : Int} : 0 ≤ ad_rr y ∧ ad_rr y < 2147483648 := by
  have h0 : ((Int32.ofInt 33).toInt64.toUInt64 &&& Int64.toUInt64 63) = 33 := by decide +kernel
  have h1 : ((Int64.ofInt y).toUInt64 >>> (33 : UInt64)).toNat < 2147483648 := by
    rw [UInt64.toNat_shiftRight, Nat.shiftRight_eq_div_pow]
    have := (Int64.ofInt y).toUInt64.toNat_lt
    have e : (33 : UInt64).toNat % 64 = 33 := by decide +kernel
    rw [e]
    omega
  have h2 : ad_rr y = (((Int64.ofInt y).toUInt64 >>> (33 : UInt64)).toNat : Int) := by
    unfold ad_rr
    rw [h0]
    show (((Int64.ofInt y).toUInt64 >>> (33 : UInt64)).toBitVec).toInt = _
    rw [BitVec.toInt_eq_toNat_of_lt]
    · rfl
    · show 2 * ((Int64.ofInt y).toUInt64 >>> (33 : UInt64)).toNat < 2 ^ 64
      omega
  omega
def ad_tn (Y : Nat → Int → Int) (r : Int) : Nat → Int → Int := ay_ob Y (ad_kl (r % 16)) (ad_k1 (r % 16) (r / 16)) (ad_k2 (r % 16) (r / 16))
def ad_sm : Nat → (Nat → Int → Int) → Int → Nat → Int → Int
  | 0, Y, _ => Y
  | m + 1, Y, x => ad_sm m (ad_tn Y (ad_rr (ad_nx x))) (ad_nx x)
def ad_sv (Y Z : Nat → Int → Int) : Int := am_w (am_w (10000 * am_w (am_w (Y 0 8 - Y 0 9) - Y 0 10)) + (if am_w (Y 0 11 - Z 0 11) ≤ 9999 then am_w (Y 0 11 - Z 0 11) else 9999))
section DO2
variable {E : am_E} {M : am_M} {p q l w v x : Int}
theorem ad_92l (hE : am_Wr E) (h0 : 0 ≤ x) (h1 : x < 9223372036854775808) {n : Nat} (hn : n ≤ 3) : ∀ (m i : Nat) (Y : Nat → Int → Int) (u : Option am_V), i + m = n → 0 ≤ Y 0 7 ∧ Y 0 7 ≤ 4 → am_den 92 (57, [some (am_A (34, 0)), some (am_I n), some (am_J x), none, some (am_A (17, 0)), some (am_I i), u], [], E, am_sb M 17 Y) = some (.inl (some (am_I (ad_rs m Y x i).1)), E, am_sb M 17 (ad_rs m Y x i).2) := by
  have hW := hE.1 17 (by omega)
  intro m
  induction m with
  | zero =>
    intro i Y u h h7
    rw [am_B92_57, if_pos (by omega), am_B92_99, ad_rs]
  | succ m ih =>
    intro i Y u h h7
    have w1 : am_w ((i : Int) + 1) = ((i + 1 : Nat) : Int) := by rw [am_wi (by omega) (by omega)]; omega
    have w2 : am_w (am_w ((n : Int) - 1) - i) = (m : Int) := by rw [am_wi (z := (n : Int) - 1) (by omega) (by omega), am_wi (by omega) (by omega)]; omega
    have hq : 0 ≤ x / 100000 ^ m := Int.ediv_nonneg h0 (Int.pow_nonneg (by decide))
    have e : am_w ((x / 100000 ^ m).tmod 100000) = x / 100000 ^ m % 100000 := by rw [ad_wm hq, am_wi (by omega) (by omega)]
    rw [am_B92_57, if_neg (by omega), am_B92_63, w2, ad_107 h0 h1 (by omega), am_bd_v]
    simp only [Nat.reduceAdd]
    rw [am_B92_73, e, ad_108 hW (by rw [am_sb_at]; exact h7) (by omega), am_bd_v, am_sb_at, am_sb_sb, ad_rs]
    simp only [Nat.reduceAdd]
    rw [am_B92_87]
    by_cases h2 : (ad_do Y (x / 100000 ^ m % 100000)).1 = 0
    · rw [if_neg (fun z => z h2), am_B92_90, if_pos h2]
    · rw [if_pos h2, am_B92_93, w1, if_neg h2]
      have h3 := ih (i + 1) _ (some (am_I (x / 100000 ^ m % 100000))) (by omega) (ad_do7 (g := x / 100000 ^ m % 100000) h7)
      rw [show ((i + 1 : Nat) : Int) = (i : Int) + 1 by omega] at h3
      rw [show ((i + 1 : Nat) : Int) = (i : Int) + 1 by omega]
      exact h3
theorem ad_92 (hE : am_Wr E) (h7 : 0 ≤ ac_cp M 0 7 ∧ ac_cp M 0 7 ≤ 4) (h1 : x < 9223372036854775808) {n : Int} {u1 u2 u3 : Option am_V} : am_den 92 (0, [some (am_A (34, 0)), some (am_I n), some (am_J x), none, u1, u2, u3], [], E, M) = if (1 ≤ n ∧ n ≤ 3) ∧ (0 ≤ x ∧ x / 100000 ^ n.toNat = 0) then some (.inl (some (am_I (ad_rs n.toNat (ac_cp M) x 0).1)), E, am_sb M 17 (ad_rs n.toNat (ac_cp M) x 0).2) else some (.inr 0, am_xE E, M) := by
  have no : ¬((1 ≤ n ∧ n ≤ 3) ∧ (0 ≤ x ∧ x / 100000 ^ n.toNat = 0)) → (some (.inr 0, am_xE E, M) : Option am_Rs) = if (1 ≤ n ∧ n ≤ 3) ∧ (0 ≤ x ∧ x / 100000 ^ n.toNat = 0) then some (.inl (some (am_I (ad_rs n.toNat (ac_cp M) x 0).1)), E, am_sb M 17 (ad_rs n.toNat (ac_cp M) x 0).2) else some (.inr 0, am_xE E, M) := by
    intro h
    rw [if_neg h]
  rw [am_B92_0]
  by_cases a1 : n < 1
  · rw [if_pos a1, am_B92_10]
    exact no (by omega)
  · rw [if_neg a1, am_B92_5]
    by_cases a2 : n ≤ 3
    · have en : n = ((n.toNat : Nat) : Int) := by omega
      rw [if_pos a2, am_B92_21]
      simp only [ar_cmp0]
      by_cases a3 : x < 0
      · rw [if_pos a3, am_B92_37]
        exact no (by omega)
      · have hx : am_den 107 (0, [some (am_J x), none, some (am_I n), none, none, none], [], E, M) = some (.inl (some (am_J (x / 100000 ^ n.toNat))), E, M) := by
          have h := ad_107 (E := E) (M := M) (x := x) (n := n.toNat) (by omega) h1 (by omega) (u1 := none) (u2 := none) (u3 := none)
          rw [← en] at h
          exact h
        rw [if_neg a3, am_B92_27, hx, am_bd_v]
        simp only [Nat.reduceAdd]
        rw [am_B92_32]
        have hq : 0 ≤ x / 100000 ^ n.toNat := Int.ediv_nonneg (by omega) (Int.pow_nonneg (by decide))
        by_cases a4 : x / 100000 ^ n.toNat = 0
        · rw [if_pos (by rw [a4]; rfl), am_B92_48 hE, ac_105 hE, am_bd_v, if_pos (show (1 ≤ n ∧ n ≤ 3) ∧ (0 ≤ x ∧ x / 100000 ^ n.toNat = 0) from ⟨⟨by omega, a2⟩, by omega, a4⟩)]
          simp only [Nat.reduceAdd]
          rw [am_B92_52]
          have h := ad_92l (M := M) (x := x) hE (by omega) h1 (n := n.toNat) (by omega) n.toNat 0 (ac_cp M) u3 (by omega) h7
          rw [← en] at h
          exact h
        · have a5 : ¬ ((if x / 100000 ^ n.toNat < 0 then (-1 : Int) else if x / 100000 ^ n.toNat = 0 then 0 else 1) = 0) := by
            rw [if_neg (by omega), if_neg a4]
            decide
          rw [if_neg a5, am_B92_37]
          exact no (fun z => a4 z.2.2)
    · rw [if_neg a2, am_B92_10]
      exact no (by omega)
theorem ad_93l (hE : am_Wr E) {n : Nat} (hn : n ≤ 60) {s0 : Int} {u2 : Option am_V} : ∀ (m i : Nat) (Y : Nat → Int → Int) (x : Int) (u8 u9 u10 : Option am_V), i + m = n → 0 ≤ Y 0 7 ∧ Y 0 7 ≤ 4 → am_den 93 (34, [some (am_A (34, 0)), some (am_J s0), u2, some (am_I n), some (am_A (17, 0)), some (am_J x), none, some (am_I i), u8, u9, u10], [], E, am_sb M 17 Y) = some (.inl (some (am_I (ad_sv (ad_sm m Y x) (M 0)))), E, am_sb M 17 (ad_sm m Y x)) := by
  have hW := hE.1 17 (by omega)
  intro m
  induction m with
  | zero =>
    intro i Y x u8 u9 u10 h h7
    rw [am_B93_34, if_pos (by omega), am_B93_105 hE hW, am_sb_at, am_sb_ne (by decide), am_B33_0 hW, am_bd_v, am_sb_at, ad_sm]
    simp only [Nat.reduceAdd]
    rw [am_B93_128]
    unfold ad_sv
    by_cases h2 : am_w (Y 0 11 - M 0 0 11) ≤ 9999
    · rw [if_pos h2, am_B93_143, am_B93_145, if_pos h2]
    · rw [if_neg h2, am_B93_137, am_B93_145, if_neg h2]
  | succ m ih =>
    intro i Y x u8 u9 u10 h h7
    have hr := ad_rr_le (y := ad_nx x)
    have w1 : am_w ((i : Int) + 1) = ((i + 1 : Nat) : Int) := by rw [am_wi (by omega) (by omega)]; omega
    have w2 : am_w (ad_rr (ad_nx x)) = ad_rr (ad_nx x) := am_wi (by omega) (by omega)
    have w3 : am_w ((ad_rr (ad_nx x)).tdiv 16) = ad_rr (ad_nx x) / 16 := by rw [Int.tdiv_eq_ediv_of_nonneg hr.1, am_wi (by omega) (by omega)]
    have w4 : (ad_rr (ad_nx x)).tmod 16 = ad_rr (ad_nx x) % 16 := ad_wm hr.1
    rw [am_B93_34, if_neg (by omega), am_B93_40]
    change am_bd 93 78 [some (am_A (34, 0)), some (am_J s0), u2, some (am_I n), some (am_A (17, 0)), some (am_J (ad_nx x)), none, some (am_I i), some (am_I (am_w (ad_rr (ad_nx x)))), some (am_I ((am_w (ad_rr (ad_nx x))).tmod 16)), some (am_I (am_w ((am_w (ad_rr (ad_nx x))).tdiv 16)))] [am_A (17, 0)] (am_den 109 (0, [some (am_I ((am_w (ad_rr (ad_nx x))).tmod 16))], [], E, am_sb M 17 Y)) = _
    rw [w2, w3, w4, ad_109 (by omega), am_bd_v]
    simp only [Nat.reduceAdd]
    rw [am_B93_81, ad_110 (by omega) (by omega), am_bd_v]
    simp only [Nat.reduceAdd]
    rw [am_B93_88, ad_111 (by omega), am_bd_v]
    simp only [Nat.reduceAdd]
    rw [am_B93_95 hW, ay_64 hW (by rw [am_sb_at]; exact h7), am_bd_v, am_sb_at, am_sb_sb]
    simp only [Nat.reduceAdd]
    rw [am_B93_98, w1, ad_sm]
    exact ih (i + 1) (ad_tn Y (ad_rr (ad_nx x))) (ad_nx x) _ _ _ (by omega) (ay_ob7 h7)
theorem ad_93 (hE : am_Wr E) (h7 : 0 ≤ ac_cp M 0 7 ∧ ac_cp M 0 7 ≤ 4) {n : Int} {u2 u4 u5 u6 u7 u8 u9 u10 : Option am_V} : am_den 93 (0, [some (am_A (34, 0)), some (am_J x), u2, some (am_I n), u4, u5, u6, u7, u8, u9, u10], [], E, M) = if 1 ≤ n ∧ n ≤ 60 then some (.inl (some (am_I (ad_sv (ad_sm n.toNat (ac_cp M) x) (M 0)))), E, am_sb M 17 (ad_sm n.toNat (ac_cp M) x)) else some (.inr 0, am_xE E, M) := by
  rw [am_B93_0]
  by_cases a1 : n < 1
  · rw [if_pos a1, am_B93_11, if_neg (by omega)]
  · rw [if_neg a1, am_B93_5]
    by_cases a2 : n ≤ 60
    · have en : n = ((n.toNat : Nat) : Int) := by omega
      rw [if_pos a2, am_B93_22 hE, ac_105 hE, am_bd_v, if_pos (by omega)]
      simp only [Nat.reduceAdd]
      rw [am_B93_26]
      have h := ad_93l (M := M) (s0 := x) (u2 := u2) hE (n := n.toNat) (by omega) n.toNat 0 (ac_cp M) x u8 u9 u10 (by omega) h7
      rw [← en] at h
      exact h
    · rw [if_neg a2, am_B93_11, if_neg (by omega)]
theorem ad_94 (hE : am_Wr E) {u : Option am_V} : am_den 94 (0, [some (am_A (34, 0)), some (am_I w), u], [], E, M) = if w = 0 ∨ w = 1 then some (.inl (some (am_I (M 0 0 8))), E, am_up (am_sb M (if w = 0 then 15 else 16) (am_yp (M 0) (M (if w = 0 then 15 else 16)))) (if w = 0 then 32 else 33, 0) 1 1) else some (.inr 2, am_xE E, M) := by
  rw [am_B94_0, ac_101]
  by_cases h : w = 0 ∨ w = 1
  · rw [if_pos h, if_pos h, am_bd_u]
    simp only [Nat.reduceAdd]
    rw [am_B94_4 hE, ac_104 hE h, am_bd_v]
    simp only [Nat.reduceAdd]
    rcases h with h | h
    · simp only [if_pos h]
      rw [am_B94_9 hE (Or.inl rfl), am_s22 (hE.1 15 (by omega)) (hE.1 0 (by omega)) (by omega), am_bd_u]
      simp only [Nat.reduceAdd]
      rw [am_B94_21 hE (Or.inl rfl), am_B94_26 hE]
      rfl
    · simp only [if_neg (show ¬ w = 0 by omega)]
      rw [am_B94_9 hE (Or.inr rfl), am_s22 (hE.1 16 (by omega)) (hE.1 0 (by omega)) (by omega), am_bd_u]
      simp only [Nat.reduceAdd]
      rw [am_B94_21 hE (Or.inr rfl), am_B94_26 hE]
      rfl
  · rw [if_neg h, if_neg h, am_bd_x rfl]
theorem ad_95 (hE : am_Wr E) {u : Option am_V} : am_den 95 (0, [some (am_A (34, 0)), some (am_I w), u], [], E, M) = if w = 0 ∨ w = 1 then (if M (if w = 0 then 32 else 33) 0 1 = 0 then some (.inr 1, am_xE E, M) else some (.inl (some (am_I (am_yp (M (if w = 0 then 15 else 16)) (M 0) 0 8))), E, am_sb (am_sb M 0 (am_yp (M (if w = 0 then 15 else 16)) (M 0))) 31 (am_uy (M 31) 0 2 0))) else some (.inr 2, am_xE E, M) := by
  rw [am_B95_0, ac_101]
  by_cases h : w = 0 ∨ w = 1
  · rw [if_pos h, if_pos h, am_bd_u]
    simp only [Nat.reduceAdd]
    rw [am_B95_4 hE, ac_104 hE h, am_bd_v]
    simp only [Nat.reduceAdd]
    rcases h with h | h
    · simp only [if_pos h]
      rw [am_B95_9 hE (Or.inl rfl)]
      by_cases h2 : M 32 0 1 = 0
      · rw [if_neg (fun z => z h2), am_B95_17, if_pos h2]
      · rw [if_pos h2, am_B95_28 hE (Or.inl rfl), am_s22 (hE.1 0 (by omega)) (hE.1 15 (by omega)) (by omega), am_bd_u, if_neg h2]
        simp only [Nat.reduceAdd]
        rw [am_B95_39 hE, ak_2 hE, am_bd_u]
        simp only [Nat.reduceAdd]
        rw [am_B95_46 hE, am_sb_ne (show (0 : Nat) ≠ 31 by decide), am_sb_at, am_sb_ne (show (31 : Nat) ≠ 0 by decide)]
    · simp only [if_neg (show ¬ w = 0 by omega)]
      rw [am_B95_9 hE (Or.inr rfl)]
      by_cases h2 : M 33 0 1 = 0
      · rw [if_neg (fun z => z h2), am_B95_17, if_pos h2]
      · rw [if_pos h2, am_B95_28 hE (Or.inr rfl), am_s22 (hE.1 0 (by omega)) (hE.1 16 (by omega)) (by omega), am_bd_u, if_neg h2]
        simp only [Nat.reduceAdd]
        rw [am_B95_39 hE, ak_2 hE, am_bd_u]
        simp only [Nat.reduceAdd]
        rw [am_B95_46 hE, am_sb_ne (show (0 : Nat) ≠ 31 by decide), am_sb_at, am_sb_ne (show (31 : Nat) ≠ 0 by decide)]
  · rw [if_neg h, if_neg h, am_bd_x rfl]
end DO2
