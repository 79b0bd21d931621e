/-! ===== specs: winds, rains, mending, nights ===== -/
section YARD14
variable {E : am_E} {M : am_M} {b : Nat} {p q l w : Int}
theorem ay_59l (hw : am_WY E b) {g : Int → Int} : ∀ (m i : Nat) (Y : Nat → Int → Int) (u : Option am_V), i + m = 24 → (∀ j : Int, i ≤ j → ay_wd Y w j = g j) → am_den 59 (2, [some (am_A (b, 0)), some (am_I w), some (am_I i), u], [], E, am_sb M b Y) = some (.inl none, E, am_sb M b (am_rg Y 1 i 24 g)) := by
  intro m
  induction m with
  | zero =>
    intro i Y u h hg
    rw [am_B59_2, if_pos (by omega), am_B59_78, am_rg_nil (by omega)]
  | succ m ih =>
    intro i Y u h hg
    have hi : (0 : Int) ≤ (i : Int) ∧ (i : Int) < ((24 : Nat) : Int) := by omega
    have w1 : am_w ((i : Int) + 1) = i + 1 := am_wi (by omega) (by omega)
    have h2 := fun Y u => ih (i + 1) Y u (by omega)
    rw [show ((i + 1 : Nat) : Int) = (i : Int) + 1 by omega] at h2
    have g0 := hg i (by omega)
    rw [am_B59_2, if_neg (by omega), am_B59_8 hw hi, am_sb_at]
    by_cases q1 : Y 2 i = -1
    · rw [if_pos q1, am_B59_72, w1, h2 Y u (fun j hj => hg j (by omega)), ay_rg_nx (by omega) (by rw [← g0, ay_wd, if_pos q1])]
    · have fin : ∀ x, ay_wby Y w i = x → am_den 59 (53, [some (am_A (b, 0)), some (am_I w), some (am_I i), u], [am_I x], E, am_sb M b Y) = some (.inl none, E, am_sb M b (am_rg Y 1 i 24 g)) := by
        intro x hx
        rw [am_B59_53 hw hi hi, am_up_sb, am_sb_at, am_B59_72, w1, h2]
        · rw [ay_rg_up (by omega) (by rw [← g0, ay_wd, if_neg q1, hx])]
        · intro j hj
          have hj2 := hg j (by omega)
          rw [← hj2]
          have e1 : am_uy Y 1 i (if 0 < am_w (Y 1 i - x) then am_w (Y 1 i - x) else 0) 1 j = Y 1 j := ay_uy_ne (Or.inr (by omega))
          unfold ay_wd ay_wby ay_dep
          rw [e1]
          rfl
      rw [if_neg q1, am_B59_18 hw hi, am_sb_at, am_s31 hw, am_bd_v, am_sb_at]
      simp only [Nat.reduceAdd]
      rw [am_B59_28]
      by_cases q2 : am_gt (Y 7) 4 (Y 2 i) = 1
      · rw [if_neg (by rw [am_b_0]; exact fun z => z q2), am_B59_31]
        exact fin _ (by rw [ay_wby, if_pos q2])
      · rw [if_pos (by rw [am_b_0]; exact q2), am_B59_37 hw, am_s40 hw, am_bd_v, am_sb_at]
        simp only [Nat.reduceAdd]
        rw [am_B59_42]
        by_cases q3 : 1 < ay_dep Y i
        · have q4 : 1 < am_dp (am_gt (Y 3) 24) 24 (am_gt (Y 3) 24 i) := q3
          rw [if_pos q4, am_B59_50]
          exact fin _ (by rw [ay_wby, if_neg q2, if_neg (by omega)])
        · have q4 : ¬ 1 < am_dp (am_gt (Y 3) 24) 24 (am_gt (Y 3) 24 i) := q3
          rw [if_neg q4, am_B59_46]
          exact fin _ (by rw [ay_wby, if_neg q2, if_pos (by omega)])
theorem ay_59 (hw : am_WY E b) {u v : Option am_V} : am_den 59 (0, [some (am_A (b, 0)), some (am_I w), u, v], [], E, M) = some (.inl none, E, am_sb M b (ay_wind (M b) w)) := by
  rw [am_B59_0]
  have h := ay_59l (w := w) (M := M) hw 24 0 (M b) v rfl (g := ay_wd (M b) w) (fun _ _ => rfl)
  rw [am_sb_self] at h
  exact h
theorem ay_60l (hw : am_WY E b) {g : Int → Int} : ∀ (m i : Nat) (Y : Nat → Int → Int) (u : Option am_V), i + m = 24 → (∀ j : Int, i ≤ j → ay_rd Y w j = g j) → am_den 60 (2, [some (am_A (b, 0)), some (am_I w), some (am_I i), u], [], E, am_sb M b Y) = some (.inl none, E, am_sb M b (am_rg Y 1 i 24 g)) := by
  intro m
  induction m with
  | zero =>
    intro i Y u h hg
    rw [am_B60_2, if_pos (by omega), am_B60_73, am_rg_nil (by omega)]
  | succ m ih =>
    intro i Y u h hg
    have hi : (0 : Int) ≤ (i : Int) ∧ (i : Int) < ((24 : Nat) : Int) := by omega
    have w1 : am_w ((i : Int) + 1) = i + 1 := am_wi (by omega) (by omega)
    have h2 := fun Y u => ih (i + 1) Y u (by omega)
    rw [show ((i + 1 : Nat) : Int) = (i : Int) + 1 by omega] at h2
    have g0 := hg i (by omega)
    rw [am_B60_2, if_neg (by omega), am_B60_8 hw hi, am_sb_at]
    by_cases q1 : Y 2 i = -1
    · rw [if_pos q1, am_B60_67, w1, h2 Y u (fun j hj => hg j (by omega)), ay_rg_nx (by omega) (by rw [← g0, ay_rd, if_pos (Or.inl q1)])]
    · rw [if_neg q1, am_B60_18 hw hi, am_sb_at, am_s31 hw, am_bd_v, am_sb_at]
      simp only [Nat.reduceAdd]
      rw [am_B60_28]
      by_cases q2 : am_gt (Y 7) 4 (Y 2 i) = 1
      · rw [if_pos (fun z => by rw [am_b_0] at z; exact z q2), am_B60_67, w1, h2 Y u (fun j hj => hg j (by omega)), ay_rg_nx (by omega) (by rw [← g0, ay_rd, if_pos (Or.inr q2)])]
      · have fin : ∀ x, ay_rby Y w i = x → am_den 60 (47, [some (am_A (b, 0)), some (am_I w), some (am_I i), u], [am_I x], E, am_sb M b Y) = some (.inl none, E, am_sb M b (am_rg Y 1 i 24 g)) := by
          intro x hx
          rw [am_B60_47 hw hi hi, am_up_sb, am_sb_at, am_B60_67, w1, h2]
          · rw [ay_rg_up (by omega) (by rw [← g0, ay_rd, if_neg (show ¬(Y 2 i = -1 ∨ am_gt (Y 7) 4 (Y 2 i) = 1) from fun z => z.elim q1 q2), hx])]
          · intro j hj
            have hj2 := hg j (by omega)
            rw [← hj2]
            have e1 : am_uy Y 1 i (if am_w (Y 1 i + x) < 99 then am_w (Y 1 i + x) else 99) 1 j = Y 1 j := ay_uy_ne (Or.inr (by omega))
            unfold ay_rd ay_rby ay_dep
            rw [e1]
            rfl
        rw [if_neg (fun z => z (by rw [am_b_0]; exact q2)), am_B60_31 hw, am_s40 hw, am_bd_v, am_sb_at]
        simp only [Nat.reduceAdd]
        rw [am_B60_36]
        by_cases q3 : 1 < ay_dep Y i
        · have q4 : 1 < am_dp (am_gt (Y 3) 24) 24 (am_gt (Y 3) 24 i) := q3
          rw [if_pos q4, am_B60_44]
          exact fin _ (by rw [ay_rby, if_neg (by omega)])
        · have q4 : ¬ 1 < am_dp (am_gt (Y 3) 24) 24 (am_gt (Y 3) 24 i) := q3
          rw [if_neg q4, am_B60_40]
          exact fin _ (by rw [ay_rby, if_pos (by omega)])
theorem ay_60 (hw : am_WY E b) {u v : Option am_V} : am_den 60 (0, [some (am_A (b, 0)), some (am_I w), u, v], [], E, M) = some (.inl none, E, am_sb M b (ay_rain (M b) w)) := by
  rw [am_B60_0]
  have h := ay_60l (w := w) (M := M) hw 24 0 (M b) v rfl (g := ay_rd (M b) w) (fun _ _ => rfl)
  rw [am_sb_self] at h
  exact h
theorem ay_61l (hw : am_WY E b) {z : Int} : ∀ (m i : Nat) (Y : Nat → Int → Int), i + m = 24 → am_den 61 (16, [some (am_A (b, 0)), some (am_I p), some (am_I z), some (am_I i)], [], E, am_sb M b Y) = some (.inl (some (am_I (am_w (ay_ml m Y p i 0 11 - z)))), E, am_sb M b (ay_ml m Y p i)) := by
  intro m
  induction m with
  | zero =>
    intro i Y h
    rw [am_B61_16, if_pos (by omega), am_B61_49 hw, am_sb_at, ay_ml]
  | succ m ih =>
    intro i Y h
    have hi : (0 : Int) ≤ (i : Int) ∧ (i : Int) < ((24 : Nat) : Int) := by omega
    have w1 : am_w ((i : Int) + 1) = i + 1 := am_wi (by omega) (by omega)
    have h2 := fun Y => ih (i + 1) Y (by omega)
    rw [show ((i + 1 : Nat) : Int) = (i : Int) + 1 by omega] at h2
    rw [am_B61_16, if_neg (by omega), am_B61_22 hw hi, am_sb_at, ay_ml]
    by_cases q1 : Y 2 i = p
    · rw [if_neg (fun q => q q1), if_pos q1, am_B61_32 hw, am_s53 hw, am_bd_u, am_sb_at, am_sb_sb]
      simp only [Nat.reduceAdd]
      rw [am_B61_37 hw, am_s50 hw, am_bd_u, am_sb_at, am_sb_sb]
      simp only [Nat.reduceAdd]
      rw [am_B61_43, w1]
      exact h2 _
    · rw [if_pos q1, if_neg q1, am_B61_43, w1]
      exact h2 _
theorem ay_61 (hw : am_WY E b) {u v : Option am_V} : am_den 61 (0, [some (am_A (b, 0)), some (am_I p), u, v], [], E, M) = some (.inl (some (am_I (am_w (ay_mend (M b) p 0 11 - M b 0 11)))), E, am_sb M b (ay_mend (M b) p)) := by
  rw [am_B61_0 hw, am_s113p hw.2.2.2.1, am_bd_u]
  simp only [Nat.reduceAdd]
  rw [am_B61_14]
  exact ay_61l (p := p) (M := M) hw 24 0 _ rfl
end YARD14
