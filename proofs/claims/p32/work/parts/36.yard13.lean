/-! ===== specs: a yard's changes ===== -/
def ay_take (Y : Nat → Int → Int) (l : Int) : Nat → Int → Int := am_rmv (am_uy Y 0 10 (am_w (Y 0 10 + 1))) l
def ay_bn1 (Y : Nat → Int → Int) (p : Int) : Nat → Int → Int := am_uy Y 0 9 (am_w (Y 0 9 + 1))
def ay_bn2 (Y : Nat → Int → Int) (d : Int) : Nat → Int → Int := if d ≤ Y 0 16 then am_uy Y 0 12 (am_w (Y 0 12 + am_w (100 - d))) else am_uy Y 0 13 (am_w (Y 0 13 + 1))
def ay_bn0 (Y : Nat → Int → Int) (p : Int) : Nat → Int → Int := ay_bn2 (ay_bn1 Y p) (ay_td Y p)
def ay_burn (Y : Nat → Int → Int) (p : Int) : Nat → Int → Int := am_rmv (ay_bn0 Y p) (am_gt (ay_bn0 Y p 6) 4 p)
def ay_de : Nat → (Nat → Int → Int) → Int → Nat → Int → Int
  | 0, Y, _ => Y
  | n + 1, Y, p => if ay_why Y p = 0 then ay_de n (ay_burn Y p) p else Y
def ay_jp0 (Y : Nat → Int → Int) (p q : Int) : Nat → Int → Int := am_pt (am_pt (am_jo Y (am_gt (Y 6) 4 p) (am_gt (Y 6) 4 q)).1 6 4 p (am_jo Y (am_gt (Y 6) 4 p) (am_gt (Y 6) 4 q)).2) 6 4 q (-1)
def ay_mv (Y : Nat → Int → Int) (p q l : Int) : Int := if Y 2 l = q then p else Y 2 l
def ay_jp (Y : Nat → Int → Int) (p q : Int) : Nat → Int → Int := am_rg (ay_jp0 Y p q) 2 0 24 (ay_mv (ay_jp0 Y p q) p q)
def ay_dep (Y : Nat → Int → Int) (l : Int) : Int := am_dp (am_gt (Y 3) 24) 24 (am_gt (Y 3) 24 l)
def ay_wby (Y : Nat → Int → Int) (w l : Int) : Int := if am_gt (Y 7) 4 (Y 2 l) = 1 then am_w (w.tdiv 4) else if ay_dep Y l ≤ 1 then w else am_w (w.tdiv 2)
def ay_wd (Y : Nat → Int → Int) (w l : Int) : Int := if Y 2 l = -1 then Y 1 l else if 0 < am_w (Y 1 l - ay_wby Y w l) then am_w (Y 1 l - ay_wby Y w l) else 0
def ay_wind (Y : Nat → Int → Int) (w : Int) : Nat → Int → Int := am_rg Y 1 0 24 (ay_wd Y w)
def ay_rby (Y : Nat → Int → Int) (w l : Int) : Int := if ay_dep Y l ≤ 1 then w else am_w (w.tdiv 3)
def ay_rd (Y : Nat → Int → Int) (w l : Int) : Int := if Y 2 l = -1 ∨ am_gt (Y 7) 4 (Y 2 l) = 1 then Y 1 l else if am_w (Y 1 l + ay_rby Y w l) < 99 then am_w (Y 1 l + ay_rby Y w l) else 99
def ay_rain (Y : Nat → Int → Int) (w : Int) : Nat → Int → Int := am_rg Y 1 0 24 (ay_rd Y w)
def ay_unl (Y : Nat → Int → Int) (l : Int) : Nat → Int → Int := am_pt (am_pt (am_pt Y 3 24 l (-1)) 4 24 l (-1)) 5 24 l (-1)
def ay_ml : Nat → (Nat → Int → Int) → Int → Int → Nat → Int → Int
  | 0, Y, _, _ => Y
  | n + 1, Y, p, l => ay_ml n (if Y 2 l = p then am_ci (ay_unl Y l) p l else Y) p (l + 1)
def ay_mend (Y : Nat → Int → Int) (p : Int) : Nat → Int → Int := ay_ml 24 (am_pt Y 6 4 p (-1)) p 0
def ay_nt1 (Y : Nat → Int → Int) : Nat → Int → Int := if ay_dr Y (Y 0 7).toNat = -1 then am_uy Y 0 14 (am_w (Y 0 14 + 1)) else ay_burn Y (ay_dr Y (Y 0 7).toNat)
def ay_nts : Nat → (Nat → Int → Int) → Nat → Int → Int
  | 0, Y => Y
  | n + 1, Y => ay_nts n (ay_nt1 Y)
theorem ay_uy_x {Y : Nat → Int → Int} {c c' : Nat} {i v j : Int} : am_uy Y c i v c' j = if c' = c ∧ j = i then v else Y c' j := by
  unfold am_uy
  by_cases h : c' = c
  · subst h
    by_cases h2 : j = i <;> simp [h2]
  · simp [h]
theorem ay_uy_ne {Y : Nat → Int → Int} {c c' : Nat} {i v j : Int} (h : c' ≠ c ∨ j ≠ i) : am_uy Y c i v c' j = Y c' j := by
  rw [ay_uy_x, if_neg (fun q => h.elim (fun a => a q.1) (fun a => a q.2))]
theorem ay_uy_eq {Y : Nat → Int → Int} {c : Nat} {i v : Int} : am_uy Y c i v c i = v := by
  rw [ay_uy_x, if_pos ⟨rfl, rfl⟩]
theorem ay_uy_self {Y : Nat → Int → Int} {c : Nat} {i : Int} : am_uy Y c i (Y c i) = Y := by
  funext c' j
  rw [ay_uy_x]
  by_cases h : c' = c ∧ j = i
  · rw [if_pos h, h.1, h.2]
  · rw [if_neg h]
theorem ay_rg_up {Y : Nat → Int → Int} {c : Nat} {i n v : Int} {g : Int → Int} (h : i < n) (hv : v = g i) : am_rg (am_uy Y c i v) c (i + 1) n g = am_rg Y c i n g := by
  rw [hv]
  exact am_rg_up h
theorem ay_rg_nx {Y : Nat → Int → Int} {c : Nat} {i n : Int} {g : Int → Int} (h : i < n) (hv : Y c i = g i) : am_rg Y c (i + 1) n g = am_rg Y c i n g := by
  have e := ay_rg_up (Y := Y) (c := c) (v := Y c i) (g := g) h hv
  rw [ay_uy_self] at e
  exact e
section YARD13
variable {E : am_E} {M : am_M} {b : Nat} {p q l w : Int}
theorem ay_54 (hw : am_WY E b) : am_den 54 (0, [some (am_A (b, 0)), some (am_I l)], [], E, M) = some (.inl (some (am_I (am_w (ay_take (M b) l 0 11 - M b 0 11)))), E, am_sb M b (ay_take (M b) l)) := by
  rw [am_B54_0 hw, am_up_0, am_B54_10 hw, am_s52 hw, am_bd_v, am_sb_at, am_sb_sb]
  simp only [Nat.reduceAdd]
  rw [am_B54_15]
  rfl
theorem ay_55 (hw : am_WY E b) {u : Option am_V} : am_den 55 (0, [some (am_A (b, 0)), some (am_I p), u], [], E, M) = some (.inl (some (am_I (am_w (ay_burn (M b) p 0 11 - M b 0 11)))), E, am_sb M b (ay_burn (M b) p)) := by
  rw [am_B55_0 hw, ay_30 hw, am_bd_v]
  simp only [Nat.reduceAdd]
  rw [am_B55_5 hw, am_up_0, am_B55_16 hw, am_sb_at]
  have e : am_uy (M b) 0 9 (am_w (M b 0 9 + 1)) = ay_bn1 (M b) p := rfl
  rw [e]
  have fin : ∀ (Y : Nat → Int → Int) (x : Int), Y 0 11 = M b 0 11 → am_den 55 (50, [some (am_A (b, 0)), some (am_I p), some (am_I x)], [], E, am_sb M b Y) = some (.inl (some (am_I (am_w (am_rmv Y (am_gt (Y 6) 4 p) 0 11 - M b 0 11)))), E, am_sb M b (am_rmv Y (am_gt (Y 6) 4 p))) := by
    intro Y x hx
    rw [am_B55_50 hw, am_s28 hw, am_bd_v, am_sb_at]
    simp only [Nat.reduceAdd]
    rw [am_B55_56 hw, am_s52 hw, am_bd_v, am_sb_at, am_sb_sb, hx]
    simp only [Nat.reduceAdd]
    rw [am_B55_59]
  by_cases h : ay_bn1 (M b) p 0 16 < ay_td (M b) p
  · have e2 : ay_bn0 (M b) p = am_uy (ay_bn1 (M b) p) 0 13 (am_w (ay_bn1 (M b) p 0 13 + 1)) := if_neg (by omega)
    rw [if_pos h, am_B55_40 hw, am_sb_at, am_up_sb, ← e2, fin _ _ (by rw [e2]; rfl)]
    rfl
  · have e2 : ay_bn0 (M b) p = am_uy (ay_bn1 (M b) p) 0 12 (am_w (ay_bn1 (M b) p 0 12 + am_w (100 - ay_td (M b) p))) := if_pos (by omega)
    rw [if_neg h, am_B55_24 hw, am_sb_at, am_up_sb, ← e2, am_B55_37, fin _ _ (by rw [e2]; rfl)]
    rfl
theorem ay_56l (hw : am_WY E b) {z : Int} : ∀ (m i : Nat) (Y : Nat → Int → Int), i + m = 24 → am_den 56 (7, [some (am_A (b, 0)), some (am_I p), some (am_I z), some (am_I i)], [], E, am_sb M b Y) = some (.inl (some (am_I (am_w (ay_de m Y p 0 11 - z)))), E, am_sb M b (ay_de m Y p)) := by
  intro m
  induction m with
  | zero =>
    intro i Y h
    rw [am_B56_7, if_pos (by omega), am_B56_33 hw, am_sb_at, ay_de]
  | succ m ih =>
    intro i Y h
    have w1 : am_w ((i : Int) + 1) = i + 1 := am_wi (by omega) (by omega)
    have h2 := fun Y => ih (i + 1) Y (by omega)
    rw [show ((i + 1 : Nat) : Int) = (i : Int) + 1 by omega] at h2
    rw [am_B56_7, if_neg (by omega), am_B56_13 hw, ay_39 hw, am_bd_v, am_sb_at]
    simp only [Nat.reduceAdd]
    rw [am_B56_18, ay_de]
    by_cases q1 : ay_why Y p = 0
    · rw [if_neg (fun q => q q1), if_pos q1, am_B56_21 hw, ay_55 hw, am_bd_v, am_sb_at, am_sb_sb]
      simp only [Nat.reduceAdd]
      rw [am_B56_26, w1]
      exact h2 _
    · rw [if_pos q1, if_neg q1, am_B56_33 hw, am_sb_at]
theorem ay_56 (hw : am_WY E b) {u v : Option am_V} : am_den 56 (0, [some (am_A (b, 0)), some (am_I p), u, v], [], E, M) = some (.inl (some (am_I (am_w (ay_de 24 (M b) p 0 11 - M b 0 11)))), E, am_sb M b (ay_de 24 (M b) p)) := by
  rw [am_B56_0 hw]
  have h := ay_56l (p := p) (M := M) (z := M b 0 11) hw 24 0 (M b) rfl
  rw [am_sb_self] at h
  exact h
theorem ay_57l (hw : am_WY E b) {z : Int} {g : Int → Int} : ∀ (m i : Nat) (Y : Nat → Int → Int), i + m = 24 → (∀ j : Int, i ≤ j → ay_mv Y p q j = g j) → am_den 57 (39, [some (am_A (b, 0)), some (am_I p), some (am_I q), some (am_I z), some (am_I i)], [], E, am_sb M b Y) = some (.inl (some (am_I (am_w (Y 0 11 - z)))), E, am_sb M b (am_rg Y 2 i 24 g)) := by
  intro m
  induction m with
  | zero =>
    intro i Y h hg
    rw [am_B57_39, if_pos (by omega), am_B57_71 hw, am_sb_at, am_rg_nil (by omega)]
  | succ m ih =>
    intro i Y h hg
    have hi : (0 : Int) ≤ (i : Int) ∧ (i : Int) < ((24 : Nat) : Int) := by omega
    have w1 : am_w ((i : Int) + 1) = i + 1 := am_wi (by omega) (by omega)
    have h2 := fun Y => ih (i + 1) Y (by omega)
    rw [show ((i + 1 : Nat) : Int) = (i : Int) + 1 by omega] at h2
    have g0 := hg i (by omega)
    rw [am_B57_39, if_neg (by omega), am_B57_46 hw hi, am_sb_at]
    by_cases q1 : Y 2 i = q
    · rw [if_neg (fun q => q q1), am_B57_57 hw hi, am_up_sb, am_B57_65, w1, h2]
      · rw [ay_rg_up (by omega) (by rw [← g0, ay_mv, if_pos q1])]
        rfl
      · intro j hj
        have hj2 := hg j (by omega)
        rw [← hj2]
        have e : am_uy Y 2 i p 2 j = Y 2 j := ay_uy_ne (Or.inr (by omega))
        unfold ay_mv
        rw [e]
    · rw [if_pos q1, am_B57_65, w1, h2 Y (fun j hj => hg j (by omega)), ay_rg_nx (by omega) (by rw [← g0, ay_mv, if_neg q1])]
theorem ay_57 (hw : am_WY E b) {u v : Option am_V} : am_den 57 (0, [some (am_A (b, 0)), some (am_I p), some (am_I q), u, v], [], E, M) = some (.inl (some (am_I (am_w (ay_jp (M b) p q 0 11 - M b 0 11)))), E, am_sb M b (ay_jp (M b) p q)) := by
  simp only [am_B57_0 hw, am_s28 hw, am_bd_v, Nat.reduceAdd, am_B57_16 hw, am_B57_21 hw, am_s51 hw, am_B57_24, am_s113p hw.2.2.2.1, am_bd_u, am_B57_27 hw, am_sb_at, am_sb_sb, am_B57_36]
  have h := ay_57l (p := p) (q := q) (M := M) (z := M b 0 11) hw 24 0 (ay_jp0 (M b) p q) rfl (g := ay_mv (ay_jp0 (M b) p q) p q) (fun _ _ => rfl)
  exact h
theorem ay_58 (hw : am_WY E b) {u : Option am_V} : am_den 58 (0, [some (am_A (b, 0)), some (am_I p), some (am_I w), u], [], E, M) = some (.inl (some (am_I (am_b (am_gt (M b 7) 4 p = 1)))), E, am_sb M b (am_pt (M b) 7 4 p (if w = 0 then 0 else 1))) := by
  rw [am_B58_0 hw, am_s31 hw, am_bd_v]
  simp only [Nat.reduceAdd]
  rw [am_B58_5 hw]
  by_cases h : w = 0
  · rw [if_pos h, if_pos h, am_B58_19, am_B58_20, am_s113p hw.2.2.2.2, am_bd_u]
    simp only [Nat.reduceAdd]
    rw [am_B58_23 am_b_z]
  · rw [if_neg h, if_neg h, am_B58_15, am_B58_20, am_s113p hw.2.2.2.2, am_bd_u]
    simp only [Nat.reduceAdd]
    rw [am_B58_23 am_b_z]
end YARD13
