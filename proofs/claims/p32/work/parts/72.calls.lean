/-! ===== an object's state, and what each call makes of it (written by wip/p32/gens/calls.py) ===== -/
def xn (n : Nat) (E : am_E) : am_E := (E.1, E.2.1 + n, E.2.2)
theorem xn_k {n : Nat} {E : am_E} {r : am_R} : am_kd (xn n E) r = am_kd E r := rfl
theorem xn_f {n : Nat} {E : am_E} {r : am_R} {j : Nat} : am_rf (xn n E) r j = am_rf E r j := rfl
theorem xn_o {n : Nat} {E : am_E} {r : am_R} {c : Nat} : am_ob (xn n E) r c = am_ob E r c := by unfold am_ob; rw [xn_k]
theorem xn_W {n : Nat} {E : am_E} (hE : am_Wr E) : am_Wr (xn n E) := by
  unfold am_Wr am_WY at *
  simp only [xn_k, xn_f, xn_o]
  exact hE
theorem xn_rl {n : Nat} {E : am_E} : rl_E (xn n E) = xn n (rl_E E) := rfl
theorem xn_xn {m n : Nat} {E : am_E} : xn m (xn n E) = xn (n + m) E := by
  unfold xn
  simp only [Nat.add_assoc]
theorem cl_rl {M : am_M} (h : cl M) : cl (rl_M M) := by
  intro b cc j hb hn
  refine h (rl_s b) cc j (fun z => hb (rl_s45.mp z)) (fun z => hn ?_)
  obtain ⟨k, n, e, z⟩ := z
  refine ⟨k, n, ?_, z⟩
  rw [← rl_kk]
  exact e
/-- wired on both sides, all cells made, clean -/
def wl (E : am_E) (M : am_M) : Prop := am_Wr E ∧ am_Wr (rl_E E) ∧ E.1 = 368 ∧ cl M
theorem wl_rl {E : am_E} {M : am_M} (h : wl E M) : wl (rl_E E) (rl_M M) := ⟨h.2.1, by rw [rl_EE]; exact h.1, h.2.2.1, cl_rl h.2.2.2⟩
theorem wl_n {E : am_E} {M N : am_M} {n : Nat} (h : wl E M) (hN : cl N) : wl (xn n E) N := ⟨xn_W h.1, by rw [xn_rl]; exact xn_W h.2.1, h.2.2.1, hN⟩
/-- the cells that count of the first object -/
def st (M : am_M) : am_M := fun b => if b ≤ 16 ∨ b = 31 ∨ b = 32 ∨ b = 33 then M b else fun _ _ => 0
theorem st_at {M : am_M} {b : Nat} (h : b ≤ 16 ∨ b = 31 ∨ b = 32 ∨ b = 33) : st M b = M b := if_pos h
theorem st_ext {M N : am_M} (h : ∀ b, b ≤ 16 ∨ b = 31 ∨ b = 32 ∨ b = 33 → M b = N b) : st M = st N := by
  funext b
  unfold st
  by_cases q : b ≤ 16 ∨ b = 31 ∨ b = 32 ∨ b = 33
  · rw [if_pos q, if_pos q, h b q]
  · rw [if_neg q, if_neg q]
theorem st_st {M : am_M} : st (st M) = st M := st_ext (fun _ h => st_at h)
theorem st_sb {M : am_M} {b : Nat} {Y : Nat → Int → Int} (h : ¬(b ≤ 16 ∨ b = 31 ∨ b = 32 ∨ b = 33)) : st (am_sb M b Y) = st M := st_ext (fun b' h' => am_sb_ne (fun z => h (z ▸ h')))
theorem st_cg {M N : am_M} {b : Nat} {Y : Nat → Int → Int} (h : st M = st N) : st (am_sb M b Y) = st (am_sb N b Y) := by
  refine st_ext (fun b' h' => ?_)
  unfold am_sb
  by_cases q : b' = b
  · rw [if_pos q, if_pos q]
  · rw [if_neg q, if_neg q, ← st_at (M := M) h', h, st_at h']
theorem st_o {M : am_M} : ak_o (st M) = ak_o M := rfl
theorem st_c {M : am_M} : ak_c (st M) = ak_c M := rfl
theorem st_kp {M : am_M} {Y : Nat → Int → Int} : st (am_sb (ak_kp (st M)) 0 Y) = st (am_sb (ak_kp M) 0 Y) := by
  refine st_cg ?_
  unfold ak_kp
  rw [st_o, st_c]
  have ht := ak_t_le (o := ak_o M) (c := ak_c M)
  have e : st M (ak_t (ak_o M) (ak_c M)) = M (ak_t (ak_o M) (ak_c M)) := st_at (Or.inl (by omega))
  rw [e]
  exact st_cg (st_cg st_st)
theorem st_gb {M : am_M} : st (ak_gb (st M)) = st (ak_gb M) := by
  unfold ak_gb
  have ht := ak_t_le (o := M 31 0 1) (c := M 31 0 2 - 1)
  have e : st M (ak_t (st M 31 0 1) (st M 31 0 2 - 1)) = M (ak_t (M 31 0 1) (M 31 0 2 - 1)) := st_at (Or.inl (by show ak_t (M 31 0 1) (M 31 0 2 - 1) ≤ 16; omega))
  rw [e]
  exact st_cg (st_cg st_st)
/-- an action done; undone; a slot filled; a slot given back -/
def sd (S : am_M) (Y : Nat → Int → Int) : am_M := st (am_sb (ak_kp S) 0 Y)
def su (S : am_M) : am_M := if S 31 0 2 = 0 then S else st (ak_gb S)
def sk (S : am_M) (w : Int) : am_M := if w = 0 ∨ w = 1 then st (am_up (am_sb S (if w = 0 then 15 else 16) (am_yp (S 0) (S (if w = 0 then 15 else 16)))) (if w = 0 then 32 else 33, 0) 1 1) else S
def sg (S : am_M) (w : Int) : am_M := if w = 0 ∨ w = 1 then (if S (if w = 0 then 32 else 33) 0 1 = 0 then S else st (am_sb (am_sb S 0 (am_yp (S (if w = 0 then 15 else 16)) (S 0))) 31 (am_uy (S 31) 0 2 0))) else S
/-- what holds of a state between two calls: lifts are at most B -/
def si (B : Int) (S : am_M) : Prop := av_G B (S 0) ∧ ak_ok S ∧ (∀ j : Int, 0 ≤ j → j < S 31 0 2 → av_G B (S (ak_t (S 31 0 1) j))) ∧ (∀ s : Nat, s < 2 → (S (32 + s) 0 1 = 0 ∨ S (32 + s) 0 1 = 1) ∧ (S (32 + s) 0 1 = 1 → av_G B (S (15 + s))))
def cs (K : Nat) (E : am_E) (M : am_M) (X : Option am_Rs) (v : Int) (S : am_M) : Prop := ∃ n N, n ≤ K ∧ X = some (.inl (some (am_I v)), xn n E, N) ∧ st N = S ∧ (∀ b, 35 ≤ b → N b = M b) ∧ wl (xn n E) N
def cq (K : Nat) (E : am_E) (M : am_M) (X : Option am_Rs) (v : Int) (S : am_M) : Prop := ∃ n N, n ≤ K ∧ X = some (.inl (some (am_I v)), xn n E, N) ∧ st (rl_M N) = S ∧ (∀ b, b < 35 ∨ b = 45 → N b = M b) ∧ wl (xn n E) N
theorem cq_of {K k : Nat} {E : am_E} {M : am_M} {ls ls' : List (Option am_V)} {v : Int} {S : am_M} (hw : wl E M) (h : cs K (rl_E E) (rl_M M) (am_den k (0, ls, [], rl_E E, rl_M M)) v S) (hl : rl_l ls = ls') : cq K E M (am_den k (0, ls', [], E, M)) v S := by
  obtain ⟨n, N, hn, hX, hS, hb, hW⟩ := h
  have h1 := rl_den (show (rl_E E).1 = 368 from hw.2.2.1) hX
  have e1 : rl_c (0, ls, [], rl_E E, rl_M M) = (0, ls', [], E, M) := by
    unfold rl_c
    dsimp only
    rw [rl_EE, rl_MM, hl]
    rfl
  rw [e1] at h1
  have e2 : rl_o (.inl (some (am_I v)), xn n (rl_E E), N) = (.inl (some (am_I v)), xn n E, rl_M N) := by
    unfold rl_o
    dsimp only
    rw [xn_rl, rl_EE]
    rfl
  rw [e2] at h1
  refine ⟨n, rl_M N, hn, h1, by rw [rl_MM]; exact hS, fun b hb' => ?_, ?_⟩
  · have e3 : N (rl_s b) = rl_M M (rl_s b) := hb _ (by unfold rl_s; repeat' split
                                                       all_goals omega)
    show N (rl_s b) = M b
    rw [e3]
    unfold rl_M
    rw [rl_ss]
  · have := wl_rl hW
    rw [xn_rl, rl_EE] at this
    exact this
section CALLS
variable {E : am_E} {M : am_M} {B : Int} {x y z : Int}
theorem cs_v {k n : Nat} {ls : List (Option am_V)} {v : Int} {N S : am_M} (hw : wl E M) (h : am_den k (0, ls, [], E, M) = some (.inl (some (am_I v)), xn n E, N)) (hS : st N = S) (hb : ∀ b, 35 ≤ b → N b = M b) : cs n E M (am_den k (0, ls, [], E, M)) v S :=
  ⟨n, N, Nat.le_refl _, h, hS, hb, wl_n hw ((cl_den (c := (0, ls, [], E, M)) hw.2.2.1 h).2 hw.2.2.2)⟩
theorem cs_le {J K : Nat} {X : Option am_Rs} {v : Int} {S : am_M} (h : cs J E M X v S) (hJ : J ≤ K) : cs K E M X v S := by
  obtain ⟨n, N, hn, h⟩ := h
  exact ⟨n, N, by omega, h⟩
theorem cs_sd {Y : Nat → Int → Int} : st (am_sb (ak_kp M) 0 Y) = sd (st M) Y := st_kp.symm
theorem cs_hi {Y : Nat → Int → Int} : ∀ b, 35 ≤ b → am_sb (ak_kp M) 0 Y b = M b := fun b hb => by
  have ht := ak_t_le (o := ak_o M) (c := ak_c M)
  unfold ak_kp
  rw [am_sb_ne (by omega), am_sb_ne (by omega), am_sb_ne (by omega)]
theorem si_d (h : si B (st M)) : ac_dm M 0 := fun i a b => h.1.1.1.2.2.1 i a b
theorem si_7 (h : si B (st M)) : 0 ≤ M 0 0 7 ∧ M 0 0 7 ≤ 4 := h.1.1.1.1
theorem si_m (h : si B (st M)) : ak_ok M := h.2.1
theorem wl_cp (hw : wl E M) : ac_cp M = M 0 := cl_yp (cl_yd hw.2.2.2 (by decide)) (cl_yd hw.2.2.2 (by decide))
def sv_about (Y : Nat → Int → Int) (x y z : Int) : Int := if 0 ≤ x ∧ x ≤ 11 then (ac_ab Y x) else (-9999002)
theorem cs_about (hw : wl E M) (hi : si B (st M)) : cs 1 E M (am_den 142 (0, [some (am_A (34, 0)), some (am_I 2), some (am_I x), some (am_I y), some (am_I z)], [], E, M)) (sv_about (M 0) x y z) (st M) := by
  have h := ac_71 (w := x) hw.1 (si_d hi) (si_7 hi)
  have e0 : st M 0 = M 0 := rfl
  unfold sv_about
  by_cases q0 : 0 ≤ x ∧ x ≤ 11
  · rw [if_pos q0] at h
    rw [if_pos q0]
    exact cs_le (cs_v hw (n := 0) (cv_2 hw.1 h) rfl (fun _ _ => rfl)) (by decide)
  · rw [if_neg q0] at h
    rw [if_neg q0]
    exact cs_v hw (n := 1) (cx_2_0 hw.1 h) rfl (fun _ _ => rfl)
def sv_told (Y : Nat → Int → Int) (x y z : Int) : Int := if 0 ≤ x ∧ x < Y 0 7 then (if 0 ≤ y ∧ y ≤ 6 then (ac_po Y x y) else (-9999002)) else (-9999001)
theorem cs_told (hw : wl E M) (hi : si B (st M)) : cs 1 E M (am_den 142 (0, [some (am_A (34, 0)), some (am_I 3), some (am_I x), some (am_I y), some (am_I z)], [], E, M)) (sv_told (M 0) x y z) (st M) := by
  have h := ac_72 (p := x) (w := y) hw.1 (si_d hi)
  have e0 : st M 0 = M 0 := rfl
  unfold sv_told
  by_cases q0 : 0 ≤ x ∧ x < (M 0) 0 7
  · rw [if_pos q0] at h
    rw [if_pos q0]
    by_cases q1 : 0 ≤ y ∧ y ≤ 6
    · rw [if_pos q1] at h
      rw [if_pos q1]
      exact cs_le (cs_v hw (n := 0) (cv_3 hw.1 h) rfl (fun _ _ => rfl)) (by decide)
    · rw [if_neg q1] at h
      rw [if_neg q1]
      exact cs_v hw (n := 1) (cx_3_0 hw.1 h) rfl (fun _ _ => rfl)
  · rw [if_neg q0] at h
    rw [if_neg q0]
    exact cs_v hw (n := 1) (cx_3_2 hw.1 h) rfl (fun _ _ => rfl)
def sv_log (Y : Nat → Int → Int) (x y z : Int) : Int := if am_gt (Y 2) 24 x ≠ -1 then (if 0 ≤ y ∧ y ≤ 6 then (ac_lo Y x y) else (-9999002)) else (-9999001)
theorem cs_log (hw : wl E M) (hi : si B (st M)) : cs 1 E M (am_den 142 (0, [some (am_A (34, 0)), some (am_I 4), some (am_I x), some (am_I y), some (am_I z)], [], E, M)) (sv_log (M 0) x y z) (st M) := by
  have h := ac_73 (E := E) (M := M) (l := x) (w := y) hw.1
  have e0 : st M 0 = M 0 := rfl
  unfold sv_log
  by_cases q0 : am_gt ((M 0) 2) 24 x ≠ -1
  · rw [if_pos q0] at h
    rw [if_pos q0]
    by_cases q1 : 0 ≤ y ∧ y ≤ 6
    · rw [if_pos q1] at h
      rw [if_pos q1]
      exact cs_le (cs_v hw (n := 0) (cv_4 hw.1 h) rfl (fun _ _ => rfl)) (by decide)
    · rw [if_neg q1] at h
      rw [if_neg q1]
      exact cs_v hw (n := 1) (cx_4_0 hw.1 h) rfl (fun _ _ => rfl)
  · rw [if_neg q0] at h
    rw [if_neg q0]
    exact cs_v hw (n := 1) (cx_4_2 hw.1 h) rfl (fun _ _ => rfl)
def sv_ranked (Y : Nat → Int → Int) (x y z : Int) : Int := if (0 ≤ x ∧ x < Y 0 7) ∧ (0 ≤ y ∧ y < ac_in Y x) then (if z = 0 ∨ z = 1 then (if 0 < am_oa Y x then (-9999003) else (if z = 0 then ay_rk Y y.toNat 0 (am_gt (Y 6) 4 x) else am_fd (am_rp Y x y) 24 0)) else (-9999002)) else (-9999001)
theorem cs_ranked (hw : wl E M) (hi : si B (st M)) : cs 1 E M (am_den 142 (0, [some (am_A (34, 0)), some (am_I 5), some (am_I x), some (am_I y), some (am_I z)], [], E, M)) (sv_ranked (M 0) x y z) (st M) := by
  have h := ac_74 (E := E) (M := M) (p := x) (l := y) (w := z) hw.1
  have e0 : st M 0 = M 0 := rfl
  unfold sv_ranked
  by_cases q0 : (0 ≤ x ∧ x < (M 0) 0 7) ∧ (0 ≤ y ∧ y < ac_in (M 0) x)
  · rw [if_pos q0] at h
    rw [if_pos q0]
    by_cases q1 : z = 0 ∨ z = 1
    · rw [if_pos q1] at h
      rw [if_pos q1]
      by_cases q2 : 0 < am_oa (M 0) x
      · rw [if_pos q2] at h
        rw [if_pos q2]
        exact cs_v hw (n := 1) (cx_5_1 hw.1 h) rfl (fun _ _ => rfl)
      · rw [if_neg q2] at h
        rw [if_neg q2]
        exact cs_le (cs_v hw (n := 0) (cv_5 hw.1 h) rfl (fun _ _ => rfl)) (by decide)
    · rw [if_neg q1] at h
      rw [if_neg q1]
      exact cs_v hw (n := 1) (cx_5_0 hw.1 h) rfl (fun _ _ => rfl)
  · rw [if_neg q0] at h
    rw [if_neg q0]
    exact cs_v hw (n := 1) (cx_5_2 hw.1 h) rfl (fun _ _ => rfl)
def sv_pile (Y : Nat → Int → Int) (x y z : Int) : Int := if Y 0 7 < 4 then (Y 0 7) else (-9999003)
def ss_pile (S : am_M) (x y z : Int) : am_M := if S 0 0 7 < 4 then (sd S (am_uy (S 0 ) 0 7 (S 0 0 7 + 1))) else S
theorem cs_pile (hw : wl E M) (hi : si B (st M)) : cs 1 E M (am_den 142 (0, [some (am_A (34, 0)), some (am_I 6), some (am_I x), some (am_I y), some (am_I z)], [], E, M)) (sv_pile (M 0) x y z) (ss_pile (st M) x y z) := by
  have h := ac_75 hw.1 (si_m hi) (si_7 hi)
  have e0 : st M 0 = M 0 := rfl
  unfold sv_pile ss_pile
  rw [e0]
  by_cases q0 : (M 0) 0 7 < 4
  · rw [if_pos q0] at h
    rw [if_pos q0, if_pos q0]
    exact cs_le (cs_v hw (n := 0) (cv_6 hw.1 h) cs_sd cs_hi) (by decide)
  · rw [if_neg q0] at h
    rw [if_neg q0, if_neg q0]
    exact cs_v hw (n := 1) (cx_6_1 hw.1 h) rfl (fun _ _ => rfl)
def sv_come (Y : Nat → Int → Int) (x y z : Int) : Int := if 0 ≤ x ∧ x < Y 0 7 then (if 0 ≤ y ∧ y ≤ 99 then (if Y 0 8 < 24 then (Y 0 8) else (-9999003)) else (-9999002)) else (-9999001)
def ss_come (S : am_M) (x y z : Int) : am_M := if 0 ≤ x ∧ x < S 0 0 7 then (if 0 ≤ y ∧ y ≤ 99 then (if S 0 0 8 < 24 then (sd S (am_lg (S 0 ) x y)) else S) else S) else S
theorem cs_come (hw : wl E M) (hi : si B (st M)) : cs 1 E M (am_den 142 (0, [some (am_A (34, 0)), some (am_I 7), some (am_I x), some (am_I y), some (am_I z)], [], E, M)) (sv_come (M 0) x y z) (ss_come (st M) x y z) := by
  have h := ac_76 (p := x) (w := y) hw.1 (si_m hi)
  have e0 : st M 0 = M 0 := rfl
  unfold sv_come ss_come
  rw [e0]
  by_cases q0 : 0 ≤ x ∧ x < (M 0) 0 7
  · rw [if_pos q0] at h
    rw [if_pos q0, if_pos q0]
    by_cases q1 : 0 ≤ y ∧ y ≤ 99
    · rw [if_pos q1] at h
      rw [if_pos q1, if_pos q1]
      by_cases q2 : (M 0) 0 8 < 24
      · rw [if_pos q2] at h
        rw [if_pos q2, if_pos q2]
        exact cs_le (cs_v hw (n := 0) (cv_7 hw.1 h) cs_sd cs_hi) (by decide)
      · rw [if_neg q2] at h
        rw [if_neg q2, if_neg q2]
        exact cs_v hw (n := 1) (cx_7_1 hw.1 h) rfl (fun _ _ => rfl)
    · rw [if_neg q1] at h
      rw [if_neg q1, if_neg q1]
      exact cs_v hw (n := 1) (cx_7_0 hw.1 h) rfl (fun _ _ => rfl)
  · rw [if_neg q0] at h
    rw [if_neg q0, if_neg q0]
    exact cs_v hw (n := 1) (cx_7_2 hw.1 h) rfl (fun _ _ => rfl)
def sv_draw (Y : Nat → Int → Int) (x y z : Int) : Int := if 0 ≤ x ∧ x < Y 0 7 then (ay_why Y x) else (-9999001)
def ss_draw (S : am_M) (x y z : Int) : am_M := if 0 ≤ x ∧ x < S 0 0 7 then (sd S (if ay_why (S 0 ) x = 0 then ay_burn (S 0 ) x else am_uy (S 0 ) 0 15 (am_w (S 0 0 15 + 1)))) else S
theorem cs_draw (hw : wl E M) (hi : si B (st M)) : cs 1 E M (am_den 142 (0, [some (am_A (34, 0)), some (am_I 8), some (am_I x), some (am_I y), some (am_I z)], [], E, M)) (sv_draw (M 0) x y z) (ss_draw (st M) x y z) := by
  have h := ac_77 (p := x) (u := none) hw.1 (si_m hi)
  have e0 : st M 0 = M 0 := rfl
  unfold sv_draw ss_draw
  rw [e0]
  by_cases q0 : 0 ≤ x ∧ x < (M 0) 0 7
  · rw [if_pos q0] at h
    rw [if_pos q0, if_pos q0]
    exact cs_le (cs_v hw (n := 0) (cv_8 hw.1 h) cs_sd cs_hi) (by decide)
  · rw [if_neg q0] at h
    rw [if_neg q0, if_neg q0]
    exact cs_v hw (n := 1) (cx_8_2 hw.1 h) rfl (fun _ _ => rfl)
def sv_take (Y : Nat → Int → Int) (x y z : Int) : Int := if am_gt (Y 2) 24 x ≠ -1 then (am_w (ay_take Y x 0 11 - Y 0 11)) else (-9999001)
def ss_take (S : am_M) (x y z : Int) : am_M := if am_gt (S 0 2) 24 x ≠ -1 then (sd S (ay_take (S 0 ) x)) else S
theorem cs_take (hw : wl E M) (hi : si B (st M)) : cs 1 E M (am_den 142 (0, [some (am_A (34, 0)), some (am_I 9), some (am_I x), some (am_I y), some (am_I z)], [], E, M)) (sv_take (M 0) x y z) (ss_take (st M) x y z) := by
  have h := ac_78 (l := x) hw.1 (si_m hi)
  have e0 : st M 0 = M 0 := rfl
  unfold sv_take ss_take
  rw [e0]
  by_cases q0 : am_gt ((M 0) 2) 24 x ≠ -1
  · rw [if_pos q0] at h
    rw [if_pos q0, if_pos q0]
    exact cs_le (cs_v hw (n := 0) (cv_9 hw.1 h) cs_sd cs_hi) (by decide)
  · rw [if_neg q0] at h
    rw [if_neg q0, if_neg q0]
    exact cs_v hw (n := 1) (cx_9_2 hw.1 h) rfl (fun _ _ => rfl)
def sv_join (Y : Nat → Int → Int) (x y z : Int) : Int := if (0 ≤ x ∧ x < Y 0 7) ∧ (0 ≤ y ∧ y < Y 0 7) then (if x ≠ y then (am_w (ay_jp Y x y 0 11 - Y 0 11)) else (-9999002)) else (-9999001)
def ss_join (S : am_M) (x y z : Int) : am_M := if (0 ≤ x ∧ x < S 0 0 7) ∧ (0 ≤ y ∧ y < S 0 0 7) then (if x ≠ y then (sd S (ay_jp (S 0 ) x y)) else S) else S
theorem cs_join (hw : wl E M) (hi : si B (st M)) : cs 1 E M (am_den 142 (0, [some (am_A (34, 0)), some (am_I 10), some (am_I x), some (am_I y), some (am_I z)], [], E, M)) (sv_join (M 0) x y z) (ss_join (st M) x y z) := by
  have h := ac_79 (p := x) (q := y) hw.1 (si_m hi)
  have e0 : st M 0 = M 0 := rfl
  unfold sv_join ss_join
  rw [e0]
  by_cases q0 : (0 ≤ x ∧ x < (M 0) 0 7) ∧ (0 ≤ y ∧ y < (M 0) 0 7)
  · rw [if_pos q0] at h
    rw [if_pos q0, if_pos q0]
    by_cases q1 : x ≠ y
    · rw [if_pos q1] at h
      rw [if_pos q1, if_pos q1]
      exact cs_le (cs_v hw (n := 0) (cv_10 hw.1 h) cs_sd cs_hi) (by decide)
    · rw [if_neg q1] at h
      rw [if_neg q1, if_neg q1]
      exact cs_v hw (n := 1) (cx_10_0 hw.1 h) rfl (fun _ _ => rfl)
  · rw [if_neg q0] at h
    rw [if_neg q0, if_neg q0]
    exact cs_v hw (n := 1) (cx_10_2 hw.1 h) rfl (fun _ _ => rfl)
def sv_rain (Y : Nat → Int → Int) (x y z : Int) : Int := if 1 ≤ x ∧ x ≤ 30 then (am_sm (am_oa (ay_rain Y x)) (Y 0 7).toNat) else (-9999002)
def ss_rain (S : am_M) (x y z : Int) : am_M := if 1 ≤ x ∧ x ≤ 30 then (sd S (ay_rain (S 0 ) x)) else S
theorem cs_rain (hw : wl E M) (hi : si B (st M)) : cs 1 E M (am_den 142 (0, [some (am_A (34, 0)), some (am_I 12), some (am_I x), some (am_I y), some (am_I z)], [], E, M)) (sv_rain (M 0) x y z) (ss_rain (st M) x y z) := by
  have h := ac_82 (w := x) hw.1 (si_m hi) (si_7 hi)
  have e0 : st M 0 = M 0 := rfl
  unfold sv_rain ss_rain
  rw [e0]
  by_cases q0 : 1 ≤ x ∧ x ≤ 30
  · rw [if_pos q0] at h
    rw [if_pos q0, if_pos q0]
    exact cs_le (cs_v hw (n := 0) (cv_12 hw.1 h) cs_sd cs_hi) (by decide)
  · rw [if_neg q0] at h
    rw [if_neg q0, if_neg q0]
    exact cs_v hw (n := 1) (cx_12_0 hw.1 h) rfl (fun _ _ => rfl)
def sv_mend (Y : Nat → Int → Int) (x y z : Int) : Int := if 0 ≤ x ∧ x < Y 0 7 then (am_w (ay_mend Y x 0 11 - Y 0 11)) else (-9999001)
def ss_mend (S : am_M) (x y z : Int) : am_M := if 0 ≤ x ∧ x < S 0 0 7 then (sd S (ay_mend (S 0 ) x)) else S
theorem cs_mend (hw : wl E M) (hi : si B (st M)) : cs 1 E M (am_den 142 (0, [some (am_A (34, 0)), some (am_I 13), some (am_I x), some (am_I y), some (am_I z)], [], E, M)) (sv_mend (M 0) x y z) (ss_mend (st M) x y z) := by
  have h := ac_83 (p := x) hw.1 (si_m hi)
  have e0 : st M 0 = M 0 := rfl
  unfold sv_mend ss_mend
  rw [e0]
  by_cases q0 : 0 ≤ x ∧ x < (M 0) 0 7
  · rw [if_pos q0] at h
    rw [if_pos q0, if_pos q0]
    exact cs_le (cs_v hw (n := 0) (cv_13 hw.1 h) cs_sd cs_hi) (by decide)
  · rw [if_neg q0] at h
    rw [if_neg q0, if_neg q0]
    exact cs_v hw (n := 1) (cx_13_2 hw.1 h) rfl (fun _ _ => rfl)
def sv_nights (Y : Nat → Int → Int) (x y z : Int) : Int := if 1 ≤ x ∧ x ≤ 9 then (am_w (ay_nts x.toNat Y 0 12 - Y 0 12)) else (-9999002)
def ss_nights (S : am_M) (x y z : Int) : am_M := if 1 ≤ x ∧ x ≤ 9 then (sd S (ay_nts x.toNat (S 0 ))) else S
theorem cs_nights (hw : wl E M) (hi : si B (st M)) : cs 1 E M (am_den 142 (0, [some (am_A (34, 0)), some (am_I 14), some (am_I x), some (am_I y), some (am_I z)], [], E, M)) (sv_nights (M 0) x y z) (ss_nights (st M) x y z) := by
  have h := ac_84 (w := x) hw.1 (si_m hi) (si_7 hi)
  have e0 : st M 0 = M 0 := rfl
  unfold sv_nights ss_nights
  rw [e0]
  by_cases q0 : 1 ≤ x ∧ x ≤ 9
  · rw [if_pos q0] at h
    rw [if_pos q0, if_pos q0]
    exact cs_le (cs_v hw (n := 0) (cv_14 hw.1 h) cs_sd cs_hi) (by decide)
  · rw [if_neg q0] at h
    rw [if_neg q0, if_neg q0]
    exact cs_v hw (n := 1) (cx_14_0 hw.1 h) rfl (fun _ _ => rfl)
def sv_lay (Y : Nat → Int → Int) (x y z : Int) : Int := if 0 ≤ x ∧ x ≤ 99 then (Y 0 16) else (-9999002)
def ss_lay (S : am_M) (x y z : Int) : am_M := if 0 ≤ x ∧ x ≤ 99 then (sd S (am_uy (S 0 ) 0 16 x)) else S
theorem cs_lay (hw : wl E M) (hi : si B (st M)) : cs 1 E M (am_den 142 (0, [some (am_A (34, 0)), some (am_I 15), some (am_I x), some (am_I y), some (am_I z)], [], E, M)) (sv_lay (M 0) x y z) (ss_lay (st M) x y z) := by
  have h := ac_85 (w := x) (u := none) hw.1 (si_m hi)
  have e0 : st M 0 = M 0 := rfl
  unfold sv_lay ss_lay
  rw [e0]
  by_cases q0 : 0 ≤ x ∧ x ≤ 99
  · rw [if_pos q0] at h
    rw [if_pos q0, if_pos q0]
    exact cs_le (cs_v hw (n := 0) (cv_15 hw.1 h) cs_sd cs_hi) (by decide)
  · rw [if_neg q0] at h
    rw [if_neg q0, if_neg q0]
    exact cs_v hw (n := 1) (cx_15_0 hw.1 h) rfl (fun _ _ => rfl)
def sv_till (Y : Nat → Int → Int) (x y z : Int) : Int := if 0 ≤ x ∧ x < Y 0 7 then (if 0 ≤ y ∧ y ≤ 99 then (ac_dt 24 Y x y 0) else (-9999002)) else (-9999001)
theorem cs_till (hw : wl E M) (hi : si B (st M)) : cs 1 E M (am_den 142 (0, [some (am_A (34, 0)), some (am_I 17), some (am_I x), some (am_I y), some (am_I z)], [], E, M)) (sv_till (M 0) x y z) (st M) := by
  have h := ac_87 (E := E) (M := M) (p := x) (w := y) (u1 := none) (u2 := none) (u3 := none) hw.1
  rw [wl_cp hw] at h
  have e0 : st M 0 = M 0 := rfl
  unfold sv_till
  by_cases q0 : 0 ≤ x ∧ x < (M 0) 0 7
  · rw [if_pos q0] at h
    rw [if_pos q0]
    by_cases q1 : 0 ≤ y ∧ y ≤ 99
    · rw [if_pos q1] at h
      rw [if_pos q1]
      exact cs_le (cs_v hw (n := 0) (cv_17 hw.1 h) (st_sb (by decide)) (fun b hb => am_sb_ne (by omega))) (by decide)
    · rw [if_neg q1] at h
      rw [if_neg q1]
      exact cs_v hw (n := 1) (cx_17_0 hw.1 h) rfl (fun _ _ => rfl)
  · rw [if_neg q0] at h
    rw [if_neg q0]
    exact cs_v hw (n := 1) (cx_17_2 hw.1 h) rfl (fun _ _ => rfl)
def sv_ifj (Y : Nat → Int → Int) (x y z : Int) : Int := if (0 ≤ x ∧ x < Y 0 7) ∧ (0 ≤ y ∧ y < Y 0 7) then (if x ≠ y then (am_w (ay_jp Y x y 0 11 - Y 0 11)) else (-9999002)) else (-9999001)
theorem cs_ifj (hw : wl E M) (hi : si B (st M)) : cs 1 E M (am_den 142 (0, [some (am_A (34, 0)), some (am_I 18), some (am_I x), some (am_I y), some (am_I z)], [], E, M)) (sv_ifj (M 0) x y z) (st M) := by
  have h := ac_88 (E := E) (M := M) (p := x) (q := y) hw.1
  rw [wl_cp hw] at h
  have e0 : st M 0 = M 0 := rfl
  unfold sv_ifj
  by_cases q0 : (0 ≤ x ∧ x < (M 0) 0 7) ∧ (0 ≤ y ∧ y < (M 0) 0 7)
  · rw [if_pos q0] at h
    rw [if_pos q0]
    by_cases q1 : x ≠ y
    · rw [if_pos q1] at h
      rw [if_pos q1]
      exact cs_le (cs_v hw (n := 0) (cv_18 hw.1 h) (st_sb (by decide)) (fun b hb => am_sb_ne (by omega))) (by decide)
    · rw [if_neg q1] at h
      rw [if_neg q1]
      exact cs_v hw (n := 1) (cx_18_0 hw.1 h) rfl (fun _ _ => rfl)
  · rw [if_neg q0] at h
    rw [if_neg q0]
    exact cs_v hw (n := 1) (cx_18_2 hw.1 h) rfl (fun _ _ => rfl)
def sv_mended (Y : Nat → Int → Int) (x y z : Int) : Int := if 0 ≤ x ∧ x < Y 0 7 then (if y = 0 ∨ y = 1 then (if y = 0 then am_w (ay_mend Y x 0 11 - Y 0 11) else am_w (ay_de 24 (ay_mend Y x) x 0 11 - ay_mend Y x 0 11)) else (-9999002)) else (-9999001)
theorem cs_mended (hw : wl E M) (hi : si B (st M)) : cs 1 E M (am_den 142 (0, [some (am_A (34, 0)), some (am_I 19), some (am_I x), some (am_I y), some (am_I z)], [], E, M)) (sv_mended (M 0) x y z) (st M) := by
  have h := ac_90 (E := E) (M := M) (p := x) (w := y) (u1 := none) (u2 := none) hw.1
  rw [wl_cp hw] at h
  have e0 : st M 0 = M 0 := rfl
  unfold sv_mended
  by_cases q0 : 0 ≤ x ∧ x < (M 0) 0 7
  · rw [if_pos q0] at h
    rw [if_pos q0]
    by_cases q1 : y = 0 ∨ y = 1
    · rw [if_pos q1] at h
      rw [if_pos q1]
      exact cs_le (cs_v hw (n := 0) (cv_19 hw.1 h) (st_sb (by decide)) (fun b hb => am_sb_ne (by omega))) (by decide)
    · rw [if_neg q1] at h
      rw [if_neg q1]
      exact cs_v hw (n := 1) (cx_19_0 hw.1 h) rfl (fun _ _ => rfl)
  · rw [if_neg q0] at h
    rw [if_neg q0]
    exact cs_v hw (n := 1) (cx_19_2 hw.1 h) rfl (fun _ _ => rfl)
def sv_covers (Y : Nat → Int → Int) (x y z : Int) : Int := if 0 ≤ x ∧ x < Y 0 7 then (am_b (am_gt (Y 7) 4 x = 1)) else (-9999001)
def ss_covers (S : am_M) (x y z : Int) : am_M := if 0 ≤ x ∧ x < S 0 0 7 then (sd S (am_pt (S 0 ) 7 4 x (if y = 0 then 0 else 1))) else S
theorem cs_covers (hw : wl E M) (hi : si B (st M)) : cs 1 E M (am_den 117 (0, [some (am_A (34, 0)), some (am_I x), some (am_I y), none], [], E, M)) (sv_covers (M 0) x y z) (ss_covers (st M) x y z) := by
  have h := ac_80 (p := x) (w := y) hw.1 (si_m hi)
  have e0 : st M 0 = M 0 := rfl
  unfold sv_covers ss_covers
  rw [e0]
  by_cases q0 : 0 ≤ x ∧ x < (M 0) 0 7
  · rw [if_pos q0] at h
    rw [if_pos q0, if_pos q0]
    exact cs_le (cs_v hw (n := 0) (tw_117v hw.1 h) cs_sd cs_hi) (by decide)
  · rw [if_neg q0] at h
    rw [if_neg q0, if_neg q0]
    exact cs_v hw (n := 1) (tw_117x2 hw.1 h) rfl (fun _ _ => rfl)
def sv_wind (Y : Nat → Int → Int) (x y z : Int) : Int := if 1 ≤ x ∧ x ≤ 30 then am_sm (am_da (ay_wind Y x)) (Y 0 7).toNat else (-9999002)
def ss_wind (S : am_M) (x y z : Int) : am_M := if 1 ≤ x ∧ x ≤ 30 then sd S (ay_wind (S 0) x) else S
theorem cs_wind (hw : wl E M) (hi : si B (st M)) : cs 1 E M (am_den 142 (0, [some (am_A (34, 0)), some (am_I 11), some (am_I x), some (am_I y), some (am_I z)], [], E, M)) (sv_wind (M 0) x y z) (ss_wind (st M) x y z) := by
  unfold sv_wind ss_wind
  by_cases q : 1 ≤ x ∧ x ≤ 30
  · have h := ac_81 (w := x) hw.1 (si_m hi) (fun i a b => (av_wind hi.1.1 q).1.2.2.1 i a b) (si_7 hi)
    rw [if_pos q] at h
    rw [if_pos q, if_pos q]
    exact cs_le (cs_v hw (n := 0) (cv_11 hw.1 h) cs_sd cs_hi) (by decide)
  · have h : am_den 81 (0, [some (am_A (34, 0)), some (am_I x)], [], E, M) = some (.inr 0, am_xE E, M) := by
      rw [am_B81_0, ac_100, if_neg q, am_bd_x rfl]
    rw [if_neg q, if_neg q]
    exact cs_v hw (n := 1) (cx_11_0 hw.1 h) rfl (fun _ _ => rfl)
def sv_undo (S : am_M) : Int := if S 31 0 2 = 0 then (-9999003) else S 31 0 2 - 1
theorem cs_gb : ∀ b, 35 ≤ b → ak_gb M b = M b := fun b hb => by
  unfold ak_gb
  rw [am_sb_ne (by omega), am_sb_ne (by omega)]
theorem cs_undo (hw : wl E M) (hi : si B (st M)) : cs 1 E M (am_den 142 (0, [some (am_A (34, 0)), some (am_I 16), some (am_I x), some (am_I y), some (am_I z)], [], E, M)) (sv_undo (st M)) (su (st M)) := by
  have h := ac_86 hw.1 (si_m hi)
  have e0 : st M 31 = M 31 := rfl
  unfold sv_undo su
  rw [e0]
  by_cases q : M 31 0 2 = 0
  · rw [if_pos q] at h
    rw [if_pos q, if_pos q]
    exact cs_v hw (n := 1) (cx_16_1 hw.1 h) rfl (fun _ _ => rfl)
  · rw [if_neg q] at h
    rw [if_neg q, if_neg q]
    exact cs_le (cs_v hw (n := 0) (cv_16 hw.1 h) st_gb.symm cs_gb) (by decide)
def sv_keep (S : am_M) (x : Int) : Int := if x = 0 ∨ x = 1 then S 0 0 8 else (-9999001)
theorem cs_keep (hw : wl E M) : cs 1 E M (am_den 142 (0, [some (am_A (34, 0)), some (am_I 20), some (am_I x), some (am_I y), some (am_I z)], [], E, M)) (sv_keep (st M) x) (sk (st M) x) := by
  have h := ad_94 (E := E) (M := M) (w := x) (u := none) hw.1
  unfold sv_keep sk
  by_cases q : x = 0 ∨ x = 1
  · rw [if_pos q] at h
    rw [if_pos q, if_pos q]
    refine cs_le (cs_v hw (n := 0) (cv_20 hw.1 h) ?_ ?_) (by decide)
    · have e : st M (if x = 0 then 15 else 16) = M (if x = 0 then 15 else 16) := st_at (Or.inl (by split <;> decide))
      rw [e]
      have e2 : st M 0 = M 0 := rfl
      rw [e2]
      have g : ∀ (N : am_M) (b : Nat) (c : Nat) (j v : Int), am_up N (b, c) j v = am_sb N b (am_uy (N b) c j v) := fun _ _ _ _ _ => rfl
      rw [g, g]
      have e3 : ∀ Z, am_sb (st M) (if x = 0 then 15 else 16) Z (if x = 0 then 32 else 33) = am_sb M (if x = 0 then 15 else 16) Z (if x = 0 then 32 else 33) := fun Z => by
        rcases q with q | q
        · rw [if_pos q, if_pos q, am_sb_ne (by decide), am_sb_ne (by decide)]
          rfl
        · rw [if_neg (by omega), if_neg (by omega), am_sb_ne (by decide), am_sb_ne (by decide)]
          rfl
      rw [e3]
      exact st_cg (st_cg st_st.symm)
    · intro b hb
      unfold am_up
      rw [am_sb_ne (by show b ≠ (if x = 0 then 32 else 33); split <;> omega), am_sb_ne (by split <;> omega)]
  · rw [if_neg q] at h
    rw [if_neg q, if_neg q]
    exact cs_v hw (n := 1) (cx_20_2 hw.1 h) rfl (fun _ _ => rfl)
def sv_back (S : am_M) (x : Int) : Int := if x = 0 ∨ x = 1 then (if S (if x = 0 then 32 else 33) 0 1 = 0 then (-9999003) else am_yp (S (if x = 0 then 15 else 16)) (S 0) 0 8) else (-9999001)
theorem cs_back (hw : wl E M) : cs 1 E M (am_den 142 (0, [some (am_A (34, 0)), some (am_I 21), some (am_I x), some (am_I y), some (am_I z)], [], E, M)) (sv_back (st M) x) (sg (st M) x) := by
  have h := ad_95 (E := E) (M := M) (w := x) (u := none) hw.1
  have e1 : st M (if x = 0 then 15 else 16) = M (if x = 0 then 15 else 16) := st_at (Or.inl (by split <;> decide))
  have e2 : st M (if x = 0 then 32 else 33) = M (if x = 0 then 32 else 33) := st_at (by split <;> decide)
  unfold sv_back sg
  rw [e1, e2, show st M 0 = M 0 from rfl, show st M 31 = M 31 from rfl]
  by_cases q : x = 0 ∨ x = 1
  · rw [if_pos q] at h
    rw [if_pos q, if_pos q]
    by_cases q2 : M (if x = 0 then 32 else 33) 0 1 = 0
    · rw [if_pos q2] at h
      rw [if_pos q2, if_pos q2]
      exact cs_v hw (n := 1) (cx_21_1 hw.1 h) rfl (fun _ _ => rfl)
    · rw [if_neg q2] at h
      rw [if_neg q2, if_neg q2]
      exact cs_le (cs_v hw (n := 0) (cv_21 hw.1 h) (st_cg (st_cg st_st.symm)) (fun b hb => by rw [am_sb_ne (by omega), am_sb_ne (by omega)])) (by decide)
  · rw [if_neg q] at h
    rw [if_neg q, if_neg q]
    exact cs_v hw (n := 1) (cx_21_2 hw.1 h) rfl (fun _ _ => rfl)
theorem cs_append (hw : wl E M) (hx : x < 0 ∨ 255 < x) : cs 1 E M (am_den 142 (0, [some (am_A (34, 0)), some (am_I 0), some (am_I x), some (am_I y), some (am_I z)], [], E, M)) (-9999002) (st M) := by
  have h : am_den 67 (0, [some (am_A (34, 0)), some (am_I x)], [], E, M) = some (.inr 0, am_xE E, M) := by
    rw [am_B67_0]
    by_cases a1 : x < 0
    · rw [if_pos a1, am_B67_11]
    · rw [if_neg a1, am_B67_4, if_neg (by omega), am_B67_11]
  exact cs_v hw (n := 1) (cx_0_0 hw.1 h) rfl (fun _ _ => rfl)
/-- scripts that are refused -/
theorem cs_script (hw : wl E M) (hi : si B (st M)) (hx : 100000 ≤ y ∧ y < 10000000) (hn : x = 1 ∨ x = 0) : cs 1 E M (am_den 118 (0, [some (am_A (34, 0)), some (am_I x), some (am_J (if x = 0 then 0 else y)), none, none], [], E, M)) (-9999002) (st M) := by
  have h := ad_92 (E := E) (M := M) (n := x) (x := if x = 0 then 0 else y) (u1 := none) (u2 := none) (u3 := none) hw.1 (by rw [wl_cp hw]; exact si_7 hi) (by split <;> omega)
  have q : ¬((1 ≤ x ∧ x ≤ 3) ∧ (0 ≤ (if x = 0 then 0 else y) ∧ (if x = 0 then 0 else y) / 100000 ^ x.toNat = 0)) := by
    rcases hn with hn | hn
    · subst hn
      rw [if_neg (by decide), show ((1 : Int)).toNat = 1 from rfl, Int.pow_succ, Int.pow_zero, Int.one_mul]
      omega
    · omega
  rw [if_neg q] at h
  exact cs_v hw (n := 1) (tw_118x0 hw.1 h) rfl (fun _ _ => rfl)
def sv_sim (Y : Nat → Int → Int) (x n : Int) : Int := if 1 ≤ n ∧ n ≤ 60 then ad_sv (ad_sm n.toNat Y x) Y else (-9999002)
theorem cs_sim (hw : wl E M) (hi : si B (st M)) : cs 1 E M (am_den 119 (0, [some (am_A (34, 0)), some (am_J x), none, some (am_I y), none], [], E, M)) (sv_sim (M 0) x y) (st M) := by
  have h := ad_93 (E := E) (M := M) (x := x) (n := y) (u2 := none) (u4 := none) (u5 := none) (u6 := none) (u7 := none) (u8 := none) (u9 := none) (u10 := none) hw.1 (by rw [wl_cp hw]; exact si_7 hi)
  rw [wl_cp hw] at h
  unfold sv_sim
  by_cases q : 1 ≤ y ∧ y ≤ 60
  · rw [if_pos q] at h
    rw [if_pos q]
    exact cs_le (cs_v hw (n := 0) (tw_119v hw.1 h) (st_sb (by decide)) (fun b hb => am_sb_ne (by omega))) (by decide)
  · rw [if_neg q] at h
    rw [if_neg q]
    exact cs_v hw (n := 1) (tw_119x0 hw.1 h) rfl (fun _ _ => rfl)
end CALLS
