/-! ===== both machines side by side ===== -/
def ts (B : Int) (Y : Nat → Int → Int) (f : Int → Int) : Prop := av_G B Y ∧ ra_q f Y ∧ f 8 = Y 0 15
theorem ts_le {B C : Int} {Y : Nat → Int → Int} {f : Int → Int} (h : ts B Y f) (hc : B ≤ C) : ts C Y f := ⟨av_Gle h.1 hc, h.2⟩
theorem ts_f {B : Int} {Y : Nat → Int → Int} {f g : Int → Int} (h : ts B Y f) (hf : ∀ j, 0 ≤ j → j < 138 → g j = f j) : ts B Y g :=
  ⟨h.1, ra_q_cg h.2.1 h.1.1.1.1.2 h.1.1.1.2.1.2 hf, by rw [hf 8 (by omega) (by omega)]; exact h.2.2⟩
theorem ts_yp_s {Z Y : Nat → Int → Int} {j : Int} (a : 7 ≤ j) (b : j ≤ 16) : am_yp Z Y 0 j = Z 0 j := by
  have hj : j = 7 ∨ j = 8 ∨ j = 9 ∨ j = 10 ∨ j = 11 ∨ j = 12 ∨ j = 13 ∨ j = 14 ∨ j = 15 ∨ j = 16 := by omega
  unfold am_yp
  rcases hj with w | w | w | w | w | w | w | w | w | w <;> rw [w] <;> simp [ay_uy_x]
theorem ts_yp_e {Z Y : Nat → Int → Int} : av_eq Z (am_yp Z Y) := by
  refine ⟨fun c x h1 h2 a b => ?_, fun p a b => ⟨?_, ?_⟩⟩
  · have hc : c = 1 ∨ c = 2 ∨ c = 3 ∨ c = 4 ∨ c = 5 := by omega
    unfold am_yp
    rcases hc with w | w | w | w | w <;> rw [w] <;> simp [ay_uy_x, am_rg, a, b]
  · unfold am_yp; simp [ay_uy_x, am_rg, a, b]
  · unfold am_yp; simp [ay_uy_x, am_rg, a, b]
theorem ts_copy {B : Int} {Z Y : Nat → Int → Int} {f : Int → Int} (h : ts B Z f) : ts B (am_yp Z Y) f := by
  obtain ⟨⟨h1, h2, h3⟩, hq, h8⟩ := h
  have hc := av_copy (Y := Y) h1
  refine ⟨⟨hc.1, av_H_cg h2 (ts_yp_s (by omega) (by omega)) (ts_yp_s (by omega) (by omega)) (ts_yp_s (by omega) (by omega)), by rw [hc.2]; exact h3⟩, ?_, by rw [ts_yp_s (by omega) (by omega)]; exact h8⟩
  exact ra_q_Y hq h1.1.1.2 h1.1.2.1.2 ts_yp_e (fun j a b => ts_yp_s a (by omega)) (ts_yp_s (by omega) (by omega))
def tm (M : am_M) (B : Int) : Prop := ak_ok M ∧ M 35 0 8 = M 31 0 2 ∧ ∀ j : Int, 0 ≤ j → j < M 31 0 2 → ts B (M (ak_t (M 31 0 1) j)) (fun x => M 41 0 (138 * j + x))
def tl (M : am_M) (B : Int) : Prop := ∀ s : Nat, s < 2 → (M (32 + s) 0 1 = 0 ∨ M (32 + s) 0 1 = 1) ∧ M 43 0 s = M (32 + s) 0 1 ∧ (M (32 + s) 0 1 = 1 → ts B (M (15 + s)) (fun x => M 42 0 (138 * s + x)))
def tx (M : am_M) : Prop := (0 ≤ M 30 0 1 ∧ M 30 0 1 ≤ 120) ∧ M 35 0 2 = M 30 0 1 ∧ (∀ i, 0 ≤ i → i < M 30 0 1 → M 36 0 i = M 30 1 i) ∧ (∀ i, 0 ≤ i → i < 120 → 0 ≤ M 30 1 i ∧ M 30 1 i ≤ 255) ∧ (∀ i, 0 ≤ i → i < 120 → 0 ≤ M 36 0 i ∧ M 36 0 i ≤ 255)
/-- what holds between calls -/
def si (M : am_M) (B : Int) : Prop := ts B (M 0) (M 37 0) ∧ tm M B ∧ tl M B ∧ tx M
def te (M N : am_M) (b : Nat) : Prop := N b = M b
theorem tm_cg {M N : am_M} {B C : Int} (h : tm M B) (hBC : B ≤ C) (h1 : ∀ b, 1 ≤ b → b ≤ 14 → N b = M b) (h31 : N 31 = M 31) (h8 : N 35 0 8 = M 35 0 8) (h41 : N 41 = M 41) : tm N C := by
  obtain ⟨a, b, c⟩ := h
  unfold tm ak_ok
  rw [h31, h8, h41]
  refine ⟨a, b, fun j j0 j1 => ?_⟩
  have ht := ak_t_le (o := M 31 0 1) (c := j)
  rw [h1 _ ht.1 ht.2]
  exact ts_le (c j j0 j1) hBC
theorem tl_cg {M N : am_M} {B C : Int} (h : tl M B) (hBC : B ≤ C) (h1 : ∀ b, b = 15 ∨ b = 16 ∨ b = 32 ∨ b = 33 ∨ b = 42 ∨ b = 43 → N b = M b) : tl N C := by
  intro s hs
  obtain ⟨a, b, c⟩ := h s hs
  rw [h1 (32 + s) (by omega), h1 43 (by omega), h1 (15 + s) (by omega), h1 42 (by omega)]
  exact ⟨a, b, fun z => ts_le (c z) hBC⟩
theorem tx_cg {M N : am_M} (h : tx M) (h30 : N 30 0 1 = M 30 0 1) (h301 : N 30 1 = M 30 1) (h2 : N 35 0 2 = M 35 0 2) (h36 : N 36 = M 36) : tx N := by
  unfold tx
  rw [h30, h301, h2, h36]
  exact h
theorem ak_t_ne {o i j : Int} (ho : 0 ≤ o ∧ o < 14) (hi : 0 ≤ i ∧ i < 14) (hj : 0 ≤ j ∧ j < 14) (hne : i ≠ j) : ak_t o i ≠ ak_t o j := by
  unfold ak_t
  omega
theorem ak_t_sh {o j : Int} (ho : 0 ≤ o ∧ o < 14) (hj : 0 ≤ j ∧ j < 14) : ak_t ((o + 1) % 14) j = ak_t o (j + 1) := by
  unfold ak_t
  omega
/-- the diary behind a remembered state -/
def tdi (M : am_M) (D : Int → Int) : Prop := ∀ j x, 0 ≤ j → 0 ≤ x → x < 138 → (j < ak_c M → D (138 * j + x) = M 41 0 (138 * (if M 31 0 2 = 14 then j + 1 else j) + x)) ∧ (j = ak_c M → D (138 * j + x) = M 37 0 x)
theorem tm_keep {M N : am_M} {B : Int} (h : tm M B) (hs : ts B (M 0) (M 37 0)) (h1 : ∀ b, 1 ≤ b → b ≤ 14 → N b = ak_kp M b) (h31 : N 31 = ak_kp M 31) (h8 : N 35 0 8 = ak_c M + 1) (h41 : tdi M (N 41 0)) : tm N B := by
  obtain ⟨⟨o1, c1⟩, b, c⟩ := h
  have hk31 : ak_kp M 31 = am_uy (am_uy (M 31) 0 1 (ak_o M)) 0 2 (ak_c M + 1) := by
    unfold ak_kp
    rw [am_sb_at]
  have ho : N 31 0 1 = ak_o M := by rw [h31, hk31, ay_uy_ne (Or.inr (by decide)), ay_uy_eq]
  have hc : N 31 0 2 = ak_c M + 1 := by rw [h31, hk31, ay_uy_eq]
  have hoc : (0 ≤ ak_o M ∧ ak_o M < 14) ∧ (0 ≤ ak_c M ∧ ak_c M ≤ 13) := by
    unfold ak_o ak_c
    by_cases q : M 31 0 2 = 14
    · rw [if_pos q, if_pos q]; omega
    · rw [if_neg q, if_neg q]; omega
  refine ⟨⟨by rw [ho]; exact hoc.1, by rw [hc]; omega⟩, by rw [h8, hc], fun j j0 j1 => ?_⟩
  rw [hc] at j1
  rw [ho]
  have ht := ak_t_le (o := ak_o M) (c := j)
  have htt := ak_t_le (o := ak_o M) (c := ak_c M)
  rw [h1 _ ht.1 ht.2]
  by_cases q : j = ak_c M
  · have e : ak_kp M (ak_t (ak_o M) j) = am_yp (M 0) (M (ak_t (ak_o M) (ak_c M))) := by
      rw [q]
      unfold ak_kp
      rw [am_sb_ne (by omega), am_sb_at]
    rw [e]
    exact ts_f (ts_copy hs) (fun x x0 x1 => (h41 j x j0 x0 x1).2 q)
  · have e : ak_kp M (ak_t (ak_o M) j) = M (ak_t (ak_o M) j) := by
      have := ak_t_ne (o := ak_o M) (i := j) (j := ak_c M) hoc.1 (by omega) (by omega) q
      unfold ak_kp
      rw [am_sb_ne (by omega), am_sb_ne this]
    rw [e]
    by_cases q2 : M 31 0 2 = 14
    · have eo : ak_o M = (M 31 0 1 + 1) % 14 := if_pos q2
      have ec : ak_c M = 13 := if_pos q2
      rw [eo, ak_t_sh o1 (by omega)]
      refine ts_f (c (j + 1) (by omega) (by omega)) (fun x x0 x1 => ?_)
      have := (h41 j x j0 x0 x1).1 (by omega)
      rw [if_pos q2] at this
      exact this
    · have eo : ak_o M = M 31 0 1 := if_neg q2
      have ec : ak_c M = M 31 0 2 := if_neg q2
      rw [eo]
      refine ts_f (c j j0 (by omega)) (fun x x0 x1 => ?_)
      have := (h41 j x j0 x0 x1).1 (by omega)
      rw [if_neg q2] at this
      exact this
