/-! ===== the reference: rows cleared, rows copied, the whole text ===== -/
theorem ra_q_cg {f f' : Int → Int} {Y : Nat → Int → Int} (h : ra_q f Y) (h7 : Y 0 7 ≤ 4) (h8 : Y 0 8 ≤ 24) (hf : ∀ j, 0 ≤ j → j < 138 → f' j = f j) : ra_q f' Y := by
  obtain ⟨h1, h2, h3, h4⟩ := h
  refine ⟨?_, fun p p0 p1 => ?_, fun m m0 m1 => ?_, fun m m0 m1 m2 => ?_⟩
  · rw [hf 0 (by omega) (by omega), hf 1 (by omega) (by omega), hf 2 (by omega) (by omega), hf 3 (by omega) (by omega), hf 4 (by omega) (by omega), hf 5 (by omega) (by omega), hf 6 (by omega) (by omega), hf 7 (by omega) (by omega), hf 9 (by omega) (by omega)]
    exact h1
  · rw [hf _ (by omega) (by omega), hf _ (by omega) (by omega)]
    exact h2 p p0 p1
  · rw [hf _ (by omega) (by omega), hf _ (by omega) (by omega)]
    exact h3 m m0 m1
  · rw [hf _ (by omega) (by omega), hf _ (by omega) (by omega), hf _ (by omega) (by omega)]
    exact h4 m m0 m1 m2
theorem ra_q_Y {f : Int → Int} {Y Z : Nat → Int → Int} (h : ra_q f Y) (h7 : Y 0 7 ≤ 4) (h8 : Y 0 8 ≤ 24) (he : av_eq Y Z) (hs : ∀ j, 7 ≤ j → j ≤ 14 → Z 0 j = Y 0 j) (h16 : Z 0 16 = Y 0 16) : ra_q f Z := by
  obtain ⟨h1, h2, h3, h4⟩ := h
  refine ⟨?_, fun p p0 p1 => ?_, fun m m0 m1 => ?_, fun m m0 m1 m2 => ?_⟩
  · rw [hs 7 (by omega) (by omega), hs 8 (by omega) (by omega), hs 9 (by omega) (by omega), hs 10 (by omega) (by omega), hs 11 (by omega) (by omega), hs 12 (by omega) (by omega), hs 13 (by omega) (by omega), hs 14 (by omega) (by omega), h16]
    exact h1
  · rw [hs 7 (by omega) (by omega)] at p1
    rw [(he.2 p p0 (by omega)).1, (he.2 p p0 (by omega)).2]
    exact h2 p p0 p1
  · rw [hs 8 (by omega) (by omega)] at m1
    rw [he.1 1 m (by omega) (by omega) m0 (by omega), he.1 2 m (by omega) (by omega) m0 (by omega)]
    exact h3 m m0 m1
  · rw [hs 8 (by omega) (by omega)] at m1
    rw [he.1 2 m (by omega) (by omega) m0 (by omega)] at m2
    rw [he.1 3 m (by omega) (by omega) m0 (by omega), he.1 4 m (by omega) (by omega) m0 (by omega), he.1 5 m (by omega) (by omega) m0 (by omega)]
    exact h4 m m0 m1 m2
def rt_cl (f : Int → Int) : Int → Int := ar_u (ar_rg f 0 138 (fun _ => 0)) 9 40
theorem rt_cl_q {f : Int → Int} {Y : Nat → Int → Int} : ra_q (rt_cl f) (am_yc Y) := by
  have s7 : am_yc Y 0 7 = 0 := by unfold am_yc; simp [ay_uy_x]
  have s8 : am_yc Y 0 8 = 0 := by unfold am_yc; simp [ay_uy_x]
  have z : ∀ j, 0 ≤ j → j < 138 → j ≠ 9 → rt_cl f j = 0 := by
    intro j a b c
    unfold rt_cl
    rw [ar_u_ne c]
    unfold ar_rg
    rw [if_pos ⟨a, b⟩]
  refine ⟨⟨?_, ?_, ?_, ?_, ?_, ?_, ?_, ?_, ?_⟩, fun p p0 p1 => by omega, fun m m0 m1 => by omega, fun m m0 m1 m2 => by omega⟩
  · rw [z 0 (by omega) (by omega) (by omega), s7]
  · rw [z 1 (by omega) (by omega) (by omega), s8]
  · rw [z 2 (by omega) (by omega) (by omega)]; unfold am_yc; simp [ay_uy_x]
  · rw [z 3 (by omega) (by omega) (by omega)]; unfold am_yc; simp [ay_uy_x]
  · rw [z 4 (by omega) (by omega) (by omega)]; unfold am_yc; simp [ay_uy_x]
  · rw [z 5 (by omega) (by omega) (by omega)]; unfold am_yc; simp [ay_uy_x]
  · rw [z 6 (by omega) (by omega) (by omega)]; unfold am_yc; simp [ay_uy_x]
  · rw [z 7 (by omega) (by omega) (by omega)]; unfold am_yc; simp [ay_uy_x]
  · unfold rt_cl; rw [ar_u_eq]; unfold am_yc; simp [ay_uy_x]
section RTX4
variable {E : am_E} {M : am_M} {f g : Int → Int} {Y : Nat → Int → Int} {B a lo hi x1 : Int} {d e : Nat}
theorem rt_122l (hk : am_kd E (d, 0) = some (6, 138)) : ∀ (m i : Nat) (f : Int → Int), i + m = 138 → am_den 122 (2, [some (am_A (d, 0)), some (am_I i)], [], E, ar_s M d f) = some (.inl none, E, ar_s M d (ar_u (ar_rg f i 138 (fun _ => 0)) 9 40)) := by
  intro m
  induction m with
  | zero =>
    intro i f h
    rw [am_B122_2, if_pos (by omega), am_B122_19 hk (by omega), ar_up, am_B122_25, ar_rg_nil (by omega)]
  | succ m ih =>
    intro i f h
    have w1 : am_w ((i : Int) + 1) = ((i + 1 : Nat) : Int) := by rw [am_wi (by omega) (by omega)]; omega
    rw [am_B122_2, if_neg (by omega), am_B122_9 hk (by omega), ar_up, am_B122_13, w1, ih (i + 1) _ (by omega), show ((i + 1 : Nat) : Int) = (i : Int) + 1 by omega, ar_rg_up (g := fun _ => 0) (by omega) rfl]
theorem rt_122 (hk : am_kd E (d, 0) = some (6, 138)) {u : Option am_V} : am_den 122 (0, [some (am_A (d, 0)), u], [], E, ar_s M d f) = some (.inl none, E, ar_s M d (rt_cl f)) := by
  rw [am_B122_0]
  exact rt_122l hk 138 0 f rfl
def rt_cp (f g : Int → Int) (a b : Int) : Int → Int := ar_rg g b (b + 138) (fun j => f (a + (j - b)))
theorem rt_121l {n0 n2 : Nat} {A C : Int} (hne : d ≠ e) (hk0 : am_kd E (d, 0) = some (6, n0)) (hk2 : am_kd E (e, 0) = some (6, n2)) (hA : 0 ≤ A ∧ A + 138 ≤ n0) (hC : 0 ≤ C ∧ C + 138 ≤ n2) (h0 : n0 < 10000) (h2 : n2 < 10000) : ∀ (m i : Nat) (g : Int → Int), i + m = 138 → am_den 121 (3, [some (am_A (d, 0)), some (am_I A), some (am_A (e, 0)), some (am_I C), some (am_I i)], [], E, ar_s M e g) = some (.inl none, E, ar_s M e (ar_rg g (C + i) (C + 138) (fun j => M d 0 (A + (j - C))))) := by
  intro m
  induction m with
  | zero =>
    intro i g h
    rw [am_B121_3, if_pos (by omega), am_B121_29, ar_rg_nil (by omega)]
  | succ m ih =>
    intro i g h
    have w1 : am_w ((i : Int) + 1) = ((i + 1 : Nat) : Int) := by rw [am_wi (by omega) (by omega)]; omega
    have w2 : am_w (A + i) = A + i := am_wi (by omega) (by omega)
    have w3 : am_w (C + i) = C + i := am_wi (by omega) (by omega)
    have e1 : ar_s M e g d 0 (A + i) = M d 0 (A + i) := by rw [ar_s_ne hne]
    rw [am_B121_3, if_neg (by omega), am_B121_11 hk0 hk2 (by rw [w2]; omega) (by rw [w3]; omega), w2, w3, e1, ar_up, am_B121_23, w1, ih (i + 1) _ (by omega), show C + ((i + 1 : Nat) : Int) = C + i + 1 by omega, ar_rg_up (by omega) (by rw [show C + (i : Int) - C = i by omega])]
theorem rt_121 {n0 n2 : Nat} {A C : Int} (hne : d ≠ e) (hk0 : am_kd E (d, 0) = some (6, n0)) (hk2 : am_kd E (e, 0) = some (6, n2)) (hA : 0 ≤ A ∧ A + 138 ≤ n0) (hC : 0 ≤ C ∧ C + 138 ≤ n2) (h0 : n0 < 10000) (h2 : n2 < 10000) {u : Option am_V} : am_den 121 (0, [some (am_A (d, 0)), some (am_I A), some (am_A (e, 0)), some (am_I C), u], [], E, M) = some (.inl none, E, ar_s M e (rt_cp (M d 0) (M e 0) A C)) := by
  rw [am_B121_0]
  have h := rt_121l (M := M) (A := A) (C := C) hne hk0 hk2 hA hC h0 h2 138 0 (M e 0) rfl
  rw [ar_s_self] at h
  rw [show C + ((0 : Nat) : Int) = C by omega] at h
  exact h
theorem rt_cp_at {f g : Int → Int} {a b j : Int} (h : 0 ≤ j ∧ j < 138) : rt_cp f g a b (b + j) = f (a + j) := by
  unfold rt_cp ar_rg
  rw [if_pos (by omega)]
  show f (a + (b + j - b)) = f (a + j)
  rw [show b + j - b = j by omega]
theorem rt_cp_ne {f g : Int → Int} {a b j : Int} (h : j < b ∨ b + 138 ≤ j) : rt_cp f g a b j = g j := by
  unfold rt_cp ar_rg
  rw [if_neg (by omega)]
theorem rt_164l (hE : am_Wr E) (hs : ∀ i : Int, 0 ≤ i → i < 120 → 0 ≤ M 36 0 i ∧ M 36 0 i ≤ 65535) : ∀ (m : Nat) (f g : Int → Int) (Y : Nat → Int → Int) (B : Int), ra_q f Y → av_G B Y → B + 576 * m < 2147000000 → g 2 ≤ 120 → 0 ≤ g 11 → g 2 - g 11 ≤ m → 0 ≤ g 12 → g 12 + m ≤ 1000 →
    ∃ f' g', am_den 164 (39, [some (am_A (35, 0)), some (am_A (38, 0))], [], E, rt_s M f g) = some (.inl (some (am_I (ax_fw (g 2) (M 36 0) m (g 11)))), E, rt_s M f' g') ∧ (∀ j, j ≠ 11 → j ≠ 12 → g' j = g j) ∧ (ax_fw (g 2) (M 36 0) m (g 11) = -1 → ra_q f' (ad_ld (g 2) (M 36 0) m (g 11) Y (g 12)).2 ∧ g' 12 = (ad_ld (g 2) (M 36 0) m (g 11) Y (g 12)).1 ∧ f' 8 = f 8) := by
  intro m
  induction m with
  | zero =>
    intro f g Y B hq hG hB hn h0 hm o0 o1
    refine ⟨f, g, ?_, fun j _ _ => rfl, fun _ => ⟨hq, rfl, rfl⟩⟩
    rw [am_B164_39 hE, rt_35, if_pos (by omega), am_B164_63]
    rfl
  | succ m ih =>
    intro f g Y B hq hG hB hn h0 hm o0 o1
    rw [am_B164_39 hE, rt_35, ax_fw, ad_ld]
    by_cases q1 : g 2 ≤ g 11
    · refine ⟨f, g, ?_, fun j _ _ => rfl, fun _ => ?_⟩
      · rw [if_pos q1, am_B164_63, if_pos q1]
      · rw [if_pos q1]
        exact ⟨hq, rfl, rfl⟩
    · have hc := rt_163 (M := M) (f := f) (g := g) (Y := Y) (B := B) hs hE hn (by omega) hq hG (by omega) (by omega) (u2 := none) (u3 := none)
      have hle := ax_cm_le (n := g 2) (s := M 36 0) (a := g 11) (k := ax_dg (g 2) (M 36 0) (g 11))
      have hup := ax_cm_up (n := g 2) (s := M 36 0) (a := g 11) (k := ax_dg (g 2) (M 36 0) (g 11))
      obtain ⟨cm, ecm⟩ : ∃ cm, ax_cm (g 2) (M 36 0) (g 11) (ax_dg (g 2) (M 36 0) (g 11)) = cm := ⟨_, rfl⟩
      obtain ⟨k, ek⟩ : ∃ k, ax_dg (g 2) (M 36 0) (g 11) = k := ⟨_, rfl⟩
      rw [ek] at ecm
      rw [ek, ecm] at hc hle hup ⊢
      rw [if_neg q1, if_neg q1, if_neg q1, am_B164_50 hE]
      by_cases q2 : cm.1 = 0
      · refine ⟨f, ar_u g 11 cm.2.1, ?_, fun j a _ => ar_u_ne a, fun z => ?_⟩
        · rw [hc.1 q2, am_bd_v, if_pos q2]
          simp only [Nat.reduceAdd]
          rw [am_B164_55, if_neg (by decide), am_B164_58 hE, rt_35, ar_u_eq]
        · rw [if_pos q2] at z
          omega
      · obtain ⟨f1, e1, hq1, h81⟩ := hc.2 q2
        have hG1 := (av_Gob (k := k) (a := cm.2.2.1) (c := cm.2.2.2) (by omega) hG).1
        have hup2 := hup q2
        have c12 : ar_u g 11 cm.2.1 12 = g 12 := ar_u_ne (by decide)
        rw [c12] at e1
        have n2 : ∀ v, ar_u (ar_u g 11 cm.2.1) 12 v 2 = g 2 := fun v => by rw [ar_u_ne (by decide), ar_u_ne (by decide)]
        have n11 : ∀ v, ar_u (ar_u g 11 cm.2.1) 12 v 11 = cm.2.1 := fun v => by rw [ar_u_ne (by decide), ar_u_eq]
        have n12 : ∀ v, ar_u (ar_u g 11 cm.2.1) 12 v 12 = v := fun v => ar_u_eq
        have ob : 0 ≤ (if ay_can Y k cm.2.2.1 cm.2.2.2 = 0 then g 12 + 1 else g 12) ∧ (if ay_can Y k cm.2.2.1 cm.2.2.2 = 0 then g 12 + 1 else g 12) ≤ g 12 + 1 := by split <;> omega
        obtain ⟨f', g', x1, x2, x3⟩ := ih f1 (ar_u (ar_u g 11 cm.2.1) 12 (if ay_can Y k cm.2.2.1 cm.2.2.2 = 0 then g 12 + 1 else g 12)) _ (B + 576) hq1 hG1 (by omega) (by rw [n2]; exact hn) (by rw [n11]; omega) (by rw [n2, n11]; omega) (by rw [n12]; omega) (by rw [n12]; omega)
        rw [n2, n11] at x1
        rw [n2, n11, n12] at x3
        refine ⟨f', g', ?_, fun j a b => ?_, fun z => ?_⟩
        · rw [e1, am_bd_v, if_neg q2]
          simp only [Nat.reduceAdd]
          rw [am_B164_55, if_pos (by decide), x1]
        · rw [x2 j a b, ar_u_ne b, ar_u_ne a]
        · rw [if_neg q2] at z
          rw [if_neg q2]
          have x4 := x3 z
          exact ⟨x4.1, x4.2.1, by rw [x4.2.2, h81]⟩
end RTX4
