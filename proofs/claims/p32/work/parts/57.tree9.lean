/-! ===== a pile is mended ===== -/
def av_mid (Y : Nat → Int → Int) (p i : Nat) (Z : Nat → Int → Int) (T : Nat → at_T) : Prop :=
  av_tr Z T ∧ (∀ q : Nat, q < 4 → ∀ x : Int, 0 ≤ x → x < 24 → Y 2 x = (q : Int) → (q = p → x < i) → 0 < at_ct (T q) x) ∧ (∀ x, 0 < at_ct (T p) x → x < i) ∧
  ((∀ c x, c = 1 ∨ c = 2 ∨ c = 7 → Z c x = Y c x) ∧ (∀ j, j ≠ 11 → Z 0 j = Y 0 j)) ∧ (∀ x, 0 ≤ x → x < 24 → Y 2 x = -1 → Z 3 x = Y 3 x ∧ Z 4 x = Y 4 x ∧ Z 5 x = Y 5 x) ∧ av_li Y Z (24 * i) ∧ at_ho (Y 1) (T p) (-1)
theorem av_mst {Y Z : Nat → Int → Int} {T : Nat → at_T} {p i : Nat} (hp : p < 4) (hi : i < 24) (h : av_mid Y p i Z T) : ∃ T', av_mid Y p (i + 1) (if Z 2 i = p then am_ci (ay_unl Z i) p i else Z) T' := by
  obtain ⟨h1, h2, h3, ⟨h4, h5⟩, h6, h7, h8⟩ := h
  have hii : (0 : Int) ≤ (i : Int) ∧ (i : Int) < ((24 : Nat) : Int) := by omega
  by_cases q : Z 2 i = (p : Int)
  · rw [if_pos q]
    have q' : Y 2 i = (p : Int) := by rw [← h4 2 i (by omega)]; exact q
    have ni : ∀ r, r < 4 → at_ct (T r) i = 0 := by
      intro r hr
      by_cases w : 0 < at_ct (T r) i
      · have := h1.2.2 r hr i w
        have hrp : r = p := by omega
        rw [hrp] at w
        have := h3 i w
        omega
      · omega
    have u : ∀ c x, (c ≠ 3 ∧ c ≠ 4 ∧ c ≠ 5) ∨ x ≠ (i : Int) → ay_unl Z i c x = Z c x := by
      intro c x w
      unfold ay_unl
      rw [ay_pt_ne (by omega), ay_pt_ne (by omega), ay_pt_ne (by omega)]
    have u4 : ay_unl Z i 4 i = -1 := by
      unfold ay_unl
      rw [ay_pt_ne (Or.inl (by decide)), ay_pt_eq hii]
    have u5 : ay_unl Z i 5 i = -1 := by
      unfold ay_unl
      rw [ay_pt_eq hii]
    have ht : av_tr (ay_unl Z i) T := by
      refine ⟨fun r hr => ?_, h1.2.1, fun r hr x hx => ?_⟩
      · rw [u 6 r (Or.inl (by decide))]
        refine at_is_fr _ _ _ (fun x hx => ?_) (h1.1 r hr)
        have hxi : x ≠ (i : Int) := by
          intro e
          rw [e] at hx
          have := ni r hr
          omega
        exact ⟨u 3 x (Or.inr hxi), u 4 x (Or.inr hxi), u 5 x (Or.inr hxi)⟩
      · rw [u 2 x (Or.inl (by decide))]
        exact h1.2.2 r hr x hx
    have eD : ay_unl Z i 1 = Y 1 := by
      funext x
      rw [u 1 x (Or.inl (by decide)), h4 1 x (by omega)]
    obtain ⟨c1, c2, c3, c4⟩ := av_ci ht hp hi ni u4 u5 (by rw [u 2 i (Or.inl (by decide)), q])
    rw [eD] at c1 c3 c4
    refine ⟨_, c1, ?_, ?_, ⟨?_, ?_⟩, ?_, ?_, ?_⟩
    · intro r hr x a b hx hxi
      by_cases e : r = p
      · rw [e, av_up_eq, c4]
        by_cases e2 : x = (i : Int)
        · rw [if_pos e2]
          omega
        · rw [e] at hx
          have := h2 p hp x a b hx (fun _ => by have := hxi e; omega)
          omega
      · rw [av_up_ne e]
        exact h2 r hr x a b hx (fun z => absurd z e)
    · intro x hx
      rw [av_up_eq, c4] at hx
      by_cases e2 : x = (i : Int)
      · omega
      · rw [if_neg e2] at hx
        have := h3 x (by omega)
        omega
    · intro c x hc
      rw [av_ci_fr ⟨by omega, by omega, by omega, Or.inl (by omega)⟩ (by omega), u c x (Or.inl (by omega))]
      exact h4 c x hc
    · intro j hj
      rw [ay_ci_0 hj, u 0 j (Or.inl (by decide))]
      exact h5 j hj
    · intro x a b hx
      have hxi : x ≠ (i : Int) := by
        intro e
        rw [e, q'] at hx
        omega
      have n0 : at_ct (T p) x = 0 := av_no h1 (by rw [h4 2 x (by omega)]; exact hx) p hp
      have := c2 x n0 hxi (by omega)
      rw [this.1, this.2.1, this.2.2, u 3 x (Or.inr hxi), u 4 x (Or.inr hxi), u 5 x (Or.inr hxi)]
      exact h6 x a b hx
    · have hs : av_li Z (am_ci (ay_unl Z i) p i) 24 := ⟨at_co (Y 1) 24 (T p) (av_pc i), at_co_le _ _ _, by rw [c3, u 0 11 (Or.inl (by decide))]⟩
      exact av_li_le (av_li_tr h7 hs) (by omega)
    · rw [av_up_eq]
      exact at_jn_ho _ _ _ _ h8 ⟨Or.inl rfl, trivial, trivial⟩
  · rw [if_neg q]
    refine ⟨T, h1, ?_, ?_, ⟨h4, h5⟩, h6, av_li_le h7 (by omega), h8⟩
    · intro r hr x a b hx hxi
      refine h2 r hr x a b hx (fun e => ?_)
      have := hxi e
      by_cases e2 : x = (i : Int)
      · exfalso
        apply q
        rw [h4 2 i (by omega), ← e2, hx, e]
      · omega
    · intro x hx
      have := h3 x hx
      omega
theorem av_mll {Y : Nat → Int → Int} {p : Nat} (hp : p < 4) : ∀ (n i : Nat) (Z : Nat → Int → Int) (T : Nat → at_T), i + n = 24 → av_mid Y p i Z T → ∃ T', av_mid Y p 24 (ay_ml n Z p i) T' := by
  intro n
  induction n with
  | zero =>
    intro i Z T h hm
    have e : i = 24 := by omega
    rw [e] at hm
    exact ⟨T, hm⟩
  | succ n ih =>
    intro i Z T h hm
    obtain ⟨T', h'⟩ := av_mst hp (by omega) hm
    have := ih (i + 1) _ T' (by omega) h'
    rw [ay_ml]
    exact this
theorem av_mend {Y : Nat → Int → Int} {p : Int} (h : av_Y Y) (hp : 0 ≤ p ∧ p < Y 0 7) : av_Y (ay_mend Y p) ∧ av_li Y (ay_mend Y p) 576 ∧ ay_mend Y p 1 = Y 1 ∧ (∀ x, ay_mend Y p 2 x = Y 2 x) ∧ ∃ T, av_tr (ay_mend Y p) T ∧ av_al (ay_mend Y p) T ∧ at_ho (Y 1) (T p.toNat) (-1) := by
  obtain ⟨hb, hn, T, ht, ha⟩ := h
  obtain ⟨p', ep⟩ : ∃ q : Nat, p = (q : Int) := ⟨p.toNat, by omega⟩
  have hp4 : p' < 4 := by have := hb.1; omega
  subst ep
  have e0 : ∀ c x, c ≠ 6 → am_pt Y 6 4 p' (-1) c x = Y c x := fun c x h => ay_pt_ne (Or.inl h)
  have h0 : av_mid Y p' 0 (am_pt Y 6 4 p' (-1)) (av_up T p' (.leaf ())) := by
    refine ⟨⟨fun q hq => ?_, fun q hq x => ?_, fun q hq x hx => ?_⟩, fun q hq x a b hx hxi => ?_, fun x hx => ?_, ⟨fun c x hc => e0 c x (by omega), fun j _ => e0 0 j (by decide)⟩, fun x a b _ => ⟨e0 3 x (by decide), e0 4 x (by decide), e0 5 x (by decide)⟩, av_li_0 (e0 0 11 (by decide)), ?_⟩
    · by_cases e : q = p'
      · rw [e, av_up_eq, ay_pt_eq (by omega)]
        rfl
      · rw [av_up_ne e, ay_pt_ne (Or.inr (by omega))]
        exact at_is_fr _ _ _ (fun x _ => ⟨e0 3 x (by decide), e0 4 x (by decide), e0 5 x (by decide)⟩) (ht.1 q hq)
    · by_cases e : q = p'
      · rw [e, av_up_eq]
        simp [at_ct]
      · rw [av_up_ne e]
        exact ht.2.1 q hq x
    · rw [e0 2 x (by decide)]
      by_cases e : q = p'
      · rw [e, av_up_eq] at hx
        simp [at_ct] at hx
      · rw [av_up_ne e] at hx
        exact ht.2.2 q hq x hx
    · by_cases e : q = p'
      · have := hxi e
        omega
      · rw [av_up_ne e]
        exact ha q hq x a b hx
    · rw [av_up_eq] at hx
      simp [at_ct] at hx
    · rw [av_up_eq]
      trivial
  obtain ⟨T', m1, m2, m3, ⟨m4, m5⟩, m6, m7, m8⟩ := av_mll hp4 24 0 _ _ rfl h0
  have eM : ay_mend Y p' = ay_ml 24 (am_pt Y 6 4 p' (-1)) p' ((0 : Nat) : Int) := rfl
  rw [eM]
  have hal : av_al (ay_ml 24 (am_pt Y 6 4 p' (-1)) p' ((0 : Nat) : Int)) T' := by
    intro q hq x a b hx
    rw [m4 2 x (by omega)] at hx
    exact m2 q hq x a b hx (fun _ => by omega)
  refine ⟨⟨⟨?_, ?_, ?_, ?_, ?_⟩, ?_, T', m1, hal⟩, m7, ?_, fun x => m4 2 x (by omega), T', m1, hal, m8⟩
  · rw [m5 7 (by decide)]; exact hb.1
  · rw [m5 8 (by decide)]; exact hb.2.1
  · intro x a b
    rw [m4 1 x (by omega)]
    exact hb.2.2.1 x a b
  · intro x a b
    unfold av_dd
    rw [m5 7 (by decide), m5 8 (by decide), m4 2 x (by omega)]
    rcases hb.2.2.2.1 x a b with v | v
    · have := m6 x a b v.1
      rw [this.1, this.2.1, this.2.2]
      exact Or.inl v
    · exact Or.inr v
  · intro r a b
    rw [m5 7 (by decide), m4 7 r (by omega)]
    exact hb.2.2.2.2 r a b
  · unfold av_n
    rw [av_lv_cg (Y := Y) (fun x _ _ => m4 2 x (by omega)), m5 8 (by decide), m5 9 (by decide), m5 10 (by decide)]
    exact hn
  · funext x
    exact m4 1 x (by omega)
/-! ===== new yards, copies, whole commands ===== -/
theorem av_clear {Y : Nat → Int → Int} : av_Y (am_yc Y) ∧ am_yc Y 0 11 = 0 := by
  have s : ∀ j v : Int, True := fun _ _ => trivial
  have c1 : ∀ x, 0 ≤ x → x < 24 → am_yc Y 1 x = 0 := fun x a b => by unfold am_yc; simp [ay_uy_x, am_rg, a, b]
  have c2 : ∀ x, 0 ≤ x → x < 24 → am_yc Y 2 x = -1 := fun x a b => by unfold am_yc; simp [ay_uy_x, am_rg, a, b]
  have c3 : ∀ x, 0 ≤ x → x < 24 → am_yc Y 3 x = -1 := fun x a b => by unfold am_yc; simp [ay_uy_x, am_rg, a, b]
  have c4 : ∀ x, 0 ≤ x → x < 24 → am_yc Y 4 x = -1 := fun x a b => by unfold am_yc; simp [ay_uy_x, am_rg, a, b]
  have c5 : ∀ x, 0 ≤ x → x < 24 → am_yc Y 5 x = -1 := fun x a b => by unfold am_yc; simp [ay_uy_x, am_rg, a, b]
  have c6 : ∀ x, 0 ≤ x → x < 4 → am_yc Y 6 x = -1 := fun x a b => by unfold am_yc; simp [ay_uy_x, am_rg, a, b]
  have c7 : ∀ x, 0 ≤ x → x < 4 → am_yc Y 7 x = 0 := fun x a b => by unfold am_yc; simp [ay_uy_x, am_rg, a, b]
  have s7 : am_yc Y 0 7 = 0 := by unfold am_yc; simp [ay_uy_x]
  have s8 : am_yc Y 0 8 = 0 := by unfold am_yc; simp [ay_uy_x]
  have s9 : am_yc Y 0 9 = 0 := by unfold am_yc; simp [ay_uy_x]
  have s10 : am_yc Y 0 10 = 0 := by unfold am_yc; simp [ay_uy_x]
  have s11 : am_yc Y 0 11 = 0 := by unfold am_yc; simp [ay_uy_x]
  refine ⟨⟨⟨by rw [s7]; omega, by rw [s8]; omega, fun x a b => by rw [c1 x a b]; omega, fun x a b => Or.inl ⟨c2 x a b, c3 x a b, c4 x a b, c5 x a b⟩, fun p a b => ⟨Or.inl (c7 p a b), fun _ => c7 p a b⟩⟩, ⟨?_, by rw [s9]; omega, by rw [s10]; omega⟩, fun _ => .leaf (), ⟨fun p hp => c6 p (by omega) (by omega), fun p _ x => by simp [at_ct], fun p _ x hx => by simp [at_ct] at hx⟩, fun p hp x a b hx => ?_⟩, s11⟩
  · rw [s8, s9, s10]
    have : av_lv (am_yc Y) = am_sm (fun _ => 0) 24 := av_sm_cg 24 (fun x a b => by
      show am_b (am_yc Y 2 x ≠ -1) = 0
      rw [am_b_0, c2 x a (by omega)]
      exact fun z => z rfl)
    rw [this]
    have z : ∀ n, am_sm (fun _ => 0) n = 0 := by
      intro n
      induction n with
      | zero => rfl
      | succ n ih => simp only [am_sm, ih]; rfl
    rw [z]
    rfl
  · rw [c2 x a b] at hx
    omega
theorem av_copy {Z Y : Nat → Int → Int} (h : av_Y Z) : av_Y (am_yp Z Y) ∧ am_yp Z Y 0 11 = Z 0 11 := by
  have s : ∀ j, 7 ≤ j → j ≤ 16 → am_yp Z Y 0 j = Z 0 j := by
    intro j a b
    have hj : j = 7 ∨ j = 8 ∨ j = 9 ∨ j = 10 ∨ j = 11 ∨ j = 12 ∨ j = 13 ∨ j = 14 ∨ j = 15 ∨ j = 16 := by omega
    unfold am_yp
    rcases hj with w | w | w | w | w | w | w | w | w | w <;> rw [w] <;> simp [ay_uy_x]
  refine ⟨av_cg ⟨fun c x h1 h2 a b => ?_, fun p a b => ⟨?_, ?_⟩⟩ (s 7 (by decide) (by decide)) (s 8 (by decide) (by decide)) (s 9 (by decide) (by decide)) (s 10 (by decide) (by decide)) h, s 11 (by decide) (by decide)⟩
  · have hc : c = 1 ∨ c = 2 ∨ c = 3 ∨ c = 4 ∨ c = 5 := by omega
    unfold am_yp
    rcases hc with w | w | w | w | w <;> rw [w] <;> simp [ay_uy_x, am_rg, a, b]
  · unfold am_yp; simp [ay_uy_x, am_rg, a, b]
  · unfold am_yp; simp [ay_uy_x, am_rg, a, b]
