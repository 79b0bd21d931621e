/-! ===== a log comes, piles are joined, mended; new yards ===== -/
theorem av_lg {Y : Nat → Int → Int} {p w : Int} (h : av_Y Y) (hp : 0 ≤ p ∧ p < Y 0 7) (hw : 0 ≤ w ∧ w ≤ 99) (h8 : Y 0 8 < 24) : av_Y (am_lg Y p w) ∧ av_li Y (am_lg Y p w) 24 := by
  obtain ⟨hb, hn, T, ht, ha⟩ := h
  obtain ⟨l, el⟩ : ∃ l : Nat, Y 0 8 = (l : Int) := ⟨(Y 0 8).toNat, by have := hb.2.1; omega⟩
  obtain ⟨p', ep⟩ : ∃ q : Nat, p = (q : Int) := ⟨p.toNat, by omega⟩
  have hp4 : p' < 4 := by have := hb.1; omega
  have hl : l < 24 := by omega
  have e1 : am_w (Y 0 8 + 1) = (l : Int) + 1 := by rw [el, am_wi (by omega) (by omega)]
  have eg : am_lg Y p w = am_ci (am_uy (am_uy (am_uy Y 0 8 ((l : Int) + 1)) 1 l w) 2 l p) p l := by
    unfold am_lg
    rw [e1, el, ay_pt_in (by omega), ay_pt_in (by omega)]
  obtain ⟨Z, eZ⟩ : ∃ Z, am_uy (am_uy (am_uy Y 0 8 ((l : Int) + 1)) 1 l w) 2 l p = Z := ⟨_, rfl⟩
  rw [eZ] at eg
  have u : ∀ c x, (c ≠ 0 ∨ x ≠ 8) → (c ≠ 1 ∨ x ≠ (l : Int)) → (c ≠ 2 ∨ x ≠ (l : Int)) → Z c x = Y c x := by
    intro c x a b d
    rw [← eZ, ay_uy_ne d, ay_uy_ne b, ay_uy_ne a]
  have z2 : Z 2 l = p := by rw [← eZ, ay_uy_eq]
  have z1 : Z 1 l = w := by rw [← eZ, ay_uy_ne (Or.inl (by decide)), ay_uy_eq]
  have z8 : Z 0 8 = (l : Int) + 1 := by rw [← eZ, ay_uy_ne (Or.inl (by decide)), ay_uy_ne (Or.inl (by decide)), ay_uy_eq]
  have dead : av_dd Y l := by
    rcases hb.2.2.2.1 l (by omega) (by omega) with q | q
    · exact q
    · omega
  have nol := av_no ht dead.1
  have fin : ∀ c, 3 ≤ c → c ≤ 7 → ∀ x, Z c x = Y c x := fun c h1 h2 x => u c x (Or.inl (by omega)) (Or.inl (by omega)) (Or.inl (by omega))
  have htZ : av_tr Z T := by
    refine ⟨fun q hq => ?_, ht.2.1, fun q hq x hx => ?_⟩
    · rw [fin 6 (by omega) (by omega)]
      exact at_is_fr _ _ _ (fun x _ => ⟨fin 3 (by omega) (by omega) x, fin 4 (by omega) (by omega) x, fin 5 (by omega) (by omega) x⟩) (ht.1 q hq)
    · have hxl : x ≠ (l : Int) := by
        intro e
        rw [e] at hx
        have := nol q hq
        omega
      rw [u 2 x (Or.inl (by decide)) (Or.inl (by decide)) (Or.inr hxl)]
      exact ht.2.2 q hq x hx
  obtain ⟨c1, c2, c3, c4⟩ := av_ci htZ hp4 hl nol (by rw [fin 4 (by omega) (by omega)]; exact dead.2.2.1) (by rw [fin 5 (by omega) (by omega)]; exact dead.2.2.2) (by rw [z2, ep])
  rw [← ep] at c1 c2 c3
  have g0 : ∀ j, j ≠ 11 → am_lg Y p w 0 j = Z 0 j := fun j hj => by rw [eg, ay_ci_0 hj]
  have gc : ∀ c, c = 1 ∨ c = 2 ∨ c = 7 → ∀ x, am_lg Y p w c x = Z c x := by
    intro c hc x
    rw [eg]
    exact av_ci_fr ⟨by omega, by omega, by omega, Or.inl (by omega)⟩ (by omega)
  have s7 : Z 0 7 = Y 0 7 := u 0 7 (Or.inr (by decide)) (Or.inl (by decide)) (Or.inl (by decide))
  have s9 : Z 0 9 = Y 0 9 := u 0 9 (Or.inr (by decide)) (Or.inl (by decide)) (Or.inl (by decide))
  have s10 : Z 0 10 = Y 0 10 := u 0 10 (Or.inr (by decide)) (Or.inl (by decide)) (Or.inl (by decide))
  have s11 : Z 0 11 = Y 0 11 := u 0 11 (Or.inr (by decide)) (Or.inl (by decide)) (Or.inl (by decide))
  refine ⟨⟨⟨?_, ?_, ?_, ?_, ?_⟩, ⟨?_, ?_, ?_⟩, _, by rw [eg]; exact c1, ?_⟩, _, at_co_le _ _ _, by rw [eg, c3, s11]⟩
  · rw [g0 7 (by decide), s7]; exact hb.1
  · rw [g0 8 (by decide), z8]; omega
  · intro x a b
    rw [gc 1 (by omega)]
    by_cases q : x = (l : Int)
    · rw [q, z1]; exact hw
    · rw [u 1 x (Or.inl (by decide)) (Or.inr q) (Or.inl (by decide))]
      exact hb.2.2.1 x a b
  · intro x a b
    rw [g0 7 (by decide), g0 8 (by decide), s7, z8, gc 2 (by omega)]
    by_cases q : x = (l : Int)
    · refine Or.inr ?_
      rw [q, z2]
      exact ⟨hp, by omega⟩
    · have q2 : Z 2 x = Y 2 x := u 2 x (Or.inl (by decide)) (Or.inl (by decide)) (Or.inr q)
      rw [q2]
      rcases hb.2.2.2.1 x a b with v | v
      · refine Or.inl ?_
        have := c2 x (av_no ht v.1 p' hp4) q (by omega)
        unfold av_dd
        rw [gc 2 (by omega), q2, eg, this.1, this.2.1, this.2.2, fin 3 (by omega) (by omega), fin 4 (by omega) (by omega), fin 5 (by omega) (by omega)]
        exact v
      · exact Or.inr ⟨v.1, by omega⟩
  · intro r a b
    rw [g0 7 (by decide), s7, gc 7 (by omega), fin 7 (by omega) (by omega)]
    exact hb.2.2.2.2 r a b
  · have h5 := av_sm_ch (f := fun x => am_b (am_lg Y p w 2 x ≠ -1)) (g := fun x => am_b (Y 2 x ≠ -1)) (l := l) (fun x hx => by
      show am_b (am_lg Y p w 2 x ≠ -1) = am_b (Y 2 x ≠ -1)
      simp only [gc 2 (by omega), u 2 x (Or.inl (by decide)) (Or.inl (by decide)) (Or.inr hx)]) (by omega) 24
    rw [if_pos (by omega)] at h5
    have e1 : am_b (am_lg Y p w 2 l ≠ -1) = 1 := by
      rw [am_b_1, gc 2 (by omega), z2]
      omega
    have e2 : am_b (Y 2 l ≠ -1) = 0 := by
      rw [am_b_0]
      exact fun z => z dead.1
    rw [e1, e2] at h5
    show am_sm (fun x => am_b (am_lg Y p w 2 x ≠ -1)) 24 = _
    have h6 := hn.1
    rw [h5, g0 8 (by decide), g0 9 (by decide), g0 10 (by decide), z8, s9, s10]
    show av_lv Y + _ = _
    omega
  · rw [g0 9 (by decide), s9]; exact hn.2.1
  · rw [g0 10 (by decide), s10]; exact hn.2.2
  · intro q hq x a b hx
    rw [gc 2 (by omega)] at hx
    by_cases e : x = (l : Int)
    · rw [e, z2] at hx
      have hqp : q = p' := by omega
      rw [hqp, av_up_eq, c4, if_pos e]
      omega
    · rw [u 2 x (Or.inl (by decide)) (Or.inl (by decide)) (Or.inr e)] at hx
      by_cases hqp : q = p'
      · rw [hqp, av_up_eq, c4, if_neg e]
        rw [hqp] at hx
        have := ha p' hp4 x a b hx
        omega
      · rw [av_up_ne hqp]
        exact ha q hq x a b hx
theorem av_jpY {Y : Nat → Int → Int} {p q : Int} (h : av_Y Y) (hp : 0 ≤ p ∧ p < Y 0 7) (hq : 0 ≤ q ∧ q < Y 0 7) (hpq : p ≠ q) : av_Y (ay_jp Y p q) ∧ av_li Y (ay_jp Y p q) 24 := by
  obtain ⟨hb, hn, T, ht, ha⟩ := h
  obtain ⟨p', ep⟩ : ∃ r : Nat, p = (r : Int) := ⟨p.toNat, by omega⟩
  obtain ⟨q', eq⟩ : ∃ r : Nat, q = (r : Int) := ⟨q.toNat, by omega⟩
  have hp4 : p' < 4 := by have := hb.1; omega
  have hq4 : q' < 4 := by have := hb.1; omega
  subst ep
  subst eq
  obtain ⟨j1, j2, j3, j4⟩ := av_jp ht hp4 hq4 (fun e => hpq (by rw [e]))
  have g0 : ∀ j, j ≠ 11 → ay_jp Y p' q' 0 j = Y 0 j := fun j hj => ay_jp_0 hj
  have gc : ∀ c, c = 1 ∨ c = 7 → ∀ x, ay_jp Y p' q' c x = Y c x := by
    intro c hc x
    unfold ay_jp ay_jp0
    rw [ay_rg_ne (by omega), ay_pt_ne (Or.inl (by omega)), ay_pt_ne (Or.inl (by omega)), ay_jl_fr ⟨by omega, by omega, by omega, Or.inl (by omega)⟩]
  have g2 : ∀ x, 0 ≤ x → x < 24 → ay_jp Y p' q' 2 x = if Y 2 x = (q' : Int) then (p' : Int) else Y 2 x := by
    intro x a b
    have e3 : ay_jp0 Y p' q' 2 x = Y 2 x := by
      unfold ay_jp0
      rw [ay_pt_ne (Or.inl (by decide)), ay_pt_ne (Or.inl (by decide)), ay_jl_fr ⟨by decide, by decide, by decide, Or.inl (by decide)⟩]
    unfold ay_jp am_rg ay_mv
    rw [e3, if_pos ⟨rfl, a, b⟩]
  refine ⟨⟨⟨?_, ?_, ?_, ?_, ?_⟩, ⟨?_, ?_, ?_⟩, _, j1, ?_⟩, _, at_co_le _ _ _, j3⟩
  · rw [g0 7 (by decide)]; exact hb.1
  · rw [g0 8 (by decide)]; exact hb.2.1
  · intro x a b
    rw [gc 1 (by omega)]
    exact hb.2.2.1 x a b
  · intro x a b
    rw [g0 7 (by decide), g0 8 (by decide), g2 x a b]
    rcases hb.2.2.2.1 x a b with v | v
    · refine Or.inl ?_
      have := j2 x (by have h1 := av_no ht v.1 p' hp4; have h2 := av_no ht v.1 q' hq4; omega) (by omega)
      unfold av_dd
      rw [g2 x a b, if_neg (by rw [v.1]; omega), this.1, this.2.1, this.2.2]
      exact v
    · refine Or.inr ⟨?_, v.2⟩
      split
      · exact hp
      · exact v.1
  · intro r a b
    rw [g0 7 (by decide), gc 7 (by omega)]
    exact hb.2.2.2.2 r a b
  · have h5 := av_sm_cg (f := fun x => am_b (ay_jp Y p' q' 2 x ≠ -1)) (g := fun x => am_b (Y 2 x ≠ -1)) 24 (fun x a b => by
      show am_b (ay_jp Y p' q' 2 x ≠ -1) = am_b (Y 2 x ≠ -1)
      simp only [g2 x a (by omega)]
      unfold am_b
      repeat' split
      all_goals first | rfl | (exfalso; omega))
    show am_sm (fun x => am_b (ay_jp Y p' q' 2 x ≠ -1)) 24 = _
    rw [h5, g0 8 (by decide), g0 9 (by decide), g0 10 (by decide)]
    exact hn.1
  · rw [g0 9 (by decide)]; exact hn.2.1
  · rw [g0 10 (by decide)]; exact hn.2.2
  · intro r hr x a b hx
    rw [g2 x a b] at hx
    by_cases hrq : r = q'
    · exfalso
      rw [hrq] at hx
      split at hx
      · omega
      · rename_i w
        exact w hx
    · rw [av_up_ne hrq]
      by_cases hrp : r = p'
      · rw [hrp, av_up_eq, j4]
        rw [hrp] at hx
        split at hx
        · rename_i w
          have := ha q' hq4 x a b w
          omega
        · have := ha p' hp4 x a b hx
          omega
      · rw [av_up_ne hrp]
        split at hx
        · omega
        · exact ha r hr x a b hx
