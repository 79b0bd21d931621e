/-! ===== a log goes from its tree ===== -/
theorem at_fi_up {Y : Nat → Int → Int} {x : Int} : ∀ (t : at_T) (u a : Int), at_is Y t u a → (∀ z, at_ct t z ≤ 1) → at_ct t u = 0 → 0 < at_ct t x → at_ct (at_fi x t).1 (Y 3 x) + at_ct (at_fi x t).2 (Y 3 x) = 0 := by
  intro t
  induction t with
  | leaf v => intro u a _ _ _ h; simp [at_ct] at h
  | branch n l r ihl ihr =>
    intro u a h hn hu hc
    simp only [at_is] at h
    simp only [at_ct] at hn hu hc
    have h0 := hn n
    rw [if_pos rfl] at h0
    rw [at_fi]
    by_cases q : x = (n : Int)
    · rw [if_pos q, q, h.1.2.2]
      dsimp only
      omega
    · rw [if_neg q] at hc ⊢
      by_cases q2 : 0 < at_ct l x
      · rw [if_pos q2]
        exact ihl _ _ h.2.1 (fun z => by have := hn z; omega) (by omega) q2
      · rw [if_neg q2]
        exact ihr _ _ h.2.2 (fun z => by have := hn z; omega) (by omega) (by omega)
theorem av_rm_2 {Y : Nat → Int → Int} {l x : Int} (hl : 0 ≤ l ∧ l < 24) : am_rmv Y l 2 x = if x = l then -1 else Y 2 x := by
  unfold am_rmv am_rm3
  rw [ay_pt_ne (Or.inl (by decide)), ay_pt_ne (Or.inl (by decide)), ay_pt_ne (Or.inl (by decide))]
  by_cases q : x = l
  · rw [if_pos q, q, ay_pt_eq (by omega)]
  · rw [if_neg q, ay_pt_ne (Or.inr q), ay_rm2_fr (by decide) (by decide) (by decide)]
    unfold am_rm1
    rw [ay_pt_ne (Or.inl (by decide)), ay_jl_fr ⟨by decide, by decide, by decide, Or.inl (by decide)⟩]
theorem av_rmv {Y : Nat → Int → Int} {T : Nat → at_T} (h : av_tr Y T) {p : Nat} {l : Int} (hp : p < 4) (hc : 0 < at_ct (T p) l) :
    av_tr (am_rmv Y l) (av_up T p (at_rm (Y 1) l (T p))) ∧ (∀ x, at_ct (T p) x = 0 → x ≠ -1 → am_rmv Y l 3 x = Y 3 x ∧ am_rmv Y l 4 x = Y 4 x ∧ am_rmv Y l 5 x = Y 5 x) ∧ (am_rmv Y l 3 l = -1 ∧ am_rmv Y l 4 l = -1 ∧ am_rmv Y l 5 l = -1) ∧ am_rmv Y l 0 11 = at_lf (at_co (Y 1) 24 (at_fi l (T p)).1 (at_fi l (T p)).2) (Y 0 11) ∧ (∀ x, at_ct (at_rm (Y 1) l (T p)) x = if x = l then 0 else at_ct (T p) x) := by
  have hl := av_in h hp hc
  have hl1 : l ≠ -1 := by omega
  have hI := h.1 p hp
  have hN := h.2.1 p hp
  obtain ⟨f1, f2, f3⟩ := at_fi_is (T p) _ _ hI hc
  have m1 : at_ct (T p) (-1) = 0 := by
    have : ¬ 0 < at_ct (T p) (-1) := fun z => by have := av_in h hp z; omega
    omega
  have hup := at_fi_up (T p) _ _ hI hN m1 hc
  have hn : ∀ x, at_ct (at_fi l (T p)).1 x + at_ct (at_fi l (T p)).2 x ≤ 1 := fun x => by have := f3 x; have := hN x; omega
  have hR := at_jo (Y := Y) (at_is_rt f1) (at_is_rt f2) hn
  have i1 : ∀ x, 0 < at_ct (at_fi l (T p)).1 x → x < 24 := fun x hx => (at_rt_in (at_is_rt f1) hx).2
  have i2 : ∀ x, 0 < at_ct (at_fi l (T p)).2 x → x < 24 := fun x hx => (at_rt_in (at_is_rt f2) hx).2
  have hsz := at_sz_le hn i1 i2
  have hcJ : ∀ x, at_ct (at_jn (Y 1) 24 (at_fi l (T p)).1 (at_fi l (T p)).2) x = at_ct (at_fi l (T p)).1 x + at_ct (at_fi l (T p)).2 x := fun x => (at_jn_ct 24 _ _ (by omega)).1
  have hszt : at_sz (T p) ≤ 24 := by
    have h1 := at_sz_le (s := T p) (w := .leaf ()) (fun x => by have := hN x; simp only [at_ct]; omega) (fun x hx => (av_in h hp hx).2) (fun x hx => by simp [at_ct] at hx)
    simp only [at_sz] at h1
    omega
  have g4 : am_gt (Y 4) 24 l = Y 4 l := at_gt (by omega)
  have g5 : am_gt (Y 5) 24 l = Y 5 l := at_gt (by omega)
  have g3 : am_gt (Y 3) 24 l = Y 3 l := at_gt (by omega)
  -- names
  have eR : ∃ R, am_jo Y (Y 4 l) (Y 5 l) = R := ⟨_, rfl⟩
  obtain ⟨R, eR⟩ := eR
  rw [eR] at hR
  obtain ⟨J, eJ⟩ : ∃ J, at_jn (Y 1) 24 (at_fi l (T p)).1 (at_fi l (T p)).2 = J := ⟨_, rfl⟩
  have eJ' := eJ
  rw [eJ] at hR hcJ
  obtain ⟨r1, _, r3, r4, _, r6⟩ := hR
  rw [if_pos rfl] at r3
  obtain ⟨u, eu⟩ : ∃ u, Y 3 l = u := ⟨_, rfl⟩
  have o2 : ∀ x, R.1 2 x = Y 2 x := by
    intro x
    rw [← eR, ay_jl_fr ⟨by decide, by decide, by decide, Or.inl (by decide)⟩]
  have o6 : ∀ x, R.1 6 x = Y 6 x := by
    intro x
    rw [← eR, ay_jl_fr ⟨by decide, by decide, by decide, Or.inl (by decide)⟩]
  have uin : u ≠ -1 → 0 < at_ct (T p) u ∧ (Y 4 u = l ∨ Y 5 u = l) := by
    intro hu
    rcases at_chi (T p) _ _ hI hc with q | q
    · rw [eu] at q
      exact absurd q.2 hu
    · rw [eu] at q
      exact q
  have uno : at_ct (at_fi l (T p)).1 u + at_ct (at_fi l (T p)).2 u = 0 := by rw [eu] at hup; exact hup
  have ul : u ≠ l := by
    intro e
    have := uin (by omega)
    rcases at_chi (T p) _ _ hI hc with q | q
    · rw [eu] at q
      omega
    · have h1 := at_par hl1 (by rw [eu] at q; exact q.2) (T p) _ _ hI this.1
      have h2 := f3 l
      have h3 := at_par (x := l) (y := l) hl1 (by rw [← e]; rw [e]; rw [eu, e] at q; exact q.2)
      have h4 : ∀ (t : at_T) (u a : Int), at_is Y t u a → (∀ z, at_ct t z ≤ 1) → 0 < at_ct t l → (Y 4 l = l ∨ Y 5 l = l) → False := by
        intro t
        induction t with
        | leaf v => intro u a _ _ h; simp [at_ct] at h
        | branch n ll rr ihl ihr =>
          intro u a h hn hc hx
          simp only [at_is] at h
          simp only [at_ct] at hn hc
          by_cases q : l = (n : Int)
          · have h0 := hn n
            rw [if_pos rfl] at h0
            rw [← q] at h h0
            rcases hx with hx | hx
            · have := at_is_top h.2.1 (by omega)
              rw [hx] at this
              omega
            · have := at_is_top h.2.2 (by omega)
              rw [hx] at this
              omega
          · rw [if_neg q] at hc
            by_cases q2 : 0 < at_ct ll l
            · exact ihl _ _ h.2.1 (fun z => by have := hn z; omega) q2 hx
            · exact ihr _ _ h.2.2 (fun z => by have := hn z; omega) (by omega) hx
      rw [eu, e] at q
      exact h4 (T p) _ _ hI hN hc q.2
  have e1 : am_rm1 Y l = am_pt R.1 3 24 R.2 u := by
    unfold am_rm1
    rw [g4, g5, g3, eR, eu]
  have ev : am_rmv Y l = am_rm3 (am_rm2 (am_pt R.1 3 24 R.2 u) l u R.2) l := by
    unfold am_rmv
    rw [e1, g3, g4, g5, eR, eu]
  have u4 : u ≠ -1 → am_gt (am_pt R.1 3 24 R.2 u 4) 24 u = Y 4 u := by
    intro hu
    have := av_in h hp (uin hu).1
    rw [at_gt (by omega), ay_pt_ne (Or.inl (by decide))]
    exact (r4 u uno hu).2.1
  have z3 : ∀ x, x ≠ l → am_rmv Y l 3 x = am_pt R.1 3 24 R.2 u 3 x := by
    intro x hx
    rw [ev]
    unfold am_rm3
    rw [ay_pt_ne (Or.inl (by decide)), ay_pt_ne (Or.inl (by decide)), ay_pt_ne (Or.inr hx), ay_pt_ne (Or.inl (by decide))]
    unfold am_rm2
    repeat' split
    all_goals rw [ay_pt_ne (Or.inl (by decide))]
  have z4 : ∀ x, x ≠ l → am_rmv Y l 4 x = if u ≠ -1 ∧ Y 4 u = l ∧ x = u then R.2 else R.1 4 x := by
    intro x hx
    rw [ev]
    unfold am_rm3
    rw [ay_pt_ne (Or.inl (by decide)), ay_pt_ne (Or.inr hx), ay_pt_ne (Or.inl (by decide)), ay_pt_ne (Or.inl (by decide))]
    unfold am_rm2
    by_cases hu : u = -1
    · rw [if_pos hu, if_neg (fun z => z.1 hu), ay_pt_ne (Or.inl (by decide)), ay_pt_ne (Or.inl (by decide))]
    · rw [if_neg hu, u4 hu]
      have hu24 := av_in h hp (uin hu).1
      by_cases h4 : Y 4 u = l
      · rw [if_pos h4]
        by_cases hxu : x = u
        · rw [if_pos ⟨hu, h4, hxu⟩, hxu, ay_pt_eq (by omega)]
        · rw [if_neg (fun z => hxu z.2.2), ay_pt_ne (Or.inr hxu), ay_pt_ne (Or.inl (by decide))]
      · rw [if_neg h4, if_neg (fun z => h4 z.2.1), ay_pt_ne (Or.inl (by decide)), ay_pt_ne (Or.inl (by decide))]
  have z5 : ∀ x, x ≠ l → am_rmv Y l 5 x = if u ≠ -1 ∧ Y 4 u ≠ l ∧ x = u then R.2 else R.1 5 x := by
    intro x hx
    rw [ev]
    unfold am_rm3
    rw [ay_pt_ne (Or.inr hx), ay_pt_ne (Or.inl (by decide)), ay_pt_ne (Or.inl (by decide)), ay_pt_ne (Or.inl (by decide))]
    unfold am_rm2
    by_cases hu : u = -1
    · rw [if_pos hu, if_neg (fun z => z.1 hu), ay_pt_ne (Or.inl (by decide)), ay_pt_ne (Or.inl (by decide))]
    · rw [if_neg hu, u4 hu]
      have hu24 := av_in h hp (uin hu).1
      by_cases h4 : Y 4 u = l
      · rw [if_pos h4, if_neg (fun z => z.2.1 h4), ay_pt_ne (Or.inl (by decide)), ay_pt_ne (Or.inl (by decide))]
      · rw [if_neg h4]
        by_cases hxu : x = u
        · rw [if_pos ⟨hu, h4, hxu⟩, hxu, ay_pt_eq (by omega)]
        · rw [if_neg (fun z => hxu z.2.2), ay_pt_ne (Or.inr hxu), ay_pt_ne (Or.inl (by decide))]
  have z6 : ∀ x, am_rmv Y l 6 x = if u = -1 ∧ x = (p : Int) then R.2 else Y 6 x := by
    intro x
    rw [ev]
    unfold am_rm3
    rw [ay_pt_ne (Or.inl (by decide)), ay_pt_ne (Or.inl (by decide)), ay_pt_ne (Or.inl (by decide)), ay_pt_ne (Or.inl (by decide))]
    unfold am_rm2
    by_cases hu : u = -1
    · have hh : am_gt (am_pt R.1 3 24 R.2 u 2) 24 l = (p : Int) := by
        rw [at_gt (by omega), ay_pt_ne (Or.inl (by decide)), o2]
        exact h.2.2 p hp l hc
      rw [if_pos hu, hh]
      by_cases hx : x = (p : Int)
      · rw [if_pos ⟨hu, hx⟩, hx, ay_pt_eq (by omega)]
      · rw [if_neg (fun z => hx z.2), ay_pt_ne (Or.inr hx), ay_pt_ne (Or.inl (by decide)), o6]
    · rw [if_neg hu, if_neg (show ¬(u = -1 ∧ x = (p : Int)) from fun z => hu z.1)]
      split
      · rw [ay_pt_ne (Or.inl (by decide)), ay_pt_ne (Or.inl (by decide)), o6]
      · rw [ay_pt_ne (Or.inl (by decide)), ay_pt_ne (Or.inl (by decide)), o6]
  have roJ : R.2 ≠ -1 → 0 < at_ct (at_fi l (T p)).1 R.2 + at_ct (at_fi l (T p)).2 R.2 := by
    intro hne
    rw [r3] at hne ⊢
    have := at_ro_ct hne
    rw [hcJ] at this
    exact this
  have sub : ∀ x, 0 < at_ct (at_fi l (T p)).1 x + at_ct (at_fi l (T p)).2 x → x ≠ l ∧ x ≠ u ∧ 0 ≤ x ∧ x < 24 := by
    intro x hx
    have h1 := f3 x
    have h2 := hN x
    refine ⟨fun e => ?_, fun e => ?_, ?_⟩
    · rw [if_pos e] at h1
      omega
    · rw [e] at hx
      omega
    · exact av_in h hp (by omega)
  have p3 : ∀ x, x ≠ R.2 → am_pt R.1 3 24 R.2 u 3 x = R.1 3 x := fun x hx => ay_pt_ne (Or.inr hx)
  have far : ∀ x, x ≠ l → x ≠ -1 → at_ct (at_fi l (T p)).1 x + at_ct (at_fi l (T p)).2 x = 0 → am_rmv Y l 3 x = Y 3 x ∧ am_rmv Y l 4 x = (if u ≠ -1 ∧ Y 4 u = l ∧ x = u then R.2 else Y 4 x) ∧ am_rmv Y l 5 x = (if u ≠ -1 ∧ Y 4 u ≠ l ∧ x = u then R.2 else Y 5 x) := by
    intro x hxl hx1 hx0
    have h1 := r4 x hx0 hx1
    rw [z3 x hxl, z4 x hxl, z5 x hxl, h1.2.1, h1.2.2]
    refine ⟨?_, rfl, rfl⟩
    rw [p3 x (fun e => by
      by_cases hr : R.2 = -1
      · omega
      · have := roJ hr
        rw [← e] at this
        omega), h1.1]
  have hJ : at_is (am_rmv Y l) J (Y 3 l) R.2 := by
    rw [eu]
    have hro := at_rt_ro (at_is_rt r1)
    rw [r3]
    refine at_rt_is (at_rt_fr (fun x hx => ?_) (fun x => by rw [hcJ]; exact hn x) (at_is_rt r1)) (fun hne => ?_)
    · rw [hcJ] at hx
      obtain ⟨q1, q2, q3⟩ := sub x hx
      refine ⟨fun hxr => ?_, ?_, ?_⟩
      · rw [z3 x q1, p3 x (by rw [r3]; exact hxr)]
      · rw [z4 x q1, if_neg (fun z => q2 z.2.2)]
      · rw [z5 x q1, if_neg (fun z => q2 z.2.2)]
    · have hne' : R.2 ≠ -1 := by rw [r3]; exact hne
      have := sub _ (roJ hne')
      rw [← r3, z3 _ this.1, ay_pt_eq (by omega)]
  have hmain := at_rm_is (Z := am_rmv Y l) (D := Y 1) (ρ := R.2) hl1 (T p) _ _ hI hN hc (fun y hy hyl hy0 => by
    have hy1 := av_in h hp hy
    obtain ⟨q1, q2, q3⟩ := far y hyl (by omega) hy0
    refine ⟨q1, ?_, ?_⟩
    · rw [q2]
      by_cases h4 : Y 4 y = l
      · have := at_par hl1 (Or.inl h4) (T p) _ _ hI hy
        rw [eu] at this
        rw [if_pos ⟨by omega, by rw [this.1]; exact h4, this.1.symm⟩, if_pos h4]
      · rw [if_neg h4, if_neg (fun z => h4 (by rw [z.2.2]; exact z.2.1))]
    · rw [q3]
      by_cases h5 : Y 5 y = l
      · have h6 := at_par hl1 (Or.inr h5) (T p) _ _ hI hy
        rw [eu] at h6
        rw [if_pos ⟨by omega, fun z => hl1 (at_lr (y := y) (by rw [← h6.1]; exact z) h5 (T p) _ _ hI hN hy), h6.1.symm⟩, if_pos h5]
      · rw [if_neg h5, if_neg (fun z => by
          have := (uin z.1).2
          rcases this with q | q
          · exact z.2.1 q
          · exact h5 (by rw [z.2.2]; exact q))]) (by rw [eJ']; exact hJ)
  have hct := fun y => at_rm_ct (D := Y 1) (x := l) (y := y) (T p) hN hszt
  refine ⟨⟨?_, ?_, ?_⟩, ?_, ?_, ?_, hct⟩
  · intro q h4'
    rw [z6]
    by_cases hq : q = p
    · rw [hq, av_up_eq]
      have e6 : (if u = -1 ∧ (p : Int) = (p : Int) then R.2 else Y 6 p) = if Y 6 p = l then R.2 else Y 6 p := by
        by_cases hu : u = -1
        · rw [if_pos ⟨hu, rfl⟩]
          rcases at_chi (T p) _ _ hI hc with w | w
          · rw [if_pos w.1.symm]
          · rw [eu, hu] at w
            omega
        · rw [if_neg (fun z => hu z.1), if_neg]
          intro e
          have := at_is_top hI (by rw [e]; exact hl1)
          rw [e, eu] at this
          exact hu this.1
      rw [e6]
      exact hmain
    · rw [av_up_ne hq, if_neg (by omega)]
      refine at_is_fr _ _ _ (fun x hx => ?_) (h.1 q h4')
      have hd := av_dj h h4' hp hq x
      have hx0 := av_in h h4' hx
      have hxl : x ≠ l := by
        intro e
        rw [e] at hx hd
        omega
      have h0 : at_ct (at_fi l (T p)).1 x + at_ct (at_fi l (T p)).2 x = 0 := by have := f3 x; omega
      have hxu : u ≠ -1 → x ≠ u := by
        intro hu e
        have := (uin hu).1
        rw [e] at hd hx
        omega
      obtain ⟨q1, q2, q3⟩ := far x hxl (by omega) h0
      rw [if_neg (fun z => hxu z.1 z.2.2)] at q2 q3
      exact ⟨q1, q2, q3⟩
  · intro q h4' x
    by_cases hq : q = p
    · rw [hq, av_up_eq, hct]
      split
      · omega
      · exact hN x
    · rw [av_up_ne hq]
      exact h.2.1 q h4' x
  · intro q h4' x hx
    rw [av_rm_2 hl]
    by_cases hq : q = p
    · rw [hq, av_up_eq, hct] at hx
      rw [hq]
      by_cases hxl : x = l
      · rw [if_pos hxl] at hx
        omega
      · rw [if_neg hxl] at hx ⊢
        exact h.2.2 p hp x hx
    · rw [av_up_ne hq] at hx
      have hd := av_dj h h4' hp hq x
      rw [if_neg (fun e => by rw [e] at hx hd; omega)]
      exact h.2.2 q h4' x hx
  · intro x hx hx1
    have hxl : x ≠ l := by
      intro e
      rw [e] at hx
      omega
    have h0 : at_ct (at_fi l (T p)).1 x + at_ct (at_fi l (T p)).2 x = 0 := by have := f3 x; omega
    have hxu : u ≠ -1 → x ≠ u := by
      intro hu e
      have := (uin hu).1
      rw [e] at hx
      omega
    obtain ⟨q1, q2, q3⟩ := far x hxl hx1 h0
    rw [if_neg (fun z => hxu z.1 z.2.2)] at q2 q3
    exact ⟨q1, q2, q3⟩
  · rw [ev]
    unfold am_rm3
    refine ⟨?_, ?_, ?_⟩
    · rw [ay_pt_ne (Or.inl (by decide)), ay_pt_ne (Or.inl (by decide)), ay_pt_eq (by omega)]
    · rw [ay_pt_ne (Or.inl (by decide)), ay_pt_eq (by omega)]
    · rw [ay_pt_eq (by omega)]
  · rw [ev, ay_rm3_fr (by decide) (by decide) (by decide) (by decide), ay_rm2_fr (by decide) (by decide) (by decide), ay_pt_ne (Or.inl (by decide)), r6]
