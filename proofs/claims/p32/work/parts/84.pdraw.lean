/-! ===== draws: what is drawn till a damp, in the order of the logs: pure ===== -/
def cn (Y : Nat → Int → Int) (p w : Int) : Int := am_sm (fun x => am_b (Y 2 x = p ∧ Y 1 x ≤ w)) 24
section PD
variable {Y : Nat → Int → Int} {p : Nat} {w : Int}
theorem cn_le : 0 ≤ cn Y p w ∧ cn Y p w ≤ ac_in Y p := by
  refine ⟨sm_ge (fun x => am_b_le.1) 24, (av_sm3 24 (fun x a b => ?_)).1⟩
  unfold am_b
  repeat' split
  all_goals omega
theorem ho_of {D : Int → Int} : ∀ (t : at_T) (u a : Int), at_is Y t u a → (∀ z, at_ct t z ≤ 1) → (u = -1 ∨ ¬ at_ah D a u ∨ a = -1) → (∀ x, 0 < at_ct t x → x ≠ a → ¬ at_ah D x (Y 3 x)) → at_ho D t u := by
  intro t
  induction t with
  | leaf v => intro u a _ _ _ _; trivial
  | branch n l r ihl ihr =>
    intro u a hI hn hu hx
    obtain ⟨⟨ha, hh, h3⟩, hl, hr⟩ := hI
    have hnn := hn (n : Int)
    simp only [at_ct, if_true] at hnn
    refine ⟨by rcases hu with h | h | h; exact Or.inl h; exact Or.inr (by rw [← ha]; exact h); omega, ihl _ _ hl (fun z => by have := hn z; simp only [at_ct] at this; omega) ?_ (fun x hc hxa => ?_), ihr _ _ hr (fun z => by have := hn z; simp only [at_ct] at this; omega) ?_ (fun x hc hxa => ?_)⟩
    · by_cases q : Y 4 n = -1
      · exact Or.inr (Or.inr q)
      · have ht := at_is_top hl q
        have h9 := hx (Y 4 n) (by simp only [at_ct]; omega) (fun z => by rw [z, ha] at ht; omega)
        rw [ht.1] at h9
        exact Or.inr (Or.inl h9)
    · exact hx x (by simp only [at_ct]; omega) (fun z => by rw [z, ha] at hc; omega)
    · by_cases q : Y 5 n = -1
      · exact Or.inr (Or.inr q)
      · have ht := at_is_top hr q
        have h9 := hx (Y 5 n) (by simp only [at_ct]; omega) (fun z => by rw [z, ha] at ht; omega)
        rw [ht.1] at h9
        exact Or.inr (Or.inl h9)
    · exact hx x (by simp only [at_ct]; omega) (fun z => by rw [z, ha] at hc; omega)
theorem hp_of (hY : av_Y Y) (hp : p < 4) (ho : am_oa Y p ≤ 0) : av_hp Y p := by
  obtain ⟨hb, -, T, ht, ha⟩ := hY
  refine ⟨T, ht, ha, ho_of (T p) _ _ (ht.1 p hp) (ht.2.1 p hp) (Or.inl rfl) (fun x hx hxa => fun z => ?_)⟩
  have hxr := av_in ht hp hx
  have h2 := ht.2.2 p hp x hx
  rcases at_chi (T p) _ _ (ht.1 p hp) hx with c | c
  · exact hxa c.1
  · have hur := av_in ht hp c.1
    have hof : am_of Y p x := ⟨h2, by omega, by omega, z⟩
    have h0 : am_sm (fun _ => (0 : Int)) 24 < am_oa Y p := (av_sm3 (f := fun _ => (0 : Int)) (g := fun l => am_b (am_of Y p l)) 24 (fun i _ _ => am_b_le.1)).2 ⟨x, by omega, by show (0 : Int) < am_b (am_of Y p x); rw [am_b, if_pos hof]; decide⟩
    rw [av_sm0 24 (fun _ _ _ => rfl)] at h0
    omega
/-- a burnt top is gone; the rest stays -/
theorem bn_2 (hY : av_Y Y) (ht : am_gt (Y 6) 4 p ≠ -1) (x : Int) : ay_burn Y p 2 x = if x = am_gt (Y 6) 4 p then -1 else Y 2 x := by
  obtain ⟨t1, t2, t3, t4⟩ := av_top_in hY ht
  have e6 : am_gt (Y 6) 4 p = Y 6 p := at_gt (by omega)
  have c : ∀ c x, c ≠ 0 → ay_bn0 Y p c x = Y c x := fun c x hc => ay_bn0_fr (Or.inl hc)
  have eb : ay_burn Y p = am_rmv (ay_bn0 Y p) (Y 6 p) := by
    unfold ay_burn
    rw [at_gt (by omega), c 6 p (by decide)]
  rw [eb, av_rm_2 t2, c 2 x (by decide), e6]
theorem bn_1 (hY : av_Y Y) (ht : am_gt (Y 6) 4 p ≠ -1) : ay_burn Y p 1 = Y 1 := by
  obtain ⟨t1, t2, t3, t4⟩ := av_top_in hY ht
  have c : ∀ c x, c ≠ 0 → ay_bn0 Y p c x = Y c x := fun c x hc => ay_bn0_fr (Or.inl hc)
  have eb : ay_burn Y p = am_rmv (ay_bn0 Y p) (Y 6 p) := by
    unfold ay_burn
    rw [at_gt (by omega), c 6 p (by decide)]
  funext x
  rw [eb, ay_rmv_fr ⟨by decide, by decide, by decide, Or.inl (by decide)⟩ (by decide) (by decide), c 1 x (by decide)]
theorem bn_in (hY : av_Y Y) (ht : am_gt (Y 6) 4 p ≠ -1) : ac_in (ay_burn Y p) p = ac_in Y p - 1 := by
  obtain ⟨t1, t2, t3, t4⟩ := av_top_in hY ht
  have e6 : am_gt (Y 6) 4 p = Y 6 p := at_gt (by omega)
  have h := av_sm1 (f := fun x => am_b (Y 2 x = (p : Int))) (g := fun x => am_b (ay_burn Y p 2 x = (p : Int))) (z := Y 6 p) t2.1 24 (fun i a b => by
    show am_b (Y 2 i = (p : Int)) = am_b (ay_burn Y p 2 i = (p : Int)) + _
    rw [bn_2 hY ht, e6]
    unfold am_b
    by_cases q : i = Y 6 p
    · rw [if_pos q, if_pos q, q, t3, if_pos rfl, if_neg (by omega)]
      rfl
    · rw [if_neg q, if_neg q]
      omega)
  rw [if_pos (by omega)] at h
  show am_sm (fun x => am_b (ay_burn Y p 2 x = (p : Int))) 24 = am_sm (fun x => am_b (Y 2 x = (p : Int))) 24 - 1
  omega
theorem bn_cn (hY : av_Y Y) (ht : am_gt (Y 6) 4 p ≠ -1) : cn (ay_burn Y p) p w = cn Y p w - (if ay_td Y p ≤ w then 1 else 0) := by
  obtain ⟨t1, t2, t3, t4⟩ := av_top_in hY ht
  have e6 : am_gt (Y 6) 4 p = Y 6 p := at_gt (by omega)
  have etd : ay_td Y p = Y 1 (Y 6 p) := by
    unfold ay_td
    rw [e6, at_gt (n := 24) (by omega)]
  rw [etd]
  by_cases qw : Y 1 (Y 6 p) ≤ w
  · have h := av_sm1 (f := fun x => am_b (Y 2 x = (p : Int) ∧ Y 1 x ≤ w)) (g := fun x => am_b (ay_burn Y p 2 x = (p : Int) ∧ ay_burn Y p 1 x ≤ w)) (z := Y 6 p) t2.1 24 (fun i a b => by
      show am_b (Y 2 i = (p : Int) ∧ Y 1 i ≤ w) = am_b (ay_burn Y p 2 i = (p : Int) ∧ ay_burn Y p 1 i ≤ w) + _
      rw [bn_2 hY ht, bn_1 hY ht, e6]
      unfold am_b
      by_cases q : i = Y 6 p
      · rw [if_pos q, if_pos q, q, t3, if_pos ⟨rfl, qw⟩, if_neg (fun z => by omega)]
        rfl
      · rw [if_neg q, if_neg q]
        omega)
    rw [if_pos (by omega)] at h
    rw [if_pos qw]
    show am_sm (fun x => am_b (ay_burn Y p 2 x = (p : Int) ∧ ay_burn Y p 1 x ≤ w)) 24 = am_sm (fun x => am_b (Y 2 x = (p : Int) ∧ Y 1 x ≤ w)) 24 - 1
    omega
  · rw [if_neg qw, Int.sub_zero]
    refine av_sm_cg 24 (fun i a b => ?_)
    show am_b (ay_burn Y p 2 i = (p : Int) ∧ ay_burn Y p 1 i ≤ w) = am_b (Y 2 i = (p : Int) ∧ Y 1 i ≤ w)
    rw [bn_2 hY ht, bn_1 hY ht, e6]
    unfold am_b
    by_cases q : i = Y 6 p
    · rw [if_pos q, q, if_neg (fun z => by omega), if_neg (fun z => qw z.2)]
    · rw [if_neg q]
theorem bn_7 : ay_burn Y p 0 7 = Y 0 7 := ay_burn_0 (by decide) ⟨by decide, by decide, by decide⟩
/-- no top: nothing to count; a top wetter than that: nothing -/
theorem cn_0 (hY : av_Y Y) (hp : (p : Int) < Y 0 7) (ho : am_oa Y p ≤ 0) (h : am_gt (Y 6) 4 p = -1 ∨ w < ay_td Y p) : cn Y p w = 0 := by
  have h7 := hY.1.1
  obtain ⟨g1, g2, g3⟩ := av_pr hY ⟨Int.natCast_nonneg p, hp⟩ ho
  refine av_sm0 24 (fun x a b => if_neg (fun z => ?_))
  have hx : av_pi Y p x := ⟨by omega, z.1⟩
  have ht := g3 ⟨x, hx⟩
  rcases h with h | h
  · have := ht.1
    omega
  · have htr := ht.1
    have etd : ay_td Y p = Y 1 (am_gt (Y 6) 4 p) := at_gt (n := 24) (by omega)
    rcases g1 x hx with e | ⟨-, -, e⟩
    · rw [e] at z
      omega
    · have := e.2
      omega
theorem dt_cn : ∀ (m : Nat) (Y : Nat → Int → Int) (c : Int), av_Y Y → (p : Int) < Y 0 7 → am_oa Y p ≤ 0 → ac_in Y p ≤ m → ac_dt m Y p w c = c + cn Y p w := by
  intro m
  induction m with
  | zero =>
    intro Y c hY hp ho hm
    have h := cn_le (Y := Y) (p := p) (w := w)
    rw [ac_dt]
    omega
  | succ m ih =>
    intro Y c hY hp ho hm
    have h7 := hY.1.1
    rw [ac_dt]
    by_cases q : ay_why Y p = 0 ∧ ay_td Y p ≤ w
    · have ht := (av_why0 q.1).1
      have hpb := hp_burn hY (by omega) (hp_of hY (p := p) (by omega) ho) ht
      rw [if_pos q, ih _ _ (av_burn hY ht).1 (by rw [bn_7]; exact hp) (by rw [hp_oa (by omega) hpb]; exact Int.le_refl _) (by rw [bn_in hY ht]; omega), bn_cn hY ht, if_pos q.2]
      omega
    · rw [if_neg q, cn_0 hY hp ho]
      · omega
      · by_cases ht : am_gt (Y 6) 4 p = -1
        · exact Or.inl ht
        · refine Or.inr ?_
          have : ay_why Y p = 0 := by
            unfold ay_why
            rw [if_neg ht, if_neg (by omega)]
          exact Int.not_le.mp (fun z => q ⟨this, z⟩)
theorem dt_24 (hY : av_Y Y) (hp : (p : Int) < Y 0 7) : ac_dt 24 Y p w 0 = if ay_why Y p = 0 then cn Y p w else 0 := by
  by_cases q : ay_why Y p = 0
  · rw [if_pos q, dt_cn 24 Y 0 hY hp (av_why0 q).2 ac_in_le.2]
    omega
  · rw [if_neg q, ac_dt, if_neg (fun z => q z.1)]
/-- the n-th of a pile: wetter than what is drawn; the one before: not -/
theorem rk_wet (hY : av_Y Y) (hp : (p : Int) < Y 0 7) (ho : am_oa Y p ≤ 0) (h : cn Y p w < ac_in Y p) : w < Y 1 (rkv Y p (cn Y p w)) := by
  have hc := cn_le (Y := Y) (p := p) (w := w)
  have a12 : av_pi Y p (rkv Y p (cn Y p w)) ∧ av_R Y p (rkv Y p (cn Y p w)) = cn Y p w := rk_at hY ⟨Int.natCast_nonneg p, hp⟩ ho (l := cn Y p w) ⟨hc.1, h⟩
  obtain ⟨a1, a2⟩ := a12
  refine Int.not_le.mp (fun z => ?_)
  have hr := a1.1
  have := (av_sm3 (f := fun x => am_b (am_ba Y (rkv Y p (cn Y p w)) p x)) (g := fun x => am_b (Y 2 x = (p : Int) ∧ Y 1 x ≤ w)) 24 (fun i _ _ => by
    show am_b (am_ba Y (rkv Y p (cn Y p w)) p i) ≤ am_b (Y 2 i = (p : Int) ∧ Y 1 i ≤ w)
    unfold am_b
    by_cases q : am_ba Y (rkv Y p (cn Y p w)) p i
    · have q2 : Y 2 i = (p : Int) ∧ Y 1 i ≤ w := ⟨q.1, by have := q.2.2; omega⟩
      rw [if_pos q, if_pos q2]
      exact Int.le_refl _
    · rw [if_neg q]
      split <;> decide)).2 ⟨rkv Y p (cn Y p w), hr, by
        show am_b (am_ba Y (rkv Y p (cn Y p w)) p (rkv Y p (cn Y p w))) < am_b (Y 2 (rkv Y p (cn Y p w)) = (p : Int) ∧ Y 1 (rkv Y p (cn Y p w)) ≤ w)
        unfold am_b
        rw [if_neg (fun q => by have := q.2.2; omega), if_pos ⟨a1.2, z⟩]
        decide⟩
  have e : av_R Y p (rkv Y p (cn Y p w)) < cn Y p w := this
  omega
theorem rk_dry (hY : av_Y Y) (hp : (p : Int) < Y 0 7) (ho : am_oa Y p ≤ 0) (h : 0 < cn Y p w) : Y 1 (rkv Y p (cn Y p w - 1)) ≤ w := by
  have hc := cn_le (Y := Y) (p := p) (w := w)
  have a12 : av_pi Y p (rkv Y p (cn Y p w - 1)) ∧ av_R Y p (rkv Y p (cn Y p w - 1)) = cn Y p w - 1 := rk_at hY ⟨Int.natCast_nonneg p, hp⟩ ho (l := cn Y p w - 1) ⟨by omega, by omega⟩
  obtain ⟨a1, a2⟩ := a12
  refine Int.not_lt.mp (fun z => ?_)
  have hr := a1.1
  have := (av_sm3 (f := fun x => am_b (Y 2 x = (p : Int) ∧ Y 1 x ≤ w)) (g := fun x => am_b (am_ba Y (rkv Y p (cn Y p w - 1)) p x)) 24 (fun i i0 i1 => by
    show am_b (Y 2 i = (p : Int) ∧ Y 1 i ≤ w) ≤ am_b (am_ba Y (rkv Y p (cn Y p w - 1)) p i)
    unfold am_b
    by_cases q : Y 2 i = (p : Int) ∧ Y 1 i ≤ w
    · have q2 : am_ba Y (rkv Y p (cn Y p w - 1)) p i := ⟨q.1, by omega, by omega⟩
      rw [if_pos q, if_pos q2]
      exact Int.le_refl _
    · rw [if_neg q]
      split <;> decide)).1
  have e : cn Y p w ≤ av_R Y p (rkv Y p (cn Y p w - 1)) := this
  omega
/-- behind a draw the next one lies on top -/
theorem bn_top (hY : av_Y Y) (hp : (p : Int) < Y 0 7) (hw : ay_why Y p = 0) : am_gt (ay_burn Y p 6) 4 p = if 1 < ac_in Y p then rkv Y p 1 else -1 := by
  have h7 := hY.1.1
  obtain ⟨ht, ho⟩ := av_why0 hw
  have hY' := (av_burn hY ht).1
  have hpb := hp_burn hY (by omega) (hp_of hY (p := p) (by omega) ho) ht
  have ho' : am_oa (ay_burn Y p) p ≤ 0 := by rw [hp_oa (by omega) hpb]; exact Int.le_refl _
  have hin := bn_in hY ht
  by_cases q : 1 < ac_in Y p
  · rw [if_pos q]
    have ht' := py_top hY' (p := p) (by omega) (by omega)
    obtain ⟨b1, b2⟩ := rk_at hY' ⟨Int.natCast_nonneg p, by rw [bn_7]; exact hp⟩ ho' (l := 0) ⟨Int.le_refl _, by omega⟩
    have a12 : av_pi Y p (rkv Y p 1) ∧ av_R Y p (rkv Y p 1) = 1 := rk_at hY ⟨Int.natCast_nonneg p, hp⟩ ho (l := 1) ⟨by decide, q⟩
    obtain ⟨a1, a2⟩ := a12
    have e0 : ay_rk (ay_burn Y p) (0 : Int).toNat 0 (am_gt (ay_burn Y p 6) 4 p) = am_gt (ay_burn Y p 6) 4 p := rfl
    rw [e0] at b1 b2
    obtain ⟨t1, t2, t3, t4⟩ := av_top_in hY ht
    have e6 : am_gt (Y 6) 4 p = Y 6 p := at_gt (by omega)
    generalize am_gt (ay_burn Y p 6) 4 p = z at *
    have hz2 := b1.2
    rw [bn_2 hY ht] at hz2
    have hzt : z ≠ am_gt (Y 6) 4 p := fun e => by rw [if_pos e] at hz2; omega
    rw [if_neg hzt] at hz2
    have hz : av_pi Y p z := ⟨b1.1, hz2⟩
    refine rk_eq hz a1 ?_
    have hsum := av_sm1 (f := fun x => am_b (am_ba Y z p x)) (g := fun x => am_b (am_ba (ay_burn Y p) z p x)) (z := Y 6 p) t2.1 24 (fun i i0 i1 => by
      show am_b (am_ba Y z p i) = am_b (am_ba (ay_burn Y p) z p i) + _
      unfold am_ba am_ah
      rw [bn_2 hY ht, bn_1 hY ht, e6]
      unfold am_b
      by_cases qi : i = Y 6 p
      · have hah : am_ah Y (Y 6 p) z := by
          rcases (av_pr hY ⟨Int.natCast_nonneg p, hp⟩ ho).1 z hz with e | ⟨-, -, e⟩
          · exact absurd e hzt
          · rw [e6] at e; exact e
        rw [if_pos qi, if_pos qi, qi, t3, if_pos ⟨rfl, hah⟩, if_neg (fun z => by omega)]
        rfl
      · rw [if_neg qi, if_neg qi]
        omega)
    rw [if_pos (by omega)] at hsum
    have e1 : av_R Y p z = av_R (ay_burn Y p) p z + 1 := hsum
    omega
  · rw [if_neg q]
    refine Decidable.byContradiction (fun z => ?_)
    obtain ⟨t1, t2, t3, t4⟩ := av_top_in hY' z
    obtain ⟨hb, -, T, h1, h2⟩ := hY'
    have hu := py_ut hb h1 h2 (p := p) (by omega) (by rw [at_gt (n := 4) (by omega)] at z; exact z)
    have hub := py_ub (Y := ay_burn Y p) (x := ay_burn Y p 6 p)
    omega
end PD
