/-! ===== the reference's join ends beside the yard's ===== -/
section REF5
variable {E : am_E} {M : am_M} {d : Nat} {p l m v : Int}
theorem ra_on_fr {Y Z : Nat → Int → Int} {t : at_T} (h8 : Z 0 8 = Y 0 8) (h2 : Z 2 = Y 2) (h : ra_on Y t) : ra_on Z t := by
  intro x hx
  rw [h8, h2]
  exact h x hx
theorem ra_141l (hk : am_kd E (d, 0) = some (6, 138)) {x1 x2 : Int} : ∀ (n : Nat) (Y : Nat → Int → Int) (f : Int → Int) (s w : at_T) (o q t z : Int) (u7 u8 u9 : Option am_V), ra_q f Y → Y 0 7 ≤ 4 → (∀ x, 0 ≤ x → x < 24 → 0 ≤ Y 1 x ∧ Y 1 x ≤ 99) → (-1 ≤ z ∧ z < 24) → at_rt Y s o → at_rt Y w q → ra_on Y s → ra_on Y w → (∀ x, at_cn s w z x ≤ 1) → at_sz s + at_sz w ≤ n + 1 → (t = -1 ↔ z = -1) →
    ra_to E M d f (some (am_I (am_jl n Y o q t z).2)) (am_jl n Y o q t z).1 (am_den 141 (11, [some (am_A (d, 0)), some (am_I x1), some (am_I x2), some (am_I t), some (am_I z), some (am_I o), some (am_I q), u7, u8, u9], [], E, ar_s M d f)) := by
  intro n
  induction n with
  | zero =>
    intro Y f s w o q t z u7 u8 u9 hq h7 hd hz hs hw os ow hn hsz htz
    have io : -1 ≤ o ∧ o < 24 := by
      cases s with
      | leaf v => have : o = -1 := hs; omega
      | branch a l r => have := hs.1; omega
    have iq : -1 ≤ q ∧ q < 24 := by
      cases w with
      | leaf v => have : q = -1 := hw; omega
      | branch a l r => have := hw.1; omega
    rw [am_jl, am_B141_11]
    by_cases h1 : o = -1
    · rw [if_pos h1]
      exact ra_141e hk hq h7 hz io iq htz
    · rw [if_neg h1, am_B141_17]
      have h2 : q = -1 := by
        cases s with
        | leaf v => exact absurd hs h1
        | branch a l r =>
          cases w with
          | leaf v => exact hw
          | branch b l' r' => simp only [at_sz] at hsz; omega
      rw [if_pos h2]
      exact ra_141e hk hq h7 hz io iq htz
  | succ n ih =>
    intro Y f s w o q t z u7 u8 u9 hq h7 hd hz hs hw os ow hn hsz htz
    have io : -1 ≤ o ∧ o < 24 := by
      cases s with
      | leaf v => have : o = -1 := hs; omega
      | branch a l r => have := hs.1; omega
    have iq : -1 ≤ q ∧ q < 24 := by
      cases w with
      | leaf v => have : q = -1 := hw; omega
      | branch a l r => have := hw.1; omega
    rw [am_jl, am_B141_11]
    by_cases h1 : o = -1
    · rw [if_pos h1, if_pos (Or.inl h1)]
      exact ra_141e hk hq h7 hz io iq htz
    · rw [if_neg h1, am_B141_17]
      by_cases h2 : q = -1
      · rw [if_pos h2, if_pos (Or.inr h2)]
        exact ra_141e hk hq h7 hz io iq htz
      · rw [if_neg h2, if_neg (by omega)]
        cases s with
        | leaf v => exact absurd hs h1
        | branch a l r =>
          cases w with
          | leaf v => exact absurd hw h2
          | branch b l' r' =>
            have ea : o = (a : Int) := hs.1.1
            have eb : q = (b : Int) := hw.1.1
            have a24 := hs.1.2
            have b24 := hw.1.2
            subst ea
            subst eb
            simp only [at_sz] at hsz
            have ca := hn a
            have cb := hn b
            simp only [at_cn, at_ct, if_true] at ca cb
            have hab : (a : Int) ≠ (b : Int) := by
              intro e
              rw [if_pos e] at ca
              omega
            have hza : z ≠ (a : Int) := by
              intro e
              rw [if_pos e.symm] at ca
              omega
            have hzb : z ≠ (b : Int) := by
              intro e
              rw [if_pos e.symm] at cb
              omega
            have la := os a (by simp only [at_ct, if_true]; omega)
            have lb := ow b (by simp only [at_ct, if_true]; omega)
            have e5 : ∀ h : Nat, h < 24 → am_gt (am_j1 Y 5) 24 h = Y 5 h := by
              intro h hh
              rw [at_gt (by omega), at_j1_fr (Or.inl (by decide))]
            have f8 : ∀ (h : Nat) z, am_j2 (am_j1 Y) h z 0 8 = Y 0 8 := by
              intro h z
              rw [at_j2_fr (Or.inl (by decide)) (Or.inl (by decide)) (Or.inl (by decide)), at_j1_fr (Or.inr (by decide))]
            have f7 : ∀ (h : Nat) z, am_j2 (am_j1 Y) h z 0 7 = Y 0 7 := by
              intro h z
              rw [at_j2_fr (Or.inl (by decide)) (Or.inl (by decide)) (Or.inl (by decide)), at_j1_fr (Or.inr (by decide))]
            have fx : ∀ (c : Nat) (h : Nat) z, c = 1 ∨ c = 2 → am_j2 (am_j1 Y) h z c = Y c := by
              intro c h z hc
              funext x
              rw [at_j2_fr (Or.inl (by omega)) (Or.inl (by omega)) (Or.inl (by omega)), at_j1_fr (Or.inl (by omega))]
            have d1 := hq.2.2.1 a (by omega) la.1
            have d2 := hq.2.2.1 b (by omega) lb.1
            have b1 := hd a (by omega) (by omega)
            have b2 := hd b (by omega) (by omega)
            have g1 : ar_u f 4 (am_w (Y 0 11 + 1)) (18 + 5 * (a : Int) + 0) = Y 1 a := by rw [ar_u_ne (by omega), d1.1]
            have g2 : ar_u f 4 (am_w (Y 0 11 + 1)) (18 + 5 * (b : Int) + 0) = Y 1 b := by rw [ar_u_ne (by omega), d2.1]
            rw [am_B141_23 hk (by omega) (by omega), ar_s_at, ar_up, hq.1.2.2.2.2.1, am_B141_30, ar_129 hk (by omega) (by omega) (by rw [ar_s_at, g1]; exact b1) (by rw [ar_s_at, g2]; exact b2), am_bd_v, ar_s_at]
            simp only [Nat.reduceAdd]
            rw [am_B141_38]
            have eA : (ar_ah (ar_u f 4 (am_w (Y 0 11 + 1))) a b) = at_ah (Y 1) a b := by
              unfold ar_ah at_ah
              rw [g1, g2]
            by_cases hA : at_ah (Y 1) a b
            · have ej : am_ja (am_j1 Y) a b = (a : Int) := by
                unfold am_ja
                rw [if_pos]
                unfold am_ah
                rw [at_j1_fr (Or.inl (by decide)), at_j1_fr (Or.inl (by decide))]
                exact ⟨by omega, hA⟩
              rw [ej, if_neg (show ¬ am_b (ar_ah (ar_u f 4 (am_w (Y 0 11 + 1))) a b) = 0 by rw [am_b_0, eA]; exact fun w => w hA), am_B141_41, am_B141_48, if_neg (show ¬ (a : Int) ≠ a from fun w => w rfl), am_B141_57, e5 a a24, if_neg (show ¬ (a : Int) ≠ a from fun w => w rfl)]
              obtain ⟨s1, s2, s3, s4, s5⟩ := at_step hz hs hw hn
              have hn2 : ∀ x, at_cn r (.branch b l' r') a x ≤ 1 := by
                intro x
                have := hn x
                simp only [at_cn, at_ct] at this ⊢
                omega
              refine ra_141c hk hq h7 a24 la hz hza htz (fun f' hf' => ?_)
              refine ih (am_j2 (am_j1 Y) a z) f' r (.branch b l' r') (Y 5 a) b (if t = -1 then (a : Int) else t) a _ _ _ hf' (by rw [f7]; exact h7) (by rw [fx 1 a z (Or.inl rfl)]; exact hd) (by omega) s1 s2 (ra_on_fr (f8 a z) (fx 2 a z (Or.inr rfl)) (fun x hx => os x (by simp only [at_ct]; omega))) (ra_on_fr (f8 a z) (fx 2 a z (Or.inr rfl)) ow) hn2 (by simp only [at_sz]; omega) ?_
              split <;> omega
            · have ej : am_ja (am_j1 Y) a b = (b : Int) := by
                unfold am_ja
                rw [if_neg]
                unfold am_ah
                rw [at_j1_fr (Or.inl (by decide)), at_j1_fr (Or.inl (by decide))]
                exact fun z => hA z.2
              rw [ej, if_pos (show am_b (ar_ah (ar_u f 4 (am_w (Y 0 11 + 1))) a b) = 0 by rw [am_b_0, eA]; exact hA), am_B141_46, am_B141_48, if_pos (show (b : Int) ≠ a from fun e => hab e.symm), am_B141_62, e5 b b24, if_pos (show (b : Int) ≠ a from fun e => hab e.symm)]
              have hn3 : ∀ x, at_cn (.branch b l' r') (.branch a l r) z x ≤ 1 := by
                intro x
                have := hn x
                simp only [at_cn] at this ⊢
                omega
              obtain ⟨s1, s2, s3, s4, s5⟩ := at_step hz hw hs hn3
              have hn2 : ∀ x, at_cn r' (.branch a l r) b x ≤ 1 := by
                intro x
                have := hn x
                simp only [at_cn, at_ct] at this ⊢
                omega
              refine ra_141c hk hq h7 b24 lb hz hzb htz (fun f' hf' => ?_)
              refine ih (am_j2 (am_j1 Y) b z) f' r' (.branch a l r) (Y 5 b) a (if t = -1 then (b : Int) else t) b _ _ _ hf' (by rw [f7]; exact h7) (by rw [fx 1 b z (Or.inl rfl)]; exact hd) (by omega) s1 s2 (ra_on_fr (f8 b z) (fx 2 b z (Or.inr rfl)) (fun x hx => ow x (by simp only [at_ct]; omega))) (ra_on_fr (f8 b z) (fx 2 b z (Or.inr rfl)) os) hn2 (by simp only [at_sz]; omega) ?_
              split <;> omega
theorem ra_141 (hk : am_kd E (d, 0) = some (6, 138)) {Y : Nat → Int → Int} {f : Int → Int} {s w : at_T} {a c : Int} (hq : ra_q f Y) (h7 : Y 0 7 ≤ 4) (hd : ∀ x, 0 ≤ x → x < 24 → 0 ≤ Y 1 x ∧ Y 1 x ≤ 99) (hs : at_rt Y s a) (hw : at_rt Y w c) (os : ra_on Y s) (ow : ra_on Y w) (hn : ∀ x, at_ct s x + at_ct w x ≤ 1) {u3 u4 u5 u6 u7 u8 u9 : Option am_V} : ra_to E M d f (some (am_I (am_jo Y a c).2)) (am_jo Y a c).1 (am_den 141 (0, [some (am_A (d, 0)), some (am_I a), some (am_I c), u3, u4, u5, u6, u7, u8, u9], [], E, ar_s M d f)) := by
  rw [am_B141_0]
  refine ra_141l hk 24 Y f s w a c (-1) (-1) _ _ _ hq h7 hd (by omega) hs hw os ow (fun x => ?_) ?_ (Iff.rfl)
  · unfold at_cn
    have := hn x
    by_cases q : x = -1
    · have h1 : ¬ 0 < at_ct s x := fun h => by have := at_rt_in hs h; omega
      have h2 : ¬ 0 < at_ct w x := fun h => by have := at_rt_in hw h; omega
      rw [if_pos q]
      omega
    · rw [if_neg q]
      omega
  · have := at_sz_le hn (fun x hx => (at_rt_in hs hx).2) (fun x hx => (at_rt_in hw hx).2)
    omega
end REF5
