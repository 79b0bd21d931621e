/-! ===== pairs: a mended pile, rain without harm, slots ===== -/
def av_hp (Y : Nat → Int → Int) (p : Nat) : Prop := ∃ T, av_tr Y T ∧ av_al Y T ∧ at_ho (Y 1) (T p) (-1)
theorem at_ho_no {Y : Nat → Int → Int} {D : Int → Int} {x : Int} : ∀ (t : at_T) (u a : Int), at_is Y t u a → at_ho D t u → 0 < at_ct t x → Y 3 x = -1 ∨ ¬ at_ah D x (Y 3 x) := by
  intro t
  induction t with
  | leaf v => intro u a _ _ h; simp [at_ct] at h
  | branch n l r ihl ihr =>
    intro u a h ho hc
    simp only [at_is] at h
    simp only [at_ho] at ho
    simp only [at_ct] at hc
    by_cases q : x = (n : Int)
    · rw [q, h.1.2.2]
      exact ho.1
    · rw [if_neg q] at hc
      by_cases q2 : 0 < at_ct l x
      · exact ihl _ _ h.2.1 ho.2.1 q2
      · exact ihr _ _ h.2.2 ho.2.2 (by omega)
theorem at_ho_up {D : Int → Int} {t : at_T} {u : Int} (h : at_ho D t u) : at_ho D t (-1) := by
  cases t with
  | leaf v => exact h
  | branch n l r => exact ⟨Or.inl rfl, h.2⟩
theorem av_sm0 {f : Int → Int} : ∀ n : Nat, (∀ x : Int, 0 ≤ x → x < n → f x = 0) → am_sm f n = 0 := by
  intro n
  induction n with
  | zero => intro _; rfl
  | succ n ih =>
    intro h
    simp only [am_sm]
    rw [ih (fun x a b => h x a (by omega)), h n (by omega) (by omega)]
    rfl
theorem hp_oa {Y : Nat → Int → Int} {p : Nat} (hp : p < 4) (h : av_hp Y p) : am_oa Y p = 0 := by
  obtain ⟨T, ht, ha, ho⟩ := h
  refine av_sm0 24 (fun x a b => ?_)
  show am_b (am_of Y p x) = 0
  rw [am_b_0]
  intro z
  have hx := ha p hp x a (by omega) z.1
  rcases at_ho_no (T p) _ _ (ht.1 p hp) ho hx with w | w
  · exact z.2.1 w
  · exact w z.2.2.2
theorem hp_burn {Y : Nat → Int → Int} {p : Nat} (hY : av_Y Y) (hp : p < 4) (h : av_hp Y p) (htop : am_gt (Y 6) 4 p ≠ -1) : av_hp (ay_burn Y p) p := by
  obtain ⟨T, ht, ha, ho⟩ := h
  obtain ⟨t1, t2, t3, t4⟩ := av_top_in hY htop
  have e6 : am_gt (Y 6) 4 p = Y 6 p := at_gt (by omega)
  have c : ∀ c x, c ≠ 0 → ay_bn0 Y p c x = Y c x := fun c x hc => ay_bn0_fr (Or.inl hc)
  have ht1 : av_tr (ay_bn0 Y p) T := av_tr_cg (fun a x h2 _ _ _ => c a x (by omega)) (fun r _ _ => c 6 r (by decide)) ht
  have hI := ht.1 p hp
  rw [e6] at htop
  have hc := (at_is_top hI htop).2
  obtain ⟨r1, r2, r3, r4, r5⟩ := av_rmv ht1 hp hc
  have e1 : ay_bn0 Y p 1 = Y 1 := funext (fun x => c 1 x (by decide))
  have eb : ay_burn Y p = am_rmv (ay_bn0 Y p) (Y 6 p) := by
    unfold ay_burn
    rw [at_gt (by omega), c 6 p (by decide)]
  have eb1 : ay_burn Y p 1 = Y 1 := by
    funext x
    rw [eb, ay_rmv_fr ⟨by decide, by decide, by decide, Or.inl (by decide)⟩ (by decide) (by decide), c 1 x (by decide)]
  rw [e1] at r1 r5
  refine ⟨av_up T p (at_rm (Y 1) (Y 6 p) (T p)), by rw [eb]; exact r1, fun q hq x a b hx => ?_, ?_⟩
  · rw [eb, av_rm_2 t2] at hx
    by_cases e : x = Y 6 p
    · rw [if_pos e] at hx
      omega
    · rw [if_neg e, c 2 x (by decide)] at hx
      by_cases hqp : q = p
      · rw [hqp, av_up_eq, r5, if_neg e]
        rw [hqp] at hx
        exact ha p hp x a b hx
      · rw [av_up_ne hqp]
        exact ha q hq x a b hx
  · rw [eb1, av_up_eq]
    cases hT : T p with
    | leaf v =>
      rw [hT] at hc
      simp [at_ct] at hc
    | branch n l r =>
      rw [hT] at hI ho
      have en : Y 6 p = (n : Int) := hI.1.1
      rw [at_rm, if_pos en]
      exact at_jn_ho _ _ _ _ (at_ho_up ho.2.1) (at_ho_up ho.2.2)
