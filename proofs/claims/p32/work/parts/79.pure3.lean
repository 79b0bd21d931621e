/-! ===== ranks: pure ===== -/
section PY3
variable {Y : Nat → Int → Int} {p : Int}
theorem rk_mono {a c : Int} (ha : av_pi Y p a) (hc : av_pi Y p c) (hah : at_ah (Y 1) a c) : av_R Y p a < av_R Y p c := by
  have h1 := ha.1
  have h2 := hc.1
  refine (av_sm3 (f := fun x => am_b (am_ba Y a p x)) (g := fun x => am_b (am_ba Y c p x)) 24 (fun i i0 i1 => ?_)).2 ⟨a, ha.1, ?_⟩
  · show am_b (am_ba Y a p i) ≤ am_b (am_ba Y c p i)
    by_cases q : am_ba Y a p i
    · have : am_ba Y c p i := by
        obtain ⟨q1, q2, q3⟩ := q
        exact ⟨q1, by omega, by omega⟩
      rw [show am_b (am_ba Y a p i) = 1 by rw [am_b_1]; exact q, show am_b (am_ba Y c p i) = 1 by rw [am_b_1]; exact this]
      exact Int.le_refl _
    · rw [show am_b (am_ba Y a p i) = 0 by rw [am_b_0]; exact q]
      exact am_b_le.1
  · show am_b (am_ba Y a p a) < am_b (am_ba Y c p a)
    rw [show am_b (am_ba Y a p a) = 0 by rw [am_b_0]; intro ⟨_, _, w⟩; omega, show am_b (am_ba Y c p a) = 1 by rw [am_b_1]; exact ⟨ha.2, by omega, hah⟩]
    decide
theorem rk_ah {a c : Int} (ha : av_pi Y p a) (hc : av_pi Y p c) (h : av_R Y p a < av_R Y p c) : at_ah (Y 1) a c := by
  refine Decidable.byContradiction (fun q => ?_)
  by_cases e : a = c
  · rw [e] at h; omega
  · have := rk_mono hc ha (show at_ah (Y 1) c a by have := ha.1; have := hc.1; omega)
    omega
theorem rk_eq {a c : Int} (ha : av_pi Y p a) (hc : av_pi Y p c) (h : av_R Y p a = av_R Y p c) : a = c := by
  refine Decidable.byContradiction (fun e => ?_)
  by_cases q : at_ah (Y 1) a c
  · have := rk_mono ha hc q
    omega
  · have := rk_mono hc ha (show at_ah (Y 1) c a by have := ha.1; have := hc.1; omega)
    omega
theorem rk_at (hY : av_Y Y) (hp : 0 ≤ p ∧ p < Y 0 7) (ho : am_oa Y p ≤ 0) {l : Int} (hl : 0 ≤ l ∧ l < ac_in Y p) : av_pi Y p (ay_rk Y l.toNat 0 (am_gt (Y 6) 4 p)) ∧ av_R Y p (ay_rk Y l.toNat 0 (am_gt (Y 6) 4 p)) = l := by
  obtain ⟨h1, h2, h3⟩ := av_pr hY hp ho
  have ha : av_pi Y p (am_gt (Y 6) 4 p) := by
    refine h3 ?_
    obtain ⟨x, x0, x1⟩ := av_sm2 (f := fun _ => 0) (g := fun x => am_b (Y 2 x = p)) 24 (by
      rw [av_sm0 24 (fun _ _ _ => rfl)]
      have : am_sm (fun x => am_b (Y 2 x = p)) 24 = ac_in Y p := rfl
      omega)
    refine ⟨x, by omega, ?_⟩
    by_cases q : Y 2 x = p
    · exact q
    · have e0 : am_b (Y 2 x = p) = 0 := by rw [am_b_0]; exact q
      have x1' : 0 < am_b (Y 2 x = p) := x1
      omega
  have no : ∀ k, 0 ≤ k → k < 24 → ¬ am_ba Y (am_gt (Y 6) 4 p) p k := by
    intro k k0 k1 ⟨a, ⟨_, b⟩⟩
    rcases h1 k ⟨⟨k0, k1⟩, a⟩ with e | ⟨_, _, e⟩
    · rw [← e] at b
      omega
    · have := e.2
      omega
  have R0 : av_R Y p (am_gt (Y 6) 4 p) = 0 := av_sm0 24 (fun i a b => by
    show am_b (am_ba Y (am_gt (Y 6) 4 p) p i) = 0
    rw [am_b_0]
    exact no i a (by omega))
  obtain ⟨r1, r2⟩ := av_rk hY hp ho l.toNat 0 (am_gt (Y 6) 4 p) ha (fun k hk => by
    rw [av_k5 k hk, show am_b (am_ba Y (am_gt (Y 6) 4 p) p k) = 0 by rw [am_b_0]; exact no k (by omega) (by omega)]) (by omega)
  rw [R0] at r2
  exact ⟨r1, by omega⟩
abbrev rkv (Y : Nat → Int → Int) (p l : Int) : Int := ay_rk Y l.toNat 0 (am_gt (Y 6) 4 p)
/-- what 'ranked' tells, both ways -/
theorem sv_rk (hY : av_Y Y) (hp : 0 ≤ p ∧ p < Y 0 7) (ho : am_oa Y p ≤ 0) {l z : Int} (hl : 0 ≤ l ∧ l < ac_in Y p) (hz : z = 0 ∨ z = 1) : sv_ranked Y p l z = rkv Y p l := by
  unfold sv_ranked
  rw [if_pos ⟨hp, hl⟩, if_pos hz, if_neg (by omega)]
  rcases hz with hz | hz
  · rw [if_pos hz]
  · rw [if_neg (by omega), ← av_rank hY hp ho hl]
theorem rk_lv (hp : 0 ≤ p) {x : Int} (h : av_pi Y p x) : lvg Y x := ⟨h.1, by rw [h.2]; omega⟩
end PY3
