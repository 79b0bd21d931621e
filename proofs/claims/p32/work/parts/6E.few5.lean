/-! ===== fewestLifts: a trial join, in trees ===== -/
theorem fw_j {Y X : Nat → Int → Int} {T : Nat → at_T} (h : av_tr Y T) {p q : Nat} (hp : p < 4) (hq : q < 4) (hpq : p ≠ q) : av_tr (ay_jp (am_yp Y X) p q) (fw_t (Y 1) T p q) ∧ ay_jp (am_yp Y X) p q 0 11 = at_lf (at_co (Y 1) 24 (T p) (T q)) (Y 0 11) := by
  have he := ts_yp_e (Z := Y) (Y := X)
  have hZ : av_tr (am_yp Y X) T := av_tr_cg (fun c x h2 h3 a b => he.1 c x (by omega) h3 a b) (fun p a b => (he.2 p a b).1) h
  obtain ⟨j1, _, j3, _⟩ := av_jp hZ hp hq hpq
  have cg := at_cg (D := Y 1) (D' := am_yp Y X 1) 24 (T p) (T q) (fun x hx => by
    have hx' : 0 < at_ct (T p) x ∨ 0 < at_ct (T q) x := by omega
    have hr : 0 ≤ x ∧ x < 24 := by
      rcases hx' with w | w
      · exact av_in h hp w
      · exact av_in h hq w
    exact he.1 1 x (by decide) (by decide) hr.1 hr.2)
  rw [cg.1] at j1
  rw [cg.2] at j3
  refine ⟨j1, ?_⟩
  rw [j3, ts_yp_s (by decide) (by decide)]
