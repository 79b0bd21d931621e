/-! ===== what the law's 'holds' asks of a yard: pure ===== -/
def lvg (Y : Nat → Int → Int) (x : Int) : Prop := (0 ≤ x ∧ x < 24) ∧ Y 2 x ≠ -1
section PY2
variable {Y : Nat → Int → Int} {x z : Int} {p : Nat}
theorem lv_g (h : lvg Y x) : am_gt (Y 2) 24 x ≠ -1 := by
  rw [at_gt (n := 24) (by have := h.1; omega)]
  exact h.2
theorem lo_0 (h : lvg Y x) : sv_log Y x 0 z = Y 1 x := (if_pos (lv_g h)).trans ((if_pos (by decide)).trans (at_gt (n := 24) (by have := h.1; omega)))
theorem lo_1 (h : lvg Y x) : sv_log Y x 1 z = Y 2 x := (if_pos (lv_g h)).trans ((if_pos (by decide)).trans (at_gt (n := 24) (by have := h.1; omega)))
theorem lo_2 (h : lvg Y x) : sv_log Y x 2 z = ay_dep Y x := (if_pos (lv_g h)).trans (if_pos (by decide))
theorem lo_3 (h : lvg Y x) : sv_log Y x 3 z = Y 3 x := (if_pos (lv_g h)).trans ((if_pos (by decide)).trans (at_gt (n := 24) (by have := h.1; omega)))
theorem lo_4 (h : lvg Y x) : sv_log Y x 4 z = Y 4 x := (if_pos (lv_g h)).trans ((if_pos (by decide)).trans (at_gt (n := 24) (by have := h.1; omega)))
theorem lo_5 (h : lvg Y x) : sv_log Y x 5 z = Y 5 x := (if_pos (lv_g h)).trans ((if_pos (by decide)).trans (at_gt (n := 24) (by have := h.1; omega)))
theorem lo_6 (h : lvg Y x) : sv_log Y x 6 z = py_u Y x := (if_pos (lv_g h)).trans (if_pos (by decide))
theorem lo_n {w : Int} (h : am_gt (Y 2) 24 x = -1) : sv_log Y x w z = (-9999001) := if_neg (fun q => q h)
theorem py_ub : 0 ≤ py_u Y x ∧ py_u Y x ≤ 24 := am_sm_le (f := fun y => am_b (am_un Y x y)) (k := 1) (n := 24) (fun _ _ _ => am_b_le)
theorem dp_b {f : Int → Int} : ∀ (n : Nat) (u : Int), 0 ≤ am_dp f n u ∧ am_dp f n u ≤ n := by
  intro n
  induction n with
  | zero => intro u; exact ⟨Int.le_refl _, Int.le_refl _⟩
  | succ n ih =>
    intro u
    rw [am_dp]
    have := ih (f u)
    split <;> omega
theorem dep_b : 0 ≤ ay_dep Y x ∧ ay_dep Y x ≤ 24 := dp_b 24 _
/-- the facts of a log that lies in a pile -/
def py_f (Y : Nat → Int → Int) (p : Nat) (x : Int) : Prop :=
  (Y 3 x = -1 ↔ x = am_gt (Y 6) 4 p) ∧ (Y 3 x = -1 → ay_dep Y x = 0) ∧ (Y 3 x ≠ -1 → lvg Y (Y 3 x) ∧ ay_dep Y x = 1 + ay_dep Y (Y 3 x) ∧ ((Y 4 (Y 3 x) = x ∧ Y 5 (Y 3 x) ≠ x) ∨ (Y 4 (Y 3 x) ≠ x ∧ Y 5 (Y 3 x) = x))) ∧
  (Y 4 x ≠ -1 → lvg Y (Y 4 x) ∧ Y 3 (Y 4 x) = x) ∧ (Y 5 x ≠ -1 → lvg Y (Y 5 x) ∧ Y 3 (Y 5 x) = x) ∧ py_u Y x = (if Y 4 x = -1 then 0 else 1 + py_u Y (Y 4 x)) + (if Y 5 x = -1 then 0 else 1 + py_u Y (Y 5 x)) ∧ (0 ≤ Y 1 x ∧ Y 1 x ≤ 99) ∧ lvg Y x
theorem py_fa (h : av_Y Y) (hp : p < 4) (hx : 0 ≤ x ∧ x < 24) (h2 : Y 2 x = (p : Int)) : py_f Y p x := by
  obtain ⟨hb, -, T, ht, ha⟩ := h
  have hT := ha p hp x hx.1 hx.2 h2
  have hI := ht.1 p hp
  have lv : ∀ {y : Int}, 0 < at_ct (T p) y → lvg Y y := fun {y} hy => ⟨av_in ht hp hy, by rw [ht.2.2 p hp y hy]; omega⟩
  have g6 : am_gt (Y 6) 4 p = Y 6 p := at_gt (n := 4) (by omega)
  refine ⟨⟨fun q => ?_, fun q => ?_⟩, fun q => ?_, fun q => ?_, fun q => ?_, fun q => ?_, py_ur hb ht ha hp hT, hb.2.2.1 x hx.1 hx.2, lv hT⟩
  · rw [g6]
    rcases at_chi (T p) _ _ hI hT with c | c
    · exact c.1
    · have := av_in ht hp c.1
      omega
  · rw [g6] at q
    rw [q]
    exact (at_is_top hI (by omega)).1
  · unfold ay_dep
    rw [at_gt (n := 24) (by omega), q]
    exact dp_no
  · have hc := at_chi (T p) _ _ hI hT
    rcases hc with c | c
    · exact absurd c.2 q
    · refine ⟨lv c.1, py_dp ht hp hT q, ?_⟩
      by_cases c4 : Y 4 (Y 3 x) = x
      · refine Or.inl ⟨c4, fun c5 => ?_⟩
        have := at_lr c4 c5 (T p) _ _ hI (ht.2.1 p hp) c.1
        omega
      · exact Or.inr ⟨c4, by rcases c.2 with z | z; exact absurd z c4; exact z⟩
  · obtain ⟨c1, c2, -⟩ := py_ch ht hp hT (Or.inl rfl) q
    exact ⟨lv c1, c2⟩
  · obtain ⟨c1, c2, -⟩ := py_ch ht hp hT (Or.inr rfl) q
    exact ⟨lv c1, c2⟩
theorem sm_cut {f : Int → Int} {g : Nat} (h : ∀ x : Int, (g : Int) ≤ x → x < 24 → f x = 0) : ∀ n : Nat, g ≤ n → n ≤ 24 → am_sm f n = am_sm f g := by
  intro n
  induction n with
  | zero => intro h1 _; rw [show g = 0 by omega]
  | succ n ih =>
    intro h1 h2
    by_cases q : g = n + 1
    · rw [q]
    · rw [am_sm, ih (by omega) (by omega), h n (by omega) (by omega)]
      omega
theorem mx_ge {f : Int → Int} : ∀ n : Nat, -1 ≤ am_mx f n := by
  intro n
  induction n with
  | zero => exact Int.le_refl _
  | succ n ih =>
    rw [am_mx]
    split <;> omega
theorem mx_cut {f : Int → Int} {g : Nat} (h : ∀ x : Int, (g : Int) ≤ x → x < 24 → f x = -1) : ∀ n : Nat, g ≤ n → n ≤ 24 → am_mx f n = am_mx f g := by
  intro n
  induction n with
  | zero => intro h1 _; rw [show g = 0 by omega]
  | succ n ih =>
    intro h1 h2
    by_cases q : g = n + 1
    · rw [q]
    · have := mx_ge (f := f) g
      rw [am_mx, ih (by omega) (by omega), h n (by omega) (by omega), if_neg (by omega)]
theorem py_dead (h : av_Y Y) (h1 : Y 0 8 ≤ x) (h0 : 0 ≤ x) (h2 : x < 24) : Y 2 x = -1 := by
  have := py_no h (Or.inr h1)
  rw [at_gt (n := 24) (by omega)] at this
  exact this
end PY2
