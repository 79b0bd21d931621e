/-! ===== fewestLifts: the reference's loops, pure, give the class's answer (written by few8.py) ===== -/
section FEW8
variable {D : Int → Int} {T : Nat → at_T} {l : Int}
theorem fw_2z (T : Nat → at_T) (p : Nat) (h : fw_ok D T) (hp : p < 4) (ho : fw_o1 T p) : fw_f2 D T = 0 := by
  by_cases q : p = 3
  · subst q
    rw [fw_2c T 2 3 h (by decide) (by decide) (fun r hr _ h2 => ho r hr h2), (fw_zs (D := D) (ho 2 (by decide) (by decide)) (T 3)).1]
    rfl
  · rw [fw_2c T p 3 h (by omega) (by decide) (fun r hr h1 _ => ho r hr h1), (fw_zs (D := D) (ho 3 (by decide) (fun z => q z.symm)) (T p)).2.1]
    rfl
theorem fw_3c (T : Nat → at_T) (p q : Nat) (h : fw_ok D T) (hpq : p < q) (hq : q < 4) (ho : fw_o2 T p q) : fw_f3 D T = at_co D 24 (T p) (T q) := fw_l1 fw_2z h hpq hq ho
theorem fw_f2_0 : 0 ≤ fw_f2 D T := by
  have b0 : ∀ T : Nat → at_T, 0 ≤ (fun _ => (0 : Int)) T ∧ (fun _ => (0 : Int)) T ≤ 0 := fun _ => ⟨Int.le_refl 0, Int.le_refl 0⟩
  have b1 := fw_lv_le (D := D) b0 (by decide)
  have b2 := fw_lv_le (D := D) b1 (by decide)
  exact (b2 T).1
theorem fw_m3_12 (h : fw_ok D T) {p q r : Nat} (hp : p < 4) (hq : q < 4) (hr : r < 4) (h1 : p ≠ q) : fw_m3 D (T p) (T q) (T r) = fw_m3 D (T q) (T p) (T r) := by
  have s := fw_sy h hp hq h1
  unfold fw_m3
  rw [s.1, s.2]
  omega
theorem fw_m3_23 (h : fw_ok D T) {p q r : Nat} (hp : p < 4) (hq : q < 4) (hr : r < 4) (h1 : q ≠ r) : fw_m3 D (T p) (T q) (T r) = fw_m3 D (T p) (T r) (T q) := by
  have s := fw_sy h hq hr h1
  unfold fw_m3
  rw [s.1, s.2]
  omega
theorem fw_mn (a b : Int) : min (l + a) (l + b) = l + min a b := by omega
theorem fw_v0_01 (h : fw_ok D T) (hd : fw_lf (T 0) = true) : ((at_co D 24 (T 0) (T 1) : Int) + fw_f2 D (fw_t D T 0 1)) = fw_m3 D (T 1) (T 2) (T 3) := by
  have hk := fw_ok_t (p := 0) (q := 1) h (by decide) (by decide) (by decide)
  have zz := fw_zs (D := D) hd (T 1)
  rw [fw_2m_1 hk (by rw [fw_t_q]; rfl), zz.1, fw_t_p (by decide), zz.2.2.1, fw_t_o (by decide) (by decide), fw_t_o (by decide) (by decide)]
  exact Int.zero_add _
theorem fw_v0_02 (h : fw_ok D T) (hd : fw_lf (T 0) = true) : ((at_co D 24 (T 0) (T 2) : Int) + fw_f2 D (fw_t D T 0 2)) = fw_m3 D (T 1) (T 2) (T 3) := by
  have hk := fw_ok_t (p := 0) (q := 2) h (by decide) (by decide) (by decide)
  have zz := fw_zs (D := D) hd (T 2)
  rw [fw_2m_2 hk (by rw [fw_t_q]; rfl), zz.1, fw_t_p (by decide), zz.2.2.1, fw_t_o (by decide) (by decide), fw_t_o (by decide) (by decide)]
  rw [fw_m3_12 h (p := 2) (q := 1) (r := 3) (by decide) (by decide) (by decide) (by decide)]
  exact Int.zero_add _
theorem fw_v0_03 (h : fw_ok D T) (hd : fw_lf (T 0) = true) : ((at_co D 24 (T 0) (T 3) : Int) + fw_f2 D (fw_t D T 0 3)) = fw_m3 D (T 1) (T 2) (T 3) := by
  have hk := fw_ok_t (p := 0) (q := 3) h (by decide) (by decide) (by decide)
  have zz := fw_zs (D := D) hd (T 3)
  rw [fw_2m_3 hk (by rw [fw_t_q]; rfl), zz.1, fw_t_p (by decide), zz.2.2.1, fw_t_o (by decide) (by decide), fw_t_o (by decide) (by decide)]
  rw [fw_m3_12 h (p := 3) (q := 1) (r := 2) (by decide) (by decide) (by decide) (by decide)]
  rw [fw_m3_23 h (p := 1) (q := 3) (r := 2) (by decide) (by decide) (by decide) (by decide)]
  exact Int.zero_add _
theorem fw_v0_12 (h : fw_ok D T) (hd : fw_lf (T 0) = true) : ((at_co D 24 (T 1) (T 2) : Int) + fw_f2 D (fw_t D T 1 2)) = ((at_co D 24 (T 1) (T 2) : Int) + (at_co D 24 (at_jn D 24 (T 1) (T 2)) (T 3) : Int)) := by
  rw [fw_2c _ 1 3 (fw_ok_t h (by decide) (by decide) (by decide)) (by decide) (by decide) (fun r hr h1 h2 => by
    rcases (show r = 0 ∨ r = 1 ∨ r = 2 ∨ r = 3 by omega) with e | e | e | e <;> subst e
    all_goals first | exact absurd rfl h1 | exact absurd rfl h2 | (rw [fw_t_q]; rfl) | (rw [fw_t_o (by decide) (by decide)]; assumption))]
  rw [fw_t_p (by decide), fw_t_o (by decide) (by decide)]
theorem fw_v0_13 (h : fw_ok D T) (hd : fw_lf (T 0) = true) : ((at_co D 24 (T 1) (T 3) : Int) + fw_f2 D (fw_t D T 1 3)) = ((at_co D 24 (T 1) (T 3) : Int) + (at_co D 24 (at_jn D 24 (T 1) (T 3)) (T 2) : Int)) := by
  rw [fw_2c _ 1 2 (fw_ok_t h (by decide) (by decide) (by decide)) (by decide) (by decide) (fun r hr h1 h2 => by
    rcases (show r = 0 ∨ r = 1 ∨ r = 2 ∨ r = 3 by omega) with e | e | e | e <;> subst e
    all_goals first | exact absurd rfl h1 | exact absurd rfl h2 | (rw [fw_t_q]; rfl) | (rw [fw_t_o (by decide) (by decide)]; assumption))]
  rw [fw_t_p (by decide), fw_t_o (by decide) (by decide)]
theorem fw_v0_23 (h : fw_ok D T) (hd : fw_lf (T 0) = true) : ((at_co D 24 (T 2) (T 3) : Int) + fw_f2 D (fw_t D T 2 3)) = ((at_co D 24 (T 2) (T 3) : Int) + (at_co D 24 (at_jn D 24 (T 2) (T 3)) (T 1) : Int)) := by
  rw [fw_2c _ 1 2 (fw_ok_t h (by decide) (by decide) (by decide)) (by decide) (by decide) (fun r hr h1 h2 => by
    rcases (show r = 0 ∨ r = 1 ∨ r = 2 ∨ r = 3 by omega) with e | e | e | e <;> subst e
    all_goals first | exact absurd rfl h1 | exact absurd rfl h2 | (rw [fw_t_q]; rfl) | (rw [fw_t_o (by decide) (by decide)]; assumption))]
  rw [(fw_sy (fw_ok_t (p := 2) (q := 3) h (by decide) (by decide) (by decide)) (p := 1) (q := 2) (by decide) (by decide) (by decide)).2, fw_t_p (by decide), fw_t_o (by decide) (by decide)]
theorem fw_v1_01 (h : fw_ok D T) (hd : fw_lf (T 1) = true) : ((at_co D 24 (T 0) (T 1) : Int) + fw_f2 D (fw_t D T 0 1)) = fw_m3 D (T 0) (T 2) (T 3) := by
  have hk := fw_ok_t (p := 0) (q := 1) h (by decide) (by decide) (by decide)
  have zz := fw_zs (D := D) hd (T 0)
  rw [fw_2m_1 hk (by rw [fw_t_q]; rfl), zz.2.1, fw_t_p (by decide), zz.2.2.2, fw_t_o (by decide) (by decide), fw_t_o (by decide) (by decide)]
  exact Int.zero_add _
theorem fw_v1_02 (h : fw_ok D T) (hd : fw_lf (T 1) = true) : ((at_co D 24 (T 0) (T 2) : Int) + fw_f2 D (fw_t D T 0 2)) = ((at_co D 24 (T 0) (T 2) : Int) + (at_co D 24 (at_jn D 24 (T 0) (T 2)) (T 3) : Int)) := by
  rw [fw_2c _ 0 3 (fw_ok_t h (by decide) (by decide) (by decide)) (by decide) (by decide) (fun r hr h1 h2 => by
    rcases (show r = 0 ∨ r = 1 ∨ r = 2 ∨ r = 3 by omega) with e | e | e | e <;> subst e
    all_goals first | exact absurd rfl h1 | exact absurd rfl h2 | (rw [fw_t_q]; rfl) | (rw [fw_t_o (by decide) (by decide)]; assumption))]
  rw [fw_t_p (by decide), fw_t_o (by decide) (by decide)]
theorem fw_v1_03 (h : fw_ok D T) (hd : fw_lf (T 1) = true) : ((at_co D 24 (T 0) (T 3) : Int) + fw_f2 D (fw_t D T 0 3)) = ((at_co D 24 (T 0) (T 3) : Int) + (at_co D 24 (at_jn D 24 (T 0) (T 3)) (T 2) : Int)) := by
  rw [fw_2c _ 0 2 (fw_ok_t h (by decide) (by decide) (by decide)) (by decide) (by decide) (fun r hr h1 h2 => by
    rcases (show r = 0 ∨ r = 1 ∨ r = 2 ∨ r = 3 by omega) with e | e | e | e <;> subst e
    all_goals first | exact absurd rfl h1 | exact absurd rfl h2 | (rw [fw_t_q]; rfl) | (rw [fw_t_o (by decide) (by decide)]; assumption))]
  rw [fw_t_p (by decide), fw_t_o (by decide) (by decide)]
theorem fw_v1_12 (h : fw_ok D T) (hd : fw_lf (T 1) = true) : ((at_co D 24 (T 1) (T 2) : Int) + fw_f2 D (fw_t D T 1 2)) = fw_m3 D (T 0) (T 2) (T 3) := by
  have hk := fw_ok_t (p := 1) (q := 2) h (by decide) (by decide) (by decide)
  have zz := fw_zs (D := D) hd (T 2)
  rw [fw_2m_2 hk (by rw [fw_t_q]; rfl), zz.1, fw_t_p (by decide), zz.2.2.1, fw_t_o (by decide) (by decide), fw_t_o (by decide) (by decide)]
  exact Int.zero_add _
theorem fw_v1_13 (h : fw_ok D T) (hd : fw_lf (T 1) = true) : ((at_co D 24 (T 1) (T 3) : Int) + fw_f2 D (fw_t D T 1 3)) = fw_m3 D (T 0) (T 2) (T 3) := by
  have hk := fw_ok_t (p := 1) (q := 3) h (by decide) (by decide) (by decide)
  have zz := fw_zs (D := D) hd (T 3)
  rw [fw_2m_3 hk (by rw [fw_t_q]; rfl), zz.1, fw_t_p (by decide), zz.2.2.1, fw_t_o (by decide) (by decide), fw_t_o (by decide) (by decide)]
  rw [fw_m3_23 h (p := 0) (q := 3) (r := 2) (by decide) (by decide) (by decide) (by decide)]
  exact Int.zero_add _
theorem fw_v1_23 (h : fw_ok D T) (hd : fw_lf (T 1) = true) : ((at_co D 24 (T 2) (T 3) : Int) + fw_f2 D (fw_t D T 2 3)) = ((at_co D 24 (T 2) (T 3) : Int) + (at_co D 24 (at_jn D 24 (T 2) (T 3)) (T 0) : Int)) := by
  rw [fw_2c _ 0 2 (fw_ok_t h (by decide) (by decide) (by decide)) (by decide) (by decide) (fun r hr h1 h2 => by
    rcases (show r = 0 ∨ r = 1 ∨ r = 2 ∨ r = 3 by omega) with e | e | e | e <;> subst e
    all_goals first | exact absurd rfl h1 | exact absurd rfl h2 | (rw [fw_t_q]; rfl) | (rw [fw_t_o (by decide) (by decide)]; assumption))]
  rw [(fw_sy (fw_ok_t (p := 2) (q := 3) h (by decide) (by decide) (by decide)) (p := 0) (q := 2) (by decide) (by decide) (by decide)).2, fw_t_p (by decide), fw_t_o (by decide) (by decide)]
theorem fw_v2_01 (h : fw_ok D T) (hd : fw_lf (T 2) = true) : ((at_co D 24 (T 0) (T 1) : Int) + fw_f2 D (fw_t D T 0 1)) = ((at_co D 24 (T 0) (T 1) : Int) + (at_co D 24 (at_jn D 24 (T 0) (T 1)) (T 3) : Int)) := by
  rw [fw_2c _ 0 3 (fw_ok_t h (by decide) (by decide) (by decide)) (by decide) (by decide) (fun r hr h1 h2 => by
    rcases (show r = 0 ∨ r = 1 ∨ r = 2 ∨ r = 3 by omega) with e | e | e | e <;> subst e
    all_goals first | exact absurd rfl h1 | exact absurd rfl h2 | (rw [fw_t_q]; rfl) | (rw [fw_t_o (by decide) (by decide)]; assumption))]
  rw [fw_t_p (by decide), fw_t_o (by decide) (by decide)]
theorem fw_v2_02 (h : fw_ok D T) (hd : fw_lf (T 2) = true) : ((at_co D 24 (T 0) (T 2) : Int) + fw_f2 D (fw_t D T 0 2)) = fw_m3 D (T 0) (T 1) (T 3) := by
  have hk := fw_ok_t (p := 0) (q := 2) h (by decide) (by decide) (by decide)
  have zz := fw_zs (D := D) hd (T 0)
  rw [fw_2m_2 hk (by rw [fw_t_q]; rfl), zz.2.1, fw_t_p (by decide), zz.2.2.2, fw_t_o (by decide) (by decide), fw_t_o (by decide) (by decide)]
  exact Int.zero_add _
theorem fw_v2_03 (h : fw_ok D T) (hd : fw_lf (T 2) = true) : ((at_co D 24 (T 0) (T 3) : Int) + fw_f2 D (fw_t D T 0 3)) = ((at_co D 24 (T 0) (T 3) : Int) + (at_co D 24 (at_jn D 24 (T 0) (T 3)) (T 1) : Int)) := by
  rw [fw_2c _ 0 1 (fw_ok_t h (by decide) (by decide) (by decide)) (by decide) (by decide) (fun r hr h1 h2 => by
    rcases (show r = 0 ∨ r = 1 ∨ r = 2 ∨ r = 3 by omega) with e | e | e | e <;> subst e
    all_goals first | exact absurd rfl h1 | exact absurd rfl h2 | (rw [fw_t_q]; rfl) | (rw [fw_t_o (by decide) (by decide)]; assumption))]
  rw [fw_t_p (by decide), fw_t_o (by decide) (by decide)]
theorem fw_v2_12 (h : fw_ok D T) (hd : fw_lf (T 2) = true) : ((at_co D 24 (T 1) (T 2) : Int) + fw_f2 D (fw_t D T 1 2)) = fw_m3 D (T 0) (T 1) (T 3) := by
  have hk := fw_ok_t (p := 1) (q := 2) h (by decide) (by decide) (by decide)
  have zz := fw_zs (D := D) hd (T 1)
  rw [fw_2m_2 hk (by rw [fw_t_q]; rfl), zz.2.1, fw_t_p (by decide), zz.2.2.2, fw_t_o (by decide) (by decide), fw_t_o (by decide) (by decide)]
  exact Int.zero_add _
theorem fw_v2_13 (h : fw_ok D T) (hd : fw_lf (T 2) = true) : ((at_co D 24 (T 1) (T 3) : Int) + fw_f2 D (fw_t D T 1 3)) = ((at_co D 24 (T 1) (T 3) : Int) + (at_co D 24 (at_jn D 24 (T 1) (T 3)) (T 0) : Int)) := by
  rw [fw_2c _ 0 1 (fw_ok_t h (by decide) (by decide) (by decide)) (by decide) (by decide) (fun r hr h1 h2 => by
    rcases (show r = 0 ∨ r = 1 ∨ r = 2 ∨ r = 3 by omega) with e | e | e | e <;> subst e
    all_goals first | exact absurd rfl h1 | exact absurd rfl h2 | (rw [fw_t_q]; rfl) | (rw [fw_t_o (by decide) (by decide)]; assumption))]
  rw [(fw_sy (fw_ok_t (p := 1) (q := 3) h (by decide) (by decide) (by decide)) (p := 0) (q := 1) (by decide) (by decide) (by decide)).2, fw_t_p (by decide), fw_t_o (by decide) (by decide)]
theorem fw_v2_23 (h : fw_ok D T) (hd : fw_lf (T 2) = true) : ((at_co D 24 (T 2) (T 3) : Int) + fw_f2 D (fw_t D T 2 3)) = fw_m3 D (T 0) (T 1) (T 3) := by
  have hk := fw_ok_t (p := 2) (q := 3) h (by decide) (by decide) (by decide)
  have zz := fw_zs (D := D) hd (T 3)
  rw [fw_2m_3 hk (by rw [fw_t_q]; rfl), zz.1, fw_t_p (by decide), zz.2.2.1, fw_t_o (by decide) (by decide), fw_t_o (by decide) (by decide)]
  exact Int.zero_add _
theorem fw_v3_01 (h : fw_ok D T) (hd : fw_lf (T 3) = true) : ((at_co D 24 (T 0) (T 1) : Int) + fw_f2 D (fw_t D T 0 1)) = ((at_co D 24 (T 0) (T 1) : Int) + (at_co D 24 (at_jn D 24 (T 0) (T 1)) (T 2) : Int)) := by
  rw [fw_2c _ 0 2 (fw_ok_t h (by decide) (by decide) (by decide)) (by decide) (by decide) (fun r hr h1 h2 => by
    rcases (show r = 0 ∨ r = 1 ∨ r = 2 ∨ r = 3 by omega) with e | e | e | e <;> subst e
    all_goals first | exact absurd rfl h1 | exact absurd rfl h2 | (rw [fw_t_q]; rfl) | (rw [fw_t_o (by decide) (by decide)]; assumption))]
  rw [fw_t_p (by decide), fw_t_o (by decide) (by decide)]
theorem fw_v3_02 (h : fw_ok D T) (hd : fw_lf (T 3) = true) : ((at_co D 24 (T 0) (T 2) : Int) + fw_f2 D (fw_t D T 0 2)) = ((at_co D 24 (T 0) (T 2) : Int) + (at_co D 24 (at_jn D 24 (T 0) (T 2)) (T 1) : Int)) := by
  rw [fw_2c _ 0 1 (fw_ok_t h (by decide) (by decide) (by decide)) (by decide) (by decide) (fun r hr h1 h2 => by
    rcases (show r = 0 ∨ r = 1 ∨ r = 2 ∨ r = 3 by omega) with e | e | e | e <;> subst e
    all_goals first | exact absurd rfl h1 | exact absurd rfl h2 | (rw [fw_t_q]; rfl) | (rw [fw_t_o (by decide) (by decide)]; assumption))]
  rw [fw_t_p (by decide), fw_t_o (by decide) (by decide)]
theorem fw_v3_03 (h : fw_ok D T) (hd : fw_lf (T 3) = true) : ((at_co D 24 (T 0) (T 3) : Int) + fw_f2 D (fw_t D T 0 3)) = fw_m3 D (T 0) (T 1) (T 2) := by
  have hk := fw_ok_t (p := 0) (q := 3) h (by decide) (by decide) (by decide)
  have zz := fw_zs (D := D) hd (T 0)
  rw [fw_2m_3 hk (by rw [fw_t_q]; rfl), zz.2.1, fw_t_p (by decide), zz.2.2.2, fw_t_o (by decide) (by decide), fw_t_o (by decide) (by decide)]
  exact Int.zero_add _
theorem fw_v3_12 (h : fw_ok D T) (hd : fw_lf (T 3) = true) : ((at_co D 24 (T 1) (T 2) : Int) + fw_f2 D (fw_t D T 1 2)) = ((at_co D 24 (T 1) (T 2) : Int) + (at_co D 24 (at_jn D 24 (T 1) (T 2)) (T 0) : Int)) := by
  rw [fw_2c _ 0 1 (fw_ok_t h (by decide) (by decide) (by decide)) (by decide) (by decide) (fun r hr h1 h2 => by
    rcases (show r = 0 ∨ r = 1 ∨ r = 2 ∨ r = 3 by omega) with e | e | e | e <;> subst e
    all_goals first | exact absurd rfl h1 | exact absurd rfl h2 | (rw [fw_t_q]; rfl) | (rw [fw_t_o (by decide) (by decide)]; assumption))]
  rw [(fw_sy (fw_ok_t (p := 1) (q := 2) h (by decide) (by decide) (by decide)) (p := 0) (q := 1) (by decide) (by decide) (by decide)).2, fw_t_p (by decide), fw_t_o (by decide) (by decide)]
theorem fw_v3_13 (h : fw_ok D T) (hd : fw_lf (T 3) = true) : ((at_co D 24 (T 1) (T 3) : Int) + fw_f2 D (fw_t D T 1 3)) = fw_m3 D (T 0) (T 1) (T 2) := by
  have hk := fw_ok_t (p := 1) (q := 3) h (by decide) (by decide) (by decide)
  have zz := fw_zs (D := D) hd (T 1)
  rw [fw_2m_3 hk (by rw [fw_t_q]; rfl), zz.2.1, fw_t_p (by decide), zz.2.2.2, fw_t_o (by decide) (by decide), fw_t_o (by decide) (by decide)]
  exact Int.zero_add _
theorem fw_v3_23 (h : fw_ok D T) (hd : fw_lf (T 3) = true) : ((at_co D 24 (T 2) (T 3) : Int) + fw_f2 D (fw_t D T 2 3)) = fw_m3 D (T 0) (T 1) (T 2) := by
  have hk := fw_ok_t (p := 2) (q := 3) h (by decide) (by decide) (by decide)
  have zz := fw_zs (D := D) hd (T 2)
  rw [fw_2m_3 hk (by rw [fw_t_q]; rfl), zz.2.1, fw_t_p (by decide), zz.2.2.2, fw_t_o (by decide) (by decide), fw_t_o (by decide) (by decide)]
  exact Int.zero_add _
end FEW8
