/-! ===== fewestLifts: the pure side (written by few7.py) ===== -/
def fw_ok (D : Int → Int) (T : Nat → at_T) : Prop := ∃ Y : Nat → Int → Int, av_tr Y T ∧ ∀ x, 0 ≤ x → x < 24 → Y 1 x = D x
theorem fw_t_p {D : Int → Int} {T : Nat → at_T} {p q : Nat} (h : p ≠ q) : fw_t D T p q p = at_jn D 24 (T p) (T q) := by
  unfold fw_t
  rw [av_up_ne h, av_up_eq]
theorem fw_t_q {D : Int → Int} {T : Nat → at_T} {p q : Nat} : fw_t D T p q q = .leaf () := by
  unfold fw_t
  rw [av_up_eq]
theorem fw_t_o {D : Int → Int} {T : Nat → at_T} {p q r : Nat} (h1 : r ≠ p) (h2 : r ≠ q) : fw_t D T p q r = T r := by
  unfold fw_t
  rw [av_up_ne h2, av_up_ne h1]
theorem fw_ok_t {D : Int → Int} {T : Nat → at_T} (h : fw_ok D T) {p q : Nat} (hp : p < 4) (hq : q < 4) (hpq : p ≠ q) : fw_ok D (fw_t D T p q) := by
  obtain ⟨Y, h1, h2⟩ := h
  have j := (fw_j (X := Y) h1 hp hq hpq).1
  rw [(fw_td h1 h2 hp hq).1] at j
  refine ⟨_, j, fun x a b => ?_⟩
  rw [fw_jp1, ts_yp_e.1 1 x (by decide) (by decide) a b]
  exact h2 x a b
theorem fw_sy {D : Int → Int} {T : Nat → at_T} (h : fw_ok D T) {p q : Nat} (hp : p < 4) (hq : q < 4) (hpq : p ≠ q) : at_jn D 24 (T p) (T q) = at_jn D 24 (T q) (T p) ∧ at_co D 24 (T p) (T q) = at_co D 24 (T q) (T p) := by
  obtain ⟨Y, h1, h2⟩ := h
  refine at_sy (n := 23) (fun x => ?_)
  have a := h1.2.1 p hp x
  have b := h1.2.1 q hq x
  have c := av_dj h1 hp hq hpq x
  omega
theorem fw_lf_eq {t : at_T} (h : fw_lf t = true) : t = .leaf () := by
  cases t with
  | leaf u => rfl
  | branch n l r => simp [fw_lf] at h
theorem fw_zs {D : Int → Int} {s : at_T} (h : fw_lf s = true) (t : at_T) : at_co D 24 s t = 0 ∧ at_co D 24 t s = 0 ∧ at_jn D 24 s t = t ∧ at_jn D 24 t s = t := by
  rw [fw_lf_eq h]
  exact ⟨at_co_l, at_co_r, at_jn_l, at_jn_r⟩
def fw_o1 (T : Nat → at_T) (p : Nat) : Prop := ∀ r, r < 4 → r ≠ p → fw_lf (T r) = true
def fw_o2 (T : Nat → at_T) (p q : Nat) : Prop := ∀ r, r < 4 → r ≠ p → r ≠ q → fw_lf (T r) = true
def fw_m3 (D : Int → Int) (s t u : at_T) : Int := min (min ((at_co D 24 s t : Int) + at_co D 24 (at_jn D 24 s t) u) ((at_co D 24 s u : Int) + at_co D 24 (at_jn D 24 s u) t)) ((at_co D 24 t u : Int) + at_co D 24 (at_jn D 24 t u) s)
def fw_st (D : Int → Int) (f : (Nat → at_T) → Int) (T : Nat → at_T) (p q : Nat) (a : Int) : Int := if fw_lf (T p) = true ∨ fw_lf (T q) = true then a else fw_le a ((at_co D 24 (T p) (T q) : Int) + f (fw_t D T p q))
theorem fw_lv_eq {D : Int → Int} {f : (Nat → at_T) → Int} {T : Nat → at_T} : fw_lv D f T = if fw_st D f T 2 3 (fw_st D f T 1 3 (fw_st D f T 1 2 (fw_st D f T 0 3 (fw_st D f T 0 2 (fw_st D f T 0 1 (-1)))))) = -1 then 0 else fw_st D f T 2 3 (fw_st D f T 1 3 (fw_st D f T 1 2 (fw_st D f T 0 3 (fw_st D f T 0 2 (fw_st D f T 0 1 (-1)))))) := rfl
theorem fw_le_0 {v : Int} : fw_le (-1) v = v := if_pos rfl
theorem fw_le_n {a v : Int} (h : 0 ≤ a) : fw_le a v = min a v := by
  unfold fw_le
  repeat' split
  all_goals omega
theorem fw_n6 {v1 v2 v3 v4 v5 v6 : Int} (h1 : 0 ≤ v1) (h2 : 0 ≤ v2) (h3 : 0 ≤ v3) (h4 : 0 ≤ v4) (h5 : 0 ≤ v5) : fw_le (fw_le (fw_le (fw_le (fw_le (fw_le (-1) v1) v2) v3) v4) v5) v6 = min (min (min (min (min v1 v2) v3) v4) v5) v6 := by
  have a2 : 0 ≤ min v1 v2 := by omega
  have a3 : 0 ≤ min (min v1 v2) v3 := by omega
  have a4 : 0 ≤ min (min (min v1 v2) v3) v4 := by omega
  have a5 : 0 ≤ min (min (min (min v1 v2) v3) v4) v5 := by omega
  rw [fw_le_0, fw_le_n h1, fw_le_n a2, fw_le_n a3, fw_le_n a4, fw_le_n a5]
theorem fw_n3 {v1 v2 v3 : Int} (h1 : 0 ≤ v1) (h2 : 0 ≤ v2) : fw_le (fw_le (fw_le (-1) v1) v2) v3 = min (min v1 v2) v3 := by
  have a2 : 0 ≤ min v1 v2 := by omega
  rw [fw_le_0, fw_le_n h1, fw_le_n a2]
section FEW7
variable {D : Int → Int} {f : (Nat → at_T) → Int} {T : Nat → at_T} {l : Int}
theorem fw_l1_01 (hf : ∀ T p, fw_ok D T → p < 4 → fw_o1 T p → f T = 0) (h : fw_ok D T) (hc : fw_lf (T 2) = true) (hd : fw_lf (T 3) = true) : fw_lv D f T = at_co D 24 (T 0) (T 1) := by
  rw [fw_lv_eq]
  by_cases a : fw_lf (T 0) = true
  · simp only [fw_st, a, hc, hd, true_or, or_true, if_true, (fw_zs (D := D) a (T 1)).1]
    rfl
  · by_cases b : fw_lf (T 1) = true
    · simp only [fw_st, b, hc, hd, true_or, or_true, if_true, (fw_zs (D := D) b (T 0)).2.1]
      rfl
    · have e : f (fw_t D T 0 1) = 0 := hf _ 0 (fw_ok_t h (by decide) (by decide) (by decide)) (by decide) (fun r hr hrp => by
        rcases (show r = 0 ∨ r = 1 ∨ r = 2 ∨ r = 3 by omega) with e | e | e | e <;> subst e
        all_goals first | exact absurd rfl hrp | (rw [fw_t_q]; rfl) | (rw [fw_t_o (by decide) (by decide)]; assumption))
      simp only [fw_st, a, b, hc, hd, true_or, or_true, or_self, Bool.false_eq_true, if_true, if_false, e, fw_le_0]
      rw [if_neg (by omega)]
      omega
theorem fw_l1_02 (hf : ∀ T p, fw_ok D T → p < 4 → fw_o1 T p → f T = 0) (h : fw_ok D T) (hc : fw_lf (T 1) = true) (hd : fw_lf (T 3) = true) : fw_lv D f T = at_co D 24 (T 0) (T 2) := by
  rw [fw_lv_eq]
  by_cases a : fw_lf (T 0) = true
  · simp only [fw_st, a, hc, hd, true_or, or_true, if_true, (fw_zs (D := D) a (T 2)).1]
    rfl
  · by_cases b : fw_lf (T 2) = true
    · simp only [fw_st, b, hc, hd, true_or, or_true, if_true, (fw_zs (D := D) b (T 0)).2.1]
      rfl
    · have e : f (fw_t D T 0 2) = 0 := hf _ 0 (fw_ok_t h (by decide) (by decide) (by decide)) (by decide) (fun r hr hrp => by
        rcases (show r = 0 ∨ r = 1 ∨ r = 2 ∨ r = 3 by omega) with e | e | e | e <;> subst e
        all_goals first | exact absurd rfl hrp | (rw [fw_t_q]; rfl) | (rw [fw_t_o (by decide) (by decide)]; assumption))
      simp only [fw_st, a, b, hc, hd, true_or, or_true, or_self, Bool.false_eq_true, if_true, if_false, e, fw_le_0]
      rw [if_neg (by omega)]
      omega
theorem fw_l1_03 (hf : ∀ T p, fw_ok D T → p < 4 → fw_o1 T p → f T = 0) (h : fw_ok D T) (hc : fw_lf (T 1) = true) (hd : fw_lf (T 2) = true) : fw_lv D f T = at_co D 24 (T 0) (T 3) := by
  rw [fw_lv_eq]
  by_cases a : fw_lf (T 0) = true
  · simp only [fw_st, a, hc, hd, true_or, or_true, if_true, (fw_zs (D := D) a (T 3)).1]
    rfl
  · by_cases b : fw_lf (T 3) = true
    · simp only [fw_st, b, hc, hd, true_or, or_true, if_true, (fw_zs (D := D) b (T 0)).2.1]
      rfl
    · have e : f (fw_t D T 0 3) = 0 := hf _ 0 (fw_ok_t h (by decide) (by decide) (by decide)) (by decide) (fun r hr hrp => by
        rcases (show r = 0 ∨ r = 1 ∨ r = 2 ∨ r = 3 by omega) with e | e | e | e <;> subst e
        all_goals first | exact absurd rfl hrp | (rw [fw_t_q]; rfl) | (rw [fw_t_o (by decide) (by decide)]; assumption))
      simp only [fw_st, a, b, hc, hd, true_or, or_true, or_self, Bool.false_eq_true, if_true, if_false, e, fw_le_0]
      rw [if_neg (by omega)]
      omega
theorem fw_l1_12 (hf : ∀ T p, fw_ok D T → p < 4 → fw_o1 T p → f T = 0) (h : fw_ok D T) (hc : fw_lf (T 0) = true) (hd : fw_lf (T 3) = true) : fw_lv D f T = at_co D 24 (T 1) (T 2) := by
  rw [fw_lv_eq]
  by_cases a : fw_lf (T 1) = true
  · simp only [fw_st, a, hc, hd, true_or, or_true, if_true, (fw_zs (D := D) a (T 2)).1]
    rfl
  · by_cases b : fw_lf (T 2) = true
    · simp only [fw_st, b, hc, hd, true_or, or_true, if_true, (fw_zs (D := D) b (T 1)).2.1]
      rfl
    · have e : f (fw_t D T 1 2) = 0 := hf _ 1 (fw_ok_t h (by decide) (by decide) (by decide)) (by decide) (fun r hr hrp => by
        rcases (show r = 0 ∨ r = 1 ∨ r = 2 ∨ r = 3 by omega) with e | e | e | e <;> subst e
        all_goals first | exact absurd rfl hrp | (rw [fw_t_q]; rfl) | (rw [fw_t_o (by decide) (by decide)]; assumption))
      simp only [fw_st, a, b, hc, hd, true_or, or_true, or_self, Bool.false_eq_true, if_true, if_false, e, fw_le_0]
      rw [if_neg (by omega)]
      omega
theorem fw_l1_13 (hf : ∀ T p, fw_ok D T → p < 4 → fw_o1 T p → f T = 0) (h : fw_ok D T) (hc : fw_lf (T 0) = true) (hd : fw_lf (T 2) = true) : fw_lv D f T = at_co D 24 (T 1) (T 3) := by
  rw [fw_lv_eq]
  by_cases a : fw_lf (T 1) = true
  · simp only [fw_st, a, hc, hd, true_or, or_true, if_true, (fw_zs (D := D) a (T 3)).1]
    rfl
  · by_cases b : fw_lf (T 3) = true
    · simp only [fw_st, b, hc, hd, true_or, or_true, if_true, (fw_zs (D := D) b (T 1)).2.1]
      rfl
    · have e : f (fw_t D T 1 3) = 0 := hf _ 1 (fw_ok_t h (by decide) (by decide) (by decide)) (by decide) (fun r hr hrp => by
        rcases (show r = 0 ∨ r = 1 ∨ r = 2 ∨ r = 3 by omega) with e | e | e | e <;> subst e
        all_goals first | exact absurd rfl hrp | (rw [fw_t_q]; rfl) | (rw [fw_t_o (by decide) (by decide)]; assumption))
      simp only [fw_st, a, b, hc, hd, true_or, or_true, or_self, Bool.false_eq_true, if_true, if_false, e, fw_le_0]
      rw [if_neg (by omega)]
      omega
theorem fw_l1_23 (hf : ∀ T p, fw_ok D T → p < 4 → fw_o1 T p → f T = 0) (h : fw_ok D T) (hc : fw_lf (T 0) = true) (hd : fw_lf (T 1) = true) : fw_lv D f T = at_co D 24 (T 2) (T 3) := by
  rw [fw_lv_eq]
  by_cases a : fw_lf (T 2) = true
  · simp only [fw_st, a, hc, hd, true_or, or_true, if_true, (fw_zs (D := D) a (T 3)).1]
    rfl
  · by_cases b : fw_lf (T 3) = true
    · simp only [fw_st, b, hc, hd, true_or, or_true, if_true, (fw_zs (D := D) b (T 2)).2.1]
      rfl
    · have e : f (fw_t D T 2 3) = 0 := hf _ 2 (fw_ok_t h (by decide) (by decide) (by decide)) (by decide) (fun r hr hrp => by
        rcases (show r = 0 ∨ r = 1 ∨ r = 2 ∨ r = 3 by omega) with e | e | e | e <;> subst e
        all_goals first | exact absurd rfl hrp | (rw [fw_t_q]; rfl) | (rw [fw_t_o (by decide) (by decide)]; assumption))
      simp only [fw_st, a, b, hc, hd, true_or, or_true, or_self, Bool.false_eq_true, if_true, if_false, e, fw_le_0]
      rw [if_neg (by omega)]
      omega
theorem fw_l1 (hf : ∀ T p, fw_ok D T → p < 4 → fw_o1 T p → f T = 0) {p q : Nat} (h : fw_ok D T) (hpq : p < q) (hq : q < 4) (ho : fw_o2 T p q) : fw_lv D f T = at_co D 24 (T p) (T q) := by
  have hc : (p = 0 ∧ q = 1) ∨ (p = 0 ∧ q = 2) ∨ (p = 0 ∧ q = 3) ∨ (p = 1 ∧ q = 2) ∨ (p = 1 ∧ q = 3) ∨ (p = 2 ∧ q = 3) := by omega
  rcases hc with ⟨rfl, rfl⟩ | ⟨rfl, rfl⟩ | ⟨rfl, rfl⟩ | ⟨rfl, rfl⟩ | ⟨rfl, rfl⟩ | ⟨rfl, rfl⟩
  · exact fw_l1_01 hf h (ho 2 (by decide) (by decide) (by decide)) (ho 3 (by decide) (by decide) (by decide))
  · exact fw_l1_02 hf h (ho 1 (by decide) (by decide) (by decide)) (ho 3 (by decide) (by decide) (by decide))
  · exact fw_l1_03 hf h (ho 1 (by decide) (by decide) (by decide)) (ho 2 (by decide) (by decide) (by decide))
  · exact fw_l1_12 hf h (ho 0 (by decide) (by decide) (by decide)) (ho 3 (by decide) (by decide) (by decide))
  · exact fw_l1_13 hf h (ho 0 (by decide) (by decide) (by decide)) (ho 2 (by decide) (by decide) (by decide))
  · exact fw_l1_23 hf h (ho 0 (by decide) (by decide) (by decide)) (ho 1 (by decide) (by decide) (by decide))
theorem fw_l2_0 (hf : ∀ T p q, fw_ok D T → p < q → q < 4 → fw_o2 T p q → f T = at_co D 24 (T p) (T q)) (h : fw_ok D T) (hd : fw_lf (T 0) = true) : fw_lv D f T = fw_m3 D (T 1) (T 2) (T 3) := by
  have e1 : f (fw_t D T 1 2) = at_co D 24 (at_jn D 24 (T 1) (T 2)) (T 3) := by
    rw [hf _ 1 3 (fw_ok_t h (by decide) (by decide) (by decide)) (by decide) (by decide) (fun r hr h1 h2 => by
      rcases (show r = 0 ∨ r = 1 ∨ r = 2 ∨ r = 3 by omega) with e | e | e | e <;> subst e
      all_goals first | exact absurd rfl h1 | exact absurd rfl h2 | (rw [fw_t_q]; rfl) | (rw [fw_t_o (by decide) (by decide)]; assumption))]
    rw [fw_t_p (by decide), fw_t_o (by decide) (by decide)]
  have e2 : f (fw_t D T 1 3) = at_co D 24 (at_jn D 24 (T 1) (T 3)) (T 2) := by
    rw [hf _ 1 2 (fw_ok_t h (by decide) (by decide) (by decide)) (by decide) (by decide) (fun r hr h1 h2 => by
      rcases (show r = 0 ∨ r = 1 ∨ r = 2 ∨ r = 3 by omega) with e | e | e | e <;> subst e
      all_goals first | exact absurd rfl h1 | exact absurd rfl h2 | (rw [fw_t_q]; rfl) | (rw [fw_t_o (by decide) (by decide)]; assumption))]
    rw [fw_t_p (by decide), fw_t_o (by decide) (by decide)]
  have e3 : f (fw_t D T 2 3) = at_co D 24 (at_jn D 24 (T 2) (T 3)) (T 1) := by
    rw [hf _ 1 2 (fw_ok_t h (by decide) (by decide) (by decide)) (by decide) (by decide) (fun r hr h1 h2 => by
      rcases (show r = 0 ∨ r = 1 ∨ r = 2 ∨ r = 3 by omega) with e | e | e | e <;> subst e
      all_goals first | exact absurd rfl h1 | exact absurd rfl h2 | (rw [fw_t_q]; rfl) | (rw [fw_t_o (by decide) (by decide)]; assumption))]
    have k := (fw_sy (fw_ok_t (p := 2) (q := 3) h (by decide) (by decide) (by decide)) (p := 1) (q := 2) (by decide) (by decide) (by decide)).2
    rw [k, fw_t_p (by decide), fw_t_o (by decide) (by decide)]
  have s1 := (fw_sy h (p := 1) (q := 2) (by decide) (by decide) (by decide)).2
  have s2 := (fw_sy h (p := 1) (q := 3) (by decide) (by decide) (by decide)).2
  have s3 := (fw_sy h (p := 2) (q := 3) (by decide) (by decide) (by decide)).2
  rw [fw_lv_eq]
  unfold fw_m3
  by_cases a : fw_lf (T 1) = true
  · have y1 := fw_zs (D := D) a (T 2)
    have y2 := fw_zs (D := D) a (T 3)
    have y3 := fw_zs (D := D) a (at_jn D 24 (T 2) (T 3))
    rw [y1.1, y2.1, y1.2.2.1, y2.2.2.1, y3.2.1]
    by_cases b : fw_lf (T 2) = true
    · have z1 := fw_zs (D := D) b (T 3)
      simp only [fw_st, a, b, hd, true_or, or_true, if_true]
      omega
    · by_cases c : fw_lf (T 3) = true
      · have z1 := fw_zs (D := D) c (T 2)
        simp only [fw_st, a, c, hd, true_or, or_true, if_true]
        omega
      · simp only [fw_st, a, b, c, hd, true_or, or_true, or_self, Bool.false_eq_true, if_true, if_false, e3, fw_le_0, y3.2.1]
        rw [if_neg (by omega)]
        omega
  · by_cases b : fw_lf (T 2) = true
    · have y1 := fw_zs (D := D) b (T 1)
      have y2 := fw_zs (D := D) b (T 3)
      have y3 := fw_zs (D := D) b (at_jn D 24 (T 1) (T 3))
      rw [y1.2.1, y1.2.2.2, y2.1, y2.2.2.1, y3.2.1]
      by_cases c : fw_lf (T 3) = true
      · have z1 := fw_zs (D := D) c (T 1)
        simp only [fw_st, b, c, hd, true_or, or_true, if_true]
        omega
      · simp only [fw_st, a, b, c, hd, true_or, or_true, or_self, Bool.false_eq_true, if_true, if_false, e2, fw_le_0, y3.2.1]
        rw [if_neg (by omega)]
        omega
    · by_cases c : fw_lf (T 3) = true
      · have y1 := fw_zs (D := D) c (T 1)
        have y2 := fw_zs (D := D) c (T 2)
        have y3 := fw_zs (D := D) c (at_jn D 24 (T 1) (T 2))
        rw [y1.2.1, y1.2.2.2, y2.2.1, y2.2.2.2, y3.2.1]
        simp only [fw_st, a, b, c, hd, true_or, or_true, or_self, Bool.false_eq_true, if_true, if_false, e1, fw_le_0, y3.2.1]
        rw [if_neg (by omega)]
        omega
      · simp only [fw_st, a, b, c, hd, true_or, or_true, or_self, Bool.false_eq_true, if_true, if_false, e1, e2, e3]
        rw [fw_n3 (by omega) (by omega), if_neg (by omega)]
theorem fw_l2_1 (hf : ∀ T p q, fw_ok D T → p < q → q < 4 → fw_o2 T p q → f T = at_co D 24 (T p) (T q)) (h : fw_ok D T) (hd : fw_lf (T 1) = true) : fw_lv D f T = fw_m3 D (T 0) (T 2) (T 3) := by
  have e1 : f (fw_t D T 0 2) = at_co D 24 (at_jn D 24 (T 0) (T 2)) (T 3) := by
    rw [hf _ 0 3 (fw_ok_t h (by decide) (by decide) (by decide)) (by decide) (by decide) (fun r hr h1 h2 => by
      rcases (show r = 0 ∨ r = 1 ∨ r = 2 ∨ r = 3 by omega) with e | e | e | e <;> subst e
      all_goals first | exact absurd rfl h1 | exact absurd rfl h2 | (rw [fw_t_q]; rfl) | (rw [fw_t_o (by decide) (by decide)]; assumption))]
    rw [fw_t_p (by decide), fw_t_o (by decide) (by decide)]
  have e2 : f (fw_t D T 0 3) = at_co D 24 (at_jn D 24 (T 0) (T 3)) (T 2) := by
    rw [hf _ 0 2 (fw_ok_t h (by decide) (by decide) (by decide)) (by decide) (by decide) (fun r hr h1 h2 => by
      rcases (show r = 0 ∨ r = 1 ∨ r = 2 ∨ r = 3 by omega) with e | e | e | e <;> subst e
      all_goals first | exact absurd rfl h1 | exact absurd rfl h2 | (rw [fw_t_q]; rfl) | (rw [fw_t_o (by decide) (by decide)]; assumption))]
    rw [fw_t_p (by decide), fw_t_o (by decide) (by decide)]
  have e3 : f (fw_t D T 2 3) = at_co D 24 (at_jn D 24 (T 2) (T 3)) (T 0) := by
    rw [hf _ 0 2 (fw_ok_t h (by decide) (by decide) (by decide)) (by decide) (by decide) (fun r hr h1 h2 => by
      rcases (show r = 0 ∨ r = 1 ∨ r = 2 ∨ r = 3 by omega) with e | e | e | e <;> subst e
      all_goals first | exact absurd rfl h1 | exact absurd rfl h2 | (rw [fw_t_q]; rfl) | (rw [fw_t_o (by decide) (by decide)]; assumption))]
    have k := (fw_sy (fw_ok_t (p := 2) (q := 3) h (by decide) (by decide) (by decide)) (p := 0) (q := 2) (by decide) (by decide) (by decide)).2
    rw [k, fw_t_p (by decide), fw_t_o (by decide) (by decide)]
  have s1 := (fw_sy h (p := 0) (q := 2) (by decide) (by decide) (by decide)).2
  have s2 := (fw_sy h (p := 0) (q := 3) (by decide) (by decide) (by decide)).2
  have s3 := (fw_sy h (p := 2) (q := 3) (by decide) (by decide) (by decide)).2
  rw [fw_lv_eq]
  unfold fw_m3
  by_cases a : fw_lf (T 0) = true
  · have y1 := fw_zs (D := D) a (T 2)
    have y2 := fw_zs (D := D) a (T 3)
    have y3 := fw_zs (D := D) a (at_jn D 24 (T 2) (T 3))
    rw [y1.1, y2.1, y1.2.2.1, y2.2.2.1, y3.2.1]
    by_cases b : fw_lf (T 2) = true
    · have z1 := fw_zs (D := D) b (T 3)
      simp only [fw_st, a, b, hd, true_or, or_true, if_true]
      omega
    · by_cases c : fw_lf (T 3) = true
      · have z1 := fw_zs (D := D) c (T 2)
        simp only [fw_st, a, c, hd, true_or, or_true, if_true]
        omega
      · simp only [fw_st, a, b, c, hd, true_or, or_true, or_self, Bool.false_eq_true, if_true, if_false, e3, fw_le_0, y3.2.1]
        rw [if_neg (by omega)]
        omega
  · by_cases b : fw_lf (T 2) = true
    · have y1 := fw_zs (D := D) b (T 0)
      have y2 := fw_zs (D := D) b (T 3)
      have y3 := fw_zs (D := D) b (at_jn D 24 (T 0) (T 3))
      rw [y1.2.1, y1.2.2.2, y2.1, y2.2.2.1, y3.2.1]
      by_cases c : fw_lf (T 3) = true
      · have z1 := fw_zs (D := D) c (T 0)
        simp only [fw_st, b, c, hd, true_or, or_true, if_true]
        omega
      · simp only [fw_st, a, b, c, hd, true_or, or_true, or_self, Bool.false_eq_true, if_true, if_false, e2, fw_le_0, y3.2.1]
        rw [if_neg (by omega)]
        omega
    · by_cases c : fw_lf (T 3) = true
      · have y1 := fw_zs (D := D) c (T 0)
        have y2 := fw_zs (D := D) c (T 2)
        have y3 := fw_zs (D := D) c (at_jn D 24 (T 0) (T 2))
        rw [y1.2.1, y1.2.2.2, y2.2.1, y2.2.2.2, y3.2.1]
        simp only [fw_st, a, b, c, hd, true_or, or_true, or_self, Bool.false_eq_true, if_true, if_false, e1, fw_le_0, y3.2.1]
        rw [if_neg (by omega)]
        omega
      · simp only [fw_st, a, b, c, hd, true_or, or_true, or_self, Bool.false_eq_true, if_true, if_false, e1, e2, e3]
        rw [fw_n3 (by omega) (by omega), if_neg (by omega)]
theorem fw_l2_2 (hf : ∀ T p q, fw_ok D T → p < q → q < 4 → fw_o2 T p q → f T = at_co D 24 (T p) (T q)) (h : fw_ok D T) (hd : fw_lf (T 2) = true) : fw_lv D f T = fw_m3 D (T 0) (T 1) (T 3) := by
  have e1 : f (fw_t D T 0 1) = at_co D 24 (at_jn D 24 (T 0) (T 1)) (T 3) := by
    rw [hf _ 0 3 (fw_ok_t h (by decide) (by decide) (by decide)) (by decide) (by decide) (fun r hr h1 h2 => by
      rcases (show r = 0 ∨ r = 1 ∨ r = 2 ∨ r = 3 by omega) with e | e | e | e <;> subst e
      all_goals first | exact absurd rfl h1 | exact absurd rfl h2 | (rw [fw_t_q]; rfl) | (rw [fw_t_o (by decide) (by decide)]; assumption))]
    rw [fw_t_p (by decide), fw_t_o (by decide) (by decide)]
  have e2 : f (fw_t D T 0 3) = at_co D 24 (at_jn D 24 (T 0) (T 3)) (T 1) := by
    rw [hf _ 0 1 (fw_ok_t h (by decide) (by decide) (by decide)) (by decide) (by decide) (fun r hr h1 h2 => by
      rcases (show r = 0 ∨ r = 1 ∨ r = 2 ∨ r = 3 by omega) with e | e | e | e <;> subst e
      all_goals first | exact absurd rfl h1 | exact absurd rfl h2 | (rw [fw_t_q]; rfl) | (rw [fw_t_o (by decide) (by decide)]; assumption))]
    rw [fw_t_p (by decide), fw_t_o (by decide) (by decide)]
  have e3 : f (fw_t D T 1 3) = at_co D 24 (at_jn D 24 (T 1) (T 3)) (T 0) := by
    rw [hf _ 0 1 (fw_ok_t h (by decide) (by decide) (by decide)) (by decide) (by decide) (fun r hr h1 h2 => by
      rcases (show r = 0 ∨ r = 1 ∨ r = 2 ∨ r = 3 by omega) with e | e | e | e <;> subst e
      all_goals first | exact absurd rfl h1 | exact absurd rfl h2 | (rw [fw_t_q]; rfl) | (rw [fw_t_o (by decide) (by decide)]; assumption))]
    have k := (fw_sy (fw_ok_t (p := 1) (q := 3) h (by decide) (by decide) (by decide)) (p := 0) (q := 1) (by decide) (by decide) (by decide)).2
    rw [k, fw_t_p (by decide), fw_t_o (by decide) (by decide)]
  have s1 := (fw_sy h (p := 0) (q := 1) (by decide) (by decide) (by decide)).2
  have s2 := (fw_sy h (p := 0) (q := 3) (by decide) (by decide) (by decide)).2
  have s3 := (fw_sy h (p := 1) (q := 3) (by decide) (by decide) (by decide)).2
  rw [fw_lv_eq]
  unfold fw_m3
  by_cases a : fw_lf (T 0) = true
  · have y1 := fw_zs (D := D) a (T 1)
    have y2 := fw_zs (D := D) a (T 3)
    have y3 := fw_zs (D := D) a (at_jn D 24 (T 1) (T 3))
    rw [y1.1, y2.1, y1.2.2.1, y2.2.2.1, y3.2.1]
    by_cases b : fw_lf (T 1) = true
    · have z1 := fw_zs (D := D) b (T 3)
      simp only [fw_st, a, b, hd, true_or, or_true, if_true]
      omega
    · by_cases c : fw_lf (T 3) = true
      · have z1 := fw_zs (D := D) c (T 1)
        simp only [fw_st, a, c, hd, true_or, or_true, if_true]
        omega
      · simp only [fw_st, a, b, c, hd, true_or, or_true, or_self, Bool.false_eq_true, if_true, if_false, e3, fw_le_0, y3.2.1]
        rw [if_neg (by omega)]
        omega
  · by_cases b : fw_lf (T 1) = true
    · have y1 := fw_zs (D := D) b (T 0)
      have y2 := fw_zs (D := D) b (T 3)
      have y3 := fw_zs (D := D) b (at_jn D 24 (T 0) (T 3))
      rw [y1.2.1, y1.2.2.2, y2.1, y2.2.2.1, y3.2.1]
      by_cases c : fw_lf (T 3) = true
      · have z1 := fw_zs (D := D) c (T 0)
        simp only [fw_st, b, c, hd, true_or, or_true, if_true]
        omega
      · simp only [fw_st, a, b, c, hd, true_or, or_true, or_self, Bool.false_eq_true, if_true, if_false, e2, fw_le_0, y3.2.1]
        rw [if_neg (by omega)]
        omega
    · by_cases c : fw_lf (T 3) = true
      · have y1 := fw_zs (D := D) c (T 0)
        have y2 := fw_zs (D := D) c (T 1)
        have y3 := fw_zs (D := D) c (at_jn D 24 (T 0) (T 1))
        rw [y1.2.1, y1.2.2.2, y2.2.1, y2.2.2.2, y3.2.1]
        simp only [fw_st, a, b, c, hd, true_or, or_true, or_self, Bool.false_eq_true, if_true, if_false, e1, fw_le_0, y3.2.1]
        rw [if_neg (by omega)]
        omega
      · simp only [fw_st, a, b, c, hd, true_or, or_true, or_self, Bool.false_eq_true, if_true, if_false, e1, e2, e3]
        rw [fw_n3 (by omega) (by omega), if_neg (by omega)]
theorem fw_l2_3 (hf : ∀ T p q, fw_ok D T → p < q → q < 4 → fw_o2 T p q → f T = at_co D 24 (T p) (T q)) (h : fw_ok D T) (hd : fw_lf (T 3) = true) : fw_lv D f T = fw_m3 D (T 0) (T 1) (T 2) := by
  have e1 : f (fw_t D T 0 1) = at_co D 24 (at_jn D 24 (T 0) (T 1)) (T 2) := by
    rw [hf _ 0 2 (fw_ok_t h (by decide) (by decide) (by decide)) (by decide) (by decide) (fun r hr h1 h2 => by
      rcases (show r = 0 ∨ r = 1 ∨ r = 2 ∨ r = 3 by omega) with e | e | e | e <;> subst e
      all_goals first | exact absurd rfl h1 | exact absurd rfl h2 | (rw [fw_t_q]; rfl) | (rw [fw_t_o (by decide) (by decide)]; assumption))]
    rw [fw_t_p (by decide), fw_t_o (by decide) (by decide)]
  have e2 : f (fw_t D T 0 2) = at_co D 24 (at_jn D 24 (T 0) (T 2)) (T 1) := by
    rw [hf _ 0 1 (fw_ok_t h (by decide) (by decide) (by decide)) (by decide) (by decide) (fun r hr h1 h2 => by
      rcases (show r = 0 ∨ r = 1 ∨ r = 2 ∨ r = 3 by omega) with e | e | e | e <;> subst e
      all_goals first | exact absurd rfl h1 | exact absurd rfl h2 | (rw [fw_t_q]; rfl) | (rw [fw_t_o (by decide) (by decide)]; assumption))]
    rw [fw_t_p (by decide), fw_t_o (by decide) (by decide)]
  have e3 : f (fw_t D T 1 2) = at_co D 24 (at_jn D 24 (T 1) (T 2)) (T 0) := by
    rw [hf _ 0 1 (fw_ok_t h (by decide) (by decide) (by decide)) (by decide) (by decide) (fun r hr h1 h2 => by
      rcases (show r = 0 ∨ r = 1 ∨ r = 2 ∨ r = 3 by omega) with e | e | e | e <;> subst e
      all_goals first | exact absurd rfl h1 | exact absurd rfl h2 | (rw [fw_t_q]; rfl) | (rw [fw_t_o (by decide) (by decide)]; assumption))]
    have k := (fw_sy (fw_ok_t (p := 1) (q := 2) h (by decide) (by decide) (by decide)) (p := 0) (q := 1) (by decide) (by decide) (by decide)).2
    rw [k, fw_t_p (by decide), fw_t_o (by decide) (by decide)]
  have s1 := (fw_sy h (p := 0) (q := 1) (by decide) (by decide) (by decide)).2
  have s2 := (fw_sy h (p := 0) (q := 2) (by decide) (by decide) (by decide)).2
  have s3 := (fw_sy h (p := 1) (q := 2) (by decide) (by decide) (by decide)).2
  rw [fw_lv_eq]
  unfold fw_m3
  by_cases a : fw_lf (T 0) = true
  · have y1 := fw_zs (D := D) a (T 1)
    have y2 := fw_zs (D := D) a (T 2)
    have y3 := fw_zs (D := D) a (at_jn D 24 (T 1) (T 2))
    rw [y1.1, y2.1, y1.2.2.1, y2.2.2.1, y3.2.1]
    by_cases b : fw_lf (T 1) = true
    · have z1 := fw_zs (D := D) b (T 2)
      simp only [fw_st, a, b, hd, true_or, or_true, if_true]
      omega
    · by_cases c : fw_lf (T 2) = true
      · have z1 := fw_zs (D := D) c (T 1)
        simp only [fw_st, a, c, hd, true_or, or_true, if_true]
        omega
      · simp only [fw_st, a, b, c, hd, true_or, or_true, or_self, Bool.false_eq_true, if_true, if_false, e3, fw_le_0, y3.2.1]
        rw [if_neg (by omega)]
        omega
  · by_cases b : fw_lf (T 1) = true
    · have y1 := fw_zs (D := D) b (T 0)
      have y2 := fw_zs (D := D) b (T 2)
      have y3 := fw_zs (D := D) b (at_jn D 24 (T 0) (T 2))
      rw [y1.2.1, y1.2.2.2, y2.1, y2.2.2.1, y3.2.1]
      by_cases c : fw_lf (T 2) = true
      · have z1 := fw_zs (D := D) c (T 0)
        simp only [fw_st, b, c, hd, true_or, or_true, if_true]
        omega
      · simp only [fw_st, a, b, c, hd, true_or, or_true, or_self, Bool.false_eq_true, if_true, if_false, e2, fw_le_0, y3.2.1]
        rw [if_neg (by omega)]
        omega
    · by_cases c : fw_lf (T 2) = true
      · have y1 := fw_zs (D := D) c (T 0)
        have y2 := fw_zs (D := D) c (T 1)
        have y3 := fw_zs (D := D) c (at_jn D 24 (T 0) (T 1))
        rw [y1.2.1, y1.2.2.2, y2.2.1, y2.2.2.2, y3.2.1]
        simp only [fw_st, a, b, c, hd, true_or, or_true, or_self, Bool.false_eq_true, if_true, if_false, e1, fw_le_0, y3.2.1]
        rw [if_neg (by omega)]
        omega
      · simp only [fw_st, a, b, c, hd, true_or, or_true, or_self, Bool.false_eq_true, if_true, if_false, e1, e2, e3]
        rw [fw_n3 (by omega) (by omega), if_neg (by omega)]
theorem fw_1c (T : Nat → at_T) (p q : Nat) (h : fw_ok D T) (hpq : p < q) (hq : q < 4) (ho : fw_o2 T p q) : fw_f1 D T = at_co D 24 (T p) (T q) := fw_l1 (fun _ _ _ _ _ => rfl) h hpq hq ho
theorem fw_1z (T : Nat → at_T) (p : Nat) (h : fw_ok D T) (hp : p < 4) (ho : fw_o1 T p) : fw_f1 D T = 0 := by
  by_cases q : p = 3
  · subst q
    rw [fw_1c T 2 3 h (by decide) (by decide) (fun r hr _ h2 => ho r hr h2), (fw_zs (D := D) (ho 2 (by decide) (by decide)) (T 3)).1]
    rfl
  · rw [fw_1c T p 3 h (by omega) (by decide) (fun r hr h1 _ => ho r hr h1), (fw_zs (D := D) (ho 3 (by decide) (fun z => q z.symm)) (T p)).2.1]
    rfl
theorem fw_2c (T : Nat → at_T) (p q : Nat) (h : fw_ok D T) (hpq : p < q) (hq : q < 4) (ho : fw_o2 T p q) : fw_f2 D T = at_co D 24 (T p) (T q) := fw_l1 fw_1z h hpq hq ho
theorem fw_2m_0 (h : fw_ok D T) (hd : fw_lf (T 0) = true) : fw_f2 D T = fw_m3 D (T 1) (T 2) (T 3) := fw_l2_0 fw_1c h hd
theorem fw_3m_0 (h : fw_ok D T) (hd : fw_lf (T 0) = true) : fw_f3 D T = fw_m3 D (T 1) (T 2) (T 3) := fw_l2_0 fw_2c h hd
theorem fw_2m_1 (h : fw_ok D T) (hd : fw_lf (T 1) = true) : fw_f2 D T = fw_m3 D (T 0) (T 2) (T 3) := fw_l2_1 fw_1c h hd
theorem fw_3m_1 (h : fw_ok D T) (hd : fw_lf (T 1) = true) : fw_f3 D T = fw_m3 D (T 0) (T 2) (T 3) := fw_l2_1 fw_2c h hd
theorem fw_2m_2 (h : fw_ok D T) (hd : fw_lf (T 2) = true) : fw_f2 D T = fw_m3 D (T 0) (T 1) (T 3) := fw_l2_2 fw_1c h hd
theorem fw_3m_2 (h : fw_ok D T) (hd : fw_lf (T 2) = true) : fw_f3 D T = fw_m3 D (T 0) (T 1) (T 3) := fw_l2_2 fw_2c h hd
theorem fw_2m_3 (h : fw_ok D T) (hd : fw_lf (T 3) = true) : fw_f2 D T = fw_m3 D (T 0) (T 1) (T 2) := fw_l2_3 fw_1c h hd
theorem fw_3m_3 (h : fw_ok D T) (hd : fw_lf (T 3) = true) : fw_f3 D T = fw_m3 D (T 0) (T 1) (T 2) := fw_l2_3 fw_2c h hd
end FEW7
