/-! ===== fewestLifts: the class's levels (written by few6.py) ===== -/
def fw_g (D : Int → Int) (C : Int) (T : Nat → at_T) (Y : Nat → Int → Int) : Prop := av_tr Y T ∧ (∀ x, 0 ≤ x → x < 24 → Y 1 x = D x) ∧ 0 ≤ Y 0 11 ∧ Y 0 11 ≤ C
theorem fw_jp1 {Y : Nat → Int → Int} {p q : Int} : ay_jp Y p q 1 = Y 1 := by
  funext x
  unfold ay_jp ay_jp0
  rw [ay_rg_ne (by decide), ay_pt_ne (Or.inl (by decide)), ay_pt_ne (Or.inl (by decide)), ay_jl_fr ⟨by decide, by decide, by decide, Or.inl (by decide)⟩]
theorem fw_td {Y : Nat → Int → Int} {T : Nat → at_T} {D : Int → Int} (h : av_tr Y T) (hD : ∀ x, 0 ≤ x → x < 24 → Y 1 x = D x) {p q : Nat} (hp : p < 4) (hq : q < 4) : fw_t (Y 1) T p q = fw_t D T p q ∧ at_co (Y 1) 24 (T p) (T q) = at_co D 24 (T p) (T q) := by
  have cg := at_cg (D := D) (D' := Y 1) 24 (T p) (T q) (fun x hx => by
    have hx' : 0 < at_ct (T p) x ∨ 0 < at_ct (T q) x := by omega
    have hr : 0 ≤ x ∧ x < 24 := by
      rcases hx' with w | w
      · exact av_in h hp w
      · exact av_in h hq w
    exact hD x hr.1 hr.2)
  exact ⟨by unfold fw_t; rw [cg.1], cg.2⟩
theorem fw_jg {D : Int → Int} {C : Int} {T : Nat → at_T} {Y X : Nat → Int → Int} (h : fw_g D C T Y) {p q : Nat} (hp : p < 4) (hq : q < 4) (hpq : p ≠ q) (hC : C + 24 < 2147483648) : fw_g D (C + 24) (fw_t D T p q) (ay_jp (am_yp Y X) p q) ∧ am_w (ay_jp (am_yp Y X) p q 0 11 - am_yp Y X 0 11) = at_co D 24 (T p) (T q) := by
  obtain ⟨h1, h2, h3, h4⟩ := h
  obtain ⟨j1, j2⟩ := fw_j (X := X) h1 hp hq hpq
  obtain ⟨d1, d2⟩ := fw_td h1 h2 hp hq
  have hc := at_co_le (D := D) 24 (T p) (T q)
  have e11 : am_yp Y X 0 11 = Y 0 11 := ts_yp_s (by decide) (by decide)
  rw [d2, at_lf_eq _ _ h3 (by omega)] at j2
  rw [d1] at j1
  refine ⟨⟨j1, fun x a b => ?_, by omega, by omega⟩, ?_⟩
  · rw [fw_jp1, ts_yp_e.1 1 x (by decide) (by decide) a b]
    exact h2 x a b
  · rw [j2, e11, am_wi (by omega) (by omega)]
    omega
def fw_s (E : am_E) (D : Int → Int) (k : Nat) (x : Int) (b : Nat) (C : Int) (f : (Nat → at_T) → Int) : Prop := ∀ (M : am_M) (T : Nat → at_T), fw_g D C T (M b) → ∃ M', am_den k (0, [some (am_A (34, 1)), some (am_I x), none, none, none, none, none, none], [], E, M) = some (.inl (some (am_I (f T))), E, M') ∧ ∀ c, (c ≤ b ∨ 21 < c) → M' c = M c
theorem fw_in_le {D : Int → Int} {f : (Nat → at_T) → Int} {K : Int} (hf : ∀ T, 0 ≤ f T ∧ f T ≤ K) {T : Nat → at_T} {p : Nat} : ∀ (m q : Nat) (a : Int), (a = -1 ∨ (0 ≤ a ∧ a ≤ K + 24)) → (fw_in D f T p m q a = -1 ∨ (0 ≤ fw_in D f T p m q a ∧ fw_in D f T p m q a ≤ K + 24)) := by
  intro m
  induction m with
  | zero => intro q a h; exact h
  | succ m ih =>
    intro q a h
    rw [fw_in]
    refine ih _ _ ?_
    have hc := at_co_le (D := D) 24 (T p) (T q)
    have h1 := hf (fw_t D T p q)
    split
    · exact h
    · unfold fw_le
      repeat' split
      all_goals omega
theorem fw_out_le {D : Int → Int} {f : (Nat → at_T) → Int} {K : Int} (hf : ∀ T, 0 ≤ f T ∧ f T ≤ K) {T : Nat → at_T} : ∀ (m p : Nat) (a : Int), (a = -1 ∨ (0 ≤ a ∧ a ≤ K + 24)) → (fw_out D f T m p a = -1 ∨ (0 ≤ fw_out D f T m p a ∧ fw_out D f T m p a ≤ K + 24)) := by
  intro m
  induction m with
  | zero => intro p a h; exact h
  | succ m ih =>
    intro p a h
    rw [fw_out]
    exact ih _ _ (fw_in_le hf _ _ _ h)
theorem fw_lv_le {D : Int → Int} {f : (Nat → at_T) → Int} {K : Int} (hf : ∀ T, 0 ≤ f T ∧ f T ≤ K) (hK : 0 ≤ K) : ∀ T, 0 ≤ fw_lv D f T ∧ fw_lv D f T ≤ K + 24 := by
  intro T
  have h := fw_out_le (D := D) hf (T := T) 4 0 (-1) (Or.inl rfl)
  unfold fw_lv
  split <;> omega
section FEW6
variable {E : am_E} {D : Int → Int} {f : (Nat → at_T) → Int} {C K : Int}
theorem fw_s3 (hE : am_Wr E) : fw_s E D 228 3 21 C (fun _ => 0) := fun M _ _ => ⟨M, fw_228 hE, fun _ _ => rfl⟩
theorem fw_in_227 (hE : am_Wr E) (hf : ∀ T, 0 ≤ f T ∧ f T ≤ K) (hK : K < 1000) (hC : C + 24 < 2147483648) (H : fw_s E D 228 3 21 (C + 24) f) {T : Nat → at_T} {p : Nat} (hp : p < 4) : ∀ (m q : Nat) (a : Int) (u7 : Option am_V) (M : am_M), p < q → q + m = 4 → fw_g D C T (M 20) → ∃ (M' : am_M) (u7' : Option am_V), am_den 227 (42, [some (am_A (34, 1)), some (am_I 2), some (am_A (20, 0)), some (am_A (21, 0)), some (am_I a), some (am_I p), some (am_I q), u7], [], E, M) = am_den 227 (119, [some (am_A (34, 1)), some (am_I 2), some (am_A (20, 0)), some (am_A (21, 0)), some (am_I (fw_in D f T p m q a)), some (am_I p), some (am_I 4), u7'], [], E, M') ∧ ∀ c, (c ≤ 20 ∨ 21 < c) → M' c = M c := by
  intro m
  induction m with
  | zero =>
    intro q a u7 M hpq hqm hY
    have e : q = 4 := by omega
    subst e
    refine ⟨M, u7, ?_, fun _ _ => rfl⟩
    rw [am_B227_42, if_pos (by decide)]
    rfl
  | succ m ih =>
    intro q a u7 M hpq hqm hY
    have hq : q < 4 := by omega
    have w1 : am_w ((q : Int) + 1) = ((q + 1 : Nat) : Int) := by rw [am_wi (by omega) (by omega)]; omega
    have tp := fw_top hY.1 hp
    have tq := fw_top hY.1 hq
    rw [fw_in, am_B227_42, if_neg (by omega), am_B227_48 (hE.1 20 (by decide)), am_s28 (hE.1 20 (by decide)), am_bd_v]
    simp only [Nat.reduceAdd]
    rw [am_B227_54]
    by_cases q1 : am_gt (M 20 6) 4 p = -1
    · rw [if_pos q1, am_B227_113, w1, if_pos (Or.inl (tp.mp q1))]
      exact ih (q + 1) a u7 M (by omega) (by omega) hY
    · rw [if_neg q1, am_B227_58 (hE.1 20 (by decide)), am_s28 (hE.1 20 (by decide)), am_bd_v]
      simp only [Nat.reduceAdd]
      rw [am_B227_64]
      by_cases q2 : am_gt (M 20 6) 4 q = -1
      · rw [if_pos q2, am_B227_113, w1, if_pos (Or.inr (tq.mp q2))]
        exact ih (q + 1) a u7 M (by omega) (by omega) hY
      · rw [if_neg (show ¬ (fw_lf (T p) = true ∨ fw_lf (T q) = true) from fun z => z.elim (fun w => q1 (tp.mpr w)) (fun w => q2 (tq.mpr w)))]
        have J := fw_jg (X := M 21) hY hp hq (by omega) hC
        rw [if_neg q2, am_B227_68 (hE.1 21 (by decide)), am_s22 (hE.1 21 (by decide)) (hE.1 20 (by decide)) (by decide), am_bd_u]
        simp only [Nat.reduceAdd]
        rw [am_B227_73 (hE.1 21 (by decide)), ay_57 (hE.1 21 (by decide)), am_bd_v, am_sb_at, am_sb_sb]
        simp only [Nat.reduceAdd]
        rw [J.2, am_B227_81, show am_w ((2 : Int) + 1) = 3 by decide]
        obtain ⟨M1, e1, k1⟩ := H (am_sb M 21 (ay_jp (am_yp (M 20) (M 21)) p q)) (fw_t D T p q) (by rw [am_sb_at]; exact J.1)
        rw [e1, am_bd_v]
        simp only [Nat.reduceAdd]
        have hc := at_co_le (D := D) 24 (T p) (T q)
        have hfT := hf (fw_t D T p q)
        have w2 : am_w ((at_co D 24 (T p) (T q) : Int) + f (fw_t D T p q)) = (at_co D 24 (T p) (T q) : Int) + f (fw_t D T p q) := am_wi (by omega) (by omega)
        have kk : ∀ c, (c ≤ 20 ∨ 21 < c) → M1 c = M c := fun c hc => by rw [k1 c (by omega), am_sb_ne (by omega)]
        have hY1 : fw_g D C T (M1 20) := by rw [kk 20 (by omega)]; exact hY
        have fin : ∀ x, x = fw_le a ((at_co D 24 (T p) (T q) : Int) + f (fw_t D T p q)) → ∃ (M' : am_M) (u7' : Option am_V), am_den 227 (111, [some (am_A (34, 1)), some (am_I 2), some (am_A (20, 0)), some (am_A (21, 0)), some (am_I a), some (am_I p), some (am_I q), some (am_I ((at_co D 24 (T p) (T q) : Int) + f (fw_t D T p q)))], [am_I x], E, M1) = am_den 227 (119, [some (am_A (34, 1)), some (am_I 2), some (am_A (20, 0)), some (am_A (21, 0)), some (am_I (fw_in D f T p m (q + 1) (fw_le a ((at_co D 24 (T p) (T q) : Int) + f (fw_t D T p q))))), some (am_I p), some (am_I 4), u7'], [], E, M') ∧ ∀ c, (c ≤ 20 ∨ 21 < c) → M' c = M c := by
          intro x hx
          rw [am_B227_111, am_B227_113, w1, hx]
          obtain ⟨M2, v, e2, k2⟩ := ih (q + 1) (fw_le a ((at_co D 24 (T p) (T q) : Int) + f (fw_t D T p q))) (some (am_I ((at_co D 24 (T p) (T q) : Int) + f (fw_t D T p q)))) M1 (by omega) (by omega) hY1
          exact ⟨M2, v, e2, fun c hc => by rw [k2 c hc, kk c hc]⟩
        rw [am_B227_88, w2]
        by_cases q3 : a = -1
        · rw [if_pos q3, am_B227_104]
          exact fin _ (by rw [fw_le, if_pos q3])
        · rw [if_neg q3, am_B227_97]
          by_cases q4 : a ≤ (at_co D 24 (T p) (T q) : Int) + f (fw_t D T p q)
          · rw [if_pos q4, am_B227_109]
            exact fin _ (by rw [fw_le, if_neg q3, if_pos q4])
          · rw [if_neg q4, am_B227_104]
            exact fin _ (by rw [fw_le, if_neg q3, if_neg q4])
theorem fw_out_227 (hE : am_Wr E) (hf : ∀ T, 0 ≤ f T ∧ f T ≤ K) (hK : K < 1000) (hC : C + 24 < 2147483648) (H : fw_s E D 228 3 21 (C + 24) f) {T : Nat → at_T} : ∀ (m p : Nat) (a : Int) (u6 u7 : Option am_V) (M : am_M), p + m = 4 → fw_g D C T (M 20) → ∃ (M' : am_M) (u6' u7' : Option am_V), am_den 227 (30, [some (am_A (34, 1)), some (am_I 2), some (am_A (20, 0)), some (am_A (21, 0)), some (am_I a), some (am_I p), u6, u7], [], E, M) = am_den 227 (125, [some (am_A (34, 1)), some (am_I 2), some (am_A (20, 0)), some (am_A (21, 0)), some (am_I (fw_out D f T m p a)), some (am_I 4), u6', u7'], [], E, M') ∧ ∀ c, (c ≤ 20 ∨ 21 < c) → M' c = M c := by
  intro m
  induction m with
  | zero =>
    intro p a u6 u7 M hpm hY
    have e : p = 4 := by omega
    subst e
    refine ⟨M, u6, u7, ?_, fun _ _ => rfl⟩
    rw [am_B227_30, if_pos (by decide)]
    rfl
  | succ m ih =>
    intro p a u6 u7 M hpm hY
    have w1 : am_w ((p : Int) + 1) = ((p + 1 : Nat) : Int) := by rw [am_wi (by omega) (by omega)]; omega
    obtain ⟨M1, v7, e1, k1⟩ := fw_in_227 hE hf hK hC H (T := T) (p := p) (by omega) (3 - p) (p + 1) a u7 M (by omega) (by omega) hY
    obtain ⟨M2, v6, v8, e2, k2⟩ := ih (p + 1) (fw_in D f T p (3 - p) (p + 1) a) (some (am_I 4)) v7 M1 (by omega) (by rw [k1 20 (by omega)]; exact hY)
    refine ⟨M2, v6, v8, ?_, fun c hc => by rw [k2 c hc, k1 c hc]⟩
    rw [fw_out, am_B227_30, if_neg (by omega), am_B227_36, w1, e1, am_B227_119, w1, e2]
theorem fw_s_227 (hE : am_Wr E) (hf : ∀ T, 0 ≤ f T ∧ f T ≤ K) (hK : K < 1000) (hC : C + 24 < 2147483648) (H : fw_s E D 228 3 21 (C + 24) f) : fw_s E D 227 2 20 C (fw_lv D f) := by
  intro M T hY
  have g0 : am_den 116 (0, [some (am_A (34, 1)), some (am_I 2)], [], E, M) = some (.inl (some (am_A (20, 0))), E, M) := fw_116 hE (i := 2) (by decide)
  have g1 : am_den 116 (0, [some (am_A (34, 1)), some (am_I 3)], [], E, M) = some (.inl (some (am_A (21, 0))), E, M) := fw_116 hE (i := 3) (by decide)
  obtain ⟨M1, v6, v7, e1, k1⟩ := fw_out_227 hE hf hK hC H (T := T) 4 0 (-1) none none M rfl hY
  refine ⟨M1, ?_, k1⟩
  rw [am_B227_0, g0, am_bd_v]
  simp only [Nat.reduceAdd]
  rw [am_B227_5, show am_w ((2 : Int) + 1) = 3 by decide, g1, am_bd_v]
  simp only [Nat.reduceAdd]
  rw [am_B227_13, am_B227_24]
  refine Eq.trans e1 ?_
  unfold fw_lv
  by_cases h : fw_out D f T 4 0 (-1) = -1
  · rw [am_B227_125, if_neg (fun z => z h), am_B227_131, am_B227_137, if_pos h]
  · rw [am_B227_125, if_pos h, am_B227_135, am_B227_137, if_neg h]
theorem fw_in_226 (hE : am_Wr E) (hf : ∀ T, 0 ≤ f T ∧ f T ≤ K) (hK : K < 1000) (hC : C + 24 < 2147483648) (H : fw_s E D 227 2 20 (C + 24) f) {T : Nat → at_T} {p : Nat} (hp : p < 4) : ∀ (m q : Nat) (a : Int) (u7 : Option am_V) (M : am_M), p < q → q + m = 4 → fw_g D C T (M 19) → ∃ (M' : am_M) (u7' : Option am_V), am_den 226 (42, [some (am_A (34, 1)), some (am_I 1), some (am_A (19, 0)), some (am_A (20, 0)), some (am_I a), some (am_I p), some (am_I q), u7], [], E, M) = am_den 226 (119, [some (am_A (34, 1)), some (am_I 1), some (am_A (19, 0)), some (am_A (20, 0)), some (am_I (fw_in D f T p m q a)), some (am_I p), some (am_I 4), u7'], [], E, M') ∧ ∀ c, (c ≤ 19 ∨ 21 < c) → M' c = M c := by
  intro m
  induction m with
  | zero =>
    intro q a u7 M hpq hqm hY
    have e : q = 4 := by omega
    subst e
    refine ⟨M, u7, ?_, fun _ _ => rfl⟩
    rw [am_B226_42, if_pos (by decide)]
    rfl
  | succ m ih =>
    intro q a u7 M hpq hqm hY
    have hq : q < 4 := by omega
    have w1 : am_w ((q : Int) + 1) = ((q + 1 : Nat) : Int) := by rw [am_wi (by omega) (by omega)]; omega
    have tp := fw_top hY.1 hp
    have tq := fw_top hY.1 hq
    rw [fw_in, am_B226_42, if_neg (by omega), am_B226_48 (hE.1 19 (by decide)), am_s28 (hE.1 19 (by decide)), am_bd_v]
    simp only [Nat.reduceAdd]
    rw [am_B226_54]
    by_cases q1 : am_gt (M 19 6) 4 p = -1
    · rw [if_pos q1, am_B226_113, w1, if_pos (Or.inl (tp.mp q1))]
      exact ih (q + 1) a u7 M (by omega) (by omega) hY
    · rw [if_neg q1, am_B226_58 (hE.1 19 (by decide)), am_s28 (hE.1 19 (by decide)), am_bd_v]
      simp only [Nat.reduceAdd]
      rw [am_B226_64]
      by_cases q2 : am_gt (M 19 6) 4 q = -1
      · rw [if_pos q2, am_B226_113, w1, if_pos (Or.inr (tq.mp q2))]
        exact ih (q + 1) a u7 M (by omega) (by omega) hY
      · rw [if_neg (show ¬ (fw_lf (T p) = true ∨ fw_lf (T q) = true) from fun z => z.elim (fun w => q1 (tp.mpr w)) (fun w => q2 (tq.mpr w)))]
        have J := fw_jg (X := M 20) hY hp hq (by omega) hC
        rw [if_neg q2, am_B226_68 (hE.1 20 (by decide)), am_s22 (hE.1 20 (by decide)) (hE.1 19 (by decide)) (by decide), am_bd_u]
        simp only [Nat.reduceAdd]
        rw [am_B226_73 (hE.1 20 (by decide)), ay_57 (hE.1 20 (by decide)), am_bd_v, am_sb_at, am_sb_sb]
        simp only [Nat.reduceAdd]
        rw [J.2, am_B226_81, show am_w ((1 : Int) + 1) = 2 by decide]
        obtain ⟨M1, e1, k1⟩ := H (am_sb M 20 (ay_jp (am_yp (M 19) (M 20)) p q)) (fw_t D T p q) (by rw [am_sb_at]; exact J.1)
        rw [e1, am_bd_v]
        simp only [Nat.reduceAdd]
        have hc := at_co_le (D := D) 24 (T p) (T q)
        have hfT := hf (fw_t D T p q)
        have w2 : am_w ((at_co D 24 (T p) (T q) : Int) + f (fw_t D T p q)) = (at_co D 24 (T p) (T q) : Int) + f (fw_t D T p q) := am_wi (by omega) (by omega)
        have kk : ∀ c, (c ≤ 19 ∨ 21 < c) → M1 c = M c := fun c hc => by rw [k1 c (by omega), am_sb_ne (by omega)]
        have hY1 : fw_g D C T (M1 19) := by rw [kk 19 (by omega)]; exact hY
        have fin : ∀ x, x = fw_le a ((at_co D 24 (T p) (T q) : Int) + f (fw_t D T p q)) → ∃ (M' : am_M) (u7' : Option am_V), am_den 226 (111, [some (am_A (34, 1)), some (am_I 1), some (am_A (19, 0)), some (am_A (20, 0)), some (am_I a), some (am_I p), some (am_I q), some (am_I ((at_co D 24 (T p) (T q) : Int) + f (fw_t D T p q)))], [am_I x], E, M1) = am_den 226 (119, [some (am_A (34, 1)), some (am_I 1), some (am_A (19, 0)), some (am_A (20, 0)), some (am_I (fw_in D f T p m (q + 1) (fw_le a ((at_co D 24 (T p) (T q) : Int) + f (fw_t D T p q))))), some (am_I p), some (am_I 4), u7'], [], E, M') ∧ ∀ c, (c ≤ 19 ∨ 21 < c) → M' c = M c := by
          intro x hx
          rw [am_B226_111, am_B226_113, w1, hx]
          obtain ⟨M2, v, e2, k2⟩ := ih (q + 1) (fw_le a ((at_co D 24 (T p) (T q) : Int) + f (fw_t D T p q))) (some (am_I ((at_co D 24 (T p) (T q) : Int) + f (fw_t D T p q)))) M1 (by omega) (by omega) hY1
          exact ⟨M2, v, e2, fun c hc => by rw [k2 c hc, kk c hc]⟩
        rw [am_B226_88, w2]
        by_cases q3 : a = -1
        · rw [if_pos q3, am_B226_104]
          exact fin _ (by rw [fw_le, if_pos q3])
        · rw [if_neg q3, am_B226_97]
          by_cases q4 : a ≤ (at_co D 24 (T p) (T q) : Int) + f (fw_t D T p q)
          · rw [if_pos q4, am_B226_109]
            exact fin _ (by rw [fw_le, if_neg q3, if_pos q4])
          · rw [if_neg q4, am_B226_104]
            exact fin _ (by rw [fw_le, if_neg q3, if_neg q4])
theorem fw_out_226 (hE : am_Wr E) (hf : ∀ T, 0 ≤ f T ∧ f T ≤ K) (hK : K < 1000) (hC : C + 24 < 2147483648) (H : fw_s E D 227 2 20 (C + 24) f) {T : Nat → at_T} : ∀ (m p : Nat) (a : Int) (u6 u7 : Option am_V) (M : am_M), p + m = 4 → fw_g D C T (M 19) → ∃ (M' : am_M) (u6' u7' : Option am_V), am_den 226 (30, [some (am_A (34, 1)), some (am_I 1), some (am_A (19, 0)), some (am_A (20, 0)), some (am_I a), some (am_I p), u6, u7], [], E, M) = am_den 226 (125, [some (am_A (34, 1)), some (am_I 1), some (am_A (19, 0)), some (am_A (20, 0)), some (am_I (fw_out D f T m p a)), some (am_I 4), u6', u7'], [], E, M') ∧ ∀ c, (c ≤ 19 ∨ 21 < c) → M' c = M c := by
  intro m
  induction m with
  | zero =>
    intro p a u6 u7 M hpm hY
    have e : p = 4 := by omega
    subst e
    refine ⟨M, u6, u7, ?_, fun _ _ => rfl⟩
    rw [am_B226_30, if_pos (by decide)]
    rfl
  | succ m ih =>
    intro p a u6 u7 M hpm hY
    have w1 : am_w ((p : Int) + 1) = ((p + 1 : Nat) : Int) := by rw [am_wi (by omega) (by omega)]; omega
    obtain ⟨M1, v7, e1, k1⟩ := fw_in_226 hE hf hK hC H (T := T) (p := p) (by omega) (3 - p) (p + 1) a u7 M (by omega) (by omega) hY
    obtain ⟨M2, v6, v8, e2, k2⟩ := ih (p + 1) (fw_in D f T p (3 - p) (p + 1) a) (some (am_I 4)) v7 M1 (by omega) (by rw [k1 19 (by omega)]; exact hY)
    refine ⟨M2, v6, v8, ?_, fun c hc => by rw [k2 c hc, k1 c hc]⟩
    rw [fw_out, am_B226_30, if_neg (by omega), am_B226_36, w1, e1, am_B226_119, w1, e2]
theorem fw_s_226 (hE : am_Wr E) (hf : ∀ T, 0 ≤ f T ∧ f T ≤ K) (hK : K < 1000) (hC : C + 24 < 2147483648) (H : fw_s E D 227 2 20 (C + 24) f) : fw_s E D 226 1 19 C (fw_lv D f) := by
  intro M T hY
  have g0 : am_den 116 (0, [some (am_A (34, 1)), some (am_I 1)], [], E, M) = some (.inl (some (am_A (19, 0))), E, M) := fw_116 hE (i := 1) (by decide)
  have g1 : am_den 116 (0, [some (am_A (34, 1)), some (am_I 2)], [], E, M) = some (.inl (some (am_A (20, 0))), E, M) := fw_116 hE (i := 2) (by decide)
  obtain ⟨M1, v6, v7, e1, k1⟩ := fw_out_226 hE hf hK hC H (T := T) 4 0 (-1) none none M rfl hY
  refine ⟨M1, ?_, k1⟩
  rw [am_B226_0, g0, am_bd_v]
  simp only [Nat.reduceAdd]
  rw [am_B226_5, show am_w ((1 : Int) + 1) = 2 by decide, g1, am_bd_v]
  simp only [Nat.reduceAdd]
  rw [am_B226_13, am_B226_24]
  refine Eq.trans e1 ?_
  unfold fw_lv
  by_cases h : fw_out D f T 4 0 (-1) = -1
  · rw [am_B226_125, if_neg (fun z => z h), am_B226_131, am_B226_137, if_pos h]
  · rw [am_B226_125, if_pos h, am_B226_135, am_B226_137, if_neg h]
theorem fw_in_106 (hE : am_Wr E) (hf : ∀ T, 0 ≤ f T ∧ f T ≤ K) (hK : K < 1000) (hC : C + 24 < 2147483648) (H : fw_s E D 226 1 19 (C + 24) f) {T : Nat → at_T} {p : Nat} (hp : p < 4) : ∀ (m q : Nat) (a : Int) (u7 : Option am_V) (M : am_M), p < q → q + m = 4 → fw_g D C T (M 18) → ∃ (M' : am_M) (u7' : Option am_V), am_den 106 (42, [some (am_A (34, 1)), some (am_I 0), some (am_A (18, 0)), some (am_A (19, 0)), some (am_I a), some (am_I p), some (am_I q), u7], [], E, M) = am_den 106 (119, [some (am_A (34, 1)), some (am_I 0), some (am_A (18, 0)), some (am_A (19, 0)), some (am_I (fw_in D f T p m q a)), some (am_I p), some (am_I 4), u7'], [], E, M') ∧ ∀ c, (c ≤ 18 ∨ 21 < c) → M' c = M c := by
  intro m
  induction m with
  | zero =>
    intro q a u7 M hpq hqm hY
    have e : q = 4 := by omega
    subst e
    refine ⟨M, u7, ?_, fun _ _ => rfl⟩
    rw [am_B106_42, if_pos (by decide)]
    rfl
  | succ m ih =>
    intro q a u7 M hpq hqm hY
    have hq : q < 4 := by omega
    have w1 : am_w ((q : Int) + 1) = ((q + 1 : Nat) : Int) := by rw [am_wi (by omega) (by omega)]; omega
    have tp := fw_top hY.1 hp
    have tq := fw_top hY.1 hq
    rw [fw_in, am_B106_42, if_neg (by omega), am_B106_48 (hE.1 18 (by decide)), am_s28 (hE.1 18 (by decide)), am_bd_v]
    simp only [Nat.reduceAdd]
    rw [am_B106_54]
    by_cases q1 : am_gt (M 18 6) 4 p = -1
    · rw [if_pos q1, am_B106_113, w1, if_pos (Or.inl (tp.mp q1))]
      exact ih (q + 1) a u7 M (by omega) (by omega) hY
    · rw [if_neg q1, am_B106_58 (hE.1 18 (by decide)), am_s28 (hE.1 18 (by decide)), am_bd_v]
      simp only [Nat.reduceAdd]
      rw [am_B106_64]
      by_cases q2 : am_gt (M 18 6) 4 q = -1
      · rw [if_pos q2, am_B106_113, w1, if_pos (Or.inr (tq.mp q2))]
        exact ih (q + 1) a u7 M (by omega) (by omega) hY
      · rw [if_neg (show ¬ (fw_lf (T p) = true ∨ fw_lf (T q) = true) from fun z => z.elim (fun w => q1 (tp.mpr w)) (fun w => q2 (tq.mpr w)))]
        have J := fw_jg (X := M 19) hY hp hq (by omega) hC
        rw [if_neg q2, am_B106_68 (hE.1 19 (by decide)), am_s22 (hE.1 19 (by decide)) (hE.1 18 (by decide)) (by decide), am_bd_u]
        simp only [Nat.reduceAdd]
        rw [am_B106_73 (hE.1 19 (by decide)), ay_57 (hE.1 19 (by decide)), am_bd_v, am_sb_at, am_sb_sb]
        simp only [Nat.reduceAdd]
        rw [J.2, am_B106_81, show am_w ((0 : Int) + 1) = 1 by decide]
        obtain ⟨M1, e1, k1⟩ := H (am_sb M 19 (ay_jp (am_yp (M 18) (M 19)) p q)) (fw_t D T p q) (by rw [am_sb_at]; exact J.1)
        rw [e1, am_bd_v]
        simp only [Nat.reduceAdd]
        have hc := at_co_le (D := D) 24 (T p) (T q)
        have hfT := hf (fw_t D T p q)
        have w2 : am_w ((at_co D 24 (T p) (T q) : Int) + f (fw_t D T p q)) = (at_co D 24 (T p) (T q) : Int) + f (fw_t D T p q) := am_wi (by omega) (by omega)
        have kk : ∀ c, (c ≤ 18 ∨ 21 < c) → M1 c = M c := fun c hc => by rw [k1 c (by omega), am_sb_ne (by omega)]
        have hY1 : fw_g D C T (M1 18) := by rw [kk 18 (by omega)]; exact hY
        have fin : ∀ x, x = fw_le a ((at_co D 24 (T p) (T q) : Int) + f (fw_t D T p q)) → ∃ (M' : am_M) (u7' : Option am_V), am_den 106 (111, [some (am_A (34, 1)), some (am_I 0), some (am_A (18, 0)), some (am_A (19, 0)), some (am_I a), some (am_I p), some (am_I q), some (am_I ((at_co D 24 (T p) (T q) : Int) + f (fw_t D T p q)))], [am_I x], E, M1) = am_den 106 (119, [some (am_A (34, 1)), some (am_I 0), some (am_A (18, 0)), some (am_A (19, 0)), some (am_I (fw_in D f T p m (q + 1) (fw_le a ((at_co D 24 (T p) (T q) : Int) + f (fw_t D T p q))))), some (am_I p), some (am_I 4), u7'], [], E, M') ∧ ∀ c, (c ≤ 18 ∨ 21 < c) → M' c = M c := by
          intro x hx
          rw [am_B106_111, am_B106_113, w1, hx]
          obtain ⟨M2, v, e2, k2⟩ := ih (q + 1) (fw_le a ((at_co D 24 (T p) (T q) : Int) + f (fw_t D T p q))) (some (am_I ((at_co D 24 (T p) (T q) : Int) + f (fw_t D T p q)))) M1 (by omega) (by omega) hY1
          exact ⟨M2, v, e2, fun c hc => by rw [k2 c hc, kk c hc]⟩
        rw [am_B106_88, w2]
        by_cases q3 : a = -1
        · rw [if_pos q3, am_B106_104]
          exact fin _ (by rw [fw_le, if_pos q3])
        · rw [if_neg q3, am_B106_97]
          by_cases q4 : a ≤ (at_co D 24 (T p) (T q) : Int) + f (fw_t D T p q)
          · rw [if_pos q4, am_B106_109]
            exact fin _ (by rw [fw_le, if_neg q3, if_pos q4])
          · rw [if_neg q4, am_B106_104]
            exact fin _ (by rw [fw_le, if_neg q3, if_neg q4])
theorem fw_out_106 (hE : am_Wr E) (hf : ∀ T, 0 ≤ f T ∧ f T ≤ K) (hK : K < 1000) (hC : C + 24 < 2147483648) (H : fw_s E D 226 1 19 (C + 24) f) {T : Nat → at_T} : ∀ (m p : Nat) (a : Int) (u6 u7 : Option am_V) (M : am_M), p + m = 4 → fw_g D C T (M 18) → ∃ (M' : am_M) (u6' u7' : Option am_V), am_den 106 (30, [some (am_A (34, 1)), some (am_I 0), some (am_A (18, 0)), some (am_A (19, 0)), some (am_I a), some (am_I p), u6, u7], [], E, M) = am_den 106 (125, [some (am_A (34, 1)), some (am_I 0), some (am_A (18, 0)), some (am_A (19, 0)), some (am_I (fw_out D f T m p a)), some (am_I 4), u6', u7'], [], E, M') ∧ ∀ c, (c ≤ 18 ∨ 21 < c) → M' c = M c := by
  intro m
  induction m with
  | zero =>
    intro p a u6 u7 M hpm hY
    have e : p = 4 := by omega
    subst e
    refine ⟨M, u6, u7, ?_, fun _ _ => rfl⟩
    rw [am_B106_30, if_pos (by decide)]
    rfl
  | succ m ih =>
    intro p a u6 u7 M hpm hY
    have w1 : am_w ((p : Int) + 1) = ((p + 1 : Nat) : Int) := by rw [am_wi (by omega) (by omega)]; omega
    obtain ⟨M1, v7, e1, k1⟩ := fw_in_106 hE hf hK hC H (T := T) (p := p) (by omega) (3 - p) (p + 1) a u7 M (by omega) (by omega) hY
    obtain ⟨M2, v6, v8, e2, k2⟩ := ih (p + 1) (fw_in D f T p (3 - p) (p + 1) a) (some (am_I 4)) v7 M1 (by omega) (by rw [k1 18 (by omega)]; exact hY)
    refine ⟨M2, v6, v8, ?_, fun c hc => by rw [k2 c hc, k1 c hc]⟩
    rw [fw_out, am_B106_30, if_neg (by omega), am_B106_36, w1, e1, am_B106_119, w1, e2]
theorem fw_s_106 (hE : am_Wr E) (hf : ∀ T, 0 ≤ f T ∧ f T ≤ K) (hK : K < 1000) (hC : C + 24 < 2147483648) (H : fw_s E D 226 1 19 (C + 24) f) : fw_s E D 106 0 18 C (fw_lv D f) := by
  intro M T hY
  have g0 : am_den 116 (0, [some (am_A (34, 1)), some (am_I 0)], [], E, M) = some (.inl (some (am_A (18, 0))), E, M) := fw_116 hE (i := 0) (by decide)
  have g1 : am_den 116 (0, [some (am_A (34, 1)), some (am_I 1)], [], E, M) = some (.inl (some (am_A (19, 0))), E, M) := fw_116 hE (i := 1) (by decide)
  obtain ⟨M1, v6, v7, e1, k1⟩ := fw_out_106 hE hf hK hC H (T := T) 4 0 (-1) none none M rfl hY
  refine ⟨M1, ?_, k1⟩
  rw [am_B106_0, g0, am_bd_v]
  simp only [Nat.reduceAdd]
  rw [am_B106_5, show am_w ((0 : Int) + 1) = 1 by decide, g1, am_bd_v]
  simp only [Nat.reduceAdd]
  rw [am_B106_13, am_B106_24]
  refine Eq.trans e1 ?_
  unfold fw_lv
  by_cases h : fw_out D f T 4 0 (-1) = -1
  · rw [am_B106_125, if_neg (fun z => z h), am_B106_131, am_B106_137, if_pos h]
  · rw [am_B106_125, if_pos h, am_B106_135, am_B106_137, if_neg h]
/-- the class's answer, in trees -/
def fw_f1 (D : Int → Int) : (Nat → at_T) → Int := fw_lv D (fun _ => 0)
def fw_f2 (D : Int → Int) : (Nat → at_T) → Int := fw_lv D (fw_f1 D)
def fw_f3 (D : Int → Int) : (Nat → at_T) → Int := fw_lv D (fw_f2 D)
theorem fw_s0 (hE : am_Wr E) (hC : C + 72 < 2147483648) : fw_s E D 106 0 18 C (fw_f3 D) := by
  have b0 : ∀ T : Nat → at_T, 0 ≤ (fun _ => (0 : Int)) T ∧ (fun _ => (0 : Int)) T ≤ 0 := fun _ => ⟨Int.le_refl 0, Int.le_refl 0⟩
  have b1 := fw_lv_le (D := D) b0 (by decide)
  have b2 := fw_lv_le (D := D) b1 (by decide)
  exact fw_s_106 hE b2 (by decide) (by omega) (fw_s_226 hE b1 (by decide) (by omega) (fw_s_227 hE b0 (by decide) (by omega) (fw_s3 hE)))
end FEW6
