/-! ===== the reference's row beside a yard ===== -/
def ra_q (f : Int → Int) (Y : Nat → Int → Int) : Prop :=
  (f 0 = Y 0 7 ∧ f 1 = Y 0 8 ∧ f 2 = Y 0 9 ∧ f 3 = Y 0 10 ∧ f 4 = Y 0 11 ∧ f 5 = Y 0 12 ∧ f 6 = Y 0 13 ∧ f 7 = Y 0 14 ∧ f 9 = Y 0 16) ∧
  (∀ p, 0 ≤ p → p < Y 0 7 → f (10 + 2 * p) = Y 6 p ∧ f (11 + 2 * p) = Y 7 p) ∧
  (∀ l, 0 ≤ l → l < Y 0 8 → f (18 + 5 * l + 0) = Y 1 l ∧ f (18 + 5 * l + 1) = Y 2 l) ∧
  (∀ l, 0 ≤ l → l < Y 0 8 → Y 2 l ≠ -1 → f (18 + 5 * l + 2) = Y 3 l ∧ f (18 + 5 * l + 3) = Y 4 l ∧ f (18 + 5 * l + 4) = Y 5 l)
theorem ra_lv {Y : Nat → Int → Int} {l : Int} (h : av_b Y) (h0 : 0 ≤ l) (h1 : l < 24) (h2 : Y 2 l ≠ -1) : l < Y 0 8 ∧ 0 ≤ Y 2 l ∧ Y 2 l < Y 0 7 := by
  rcases h.2.2.2.1 l h0 h1 with w | w
  · exact absurd w.1 h2
  · exact ⟨w.2, w.1⟩
theorem ra_ab {Y : Nat → Int → Int} {l : Int} (h : av_Y Y) (h0 : 0 ≤ l) (h1 : l < 24) (h2 : Y 2 l ≠ -1) (h3 : Y 3 l ≠ -1) : 0 ≤ Y 3 l ∧ Y 3 l < 24 ∧ Y 2 (Y 3 l) = Y 2 l := by
  obtain ⟨hb, hn, T, ht, ha⟩ := h
  obtain ⟨p, hp, e, hc⟩ := av_who hb ha h0 h1 h2
  rcases at_chi (T p) _ _ (ht.1 p hp) hc with w | w
  · exact absurd w.2 h3
  · have := av_in ht hp w.1
    exact ⟨this.1, this.2, by rw [ht.2.2 p hp _ w.1, e]⟩
def at_wk (Y : Nat → Int → Int) : Nat → Int → Prop
  | 0, u => u = -1
  | k + 1, u => (0 ≤ u ∧ u < 24 ∧ Y 2 u ≠ -1) ∧ at_wk Y k (Y 3 u)
theorem at_wk_in {Y : Nat → Int → Int} {x : Int} : ∀ (t : at_T) (u a : Int) (j : Nat), at_is Y t u a → (∀ y, 0 < at_ct t y → Y 2 y ≠ -1) → at_wk Y j u → 0 < at_ct t x → ∃ k, k + 1 ≤ j + at_sz t ∧ at_wk Y k (Y 3 x) := by
  intro t
  induction t with
  | leaf v => intro u a j _ _ _ h; simp [at_ct] at h
  | branch n l r ihl ihr =>
    intro u a j h hl hj hc
    simp only [at_is] at h
    simp only [at_ct] at hc hl
    have hn : at_wk Y (j + 1) n := ⟨⟨by omega, by omega, hl n (by rw [if_pos rfl]; omega)⟩, by rw [h.1.2.2]; exact hj⟩
    by_cases q : x = (n : Int)
    · refine ⟨j, by simp only [at_sz]; omega, ?_⟩
      rw [q, h.1.2.2]
      exact hj
    · rw [if_neg q] at hc
      by_cases q2 : 0 < at_ct l x
      · obtain ⟨k, hk, hw⟩ := ihl _ _ (j + 1) h.2.1 (fun y hy => hl y (by omega)) hn q2
        exact ⟨k, by simp only [at_sz]; omega, hw⟩
      · obtain ⟨k, hk, hw⟩ := ihr _ _ (j + 1) h.2.2 (fun y hy => hl y (by omega)) hn (by omega)
        exact ⟨k, by simp only [at_sz]; omega, hw⟩
theorem ra_wk {Y : Nat → Int → Int} {l : Int} (h : av_Y Y) (h0 : 0 ≤ l) (h1 : l < 24) (h2 : Y 2 l ≠ -1) : ∃ k, k ≤ 23 ∧ at_wk Y k (Y 3 l) := by
  obtain ⟨hb, hn, T, ht, ha⟩ := h
  obtain ⟨p, hp, e, hc⟩ := av_who hb ha h0 h1 h2
  obtain ⟨k, hk, hw⟩ := at_wk_in (x := l) (T p) _ _ 0 (ht.1 p hp) (fun y hy => by rw [ht.2.2 p hp y hy]; omega) rfl hc
  have h1 := at_sz_le (s := T p) (w := .leaf ()) (fun x => by have := ht.2.1 p hp x; simp only [at_ct]; omega) (fun x hx => (av_in ht hp hx).2) (fun x hx => by simp [at_ct] at hx)
  simp only [at_sz] at h1
  exact ⟨k, by omega, hw⟩
theorem at_wk_dp {Y : Nat → Int → Int} : ∀ (k n : Nat) (u : Int), at_wk Y k u → k ≤ n → am_dp (am_gt (Y 3) 24) n u = k := by
  intro k
  induction k with
  | zero =>
    intro n u h _
    have e : u = -1 := h
    cases n with
    | zero => rfl
    | succ n => rw [am_dp, if_pos e]; rfl
  | succ k ih =>
    intro n u h hn
    cases n with
    | zero => omega
    | succ n =>
      obtain ⟨⟨a, b, _⟩, h2⟩ := h
      rw [am_dp, if_neg (by omega), at_gt (by omega), ih n _ h2 (by omega)]
      omega
section REF2
variable {E : am_E} {M : am_M} {d : Nat} {Y : Nat → Int → Int} {p q l m w v : Int}
theorem ra_130 (hk : am_kd E (d, 0) = some (6, 138)) (hq : ra_q (M d 0) Y) (hY : av_Y Y) (h0 : 0 ≤ l) (h1 : l < 24) (h2 : Y 2 l ≠ -1) : am_den 130 (0, [some (am_A (d, 0)), some (am_I l)], [], E, M) = some (.inl (some (am_I (am_b (Y 3 l ≠ -1 ∧ am_ah Y l (Y 3 l))))), E, M) := by
  have hv := ra_lv hY.1 h0 h1 h2
  have e3 := (hq.2.2.2 l h0 hv.1 h2).1
  rw [am_B130_0, ar_123 hk ⟨h0, h1⟩ (by omega), am_bd_v, e3]
  simp only [Nat.reduceAdd]
  rw [am_B130_6]
  by_cases q1 : Y 3 l = -1
  · rw [if_pos q1, am_B130_28, am_B130_29 (Or.inl rfl), am_b, if_neg (fun z => z.1 q1)]
  · have ha := ra_ab hY h0 h1 h2 q1
    have ha2 := ra_lv hY.1 ha.1 ha.2.1 (by rw [ha.2.2]; exact h2)
    have d1 := hq.2.2.1 l h0 hv.1
    have d2 := hq.2.2.1 (Y 3 l) ha.1 ha2.1
    have b1 := hY.1.2.2.1 l h0 h1
    have b2 := hY.1.2.2.1 (Y 3 l) ha.1 ha.2.1
    rw [if_neg q1, am_B130_10, ar_123 hk ⟨h0, h1⟩ (by omega), am_bd_v, e3]
    simp only [Nat.reduceAdd]
    rw [am_B130_18, ar_129 hk ⟨h0, h1⟩ ⟨ha.1, ha.2.1⟩ (by rw [d1.1]; exact b1) (by rw [d2.1]; exact b2), am_bd_v]
    simp only [Nat.reduceAdd]
    rw [am_B130_21]
    have e : ar_ah (M d 0) l (Y 3 l) = (am_ah Y l (Y 3 l)) := by
      unfold ar_ah am_ah
      rw [d1.1, d2.1]
      apply propext
      exact ⟨fun z => ⟨⟨h0, h1, ha.1, ha.2.1⟩, z⟩, fun z => z.2⟩
    by_cases q2 : ar_ah (M d 0) l (Y 3 l)
    · rw [if_neg (by rw [am_b_0]; exact fun z => z q2), am_B130_24, am_B130_29 (Or.inr rfl), am_b, if_pos ⟨q1, by rw [← e]; exact q2⟩]
    · rw [if_pos (by rw [am_b_0]; exact q2), am_B130_28, am_B130_29 (Or.inl rfl), am_b, if_neg (fun z => q2 (by rw [e]; exact z.2))]
theorem ra_131l (hk : am_kd E (d, 0) = some (6, 138)) (hq : ra_q (M d 0) Y) (hY : av_b Y) : ∀ (k : Nat) (z u : Int), at_wk Y k u → 0 ≤ z → z + k < 1000 → am_den 131 (9, [some (am_A (d, 0)), some (am_I l), some (am_I z), some (am_I u)], [], E, M) = some (.inl (some (am_I (z + k))), E, M) := by
  intro k
  induction k with
  | zero =>
    intro z u h h0 h1
    have e : u = -1 := h
    rw [am_B131_9, if_pos e, am_B131_27]
    rw [show ((0 : Nat) : Int) = 0 from rfl, Int.add_zero]
  | succ k ih =>
    intro z u h h0 h1
    obtain ⟨⟨a, b, c⟩, h2⟩ := h
    have hv := ra_lv hY a b c
    rw [am_B131_9, if_neg (by omega), am_B131_14, ar_123 hk ⟨a, b⟩ (by omega), am_bd_v, (hq.2.2.2 u a hv.1 c).1]
    simp only [Nat.reduceAdd]
    rw [am_B131_23, am_wi (by omega) (by omega), ih (z + 1) _ h2 (by omega) (by omega)]
    rw [show z + 1 + (k : Int) = z + ((k + 1 : Nat) : Int) by omega]
theorem ra_131 (hk : am_kd E (d, 0) = some (6, 138)) (hq : ra_q (M d 0) Y) (hY : av_Y Y) (h0 : 0 ≤ l) (h1 : l < 24) (h2 : Y 2 l ≠ -1) {u1 u2 : Option am_V} : am_den 131 (0, [some (am_A (d, 0)), some (am_I l), u1, u2], [], E, M) = some (.inl (some (am_I (ay_dep Y l))), E, M) := by
  obtain ⟨k, hk2, hw⟩ := ra_wk hY h0 h1 h2
  have hv := ra_lv hY.1 h0 h1 h2
  have e : ay_dep Y l = k := by
    unfold ay_dep
    rw [at_gt (by omega)]
    exact at_wk_dp k 24 _ hw (by omega)
  rw [am_B131_0, ar_123 hk ⟨h0, h1⟩ (by omega), am_bd_v, (hq.2.2.2 l h0 hv.1 h2).1]
  simp only [Nat.reduceAdd]
  rw [am_B131_8, ra_131l hk hq hY.1 k 0 _ hw (by omega) (by omega), e, Int.zero_add]
theorem ra_ul {w : Int} : ∀ n : Nat, am_ul (am_gt (Y 3) 24) w n (-1) = -1 := by
  intro n
  cases n with
  | zero => rfl
  | succ n => rw [am_ul, if_pos (Or.inl rfl)]
theorem ra_132l (hk : am_kd E (d, 0) = some (6, 138)) (hq : ra_q (M d 0) Y) (hY : av_b Y) : ∀ (k n : Nat) (u : Int), at_wk Y k u → k ≤ n → am_den 132 (7, [some (am_A (d, 0)), some (am_I l), some (am_I w), some (am_I u)], [], E, M) = some (.inl (some (am_I (am_b (am_ul (am_gt (Y 3) 24) w n u = w)))), E, M) := by
  have fin : ∀ (u : Int), am_den 132 (27, [some (am_A (d, 0)), some (am_I l), some (am_I w), some (am_I u)], [], E, M) = some (.inl (some (am_I (am_b (u = w)))), E, M) := by
    intro u
    rw [am_B132_27]
    by_cases h : u = w
    · rw [if_neg (fun z => z h), am_B132_32, am_B132_37 (Or.inr rfl), am_b, if_pos h]
    · rw [if_pos h, am_B132_36, am_B132_37 (Or.inl rfl), am_b, if_neg h]
  intro k
  induction k with
  | zero =>
    intro n u h _
    have e : u = -1 := h
    rw [am_B132_7, if_pos e, fin, e, ra_ul]
  | succ k ih =>
    intro n u h hn
    obtain ⟨⟨a, b, c⟩, h2⟩ := h
    have hv := ra_lv hY a b c
    cases n with
    | zero => omega
    | succ n =>
      rw [am_B132_7, if_neg (by omega), am_B132_12, am_ul]
      by_cases q : u = w
      · rw [if_pos q, fin, if_pos (Or.inr q)]
      · rw [if_neg q, am_B132_17, ar_123 hk ⟨a, b⟩ (by omega), am_bd_v, (hq.2.2.2 u a hv.1 c).1, if_neg (by omega), at_gt (by omega)]
        simp only [Nat.reduceAdd]
        rw [am_B132_23]
        exact ih n _ h2 (by omega)
theorem ra_132 (hk : am_kd E (d, 0) = some (6, 138)) (hq : ra_q (M d 0) Y) (hY : av_Y Y) (h0 : 0 ≤ l) (h1 : l < 24) (h2 : Y 2 l ≠ -1) {u : Option am_V} : am_den 132 (0, [some (am_A (d, 0)), some (am_I l), some (am_I w), u], [], E, M) = some (.inl (some (am_I (am_b (am_ul (am_gt (Y 3) 24) w 24 (am_gt (Y 3) 24 l) = w)))), E, M) := by
  obtain ⟨k, hk2, hw⟩ := ra_wk hY h0 h1 h2
  have hv := ra_lv hY.1 h0 h1 h2
  rw [am_B132_0, ar_123 hk ⟨h0, h1⟩ (by omega), am_bd_v, (hq.2.2.2 l h0 hv.1 h2).1, at_gt (by omega)]
  simp only [Nat.reduceAdd]
  rw [am_B132_6]
  exact ra_132l hk hq hY.1 k 24 _ hw (by omega)
theorem ra_133 (hk : am_kd E (d, 0) = some (6, 138)) (hq : ra_q (M d 0) Y) (hY : av_b Y) (h0 : 0 ≤ l) (h1 : l < Y 0 8) : am_den 133 (0, [some (am_A (d, 0)), some (am_I l), some (am_I p)], [], E, M) = some (.inl (some (am_I (am_b (Y 2 l = p)))), E, M) := by
  have := hY.2.1
  rw [ar_133 hk ⟨h0, by omega⟩, (hq.2.2.1 l h0 h1).2]
theorem ra_127 (hk : am_kd E (d, 0) = some (6, 138)) (hq : ra_q (M d 0) Y) (hY : av_b Y) : am_den 127 (0, [some (am_A (d, 0)), some (am_I p)], [], E, M) = some (.inl (some (am_I (am_b (0 ≤ p ∧ p < Y 0 7)))), E, M) := by
  have := hY.1
  rw [ar_127 hk (by rw [hq.1.1]; omega), hq.1.1]
theorem ra_128 (hk : am_kd E (d, 0) = some (6, 138)) (hq : ra_q (M d 0) Y) (hY : av_b Y) : am_den 128 (0, [some (am_A (d, 0)), some (am_I l)], [], E, M) = some (.inl (some (am_I (am_b (am_gt (Y 2) 24 l ≠ -1)))), E, M) := by
  have h8 := hY.2.1
  rw [ar_128 hk (by rw [hq.1.2.1]; exact h8), hq.1.2.1]
  have e : ((0 ≤ l ∧ l < Y 0 8) ∧ M d 0 (18 + 5 * l + 1) ≠ -1) ↔ am_gt (Y 2) 24 l ≠ -1 := by
    by_cases h : 0 ≤ l ∧ l < Y 0 8
    · rw [at_gt (by omega), (hq.2.2.1 l h.1 h.2).2]
      exact ⟨fun z => z.2, fun z => ⟨h, z⟩⟩
    · refine ⟨fun z => absurd z.1 h, fun z => ?_⟩
      exfalso
      unfold am_gt at z
      by_cases h2 : 0 ≤ l ∧ l < ((24 : Nat) : Int)
      · rw [if_pos h2] at z
        have := ra_lv hY h2.1 (by omega) z
        omega
      · rw [if_neg h2] at z
        exact z rfl
  unfold am_b
  by_cases h : am_gt (Y 2) 24 l ≠ -1
  · rw [if_pos (e.mpr h), if_pos h]
  · rw [if_neg (fun z => h (e.mp z)), if_neg h]
theorem ra_125 (hk : am_kd E (d, 0) = some (6, 138)) (hq : ra_q (M d 0) Y) (hY : av_b Y) (h0 : 0 ≤ p) (h1 : p < Y 0 7) : am_den 125 (0, [some (am_A (d, 0)), some (am_I p)], [], E, M) = some (.inl (some (am_I (am_gt (Y 6) 4 p))), E, M) := by
  have := hY.1
  rw [ar_125 hk ⟨h0, by omega⟩, (hq.2.1 p h0 h1).1, at_gt (by omega)]
theorem ra_126 (hk : am_kd E (d, 0) = some (6, 138)) (hq : ra_q (M d 0) Y) (hY : av_b Y) (h0 : 0 ≤ p) (h1 : p < Y 0 7) : am_den 126 (0, [some (am_A (d, 0)), some (am_I p)], [], E, M) = some (.inl (some (am_I (am_b (am_gt (Y 7) 4 p = 1)))), E, M) := by
  have := hY.1
  rw [ar_126 hk ⟨h0, by omega⟩, (hq.2.1 p h0 h1).2, at_gt (by omega)]
end REF2
