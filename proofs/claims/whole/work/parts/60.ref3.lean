/-! ===== the reference's sums ===== -/
theorem ra_tail {g : Int → Int} {n : Nat} : ∀ k : Nat, (∀ x : Int, (n : Int) ≤ x → x < ((n + k : Nat) : Int) → g x = 0) → am_sm g (n + k) = am_sm g n := by
  intro k
  induction k with
  | zero => intro _; rfl
  | succ k ih =>
    intro h
    show am_sm g (n + k) + g ((n + k : Nat) : Int) = _
    rw [ih (fun x a b => h x a (by omega)), h ((n + k : Nat) : Int) (by omega) (by omega), Int.add_zero]
theorem ra_came {Y : Nat → Int → Int} {g : Int → Int} (h : av_b Y) (hg : ∀ x, Y 2 x = -1 → g x = 0) : am_sm g (Y 0 8).toNat = am_sm g 24 := by
  have h8 := h.2.1
  have e := ra_tail (g := g) (n := (Y 0 8).toNat) (24 - (Y 0 8).toNat) (fun x a b => hg x (by
    rcases h.2.2.2.1 x (by omega) (by omega) with w | w
    · exact w.1
    · omega))
  rw [show (Y 0 8).toNat + (24 - (Y 0 8).toNat) = 24 by omega] at e
  exact e.symm
section REF3
variable {E : am_E} {M : am_M} {d : Nat} {Y : Nat → Int → Int} {p q l m w v : Int}
theorem ra_134l (hk : am_kd E (d, 0) = some (6, 138)) (hq : ra_q (M d 0) Y) (hY : av_Y Y) (hp : p ≠ -1) : ∀ (m i : Nat), i + m = (Y 0 8).toNat → am_den 134 (4, [some (am_A (d, 0)), some (am_I p), some (am_I (am_sm (fun l => am_b (Y 2 l = p)) i)), some (am_I i)], [], E, M) = some (.inl (some (am_I (am_sm (fun l => am_b (Y 2 l = p)) (Y 0 8).toNat))), E, M) := by
  have h8 := hY.1.2.1
  intro m
  induction m with
  | zero =>
    intro i h
    have e : i = (Y 0 8).toNat := by omega
    rw [am_B134_4 hk (by omega), hq.1.2.1, if_pos (by omega), am_B134_34, e]
  | succ m ih =>
    intro i h
    have w1 : am_w ((i : Int) + 1) = i + 1 := am_wi (by omega) (by omega)
    have h2 := ih (i + 1) (by omega)
    simp only [am_sm, Int.natCast_add, Int.cast_ofNat_Int] at h2
    have hb : 0 ≤ am_sm (fun l => am_b (Y 2 l = p)) i ∧ am_sm (fun l => am_b (Y 2 l = p)) i ≤ i * 1 := am_sm_le (fun j a c => am_b_le)
    rw [am_B134_4 hk (by omega), hq.1.2.1, if_neg (by omega), am_B134_11, ra_133 hk hq hY.1 (by omega) (by omega), am_bd_v]
    simp only [Nat.reduceAdd]
    rw [am_B134_18]
    by_cases q1 : Y 2 i = p
    · rw [if_neg (by rw [am_b_0]; exact fun z => z q1), am_B134_21, am_B134_26, am_wi (by omega) (by omega), w1]
      rw [show am_b (Y 2 i = p) = 1 by rw [am_b_1]; exact q1] at h2
      exact h2
    · rw [if_pos (by rw [am_b_0]; exact q1), am_B134_25, am_B134_26, am_wi (by omega) (by omega), w1]
      rw [show am_b (Y 2 i = p) = 0 by rw [am_b_0]; exact q1] at h2
      exact h2
theorem ra_134 (hk : am_kd E (d, 0) = some (6, 138)) (hq : ra_q (M d 0) Y) (hY : av_Y Y) (hp : p ≠ -1) {u v : Option am_V} : am_den 134 (0, [some (am_A (d, 0)), some (am_I p), u, v], [], E, M) = some (.inl (some (am_I (am_sm (fun l => am_b (Y 2 l = p)) 24))), E, M) := by
  rw [am_B134_0]
  have h := ra_134l hk hq hY hp (Y 0 8).toNat 0 (Nat.zero_add _)
  rw [ra_came hY.1 (g := fun l => am_b (Y 2 l = p)) (fun x hx => by rw [am_b_0, hx]; exact fun z => hp z.symm)] at h
  exact h
theorem ra_135l (hk : am_kd E (d, 0) = some (6, 138)) (hq : ra_q (M d 0) Y) (hY : av_Y Y) (hp : p ≠ -1) : ∀ (m i : Nat), i + m = (Y 0 8).toNat → am_den 135 (4, [some (am_A (d, 0)), some (am_I p), some (am_I (am_sm (fun l => am_b (am_of Y p l)) i)), some (am_I i)], [], E, M) = some (.inl (some (am_I (am_sm (fun l => am_b (am_of Y p l)) (Y 0 8).toNat))), E, M) := by
  have h8 := hY.1.2.1
  intro m
  induction m with
  | zero =>
    intro i h
    have e : i = (Y 0 8).toNat := by omega
    rw [am_B135_4 hk (by omega), hq.1.2.1, if_pos (by omega), am_B135_42, e]
  | succ m ih =>
    intro i h
    have w1 : am_w ((i : Int) + 1) = i + 1 := am_wi (by omega) (by omega)
    have h2 := ih (i + 1) (by omega)
    simp only [am_sm, Int.natCast_add, Int.cast_ofNat_Int] at h2
    have hb : 0 ≤ am_sm (fun l => am_b (am_of Y p l)) i ∧ am_sm (fun l => am_b (am_of Y p l)) i ≤ i * 1 := am_sm_le (fun j a c => am_b_le)
    rw [am_B135_4 hk (by omega), hq.1.2.1, if_neg (by omega), am_B135_11, ra_133 hk hq hY.1 (by omega) (by omega), am_bd_v]
    simp only [Nat.reduceAdd]
    rw [am_B135_18]
    by_cases q1 : Y 2 i = p
    · rw [if_neg (by rw [am_b_0]; exact fun z => z q1), am_B135_21, ra_130 hk hq hY (by omega) (by omega) (by rw [q1]; exact hp), am_bd_v]
      simp only [Nat.reduceAdd]
      rw [am_B135_26]
      by_cases q2 : Y 3 i ≠ -1 ∧ am_ah Y i (Y 3 i)
      · rw [if_neg (by rw [am_b_0]; exact fun z => z q2), am_B135_29, am_B135_34, am_wi (by omega) (by omega), w1]
        rw [show am_b (am_of Y p i) = 1 by rw [am_b_1]; exact ⟨q1, q2⟩] at h2
        exact h2
      · rw [if_pos (by rw [am_b_0]; exact q2), am_B135_33, am_B135_34, am_wi (by omega) (by omega), w1]
        rw [show am_b (am_of Y p i) = 0 by rw [am_b_0]; exact fun z => q2 z.2] at h2
        exact h2
    · rw [if_pos (by rw [am_b_0]; exact q1), am_B135_33, am_B135_34, am_wi (by omega) (by omega), w1]
      rw [show am_b (am_of Y p i) = 0 by rw [am_b_0]; exact fun z => q1 z.1] at h2
      exact h2
theorem ra_135 (hk : am_kd E (d, 0) = some (6, 138)) (hq : ra_q (M d 0) Y) (hY : av_Y Y) (hp : p ≠ -1) {u v : Option am_V} : am_den 135 (0, [some (am_A (d, 0)), some (am_I p), u, v], [], E, M) = some (.inl (some (am_I (am_sm (fun l => am_b (am_of Y p l)) 24))), E, M) := by
  rw [am_B135_0]
  have h := ra_135l hk hq hY hp (Y 0 8).toNat 0 (Nat.zero_add _)
  rw [ra_came hY.1 (g := fun l => am_b (am_of Y p l)) (fun x hx => by rw [am_b_0]; exact fun z => hp (by rw [← z.1, hx]))] at h
  exact h
theorem ra_136l (hk : am_kd E (d, 0) = some (6, 138)) (hq : ra_q (M d 0) Y) (hY : av_Y Y) (hp : p ≠ -1) : ∀ (m i : Nat), i + m = (Y 0 8).toNat → am_den 136 (4, [some (am_A (d, 0)), some (am_I p), some (am_I (am_sm (fun l => if Y 2 l = p then Y 1 l else 0) i)), some (am_I i)], [], E, M) = some (.inl (some (am_I (am_sm (fun l => if Y 2 l = p then Y 1 l else 0) (Y 0 8).toNat))), E, M) := by
  have h8 := hY.1.2.1
  intro m
  induction m with
  | zero =>
    intro i h
    have e : i = (Y 0 8).toNat := by omega
    rw [am_B136_4 hk (by omega), hq.1.2.1, if_pos (by omega), am_B136_39, e]
  | succ m ih =>
    intro i h
    have w1 : am_w ((i : Int) + 1) = i + 1 := am_wi (by omega) (by omega)
    have h2 := ih (i + 1) (by omega)
    simp only [am_sm, Int.natCast_add, Int.cast_ofNat_Int] at h2
    have hb : 0 ≤ am_sm (fun l => if Y 2 l = p then Y 1 l else 0) i ∧ am_sm (fun l => if Y 2 l = p then Y 1 l else 0) i ≤ i * 99 := am_sm_le (fun j a c => by have := hY.1.2.2.1 j a (by omega); show 0 ≤ (if Y 2 j = p then Y 1 j else 0) ∧ (if Y 2 j = p then Y 1 j else 0) ≤ 99; split <;> omega)
    rw [am_B136_4 hk (by omega), hq.1.2.1, if_neg (by omega), am_B136_11, ra_133 hk hq hY.1 (by omega) (by omega), am_bd_v]
    simp only [Nat.reduceAdd]
    rw [am_B136_18]
    have hdd := hY.1.2.2.1 i (by omega) (by omega)
    by_cases q1 : Y 2 i = p
    · rw [if_neg (by rw [am_b_0]; exact fun z => z q1), am_B136_21, ar_123 hk (by omega) (by omega), am_bd_v, (hq.2.2.1 i (by omega) (by omega)).1]
      simp only [Nat.reduceAdd]
      rw [am_B136_27, am_B136_31, am_wi (by omega) (by omega), w1]
      rw [if_pos q1] at h2
      exact h2
    · rw [if_pos (by rw [am_b_0]; exact q1), am_B136_30, am_B136_31, am_wi (by omega) (by omega), w1]
      rw [if_neg q1] at h2
      exact h2
theorem ra_136 (hk : am_kd E (d, 0) = some (6, 138)) (hq : ra_q (M d 0) Y) (hY : av_Y Y) (hp : p ≠ -1) {u v : Option am_V} : am_den 136 (0, [some (am_A (d, 0)), some (am_I p), u, v], [], E, M) = some (.inl (some (am_I (am_sm (fun l => if Y 2 l = p then Y 1 l else 0) 24))), E, M) := by
  rw [am_B136_0]
  have h := ra_136l hk hq hY hp (Y 0 8).toNat 0 (Nat.zero_add _)
  rw [ra_came hY.1 (g := fun l => if Y 2 l = p then Y 1 l else 0) (fun x hx => by rw [if_neg (by rw [hx]; exact fun z => hp z.symm)])] at h
  exact h
theorem ra_137l (hk : am_kd E (d, 0) = some (6, 138)) (hq : ra_q (M d 0) Y) (hY : av_Y Y) : ∀ (m i : Nat), i + m = (Y 0 7).toNat → am_den 137 (4, [some (am_A (d, 0)), some (am_I (am_sm (am_oa Y) i)), some (am_I i)], [], E, M) = some (.inl (some (am_I (am_sm (am_oa Y) (Y 0 7).toNat))), E, M) := by
  have h7 := hY.1.1
  intro m
  induction m with
  | zero =>
    intro i h
    have e : i = (Y 0 7).toNat := by omega
    rw [am_B137_4 hk (by omega), hq.1.1, if_pos (by omega), am_B137_25, e]
  | succ m ih =>
    intro i h
    have w1 : am_w ((i : Int) + 1) = i + 1 := am_wi (by omega) (by omega)
    have h2 := ih (i + 1) (by omega)
    simp only [am_sm, Int.natCast_add, Int.cast_ofNat_Int] at h2
    have hb : 0 ≤ am_sm (am_oa Y) i ∧ am_sm (am_oa Y) i ≤ i * 24 := am_sm_le (fun j a c => am_oa_le)
    have hc : 0 ≤ (am_oa Y) i ∧ (am_oa Y) i ≤ 24 := am_oa_le
    rw [am_B137_4 hk (by omega), hq.1.1, if_neg (by omega), am_B137_11, ra_135 hk hq hY (by omega), am_bd_v]
    simp only [Nat.reduceAdd]
    rw [am_B137_17]
    have w2 : am_w (am_sm (am_oa Y) i + (am_oa Y) i) = am_sm (am_oa Y) i + (am_oa Y) i := am_wi (by omega) (by omega)
    have w3 := w2
    rw [w1]
    exact (congrArg (fun z => am_den 137 (4, [some (am_A (d, 0)), some (am_I z), some (am_I ((i : Int) + 1))], [], E, M)) w2).trans h2
theorem ra_137 (hk : am_kd E (d, 0) = some (6, 138)) (hq : ra_q (M d 0) Y) (hY : av_Y Y) {u v : Option am_V} : am_den 137 (0, [some (am_A (d, 0)), u, v], [], E, M) = some (.inl (some (am_I (am_sm (am_oa Y) (Y 0 7).toNat))), E, M) := by
  rw [am_B137_0]
  exact ra_137l hk hq hY (Y 0 7).toNat 0 (Nat.zero_add _)
theorem ra_138l (hk : am_kd E (d, 0) = some (6, 138)) (hq : ra_q (M d 0) Y) (hY : av_Y Y) : ∀ (m i : Nat), i + m = (Y 0 7).toNat → am_den 138 (4, [some (am_A (d, 0)), some (am_I (am_sm (am_da Y) i)), some (am_I i)], [], E, M) = some (.inl (some (am_I (am_sm (am_da Y) (Y 0 7).toNat))), E, M) := by
  have h7 := hY.1.1
  intro m
  induction m with
  | zero =>
    intro i h
    have e : i = (Y 0 7).toNat := by omega
    rw [am_B138_4 hk (by omega), hq.1.1, if_pos (by omega), am_B138_25, e]
  | succ m ih =>
    intro i h
    have w1 : am_w ((i : Int) + 1) = i + 1 := am_wi (by omega) (by omega)
    have h2 := ih (i + 1) (by omega)
    simp only [am_sm, Int.natCast_add, Int.cast_ofNat_Int] at h2
    have hb : 0 ≤ am_sm (am_da Y) i ∧ am_sm (am_da Y) i ≤ i * 2376 := am_sm_le (fun j a c => am_da_le hY.1.2.2.1)
    have hc : 0 ≤ (am_da Y) i ∧ (am_da Y) i ≤ 2376 := am_da_le hY.1.2.2.1
    rw [am_B138_4 hk (by omega), hq.1.1, if_neg (by omega), am_B138_11, ra_136 hk hq hY (by omega), am_bd_v]
    simp only [Nat.reduceAdd]
    rw [am_B138_17]
    have w2 : am_w (am_sm (am_da Y) i + (am_da Y) i) = am_sm (am_da Y) i + (am_da Y) i := am_wi (by omega) (by omega)
    have w3 := w2
    rw [w1]
    exact (congrArg (fun z => am_den 138 (4, [some (am_A (d, 0)), some (am_I z), some (am_I ((i : Int) + 1))], [], E, M)) w2).trans h2
theorem ra_138 (hk : am_kd E (d, 0) = some (6, 138)) (hq : ra_q (M d 0) Y) (hY : av_Y Y) {u v : Option am_V} : am_den 138 (0, [some (am_A (d, 0)), u, v], [], E, M) = some (.inl (some (am_I (am_sm (am_da Y) (Y 0 7).toNat))), E, M) := by
  rw [am_B138_0]
  exact ra_138l hk hq hY (Y 0 7).toNat 0 (Nat.zero_add _)
theorem ra_139l (hk : am_kd E (d, 0) = some (6, 138)) (hq : ra_q (M d 0) Y) (hY : av_Y Y) : ∀ (m i : Nat), i + m = (Y 0 7).toNat → am_den 139 (4, [some (am_A (d, 0)), some (am_I (am_sm (ac_in Y) i)), some (am_I i)], [], E, M) = some (.inl (some (am_I (am_sm (ac_in Y) (Y 0 7).toNat))), E, M) := by
  have h7 := hY.1.1
  intro m
  induction m with
  | zero =>
    intro i h
    have e : i = (Y 0 7).toNat := by omega
    rw [am_B139_4 hk (by omega), hq.1.1, if_pos (by omega), am_B139_25, e]
  | succ m ih =>
    intro i h
    have w1 : am_w ((i : Int) + 1) = i + 1 := am_wi (by omega) (by omega)
    have h2 := ih (i + 1) (by omega)
    simp only [am_sm, Int.natCast_add, Int.cast_ofNat_Int] at h2
    have hb : 0 ≤ am_sm (ac_in Y) i ∧ am_sm (ac_in Y) i ≤ i * 24 := am_sm_le (fun j a c => ac_in_le)
    have hc : 0 ≤ (ac_in Y) i ∧ (ac_in Y) i ≤ 24 := ac_in_le
    rw [am_B139_4 hk (by omega), hq.1.1, if_neg (by omega), am_B139_11, ra_134 hk hq hY (by omega), am_bd_v]
    simp only [Nat.reduceAdd]
    rw [am_B139_17]
    have w2 : am_w (am_sm (ac_in Y) i + (ac_in Y) i) = am_sm (ac_in Y) i + (ac_in Y) i := am_wi (by omega) (by omega)
    have w3 := w2
    rw [w1]
    exact (congrArg (fun z => am_den 139 (4, [some (am_A (d, 0)), some (am_I z), some (am_I ((i : Int) + 1))], [], E, M)) w2).trans h2
theorem ra_139 (hk : am_kd E (d, 0) = some (6, 138)) (hq : ra_q (M d 0) Y) (hY : av_Y Y) {u v : Option am_V} : am_den 139 (0, [some (am_A (d, 0)), u, v], [], E, M) = some (.inl (some (am_I (am_sm (ac_in Y) (Y 0 7).toNat))), E, M) := by
  rw [am_B139_0]
  exact ra_139l hk hq hY (Y 0 7).toNat 0 (Nat.zero_add _)
theorem ra_swap {F : Int → Int → Int} {n : Nat} : ∀ m : Nat, am_sm (fun p => am_sm (F p) n) m = am_sm (fun x => am_sm (fun p => F p x) m) n := by
  have z : ∀ n : Nat, am_sm (fun _ => 0) n = 0 := by
    intro n
    induction n with
    | zero => rfl
    | succ n ih => simp only [am_sm, ih]; rfl
  have ad : ∀ (f g : Int → Int) (n : Nat), am_sm (fun x => f x + g x) n = am_sm f n + am_sm g n := by
    intro f g n
    induction n with
    | zero => rfl
    | succ n ih => simp only [am_sm, ih]; omega
  intro m
  induction m with
  | zero => simp only [am_sm]; exact (z n).symm
  | succ m ih =>
    simp only [am_sm]
    rw [ih, ad]
theorem ra_pick {v : Int} : ∀ m : Nat, am_sm (fun p => am_b (v = p)) m = am_b (0 ≤ v ∧ v < m) := by
  intro m
  induction m with
  | zero =>
    simp only [am_sm]
    rw [am_b, if_neg (by omega)]
  | succ m ih =>
    simp only [am_sm, ih]
    unfold am_b
    repeat' split
    all_goals first | rfl | (exfalso; omega)
theorem ra_all (hY : av_Y Y) : am_sm (ac_in Y) (Y 0 7).toNat = Y 0 8 - Y 0 9 - Y 0 10 := by
  have e : am_sm (ac_in Y) (Y 0 7).toNat = av_lv Y := by
    have h := ra_swap (F := fun p x => am_b (Y 2 x = p)) (n := 24) (Y 0 7).toNat
    refine h.trans (av_sm_cg 24 (fun x a b => ?_))
    show am_sm (fun p => am_b (Y 2 x = p)) (Y 0 7).toNat = am_b (Y 2 x ≠ -1)
    rw [ra_pick]
    have h7 := hY.1.1
    unfold am_b
    rcases hY.1.2.2.2.1 x a (by omega) with w | w
    · have := w.1
      repeat' split
      all_goals first | rfl | (exfalso; omega)
    · repeat' split
      all_goals first | rfl | (exfalso; omega)
  have := hY.2.1.1
  rw [e, this]
  omega
theorem ra_lia (hY : av_Y Y) : am_w (am_w (Y 0 8 - Y 0 9) - Y 0 10) = am_sm (ac_in Y) (Y 0 7).toNat := by
  obtain ⟨n1, n2, n3⟩ := hY.2.1
  have h2 := av_lv_le (Y := Y)
  have h3 := hY.1.2.1
  rw [ra_all hY, am_wi (z := Y 0 8 - Y 0 9) (by omega) (by omega), am_wi (by omega) (by omega)]
theorem ra_146 (hk : am_kd E (d, 0) = some (6, 138)) (hq : ra_q (M d 0) Y) (hY : av_Y Y) (h0 : 0 ≤ p) (h1 : p < Y 0 7) : am_den 146 (0, [some (am_A (d, 0)), some (am_I p)], [], E, M) = some (.inl (some (am_I (ay_why Y p))), E, M) := by
  rw [am_B146_0, ra_125 hk hq hY.1 h0 h1, am_bd_v]
  simp only [Nat.reduceAdd]
  rw [am_B146_5]
  unfold ay_why
  by_cases q1 : am_gt (Y 6) 4 p = -1
  · rw [if_neg (fun z => z q1), am_B146_9, am_B146_26, if_pos q1]
  · rw [if_pos q1, am_B146_13, ra_135 hk hq hY (by omega), am_bd_v, if_neg q1]
    simp only [Nat.reduceAdd]
    rw [am_B146_18]
    by_cases q2 : 0 < am_oa Y p
    · have q3 : ¬ am_sm (fun l => am_b (am_of Y p l)) 24 ≤ 0 := Int.not_le.mpr q2
      rw [if_neg q3, am_B146_21, am_B146_26, if_pos q2]
    · have q3 : am_sm (fun l => am_b (am_of Y p l)) 24 ≤ 0 := Int.not_lt.mp q2
      rw [if_pos q3, am_B146_25, am_B146_26, if_neg q2]
theorem ra_168l (hk : am_kd E (d, 0) = some (6, 138)) (hq : ra_q (M d 0) Y) (hY : av_Y Y) (hp : p ≠ -1) : ∀ (m i : Nat) (u : Option am_V), i + m = (Y 0 8).toNat → am_den 168 (4, [some (am_A (d, 0)), some (am_I p), some (am_I (am_mx (am_dl Y p) i)), some (am_I i), u], [], E, M) = some (.inl (some (am_I (am_mx (am_dl Y p) (Y 0 8).toNat))), E, M) := by
  have h8 := hY.1.2.1
  intro m
  induction m with
  | zero =>
    intro i u h
    have e : i = (Y 0 8).toNat := by omega
    rw [am_B168_4 hk (by omega), hq.1.2.1, if_pos (by omega), am_B168_50, e]
  | succ m ih =>
    intro i u h
    have w1 : am_w ((i : Int) + 1) = i + 1 := am_wi (by omega) (by omega)
    have h2 : ∀ u, _ := fun u => ih (i + 1) u (by omega)
    have em : am_mx (am_dl Y p) (i + 1) = if am_mx (am_dl Y p) i < am_dl Y p i then am_dl Y p i else am_mx (am_dl Y p) i := rfl
    simp only [em, show ((i + 1 : Nat) : Int) = (i : Int) + 1 by omega] at h2
    have fin : am_den 168 (29, [some (am_A (d, 0)), some (am_I p), some (am_I (am_mx (am_dl Y p) i)), some (am_I i), u], [am_I (am_dl Y p i)], E, M) = some (.inl (some (am_I (am_mx (am_dl Y p) (Y 0 8).toNat))), E, M) := by
      have h3 := h2 (some (am_I (am_dl Y p i)))
      rw [am_B168_29]
      by_cases q : am_mx (am_dl Y p) i < am_dl Y p i
      · rw [if_neg (by omega), am_B168_37, am_B168_43, w1]
        rw [if_pos q] at h3
        exact h3
      · rw [if_pos (by omega), am_B168_42, am_B168_43, w1]
        rw [if_neg q] at h3
        exact h3
    rw [am_B168_4 hk (by omega), hq.1.2.1, if_neg (by omega), am_B168_11, ra_133 hk hq hY.1 (by omega) (by omega), am_bd_v]
    simp only [Nat.reduceAdd]
    rw [am_B168_17]
    by_cases q1 : Y 2 i = p
    · have e : am_dl Y p i = ay_dep Y i := if_pos q1
      rw [if_neg (by rw [am_b_0]; exact fun z => z q1), am_B168_20, ra_131 hk hq hY (by omega) (by omega) (by rw [q1]; exact hp), am_bd_v]
      simp only [Nat.reduceAdd]
      rw [am_B168_25, ← e]
      exact fin
    · have e : am_dl Y p i = -1 := if_neg q1
      rw [if_pos (by rw [am_b_0]; exact q1), am_B168_28]
      rw [e] at fin
      exact fin
theorem ra_mxt {g : Int → Int} {n : Nat} : ∀ k : Nat, (∀ x : Int, (n : Int) ≤ x → x < ((n + k : Nat) : Int) → g x = -1) → am_mx g (n + k) = am_mx g n := by
  intro k
  induction k with
  | zero => intro _; rfl
  | succ k ih =>
    intro h
    show (if am_mx g (n + k) < g ((n + k : Nat) : Int) then g ((n + k : Nat) : Int) else am_mx g (n + k)) = _
    have := am_mx_ge (f := g) (n := n + k)
    rw [h ((n + k : Nat) : Int) (by omega) (by omega), if_neg (by omega), ih (fun x a b => h x a (by omega))]
theorem ra_168 (hk : am_kd E (d, 0) = some (6, 138)) (hq : ra_q (M d 0) Y) (hY : av_Y Y) (hp : p ≠ -1) {u v x : Option am_V} : am_den 168 (0, [some (am_A (d, 0)), some (am_I p), u, v, x], [], E, M) = some (.inl (some (am_I (am_mx (am_dl Y p) 24))), E, M) := by
  have h8 := hY.1.2.1
  rw [am_B168_0]
  have h := ra_168l hk hq hY hp (Y 0 8).toNat 0 x (Nat.zero_add _)
  have e := ra_mxt (g := am_dl Y p) (n := (Y 0 8).toNat) (24 - (Y 0 8).toNat) (fun x a b => by
    have hx : Y 2 x = -1 := by
      rcases hY.1.2.2.2.1 x (by omega) (by omega) with w | w
      · exact w.1
      · omega
    exact if_neg (by rw [hx]; exact fun z => hp z.symm))
  rw [show (Y 0 8).toNat + (24 - (Y 0 8).toNat) = 24 by omega] at e
  rw [← e] at h
  exact h
theorem ra_171i (hE : am_Wr E) (hq : ra_q (M 37 0) Y) (hY : av_Y Y) (hp : p ≠ -1) (hl : 0 ≤ l ∧ l < Y 0 8) : ∀ (m i : Nat), i + m = (Y 0 8).toNat → am_den 171 (18, [some (am_A (35, 0)), some (am_I p), some (am_I w), some (am_I l), some (am_I (am_sm (fun x => am_b (am_ba Y l p x)) i)), some (am_I i)], [], E, M) = am_den 171 (71, [some (am_A (35, 0)), some (am_I p), some (am_I w), some (am_I l), some (am_I (am_sm (fun x => am_b (am_ba Y l p x)) (Y 0 8).toNat)), some (am_I (Y 0 8))], [], E, M) := by
  have hk := hE.2.2.2.2.2.2.2.1
  have h8 := hY.1.2.1
  intro m
  induction m with
  | zero =>
    intro i h
    have e : i = (Y 0 8).toNat := by omega
    have e2 : (i : Int) = Y 0 8 := by omega
    rw [am_B171_18 hE, hq.1.2.1, if_pos (by omega), e2, e]
  | succ m ih =>
    intro i h
    have w1 : am_w ((i : Int) + 1) = i + 1 := am_wi (by omega) (by omega)
    have h2 := ih (i + 1) (by omega)
    simp only [am_sm, Int.natCast_add, Int.cast_ofNat_Int] at h2
    have hb : 0 ≤ am_sm (fun x => am_b (am_ba Y l p x)) i ∧ am_sm (fun x => am_b (am_ba Y l p x)) i ≤ i * 1 := am_sm_le (fun j a c => am_b_le)
    have d1 := hq.2.2.1 i (by omega) (by omega)
    have d2 := hq.2.2.1 l hl.1 hl.2
    have b1 := hY.1.2.2.1 i (by omega) (by omega)
    have b2 := hY.1.2.2.1 l hl.1 (by omega)
    rw [am_B171_18 hE, hq.1.2.1, if_neg (by omega), am_B171_29 hE, ra_133 hk hq hY.1 (by omega) (by omega), am_bd_v]
    simp only [Nat.reduceAdd]
    rw [am_B171_41]
    by_cases q1 : Y 2 i = p
    · rw [if_neg (by rw [am_b_0]; exact fun z => z q1), am_B171_44 hE, ar_129 hk (by omega) (by omega) (by rw [d1.1]; exact b1) (by rw [d2.1]; exact b2), am_bd_v]
      simp only [Nat.reduceAdd]
      rw [am_B171_54]
      have e : ar_ah (M 37 0) i l = am_ah Y i l := by
        unfold ar_ah am_ah
        rw [d1.1, d2.1]
        apply propext
        exact ⟨fun z => ⟨⟨by omega, by omega, hl.1, by omega⟩, z⟩, fun z => z.2⟩
      by_cases q2 : ar_ah (M 37 0) i l
      · rw [if_neg (by rw [am_b_0]; exact fun z => z q2), am_B171_57, am_B171_62, am_wi (by omega) (by omega), w1]
        rw [show am_b (am_ba Y l p i) = 1 by rw [am_b_1]; exact ⟨q1, by rw [← e]; exact q2⟩] at h2
        exact h2
      · rw [if_pos (by rw [am_b_0]; exact q2), am_B171_61, am_B171_62, am_wi (by omega) (by omega), w1]
        rw [show am_b (am_ba Y l p i) = 0 by rw [am_b_0]; exact fun z => q2 (by rw [e]; exact z.2)] at h2
        exact h2
    · rw [if_pos (by rw [am_b_0]; exact q1), am_B171_61, am_B171_62, am_wi (by omega) (by omega), w1]
      rw [show am_b (am_ba Y l p i) = 0 by rw [am_b_0]; exact fun z => q1 z.1] at h2
      exact h2
theorem ra_171l (hE : am_Wr E) (hq : ra_q (M 37 0) Y) (hY : av_Y Y) (hp : p ≠ -1) : ∀ (m i : Nat) (u v : Option am_V), i + m = (Y 0 8).toNat → am_den 171 (2, [some (am_A (35, 0)), some (am_I p), some (am_I w), some (am_I i), u, v], [], E, M) = some (.inl (some (am_I (am_fd (am_rp Y p w) m i))), E, M) := by
  have hk := hE.2.2.2.2.2.2.2.1
  have h8 := hY.1.2.1
  intro m
  induction m with
  | zero =>
    intro i u v h
    rw [am_B171_2 hE, hq.1.2.1, if_pos (by omega), am_B171_97]
    rfl
  | succ m ih =>
    intro i u v h
    have w1 : am_w ((i : Int) + 1) = ((i + 1 : Nat) : Int) := by rw [am_wi (by omega) (by omega)]; omega
    have eb := ra_came hY.1 (g := fun x => am_b (am_ba Y i p x)) (fun x hx => by rw [am_b_0]; exact fun z => hp (by rw [← z.1, hx]))
    rw [am_B171_2 hE, hq.1.2.1, if_neg (by omega), am_B171_12]
    have h1 := ra_171i (w := w) (l := i) hE hq hY hp (by omega) (Y 0 8).toNat 0 (Nat.zero_add _)
    refine h1.trans ?_
    rw [eb, am_B171_71 hE, ra_133 hk hq hY.1 (by omega) (by omega), am_bd_v, am_fd]
    simp only [Nat.reduceAdd]
    rw [am_B171_80]
    by_cases q1 : Y 2 i = p
    · rw [if_neg (by rw [am_b_0]; exact fun z => z q1), am_B171_83]
      by_cases q2 : am_sm (fun x => am_b (am_ba Y i p x)) 24 = w
      · rw [if_neg (fun z => z q2), am_B171_89, if_pos ⟨q1, q2⟩]
      · rw [if_pos q2, am_B171_91, w1, ih (i + 1) _ _ (by omega), if_neg (fun z => q2 z.2), show ((i + 1 : Nat) : Int) = (i : Int) + 1 by omega]
    · rw [if_pos (by rw [am_b_0]; exact q1), am_B171_91, w1, ih (i + 1) _ _ (by omega), if_neg (fun z => q1 z.1), show ((i + 1 : Nat) : Int) = (i : Int) + 1 by omega]
theorem ra_fd0 {P : Int → Prop} [DecidablePred P] : ∀ (k : Nat) (i : Int), (∀ x, i ≤ x → x < i + k → ¬ P x) → am_fd P k i = -1 := by
  intro k
  induction k with
  | zero => intro i _; rfl
  | succ k ih =>
    intro i h
    rw [am_fd, if_neg (h i (by omega) (by omega))]
    exact ih (i + 1) (fun x a b => h x (by omega) (by omega))
theorem ra_fdt {P : Int → Prop} [DecidablePred P] : ∀ (m k : Nat) (i : Int), (∀ x, i + m ≤ x → x < i + m + k → ¬ P x) → am_fd P (m + k) i = am_fd P m i := by
  intro m
  induction m with
  | zero =>
    intro k i h
    rw [Nat.zero_add]
    exact ra_fd0 k i (fun x a b => h x (by omega) (by omega))
  | succ m ih =>
    intro k i h
    rw [show m + 1 + k = (m + k) + 1 by omega, am_fd, am_fd, ih k (i + 1) (fun x a b => h x (by omega) (by omega))]
theorem ra_171 (hE : am_Wr E) (hq : ra_q (M 37 0) Y) (hY : av_Y Y) (hp : p ≠ -1) {u1 u2 u3 : Option am_V} : am_den 171 (0, [some (am_A (35, 0)), some (am_I p), some (am_I w), u1, u2, u3], [], E, M) = some (.inl (some (am_I (am_fd (am_rp Y p w) 24 0))), E, M) := by
  have h8 := hY.1.2.1
  rw [am_B171_0]
  have h := ra_171l (w := w) hE hq hY hp (Y 0 8).toNat 0 u2 u3 (Nat.zero_add _)
  have e : am_fd (am_rp Y p w) 24 0 = am_fd (am_rp Y p w) (Y 0 8).toNat 0 := by
    have h3 := ra_fdt (P := am_rp Y p w) (Y 0 8).toNat (24 - (Y 0 8).toNat) 0 (fun x a b z => by
      rcases hY.1.2.2.2.1 x (by omega) (by omega) with v | v
      · exact hp (by rw [← z.1, v.1])
      · omega)
    rw [show (Y 0 8).toNat + (24 - (Y 0 8).toNat) = 24 by omega] at h3
    exact h3
  rw [e]
  exact h
end REF3
