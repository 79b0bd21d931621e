/-! ===== trees: sizes, parents, what is left without a log ===== -/
def at_su (f : Int → Nat) : Nat → Nat
  | 0 => 0
  | n + 1 => at_su f n + f n
theorem at_su_le {f : Int → Nat} : ∀ (n : Nat), (∀ x : Int, f x ≤ 1) → at_su f n ≤ n := by
  intro n
  induction n with
  | zero => intro _; simp [at_su]
  | succ n ih =>
    intro h
    have := ih h
    have := h n
    simp only [at_su]
    omega
theorem at_su_add {f g : Int → Nat} : ∀ (n : Nat), at_su (fun x => f x + g x) n = at_su f n + at_su g n := by
  intro n
  induction n with
  | zero => rfl
  | succ n ih => simp only [at_su, ih]; omega
theorem at_su_one {m : Nat} : ∀ (n : Nat), at_su (fun x => if x = (m : Int) then 1 else 0) n = if m < n then 1 else 0 := by
  intro n
  induction n with
  | zero => simp [at_su]
  | succ n ih =>
    simp only [at_su, ih]
    by_cases h : m < n
    · rw [if_pos h, if_neg (by omega), if_pos (by omega)]
    · by_cases h2 : m = n
      · rw [if_neg h, if_pos (by omega), if_pos (by omega)]
      · rw [if_neg h, if_neg (by omega), if_neg (by omega)]
theorem at_su_ct : ∀ (t : at_T), (∀ x, 0 < at_ct t x → x < 24) → at_su (at_ct t) 24 = at_sz t := by
  intro t
  induction t with
  | leaf v =>
    intro _
    have : ∀ n, at_su (at_ct (.leaf v)) n = 0 := by
      intro n
      induction n with
      | zero => rfl
      | succ n ih => simp only [at_su, ih]; rfl
    rw [this]
    rfl
  | branch m l r ihl ihr =>
    intro h
    have e : at_ct (.branch m l r) = fun x => (fun x => (if x = (m : Int) then 1 else 0) + at_ct l x) x + at_ct r x := by
      funext x
      rfl
    have hm := h m (by simp only [at_ct, if_true]; omega)
    rw [e, at_su_add, at_su_add, at_su_one, ihl (fun x hx => h x (by simp only [at_ct]; omega)), ihr (fun x hx => h x (by simp only [at_ct]; omega)), if_pos (by omega), at_sz]
theorem at_sz_le {s w : at_T} (h : ∀ x, at_ct s x + at_ct w x ≤ 1) (hs : ∀ x, 0 < at_ct s x → x < 24) (hw : ∀ x, 0 < at_ct w x → x < 24) : at_sz s + at_sz w ≤ 24 := by
  rw [← at_su_ct s hs, ← at_su_ct w hw, ← at_su_add]
  exact at_su_le 24 h
theorem at_is_top {Y : Nat → Int → Int} {t : at_T} {u a : Int} (h : at_is Y t u a) (ha : a ≠ -1) : Y 3 a = u ∧ 0 < at_ct t a := by
  cases t with
  | leaf v => exact absurd h ha
  | branch n l r =>
    simp only [at_is] at h
    rw [h.1.1]
    exact ⟨h.1.2.2, by simp only [at_ct, if_true]; omega⟩
theorem at_par {Y : Nat → Int → Int} {x y : Int} (hx : x ≠ -1) (hy : Y 4 y = x ∨ Y 5 y = x) : ∀ (t : at_T) (u a : Int), at_is Y t u a → 0 < at_ct t y → Y 3 x = y ∧ 0 < at_ct t x := by
  intro t
  induction t with
  | leaf v => intro u a _ h; simp [at_ct] at h
  | branch n l r ihl ihr =>
    intro u a h hc
    simp only [at_is] at h
    simp only [at_ct] at hc ⊢
    by_cases q : y = (n : Int)
    · subst q
      rcases hy with hy | hy
      · have := at_is_top h.2.1 (by rw [hy]; exact hx)
        rw [hy] at this
        exact ⟨this.1, by omega⟩
      · have := at_is_top h.2.2 (by rw [hy]; exact hx)
        rw [hy] at this
        exact ⟨this.1, by omega⟩
    · rw [if_neg q] at hc
      by_cases q2 : 0 < at_ct l y
      · have := ihl _ _ h.2.1 q2
        exact ⟨this.1, by omega⟩
      · have := ihr _ _ h.2.2 (by omega)
        exact ⟨this.1, by omega⟩
theorem at_chi {Y : Nat → Int → Int} {x : Int} : ∀ (t : at_T) (u a : Int), at_is Y t u a → 0 < at_ct t x → (x = a ∧ Y 3 x = u) ∨ (0 < at_ct t (Y 3 x) ∧ (Y 4 (Y 3 x) = x ∨ Y 5 (Y 3 x) = x)) := by
  intro t
  induction t with
  | leaf v => intro u a _ h; simp [at_ct] at h
  | branch n l r ihl ihr =>
    intro u a h hc
    simp only [at_is] at h
    simp only [at_ct] at hc ⊢
    by_cases q : x = (n : Int)
    · exact Or.inl ⟨q.trans h.1.1.symm, by rw [q]; exact h.1.2.2⟩
    · rw [if_neg q] at hc
      refine Or.inr ?_
      by_cases q2 : 0 < at_ct l x
      · rcases ihl _ _ h.2.1 q2 with h1 | h1
        · rw [h1.2, if_pos rfl]
          exact ⟨by omega, Or.inl h1.1.symm⟩
        · exact ⟨by omega, h1.2⟩
      · rcases ihr _ _ h.2.2 (by omega) with h1 | h1
        · rw [h1.2, if_pos rfl]
          exact ⟨by omega, Or.inr h1.1.symm⟩
        · exact ⟨by omega, h1.2⟩
theorem at_lr {Y : Nat → Int → Int} {x y : Int} (h4 : Y 4 y = x) (h5 : Y 5 y = x) : ∀ (t : at_T) (u a : Int), at_is Y t u a → (∀ z, at_ct t z ≤ 1) → 0 < at_ct t y → x = -1 := by
  intro t
  induction t with
  | leaf v => intro u a _ _ h; simp [at_ct] at h
  | branch n l r ihl ihr =>
    intro u a h hn hc
    simp only [at_is] at h
    simp only [at_ct] at hc hn
    by_cases q : y = (n : Int)
    · subst q
      refine Decidable.byContradiction (fun hx => ?_)
      have e1 := at_is_top h.2.1 (by rw [h4]; exact hx)
      have e2 := at_is_top h.2.2 (by rw [h5]; exact hx)
      rw [h4] at e1
      rw [h5] at e2
      have := hn x
      omega
    · rw [if_neg q] at hc
      by_cases q2 : 0 < at_ct l y
      · exact ihl _ _ h.2.1 (fun z => by have := hn z; omega) q2
      · exact ihr _ _ h.2.2 (fun z => by have := hn z; omega) (by omega)
def at_rm (D : Int → Int) (x : Int) : at_T → at_T
  | .leaf v => .leaf v
  | .branch n l r => if x = (n : Int) then at_jn D 24 l r else .branch n (at_rm D x l) (at_rm D x r)
def at_fi (x : Int) : at_T → at_T × at_T
  | .leaf v => (.leaf v, .leaf v)
  | .branch n l r => if x = (n : Int) then (l, r) else if 0 < at_ct l x then at_fi x l else at_fi x r
theorem at_rm_no {D : Int → Int} {x : Int} : ∀ (t : at_T), at_ct t x = 0 → at_rm D x t = t := by
  intro t
  induction t with
  | leaf v => intro _; rfl
  | branch n l r ihl ihr =>
    intro h
    simp only [at_ct] at h
    have q : x ≠ (n : Int) := by
      intro q
      rw [if_pos q] at h
      omega
    rw [at_rm, if_neg q, ihl (by omega), ihr (by omega)]
theorem at_rm_ct {D : Int → Int} {x y : Int} : ∀ (t : at_T), (∀ z, at_ct t z ≤ 1) → at_sz t ≤ 24 → at_ct (at_rm D x t) y = if y = x then 0 else at_ct t y := by
  intro t
  induction t with
  | leaf v => intro _ _; simp [at_rm, at_ct]
  | branch n l r ihl ihr =>
    intro hn hs
    have hn1 := hn
    simp only [at_ct] at hn
    simp only [at_sz] at hs
    rw [at_rm]
    by_cases q : x = (n : Int)
    · rw [if_pos q, (at_jn_ct 24 l r (by omega)).1]
      have h0 := hn n
      rw [if_pos rfl] at h0
      by_cases q2 : y = x
      · rw [if_pos q2, q2, q]
        omega
      · rw [if_neg q2, at_ct, if_neg (by omega)]
        omega
    · rw [if_neg q, at_ct, ihl (fun z => by have := hn z; omega) (by omega), ihr (fun z => by have := hn z; omega) (by omega)]
      by_cases q2 : y = x
      · rw [if_pos q2, if_pos q2, if_pos q2, if_neg (by omega)]
      · rw [if_neg q2, if_neg q2, if_neg q2, at_ct]
theorem at_fi_is {Y : Nat → Int → Int} {x : Int} : ∀ (t : at_T) (u a : Int), at_is Y t u a → 0 < at_ct t x → at_is Y (at_fi x t).1 x (Y 4 x) ∧ at_is Y (at_fi x t).2 x (Y 5 x) ∧ (∀ y, at_ct (at_fi x t).1 y + at_ct (at_fi x t).2 y + (if y = x then 1 else 0) ≤ at_ct t y) := by
  intro t
  induction t with
  | leaf v => intro u a _ h; simp [at_ct] at h
  | branch n l r ihl ihr =>
    intro u a h hc
    simp only [at_is] at h
    rw [at_fi]
    by_cases q : x = (n : Int)
    · rw [if_pos q, q]
      refine ⟨h.2.1, h.2.2, fun y => ?_⟩
      simp only [at_ct]
      omega
    · rw [if_neg q]
      simp only [at_ct] at hc
      rw [if_neg q] at hc
      by_cases q2 : 0 < at_ct l x
      · rw [if_pos q2]
        obtain ⟨h1, h2, h3⟩ := ihl _ _ h.2.1 q2
        refine ⟨h1, h2, fun y => ?_⟩
        have := h3 y
        simp only [at_ct]
        omega
      · rw [if_neg q2]
        obtain ⟨h1, h2, h3⟩ := ihr _ _ h.2.2 (by omega)
        refine ⟨h1, h2, fun y => ?_⟩
        have := h3 y
        simp only [at_ct]
        omega
theorem at_rm_is {Y Z : Nat → Int → Int} {D : Int → Int} {x ρ : Int} (hx : x ≠ -1) : ∀ (t : at_T) (u a : Int), at_is Y t u a → (∀ z, at_ct t z ≤ 1) → 0 < at_ct t x →
    (∀ y, 0 < at_ct t y → y ≠ x → at_ct (at_fi x t).1 y + at_ct (at_fi x t).2 y = 0 → Z 3 y = Y 3 y ∧ Z 4 y = (if Y 4 y = x then ρ else Y 4 y) ∧ Z 5 y = (if Y 5 y = x then ρ else Y 5 y)) →
    at_is Z (at_jn D 24 (at_fi x t).1 (at_fi x t).2) (Y 3 x) ρ → at_is Z (at_rm D x t) u (if a = x then ρ else a) := by
  intro t
  induction t with
  | leaf v => intro u a _ _ h; simp [at_ct] at h
  | branch n l r ihl ihr =>
    intro u a h hn hc hZ hJ
    have hh := h
    simp only [at_is] at h
    rw [at_rm]
    by_cases q : x = (n : Int)
    · rw [if_pos q, if_pos (by rw [q]; exact h.1.1)]
      rw [at_fi, if_pos q, q, h.1.2.2] at hJ
      exact hJ
    · have hnx : (n : Int) ≠ x := fun e => q e.symm
      rw [if_neg q, if_neg (by rw [h.1.1]; exact hnx)]
      simp only [at_ct] at hn hc
      rw [if_neg q] at hc
      rw [at_fi, if_neg q] at hZ hJ
      have hfi : at_ct (if 0 < at_ct l x then at_fi x l else at_fi x r).1 n + at_ct (if 0 < at_ct l x then at_fi x l else at_fi x r).2 n = 0 := by
        have h0 := hn n
        rw [if_pos rfl] at h0
        by_cases q2 : 0 < at_ct l x
        · rw [if_pos q2]
          have := (at_fi_is (x := x) l _ _ h.2.1 q2).2.2 n
          omega
        · rw [if_neg q2]
          have := (at_fi_is (x := x) r _ _ h.2.2 (by omega)).2.2 n
          omega
      have hZn := hZ n (by simp only [at_ct, if_true]; omega) hnx hfi
      refine ⟨⟨h.1.1, h.1.2.1, by rw [hZn.1]; exact h.1.2.2⟩, ?_, ?_⟩
      · rw [hZn.2.1]
        by_cases q2 : 0 < at_ct l x
        · rw [if_pos q2] at hZ hJ
          refine ihl _ _ h.2.1 (fun z => by have := hn z; omega) q2 (fun y hy => hZ y (by simp only [at_ct]; omega)) hJ
        · rw [if_neg (fun e => q2 (by have := at_is_top h.2.1 (by rw [e]; exact hx); rw [e] at this; exact this.2))]
          rw [if_neg q2] at hZ
          rw [at_rm_no l (by omega)]
          refine at_is_fr l _ _ (fun y hy => ?_) h.2.1
          have h1 := hn y
          have h2 := (at_fi_is (x := x) r _ _ h.2.2 (by omega)).2.2 y
          have hyx : y ≠ x := by
            intro e
            rw [e] at hy
            exact q2 hy
          have h3 := hZ y (by simp only [at_ct]; omega) hyx (by omega)
          have n4 : Y 4 y ≠ x := fun e => q2 (at_par hx (Or.inl e) l _ _ h.2.1 hy).2
          have n5 : Y 5 y ≠ x := fun e => q2 (at_par hx (Or.inr e) l _ _ h.2.1 hy).2
          rw [if_neg n4, if_neg n5] at h3
          exact h3
      · rw [hZn.2.2]
        by_cases q2 : 0 < at_ct l x
        · have q3 : at_ct r x = 0 := by have := hn x; omega
          rw [if_neg (fun e => by have := at_is_top h.2.2 (by rw [e]; exact hx); rw [e] at this; omega)]
          rw [if_pos q2] at hZ
          rw [at_rm_no r q3]
          refine at_is_fr r _ _ (fun y hy => ?_) h.2.2
          have h1 := hn y
          have h2 := (at_fi_is (x := x) l _ _ h.2.1 q2).2.2 y
          have hyx : y ≠ x := by
            intro e
            rw [e] at hy
            omega
          have h3 := hZ y (by simp only [at_ct]; omega) hyx (by omega)
          have n4 : Y 4 y ≠ x := fun e => by have := (at_par hx (Or.inl e) r _ _ h.2.2 hy).2; omega
          have n5 : Y 5 y ≠ x := fun e => by have := (at_par hx (Or.inr e) r _ _ h.2.2 hy).2; omega
          rw [if_neg n4, if_neg n5] at h3
          exact h3
        · rw [if_neg q2] at hZ hJ
          refine ihr _ _ h.2.2 (fun z => by have := hn z; omega) (by omega) (fun y hy => hZ y (by simp only [at_ct]; omega)) hJ
