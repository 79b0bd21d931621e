/-! ===== trees of logs (the library's binary tree), their join ===== -/
abbrev at_T := Lean.RArray Unit
def at_ct : at_T → Int → Nat
  | .leaf _, _ => 0
  | .branch n l r, x => (if x = (n : Int) then 1 else 0) + at_ct l x + at_ct r x
def at_sz : at_T → Nat
  | .leaf _ => 0
  | .branch _ l r => 1 + at_sz l + at_sz r
def at_ro : at_T → Int
  | .leaf _ => -1
  | .branch n _ _ => n
def at_is (Y : Nat → Int → Int) : at_T → Int → Int → Prop
  | .leaf _, _, a => a = -1
  | .branch n l r, u, a => (a = (n : Int) ∧ n < 24 ∧ Y 3 n = u) ∧ at_is Y l n (Y 4 n) ∧ at_is Y r n (Y 5 n)
def at_rt (Y : Nat → Int → Int) : at_T → Int → Prop
  | .leaf _, a => a = -1
  | .branch n l r, a => (a = (n : Int) ∧ n < 24) ∧ at_is Y l n (Y 4 n) ∧ at_is Y r n (Y 5 n)
abbrev at_ah (D : Int → Int) (a c : Int) : Prop := D a < D c ∨ (D a = D c ∧ a < c)
def at_jn (D : Int → Int) : Nat → at_T → at_T → at_T
  | _, .leaf _, t => t
  | _, .branch n l r, .leaf _ => .branch n l r
  | 0, .branch n l r, .branch _ _ _ => .branch n l r
  | k + 1, .branch a l r, .branch b l' r' => if at_ah D a b then .branch a (at_jn D k r (.branch b l' r')) l else .branch b (at_jn D k r' (.branch a l r)) l'
def at_co (D : Int → Int) : Nat → at_T → at_T → Nat
  | _, .leaf _, _ => 0
  | _, .branch _ _ _, .leaf _ => 0
  | 0, .branch _ _ _, .branch _ _ _ => 0
  | k + 1, .branch a l r, .branch b l' r' => if at_ah D a b then at_co D k r (.branch b l' r') + 1 else at_co D k r' (.branch a l r) + 1
theorem at_jn_l {D : Int → Int} {n : Nat} {u : Unit} {t : at_T} : at_jn D n (.leaf u) t = t := by cases n <;> rfl
theorem at_jn_r {D : Int → Int} {n : Nat} {u : Unit} {t : at_T} : at_jn D n t (.leaf u) = t := by
  cases t with
  | leaf v => rw [at_jn_l]
  | branch a l r => cases n <;> rfl
theorem at_co_l {D : Int → Int} {n : Nat} {u : Unit} {t : at_T} : at_co D n (.leaf u) t = 0 := by cases n <;> rfl
theorem at_co_r {D : Int → Int} {n : Nat} {u : Unit} {t : at_T} : at_co D n t (.leaf u) = 0 := by
  cases t with
  | leaf v => rw [at_co_l]
  | branch a l r => cases n <;> rfl
theorem at_jn_ct {D : Int → Int} {x : Int} : ∀ (n : Nat) (s t : at_T), at_sz s + at_sz t ≤ n + 1 → at_ct (at_jn D n s t) x = at_ct s x + at_ct t x ∧ at_sz (at_jn D n s t) = at_sz s + at_sz t := by
  intro n
  induction n with
  | zero =>
    intro s t h
    cases s with
    | leaf u => rw [at_jn_l]; simp [at_ct, at_sz]
    | branch a l r =>
      cases t with
      | leaf u => rw [at_jn_r]; simp [at_ct, at_sz]
      | branch b l' r' => simp only [at_sz] at h; omega
  | succ n ih =>
    intro s t h
    cases s with
    | leaf u => rw [at_jn_l]; simp [at_ct, at_sz]
    | branch a l r =>
      cases t with
      | leaf u => rw [at_jn_r]; simp [at_ct, at_sz]
      | branch b l' r' =>
        simp only [at_sz] at h
        rw [at_jn]
        split
        · have := ih r (.branch b l' r') (by simp only [at_sz]; omega)
          simp only [at_ct, at_sz] at this ⊢
          omega
        · have := ih r' (.branch a l r) (by simp only [at_sz]; omega)
          simp only [at_ct, at_sz] at this ⊢
          omega
theorem at_is_fr {Y Z : Nat → Int → Int} : ∀ (t : at_T) (u a : Int), (∀ x, 0 < at_ct t x → Z 3 x = Y 3 x ∧ Z 4 x = Y 4 x ∧ Z 5 x = Y 5 x) → at_is Y t u a → at_is Z t u a := by
  intro t
  induction t with
  | leaf v => intro u a _ h; exact h
  | branch n l r ihl ihr =>
    intro u a hf h
    have h0 := hf n (by simp [at_ct]; omega)
    simp only [at_is] at h ⊢
    refine ⟨⟨h.1.1, h.1.2.1, by rw [h0.1]; exact h.1.2.2⟩, ?_, ?_⟩
    · rw [h0.2.1]
      exact ihl _ _ (fun x hx => hf x (by simp only [at_ct]; omega)) h.2.1
    · rw [h0.2.2]
      exact ihr _ _ (fun x hx => hf x (by simp only [at_ct]; omega)) h.2.2
theorem at_rt_fr {Y Z : Nat → Int → Int} {t : at_T} {a : Int} (hf : ∀ x, 0 < at_ct t x → (x ≠ at_ro t → Z 3 x = Y 3 x) ∧ Z 4 x = Y 4 x ∧ Z 5 x = Y 5 x) (hn : ∀ x, at_ct t x ≤ 1) (h : at_rt Y t a) : at_rt Z t a := by
  cases t with
  | leaf v => exact h
  | branch n l r =>
    have h0 := hf n (by simp [at_ct]; omega)
    have hd : at_ct l n = 0 ∧ at_ct r n = 0 := by have := hn n; simp [at_ct] at this; omega
    simp only [at_rt] at h ⊢
    have ne : ∀ (t : at_T) (x : Int), at_ct t n = 0 → 0 < at_ct t x → x ≠ (n : Int) := by
      intro t x h1 h2 h3
      rw [h3] at h2
      omega
    refine ⟨h.1, ?_, ?_⟩
    · rw [h0.2.1]
      refine at_is_fr l _ _ (fun x hx => ?_) h.2.1
      have h4 := hf x (by simp only [at_ct]; omega)
      exact ⟨h4.1 (ne l x hd.1 hx), h4.2⟩
    · rw [h0.2.2]
      refine at_is_fr r _ _ (fun x hx => ?_) h.2.2
      have h4 := hf x (by simp only [at_ct]; omega)
      exact ⟨h4.1 (ne r x hd.2 hx), h4.2⟩
theorem at_is_rt {Y : Nat → Int → Int} {t : at_T} {u a : Int} (h : at_is Y t u a) : at_rt Y t a := by
  cases t with
  | leaf v => exact h
  | branch n l r => exact ⟨⟨h.1.1, h.1.2.1⟩, h.2⟩
theorem at_rt_is {Y : Nat → Int → Int} {t : at_T} {u a : Int} (h : at_rt Y t a) (hu : a ≠ -1 → Y 3 a = u) : at_is Y t u a := by
  cases t with
  | leaf v => exact h
  | branch n l r =>
    refine ⟨⟨h.1.1, h.1.2, ?_⟩, h.2⟩
    rw [← h.1.1]
    exact hu (by rw [h.1.1]; omega)
theorem at_rt_ro {Y : Nat → Int → Int} {t : at_T} {a : Int} (h : at_rt Y t a) : a = at_ro t := by
  cases t with
  | leaf v => exact h
  | branch n l r => exact h.1.1
theorem at_ro_ct {t : at_T} (h : at_ro t ≠ -1) : 0 < at_ct t (at_ro t) := by
  cases t with
  | leaf v => exact absurd rfl h
  | branch n l r => simp only [at_ro, at_ct, if_true]; omega
theorem at_is_in {Y : Nat → Int → Int} : ∀ (t : at_T) (u a x : Int), at_is Y t u a → 0 < at_ct t x → 0 ≤ x ∧ x < 24 := by
  intro t
  induction t with
  | leaf v => intro u a x _ h; simp [at_ct] at h
  | branch n l r ihl ihr =>
    intro u a x h hx
    simp only [at_is] at h
    simp only [at_ct] at hx
    by_cases q : x = (n : Int)
    · omega
    · rw [if_neg q] at hx
      by_cases q2 : 0 < at_ct l x
      · exact ihl _ _ _ h.2.1 q2
      · exact ihr _ _ _ h.2.2 (by omega)
theorem at_rt_in {Y : Nat → Int → Int} {t : at_T} {a x : Int} (h : at_rt Y t a) (hx : 0 < at_ct t x) : 0 ≤ x ∧ x < 24 := by
  cases t with
  | leaf v => simp [at_ct] at hx
  | branch n l r =>
    simp only [at_rt] at h
    simp only [at_ct] at hx
    by_cases q : x = (n : Int)
    · omega
    · rw [if_neg q] at hx
      by_cases q2 : 0 < at_ct l x
      · exact at_is_in _ _ _ _ h.2.1 q2
      · exact at_is_in _ _ _ _ h.2.2 (by omega)
def at_ho (D : Int → Int) : at_T → Int → Prop
  | .leaf _, _ => True
  | .branch n l r, u => (u = -1 ∨ ¬ at_ah D n u) ∧ at_ho D l n ∧ at_ho D r n
theorem at_jn_ho {D : Int → Int} : ∀ (n : Nat) (s t : at_T) (u : Int), at_ho D s u → at_ho D t u → at_ho D (at_jn D n s t) u := by
  intro n
  induction n with
  | zero =>
    intro s t u hs ht
    cases s with
    | leaf v => rw [at_jn_l]; exact ht
    | branch a l r =>
      cases t with
      | leaf v => rw [at_jn_r]; exact hs
      | branch b l' r' => exact hs
  | succ n ih =>
    intro s t u hs ht
    cases s with
    | leaf v => rw [at_jn_l]; exact ht
    | branch a l r =>
      cases t with
      | leaf v => rw [at_jn_r]; exact hs
      | branch b l' r' =>
        rw [at_jn]
        simp only [at_ho] at hs ht
        split
        · rename_i h
          simp only [at_ho]
          refine ⟨hs.1, ih _ _ _ hs.2.2 ?_, hs.2.1⟩
          simp only [at_ho]
          exact ⟨Or.inr (by omega), ht.2⟩
        · rename_i h
          simp only [at_ho]
          refine ⟨ht.1, ih _ _ _ ht.2.2 ?_, ht.2.1⟩
          simp only [at_ho]
          exact ⟨Or.inr h, hs.2⟩
