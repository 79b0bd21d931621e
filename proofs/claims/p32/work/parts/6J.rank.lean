/-! ===== ranks: what the heap gives is what counting gives ===== -/
theorem av_k0 : ∀ k : Fin 24, ((Int32.ofInt (k.val : Int) &&& 31).toBitVec.smod 32#32) = BitVec.ofNat 32 k.val := by decide
theorem av_k1 (k : Nat) (h : k < 24) (f : Int32) : (f >>> (Int32.ofInt (k : Int) &&& 31)).toBitVec = f.toBitVec.sshiftRight k := by
  rw [Int32.toBitVec_shiftRight]
  have e := av_k0 ⟨k, h⟩
  simp only at e
  rw [show ((32 : BitVec 32)) = 32#32 from rfl, e, BitVec.sshiftRight']
  congr 1
  simp
  omega
theorem av_k2 (k : Nat) (h : k < 24) (f : Int32) : (f <<< (Int32.ofInt (k : Int) &&& 31)).toBitVec = f.toBitVec <<< k := by
  rw [Int32.toBitVec_shiftLeft]
  have e := av_k0 ⟨k, h⟩
  simp only at e
  rw [show ((32 : BitVec 32)) = 32#32 from rfl, e]
  simp
  congr 1
  omega
theorem av_k3 (k : Nat) (h : k < 24) (f : Int) : ay_bit f k = if (Int32.ofInt f).toBitVec.getLsbD k then 1 else 0 := by
  unfold ay_bit
  rw [Int32.ofInt_toInt]
  generalize Int32.ofInt f = F
  have o1 : (Int32.ofInt 1).toBitVec = 1#32 := by decide
  have e : ((F >>> (Int32.ofInt (k : Int) &&& 31)) &&& Int32.ofInt 1) = Int32.ofInt (if F.toBitVec.getLsbD k then 1 else 0) := by
    apply Int32.toBitVec_inj.mp
    rw [Int32.toBitVec_and, av_k1 k h, o1]
    apply BitVec.eq_of_getLsbD_eq
    intro i hi
    rw [BitVec.getLsbD_and, BitVec.getLsbD_one, BitVec.getLsbD_sshiftRight]
    have o0 : (Int32.ofInt 0).toBitVec = 0#32 := by decide
    by_cases z : F.toBitVec.getLsbD k = true
    · rw [if_pos z, o1, BitVec.getLsbD_one]
      by_cases q : i = 0
      · subst q
        rw [Nat.add_zero, z]
        simp
        omega
      · simp [q]
    · rw [if_neg z, o0]
      by_cases q : i = 0
      · subst q
        rw [Nat.add_zero, Bool.eq_false_iff.mpr z]
        simp
        omega
      · simp [q]
  rw [e]
  split <;> decide
theorem av_k4 (k z : Nat) (h : k < 24) (hz : z < 24) (f : Int) : ay_bit (ay_or f z) k = if k = z then 1 else ay_bit f k := by
  rw [av_k3 k h, av_k3 k h]
  unfold ay_or
  rw [Int32.ofInt_toInt, Int32.ofInt_toInt, Int32.toBitVec_or, av_k2 z hz]
  have : (Int32.ofInt 1).toBitVec = 1#32 := by decide
  rw [BitVec.getLsbD_or, this, BitVec.getLsbD_shiftLeft, BitVec.getLsbD_one]
  by_cases q : k = z
  · subst q
    simp
    omega
  · rw [if_neg q]
    have : (decide (k < 32) && !decide (k < z) && (decide (0 < 32) && decide (k - z = 0))) = false := by
      simp
      omega
    rw [this, Bool.or_false]
theorem av_k5 (k : Nat) (h : k < 24) : ay_bit 0 k = 0 := by
  rw [av_k3 k h]
  have : (Int32.ofInt 0).toBitVec = 0#32 := by decide
  rw [this]
  simp
theorem av_sm1 {f g : Int → Int} {z : Int} (hz : 0 ≤ z) : ∀ n : Nat, (∀ i : Int, 0 ≤ i → i < n → f i = g i + if i = z then 1 else 0) → am_sm f n = am_sm g n + if z < n then 1 else 0 := by
  intro n
  induction n with
  | zero => intro _; rw [if_neg (by omega)]; rfl
  | succ n ih =>
    intro h
    rw [am_sm, am_sm, ih (fun i a b => h i a (by omega)), h n (by omega) (by omega)]
    repeat' split
    all_goals omega
theorem av_sm2 {f g : Int → Int} : ∀ n : Nat, am_sm f n < am_sm g n → ∃ i : Int, (0 ≤ i ∧ i < n) ∧ f i < g i := by
  intro n
  induction n with
  | zero => intro h; exact absurd h (by rw [am_sm, am_sm]; omega)
  | succ n ih =>
    intro h
    by_cases q : f n < g n
    · exact ⟨n, by omega, q⟩
    · rw [am_sm, am_sm] at h
      obtain ⟨i, a, b⟩ := ih (by omega)
      exact ⟨i, by omega, b⟩
theorem av_sm3 {f g : Int → Int} : ∀ n : Nat, (∀ i : Int, 0 ≤ i → i < n → f i ≤ g i) → am_sm f n ≤ am_sm g n ∧ ((∃ i : Int, (0 ≤ i ∧ i < n) ∧ f i < g i) → am_sm f n < am_sm g n) := by
  intro n
  induction n with
  | zero => intro _; exact ⟨Int.le_refl _, fun ⟨i, a, _⟩ => by omega⟩
  | succ n ih =>
    intro h
    obtain ⟨i1, i2⟩ := ih (fun i a b => h i a (by omega))
    have hn := h n (by omega) (by omega)
    rw [am_sm, am_sm]
    refine ⟨by omega, fun ⟨i, a, b⟩ => ?_⟩
    by_cases q : i = n
    · subst q
      omega
    · have := i2 ⟨i, by omega, b⟩
      omega
theorem av_tree {Y : Nat → Int → Int} : ∀ (t : at_T) (u a : Int), at_is Y t u a → (∀ z, at_ct t z ≤ 1) → (∀ x, 0 < at_ct t x → x ≠ a → ¬ at_ah (Y 1) x (Y 3 x)) → ∀ x, 0 < at_ct t x → x = a ∨ (0 < at_ct t (Y 3 x) ∧ at_ah (Y 1) (Y 3 x) x ∧ at_ah (Y 1) a x) := by
  intro t
  induction t with
  | leaf v =>
    intro u a _ _ _ x hx
    exact absurd hx (Nat.lt_irrefl 0)
  | branch n l r ihl ihr =>
    intro u a h hn hz x hx
    obtain ⟨⟨ha, h24, h3⟩, hl, hr⟩ := h
    subst ha
    have cn := hn (n : Int)
    rw [at_ct, if_pos rfl] at cn
    have key : ∀ (s : at_T) (b : Int), at_is Y s n b → (∀ z, at_ct s z ≤ at_ct (.branch n l r) z) → at_ct s n = 0 →
        (∀ (u a : Int), at_is Y s u a → (∀ z, at_ct s z ≤ 1) → (∀ x, 0 < at_ct s x → x ≠ a → ¬ at_ah (Y 1) x (Y 3 x)) → ∀ x, 0 < at_ct s x → x = a ∨ (0 < at_ct s (Y 3 x) ∧ at_ah (Y 1) (Y 3 x) x ∧ at_ah (Y 1) a x)) →
        0 < at_ct s x → (0 < at_ct (.branch n l r) (Y 3 x) ∧ at_ah (Y 1) (Y 3 x) x ∧ at_ah (Y 1) n x) := by
      intro s b hs hc h0 ih hx
      have sub : ∀ y, 0 < at_ct s y → y ≠ (n : Int) := fun y hy e => by
        rw [e, h0] at hy
        omega
      have hb : b ≠ -1 := by
        cases s with
        | leaf v => exact absurd hx (Nat.lt_irrefl 0)
        | branch m l' r' =>
          have := hs.1.1
          omega
      obtain ⟨b3, bc⟩ := at_is_top hs hb
      have bn : at_ah (Y 1) n b := by
        have q := hz b (Nat.lt_of_lt_of_le bc (hc b)) (sub b bc)
        have q2 := sub b bc
        rw [b3] at q
        unfold at_ah at q ⊢
        omega
      rcases ih n b hs (fun z => Nat.le_trans (hc z) (hn z)) (fun y hy _ => hz y (Nat.lt_of_lt_of_le hy (hc y)) (sub y hy)) x hx with e | ⟨e1, e2, e3⟩
      · subst e
        rw [b3]
        exact ⟨by rw [at_ct, if_pos rfl]; omega, bn, bn⟩
      · refine ⟨Nat.lt_of_lt_of_le e1 (hc _), e2, ?_⟩
        unfold at_ah at bn e3 ⊢
        omega
    by_cases e : x = (n : Int)
    · exact Or.inl e
    · right
      rw [at_ct, if_neg e] at hx
      by_cases q : 0 < at_ct l x
      · exact key l (Y 4 n) hl (fun z => Nat.le_trans (Nat.le_add_left _ _) (Nat.le_add_right _ _)) (by omega) ihl q
      · exact key r (Y 5 n) hr (fun z => Nat.le_add_left _ _) (by omega) ihr (by omega)
def av_pi (Y : Nat → Int → Int) (p x : Int) : Prop := (0 ≤ x ∧ x < 24) ∧ Y 2 x = p
theorem av_pr {Y : Nat → Int → Int} {p : Int} (hY : av_Y Y) (hp : 0 ≤ p ∧ p < Y 0 7) (ho : am_oa Y p ≤ 0) : (∀ x, av_pi Y p x → x = am_gt (Y 6) 4 p ∨ (av_pi Y p (Y 3 x) ∧ am_ah Y (Y 3 x) x ∧ am_ah Y (am_gt (Y 6) 4 p) x)) ∧ (∀ x, 0 ≤ x → x < 24 → av_pi Y p (Y 3 x) → Y 2 x = p) ∧ ((∃ x, av_pi Y p x) → av_pi Y p (am_gt (Y 6) 4 p)) := by
  obtain ⟨hb, hn, T, ht, ha⟩ := hY
  have h7 := hb.1
  obtain ⟨q, eq⟩ : ∃ q : Nat, p = (q : Int) := ⟨p.toNat, by omega⟩
  subst eq
  have q4 : q < 4 := by omega
  rw [at_gt (show 0 ≤ (q : Int) ∧ (q : Int) < ((4 : Nat) : Int) by omega)]
  have ti := ht.1 q q4
  have t1 := ht.2.1 q q4
  have inT : ∀ x, av_pi Y q x → 0 < at_ct (T q) x := fun x h => ha q q4 x h.1.1 h.1.2 h.2
  have Tin : ∀ x, 0 < at_ct (T q) x → av_pi Y q x := fun x h => ⟨at_is_in (T q) _ _ x ti h, ht.2.2 q q4 x h⟩
  have zo : ∀ x, av_pi Y q x → ¬ am_of Y q x := by
    intro x hx hf
    have h3 := (av_sm3 (f := fun _ => 0) (g := fun l => am_b (am_of Y q l)) 24 (fun i _ _ => am_b_le.1)).2 ⟨x, hx.1, by
      show 0 < am_b (am_of Y q x)
      rw [show am_b (am_of Y q x) = 1 by rw [am_b_1]; exact hf]
      decide⟩
    rw [av_sm0 24 (fun _ _ _ => rfl)] at h3
    have ho' : am_sm (fun l => am_b (am_of Y q l)) 24 ≤ 0 := ho
    omega
  have tr := av_tree (T q) (-1) (Y 6 q) ti t1 (fun x hx hxa => by
    have hi := Tin x hx
    have z := zo x hi
    rcases at_chi (T q) _ _ ti hx with c | c
    · exact absurd c.1 hxa
    · have h3 := Tin _ c.1
      intro w
      exact z ⟨hi.2, by have := h3.1; omega, ⟨hi.1.1, hi.1.2, h3.1.1, h3.1.2⟩, w⟩)
  refine ⟨fun x hx => ?_, fun x h0 h1 h3 => ?_, fun ⟨x, hx⟩ => ?_⟩
  · have hxT := inT x hx
    rcases tr x hxT with e | ⟨e1, e2, e3⟩
    · exact Or.inl e
    · right
      have i3 := Tin _ e1
      have hne : Y 6 q ≠ -1 := by
        intro e
        have := at_is_in (T q) _ _ x ti hxT
        cases hT : T q with
        | leaf v => rw [hT] at hxT; exact absurd hxT (Nat.lt_irrefl 0)
        | branch m l r => rw [hT] at ti; have := ti.1.1; omega
      have i6 := Tin _ (at_is_top ti hne).2
      exact ⟨i3, ⟨⟨i3.1.1, i3.1.2, hx.1.1, hx.1.2⟩, e2⟩, ⟨⟨i6.1.1, i6.1.2, hx.1.1, hx.1.2⟩, e3⟩⟩
  · have hne : Y 3 x ≠ -1 := by have := h3.1; omega
    rcases hb.2.2.2.1 x h0 h1 with d | ⟨d, _⟩
    · exact absurd d.2.1 hne
    · obtain ⟨s, es⟩ : ∃ s : Nat, Y 2 x = (s : Int) := ⟨(Y 2 x).toNat, by omega⟩
      have s4 : s < 4 := by omega
      have xs := ha s s4 x h0 h1 es
      rcases at_chi (T s) _ _ (ht.1 s s4) xs with c | c
      · exact absurd c.2 hne
      · have := ht.2.2 s s4 _ c.1
        rw [es, ← this, h3.2]
  · have hxT := inT x hx
    have hne : Y 6 q ≠ -1 := by
      intro e
      cases hT : T q with
      | leaf v => rw [hT] at hxT; exact absurd hxT (Nat.lt_irrefl 0)
      | branch m l r => rw [hT] at ti; have := ti.1.1; omega
    exact Tin _ (at_is_top ti hne).2
theorem av_bst {Y : Nat → Int → Int} {f : Int} : ∀ n : Nat, n ≤ 24 → (ay_bst Y f n = -1 ∧ ∀ i : Int, 0 ≤ i → i < n → ¬ ay_opn Y f i) ∨ ((0 ≤ ay_bst Y f n ∧ ay_bst Y f n < n) ∧ ay_opn Y f (ay_bst Y f n) ∧ ∀ i : Int, 0 ≤ i → i < n → ay_opn Y f i → ¬ am_ah Y i (ay_bst Y f n)) := by
  intro n
  induction n with
  | zero => intro _; exact Or.inl ⟨rfl, fun i a b => by omega⟩
  | succ n ih =>
    intro h
    have ih := ih (by omega)
    rw [ay_bst]
    by_cases q : ay_opn Y f n ∧ (ay_bst Y f n = -1 ∨ am_ah Y n (ay_bst Y f n))
    · rw [if_pos q]
      refine Or.inr ⟨by omega, q.1, fun i a b hi hah => ?_⟩
      by_cases e : i = n
      · subst e
        obtain ⟨_, h2⟩ := hah
        omega
      · rcases ih with ⟨h1, h2⟩ | ⟨h1, h2, h3⟩
        · exact h2 i a (by omega) hi
        · rcases q.2 with z | z
          · omega
          · refine h3 i a (by omega) hi ?_
            obtain ⟨z1, z2⟩ := z
            obtain ⟨y1, y2⟩ := hah
            exact ⟨by omega, by omega⟩
    · rw [if_neg q]
      rcases ih with ⟨h1, h2⟩ | ⟨h1, h2, h3⟩
      · refine Or.inl ⟨h1, fun i a b hi => ?_⟩
        by_cases e : i = n
        · subst e
          exact q ⟨hi, Or.inl h1⟩
        · exact h2 i a (by omega) hi
      · refine Or.inr ⟨by omega, h2, fun i a b hi => ?_⟩
        by_cases e : i = n
        · subst e
          exact fun z => q ⟨hi, Or.inr z⟩
        · exact h3 i a (by omega) hi
theorem av_min {Y : Nat → Int → Int} {P : Int → Prop} : ∀ n : Nat, n ≤ 24 → (∃ x : Int, (0 ≤ x ∧ x < n) ∧ P x) → ∃ y : Int, (0 ≤ y ∧ y < n) ∧ P y ∧ ∀ x : Int, 0 ≤ x → x < n → P x → ¬ am_ah Y x y := by
  intro n
  induction n with
  | zero => intro _ ⟨x, a, _⟩; omega
  | succ n ih =>
    intro h ⟨x, a, hx⟩
    by_cases q : ∃ x : Int, (0 ≤ x ∧ x < n) ∧ P x
    · obtain ⟨y, b, hy, hm⟩ := ih (by omega) q
      by_cases q2 : P n ∧ am_ah Y n y
      · refine ⟨n, by omega, q2.1, fun i a1 a2 hi hah => ?_⟩
        by_cases e : i = n
        · subst e
          obtain ⟨_, h2⟩ := hah
          omega
        · refine hm i a1 (by omega) hi ?_
          obtain ⟨_, z1, z2⟩ := q2
          obtain ⟨y1, y2⟩ := hah
          exact ⟨by omega, by omega⟩
      · refine ⟨y, by omega, hy, fun i a1 a2 hi => ?_⟩
        by_cases e : i = n
        · subst e
          exact fun z => q2 ⟨hi, z⟩
        · exact hm i a1 (by omega) hi
    · have e : x = n := by
        by_cases e : x = n
        · exact e
        · exact absurd ⟨x, by omega, hx⟩ q
      subst e
      refine ⟨n, by omega, hx, fun i a1 a2 hi hah => ?_⟩
      by_cases e : i = n
      · subst e
        obtain ⟨_, h2⟩ := hah
        omega
      · exact q ⟨i, by omega, hi⟩
abbrev av_R (Y : Nat → Int → Int) (p z : Int) : Int := am_sm (fun x => am_b (am_ba Y z p x)) 24
theorem av_rk {Y : Nat → Int → Int} {p : Int} (hY : av_Y Y) (hp : 0 ≤ p ∧ p < Y 0 7) (ho : am_oa Y p ≤ 0) : ∀ (m : Nat) (f z : Int), av_pi Y p z → (∀ k : Nat, k < 24 → ay_bit f k = am_b (am_ba Y z p k)) → av_R Y p z + m < ac_in Y p → av_pi Y p (ay_rk Y m f z) ∧ av_R Y p (ay_rk Y m f z) = av_R Y p z + m := by
  obtain ⟨h1, h2, _⟩ := av_pr hY hp ho
  intro m
  induction m with
  | zero =>
    intro f z hz _ _
    rw [ay_rk]
    exact ⟨hz, by omega⟩
  | succ m ih =>
    intro f z hz hf hR
    rw [ay_rk]
    have hf2 : ∀ k : Int, 0 ≤ k → k < 24 → ay_bit (ay_or f z) k = am_b (k = z ∨ am_ba Y z p k) := by
      intro k k0 k1
      obtain ⟨i, ei⟩ : ∃ i : Nat, k = (i : Int) := ⟨k.toNat, by omega⟩
      obtain ⟨j, ej⟩ : ∃ j : Nat, z = (j : Int) := ⟨z.toNat, by have := hz.1; omega⟩
      subst ei
      have hj := hz.1
      rw [ej, av_k4 i j (by omega) (by omega), hf i (by omega), ej]
      unfold am_b
      repeat' split
      all_goals first | rfl | (exfalso; omega) | skip
      all_goals (exfalso; rename_i a b; first | exact a (by omega) | (rcases b with b | b <;> first | omega | exact a b) | exact b (Or.inl (by omega)) | exact b (Or.inr a) | skip)
    have lt : ∃ x : Int, (0 ≤ x ∧ x < 24) ∧ (Y 2 x = p ∧ am_ah Y z x) := by
      have e1 : am_sm (fun x => am_b (x = z ∨ am_ba Y z p x)) 24 = av_R Y p z + 1 := by
        have e := av_sm1 (f := fun x => am_b (x = z ∨ am_ba Y z p x)) (g := fun x => am_b (am_ba Y z p x)) (z := z) hz.1.1 24 (fun i _ _ => by
          show am_b (i = z ∨ am_ba Y z p i) = am_b (am_ba Y z p i) + if i = z then 1 else 0
          by_cases q : i = z
          · rw [if_pos q, show am_b (i = z ∨ am_ba Y z p i) = 1 by rw [am_b_1]; exact Or.inl q, show am_b (am_ba Y z p i) = 0 by rw [am_b_0]; intro ⟨_, _, w⟩; rw [q] at w; omega]
            rfl
          · rw [if_neg q, Int.add_zero]
            unfold am_b
            by_cases q2 : am_ba Y z p i
            · rw [if_pos q2, if_pos (Or.inr q2)]
            · rw [if_neg q2, if_neg (fun w => w.elim q q2)])
        rw [e, if_pos (by have := hz.1; omega)]
      obtain ⟨x, x0, x1⟩ := av_sm2 (f := fun x => am_b (x = z ∨ am_ba Y z p x)) (g := fun x => am_b (Y 2 x = p)) 24 (by
        rw [e1]
        have : am_sm (fun x => am_b (Y 2 x = p)) 24 = ac_in Y p := rfl
        omega)
      have a1 : Y 2 x = p := by
        by_cases q : Y 2 x = p
        · exact q
        · have e0 : am_b (Y 2 x = p) = 0 := by rw [am_b_0]; exact q
          have := (am_b_le (p := (x = z ∨ am_ba Y z p x))).1
          have x1' : am_b (x = z ∨ am_ba Y z p x) < am_b (Y 2 x = p) := x1
          omega
      have a2 : ¬ (x = z ∨ am_ba Y z p x) := by
        intro q
        have e0 : am_b (x = z ∨ am_ba Y z p x) = 1 := by rw [am_b_1]; exact q
        have := (am_b_le (p := (Y 2 x = p))).2
        have x1' : am_b (x = z ∨ am_ba Y z p x) < am_b (Y 2 x = p) := x1
        omega
      refine ⟨x, by omega, a1, ⟨by have := hz.1; omega, ?_⟩⟩
      have a3 : x ≠ z := fun e => a2 (Or.inl e)
      have a4 : ¬ (Y 1 x < Y 1 z ∨ (Y 1 x = Y 1 z ∧ x < z)) := fun e => a2 (Or.inr ⟨a1, by have := hz.1; omega, e⟩)
      omega
    obtain ⟨y, y0, ⟨y1, y2⟩, ym⟩ := av_min (Y := Y) 24 (by omega) lt
    have hy : av_pi Y p y := ⟨by omega, y1⟩
    have yo : ay_opn Y (ay_or f z) y := by
      rcases h1 y hy with e | ⟨e1, e2, _⟩
      · exfalso
        rcases h1 z hz with g | ⟨_, _, g⟩
        · rw [e, ← g] at y2
          have := y2.2
          omega
        · rw [e] at y2
          have g1 := y2.2
          have g2 := g.2
          omega
      · refine ⟨?_, by have := e1.1; omega, ?_⟩
        · rw [hf2 y (by omega) (by omega), am_b_0]
          intro g
          have g1 := y2.2
          rcases g with g | g
          · rw [g] at g1
            omega
          · have g2 := g.2.2
            omega
        · rw [hf2 _ e1.1.1 e1.1.2, am_b_1]
          by_cases g : Y 3 y = z
          · exact Or.inl g
          · right
            refine ⟨e1.2, ⟨by have := e1.1; have := hz.1; omega, ?_⟩⟩
            by_cases g2 : am_ah Y z (Y 3 y)
            · exact absurd e2 (ym _ e1.1.1 (by have := e1.1; omega) ⟨e1.2, g2⟩)
            · have g3 : ¬ (Y 1 z < Y 1 (Y 3 y) ∨ (Y 1 z = Y 1 (Y 3 y) ∧ z < Y 3 y)) := fun w => g2 ⟨by have := e1.1; have := hz.1; omega, w⟩
              omega
    have ob : ∀ x, 0 ≤ x → x < 24 → ay_opn Y (ay_or f z) x → Y 2 x = p ∧ am_ah Y z x := by
      intro x x0 x1 ⟨o1, o2, o3⟩
      have i3 : av_pi Y p (Y 3 x) := by
        by_cases r : 0 ≤ Y 3 x ∧ Y 3 x < 24
        · rw [hf2 _ r.1 r.2, am_b_1] at o3
          rcases o3 with g | g
          · rw [g]
            exact hz
          · exact ⟨r, g.1⟩
        · exfalso
          rcases hY.1.2.2.2.1 x x0 x1 with d | d
          · exact o2 d.2.1
          · obtain ⟨hb, hn, T, ht, ha⟩ := hY
            obtain ⟨s, es⟩ : ∃ s : Nat, Y 2 x = (s : Int) := ⟨(Y 2 x).toNat, by omega⟩
            have h7 := hb.1
            have s4 : s < 4 := by omega
            have xs := ha s s4 x x0 x1 es
            rcases at_chi (T s) _ _ (ht.1 s s4) xs with c | c
            · exact o2 c.2
            · exact r (at_is_in (T s) _ _ _ (ht.1 s s4) c.1)
      have hx := h2 x x0 x1 i3
      rw [hf2 x x0 x1, am_b_0] at o1
      refine ⟨hx, ⟨by have := hz.1; omega, ?_⟩⟩
      have a3 : x ≠ z := fun e => o1 (Or.inl e)
      have a4 : ¬ (Y 1 x < Y 1 z ∨ (Y 1 x = Y 1 z ∧ x < z)) := fun e => o1 (Or.inr ⟨hx, by have := hz.1; omega, e⟩)
      omega
    have eb : ay_bst Y (ay_or f z) 24 = y := by
      rcases av_bst (Y := Y) (f := ay_or f z) 24 (by omega) with ⟨b1, b2⟩ | ⟨b1, b2, b3⟩
      · exact absurd yo (b2 y (by omega) (by omega))
      · have c1 := b3 y (by omega) (by omega) yo
        have c2 := ym _ b1.1 b1.2 (ob _ b1.1 b1.2 b2)
        have c3 : ¬ (Y 1 y < Y 1 (ay_bst Y (ay_or f z) 24) ∨ (Y 1 y = Y 1 (ay_bst Y (ay_or f z) 24) ∧ y < ay_bst Y (ay_or f z) 24)) := fun w => c1 ⟨by omega, w⟩
        have c4 : ¬ (Y 1 (ay_bst Y (ay_or f z) 24) < Y 1 y ∨ (Y 1 (ay_bst Y (ay_or f z) 24) = Y 1 y ∧ ay_bst Y (ay_or f z) 24 < y)) := fun w => c2 ⟨by omega, w⟩
        omega
    rw [eb]
    have iff : ∀ x, 0 ≤ x → x < 24 → (am_ba Y y p x ↔ (x = z ∨ am_ba Y z p x)) := by
      intro x x0 x1
      have g1 := y2.2
      have hz0 := hz.1
      constructor
      · intro ⟨a, ⟨r, b⟩⟩
        by_cases e : x = z
        · exact Or.inl e
        · right
          refine ⟨a, ⟨by omega, ?_⟩⟩
          by_cases e2 : Y 1 x < Y 1 z ∨ (Y 1 x = Y 1 z ∧ x < z)
          · exact e2
          · exact absurd ⟨r, b⟩ (ym x x0 x1 ⟨a, ⟨by omega, by omega⟩⟩)
      · intro h
        rcases h with h | ⟨a, ⟨r, b⟩⟩
        · subst h
          exact ⟨hz.2, y2⟩
        · exact ⟨a, ⟨by omega, by omega⟩⟩
    have eR : av_R Y p y = av_R Y p z + 1 := by
      have e := av_sm1 (f := fun x => am_b (am_ba Y y p x)) (g := fun x => am_b (am_ba Y z p x)) (z := z) hz.1.1 24 (fun i i0 i1 => by
        show am_b (am_ba Y y p i) = am_b (am_ba Y z p i) + if i = z then 1 else 0
        by_cases q : i = z
        · rw [if_pos q, show am_b (am_ba Y y p i) = 1 by rw [am_b_1]; exact (iff i i0 i1).mpr (Or.inl q), show am_b (am_ba Y z p i) = 0 by rw [am_b_0]; intro ⟨_, _, w⟩; rw [q] at w; omega]
          rfl
        · rw [if_neg q, Int.add_zero]
          unfold am_b
          by_cases q2 : am_ba Y z p i
          · rw [if_pos q2, if_pos ((iff i i0 i1).mpr (Or.inr q2))]
          · rw [if_neg q2, if_neg (fun w => ((iff i i0 i1).mp w).elim q q2)])
      rw [if_pos (by have := hz.1; omega)] at e
      exact e
    obtain ⟨r1, r2⟩ := ih (ay_or f z) y hy (fun k hk => by
      rw [hf2 k (by omega) (by omega)]
      unfold am_b
      by_cases q : am_ba Y y p k
      · rw [if_pos q, if_pos ((iff k (by omega) (by omega)).mp q)]
      · rw [if_neg q, if_neg (fun w => q ((iff k (by omega) (by omega)).mpr w))]) (by omega)
    exact ⟨r1, by omega⟩
theorem av_fd {P : Int → Prop} [DecidablePred P] {r : Int} (hr : P r) : ∀ (m : Nat) (i : Int), i ≤ r → r < i + m → (∀ x, i ≤ x → x < i + m → P x → x = r) → am_fd P m i = r := by
  intro m
  induction m with
  | zero => intro i a b _; omega
  | succ m ih =>
    intro i a b h
    rw [am_fd]
    by_cases q : P i
    · rw [if_pos q]
      exact h i (by omega) (by omega) q
    · rw [if_neg q]
      have : i ≠ r := fun e => q (by rw [e]; exact hr)
      exact ih (i + 1) (by omega) (by omega) (fun x c d => h x (by omega) (by omega))
theorem av_rank {Y : Nat → Int → Int} {p l : Int} (hY : av_Y Y) (hp : 0 ≤ p ∧ p < Y 0 7) (ho : am_oa Y p ≤ 0) (hl : 0 ≤ l ∧ l < ac_in Y p) : ay_rk Y l.toNat 0 (am_gt (Y 6) 4 p) = am_fd (am_rp Y p l) 24 0 := by
  obtain ⟨h1, h2, h3⟩ := av_pr hY hp ho
  have ha : av_pi Y p (am_gt (Y 6) 4 p) := by
    refine h3 ?_
    obtain ⟨x, x0, x1⟩ := av_sm2 (f := fun _ => 0) (g := fun x => am_b (Y 2 x = p)) 24 (by
      rw [av_sm0 24 (fun _ _ _ => rfl)]
      have : am_sm (fun x => am_b (Y 2 x = p)) 24 = ac_in Y p := rfl
      omega)
    refine ⟨x, by omega, ?_⟩
    by_cases q : Y 2 x = p
    · exact q
    · have e0 : am_b (Y 2 x = p) = 0 := by rw [am_b_0]; exact q
      have x1' : 0 < am_b (Y 2 x = p) := x1
      omega
  have no : ∀ k, 0 ≤ k → k < 24 → ¬ am_ba Y (am_gt (Y 6) 4 p) p k := by
    intro k k0 k1 ⟨a, ⟨_, b⟩⟩
    rcases h1 k ⟨⟨k0, k1⟩, a⟩ with e | ⟨_, _, e⟩
    · rw [← e] at b
      omega
    · have := e.2
      omega
  have R0 : av_R Y p (am_gt (Y 6) 4 p) = 0 := av_sm0 24 (fun i a b => by
    show am_b (am_ba Y (am_gt (Y 6) 4 p) p i) = 0
    rw [am_b_0]
    exact no i a (by omega))
  obtain ⟨r1, r2⟩ := av_rk hY hp ho l.toNat 0 (am_gt (Y 6) 4 p) ha (fun k hk => by
    rw [av_k5 k hk, show am_b (am_ba Y (am_gt (Y 6) 4 p) p k) = 0 by rw [am_b_0]; exact no k (by omega) (by omega)]) (by omega)
  rw [R0] at r2
  symm
  have mono : ∀ a c, av_pi Y p a → am_ah Y a c → av_R Y p a < av_R Y p c := by
    intro a c hain hah
    refine (av_sm3 (f := fun x => am_b (am_ba Y a p x)) (g := fun x => am_b (am_ba Y c p x)) 24 (fun i i0 i1 => ?_)).2 ⟨a, hain.1, ?_⟩
    · show am_b (am_ba Y a p i) ≤ am_b (am_ba Y c p i)
      by_cases q : am_ba Y a p i
      · have : am_ba Y c p i := by
          obtain ⟨q1, q2, q3⟩ := q
          obtain ⟨g1, g2⟩ := hah
          exact ⟨q1, by omega, by omega⟩
        rw [show am_b (am_ba Y a p i) = 1 by rw [am_b_1]; exact q, show am_b (am_ba Y c p i) = 1 by rw [am_b_1]; exact this]
        exact Int.le_refl _
      · rw [show am_b (am_ba Y a p i) = 0 by rw [am_b_0]; exact q]
        exact am_b_le.1
    · show am_b (am_ba Y a p a) < am_b (am_ba Y c p a)
      rw [show am_b (am_ba Y a p a) = 0 by rw [am_b_0]; intro ⟨_, _, w⟩; omega, show am_b (am_ba Y c p a) = 1 by rw [am_b_1]; exact ⟨hain.2, hah⟩]
      decide
  refine av_fd (P := am_rp Y p l) ⟨r1.2, ?_⟩ 24 0 r1.1.1 (by have := r1.1; omega) (fun x x0 x1 hx => ?_)
  · have : av_R Y p (ay_rk Y l.toNat 0 (am_gt (Y 6) 4 p)) = l := by omega
    exact this
  · have hxi : av_pi Y p x := ⟨⟨x0, by omega⟩, hx.1⟩
    have hxR : av_R Y p x = l := hx.2
    generalize ay_rk Y l.toNat 0 (am_gt (Y 6) 4 p) = r at *
    by_cases e : x = r
    · exact e
    · exfalso
      have x0' := hxi.1
      have r0' := r1.1
      by_cases g : Y 1 x < Y 1 r ∨ (Y 1 x = Y 1 r ∧ x < r)
      · have := mono x r hxi ⟨by omega, g⟩
        omega
      · have := mono r x r1 ⟨by omega, by omega⟩
        omega
