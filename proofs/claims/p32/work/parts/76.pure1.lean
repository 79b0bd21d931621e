/-! ===== depth, logs under, counts: in trees ===== -/
def at_de : at_T → Int → Nat
  | .leaf _, _ => 0
  | .branch n l r, x => if x = (n : Int) then 0 else if 0 < at_ct l x then at_de l x + 1 else at_de r x + 1
theorem de_lt {x : Int} : ∀ (t : at_T), 0 < at_ct t x → at_de t x < at_sz t := by
  intro t
  induction t with
  | leaf v => intro h; exact absurd h (by simp [at_ct])
  | branch n l r ihl ihr =>
    intro h
    simp only [at_ct] at h
    rw [at_de, at_sz]
    by_cases q : x = (n : Int)
    · rw [if_pos q]; omega
    · rw [if_neg q] at h ⊢
      by_cases q2 : 0 < at_ct l x
      · rw [if_pos q2]
        have := ihl q2
        omega
      · rw [if_neg q2]
        have := ihr (by omega)
        omega
theorem de_dp {Y : Nat → Int → Int} {x : Int} : ∀ (t : at_T) (u a : Int), at_is Y t u a → 0 < at_ct t x → ∀ n : Nat, am_dp (am_gt (Y 3) 24) (n + at_de t x) (Y 3 x) = (at_de t x : Int) + am_dp (am_gt (Y 3) 24) n u := by
  intro t
  induction t with
  | leaf v => intro u a _ h; exact absurd h (by simp [at_ct])
  | branch h l r ihl ihr =>
    intro u a hI hx n
    obtain ⟨⟨ha, hh, hu⟩, hl, hr⟩ := hI
    simp only [at_ct] at hx
    have fh : am_gt (Y 3) 24 h = u := by rw [at_gt (n := 24) (by omega), hu]
    have st1 : am_dp (am_gt (Y 3) 24) (n + 1) h = 1 + am_dp (am_gt (Y 3) 24) n u := by
      rw [am_dp, if_neg (by omega), fh]
    rw [at_de]
    by_cases q : x = (h : Int)
    · rw [if_pos q, q, hu]
      simp
    · rw [if_neg q] at hx ⊢
      by_cases q2 : 0 < at_ct l x
      · rw [if_pos q2]
        have := ihl _ _ hl q2 (n + 1)
        rw [show n + (at_de l x + 1) = n + 1 + at_de l x by omega, this, st1]
        omega
      · rw [if_neg q2]
        have := ihr _ _ hr (by omega) (n + 1)
        rw [show n + (at_de r x + 1) = n + 1 + at_de r x by omega, this, st1]
        omega
theorem dp_no {f : Int → Int} {n : Nat} : am_dp f n (-1) = 0 := by cases n <;> rfl
theorem de_n {Y : Nat → Int → Int} {x a : Int} {t : at_T} (hI : at_is Y t (-1) a) (hx : 0 < at_ct t x) {n : Nat} (hn : at_de t x ≤ n) : am_dp (am_gt (Y 3) 24) n (Y 3 x) = (at_de t x : Int) := by
  have h := de_dp t (-1) a hI hx (n - at_de t x)
  rw [show n - at_de t x + at_de t x = n by omega, dp_no] at h
  omega
theorem fi_no {x : Int} : ∀ (t : at_T), at_ct t x = 0 → at_fi x t = (.leaf (), .leaf ()) := by
  intro t
  induction t with
  | leaf v => intro _; rfl
  | branch n l r ihl ihr =>
    intro h
    simp only [at_ct] at h
    have q : x ≠ (n : Int) := by
      intro q
      rw [if_pos q] at h
      omega
    rw [at_fi, if_neg q, if_neg (by omega)]
    exact ihr (by omega)
theorem fi_le {x y : Int} : ∀ (t : at_T), at_ct (at_fi x t).1 y + at_ct (at_fi x t).2 y ≤ at_ct t y := by
  intro t
  induction t with
  | leaf v => exact Nat.zero_le _
  | branch n l r ihl ihr =>
    rw [at_fi]
    simp only [at_ct]
    by_cases q : x = (n : Int)
    · rw [if_pos q]; dsimp only; omega
    · rw [if_neg q]
      by_cases q2 : 0 < at_ct l x
      · rw [if_pos q2]; omega
      · rw [if_neg q2]; omega
theorem fi_su {x : Int} {h : Nat} {a b : at_T} : ∀ (t : at_T), (∀ z, at_ct t z ≤ 1) → 0 < at_ct t x → ((at_fi x t).1 = .branch h a b ∨ (at_fi x t).2 = .branch h a b) → at_fi h t = (a, b) := by
  intro t
  induction t with
  | leaf v => intro _ hx; exact absurd hx (by simp [at_ct])
  | branch m l r ihl ihr =>
    intro hn hx hb
    have hin : at_ct (.branch h a b) (h : Int) ≥ 1 := by simp only [at_ct, if_true]; omega
    have hle := fi_le (x := x) (y := (h : Int)) (.branch m l r)
    have hnh := hn (h : Int)
    have hnm := hn (m : Int)
    simp only [at_ct, if_true] at hnh hnm hx
    rw [at_fi] at hb hle
    rw [at_fi]
    by_cases q : x = (m : Int)
    · rw [if_pos q] at hb
      dsimp only at hb
      rcases hb with hb | hb
      · have h1 : 0 < at_ct l (h : Int) := by rw [hb]; omega
        rw [if_neg (fun z => by rw [← z] at hnm; omega), if_pos h1, hb, at_fi, if_pos rfl]
      · have h1 : 0 < at_ct r (h : Int) := by rw [hb]; omega
        rw [if_neg (fun z => by rw [← z] at hnm; omega), if_neg (by omega), hb, at_fi, if_pos rfl]
    · rw [if_neg q] at hb hx
      by_cases q2 : 0 < at_ct l x
      · rw [if_pos q2] at hb
        have h2 := fi_le (x := x) (y := (h : Int)) l
        have h1 : 0 < at_ct l (h : Int) := by
          rcases hb with hb | hb <;> rw [hb] at h2 <;> omega
        rw [if_neg (fun z => by rw [← z] at hnm; omega), if_pos h1]
        exact ihl (fun z => by have := hn z; simp only [at_ct] at this; omega) q2 hb
      · rw [if_neg q2] at hb
        have h2 := fi_le (x := x) (y := (h : Int)) r
        have h1 : 0 < at_ct r (h : Int) := by
          rcases hb with hb | hb <;> rw [hb] at h2 <;> omega
        rw [if_neg (fun z => by rw [← z] at hnm; omega), if_neg (by omega)]
        exact ihr (fun z => by have := hn z; simp only [at_ct] at this; omega) (by omega) hb
theorem ul_t {Y : Nat → Int → Int} {x y : Int} (hx0 : x ≠ -1) : ∀ (t : at_T) (u a : Int), at_is Y t u a → (∀ z, at_ct t z ≤ 1) → 0 < at_ct t y → ∀ n : Nat, am_ul (am_gt (Y 3) 24) x (n + at_de t y) (Y 3 y) = if 0 < at_ct (at_fi x t).1 y + at_ct (at_fi x t).2 y then x else am_ul (am_gt (Y 3) 24) x n u := by
  intro t
  induction t with
  | leaf v => intro u a _ _ h; exact absurd h (by simp [at_ct])
  | branch h l r ihl ihr =>
    intro u a hI hn hy n
    obtain ⟨⟨ha, hh, hu⟩, hl, hr⟩ := hI
    have hny := hn y
    have hnh := hn (h : Int)
    have hnx := hn x
    simp only [at_ct] at hy hny hnx
    simp only [at_ct, if_true] at hnh
    have fh : am_gt (Y 3) 24 h = u := by rw [at_gt (n := 24) (by omega), hu]
    have st1 : am_ul (am_gt (Y 3) 24) x (n + 1) h = if x = (h : Int) then x else am_ul (am_gt (Y 3) 24) x n u := by
      rw [am_ul]
      by_cases q : x = (h : Int)
      · rw [if_pos (Or.inr q.symm), if_pos q, q]
      · rw [if_neg (fun z => by rcases z with z | z <;> omega), if_neg q, fh]
    have lel := fi_le (x := x) (y := y) l
    have ler := fi_le (x := x) (y := y) r
    rw [at_de, at_fi]
    by_cases q : y = (h : Int)
    · rw [if_pos q, q, hu]
      have z : ¬ 0 < at_ct (if x = (h : Int) then (l, r) else if 0 < at_ct l x then at_fi x l else at_fi x r).1 (h : Int) + at_ct (if x = (h : Int) then (l, r) else if 0 < at_ct l x then at_fi x l else at_fi x r).2 (h : Int) := by
        have h1 := fi_le (x := x) (y := (h : Int)) l
        have h2 := fi_le (x := x) (y := (h : Int)) r
        by_cases q1 : x = (h : Int)
        · rw [if_pos q1]; dsimp only; omega
        · rw [if_neg q1]
          by_cases q2 : 0 < at_ct l x
          · rw [if_pos q2]; omega
          · rw [if_neg q2]; omega
      rw [if_neg z]
      rfl
    · rw [if_neg q] at hy hny ⊢
      by_cases q2 : 0 < at_ct l y
      · have ih := ihl _ _ hl (fun z => by have := hn z; simp only [at_ct] at this; omega) q2 (n + 1)
        rw [if_pos q2, show n + (at_de l y + 1) = n + 1 + at_de l y by omega, ih, st1]
        by_cases q3 : x = (h : Int)
        · have e := fi_no (x := x) l (by rw [q3]; omega)
          rw [e, if_pos q3, if_pos q3, if_neg (by simp [at_ct]), if_pos (by dsimp only; omega)]
        · rw [if_neg q3, if_neg q3]
          by_cases q4 : 0 < at_ct l x
          · rw [if_pos q4]
          · rw [if_neg q4, fi_no (x := x) l (by omega), if_neg (by simp [at_ct]), if_neg (by omega)]
      · have ih := ihr _ _ hr (fun z => by have := hn z; simp only [at_ct] at this; omega) (by omega) (n + 1)
        rw [if_neg q2, show n + (at_de r y + 1) = n + 1 + at_de r y by omega, ih, st1]
        by_cases q3 : x = (h : Int)
        · have e := fi_no (x := x) r (by rw [q3]; omega)
          rw [e, if_pos q3, if_pos q3, if_neg (by simp [at_ct]), if_pos (by dsimp only; omega)]
        · rw [if_neg q3, if_neg q3]
          rw [if_neg q3] at hnx
          by_cases q4 : 0 < at_ct l x
          · rw [if_pos q4, fi_no (x := x) r (by omega), if_neg (by simp [at_ct]), if_neg (by omega)]
          · rw [if_neg q4]
theorem ul_no {f : Int → Int} {x : Int} {n : Nat} : am_ul f x n (-1) = -1 := by
  cases n with
  | zero => rfl
  | succ n => rw [am_ul, if_pos (Or.inl rfl)]
theorem ul_n {Y : Nat → Int → Int} {x y a : Int} {t : at_T} (hx0 : x ≠ -1) (hI : at_is Y t (-1) a) (hn : ∀ z, at_ct t z ≤ 1) (hy : 0 < at_ct t y) {n : Nat} (hd : at_de t y ≤ n) : am_ul (am_gt (Y 3) 24) x n (Y 3 y) = if 0 < at_ct (at_fi x t).1 y + at_ct (at_fi x t).2 y then x else -1 := by
  have h := ul_t hx0 t (-1) a hI hn hy (n - at_de t y)
  rw [show n - at_de t y + at_de t y = n by omega, ul_no] at h
  exact h
theorem sm_su {g : Int → Nat} : ∀ n : Nat, am_sm (fun y => (g y : Int)) n = (at_su g n : Int) := by
  intro n
  induction n with
  | zero => rfl
  | succ n ih =>
    rw [am_sm, at_su, ih]
    exact (Int.natCast_add _ _).symm
abbrev py_u (Y : Nat → Int → Int) (x : Int) : Int := am_sm (fun y => am_b (am_un Y x y)) 24
section PY1
variable {Y : Nat → Int → Int} {T : Nat → at_T} {p : Nat} {x : Int}
theorem py_sz (h1 : av_tr Y T) {q : Nat} (hq : q < 4) : at_sz (T q) ≤ 24 := by
  have := at_sz_le (s := T q) (w := .leaf ()) (fun x => by have := h1.2.1 q hq x; simp only [at_ct]; omega) (fun x hx => (av_in h1 hq hx).2) (fun x hx => by simp [at_ct] at hx)
  simp only [at_sz] at this
  omega
theorem py_un (hb : av_b Y) (h1 : av_tr Y T) (h2 : av_al Y T) (hp : p < 4) (hx : 0 < at_ct (T p) x) : py_u Y x = (at_sz (at_fi x (T p)).1 : Int) + at_sz (at_fi x (T p)).2 := by
  have hxr := av_in h1 hp hx
  have hx0 : x ≠ -1 := by omega
  have hin := fun y => fi_le (x := x) (y := y) (T p)
  have e : am_sm (fun y => am_b (am_un Y x y)) 24 = am_sm (fun y => (((fun y => at_ct (at_fi x (T p)).1 y + at_ct (at_fi x (T p)).2 y) y : Nat) : Int)) 24 := av_sm_cg 24 (fun y a b => by
    have hd1 := h1.2.1 p hp y
    have hy1 := hin y
    have fy : am_gt (Y 3) 24 y = Y 3 y := at_gt (n := 24) (by omega)
    by_cases q : 0 < at_ct (at_fi x (T p)).1 y + at_ct (at_fi x (T p)).2 y
    · have hyp : 0 < at_ct (T p) y := by omega
      have h2y := h1.2.2 p hp y hyp
      have hd := de_lt (T p) hyp
      have hs := py_sz h1 hp
      have hu := ul_n (n := 24) hx0 (h1.1 p hp) (h1.2.1 p hp) hyp (by omega)
      rw [if_pos q] at hu
      have : am_un Y x y := ⟨by omega, by rw [fy]; exact hu⟩
      rw [am_b, if_pos this]
      show (1 : Int) = ((at_ct (at_fi x (T p)).1 y + at_ct (at_fi x (T p)).2 y : Nat) : Int)
      omega
    · have hno : ¬ am_un Y x y := by
        intro z
        obtain ⟨z1, z2⟩ := z
        obtain ⟨r, hr, e2, hyr⟩ := av_who hb h2 (by omega) (by omega) z1
        have hd := de_lt (T r) hyr
        have hs := py_sz h1 hr
        have hu := ul_n (n := 24) hx0 (h1.1 r hr) (h1.2.1 r hr) hyr (by omega)
        rw [fy, hu] at z2
        by_cases q2 : r = p
        · rw [q2, if_neg q] at z2
          omega
        · have h0 : at_ct (T r) x = 0 := by
            rcases av_dj h1 hp hr (fun z => q2 z.symm) x with z | z
            · omega
            · exact z
          rw [fi_no _ h0, if_neg (by simp [at_ct])] at z2
          omega
      rw [am_b, if_neg hno]
      show (0 : Int) = ((at_ct (at_fi x (T p)).1 y + at_ct (at_fi x (T p)).2 y : Nat) : Int)
      omega)
  show am_sm (fun y => am_b (am_un Y x y)) 24 = _
  rw [e, sm_su, at_su_add, at_su_ct _ (fun y hy => (av_in h1 hp (by have := hin y; omega)).2), at_su_ct _ (fun y hy => (av_in h1 hp (by have := hin y; omega)).2)]
  exact Int.natCast_add _ _
theorem py_cn (h1 : av_tr Y T) (h2 : av_al Y T) (hp : p < 4) : ac_in Y p = (at_sz (T p) : Int) := by
  have e : am_sm (fun y => am_b (Y 2 y = (p : Int))) 24 = am_sm (fun y => ((at_ct (T p) y : Nat) : Int)) 24 := av_sm_cg 24 (fun y a b => by
    have hd1 := h1.2.1 p hp y
    by_cases q : Y 2 y = (p : Int)
    · have := h2 p hp y a b q
      rw [am_b, if_pos q]
      show (1 : Int) = ((at_ct (T p) y : Nat) : Int)
      omega
    · have : at_ct (T p) y = 0 := by
        refine Decidable.byContradiction (fun z => q ?_)
        exact h1.2.2 p hp y (by omega)
      rw [am_b, if_neg q, this]
      rfl)
  show am_sm (fun y => am_b (Y 2 y = (p : Int))) 24 = _
  rw [e, sm_su, at_su_ct _ (fun y hy => (av_in h1 hp hy).2)]
theorem py_ch (h1 : av_tr Y T) (hp : p < 4) (hx : 0 < at_ct (T p) x) {c : Nat} (hc : c = 4 ∨ c = 5) (hl : Y c x ≠ -1) : 0 < at_ct (T p) (Y c x) ∧ Y 3 (Y c x) = x ∧ ∃ (h : Nat) (a b : at_T), Y c x = (h : Int) ∧ (if c = 4 then (at_fi x (T p)).1 else (at_fi x (T p)).2) = .branch h a b ∧ at_fi (Y c x) (T p) = (a, b) := by
  obtain ⟨i1, i2, i3⟩ := at_fi_is (T p) _ _ (h1.1 p hp) hx
  have hd := h1.2.1 p hp
  rcases hc with hc | hc
  · subst hc
    rw [if_pos rfl]
    cases e : (at_fi x (T p)).1 with
    | leaf v => rw [e] at i1; exact absurd i1 hl
    | branch h a b =>
      rw [e] at i1
      obtain ⟨⟨k1, k2, k3⟩, -, -⟩ := i1
      have i4 := i3 (h : Int)
      rw [e] at i4
      simp only [at_ct, if_true] at i4
      refine ⟨by rw [k1]; omega, by rw [k1]; exact k3, h, a, b, k1, rfl, ?_⟩
      rw [k1]
      exact fi_su (T p) hd hx (Or.inl e)
  · subst hc
    rw [if_neg (by decide)]
    cases e : (at_fi x (T p)).2 with
    | leaf v => rw [e] at i2; exact absurd i2 hl
    | branch h a b =>
      rw [e] at i2
      obtain ⟨⟨k1, k2, k3⟩, -, -⟩ := i2
      have i4 := i3 (h : Int)
      rw [e] at i4
      simp only [at_ct, if_true] at i4
      refine ⟨by rw [k1]; omega, by rw [k1]; exact k3, h, a, b, k1, rfl, ?_⟩
      rw [k1]
      exact fi_su (T p) hd hx (Or.inr e)
theorem py_ur (hb : av_b Y) (h1 : av_tr Y T) (h2 : av_al Y T) (hp : p < 4) (hx : 0 < at_ct (T p) x) : py_u Y x = (if Y 4 x = -1 then 0 else 1 + py_u Y (Y 4 x)) + (if Y 5 x = -1 then 0 else 1 + py_u Y (Y 5 x)) := by
  obtain ⟨i1, i2, i3⟩ := at_fi_is (T p) _ _ (h1.1 p hp) hx
  have e1 : ((at_sz (at_fi x (T p)).1 : Nat) : Int) = if Y 4 x = -1 then 0 else 1 + py_u Y (Y 4 x) := by
    by_cases q : Y 4 x = -1
    · rw [if_pos q]
      cases e : (at_fi x (T p)).1 with
      | leaf v => rfl
      | branch h a b => rw [e] at i1; have := i1.1.1; omega
    · obtain ⟨c1, -, h, a, b, c2, c3, c4⟩ := py_ch h1 hp hx (Or.inl rfl) q
      rw [if_pos rfl] at c3
      rw [if_neg q, py_un hb h1 h2 hp c1, c4, c3, at_sz]
      dsimp only
      omega
  have e2 : ((at_sz (at_fi x (T p)).2 : Nat) : Int) = if Y 5 x = -1 then 0 else 1 + py_u Y (Y 5 x) := by
    by_cases q : Y 5 x = -1
    · rw [if_pos q]
      cases e : (at_fi x (T p)).2 with
      | leaf v => rfl
      | branch h a b => rw [e] at i2; have := i2.1.1; omega
    · obtain ⟨c1, -, h, a, b, c2, c3, c4⟩ := py_ch h1 hp hx (Or.inr rfl) q
      rw [if_neg (by decide)] at c3
      rw [if_neg q, py_un hb h1 h2 hp c1, c4, c3, at_sz]
      dsimp only
      omega
  rw [py_un hb h1 h2 hp hx, e1, e2]
theorem py_ut (hb : av_b Y) (h1 : av_tr Y T) (h2 : av_al Y T) (hp : p < 4) (ht : Y 6 p ≠ -1) : py_u Y (Y 6 p) = ac_in Y p - 1 := by
  have hI := h1.1 p hp
  cases e : T p with
  | leaf v => rw [e] at hI; exact absurd hI ht
  | branch h l r =>
    rw [e] at hI
    have e6 : Y 6 p = (h : Int) := hI.1.1
    have hx : 0 < at_ct (T p) (Y 6 p) := by
      rw [e, e6]
      simp only [at_ct, if_true]
      omega
    rw [py_un hb h1 h2 hp hx, py_cn h1 h2 hp, e, e6, at_fi, if_pos rfl, at_sz]
    dsimp only
    omega
theorem py_dp (h1 : av_tr Y T) (hp : p < 4) (hx : 0 < at_ct (T p) x) (hu : Y 3 x ≠ -1) : ay_dep Y x = 1 + ay_dep Y (Y 3 x) := by
  have hxr := av_in h1 hp hx
  have hup : 0 < at_ct (T p) (Y 3 x) := by
    rcases at_chi (T p) _ _ (h1.1 p hp) hx with h | h
    · exact absurd h.2 hu
    · exact h.1
  have hur := av_in h1 hp hup
  have hd := de_lt (T p) hup
  have hs := py_sz h1 hp
  have f1 : am_gt (Y 3) 24 x = Y 3 x := at_gt (n := 24) (by omega)
  have f2 : am_gt (Y 3) 24 (Y 3 x) = Y 3 (Y 3 x) := at_gt (n := 24) (by omega)
  unfold ay_dep
  rw [f1, f2, de_n (n := 24) (h1.1 p hp) hup (by omega), am_dp, if_neg hu, f2, de_n (n := 23) (h1.1 p hp) hup (by omega)]
end PY1
