/-! ===== the class's join is the trees' join ===== -/
def at_lf : Nat → Int → Int
  | 0, x => x
  | k + 1, x => at_lf k (am_w (x + 1))
theorem at_j2_fr {Y : Nat → Int → Int} {h z x : Int} {c : Nat} (h5 : c ≠ 5 ∨ x ≠ h) (h4 : c ≠ 4 ∨ x ≠ z) (h3 : c ≠ 3 ∨ x ≠ h) : am_j2 Y h z c x = Y c x := by
  unfold am_j2
  rw [ay_pt_ne h3, ay_pt_ne h4, ay_pt_ne h5]
theorem at_j2_D {Y : Nat → Int → Int} {h z : Int} : am_j2 Y h z 1 = Y 1 := by
  funext x
  exact at_j2_fr (Or.inl (by decide)) (Or.inl (by decide)) (Or.inl (by decide))
theorem at_j1_fr {Y : Nat → Int → Int} {x : Int} {c : Nat} (h : c ≠ 0 ∨ x ≠ 11) : am_j1 Y c x = Y c x := ay_uy_ne h
theorem at_j1_f {Y : Nat → Int → Int} {c : Nat} (h : c ≠ 0) : am_j1 Y c = Y c := by
  funext x
  exact at_j1_fr (Or.inl h)
theorem at_gt {f : Int → Int} {n : Nat} {i : Int} (h : 0 ≤ i ∧ i < (n : Int)) : am_gt f n i = f i := if_pos h
def at_cn (s w : at_T) (z x : Int) : Nat := at_ct s x + at_ct w x + (if x = z then 1 else 0)
/-- what a join of two trees under a hook gives -/
def at_res (Y : Nat → Int → Int) (s w : at_T) (t z : Int) (J : at_T) (k : Nat) (R : (Nat → Int → Int) × Int) : Prop :=
  at_is R.1 J z (at_ro J) ∧ (0 ≤ z → R.1 4 z = at_ro J) ∧ (R.2 = if t = -1 then at_ro J else t) ∧
  (∀ x, at_ct s x + at_ct w x = 0 → x ≠ z → R.1 3 x = Y 3 x ∧ R.1 4 x = Y 4 x ∧ R.1 5 x = Y 5 x) ∧ (R.1 3 z = Y 3 z ∧ R.1 5 z = Y 5 z) ∧ R.1 0 11 = at_lf k (Y 0 11)
theorem at_end {Y : Nat → Int → Int} {s w J : at_T} {o q t z : Int} (hz : -1 ≤ z ∧ z < 24) (hJ : at_rt Y J (if o = -1 then q else o)) (hc : ∀ x, at_ct J x ≤ at_ct s x + at_ct w x) (hn : ∀ x, at_cn s w z x ≤ 1) (hi : ∀ x, 0 < at_ct J x → 0 ≤ x ∧ x < 24) : at_res Y s w t z J 0 (am_jf Y o q t z) := by
  have hr := at_rt_ro hJ
  unfold am_jf
  rw [hr] at hJ ⊢
  have nz : at_ct J z = 0 := by
    have h1 := hn z
    have h2 := hc z
    unfold at_cn at h1
    rw [if_pos rfl] at h1
    omega
  have hro : 0 ≤ at_ro J → at_ro J ≠ z := by
    intro h1 h2
    have h3 := at_ro_ct (t := J) (by omega)
    rw [h2] at h3
    omega
  have e3 : ∀ x, x ≠ at_ro J → am_pt (am_pt Y 4 24 z (at_ro J)) 3 24 (at_ro J) z 3 x = Y 3 x := by
    intro x hx
    rw [ay_pt_ne (Or.inr hx), ay_pt_ne (Or.inl (by decide))]
  have e4 : ∀ x, x ≠ z → am_pt (am_pt Y 4 24 z (at_ro J)) 3 24 (at_ro J) z 4 x = Y 4 x := by
    intro x hx
    rw [ay_pt_ne (Or.inl (by decide)), ay_pt_ne (Or.inr hx)]
  have e5 : ∀ x, am_pt (am_pt Y 4 24 z (at_ro J)) 3 24 (at_ro J) z 5 x = Y 5 x := by
    intro x
    rw [ay_pt_ne (Or.inl (by decide)), ay_pt_ne (Or.inl (by decide))]
  have hn1 : ∀ x, at_ct J x ≤ 1 := fun x => by
    have h1 := hn x
    have h2 := hc x
    unfold at_cn at h1
    omega
  have ne : ∀ x, 0 < at_ct J x → x ≠ z := by
    intro x h1 h2
    rw [h2] at h1
    omega
  refine ⟨?_, ?_, rfl, ?_, ?_, ?_⟩
  · refine at_rt_is (at_rt_fr (fun x hx => ⟨e3 x, e4 x (ne x hx), e5 x⟩) hn1 hJ) (fun h => ?_)
    have := hi _ (at_ro_ct h)
    exact ay_pt_eq (by omega)
  · intro h0
    show am_pt (am_pt Y 4 24 z (at_ro J)) 3 24 (at_ro J) z 4 z = at_ro J
    rw [ay_pt_ne (Or.inl (by decide)), ay_pt_eq (by omega)]
  · intro x hx hxz
    refine ⟨?_, e4 x hxz, e5 x⟩
    by_cases q1 : x = at_ro J
    · by_cases q2 : at_ro J = -1
      · show am_pt (am_pt Y 4 24 z (at_ro J)) 3 24 (at_ro J) z 3 x = Y 3 x
        rw [ay_pt_no (by omega), ay_pt_ne (Or.inl (by decide))]
      · have h1 := at_ro_ct q2
        have h2 := hc (at_ro J)
        rw [q1] at hx
        omega
    · exact e3 x q1
  · refine ⟨?_, e5 z⟩
    by_cases q1 : z = at_ro J
    · by_cases q2 : at_ro J = -1
      · show am_pt (am_pt Y 4 24 z (at_ro J)) 3 24 (at_ro J) z 3 z = Y 3 z
        rw [ay_pt_no (by omega), ay_pt_ne (Or.inl (by decide))]
      · exact absurd q1.symm (hro (hi _ (at_ro_ct q2)).1)
    · exact e3 z q1
  · show am_pt (am_pt Y 4 24 z (at_ro J)) 3 24 (at_ro J) z 0 11 = Y 0 11
    rw [ay_pt_ne (Or.inl (by decide)), ay_pt_ne (Or.inl (by decide))]
theorem at_step {Y : Nat → Int → Int} {h : Nat} {l r w : at_T} {ow z : Int} (hz : -1 ≤ z ∧ z < 24) (hs : at_rt Y (.branch h l r) h) (hw : at_rt Y w ow) (hn : ∀ x, at_cn (.branch h l r) w z x ≤ 1) :
    at_rt (am_j2 (am_j1 Y) h z) r (Y 5 h) ∧ at_rt (am_j2 (am_j1 Y) h z) w ow ∧ at_is (am_j2 (am_j1 Y) h z) l h (Y 4 h) ∧ (am_j2 (am_j1 Y) h z 5 h = Y 4 h ∧ am_j2 (am_j1 Y) h z 3 h = z ∧ (0 ≤ z → am_j2 (am_j1 Y) h z 4 z = h)) ∧
    (∀ x, x ≠ (h : Int) → am_j2 (am_j1 Y) h z 3 x = Y 3 x ∧ (x ≠ z → am_j2 (am_j1 Y) h z 4 x = Y 4 x) ∧ am_j2 (am_j1 Y) h z 5 x = Y 5 x) := by
  have hh : (0 : Int) ≤ h ∧ (h : Int) < ((24 : Nat) : Int) := by have := hs.1.2; omega
  have hc := hn h
  simp only [at_cn, at_ct, if_true] at hc
  have hzh : (h : Int) ≠ z := by
    intro q
    rw [if_pos q] at hc
    omega
  have fr : ∀ x, x ≠ (h : Int) → am_j2 (am_j1 Y) h z 3 x = Y 3 x ∧ (x ≠ z → am_j2 (am_j1 Y) h z 4 x = Y 4 x) ∧ am_j2 (am_j1 Y) h z 5 x = Y 5 x := by
    intro x hx
    refine ⟨?_, fun hxz => ?_, ?_⟩
    · rw [at_j2_fr (Or.inl (by decide)) (Or.inl (by decide)) (Or.inr hx), at_j1_fr (Or.inl (by decide))]
    · rw [at_j2_fr (Or.inl (by decide)) (Or.inr hxz) (Or.inl (by decide)), at_j1_fr (Or.inl (by decide))]
    · rw [at_j2_fr (Or.inr hx) (Or.inl (by decide)) (Or.inl (by decide)), at_j1_fr (Or.inl (by decide))]
  have fx : ∀ x, 0 < at_ct l x ∨ 0 < at_ct r x ∨ 0 < at_ct w x → x ≠ (h : Int) ∧ x ≠ z := by
    intro x hx
    have h1 := hn x
    simp only [at_cn, at_ct] at h1
    refine ⟨fun q => ?_, fun q => ?_⟩
    · rw [if_pos q] at h1
      omega
    · rw [if_pos q] at h1
      omega
  have all : ∀ x, 0 < at_ct l x ∨ 0 < at_ct r x ∨ 0 < at_ct w x → am_j2 (am_j1 Y) h z 3 x = Y 3 x ∧ am_j2 (am_j1 Y) h z 4 x = Y 4 x ∧ am_j2 (am_j1 Y) h z 5 x = Y 5 x := by
    intro x hx
    have h1 := fx x hx
    have h2 := fr x h1.1
    exact ⟨h2.1, h2.2.1 h1.2, h2.2.2⟩
  refine ⟨?_, ?_, ?_, ⟨?_, ?_, ?_⟩, fr⟩
  · refine at_rt_fr (fun x hx => ?_) (fun x => ?_) (at_is_rt hs.2.2)
    · have := all x (Or.inr (Or.inl hx))
      exact ⟨fun _ => this.1, this.2⟩
    · have h1 := hn x
      simp only [at_cn, at_ct] at h1
      omega
  · refine at_rt_fr (fun x hx => ?_) (fun x => ?_) hw
    · have := all x (Or.inr (Or.inr hx))
      exact ⟨fun _ => this.1, this.2⟩
    · have h1 := hn x
      simp only [at_cn, at_ct] at h1
      omega
  · exact at_is_fr _ _ _ (fun x hx => all x (Or.inl hx)) hs.2.1
  · unfold am_j2
    rw [ay_pt_ne (Or.inl (by decide)), ay_pt_ne (Or.inl (by decide)), ay_pt_eq hh, at_gt hh, at_j1_fr (Or.inl (by decide))]
  · unfold am_j2
    rw [ay_pt_eq hh]
  · intro h0
    unfold am_j2
    rw [ay_pt_ne (Or.inl (by decide)), ay_pt_eq (by omega)]
theorem at_core {Y : Nat → Int → Int} {h k : Nat} {l r w : at_T} {ow t z : Int} (hz : -1 ≤ z ∧ z < 24) (hs : at_rt Y (.branch h l r) h) (hw : at_rt Y w ow) (hn : ∀ x, at_cn (.branch h l r) w z x ≤ 1) {J : at_T} {R : (Nat → Int → Int) × Int}
    (hR : at_res (am_j2 (am_j1 Y) h z) r w (if t = -1 then (h : Int) else t) h J k R) (hJ : ∀ x, at_ct J x = at_ct r x + at_ct w x) {s' w' : at_T} (hsw : ∀ x, at_ct s' x + at_ct w' x = at_ct (.branch h l r) x + at_ct w x) : at_res Y s' w' t z (.branch h J l) (k + 1) R := by
  obtain ⟨s1, s2, s3, ⟨s4, s5, s6⟩, s7⟩ := at_step hz hs hw hn
  obtain ⟨r1, r2, r3, r4, ⟨r5, r6⟩, r7⟩ := hR
  have hzh : (h : Int) ≠ z := by
    intro q
    have hc := hn h
    simp only [at_cn, at_ct, if_true] at hc
    rw [if_pos q] at hc
    omega
  have hh := hs.1.2
  refine ⟨⟨⟨rfl, hh, by rw [r5, s5]⟩, ?_, ?_⟩, fun h0 => ?_, ?_, ?_, ?_, ?_⟩
  · rw [r2 (by omega)]
    exact r1
  · rw [r6, s4]
    refine at_is_fr _ _ _ (fun x hx => ?_) s3
    have h1 := hn x
    simp only [at_cn, at_ct] at h1
    refine r4 x (by omega) (fun q => ?_)
    rw [if_pos q] at h1
    omega
  · have h1 := hn z
    simp only [at_cn, at_ct, if_true] at h1
    rw [(r4 z (by omega) (fun q => hzh q.symm)).2.1, s6 h0]
    rfl
  · rw [r3]
    by_cases q : t = -1
    · rw [if_pos q, if_pos q, if_neg (by omega)]
      rfl
    · rw [if_neg q, if_neg q, if_neg q]
  · intro x hx hxz
    rw [hsw] at hx
    simp only [at_ct] at hx
    have hxh : x ≠ (h : Int) := by
      intro q
      rw [if_pos q] at hx
      omega
    have h1 := r4 x (by omega) hxh
    have h2 := s7 x hxh
    exact ⟨h1.1.trans h2.1, h1.2.1.trans (h2.2.1 hxz), h1.2.2.trans h2.2.2⟩
  · have h1 := hn z
    simp only [at_cn, at_ct, if_true] at h1
    have h2 := r4 z (by omega) (fun q => hzh q.symm)
    have h3 := s7 z (fun q => hzh q.symm)
    exact ⟨h2.1.trans h3.1, h2.2.2.trans h3.2.2⟩
  · rw [r7]
    unfold am_j2
    rw [ay_pt_ne (Or.inl (by decide)), ay_pt_ne (Or.inl (by decide)), ay_pt_ne (Or.inl (by decide))]
    unfold am_j1
    rw [ay_uy_eq]
    rfl
theorem at_jl : ∀ (n : Nat) (Y : Nat → Int → Int) (s w : at_T) (o q t z : Int), (-1 ≤ z ∧ z < 24) → at_rt Y s o → at_rt Y w q → (∀ x, at_cn s w z x ≤ 1) → at_sz s + at_sz w ≤ n + 1 → at_res Y s w t z (at_jn (Y 1) n s w) (at_co (Y 1) n s w) (am_jl n Y o q t z) := by
  intro n
  induction n with
  | zero =>
    intro Y s w o q t z hz hs hw hn hsz
    rw [am_jl]
    cases s with
    | leaf v =>
      rw [at_jn_l, at_co_l]
      have ho : o = -1 := hs
      exact at_end hz (by rw [if_pos ho]; exact hw) (fun x => Nat.le_add_left _ _) hn (fun x hx => at_rt_in hw hx)
    | branch a l r =>
      cases w with
      | leaf v =>
        rw [at_jn_r, at_co_r]
        have ho : o ≠ -1 := by have := hs.1.1; omega
        exact at_end hz (by rw [if_neg ho]; exact hs) (fun x => Nat.le_add_right _ _) hn (fun x hx => at_rt_in hs hx)
      | branch b l' r' => simp only [at_sz] at hsz; omega
  | succ n ih =>
    intro Y s w o q t z hz hs hw hn hsz
    rw [am_jl]
    cases s with
    | leaf v =>
      rw [at_jn_l, at_co_l]
      have ho : o = -1 := hs
      rw [if_pos (Or.inl ho)]
      exact at_end hz (by rw [if_pos ho]; exact hw) (fun x => Nat.le_add_left _ _) hn (fun x hx => at_rt_in hw hx)
    | branch a l r =>
      have ea : o = (a : Int) := hs.1.1
      have a24 := hs.1.2
      cases w with
      | leaf v =>
        rw [at_jn_r, at_co_r]
        have hq : q = -1 := hw
        rw [if_pos (Or.inr hq)]
        exact at_end hz (by rw [if_neg (by omega)]; exact hs) (fun x => Nat.le_add_right _ _) hn (fun x hx => at_rt_in hs hx)
      | branch b l' r' =>
        have eb : q = (b : Int) := hw.1.1
        have b24 := hw.1.2
        simp only [at_sz] at hsz
        have hD : ∀ h z, am_j2 (am_j1 Y) h z 1 = Y 1 := by
          intro h z
          rw [at_j2_D, at_j1_f (by decide)]
        have hab : (a : Int) ≠ (b : Int) := by
          intro e
          have := hn a
          simp only [at_cn, at_ct, if_true] at this
          rw [if_pos e] at this
          omega
        have e5 : ∀ h : Nat, h < 24 → am_gt (am_j1 Y 5) 24 h = Y 5 h := by
          intro h hh
          rw [at_gt (by omega), at_j1_fr (Or.inl (by decide))]
        rw [if_neg (by omega), at_jn, at_co, ea, eb]
        rw [ea] at hs
        rw [eb] at hw
        by_cases hA : at_ah (Y 1) a b
        · have eA : am_ja (am_j1 Y) a b = (a : Int) := by
            unfold am_ja
            rw [if_pos]
            unfold am_ah
            rw [at_j1_fr (Or.inl (by decide)), at_j1_fr (Or.inl (by decide))]
            exact ⟨by omega, hA⟩
          rw [eA, if_pos hA, if_pos hA, e5 a a24, if_neg (fun w => w rfl)]
          obtain ⟨s1, s2, s3, s4, s5⟩ := at_step hz hs hw hn
          have hn2 : ∀ x, at_cn r (.branch b l' r') a x ≤ 1 := by
            intro x
            have := hn x
            simp only [at_cn, at_ct] at this ⊢
            omega
          have h1 := ih (am_j2 (am_j1 Y) a z) r (.branch b l' r') (Y 5 a) b (if t = -1 then (a : Int) else t) a (by omega) s1 s2 hn2 (by simp only [at_sz]; omega)
          rw [hD] at h1
          exact at_core hz hs hw hn h1 (fun x => (at_jn_ct n r (.branch b l' r') (by simp only [at_sz]; omega)).1) (fun x => rfl)
        · have eA : am_ja (am_j1 Y) a b = (b : Int) := by
            unfold am_ja
            rw [if_neg]
            unfold am_ah
            rw [at_j1_fr (Or.inl (by decide)), at_j1_fr (Or.inl (by decide))]
            exact fun z => hA z.2
          rw [eA, if_neg hA, if_neg hA, e5 b b24, if_pos (fun e => hab e.symm)]
          have hn3 : ∀ x, at_cn (.branch b l' r') (.branch a l r) z x ≤ 1 := by
            intro x
            have := hn x
            simp only [at_cn] at this ⊢
            omega
          obtain ⟨s1, s2, s3, s4, s5⟩ := at_step hz hw hs hn3
          have hn2 : ∀ x, at_cn r' (.branch a l r) b x ≤ 1 := by
            intro x
            have := hn x
            simp only [at_cn, at_ct] at this ⊢
            omega
          have h1 := ih (am_j2 (am_j1 Y) b z) r' (.branch a l r) (Y 5 b) a (if t = -1 then (b : Int) else t) b (by omega) s1 s2 hn2 (by simp only [at_sz]; omega)
          rw [hD] at h1
          exact at_core hz hw hs hn3 h1 (fun x => (at_jn_ct n r' (.branch a l r) (by simp only [at_sz]; omega)).1) (fun x => Nat.add_comm _ _)
