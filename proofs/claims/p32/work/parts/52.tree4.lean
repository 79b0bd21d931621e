/-! ===== the piles of a yard are trees ===== -/
def av_tr (Y : Nat → Int → Int) (T : Nat → at_T) : Prop := (∀ p, p < 4 → at_is Y (T p) (-1) (Y 6 p)) ∧ (∀ p, p < 4 → ∀ x, at_ct (T p) x ≤ 1) ∧ (∀ p, p < 4 → ∀ x, 0 < at_ct (T p) x → Y 2 x = (p : Int))
def av_al (Y : Nat → Int → Int) (T : Nat → at_T) : Prop := ∀ p : Nat, p < 4 → ∀ x : Int, 0 ≤ x → x < 24 → Y 2 x = (p : Int) → 0 < at_ct (T p) x
def av_up (T : Nat → at_T) (p : Nat) (t : at_T) : Nat → at_T := fun q => if q = p then t else T q
theorem av_up_eq {T : Nat → at_T} {p : Nat} {t : at_T} : av_up T p t p = t := if_pos rfl
theorem av_up_ne {T : Nat → at_T} {p q : Nat} {t : at_T} (h : q ≠ p) : av_up T p t q = T q := if_neg h
theorem at_jo {Y : Nat → Int → Int} {s w : at_T} {a c : Int} (hs : at_rt Y s a) (hw : at_rt Y w c) (hn : ∀ x, at_ct s x + at_ct w x ≤ 1) : at_res Y s w (-1) (-1) (at_jn (Y 1) 24 s w) (at_co (Y 1) 24 s w) (am_jo Y a c) := by
  refine at_jl 24 Y s w a c (-1) (-1) (by omega) hs hw (fun x => ?_) ?_
  · unfold at_cn
    have := hn x
    by_cases q : x = -1
    · have h1 : ¬ 0 < at_ct s x := fun h => by have := at_rt_in hs h; omega
      have h2 : ¬ 0 < at_ct w x := fun h => by have := at_rt_in hw h; omega
      rw [if_pos q]
      omega
    · rw [if_neg q]
      omega
  · have := at_sz_le hn (fun x hx => (at_rt_in hs hx).2) (fun x hx => (at_rt_in hw hx).2)
    omega
theorem av_dj {Y : Nat → Int → Int} {T : Nat → at_T} (h : av_tr Y T) {p q : Nat} (hp : p < 4) (hq : q < 4) (hne : p ≠ q) (x : Int) : at_ct (T p) x = 0 ∨ at_ct (T q) x = 0 := by
  by_cases h1 : 0 < at_ct (T p) x
  · by_cases h2 : 0 < at_ct (T q) x
    · have e1 := h.2.2 p hp x h1
      have e2 := h.2.2 q hq x h2
      rw [e1] at e2
      omega
    · exact Or.inr (by omega)
  · exact Or.inl (by omega)
def av_pc (l : Nat) : at_T := .branch l (.leaf ()) (.leaf ())
theorem av_pc_ct {l : Nat} {x : Int} : at_ct (av_pc l) x = if x = (l : Int) then 1 else 0 := by simp [av_pc, at_ct]
theorem av_pc_rt {Y : Nat → Int → Int} {l : Nat} (hl : l < 24) (h4 : Y 4 l = -1) (h5 : Y 5 l = -1) : at_rt Y (av_pc l) l := ⟨⟨rfl, hl⟩, h4, h5⟩
/-- a join at a pile's top -/
theorem av_top {Y Z : Nat → Int → Int} {T : Nat → at_T} {p k : Nat} {s w J : at_T} {R : (Nat → Int → Int) × Int} (hT : ∀ q, q < 4 → q ≠ p → at_is Y (T q) (-1) (Z 6 q) ∧ ∀ x, 0 < at_ct (T q) x → at_ct s x + at_ct w x = 0 ∧ x ≠ -1)
    (hR : at_res Y s w (-1) (-1) J k R) (hZ : ∀ c j, c ≠ 6 → c ≠ 2 → Z c j = R.1 c j) (hp : Z 6 p = R.2) : ∀ q, q < 4 → at_is Z (av_up T p J q) (-1) (Z 6 q) := by
  intro q h4
  have fr : ∀ (t : at_T) (u a : Int), at_is R.1 t u a → at_is Z t u a := fun t u a => at_is_fr t u a (fun x _ => ⟨hZ 3 x (by decide) (by decide), hZ 4 x (by decide) (by decide), hZ 5 x (by decide) (by decide)⟩)
  by_cases h : q = p
  · rw [h, av_up_eq, hp, hR.2.2.1, if_pos rfl]
    exact fr _ _ _ hR.1
  · rw [av_up_ne h]
    obtain ⟨h1, h2⟩ := hT q h4 h
    refine fr _ _ _ (at_is_fr _ _ _ (fun x hx => ?_) h1)
    have h3 := h2 x hx
    exact hR.2.2.2.1 x h3.1 h3.2
theorem av_in {Y : Nat → Int → Int} {T : Nat → at_T} (h : av_tr Y T) {p : Nat} (hp : p < 4) {x : Int} (hx : 0 < at_ct (T p) x) : 0 ≤ x ∧ x < 24 := at_is_in _ _ _ _ (h.1 p hp) hx
theorem av_ci_fr {Y : Nat → Int → Int} {p l j : Int} {c : Nat} (h : ay_out c j) (h6 : c ≠ 6) : am_ci Y p l c j = Y c j := by
  unfold am_ci
  rw [ay_pt_ne (Or.inl h6), ay_jl_fr h]
theorem av_ci {Y : Nat → Int → Int} {T : Nat → at_T} (h : av_tr Y T) {p l : Nat} (hp : p < 4) (hl : l < 24) (hf : ∀ q, q < 4 → at_ct (T q) l = 0) (h4 : Y 4 l = -1) (h5 : Y 5 l = -1) (h2 : Y 2 l = (p : Int)) :
    av_tr (am_ci Y p l) (av_up T p (at_jn (Y 1) 24 (T p) (av_pc l))) ∧ (∀ x, at_ct (T p) x = 0 → x ≠ (l : Int) → x ≠ -1 → am_ci Y p l 3 x = Y 3 x ∧ am_ci Y p l 4 x = Y 4 x ∧ am_ci Y p l 5 x = Y 5 x) ∧ am_ci Y p l 0 11 = at_lf (at_co (Y 1) 24 (T p) (av_pc l)) (Y 0 11) ∧ (∀ x, at_ct (at_jn (Y 1) 24 (T p) (av_pc l)) x = at_ct (T p) x + (if x = (l : Int) then 1 else 0)) := by
  have ht : am_gt (Y 6) 4 p = Y 6 p := at_gt (by omega)
  have hn : ∀ x, at_ct (T p) x + at_ct (av_pc l) x ≤ 1 := by
    intro x
    have h1 := h.2.1 p hp x
    have h2 := hf p hp
    rw [av_pc_ct]
    by_cases q : x = (l : Int)
    · rw [if_pos q, q]
      omega
    · rw [if_neg q]
      omega
  have hin : ∀ x, 0 < at_ct (T p) x → x < 24 := fun x hx => (av_in h hp hx).2
  have hsz := at_sz_le hn hin (fun x hx => (at_rt_in (av_pc_rt hl h4 h5) hx).2)
  have hct : ∀ x, at_ct (at_jn (Y 1) 24 (T p) (av_pc l)) x = at_ct (T p) x + (if x = (l : Int) then 1 else 0) := by
    intro x
    rw [(at_jn_ct 24 (T p) (av_pc l) (by omega)).1, av_pc_ct]
  have hR := at_jo (Y := Y) (at_is_rt (h.1 p hp)) (av_pc_rt hl h4 h5) hn
  have e : am_ci Y p l = am_pt (am_jo Y (Y 6 p) l).1 6 4 p (am_jo Y (Y 6 p) l).2 := by
    unfold am_ci
    rw [ht]
  refine ⟨⟨?_, ?_, ?_⟩, ?_, ?_, hct⟩
  · rw [e]
    refine av_top (s := T p) (w := av_pc l) (Y := Y) (fun q h4' hq => ⟨?_, fun x hx => ?_⟩) hR (fun c j h6 _ => ay_pt_ne (Or.inl h6)) (ay_pt_eq (by omega))
    · rw [ay_pt_ne (Or.inr (by omega)), ay_jl_fr ⟨by decide, by decide, by decide, Or.inl (by decide)⟩]
      exact h.1 q h4'
    · have h1 := av_dj h h4' hp hq x
      have h2 := av_in h h4' hx
      have h3 := hf q h4'
      rw [av_pc_ct]
      refine ⟨?_, by omega⟩
      by_cases q2 : x = (l : Int)
      · rw [q2] at hx
        omega
      · rw [if_neg q2]
        omega
  · intro q h4' x
    by_cases hq : q = p
    · rw [hq, av_up_eq, hct]
      have := hn x
      rw [av_pc_ct] at this
      exact this
    · rw [av_up_ne hq]
      exact h.2.1 q h4' x
  · intro q h4' x hx
    rw [av_ci_fr ⟨by decide, by decide, by decide, Or.inl (by decide)⟩ (by decide)]
    by_cases hq : q = p
    · rw [hq, av_up_eq, hct] at hx
      rw [hq]
      by_cases q2 : x = (l : Int)
      · rw [q2]
        exact h2
      · rw [if_neg q2] at hx
        exact h.2.2 p hp x (by omega)
    · rw [av_up_ne hq] at hx
      exact h.2.2 q h4' x hx
  · intro x hx hxl hx1
    rw [e, ay_pt_ne (Or.inl (by decide)), ay_pt_ne (Or.inl (by decide)), ay_pt_ne (Or.inl (by decide))]
    exact hR.2.2.2.1 x (by rw [av_pc_ct, if_neg hxl]; omega) hx1
  · rw [e, ay_pt_ne (Or.inl (by decide))]
    exact hR.2.2.2.2.2
theorem av_jp {Y : Nat → Int → Int} {T : Nat → at_T} (h : av_tr Y T) {p q : Nat} (hp : p < 4) (hq : q < 4) (hpq : p ≠ q) :
    av_tr (ay_jp Y p q) (av_up (av_up T p (at_jn (Y 1) 24 (T p) (T q))) q (.leaf ())) ∧ (∀ x, at_ct (T p) x + at_ct (T q) x = 0 → x ≠ -1 → ay_jp Y p q 3 x = Y 3 x ∧ ay_jp Y p q 4 x = Y 4 x ∧ ay_jp Y p q 5 x = Y 5 x) ∧ ay_jp Y p q 0 11 = at_lf (at_co (Y 1) 24 (T p) (T q)) (Y 0 11) ∧ (∀ x, at_ct (at_jn (Y 1) 24 (T p) (T q)) x = at_ct (T p) x + at_ct (T q) x) := by
  have hn : ∀ x, at_ct (T p) x + at_ct (T q) x ≤ 1 := by
    intro x
    have h1 := h.2.1 p hp x
    have h2 := h.2.1 q hq x
    have h3 := av_dj h hp hq hpq x
    omega
  have hsz := at_sz_le hn (fun x hx => (av_in h hp hx).2) (fun x hx => (av_in h hq hx).2)
  have hct : ∀ x, at_ct (at_jn (Y 1) 24 (T p) (T q)) x = at_ct (T p) x + at_ct (T q) x := fun x => (at_jn_ct 24 (T p) (T q) (by omega)).1
  have hR := at_jo (Y := Y) (at_is_rt (h.1 p hp)) (at_is_rt (h.1 q hq)) hn
  have e : ay_jp0 Y p q = am_pt (am_pt (am_jo Y (Y 6 p) (Y 6 q)).1 6 4 p (am_jo Y (Y 6 p) (Y 6 q)).2) 6 4 q (-1) := by
    unfold ay_jp0
    rw [at_gt (by omega), at_gt (by omega)]
  have eZ : ∀ c j, c ≠ 6 → c ≠ 2 → ay_jp Y p q c j = (am_jo Y (Y 6 p) (Y 6 q)).1 c j := by
    intro c j h6 h2
    unfold ay_jp
    rw [ay_rg_ne h2, e, ay_pt_ne (Or.inl h6), ay_pt_ne (Or.inl h6)]
  have e2 : ∀ x, ay_jp Y p q 2 x = if 0 ≤ x ∧ x < 24 ∧ Y 2 x = (q : Int) then (p : Int) else Y 2 x := by
    intro x
    have e3 : ay_jp0 Y p q 2 x = Y 2 x := by
      rw [e, ay_pt_ne (Or.inl (by decide)), ay_pt_ne (Or.inl (by decide)), ay_jl_fr ⟨by decide, by decide, by decide, Or.inl (by decide)⟩]
    unfold ay_jp am_rg ay_mv
    rw [e3]
    by_cases c1 : 0 ≤ x ∧ x < 24
    · rw [if_pos ⟨rfl, c1⟩]
      by_cases c2 : Y 2 x = (q : Int)
      · rw [if_pos c2, if_pos ⟨c1.1, c1.2, c2⟩]
      · rw [if_neg c2, if_neg (fun z => c2 z.2.2)]
    · rw [if_neg (fun z => c1 z.2), if_neg (fun z => c1 ⟨z.1, z.2.1⟩)]
  have z6 : ∀ r : Int, ay_jp Y p q 6 r = ay_jp0 Y p q 6 r := fun r => ay_rg_ne (by decide)
  have o6 : ay_out 6 0 := ⟨by decide, by decide, by decide, Or.inl (by decide)⟩
  have zz : ∀ r : Nat, r < 4 → r ≠ p → r ≠ q → ay_jp Y p q 6 r = Y 6 r := by
    intro r h4' hr hrq
    rw [z6, e, ay_pt_ne (Or.inr (by omega)), ay_pt_ne (Or.inr (by omega)), ay_jl_fr ⟨by decide, by decide, by decide, Or.inl (by decide)⟩]
  have zq : ay_jp Y p q 6 q = -1 := by
    rw [z6, e, ay_pt_eq (by omega)]
  have zp : ay_jp Y p q 6 p = (am_jo Y (Y 6 p) (Y 6 q)).2 := by
    rw [z6, e, ay_pt_ne (Or.inr (by omega)), ay_pt_eq (by omega)]
  have sw : ∀ r, r < 4 → av_up (av_up T p (at_jn (Y 1) 24 (T p) (T q))) q (.leaf ()) r = av_up (av_up T q (.leaf ())) p (at_jn (Y 1) 24 (T p) (T q)) r := by
    intro r _
    unfold av_up
    by_cases h1 : r = q
    · rw [if_pos h1, if_neg (by omega), if_pos h1]
    · rw [if_neg h1, if_neg h1]
  refine ⟨⟨?_, ?_, ?_⟩, ?_, ?_, hct⟩
  · intro r h4'
    rw [sw r h4']
    refine av_top (s := T p) (w := T q) (Y := Y) (T := av_up T q (.leaf ())) (fun r h4' hr => ?_) hR eZ zp r h4'
    by_cases hrq : r = q
    · rw [hrq, av_up_eq, zq]
      exact ⟨rfl, fun x hx => by simp [at_ct] at hx⟩
    · rw [av_up_ne hrq, zz r h4' hr hrq]
      refine ⟨h.1 r h4', fun x hx => ?_⟩
      have h1 := av_dj h h4' hp hr x
      have h2 := av_dj h h4' hq hrq x
      have h3 := av_in h h4' hx
      omega
  · intro r h4' x
    rw [sw r h4']
    by_cases hr : r = p
    · rw [hr, av_up_eq, hct]
      exact hn x
    · rw [av_up_ne hr]
      by_cases hrq : r = q
      · rw [hrq, av_up_eq]
        simp [at_ct]
      · rw [av_up_ne hrq]
        exact h.2.1 r h4' x
  · intro r h4' x hx
    rw [sw r h4'] at hx
    rw [e2]
    by_cases hr : r = p
    · rw [hr, av_up_eq, hct] at hx
      rw [hr]
      by_cases h1 : 0 < at_ct (T q) x
      · have h3 := av_in h hq h1
        rw [if_pos ⟨h3.1, h3.2, h.2.2 q hq x h1⟩]
      · have h2 := h.2.2 p hp x (by omega)
        rw [if_neg (fun z => by rw [h2] at z; omega), h2]
    · rw [av_up_ne hr] at hx
      by_cases hrq : r = q
      · rw [hrq, av_up_eq] at hx
        simp [at_ct] at hx
      · rw [av_up_ne hrq] at hx
        have h2 := h.2.2 r h4' x hx
        rw [if_neg (fun z => by rw [h2] at z; omega), h2]
  · intro x hx hx1
    rw [eZ 3 x (by decide) (by decide), eZ 4 x (by decide) (by decide), eZ 5 x (by decide) (by decide)]
    exact hR.2.2.2.1 x hx hx1
  · rw [eZ 0 11 (by decide) (by decide)]
    exact hR.2.2.2.2.2
