/-! ===== what holds between calls is kept ===== -/
def sy (S : am_M) : Prop := ∀ b, b ≤ 16 → cl_y (S b)
theorem sy_of {E : am_E} {M S : am_M} (hw : wl E M) (hS : st M = S) : sy S := by
  subst hS
  intro b hb
  rw [st_at (Or.inl hb)]
  exact cl_yd hw.2.2.2 (by omega)
theorem sy_q {E : am_E} {M T : am_M} (hw : wl E M) (hT : st (rl_M M) = T) : sy T := sy_of (wl_rl hw) hT
theorem iv_ne {o i j : Int} (ho : 0 ≤ o ∧ o < 14) (hi : 0 ≤ i ∧ i < 14) (hj : 0 ≤ j ∧ j < 14) (hne : i ≠ j) : ak_t o i ≠ ak_t o j := by
  unfold ak_t
  omega
theorem iv_sh {o j : Int} (ho : 0 ≤ o ∧ o < 14) (hj : 0 ≤ j ∧ j < 14) : ak_t ((o + 1) % 14) j = ak_t o (j + 1) := by
  unfold ak_t
  omega
/-- the j-th state remembered, the oldest first -/
def ent (S : am_M) (j : Int) : Nat → Int → Int := S (ak_t (S 31 0 1) j)
def nw (S : am_M) : Nat → Int → Int := ent S (S 31 0 2 - 1)
section INV
variable {S : am_M} {Y : Nat → Int → Int} {B C : Int}
theorem iv_oc (hm : ak_ok S) : (0 ≤ ak_o S ∧ ak_o S < 14) ∧ (0 ≤ ak_c S ∧ ak_c S ≤ 13) := by
  obtain ⟨h1, h2⟩ := hm
  unfold ak_o ak_c
  by_cases q : S 31 0 2 = 14
  · rw [if_pos q, if_pos q]; omega
  · rw [if_neg q, if_neg q]; omega
theorem sd_0 : sd S Y 0 = Y := by
  unfold sd
  rw [st_at (by decide), am_sb_at]
theorem sd_31 : sd S Y 31 0 1 = ak_o S ∧ sd S Y 31 0 2 = ak_c S + 1 := by
  unfold sd ak_kp
  rw [st_at (by decide), am_sb_ne (by decide), am_sb_at]
  exact ⟨by rw [ay_uy_ne (Or.inr (by decide)), ay_uy_eq], ay_uy_eq⟩
theorem sd_o {b : Nat} (hb : b = 15 ∨ b = 16 ∨ b = 32 ∨ b = 33) : sd S Y b = S b := by
  have ht := ak_t_le (o := ak_o S) (c := ak_c S)
  unfold sd ak_kp
  rw [st_at (by omega), am_sb_ne (by omega), am_sb_ne (by omega), am_sb_ne (by omega)]
theorem sd_ok (hm : ak_ok S) : ak_ok (sd S Y) := by
  have h := iv_oc hm
  unfold ak_ok
  rw [sd_31.1, sd_31.2]
  omega
theorem sd_new (hy : sy S) : ent (sd S Y) (ak_c S) = S 0 := by
  have ht := ak_t_le (o := ak_o S) (c := ak_c S)
  unfold ent
  rw [sd_31.1]
  unfold sd ak_kp
  rw [st_at (by omega), am_sb_ne (by omega), am_sb_ne (by omega), am_sb_at]
  exact cl_yp (hy 0 (by decide)) (hy _ (by omega))
theorem sd_old (hm : ak_ok S) {j : Int} (j0 : 0 ≤ j) (j1 : j < ak_c S) : ent (sd S Y) j = ent S (if S 31 0 2 = 14 then j + 1 else j) := by
  have h := iv_oc hm
  have ht := ak_t_le (o := ak_o S) (c := ak_c S)
  have ht2 := ak_t_le (o := ak_o S) (c := j)
  have hne := iv_ne (o := ak_o S) (i := j) (j := ak_c S) h.1 (by omega) (by omega) (by omega)
  have e : ent (sd S Y) j = S (ak_t (ak_o S) j) := by
    unfold ent
    rw [sd_31.1]
    unfold sd ak_kp
    rw [st_at (by omega), am_sb_ne (by omega), am_sb_ne (by omega), am_sb_ne hne]
  rw [e]
  unfold ent
  by_cases q : S 31 0 2 = 14
  · rw [if_pos q, show ak_o S = (S 31 0 1 + 1) % 14 from if_pos q, iv_sh hm.1 (by omega)]
  · rw [if_neg q, show ak_o S = S 31 0 1 from if_neg q]
theorem su_0 (hy : sy S) (hc : S 31 0 2 ≠ 0) : su S 0 = nw S := by
  have ht := ak_t_le (o := S 31 0 1) (c := S 31 0 2 - 1)
  unfold su
  rw [if_neg hc, st_at (by decide)]
  unfold ak_gb
  rw [am_sb_at]
  exact cl_yp (hy _ (by omega)) (hy 0 (by decide))
theorem su_31 (hc : S 31 0 2 ≠ 0) : su S 31 0 1 = S 31 0 1 ∧ su S 31 0 2 = S 31 0 2 - 1 := by
  unfold su
  rw [if_neg hc, st_at (by decide)]
  unfold ak_gb
  rw [am_sb_ne (by decide), am_sb_at]
  exact ⟨ay_uy_ne (Or.inr (by decide)), ay_uy_eq⟩
theorem su_o {b : Nat} (hc : S 31 0 2 ≠ 0) (hb : 1 ≤ b ∧ b ≤ 16 ∨ b = 32 ∨ b = 33) : su S b = S b := by
  unfold su
  rw [if_neg hc, st_at (by omega)]
  unfold ak_gb
  rw [am_sb_ne (by omega), am_sb_ne (by omega)]
theorem su_ok (hm : ak_ok S) (hc : S 31 0 2 ≠ 0) : ak_ok (su S) := by
  obtain ⟨h1, h2⟩ := hm
  unfold ak_ok
  rw [(su_31 hc).1, (su_31 hc).2]
  omega
theorem su_ent (hc : S 31 0 2 ≠ 0) {j : Int} : ent (su S) j = ent S j := by
  have ht := ak_t_le (o := S 31 0 1) (c := j)
  unfold ent
  rw [(su_31 hc).1, su_o hc (Or.inl (by omega))]
theorem sd_c (hm : ak_ok S) : sd S Y 31 0 2 ≠ 0 := by
  have h := iv_oc hm
  rw [sd_31.2]
  omega
/-- undone, it is as before -/
theorem ud_0 (hm : ak_ok S) (hy : sy S) (hy2 : sy (sd S Y)) : su (sd S Y) 0 = S 0 := by
  rw [su_0 hy2 (sd_c hm)]
  unfold nw
  rw [sd_31.2, show ak_c S + 1 - 1 = ak_c S by omega, sd_new hy]
theorem ud_c (hm : ak_ok S) : su (sd S Y) 31 0 2 = ak_c S := by
  rw [(su_31 (sd_c hm)).2, sd_31.2]
  omega
theorem ud_nw (hm : ak_ok S) (hc : S 31 0 2 ≠ 0) : nw (su (sd S Y)) = nw S := by
  have h := iv_oc hm
  have hm2 := hm
  obtain ⟨h1, h2⟩ := hm2
  have hk : 1 ≤ ak_c S := by
    unfold ak_c
    split <;> omega
  unfold nw
  rw [ud_c hm, su_ent (sd_c hm), sd_old hm (by omega) (by omega)]
  by_cases q : S 31 0 2 = 14
  · rw [if_pos q, show ak_c S = 13 from if_pos q, q]
    rfl
  · rw [if_neg q, show ak_c S = S 31 0 2 from if_neg q]
/-! the bound of the lifts -/
theorem si_le (h : si B S) (hc : B ≤ C) : si C S := by
  obtain ⟨a, b, c, d⟩ := h
  exact ⟨av_Gle a hc, b, fun j j0 j1 => av_Gle (c j j0 j1) hc, fun s hs => ⟨(d s hs).1, fun z => av_Gle ((d s hs).2 z) hc⟩⟩
theorem si_sd (h : si B S) (hy : sy S) (hBC : B ≤ C) (hG : av_G C Y) : si C (sd S Y) := by
  obtain ⟨a, b, c, d⟩ := h
  have hoc := iv_oc b
  refine ⟨by rw [sd_0]; exact hG, sd_ok b, fun j j0 j1 => ?_, fun s hs => ?_⟩
  · rw [sd_31.2] at j1
    show av_G C (ent (sd S Y) j)
    by_cases q : j = ak_c S
    · rw [q, sd_new hy]
      exact av_Gle a hBC
    · rw [sd_old b j0 (by omega)]
      refine av_Gle (c _ (by split <;> omega) ?_) hBC
      by_cases q2 : S 31 0 2 = 14
      · rw [if_pos q2]
        have : ak_c S = 13 := if_pos q2
        omega
      · rw [if_neg q2]
        have : ak_c S = S 31 0 2 := if_neg q2
        omega
  · rw [sd_o (by omega), sd_o (by omega)]
    exact ⟨(d s hs).1, fun z => av_Gle ((d s hs).2 z) hBC⟩
theorem si_su (h : si B S) (hy : sy S) : si B (su S) := by
  by_cases hc : S 31 0 2 = 0
  · unfold su
    rw [if_pos hc]
    exact h
  · obtain ⟨a, b, c, d⟩ := h
    have b2 := b
    obtain ⟨b3, b4⟩ := b2
    refine ⟨by rw [su_0 hy hc]; exact c _ (by omega) (by omega), su_ok b hc, fun j j0 j1 => ?_, fun s hs => ?_⟩
    · rw [(su_31 hc).2] at j1
      show av_G B (ent (su S) j)
      rw [su_ent hc]
      exact c j j0 (by omega)
    · rw [su_o hc (by omega), su_o hc (by omega)]
      exact d s hs
theorem sk_at {w : Int} (hw : w = 0 ∨ w = 1) {b : Nat} (hb : b ≤ 16 ∨ b = 31 ∨ b = 32 ∨ b = 33) : sk S w b = if b = (if w = 0 then 32 else 33) then am_uy (S b) 0 1 1 else if b = (if w = 0 then 15 else 16) then am_yp (S 0) (S b) else S b := by
  unfold sk
  rw [if_pos hw, st_at hb]
  show (if b = (if w = 0 then 32 else 33) then am_uy (am_sb S (if w = 0 then 15 else 16) _ (if w = 0 then 32 else 33)) 0 1 1 else am_sb S (if w = 0 then 15 else 16) (am_yp (S 0) (S (if w = 0 then 15 else 16))) b) = _
  by_cases q : b = (if w = 0 then 32 else 33)
  · rw [if_pos q, if_pos q, am_sb_ne (by rcases hw with h | h <;> subst h <;> decide), ← q]
  · rw [if_neg q, if_neg q]
    by_cases q2 : b = (if w = 0 then 15 else 16)
    · rw [if_pos q2, ← q2, am_sb_at]
    · rw [if_neg q2, am_sb_ne q2]
theorem sk_lo {w : Int} (hw : w = 0 ∨ w = 1) {b : Nat} (hb : b ≤ 14 ∨ b = 31) : sk S w b = S b := by
  rw [sk_at hw (by omega), if_neg (by split <;> omega), if_neg (by split <;> omega)]
theorem si_sk (h : si B S) (hy : sy S) {w : Int} : si B (sk S w) := by
  by_cases hw : w = 0 ∨ w = 1
  · obtain ⟨a, b, c, d⟩ := h
    refine ⟨by rw [sk_lo hw (by omega)]; exact a, by unfold ak_ok; rw [sk_lo hw (by omega)]; exact b, fun j j0 j1 => ?_, fun s hs => ?_⟩
    · rw [sk_lo hw (b := 31) (by omega)] at j1 ⊢
      have ht := ak_t_le (o := S 31 0 1) (c := j)
      rw [sk_lo hw (Or.inl (by omega))]
      exact c j j0 j1
    · rw [sk_at hw (b := 32 + s) (by omega), sk_at hw (b := 15 + s) (by omega)]
      have e1 : ¬ 15 + s = (if w = 0 then 32 else 33) := by split <;> omega
      have e2 : ¬ 32 + s = (if w = 0 then 15 else 16) := by split <;> omega
      rw [if_neg e1, if_neg e2]
      by_cases q : 32 + s = (if w = 0 then 32 else 33)
      · have q2 : 15 + s = (if w = 0 then 15 else 16) := by
          rcases hw with hw | hw
          · rw [if_pos hw] at q ⊢; omega
          · rw [if_neg (by omega)] at q ⊢; omega
        rw [if_pos q, if_pos q2, cl_yp (hy 0 (by decide)) (hy _ (by omega)), ay_uy_eq]
        exact ⟨Or.inr rfl, fun _ => a⟩
      · have q2 : ¬ 15 + s = (if w = 0 then 15 else 16) := by
          rcases hw with hw | hw
          · rw [if_pos hw] at q ⊢; omega
          · rw [if_neg (by omega)] at q ⊢; omega
        rw [if_neg q, if_neg q2]
        exact d s hs
  · unfold sk
    rw [if_neg hw]
    exact h
theorem sg_at {w : Int} (hw : w = 0 ∨ w = 1) (hq : ¬ S (if w = 0 then 32 else 33) 0 1 = 0) {b : Nat} (hb : b ≤ 16 ∨ b = 31 ∨ b = 32 ∨ b = 33) : sg S w b = if b = 31 then am_uy (S 31) 0 2 0 else if b = 0 then am_yp (S (if w = 0 then 15 else 16)) (S 0) else S b := by
  unfold sg
  rw [if_pos hw, if_neg hq, st_at hb]
  by_cases q : b = 31
  · rw [if_pos q, q, am_sb_at]
  · rw [if_neg q, am_sb_ne q]
    by_cases q2 : b = 0
    · rw [if_pos q2, q2, am_sb_at]
    · rw [if_neg q2, am_sb_ne q2]
theorem si_sg (h : si B S) (hy : sy S) {w : Int} : si B (sg S w) := by
  by_cases hw : w = 0 ∨ w = 1
  · by_cases hq : S (if w = 0 then 32 else 33) 0 1 = 0
    · unfold sg
      rw [if_pos hw, if_pos hq]
      exact h
    · obtain ⟨a, b, c, d⟩ := h
      obtain ⟨b1, b2⟩ := b
      have e31 : sg S w 31 = am_uy (S 31) 0 2 0 := by rw [sg_at hw hq (by omega), if_pos rfl]
      have e2 : sg S w 31 0 2 = 0 := by rw [e31, ay_uy_eq]
      have e1 : sg S w 31 0 1 = S 31 0 1 := by rw [e31, ay_uy_ne (Or.inr (by decide))]
      refine ⟨?_, by unfold ak_ok; rw [e1, e2]; exact ⟨b1, by omega⟩, fun j j0 j1 => by rw [e2] at j1; omega, fun s hs => ?_⟩
      · rw [sg_at hw hq (by omega), if_neg (by decide), if_pos rfl, cl_yp (hy _ (by split <;> decide)) (hy 0 (by decide))]
        rcases hw with hw | hw
        · rw [if_pos hw] at hq ⊢
          exact (d 0 (by decide)).2 (by have := (d 0 (by decide)).1; simp only [Nat.add_zero] at this ⊢; omega)
        · rw [if_neg (by omega)] at hq ⊢
          exact (d 1 (by decide)).2 (by have := (d 1 (by decide)).1; simp only [Nat.reduceAdd] at this ⊢; omega)
      · rw [sg_at hw hq (b := 32 + s) (by omega), sg_at hw hq (b := 15 + s) (by omega), if_neg (by omega), if_neg (by omega), if_neg (by omega), if_neg (by omega)]
        exact d s hs
  · unfold sg
    rw [if_neg hw]
    exact h
/-! two piles at least, and those that undo comes to -/
def pi (S : am_M) : Prop := 2 ≤ S 0 0 7 ∧ (∀ j : Int, 0 ≤ j → j < S 31 0 2 → 2 ≤ ent S j 0 8 → 2 ≤ ent S j 0 7) ∧ (∀ j : Int, 0 ≤ j → j + 1 < S 31 0 2 → ent S (j + 1) 0 8 ≤ ent S j 0 8 + 1) ∧ (S 31 0 2 ≠ 0 → S 0 0 8 ≤ nw S 0 8 + 1) ∧ (∀ s : Nat, s < 2 → S (32 + s) 0 1 = 1 → 2 ≤ S (15 + s) 0 7)
theorem pi_sd (h : pi S) (hm : ak_ok S) (hy : sy S) (h7 : 2 ≤ Y 0 7) (h8 : Y 0 8 ≤ S 0 0 8 + 1) : pi (sd S Y) := by
  obtain ⟨a, b, c, d, e⟩ := h
  have hoc := iv_oc hm
  have hm2 := hm
  obtain ⟨m1, m2⟩ := hm2
  have hk : (S 31 0 2 = 14 ∧ ak_c S = 13) ∨ (S 31 0 2 ≠ 14 ∧ ak_c S = S 31 0 2) := by
    by_cases q : S 31 0 2 = 14
    · exact Or.inl ⟨q, if_pos q⟩
    · exact Or.inr ⟨q, if_neg q⟩
  refine ⟨by rw [sd_0]; exact h7, fun j j0 j1 h2 => ?_, fun j j0 j1 => ?_, fun _ => ?_, fun s hs hz => ?_⟩
  · rw [sd_31.2] at j1
    by_cases q : j = ak_c S
    · rw [q, sd_new hy]
      exact a
    · rw [sd_old hm j0 (by omega)] at h2 ⊢
      exact b _ (by split <;> omega) (by split <;> omega) h2
  · rw [sd_31.2] at j1
    have o1 := sd_old (Y := Y) hm j0 (by omega)
    rw [o1]
    by_cases q : j + 1 = ak_c S
    · rw [show ent (sd S Y) (j + 1) = S 0 by rw [q, sd_new hy]]
      have h9 := d (by omega)
      have e9 : nw S = ent S (if S 31 0 2 = 14 then j + 1 else j) := by
        unfold nw
        congr 1
        split <;> omega
      rw [← e9]
      exact h9
    · rw [sd_old hm (by omega) (by omega)]
      rcases hk with ⟨k1, k2⟩ | ⟨k1, k2⟩
      · rw [if_pos k1, if_pos k1]
        exact c _ (by omega) (by omega)
      · rw [if_neg k1, if_neg k1]
        exact c _ (by omega) (by omega)
  · have e9 : nw (sd S Y) = S 0 := by
      unfold nw
      rw [sd_31.2, show ak_c S + 1 - 1 = ak_c S by omega, sd_new hy]
    rw [e9, sd_0]
    exact h8
  · rw [sd_o (by omega)] at hz ⊢
    exact e s hs hz
theorem pi_su (h : pi S) (hm : ak_ok S) (hy : sy S) (hc : S 31 0 2 ≠ 0) (h7 : 2 ≤ nw S 0 7) : pi (su S) := by
  obtain ⟨a, b, c, d, e⟩ := h
  have hm2 := hm
  obtain ⟨m1, m2⟩ := hm2
  refine ⟨by rw [su_0 hy hc]; exact h7, fun j j0 j1 h2 => ?_, fun j j0 j1 => ?_, fun hc2 => ?_, fun s hs hz => ?_⟩
  · rw [(su_31 hc).2] at j1
    rw [su_ent hc] at h2 ⊢
    exact b j j0 (by omega) h2
  · rw [(su_31 hc).2] at j1
    rw [su_ent hc, su_ent hc]
    exact c j j0 (by omega)
  · rw [(su_31 hc).2] at hc2
    rw [su_0 hy hc]
    unfold nw
    rw [(su_31 hc).2, su_ent hc]
    have := c (S 31 0 2 - 1 - 1) (by omega) (by omega)
    rw [show S 31 0 2 - 1 - 1 + 1 = S 31 0 2 - 1 by omega] at this
    exact this
  · rw [su_o hc (by omega)] at hz ⊢
    exact e s hs hz
theorem pi_3 (h : pi S) (hm : ak_ok S) (hc : S 31 0 2 ≠ 0) (h3 : 3 ≤ S 0 0 8) : 2 ≤ nw S 0 7 := by
  obtain ⟨a, b, c, d, e⟩ := h
  obtain ⟨m1, m2⟩ := hm
  have := d hc
  exact b _ (by omega) (by omega) (by unfold nw at this; omega)
theorem pi_sk (h : pi S) (hy : sy S) {w : Int} : pi (sk S w) := by
  by_cases hw : w = 0 ∨ w = 1
  · obtain ⟨a, b, c, d, e⟩ := h
    have he : ∀ j, ent (sk S w) j = ent S j := fun j => by
      have ht := ak_t_le (o := S 31 0 1) (c := j)
      unfold ent
      rw [sk_lo hw (b := 31) (by omega), sk_lo hw (Or.inl (by omega))]
    refine ⟨by rw [sk_lo hw (by omega)]; exact a, fun j j0 j1 h2 => ?_, fun j j0 j1 => ?_, fun hc => ?_, fun s hs hz => ?_⟩
    · rw [sk_lo hw (by omega)] at j1
      rw [he] at h2 ⊢
      exact b j j0 j1 h2
    · rw [sk_lo hw (by omega)] at j1
      rw [he, he]
      exact c j j0 j1
    · rw [sk_lo hw (by omega)] at hc
      unfold nw
      rw [he, sk_lo hw (by omega), sk_lo hw (by omega)]
      exact d hc
    · rw [sk_at hw (b := 32 + s) (by omega), if_neg (c := 32 + s = (if w = 0 then 15 else 16)) (by split <;> omega)] at hz
      rw [sk_at hw (b := 15 + s) (by omega), if_neg (by split <;> omega)]
      by_cases q : 15 + s = (if w = 0 then 15 else 16)
      · rw [if_pos q, cl_yp (hy 0 (by decide)) (hy _ (by omega))]
        exact a
      · have q2 : ¬ 32 + s = (if w = 0 then 32 else 33) := by
          rcases hw with hw | hw
          · rw [if_pos hw] at q ⊢; omega
          · rw [if_neg (by omega)] at q ⊢; omega
        rw [if_neg q]
        rw [if_neg q2] at hz
        exact e s hs hz
  · unfold sk
    rw [if_neg hw]
    exact h
theorem pi_sg (h : pi S) (hi : si B S) (hy : sy S) {w : Int} : pi (sg S w) := by
  by_cases hw : w = 0 ∨ w = 1
  · by_cases hq : S (if w = 0 then 32 else 33) 0 1 = 0
    · unfold sg
      rw [if_pos hw, if_pos hq]
      exact h
    · obtain ⟨a, b, c, d, e⟩ := h
      have e31 : sg S w 31 = am_uy (S 31) 0 2 0 := by rw [sg_at hw hq (by omega), if_pos rfl]
      have e2 : sg S w 31 0 2 = 0 := by rw [e31, ay_uy_eq]
      refine ⟨?_, fun j j0 j1 => by rw [e2] at j1; omega, fun j j0 j1 => by rw [e2] at j1; omega, fun hc => absurd e2 hc, fun s hs hz => ?_⟩
      · rw [sg_at hw hq (by omega), if_neg (by decide), if_pos rfl, cl_yp (hy _ (by split <;> decide)) (hy 0 (by decide))]
        have d := hi.2.2.2
        rcases hw with hw | hw
        · rw [if_pos hw] at hq ⊢
          exact e 0 (by decide) (by have := (d 0 (by decide)).1; simp only [Nat.add_zero] at this ⊢; omega)
        · rw [if_neg (by omega)] at hq ⊢
          exact e 1 (by decide) (by have := (d 1 (by decide)).1; simp only [Nat.reduceAdd] at this ⊢; omega)
      · rw [sg_at hw hq (b := 32 + s) (by omega), if_neg (by omega), if_neg (by omega)] at hz
        rw [sg_at hw hq (b := 15 + s) (by omega), if_neg (by omega), if_neg (by omega)]
        exact e s hs hz
  · unfold sg
    rw [if_neg hw]
    exact h
end INV
