/-! ===== the reference: piles, logs, burning, taking ===== -/
theorem ra_ptu {Y : Nat → Int → Int} {c n : Nat} {i w j v : Int} (h : c ≠ 0) : am_pt (am_uy Y 0 j v) c n i w = am_uy (am_pt Y c n i w) 0 j v := by
  unfold am_pt
  by_cases a : 0 ≤ i ∧ i < (n : Int)
  · rw [if_pos a, if_pos a, ay_cm (Or.inl (by omega))]
  · rw [if_neg a, if_neg a]
theorem ra_uyf {Y : Nat → Int → Int} {c : Nat} {j v : Int} (h : c ≠ 0) : am_uy Y 0 j v c = Y c := by
  funext x
  exact ay_uy_ne (Or.inl h)
theorem ra_jfs {Y : Nat → Int → Int} {o q t z j v : Int} : am_jf (am_uy Y 0 j v) o q t z = (am_uy (am_jf Y o q t z).1 0 j v, (am_jf Y o q t z).2) := by
  unfold am_jf
  rw [ra_ptu (by decide), ra_ptu (by decide)]
theorem ra_jls {j v : Int} (hj : j ≠ 11) : ∀ (n : Nat) (Y : Nat → Int → Int) (o q t z : Int), am_jl n (am_uy Y 0 j v) o q t z = (am_uy (am_jl n Y o q t z).1 0 j v, (am_jl n Y o q t z).2) := by
  intro n
  induction n with
  | zero => intro Y o q t z; rw [am_jl, am_jl, ra_jfs]
  | succ n ih =>
    intro Y o q t z
    rw [am_jl, am_jl]
    by_cases h : o = -1 ∨ q = -1
    · rw [if_pos h, if_pos h, ra_jfs]
    · rw [if_neg h, if_neg h]
      have e1 : am_j1 (am_uy Y 0 j v) = am_uy (am_j1 Y) 0 j v := by
        unfold am_j1
        rw [ay_uy_ne (Or.inr (fun e => hj e.symm)), ay_cm (Or.inr hj)]
      have e2 : am_ja (am_j1 (am_uy Y 0 j v)) o q = am_ja (am_j1 Y) o q := by
        rw [e1]
        unfold am_ja am_ah
        rw [ra_uyf (by decide)]
      have e3 : ∀ a z, am_j2 (am_uy (am_j1 Y) 0 j v) a z = am_uy (am_j2 (am_j1 Y) a z) 0 j v := by
        intro a z
        unfold am_j2
        rw [ra_uyf (by decide), ra_ptu (by decide), ra_ptu (by decide), ra_ptu (by decide)]
      rw [e2, e1, e3, ra_uyf (by decide), ih]
theorem ra_rmvs {Y : Nat → Int → Int} {l j v : Int} (hj : j ≠ 11) : am_rmv (am_uy Y 0 j v) l = am_uy (am_rmv Y l) 0 j v := by
  unfold am_rmv am_rm1
  unfold am_jo
  rw [ra_uyf (by decide), ra_uyf (by decide), ra_uyf (by decide), ra_jls hj]
  dsimp only
  rw [ra_ptu (by decide)]
  have e2 : ∀ Z u k, am_rm2 (am_uy Z 0 j v) l u k = am_uy (am_rm2 Z l u k) 0 j v := by
    intro Z u k
    unfold am_rm2
    rw [ra_uyf (by decide), ra_uyf (by decide), ra_ptu (by decide), ra_ptu (by decide), ra_ptu (by decide)]
    split
    · rfl
    · split <;> rfl
  rw [e2]
  unfold am_rm3
  rw [ra_ptu (by decide), ra_ptu (by decide), ra_ptu (by decide), ra_ptu (by decide)]
theorem ra_to_s {E : am_E} {M : am_M} {d : Nat} {f : Int → Int} {v : Option am_V} {Y Z : Nat → Int → Int} {X : Option am_Rs} (e : Y = Z) (h : ra_to E M d f v Y X) : ra_to E M d f v Z X := by rw [← e]; exact h
theorem av_out {Y : Nat → Int → Int} {p : Int} (h : av_Y Y) (h0 : Y 0 7 ≤ p) (h1 : p < 4) : Y 6 p = -1 ∧ Y 7 p = 0 := by
  have h7 := h.1.1
  refine ⟨Decidable.byContradiction (fun q => ?_), (h.1.2.2.2.2 p (by omega) h1).2 h0⟩
  have ht := av_top_in h (p := p) (by rw [at_gt (by omega)]; exact q)
  have := ra_lv h.1 ht.2.1.1 ht.2.1.2 (by rw [ht.2.2.1]; omega)
  rw [ht.2.2.1] at this
  omega
section REF7
variable {E : am_E} {M : am_M} {d : Nat} {Y : Nat → Int → Int} {f : Int → Int} {p q l m w v : Int}
theorem ra_144 (hk : am_kd E (d, 0) = some (6, 138)) (hq : ra_q f Y) (hY : av_Y Y) (h4 : Y 0 7 < 4) {u : Option am_V} : ra_to E M d f (some (am_I (Y 0 7))) (am_uy Y 0 7 (Y 0 7 + 1)) (am_den 144 (0, [some (am_A (d, 0)), u], [], E, ar_s M d f)) := by
  have h7 := hY.1.1
  have hp : 0 ≤ Y 0 7 ∧ Y 0 7 < 4 := ⟨h7.1, h4⟩
  have ho := av_out hY (p := Y 0 7) (by omega) h4
  have e0 : ar_u (ar_u f (10 + 2 * Y 0 7) (-1)) (11 + 2 * Y 0 7) 0 0 = Y 0 7 := by rw [ar_u_ne (by omega), ar_u_ne (by omega), hq.1.1]
  rw [am_B144_0 hk (by omega) (by rw [ar_s_at, hq.1.1, ra_pw hp]; omega), ar_s_at, hq.1.1, ra_pw hp, ar_up, am_B144_13 hk (by rw [ra_pw1 hp]; omega), ra_pw1 hp, ar_up, am_B144_24 hk (by omega) (by omega), ar_s_at, e0, ar_up, am_wi (by omega) (by omega), am_B144_31]
  refine ⟨_, rfl, ?_, by rw [ar_u_ne (by decide), ar_u_ne (by omega), ar_u_ne (by omega)]⟩
  obtain ⟨⟨a0, a1, a2, a3, a4, a5, a6, a7, a9⟩, hb, hc, hd⟩ := hq
  have s : ∀ j, j ≠ 7 → am_uy Y 0 7 (Y 0 7 + 1) 0 j = Y 0 j := fun j hj => ay_uy_ne (Or.inr hj)
  have n : ∀ c x, c ≠ 0 → am_uy Y 0 7 (Y 0 7 + 1) c x = Y c x := fun c x h => ay_uy_ne (Or.inl h)
  have g : ∀ j, j ≠ 0 → j ≠ 10 + 2 * Y 0 7 → j ≠ 11 + 2 * Y 0 7 → ar_u (ar_u (ar_u f (10 + 2 * Y 0 7) (-1)) (11 + 2 * Y 0 7) 0) 0 (Y 0 7 + 1) j = f j := fun j x y z => by rw [ar_u_ne x, ar_u_ne z, ar_u_ne y]
  refine ⟨⟨by rw [ar_u_eq, ay_uy_eq], ?_, ?_, ?_, ?_, ?_, ?_, ?_, ?_⟩, fun p p0 p1 => ?_, fun m m0 m1 => ?_, fun m m0 m1 m2 => ?_⟩
  · rw [g 1 (by decide) (by omega) (by omega), s 8 (by decide), a1]
  · rw [g 2 (by decide) (by omega) (by omega), s 9 (by decide), a2]
  · rw [g 3 (by decide) (by omega) (by omega), s 10 (by decide), a3]
  · rw [g 4 (by decide) (by omega) (by omega), s 11 (by decide), a4]
  · rw [g 5 (by decide) (by omega) (by omega), s 12 (by decide), a5]
  · rw [g 6 (by decide) (by omega) (by omega), s 13 (by decide), a6]
  · rw [g 7 (by decide) (by omega) (by omega), s 14 (by decide), a7]
  · rw [g 9 (by decide) (by omega) (by omega), s 16 (by decide), a9]
  · rw [ay_uy_eq] at p1
    rw [n 6 p (by decide), n 7 p (by decide)]
    by_cases e : p = Y 0 7
    · rw [e, ho.1, ho.2, ar_u_ne (show 10 + 2 * Y 0 7 ≠ 0 by omega), ar_u_ne (show 10 + 2 * Y 0 7 ≠ 11 + 2 * Y 0 7 by omega), ar_u_eq, ar_u_ne (show 11 + 2 * Y 0 7 ≠ 0 by omega), ar_u_eq]
      exact ⟨rfl, rfl⟩
    · rw [g _ (by omega) (by omega) (by omega), g _ (by omega) (by omega) (by omega)]
      exact hb p p0 (by omega)
  · rw [s 8 (by decide)] at m1
    rw [n 1 m (by decide), n 2 m (by decide), g _ (by omega) (by omega) (by omega), g _ (by omega) (by omega) (by omega)]
    exact hc m m0 m1
  · rw [s 8 (by decide)] at m1
    rw [n 2 m (by decide)] at m2
    rw [n 3 m (by decide), n 4 m (by decide), n 5 m (by decide), g _ (by omega) (by omega) (by omega), g _ (by omega) (by omega) (by omega), g _ (by omega) (by omega) (by omega)]
    exact hd m m0 m1 m2
theorem ra_145 (hk : am_kd E (d, 0) = some (6, 138)) (hq : ra_q f Y) (hY : av_Y Y) (hp : 0 ≤ p ∧ p < Y 0 7) (hw : 0 ≤ w ∧ w ≤ 99) (h8 : Y 0 8 < 24) {u : Option am_V} : ra_to E M d f (some (am_I (Y 0 8))) (am_lg Y p w) (am_den 145 (0, [some (am_A (d, 0)), some (am_I p), some (am_I w), u], [], E, ar_s M d f)) := by
  obtain ⟨hb, hn, T, ht, ha⟩ := hY
  obtain ⟨l, el⟩ : ∃ l : Nat, Y 0 8 = (l : Int) := ⟨(Y 0 8).toNat, by have := hb.2.1; omega⟩
  obtain ⟨p', ep⟩ : ∃ q : Nat, p = (q : Int) := ⟨p.toNat, by omega⟩
  subst ep
  have hp4 : p' < 4 := by have := hb.1; omega
  have hl : l < 24 := by omega
  have e1 : am_w (Y 0 8 + 1) = (l : Int) + 1 := by rw [el, am_wi (by omega) (by omega)]
  have eg : am_lg Y p' w = am_ci (am_uy (am_uy (am_uy Y 0 8 ((l : Int) + 1)) 1 l w) 2 l p') p' l := by
    unfold am_lg
    rw [e1, el, ay_pt_in (by omega), ay_pt_in (by omega)]
  obtain ⟨Z, eZ⟩ : ∃ Z, am_uy (am_uy (am_uy Y 0 8 ((l : Int) + 1)) 1 l w) 2 l p' = Z := ⟨_, rfl⟩
  rw [eZ] at eg
  have u' : ∀ c x, (c ≠ 0 ∨ x ≠ 8) → (c ≠ 1 ∨ x ≠ (l : Int)) → (c ≠ 2 ∨ x ≠ (l : Int)) → Z c x = Y c x := by
    intro c x a b d
    rw [← eZ, ay_uy_ne d, ay_uy_ne b, ay_uy_ne a]
  have z2 : Z 2 l = p' := by rw [← eZ, ay_uy_eq]
  have z1 : Z 1 l = w := by rw [← eZ, ay_uy_ne (Or.inl (by decide)), ay_uy_eq]
  have z8 : Z 0 8 = (l : Int) + 1 := by rw [← eZ, ay_uy_ne (Or.inl (by decide)), ay_uy_ne (Or.inl (by decide)), ay_uy_eq]
  have zs : ∀ j, j ≠ 8 → Z 0 j = Y 0 j := fun j hj => u' 0 j (Or.inr hj) (Or.inl (by decide)) (Or.inl (by decide))
  have zc : ∀ c, 3 ≤ c → ∀ x, Z c x = Y c x := fun c hc x => u' c x (Or.inl (by omega)) (Or.inl (by omega)) (Or.inl (by omega))
  have zx : ∀ c x, 1 ≤ c → x ≠ (l : Int) → Z c x = Y c x := fun c x hc hx => u' c x (Or.inl (by omega)) (Or.inr hx) (Or.inr hx)
  have dead : av_dd Y l := by
    rcases hb.2.2.2.1 l (by omega) (by omega) with q | q
    · exact q
    · omega
  have nol := av_no ht dead.1
  obtain ⟨⟨a0, a1, a2, a3, a4, a5, a6, a7, a9⟩, hqb, hqc, hqd⟩ := hq
  have hq4 : ra_q (ar_u (ar_u (ar_u (ar_u (ar_u (ar_u f (18 + 5 * (l : Int) + 0) w) 1 ((l : Int) + 1)) (18 + 5 * (l : Int) + 1) p') (18 + 5 * (l : Int) + 2) (-1)) (18 + 5 * (l : Int) + 3) (-1)) (18 + 5 * (l : Int) + 4) (-1)) Z := by
    have g : ∀ j, j ≠ 1 → (j < 18 + 5 * (l : Int) ∨ 18 + 5 * (l : Int) + 4 < j) → ar_u (ar_u (ar_u (ar_u (ar_u (ar_u f (18 + 5 * (l : Int) + 0) w) 1 ((l : Int) + 1)) (18 + 5 * (l : Int) + 1) p') (18 + 5 * (l : Int) + 2) (-1)) (18 + 5 * (l : Int) + 3) (-1)) (18 + 5 * (l : Int) + 4) (-1) j = f j := by
      intro j h1 h2
      rw [ar_u_ne (by omega), ar_u_ne (by omega), ar_u_ne (by omega), ar_u_ne (by omega), ar_u_ne h1, ar_u_ne (by omega)]
    refine ⟨⟨?_, ?_, ?_, ?_, ?_, ?_, ?_, ?_, ?_⟩, fun r p0 p1 => ?_, fun m m0 m1 => ?_, fun m m0 m1 m2 => ?_⟩
    · rw [g 0 (by decide) (by omega), zs 7 (by decide), a0]
    · rw [ar_u_ne (by omega), ar_u_ne (by omega), ar_u_ne (by omega), ar_u_ne (by omega), ar_u_eq, z8]
    · rw [g 2 (by decide) (by omega), zs 9 (by decide), a2]
    · rw [g 3 (by decide) (by omega), zs 10 (by decide), a3]
    · rw [g 4 (by decide) (by omega), zs 11 (by decide), a4]
    · rw [g 5 (by decide) (by omega), zs 12 (by decide), a5]
    · rw [g 6 (by decide) (by omega), zs 13 (by decide), a6]
    · rw [g 7 (by decide) (by omega), zs 14 (by decide), a7]
    · rw [g 9 (by decide) (by omega), zs 16 (by decide), a9]
    · rw [zs 7 (by decide)] at p1
      have := hb.1
      rw [g _ (by omega) (by omega), g _ (by omega) (by omega), zc 6 (by omega), zc 7 (by omega)]
      exact hqb r p0 p1
    · rw [z8] at m1
      by_cases e : m = (l : Int)
      · rw [e, z1, z2, ar_u_ne (by omega), ar_u_ne (by omega), ar_u_ne (by omega), ar_u_ne (by omega), ar_u_ne (by omega), ar_u_eq, ar_u_ne (by omega), ar_u_ne (by omega), ar_u_ne (by omega), ar_u_eq]
        exact ⟨rfl, rfl⟩
      · rw [zx 1 m (by omega) e, zx 2 m (by omega) e, g _ (by omega) (by omega), g _ (by omega) (by omega)]
        exact hqc m m0 (by omega)
    · rw [z8] at m1
      by_cases e : m = (l : Int)
      · rw [e, zc 3 (by omega), zc 4 (by omega), zc 5 (by omega), dead.2.1, dead.2.2.1, dead.2.2.2]
        refine ⟨?_, ?_, ?_⟩
        · rw [ar_u_ne (by omega), ar_u_ne (by omega), ar_u_eq]
        · rw [ar_u_ne (by omega), ar_u_eq]
        · rw [ar_u_eq]
      · rw [zx 2 m (by omega) e] at m2
        rw [zc 3 (by omega), zc 4 (by omega), zc 5 (by omega), g _ (by omega) (by omega), g _ (by omega) (by omega), g _ (by omega) (by omega)]
        exact hqd m m0 (by omega) m2
  have htr : at_rt Z (T p') (Z 6 p') := by
    rw [zc 6 (by omega)]
    exact at_is_rt (at_is_fr _ _ _ (fun x _ => ⟨zc 3 (by omega) x, zc 4 (by omega) x, zc 5 (by omega) x⟩) (ht.1 p' hp4))
  have onZ : ra_on Z (T p') := by
    intro x hx
    have e := ht.2.2 p' hp4 x hx
    have hi := av_in ht hp4 hx
    have hv := ra_lv hb hi.1 hi.2 (by rw [e]; omega)
    have hxl : x ≠ (l : Int) := by omega
    rw [z8, zx 2 x (by omega) hxl, e]
    omega
  obtain ⟨g, e, hqg, h8g⟩ := ra_142 (M := M) (d := d) (Y := Z) (t := T p') (p := p') (l := l) hk hq4 (by rw [zs 7 (by decide)]; exact hb.1.2) (fun x a b => by
      by_cases e : x = (l : Int)
      · rw [e, z1]; exact hw
      · rw [zx 1 x (by omega) e]; exact hb.2.2.1 x a b) (by rw [zs 7 (by decide)]; exact hp.2) hl htr onZ ⟨by rw [z8]; omega, by rw [z2]; omega⟩ (by rw [zc 4 (by omega)]; exact dead.2.2.1) (by rw [zc 5 (by omega)]; exact dead.2.2.2) (fun x => by
      have h1 := ht.2.1 p' hp4 x
      have h2 := nol p' hp4
      rw [av_pc_ct]
      by_cases e : x = (l : Int)
      · rw [if_pos e, e]; omega
      · rw [if_neg e]; omega)
  have c1 : ar_u f (18 + 5 * (l : Int) + 0) w 1 = (l : Int) := by rw [ar_u_ne (by omega), a1, el]
  rw [am_B145_0 hk (by omega), ar_s_at, a1, el, ra_124 hk (by omega) (by omega), am_bd_u]
  simp only [Nat.reduceAdd]
  rw [am_B145_11 hk (by omega) (by omega), ar_s_at, c1, ar_up, am_wi (by omega) (by omega), am_B145_18, e, am_bd_u]
  simp only [Nat.reduceAdd]
  rw [am_B145_24, eg]
  exact ⟨g, rfl, hqg, by rw [h8g, ar_u_ne (by decide), ar_u_ne (by omega)]⟩
end REF7
