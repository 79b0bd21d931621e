/-! ===== the reference: a log comes, a log goes ===== -/
theorem ra_pw {p : Int} (hp : 0 ≤ p ∧ p < 4) : am_w (10 + am_w (2 * p)) = 10 + 2 * p := by
  rw [am_wi (z := 2 * p) (by omega) (by omega), am_wi (by omega) (by omega)]
theorem ra_pw1 {p : Int} (hp : 0 ≤ p ∧ p < 4) : am_w (am_w (10 + am_w (2 * p)) + 1) = 11 + 2 * p := by
  rw [ra_pw hp, am_wi (by omega) (by omega)]
  omega
theorem ra_dead {f : Int → Int} {Y : Nat → Int → Int} {l v : Int} {c : Nat} (h : ra_q f Y) (hc : c = 3 ∨ c = 4 ∨ c = 5) (h2 : Y 2 l = -1) : ra_q f (am_uy Y c l v) := by
  obtain ⟨h1, h3, h4, h5⟩ := h
  have n : ∀ c' x, c' ≠ 3 ∧ c' ≠ 4 ∧ c' ≠ 5 → am_uy Y c l v c' x = Y c' x := fun c' x h => ay_uy_ne (Or.inl (by omega))
  refine ⟨?_, fun p p0 p1 => ?_, fun m m0 m1 => ?_, fun m m0 m1 m2 => ?_⟩
  · simp only [n 0 _ (by decide)]
    exact h1
  · rw [n 0 7 (by decide)] at p1
    rw [n 6 p (by decide), n 7 p (by decide)]
    exact h3 p p0 p1
  · rw [n 0 8 (by decide)] at m1
    rw [n 1 m (by decide), n 2 m (by decide)]
    exact h4 m m0 m1
  · rw [n 0 8 (by decide)] at m1
    rw [n 2 m (by decide)] at m2
    have hm : m ≠ l := fun e => m2 (by rw [e]; exact h2)
    rw [ay_uy_ne (Or.inr hm), ay_uy_ne (Or.inr hm), ay_uy_ne (Or.inr hm)]
    exact h5 m m0 m1 m2
theorem ra_deadp {f : Int → Int} {Y : Nat → Int → Int} {l v : Int} {c : Nat} (h : ra_q f Y) (hc : c = 3 ∨ c = 4 ∨ c = 5) (h2 : Y 2 l = -1) : ra_q f (am_pt Y c 24 l v) := by
  unfold am_pt
  split
  · exact ra_dead h hc h2
  · exact h
theorem ra_ptcm {Y : Nat → Int → Int} {c c' n n' : Nat} {i v i' v' : Int} (h : c ≠ c') : am_pt (am_pt Y c n i v) c' n' i' v' = am_pt (am_pt Y c' n' i' v') c n i v := by
  unfold am_pt
  by_cases a : 0 ≤ i ∧ i < (n : Int)
  · by_cases b : 0 ≤ i' ∧ i' < (n' : Int)
    · rw [if_pos a, if_pos a, if_pos b, if_pos b, ay_cm (Or.inl h)]
    · rw [if_neg b, if_neg b]
  · rw [if_neg a, if_neg a]
section REF6
variable {E : am_E} {M : am_M} {d : Nat} {m v : Int}
theorem ra_142 (hk : am_kd E (d, 0) = some (6, 138)) {Y : Nat → Int → Int} {f : Int → Int} {t : at_T} {p l : Nat} (hq : ra_q (ar_u (ar_u (ar_u (ar_u f (18 + 5 * (l : Int) + 1) p) (18 + 5 * (l : Int) + 2) (-1)) (18 + 5 * (l : Int) + 3) (-1)) (18 + 5 * (l : Int) + 4) (-1)) Y) (h7 : Y 0 7 ≤ 4) (hd : ∀ x, 0 ≤ x → x < 24 → 0 ≤ Y 1 x ∧ Y 1 x ≤ 99)
    (hp : (p : Int) < Y 0 7) (hl : l < 24) (ht : at_rt Y t (Y 6 p)) (ot : ra_on Y t) (hlv : (l : Int) < Y 0 8 ∧ Y 2 l ≠ -1) (h4 : Y 4 l = -1) (h5 : Y 5 l = -1) (hn : ∀ x, at_ct t x + at_ct (av_pc l) x ≤ 1) :
    ra_to E M d f none (am_ci Y p l) (am_den 142 (0, [some (am_A (d, 0)), some (am_I p), some (am_I l)], [], E, ar_s M d f)) := by
  have hl' : (0 : Int) ≤ l ∧ (l : Int) < 24 := by omega
  have ol : ra_on Y (av_pc l) := by
    intro x hx
    rw [av_pc_ct] at hx
    by_cases q : x = (l : Int)
    · rw [q]
      exact hlv
    · rw [if_neg q] at hx
      omega
  obtain ⟨f', e, hq', h8⟩ := ra_141 (M := M) (Y := Y) (s := t) (w := av_pc l) (a := Y 6 p) (c := l) hk hq h7 hd ht (av_pc_rt hl h4 h5) ot ol hn (u3 := none) (u4 := none) (u5 := none) (u6 := none) (u7 := none) (u8 := none) (u9 := none)
  rw [am_B142_0, ra_124 hk hl' (by omega), am_bd_u]
  simp only [Nat.reduceAdd]
  rw [am_B142_7, ra_124 hk hl' (by omega), am_bd_u]
  simp only [Nat.reduceAdd]
  rw [am_B142_14, ra_124 hk hl' (by omega), am_bd_u]
  simp only [Nat.reduceAdd]
  rw [am_B142_21, ra_124 hk hl' (by omega), am_bd_u]
  simp only [Nat.reduceAdd]
  rw [am_B142_28, ar_125 hk (by omega), am_bd_v, ar_s_at, (hq.2.1 p (by omega) hp).1, ra_pw (by omega)]
  simp only [Nat.reduceAdd]
  rw [am_B142_41, e, am_bd_v]
  simp only [Nat.reduceAdd]
  rw [am_B142_45 hk (by omega), ar_up, am_B142_46]
  refine ⟨_, rfl, ?_, ?_⟩
  · unfold am_ci
    rw [at_gt (by omega), ay_pt_in (by omega)]
    exact ra_utp hq' (by rw [ay_jl_fr (ay_out0 (by decide))]; exact h7) (by omega)
  · rw [ar_u_ne (by omega), h8, ar_u_ne (by omega), ar_u_ne (by omega), ar_u_ne (by omega), ar_u_ne (by omega)]
theorem ra_143 (hk : am_kd E (d, 0) = some (6, 138)) {Y : Nat → Int → Int} {f : Int → Int} {l dd : Int} (hq : ra_q f Y) (hY : av_Yd Y dd) (h0 : 0 ≤ l) (h1 : l < 24) (h2 : Y 2 l ≠ -1) {v2 v3 v4 v5 : Option am_V} : ra_to E M d f none (am_rmv Y l) (am_den 143 (0, [some (am_A (d, 0)), some (am_I l), v2, v3, v4, v5], [], E, ar_s M d f)) := by
  obtain ⟨hb, hn, T, ht, ha⟩ := hY
  obtain ⟨p, hp, ep, hc⟩ := av_who hb ha h0 h1 h2
  have hv := ra_lv hb h0 h1 h2
  have h7 := hb.1.2
  have hl1 : l ≠ -1 := by omega
  have hI := ht.1 p hp
  have hN := ht.2.1 p hp
  obtain ⟨f1, f2, f3⟩ := at_fi_is (T p) _ _ hI hc
  have m1 : at_ct (T p) (-1) = 0 := by
    have : ¬ 0 < at_ct (T p) (-1) := fun z => by have := av_in ht hp z; omega
    omega
  have hup := at_fi_up (T p) _ _ hI hN m1 hc
  have hn2 : ∀ x, at_ct (at_fi l (T p)).1 x + at_ct (at_fi l (T p)).2 x ≤ 1 := fun x => by have := f3 x; have := hN x; omega
  have onp : ra_on Y (T p) := by
    intro x hx
    have e := ht.2.2 p hp x hx
    have hi := av_in ht hp hx
    have := ra_lv hb hi.1 hi.2 (by rw [e]; omega)
    exact ⟨this.1, by rw [e]; omega⟩
  have o1 : ra_on Y (at_fi l (T p)).1 := fun x hx => onp x (by have := f3 x; omega)
  have o2 : ra_on Y (at_fi l (T p)).2 := fun x hx => onp x (by have := f3 x; omega)
  have lk := hq.2.2.2 l h0 hv.1 h2
  have lh := (hq.2.2.1 l h0 hv.1).2
  obtain ⟨u, eu⟩ : ∃ u, Y 3 l = u := ⟨_, rfl⟩
  rw [eu] at lk hup
  have uin : u ≠ -1 → 0 < at_ct (T p) u := by
    intro hu
    rcases at_chi (T p) _ _ hI hc with q | q
    · rw [eu] at q
      exact absurd q.2 hu
    · rw [eu] at q
      exact q.1
  obtain ⟨R, eR⟩ : ∃ R, am_jo Y (Y 4 l) (Y 5 l) = R := ⟨_, rfl⟩
  obtain ⟨g, eg, hqg, h8g⟩ := ra_141 (M := M) (Y := Y) hk hq h7 hb.2.2.1 (at_is_rt f1) (at_is_rt f2) o1 o2 hn2 (u3 := none) (u4 := none) (u5 := none) (u6 := none) (u7 := none) (u8 := none) (u9 := none)
  have hR := at_jo (Y := Y) (at_is_rt f1) (at_is_rt f2) hn2
  rw [eR] at eg hqg hR
  have R7 : R.1 0 7 ≤ 4 := by rw [← eR, ay_jl_fr (ay_out0 (by decide))]; exact h7
  have R2 : R.1 2 l = (p : Int) := by rw [← eR, ay_jl_fr ⟨by decide, by decide, by decide, Or.inl (by decide)⟩]; exact ep
  have rin : -1 ≤ R.2 ∧ R.2 < 24 := by
    have h3 := hR.2.2.1
    rw [if_pos rfl] at h3
    rw [h3]
    by_cases q : at_ro (at_jn (Y 1) 24 (at_fi l (T p)).1 (at_fi l (T p)).2) = -1
    · rw [q]; omega
    · have hsz := at_sz_le hn2 (fun x hx => (at_rt_in (at_is_rt f1) hx).2) (fun x hx => (at_rt_in (at_is_rt f2) hx).2)
      have h4 := at_ro_ct q
      rw [(at_jn_ct 24 _ _ (by omega)).1] at h4
      have h5 := f3 (at_ro (at_jn (Y 1) 24 (at_fi l (T p)).1 (at_fi l (T p)).2))
      have := av_in ht hp (x := at_ro (at_jn (Y 1) 24 (at_fi l (T p)).1 (at_fi l (T p)).2)) (by omega)
      omega
  have hu4 : u ≠ -1 → R.1 4 u = Y 4 u := fun hu => (hR.2.2.2.1 u hup hu).2.1
  have ev : am_rmv Y l = am_rm3 (am_rm2 (am_pt R.1 3 24 R.2 u) l u R.2) l := by
    unfold am_rmv am_rm1
    rw [at_gt (f := Y 4) (by omega), at_gt (f := Y 5) (by omega), at_gt (f := Y 3) (by omega), eR, eu]
  -- the end: above of what came, and the log is gone
  have fin : ∀ (g2 : Int → Int) (Y2 : Nat → Int → Int) (x3 x4 : Int), ra_q g2 Y2 → Y2 0 7 ≤ 4 → g2 8 = f 8 → am_rm2 (am_pt R.1 3 24 R.2 u) l u R.2 = am_pt Y2 3 24 R.2 u → ra_to E M d f none (am_rmv Y l) (am_den 143 (89, [some (am_A (d, 0)), some (am_I l), some (am_I u), some (am_I x3), some (am_I x4), some (am_I R.2)], [], E, ar_s M d g2)) := by
    intro g2 Y2 x3 x4 hq2 h72 h82 e2
    have last : ∀ (g3 : Int → Int) (Y3 : Nat → Int → Int), ra_q g3 Y3 → Y3 0 7 ≤ 4 → g3 8 = f 8 → Y3 = am_pt Y2 3 24 R.2 u → ra_to E M d f none (am_rmv Y l) (am_den 143 (103, [some (am_A (d, 0)), some (am_I l), some (am_I u), some (am_I x3), some (am_I x4), some (am_I R.2)], [], E, ar_s M d g3)) := by
      intro g3 Y3 hq3 h73 h83 e3
      refine ⟨ar_u g3 (18 + 5 * l + 1) (-1), ?_, ?_, ?_⟩
      · rw [am_B143_103, ra_124 hk ⟨h0, h1⟩ (by omega), am_bd_u]
        simp only [Nat.reduceAdd]
        rw [am_B143_110]
      · rw [ev, e2, ← e3]
        unfold am_rm3
        rw [ay_pt_in (c := 2) (by omega)]
        have hh := ra_uhm (v := -1) hq3 h73 h0 (Or.inl rfl)
        have d2 : am_uy Y3 2 l (-1) 2 l = -1 := ay_uy_eq
        refine ra_deadp (ra_deadp (ra_deadp hh (Or.inl rfl) d2) (Or.inr (Or.inl rfl)) ?_) (Or.inr (Or.inr rfl)) ?_
        · rw [ay_pt_ne (Or.inl (by decide))]; exact d2
        · rw [ay_pt_ne (Or.inl (by decide)), ay_pt_ne (Or.inl (by decide))]; exact d2
      · rw [ar_u_ne (by omega)]
        exact h83
    rw [am_B143_89]
    by_cases q : R.2 = -1
    · rw [if_pos q]
      exact last g2 Y2 hq2 h72 h82 (by rw [ay_pt_no (by omega)])
    · rw [if_neg q, am_B143_95, ra_124 hk (by omega) (by omega), am_bd_u]
      simp only [Nat.reduceAdd]
      exact last _ _ (ra_ulk hq2 h72 (Or.inl rfl) (by decide) (by omega)) (by rw [ay_uy_ne (Or.inl (by decide))]; exact h72) (by rw [ar_u_ne (by omega)]; exact h82) (by rw [ay_pt_in (by omega)])
  have pin : (0 : Int) ≤ p ∧ (p : Int) < 4 := by omega
  have go : ∀ x3 : Int, (u ≠ -1 → (x3 = 0 ↔ Y 4 u ≠ l)) → ra_to E M d f none (am_rmv Y l) (am_den 143 (27, [some (am_A (d, 0)), some (am_I l), some (am_I u), v3, v4, v5], [am_I x3], E, ar_s M d f)) := by
    intro x3 hx3
    rw [am_B143_27, ra_123 hk ⟨h0, h1⟩ (by omega), am_bd_v, lh, ep]
    simp only [Nat.reduceAdd]
    rw [am_B143_34, ra_123 hk ⟨h0, h1⟩ (by omega), am_bd_v, lk.2.1]
    simp only [Nat.reduceAdd]
    rw [am_B143_43, ra_123 hk ⟨h0, h1⟩ (by omega), am_bd_v, lk.2.2]
    simp only [Nat.reduceAdd]
    rw [am_B143_49, eg, am_bd_v]
    simp only [Nat.reduceAdd]
    rw [am_B143_52]
    by_cases hu : u = -1
    · rw [if_neg (show ¬ u ≠ -1 from fun z => z hu), am_B143_59 hk (by rw [ra_pw pin]; omega), ra_pw pin, ar_up, am_B143_70]
      refine fin _ _ _ _ (ra_utp hqg R7 pin) (by rw [ay_uy_ne (Or.inl (by decide))]; exact R7) (by rw [ar_u_ne (by omega)]; exact h8g) ?_
      unfold am_rm2
      rw [if_pos hu, at_gt (by omega), ay_pt_ne (Or.inl (by decide)), R2, ra_ptcm (by decide), ay_pt_in (c := 6) (by omega)]
    · have hin := av_in ht hp (uin hu)
      have e4 : am_gt (am_pt R.1 3 24 R.2 u 4) 24 u = Y 4 u := by rw [at_gt (by omega), ay_pt_ne (Or.inl (by decide)), hu4 hu]
      rw [if_pos (show u ≠ -1 from hu), am_B143_73]
      by_cases h4 : Y 4 u = l
      · rw [if_neg (show ¬ x3 = 0 from fun z => (hx3 hu).mp z h4), am_B143_79, am_B143_84, ra_124 hk hin (by omega), am_bd_u]
        simp only [Nat.reduceAdd]
        refine fin _ _ _ _ (ra_ulk hqg R7 (Or.inr (Or.inl rfl)) (by decide) hin.1) (by rw [ay_uy_ne (Or.inl (by decide))]; exact R7) (by rw [ar_u_ne (by omega)]; exact h8g) ?_
        unfold am_rm2
        rw [if_neg hu, e4, if_pos h4, ra_ptcm (by decide), ay_pt_in (c := 4) (by omega)]
      · rw [if_pos (show x3 = 0 from (hx3 hu).mpr h4), am_B143_83, am_B143_84, ra_124 hk hin (by omega), am_bd_u]
        simp only [Nat.reduceAdd]
        refine fin _ _ _ _ (ra_ulk hqg R7 (Or.inr (Or.inr rfl)) (by decide) hin.1) (by rw [ay_uy_ne (Or.inl (by decide))]; exact R7) (by rw [ar_u_ne (by omega)]; exact h8g) ?_
        unfold am_rm2
        rw [if_neg hu, e4, if_neg h4, ra_ptcm (by decide), ay_pt_in (c := 5) (by omega)]
  rw [am_B143_0, ra_123 hk ⟨h0, h1⟩ (by omega), am_bd_v, lk.1]
  simp only [Nat.reduceAdd]
  rw [am_B143_6]
  by_cases hu : u = -1
  · rw [if_pos hu, am_B143_26]
    exact go 0 (fun z => absurd hu z)
  · have hin := av_in ht hp (uin hu)
    have hol := onp u (uin hu)
    rw [if_neg hu, am_B143_12, ra_123 hk hin (by omega), am_bd_v, (hq.2.2.2 u hin.1 hol.1 hol.2).2.1]
    simp only [Nat.reduceAdd]
    rw [am_B143_18]
    by_cases h4 : Y 4 u = l
    · rw [if_neg (show ¬ Y 4 u ≠ l from fun z => z h4), am_B143_22]
      exact go 1 (fun _ => ⟨fun z => absurd z (by decide), fun z => absurd h4 z⟩)
    · rw [if_pos (show Y 4 u ≠ l from h4), am_B143_26]
      exact go 0 (fun _ => ⟨fun _ => h4, fun _ => rfl⟩)
end REF6
