/-! ===== pairs: harmless, save, restore ===== -/
def th_ok (Y : Nat → Int → Int) (w : Int) : Int := am_sm (am_oa (ay_rain Y w)) (Y 0 7).toNat
def th_f (V : Int → Int) : Nat → Int
  | 0 => 0
  | n + 1 => if V ((n + 1 : Nat) : Int) = 0 then ((n + 1 : Nat) : Int) else th_f V n
section TOP9
variable {E : am_E} {M N : am_M} {B : Int}
theorem th_same (hE : am_Wr E) {f : Int → Int} {Y Z : Nat → Int → Int} {w : Int} (hw : 1 ≤ w ∧ w ≤ 30) (hY : av_Y Y) (hZ : av_Y Z) (qY : ra_q f Y) (qZ : ra_q f Z) : th_ok Y w = th_ok Z w := by
  have k38 := hE.2.2.2.2.2.2.2.2.1
  obtain ⟨f1, e1, _, _⟩ := ra_153 (M := fun _ _ _ => 0) (d := 38) (u2 := none) (u3 := none) k38 qY hY hw
  obtain ⟨f2, e2, _, _⟩ := ra_153 (M := fun _ _ _ => 0) (d := 38) (u2 := none) (u3 := none) k38 qZ hZ hw
  rw [e1] at e2
  unfold th_ok
  have e3 := Option.some.inj (Sum.inl.inj (Prod.mk.inj (Option.some.inj e2)).1)
  exact Sum.inl.inj e3
theorem th_91l (hE : am_Wr E) (hs : ts B (M 0) (M 37 0)) : ∀ (m : Nat) (X : Nat → Int → Int) (u : Option am_V), m ≤ 30 → ∃ X', am_den 91 (15, [some (am_A (34, 0)), some (am_I m), u], [], E, am_sb M 17 X) = some (.inl (some (am_I (th_f (th_ok (M 0)) m))), E, am_sb M 17 X') := by
  have hW := hE.1 17 (by omega)
  intro m
  induction m with
  | zero =>
    intro X u h
    exact ⟨X, by rw [am_B91_15, if_pos (by omega), am_B91_44]; rfl⟩
  | succ m ih =>
    intro X u h
    have hw : 1 ≤ ((m + 1 : Nat) : Int) ∧ ((m + 1 : Nat) : Int) ≤ 30 := by omega
    have w1 : am_w (((m + 1 : Nat) : Int) + -1) = (m : Int) := by rw [am_wi (by omega) (by omega)]; omega
    have h105 : am_den 105 (0, [some (am_A (34, 0))], [], E, am_sb M 17 X) = some (.inl (some (am_A (17, 0))), E, am_sb M 17 (am_yp (M 0) X)) := by
      rw [ac_105 hE, am_sb_ne (show (0 : Nat) ≠ 17 by decide), am_sb_at, am_sb_sb]
    obtain ⟨c1, c2⟩ := tp_cpq (M := M) (g := M 38 0) (X := X) hs
    have c3 := ts_f (g := rt_cp (M 37 0) (M 38 0) 0 0) hs (fun j a b => by
      have e := rt_cp_at (f := M 37 0) (g := M 38 0) (a := 0) (b := 0) ⟨a, b⟩
      rw [Int.zero_add] at e
      exact e)
    have same := th_same hE hw c2.1 c3.1.1 c1 c3.2.1
    have e7 : ay_rain (am_yp (M 0) X) ((m + 1 : Nat) : Int) 0 7 = am_yp (M 0) X 0 7 := ay_rg_ne (by decide)
    rw [am_B91_15, if_neg (by omega), am_B91_19 hE, h105, am_bd_v]
    simp only [Nat.reduceAdd]
    rw [am_B91_23 hW, ay_60 hW, am_bd_u, am_sb_at, am_sb_sb]
    simp only [Nat.reduceAdd]
    rw [am_B91_29 hW, am_s37 hW (by rw [am_sb_at, e7]; exact c2.1.1.1), am_bd_v, am_sb_at, e7]
    simp only [Nat.reduceAdd]
    rw [am_B91_33, th_f]
    have ev : am_sm (am_oa (ay_rain (am_yp (M 0) X) ((m + 1 : Nat) : Int))) (am_yp (M 0) X 0 7).toNat = th_ok (M 0) ((m + 1 : Nat) : Int) := same
    rw [ev]
    by_cases q : th_ok (M 0) ((m + 1 : Nat) : Int) = 0
    · rw [if_neg (show ¬ th_ok (M 0) ((m + 1 : Nat) : Int) ≠ 0 from fun z => z q), am_B91_36, if_pos q]
      exact ⟨_, rfl⟩
    · rw [if_pos (show th_ok (M 0) ((m + 1 : Nat) : Int) ≠ 0 from q), am_B91_38, w1, if_neg q]
      exact ih _ _ (by omega)
theorem th_192l (hE : am_Wr E) {Y : Nat → Int → Int} (hs : ts B Y (N 37 0)) : ∀ (m i : Nat) (g : Int → Int), i + m = 30 → ∃ g', am_den 192 (23, [some (am_A (35, 0)), some (am_I (th_f (th_ok Y) i)), some (am_I ((i : Int) + 1))], [], E, ar_s N 38 g) = some (.inl (some (am_I (th_f (th_ok Y) 30))), E, ar_s N 38 g') := by
  have k37 := hE.2.2.2.2.2.2.2.1
  have k38 := hE.2.2.2.2.2.2.2.2.1
  have hpos : ∀ (V : Int → Int) n, 0 ≤ th_f V n := by
    intro V n
    induction n with
    | zero => exact Int.le_refl _
    | succ n ih =>
      rw [th_f]
      split
      · omega
      · exact ih
  intro m
  induction m with
  | zero =>
    intro i g h
    have e : i = 30 := by omega
    subst e
    exact ⟨g, by rw [am_B192_23, if_pos (by decide), am_B192_70]⟩
  | succ m ih =>
    intro i g h
    have hw : 1 ≤ (i : Int) + 1 ∧ (i : Int) + 1 ≤ 30 := by omega
    have w1 : am_w ((i : Int) + 1 + 1) = ((i + 1 : Nat) : Int) + 1 := by rw [am_wi (by omega) (by omega)]; omega
    have hp := hpos (th_ok Y) i
    have e37 : ar_s N 38 g 37 0 = N 37 0 := ar_s_ne (by decide)
    have c3 := ts_f (g := rt_cp (N 37 0) g 0 0) hs (fun j a b => by
      have e := rt_cp_at (f := N 37 0) (g := g) (a := 0) (b := 0) ⟨a, b⟩
      rw [Int.zero_add] at e
      exact e)
    obtain ⟨f1, x1, _, _⟩ := ra_153 (M := N) (d := 38) (u2 := none) (u3 := none) k38 c3.2.1 c3.1.1 hw
    rw [am_B192_23, if_neg (by omega), am_B192_29, if_neg (by omega), am_B192_34 hE, tp_121 hE, am_bd_u, e37, ar_s_at, ar_s_s]
    simp only [Nat.reduceAdd]
    rw [am_B192_47 hE, x1, am_bd_v]
    simp only [Nat.reduceAdd]
    rw [am_B192_55]
    have ef : th_f (th_ok Y) (i + 1) = if th_ok Y ((i : Int) + 1) = 0 then (i : Int) + 1 else th_f (th_ok Y) i := rfl
    by_cases q : th_ok Y ((i : Int) + 1) = 0
    · have q' : am_sm (am_oa (ay_rain Y ((i : Int) + 1))) (Y 0 7).toNat = 0 := q
      rw [if_neg (show ¬ am_sm (am_oa (ay_rain Y ((i : Int) + 1))) (Y 0 7).toNat ≠ 0 from fun z => z q'), am_B192_58, am_B192_63, w1]
      have h3 := ih (i + 1) f1 (by omega)
      rw [ef, if_pos q] at h3
      exact h3
    · have q' : am_sm (am_oa (ay_rain Y ((i : Int) + 1))) (Y 0 7).toNat ≠ 0 := q
      rw [if_pos q', am_B192_62, am_B192_63, w1]
      have h3 := ih (i + 1) f1 (by omega)
      rw [ef, if_neg q] at h3
      exact h3
theorem tp_harmless (hE : am_Wr E) (hs : si M B) {u1 u2 u3 u4 : Option am_V} : tq E M B (fun _ => 0) (am_den 91 (0, [some (am_A (34, 0)), u1, u2], [], E, M)) (fun E' N => am_den 192 (0, [some (am_A (35, 0)), u3, u4], [], E', N)) := by
  obtain ⟨hG, hq, h8⟩ := hs.1
  have h7 := hG.1.1.1
  have self : am_sb M 17 (M 17) = M := am_sb_self
  obtain ⟨X', ec⟩ : ∃ X', am_den 91 (0, [some (am_A (34, 0)), u1, u2], [], E, M) = some (.inl (some (am_I (if 0 < am_sm (am_oa (M 0)) (M 0 0 7).toNat then -1 else th_f (th_ok (M 0)) 30))), E, am_sb M 17 X') := by
    rw [am_B91_0 hE, am_s37 (hE.1 0 (by omega)) h7, am_bd_v]
    simp only [Nat.reduceAdd]
    rw [am_B91_7]
    by_cases q : 0 < am_sm (am_oa (M 0)) (M 0 0 7).toNat
    · exact ⟨M 17, by rw [if_neg (by omega), am_B91_10, if_pos q, self]⟩
    · rw [if_pos (by omega), am_B91_12]
      obtain ⟨X', e⟩ := th_91l (M := M) hE hs.1 30 (M 17) u2 (by omega)
      rw [self] at e
      exact ⟨X', by rw [if_neg q]; exact e⟩
  rw [ec]
  refine ⟨_, fun b hb => am_sb_ne (by omega), Or.inl ⟨_, rfl, fun E' N hE' hN => ?_⟩⟩
  obtain ⟨hsN, hb⟩ := tp_17 hs hN
  have k37 := hE'.2.2.2.2.2.2.2.1
  have e37 : ar_s N 35 (ar_u (N 35 0) 0 0) 37 0 = M 37 0 := by rw [ar_s_ne (by decide), hb 37 (by decide) (by decide)]
  have q37 : ra_q (ar_s N 35 (ar_u (N 35 0) 0 0) 37 0) (M 0) := by rw [e37]; exact hq
  have h0 : 0 ≤ am_sm (am_oa (M 0)) (M 0 0 7).toNat := rt_sm0 (fun x => am_oa_le.1) _
  obtain ⟨g', eg⟩ : ∃ g', am_den 192 (0, [some (am_A (35, 0)), u3, u4], [], E', N) = some (.inl (some (am_I (if 0 < am_sm (am_oa (M 0)) (M 0 0 7).toNat then -1 else th_f (th_ok (M 0)) 30))), E', ar_s (ar_s N 35 (ar_u (N 35 0) 0 0)) 38 g') := by
    rw [am_B192_0 hE', ar_up0, am_B192_5 hE', ra_137 k37 q37 hG.1, am_bd_v]
    simp only [Nat.reduceAdd]
    rw [am_B192_12]
    have s38 : ar_s (ar_s N 35 (ar_u (N 35 0) 0 0)) 38 (ar_s N 35 (ar_u (N 35 0) 0 0) 38 0) = ar_s N 35 (ar_u (N 35 0) 0 0) := ar_s_self
    by_cases q : 0 < am_sm (am_oa (M 0)) (M 0 0 7).toNat
    · refine ⟨ar_s N 35 (ar_u (N 35 0) 0 0) 38 0, ?_⟩
      rw [if_pos (show am_sm (am_oa (M 0)) (M 0 0 7).toNat ≠ 0 by omega), am_B192_19, am_B192_20, am_B192_23, if_neg (by decide), am_B192_29, if_pos rfl, am_B192_70, if_pos q, s38]
    · rw [if_neg (show ¬ am_sm (am_oa (M 0)) (M 0 0 7).toNat ≠ 0 by omega), am_B192_15, am_B192_20, if_neg q]
      obtain ⟨g', e⟩ := th_192l (E := E') (N := ar_s N 35 (ar_u (N 35 0) 0 0)) (Y := M 0) (B := B) hE' (by rw [e37]; exact hs.1) 30 0 (ar_s N 35 (ar_u (N 35 0) 0 0) 38 0) rfl
      rw [s38] at e
      exact ⟨g', e⟩
  obtain ⟨f1, f2, f3⟩ := tp_ok (f' := g') hsN
  exact ⟨_, eg, f2, f3, f1⟩
theorem tp_save (hE : am_Wr E) (hs : si M B) {w : Int} {u : Option am_V} : tq E M B (fun x => if x = 2 then 1 else 0) (am_den 94 (0, [some (am_A (34, 0)), some (am_I w), u], [], E, M)) (fun E' N => am_den 198 (0, [some (am_A (35, 0)), some (am_I w)], [], E', N)) := by
  obtain ⟨hG, hq, h8⟩ := hs.1
  have e01 : (0 ≤ w ∧ w ≤ 1) ↔ (w = 0 ∨ w = 1) := by omega
  rw [ad_94 hE]
  by_cases h1 : w = 0 ∨ w = 1
  · rw [if_pos h1]
    obtain ⟨s, hs2, es⟩ : ∃ s : Nat, s < 2 ∧ w = (s : Int) := ⟨w.toNat, by omega, by omega⟩
    have a15 : (if w = 0 then 15 else 16) = 15 + s := by rcases h1 with h | h <;> simp [h] <;> omega
    have a32 : (if w = 0 then 32 else 33) = 32 + s := by rcases h1 with h | h <;> simp [h] <;> omega
    rw [a15, a32]
    have nn : ∀ b, b ≠ 15 + s → b ≠ 32 + s → am_up (am_sb M (15 + s) (am_yp (M 0) (M (15 + s)))) (32 + s, 0) 1 1 b = M b := fun b p q => by
      rw [am_up_0, am_sb_ne q, am_sb_ne p]
    refine ⟨_, fun b hb => nn b (by omega) (by omega), Or.inl ⟨_, rfl, fun E' N hE' hN => ?_⟩⟩
    have k37 := hE'.2.2.2.2.2.2.2.1
    have k42 := hE'.2.2.2.2.2.2.2.2.2.2.2.2.1
    have nb : ∀ b, b ≠ 44 → b ≠ 15 + s → b ≠ 32 + s → N b = M b := fun b a p q => by rw [hN b a, nn b p q]
    have n15 : N (15 + s) = am_yp (M 0) (M (15 + s)) := by rw [hN (15 + s) (by omega), am_up_0, am_sb_ne (by omega), am_sb_at]
    have n32 : N (32 + s) 0 1 = 1 := by rw [hN (32 + s) (by omega), am_up_0, am_sb_at, ay_uy_eq]
    have w2 : am_w (138 * w) = 138 * w := am_wi (by omega) (by omega)
    obtain ⟨F, eF⟩ : ∃ F, rt_cp (N 37 0) (N 42 0) 0 (138 * w) = F := ⟨_, rfl⟩
    obtain ⟨N2, eN2⟩ : ∃ N2, ar_s (ar_s (ar_s N 35 (ar_u (N 35 0) 0 0)) 42 F) 43 (ar_u (N 43 0) w 1) = N2 := ⟨_, rfl⟩
    have c : ∀ b, b ≠ 35 → b ≠ 42 → b ≠ 43 → N2 b = N b := fun b p q r => by rw [← eN2, ar_s_nb r, ar_s_nb q, ar_s_nb p]
    have c35 : N2 35 0 = ar_u (N 35 0) 0 0 := by rw [← eN2, ar_s_ne (by decide), ar_s_ne (by decide), ar_s_at]
    have c42 : N2 42 0 = F := by rw [← eN2, ar_s_ne (by decide), ar_s_at]
    have c43 : N2 43 0 = ar_u (N 43 0) w 1 := by rw [← eN2, ar_s_at]
    have n37 : N 37 0 = M 37 0 := by rw [nb 37 (by decide) (by omega) (by omega)]
    refine ⟨N2, ?_, by rw [c35, ar_u_eq], fun b hb => c b (by omega) (by omega) (by omega), ?_, ?_, ?_, ?_⟩
    · show am_den 198 (0, [some (am_A (35, 0)), some (am_I w)], [], E', N) = _
      rw [am_B198_0, ar_120, am_bd_v]
      simp only [Nat.reduceAdd]
      rw [am_B198_8, if_neg (show ¬ am_b (0 ≤ w ∧ w ≤ 1) = 0 by rw [am_b_0]; exact fun z => z (e01.mpr h1)), am_B198_11, am_B198_16 hE', tp_119 hE', am_bd_v]
      simp only [Nat.reduceAdd]
      have d37 : ar_s N 35 (ar_u (N 35 0) 0 0) 37 0 = N 37 0 := ar_s_ne (by decide)
      have d42 : ar_s N 35 (ar_u (N 35 0) 0 0) 42 0 = N 42 0 := ar_s_ne (by decide)
      have d43 : ∀ G, ar_s (ar_s N 35 (ar_u (N 35 0) 0 0)) 42 G 43 0 = N 43 0 := fun G => by rw [ar_s_ne (by decide), ar_s_ne (by decide)]
      rw [am_B198_19, if_pos (by rw [am_b_0]; decide), am_B198_24 hE', w2, rt_121 (by decide) k37 k42 (by omega) (by omega) (by omega) (by omega), am_bd_u, d37, d42, eF]
      simp only [Nat.reduceAdd]
      rw [am_B198_41 hE' (by omega), ar_up0, d43, eN2, am_B198_48 hE', c 37 (by decide) (by decide) (by decide), n37, hq.1.2.1]
    · rw [c 0 (by decide) (by decide) (by decide), nb 0 (by decide) (by omega) (by omega), c 37 (by decide) (by decide) (by decide), nb 37 (by decide) (by omega) (by omega)]
      exact ts_le hs.1 (by omega)
    · refine tm_cg hs.2.1 (by omega) (fun b p q => ?_) ?_ ?_ ?_
      · rw [c b (by omega) (by omega) (by omega), nb b (by omega) (by omega) (by omega)]
      · rw [c 31 (by decide) (by decide) (by decide), nb 31 (by decide) (by omega) (by omega)]
      · rw [c35, ar_u_ne (by decide), nb 35 (by decide) (by omega) (by omega)]
      · rw [c 41 (by decide) (by decide) (by decide), nb 41 (by decide) (by omega) (by omega)]
    · intro i hi
      obtain ⟨l1, l2, l3⟩ := hs.2.2.1 i hi
      by_cases e : i = s
      · subst e
        have e1 : N2 (32 + i) 0 1 = 1 := by rw [c (32 + i) (by omega) (by omega) (by omega)]; exact n32
        have e2 : N2 43 0 (i : Int) = 1 := by rw [c43, es, ar_u_eq]
        rw [e1, e2]
        refine ⟨Or.inr rfl, rfl, fun _ => ?_⟩
        rw [c (15 + i) (by omega) (by omega) (by omega), n15, c42]
        refine ts_f (ts_copy (ts_le hs.1 (by omega))) (fun j a b => ?_)
        have ee := rt_cp_at (f := N 37 0) (g := N 42 0) (a := 0) (b := 138 * w) ⟨a, b⟩
        rw [eF, Int.zero_add, es, n37] at ee
        exact ee
      · have e1 : N2 (32 + i) = M (32 + i) := by rw [c (32 + i) (by omega) (by omega) (by omega), nb (32 + i) (by omega) (by omega) (by omega)]
        have e2 : N2 43 0 (i : Int) = M 43 0 i := by rw [c43, ar_u_ne (by omega), nb 43 (by decide) (by omega) (by omega)]
        rw [e1, e2]
        refine ⟨l1, l2, fun z => ?_⟩
        rw [c (15 + i) (by omega) (by omega) (by omega), nb (15 + i) (by omega) (by omega) (by omega), c42]
        refine ts_f (ts_le (l3 z) (by omega)) (fun j a b => ?_)
        rw [← eF, rt_cp_ne (by omega), nb 42 (by decide) (by omega) (by omega)]
    · refine tx_cg hs.2.2.2 ?_ ?_ ?_ ?_
      · rw [c 30 (by decide) (by decide) (by decide), nb 30 (by decide) (by omega) (by omega)]
      · rw [c 30 (by decide) (by decide) (by decide), nb 30 (by decide) (by omega) (by omega)]
      · rw [c35, ar_u_ne (by decide), nb 35 (by decide) (by omega) (by omega)]
      · rw [c 36 (by decide) (by decide) (by decide), nb 36 (by decide) (by omega) (by omega)]
  · rw [if_neg h1]
    refine ⟨M, fun _ _ => rfl, Or.inr ⟨2, rfl, by decide, fun E' N hE' hN => ?_⟩⟩
    obtain ⟨f1, f2, f3⟩ := tp_no (c := 1) (tp_44 hs hN)
    refine ⟨_, 0, ?_, f2, f3, f1⟩
    show am_den 198 (0, [some (am_A (35, 0)), some (am_I w)], [], E', N) = _
    rw [am_B198_0, ar_120, am_bd_v]
    simp only [Nat.reduceAdd]
    rw [am_B198_8, if_pos (show am_b (0 ≤ w ∧ w ≤ 1) = 0 by rw [am_b_0]; exact fun z => h1 (e01.mp z)), am_B198_15, am_B198_16 hE', tp_119 hE', am_bd_v]
    simp only [Nat.reduceAdd]
    rw [am_B198_19, if_neg (by rw [am_b_0]; decide), am_B198_22]
theorem tp_restore (hE : am_Wr E) (hs : si M B) {w : Int} {u : Option am_V} : tq E M B (fun x => if x = 2 then 1 else if x = 1 then 2 else 0) (am_den 95 (0, [some (am_A (34, 0)), some (am_I w), u], [], E, M)) (fun E' N => am_den 199 (0, [some (am_A (35, 0)), some (am_I w)], [], E', N)) := by
  have e01 : (0 ≤ w ∧ w ≤ 1) ↔ (w = 0 ∨ w = 1) := by omega
  rw [ad_95 hE]
  by_cases h1 : w = 0 ∨ w = 1
  · rw [if_pos h1]
    obtain ⟨s, hs2, es⟩ : ∃ s : Nat, s < 2 ∧ w = (s : Int) := ⟨w.toNat, by omega, by omega⟩
    have a15 : (if w = 0 then 15 else 16) = 15 + s := by rcases h1 with h | h <;> simp [h] <;> omega
    have a32 : (if w = 0 then 32 else 33) = 32 + s := by rcases h1 with h | h <;> simp [h] <;> omega
    rw [a15, a32]
    obtain ⟨l1, l2, l3⟩ := hs.2.2.1 s hs2
    by_cases h2 : M (32 + s) 0 1 = 0
    · rw [if_pos h2]
      refine ⟨M, fun _ _ => rfl, Or.inr ⟨1, rfl, by decide, fun E' N hE' hN => ?_⟩⟩
      obtain ⟨f1, f2, f3⟩ := tp_no (c := 2) (tp_44 hs hN)
      refine ⟨_, 0, ?_, f2, f3, f1⟩
      have e43 : N 43 0 w = 0 := by rw [hN 43 (by decide), es, l2, h2]
      show am_den 199 (0, [some (am_A (35, 0)), some (am_I w)], [], E', N) = _
      rw [am_B199_0, ar_120, am_bd_v]
      simp only [Nat.reduceAdd]
      rw [am_B199_8, if_pos (show am_b (0 ≤ w ∧ w ≤ 1) ≠ 0 by rw [ne_eq, am_b_0]; exact fun z => z (e01.mpr h1)), am_B199_15 hE' (by omega), e43, if_neg (by decide), am_B199_24, am_B199_29 hE', tp_119 hE', am_bd_v]
      simp only [Nat.reduceAdd]
      rw [am_B199_32, if_neg (by rw [am_b_0]; decide), am_B199_35]
    · rw [if_neg h2]
      have h21 : M (32 + s) 0 1 = 1 := by omega
      have hts := l3 h21
      have nn : ∀ b, b ≠ 0 → b ≠ 31 → am_sb (am_sb M 0 (am_yp (M (15 + s)) (M 0))) 31 (am_uy (M 31) 0 2 0) b = M b := fun b p q => by rw [am_sb_ne q, am_sb_ne p]
      refine ⟨_, fun b hb => nn b (by omega) (by omega), Or.inl ⟨_, rfl, fun E' N hE' hN => ?_⟩⟩
      have k37 := hE'.2.2.2.2.2.2.2.1
      have k42 := hE'.2.2.2.2.2.2.2.2.2.2.2.2.1
      have nb : ∀ b, b ≠ 44 → b ≠ 0 → b ≠ 31 → N b = M b := fun b a p q => by rw [hN b a, nn b p q]
      have n0 : N 0 = am_yp (M (15 + s)) (M 0) := by rw [hN 0 (by decide), am_sb_ne (by decide), am_sb_at]
      have n31 : N 31 = am_uy (M 31) 0 2 0 := by rw [hN 31 (by decide), am_sb_at]
      have w2 : am_w (138 * w) = 138 * w := am_wi (by omega) (by omega)
      have n42 : N 42 0 = M 42 0 := by rw [nb 42 (by decide) (by decide) (by decide)]
      obtain ⟨F, eF⟩ : ∃ F, rt_cp (N 42 0) (N 37 0) (138 * w) 0 = F := ⟨_, rfl⟩
      have tF : ts (B + 576) (am_yp (M (15 + s)) (M 0)) F := by
        refine ts_f (ts_copy (ts_le hts (by omega))) (fun j a b => ?_)
        have ee := rt_cp_at (f := N 42 0) (g := N 37 0) (a := 138 * w) (b := 0) ⟨a, b⟩
        rw [eF, Int.zero_add, es, n42] at ee
        exact ee
      obtain ⟨N2, eN2⟩ : ∃ N2, ar_s (ar_s (ar_s N 35 (ar_u (N 35 0) 0 0)) 37 F) 35 (ar_u (ar_u (N 35 0) 0 0) 8 0) = N2 := ⟨_, rfl⟩
      have c : ∀ b, b ≠ 35 → b ≠ 37 → N2 b = N b := fun b p q => by rw [← eN2, ar_s_nb p, ar_s_nb q, ar_s_nb p]
      have c35 : N2 35 0 = ar_u (ar_u (N 35 0) 0 0) 8 0 := by rw [← eN2, ar_s_at]
      have c37 : N2 37 0 = F := by rw [← eN2, ar_s_ne (by decide), ar_s_at]
      refine ⟨N2, ?_, by rw [c35, ar_u_ne (by decide), ar_u_eq], fun b hb => c b (by omega) (by omega), ?_, ?_, ?_, ?_⟩
      · have e43 : N 43 0 w = 1 := by rw [nb 43 (by decide) (by decide) (by decide), es, l2, h21]
        show am_den 199 (0, [some (am_A (35, 0)), some (am_I w)], [], E', N) = _
        rw [am_B199_0, ar_120, am_bd_v]
        simp only [Nat.reduceAdd]
        rw [am_B199_8, if_pos (show am_b (0 ≤ w ∧ w ≤ 1) ≠ 0 by rw [ne_eq, am_b_0]; exact fun z => z (e01.mpr h1)), am_B199_15 hE' (by omega), e43, if_pos (by decide), am_B199_28, am_B199_29 hE', tp_119 hE', am_bd_v]
        simp only [Nat.reduceAdd]
        have d37 : ar_s N 35 (ar_u (N 35 0) 0 0) 37 0 = N 37 0 := ar_s_ne (by decide)
        have d42 : ar_s N 35 (ar_u (N 35 0) 0 0) 42 0 = N 42 0 := ar_s_ne (by decide)
        have d35 : ∀ G, ar_s (ar_s N 35 (ar_u (N 35 0) 0 0)) 37 G 35 0 = ar_u (N 35 0) 0 0 := fun G => by rw [ar_s_ne (by decide), ar_s_at]
        rw [am_B199_32, if_pos (by rw [am_b_0]; decide), am_B199_37 hE', w2, rt_121 (by decide) k42 k37 (by omega) (by omega) (by omega) (by omega), am_bd_u, d37, d42, eF]
        simp only [Nat.reduceAdd]
        rw [am_B199_54 hE', ar_up0, d35, eN2, am_B199_59 hE', c37, tF.2.1.1.2.1]
      · rw [c 0 (by decide) (by decide), n0, c37]
        exact tF
      · have p1 : am_uy (M 31) 0 2 0 0 1 = M 31 0 1 := ay_uy_ne (Or.inr (by decide))
        have p2 : am_uy (M 31) 0 2 0 0 2 = 0 := ay_uy_eq
        unfold tm ak_ok
        rw [c 31 (by decide) (by decide), n31, c35, p1, p2]
        exact ⟨⟨hs.2.1.1.1, by omega⟩, ar_u_eq, fun j j0 j1 => by omega⟩
      · exact tl_cg hs.2.2.1 (by omega) (fun b q => by rw [c b (by omega) (by omega), nb b (by omega) (by omega) (by omega)])
      · refine tx_cg hs.2.2.2 ?_ ?_ ?_ ?_
        · rw [c 30 (by decide) (by decide), nb 30 (by decide) (by decide) (by decide)]
        · rw [c 30 (by decide) (by decide), nb 30 (by decide) (by decide) (by decide)]
        · rw [c35, ar_u_ne (by decide), ar_u_ne (by decide), nb 35 (by decide) (by decide) (by decide)]
        · rw [c 36 (by decide) (by decide), nb 36 (by decide) (by decide) (by decide)]
  · rw [if_neg h1]
    refine ⟨M, fun _ _ => rfl, Or.inr ⟨2, rfl, by decide, fun E' N hE' hN => ?_⟩⟩
    obtain ⟨f1, f2, f3⟩ := tp_no (c := 1) (tp_44 hs hN)
    refine ⟨_, 0, ?_, f2, f3, f1⟩
    show am_den 199 (0, [some (am_A (35, 0)), some (am_I w)], [], E', N) = _
    rw [am_B199_0, ar_120, am_bd_v]
    simp only [Nat.reduceAdd]
    rw [am_B199_8, if_neg (show ¬ am_b (0 ≤ w ∧ w ≤ 1) ≠ 0 by rw [ne_eq, am_b_0]; exact fun z => z (fun y => h1 (e01.mp y))), am_B199_11, am_B199_29 hE', tp_119 hE', am_bd_v]
    simp only [Nat.reduceAdd]
    rw [am_B199_32, if_neg (by rw [am_b_0]; decide), am_B199_35]
end TOP9
