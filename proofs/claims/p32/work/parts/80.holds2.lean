/-! ===== holds: ranks, piles, the end (written by wip/p32/gens/holds2.py) ===== -/
theorem da_le {Y : Nat → Int → Int} {i : Int} (h : av_Y Y) : 0 ≤ am_da Y i ∧ am_da Y i ≤ 2376 := by
  have t := am_sm_le (f := fun l => if Y 2 l = i then Y 1 l else 0) (k := 99) (n := 24) (fun j a c => by
    have h3 := h.1.2.2.1 j a (by omega)
    show 0 ≤ (if Y 2 j = i then Y 1 j else 0) ∧ (if Y 2 j = i then Y 1 j else 0) ≤ 99
    split <;> omega)
  show 0 ≤ am_sm (fun l => if Y 2 l = i then Y 1 l else 0) 24 ∧ am_sm (fun l => if Y 2 l = i then Y 1 l else 0) 24 ≤ 2376
  omega
section HO3
variable {S : am_M} {B P g : Int}
theorem hr_lp (hi : si B S) {x3 x4 m7 x8 x9 x10 x11 x12 : Int} {p K : Nat} (hp : (p : Int) < S 0 0 7) (hm : m7 = ac_in (S 0) p) (h9 : x9 = am_oa (S 0) p) (hn : ∀ (E : am_E) (M : am_M) (x13 : Int) (u14 u15 u16 u17 u18 : Option am_V), wl E M → st M = S → cs K E M (am_den 147 (700, [some (am_A (34, 0)), some (am_I P), some (am_I g), some (am_I x3), some (am_I x4), some (am_I 1), some (am_I p), some (am_I m7), some (am_I x8), some (am_I x9), some (am_I x10), some (am_I x11), some (am_I x12), some (am_I x13), u14, u15, u16, u17, u18], [], E, M)) 1 S) : ∀ (m k : Nat), 1 ≤ k → k + m = 25 → ∀ (E : am_E) (M : am_M) (u14 u15 u16 u17 u18 : Option am_V), wl E M → st M = S → cs (K + 6 * m) E M (am_den 147 (622, [some (am_A (34, 0)), some (am_I P), some (am_I g), some (am_I x3), some (am_I x4), some (am_I 1), some (am_I p), some (am_I m7), some (am_I x8), some (am_I x9), some (am_I x10), some (am_I x11), some (am_I x12), some (am_I (((k : Nat) : Int))), u14, u15, u16, u17, u18], [], E, M)) 1 S := by
  have hin := ac_in_le (Y := S 0) (p := p)
  have h7 := hi.1.1.1.1
  intro m
  induction m with
  | zero =>
    intro k h0 h E M u14 u15 u16 u17 u18 hw hS
    rw [am_B147_622, if_pos (by omega)]
    exact hn E M _ _ _ _ _ _ hw hS
  | succ m ih =>
    intro k h0 h E M u14 u15 u16 u17 u18 hw hS
    rw [am_B147_622]
    by_cases q : m7 ≤ (k : Int)
    · rw [if_pos q]
      exact cs_le (hn E M _ _ _ _ _ _ hw hS) (by omega)
    · rw [if_neg q, am_B147_629, if_neg (by decide), am_B147_634]
      by_cases q9 : x9 = 0
      · have ho : am_oa (S 0) p ≤ 0 := by omega
        have w1 : am_w ((k : Int) + 1) = ((k + 1 : Nat) : Int) := by rw [am_wi (by omega) (by omega)]; omega
        have w2 : am_w ((k : Int) - 1) = (k : Int) - 1 := am_wi (by omega) (by omega)
        obtain ⟨a1, a2⟩ := rk_at hi.1.1 ⟨by omega, hp⟩ ho (l := (k : Int)) ⟨by omega, by omega⟩
        obtain ⟨b1, b2⟩ := rk_at hi.1.1 ⟨by omega, hp⟩ ho (l := (k : Int) - 1) ⟨by omega, by omega⟩
        rw [if_neg (fun z => z q9), am_B147_639]
        refine cs_b1 (K := K + 6 * m + 5) (pc' := 649) (S1' := S) (ct_ranked hw hS hi) rfl (sv_rk hi.1.1 ⟨by omega, hp⟩ ho ⟨by omega, by omega⟩ (Or.inl rfl)) rfl (fun E M hw hS => ?_)
        rw [am_B147_649]
        refine cs_b1 (K := K + 6 * m + 4) (pc' := 663) (S1' := S) (ct_ranked hw hS hi) rfl (sv_rk hi.1.1 ⟨by omega, hp⟩ ho ⟨by omega, by omega⟩ (Or.inr rfl)) rfl (fun E M hw hS => ?_)
        rw [am_B147_663, if_neg (fun z => z rfl), am_B147_666, w2]
        refine cs_b1 (K := K + 6 * m + 3) (pc' := 679) (S1' := S) (ct_ranked hw hS hi) rfl (sv_rk hi.1.1 ⟨by omega, hp⟩ ho ⟨by omega, by omega⟩ (Or.inr rfl)) rfl (fun E M hw hS => ?_)
        rw [am_B147_679]
        refine cs_bd (K := K + 6 * m + 1) (pc' := 684) (S1' := S) (ho_146 hw hS hi (rk_lv (by omega) b1) (rk_lv (by omega) a1)) rfl (show _ = 1 from if_pos (rk_ah b1 a1 (by omega))) rfl (by omega) (fun E M hw hS => ?_)
        rw [am_B147_684, if_neg (by decide), am_B147_687, am_B147_692, w1]
        exact cs_le (ih (k + 1) (by omega) (by omega) E M _ _ _ _ _ hw hS) (by omega)
      · rw [if_pos q9]
        exact cs_le (hn E M _ _ _ _ _ _ hw hS) (by omega)
theorem hr_459 (hi : si B S) {x3 x4 : Int} {p G K : Nat} (hp : (p : Int) < S 0 0 7) (hG : S 0 0 8 = (G : Int)) (h3 : 0 ≤ x3 ∧ x3 ≤ 10000) (h4 : 0 ≤ x4 ∧ x4 ≤ 100) (hn : ∀ (E : am_E) (M : am_M) (x13 : Int) (u14 u15 u16 u17 u18 : Option am_V), wl E M → st M = S → cs K E M (am_den 147 (700, [some (am_A (34, 0)), some (am_I P), some (am_I g), some (am_I ((x3 + am_da (S 0) p))), some (am_I ((x4 + ac_in (S 0) p))), some (am_I 1), some (am_I p), some (am_I ((ac_in (S 0) p))), some (am_I ((am_gt (S 0 6) 4 p))), some (am_I ((am_oa (S 0) p))), some (am_I ((ac_in (S 0) p))), some (am_I ((am_da (S 0) p))), some (am_I ((am_mx (am_dl (S 0) p) 24))), some (am_I x13), u14, u15, u16, u17, u18], [], E, M)) 1 S) {E : am_E} {M : am_M} {u14 u15 u16 u17 u18 : Option am_V} (hw : wl E M) (hS : st M = S) : cs (K + 160) E M (am_den 147 (459, [some (am_A (34, 0)), some (am_I P), some (am_I g), some (am_I x3), some (am_I x4), some (am_I 1), some (am_I p), some (am_I ((ac_in (S 0) p))), some (am_I ((am_gt (S 0 6) 4 p))), some (am_I ((am_sm (fun l => am_b (am_of (S 0) p l)) G))), some (am_I ((am_sm (fun l => am_b (S 0 2 l = (p : Int))) G))), some (am_I ((am_sm (fun l => if S 0 2 l = (p : Int) then S 0 1 l else 0) G))), some (am_I ((am_mx (am_dl (S 0) p) G))), some (am_I ((G : Int))), u14, u15, u16, u17, u18], [], E, M)) 1 S := by
  have h7 := hi.1.1.1.1
  have h8 := hi.1.1.1.2.1
  have dead : ∀ x : Int, (G : Int) ≤ x → x < 24 → S 0 2 x = -1 := fun x a b => py_dead hi.1.1 (by omega) (by omega) b
  have c9 : am_sm (fun l => am_b (am_of (S 0) p l)) G = am_oa (S 0) p := (sm_cut (fun x a b => if_neg (fun z => by have := dead x a b; have := z.1; omega)) 24 (by omega) (by omega)).symm
  have c10 : am_sm (fun l => am_b (S 0 2 l = (p : Int))) G = ac_in (S 0) p := (sm_cut (fun x a b => if_neg (fun z => by have := dead x a b; omega)) 24 (by omega) (by omega)).symm
  have c11 : am_sm (fun l => if S 0 2 l = (p : Int) then S 0 1 l else 0) G = am_da (S 0) p := (sm_cut (fun x a b => if_neg (fun z => by have := dead x a b; omega)) 24 (by omega) (by omega)).symm
  have c12 : am_mx (am_dl (S 0) p) G = am_mx (am_dl (S 0) p) 24 := (mx_cut (fun x a b => if_neg (fun z => by have := dead x a b; omega)) 24 (by omega) (by omega)).symm
  have hin := ac_in_le (Y := S 0) (p := p)
  have hoa := am_sm_le (f := fun l => am_b (am_of (S 0) p l)) (k := 1) (n := 24) (fun _ _ _ => am_b_le)
  have hda := da_le (i := (p : Int)) hi.1.1
  have hP : 0 ≤ (p : Int) ∧ (p : Int) < S 0 0 7 := ⟨by omega, hp⟩
  obtain ⟨hb, -, T, ht, ha⟩ := hi.1.1
  rw [c9, c10, c11, c12, am_B147_459, if_neg (by decide), am_wi (by omega) (by omega), am_wi (by omega) (by omega), am_B147_476, if_neg (fun z => z rfl), am_B147_483]
  refine cs_b1 (K := K + 159) (pc' := 494) (S1' := S) (ct_told hw hS hi) rfl (show _ = am_da (S 0) p from (if_pos hP).trans (if_pos (by decide))) rfl (fun E M hw hS => ?_)
  rw [am_B147_494, if_neg (fun z => z rfl), am_B147_497]
  refine cs_b1 (K := K + 158) (pc' := 508) (S1' := S) (ct_told hw hS hi) rfl (show _ = am_mx (am_dl (S 0) p) 24 from (if_pos hP).trans (if_pos (by decide))) rfl (fun E M hw hS => ?_)
  rw [am_B147_508, if_neg (fun z => z rfl), am_B147_511]
  refine cs_b1 (K := K + 157) (pc' := 522) (S1' := S) (ct_told hw hS hi) rfl (show _ = am_oa (S 0) p from (if_pos hP).trans (if_pos (by decide))) rfl (fun E M hw hS => ?_)
  rw [am_B147_522, if_neg (fun z => z rfl)]
  -- the ranks
  have s612 : ∀ (E : am_E) (M : am_M) (u14 u15 u16 u17 u18 : Option am_V), wl E M → st M = S → cs (K + 144) E M (am_den 147 (612, [some (am_A (34, 0)), some (am_I P), some (am_I g), some (am_I ((x3 + am_da (S 0) p))), some (am_I ((x4 + ac_in (S 0) p))), some (am_I 1), some (am_I p), some (am_I ((ac_in (S 0) p))), some (am_I ((am_gt (S 0 6) 4 p))), some (am_I ((am_oa (S 0) p))), some (am_I ((ac_in (S 0) p))), some (am_I ((am_da (S 0) p))), some (am_I ((am_mx (am_dl (S 0) p) 24))), some (am_I ((G : Int))), u14, u15, u16, u17, u18], [], E, M)) 1 S := by
    intro E M u14 u15 u16 u17 u18 hw hS
    rw [am_B147_612, am_B147_617]
    exact hr_lp hi hp rfl rfl hn 24 1 (by omega) (by omega) E M _ _ _ _ _ hw hS
  have s588 : ∀ (E : am_E) (M : am_M) (u14 u15 u16 u17 u18 : Option am_V), wl E M → st M = S → cs (K + 145) E M (am_den 147 (588, [some (am_A (34, 0)), some (am_I P), some (am_I g), some (am_I ((x3 + am_da (S 0) p))), some (am_I ((x4 + ac_in (S 0) p))), some (am_I 1), some (am_I p), some (am_I ((ac_in (S 0) p))), some (am_I ((am_gt (S 0 6) 4 p))), some (am_I ((am_oa (S 0) p))), some (am_I ((ac_in (S 0) p))), some (am_I ((am_da (S 0) p))), some (am_I ((am_mx (am_dl (S 0) p) 24))), some (am_I ((G : Int))), u14, u15, u16, u17, u18], [], E, M)) 1 S := by
    intro E M u14 u15 u16 u17 u18 hw hS
    rw [am_B147_588]
    by_cases q7 : ac_in (S 0) p = 0
    · rw [if_pos q7]
      exact cs_le (s612 E M _ _ _ _ _ hw hS) (by omega)
    · rw [if_neg q7, am_B147_593]
      by_cases q9 : 0 < am_oa (S 0) p
      · rw [if_pos q9]
        exact cs_le (s612 E M _ _ _ _ _ hw hS) (by omega)
      · rw [if_neg q9, am_B147_598]
        refine cs_b1 (K := K + 144) (pc' := 607) (S1' := S) (ct_ranked hw hS hi) rfl (sv_rk hi.1.1 hP (by omega) ⟨by omega, by omega⟩ (Or.inl rfl)) rfl (fun E M hw hS => ?_)
        rw [am_B147_607, if_neg (fun z => z rfl)]
        exact s612 E M _ _ _ _ _ hw hS
  have s556 : ∀ (E : am_E) (M : am_M) (u14 u15 u16 u17 u18 : Option am_V), wl E M → st M = S → cs (K + 146) E M (am_den 147 (556, [some (am_A (34, 0)), some (am_I P), some (am_I g), some (am_I ((x3 + am_da (S 0) p))), some (am_I ((x4 + ac_in (S 0) p))), some (am_I 1), some (am_I p), some (am_I ((ac_in (S 0) p))), some (am_I ((am_gt (S 0 6) 4 p))), some (am_I ((am_oa (S 0) p))), some (am_I ((ac_in (S 0) p))), some (am_I ((am_da (S 0) p))), some (am_I ((am_mx (am_dl (S 0) p) 24))), some (am_I ((G : Int))), u14, u15, u16, u17, u18], [], E, M)) 1 S := by
    intro E M u14 u15 u16 u17 u18 hw hS
    rw [am_B147_556]
    refine cs_b1 (K := K + 145) (pc' := 566) (S1' := S) (ct_told hw hS hi) rfl (show _ = ay_why (S 0) p from (if_pos hP).trans (if_pos (by decide))) rfl (fun E M hw hS => ?_)
    rw [am_B147_566]
    by_cases q7 : ac_in (S 0) p = 0
    · have ew : ay_why (S 0) p = 1 := by
        unfold ay_why
        rw [if_pos]
        refine Decidable.byContradiction (fun z => ?_)
        have h1 := py_hl hi.1.1 z
        have hti := av_top_in hi.1.1 z
        have h2 := py_ut hb ht ha (p := p) (by omega) (by rw [at_gt (n := 4) (by omega)] at z; exact z)
        have h3 := py_ub (Y := S 0) (x := S 0 6 p)
        omega
      rw [if_neg (fun z => z q7), am_B147_571, am_B147_585, ew, if_neg (fun z => z rfl)]
      exact s588 E M _ _ _ _ _ hw hS
    · have htp := py_top hi.1.1 (p := p) (by omega) q7
      rw [if_pos q7, am_B147_575]
      by_cases q9 : am_oa (S 0) p ≤ 0
      · have ew : ay_why (S 0) p = 0 := by
          unfold ay_why
          rw [if_neg htp, if_neg (by omega)]
        rw [if_pos q9, am_B147_584, am_B147_585, ew, if_neg (fun z => z rfl)]
        exact s588 E M _ _ _ _ _ hw hS
      · have ew : ay_why (S 0) p = 2 := by
          unfold ay_why
          rw [if_neg htp, if_pos (by omega)]
        rw [if_neg q9, am_B147_580, am_B147_585, ew, if_neg (fun z => z rfl)]
        exact s588 E M _ _ _ _ _ hw hS
  rw [am_B147_525]
  by_cases q8 : am_gt (S 0 6) 4 p = -1
  · have q7 : ac_in (S 0) p = 0 := by
      refine Decidable.byContradiction (fun z => ?_)
      exact py_top hi.1.1 (p := p) (by omega) z q8
    rw [if_neg (fun z => z q8), am_B147_531, if_neg (fun z => z q7), am_B147_536]
    exact cs_le (s556 E M _ _ _ _ _ hw hS) (by omega)
  · obtain ⟨t1, t2, t3, t4⟩ := av_top_in hi.1.1 q8
    have e6 : am_gt (S 0 6) 4 p = S 0 6 p := at_gt (n := 4) (by omega)
    have hu := py_ut hb ht ha (p := p) (by omega) (by omega)
    rw [if_pos q8, am_B147_539]
    refine cs_b1 (K := K + 156) (pc' := 549) (S1' := S) (ct_log hw hS hi) rfl (show _ = ac_in (S 0) p - 1 from by rw [e6, lo_6 ⟨t2, by omega⟩, hu]) rfl (fun E M hw hS => ?_)
    rw [am_B147_549, am_wi (by omega) (by omega), if_neg (fun z => z rfl)]
    exact cs_le (s556 E M _ _ _ _ _ hw hS) (by omega)
theorem hr_44 (hi : si B S) {K : Nat} (hP : P = S 0 0 7) (hg : g = S 0 0 8) (hn : ∀ (E : am_E) (M : am_M) (u7 u8 u9 u10 u11 u12 u13 u14 u15 u16 u17 u18 : Option am_V), wl E M → st M = S → cs K E M (am_den 147 (706, [some (am_A (34, 0)), some (am_I P), some (am_I g), some (am_I ((am_sm (am_da (S 0)) P.toNat))), some (am_I ((am_sm (ac_in (S 0)) P.toNat))), some (am_I 1), some (am_I P), u7, u8, u9, u10, u11, u12, u13, u14, u15, u16, u17, u18], [], E, M)) 1 S) : ∀ (m p : Nat), (p : Int) + m = P → ∀ (E : am_E) (M : am_M) (u7 u8 u9 u10 u11 u12 u13 u14 u15 u16 u17 u18 : Option am_V), wl E M → st M = S → cs (K + 700 * m) E M (am_den 147 (44, [some (am_A (34, 0)), some (am_I P), some (am_I g), some (am_I ((am_sm (am_da (S 0)) p))), some (am_I ((am_sm (ac_in (S 0)) p))), some (am_I 1), some (am_I ((p : Int))), u7, u8, u9, u10, u11, u12, u13, u14, u15, u16, u17, u18], [], E, M)) 1 S := by
  have h7 := hi.1.1.1.1
  have h8 := hi.1.1.1.2.1
  intro m
  induction m with
  | zero =>
    intro p h E M u7 u8 u9 u10 u11 u12 u13 u14 u15 u16 u17 u18 hw hS
    have e : p = P.toNat := by omega
    have e2 : ((P.toNat : Nat) : Int) = P := by omega
    rw [am_B147_44, if_pos (by omega), e, e2]
    exact hn E M _ _ _ _ _ _ _ _ _ _ _ _ hw hS
  | succ m ih =>
    intro p h E M u7 u8 u9 u10 u11 u12 u13 u14 u15 u16 u17 u18 hw hS
    have hp : 0 ≤ (p : Int) ∧ (p : Int) < S 0 0 7 := by omega
    have hin := ac_in_le (Y := S 0) (p := p)
    have hs3 := am_sm_le (f := am_da (S 0)) (k := 2376) (n := p) (fun i a b => da_le (i := i) hi.1.1)
    have hs4 := am_sm_le (f := ac_in (S 0)) (k := 24) (n := p) (fun i a b => ac_in_le)
    have w1 : am_w ((p : Int) + 1) = ((p + 1 : Nat) : Int) := by rw [am_wi (by omega) (by omega)]; omega
    obtain ⟨G, hG⟩ : ∃ G : Nat, S 0 0 8 = (G : Int) := ⟨(S 0 0 8).toNat, by omega⟩
    rw [am_B147_44, if_neg (by omega), am_B147_50, if_neg (by decide), am_B147_55]
    refine cs_le ?_ (show K + 700 * m + 699 + 1 ≤ K + 700 * (m + 1) by omega)
    refine cs_b1 (K := K + 700 * m + 699) (pc' := 64) (S1' := S) (ct_told hw hS hi) rfl (show _ = ac_in (S 0) p from (if_pos hp).trans (if_pos (by decide))) rfl (fun E M hw hS => ?_)
    rw [am_B147_64]
    refine cs_b1 (K := K + 700 * m + 698) (pc' := 75) (S1' := S) (ct_told hw hS hi) rfl (show _ = am_gt (S 0 6) 4 p from (if_pos hp).trans (if_pos (by decide))) rfl (fun E M hw hS => ?_)
    rw [am_B147_75]
    refine cs_le (ho_lp hi (p := p) (by omega) rfl (G := G) (K := K + 700 * m + 160) (by omega) (by omega) (fun E M _ _ _ _ _ hw hS => ?_) G 0 (by omega) E M _ _ _ _ _ hw hS) (by omega)
    refine hr_459 hi hp.2 hG (by omega) (by omega) (fun E M x13 _ _ _ _ _ hw hS => ?_) hw hS
    rw [am_B147_700, w1]
    exact ih (p + 1) (by omega) E M _ _ _ _ _ _ _ _ _ _ _ _ hw hS
theorem py_all {Y : Nat → Int → Int} (h : av_Y Y) : am_sm (ac_in Y) (Y 0 7).toNat = Y 0 8 - Y 0 9 - Y 0 10 := by
  have hb := h.1
  have h7 := hb.1
  have e : ∀ n : Nat, n ≤ 4 → am_sm (ac_in Y) n = am_sm (fun x => am_b (0 ≤ Y 2 x ∧ Y 2 x < n)) 24 := by
    intro n
    induction n with
    | zero =>
      intro _
      rw [am_sm]
      exact (av_sm0 24 (fun x _ _ => if_neg (by omega))).symm
    | succ n ih =>
      intro hn
      rw [am_sm, ih (by omega)]
      show am_sm (fun x => am_b (0 ≤ Y 2 x ∧ Y 2 x < n)) 24 + am_sm (fun l => am_b (Y 2 l = (n : Int))) 24 = _
      have ad : ∀ m : Nat, am_sm (fun x => am_b (0 ≤ Y 2 x ∧ Y 2 x < ((n + 1 : Nat) : Int))) m = am_sm (fun x => am_b (0 ≤ Y 2 x ∧ Y 2 x < n)) m + am_sm (fun l => am_b (Y 2 l = (n : Int))) m := by
        intro m
        induction m with
        | zero => rfl
        | succ m ihm =>
          rw [am_sm, am_sm, am_sm, ihm]
          unfold am_b
          repeat' split
          all_goals omega
      rw [ad]
  have e2 : am_sm (fun x => am_b (0 ≤ Y 2 x ∧ Y 2 x < (((Y 0 7).toNat : Nat) : Int))) 24 = av_lv Y := av_sm_cg 24 (fun x a b => by
    rcases hb.2.2.2.1 x a (by omega) with z | z
    · have z1 := z.1
      unfold am_b
      rw [if_neg (by omega), if_neg (by omega)]
    · unfold am_b
      rw [if_pos (by omega), if_pos (by omega)])
  rw [e _ (by omega), e2, h.2.1.1]
  omega
theorem hr_706 (hi : si B S) (hP : P = S 0 0 7) (hg : g = S 0 0 8) {E : am_E} {M : am_M} {u7 u8 u9 u10 u11 u12 u13 u14 u15 u16 u17 u18 : Option am_V} (hw : wl E M) (hS : st M = S) : cs 8 E M (am_den 147 (706, [some (am_A (34, 0)), some (am_I P), some (am_I g), some (am_I ((am_sm (am_da (S 0)) P.toNat))), some (am_I ((am_sm (ac_in (S 0)) P.toNat))), some (am_I 1), some (am_I P), u7, u8, u9, u10, u11, u12, u13, u14, u15, u16, u17, u18], [], E, M)) 1 S := by
  have h7 := hi.1.1.1.1
  have h8 := hi.1.1.1.2.1
  obtain ⟨n1, n2, n3⟩ := hi.1.1.2.1
  have nl := av_lv_le (Y := S 0)
  have ea := py_all hi.1.1
  obtain ⟨⟨H1, H2⟩, H3, H4⟩ := hi.1.2.1
  have e2 : ac_ab (S 0) 2 = S 0 0 8 - S 0 0 9 - S 0 0 10 := by
    show am_w (am_w (S 0 0 8 - S 0 0 9) - S 0 0 10) = _
    rw [am_wi (z := S 0 0 8 - S 0 0 9) (by omega) (by omega), am_wi (by omega) (by omega)]
  rw [am_B147_706, if_neg (by decide), am_B147_711]
  refine cs_b1 (pc' := 721) (S1' := S) (ct_about hw hS hi) rfl (show _ = S 0 0 8 - S 0 0 9 - S 0 0 10 from (if_pos (by decide)).trans e2) rfl (fun E M hw hS => ?_)
  rw [am_B147_721, hP, ea, if_neg (fun z => z rfl), am_B147_724]
  refine cs_b1 (pc' := 734) (S1' := S) (ct_about hw hS hi) rfl (show _ = S 0 0 9 from if_pos (by decide)) rfl (fun E M hw hS => ?_)
  rw [am_B147_734]
  refine cs_b1 (pc' := 743) (S1' := S) (ct_about hw hS hi) rfl (show _ = S 0 0 10 from if_pos (by decide)) rfl (fun E M hw hS => ?_)
  rw [am_B147_743, am_wi (z := S 0 0 8 - S 0 0 9 - S 0 0 10 + S 0 0 9) (by omega) (by omega), am_wi (by omega) (by omega), if_neg (by omega), am_B147_748]
  refine cs_b1 (pc' := 758) (S1' := S) (ct_about hw hS hi) rfl (show _ = am_sm (am_da (S 0)) (S 0 0 7).toNat from if_pos (by decide)) rfl (fun E M hw hS => ?_)
  rw [am_B147_758, if_neg (fun z => z rfl), am_B147_761]
  refine cs_b1 (pc' := 770) (S1' := S) (ct_about hw hS hi) rfl (show _ = S 0 0 13 from if_pos (by decide)) rfl (fun E M hw hS => ?_)
  rw [am_B147_770]
  refine cs_b1 (pc' := 778) (S1' := S) (ct_about hw hS hi) rfl (show _ = S 0 0 9 from if_pos (by decide)) rfl (fun E M hw hS => ?_)
  rw [am_B147_778, if_neg (by omega), am_B147_781]
  refine cs_b1 (pc' := 790) (S1' := S) (ct_about hw hS hi) rfl (show _ = S 0 0 12 from if_pos (by decide)) rfl (fun E M hw hS => ?_)
  rw [am_B147_790]
  refine cs_b1 (pc' := 800) (S1' := S) (ct_about hw hS hi) rfl (show _ = S 0 0 9 from if_pos (by decide)) rfl (fun E M hw hS => ?_)
  rw [am_B147_800, am_wi (by omega) (by omega), if_neg (by omega), am_B147_804, am_B147_809 (Or.inr rfl)]
  exact cs_ret hw hS
/-- holds: true of every state -/
theorem ho_147 (hi : si B S) {E : am_E} {M : am_M} {u1 u2 u3 u4 u5 u6 u7 u8 u9 u10 u11 u12 u13 u14 u15 u16 u17 u18 : Option am_V} (hw : wl E M) (hS : st M = S) : cs 3000 E M (am_den 147 (0, [some (am_A (34, 0)), u1, u2, u3, u4, u5, u6, u7, u8, u9, u10, u11, u12, u13, u14, u15, u16, u17, u18], [], E, M)) 1 S := by
  have h7 := hi.1.1.1.1
  have h8 := hi.1.1.1.2.1
  rw [am_B147_0]
  refine cs_b1 (K := 2999) (pc' := 8) (S1' := S) (ct_about hw hS hi) rfl (show _ = S 0 0 7 from if_pos (by decide)) rfl (fun E M hw hS => ?_)
  rw [am_B147_8]
  refine cs_b1 (K := 2998) (pc' := 17) (S1' := S) (ct_about hw hS hi) rfl (show _ = S 0 0 8 from if_pos (by decide)) rfl (fun E M hw hS => ?_)
  rw [am_B147_17, if_neg (by omega), am_B147_28, if_neg (by omega), am_B147_34, am_B147_39]
  exact cs_le (hr_44 hi rfl rfl (fun E M _ _ _ _ _ _ _ _ _ _ _ _ hw hS => hr_706 hi rfl rfl hw hS) (S 0 0 7).toNat 0 (by omega) E M _ _ _ _ _ _ _ _ _ _ _ _ hw hS) (by omega)
end HO3
