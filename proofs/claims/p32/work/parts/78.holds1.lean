/-! ===== ahead, holds: a log of a pile (written by wip/p32/gens/holds.py) ===== -/
section HO1
variable {S : am_M} {B l r : Int}
theorem ho_146 {E : am_E} {M : am_M} (hw : wl E M) (hS : st M = S) (hi : si B S) (hl : lvg (S 0) l) (hr : lvg (S 0) r) {u : Option am_V} : cs 2 E M (am_den 146 (0, [some (am_A (34, 0)), some (am_I l), some (am_I r), u], [], E, M)) (am_b (at_ah (S 0 1) l r)) S := by
  have d1 := hi.1.1.1.2.2.1 l hl.1.1 hl.1.2
  have d2 := hi.1.1.1.2.2.1 r hr.1.1 hr.1.2
  rw [am_B146_0]
  refine cs_b1 (pc' := 8) (S1' := S) (ct_log hw hS hi) rfl (lo_0 hl) rfl (fun E M hw hS => ?_)
  rw [am_B146_8]
  refine cs_b1 (pc' := 16) (S1' := S) (ct_log hw hS hi) rfl (lo_0 hr) rfl (fun E M hw hS => ?_)
  rw [am_B146_16, am_wi (by omega) (by omega)]
  by_cases q : S 0 1 l - S 0 1 r < 0
  · rw [if_pos q, am_B146_31, am_B146_36 (Or.inr rfl), am_b, if_pos (by omega)]
    exact cs_ret hw hS
  · rw [if_neg q, am_B146_22]
    by_cases q2 : S 0 1 l - S 0 1 r = 0
    · rw [if_neg (fun z => z q2), am_B146_26]
      by_cases q3 : r ≤ l
      · rw [if_pos q3, am_B146_35, am_B146_36 (Or.inl rfl), am_b, if_neg (by omega)]
        exact cs_ret hw hS
      · rw [if_neg q3, am_B146_31, am_B146_36 (Or.inr rfl), am_b, if_pos (by omega)]
        exact cs_ret hw hS
    · rw [if_pos q2, am_B146_35, am_B146_36 (Or.inl rfl), am_b, if_neg (by omega)]
      exact cs_ret hw hS
end HO1
section HO2
variable {S : am_M} {B P g x3 x4 m7 t8 : Int} {p : Nat}
theorem ho_st (hi : si B S) (hp : p < 4) (ht8 : t8 = am_gt (S 0 6) 4 p) {l K : Nat} (hl : l < 24) (hn : ∀ (E : am_E) (M : am_M) (u14 u15 u16 u17 u18 : Option am_V), wl E M → st M = S → cs K E M (am_den 147 (92, [some (am_A (34, 0)), some (am_I P), some (am_I g), some (am_I x3), some (am_I x4), some (am_I 1), some (am_I p), some (am_I m7), some (am_I t8), some (am_I ((am_sm (fun l => am_b (am_of (S 0) p l)) (l + 1)))), some (am_I ((am_sm (fun l => am_b (S 0 2 l = (p : Int))) (l + 1)))), some (am_I ((am_sm (fun l => if S 0 2 l = (p : Int) then S 0 1 l else 0) (l + 1)))), some (am_I ((am_mx (am_dl (S 0) p) (l + 1)))), some (am_I (((l + 1 : Nat) : Int))), u14, u15, u16, u17, u18], [], E, M)) 1 S) {E : am_E} {M : am_M} {u14 u15 u16 u17 u18 : Option am_V} (hw : wl E M) (hS : st M = S) : cs (K + 20) E M (am_den 147 (103, [some (am_A (34, 0)), some (am_I P), some (am_I g), some (am_I x3), some (am_I x4), some (am_I 1), some (am_I p), some (am_I m7), some (am_I t8), some (am_I ((am_sm (fun l => am_b (am_of (S 0) p l)) l))), some (am_I ((am_sm (fun l => am_b (S 0 2 l = (p : Int))) l))), some (am_I ((am_sm (fun l => if S 0 2 l = (p : Int) then S 0 1 l else 0) l))), some (am_I ((am_mx (am_dl (S 0) p) l))), some (am_I ((l : Int))), u14, u15, u16, u17, u18], [], E, M)) 1 S := by
  have hoc := am_sm_le (f := fun l => am_b (am_of (S 0) p l)) (k := 1) (n := l) (fun _ _ _ => am_b_le)
  have hic := am_sm_le (f := fun l => am_b (S 0 2 l = (p : Int))) (k := 1) (n := l) (fun _ _ _ => am_b_le)
  have hdc := am_sm_le (f := fun l => if S 0 2 l = (p : Int) then S 0 1 l else 0) (k := 99) (n := l) (fun j a c => by
    have h3 := hi.1.1.1.2.2.1 j a (by omega)
    show 0 ≤ (if S 0 2 j = (p : Int) then S 0 1 j else 0) ∧ (if S 0 2 j = (p : Int) then S 0 1 j else 0) ≤ 99
    split <;> omega)
  have w1 : am_w ((l : Int) + 1) = ((l + 1 : Nat) : Int) := by rw [am_wi (by omega) (by omega)]; omega
  have nx : ∀ (E : am_E) (M : am_M) (u14 u15 u16 u17 u18 : Option am_V), wl E M → st M = S → cs K E M (am_den 147 (453, [some (am_A (34, 0)), some (am_I P), some (am_I g), some (am_I x3), some (am_I x4), some (am_I 1), some (am_I p), some (am_I m7), some (am_I t8), some (am_I ((am_sm (fun l => am_b (am_of (S 0) p l)) (l + 1)))), some (am_I ((am_sm (fun l => am_b (S 0 2 l = (p : Int))) (l + 1)))), some (am_I ((am_sm (fun l => if S 0 2 l = (p : Int) then S 0 1 l else 0) (l + 1)))), some (am_I ((am_mx (am_dl (S 0) p) (l + 1)))), some (am_I ((l : Int))), u14, u15, u16, u17, u18], [], E, M)) 1 S := by
    intro E M u14 u15 u16 u17 u18 hw hS
    rw [am_B147_453, w1]
    exact hn E M _ _ _ _ _ hw hS
  rw [am_B147_103]
  by_cases q : S 0 2 l = (p : Int)
  · have hf := py_fa hi.1.1 hp ⟨Int.natCast_nonneg l, by omega⟩ q
    obtain ⟨f1, f2, f3, f4, f5, f6, f7, f8⟩ := hf
    refine cs_le ?_ (show K + 20 ≤ K + 20 from Nat.le_refl _)
    refine cs_b1 (K := K + 19) (pc' := 112) (S1' := S) (ct_log hw hS hi) rfl (lo_1 f8) rfl (fun E M hw hS => ?_)
    rw [am_B147_112, if_neg (fun z => z q), am_B147_117]
    refine cs_b1 (K := K + 18) (pc' := 126) (S1' := S) (ct_log hw hS hi) rfl (lo_3 f8) rfl (fun E M hw hS => ?_)
    rw [am_B147_126]
    refine cs_b1 (K := K + 17) (pc' := 137) (S1' := S) (ct_log hw hS hi) rfl (lo_4 f8) rfl (fun E M hw hS => ?_)
    rw [am_B147_137]
    refine cs_b1 (K := K + 16) (pc' := 148) (S1' := S) (ct_log hw hS hi) rfl (lo_5 f8) rfl (fun E M hw hS => ?_)
    rw [am_B147_148]
    refine cs_b1 (K := K + 15) (pc' := 159) (S1' := S) (ct_log hw hS hi) rfl (lo_2 f8) rfl (fun E M hw hS => ?_)
    have hub := py_ub (Y := S 0) (x := S 0 4 l)
    have huc := py_ub (Y := S 0) (x := S 0 5 l)
    have hdb := dep_b (Y := S 0) (x := l)
    obtain ⟨a, ea⟩ : ∃ a, (if S 0 4 l = -1 then 0 else 1 + py_u (S 0) (S 0 4 l)) = a := ⟨_, rfl⟩
    obtain ⟨b, eb⟩ : ∃ b, (if S 0 5 l = -1 then 0 else 1 + py_u (S 0) (S 0 5 l)) = b := ⟨_, rfl⟩
    have ab : 0 ≤ a ∧ a ≤ 25 := by rw [← ea]; split <;> omega
    have bb : 0 ≤ b ∧ b ≤ 25 := by rw [← eb]; split <;> omega
    rw [ea, eb] at f6
    have s405 : ∀ (E : am_E) (M : am_M), wl E M → st M = S → cs (K + 3) E M (am_den 147 (405, [some (am_A (34, 0)), some (am_I P), some (am_I g), some (am_I x3), some (am_I x4), some (am_I 1), some (am_I p), some (am_I m7), some (am_I t8), some (am_I ((am_sm (fun l => am_b (am_of (S 0) p l)) (l + 1)))), some (am_I ((am_sm (fun l => am_b (S 0 2 l = (p : Int))) (l + 1)))), some (am_I ((am_sm (fun l => if S 0 2 l = (p : Int) then S 0 1 l else 0) (l + 1)))), some (am_I ((am_mx (am_dl (S 0) p) (l + 1)))), some (am_I ((l : Int))), some (am_I (S 0 3 l)), some (am_I (S 0 4 l)), some (am_I (S 0 5 l)), some (am_I (ay_dep (S 0) l)), some (am_I (py_u (S 0) l))], [], E, M)) 1 S := by
      intro E M hw hS
      rw [am_B147_405]
      refine cs_b1 (K := K + 2) (pc' := 415) (S1' := S) (ct_log hw hS hi) rfl (lo_6 f8) rfl (fun E M hw hS => ?_)
      rw [am_B147_415, if_neg (fun z => z rfl), am_B147_420]
      refine cs_b1 (K := K + 1) (pc' := 429) (S1' := S) (ct_log hw hS hi) rfl (lo_0 f8) rfl (fun E M hw hS => ?_)
      rw [am_B147_429, if_neg (by omega), am_B147_432]
      refine cs_b1 (K := K) (pc' := 441) (S1' := S) (ct_log hw hS hi) rfl (lo_0 f8) rfl (fun E M hw hS => ?_)
      rw [am_B147_441, if_neg (by omega), am_B147_446, am_B147_451]
      exact nx E M _ _ _ _ _ hw hS
    have s385 : ∀ (E : am_E) (M : am_M), wl E M → st M = S → cs (K + 4) E M (am_den 147 (385, [some (am_A (34, 0)), some (am_I P), some (am_I g), some (am_I x3), some (am_I x4), some (am_I 1), some (am_I p), some (am_I m7), some (am_I t8), some (am_I ((am_sm (fun l => am_b (am_of (S 0) p l)) (l + 1)))), some (am_I ((am_sm (fun l => am_b (S 0 2 l = (p : Int))) (l + 1)))), some (am_I ((am_sm (fun l => if S 0 2 l = (p : Int) then S 0 1 l else 0) (l + 1)))), some (am_I ((am_mx (am_dl (S 0) p) (l + 1)))), some (am_I ((l : Int))), some (am_I (S 0 3 l)), some (am_I (S 0 4 l)), some (am_I (S 0 5 l)), some (am_I (ay_dep (S 0) l)), some (am_I (py_u (S 0) l))], [], E, M)) 1 S := by
      intro E M hw hS
      rw [am_B147_385]
      by_cases q5 : S 0 5 l = -1
      · rw [if_pos q5]
        exact cs_le (s405 E M hw hS) (by omega)
      · rw [if_neg q5, am_B147_391]
        refine cs_b1 (K := K + 3) (pc' := 400) (S1' := S) (ct_log hw hS hi) rfl (lo_3 (f5 q5).1) rfl (fun E M hw hS => ?_)
        rw [am_B147_400, if_neg (fun z => z (f5 q5).2)]
        exact s405 E M hw hS
    have s365 : ∀ (E : am_E) (M : am_M), wl E M → st M = S → cs (K + 5) E M (am_den 147 (365, [some (am_A (34, 0)), some (am_I P), some (am_I g), some (am_I x3), some (am_I x4), some (am_I 1), some (am_I p), some (am_I m7), some (am_I t8), some (am_I ((am_sm (fun l => am_b (am_of (S 0) p l)) (l + 1)))), some (am_I ((am_sm (fun l => am_b (S 0 2 l = (p : Int))) (l + 1)))), some (am_I ((am_sm (fun l => if S 0 2 l = (p : Int) then S 0 1 l else 0) (l + 1)))), some (am_I ((am_mx (am_dl (S 0) p) (l + 1)))), some (am_I ((l : Int))), some (am_I (S 0 3 l)), some (am_I (S 0 4 l)), some (am_I (S 0 5 l)), some (am_I (ay_dep (S 0) l)), some (am_I (py_u (S 0) l))], [], E, M)) 1 S := by
      intro E M hw hS
      rw [am_B147_365]
      by_cases q4 : S 0 4 l = -1
      · rw [if_pos q4]
        exact cs_le (s385 E M hw hS) (by omega)
      · rw [if_neg q4, am_B147_371]
        refine cs_b1 (K := K + 4) (pc' := 380) (S1' := S) (ct_log hw hS hi) rfl (lo_3 (f4 q4).1) rfl (fun E M hw hS => ?_)
        rw [am_B147_380, if_neg (fun z => z (f4 q4).2)]
        exact s385 E M hw hS
    have s294 : ∀ (E : am_E) (M : am_M), wl E M → st M = S → cs (K + 8) E M (am_den 147 (294, [some (am_A (34, 0)), some (am_I P), some (am_I g), some (am_I x3), some (am_I x4), some (am_I 1), some (am_I p), some (am_I m7), some (am_I t8), some (am_I ((am_sm (fun l => am_b (am_of (S 0) p l)) (l + 1)))), some (am_I ((am_sm (fun l => am_b (S 0 2 l = (p : Int))) (l + 1)))), some (am_I ((am_sm (fun l => if S 0 2 l = (p : Int) then S 0 1 l else 0) (l + 1)))), some (am_I ((am_mx (am_dl (S 0) p) (l + 1)))), some (am_I ((l : Int))), some (am_I (S 0 3 l)), some (am_I (S 0 4 l)), some (am_I (S 0 5 l)), some (am_I (ay_dep (S 0) l)), some (am_I (py_u (S 0) l))], [], E, M)) 1 S := by
      intro E M hw hS
      rw [am_B147_294]
      by_cases q3 : S 0 3 l = -1
      · rw [if_neg (fun z => z q3), am_B147_300, if_neg (fun z => z (f2 q3)), am_B147_305]
        exact cs_le (s365 E M hw hS) (by omega)
      · obtain ⟨g1, g2, g3⟩ := f3 q3
        have hdu := dep_b (Y := S 0) (x := S 0 3 l)
        rw [if_pos q3, am_B147_308]
        refine cs_b1 (K := K + 7) (pc' := 320) (S1' := S) (ct_log hw hS hi) rfl (lo_2 g1) rfl (fun E M hw hS => ?_)
        rw [am_B147_320, am_wi (by omega) (by omega), if_neg (fun z => z g2), am_B147_324]
        refine cs_b1 (K := K + 6) (pc' := 333) (S1' := S) (ct_log hw hS hi) rfl (lo_4 g1) rfl (fun E M hw hS => ?_)
        rw [am_B147_333]
        rcases g3 with ⟨g4, g5⟩ | ⟨g4, g5⟩
        · rw [if_neg (fun z => z g4), am_B147_338, am_B147_343]
          refine cs_b1 (K := K + 5) (pc' := 352) (S1' := S) (ct_log hw hS hi) rfl (lo_5 g1) rfl (fun E M hw hS => ?_)
          rw [am_B147_352, if_pos g5, am_B147_361, am_B147_362, if_neg (by decide)]
          exact s365 E M hw hS
        · rw [if_pos g4, am_B147_342, am_B147_343]
          refine cs_b1 (K := K + 5) (pc' := 352) (S1' := S) (ct_log hw hS hi) rfl (lo_5 g1) rfl (fun E M hw hS => ?_)
          rw [am_B147_352, if_neg (fun z => z g5), am_B147_357, am_B147_362, if_neg (by decide)]
          exact s365 E M hw hS
    have s265 : ∀ (E : am_E) (M : am_M), wl E M → st M = S → cs (K + 8) E M (am_den 147 (265, [some (am_A (34, 0)), some (am_I P), some (am_I g), some (am_I x3), some (am_I x4), some (am_I 1), some (am_I p), some (am_I m7), some (am_I t8), some (am_I ((am_sm (fun l => am_b (am_of (S 0) p l)) l))), some (am_I ((am_sm (fun l => am_b (S 0 2 l = (p : Int))) (l + 1)))), some (am_I ((am_sm (fun l => if S 0 2 l = (p : Int) then S 0 1 l else 0) (l + 1)))), some (am_I ((am_mx (am_dl (S 0) p) (l + 1)))), some (am_I ((l : Int))), some (am_I (S 0 3 l)), some (am_I (S 0 4 l)), some (am_I (S 0 5 l)), some (am_I (ay_dep (S 0) l)), some (am_I (py_u (S 0) l))], [am_I (am_b (am_of (S 0) p l)), am_I (am_sm (fun l => am_b (am_of (S 0) p l)) l)], E, M)) 1 S := by
      intro E M hw hS
      have e9 : am_w (am_sm (fun l => am_b (am_of (S 0) p l)) l + am_b (am_of (S 0) p l)) = am_sm (fun l => am_b (am_of (S 0) p l)) (l + 1) := by
        have := am_b_le (p := am_of (S 0) p l)
        rw [am_wi (by omega) (by omega)]
        rfl
      rw [am_B147_265, e9]
      by_cases q3 : S 0 3 l = -1
      · rw [if_neg (fun z => z q3), am_B147_274, am_B147_279, if_neg (fun z => z (by rw [ht8]; exact f1.mp q3)), am_B147_286, am_B147_291, if_neg (fun z => z rfl)]
        exact s294 E M hw hS
      · rw [if_pos q3, am_B147_278, am_B147_279, if_pos (fun z => q3 (f1.mpr (by rw [← ht8]; exact z))), am_B147_290, am_B147_291, if_neg (fun z => z rfl)]
        exact s294 E M hw hS
    have s239 : ∀ (E : am_E) (M : am_M), wl E M → st M = S → cs (K + 10) E M (am_den 147 (239, [some (am_A (34, 0)), some (am_I P), some (am_I g), some (am_I x3), some (am_I x4), some (am_I 1), some (am_I p), some (am_I m7), some (am_I t8), some (am_I ((am_sm (fun l => am_b (am_of (S 0) p l)) l))), some (am_I ((am_sm (fun l => am_b (S 0 2 l = (p : Int))) (l + 1)))), some (am_I ((am_sm (fun l => if S 0 2 l = (p : Int) then S 0 1 l else 0) (l + 1)))), some (am_I ((am_mx (am_dl (S 0) p) l))), some (am_I ((l : Int))), some (am_I (S 0 3 l)), some (am_I (S 0 4 l)), some (am_I (S 0 5 l)), some (am_I (ay_dep (S 0) l)), some (am_I (py_u (S 0) l))], [am_I (am_mx (am_dl (S 0) p) (l + 1))], E, M)) 1 S := by
      intro E M hw hS
      rw [am_B147_239]
      by_cases q3 : S 0 3 l = -1
      · have e : am_b (am_of (S 0) p l) = 0 := if_neg (fun z => z.2.1 q3)
        have t := s265 E M hw hS
        rw [e] at t
        rw [if_pos q3, am_B147_264]
        exact cs_le t (by omega)
      · obtain ⟨g1, -, -⟩ := f3 q3
        rw [if_neg q3, am_B147_249]
        refine cs_bd (K := K + 8) (pc' := 257) (S1' := S) (ho_146 hw hS hi f8 g1) rfl rfl rfl (by omega) (fun E M hw hS => ?_)
        have hf8 := f8.1
        have hg1 := g1.1
        by_cases q7 : at_ah (S 0 1) l (S 0 3 l)
        · have e : am_b (am_of (S 0) p l) = 1 := if_pos ⟨q, q3, by omega, q7⟩
          have t := s265 E M hw hS
          rw [e] at t
          rw [am_B147_257, am_b, if_pos q7, if_neg (by decide), am_B147_260]
          exact t
        · have e : am_b (am_of (S 0) p l) = 0 := if_neg (fun z => q7 z.2.2.2)
          have t := s265 E M hw hS
          rw [e] at t
          rw [am_B147_257, am_b, if_neg q7, if_pos rfl, am_B147_264]
          exact t
    have s205 : ∀ (E : am_E) (M : am_M) (u18 : Option am_V), wl E M → st M = S → cs (K + 11) E M (am_den 147 (205, [some (am_A (34, 0)), some (am_I P), some (am_I g), some (am_I x3), some (am_I x4), some (am_I 1), some (am_I p), some (am_I m7), some (am_I t8), some (am_I ((am_sm (fun l => am_b (am_of (S 0) p l)) l))), some (am_I ((am_sm (fun l => am_b (S 0 2 l = (p : Int))) l))), some (am_I ((am_sm (fun l => if S 0 2 l = (p : Int) then S 0 1 l else 0) l))), some (am_I ((am_mx (am_dl (S 0) p) l))), some (am_I ((l : Int))), some (am_I (S 0 3 l)), some (am_I (S 0 4 l)), some (am_I (S 0 5 l)), some (am_I (ay_dep (S 0) l)), u18], [am_I b, am_I a], E, M)) 1 S := by
      intro E M u18 hw hS
      have e10 : am_w (am_sm (fun l => am_b (S 0 2 l = (p : Int))) l + 1) = am_sm (fun l => am_b (S 0 2 l = (p : Int))) (l + 1) := by
        rw [am_wi (by omega) (by omega), am_sm, am_b, if_pos q]
      have e18 : am_w (a + b) = py_u (S 0) l := by rw [am_wi (by omega) (by omega), f6]
      have e11 : am_w (am_sm (fun l => if S 0 2 l = (p : Int) then S 0 1 l else 0) l + S 0 1 l) = am_sm (fun l => if S 0 2 l = (p : Int) then S 0 1 l else 0) (l + 1) := by
        rw [am_wi (by omega) (by omega), am_sm, if_pos q]
      rw [am_B147_205, e10, e18]
      refine cs_b1 (K := K + 10) (pc' := 222) (S1' := S) (ct_log hw hS hi) rfl (lo_0 f8) rfl (fun E M hw hS => ?_)
      have ed : am_dl (S 0) p l = ay_dep (S 0) l := if_pos q
      rw [am_B147_222, e11]
      by_cases q7 : ay_dep (S 0) l ≤ am_mx (am_dl (S 0) p) l
      · have e12 : am_mx (am_dl (S 0) p) (l + 1) = am_mx (am_dl (S 0) p) l := by rw [am_mx, ed, if_neg (by omega)]
        rw [if_pos q7, am_B147_237, ← e12]
        have := s239 E M hw hS
        rw [e12] at this ⊢
        exact this
      · have e12 : am_mx (am_dl (S 0) p) (l + 1) = ay_dep (S 0) l := by rw [am_mx, ed, if_pos (by omega)]
        rw [if_neg q7, am_B147_232]
        have := s239 E M hw hS
        rw [e12] at this
        exact this
    have s183 : ∀ (E : am_E) (M : am_M) (u18 : Option am_V), wl E M → st M = S → cs (K + 12) E M (am_den 147 (183, [some (am_A (34, 0)), some (am_I P), some (am_I g), some (am_I x3), some (am_I x4), some (am_I 1), some (am_I p), some (am_I m7), some (am_I t8), some (am_I ((am_sm (fun l => am_b (am_of (S 0) p l)) l))), some (am_I ((am_sm (fun l => am_b (S 0 2 l = (p : Int))) l))), some (am_I ((am_sm (fun l => if S 0 2 l = (p : Int) then S 0 1 l else 0) l))), some (am_I ((am_mx (am_dl (S 0) p) l))), some (am_I ((l : Int))), some (am_I (S 0 3 l)), some (am_I (S 0 4 l)), some (am_I (S 0 5 l)), some (am_I (ay_dep (S 0) l)), u18], [am_I a], E, M)) 1 S := by
      intro E M u18 hw hS
      rw [am_B147_183]
      by_cases q5 : S 0 5 l = -1
      · rw [if_pos q5] at eb
        subst eb
        rw [if_neg (fun z => z q5), am_B147_189]
        exact cs_le (s205 E M u18 hw hS) (by omega)
      · rw [if_neg q5] at eb
        rw [if_pos q5, am_B147_193]
        refine cs_b1 (K := K + 11) (pc' := 204) (S1' := S) (ct_log hw hS hi) rfl (lo_6 (f5 q5).1) rfl (fun E M hw hS => ?_)
        subst eb
        rw [am_B147_204, am_wi (by omega) (by omega)]
        exact s205 E M u18 hw hS
    rw [am_B147_159]
    by_cases q4 : S 0 4 l = -1
    · rw [if_pos q4] at ea
      subst ea
      rw [if_neg (fun z => z q4), am_B147_167]
      exact cs_le (s183 E M u18 hw hS) (by omega)
    · rw [if_neg q4] at ea
      rw [if_pos q4, am_B147_171]
      refine cs_b1 (K := K + 14) (pc' := 182) (S1' := S) (ct_log hw hS hi) rfl (lo_6 (f4 q4).1) rfl (fun E M hw hS => ?_)
      subst ea
      rw [am_B147_182, am_wi (by omega) (by omega)]
      exact cs_le (s183 E M u18 hw hS) (by omega)
  · have nv : ∃ v, sv_log (S 0) l 1 0 = v ∧ v ≠ (p : Int) := by
      by_cases q2 : am_gt (S 0 2) 24 l = -1
      · exact ⟨_, lo_n q2, by omega⟩
      · rw [at_gt (n := 24) (by omega)] at q2
        exact ⟨_, lo_1 ⟨by omega, q2⟩, q⟩
    obtain ⟨v, ev, nv⟩ := nv
    have e9 : am_sm (fun l => am_b (am_of (S 0) p l)) (l + 1) = am_sm (fun l => am_b (am_of (S 0) p l)) l := by
      rw [am_sm, am_b, if_neg (fun z => q z.1), Int.add_zero]
    have e10 : am_sm (fun l => am_b (S 0 2 l = (p : Int))) (l + 1) = am_sm (fun l => am_b (S 0 2 l = (p : Int))) l := by
      rw [am_sm, am_b, if_neg q, Int.add_zero]
    have e11 : am_sm (fun l => if S 0 2 l = (p : Int) then S 0 1 l else 0) (l + 1) = am_sm (fun l => if S 0 2 l = (p : Int) then S 0 1 l else 0) l := by
      rw [am_sm, if_neg q, Int.add_zero]
    have e12 : am_mx (am_dl (S 0) p) (l + 1) = am_mx (am_dl (S 0) p) l := by
      have ed : am_dl (S 0) p l = -1 := if_neg q
      have := mx_ge (f := am_dl (S 0) p) l
      rw [am_mx, ed, if_neg (by omega)]
    refine cs_b1 (K := K + 19) (pc' := 112) (S1' := S) (ct_log hw hS hi) rfl ev rfl (fun E M hw hS => ?_)
    rw [am_B147_112, if_pos nv]
    have := nx E M u14 u15 u16 u17 u18 hw hS
    rw [e9, e10, e11, e12] at this
    exact cs_le this (by omega)
theorem ho_lp (hi : si B S) (hp : p < 4) (ht8 : t8 = am_gt (S 0 6) 4 p) {G K : Nat} (hG : G ≤ 24) (hg : g = (G : Int)) (hn : ∀ (E : am_E) (M : am_M) (u14 u15 u16 u17 u18 : Option am_V), wl E M → st M = S → cs K E M (am_den 147 (459, [some (am_A (34, 0)), some (am_I P), some (am_I g), some (am_I x3), some (am_I x4), some (am_I 1), some (am_I p), some (am_I m7), some (am_I t8), some (am_I ((am_sm (fun l => am_b (am_of (S 0) p l)) G))), some (am_I ((am_sm (fun l => am_b (S 0 2 l = (p : Int))) G))), some (am_I ((am_sm (fun l => if S 0 2 l = (p : Int) then S 0 1 l else 0) G))), some (am_I ((am_mx (am_dl (S 0) p) G))), some (am_I ((G : Int))), u14, u15, u16, u17, u18], [], E, M)) 1 S) : ∀ (m l : Nat), l + m = G → ∀ (E : am_E) (M : am_M) (u14 u15 u16 u17 u18 : Option am_V), wl E M → st M = S → cs (K + 20 * m) E M (am_den 147 (92, [some (am_A (34, 0)), some (am_I P), some (am_I g), some (am_I x3), some (am_I x4), some (am_I 1), some (am_I p), some (am_I m7), some (am_I t8), some (am_I ((am_sm (fun l => am_b (am_of (S 0) p l)) l))), some (am_I ((am_sm (fun l => am_b (S 0 2 l = (p : Int))) l))), some (am_I ((am_sm (fun l => if S 0 2 l = (p : Int) then S 0 1 l else 0) l))), some (am_I ((am_mx (am_dl (S 0) p) l))), some (am_I ((l : Int))), u14, u15, u16, u17, u18], [], E, M)) 1 S := by
  intro m
  induction m with
  | zero =>
    intro l h E M u14 u15 u16 u17 u18 hw hS
    have e : l = G := by omega
    subst e
    rw [am_B147_92, if_pos (by omega)]
    exact hn E M _ _ _ _ _ hw hS
  | succ m ih =>
    intro l h E M u14 u15 u16 u17 u18 hw hS
    rw [am_B147_92, if_neg (by omega), am_B147_98, if_neg (by decide)]
    exact cs_le (ho_st hi hp ht8 (K := K + 20 * m) (by omega) (fun E M a b c d e hw hS => ih (l + 1) (by omega) E M a b c d e hw hS) hw hS) (by omega)
end HO2
