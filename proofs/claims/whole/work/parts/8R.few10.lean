/-! ===== fewestLifts: the pair of calls, the law's turn ===== -/
theorem fw_ge {Y : Nat → Int → Int} {T : Nat → at_T} (hb : av_b Y) (ht : av_tr Y T) {n : Nat} (hn : Y 0 7 = n) : ∀ r, r < 4 → n ≤ r → fw_lf (T r) = true := by
  intro r hr hnr
  cases hT : T r with
  | leaf u => rfl
  | branch m a b =>
    have hx : 0 < at_ct (T r) (m : Int) := by
      rw [hT]
      simp only [at_ct, if_true]
      omega
    have h2 := ht.2.2 r hr m hx
    have hi := av_in ht hr hx
    have h3 := ra_lv hb hi.1 hi.2 (by omega)
    omega
theorem fw_f3_b {D : Int → Int} {T : Nat → at_T} : 0 ≤ fw_f3 D T ∧ fw_f3 D T ≤ 72 := by
  have b0 : ∀ T : Nat → at_T, 0 ≤ (fun _ => (0 : Int)) T ∧ (fun _ => (0 : Int)) T ≤ 0 := fun _ => ⟨Int.le_refl 0, Int.le_refl 0⟩
  have b1 := fw_lv_le (D := D) b0 (by decide)
  have b2 := fw_lv_le (D := D) b1 (by decide)
  have b3 := fw_lv_le (D := D) b2 (by decide)
  exact b3 T
section FEW10
variable {E : am_E} {M N : am_M} {B : Int}
theorem tp_fewest (hE : am_Wr E) (hs : si M B) (hB : B < 2140000000) {u u1 u2 u3 : Option am_V} : tq E M B (fun _ => 0) (am_den 89 (0, [some (am_A (34, 0)), u], [], E, M)) (fun E' N => am_den 190 (0, [some (am_A (35, 0)), u1, u2, u3], [], E', N)) := by
  obtain ⟨hG, hq, h8⟩ := hs.1
  obtain ⟨hYd, hH, hl0, hlB⟩ := hG
  have hYd' := hYd
  obtain ⟨hb, hcn, T, ht, ha⟩ := hYd'
  have h7 := hb.1
  obtain ⟨n, hn⟩ : ∃ n : Nat, M 0 0 7 = (n : Int) := ⟨(M 0 0 7).toNat, by omega⟩
  have he := ts_yp_e (Z := M 0) (Y := M 18)
  have e11 : am_yp (M 0) (M 18) 0 11 = M 0 0 11 := ts_yp_s (by decide) (by decide)
  have g18 : fw_g (M 0 1) B T (am_yp (M 0) (M 18)) := ⟨av_tr_cg (fun c x h2 h3 a b => he.1 c x (by omega) h3 a b) (fun p a b => (he.2 p a b).1) ht, fun x a b => he.1 1 x (by decide) (by decide) a b, by omega, by omega⟩
  have g0 : fw_g (M 0 1) B T (M 0) := ⟨ht, fun _ _ _ => rfl, hl0, hlB⟩
  have hok : fw_ok (M 0 1) T := ⟨M 0, ht, fun _ _ _ => rfl⟩
  have hall : fr_all (M 0 1) n (M 0 0 11) T = fw_f3 (M 0 1) T := fr_all_eq hok hl0 (by omega) (fw_ge hb ht hn)
  have h3 := fw_f3_b (D := M 0 1) (T := T)
  obtain ⟨M1, e1, k1⟩ := fw_s0 (E := E) (D := M 0 1) (C := B) hE (by omega) (am_sb M 18 (am_yp (M 0) (M 18))) T (by rw [am_sb_at]; exact g18)
  have km : ∀ b, (b < 18 ∨ 21 < b) → M1 b = M b := fun b hb => by rw [k1 b (by omega), am_sb_ne (by omega)]
  refine ⟨M1, fun b hb => km b (by omega), Or.inl ⟨fw_f3 (M 0 1) T, ?_, fun E' N hE' hN => ?_⟩⟩
  · rw [fw_89 hE, e1, am_bd_v]
    simp only [Nat.reduceAdd]
    rw [am_B89_31]
  · have e : ∀ b, b ≠ 44 → (b < 18 ∨ 21 < b) → N b = M b := fun b a c => by rw [hN b a, km b c]
    have hsN : si N B := tp_cg hs (Int.le_refl _) (fun b a => e b (by omega) (by omega)) (fun b w => e b (by omega) (by omega)) (by rw [e 30 (by decide) (by decide)]) (by rw [e 30 (by decide) (by decide)]) (by rw [e 35 (by decide) (by decide)]) (by rw [e 35 (by decide) (by decide)]) (fun b w => e b (by omega) (by omega))
    obtain ⟨f1, f2, f3⟩ := tp_no (c := 0) hsN
    obtain ⟨N2, x2, k2⟩ := fr_190 (M := N) (u1 := u1) (u2 := u2) (u3 := u3) hE' hYd g0 hn (by omega) (by rw [e 37 (by decide) (by decide)]; exact hq) (by rw [hall]; omega)
    rw [hall] at x2
    refine ⟨N2, x2, by rw [k2 35 (by decide) (by decide)]; exact f2, fun b hb => ?_, ?_⟩
    · rw [k2 b (by omega) (by omega)]
      exact f3 b hb
    · exact tp_cg f1 (Int.le_refl _) (fun b a => k2 b (by omega) (by omega)) (fun b w => k2 b (by omega) (by omega)) (by rw [k2 30 (by decide) (by decide)]) (by rw [k2 30 (by decide) (by decide)]) (by rw [k2 35 (by decide) (by decide)]) (by rw [k2 35 (by decide) (by decide)]) (fun b w => k2 b (by omega) (by omega))
end FEW10
theorem am_tz22 : tz22 := by
  intro E M B i u5 u6 hE hs hB0 hB hi hL
  obtain ⟨M1, hM, h⟩ := tp_fewest (u := none) (u1 := none) (u2 := none) (u3 := none) hE hs hB
  rcases h with ⟨v, hX, h⟩ | ⟨x, _, hx, _⟩
  · obtain ⟨N2, e, e0, hb, hs2⟩ := h E M1 hE (fun _ _ => rfl)
    dsimp only at e
    rw [am_B225_1402 hE, hX, am_bd_v]
    simp only [Nat.reduceAdd]
    rw [am_B225_1406 hE, e, am_bd_v]
    simp only [Nat.reduceAdd]
    rw [am_B225_1410, if_pos rfl]
    exact ⟨E, N2, _, _, rfl, Or.inl rfl, fun b hb' => by rw [hb b (by omega), hM b (by omega)], hs2⟩
  · exact absurd rfl hx
