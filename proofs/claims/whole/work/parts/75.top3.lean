/-! ===== pairs of calls ===== -/
/-- a call of the class, X, and the same call of the reference, R, behind it -/
def tq (E : am_E) (M : am_M) (B : Int) (tb : Nat → Int) (X : Option am_Rs) (R : am_E → am_M → Option am_Rs) : Prop :=
  ∃ M1, (∀ b, 34 < b → M1 b = M b) ∧ ((∃ v, X = some (.inl (some (am_I v)), E, M1) ∧ ∀ E' N, am_Wr E' → (∀ b, b ≠ 44 → N b = M1 b) → ∃ N2, R E' N = some (.inl (some (am_I v)), E', N2) ∧ N2 35 0 0 = 0 ∧ (∀ b, 43 < b → N2 b = N b) ∧ si N2 (B + 576)) ∨
    (∃ x, X = some (.inr x, am_xE E, M1) ∧ tb x ≠ 0 ∧ ∀ E' N, am_Wr E' → (∀ b, b ≠ 44 → N b = M1 b) → ∃ N2 w, R E' N = some (.inl (some (am_I w)), E', N2) ∧ N2 35 0 0 = tb x ∧ (∀ b, 43 < b → N2 b = N b) ∧ si N2 (B + 576)))
section TOP3
variable {E : am_E} {M N : am_M} {B : Int}
theorem tp_119 (hE : am_Wr E) {v : Int} : am_den 119 (0, [some (am_A (35, 0)), some (am_I v)], [], E, N) = some (.inl (some (am_I (am_b (0 < v)))), E, ar_s N 35 (ar_u (N 35 0) 0 v)) := by
  rw [ar_119 hE, ar_up0]
theorem tp_44 {B : Int} (h : si M B) (hN : ∀ b, b ≠ 44 → N b = M b) : si N B := tp_cg h (Int.le_refl _) (fun b _ => hN b (by omega)) (fun b w => hN b (by omega)) (by rw [hN 30 (by decide)]) (by rw [hN 30 (by decide)]) (by rw [hN 35 (by decide)]) (by rw [hN 35 (by decide)]) (fun b w => hN b (by omega))
/-- a refused call -/
theorem tp_no {c : Int} (h : si N B) : si (ar_s N 35 (ar_u (N 35 0) 0 c)) (B + 576) ∧ (ar_s N 35 (ar_u (N 35 0) 0 c)) 35 0 0 = c ∧ ∀ b, 43 < b → (ar_s N 35 (ar_u (N 35 0) 0 c)) b = N b := by
  have e : ∀ b, b ≠ 35 → (ar_s N 35 (ar_u (N 35 0) 0 c)) b = N b := fun b hb => ar_s_nb hb
  refine ⟨tp_cg h (by omega) (fun b a => e b (by omega)) (fun b w => e b (by omega)) (by rw [e 30 (by decide)]) (by rw [e 30 (by decide)]) (by rw [ar_s_at, ar_u_ne (by decide)]) (by rw [ar_s_at, ar_u_ne (by decide)]) (fun b w => e b (by omega)), by rw [ar_s_at, ar_u_eq], fun b hb => e b (by omega)⟩
/-- an action is begun in the reference -/
theorem tp_acc (hE : am_Wr E) (hs : si M B) {Y' : Nat → Int → Int} (hN : ∀ b, b ≠ 44 → N b = am_sb (ak_kp M) 0 Y' b) : ∃ N2, am_den 173 (0, [some (am_A (35, 0)), none], [], E, ar_s N 35 (ar_u (N 35 0) 0 0)) = some (.inl none, E, N2) ∧ N2 37 0 = M 37 0 ∧ ∀ f', ts (B + 576) Y' f' → si (ar_s N2 37 f') (B + 576) ∧ (ar_s N2 37 f') 35 0 0 = 0 ∧ ∀ b, 43 < b → (ar_s N2 37 f') b = N b := by
  have hk : ∀ b, 34 < b → am_sb (ak_kp M) 0 Y' b = M b := fun b a => by
    have htt := ak_t_le (o := ak_o M) (c := ak_c M)
    rw [am_sb_ne (by omega)]
    unfold ak_kp
    rw [am_sb_ne (by omega), am_sb_ne (by omega)]
  have hr : ∀ b, 34 < b → b ≠ 44 → N b = M b := fun b a c => by rw [hN b c, hk b a]
  have e35 : N 35 0 = M 35 0 := by rw [hr 35 (by decide) (by decide)]
  obtain ⟨D, e, hD⟩ := tp_173 (N := ar_s N 35 (ar_u (N 35 0) 0 0)) (u := none) hE hs.2.1 (by rw [ar_s_at, ar_u_ne (by decide), e35]; exact hs.2.1.2.1) (by rw [ar_s_ne (by decide), hr 41 (by decide) (by decide)]) (by rw [ar_s_ne (by decide), hr 37 (by decide) (by decide)])
  rw [ar_s_at] at e
  refine ⟨_, e, ?_, fun f' ht => ?_⟩
  · rw [ar_s_ne (by decide), ar_s_ne (by decide), ar_s_ne (by decide), hr 37 (by decide) (by decide)]
  · have u : ∀ b, b ≠ 35 → b ≠ 37 → b ≠ 41 → ar_s (ar_s (ar_s (ar_s N 35 (ar_u (N 35 0) 0 0)) 41 D) 35 (ar_u (ar_u (N 35 0) 0 0) 8 (ak_c M + 1))) 37 f' b = N b := by
      intro b a c d
      rw [ar_s_nb c, ar_s_nb a, ar_s_nb d, ar_s_nb a]
    have u35 : ar_s (ar_s (ar_s (ar_s N 35 (ar_u (N 35 0) 0 0)) 41 D) 35 (ar_u (ar_u (N 35 0) 0 0) 8 (ak_c M + 1))) 37 f' 35 0 = ar_u (ar_u (N 35 0) 0 0) 8 (ak_c M + 1) := by
      rw [ar_s_ne (by decide), ar_s_at]
    refine ⟨tp_act hs (fun b hb => by rw [u b (by omega) (by omega) (by omega), hN b (by omega)]) ar_s_at ht (by rw [u35, ar_u_eq]) (by rw [u35, ar_u_ne (by decide), ar_u_ne (by decide), e35]) ?_ (by rw [u 36 (by decide) (by decide) (by decide), hr 36 (by decide) (by decide)]) (by rw [u 42 (by decide) (by decide) (by decide), hr 42 (by decide) (by decide)]) (by rw [u 43 (by decide) (by decide) (by decide), hr 43 (by decide) (by decide)]), by rw [u35, ar_u_ne (by decide), ar_u_eq], fun b hb => u b (by omega) (by omega) (by omega)⟩
    rw [ar_s_ne (by decide), ar_s_ne (by decide), ar_s_at]
    exact hD
theorem tp_ts {Y' : Nat → Int → Int} {f f' : Int → Int} (hg : av_G (B + 576) Y') (hq : ra_q f' Y') (h8 : f' 8 = f 8) (hf : f 8 = Y' 0 15) : ts (B + 576) Y' f' := ⟨hg, hq, by rw [h8, hf]⟩
theorem tp_g {Y Y' : Nat → Int → Int} (hB : B < 2147000000) (hG : av_G B Y) (hY : av_Y Y') (hH : av_H Y') (hl : av_li Y Y' 576) : av_G (B + 576) Y' := by
  have := av_lb hl hG.2.2.1 hG.2.2.2 (by omega)
  exact ⟨hY, hH, this.1, this.2⟩
theorem tp_kp35 {Y' : Nat → Int → Int} : ∀ b, 34 < b → am_sb (ak_kp M) 0 Y' b = M b := fun b a => by
  have htt := ak_t_le (o := ak_o M) (c := ak_c M)
  rw [am_sb_ne (by omega)]
  unfold ak_kp
  rw [am_sb_ne (by omega), am_sb_ne (by omega)]
/-- pile -/
theorem tp_pile (hE : am_Wr E) (hs : si M B) (hB : B < 2147000000) : tq E M B (fun x => if x = 1 then 1 else 0) (am_den 75 (0, [some (am_A (34, 0))], [], E, M)) (fun E' N => am_den 174 (0, [some (am_A (35, 0))], [], E', N)) := by
  obtain ⟨hG, hq, h8⟩ := hs.1
  have h7 := hG.1.1.1
  rw [ac_75 hE hs.2.1.1 h7]
  by_cases h : M 0 0 7 < 4
  · rw [if_pos h]
    refine ⟨am_sb (ak_kp M) 0 (am_uy (M 0) 0 7 (M 0 0 7 + 1)), tp_kp35, Or.inl ⟨M 0 0 7, rfl, fun E' N hE' hN => ?_⟩⟩
    have e37 : N 37 0 = M 37 0 := by rw [hN 37 (by decide), tp_kp35 37 (by decide)]
    have q37 : ra_q (N 37 0) (M 0) := by rw [e37]; exact hq
    have k37 := hE'.2.2.2.2.2.2.2.1
    obtain ⟨N2, e2, n37, fin⟩ := tp_acc hE' hs hN
    obtain ⟨f', e3, hq', h8'⟩ := ra_144 (M := N2) (d := 37) (u := none) k37 hq hG.1 h
    have s37 : ar_s N2 37 (M 37 0) = N2 := by rw [← n37, ar_s_self]
    rw [s37] at e3
    obtain ⟨f1, f2, f3⟩ := fin f' (tp_ts (f := M 37 0) (tp_g hB hG (av_pile hG.1 h) (av_H_cg hG.2.1 (ay_uy_ne (Or.inr (by decide))) (ay_uy_ne (Or.inr (by decide))) (ay_uy_ne (Or.inr (by decide)))) (av_li_0 (ay_uy_ne (Or.inr (by decide))))) hq' h8' (by rw [ay_uy_ne (Or.inr (by decide))]; exact h8))
    refine ⟨_, ?_, f2, f3, f1⟩
    show am_den 174 (0, [some (am_A (35, 0))], [], E', N) = _
    have e0 : N 37 0 0 = M 0 0 7 := by rw [e37, hq.1.1]
    rw [am_B174_0 hE', e0, if_neg (by omega), am_B174_11]
    rw [am_B174_16 hE', tp_119 hE', am_bd_v]
    simp only [Nat.reduceAdd]
    rw [am_B174_19, if_pos (by rw [am_b_0]; decide), am_B174_24 hE', e2, am_bd_u]
    simp only [Nat.reduceAdd]
    rw [am_B174_28 hE', e3, am_bd_v]
    simp only [Nat.reduceAdd]
    rw [am_B174_35]
  · rw [if_neg h]
    refine ⟨M, fun _ _ => rfl, Or.inr ⟨1, rfl, by decide, fun E' N hE' hN => ?_⟩⟩
    have e37 : N 37 0 = M 37 0 := by rw [hN 37 (by decide)]
    have q37 : ra_q (N 37 0) (M 0) := by rw [e37]; exact hq
    have k37 := hE'.2.2.2.2.2.2.2.1
    obtain ⟨f1, f2, f3⟩ := tp_no (c := 1) (tp_44 hs hN)
    refine ⟨_, 0, ?_, f2, f3, f1⟩
    show am_den 174 (0, [some (am_A (35, 0))], [], E', N) = _
    have e0 : N 37 0 0 = M 0 0 7 := by rw [e37, hq.1.1]
    rw [am_B174_0 hE', e0, if_pos (by omega), am_B174_15]
    rw [am_B174_16 hE', tp_119 hE', am_bd_v]
    simp only [Nat.reduceAdd]
    rw [am_B174_19, if_neg (by rw [am_b_0]; decide), am_B174_22]
/-- log -/
theorem tp_log (hE : am_Wr E) (hs : si M B) (hB : B < 2147000000) {p w : Int} : tq E M B (fun x => if x = 2 then 1 else if x = 0 then 2 else if x = 1 then 3 else 0) (am_den 76 (0, [some (am_A (34, 0)), some (am_I p), some (am_I w)], [], E, M)) (fun E' N => am_den 175 (0, [some (am_A (35, 0)), some (am_I p), some (am_I w)], [], E', N)) := by
  obtain ⟨hG, hq, h8⟩ := hs.1
  have h7 := hG.1.1.1
  rw [ac_76 hE hs.2.1.1]
  by_cases h1 : 0 ≤ p ∧ p < M 0 0 7
  · rw [if_pos h1]
    by_cases h2 : 0 ≤ w ∧ w ≤ 99
    · rw [if_pos h2]
      by_cases h3 : M 0 0 8 < 24
      · rw [if_pos h3]
        refine ⟨am_sb (ak_kp M) 0 (am_lg (M 0) p w), tp_kp35, Or.inl ⟨M 0 0 8, rfl, fun E' N hE' hN => ?_⟩⟩
        have e37 : N 37 0 = M 37 0 := by rw [hN 37 (by decide), tp_kp35 37 (by decide)]
        have q37 : ra_q (N 37 0) (M 0) := by rw [e37]; exact hq
        have k37 := hE'.2.2.2.2.2.2.2.1
        obtain ⟨N2, e2, n37, fin⟩ := tp_acc hE' hs hN
        obtain ⟨f', e3, hq', h8'⟩ := ra_145 (M := N2) (d := 37) (u := none) k37 hq hG.1 h1 h2 h3
        have s37 : ar_s N2 37 (M 37 0) = N2 := by rw [← n37, ar_s_self]
        rw [s37] at e3
        obtain ⟨f1, f2, f3⟩ := fin f' (tp_ts (f := M 37 0) (tp_g hB hG (av_lg hG.1 h1 h2 h3).1 (av_H_cg hG.2.1 (ay_lg_0 (by decide) (by decide)) (ay_lg_0 (by decide) (by decide)) (ay_lg_0 (by decide) (by decide))) (av_li_le (av_lg hG.1 h1 h2 h3).2 (by omega))) hq' h8' (by rw [ay_lg_0 (by decide) (by decide)]; exact h8))
        refine ⟨_, ?_, f2, f3, f1⟩
        show am_den 175 (0, [some (am_A (35, 0)), some (am_I p), some (am_I w)], [], E', N) = _
        rw [am_B175_0 hE', ra_127 (Y := M 0) (p := p) k37 q37 hG.1.1, am_bd_v]
        simp only [Nat.reduceAdd]
        rw [am_B175_9, if_pos (show am_b (0 ≤ p ∧ p < M 0 0 7) ≠ 0 by rw [ne_eq, am_b_0]; exact fun z => z h1), am_B175_16, ar_120, am_bd_v]
        simp only [Nat.reduceAdd]
        have e1 : N 37 0 1 = M 0 0 8 := by rw [e37, hq.1.2.1]
        rw [am_B175_25, if_pos (show am_b (0 ≤ w ∧ w ≤ 99) ≠ 0 by rw [ne_eq, am_b_0]; exact fun z => z h2), am_B175_32 hE', e1, if_neg (by omega), am_B175_43]
        rw [am_B175_48 hE', tp_119 hE', am_bd_v]
        simp only [Nat.reduceAdd]
        rw [am_B175_51, if_pos (by rw [am_b_0]; decide), am_B175_56 hE', e2, am_bd_u]
        simp only [Nat.reduceAdd]
        rw [am_B175_60 hE', e3, am_bd_v]
        simp only [Nat.reduceAdd]
        rw [am_B175_69]
      · rw [if_neg h3]
        refine ⟨M, fun _ _ => rfl, Or.inr ⟨1, rfl, by decide, fun E' N hE' hN => ?_⟩⟩
        have e37 : N 37 0 = M 37 0 := by rw [hN 37 (by decide)]
        have q37 : ra_q (N 37 0) (M 0) := by rw [e37]; exact hq
        have k37 := hE'.2.2.2.2.2.2.2.1
        obtain ⟨f1, f2, f3⟩ := tp_no (c := 3) (tp_44 hs hN)
        refine ⟨_, 0, ?_, f2, f3, f1⟩
        show am_den 175 (0, [some (am_A (35, 0)), some (am_I p), some (am_I w)], [], E', N) = _
        rw [am_B175_0 hE', ra_127 (Y := M 0) (p := p) k37 q37 hG.1.1, am_bd_v]
        simp only [Nat.reduceAdd]
        rw [am_B175_9, if_pos (show am_b (0 ≤ p ∧ p < M 0 0 7) ≠ 0 by rw [ne_eq, am_b_0]; exact fun z => z h1), am_B175_16, ar_120, am_bd_v]
        simp only [Nat.reduceAdd]
        have e1 : N 37 0 1 = M 0 0 8 := by rw [e37, hq.1.2.1]
        rw [am_B175_25, if_pos (show am_b (0 ≤ w ∧ w ≤ 99) ≠ 0 by rw [ne_eq, am_b_0]; exact fun z => z h2), am_B175_32 hE', e1, if_pos (by omega), am_B175_47]
        rw [am_B175_48 hE', tp_119 hE', am_bd_v]
        simp only [Nat.reduceAdd]
        rw [am_B175_51, if_neg (by rw [am_b_0]; decide), am_B175_54]
    · rw [if_neg h2]
      refine ⟨M, fun _ _ => rfl, Or.inr ⟨0, rfl, by decide, fun E' N hE' hN => ?_⟩⟩
      have e37 : N 37 0 = M 37 0 := by rw [hN 37 (by decide)]
      have q37 : ra_q (N 37 0) (M 0) := by rw [e37]; exact hq
      have k37 := hE'.2.2.2.2.2.2.2.1
      obtain ⟨f1, f2, f3⟩ := tp_no (c := 2) (tp_44 hs hN)
      refine ⟨_, 0, ?_, f2, f3, f1⟩
      show am_den 175 (0, [some (am_A (35, 0)), some (am_I p), some (am_I w)], [], E', N) = _
      rw [am_B175_0 hE', ra_127 (Y := M 0) (p := p) k37 q37 hG.1.1, am_bd_v]
      simp only [Nat.reduceAdd]
      rw [am_B175_9, if_pos (show am_b (0 ≤ p ∧ p < M 0 0 7) ≠ 0 by rw [ne_eq, am_b_0]; exact fun z => z h1), am_B175_16, ar_120, am_bd_v]
      simp only [Nat.reduceAdd]
      rw [am_B175_25, if_neg (show ¬ am_b (0 ≤ w ∧ w ≤ 99) ≠ 0 by rw [ne_eq, am_b_0]; exact fun z => z h2), am_B175_28]
      rw [am_B175_48 hE', tp_119 hE', am_bd_v]
      simp only [Nat.reduceAdd]
      rw [am_B175_51, if_neg (by rw [am_b_0]; decide), am_B175_54]
  · rw [if_neg h1]
    refine ⟨M, fun _ _ => rfl, Or.inr ⟨2, rfl, by decide, fun E' N hE' hN => ?_⟩⟩
    have e37 : N 37 0 = M 37 0 := by rw [hN 37 (by decide)]
    have q37 : ra_q (N 37 0) (M 0) := by rw [e37]; exact hq
    have k37 := hE'.2.2.2.2.2.2.2.1
    obtain ⟨f1, f2, f3⟩ := tp_no (c := 1) (tp_44 hs hN)
    refine ⟨_, 0, ?_, f2, f3, f1⟩
    show am_den 175 (0, [some (am_A (35, 0)), some (am_I p), some (am_I w)], [], E', N) = _
    rw [am_B175_0 hE', ra_127 (Y := M 0) (p := p) k37 q37 hG.1.1, am_bd_v]
    simp only [Nat.reduceAdd]
    rw [am_B175_9, if_neg (show ¬ am_b (0 ≤ p ∧ p < M 0 0 7) ≠ 0 by rw [ne_eq, am_b_0]; exact fun z => z h1), am_B175_12]
    rw [am_B175_48 hE', tp_119 hE', am_bd_v]
    simp only [Nat.reduceAdd]
    rw [am_B175_51, if_neg (by rw [am_b_0]; decide), am_B175_54]
/-- cover -/
theorem tp_cover (hE : am_Wr E) (hs : si M B) (hB : B < 2147000000) {p w : Int} : tq E M B (fun x => if x = 2 then 1 else 0) (am_den 80 (0, [some (am_A (34, 0)), some (am_I p), some (am_I w)], [], E, M)) (fun E' N => am_den 179 (0, [some (am_A (35, 0)), some (am_I p), some (am_I w)], [], E', N)) := by
  obtain ⟨hG, hq, h8⟩ := hs.1
  have h7 := hG.1.1.1
  rw [ac_80 hE hs.2.1.1]
  by_cases h1 : 0 ≤ p ∧ p < M 0 0 7
  · rw [if_pos h1]
    refine ⟨am_sb (ak_kp M) 0 (am_pt (M 0) 7 4 p (if w = 0 then 0 else 1)), tp_kp35, Or.inl ⟨am_b (am_gt (M 0 7) 4 p = 1), rfl, fun E' N hE' hN => ?_⟩⟩
    have e37 : N 37 0 = M 37 0 := by rw [hN 37 (by decide), tp_kp35 37 (by decide)]
    have q37 : ra_q (N 37 0) (M 0) := by rw [e37]; exact hq
    have k37 := hE'.2.2.2.2.2.2.2.1
    obtain ⟨N2, e2, n37, fin⟩ := tp_acc hE' hs hN
    obtain ⟨f', e3, hq', h8'⟩ := ra_151 (M := N2) (d := 37) (w := w) (u := none) k37 hq hG.1 h1
    have s37 : ar_s N2 37 (M 37 0) = N2 := by rw [← n37, ar_s_self]
    rw [s37] at e3
    obtain ⟨f1, f2, f3⟩ := fin f' (tp_ts (f := M 37 0) (tp_g hB hG (av_cover hG.1 h1 (by split <;> omega)) (av_H_cg hG.2.1 (ay_pt_ne (Or.inl (by decide))) (ay_pt_ne (Or.inl (by decide))) (ay_pt_ne (Or.inl (by decide)))) (av_li_0 (ay_pt_ne (Or.inl (by decide))))) hq' h8' (by rw [ay_pt_ne (Or.inl (by decide))]; exact h8))
    refine ⟨_, ?_, f2, f3, f1⟩
    show am_den 179 (0, [some (am_A (35, 0)), some (am_I p), some (am_I w)], [], E', N) = _
    rw [am_B179_0 hE', ra_127 (Y := M 0) (p := p) k37 q37 hG.1.1, am_bd_v]
    simp only [Nat.reduceAdd]
    rw [am_B179_9, if_neg (show ¬ am_b (0 ≤ p ∧ p < M 0 0 7) = 0 by rw [am_b_0]; exact fun z => z h1), am_B179_12]
    rw [am_B179_17 hE', tp_119 hE', am_bd_v]
    simp only [Nat.reduceAdd]
    rw [am_B179_20, if_pos (by rw [am_b_0]; decide), am_B179_25 hE', e2, am_bd_u]
    simp only [Nat.reduceAdd]
    rw [am_B179_29 hE', e3, am_bd_v]
    simp only [Nat.reduceAdd]
    rw [am_B179_38]
  · rw [if_neg h1]
    refine ⟨M, fun _ _ => rfl, Or.inr ⟨2, rfl, by decide, fun E' N hE' hN => ?_⟩⟩
    have e37 : N 37 0 = M 37 0 := by rw [hN 37 (by decide)]
    have q37 : ra_q (N 37 0) (M 0) := by rw [e37]; exact hq
    have k37 := hE'.2.2.2.2.2.2.2.1
    obtain ⟨f1, f2, f3⟩ := tp_no (c := 1) (tp_44 hs hN)
    refine ⟨_, 0, ?_, f2, f3, f1⟩
    show am_den 179 (0, [some (am_A (35, 0)), some (am_I p), some (am_I w)], [], E', N) = _
    rw [am_B179_0 hE', ra_127 (Y := M 0) (p := p) k37 q37 hG.1.1, am_bd_v]
    simp only [Nat.reduceAdd]
    rw [am_B179_9, if_pos (show am_b (0 ≤ p ∧ p < M 0 0 7) = 0 by rw [am_b_0]; exact h1), am_B179_16]
    rw [am_B179_17 hE', tp_119 hE', am_bd_v]
    simp only [Nat.reduceAdd]
    rw [am_B179_20, if_neg (by rw [am_b_0]; decide), am_B179_23]
/-- mend -/
theorem tp_mend (hE : am_Wr E) (hs : si M B) (hB : B < 2147000000) {p : Int} : tq E M B (fun x => if x = 2 then 1 else 0) (am_den 83 (0, [some (am_A (34, 0)), some (am_I p)], [], E, M)) (fun E' N => am_den 182 (0, [some (am_A (35, 0)), some (am_I p)], [], E', N)) := by
  obtain ⟨hG, hq, h8⟩ := hs.1
  have h7 := hG.1.1.1
  rw [ac_83 hE hs.2.1.1]
  by_cases h1 : 0 ≤ p ∧ p < M 0 0 7
  · rw [if_pos h1]
    refine ⟨am_sb (ak_kp M) 0 (ay_mend (M 0) p), tp_kp35, Or.inl ⟨am_w (ay_mend (M 0) p 0 11 - M 0 0 11), rfl, fun E' N hE' hN => ?_⟩⟩
    have e37 : N 37 0 = M 37 0 := by rw [hN 37 (by decide), tp_kp35 37 (by decide)]
    have q37 : ra_q (N 37 0) (M 0) := by rw [e37]; exact hq
    have k37 := hE'.2.2.2.2.2.2.2.1
    obtain ⟨N2, e2, n37, fin⟩ := tp_acc hE' hs hN
    obtain ⟨f', e3, hq', h8'⟩ := ra_154 (M := N2) (d := 37) (u2 := none) (u3 := none) k37 hq hG.1 h1
    have s37 : ar_s N2 37 (M 37 0) = N2 := by rw [← n37, ar_s_self]
    rw [s37] at e3
    obtain ⟨f1, f2, f3⟩ := fin f' (tp_ts (f := M 37 0) (tp_g hB hG (av_mend hG.1 h1).1 (av_H_cg hG.2.1 (ay_mend_0 (by decide)) (ay_mend_0 (by decide)) (ay_mend_0 (by decide))) (av_mend hG.1 h1).2.1) hq' h8' (by rw [ay_mend_0 (by decide)]; exact h8))
    refine ⟨_, ?_, f2, f3, f1⟩
    show am_den 182 (0, [some (am_A (35, 0)), some (am_I p)], [], E', N) = _
    rw [am_B182_0 hE', ra_127 (Y := M 0) (p := p) k37 q37 hG.1.1, am_bd_v]
    simp only [Nat.reduceAdd]
    rw [am_B182_9, if_neg (show ¬ am_b (0 ≤ p ∧ p < M 0 0 7) = 0 by rw [am_b_0]; exact fun z => z h1), am_B182_12]
    rw [am_B182_17 hE', tp_119 hE', am_bd_v]
    simp only [Nat.reduceAdd]
    rw [am_B182_20, if_pos (by rw [am_b_0]; decide), am_B182_25 hE', e2, am_bd_u]
    simp only [Nat.reduceAdd]
    rw [am_B182_29 hE', e3, am_bd_v]
    simp only [Nat.reduceAdd]
    rw [am_B182_37]
  · rw [if_neg h1]
    refine ⟨M, fun _ _ => rfl, Or.inr ⟨2, rfl, by decide, fun E' N hE' hN => ?_⟩⟩
    have e37 : N 37 0 = M 37 0 := by rw [hN 37 (by decide)]
    have q37 : ra_q (N 37 0) (M 0) := by rw [e37]; exact hq
    have k37 := hE'.2.2.2.2.2.2.2.1
    obtain ⟨f1, f2, f3⟩ := tp_no (c := 1) (tp_44 hs hN)
    refine ⟨_, 0, ?_, f2, f3, f1⟩
    show am_den 182 (0, [some (am_A (35, 0)), some (am_I p)], [], E', N) = _
    rw [am_B182_0 hE', ra_127 (Y := M 0) (p := p) k37 q37 hG.1.1, am_bd_v]
    simp only [Nat.reduceAdd]
    rw [am_B182_9, if_pos (show am_b (0 ≤ p ∧ p < M 0 0 7) = 0 by rw [am_b_0]; exact h1), am_B182_16]
    rw [am_B182_17 hE', tp_119 hE', am_bd_v]
    simp only [Nat.reduceAdd]
    rw [am_B182_20, if_neg (by rw [am_b_0]; decide), am_B182_23]
/-- take -/
theorem tp_take (hE : am_Wr E) (hs : si M B) (hB : B < 2147000000) {l : Int} : tq E M B (fun x => if x = 2 then 1 else 0) (am_den 78 (0, [some (am_A (34, 0)), some (am_I l)], [], E, M)) (fun E' N => am_den 177 (0, [some (am_A (35, 0)), some (am_I l)], [], E', N)) := by
  obtain ⟨hG, hq, h8⟩ := hs.1
  have h7 := hG.1.1.1
  rw [ac_78 hE hs.2.1.1]
  by_cases h1 : am_gt (M 0 2) 24 l ≠ -1
  · rw [if_pos h1]
    refine ⟨am_sb (ak_kp M) 0 (ay_take (M 0) l), tp_kp35, Or.inl ⟨am_w (ay_take (M 0) l 0 11 - M 0 0 11), rfl, fun E' N hE' hN => ?_⟩⟩
    have e37 : N 37 0 = M 37 0 := by rw [hN 37 (by decide), tp_kp35 37 (by decide)]
    have q37 : ra_q (N 37 0) (M 0) := by rw [e37]; exact hq
    have k37 := hE'.2.2.2.2.2.2.2.1
    obtain ⟨N2, e2, n37, fin⟩ := tp_acc hE' hs hN
    obtain ⟨f', e3, hq', h8'⟩ := ra_149 (M := N2) (d := 37) (u := none) k37 hq hG.1 h1
    have s37 : ar_s N2 37 (M 37 0) = N2 := by rw [← n37, ar_s_self]
    rw [s37] at e3
    obtain ⟨f1, f2, f3⟩ := fin f' (tp_ts (f := M 37 0) (tp_g hB hG (av_take hG.1 h1).1 (av_H_cg hG.2.1 (ay_take_0 (by decide) (by decide)) (ay_take_0 (by decide) (by decide)) (ay_take_0 (by decide) (by decide))) (av_li_le (av_take hG.1 h1).2 (by omega))) hq' h8' (by rw [ay_take_0 (by decide) (by decide)]; exact h8))
    refine ⟨_, ?_, f2, f3, f1⟩
    show am_den 177 (0, [some (am_A (35, 0)), some (am_I l)], [], E', N) = _
    rw [am_B177_0 hE', ra_128 (Y := M 0) (l := l) k37 q37 hG.1.1, am_bd_v]
    simp only [Nat.reduceAdd]
    rw [am_B177_9, if_neg (show ¬ am_b (am_gt (M 0 2) 24 l ≠ -1) = 0 by rw [am_b_0]; exact fun z => z h1), am_B177_12]
    rw [am_B177_17 hE', tp_119 hE', am_bd_v]
    simp only [Nat.reduceAdd]
    rw [am_B177_20, if_pos (by rw [am_b_0]; decide), am_B177_25 hE', e2, am_bd_u]
    simp only [Nat.reduceAdd]
    rw [am_B177_29 hE', e3, am_bd_v]
    simp only [Nat.reduceAdd]
    rw [am_B177_37]
  · rw [if_neg h1]
    refine ⟨M, fun _ _ => rfl, Or.inr ⟨2, rfl, by decide, fun E' N hE' hN => ?_⟩⟩
    have e37 : N 37 0 = M 37 0 := by rw [hN 37 (by decide)]
    have q37 : ra_q (N 37 0) (M 0) := by rw [e37]; exact hq
    have k37 := hE'.2.2.2.2.2.2.2.1
    obtain ⟨f1, f2, f3⟩ := tp_no (c := 1) (tp_44 hs hN)
    refine ⟨_, 0, ?_, f2, f3, f1⟩
    show am_den 177 (0, [some (am_A (35, 0)), some (am_I l)], [], E', N) = _
    rw [am_B177_0 hE', ra_128 (Y := M 0) (l := l) k37 q37 hG.1.1, am_bd_v]
    simp only [Nat.reduceAdd]
    rw [am_B177_9, if_pos (show am_b (am_gt (M 0 2) 24 l ≠ -1) = 0 by rw [am_b_0]; exact h1), am_B177_16]
    rw [am_B177_17 hE', tp_119 hE', am_bd_v]
    simp only [Nat.reduceAdd]
    rw [am_B177_20, if_neg (by rw [am_b_0]; decide), am_B177_23]
/-- rain -/
theorem tp_rain (hE : am_Wr E) (hs : si M B) (hB : B < 2147000000) {w : Int} : tq E M B (fun x => if x = 0 then 1 else 0) (am_den 82 (0, [some (am_A (34, 0)), some (am_I w)], [], E, M)) (fun E' N => am_den 181 (0, [some (am_A (35, 0)), some (am_I w)], [], E', N)) := by
  obtain ⟨hG, hq, h8⟩ := hs.1
  have h7 := hG.1.1.1
  rw [ac_82 hE hs.2.1.1 h7]
  by_cases h1 : 1 ≤ w ∧ w ≤ 30
  · rw [if_pos h1]
    refine ⟨am_sb (ak_kp M) 0 (ay_rain (M 0) w), tp_kp35, Or.inl ⟨am_sm (am_oa (ay_rain (M 0) w)) (M 0 0 7).toNat, rfl, fun E' N hE' hN => ?_⟩⟩
    have e37 : N 37 0 = M 37 0 := by rw [hN 37 (by decide), tp_kp35 37 (by decide)]
    have q37 : ra_q (N 37 0) (M 0) := by rw [e37]; exact hq
    have k37 := hE'.2.2.2.2.2.2.2.1
    obtain ⟨N2, e2, n37, fin⟩ := tp_acc hE' hs hN
    obtain ⟨f', e3, hq', h8'⟩ := ra_153 (M := N2) (d := 37) (u2 := none) (u3 := none) k37 hq hG.1 h1
    have s37 : ar_s N2 37 (M 37 0) = N2 := by rw [← n37, ar_s_self]
    rw [s37] at e3
    obtain ⟨f1, f2, f3⟩ := fin f' (tp_ts (f := M 37 0) (tp_g hB hG (av_rain hG.1 h1) (av_H_cg hG.2.1 (show ay_rain (M 0) w 0 12 = M 0 0 12 from ay_rg_ne (by decide)) (show ay_rain (M 0) w 0 13 = M 0 0 13 from ay_rg_ne (by decide)) (show ay_rain (M 0) w 0 9 = M 0 0 9 from ay_rg_ne (by decide))) (av_li_0 (show ay_rain (M 0) w 0 11 = M 0 0 11 from ay_rg_ne (by decide)))) hq' h8' (by rw [show ay_rain (M 0) w 0 15 = M 0 0 15 from ay_rg_ne (by decide)]; exact h8))
    refine ⟨_, ?_, f2, f3, f1⟩
    show am_den 181 (0, [some (am_A (35, 0)), some (am_I w)], [], E', N) = _
    rw [am_B181_0, ar_120, am_bd_v]
    simp only [Nat.reduceAdd]
    rw [am_B181_10, if_neg (show ¬ am_b (1 ≤ w ∧ w ≤ 30) = 0 by rw [am_b_0]; exact fun z => z h1), am_B181_13]
    rw [am_B181_18 hE', tp_119 hE', am_bd_v]
    simp only [Nat.reduceAdd]
    rw [am_B181_21, if_pos (by rw [am_b_0]; decide), am_B181_26 hE', e2, am_bd_u]
    simp only [Nat.reduceAdd]
    rw [am_B181_30 hE', e3, am_bd_v]
    simp only [Nat.reduceAdd]
    rw [am_B181_38]
  · rw [if_neg h1]
    refine ⟨M, fun _ _ => rfl, Or.inr ⟨0, rfl, by decide, fun E' N hE' hN => ?_⟩⟩
    have e37 : N 37 0 = M 37 0 := by rw [hN 37 (by decide)]
    have q37 : ra_q (N 37 0) (M 0) := by rw [e37]; exact hq
    have k37 := hE'.2.2.2.2.2.2.2.1
    obtain ⟨f1, f2, f3⟩ := tp_no (c := 1) (tp_44 hs hN)
    refine ⟨_, 0, ?_, f2, f3, f1⟩
    show am_den 181 (0, [some (am_A (35, 0)), some (am_I w)], [], E', N) = _
    rw [am_B181_0, ar_120, am_bd_v]
    simp only [Nat.reduceAdd]
    rw [am_B181_10, if_pos (show am_b (1 ≤ w ∧ w ≤ 30) = 0 by rw [am_b_0]; exact h1), am_B181_17]
    rw [am_B181_18 hE', tp_119 hE', am_bd_v]
    simp only [Nat.reduceAdd]
    rw [am_B181_21, if_neg (by rw [am_b_0]; decide), am_B181_24]
/-- nights -/
theorem tp_nights (hE : am_Wr E) (hs : si M B) (hB : B < 2147000000) {w : Int} : tq E M B (fun x => if x = 0 then 1 else 0) (am_den 84 (0, [some (am_A (34, 0)), some (am_I w)], [], E, M)) (fun E' N => am_den 183 (0, [some (am_A (35, 0)), some (am_I w)], [], E', N)) := by
  obtain ⟨hG, hq, h8⟩ := hs.1
  have h7 := hG.1.1.1
  rw [ac_84 hE hs.2.1.1 h7]
  by_cases h1 : 1 ≤ w ∧ w ≤ 9
  · rw [if_pos h1]
    refine ⟨am_sb (ak_kp M) 0 (ay_nts w.toNat (M 0)), tp_kp35, Or.inl ⟨am_w (ay_nts w.toNat (M 0) 0 12 - M 0 0 12), rfl, fun E' N hE' hN => ?_⟩⟩
    have e37 : N 37 0 = M 37 0 := by rw [hN 37 (by decide), tp_kp35 37 (by decide)]
    have q37 : ra_q (N 37 0) (M 0) := by rw [e37]; exact hq
    have k37 := hE'.2.2.2.2.2.2.2.1
    obtain ⟨N2, e2, n37, fin⟩ := tp_acc hE' hs hN
    obtain ⟨f', e3, hq', h8'⟩ := ra_155 (M := N2) (d := 37) (w := w) (u2 := none) (u3 := none) (u4 := none) (u5 := none) (u6 := none) k37 hq hG.1 (av_Hh hG.1 hG.2.1) (by omega)
    have s37 : ar_s N2 37 (M 37 0) = N2 := by rw [← n37, ar_s_self]
    rw [s37] at e3
    obtain ⟨f1, f2, f3⟩ := fin f' (tp_ts (f := M 37 0) (tp_g hB hG (av_nts w.toNat hG.1).1 (av_Hnts w.toNat hG.1 hG.2.1).1 (av_li_le (av_nts w.toNat hG.1).2 (by omega))) hq' h8' (by rw [ay_nts_0 (by decide) ⟨by decide, by decide, by decide⟩ (by decide)]; exact h8))
    refine ⟨_, ?_, f2, f3, f1⟩
    show am_den 183 (0, [some (am_A (35, 0)), some (am_I w)], [], E', N) = _
    rw [am_B183_0, ar_120, am_bd_v]
    simp only [Nat.reduceAdd]
    rw [am_B183_10, if_neg (show ¬ am_b (1 ≤ w ∧ w ≤ 9) = 0 by rw [am_b_0]; exact fun z => z h1), am_B183_13]
    rw [am_B183_18 hE', tp_119 hE', am_bd_v]
    simp only [Nat.reduceAdd]
    rw [am_B183_21, if_pos (by rw [am_b_0]; decide), am_B183_26 hE', e2, am_bd_u]
    simp only [Nat.reduceAdd]
    rw [am_B183_30 hE', e3, am_bd_v]
    simp only [Nat.reduceAdd]
    rw [am_B183_38]
  · rw [if_neg h1]
    refine ⟨M, fun _ _ => rfl, Or.inr ⟨0, rfl, by decide, fun E' N hE' hN => ?_⟩⟩
    have e37 : N 37 0 = M 37 0 := by rw [hN 37 (by decide)]
    have q37 : ra_q (N 37 0) (M 0) := by rw [e37]; exact hq
    have k37 := hE'.2.2.2.2.2.2.2.1
    obtain ⟨f1, f2, f3⟩ := tp_no (c := 1) (tp_44 hs hN)
    refine ⟨_, 0, ?_, f2, f3, f1⟩
    show am_den 183 (0, [some (am_A (35, 0)), some (am_I w)], [], E', N) = _
    rw [am_B183_0, ar_120, am_bd_v]
    simp only [Nat.reduceAdd]
    rw [am_B183_10, if_pos (show am_b (1 ≤ w ∧ w ≤ 9) = 0 by rw [am_b_0]; exact h1), am_B183_17]
    rw [am_B183_18 hE', tp_119 hE', am_bd_v]
    simp only [Nat.reduceAdd]
    rw [am_B183_21, if_neg (by rw [am_b_0]; decide), am_B183_24]
/-- wind -/
theorem tp_wind (hE : am_Wr E) (hs : si M B) (hB : B < 2147000000) {w : Int} : tq E M B (fun x => if x = 0 then 1 else 0) (am_den 81 (0, [some (am_A (34, 0)), some (am_I w)], [], E, M)) (fun E' N => am_den 180 (0, [some (am_A (35, 0)), some (am_I w)], [], E', N)) := by
  obtain ⟨hG, hq, h8⟩ := hs.1
  have h7 := hG.1.1.1
  by_cases h1 : 1 ≤ w ∧ w ≤ 30
  · rw [ac_81 hE hs.2.1.1 (av_wind hG.1 h1).1.2.2.1 h7, if_pos h1]
    refine ⟨am_sb (ak_kp M) 0 (ay_wind (M 0) w), tp_kp35, Or.inl ⟨am_sm (am_da (ay_wind (M 0) w)) (M 0 0 7).toNat, rfl, fun E' N hE' hN => ?_⟩⟩
    have e37 : N 37 0 = M 37 0 := by rw [hN 37 (by decide), tp_kp35 37 (by decide)]
    have q37 : ra_q (N 37 0) (M 0) := by rw [e37]; exact hq
    have k37 := hE'.2.2.2.2.2.2.2.1
    obtain ⟨N2, e2, n37, fin⟩ := tp_acc hE' hs hN
    obtain ⟨f', e3, hq', h8'⟩ := ra_152 (M := N2) (d := 37) (u2 := none) (u3 := none) (u4 := none) k37 hq hG.1 h1
    have s37 : ar_s N2 37 (M 37 0) = N2 := by rw [← n37, ar_s_self]
    rw [s37] at e3
    obtain ⟨f1, f2, f3⟩ := fin f' (tp_ts (f := M 37 0) (tp_g hB hG (av_wind hG.1 h1) (av_H_cg hG.2.1 (show ay_wind (M 0) w 0 12 = M 0 0 12 from ay_rg_ne (by decide)) (show ay_wind (M 0) w 0 13 = M 0 0 13 from ay_rg_ne (by decide)) (show ay_wind (M 0) w 0 9 = M 0 0 9 from ay_rg_ne (by decide))) (av_li_0 (show ay_wind (M 0) w 0 11 = M 0 0 11 from ay_rg_ne (by decide)))) hq' h8' (by rw [show ay_wind (M 0) w 0 15 = M 0 0 15 from ay_rg_ne (by decide)]; exact h8))
    refine ⟨_, ?_, f2, f3, f1⟩
    show am_den 180 (0, [some (am_A (35, 0)), some (am_I w)], [], E', N) = _
    rw [am_B180_0, ar_120, am_bd_v]
    simp only [Nat.reduceAdd]
    rw [am_B180_10, if_neg (show ¬ am_b (1 ≤ w ∧ w ≤ 30) = 0 by rw [am_b_0]; exact fun z => z h1), am_B180_13]
    rw [am_B180_18 hE', tp_119 hE', am_bd_v]
    simp only [Nat.reduceAdd]
    rw [am_B180_21, if_pos (by rw [am_b_0]; decide), am_B180_26 hE', e2, am_bd_u]
    simp only [Nat.reduceAdd]
    rw [am_B180_30 hE', e3, am_bd_v]
    simp only [Nat.reduceAdd]
    rw [am_B180_38]
  · have ex : am_den 81 (0, [some (am_A (34, 0)), some (am_I w)], [], E, M) = some (.inr 0, am_xE E, M) := by
      rw [am_B81_0, ac_100, if_neg h1, am_bd_x rfl]
    rw [ex]
    refine ⟨M, fun _ _ => rfl, Or.inr ⟨0, rfl, by decide, fun E' N hE' hN => ?_⟩⟩
    have e37 : N 37 0 = M 37 0 := by rw [hN 37 (by decide)]
    have q37 : ra_q (N 37 0) (M 0) := by rw [e37]; exact hq
    have k37 := hE'.2.2.2.2.2.2.2.1
    obtain ⟨f1, f2, f3⟩ := tp_no (c := 1) (tp_44 hs hN)
    refine ⟨_, 0, ?_, f2, f3, f1⟩
    show am_den 180 (0, [some (am_A (35, 0)), some (am_I w)], [], E', N) = _
    rw [am_B180_0, ar_120, am_bd_v]
    simp only [Nat.reduceAdd]
    rw [am_B180_10, if_pos (show am_b (1 ≤ w ∧ w ≤ 30) = 0 by rw [am_b_0]; exact h1), am_B180_17]
    rw [am_B180_18 hE', tp_119 hE', am_bd_v]
    simp only [Nat.reduceAdd]
    rw [am_B180_21, if_neg (by rw [am_b_0]; decide), am_B180_24]
/-- join -/
theorem tp_join (hE : am_Wr E) (hs : si M B) (hB : B < 2147000000) {p q : Int} : tq E M B (fun x => if x = 2 then 1 else if x = 0 then 2 else 0) (am_den 79 (0, [some (am_A (34, 0)), some (am_I p), some (am_I q)], [], E, M)) (fun E' N => am_den 178 (0, [some (am_A (35, 0)), some (am_I p), some (am_I q)], [], E', N)) := by
  obtain ⟨hG, hq, h8⟩ := hs.1
  have h7 := hG.1.1.1
  rw [ac_79 hE hs.2.1.1]
  by_cases h1 : 0 ≤ p ∧ p < M 0 0 7
  · by_cases h2 : 0 ≤ q ∧ q < M 0 0 7
    · rw [if_pos (show ac_hp M p ∧ ac_hp M q from ⟨h1, h2⟩)]
      by_cases h3 : p ≠ q
      · rw [if_pos h3]
        refine ⟨am_sb (ak_kp M) 0 (ay_jp (M 0) p q), tp_kp35, Or.inl ⟨am_w (ay_jp (M 0) p q 0 11 - M 0 0 11), rfl, fun E' N hE' hN => ?_⟩⟩
        have e37 : N 37 0 = M 37 0 := by rw [hN 37 (by decide), tp_kp35 37 (by decide)]
        have q37 : ra_q (N 37 0) (M 0) := by rw [e37]; exact hq
        have k37 := hE'.2.2.2.2.2.2.2.1
        obtain ⟨N2, e2, n37, fin⟩ := tp_acc hE' hs hN
        obtain ⟨f', e3, hq', h8'⟩ := ra_150 (M := N2) (d := 37) (u1 := none) (u2 := none) k37 hq hG.1 h1 h2 h3
        have s37 : ar_s N2 37 (M 37 0) = N2 := by rw [← n37, ar_s_self]
        rw [s37] at e3
        obtain ⟨f1, f2, f3⟩ := fin f' (tp_ts (f := M 37 0) (tp_g hB hG (av_jpY hG.1 h1 h2 h3).1 (av_H_cg hG.2.1 (ay_jp_0 (by decide)) (ay_jp_0 (by decide)) (ay_jp_0 (by decide))) (av_li_le (av_jpY hG.1 h1 h2 h3).2 (by omega))) hq' h8' (by rw [ay_jp_0 (by decide)]; exact h8))
        refine ⟨_, ?_, f2, f3, f1⟩
        show am_den 178 (0, [some (am_A (35, 0)), some (am_I p), some (am_I q)], [], E', N) = _
        rw [am_B178_0 hE', ra_127 (Y := M 0) (p := p) k37 q37 hG.1.1, am_bd_v]
        simp only [Nat.reduceAdd]
        rw [am_B178_9, if_neg (show ¬ am_b (0 ≤ p ∧ p < M 0 0 7) = 0 by rw [am_b_0]; exact fun z => z h1), am_B178_12 hE', ra_127 (Y := M 0) (p := q) k37 q37 hG.1.1, am_bd_v]
        simp only [Nat.reduceAdd]
        rw [am_B178_20, if_pos (show am_b (0 ≤ q ∧ q < M 0 0 7) ≠ 0 by rw [ne_eq, am_b_0]; exact fun z => z h2), am_B178_27, if_pos h3, am_B178_36]
        rw [am_B178_37 hE', tp_119 hE', am_bd_v]
        simp only [Nat.reduceAdd]
        rw [am_B178_40, if_pos (by rw [am_b_0]; decide), am_B178_45 hE', e2, am_bd_u]
        simp only [Nat.reduceAdd]
        rw [am_B178_49 hE', e3, am_bd_v]
        simp only [Nat.reduceAdd]
        rw [am_B178_58]
      · rw [if_neg h3]
        refine ⟨M, fun _ _ => rfl, Or.inr ⟨0, rfl, by decide, fun E' N hE' hN => ?_⟩⟩
        have e37 : N 37 0 = M 37 0 := by rw [hN 37 (by decide)]
        have q37 : ra_q (N 37 0) (M 0) := by rw [e37]; exact hq
        have k37 := hE'.2.2.2.2.2.2.2.1
        obtain ⟨f1, f2, f3⟩ := tp_no (c := 2) (tp_44 hs hN)
        refine ⟨_, 0, ?_, f2, f3, f1⟩
        show am_den 178 (0, [some (am_A (35, 0)), some (am_I p), some (am_I q)], [], E', N) = _
        rw [am_B178_0 hE', ra_127 (Y := M 0) (p := p) k37 q37 hG.1.1, am_bd_v]
        simp only [Nat.reduceAdd]
        rw [am_B178_9, if_neg (show ¬ am_b (0 ≤ p ∧ p < M 0 0 7) = 0 by rw [am_b_0]; exact fun z => z h1), am_B178_12 hE', ra_127 (Y := M 0) (p := q) k37 q37 hG.1.1, am_bd_v]
        simp only [Nat.reduceAdd]
        rw [am_B178_20, if_pos (show am_b (0 ≤ q ∧ q < M 0 0 7) ≠ 0 by rw [ne_eq, am_b_0]; exact fun z => z h2), am_B178_27, if_neg h3, am_B178_32]
        rw [am_B178_37 hE', tp_119 hE', am_bd_v]
        simp only [Nat.reduceAdd]
        rw [am_B178_40, if_neg (by rw [am_b_0]; decide), am_B178_43]
    · rw [if_neg (show ¬(ac_hp M p ∧ ac_hp M q) from fun z => h2 z.2)]
      refine ⟨M, fun _ _ => rfl, Or.inr ⟨2, rfl, by decide, fun E' N hE' hN => ?_⟩⟩
      have e37 : N 37 0 = M 37 0 := by rw [hN 37 (by decide)]
      have q37 : ra_q (N 37 0) (M 0) := by rw [e37]; exact hq
      have k37 := hE'.2.2.2.2.2.2.2.1
      obtain ⟨f1, f2, f3⟩ := tp_no (c := 1) (tp_44 hs hN)
      refine ⟨_, 0, ?_, f2, f3, f1⟩
      show am_den 178 (0, [some (am_A (35, 0)), some (am_I p), some (am_I q)], [], E', N) = _
      rw [am_B178_0 hE', ra_127 (Y := M 0) (p := p) k37 q37 hG.1.1, am_bd_v]
      simp only [Nat.reduceAdd]
      rw [am_B178_9, if_neg (show ¬ am_b (0 ≤ p ∧ p < M 0 0 7) = 0 by rw [am_b_0]; exact fun z => z h1), am_B178_12 hE', ra_127 (Y := M 0) (p := q) k37 q37 hG.1.1, am_bd_v]
      simp only [Nat.reduceAdd]
      rw [am_B178_20, if_neg (show ¬ am_b (0 ≤ q ∧ q < M 0 0 7) ≠ 0 by rw [ne_eq, am_b_0]; exact fun z => z h2), am_B178_23]
      rw [am_B178_37 hE', tp_119 hE', am_bd_v]
      simp only [Nat.reduceAdd]
      rw [am_B178_40, if_neg (by rw [am_b_0]; decide), am_B178_43]
  · rw [if_neg (show ¬(ac_hp M p ∧ ac_hp M q) from fun z => h1 z.1)]
    refine ⟨M, fun _ _ => rfl, Or.inr ⟨2, rfl, by decide, fun E' N hE' hN => ?_⟩⟩
    have e37 : N 37 0 = M 37 0 := by rw [hN 37 (by decide)]
    have q37 : ra_q (N 37 0) (M 0) := by rw [e37]; exact hq
    have k37 := hE'.2.2.2.2.2.2.2.1
    obtain ⟨f1, f2, f3⟩ := tp_no (c := 1) (tp_44 hs hN)
    refine ⟨_, 0, ?_, f2, f3, f1⟩
    show am_den 178 (0, [some (am_A (35, 0)), some (am_I p), some (am_I q)], [], E', N) = _
    rw [am_B178_0 hE', ra_127 (Y := M 0) (p := p) k37 q37 hG.1.1, am_bd_v]
    simp only [Nat.reduceAdd]
    rw [am_B178_9, if_pos (show am_b (0 ≤ p ∧ p < M 0 0 7) = 0 by rw [am_b_0]; exact h1), am_B178_23]
    rw [am_B178_37 hE', tp_119 hE', am_bd_v]
    simp only [Nat.reduceAdd]
    rw [am_B178_40, if_neg (by rw [am_b_0]; decide), am_B178_43]
end TOP3
