/-! ===== the reference reads a command, the text ===== -/
def rt_cmd (E : am_E) (M : am_M) (f g : Int → Int) (Y : Nat → Int → Int) (k : Int) (cm : Int × Int × Int × Int) (X : Option am_Rs) : Prop := (cm.1 = 0 → X = some (.inl (some (am_I 0)), E, rt_s M f (ar_u g 11 cm.2.1))) ∧ (cm.1 ≠ 0 → rt_do E M f (ar_u g 11 cm.2.1) Y k cm.2.2.1 cm.2.2.2 X)
section RTX3
variable {E : am_E} {M : am_M} {f g : Int → Int} {Y : Nat → Int → Int} {B a lo hi x1 : Int}
theorem rt_36 : rt_s M f g 36 0 = M 36 0 := by
  unfold rt_s
  rw [ar_s_ne (by decide), ar_s_ne (by decide)]
theorem rt_35 : rt_s M f g 35 0 = g := ar_s_at
theorem rt_6001 (hs : ∀ i : Int, 0 ≤ i → i < 120 → 0 ≤ M 36 0 i ∧ M 36 0 i ≤ 65535) (hE : am_Wr E) (hn : g 2 ≤ 120) (ha : 0 ≤ g 11 ∧ g 11 ≤ 1000) (h1 : x1 ≠ -1) {u5 u6 u7 u8 : Option am_V} : am_den 158 (0, [some (am_A (35, 0)), some (am_I x1), some (am_I 1), some (am_I lo), some (am_I hi), u5, u6, u7, u8], [], E, rt_s M f g) = some (.inl (some (am_I (ax_n1 (g 2) (M 36 0) lo hi 0 (g 11)).1)), E, rt_s M f (ar_u g 11 (ax_n1 (g 2) (M 36 0) lo hi 0 (g 11)).2)) := by
  have e : ar_s M 38 f 36 0 = M 36 0 := ar_s_ne (by decide)
  have h := rt_158_1 (N := ar_s M 38 f) (g := g) (lo := lo) (hi := hi) (u5 := u5) (u6 := u6) (u7 := u7) (u8 := u8) (by rw [e]; exact hs) hE hn ha h1
  rw [e] at h
  exact h
theorem rt_6002 (hs : ∀ i : Int, 0 ≤ i → i < 120 → 0 ≤ M 36 0 i ∧ M 36 0 i ≤ 65535) (hE : am_Wr E) (hn : g 2 ≤ 120) (ha : 0 ≤ g 11 ∧ g 11 ≤ 900) (h1 : x1 ≠ -1) {u5 u6 u7 u8 : Option am_V} : am_den 158 (0, [some (am_A (35, 0)), some (am_I x1), some (am_I 2), some (am_I lo), some (am_I hi), u5, u6, u7, u8], [], E, rt_s M f g) = some (.inl (some (am_I (ax_n2 (g 2) (M 36 0) lo hi (g 11)).1)), E, rt_s M f (ar_u g 11 (ax_n2 (g 2) (M 36 0) lo hi (g 11)).2)) := by
  have e : ar_s M 38 f 36 0 = M 36 0 := ar_s_ne (by decide)
  have h := rt_158_2 (N := ar_s M 38 f) (g := g) (lo := lo) (hi := hi) (u5 := u5) (u6 := u6) (u7 := u7) (u8 := u8) (by rw [e]; exact hs) hE hn ha h1
  rw [e] at h
  exact h
theorem rt_60 (hs : ∀ i : Int, 0 ≤ i → i < 120 → 0 ≤ M 36 0 i ∧ M 36 0 i ≤ 65535) (hE : am_Wr E) (hn : g 2 ≤ 120) (ha : 0 ≤ g 11 ∧ g 11 ≤ 1000) (h1 : x1 ≠ -1) : am_den 160 (0, [some (am_A (35, 0)), some (am_I x1)], [], E, rt_s M f g) = some (.inl (some (am_I (ax_n1 (g 2) (M 36 0) 0 3 0 (g 11)).1)), E, rt_s M f (ar_u g 11 (ax_n1 (g 2) (M 36 0) 0 3 0 (g 11)).2)) := by
  have e : ar_s M 38 f 36 0 = M 36 0 := ar_s_ne (by decide)
  have h := rt_160 (N := ar_s M 38 f) (g := g) (by rw [e]; exact hs) hE hn ha h1
  rw [e] at h
  exact h
theorem rt_n1n {n lo hi v a : Int} {s : Int → Int} (h : a ≤ n) : (ax_n1 n s lo hi v a).2 ≤ n := by
  unfold ax_n1
  by_cases q : a < n
  · split <;> (dsimp only; omega)
  · have e : ax_dg n s a = -1 := by
      unfold ax_dg
      rw [if_neg (by omega)]
    rw [e, if_pos (by omega)]
    exact h
theorem rt_n1v {n lo hi v a : Int} {s : Int → Int} (h : (ax_n1 n s lo hi v a).1 ≠ -1) : lo ≤ (ax_n1 n s lo hi v a).1 ∧ (ax_n1 n s lo hi v a).1 ≤ hi := by
  unfold ax_n1 at h ⊢
  by_cases q : ax_dg n s a < 48 ∨ 57 < ax_dg n s a ∨ v * 10 + (ax_dg n s a - 48) < lo ∨ hi < v * 10 + (ax_dg n s a - 48)
  · rw [if_pos q] at h
    exact absurd rfl h
  · rw [if_neg q]
    exact ⟨by omega, by omega⟩
theorem rt_n2v {n lo hi a : Int} {s : Int → Int} (h : (ax_n2 n s lo hi a).1 ≠ -1) : lo ≤ (ax_n2 n s lo hi a).1 ∧ (ax_n2 n s lo hi a).1 ≤ hi := by
  unfold ax_n2 at h ⊢
  by_cases q : ax_dg n s a < 48 ∨ 57 < ax_dg n s a ∨ (ax_dg n s a - 48) * 10 + 9 < lo ∨ hi < (ax_dg n s a - 48) * 10
  · rw [if_pos q] at h
    exact absurd rfl h
  · rw [if_neg q] at h ⊢
    exact rt_n1v h
theorem rt_161 (hs : ∀ i : Int, 0 ≤ i → i < 120 → 0 ≤ M 36 0 i ∧ M 36 0 i ≤ 65535) (hE : am_Wr E) (hn : g 2 ≤ 120) (ha : 0 ≤ g 11 ∧ g 11 ≤ g 2) (hq : ra_q f Y) (hG : av_G B Y) (ho : 0 ≤ g 12 ∧ g 12 ≤ 1000) {u2 u3 : Option am_V} : rt_cmd E M f g Y 99 (ax_c3 (ax_n1 (g 2) (M 36 0) 0 3 0 (g 11)) (ax_dg (g 2) (M 36 0) (ax_n1 (g 2) (M 36 0) 0 3 0 (g 11)).2)) (am_den 161 (0, [some (am_A (35, 0)), some (am_A (38, 0)), u2, u3], [], E, rt_s M f g)) := by
  have hp := ax_n1_le (n := g 2) (s := M 36 0) (lo := 0) (hi := 3) (v := 0) (a := g 11)
  have hpn := rt_n1n (n := g 2) (s := M 36 0) (lo := 0) (hi := 3) (v := 0) (a := g 11) ha.2
  obtain ⟨P, eP⟩ : ∃ P, ax_n1 (g 2) (M 36 0) 0 3 0 (g 11) = P := ⟨_, rfl⟩
  rw [am_B161_0 hE, rt_60 hs hE hn (by omega) (by decide), am_bd_v]
  simp only [Nat.reduceAdd]
  rw [eP] at hp hpn ⊢
  rw [am_B161_5]
  have g11 : ar_u g 11 P.2 11 = P.2 := ar_u_eq
  have g2 : ar_u g 11 P.2 2 = g 2 := ar_u_ne (by decide)
  unfold ax_c3
  by_cases q1 : P.1 = -1
  · rw [if_pos q1, if_pos q1, am_B161_50]
    exact ⟨fun _ => rfl, fun z => absurd rfl z⟩
  · rw [if_neg q1, if_neg q1, am_B161_11 hE, rt_35, g11, g2]
    by_cases q2 : P.2 = g 2
    · have e : ax_dg (g 2) (M 36 0) P.2 = -1 := by
        unfold ax_dg
        rw [if_neg (by omega)]
      rw [if_pos q2, e, if_neg (by decide), if_neg (by decide), am_B161_50]
      exact ⟨fun _ => rfl, fun z => absurd rfl z⟩
    · have e : ax_dg (g 2) (M 36 0) P.2 = M 36 0 P.2 := by
        unfold ax_dg
        rw [if_pos (by omega)]
      have gi : (0 : Int) ≤ rt_s M f (ar_u g 11 P.2) 35 0 11 ∧ rt_s M f (ar_u g 11 P.2) 35 0 11 < ((120 : Nat) : Int) := by rw [rt_35, g11]; omega
      have fin : ∀ v : Int, v = 0 ∨ v = 1 → rt_do E M f (ar_u g 11 (P.2 + 1)) Y 99 P.1 v (am_den 161 (71, [some (am_A (35, 0)), some (am_A (38, 0)), some (am_I P.1), u3], [am_I v], E, rt_s M f (ar_u g 11 P.2))) := by
        intro v hv
        have e2 : am_up (rt_s M f (ar_u g 11 P.2)) (35, 0) 11 (P.2 + 1) = rt_s M f (ar_u g 11 (P.2 + 1)) := by
          unfold rt_s
          rw [ar_up, rt_uu]
        rw [am_B161_71 hE, rt_35, g11, am_wi (by omega) (by omega), e2]
        exact rt_c (B := B) hE hq hG (by rw [ar_u_ne (by decide)]; exact ho) hv
      rw [if_neg q2, am_B161_22 hE gi, rt_36, rt_35, g11, e]
      by_cases q3 : M 36 0 P.2 = 43
      · rw [if_pos q3, if_pos q3, am_B161_52 hE gi, rt_36, rt_35, g11, if_neg (show ¬ M 36 0 P.2 ≠ 43 from fun z => z q3), am_B161_66]
        exact ⟨fun z => absurd (show (1 : Int) = 0 from z) (by decide), fun _ => fin 1 (Or.inr rfl)⟩
      · rw [if_neg q3, if_neg q3, am_B161_36 hE gi, rt_36, rt_35, g11]
        by_cases q4 : M 36 0 P.2 = 45
        · rw [if_pos q4, if_pos q4, am_B161_52 hE gi, rt_36, rt_35, g11, if_pos (show M 36 0 P.2 ≠ 43 from q3), am_B161_70]
          exact ⟨fun z => absurd (show (1 : Int) = 0 from z) (by decide), fun _ => fin 0 (Or.inl rfl)⟩
        · rw [if_neg q4, if_neg q4, am_B161_50]
          exact ⟨fun _ => rfl, fun z => absurd rfl z⟩
theorem rt_cm0 {p q : Int × Int} {M : am_M} {f g : Int → Int} {k : Int} {X : Option am_Rs} (h : p.1 = -1) (hX : X = some (.inl (some (am_I 0)), E, rt_s M f (ar_u g 11 p.2))) : rt_cmd E M f g Y k (ax_c2 p q) X := by
  have e : ax_c2 p q = (0, p.2, -1, 0) := if_pos h
  rw [e]
  exact ⟨fun _ => hX, fun z => absurd rfl z⟩
theorem rt_cm1 {p q : Int × Int} {M : am_M} {f g : Int → Int} {k : Int} {X : Option am_Rs} (h : p.1 ≠ -1) (h0 : q.1 = -1 → X = some (.inl (some (am_I 0)), E, rt_s M f (ar_u g 11 q.2))) (h1 : q.1 ≠ -1 → rt_do E M f (ar_u g 11 q.2) Y k p.1 q.1 X) : rt_cmd E M f g Y k (ax_c2 p q) X := by
  have e : ax_c2 p q = (am_b (q.1 ≠ -1), q.2, p.1, q.1) := if_neg h
  rw [e]
  refine ⟨fun z => h0 ?_, fun z => h1 ?_⟩
  · have z' : am_b (q.1 ≠ -1) = 0 := z
    rw [am_b_0] at z'
    exact Decidable.not_not.mp z'
  · have z' : am_b (q.1 ≠ -1) ≠ 0 := z
    rw [ne_eq, am_b_0] at z'
    exact Decidable.not_not.mp z'
theorem rt_cm2 {p : Int × Int} {M : am_M} {f g : Int → Int} {k : Int} {X : Option am_Rs} (h0 : p.1 = -1 → X = some (.inl (some (am_I 0)), E, rt_s M f (ar_u g 11 p.2))) (h1 : p.1 ≠ -1 → rt_do E M f (ar_u g 11 p.2) Y k p.1 0 X) : rt_cmd E M f g Y k (ax_c1 p) X := by
  refine ⟨fun z => h0 ?_, fun z => h1 ?_⟩
  · have z' : am_b (p.1 ≠ -1) = 0 := z
    rw [am_b_0] at z'
    exact Decidable.not_not.mp z'
  · have z' : am_b (p.1 ≠ -1) ≠ 0 := z
    rw [ne_eq, am_b_0] at z'
    exact Decidable.not_not.mp z'
theorem rt_162 (hs : ∀ i : Int, 0 ≤ i → i < 120 → 0 ≤ M 36 0 i ∧ M 36 0 i ≤ 65535) (hE : am_Wr E) (hn : g 2 ≤ 120) (ha : 0 ≤ g 11 ∧ g 11 ≤ g 2) (hq : ra_q f Y) (hG : av_G B Y) (hB : B < 2147000000) (ho : 0 ≤ g 12 ∧ g 12 ≤ 1000) {k : Int} (hk : k = 108 ∨ k = 100 ∨ k = 106 ∨ k = 109) {u3 u4 : Option am_V} : rt_cmd E M f g Y k (ax_cm (g 2) (M 36 0) (g 11 - 1) k) (am_den 162 (0, [some (am_A (35, 0)), some (am_A (38, 0)), some (am_I k), u3, u4], [], E, rt_s M f g)) := by
  have hp := ax_n1_le (n := g 2) (s := M 36 0) (lo := 0) (hi := 3) (v := 0) (a := g 11)
  have ea : g 11 - 1 + 1 = g 11 := by omega
  have o : ∀ v, (ar_u g 11 v) 12 = g 12 := fun v => ar_u_ne (by decide)
  rw [am_B162_0 hE, rt_60 hs hE hn (by omega) (by decide), am_bd_v]
  simp only [Nat.reduceAdd]
  rw [am_B162_5]
  have g11 : ar_u g 11 (ax_n1 (g 2) (M 36 0) 0 3 0 (g 11)).2 11 = (ax_n1 (g 2) (M 36 0) 0 3 0 (g 11)).2 := ar_u_eq
  have g2 : ar_u g 11 (ax_n1 (g 2) (M 36 0) 0 3 0 (g 11)).2 2 = g 2 := ar_u_ne (by decide)
  rcases hk with e | e | e | e
  · subst e
    have ec : ax_cm (g 2) (M 36 0) (g 11 - 1) 108 = ax_c2 (ax_n1 (g 2) (M 36 0) 0 3 0 (g 11)) (ax_n2 (g 2) (M 36 0) 0 99 (ax_n1 (g 2) (M 36 0) 0 3 0 (g 11)).2) := by
      have h : ∀ a, ax_cm (g 2) (M 36 0) a 108 = ax_c2 (ax_n1 (g 2) (M 36 0) 0 3 0 (a + 1)) (ax_n2 (g 2) (M 36 0) 0 99 (ax_n1 (g 2) (M 36 0) 0 3 0 (a + 1)).2) := fun _ => rfl
      rw [h, ea]
    rw [ec, if_neg (by decide), am_B162_12 hE]
    by_cases q1 : (ax_n1 (g 2) (M 36 0) 0 3 0 (g 11)).1 = -1
    · refine rt_cm0 q1 ?_
      rw [q1, rt_158_n hE (Or.inr rfl), am_bd_v]
      simp only [Nat.reduceAdd]
      rw [am_B162_21, am_B162_39, if_neg (by decide), am_B162_47]
    · rw [rt_6002 hs hE (by rw [g2]; exact hn) (by rw [g11]; omega) q1, am_bd_v, g2, g11, rt_uu]
      simp only [Nat.reduceAdd]
      rw [am_B162_21, am_B162_39]
      refine rt_cm1 q1 (fun z => ?_) (fun z => ?_)
      · rw [if_neg (show ¬ _ ≠ (-1 : Int) from fun w => w z), am_B162_47]
      · rw [if_pos z, am_B162_49, am_S162_50v108 rfl]
        exact rt_l (B := B) hE hq hG (by rw [o]; exact ho) (rt_n2v z)
  · subst e
    have ec : ax_cm (g 2) (M 36 0) (g 11 - 1) 100 = ax_c1 (ax_n1 (g 2) (M 36 0) 0 3 0 (g 11)) := by
      have h : ∀ a, ax_cm (g 2) (M 36 0) a 100 = ax_c1 (ax_n1 (g 2) (M 36 0) 0 3 0 (a + 1)) := fun _ => rfl
      rw [h, ea]
    rw [ec, if_pos (by decide), am_B162_24, if_pos (by decide), am_B162_38, am_B162_39]
    refine rt_cm2 (fun z => ?_) (fun z => ?_)
    · rw [if_neg (show ¬ _ ≠ (-1 : Int) from fun w => w z), am_B162_47]
    · rw [if_pos z, am_B162_49, am_S162_50v100 rfl]
      exact rt_d (B := B) hE hq hG (by rw [o]; exact ho)
  · subst e
    have ec : ax_cm (g 2) (M 36 0) (g 11 - 1) 106 = ax_c2 (ax_n1 (g 2) (M 36 0) 0 3 0 (g 11)) (ax_n1 (g 2) (M 36 0) 0 3 0 (ax_n1 (g 2) (M 36 0) 0 3 0 (g 11)).2) := by
      have h : ∀ a, ax_cm (g 2) (M 36 0) a 106 = ax_c2 (ax_n1 (g 2) (M 36 0) 0 3 0 (a + 1)) (ax_n1 (g 2) (M 36 0) 0 3 0 (ax_n1 (g 2) (M 36 0) 0 3 0 (a + 1)).2) := fun _ => rfl
      rw [h, ea]
    rw [ec, if_pos (by decide), am_B162_24, if_neg (by decide), am_B162_30 hE]
    by_cases q1 : (ax_n1 (g 2) (M 36 0) 0 3 0 (g 11)).1 = -1
    · refine rt_cm0 q1 ?_
      rw [q1, rt_160_n hE, am_bd_v]
      simp only [Nat.reduceAdd]
      rw [am_B162_35, am_B162_39, if_neg (by decide), am_B162_47]
    · rw [rt_60 hs hE (by rw [g2]; exact hn) (by rw [g11]; omega) q1, am_bd_v, g2, g11, rt_uu]
      simp only [Nat.reduceAdd]
      rw [am_B162_35, am_B162_39]
      refine rt_cm1 q1 (fun z => ?_) (fun z => ?_)
      · rw [if_neg (show ¬ _ ≠ (-1 : Int) from fun w => w z), am_B162_47]
      · rw [if_pos z, am_B162_49, am_S162_50v106 rfl]
        exact rt_j (B := B) hE hq hG hB (by rw [o]; exact ho)
  · subst e
    have ec : ax_cm (g 2) (M 36 0) (g 11 - 1) 109 = ax_c1 (ax_n1 (g 2) (M 36 0) 0 3 0 (g 11)) := by
      have h : ∀ a, ax_cm (g 2) (M 36 0) a 109 = ax_c1 (ax_n1 (g 2) (M 36 0) 0 3 0 (a + 1)) := fun _ => rfl
      rw [h, ea]
    rw [ec, if_pos (by decide), am_B162_24, if_pos (by decide), am_B162_38, am_B162_39]
    refine rt_cm2 (fun z => ?_) (fun z => ?_)
    · rw [if_neg (show ¬ _ ≠ (-1 : Int) from fun w => w z), am_B162_47]
    · rw [if_pos z, am_B162_49, am_S162_50d ⟨by decide, by decide, by decide⟩]
      exact rt_m (B := B) hE hq hG hB (by rw [o]; exact ho)
theorem rt_do_u {X : Option am_Rs} {k a b v w : Int} (h : rt_do E M f (ar_u (ar_u g 11 v) 11 w) Y k a b X) : rt_do E M f (ar_u g 11 w) Y k a b X := by
  rw [rt_uu] at h
  exact h
theorem rt_163 (hs : ∀ i : Int, 0 ≤ i → i < 120 → 0 ≤ M 36 0 i ∧ M 36 0 i ≤ 65535) (hE : am_Wr E) (hn : g 2 ≤ 120) (ha : 0 ≤ g 11 ∧ g 11 < g 2) (hq : ra_q f Y) (hG : av_G B Y) (hB : B < 2147000000) (ho : 0 ≤ g 12 ∧ g 12 ≤ 1000) {u2 u3 : Option am_V} : rt_cmd E M f g Y (ax_dg (g 2) (M 36 0) (g 11)) (ax_cm (g 2) (M 36 0) (g 11) (ax_dg (g 2) (M 36 0) (g 11))) (am_den 163 (0, [some (am_A (35, 0)), some (am_A (38, 0)), u2, u3], [], E, rt_s M f g)) := by
  have ek : ax_dg (g 2) (M 36 0) (g 11) = M 36 0 (g 11) := by
    unfold ax_dg
    rw [if_pos (by omega)]
  have e2 : am_up (rt_s M f g) (35, 0) 11 (g 11 + 1) = rt_s M f (ar_u g 11 (g 11 + 1)) := by
    unfold rt_s
    rw [ar_up]
  rw [am_B163_0 hE (by rw [rt_35]; omega), rt_36, rt_35, am_wi (by omega) (by omega), e2, ek]
  generalize M 36 0 (g 11) = k
  have g11 : ar_u g 11 (g 11 + 1) 11 = g 11 + 1 := ar_u_eq
  have g2 : ar_u g 11 (g 11 + 1) 2 = g 2 := ar_u_ne (by decide)
  have g12 : ar_u g 11 (g 11 + 1) 12 = g 12 := ar_u_ne (by decide)
  have o : ∀ v, (ar_u g 11 v) 12 = g 12 := fun v => ar_u_ne (by decide)
  rw [am_B163_20]
  have bad : k < 99 ∨ 119 < k ∨ (k = 101 ∨ k = 102 ∨ k = 103 ∨ k = 104 ∨ k = 105 ∨ k = 111 ∨ k = 113 ∨ k = 115 ∨ k = 116 ∨ k = 117 ∨ k = 118) → rt_cmd E M f g Y k (ax_cm (g 2) (M 36 0) (g 11) k) (am_den 163 (302, [some (am_A (35, 0)), some (am_A (38, 0)), some (am_I k), u3], [], E, rt_s M f (ar_u g 11 (g 11 + 1)))) := by
    intro hk
    have e : ax_cm (g 2) (M 36 0) (g 11) k = (0, g 11, 0, 0) := by
      unfold ax_cm
      repeat' split
      all_goals first | rfl | (exfalso; omega)
    have e3 : am_up (rt_s M f (ar_u g 11 (g 11 + 1))) (35, 0) 11 (g 11) = rt_s M f (ar_u g 11 (g 11)) := by
      unfold rt_s
      rw [ar_up, rt_uu]
    rw [e]
    refine ⟨fun _ => ?_, fun z => absurd rfl z⟩
    rw [am_B163_302 hE, rt_35, g11, am_wi (by omega) (by omega), show g 11 + 1 - 1 = g 11 by omega, e3, am_B163_312]
  have four : (k = 108 ∨ k = 100 ∨ k = 106 ∨ k = 109) → rt_cmd E M f g Y k (ax_cm (g 2) (M 36 0) (g 11) k) (am_den 163 (144, [some (am_A (35, 0)), some (am_A (38, 0)), some (am_I k), u3], [], E, rt_s M f (ar_u g 11 (g 11 + 1)))) := by
    intro hk
    have h := rt_162 (M := M) (f := f) (g := ar_u g 11 (g 11 + 1)) (Y := Y) (B := B) hs hE (by rw [g2]; exact hn) (by rw [g11, g2]; omega) hq hG hB (by rw [g12]; exact ho) hk (u3 := none) (u4 := none)
    rw [g11, g2, show g 11 + 1 - 1 = g 11 by omega] at h
    refine ⟨fun z => ?_, fun z => ?_⟩
    · have h1 := h.1 z
      rw [rt_uu] at h1
      rw [am_B163_144 hE, h1, am_bd_v]
      simp only [Nat.reduceAdd]
      rw [am_B163_150 (Or.inl rfl)]
    · obtain ⟨f', e, hq', h8'⟩ := rt_do_u (h.2 z)
      refine ⟨f', ?_, hq', h8'⟩
      rw [am_B163_144 hE, e, am_bd_v]
      simp only [Nat.reduceAdd]
      rw [am_B163_150 (Or.inr rfl)]
  by_cases hd : k < 99 ∨ 119 < k
  · rw [am_S163_21d hd]
    exact bad (by omega)
  · have hk : k = 99 ∨ k = 100 ∨ k = 101 ∨ k = 102 ∨ k = 103 ∨ k = 104 ∨ k = 105 ∨ k = 106 ∨ k = 107 ∨ k = 108 ∨ k = 109 ∨ k = 110 ∨ k = 111 ∨ k = 112 ∨ k = 113 ∨ k = 114 ∨ k = 115 ∨ k = 116 ∨ k = 117 ∨ k = 118 ∨ k = 119 := by omega
    rcases hk with h | h | h | h | h | h | h | h | h | h | h | h | h | h | h | h | h | h | h | h | h
    · have ec : ax_cm (g 2) (M 36 0) (g 11) 99 = ax_c3 (ax_n1 (g 2) (M 36 0) 0 3 0 (g 11 + 1)) (ax_dg (g 2) (M 36 0) (ax_n1 (g 2) (M 36 0) 0 3 0 (g 11 + 1)).2) := rfl
      have h3 := rt_161 (M := M) (f := f) (g := ar_u g 11 (g 11 + 1)) (Y := Y) (B := B) hs hE (by rw [g2]; exact hn) (by rw [g11, g2]; omega) hq hG (by rw [g12]; exact ho) (u2 := none) (u3 := none)
      rw [g11, g2] at h3
      rw [am_S163_21v99 h, h, ec]
      refine ⟨fun z => ?_, fun z => ?_⟩
      · have h1 := h3.1 z
        rw [rt_uu] at h1
        rw [am_B163_200 hE, h1, am_bd_v]
        simp only [Nat.reduceAdd]
        rw [am_B163_205 (Or.inl rfl)]
      · obtain ⟨f', e, hq', h8'⟩ := rt_do_u (h3.2 z)
        refine ⟨f', ?_, hq', h8'⟩
        rw [am_B163_200 hE, e, am_bd_v]
        simp only [Nat.reduceAdd]
        rw [am_B163_205 (Or.inr rfl)]
    · rw [am_S163_21v100 h]
      exact four (by omega)
    · rw [am_S163_21v101 h]
      exact bad (by omega)
    · rw [am_S163_21v102 h]
      exact bad (by omega)
    · rw [am_S163_21v103 h]
      exact bad (by omega)
    · rw [am_S163_21v104 h]
      exact bad (by omega)
    · rw [am_S163_21v105 h]
      exact bad (by omega)
    · rw [am_S163_21v106 h]
      exact four (by omega)
    · have ec : ax_cm (g 2) (M 36 0) (g 11) 107 = ax_c1 (ax_n2 (g 2) (M 36 0) 0 23 (g 11 + 1)) := rfl
      rw [am_S163_21v107 h, h, ec, am_B163_151 hE, rt_6002 hs hE (by rw [g2]; exact hn) (by rw [g11]; omega) (by decide), am_bd_v, g2, g11, rt_uu]
      simp only [Nat.reduceAdd]
      rw [am_B163_160]
      refine rt_cm2 (fun z => ?_) (fun z => ?_)
      · rw [if_pos z, am_B163_198, am_B163_199 (Or.inl rfl)]
      · rw [if_neg z]
        have hv := rt_n2v z
        exact rt_k (B := B) hE hq hG hB (by rw [o]; exact ho)
    · rw [am_S163_21v108 h]
      exact four (by omega)
    · rw [am_S163_21v109 h]
      exact four (by omega)
    · have ec : ax_cm (g 2) (M 36 0) (g 11) 110 = ax_c1 (ax_n1 (g 2) (M 36 0) 1 9 0 (g 11 + 1)) := rfl
      rw [am_S163_21v110 h, h, ec, am_B163_261 hE, rt_6001 hs hE (by rw [g2]; exact hn) (by rw [g11]; omega) (by decide), am_bd_v, g2, g11, rt_uu]
      simp only [Nat.reduceAdd]
      rw [am_B163_270]
      refine rt_cm2 (fun z => ?_) (fun z => ?_)
      · rw [if_pos z, am_B163_300, am_B163_301 (Or.inl rfl)]
      · rw [if_neg z]
        have hv := rt_n1v z
        exact rt_n (B := B) hE hq hG (by rw [o]; exact ho) hv
    · rw [am_S163_21v111 h]
      exact bad (by omega)
    · have ec : ax_cm (g 2) (M 36 0) (g 11) 112 = (1, g 11 + 1, 0, 0) := rfl
      rw [am_S163_21v112 h, h, ec]
      refine ⟨fun z => absurd (show (1 : Int) = 0 from z) (by decide), fun _ => ?_⟩
      exact rt_p (B := B) hE hq hG (by rw [o]; exact ho)
    · rw [am_S163_21v113 h]
      exact bad (by omega)
    · have ec : ax_cm (g 2) (M 36 0) (g 11) 114 = ax_c1 (ax_n2 (g 2) (M 36 0) 1 30 (g 11 + 1)) := rfl
      rw [am_S163_21v114 h, h, ec, am_B163_206 hE, rt_6002 hs hE (by rw [g2]; exact hn) (by rw [g11]; omega) (by decide), am_bd_v, g2, g11, rt_uu]
      simp only [Nat.reduceAdd]
      rw [am_B163_215]
      refine rt_cm2 (fun z => ?_) (fun z => ?_)
      · rw [if_pos z, am_B163_259, am_B163_260 (Or.inl rfl)]
      · rw [if_neg z]
        have hv := rt_n2v z
        exact rt_w (B := B) hE hq hG (by rw [o]; exact ho) hv (Or.inr rfl)
    · rw [am_S163_21v115 h]
      exact bad (by omega)
    · rw [am_S163_21v116 h]
      exact bad (by omega)
    · rw [am_S163_21v117 h]
      exact bad (by omega)
    · rw [am_S163_21v118 h]
      exact bad (by omega)
    · have ec : ax_cm (g 2) (M 36 0) (g 11) 119 = ax_c1 (ax_n2 (g 2) (M 36 0) 1 30 (g 11 + 1)) := rfl
      rw [am_S163_21v119 h, h, ec, am_B163_206 hE, rt_6002 hs hE (by rw [g2]; exact hn) (by rw [g11]; omega) (by decide), am_bd_v, g2, g11, rt_uu]
      simp only [Nat.reduceAdd]
      rw [am_B163_215]
      refine rt_cm2 (fun z => ?_) (fun z => ?_)
      · rw [if_pos z, am_B163_259, am_B163_260 (Or.inl rfl)]
      · rw [if_neg z]
        have hv := rt_n2v z
        exact rt_w (B := B) hE hq hG (by rw [o]; exact ho) hv (Or.inl rfl)
end RTX3
