/-! ===== two objects: the swap of their blocks goes through every run ===== -/
def rl_s (b : Nat) : Nat := if b < 35 then b + 50 else if 50 ≤ b ∧ b < 85 then b - 50 else b
theorem rl_ss {b : Nat} : rl_s (rl_s b) = b := by
  unfold rl_s
  repeat' split
  all_goals omega
theorem rl_si {a b : Nat} : rl_s a = b ↔ a = rl_s b := ⟨fun h => by rw [← h, rl_ss], fun h => by rw [h, rl_ss]⟩
theorem rl_s45 {b : Nat} : rl_s b = 45 ↔ b = 45 := by
  unfold rl_s
  repeat' split
  all_goals omega
def rl_r (r : am_R) : am_R := (rl_s r.1, r.2)
theorem rl_rr {r : am_R} : rl_r (rl_r r) = r := by
  unfold rl_r
  rw [rl_ss]
theorem rl_ri {a b : am_R} : rl_r a = b ↔ a = rl_r b := ⟨fun h => by rw [← h, rl_rr], fun h => by rw [h, rl_rr]⟩
theorem rl_r45 {r : am_R} : rl_r r = (45, 0) ↔ r = (45, 0) := rl_ri
def rl_v (v : am_V) : am_V := match v with
  | .inl z => .inl z
  | .inr (.inl z) => .inr (.inl z)
  | .inr (.inr r) => .inr (.inr (r.map rl_r))
theorem rl_om {r : Option am_R} : (r.map rl_r).map rl_r = r := by
  cases r with
  | none => rfl
  | some r => simp [rl_rr]
theorem rl_vv {v : am_V} : rl_v (rl_v v) = v := by
  rcases v with z | z | r
  · rfl
  · rfl
  · unfold rl_v
    simp only [rl_om]
def rl_E (E : am_E) : am_E := (E.1, E.2.1, E.2.2.1, fun r k => (E.2.2.2 (rl_r r) k).map rl_r)
theorem rl_EE {E : am_E} : rl_E (rl_E E) = E := by
  unfold rl_E
  simp only [rl_rr, rl_om]
def rl_M (M : am_M) : am_M := fun b => M (rl_s b)
theorem rl_MM {M : am_M} : rl_M (rl_M M) = M := by
  unfold rl_M
  simp only [rl_ss]
abbrev rl_t (st : List am_V) : List am_V := st.map rl_v
abbrev rl_l (ls : List (Option am_V)) : List (Option am_V) := ls.map (Option.map rl_v)
def rl_c (c : am_Cf) : am_Cf := (c.1, rl_l c.2.1, rl_t c.2.2.1, rl_E c.2.2.2.1, rl_M c.2.2.2.2)
def rl_o (r : am_Rs) : am_Rs := (match r.1 with
  | .inl v => .inl (v.map rl_v)
  | .inr x => .inr x, rl_E r.2.1, rl_M r.2.2)
def rl_a (a : am_Ac) : am_Ac := match a with
  | .inl c => .inl (rl_c c)
  | .inr (.inl r) => .inr (.inl (rl_o r))
  | .inr (.inr (t, as, rest)) => .inr (.inr (t, rl_t as, rl_t rest))
/-! kinds by names -/
def rl_k (r : am_R) : Option (Nat × Nat) := (am_tab.find? (fun t => t.1 == r)).map (fun t => t.2)
theorem rl_k1 : ∀ t ∈ am_tab, rl_k (rl_r t.1) = some t.2 := by decide +kernel
theorem rl_k2 {r : am_R} {x : Nat × Nat} (h : rl_k r = some x) : ∃ t ∈ am_tab, t.1 = r ∧ t.2 = x := by
  unfold rl_k at h
  cases h1 : am_tab.find? (fun t => t.1 == r) with
  | none => rw [h1] at h; cases h
  | some t =>
    rw [h1] at h
    cases h
    exact ⟨t, List.mem_of_find?_eq_some h1, by simpa using List.find?_some h1, rfl⟩
theorem rl_kk {r : am_R} : rl_k (rl_r r) = rl_k r := by
  cases h : rl_k r with
  | some x =>
    obtain ⟨t, ht, e1, e2⟩ := rl_k2 h
    rw [← e1, ← e2]
    exact rl_k1 t ht
  | none =>
    cases h2 : rl_k (rl_r r) with
    | none => rfl
    | some x =>
      obtain ⟨t, ht, e1, e2⟩ := rl_k2 h2
      have := rl_k1 t ht
      rw [e1, rl_rr, h] at this
      cases this
theorem rl_kd0 {E : am_E} {r : am_R} (hE : E.1 = 368) (h : r ≠ (45, 0)) : am_kd E r = rl_k r := by
  unfold am_kd rl_k
  rw [if_neg h, hE, List.find?_eq_getElem?_findIdx]
  unfold am_ix
  by_cases q : List.findIdx (fun t => t.1 == r) am_tab < 368
  · rw [if_pos q]
    cases am_tab[List.findIdx (fun t => t.1 == r) am_tab]? <;> rfl
  · rw [if_neg q, List.getElem?_eq_none (by rw [am_tab_len]; omega)]
    rfl
theorem rl_kd {E : am_E} {r : am_R} (hE : E.1 = 368) : am_kd (rl_E E) (rl_r r) = am_kd E r := by
  by_cases h : r = (45, 0)
  · unfold am_kd
    rw [if_pos h, if_pos (rl_r45.mpr h)]
    rfl
  · rw [rl_kd0 hE h, rl_kd0 (show (rl_E E).1 = 368 from hE) (fun z => h (rl_r45.mp z)), rl_kk]
theorem rl_ob {E : am_E} {r : am_R} {c : Nat} (hE : E.1 = 368) : am_ob (rl_E E) (rl_r r) c = am_ob E r c := by
  unfold am_ob
  rw [rl_kd hE]
theorem rl_ar {E : am_E} {r : am_R} {k : Nat} {i : Int} (hE : E.1 = 368) : am_ar (rl_E E) (rl_r r) k i = am_ar E r k i := by
  unfold am_ar
  rw [rl_kd hE]
theorem rl_rf {E : am_E} {r : am_R} {k : Nat} : am_rf (rl_E E) (rl_r r) k = (am_rf E r k).map rl_r := by
  show ((E.2.2.2 (rl_r (rl_r r)) k).map rl_r) = _
  rw [rl_rr]
  rfl
theorem rl_srf {E : am_E} {r v : am_R} {k : Nat} : am_srf (rl_E E) (rl_r r) k (rl_r v) = rl_E (am_srf E r k v) := by
  unfold am_srf rl_E
  simp only [Prod.mk.injEq, true_and]
  funext r' k'
  by_cases h : r' = rl_r r ∧ k' = k
  · rw [if_pos h, if_pos ⟨rl_ri.mpr h.1, h.2⟩]
    rfl
  · rw [if_neg h, if_neg (fun z => h ⟨rl_ri.mp z.1, z.2⟩)]
theorem rl_sb {M : am_M} {b : Nat} {Y : Nat → Int → Int} : am_sb (rl_M M) (rl_s b) Y = rl_M (am_sb M b Y) := by
  funext b'
  show (if b' = rl_s b then Y else M (rl_s b')) = (if rl_s b' = b then Y else M (rl_s b'))
  by_cases h : b' = rl_s b
  · rw [if_pos h, if_pos (rl_si.mpr h)]
  · rw [if_neg h, if_neg (fun z => h (rl_si.mp z))]
theorem rl_up {M : am_M} {r : am_R} {j v : Int} : am_up (rl_M M) (rl_r r) j v = rl_M (am_up M r j v) := by
  unfold am_up
  show am_sb (rl_M M) (rl_s r.1) (am_uy (rl_M M (rl_s r.1)) r.2 j v) = _
  rw [show rl_M M (rl_s r.1) = M r.1 by unfold rl_M; rw [rl_ss], rl_sb]
theorem rl_cat {v : am_V} : am_cat (rl_v v) = am_cat v := by rcases v with z | z | r <;> rfl
theorem rl_wt {st : List am_V} : am_wt (rl_t st) = am_wt st := by
  unfold am_wt rl_t
  rw [List.map_map]
  congr 1
  exact List.map_congr_left (fun v _ => rl_cat)
theorem rl_b2 {f : Int → Int → Int} {st : List am_V} : am_b2 f (rl_t st) = (am_b2 f st).map rl_t := by
  rcases st with _ | ⟨a, _ | ⟨b, r⟩⟩
  · rfl
  · rcases a with z | z | z <;> rfl
  · rcases a with z | z | z <;> rcases b with y | y | y <;> rfl
theorem rl_d2 {f : Int → Int → Int} {st : List am_V} : am_d2 f (rl_t st) = (am_d2 f st).map rl_t := by
  rcases st with _ | ⟨a, _ | ⟨b, r⟩⟩
  · rfl
  · rcases a with z | z | z <;> rfl
  · rcases a with z | z | z <;> rcases b with y | y | y <;> first | rfl | skip
    show (if z = 0 then none else some (rl_t (.inl (f y z) :: r))) = Option.map rl_t (if z = 0 then none else some (.inl (f y z) :: r))
    split <;> rfl
theorem rl_l2 {f : Int → Int → Int} {st : List am_V} : am_l2 f (rl_t st) = (am_l2 f st).map rl_t := by
  rcases st with _ | ⟨a, _ | ⟨b, r⟩⟩
  · rfl
  · rcases a with z | z | z <;> rfl
  · rcases a with z | z | z <;> rcases b with y | y | y <;> rfl
theorem rl_dl2 {f : Int → Int → Int} {st : List am_V} : am_dl2 f (rl_t st) = (am_dl2 f st).map rl_t := by
  rcases st with _ | ⟨a, _ | ⟨b, r⟩⟩
  · rfl
  · rcases a with z | z | z <;> rfl
  · rcases a with z | z | z <;> rcases b with y | y | y <;> first | rfl | skip
    show (if z = 0 then none else some (rl_t (.inr (.inl (f y z)) :: r))) = Option.map rl_t (if z = 0 then none else some (.inr (.inl (f y z)) :: r))
    split <;> rfl
theorem rl_s2 {f : Int → Int → Int} {st : List am_V} : am_s2 f (rl_t st) = (am_s2 f st).map rl_t := by
  rcases st with _ | ⟨a, _ | ⟨b, r⟩⟩
  · rfl
  · rcases a with z | z | z <;> rfl
  · rcases a with z | z | z <;> rcases b with y | y | y <;> rfl
theorem rl_b1 {f : Int → Int} {st : List am_V} : am_b1 f (rl_t st) = (am_b1 f st).map rl_t := by
  rcases st with _ | ⟨a, r⟩
  · rfl
  · rcases a with z | z | z <;> rfl
theorem rl_op {i : Instr} {st : List am_V} : am_op i (rl_t st) = (am_op i st).map rl_t := by
  cases i
  case iconst z => unfold am_op; dsimp only; split <;> rfl
  case bipush z => unfold am_op; dsimp only; split <;> rfl
  case sipush z => unfold am_op; dsimp only; split <;> rfl
  case dup =>
    rcases st with _ | ⟨a, r⟩
    · rfl
    · unfold am_op
      show (if am_cat (rl_v a) = 1 then some (rl_v a :: rl_v a :: rl_t r) else none) = Option.map rl_t (if am_cat a = 1 then some (a :: a :: r) else none)
      rw [rl_cat]
      split <;> rfl
  case dup2 =>
    rcases st with _ | ⟨a, _ | ⟨b, r⟩⟩
    · rfl
    · rfl
    · unfold am_op
      show (if am_cat (rl_v a) = 1 ∧ am_cat (rl_v b) = 1 then some (rl_v a :: rl_v b :: rl_v a :: rl_v b :: rl_t r) else none) = Option.map rl_t (if am_cat a = 1 ∧ am_cat b = 1 then some (a :: b :: a :: b :: r) else none)
      rw [rl_cat, rl_cat]
      split <;> rfl
  case pop =>
    rcases st with _ | ⟨a, r⟩
    · rfl
    · unfold am_op
      show (if am_cat (rl_v a) = 1 then some (rl_t r) else none) = Option.map rl_t (if am_cat a = 1 then some r else none)
      rw [rl_cat]
      split <;> rfl
  case lcmp =>
    rcases st with _ | ⟨a, _ | ⟨b, r⟩⟩
    · rfl
    · rcases a with z | z | z <;> rfl
    · rcases a with z | z | z <;> rcases b with y | y | y <;> rfl
  case i2l =>
    rcases st with _ | ⟨a, r⟩
    · rfl
    · rcases a with z | z | z <;> rfl
  case l2i =>
    rcases st with _ | ⟨a, r⟩
    · rfl
    · rcases a with z | z | z <;> rfl
  all_goals first | rfl | exact rl_b2 | exact rl_d2 | exact rl_l2 | exact rl_dl2 | exact rl_s2 | exact rl_b1
theorem rl_g {ls : List (Option am_V)} {n : Nat} : am_g (rl_l ls) n = (am_g ls n).map rl_v := by
  unfold am_g rl_l
  rw [List.getElem?_map]
  cases ls[n]? with
  | none => rfl
  | some x => cases x <;> rfl
theorem rl_gi {ls : List (Option am_V)} {n : Nat} : am_gi (rl_l ls) n = (am_gi ls n).map rl_v := by
  unfold am_gi
  rw [rl_g]
  cases am_g ls n with
  | none => rfl
  | some v => rcases v with z | z | z <;> rfl
theorem rl_gl {ls : List (Option am_V)} {n : Nat} : am_gl (rl_l ls) n = (am_gl ls n).map rl_v := by
  unfold am_gl
  rw [rl_g]
  cases am_g ls n with
  | none => rfl
  | some v => rcases v with z | z | z <;> rfl
theorem rl_ga {ls : List (Option am_V)} {n : Nat} : am_ga (rl_l ls) n = (am_ga ls n).map rl_v := by
  unfold am_ga
  rw [rl_g]
  cases am_g ls n with
  | none => rfl
  | some v => rcases v with z | z | z <;> rfl
theorem rl_ld {i : Instr} {ls : List (Option am_V)} : am_ld i (rl_l ls) = (am_ld i ls).map rl_v := by
  cases i
  all_goals first | rfl | exact rl_gi | exact rl_gl | exact rl_ga
theorem rl_lf {ls : List (Option am_V)} {n : Nat} : am_lf (rl_l ls) n = am_lf ls n := by
  cases n with
  | zero => rfl
  | succ n =>
    unfold am_lf
    dsimp only
    rw [rl_g]
    cases am_g ls n with
    | none => rfl
    | some v => rcases v with z | z | z <;> rfl
theorem rl_len {ls : List (Option am_V)} : (rl_l ls).length = ls.length := List.length_map _
theorem rl_s1 {ls : List (Option am_V)} {n : Nat} {v : am_V} : am_s1 (rl_l ls) n (rl_v v) = (am_s1 ls n v).map rl_l := by
  unfold am_s1
  rw [rl_len, rl_lf]
  split
  · show some ((ls.map (Option.map rl_v)).set n (some (rl_v v))) = some ((ls.set n (some v)).map (Option.map rl_v))
    rw [List.map_set]
    rfl
  · rfl
theorem rl_s3 {ls : List (Option am_V)} {n : Nat} {v : am_V} : am_s3 (rl_l ls) n (rl_v v) = (am_s3 ls n v).map rl_l := by
  unfold am_s3
  rw [rl_len, rl_lf]
  split
  · show some (((ls.map (Option.map rl_v)).set n (some (rl_v v))).set (n + 1) none) = some (((ls.set n (some v)).set (n + 1) none).map (Option.map rl_v))
    rw [List.map_set, List.map_set]
    rfl
  · rfl
abbrev rl_p (x : List (Option am_V) × List am_V) : List (Option am_V) × List am_V := (rl_l x.1, rl_t x.2)
theorem rl_si1 {ls : List (Option am_V)} {n : Nat} {st : List am_V} : am_si (rl_l ls) n (rl_t st) = (am_si ls n st).map rl_p := by
  rcases st with _ | ⟨a, r⟩
  · rfl
  · rcases a with z | z | z
    · unfold am_si
      show (match am_s1 (rl_l ls) n (rl_v (.inl z)) with
        | some l => some (l, rl_t r)
        | none => none) = _
      rw [rl_s1]
      dsimp only
      cases am_s1 ls n (.inl z) <;> rfl
    · rfl
    · rfl
theorem rl_sl {ls : List (Option am_V)} {n : Nat} {st : List am_V} : am_sl (rl_l ls) n (rl_t st) = (am_sl ls n st).map rl_p := by
  rcases st with _ | ⟨a, r⟩
  · rfl
  · rcases a with z | z | z
    · rfl
    · unfold am_sl
      show (match am_s3 (rl_l ls) n (rl_v (.inr (.inl z))) with
        | some l => some (l, rl_t r)
        | none => none) = _
      rw [rl_s3]
      dsimp only
      cases am_s3 ls n (.inr (.inl z)) <;> rfl
    · rfl
theorem rl_sa {ls : List (Option am_V)} {n : Nat} {st : List am_V} : am_sa (rl_l ls) n (rl_t st) = (am_sa ls n st).map rl_p := by
  rcases st with _ | ⟨a, r⟩
  · rfl
  · rcases a with z | z | z
    · rfl
    · rfl
    · unfold am_sa
      show (match am_s1 (rl_l ls) n (rl_v (.inr (.inr z))) with
        | some l => some (l, rl_t r)
        | none => none) = _
      rw [rl_s1]
      dsimp only
      cases am_s1 ls n (.inr (.inr z)) <;> rfl
theorem rl_st {i : Instr} {ls : List (Option am_V)} {st : List am_V} : am_st i (rl_l ls) (rl_t st) = (am_st i ls st).map rl_p := by
  cases i
  case iinc n c =>
    unfold am_st
    dsimp only
    split
    · rw [rl_g]
      cases am_g ls n with
      | none => rfl
      | some v =>
        rcases v with z | z | z
        · show (match am_s1 (rl_l ls) n (rl_v (.inl (am_w (z + c)))) with
            | some l => some (l, rl_t st)
            | none => none) = _
          rw [rl_s1]
          dsimp only
          cases am_s1 ls n (.inl (am_w (z + c))) <;> rfl
        · rfl
        · rfl
    · rfl
  all_goals first | rfl | exact rl_si1 | exact rl_sl | exact rl_sa
theorem rl_rd {k : Nat} {i : Instr} {st : List am_V} {E : am_E} {M : am_M} (hE : E.1 = 368) : am_rd k i (rl_t st) (rl_E E) (rl_M M) = (am_rd k i st E M).map rl_t := by
  have hm : ∀ (r : am_R) j, rl_M M (rl_r r).1 (rl_r r).2 j = M r.1 r.2 j := fun r j => by
    unfold rl_M rl_r
    rw [rl_ss]
  have ar2 : ∀ (f : Int → Bool) (r : am_R) (z : Int), True := fun _ _ _ => trivial
  cases i
  case getfield idx =>
    rcases st with _ | ⟨a, r⟩
    · rfl
    · rcases a with z | z | z | z
      · rfl
      · rfl
      · rfl
      · unfold am_rd
        dsimp only
        show (match (.inr (.inr (some (rl_r z))) :: rl_t r : List am_V), am_fl k idx with
          | .inr (.inr (some r)) :: rest, some (c, f) => if am_ob (rl_E E) r c = true then some ((bif am_isr c f then am_rv (am_rf (rl_E E) r f) else am_I (rl_M M r.1 r.2 f)) :: rest) else none
          | _, _ => none) = _
        cases am_fl k idx with
        | none => rfl
        | some x =>
          obtain ⟨c, f⟩ := x
          dsimp only
          rw [rl_ob hE, rl_rf, hm]
          by_cases h : am_ob E z c = true
          · rw [if_pos h, if_pos h]
            cases am_isr c f <;> rfl
          · rw [if_neg h, if_neg h]
            rfl
  case iaload =>
    rcases st with _ | ⟨a, _ | ⟨b, r⟩⟩
    · rfl
    · rcases a with z | z | z <;> rfl
    · rcases a with z | z | z <;> rcases b with y | y | y | y <;> first | rfl | skip
      unfold am_rd
      show (if am_ar (rl_E E) (rl_r y) 6 z = true ∨ am_ar (rl_E E) (rl_r y) 12 z = true then some (am_I (rl_M M (rl_r y).1 (rl_r y).2 z) :: rl_t r) else none) = Option.map rl_t (if am_ar E y 6 z = true ∨ am_ar E y 12 z = true then some (am_I (M y.1 y.2 z) :: r) else none)
      rw [rl_ar hE, rl_ar hE, hm]
      split <;> rfl
  case caload =>
    rcases st with _ | ⟨a, _ | ⟨b, r⟩⟩
    · rfl
    · rcases a with z | z | z <;> rfl
    · rcases a with z | z | z <;> rcases b with y | y | y | y <;> first | rfl | skip
      unfold am_rd
      show (if am_ar (rl_E E) (rl_r y) 7 z = true then some (am_I (rl_M M (rl_r y).1 (rl_r y).2 z) :: rl_t r) else none) = Option.map rl_t (if am_ar E y 7 z = true then some (am_I (M y.1 y.2 z) :: r) else none)
      rw [rl_ar hE, hm]
      split <;> rfl
  case aaload =>
    rcases st with _ | ⟨a, _ | ⟨b, r⟩⟩
    · rfl
    · rcases a with z | z | z <;> rfl
    · rcases a with z | z | z <;> rcases b with y | y | y | y <;> first | rfl | skip
      unfold am_rd
      show (if am_ar (rl_E E) (rl_r y) 10 z = true then some (am_rv (am_rf (rl_E E) (rl_r y) z.toNat) :: rl_t r) else none) = Option.map rl_t (if am_ar E y 10 z = true then some (am_rv (am_rf E y z.toNat) :: r) else none)
      rw [rl_ar hE, rl_rf]
      split <;> rfl
  case arraylength =>
    rcases st with _ | ⟨a, r⟩
    · rfl
    · rcases a with z | z | z | z
      · rfl
      · rfl
      · rfl
      · unfold am_rd
        show (match am_kd (rl_E E) (rl_r z) with
          | some (c, n) => if 6 ≤ c then some (am_I n :: rl_t r) else none
          | none => none) = Option.map rl_t (match am_kd E z with
          | some (c, n) => if 6 ≤ c then some (am_I n :: r) else none
          | none => none)
        rw [rl_kd hE]
        cases am_kd E z with
        | none => rfl
        | some x =>
          obtain ⟨c, n⟩ := x
          dsimp only
          split <;> rfl
  case ldc2_w idx =>
    unfold am_rd
    dsimp only
    cases am_kl k idx <;> rfl
  case ldc idx =>
    unfold am_rd
    dsimp only
    cases am_ki k idx <;> rfl
  all_goals rfl
theorem wr_pi {k idx : Nat} {z : Int} {r : am_R} {rest : List am_V} {E : am_E} {M : am_M} : am_wr k (.putfield idx) (.inl z :: .inr (.inr (some r)) :: rest) E M = (match am_fl k idx with
    | some x => if am_ob E r x.1 = true ∧ am_isr x.1 x.2 = false ∧ (am_isz x.1 x.2 = true → z = 0 ∨ z = 1) then some (rest, E, am_up M r x.2 z) else none
    | none => none) := by
  unfold am_wr
  dsimp only
  cases am_fl k idx <;> rfl
theorem wr_pr {k idx : Nat} {v r : am_R} {rest : List am_V} {E : am_E} {M : am_M} : am_wr k (.putfield idx) (.inr (.inr (some v)) :: .inr (.inr (some r)) :: rest) E M = (match am_fl k idx with
    | some x => if am_ob E r x.1 = true ∧ am_isr x.1 x.2 = true ∧ (am_mt k).2.2.1.name = "<init>" ∧ (am_mt k).2.1 = x.1 then some (rest, am_srf E r x.2 v, M) else none
    | none => none) := by
  unfold am_wr
  dsimp only
  cases am_fl k idx <;> rfl
abbrev rl_w (x : List am_V × am_E × am_M) : List am_V × am_E × am_M := (rl_t x.1, rl_E x.2.1, rl_M x.2.2)
theorem rl_wr {k : Nat} {i : Instr} {st : List am_V} {E : am_E} {M : am_M} (hE : E.1 = 368) : am_wr k i (rl_t st) (rl_E E) (rl_M M) = (am_wr k i st E M).map rl_w := by
  cases i
  case putfield idx =>
    rcases st with _ | ⟨a, _ | ⟨b, r⟩⟩
    · rfl
    · rcases a with z | z | z | z <;> rfl
    · rcases a with z | z | z | z <;> rcases b with y | y | y | y <;> first | rfl | skip
      · show am_wr k (.putfield idx) (.inl z :: .inr (.inr (some (rl_r y))) :: rl_t r) (rl_E E) (rl_M M) = _
        rw [wr_pi, wr_pi]
        cases am_fl k idx with
        | none => rfl
        | some x =>
          dsimp only
          rw [rl_ob hE, rl_up]
          split <;> rfl
      · show am_wr k (.putfield idx) (.inr (.inr (some (rl_r z))) :: .inr (.inr (some (rl_r y))) :: rl_t r) (rl_E E) (rl_M M) = _
        rw [wr_pr, wr_pr]
        cases am_fl k idx with
        | none => rfl
        | some x =>
          dsimp only
          rw [rl_ob hE, rl_srf]
          split <;> rfl
  case iastore =>
    rcases st with _ | ⟨a, _ | ⟨b, _ | ⟨d, r⟩⟩⟩
    · rfl
    · rcases a with z | z | z <;> rfl
    · rcases a with z | z | z <;> rcases b with y | y | y <;> rfl
    · rcases a with z | z | z <;> rcases b with y | y | y <;> rcases d with x | x | x | x <;> first | rfl | skip
      unfold am_wr
      show (if am_ar (rl_E E) (rl_r x) 6 y = true then some (rl_t r, rl_E E, am_up (rl_M M) (rl_r x) y z) else none) = Option.map rl_w (if am_ar E x 6 y = true then some (r, E, am_up M x y z) else none)
      rw [rl_ar hE, rl_up]
      split <;> rfl
  case castore =>
    rcases st with _ | ⟨a, _ | ⟨b, _ | ⟨d, r⟩⟩⟩
    · rfl
    · rcases a with z | z | z <;> rfl
    · rcases a with z | z | z <;> rcases b with y | y | y <;> rfl
    · rcases a with z | z | z <;> rcases b with y | y | y <;> rcases d with x | x | x | x <;> first | rfl | skip
      unfold am_wr
      show (if am_ar (rl_E E) (rl_r x) 7 y = true ∧ 0 ≤ z ∧ z < 65536 then some (rl_t r, rl_E E, am_up (rl_M M) (rl_r x) y z) else none) = Option.map rl_w (if am_ar E x 7 y = true ∧ 0 ≤ z ∧ z < 65536 then some (r, E, am_up M x y z) else none)
      rw [rl_ar hE, rl_up]
      split <;> rfl
  case aastore =>
    rcases st with _ | ⟨a, _ | ⟨b, _ | ⟨d, r⟩⟩⟩
    · rfl
    · rcases a with z | z | z | z <;> rfl
    · rcases a with z | z | z | z <;> rcases b with y | y | y <;> rfl
    · rcases a with z | z | z | z <;> rcases b with y | y | y <;> rcases d with x | x | x | x <;> first | rfl | skip
      unfold am_wr
      show (if am_ar (rl_E E) (rl_r x) 10 y = true ∧ am_ob (rl_E E) (rl_r z) 3 = true then some (rl_t r, am_srf (rl_E E) (rl_r x) y.toNat (rl_r z), rl_M M) else none) = Option.map rl_w (if am_ar E x 10 y = true ∧ am_ob E z 3 = true then some (r, am_srf E x y.toNat z, M) else none)
      rw [rl_ar hE, rl_ob hE, rl_srf]
      split <;> rfl
  all_goals rfl
theorem rl_nx {E : am_E} {c : Nat} {n : Int} (hE : E.1 = 368) : am_nx E c n = none := by
  unfold am_nx
  rw [hE, List.getElem?_eq_none (by rw [am_tab_len]; omega)]
theorem rl_mk {k : Nat} {i : Instr} {st : List am_V} {E : am_E} {M : am_M} (hE : E.1 = 368) : am_mk k i st E M = none := by
  unfold am_mk
  simp only [rl_nx hE]
  repeat' split
  all_goals rfl
theorem rl_rt {k : Nat} {i : Instr} {st : List am_V} : am_rt k i (rl_t st) = (am_rt k i st).map (fun v => v.map rl_v) := by
  cases i
  case return_ =>
    rcases st with _ | ⟨a, r⟩
    · unfold am_rt
      show (if (am_mt k).2.2.2.2.2.1 = none then some none else none) = Option.map _ (if (am_mt k).2.2.2.2.2.1 = none then some none else none)
      split <;> rfl
    · rfl
  case ireturn =>
    rcases st with _ | ⟨a, _ | ⟨b, r⟩⟩
    · rfl
    · rcases a with z | z | z <;> first | rfl | skip
      unfold am_rt
      show (if am_rok (am_mt k).2.2.2.2.2.1 (am_I z) = true then some (some (am_I z)) else none) = Option.map _ (if am_rok (am_mt k).2.2.2.2.2.1 (am_I z) = true then some (some (am_I z)) else none)
      split <;> rfl
    · rcases a with z | z | z <;> rfl
  case lreturn =>
    rcases st with _ | ⟨a, _ | ⟨b, r⟩⟩
    · rfl
    · rcases a with z | z | z <;> first | rfl | skip
      unfold am_rt
      show (if am_rok (am_mt k).2.2.2.2.2.1 (am_J z) = true then some (some (am_J z)) else none) = Option.map _ (if am_rok (am_mt k).2.2.2.2.2.1 (am_J z) = true then some (some (am_J z)) else none)
      split <;> rfl
    · rcases a with z | z | z <;> rfl
  case areturn =>
    rcases st with _ | ⟨a, _ | ⟨b, r⟩⟩
    · rfl
    · rcases a with z | z | z <;> first | rfl | skip
      unfold am_rt
      show (if am_rok (am_mt k).2.2.2.2.2.1 (am_rv (z.map rl_r)) = true then some (some (am_rv (z.map rl_r))) else none) = Option.map _ (if am_rok (am_mt k).2.2.2.2.2.1 (am_rv z) = true then some (some (am_rv z)) else none)
      have e : am_rok (am_mt k).2.2.2.2.2.1 (am_rv (z.map rl_r)) = am_rok (am_mt k).2.2.2.2.2.1 (am_rv z) := by
        cases (am_mt k).2.2.2.2.2.1 with
        | none => rfl
        | some f => cases f <;> rfl
      rw [e]
      split <;> rfl
    · rcases a with z | z | z <;> rfl
  all_goals rfl
theorem rl_rcv {as : List am_V} {c : Nat} {E : am_E} (hE : E.1 = 368) : am_rcv (rl_t as) c (rl_E E) = am_rcv as c E := by
  rcases as with _ | ⟨a, r⟩
  · rfl
  · rcases a with z | z | z | z
    · rfl
    · rfl
    · rfl
    · show am_ob (rl_E E) (rl_r z) c = am_ob E z c
      exact rl_ob hE
theorem rl_ivc {t c : Nat} {i : Instr} {as : List am_V} {E : am_E} (hE : E.1 = 368) : am_ivc t c i (rl_t as) (rl_E E) = am_ivc t c i as E := by
  unfold am_ivc
  cases i <;> first | rfl | (dsimp only; rw [rl_rcv hE])
theorem rl_xp : ∀ (as : List am_V), am_xp (rl_t as) = rl_l (am_xp as)
  | [] => rfl
  | v :: r => by
    show (if am_cat (rl_v v) = 2 then some (rl_v v) :: none :: am_xp (rl_t r) else some (rl_v v) :: am_xp (rl_t r)) = rl_l (if am_cat v = 2 then some v :: none :: am_xp r else some v :: am_xp r)
    rw [rl_cat, rl_xp r]
    split <;> rfl
abbrev rl_i (x : List am_V ⊕ (Nat × List am_V × List am_V)) : List am_V ⊕ (Nat × List am_V × List am_V) := match x with
  | .inl st => .inl (rl_t st)
  | .inr (t, as, rest) => .inr (t, rl_t as, rl_t rest)
abbrev iv_m (k : Nat) (i : Instr) : Option (Nat × Nat) := match i with
  | .invokestatic idx => am_ml k idx
  | .invokevirtual idx => am_ml k idx
  | .invokespecial idx => am_ml k idx
  | _ => none
theorem iv_n {k : Nat} {i : Instr} {st : List am_V} {E : am_E} (hm : iv_m k i = none) : am_iv k i st E = none := by
  cases i <;> first | rfl | (unfold am_iv; dsimp only; rw [show am_ml k _ = none from hm])
theorem iv_5 {k t : Nat} {i : Instr} {st : List am_V} {E : am_E} (hm : iv_m k i = some (t, 5)) : am_iv k i st E = (match (generalizing := false) i, st with
    | .invokespecial _, .inr (.inr (some _)) :: rest => if am_wt rest ≤ 8 then some (.inl rest) else none
    | _, _ => none) := by
  cases i <;> first | (cases hm; done) | (unfold am_iv; dsimp only; rw [show am_ml k _ = some (t, 5) from hm]; try rfl)
theorem iv_6 {k t : Nat} {i : Instr} {st : List am_V} {E : am_E} (hm : iv_m k i = some (t, 6)) : am_iv k i st E = (match (generalizing := false) i, st with
    | .invokestatic _, .inl b :: .inl a :: rest => if am_wt rest ≤ 8 then some (.inl (.inl (if a < b then b else a) :: rest)) else none
    | _, _ => none) := by
  cases i <;> first | (cases hm; done) | (unfold am_iv; dsimp only; rw [show am_ml k _ = some (t, 6) from hm]; try rfl)
theorem iv_7 {k t : Nat} {i : Instr} {st : List am_V} {E : am_E} (hm : iv_m k i = some (t, 7)) : am_iv k i st E = (match (generalizing := false) i, st with
    | .invokestatic _, .inl b :: .inl a :: rest => if am_wt rest ≤ 8 then some (.inl (.inl (if b < a then b else a) :: rest)) else none
    | _, _ => none) := by
  cases i <;> first | (cases hm; done) | (unfold am_iv; dsimp only; rw [show am_ml k _ = some (t, 7) from hm]; try rfl)
theorem iv_o {k t c : Nat} {i : Instr} {st : List am_V} {E : am_E} (hm : iv_m k i = some (t, c)) (h5 : c ≠ 5) (h6 : c ≠ 6) (h7 : c ≠ 7) : am_iv k i st E = if am_rk t < am_rk k ∧ (am_mt t).2.2.2.2.2.2.2 ≤ st.length ∧ am_wt (st.drop (am_mt t).2.2.2.2.2.2.2) ≤ 8 ∧ am_ivc t c i (st.take (am_mt t).2.2.2.2.2.2.2).reverse E = true ∧ (am_xp (st.take (am_mt t).2.2.2.2.2.2.2).reverse).length ≤ (am_mt t).2.2.2.2.1 then some (.inr (t, (st.take (am_mt t).2.2.2.2.2.2.2).reverse, st.drop (am_mt t).2.2.2.2.2.2.2)) else none := by
  cases i <;> first | (cases hm; done) | (unfold am_iv; dsimp only; rw [show am_ml k _ = some (t, c) from hm]; split <;> rename_i h <;> first | (cases h; done) | (cases h; exact absurd rfl h5) | (cases h; exact absurd rfl h6) | (cases h; exact absurd rfl h7) | (cases h; rfl))
theorem rl_iv {k : Nat} {i : Instr} {st : List am_V} {E : am_E} (hE : E.1 = 368) : am_iv k i (rl_t st) (rl_E E) = (am_iv k i st E).map rl_i := by
  obtain ⟨m, hm⟩ : ∃ m, iv_m k i = m := ⟨_, rfl⟩
  cases m with
  | none => rw [iv_n hm, iv_n hm]; rfl
  | some x =>
    obtain ⟨t, c⟩ := x
    by_cases h5 : c = 5
    · subst h5
      rw [iv_5 hm, iv_5 hm]
      clear hm
      cases i <;> first | rfl | skip
      rcases st with _ | ⟨a, r⟩
      · rfl
      · rcases a with z | z | z | z <;> first | rfl | skip
        show (if am_wt (rl_t r) ≤ 8 then some (Sum.inl (rl_t r)) else none) = Option.map rl_i (if am_wt r ≤ 8 then some (Sum.inl r) else none)
        rw [rl_wt]
        split <;> rfl
    · by_cases h6 : c = 6
      · subst h6
        rw [iv_6 hm, iv_6 hm]
        clear hm
        cases i <;> first | rfl | skip
        rcases st with _ | ⟨a, _ | ⟨b, r⟩⟩
        · rfl
        · rcases a with z | z | z <;> rfl
        · rcases a with z | z | z <;> rcases b with y | y | y <;> first | rfl | skip
          show (if am_wt (rl_t r) ≤ 8 then some (Sum.inl (am_I (if y < z then z else y) :: rl_t r)) else none) = Option.map rl_i (if am_wt r ≤ 8 then some (Sum.inl (am_I (if y < z then z else y) :: r)) else none)
          rw [rl_wt]
          split <;> rfl
      · by_cases h7 : c = 7
        · subst h7
          rw [iv_7 hm, iv_7 hm]
          clear hm
          cases i <;> first | rfl | skip
          rcases st with _ | ⟨a, _ | ⟨b, r⟩⟩
          · rfl
          · rcases a with z | z | z <;> rfl
          · rcases a with z | z | z <;> rcases b with y | y | y <;> first | rfl | skip
            show (if am_wt (rl_t r) ≤ 8 then some (Sum.inl (am_I (if z < y then z else y) :: rl_t r)) else none) = Option.map rl_i (if am_wt r ≤ 8 then some (Sum.inl (am_I (if z < y then z else y) :: r)) else none)
            rw [rl_wt]
            split <;> rfl
        · rw [iv_o hm h5 h6 h7, iv_o hm h5 h6 h7]
          have e1 : ∀ n, ((rl_t st).take n).reverse = rl_t (st.take n).reverse := fun n => by
            unfold rl_t
            rw [← List.map_take, List.map_reverse]
          have e2 : ∀ n, (rl_t st).drop n = rl_t (st.drop n) := fun n => by
            unfold rl_t
            rw [List.map_drop]
          rw [e1, e2, rl_wt, rl_ivc hE, rl_xp, rl_len, show (rl_t st).length = st.length from List.length_map _]
          split <;> rfl
theorem rl_th {k pc : Nat} {i : Instr} {st : List am_V} : am_th k pc i (rl_t st) = am_th k pc i st := by
  cases i <;> first | rfl | skip
  unfold am_th
  have e : (rl_t st = []) = (st = []) := by
    cases st <;> simp [rl_t]
  simp only [e]
theorem rl_jp {i : Instr} {pc len : Nat} {st : List am_V} : am_jp i pc len (rl_t st) = (am_jp i pc len st).map (fun x => (x.1, rl_t x.2)) := by
  unfold am_jp
  split
  · rename_i hlen
    clear hlen
    cases i
    case goto off =>
      dsimp only
      cases am_at pc off <;> rfl
    case ifCond c off =>
      rcases st with _ | ⟨a, r⟩
      · rfl
      · rcases a with z | z | z
        · dsimp only [rl_t, List.map_cons, rl_v, Option.map]
          cases am_at pc off <;> rfl
        · rfl
        · rfl
    case if_icmp c off =>
      rcases st with _ | ⟨a, _ | ⟨b, r⟩⟩
      · rfl
      · rcases a with z | z | z <;> rfl
      · rcases a with z | z | z <;> rcases b with y | y | y <;> first | rfl | skip
        dsimp only [rl_t, List.map_cons, rl_v, Option.map]
        cases am_at pc off <;> rfl
    case ifnull off =>
      rcases st with _ | ⟨a, r⟩
      · rfl
      · rcases a with z | z | z | z
        · rfl
        · rfl
        · dsimp only [rl_t, List.map_cons, rl_v, Option.map]
          cases am_at pc off <;> rfl
        · dsimp only [rl_t, List.map_cons, rl_v, Option.map]
          cases am_at pc off <;> rfl
    case ifnonnull off =>
      rcases st with _ | ⟨a, r⟩
      · rfl
      · rcases a with z | z | z | z
        · rfl
        · rfl
        · dsimp only [rl_t, List.map_cons, rl_v, Option.map]
          cases am_at pc off <;> rfl
        · dsimp only [rl_t, List.map_cons, rl_v, Option.map]
          cases am_at pc off <;> rfl
    case tableswitch d lo hi offs =>
      rcases st with _ | ⟨a, r⟩
      · rfl
      · rcases a with z | z | z
        · show (if z < lo ∨ hi < z then (match am_at pc d with
            | some t => some (t, rl_t r)
            | none => none)
          else (match offs[(z - lo).toNat]? with
            | some o => (match am_at pc o with
              | some t => some (t, rl_t r)
              | none => none)
            | none => none)) = Option.map _ (if z < lo ∨ hi < z then (match am_at pc d with
            | some t => some (t, r)
            | none => none)
          else (match offs[(z - lo).toNat]? with
            | some o => (match am_at pc o with
              | some t => some (t, r)
              | none => none)
            | none => none))
          split
          · cases am_at pc d <;> rfl
          · cases offs[(z - lo).toNat]? with
            | none => rfl
            | some o => dsimp only; cases am_at pc o <;> rfl
        · rfl
        · rfl
    case lookupswitch d ps =>
      rcases st with _ | ⟨a, r⟩
      · rfl
      · rcases a with z | z | z
        · show (if (ps.toList.zip (ps.toList.drop 1)).all (fun (a, next) => a.1 < next.1) = true then (match am_at pc (Op.lookupswitch.offset ps.toList d z) with
            | some t => some (t, rl_t r)
            | none => none) else none) = Option.map _ (if (ps.toList.zip (ps.toList.drop 1)).all (fun (a, next) => a.1 < next.1) = true then (match am_at pc (Op.lookupswitch.offset ps.toList d z) with
            | some t => some (t, r)
            | none => none) else none)
          split
          · cases am_at pc (Op.lookupswitch.offset ps.toList d z) <;> rfl
          · rfl
        · rfl
        · rfl
    all_goals rfl
  · rfl
theorem rl_stp {k : Nat} {c : am_Cf} (hE : c.2.2.2.1.1 = 368) : am_stp k (rl_c c) = (am_stp k c).map rl_a := by
  obtain ⟨pc, ls, st, E, M⟩ := c
  have hE' : E.1 = 368 := hE
  have hE2 : (rl_E E).1 = 368 := hE
  unfold am_stp rl_c
  dsimp only
  cases am_fetch k pc with
  | none => rfl
  | some x =>
    obtain ⟨i, len⟩ := x
    dsimp only
    rw [rl_jp]
    cases am_jp i pc len st with
    | some t => rfl
    | none =>
      dsimp only [Option.map]
      split
      · rfl
      · rw [rl_op]
        cases am_op i st with
        | some t => rfl
        | none =>
          dsimp only [Option.map]
          rw [rl_ld]
          cases am_ld i ls with
          | some t => rfl
          | none =>
            dsimp only [Option.map]
            rw [rl_st]
            cases am_st i ls st with
            | some t => rfl
            | none =>
              dsimp only [Option.map]
              rw [rl_rd hE']
              cases am_rd k i st E M with
              | some t => rfl
              | none =>
                dsimp only [Option.map]
                rw [rl_wr hE']
                cases am_wr k i st E M with
                | some t => rfl
                | none =>
                  dsimp only [Option.map]
                  rw [rl_mk hE', rl_mk hE2]
                  dsimp only
                  rw [rl_rt]
                  cases am_rt k i st with
                  | some t => rfl
                  | none =>
                    dsimp only [Option.map]
                    rw [rl_iv hE']
                    cases am_iv k i st E with
                    | some t =>
                      rcases t with t | ⟨t, as, rest⟩ <;> rfl
                    | none =>
                      dsimp only [Option.map]
                      rw [rl_th]
                      cases am_th k pc i st <;> rfl
