/-! ===== jumps; locals ===== -/
theorem am_at_i {pc t : Nat} {off : Int} (h : am_at pc off = some t) : (pc : Int) + off = (t : Int) := by
  unfold am_at at h
  split at h <;> cases h
  rename_i h0
  exact (Int.toNat_of_nonneg h0).symm
theorem am_o0 : Int32.ofInt 0 = 0 := rfl
section AMJ
variable {p : Program} {l : Launch} {e : Env} {R : Room} {s : State} {m : MethodId} {args : Array Value} {below : List Frame} {meth : Method} {c : Code} {H : Heap} {locs : List Loc} {cells slots : Nat} {Q : State → Prop}
variable {cc : ByteArray} {pc : Nat} {ls : Array Slot} {B0 b : Nat}
theorem am_W_if (hx : p.tables.exec = Jvm.exec) (hb : c.code = cc) {co : Jvm.ClassFile.Cond} {off : Int} {t : Nat} {a : Int} {r : List am_V} (hd : decode cc pc = .ok (.ifCond co off, 3)) (ht : (pc : Int) + off = (t : Int)) (ha : am_n32 a)
    (k : W p l e R s m args below meth c H locs cells slots Q (F0 m (bif am_cc co a 0 then t else pc + 3) ls (r.map (am_cv B0 b)))) : W p l e R s m args below meth c H locs cells slots Q (F0 m pc ls ((.inl a :: r : List am_V).map (am_cv B0 b))) := by
  have e1 : ∀ {q : Bool}, am_cc co a 0 = q → W p l e R s m args below meth c H locs cells slots Q (F0 m (bif q then t else pc + 3) ls (r.map (am_cv B0 b))) := fun h => by rw [← h]; exact k
  cases co
  · exact lv_if_eq hx hb hd ht (fun h => e1 (q := true) (by rw [← am_o0, am_eq ha am_z0] at h; simpa [am_cc] using h)) (fun h => e1 (q := false) (by rw [← am_o0, am_eq ha am_z0] at h; simpa [am_cc] using h))
  · exact lv_if_ne hx hb hd ht (fun h => e1 (q := true) (by rw [← am_o0, am_eq ha am_z0] at h; simpa [am_cc] using h)) (fun h => e1 (q := false) (by rw [← am_o0, am_eq ha am_z0] at h; simpa [am_cc] using h))
  · exact lv_if_lt hx hb hd ht (fun h => e1 (q := true) (by rw [← am_o0, am_lt ha am_z0] at h; simpa [am_cc] using h)) (fun h => e1 (q := false) (by rw [← am_o0, am_lt ha am_z0] at h; simpa [am_cc] using h))
  · exact lv_if_ge hx hb hd ht (fun h => e1 (q := true) (by rw [← am_o0, am_le am_z0 ha] at h; simpa [am_cc] using h)) (fun h => e1 (q := false) (by rw [← am_o0, am_le am_z0 ha] at h; simpa [am_cc] using h))
  · exact lv_if_gt hx hb hd ht (fun h => e1 (q := true) (by rw [← am_o0, am_lt am_z0 ha] at h; simpa [am_cc] using h)) (fun h => e1 (q := false) (by rw [← am_o0, am_lt am_z0 ha] at h; simpa [am_cc] using h))
  · exact lv_if_le hx hb hd ht (fun h => e1 (q := true) (by rw [← am_o0, am_le ha am_z0] at h; simpa [am_cc] using h)) (fun h => e1 (q := false) (by rw [← am_o0, am_le ha am_z0] at h; simpa [am_cc] using h))
theorem am_W_icmp (hx : p.tables.exec = Jvm.exec) (hb : c.code = cc) {co : Jvm.ClassFile.Cond} {off : Int} {t : Nat} {a d : Int} {r : List am_V} (hd : decode cc pc = .ok (.if_icmp co off, 3)) (ht : (pc : Int) + off = (t : Int)) (ha : am_n32 a) (hc : am_n32 d)
    (k : W p l e R s m args below meth c H locs cells slots Q (F0 m (bif am_cc co a d then t else pc + 3) ls (r.map (am_cv B0 b)))) : W p l e R s m args below meth c H locs cells slots Q (F0 m pc ls ((.inl d :: .inl a :: r : List am_V).map (am_cv B0 b))) := by
  have e1 : ∀ {q : Bool}, am_cc co a d = q → W p l e R s m args below meth c H locs cells slots Q (F0 m (bif q then t else pc + 3) ls (r.map (am_cv B0 b))) := fun h => by rw [← h]; exact k
  cases co
  · exact lv_icmp_eq hx hb hd ht (fun h => e1 (q := true) (by rw [am_eq ha hc] at h; simpa [am_cc] using h)) (fun h => e1 (q := false) (by rw [am_eq ha hc] at h; simpa [am_cc] using h))
  · exact lv_icmp_ne hx hb hd ht (fun h => e1 (q := true) (by rw [am_eq ha hc] at h; simpa [am_cc] using h)) (fun h => e1 (q := false) (by rw [am_eq ha hc] at h; simpa [am_cc] using h))
  · exact lv_icmp_lt hx hb hd ht (fun h => e1 (q := true) (by rw [am_lt ha hc] at h; simpa [am_cc] using h)) (fun h => e1 (q := false) (by rw [am_lt ha hc] at h; simpa [am_cc] using h))
  · exact lv_icmp_ge hx hb hd ht (fun h => e1 (q := true) (by rw [am_le hc ha] at h; simpa [am_cc] using h)) (fun h => e1 (q := false) (by rw [am_le hc ha] at h; simpa [am_cc] using h))
  · exact lv_icmp_gt hx hb hd ht (fun h => e1 (q := true) (by rw [am_lt hc ha] at h; simpa [am_cc] using h)) (fun h => e1 (q := false) (by rw [am_lt hc ha] at h; simpa [am_cc] using h))
  · exact lv_icmp_le hx hb hd ht (fun h => e1 (q := true) (by rw [am_le ha hc] at h; simpa [am_cc] using h)) (fun h => e1 (q := false) (by rw [am_le ha hc] at h; simpa [am_cc] using h))
theorem am_W_jp (hx : p.tables.exec = Jvm.exec) (hb : c.code = cc) {i : Instr} {len t : Nat} {st st' : List am_V} (hd : decode cc pc = .ok (i, len)) (hs : am_jp i pc len st = some (t, st')) (hn : ∀ v ∈ st, am_nv v)
    (k : (∀ v ∈ st', am_nv v) → W p l e R s m args below meth c H locs cells slots Q (F0 m t ls (st'.map (am_cv B0 b)))) : W p l e R s m args below meth c H locs cells slots Q (F0 m pc ls (st.map (am_cv B0 b))) := by
  unfold am_jp at hs
  split at hs
  · rename_i hl
    split at hs
    · have h3 : len = 3 := by simpa [am_sw] using hl
      subst h3
      split at hs <;> cases hs
      rename_i ht
      exact lv_goto hx hb hd (am_at_i ht) (k hn)
    · have h3 : len = 3 := by simpa [am_sw] using hl
      subst h3
      split at hs <;> cases hs
      rename_i ht
      exact am_W_if hx hb hd (am_at_i ht) (am_nc hn).1 (k (am_nc hn).2)
    · have h3 : len = 3 := by simpa [am_sw] using hl
      subst h3
      split at hs <;> cases hs
      rename_i ht
      exact am_W_icmp hx hb hd (am_at_i ht) (am_nc (am_nc hn).2).1 (am_nc hn).1 (k (am_nc (am_nc hn).2).2)
    · have h3 : len = 3 := by simpa [am_sw] using hl
      subst h3
      split at hs <;> cases hs
      · exact lv_ifnull hx hb hd (k (am_nc hn).2)
      · rename_i ht
        exact lv_ifnullN hx hb hd (am_at_i ht) (k (am_nc hn).2)
    · have h3 : len = 3 := by simpa [am_sw] using hl
      subst h3
      split at hs <;> cases hs
      · rename_i ht
        exact lv_ifnonnull hx hb hd (am_at_i ht) (k (am_nc hn).2)
      · exact lv_ifnonnullN hx hb hd (k (am_nc hn).2)
    · split at hs
      · rename_i d lo hi offs _ a r
        have ha : am_n32 a := (am_nc hn).1
        split at hs
        · rename_i h0
          split at hs <;> cases hs
          rename_i ht
          exact lv_tableOut hx hb hd (by rw [am_toI ha]; exact h0) (am_at_i ht) (k (am_nc hn).2)
        · rename_i h0
          split at hs
          · rename_i o ho
            split at hs <;> cases hs
            rename_i ht
            exact lv_tableIn hx hb hd (by rw [am_toI ha]; omega) (by rw [am_toI ha]; omega) (by rw [am_toI ha]; exact ho) (am_at_i ht) (k (am_nc hn).2)
          · cases hs
      · cases hs
    · split at hs
      · rename_i d ps _ a r
        have ha : am_n32 a := (am_nc hn).1
        split at hs
        · rename_i h0
          split at hs <;> cases hs
          rename_i ht
          exact lv_lookup hx hb hd h0 (by rw [am_toI ha]) (am_at_i ht) (k (am_nc hn).2)
        · cases hs
      · cases hs
    · cases hs
  · cases hs
end AMJ
/-- the locals, as the kit lists them -/
def am_lp (B0 b : Nat) (ls : List (Option am_V)) : List (Nat × Value) := (List.range ls.length).filterMap (fun i => match am_g ls i with
  | some v => some (i, am_cv B0 b v)
  | none => none)
theorem am_g_lt {ls : List (Option am_V)} {n : Nat} {v : am_V} (h : am_g ls n = some v) : n < ls.length := by
  unfold am_g at h
  split at h
  · rename_i x hx
    exact (List.getElem?_eq_some_iff.mp hx).1
  · cases h
theorem am_lp_mem {B0 b : Nat} {ls : List (Option am_V)} {q : Nat × Value} : q ∈ am_lp B0 b ls ↔ ∃ n v, am_g ls n = some v ∧ q = (n, am_cv B0 b v) := by
  unfold am_lp
  rw [List.mem_filterMap]
  constructor
  · rintro ⟨i, -, h⟩
    split at h
    · rename_i v hv
      cases h
      exact ⟨i, v, hv, rfl⟩
    · cases h
  · rintro ⟨n, v, h, rfl⟩
    refine ⟨n, List.mem_range.mpr (am_g_lt h), ?_⟩
    rw [h]
/-- the frame's locals are these -/
def am_L (B0 b nL : Nat) (ls : List (Option am_V)) (lsC : Array Slot) : Prop := ls.length = nL ∧ lv_has lsC nL (am_lp B0 b ls) ∧ ∀ n v, am_g ls n = some v → am_nv v
theorem am_L_at {B0 b nL : Nat} {ls : List (Option am_V)} {lsC : Array Slot} (h : am_L B0 b nL ls lsC) {n : Nat} {v : am_V} (hv : am_g ls n = some v) : lsC[n]? = some (.val (am_cv B0 b v)) :=
  h.2.1.2.2 (n, am_cv B0 b v) (am_lp_mem.mpr ⟨n, v, hv, rfl⟩)
theorem am_g_set {ls : List (Option am_V)} {n j : Nat} {x : Option am_V} (hn : n < ls.length) : am_g (ls.set n x) j = if j = n then x else am_g ls j := by
  unfold am_g
  by_cases h : j = n
  · subst h
    rw [if_pos rfl, List.getElem?_set_self hn]
  · rw [if_neg h, List.getElem?_set_ne (Ne.symm h)]
theorem am_lf_i {ls : List (Option am_V)} {n j : Nat} (h : am_lf ls n = true) (hj : j + 1 = n) {v : am_V} (hv : am_g ls j = some v) : am_cat v = 1 := by
  subst hj
  rcases v with z | z | r
  · rfl
  · simp [am_lf, hv] at h
  · rfl
theorem am_L_set {B0 b nL : Nat} {ls : List (Option am_V)} {lsC lsC' : Array Slot} {n : Nat} {v : am_V} (h : am_L B0 b nL ls lsC) (hn : n < ls.length) (hf : am_lf ls n = true) (hv : am_nv v)
    (h' : lv_has lsC' nL ((n, am_cv B0 b v) :: (am_lp B0 b ls).filter (fun q => !(q.1 == n) && !(q.1 + 1 == n && q.2.category == 2)))) : am_L B0 b nL (ls.set n (some v)) lsC' := by
  refine ⟨by rw [List.length_set]; exact h.1, ⟨h'.1, h'.2.1, fun q hq => ?_⟩, fun j w hw => ?_⟩
  · obtain ⟨j, w, hj, rfl⟩ := am_lp_mem.mp hq
    rw [am_g_set hn] at hj
    by_cases hjn : j = n
    · rw [if_pos hjn] at hj
      cases hj
      subst hjn
      exact h'.2.2 _ List.mem_cons_self
    · rw [if_neg hjn] at hj
      refine h'.2.2 _ (List.mem_cons_of_mem _ (List.mem_filter.mpr ⟨am_lp_mem.mpr ⟨j, w, hj, rfl⟩, ?_⟩))
      have : ¬ j + 1 = n ∨ ¬ (am_cv B0 b w).category = 2 := by
        by_cases h1 : j + 1 = n
        · exact Or.inr (by rw [am_cat_cv, am_lf_i hf h1 hj]; decide)
        · exact Or.inl h1
      simpa [hjn] using this
  · rw [am_g_set hn] at hw
    by_cases hjn : j = n
    · rw [if_pos hjn] at hw
      cases hw
      exact hv
    · rw [if_neg hjn] at hw
      exact h.2.2 j w hw
theorem am_L_set2 {B0 b nL : Nat} {ls : List (Option am_V)} {lsC lsC' : Array Slot} {n : Nat} {v : am_V} (h : am_L B0 b nL ls lsC) (hn : n + 1 < ls.length) (hf : am_lf ls n = true) (hv : am_nv v)
    (h' : lv_has lsC' nL ((n, am_cv B0 b v) :: (am_lp B0 b ls).filter (fun q => !(q.1 == n) && (!(q.1 == n + 1) && !(q.1 + 1 == n && q.2.category == 2))))) : am_L B0 b nL ((ls.set n (some v)).set (n + 1) none) lsC' := by
  have hn1 : n < ls.length := by omega
  have hg : ∀ j, am_g ((ls.set n (some v)).set (n + 1) none) j = if j = n + 1 then none else if j = n then some v else am_g ls j := fun j => by
    rw [am_g_set (by rw [List.length_set]; exact hn), am_g_set hn1]
  refine ⟨by rw [List.length_set, List.length_set]; exact h.1, ⟨h'.1, h'.2.1, fun q hq => ?_⟩, fun j w hw => ?_⟩
  · obtain ⟨j, w, hj, rfl⟩ := am_lp_mem.mp hq
    rw [hg] at hj
    by_cases hj1 : j = n + 1
    · rw [if_pos hj1] at hj
      cases hj
    · rw [if_neg hj1] at hj
      by_cases hjn : j = n
      · rw [if_pos hjn] at hj
        cases hj
        subst hjn
        exact h'.2.2 _ List.mem_cons_self
      · rw [if_neg hjn] at hj
        refine h'.2.2 _ (List.mem_cons_of_mem _ (List.mem_filter.mpr ⟨am_lp_mem.mpr ⟨j, w, hj, rfl⟩, ?_⟩))
        have : ¬ j + 1 = n ∨ ¬ (am_cv B0 b w).category = 2 := by
          by_cases h1 : j + 1 = n
          · exact Or.inr (by rw [am_cat_cv, am_lf_i hf h1 hj]; decide)
          · exact Or.inl h1
        simpa [hjn, hj1] using this
  · rw [hg] at hw
    by_cases hj1 : j = n + 1
    · rw [if_pos hj1] at hw
      cases hw
    · rw [if_neg hj1] at hw
      by_cases hjn : j = n
      · rw [if_pos hjn] at hw
        cases hw
        exact hv
      · rw [if_neg hjn] at hw
        exact h.2.2 j w hw
/-- fewer locals -/
theorem am_L_drop {B0 b nL : Nat} {ls : List (Option am_V)} {lsC : Array Slot} {n : Nat} (h : am_L B0 b nL ls lsC) : am_L B0 b nL (ls.set n none) lsC := by
  by_cases hn : n < ls.length
  · have hg : ∀ j w, am_g (ls.set n none) j = some w → am_g ls j = some w := fun j w hw => by
      rw [am_g_set hn] at hw
      by_cases hjn : j = n
      · rw [if_pos hjn] at hw
        cases hw
      · rwa [if_neg hjn] at hw
    refine ⟨by rw [List.length_set]; exact h.1, ⟨h.2.1.1, h.2.1.2.1, fun q hq => ?_⟩, fun j w hw => h.2.2 j w (hg j w hw)⟩
    obtain ⟨j, w, hj, rfl⟩ := am_lp_mem.mp hq
    exact am_L_at h (hg j w hj)
  · rw [List.set_eq_of_length_le (by omega)]
    exact h
section AML
variable {p : Program} {l : Launch} {e : Env} {R : Room} {s : State} {m : MethodId} {args : Array Value} {below : List Frame} {meth : Method} {c : Code} {H : Heap} {locs : List Loc} {cells slots : Nat} {Q : State → Prop}
variable {cc : ByteArray} {pc : Nat} {lsC : Array Slot} {B0 b nL : Nat} {ls : List (Option am_V)}
theorem am_gi_i {n : Nat} {v : am_V} (h : am_gi ls n = some v) : ∃ z, v = .inl z ∧ am_g ls n = some (.inl z) := by
  unfold am_gi at h
  split at h <;> cases h
  exact ⟨_, rfl, by assumption⟩
theorem am_gl_i {n : Nat} {v : am_V} (h : am_gl ls n = some v) : ∃ z, v = .inr (.inl z) ∧ am_g ls n = some (.inr (.inl z)) := by
  unfold am_gl at h
  split at h <;> cases h
  exact ⟨_, rfl, by assumption⟩
theorem am_ga_i {n : Nat} {v : am_V} (h : am_ga ls n = some v) : ∃ r, v = .inr (.inr r) ∧ am_g ls n = some (.inr (.inr r)) := by
  unfold am_ga at h
  split at h <;> cases h
  exact ⟨_, rfl, by assumption⟩
theorem am_W_ld (hx : p.tables.exec = Jvm.exec) (hb : c.code = cc) (hL : am_L B0 b nL ls lsC) {i : Instr} {len : Nat} {st : List am_V} {v : am_V} (hd : decode cc pc = .ok (i, len)) (hl : len = am_ln i) (hs : am_ld i ls = some v) (hn : ∀ v ∈ st, am_nv v)
    (k : (∀ w ∈ v :: st, am_nv w) → W p l e R s m args below meth c H locs cells slots Q (F0 m (pc + len) lsC ((v :: st).map (am_cv B0 b)))) : W p l e R s m args below meth c H locs cells slots Q (F0 m pc lsC (st.map (am_cv B0 b))) := by
  subst hl
  unfold am_ld at hs
  split at hs
  · obtain ⟨z, rfl, hg⟩ := am_gi_i hs
    exact lv_iload hx hb hd (am_L_at hL hg) (k (am_ncc (hL.2.2 _ _ hg) hn))
  · obtain ⟨z, rfl, hg⟩ := am_gi_i hs
    exact lv_iload_n hx hb hd rfl (am_L_at hL hg) (k (am_ncc (hL.2.2 _ _ hg) hn))
  · obtain ⟨z, rfl, hg⟩ := am_gl_i hs
    exact lv_lload hx hb hd (am_L_at hL hg) (k (am_ncc (hL.2.2 _ _ hg) hn))
  · obtain ⟨z, rfl, hg⟩ := am_gl_i hs
    exact lv_lload_n hx hb hd rfl (am_L_at hL hg) (k (am_ncc (hL.2.2 _ _ hg) hn))
  · obtain ⟨r, rfl, hg⟩ := am_ga_i hs
    cases r with
    | none => exact lv_aloadN hx hb hd (am_L_at hL hg) (k (am_ncc trivial hn))
    | some r => exact lv_aload hx hb hd (am_L_at hL hg) (k (am_ncc trivial hn))
  · obtain ⟨r, rfl, hg⟩ := am_ga_i hs
    cases r with
    | none => exact lv_aload_nN hx hb hd rfl (am_L_at hL hg) (k (am_ncc trivial hn))
    | some r => exact lv_aload_n hx hb hd rfl (am_L_at hL hg) (k (am_ncc trivial hn))
  · cases hs
theorem am_s1_i {n : Nat} {v : am_V} {ls' : List (Option am_V)} (h : am_s1 ls n v = some ls') : n < ls.length ∧ am_lf ls n = true ∧ ls' = ls.set n (some v) := by
  unfold am_s1 at h
  split at h <;> cases h
  rename_i h0
  exact ⟨h0.1, h0.2, rfl⟩
theorem am_s3_i {n : Nat} {v : am_V} {ls' : List (Option am_V)} (h : am_s3 ls n v = some ls') : n + 1 < ls.length ∧ am_lf ls n = true ∧ ls' = (ls.set n (some v)).set (n + 1) none := by
  unfold am_s3 at h
  split at h <;> cases h
  rename_i h0
  exact ⟨h0.1, h0.2, rfl⟩
theorem am_si_i {n : Nat} {st : List am_V} {q : List (Option am_V) × List am_V} (h : am_si ls n st = some q) : ∃ z r, st = .inl z :: r ∧ am_s1 ls n (.inl z) = some q.1 ∧ q.2 = r := by
  unfold am_si at h
  split at h
  · split at h <;> cases h
    exact ⟨_, _, rfl, by assumption, rfl⟩
  · cases h
theorem am_sl_i {n : Nat} {st : List am_V} {q : List (Option am_V) × List am_V} (h : am_sl ls n st = some q) : ∃ z r, st = .inr (.inl z) :: r ∧ am_s3 ls n (.inr (.inl z)) = some q.1 ∧ q.2 = r := by
  unfold am_sl at h
  split at h
  · split at h <;> cases h
    exact ⟨_, _, rfl, by assumption, rfl⟩
  · cases h
theorem am_sa_i {n : Nat} {st : List am_V} {q : List (Option am_V) × List am_V} (h : am_sa ls n st = some q) : ∃ x r, st = .inr (.inr x) :: r ∧ am_s1 ls n (.inr (.inr x)) = some q.1 ∧ q.2 = r := by
  unfold am_sa at h
  split at h
  · split at h <;> cases h
    exact ⟨_, _, rfl, by assumption, rfl⟩
  · cases h
theorem am_W_st (hx : p.tables.exec = Jvm.exec) (hb : c.code = cc) (hL : am_L B0 b nL ls lsC) {i : Instr} {len : Nat} {st st' : List am_V} {ls' : List (Option am_V)} (hd : decode cc pc = .ok (i, len)) (hl : len = am_ln i) (hs : am_st i ls st = some (ls', st')) (hn : ∀ v ∈ st, am_nv v)
    (k : (∀ w ∈ st', am_nv w) → ∀ lsC', am_L B0 b nL ls' lsC' → W p l e R s m args below meth c H locs cells slots Q (F0 m (pc + len) lsC' (st'.map (am_cv B0 b)))) : W p l e R s m args below meth c H locs cells slots Q (F0 m pc lsC (st.map (am_cv B0 b))) := by
  subst hl
  have hnL := hL.1
  unfold am_st at hs
  split at hs
  · obtain ⟨z, r, rfl, h1, rfl⟩ := am_si_i hs
    obtain ⟨a1, a2, a3⟩ := am_s1_i h1
    dsimp only at a3; subst a3
    exact lv_istore hx hb hd hL.2.1 (by omega) rfl (fun lsC' h' => k (am_nc hn).2 lsC' (am_L_set hL a1 a2 (am_nc hn).1 h'))
  · obtain ⟨z, r, rfl, h1, rfl⟩ := am_si_i hs
    obtain ⟨a1, a2, a3⟩ := am_s1_i h1
    dsimp only at a3; subst a3
    exact lv_istore_n hx hb hd rfl hL.2.1 (by omega) rfl (fun lsC' h' => k (am_nc hn).2 lsC' (am_L_set hL a1 a2 (am_nc hn).1 h'))
  · obtain ⟨z, r, rfl, h1, rfl⟩ := am_sl_i hs
    obtain ⟨a1, a2, a3⟩ := am_s3_i h1
    dsimp only at a3; subst a3
    exact lv_lstore hx hb hd hL.2.1 (by omega) rfl (fun lsC' h' => k (am_nc hn).2 lsC' (am_L_set2 hL a1 a2 (am_nc hn).1 h'))
  · obtain ⟨z, r, rfl, h1, rfl⟩ := am_sl_i hs
    obtain ⟨a1, a2, a3⟩ := am_s3_i h1
    dsimp only at a3; subst a3
    exact lv_lstore_n hx hb hd rfl hL.2.1 (by omega) rfl (fun lsC' h' => k (am_nc hn).2 lsC' (am_L_set2 hL a1 a2 (am_nc hn).1 h'))
  · obtain ⟨x, r, rfl, h1, rfl⟩ := am_sa_i hs
    obtain ⟨a1, a2, a3⟩ := am_s1_i h1
    dsimp only at a3; subst a3
    cases x with
    | none => exact lv_astoreN hx hb hd hL.2.1 (by omega) rfl (fun lsC' h' => k (am_nc hn).2 lsC' (am_L_set hL a1 a2 (v := .inr (.inr none)) trivial h'))
    | some x => exact lv_astore hx hb hd hL.2.1 (by omega) rfl (fun lsC' h' => k (am_nc hn).2 lsC' (am_L_set hL a1 a2 (v := .inr (.inr (some x))) trivial h'))
  · obtain ⟨x, r, rfl, h1, rfl⟩ := am_sa_i hs
    obtain ⟨a1, a2, a3⟩ := am_s1_i h1
    dsimp only at a3; subst a3
    cases x with
    | none => exact lv_astore_nN hx hb hd rfl hL.2.1 (by omega) rfl (fun lsC' h' => k (am_nc hn).2 lsC' (am_L_set hL a1 a2 (v := .inr (.inr none)) trivial h'))
    | some x => exact lv_astore_n hx hb hd rfl hL.2.1 (by omega) rfl (fun lsC' h' => k (am_nc hn).2 lsC' (am_L_set hL a1 a2 (v := .inr (.inr (some x))) trivial h'))
  · split at hs
    · split at hs
      · rename_i n d h0 x0 z hg
        split at hs <;> cases hs
        rename_i h1
        obtain ⟨a1, a2, a3⟩ := am_s1_i h1
        subst a3
        obtain ⟨kk, hkk⟩ := List.getElem?_of_mem (am_lp_mem (B0 := B0) (b := b).mpr ⟨n, _, hg, rfl⟩)
        refine lv_iinc hx hb hd hL.2.1 hkk (v := Int32.ofInt (am_w (z + d))) ?_ (by omega) rfl (fun lsC' h' => k hn lsC' (am_L_set hL a1 a2 (v := .inl (am_w (z + d))) (am_wI _) h'))
        rw [am_w_of, Int32.ofInt_add]
      · cases hs
    · cases hs
  · cases hs
end AML
