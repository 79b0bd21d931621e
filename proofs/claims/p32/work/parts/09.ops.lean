/-! ===== instructions that touch no heap ===== -/
theorem am_b1_i {f : Int → Int} {st st' : List am_V} (h : am_b1 f st = some st') : ∃ a r, st = .inl a :: r ∧ st' = .inl (f a) :: r := by
  unfold am_b1 at h
  split at h <;> cases h
  exact ⟨_, _, rfl, rfl⟩
theorem am_b2_i {f : Int → Int → Int} {st st' : List am_V} (h : am_b2 f st = some st') : ∃ a b r, st = .inl b :: .inl a :: r ∧ st' = .inl (f a b) :: r := by
  unfold am_b2 at h
  split at h <;> cases h
  exact ⟨_, _, _, rfl, rfl⟩
theorem am_d2_i {f : Int → Int → Int} {st st' : List am_V} (h : am_d2 f st = some st') : ∃ a b r, b ≠ 0 ∧ st = .inl b :: .inl a :: r ∧ st' = .inl (f a b) :: r := by
  unfold am_d2 at h
  split at h
  · split at h <;> cases h
    exact ⟨_, _, _, by assumption, rfl, rfl⟩
  · cases h
theorem am_l2_i {f : Int → Int → Int} {st st' : List am_V} (h : am_l2 f st = some st') : ∃ a b r, st = .inr (.inl b) :: .inr (.inl a) :: r ∧ st' = .inr (.inl (f a b)) :: r := by
  unfold am_l2 at h
  split at h <;> cases h
  exact ⟨_, _, _, rfl, rfl⟩
theorem am_dl2_i {f : Int → Int → Int} {st st' : List am_V} (h : am_dl2 f st = some st') : ∃ a b r, b ≠ 0 ∧ st = .inr (.inl b) :: .inr (.inl a) :: r ∧ st' = .inr (.inl (f a b)) :: r := by
  unfold am_dl2 at h
  split at h
  · split at h <;> cases h
    exact ⟨_, _, _, by assumption, rfl, rfl⟩
  · cases h
theorem am_s2_i {f : Int → Int → Int} {st st' : List am_V} (h : am_s2 f st = some st') : ∃ a b r, st = .inl b :: .inr (.inl a) :: r ∧ st' = .inr (.inl (f a b)) :: r := by
  unfold am_s2 at h
  split at h <;> cases h
  exact ⟨_, _, _, rfl, rfl⟩
theorem am_nc {v : am_V} {r : List am_V} (h : ∀ x ∈ v :: r, am_nv x) : am_nv v ∧ ∀ x ∈ r, am_nv x := ⟨h v List.mem_cons_self, fun x hx => h x (List.mem_cons_of_mem _ hx)⟩
theorem am_ncc {v : am_V} {r : List am_V} (h1 : am_nv v) (h2 : ∀ x ∈ r, am_nv x) : ∀ x ∈ v :: r, am_nv x := fun x hx => by
  rcases List.mem_cons.mp hx with rfl | hx
  · exact h1
  · exact h2 x hx
theorem am_ne0 {a : Int} (h : am_n32 a) (h0 : a ≠ 0) : ¬ Int32.ofInt a = 0 := fun q => h0 ((am_eq h am_z0).mp q)
theorem am_ne0J {a : Int} (h : am_n64 a) (h0 : a ≠ 0) : ¬ Int64.ofInt a = 0 := fun q => h0 ((am_eqJ h ⟨by decide, by decide⟩).mp q)
section AMW
variable {p : Program} {l : Launch} {e : Env} {R : Room} {s : State} {m : MethodId} {args : Array Value} {below : List Frame} {meth : Method} {c : Code} {H : Heap} {locs : List Loc} {cells slots : Nat} {Q : State → Prop}
variable {cc : ByteArray} {pc : Nat} {ls : Array Slot} {B0 b : Nat}
set_option maxHeartbeats 4000000 in
theorem am_W_op (hx : p.tables.exec = Jvm.exec) (hb : c.code = cc) {i : Instr} {len : Nat} {st st' : List am_V} (hd : decode cc pc = .ok (i, len)) (hl : len = am_ln i) (hs : am_op i st = some st') (hn : ∀ v ∈ st, am_nv v)
    (k : (∀ v ∈ st', am_nv v) → W p l e R s m args below meth c H locs cells slots Q (F0 m (pc + len) ls (st'.map (am_cv B0 b)))) : W p l e R s m args below meth c H locs cells slots Q (F0 m pc ls (st.map (am_cv B0 b))) := by
  subst hl
  unfold am_op at hs
  split at hs
  · rename_i z
    split at hs <;> cases hs
    rename_i hz
    exact lv_iconst hx hb hd rfl (k (am_ncc ⟨by omega, by omega⟩ hn))
  · rename_i z
    split at hs <;> cases hs
    rename_i hz
    refine lv_bipush hx hb hd (v := Int32.ofInt z) ?_ (k (am_ncc ⟨by omega, by omega⟩ hn))
    apply Int32.toInt_inj.mp
    rw [Int8.toInt_toInt32, Int8.toInt_ofInt_of_le (by omega) (by omega), am_toI ⟨by omega, by omega⟩]
  · rename_i z
    split at hs <;> cases hs
    rename_i hz
    refine lv_sipush hx hb hd (v := Int32.ofInt z) ?_ (k (am_ncc ⟨by omega, by omega⟩ hn))
    apply Int32.toInt_inj.mp
    rw [Int16.toInt_toInt32, Int16.toInt_ofInt_of_le (by omega) (by omega), am_toI ⟨by omega, by omega⟩]
  · rename_i z
    cases hs
    refine lv_lconst hx hb hd (v := Int64.ofInt (z.val : Int)) ?_ (k (am_ncc ⟨by have := z.isLt; omega, by have := z.isLt; omega⟩ hn))
    match z with
    | 0 => rfl
    | 1 => rfl
  · cases hs
    exact lv_null hx hb hd (k (am_ncc trivial hn))
  · obtain ⟨x, y, r, rfl, rfl⟩ := am_b2_i hs
    obtain ⟨-, h3⟩ := am_nc hn
    obtain ⟨-, h5⟩ := am_nc h3
    refine lv_iadd hx hb hd ?_
    rw [← Int32.ofInt_add, ← am_w_of]
    exact k (am_ncc (am_wI _) h5)
  · obtain ⟨x, y, r, rfl, rfl⟩ := am_b2_i hs
    obtain ⟨-, h3⟩ := am_nc hn
    obtain ⟨-, h5⟩ := am_nc h3
    refine lv_isub hx hb hd ?_
    rw [← Int32.ofInt_sub, ← am_w_of]
    exact k (am_ncc (am_wI _) h5)
  · obtain ⟨x, y, r, rfl, rfl⟩ := am_b2_i hs
    obtain ⟨-, h3⟩ := am_nc hn
    obtain ⟨-, h5⟩ := am_nc h3
    refine lv_imul hx hb hd ?_
    rw [← Int32.ofInt_mul, ← am_w_of]
    exact k (am_ncc (am_wI _) h5)
  · obtain ⟨x, y, r, h0, rfl, rfl⟩ := am_d2_i hs
    obtain ⟨h2, h3⟩ := am_nc hn
    obtain ⟨h4, h5⟩ := am_nc h3
    refine lv_idiv hx hb hd (am_ne0 h2 h0) ?_
    rw [am_div h4 h2]
    exact k (am_ncc (am_wI _) h5)
  · obtain ⟨x, y, r, h0, rfl, rfl⟩ := am_d2_i hs
    obtain ⟨h2, h3⟩ := am_nc hn
    obtain ⟨h4, h5⟩ := am_nc h3
    refine lv_irem hx hb hd (am_ne0 h2 h0) ?_
    rw [am_rem h4 h2]
    exact k (am_ncc (am_tmod_n h4 h2) h5)
  · obtain ⟨x, y, r, rfl, rfl⟩ := am_b2_i hs
    obtain ⟨-, h3⟩ := am_nc hn
    obtain ⟨-, h5⟩ := am_nc h3
    refine lv_iand hx hb hd ?_
    rw [← am_ofI (_ &&& _)]
    exact k (am_ncc (am_nI _) h5)
  · obtain ⟨x, y, r, rfl, rfl⟩ := am_b2_i hs
    obtain ⟨-, h3⟩ := am_nc hn
    obtain ⟨-, h5⟩ := am_nc h3
    refine lv_ior hx hb hd ?_
    rw [← am_ofI (_ ||| _)]
    exact k (am_ncc (am_nI _) h5)
  · obtain ⟨x, y, r, rfl, rfl⟩ := am_b2_i hs
    obtain ⟨-, h3⟩ := am_nc hn
    obtain ⟨-, h5⟩ := am_nc h3
    refine lv_ishl hx hb hd ?_
    rw [← am_ofI (_ <<< _)]
    exact k (am_ncc (am_nI _) h5)
  · obtain ⟨x, y, r, rfl, rfl⟩ := am_b2_i hs
    obtain ⟨-, h3⟩ := am_nc hn
    obtain ⟨-, h5⟩ := am_nc h3
    refine lv_ishr hx hb hd ?_
    rw [← am_ofI (_ >>> _)]
    exact k (am_ncc (am_nI _) h5)
  · obtain ⟨x, y, r, rfl, rfl⟩ := am_l2_i hs
    obtain ⟨-, h3⟩ := am_nc hn
    obtain ⟨-, h5⟩ := am_nc h3
    refine lv_ladd hx hb hd ?_
    rw [← Int64.ofInt_add, ← am_W_of]
    exact k (am_ncc (am_wJ _) h5)
  · obtain ⟨x, y, r, rfl, rfl⟩ := am_l2_i hs
    obtain ⟨-, h3⟩ := am_nc hn
    obtain ⟨-, h5⟩ := am_nc h3
    refine lv_lsub hx hb hd ?_
    rw [← Int64.ofInt_sub, ← am_W_of]
    exact k (am_ncc (am_wJ _) h5)
  · obtain ⟨x, y, r, rfl, rfl⟩ := am_l2_i hs
    obtain ⟨-, h3⟩ := am_nc hn
    obtain ⟨-, h5⟩ := am_nc h3
    refine lv_lmul hx hb hd ?_
    rw [← Int64.ofInt_mul, ← am_W_of]
    exact k (am_ncc (am_wJ _) h5)
  · obtain ⟨x, y, r, h0, rfl, rfl⟩ := am_dl2_i hs
    obtain ⟨h2, h3⟩ := am_nc hn
    obtain ⟨h4, h5⟩ := am_nc h3
    refine lv_ldiv hx hb hd (am_ne0J h2 h0) ?_
    rw [am_divJ h4 h2]
    exact k (am_ncc (am_wJ _) h5)
  · obtain ⟨x, y, r, h0, rfl, rfl⟩ := am_dl2_i hs
    obtain ⟨h2, h3⟩ := am_nc hn
    obtain ⟨h4, h5⟩ := am_nc h3
    refine lv_lrem hx hb hd (am_ne0J h2 h0) ?_
    rw [am_remJ h4 h2]
    exact k (am_ncc (am_tmod_nJ h4 h2) h5)
  · obtain ⟨x, y, r, rfl, rfl⟩ := am_l2_i hs
    obtain ⟨-, h3⟩ := am_nc hn
    obtain ⟨-, h5⟩ := am_nc h3
    refine lv_land hx hb hd ?_
    rw [← am_ofJ (_ &&& _)]
    exact k (am_ncc (am_nJ _) h5)
  · obtain ⟨x, y, r, rfl, rfl⟩ := am_l2_i hs
    obtain ⟨-, h3⟩ := am_nc hn
    obtain ⟨-, h5⟩ := am_nc h3
    refine lv_lor hx hb hd ?_
    rw [← am_ofJ (_ ||| _)]
    exact k (am_ncc (am_nJ _) h5)
  · obtain ⟨x, y, r, rfl, rfl⟩ := am_s2_i hs
    obtain ⟨-, h3⟩ := am_nc hn
    obtain ⟨-, h5⟩ := am_nc h3
    refine lv_lshl hx hb hd (am_ofJ _).symm (k (am_ncc (am_nJ _) h5))
  · obtain ⟨x, y, r, rfl, rfl⟩ := am_s2_i hs
    obtain ⟨-, h3⟩ := am_nc hn
    obtain ⟨-, h5⟩ := am_nc h3
    refine lv_lushr hx hb hd (am_ofJ _).symm (k (am_ncc (am_nJ _) h5))
  · split at hs <;> cases hs
    obtain ⟨h2, h3⟩ := am_nc hn
    obtain ⟨h4, h5⟩ := am_nc h3
    refine W.lcmp hx hb hd ?_
    rw [am_cmp h4 h2]
    refine k (am_ncc ?_ h5)
    show am_n32 _
    unfold am_n32
    split
    · omega
    · split <;> omega
  · split at hs <;> cases hs
    rename_i a r
    obtain ⟨h2, h3⟩ := am_nc hn
    have h2 : am_n32 a := h2
    have h6 : am_n64 a := ⟨by have := h2.1; omega, by have := h2.2; omega⟩
    refine lv_i2l hx hb hd (v := Int64.ofInt a) ?_ (k (am_ncc h6 h3))
    apply Int64.toInt_inj.mp
    rw [Int32.toInt_toInt64, am_toI h2, am_toJ h6]
  · split at hs <;> cases hs
    rename_i a r
    obtain ⟨h2, h3⟩ := am_nc hn
    refine lv_l2i hx hb hd (v := Int32.ofInt (am_w a)) ?_ (k (am_ncc (am_wI _) h3))
    apply Int32.toInt_inj.mp
    rw [Int64.toInt_toInt32, am_toJ h2, am_toI (am_wI _)]
    rfl
  · obtain ⟨a, r, rfl, rfl⟩ := am_b1_i hs
    obtain ⟨h2, h3⟩ := am_nc hn
    exact lv_i2c hx hb hd (am_ofI _).symm (k (am_ncc (am_nI _) h3))
  · split at hs
    · split at hs <;> cases hs
      rename_i a r hc
      exact lv_dup hx hb hd (by rw [am_cat_cv]; exact hc) (k (am_ncc (am_nc hn).1 hn))
    · cases hs
  · split at hs
    · split at hs <;> cases hs
      rename_i a a2 r hc
      exact lv_dup2_11 hx hb hd (by rw [am_cat_cv]; exact hc.1) (by rw [am_cat_cv]; exact hc.2) (k (am_ncc (am_nc hn).1 (am_ncc (am_nc (am_nc hn).2).1 hn)))
    · cases hs
  · split at hs
    · split at hs <;> cases hs
      rename_i a hc
      exact lv_pop hx hb hd (by rw [am_cat_cv]; exact hc) (k (am_nc hn).2)
    · cases hs
  · cases hs
end AMW
