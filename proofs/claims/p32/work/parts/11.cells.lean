/-! ===== the cells: the abstract machine's among the machine's ===== -/
def am_nm (M : am_M) : Prop := ∀ (b c : Nat) (j : Int), if b = 44 then am_n64 (M b c j) else am_n32 (M b c j)
def am_TX (c : Nat) : u_T := match c with
  | 0 => TX0
  | 1 => TX1
  | 2 => TX2
  | 3 => TX3
  | 4 => TX4
  | _ => TX4
def am_tX (c : Nat) : Nat → FieldType := match c with
  | 0 => tyX0
  | 1 => tyX1
  | 2 => tyX2
  | 3 => tyX3
  | 4 => tyX4
  | _ => tyX4
def am_gn (g : Nat) : String := if g < 10 then am_cn g else RX4
theorem am_cl6 {c : Nat} (h : c < 6) : vwCl[c]? = some (am_cn c, am_TX c, am_fn c) := by
  rcases (show c = 0 ∨ c = 1 ∨ c = 2 ∨ c = 3 ∨ c = 4 ∨ c = 5 by omega) with rfl | rfl | rfl | rfl | rfl | rfl <;> rfl
theorem am_tX_ok {c : Nat} (h : c < 6) : ∀ k, k < am_fn c → parseFieldDescriptor (am_TX c k).2.2.1 = some (am_tX c k) := by
  rcases (show c = 0 ∨ c = 1 ∨ c = 2 ∨ c = 3 ∨ c = 4 ∨ c = 5 by omega) with rfl | rfl | rfl | rfl | rfl | rfl
  · exact tyX0_ok
  · exact tyX1_ok
  · exact tyX2_ok
  · exact tyX3_ok
  · exact tyX4_ok
  · exact tyX4_ok
theorem am_nmX {c : Nat} (h : c < 6) : ∀ a, a < am_fn c → ∀ b, b < am_fn c → a ≠ b → (am_TX c a).2.1 ≠ (am_TX c b).2.1 := by
  rcases (show c = 0 ∨ c = 1 ∨ c = 2 ∨ c = 3 ∨ c = 4 ∨ c = 5 by omega) with rfl | rfl | rfl | rfl | rfl | rfl
  · exact nmX0
  · exact nmX1
  · exact nmX2
  · exact nmX3
  · exact nmX4
  · exact nmX4
/-- what the fields' tables say -/
theorem am_fld : ∀ c, c < 6 → ∀ f, f < am_fn c → (am_TX c f).1 = am_cn c ∧ (am_TX c f).2.2.2 = am_isr c f ∧ (am_isr c f = false → am_tX c f = if am_isz c f = true then .boolean else .int) ∧ (am_isr c f = true → (am_tX c f).isReference = true) := by decide +kernel
/-- the words that stay -/
def am_wk (w : Cond) : Bool := match w with
  | .declares _ => true
  | .publicMethod _ => true
  | .unhidden _ _ _ => true
  | .castable _ _ => true
  | .methodLinkNest _ _ _ _ => true
  | w => goodWord w
theorem am_wmv {w : Cond} (hw : am_wk w = true) {s U : State} (hW : s.WarmedH U.vm) {a : Array Value} (h : w.before a s = true) (a' : Array Value) : w.before a' U = true := by
  cases w with
  | declares x => exact va_Nw.use rfl (va_Nw.warmD hW (va_Nw.of rfl h))
  | castable x y => exact va_Nw.use rfl (va_Nw.warmC hW (va_Nw.of rfl h))
  | methodLinkNest x y z u => exact va_Nw.use rfl (va_Nw.warmM hW (va_Nw.of rfl h))
  | publicMethod x => exact va_tabs rfl (rfl : (s.setVm U.vm).vm = U.vm) (Cond.faceAtom_setVm hW.alike _ rfl h)
  | unhidden x y z => exact va_tabs rfl (rfl : (s.setVm U.vm).vm = U.vm) (Cond.faceAtom_setVm hW.alike _ rfl h)
  | _ => exact word_at hW (good_of_word hw) h
def am_Ts : List Cond := lw_tbl.filter am_wk
theorem am_Ts_in {w : Cond} (h : w ∈ lw_tbl) (hw : am_wk w = true) : w ∈ am_Ts := List.mem_filter.mpr ⟨h, hw⟩
theorem am_wsX {c : Nat} (h : c < 6) : ∀ w ∈ u_ws (am_cn c) (am_TX c) (am_fn c), w ∈ am_Ts := by
  rcases (show c = 0 ∨ c = 1 ∨ c = 2 ∨ c = 3 ∨ c = 4 ∨ c = 5 by omega) with rfl | rfl | rfl | rfl | rfl | rfl <;> decide +kernel
theorem am_in_p {p : Nat} {w : Cond} (h : lw_tbl[p]? = some w) (hw : am_wk w = true) : w ∈ am_Ts := am_Ts_in (List.mem_of_getElem? h) hw
/-- the fields that are named: in their class, their words among the tables -/
def am_ftB (e : (Nat × Nat) × Nat × Nat × Nat) : Bool := decide (e.2.1 < 6) && decide (e.2.2.1 < am_fn e.2.1) && decide (lw_tbl[e.2.2.2]? = some (.fieldLink (am_gn e.1.1) e.1.2 (am_cn e.2.1) (am_TX e.2.1 e.2.2.1).2.1 (am_TX e.2.1 e.2.2.1).2.2.1))
theorem am_ft_ok : am_ft.all am_ftB = true := by decide +kernel
def am_krB (e : (Nat × Nat) × Int × Nat) : Bool := decide (-9223372036854775808 ≤ e.2.1) && decide (e.2.1 < 9223372036854775808) && decide (lw_tbl[e.2.2]? = some (.constantLong (am_gn e.1.1) e.1.2 (Int64.ofInt e.2.1)))
theorem am_kr_ok : am_kr.all am_krB = true := by decide +kernel
theorem am_lk {α : Type} {l : List ((Nat × Nat) × α)} {k : Nat × Nat} {v : α} (h : l.lookup k = some v) : (k, v) ∈ l := by
  induction l with
  | nil => cases h
  | cons a t ih =>
    obtain ⟨k', v'⟩ := a
    rw [List.lookup_cons] at h
    split at h
    · rename_i he
      cases h
      have : k = k' := by simpa using he
      subst this
      exact List.mem_cons_self
    · exact List.mem_cons_of_mem _ (ih h)
theorem am_fl_i {k idx c f : Nat} (h : am_fl k idx = some (c, f)) : c < 6 ∧ f < am_fn c ∧ Cond.fieldLink (am_gn (am_mt k).1) idx (am_cn c) (am_TX c f).2.1 (am_TX c f).2.2.1 ∈ am_Ts := by
  unfold am_fl at h
  split at h
  · rename_i t ht
    cases h
    have h1 := List.all_eq_true.mp am_ft_ok _ (am_lk ht)
    simp only [am_ftB, Bool.and_eq_true, decide_eq_true_eq] at h1
    exact ⟨h1.1.1, h1.1.2, am_in_p h1.2 rfl⟩
  · cases h
theorem am_kl_i {k idx : Nat} {z : Int} (h : am_kl k idx = some z) : am_n64 z ∧ Cond.constantLong (am_gn (am_mt k).1) idx (Int64.ofInt z) ∈ am_Ts := by
  unfold am_kl at h
  split at h
  · rename_i t ht
    cases h
    have h1 := List.all_eq_true.mp am_kr_ok _ (am_lk ht)
    simp only [am_krB, Bool.and_eq_true, decide_eq_true_eq] at h1
    exact ⟨h1.1, am_in_p h1.2 rfl⟩
  · cases h
def am_irB (e : (Nat × Nat) × Int × Nat) : Bool := decide (-2147483648 ≤ e.2.1) && decide (e.2.1 < 2147483648) && decide (lw_tbl[e.2.2]? = some (.constant (am_gn e.1.1) e.1.2 (Int32.ofInt e.2.1)))
theorem am_ir_ok : am_ir.all am_irB = true := by decide +kernel
theorem am_ki_i {k idx : Nat} {z : Int} (h : am_ki k idx = some z) : am_n32 z ∧ Cond.constant (am_gn (am_mt k).1) idx (Int32.ofInt z) ∈ am_Ts := by
  unfold am_ki at h
  split at h
  · rename_i t ht
    cases h
    have h1 := List.all_eq_true.mp am_ir_ok _ (am_lk ht)
    simp only [am_irB, Bool.and_eq_true, decide_eq_true_eq] at h1
    exact ⟨h1.1, am_in_p h1.2 rfl⟩
  · cases h
theorem am_mts_ok : am_mts.all (fun t => am_gn t.1 == am_cn t.2.1) = true := by decide +kernel
/-! the table of the cells -/
theorem am_tab_len : am_tab.length = 368 := by decide +kernel
def am_tabB (i : Nat) : Bool := match am_tab[i]? with
  | some t => am_ix t.1 == i && (t.1 != (45, 0)) && decide (t.2.2 < 10000) && ((decide (t.2.1 < 6) && t.2.2 == am_fn t.2.1) || (decide (6 ≤ t.2.1) && decide (t.2.1 ≤ 10))) && ((t.2.1 == 9) == (t.1.1 == 44))
  | none => false
theorem am_tab_ok : (List.range 368).all am_tabB = true := by decide +kernel
theorem am_tab_i {i : Nat} {t : am_R × Nat × Nat} (h : am_tab[i]? = some t) : i < 368 ∧ am_ix t.1 = i ∧ t.1 ≠ (45, 0) ∧ t.2.2 < 10000 ∧ ((t.2.1 < 6 ∧ t.2.2 = am_fn t.2.1) ∨ (6 ≤ t.2.1 ∧ t.2.1 ≤ 10)) ∧ (t.2.1 = 9 ↔ t.1.1 = 44) := by
  have hi : i < 368 := by rw [← am_tab_len]; exact (List.getElem?_eq_some_iff.mp h).1
  have h1 := List.all_eq_true.mp am_tab_ok i (List.mem_range.mpr hi)
  unfold am_tabB at h1
  rw [h] at h1
  simp only [Bool.and_eq_true, Bool.or_eq_true, beq_iff_eq, decide_eq_true_eq, bne_iff_ne, ne_eq] at h1
  obtain ⟨⟨⟨⟨h2, h3⟩, h4⟩, h5⟩, h6⟩ := h1
  refine ⟨hi, h2, h3, h4, h5, ?_⟩
  have h7 : decide (t.2.1 = 9) = decide (t.1.1 = 44) := h6
  constructor
  · intro h8
    simpa [h8] using h7.symm
  · intro h8
    simpa [h8] using h7
theorem am_ix_i {r : am_R} {t : am_R × Nat × Nat} (h : am_tab[am_ix r]? = some t) : t.1 = r := by
  have hlt : am_tab.findIdx (fun t => t.1 == r) < am_tab.length := (List.getElem?_eq_some_iff.mp h).1
  have h1 := List.findIdx_getElem (w := hlt)
  have h2 : am_tab[am_tab.findIdx (fun t => t.1 == r)] = t := (List.getElem?_eq_some_iff.mp h).2
  rw [h2] at h1
  simpa using h1
theorem am_kd_i {E : am_E} {r : am_R} {c n : Nat} (h : am_kd E r = some (c, n)) : (r = (45, 0) ∧ c = 12 ∧ n = E.2.2.1) ∨ (r ≠ (45, 0) ∧ am_ix r < E.1 ∧ am_tab[am_ix r]? = some (r, c, n)) := by
  unfold am_kd at h
  split at h
  · rename_i hr
    cases h
    exact Or.inl ⟨hr, rfl, rfl⟩
  · rename_i hr
    split at h
    · rename_i hlt
      split at h
      · rename_i t ht
        have h2 := Option.some.inj h
        have h3 := am_ix_i ht
        refine Or.inr ⟨hr, hlt, ?_⟩
        rw [ht]
        obtain ⟨t1, t2⟩ := t
        dsimp only at h2 h3
        rw [h3, h2]
      · cases h
    · cases h
def am_fv (B0 b : Nat) (E : am_E) (M : am_M) (r : am_R) (c k : Nat) : Value := if am_isr c k = true then va_rf ((am_rf E r k).map (am_ad B0 b)) else .int (Int32.ofInt (M r.1 r.2 k))
def am_ce (cy : Nat → ClassId) (B0 b : Nat) (E : am_E) (M : am_M) (t : am_R × Nat × Nat) : va_E :=
  if t.2.1 < 6 then .inr (t.2.1, (List.range t.2.2).map (am_fv B0 b E M t.1 t.2.1))
  else if t.2.1 = 9 then .inl (cy 9, t.2.2, .inr (.inl (fun j => Int64.ofInt (M t.1.1 t.1.2 j))))
  else if t.2.1 = 10 then .inl (cy 10, t.2.2, .inr (.inr (.inr (.inr (fun j => (am_rf E t.1 j).map (am_ad B0 b))))))
  else .inl (cy t.2.1, t.2.2, .inl (fun j => Int32.ofInt (M t.1.1 t.1.2 j)))
def am_cl1 (cy : Nat → ClassId) (B0 b : Nat) (E : am_E) (M : am_M) (i : Nat) : va_E := match am_tab[i]? with
  | some t => am_ce cy B0 b E M t
  | none => .inr (0, [])
def am_ws (cy : Nat → ClassId) (B0 b : Nat) (E : am_E) (M : am_M) : va_W := (List.range E.1).map (fun i => (B0 + i, am_cl1 cy B0 b E M i))
theorem am_ws_get {cy : Nat → ClassId} {B0 b : Nat} {E : am_E} {M : am_M} {i : Nat} {t : am_R × Nat × Nat} (hi : i < E.1) (ht : am_tab[i]? = some t) : (am_ws cy B0 b E M)[i]? = some (B0 + i, am_ce cy B0 b E M t) := by
  unfold am_ws am_cl1
  rw [List.getElem?_map, List.getElem?_range hi, Option.map_some, ht]
theorem am_ws_D (cy : Nat → ClassId) (B0 b : Nat) (E : am_E) (M : am_M) : va_D (fun q => B0 ≤ q) (am_ws cy B0 b E M) := by
  have key : ∀ (k : Nat) (q : Nat × va_E), (am_ws cy B0 b E M)[k]? = some q → q.1 = B0 + k := fun k q h => by
    unfold am_ws at h
    rw [List.getElem?_map] at h
    have hk : k < E.1 := by
      rcases Nat.lt_or_ge k E.1 with h0 | h0
      · exact h0
      · rw [List.getElem?_eq_none (by rw [List.length_range]; exact h0)] at h
        cases h
    rw [List.getElem?_range hk] at h
    cases h
    rfl
  refine ⟨fun i j p q hp hq he => ?_, fun k q h => ?_⟩
  · rw [key i p hp, key j q hq] at he
    omega
  · show B0 ≤ q.1
    rw [key k q h]
    omega
theorem am_ws_set {cy : Nat → ClassId} {B0 b : Nat} {E E' : am_E} {M M' : am_M} {i : Nat} {t : am_R × Nat × Nat} (ht : am_tab[i]? = some t) (hE : E'.1 = E.1)
    (h : ∀ (j : Nat) (t' : am_R × Nat × Nat), j ≠ i → am_tab[j]? = some t' → am_ce cy B0 b E' M' t' = am_ce cy B0 b E M t') : (am_ws cy B0 b E M).set i (B0 + i, am_ce cy B0 b E' M' t) = am_ws cy B0 b E' M' := by
  apply List.ext_getElem?
  intro j
  unfold am_ws
  rw [hE]
  by_cases hj : j = i
  · subst hj
    by_cases hl : j < E.1
    · rw [List.getElem?_set_self (by rw [List.length_map, List.length_range]; exact hl), List.getElem?_map, List.getElem?_range hl]
      simp [am_cl1, ht]
    · rw [List.getElem?_eq_none (by rw [List.length_set, List.length_map, List.length_range]; omega), List.getElem?_eq_none (by rw [List.length_map, List.length_range]; omega)]
  · rw [List.getElem?_set_ne (Ne.symm hj), List.getElem?_map, List.getElem?_map]
    by_cases hl : j < E.1
    · rw [List.getElem?_range hl]
      simp only [Option.map_some, am_cl1]
      split
      · rename_i t' ht'
        rw [h j t' hj ht']
      · rfl
    · rw [List.getElem?_eq_none (by rw [List.length_range]; omega)]
      rfl
/-- what the tables, statics and strings say at a method's start -/
def am_tys (cy : Nat → ClassId) : List (ClassId × FieldType) := [(cy 6, .int), (cy 7, .char), (cy 6, .int), (cy 6, .int), (cy 10, .object RX3)]
def am_F (dC : Nat → ClassId) (dI : Nat → Nat → Nat) (cy : Nat → ClassId) (B0 b L : Nat) (xs : Nat → Int32) (s : State) : Prop :=
  (∀ w ∈ am_Ts, ∀ a, w.before a s = true) ∧ va_K (dC, dI) vwCl (am_tys cy) s ∧ va_X b L xs s s.heap ∧ b < B0 ∧ B0 ≤ s.heap.size ∧ L ≤ 260 ∧
  vx_Zq Bundle.tN "UNASSIGNED_STACK" Bundle.steD (fun q => B0 ≤ q) s s.heap ∧ vx_Zq Bundle.tN "SUPPRESSED_SENTINEL" Bundle.listD (fun q => B0 ≤ q) s s.heap ∧
  (∀ q ∈ am_strs, ∃ a, vk_R q.1 q.2.1 q.2.2 a s) ∧ va_AO RX3 s ∧ ∀ x y, x < 3 → y < 3 → x ≠ y → va_Nc (am_xn x) (am_xn y) s
/-- the heap holds the abstract machine's cells -/
def am_H (dC : Nat → ClassId) (dI : Nat → Nat → Nat) (cy : Nat → ClassId) (B0 b L : Nat) (xs : Nat → Int32) (E : am_E) (M : am_M) (H : Heap) : Prop :=
  va_P (dC, dI) vwCl (am_ws cy B0 b E M) H ∧ am_nm M ∧ E.1 ≤ 368 ∧ E.2.2.1 = L ∧ ∀ j : Nat, j < L → M 45 0 j = (xs j).toInt
