/-! ===== fewestLifts: a level's loops, the pure side ===== -/
def fw_lf : at_T → Bool
  | .leaf _ => true
  | .branch _ _ _ => false
def fw_t (D : Int → Int) (T : Nat → at_T) (p q : Nat) : Nat → at_T := av_up (av_up T p (at_jn D 24 (T p) (T q))) q (.leaf ())
def fw_in (D : Int → Int) (f : (Nat → at_T) → Int) (T : Nat → at_T) (p : Nat) : Nat → Nat → Int → Int
  | 0, _, a => a
  | m + 1, q, a => fw_in D f T p m (q + 1) (if fw_lf (T p) = true ∨ fw_lf (T q) = true then a else fw_le a (at_co D 24 (T p) (T q) + f (fw_t D T p q)))
def fw_out (D : Int → Int) (f : (Nat → at_T) → Int) (T : Nat → at_T) : Nat → Nat → Int → Int
  | 0, _, a => a
  | m + 1, p, a => fw_out D f T m (p + 1) (fw_in D f T p (3 - p) (p + 1) a)
def fw_lv (D : Int → Int) (f : (Nat → at_T) → Int) (T : Nat → at_T) : Int := if fw_out D f T 4 0 (-1) = -1 then 0 else fw_out D f T 4 0 (-1)
theorem fw_top {Y : Nat → Int → Int} {T : Nat → at_T} (h : av_tr Y T) {p : Nat} (hp : p < 4) : am_gt (Y 6) 4 p = -1 ↔ fw_lf (T p) = true := by
  have e := h.1 p hp
  rw [at_gt (show 0 ≤ (p : Int) ∧ (p : Int) < ((4 : Nat) : Int) by omega)]
  cases hT : T p with
  | leaf u =>
    rw [hT] at e
    exact ⟨fun _ => rfl, fun _ => e⟩
  | branch n l r =>
    rw [hT] at e
    have h1 := e.1.1
    exact ⟨fun z => by omega, fun z => by simp [fw_lf] at z⟩
