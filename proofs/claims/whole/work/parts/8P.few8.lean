/-! ===== fewestLifts: the reference's loops, pure, give the class's answer (written by few8.py) ===== -/
def lp_in (st : Nat → Nat → Int → Int) (p : Nat) : Nat → Nat → Int → Int
  | 0, _, a => a
  | m + 1, q, a => lp_in st p m (q + 1) (st p q a)
def lp_out (st : Nat → Nat → Int → Int) (n : Nat) : Nat → Nat → Int → Int
  | 0, _, a => a
  | m + 1, p, a => lp_out st n m (p + 1) (lp_in st p (n - (p + 1)) (p + 1) a)
def fr_rs (g p q : Nat) : Nat → Int
  | 0 => -1
  | i + 1 => if i ≠ g ∧ i ≠ q ∧ i ≠ p then (i : Int) else fr_rs g p q i
def fr_c (D : Int → Int) (n : Nat) (T : Nat → at_T) (g p q : Nat) : Int := if fr_rs g p q n = -1 then 0 else (at_co D 24 (fw_t D T p q p) (fw_t D T p q (fr_rs g p q n).toNat) : Int)
def fr_s2 (D : Int → Int) (n g : Nat) (l : Int) (T : Nat → at_T) (p q : Nat) (a : Int) : Int := if q < n ∧ p ≠ g ∧ q ≠ g then fw_le a (l + (at_co D 24 (T p) (T q) : Int) + fr_c D n T g p q) else a
def fr_lv (D : Int → Int) (n g : Nat) (l : Int) (T : Nat → at_T) : Int := if lp_out (fr_s2 D n g l T) 4 4 0 (-1) = -1 then l else lp_out (fr_s2 D n g l T) 4 4 0 (-1)
def fr_s1 (D : Int → Int) (n : Nat) (l : Int) (T : Nat → at_T) (p q : Nat) (a : Int) : Int := fw_le a (fr_lv D n q (l + (at_co D 24 (T p) (T q) : Int)) (fw_t D T p q))
def fr_all (D : Int → Int) (n : Nat) (l : Int) (T : Nat → at_T) : Int := if lp_out (fr_s1 D n l T) n n 0 (-1) = -1 then 0 else lp_out (fr_s1 D n l T) n n 0 (-1) - l
theorem lp_4 {st : Nat → Nat → Int → Int} {a : Int} : lp_out st 4 4 0 a = st 2 3 (st 1 3 (st 1 2 (st 0 3 (st 0 2 (st 0 1 a))))) := rfl
theorem lp_3 {st : Nat → Nat → Int → Int} {a : Int} : lp_out st 3 3 0 a = st 1 2 (st 0 2 (st 0 1 a)) := rfl
theorem lp_2 {st : Nat → Nat → Int → Int} {a : Int} : lp_out st 2 2 0 a = st 0 1 a := rfl
section FEW8
variable {D : Int → Int} {T : Nat → at_T} {l : Int}
theorem fw_2z (T : Nat → at_T) (p : Nat) (h : fw_ok D T) (hp : p < 4) (ho : fw_o1 T p) : fw_f2 D T = 0 := by
  by_cases q : p = 3
  · subst q
    rw [fw_2c T 2 3 h (by decide) (by decide) (fun r hr _ h2 => ho r hr h2), (fw_zs (D := D) (ho 2 (by decide) (by decide)) (T 3)).1]
    rfl
  · rw [fw_2c T p 3 h (by omega) (by decide) (fun r hr h1 _ => ho r hr h1), (fw_zs (D := D) (ho 3 (by decide) (fun z => q z.symm)) (T p)).2.1]
    rfl
theorem fw_3c (T : Nat → at_T) (p q : Nat) (h : fw_ok D T) (hpq : p < q) (hq : q < 4) (ho : fw_o2 T p q) : fw_f3 D T = at_co D 24 (T p) (T q) := fw_l1 fw_2z h hpq hq ho
theorem fw_f2_0 : 0 ≤ fw_f2 D T := by
  have b0 : ∀ T : Nat → at_T, 0 ≤ (fun _ => (0 : Int)) T ∧ (fun _ => (0 : Int)) T ≤ 0 := fun _ => ⟨Int.le_refl 0, Int.le_refl 0⟩
  have b1 := fw_lv_le (D := D) b0 (by decide)
  have b2 := fw_lv_le (D := D) b1 (by decide)
  exact (b2 T).1
theorem fw_m3_12 (h : fw_ok D T) {p q r : Nat} (hp : p < 4) (hq : q < 4) (hr : r < 4) (h1 : p ≠ q) : fw_m3 D (T p) (T q) (T r) = fw_m3 D (T q) (T p) (T r) := by
  have s := fw_sy h hp hq h1
  unfold fw_m3
  rw [s.1, s.2]
  omega
theorem fw_m3_23 (h : fw_ok D T) {p q r : Nat} (hp : p < 4) (hq : q < 4) (hr : r < 4) (h1 : q ≠ r) : fw_m3 D (T p) (T q) (T r) = fw_m3 D (T p) (T r) (T q) := by
  have s := fw_sy h hq hr h1
  unfold fw_m3
  rw [s.1, s.2]
  omega
theorem fw_mn (a b : Int) : min (l + a) (l + b) = l + min a b := by omega
theorem fr_4_1 (h : fw_ok D T) (hg : fw_lf (T 1) = true) (hl : 0 ≤ l) : fr_lv D 4 1 l T = l + fw_f2 D T := by
  have s01 : ∀ a, fr_s2 D 4 1 l T 0 1 a = a := fun a => if_neg (by decide)
  have s02 : ∀ a, fr_s2 D 4 1 l T 0 2 a = fw_le a (l + (at_co D 24 (T 0) (T 2) : Int) + (at_co D 24 (at_jn D 24 (T 0) (T 2)) (T 3) : Int)) := by
    intro a
    have e : fr_c D 4 T 1 0 2 = (at_co D 24 (at_jn D 24 (T 0) (T 2)) (T 3) : Int) := by
      unfold fr_c
      rw [show fr_rs 1 0 2 4 = 3 by decide, if_neg (by decide), show (3 : Int).toNat = 3 from rfl, fw_t_p (by decide), fw_t_o (by decide) (by decide)]
    unfold fr_s2
    rw [if_pos (by decide), e]
  have s03 : ∀ a, fr_s2 D 4 1 l T 0 3 a = fw_le a (l + (at_co D 24 (T 0) (T 3) : Int) + (at_co D 24 (at_jn D 24 (T 0) (T 3)) (T 2) : Int)) := by
    intro a
    have e : fr_c D 4 T 1 0 3 = (at_co D 24 (at_jn D 24 (T 0) (T 3)) (T 2) : Int) := by
      unfold fr_c
      rw [show fr_rs 1 0 3 4 = 2 by decide, if_neg (by decide), show (2 : Int).toNat = 2 from rfl, fw_t_p (by decide), fw_t_o (by decide) (by decide)]
    unfold fr_s2
    rw [if_pos (by decide), e]
  have s12 : ∀ a, fr_s2 D 4 1 l T 1 2 a = a := fun a => if_neg (by decide)
  have s13 : ∀ a, fr_s2 D 4 1 l T 1 3 a = a := fun a => if_neg (by decide)
  have s23 : ∀ a, fr_s2 D 4 1 l T 2 3 a = fw_le a (l + (at_co D 24 (T 2) (T 3) : Int) + (at_co D 24 (at_jn D 24 (T 2) (T 3)) (T 0) : Int)) := by
    intro a
    have e : fr_c D 4 T 1 2 3 = (at_co D 24 (at_jn D 24 (T 2) (T 3)) (T 0) : Int) := by
      unfold fr_c
      rw [show fr_rs 1 2 3 4 = 0 by decide, if_neg (by decide), show (0 : Int).toNat = 0 from rfl, fw_t_p (by decide), fw_t_o (by decide) (by decide)]
    unfold fr_s2
    rw [if_pos (by decide), e]
  unfold fr_lv
  rw [lp_4, s01, s02, s03, s12, s13, s23, fw_n3 (by omega) (by omega), if_neg (by omega), fw_2m_1 h hg]
  unfold fw_m3
  omega
theorem fr_4_2 (h : fw_ok D T) (hg : fw_lf (T 2) = true) (hl : 0 ≤ l) : fr_lv D 4 2 l T = l + fw_f2 D T := by
  have s01 : ∀ a, fr_s2 D 4 2 l T 0 1 a = fw_le a (l + (at_co D 24 (T 0) (T 1) : Int) + (at_co D 24 (at_jn D 24 (T 0) (T 1)) (T 3) : Int)) := by
    intro a
    have e : fr_c D 4 T 2 0 1 = (at_co D 24 (at_jn D 24 (T 0) (T 1)) (T 3) : Int) := by
      unfold fr_c
      rw [show fr_rs 2 0 1 4 = 3 by decide, if_neg (by decide), show (3 : Int).toNat = 3 from rfl, fw_t_p (by decide), fw_t_o (by decide) (by decide)]
    unfold fr_s2
    rw [if_pos (by decide), e]
  have s02 : ∀ a, fr_s2 D 4 2 l T 0 2 a = a := fun a => if_neg (by decide)
  have s03 : ∀ a, fr_s2 D 4 2 l T 0 3 a = fw_le a (l + (at_co D 24 (T 0) (T 3) : Int) + (at_co D 24 (at_jn D 24 (T 0) (T 3)) (T 1) : Int)) := by
    intro a
    have e : fr_c D 4 T 2 0 3 = (at_co D 24 (at_jn D 24 (T 0) (T 3)) (T 1) : Int) := by
      unfold fr_c
      rw [show fr_rs 2 0 3 4 = 1 by decide, if_neg (by decide), show (1 : Int).toNat = 1 from rfl, fw_t_p (by decide), fw_t_o (by decide) (by decide)]
    unfold fr_s2
    rw [if_pos (by decide), e]
  have s12 : ∀ a, fr_s2 D 4 2 l T 1 2 a = a := fun a => if_neg (by decide)
  have s13 : ∀ a, fr_s2 D 4 2 l T 1 3 a = fw_le a (l + (at_co D 24 (T 1) (T 3) : Int) + (at_co D 24 (at_jn D 24 (T 1) (T 3)) (T 0) : Int)) := by
    intro a
    have e : fr_c D 4 T 2 1 3 = (at_co D 24 (at_jn D 24 (T 1) (T 3)) (T 0) : Int) := by
      unfold fr_c
      rw [show fr_rs 2 1 3 4 = 0 by decide, if_neg (by decide), show (0 : Int).toNat = 0 from rfl, fw_t_p (by decide), fw_t_o (by decide) (by decide)]
    unfold fr_s2
    rw [if_pos (by decide), e]
  have s23 : ∀ a, fr_s2 D 4 2 l T 2 3 a = a := fun a => if_neg (by decide)
  unfold fr_lv
  rw [lp_4, s01, s02, s03, s12, s13, s23, fw_n3 (by omega) (by omega), if_neg (by omega), fw_2m_2 h hg]
  unfold fw_m3
  omega
theorem fr_4_3 (h : fw_ok D T) (hg : fw_lf (T 3) = true) (hl : 0 ≤ l) : fr_lv D 4 3 l T = l + fw_f2 D T := by
  have s01 : ∀ a, fr_s2 D 4 3 l T 0 1 a = fw_le a (l + (at_co D 24 (T 0) (T 1) : Int) + (at_co D 24 (at_jn D 24 (T 0) (T 1)) (T 2) : Int)) := by
    intro a
    have e : fr_c D 4 T 3 0 1 = (at_co D 24 (at_jn D 24 (T 0) (T 1)) (T 2) : Int) := by
      unfold fr_c
      rw [show fr_rs 3 0 1 4 = 2 by decide, if_neg (by decide), show (2 : Int).toNat = 2 from rfl, fw_t_p (by decide), fw_t_o (by decide) (by decide)]
    unfold fr_s2
    rw [if_pos (by decide), e]
  have s02 : ∀ a, fr_s2 D 4 3 l T 0 2 a = fw_le a (l + (at_co D 24 (T 0) (T 2) : Int) + (at_co D 24 (at_jn D 24 (T 0) (T 2)) (T 1) : Int)) := by
    intro a
    have e : fr_c D 4 T 3 0 2 = (at_co D 24 (at_jn D 24 (T 0) (T 2)) (T 1) : Int) := by
      unfold fr_c
      rw [show fr_rs 3 0 2 4 = 1 by decide, if_neg (by decide), show (1 : Int).toNat = 1 from rfl, fw_t_p (by decide), fw_t_o (by decide) (by decide)]
    unfold fr_s2
    rw [if_pos (by decide), e]
  have s03 : ∀ a, fr_s2 D 4 3 l T 0 3 a = a := fun a => if_neg (by decide)
  have s12 : ∀ a, fr_s2 D 4 3 l T 1 2 a = fw_le a (l + (at_co D 24 (T 1) (T 2) : Int) + (at_co D 24 (at_jn D 24 (T 1) (T 2)) (T 0) : Int)) := by
    intro a
    have e : fr_c D 4 T 3 1 2 = (at_co D 24 (at_jn D 24 (T 1) (T 2)) (T 0) : Int) := by
      unfold fr_c
      rw [show fr_rs 3 1 2 4 = 0 by decide, if_neg (by decide), show (0 : Int).toNat = 0 from rfl, fw_t_p (by decide), fw_t_o (by decide) (by decide)]
    unfold fr_s2
    rw [if_pos (by decide), e]
  have s13 : ∀ a, fr_s2 D 4 3 l T 1 3 a = a := fun a => if_neg (by decide)
  have s23 : ∀ a, fr_s2 D 4 3 l T 2 3 a = a := fun a => if_neg (by decide)
  unfold fr_lv
  rw [lp_4, s01, s02, s03, s12, s13, s23, fw_n3 (by omega) (by omega), if_neg (by omega), fw_2m_3 h hg]
  unfold fw_m3
  omega
theorem fr_3_1 (h : fw_ok D T) (hg : fw_lf (T 1) = true) (h3 : fw_lf (T 3) = true) (hl : 0 ≤ l) : fr_lv D 3 1 l T = l + fw_f2 D T := by
  have s01 : ∀ a, fr_s2 D 3 1 l T 0 1 a = a := fun a => if_neg (by decide)
  have s02 : ∀ a, fr_s2 D 3 1 l T 0 2 a = fw_le a (l + (at_co D 24 (T 0) (T 2) : Int) + 0) := by
    intro a
    have e : fr_c D 3 T 1 0 2 = 0 := if_pos (by decide)
    unfold fr_s2
    rw [if_pos (by decide), e]
  have s03 : ∀ a, fr_s2 D 3 1 l T 0 3 a = a := fun a => if_neg (by decide)
  have s12 : ∀ a, fr_s2 D 3 1 l T 1 2 a = a := fun a => if_neg (by decide)
  have s13 : ∀ a, fr_s2 D 3 1 l T 1 3 a = a := fun a => if_neg (by decide)
  have s23 : ∀ a, fr_s2 D 3 1 l T 2 3 a = a := fun a => if_neg (by decide)
  have e2 : fw_f2 D T = at_co D 24 (T 0) (T 2) := fw_2c T 0 2 h (by decide) (by decide) (fun r hr h1 h2 => by
    rcases (show r = 0 ∨ r = 1 ∨ r = 2 ∨ r = 3 by omega) with e | e | e | e <;> subst e
    all_goals first | exact absurd rfl h1 | exact absurd rfl h2 | assumption)
  unfold fr_lv
  rw [lp_4, s01, s02, s03, s12, s13, s23, fw_le_0, if_neg (by omega), e2]
  omega
theorem fr_3_2 (h : fw_ok D T) (hg : fw_lf (T 2) = true) (h3 : fw_lf (T 3) = true) (hl : 0 ≤ l) : fr_lv D 3 2 l T = l + fw_f2 D T := by
  have s01 : ∀ a, fr_s2 D 3 2 l T 0 1 a = fw_le a (l + (at_co D 24 (T 0) (T 1) : Int) + 0) := by
    intro a
    have e : fr_c D 3 T 2 0 1 = 0 := if_pos (by decide)
    unfold fr_s2
    rw [if_pos (by decide), e]
  have s02 : ∀ a, fr_s2 D 3 2 l T 0 2 a = a := fun a => if_neg (by decide)
  have s03 : ∀ a, fr_s2 D 3 2 l T 0 3 a = a := fun a => if_neg (by decide)
  have s12 : ∀ a, fr_s2 D 3 2 l T 1 2 a = a := fun a => if_neg (by decide)
  have s13 : ∀ a, fr_s2 D 3 2 l T 1 3 a = a := fun a => if_neg (by decide)
  have s23 : ∀ a, fr_s2 D 3 2 l T 2 3 a = a := fun a => if_neg (by decide)
  have e2 : fw_f2 D T = at_co D 24 (T 0) (T 1) := fw_2c T 0 1 h (by decide) (by decide) (fun r hr h1 h2 => by
    rcases (show r = 0 ∨ r = 1 ∨ r = 2 ∨ r = 3 by omega) with e | e | e | e <;> subst e
    all_goals first | exact absurd rfl h1 | exact absurd rfl h2 | assumption)
  unfold fr_lv
  rw [lp_4, s01, s02, s03, s12, s13, s23, fw_le_0, if_neg (by omega), e2]
  omega
theorem fr_2_1 (h : fw_ok D T) (h1 : fw_lf (T 1) = true) (h2 : fw_lf (T 2) = true) (h3 : fw_lf (T 3) = true) : fr_lv D 2 1 l T = l + fw_f2 D T := by
  have e2 : fw_f2 D T = 0 := fw_2z T 0 h (by decide) (fun r hr h1 => by
    rcases (show r = 0 ∨ r = 1 ∨ r = 2 ∨ r = 3 by omega) with e | e | e | e <;> subst e
    all_goals first | exact absurd rfl h1 | assumption)
  have s : ∀ p q a, (q < 2 ∧ p ≠ 1 ∧ q ≠ 1 → False) → fr_s2 D 2 1 l T p q a = a := fun p q a hz => if_neg hz
  unfold fr_lv
  rw [lp_4, s 0 1 _ (by decide), s 0 2 _ (by decide), s 0 3 _ (by decide), s 1 2 _ (by decide), s 1 3 _ (by decide), s 2 3 _ (by decide), if_pos rfl, e2]
  omega
theorem fw_v0_01 (h : fw_ok D T) (hd : fw_lf (T 0) = true) : ((at_co D 24 (T 0) (T 1) : Int) + fw_f2 D (fw_t D T 0 1)) = fw_m3 D (T 1) (T 2) (T 3) := by
  have hk := fw_ok_t (p := 0) (q := 1) h (by decide) (by decide) (by decide)
  have zz := fw_zs (D := D) hd (T 1)
  rw [fw_2m_1 hk (by rw [fw_t_q]; rfl), zz.1, fw_t_p (by decide), zz.2.2.1, fw_t_o (by decide) (by decide), fw_t_o (by decide) (by decide)]
  exact Int.zero_add _
theorem fw_v0_02 (h : fw_ok D T) (hd : fw_lf (T 0) = true) : ((at_co D 24 (T 0) (T 2) : Int) + fw_f2 D (fw_t D T 0 2)) = fw_m3 D (T 1) (T 2) (T 3) := by
  have hk := fw_ok_t (p := 0) (q := 2) h (by decide) (by decide) (by decide)
  have zz := fw_zs (D := D) hd (T 2)
  rw [fw_2m_2 hk (by rw [fw_t_q]; rfl), zz.1, fw_t_p (by decide), zz.2.2.1, fw_t_o (by decide) (by decide), fw_t_o (by decide) (by decide)]
  rw [fw_m3_12 h (p := 2) (q := 1) (r := 3) (by decide) (by decide) (by decide) (by decide)]
  exact Int.zero_add _
theorem fw_v0_03 (h : fw_ok D T) (hd : fw_lf (T 0) = true) : ((at_co D 24 (T 0) (T 3) : Int) + fw_f2 D (fw_t D T 0 3)) = fw_m3 D (T 1) (T 2) (T 3) := by
  have hk := fw_ok_t (p := 0) (q := 3) h (by decide) (by decide) (by decide)
  have zz := fw_zs (D := D) hd (T 3)
  rw [fw_2m_3 hk (by rw [fw_t_q]; rfl), zz.1, fw_t_p (by decide), zz.2.2.1, fw_t_o (by decide) (by decide), fw_t_o (by decide) (by decide)]
  rw [fw_m3_12 h (p := 3) (q := 1) (r := 2) (by decide) (by decide) (by decide) (by decide)]
  rw [fw_m3_23 h (p := 1) (q := 3) (r := 2) (by decide) (by decide) (by decide) (by decide)]
  exact Int.zero_add _
theorem fw_v0_12 (h : fw_ok D T) (hd : fw_lf (T 0) = true) : ((at_co D 24 (T 1) (T 2) : Int) + fw_f2 D (fw_t D T 1 2)) = ((at_co D 24 (T 1) (T 2) : Int) + (at_co D 24 (at_jn D 24 (T 1) (T 2)) (T 3) : Int)) := by
  rw [fw_2c _ 1 3 (fw_ok_t h (by decide) (by decide) (by decide)) (by decide) (by decide) (fun r hr h1 h2 => by
    rcases (show r = 0 ∨ r = 1 ∨ r = 2 ∨ r = 3 by omega) with e | e | e | e <;> subst e
    all_goals first | exact absurd rfl h1 | exact absurd rfl h2 | (rw [fw_t_q]; rfl) | (rw [fw_t_o (by decide) (by decide)]; assumption))]
  rw [fw_t_p (by decide), fw_t_o (by decide) (by decide)]
theorem fw_v0_13 (h : fw_ok D T) (hd : fw_lf (T 0) = true) : ((at_co D 24 (T 1) (T 3) : Int) + fw_f2 D (fw_t D T 1 3)) = ((at_co D 24 (T 1) (T 3) : Int) + (at_co D 24 (at_jn D 24 (T 1) (T 3)) (T 2) : Int)) := by
  rw [fw_2c _ 1 2 (fw_ok_t h (by decide) (by decide) (by decide)) (by decide) (by decide) (fun r hr h1 h2 => by
    rcases (show r = 0 ∨ r = 1 ∨ r = 2 ∨ r = 3 by omega) with e | e | e | e <;> subst e
    all_goals first | exact absurd rfl h1 | exact absurd rfl h2 | (rw [fw_t_q]; rfl) | (rw [fw_t_o (by decide) (by decide)]; assumption))]
  rw [fw_t_p (by decide), fw_t_o (by decide) (by decide)]
theorem fw_v0_23 (h : fw_ok D T) (hd : fw_lf (T 0) = true) : ((at_co D 24 (T 2) (T 3) : Int) + fw_f2 D (fw_t D T 2 3)) = ((at_co D 24 (T 2) (T 3) : Int) + (at_co D 24 (at_jn D 24 (T 2) (T 3)) (T 1) : Int)) := by
  rw [fw_2c _ 1 2 (fw_ok_t h (by decide) (by decide) (by decide)) (by decide) (by decide) (fun r hr h1 h2 => by
    rcases (show r = 0 ∨ r = 1 ∨ r = 2 ∨ r = 3 by omega) with e | e | e | e <;> subst e
    all_goals first | exact absurd rfl h1 | exact absurd rfl h2 | (rw [fw_t_q]; rfl) | (rw [fw_t_o (by decide) (by decide)]; assumption))]
  rw [(fw_sy (fw_ok_t (p := 2) (q := 3) h (by decide) (by decide) (by decide)) (p := 1) (q := 2) (by decide) (by decide) (by decide)).2, fw_t_p (by decide), fw_t_o (by decide) (by decide)]
theorem fw_v1_01 (h : fw_ok D T) (hd : fw_lf (T 1) = true) : ((at_co D 24 (T 0) (T 1) : Int) + fw_f2 D (fw_t D T 0 1)) = fw_m3 D (T 0) (T 2) (T 3) := by
  have hk := fw_ok_t (p := 0) (q := 1) h (by decide) (by decide) (by decide)
  have zz := fw_zs (D := D) hd (T 0)
  rw [fw_2m_1 hk (by rw [fw_t_q]; rfl), zz.2.1, fw_t_p (by decide), zz.2.2.2, fw_t_o (by decide) (by decide), fw_t_o (by decide) (by decide)]
  exact Int.zero_add _
theorem fw_v1_02 (h : fw_ok D T) (hd : fw_lf (T 1) = true) : ((at_co D 24 (T 0) (T 2) : Int) + fw_f2 D (fw_t D T 0 2)) = ((at_co D 24 (T 0) (T 2) : Int) + (at_co D 24 (at_jn D 24 (T 0) (T 2)) (T 3) : Int)) := by
  rw [fw_2c _ 0 3 (fw_ok_t h (by decide) (by decide) (by decide)) (by decide) (by decide) (fun r hr h1 h2 => by
    rcases (show r = 0 ∨ r = 1 ∨ r = 2 ∨ r = 3 by omega) with e | e | e | e <;> subst e
    all_goals first | exact absurd rfl h1 | exact absurd rfl h2 | (rw [fw_t_q]; rfl) | (rw [fw_t_o (by decide) (by decide)]; assumption))]
  rw [fw_t_p (by decide), fw_t_o (by decide) (by decide)]
theorem fw_v1_03 (h : fw_ok D T) (hd : fw_lf (T 1) = true) : ((at_co D 24 (T 0) (T 3) : Int) + fw_f2 D (fw_t D T 0 3)) = ((at_co D 24 (T 0) (T 3) : Int) + (at_co D 24 (at_jn D 24 (T 0) (T 3)) (T 2) : Int)) := by
  rw [fw_2c _ 0 2 (fw_ok_t h (by decide) (by decide) (by decide)) (by decide) (by decide) (fun r hr h1 h2 => by
    rcases (show r = 0 ∨ r = 1 ∨ r = 2 ∨ r = 3 by omega) with e | e | e | e <;> subst e
    all_goals first | exact absurd rfl h1 | exact absurd rfl h2 | (rw [fw_t_q]; rfl) | (rw [fw_t_o (by decide) (by decide)]; assumption))]
  rw [fw_t_p (by decide), fw_t_o (by decide) (by decide)]
theorem fw_v1_12 (h : fw_ok D T) (hd : fw_lf (T 1) = true) : ((at_co D 24 (T 1) (T 2) : Int) + fw_f2 D (fw_t D T 1 2)) = fw_m3 D (T 0) (T 2) (T 3) := by
  have hk := fw_ok_t (p := 1) (q := 2) h (by decide) (by decide) (by decide)
  have zz := fw_zs (D := D) hd (T 2)
  rw [fw_2m_2 hk (by rw [fw_t_q]; rfl), zz.1, fw_t_p (by decide), zz.2.2.1, fw_t_o (by decide) (by decide), fw_t_o (by decide) (by decide)]
  exact Int.zero_add _
theorem fw_v1_13 (h : fw_ok D T) (hd : fw_lf (T 1) = true) : ((at_co D 24 (T 1) (T 3) : Int) + fw_f2 D (fw_t D T 1 3)) = fw_m3 D (T 0) (T 2) (T 3) := by
  have hk := fw_ok_t (p := 1) (q := 3) h (by decide) (by decide) (by decide)
  have zz := fw_zs (D := D) hd (T 3)
  rw [fw_2m_3 hk (by rw [fw_t_q]; rfl), zz.1, fw_t_p (by decide), zz.2.2.1, fw_t_o (by decide) (by decide), fw_t_o (by decide) (by decide)]
  rw [fw_m3_23 h (p := 0) (q := 3) (r := 2) (by decide) (by decide) (by decide) (by decide)]
  exact Int.zero_add _
theorem fw_v1_23 (h : fw_ok D T) (hd : fw_lf (T 1) = true) : ((at_co D 24 (T 2) (T 3) : Int) + fw_f2 D (fw_t D T 2 3)) = ((at_co D 24 (T 2) (T 3) : Int) + (at_co D 24 (at_jn D 24 (T 2) (T 3)) (T 0) : Int)) := by
  rw [fw_2c _ 0 2 (fw_ok_t h (by decide) (by decide) (by decide)) (by decide) (by decide) (fun r hr h1 h2 => by
    rcases (show r = 0 ∨ r = 1 ∨ r = 2 ∨ r = 3 by omega) with e | e | e | e <;> subst e
    all_goals first | exact absurd rfl h1 | exact absurd rfl h2 | (rw [fw_t_q]; rfl) | (rw [fw_t_o (by decide) (by decide)]; assumption))]
  rw [(fw_sy (fw_ok_t (p := 2) (q := 3) h (by decide) (by decide) (by decide)) (p := 0) (q := 2) (by decide) (by decide) (by decide)).2, fw_t_p (by decide), fw_t_o (by decide) (by decide)]
theorem fw_v2_01 (h : fw_ok D T) (hd : fw_lf (T 2) = true) : ((at_co D 24 (T 0) (T 1) : Int) + fw_f2 D (fw_t D T 0 1)) = ((at_co D 24 (T 0) (T 1) : Int) + (at_co D 24 (at_jn D 24 (T 0) (T 1)) (T 3) : Int)) := by
  rw [fw_2c _ 0 3 (fw_ok_t h (by decide) (by decide) (by decide)) (by decide) (by decide) (fun r hr h1 h2 => by
    rcases (show r = 0 ∨ r = 1 ∨ r = 2 ∨ r = 3 by omega) with e | e | e | e <;> subst e
    all_goals first | exact absurd rfl h1 | exact absurd rfl h2 | (rw [fw_t_q]; rfl) | (rw [fw_t_o (by decide) (by decide)]; assumption))]
  rw [fw_t_p (by decide), fw_t_o (by decide) (by decide)]
theorem fw_v2_02 (h : fw_ok D T) (hd : fw_lf (T 2) = true) : ((at_co D 24 (T 0) (T 2) : Int) + fw_f2 D (fw_t D T 0 2)) = fw_m3 D (T 0) (T 1) (T 3) := by
  have hk := fw_ok_t (p := 0) (q := 2) h (by decide) (by decide) (by decide)
  have zz := fw_zs (D := D) hd (T 0)
  rw [fw_2m_2 hk (by rw [fw_t_q]; rfl), zz.2.1, fw_t_p (by decide), zz.2.2.2, fw_t_o (by decide) (by decide), fw_t_o (by decide) (by decide)]
  exact Int.zero_add _
theorem fw_v2_03 (h : fw_ok D T) (hd : fw_lf (T 2) = true) : ((at_co D 24 (T 0) (T 3) : Int) + fw_f2 D (fw_t D T 0 3)) = ((at_co D 24 (T 0) (T 3) : Int) + (at_co D 24 (at_jn D 24 (T 0) (T 3)) (T 1) : Int)) := by
  rw [fw_2c _ 0 1 (fw_ok_t h (by decide) (by decide) (by decide)) (by decide) (by decide) (fun r hr h1 h2 => by
    rcases (show r = 0 ∨ r = 1 ∨ r = 2 ∨ r = 3 by omega) with e | e | e | e <;> subst e
    all_goals first | exact absurd rfl h1 | exact absurd rfl h2 | (rw [fw_t_q]; rfl) | (rw [fw_t_o (by decide) (by decide)]; assumption))]
  rw [fw_t_p (by decide), fw_t_o (by decide) (by decide)]
theorem fw_v2_12 (h : fw_ok D T) (hd : fw_lf (T 2) = true) : ((at_co D 24 (T 1) (T 2) : Int) + fw_f2 D (fw_t D T 1 2)) = fw_m3 D (T 0) (T 1) (T 3) := by
  have hk := fw_ok_t (p := 1) (q := 2) h (by decide) (by decide) (by decide)
  have zz := fw_zs (D := D) hd (T 1)
  rw [fw_2m_2 hk (by rw [fw_t_q]; rfl), zz.2.1, fw_t_p (by decide), zz.2.2.2, fw_t_o (by decide) (by decide), fw_t_o (by decide) (by decide)]
  exact Int.zero_add _
theorem fw_v2_13 (h : fw_ok D T) (hd : fw_lf (T 2) = true) : ((at_co D 24 (T 1) (T 3) : Int) + fw_f2 D (fw_t D T 1 3)) = ((at_co D 24 (T 1) (T 3) : Int) + (at_co D 24 (at_jn D 24 (T 1) (T 3)) (T 0) : Int)) := by
  rw [fw_2c _ 0 1 (fw_ok_t h (by decide) (by decide) (by decide)) (by decide) (by decide) (fun r hr h1 h2 => by
    rcases (show r = 0 ∨ r = 1 ∨ r = 2 ∨ r = 3 by omega) with e | e | e | e <;> subst e
    all_goals first | exact absurd rfl h1 | exact absurd rfl h2 | (rw [fw_t_q]; rfl) | (rw [fw_t_o (by decide) (by decide)]; assumption))]
  rw [(fw_sy (fw_ok_t (p := 1) (q := 3) h (by decide) (by decide) (by decide)) (p := 0) (q := 1) (by decide) (by decide) (by decide)).2, fw_t_p (by decide), fw_t_o (by decide) (by decide)]
theorem fw_v2_23 (h : fw_ok D T) (hd : fw_lf (T 2) = true) : ((at_co D 24 (T 2) (T 3) : Int) + fw_f2 D (fw_t D T 2 3)) = fw_m3 D (T 0) (T 1) (T 3) := by
  have hk := fw_ok_t (p := 2) (q := 3) h (by decide) (by decide) (by decide)
  have zz := fw_zs (D := D) hd (T 3)
  rw [fw_2m_3 hk (by rw [fw_t_q]; rfl), zz.1, fw_t_p (by decide), zz.2.2.1, fw_t_o (by decide) (by decide), fw_t_o (by decide) (by decide)]
  exact Int.zero_add _
theorem fw_v3_01 (h : fw_ok D T) (hd : fw_lf (T 3) = true) : ((at_co D 24 (T 0) (T 1) : Int) + fw_f2 D (fw_t D T 0 1)) = ((at_co D 24 (T 0) (T 1) : Int) + (at_co D 24 (at_jn D 24 (T 0) (T 1)) (T 2) : Int)) := by
  rw [fw_2c _ 0 2 (fw_ok_t h (by decide) (by decide) (by decide)) (by decide) (by decide) (fun r hr h1 h2 => by
    rcases (show r = 0 ∨ r = 1 ∨ r = 2 ∨ r = 3 by omega) with e | e | e | e <;> subst e
    all_goals first | exact absurd rfl h1 | exact absurd rfl h2 | (rw [fw_t_q]; rfl) | (rw [fw_t_o (by decide) (by decide)]; assumption))]
  rw [fw_t_p (by decide), fw_t_o (by decide) (by decide)]
theorem fw_v3_02 (h : fw_ok D T) (hd : fw_lf (T 3) = true) : ((at_co D 24 (T 0) (T 2) : Int) + fw_f2 D (fw_t D T 0 2)) = ((at_co D 24 (T 0) (T 2) : Int) + (at_co D 24 (at_jn D 24 (T 0) (T 2)) (T 1) : Int)) := by
  rw [fw_2c _ 0 1 (fw_ok_t h (by decide) (by decide) (by decide)) (by decide) (by decide) (fun r hr h1 h2 => by
    rcases (show r = 0 ∨ r = 1 ∨ r = 2 ∨ r = 3 by omega) with e | e | e | e <;> subst e
    all_goals first | exact absurd rfl h1 | exact absurd rfl h2 | (rw [fw_t_q]; rfl) | (rw [fw_t_o (by decide) (by decide)]; assumption))]
  rw [fw_t_p (by decide), fw_t_o (by decide) (by decide)]
theorem fw_v3_03 (h : fw_ok D T) (hd : fw_lf (T 3) = true) : ((at_co D 24 (T 0) (T 3) : Int) + fw_f2 D (fw_t D T 0 3)) = fw_m3 D (T 0) (T 1) (T 2) := by
  have hk := fw_ok_t (p := 0) (q := 3) h (by decide) (by decide) (by decide)
  have zz := fw_zs (D := D) hd (T 0)
  rw [fw_2m_3 hk (by rw [fw_t_q]; rfl), zz.2.1, fw_t_p (by decide), zz.2.2.2, fw_t_o (by decide) (by decide), fw_t_o (by decide) (by decide)]
  exact Int.zero_add _
theorem fw_v3_12 (h : fw_ok D T) (hd : fw_lf (T 3) = true) : ((at_co D 24 (T 1) (T 2) : Int) + fw_f2 D (fw_t D T 1 2)) = ((at_co D 24 (T 1) (T 2) : Int) + (at_co D 24 (at_jn D 24 (T 1) (T 2)) (T 0) : Int)) := by
  rw [fw_2c _ 0 1 (fw_ok_t h (by decide) (by decide) (by decide)) (by decide) (by decide) (fun r hr h1 h2 => by
    rcases (show r = 0 ∨ r = 1 ∨ r = 2 ∨ r = 3 by omega) with e | e | e | e <;> subst e
    all_goals first | exact absurd rfl h1 | exact absurd rfl h2 | (rw [fw_t_q]; rfl) | (rw [fw_t_o (by decide) (by decide)]; assumption))]
  rw [(fw_sy (fw_ok_t (p := 1) (q := 2) h (by decide) (by decide) (by decide)) (p := 0) (q := 1) (by decide) (by decide) (by decide)).2, fw_t_p (by decide), fw_t_o (by decide) (by decide)]
theorem fw_v3_13 (h : fw_ok D T) (hd : fw_lf (T 3) = true) : ((at_co D 24 (T 1) (T 3) : Int) + fw_f2 D (fw_t D T 1 3)) = fw_m3 D (T 0) (T 1) (T 2) := by
  have hk := fw_ok_t (p := 1) (q := 3) h (by decide) (by decide) (by decide)
  have zz := fw_zs (D := D) hd (T 1)
  rw [fw_2m_3 hk (by rw [fw_t_q]; rfl), zz.2.1, fw_t_p (by decide), zz.2.2.2, fw_t_o (by decide) (by decide), fw_t_o (by decide) (by decide)]
  exact Int.zero_add _
theorem fw_v3_23 (h : fw_ok D T) (hd : fw_lf (T 3) = true) : ((at_co D 24 (T 2) (T 3) : Int) + fw_f2 D (fw_t D T 2 3)) = fw_m3 D (T 0) (T 1) (T 2) := by
  have hk := fw_ok_t (p := 2) (q := 3) h (by decide) (by decide) (by decide)
  have zz := fw_zs (D := D) hd (T 2)
  rw [fw_2m_3 hk (by rw [fw_t_q]; rfl), zz.2.1, fw_t_p (by decide), zz.2.2.2, fw_t_o (by decide) (by decide), fw_t_o (by decide) (by decide)]
  exact Int.zero_add _
theorem fr_all_4 (h : fw_ok D T) (hl : 0 ≤ l) : fr_all D 4 l T = fw_f3 D T := by
  have s01 : ∀ a, fr_s1 D 4 l T 0 1 a = fw_le a (l + ((at_co D 24 (T 0) (T 1) : Int) + fw_f2 D (fw_t D T 0 1))) := by
    intro a
    unfold fr_s1
    rw [fr_4_1 (fw_ok_t h (by decide) (by decide) (by decide)) (by rw [fw_t_q]; rfl) (by omega), Int.add_assoc]
  have g01 : 0 ≤ ((at_co D 24 (T 0) (T 1) : Int) + fw_f2 D (fw_t D T 0 1)) := by
    have := fw_f2_0 (D := D) (T := fw_t D T 0 1)
    omega
  have s02 : ∀ a, fr_s1 D 4 l T 0 2 a = fw_le a (l + ((at_co D 24 (T 0) (T 2) : Int) + fw_f2 D (fw_t D T 0 2))) := by
    intro a
    unfold fr_s1
    rw [fr_4_2 (fw_ok_t h (by decide) (by decide) (by decide)) (by rw [fw_t_q]; rfl) (by omega), Int.add_assoc]
  have g02 : 0 ≤ ((at_co D 24 (T 0) (T 2) : Int) + fw_f2 D (fw_t D T 0 2)) := by
    have := fw_f2_0 (D := D) (T := fw_t D T 0 2)
    omega
  have s03 : ∀ a, fr_s1 D 4 l T 0 3 a = fw_le a (l + ((at_co D 24 (T 0) (T 3) : Int) + fw_f2 D (fw_t D T 0 3))) := by
    intro a
    unfold fr_s1
    rw [fr_4_3 (fw_ok_t h (by decide) (by decide) (by decide)) (by rw [fw_t_q]; rfl) (by omega), Int.add_assoc]
  have g03 : 0 ≤ ((at_co D 24 (T 0) (T 3) : Int) + fw_f2 D (fw_t D T 0 3)) := by
    have := fw_f2_0 (D := D) (T := fw_t D T 0 3)
    omega
  have s12 : ∀ a, fr_s1 D 4 l T 1 2 a = fw_le a (l + ((at_co D 24 (T 1) (T 2) : Int) + fw_f2 D (fw_t D T 1 2))) := by
    intro a
    unfold fr_s1
    rw [fr_4_2 (fw_ok_t h (by decide) (by decide) (by decide)) (by rw [fw_t_q]; rfl) (by omega), Int.add_assoc]
  have g12 : 0 ≤ ((at_co D 24 (T 1) (T 2) : Int) + fw_f2 D (fw_t D T 1 2)) := by
    have := fw_f2_0 (D := D) (T := fw_t D T 1 2)
    omega
  have s13 : ∀ a, fr_s1 D 4 l T 1 3 a = fw_le a (l + ((at_co D 24 (T 1) (T 3) : Int) + fw_f2 D (fw_t D T 1 3))) := by
    intro a
    unfold fr_s1
    rw [fr_4_3 (fw_ok_t h (by decide) (by decide) (by decide)) (by rw [fw_t_q]; rfl) (by omega), Int.add_assoc]
  have g13 : 0 ≤ ((at_co D 24 (T 1) (T 3) : Int) + fw_f2 D (fw_t D T 1 3)) := by
    have := fw_f2_0 (D := D) (T := fw_t D T 1 3)
    omega
  have s23 : ∀ a, fr_s1 D 4 l T 2 3 a = fw_le a (l + ((at_co D 24 (T 2) (T 3) : Int) + fw_f2 D (fw_t D T 2 3))) := by
    intro a
    unfold fr_s1
    rw [fr_4_3 (fw_ok_t h (by decide) (by decide) (by decide)) (by rw [fw_t_q]; rfl) (by omega), Int.add_assoc]
  have g23 : 0 ≤ ((at_co D 24 (T 2) (T 3) : Int) + fw_f2 D (fw_t D T 2 3)) := by
    have := fw_f2_0 (D := D) (T := fw_t D T 2 3)
    omega
  have A : fr_all D 4 l T = (min (min (min (min (min ((at_co D 24 (T 0) (T 1) : Int) + fw_f2 D (fw_t D T 0 1)) ((at_co D 24 (T 0) (T 2) : Int) + fw_f2 D (fw_t D T 0 2))) ((at_co D 24 (T 0) (T 3) : Int) + fw_f2 D (fw_t D T 0 3))) ((at_co D 24 (T 1) (T 2) : Int) + fw_f2 D (fw_t D T 1 2))) ((at_co D 24 (T 1) (T 3) : Int) + fw_f2 D (fw_t D T 1 3))) ((at_co D 24 (T 2) (T 3) : Int) + fw_f2 D (fw_t D T 2 3))) := by
    unfold fr_all
    rw [lp_4, s01, s02, s03, s12, s13, s23, fw_n6 (by omega) (by omega) (by omega) (by omega) (by omega), fw_mn, fw_mn, fw_mn, fw_mn, fw_mn, if_neg (by omega)]
    omega
  rw [A]
  by_cases c0 : fw_lf (T 0) = true
  · rw [fw_3m_0 h c0, fw_v0_01 h c0, fw_v0_02 h c0, fw_v0_03 h c0, fw_v0_12 h c0, fw_v0_13 h c0, fw_v0_23 h c0]
    have hM : fw_m3 D (T 1) (T 2) (T 3) = min (min ((at_co D 24 (T 1) (T 2) : Int) + (at_co D 24 (at_jn D 24 (T 1) (T 2)) (T 3) : Int)) ((at_co D 24 (T 1) (T 3) : Int) + (at_co D 24 (at_jn D 24 (T 1) (T 3)) (T 2) : Int))) ((at_co D 24 (T 2) (T 3) : Int) + (at_co D 24 (at_jn D 24 (T 2) (T 3)) (T 1) : Int)) := rfl
    omega
  by_cases c1 : fw_lf (T 1) = true
  · rw [fw_3m_1 h c1, fw_v1_01 h c1, fw_v1_02 h c1, fw_v1_03 h c1, fw_v1_12 h c1, fw_v1_13 h c1, fw_v1_23 h c1]
    have hM : fw_m3 D (T 0) (T 2) (T 3) = min (min ((at_co D 24 (T 0) (T 2) : Int) + (at_co D 24 (at_jn D 24 (T 0) (T 2)) (T 3) : Int)) ((at_co D 24 (T 0) (T 3) : Int) + (at_co D 24 (at_jn D 24 (T 0) (T 3)) (T 2) : Int))) ((at_co D 24 (T 2) (T 3) : Int) + (at_co D 24 (at_jn D 24 (T 2) (T 3)) (T 0) : Int)) := rfl
    omega
  by_cases c2 : fw_lf (T 2) = true
  · rw [fw_3m_2 h c2, fw_v2_01 h c2, fw_v2_02 h c2, fw_v2_03 h c2, fw_v2_12 h c2, fw_v2_13 h c2, fw_v2_23 h c2]
    have hM : fw_m3 D (T 0) (T 1) (T 3) = min (min ((at_co D 24 (T 0) (T 1) : Int) + (at_co D 24 (at_jn D 24 (T 0) (T 1)) (T 3) : Int)) ((at_co D 24 (T 0) (T 3) : Int) + (at_co D 24 (at_jn D 24 (T 0) (T 3)) (T 1) : Int))) ((at_co D 24 (T 1) (T 3) : Int) + (at_co D 24 (at_jn D 24 (T 1) (T 3)) (T 0) : Int)) := rfl
    omega
  by_cases c3 : fw_lf (T 3) = true
  · rw [fw_3m_3 h c3, fw_v3_01 h c3, fw_v3_02 h c3, fw_v3_03 h c3, fw_v3_12 h c3, fw_v3_13 h c3, fw_v3_23 h c3]
    have hM : fw_m3 D (T 0) (T 1) (T 2) = min (min ((at_co D 24 (T 0) (T 1) : Int) + (at_co D 24 (at_jn D 24 (T 0) (T 1)) (T 2) : Int)) ((at_co D 24 (T 0) (T 2) : Int) + (at_co D 24 (at_jn D 24 (T 0) (T 2)) (T 1) : Int))) ((at_co D 24 (T 1) (T 2) : Int) + (at_co D 24 (at_jn D 24 (T 1) (T 2)) (T 0) : Int)) := rfl
    omega
  have B : fw_f3 D T = (min (min (min (min (min ((at_co D 24 (T 0) (T 1) : Int) + fw_f2 D (fw_t D T 0 1)) ((at_co D 24 (T 0) (T 2) : Int) + fw_f2 D (fw_t D T 0 2))) ((at_co D 24 (T 0) (T 3) : Int) + fw_f2 D (fw_t D T 0 3))) ((at_co D 24 (T 1) (T 2) : Int) + fw_f2 D (fw_t D T 1 2))) ((at_co D 24 (T 1) (T 3) : Int) + fw_f2 D (fw_t D T 1 3))) ((at_co D 24 (T 2) (T 3) : Int) + fw_f2 D (fw_t D T 2 3))) := by
    unfold fw_f3
    rw [fw_lv_eq]
    simp only [fw_st, c0, c1, c2, c3, or_self, Bool.false_eq_true, if_false]
    rw [fw_n6 g01 g02 g03 g12 g13, if_neg (by omega)]
  rw [B]
theorem fr_all_3 (h : fw_ok D T) (h3 : fw_lf (T 3) = true) (hl : 0 ≤ l) : fr_all D 3 l T = fw_f3 D T := by
  have s01 : ∀ a, fr_s1 D 3 l T 0 1 a = fw_le a (l + ((at_co D 24 (T 0) (T 1) : Int) + fw_f2 D (fw_t D T 0 1))) := by
    intro a
    unfold fr_s1
    rw [fr_3_1 (fw_ok_t h (by decide) (by decide) (by decide)) (by rw [fw_t_q]; rfl) (by rw [fw_t_o (by decide) (by decide)]; exact h3) (by omega), Int.add_assoc]
  have g01 : 0 ≤ ((at_co D 24 (T 0) (T 1) : Int) + fw_f2 D (fw_t D T 0 1)) := by
    have := fw_f2_0 (D := D) (T := fw_t D T 0 1)
    omega
  have s02 : ∀ a, fr_s1 D 3 l T 0 2 a = fw_le a (l + ((at_co D 24 (T 0) (T 2) : Int) + fw_f2 D (fw_t D T 0 2))) := by
    intro a
    unfold fr_s1
    rw [fr_3_2 (fw_ok_t h (by decide) (by decide) (by decide)) (by rw [fw_t_q]; rfl) (by rw [fw_t_o (by decide) (by decide)]; exact h3) (by omega), Int.add_assoc]
  have g02 : 0 ≤ ((at_co D 24 (T 0) (T 2) : Int) + fw_f2 D (fw_t D T 0 2)) := by
    have := fw_f2_0 (D := D) (T := fw_t D T 0 2)
    omega
  have s12 : ∀ a, fr_s1 D 3 l T 1 2 a = fw_le a (l + ((at_co D 24 (T 1) (T 2) : Int) + fw_f2 D (fw_t D T 1 2))) := by
    intro a
    unfold fr_s1
    rw [fr_3_2 (fw_ok_t h (by decide) (by decide) (by decide)) (by rw [fw_t_q]; rfl) (by rw [fw_t_o (by decide) (by decide)]; exact h3) (by omega), Int.add_assoc]
  have g12 : 0 ≤ ((at_co D 24 (T 1) (T 2) : Int) + fw_f2 D (fw_t D T 1 2)) := by
    have := fw_f2_0 (D := D) (T := fw_t D T 1 2)
    omega
  unfold fr_all
  rw [lp_3, s01, s02, s12, fw_n3 (by omega) (by omega), fw_mn, fw_mn, if_neg (by omega), fw_3m_3 h h3, fw_v3_01 h h3, fw_v3_02 h h3, fw_v3_12 h h3]
  unfold fw_m3
  omega
theorem fr_all_2 (h : fw_ok D T) (h2 : fw_lf (T 2) = true) (h3 : fw_lf (T 3) = true) (hl : 0 ≤ l) : fr_all D 2 l T = fw_f3 D T := by
  have s01 : ∀ a, fr_s1 D 2 l T 0 1 a = fw_le a (l + ((at_co D 24 (T 0) (T 1) : Int) + fw_f2 D (fw_t D T 0 1))) := by
    intro a
    unfold fr_s1
    rw [fr_2_1 (fw_ok_t h (by decide) (by decide) (by decide)) (by rw [fw_t_q]; rfl) (by rw [fw_t_o (by decide) (by decide)]; exact h2) (by rw [fw_t_o (by decide) (by decide)]; exact h3), Int.add_assoc]
  have zz := fw_zs (D := D) h2 (at_jn D 24 (T 0) (T 1))
  have v := fw_v3_01 h h3
  rw [zz.2.1] at v
  have e3 : fw_f3 D T = at_co D 24 (T 0) (T 1) := fw_3c T 0 1 h (by decide) (by decide) (fun r hr h1 h2 => by
    rcases (show r = 0 ∨ r = 1 ∨ r = 2 ∨ r = 3 by omega) with e | e | e | e <;> subst e
    all_goals first | exact absurd rfl h1 | exact absurd rfl h2 | assumption)
  unfold fr_all
  rw [lp_2, s01, fw_le_0, v, if_neg (by omega), e3]
  omega
theorem fr_all_1 (h : fw_ok D T) (h1 : fw_lf (T 1) = true) (h2 : fw_lf (T 2) = true) (h3 : fw_lf (T 3) = true) {n : Nat} (hn : n < 2) : fr_all D n l T = fw_f3 D T := by
  have e3 : fw_f3 D T = at_co D 24 (T 0) (T 1) := fw_3c T 0 1 h (by decide) (by decide) (fun r hr h1 h2 => by
    rcases (show r = 0 ∨ r = 1 ∨ r = 2 ∨ r = 3 by omega) with e | e | e | e <;> subst e
    all_goals first | exact absurd rfl h1 | exact absurd rfl h2 | assumption)
  rw [e3, (fw_zs (D := D) h1 (T 0)).2.1]
  rcases (show n = 0 ∨ n = 1 by omega) with e | e <;> subst e <;> rfl
theorem fr_all_eq (h : fw_ok D T) (hl : 0 ≤ l) {n : Nat} (hn : n ≤ 4) (ht : ∀ r, r < 4 → n ≤ r → fw_lf (T r) = true) : fr_all D n l T = fw_f3 D T := by
  rcases (show n < 2 ∨ n = 2 ∨ n = 3 ∨ n = 4 by omega) with e | e | e | e
  · exact fr_all_1 h (ht 1 (by decide) (by omega)) (ht 2 (by decide) (by omega)) (ht 3 (by decide) (by omega)) e
  · subst e
    exact fr_all_2 h (ht 2 (by decide) (by omega)) (ht 3 (by decide) (by omega)) hl
  · subst e
    exact fr_all_3 h (ht 3 (by decide) (by omega)) hl
  · subst e
    exact fr_all_4 h hl
end FEW8
