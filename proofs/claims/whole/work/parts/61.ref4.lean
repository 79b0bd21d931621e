/-! ===== the reference's join, beside the yard's ===== -/
theorem ra_ulk {f : Int → Int} {Y : Nat → Int → Int} {l v a : Int} {c : Nat} (h : ra_q f Y) (h7 : Y 0 7 ≤ 4) (hc : c = 3 ∨ c = 4 ∨ c = 5) (ha : a = (c : Int) - 1) (hl : 0 ≤ l) : ra_q (ar_u f (18 + 5 * l + a) v) (am_uy Y c l v) := by
  obtain ⟨h1, h2, h3, h4⟩ := h
  have n0 : ∀ j, am_uy Y c l v 0 j = Y 0 j := fun j => ay_uy_ne (Or.inl (by omega))
  refine ⟨?_, fun p p0 p1 => ?_, fun m m0 m1 => ?_, fun m m0 m1 m2 => ?_⟩
  · simp only [n0]
    rw [ar_u_ne (by omega), ar_u_ne (by omega), ar_u_ne (by omega), ar_u_ne (by omega), ar_u_ne (by omega), ar_u_ne (by omega), ar_u_ne (by omega), ar_u_ne (by omega), ar_u_ne (by omega)]
    exact h1
  · rw [n0] at p1
    rw [ar_u_ne (by omega), ar_u_ne (by omega), ay_uy_ne (Or.inl (by omega)), ay_uy_ne (Or.inl (by omega))]
    exact h2 p p0 p1
  · rw [n0] at m1
    rw [ar_u_ne (by omega), ar_u_ne (by omega), ay_uy_ne (Or.inl (by omega)), ay_uy_ne (Or.inl (by omega))]
    exact h3 m m0 m1
  · rw [n0] at m1
    rw [ay_uy_ne (Or.inl (by omega))] at m2
    have := h4 m m0 m1 m2
    rw [ay_uy_x, ay_uy_x, ay_uy_x]
    unfold ar_u
    refine ⟨?_, ?_, ?_⟩
    · by_cases q : m = l ∧ c = 3
      · rw [if_pos (by omega), if_pos ⟨q.2.symm, q.1⟩]
      · rw [if_neg (by omega), if_neg (fun z => q ⟨z.2, z.1.symm⟩)]
        exact this.1
    · by_cases q : m = l ∧ c = 4
      · rw [if_pos (by omega), if_pos ⟨q.2.symm, q.1⟩]
      · rw [if_neg (by omega), if_neg (fun z => q ⟨z.2, z.1.symm⟩)]
        exact this.2.1
    · by_cases q : m = l ∧ c = 5
      · rw [if_pos (by omega), if_pos ⟨q.2.symm, q.1⟩]
      · rw [if_neg (by omega), if_neg (fun z => q ⟨z.2, z.1.symm⟩)]
        exact this.2.2
theorem ra_udm {f : Int → Int} {Y : Nat → Int → Int} {l v : Int} (h : ra_q f Y) (h7 : Y 0 7 ≤ 4) (hl : 0 ≤ l) : ra_q (ar_u f (18 + 5 * l + 0) v) (am_uy Y 1 l v) := by
  obtain ⟨h1, h2, h3, h4⟩ := h
  have n0 : ∀ j, am_uy Y 1 l v 0 j = Y 0 j := fun j => ay_uy_ne (Or.inl (by omega))
  refine ⟨?_, fun p p0 p1 => ?_, fun m m0 m1 => ?_, fun m m0 m1 m2 => ?_⟩
  · simp only [n0]
    rw [ar_u_ne (by omega), ar_u_ne (by omega), ar_u_ne (by omega), ar_u_ne (by omega), ar_u_ne (by omega), ar_u_ne (by omega), ar_u_ne (by omega), ar_u_ne (by omega), ar_u_ne (by omega)]
    exact h1
  · rw [n0] at p1
    rw [ar_u_ne (by omega), ar_u_ne (by omega), ay_uy_ne (Or.inl (by omega)), ay_uy_ne (Or.inl (by omega))]
    exact h2 p p0 p1
  · rw [n0] at m1
    rw [ar_u_ne (show 18 + 5 * m + 1 ≠ 18 + 5 * l + 0 by omega), ay_uy_ne (c' := 2) (Or.inl (by omega)), ay_uy_x]
    refine ⟨?_, (h3 m m0 m1).2⟩
    unfold ar_u
    by_cases q : m = l
    · rw [if_pos (by omega), if_pos ⟨rfl, q⟩]
    · rw [if_neg (by omega), if_neg (fun z => q z.2)]
      exact (h3 m m0 m1).1
  · rw [n0] at m1
    rw [ay_uy_ne (Or.inl (by omega))] at m2
    rw [ar_u_ne (by omega), ar_u_ne (by omega), ar_u_ne (by omega), ay_uy_ne (Or.inl (by omega)), ay_uy_ne (Or.inl (by omega)), ay_uy_ne (Or.inl (by omega))]
    exact h4 m m0 m1 m2
theorem ra_uhm {f : Int → Int} {Y : Nat → Int → Int} {l v : Int} (h : ra_q f Y) (h7 : Y 0 7 ≤ 4) (hl : 0 ≤ l) (hv : v = -1 ∨ Y 2 l ≠ -1) : ra_q (ar_u f (18 + 5 * l + 1) v) (am_uy Y 2 l v) := by
  obtain ⟨h1, h2, h3, h4⟩ := h
  have n0 : ∀ j, am_uy Y 2 l v 0 j = Y 0 j := fun j => ay_uy_ne (Or.inl (by omega))
  refine ⟨?_, fun p p0 p1 => ?_, fun m m0 m1 => ?_, fun m m0 m1 m2 => ?_⟩
  · simp only [n0]
    rw [ar_u_ne (by omega), ar_u_ne (by omega), ar_u_ne (by omega), ar_u_ne (by omega), ar_u_ne (by omega), ar_u_ne (by omega), ar_u_ne (by omega), ar_u_ne (by omega), ar_u_ne (by omega)]
    exact h1
  · rw [n0] at p1
    rw [ar_u_ne (by omega), ar_u_ne (by omega), ay_uy_ne (Or.inl (by omega)), ay_uy_ne (Or.inl (by omega))]
    exact h2 p p0 p1
  · rw [n0] at m1
    rw [ar_u_ne (show 18 + 5 * m + 0 ≠ 18 + 5 * l + 1 by omega), ay_uy_ne (c' := 1) (Or.inl (by omega)), ay_uy_x]
    refine ⟨(h3 m m0 m1).1, ?_⟩
    unfold ar_u
    by_cases q : m = l
    · rw [if_pos (by omega), if_pos ⟨rfl, q⟩]
    · rw [if_neg (by omega), if_neg (fun z => q z.2)]
      exact (h3 m m0 m1).2
  · rw [n0] at m1
    have m3 : Y 2 m ≠ -1 := by
      rw [ay_uy_x] at m2
      by_cases q : m = l
      · rw [if_pos ⟨rfl, q⟩] at m2
        rw [q]
        rcases hv with w | w
        · exact absurd w m2
        · exact w
      · rw [if_neg (fun z => q z.2)] at m2
        exact m2
    rw [ar_u_ne (by omega), ar_u_ne (by omega), ar_u_ne (by omega), ay_uy_ne (Or.inl (by omega)), ay_uy_ne (Or.inl (by omega)), ay_uy_ne (Or.inl (by omega))]
    exact h4 m m0 m1 m3
theorem ra_utp {f : Int → Int} {Y : Nat → Int → Int} {p v : Int} (h : ra_q f Y) (h7 : Y 0 7 ≤ 4) (hp : 0 ≤ p ∧ p < 4) : ra_q (ar_u f (10 + 2 * p) v) (am_uy Y 6 p v) := by
  obtain ⟨h1, h2, h3, h4⟩ := h
  have n0 : ∀ j, am_uy Y 6 p v 0 j = Y 0 j := fun j => ay_uy_ne (Or.inl (by omega))
  refine ⟨?_, fun r p0 p1 => ?_, fun m m0 m1 => ?_, fun m m0 m1 m2 => ?_⟩
  · simp only [n0]
    rw [ar_u_ne (by omega), ar_u_ne (by omega), ar_u_ne (by omega), ar_u_ne (by omega), ar_u_ne (by omega), ar_u_ne (by omega), ar_u_ne (by omega), ar_u_ne (by omega), ar_u_ne (by omega)]
    exact h1
  · rw [n0] at p1
    rw [ar_u_ne (show 11 + 2 * r ≠ 10 + 2 * p by omega), ay_uy_ne (c' := 7) (Or.inl (by omega)), ay_uy_x]
    refine ⟨?_, (h2 r p0 p1).2⟩
    unfold ar_u
    by_cases q : r = p
    · rw [if_pos (by omega), if_pos ⟨rfl, q⟩]
    · rw [if_neg (by omega), if_neg (fun z => q z.2)]
      exact (h2 r p0 p1).1
  · rw [n0] at m1
    rw [ar_u_ne (by omega), ar_u_ne (by omega), ay_uy_ne (Or.inl (by omega)), ay_uy_ne (Or.inl (by omega))]
    exact h3 m m0 m1
  · rw [n0] at m1
    rw [ay_uy_ne (Or.inl (by omega))] at m2
    rw [ar_u_ne (by omega), ar_u_ne (by omega), ar_u_ne (by omega), ay_uy_ne (Or.inl (by omega)), ay_uy_ne (Or.inl (by omega)), ay_uy_ne (Or.inl (by omega))]
    exact h4 m m0 m1 m2
theorem ra_ucv {f : Int → Int} {Y : Nat → Int → Int} {p v : Int} (h : ra_q f Y) (h7 : Y 0 7 ≤ 4) (hp : 0 ≤ p ∧ p < 4) : ra_q (ar_u f (11 + 2 * p) v) (am_uy Y 7 p v) := by
  obtain ⟨h1, h2, h3, h4⟩ := h
  have n0 : ∀ j, am_uy Y 7 p v 0 j = Y 0 j := fun j => ay_uy_ne (Or.inl (by omega))
  refine ⟨?_, fun r p0 p1 => ?_, fun m m0 m1 => ?_, fun m m0 m1 m2 => ?_⟩
  · simp only [n0]
    rw [ar_u_ne (by omega), ar_u_ne (by omega), ar_u_ne (by omega), ar_u_ne (by omega), ar_u_ne (by omega), ar_u_ne (by omega), ar_u_ne (by omega), ar_u_ne (by omega), ar_u_ne (by omega)]
    exact h1
  · rw [n0] at p1
    rw [ar_u_ne (show 10 + 2 * r ≠ 11 + 2 * p by omega), ay_uy_ne (c' := 6) (Or.inl (by omega)), ay_uy_x]
    refine ⟨(h2 r p0 p1).1, ?_⟩
    unfold ar_u
    by_cases q : r = p
    · rw [if_pos (by omega), if_pos ⟨rfl, q⟩]
    · rw [if_neg (by omega), if_neg (fun z => q z.2)]
      exact (h2 r p0 p1).2
  · rw [n0] at m1
    rw [ar_u_ne (by omega), ar_u_ne (by omega), ay_uy_ne (Or.inl (by omega)), ay_uy_ne (Or.inl (by omega))]
    exact h3 m m0 m1
  · rw [n0] at m1
    rw [ay_uy_ne (Or.inl (by omega))] at m2
    rw [ar_u_ne (by omega), ar_u_ne (by omega), ar_u_ne (by omega), ay_uy_ne (Or.inl (by omega)), ay_uy_ne (Or.inl (by omega)), ay_uy_ne (Or.inl (by omega))]
    exact h4 m m0 m1 m2
theorem ra_us2 {f : Int → Int} {Y : Nat → Int → Int} {v : Int} (h : ra_q f Y) : ra_q (ar_u f 2 v) (am_uy Y 0 9 v) := by
  obtain ⟨h1, h2, h3, h4⟩ := h
  have n7 : am_uy Y 0 9 v 0 7 = Y 0 7 := ay_uy_ne (Or.inr (by decide))
  have n8 : am_uy Y 0 9 v 0 8 = Y 0 8 := ay_uy_ne (Or.inr (by decide))
  have nc : ∀ c x, c ≠ 0 → am_uy Y 0 9 v c x = Y c x := fun c x h => ay_uy_ne (Or.inl h)
  refine ⟨?_, fun p p0 p1 => ?_, fun m m0 m1 => ?_, fun m m0 m1 m2 => ?_⟩
  · simp only [ay_uy_x, ar_u]
    simp
    omega
  · rw [n7] at p1
    rw [ar_u_ne (by omega), ar_u_ne (by omega), nc 6 p (by decide), nc 7 p (by decide)]
    exact h2 p p0 p1
  · rw [n8] at m1
    rw [ar_u_ne (by omega), ar_u_ne (by omega), nc 1 m (by decide), nc 2 m (by decide)]
    exact h3 m m0 m1
  · rw [n8] at m1
    rw [nc 2 m (by decide)] at m2
    rw [ar_u_ne (by omega), ar_u_ne (by omega), ar_u_ne (by omega), nc 3 m (by decide), nc 4 m (by decide), nc 5 m (by decide)]
    exact h4 m m0 m1 m2
theorem ra_us3 {f : Int → Int} {Y : Nat → Int → Int} {v : Int} (h : ra_q f Y) : ra_q (ar_u f 3 v) (am_uy Y 0 10 v) := by
  obtain ⟨h1, h2, h3, h4⟩ := h
  have n7 : am_uy Y 0 10 v 0 7 = Y 0 7 := ay_uy_ne (Or.inr (by decide))
  have n8 : am_uy Y 0 10 v 0 8 = Y 0 8 := ay_uy_ne (Or.inr (by decide))
  have nc : ∀ c x, c ≠ 0 → am_uy Y 0 10 v c x = Y c x := fun c x h => ay_uy_ne (Or.inl h)
  refine ⟨?_, fun p p0 p1 => ?_, fun m m0 m1 => ?_, fun m m0 m1 m2 => ?_⟩
  · simp only [ay_uy_x, ar_u]
    simp
    omega
  · rw [n7] at p1
    rw [ar_u_ne (by omega), ar_u_ne (by omega), nc 6 p (by decide), nc 7 p (by decide)]
    exact h2 p p0 p1
  · rw [n8] at m1
    rw [ar_u_ne (by omega), ar_u_ne (by omega), nc 1 m (by decide), nc 2 m (by decide)]
    exact h3 m m0 m1
  · rw [n8] at m1
    rw [nc 2 m (by decide)] at m2
    rw [ar_u_ne (by omega), ar_u_ne (by omega), ar_u_ne (by omega), nc 3 m (by decide), nc 4 m (by decide), nc 5 m (by decide)]
    exact h4 m m0 m1 m2
theorem ra_us4 {f : Int → Int} {Y : Nat → Int → Int} {v : Int} (h : ra_q f Y) : ra_q (ar_u f 4 v) (am_uy Y 0 11 v) := by
  obtain ⟨h1, h2, h3, h4⟩ := h
  have n7 : am_uy Y 0 11 v 0 7 = Y 0 7 := ay_uy_ne (Or.inr (by decide))
  have n8 : am_uy Y 0 11 v 0 8 = Y 0 8 := ay_uy_ne (Or.inr (by decide))
  have nc : ∀ c x, c ≠ 0 → am_uy Y 0 11 v c x = Y c x := fun c x h => ay_uy_ne (Or.inl h)
  refine ⟨?_, fun p p0 p1 => ?_, fun m m0 m1 => ?_, fun m m0 m1 m2 => ?_⟩
  · simp only [ay_uy_x, ar_u]
    simp
    omega
  · rw [n7] at p1
    rw [ar_u_ne (by omega), ar_u_ne (by omega), nc 6 p (by decide), nc 7 p (by decide)]
    exact h2 p p0 p1
  · rw [n8] at m1
    rw [ar_u_ne (by omega), ar_u_ne (by omega), nc 1 m (by decide), nc 2 m (by decide)]
    exact h3 m m0 m1
  · rw [n8] at m1
    rw [nc 2 m (by decide)] at m2
    rw [ar_u_ne (by omega), ar_u_ne (by omega), ar_u_ne (by omega), nc 3 m (by decide), nc 4 m (by decide), nc 5 m (by decide)]
    exact h4 m m0 m1 m2
theorem ra_us5 {f : Int → Int} {Y : Nat → Int → Int} {v : Int} (h : ra_q f Y) : ra_q (ar_u f 5 v) (am_uy Y 0 12 v) := by
  obtain ⟨h1, h2, h3, h4⟩ := h
  have n7 : am_uy Y 0 12 v 0 7 = Y 0 7 := ay_uy_ne (Or.inr (by decide))
  have n8 : am_uy Y 0 12 v 0 8 = Y 0 8 := ay_uy_ne (Or.inr (by decide))
  have nc : ∀ c x, c ≠ 0 → am_uy Y 0 12 v c x = Y c x := fun c x h => ay_uy_ne (Or.inl h)
  refine ⟨?_, fun p p0 p1 => ?_, fun m m0 m1 => ?_, fun m m0 m1 m2 => ?_⟩
  · simp only [ay_uy_x, ar_u]
    simp
    omega
  · rw [n7] at p1
    rw [ar_u_ne (by omega), ar_u_ne (by omega), nc 6 p (by decide), nc 7 p (by decide)]
    exact h2 p p0 p1
  · rw [n8] at m1
    rw [ar_u_ne (by omega), ar_u_ne (by omega), nc 1 m (by decide), nc 2 m (by decide)]
    exact h3 m m0 m1
  · rw [n8] at m1
    rw [nc 2 m (by decide)] at m2
    rw [ar_u_ne (by omega), ar_u_ne (by omega), ar_u_ne (by omega), nc 3 m (by decide), nc 4 m (by decide), nc 5 m (by decide)]
    exact h4 m m0 m1 m2
theorem ra_us6 {f : Int → Int} {Y : Nat → Int → Int} {v : Int} (h : ra_q f Y) : ra_q (ar_u f 6 v) (am_uy Y 0 13 v) := by
  obtain ⟨h1, h2, h3, h4⟩ := h
  have n7 : am_uy Y 0 13 v 0 7 = Y 0 7 := ay_uy_ne (Or.inr (by decide))
  have n8 : am_uy Y 0 13 v 0 8 = Y 0 8 := ay_uy_ne (Or.inr (by decide))
  have nc : ∀ c x, c ≠ 0 → am_uy Y 0 13 v c x = Y c x := fun c x h => ay_uy_ne (Or.inl h)
  refine ⟨?_, fun p p0 p1 => ?_, fun m m0 m1 => ?_, fun m m0 m1 m2 => ?_⟩
  · simp only [ay_uy_x, ar_u]
    simp
    omega
  · rw [n7] at p1
    rw [ar_u_ne (by omega), ar_u_ne (by omega), nc 6 p (by decide), nc 7 p (by decide)]
    exact h2 p p0 p1
  · rw [n8] at m1
    rw [ar_u_ne (by omega), ar_u_ne (by omega), nc 1 m (by decide), nc 2 m (by decide)]
    exact h3 m m0 m1
  · rw [n8] at m1
    rw [nc 2 m (by decide)] at m2
    rw [ar_u_ne (by omega), ar_u_ne (by omega), ar_u_ne (by omega), nc 3 m (by decide), nc 4 m (by decide), nc 5 m (by decide)]
    exact h4 m m0 m1 m2
theorem ra_us7 {f : Int → Int} {Y : Nat → Int → Int} {v : Int} (h : ra_q f Y) : ra_q (ar_u f 7 v) (am_uy Y 0 14 v) := by
  obtain ⟨h1, h2, h3, h4⟩ := h
  have n7 : am_uy Y 0 14 v 0 7 = Y 0 7 := ay_uy_ne (Or.inr (by decide))
  have n8 : am_uy Y 0 14 v 0 8 = Y 0 8 := ay_uy_ne (Or.inr (by decide))
  have nc : ∀ c x, c ≠ 0 → am_uy Y 0 14 v c x = Y c x := fun c x h => ay_uy_ne (Or.inl h)
  refine ⟨?_, fun p p0 p1 => ?_, fun m m0 m1 => ?_, fun m m0 m1 m2 => ?_⟩
  · simp only [ay_uy_x, ar_u]
    simp
    omega
  · rw [n7] at p1
    rw [ar_u_ne (by omega), ar_u_ne (by omega), nc 6 p (by decide), nc 7 p (by decide)]
    exact h2 p p0 p1
  · rw [n8] at m1
    rw [ar_u_ne (by omega), ar_u_ne (by omega), nc 1 m (by decide), nc 2 m (by decide)]
    exact h3 m m0 m1
  · rw [n8] at m1
    rw [nc 2 m (by decide)] at m2
    rw [ar_u_ne (by omega), ar_u_ne (by omega), ar_u_ne (by omega), nc 3 m (by decide), nc 4 m (by decide), nc 5 m (by decide)]
    exact h4 m m0 m1 m2
theorem ra_us9 {f : Int → Int} {Y : Nat → Int → Int} {v : Int} (h : ra_q f Y) : ra_q (ar_u f 9 v) (am_uy Y 0 16 v) := by
  obtain ⟨h1, h2, h3, h4⟩ := h
  have n7 : am_uy Y 0 16 v 0 7 = Y 0 7 := ay_uy_ne (Or.inr (by decide))
  have n8 : am_uy Y 0 16 v 0 8 = Y 0 8 := ay_uy_ne (Or.inr (by decide))
  have nc : ∀ c x, c ≠ 0 → am_uy Y 0 16 v c x = Y c x := fun c x h => ay_uy_ne (Or.inl h)
  refine ⟨?_, fun p p0 p1 => ?_, fun m m0 m1 => ?_, fun m m0 m1 m2 => ?_⟩
  · simp only [ay_uy_x, ar_u]
    simp
    omega
  · rw [n7] at p1
    rw [ar_u_ne (by omega), ar_u_ne (by omega), nc 6 p (by decide), nc 7 p (by decide)]
    exact h2 p p0 p1
  · rw [n8] at m1
    rw [ar_u_ne (by omega), ar_u_ne (by omega), nc 1 m (by decide), nc 2 m (by decide)]
    exact h3 m m0 m1
  · rw [n8] at m1
    rw [nc 2 m (by decide)] at m2
    rw [ar_u_ne (by omega), ar_u_ne (by omega), ar_u_ne (by omega), nc 3 m (by decide), nc 4 m (by decide), nc 5 m (by decide)]
    exact h4 m m0 m1 m2
theorem ra_u8 {f : Int → Int} {Y : Nat → Int → Int} {v : Int} (h : ra_q f Y) : ra_q (ar_u f 8 v) Y := by
  obtain ⟨h1, h2, h3, h4⟩ := h
  refine ⟨?_, fun p p0 p1 => ?_, fun m m0 m1 => ?_, fun m m0 m1 m2 => ?_⟩
  · rw [ar_u_ne (by omega), ar_u_ne (by omega), ar_u_ne (by omega), ar_u_ne (by omega), ar_u_ne (by omega), ar_u_ne (by omega), ar_u_ne (by omega), ar_u_ne (by omega), ar_u_ne (by omega)]
    exact h1
  · rw [ar_u_ne (by omega), ar_u_ne (by omega)]
    exact h2 p p0 p1
  · rw [ar_u_ne (by omega), ar_u_ne (by omega)]
    exact h3 m m0 m1
  · rw [ar_u_ne (by omega), ar_u_ne (by omega), ar_u_ne (by omega)]
    exact h4 m m0 m1 m2
theorem ay_cm {Y : Nat → Int → Int} {c c' : Nat} {i v i' v' : Int} (h : c ≠ c' ∨ i ≠ i') : am_uy (am_uy Y c i v) c' i' v' = am_uy (am_uy Y c' i' v') c i v := by
  funext b j
  rw [ay_uy_x, ay_uy_x, ay_uy_x, ay_uy_x]
  repeat' split
  all_goals first | rfl | (exfalso; omega)
/-- a run of the reference's method ends with a row that stands beside the yard -/
def ra_to (E : am_E) (M : am_M) (d : Nat) (f : Int → Int) (v : Option am_V) (Y : Nat → Int → Int) (X : Option am_Rs) : Prop := ∃ f', X = some (.inl v, E, ar_s M d f') ∧ ra_q f' Y ∧ f' 8 = f 8
section REF4
variable {E : am_E} {M : am_M} {d : Nat} {Y : Nat → Int → Int} {p q l m w v : Int}
theorem ra_124 {f : Int → Int} (hk : am_kd E (d, 0) = some (6, 138)) (hl : 0 ≤ l ∧ l < 24) (hw : 0 ≤ w ∧ w < 5) : am_den 124 (0, [some (am_A (d, 0)), some (am_I l), some (am_I w), some (am_I v)], [], E, ar_s M d f) = some (.inl none, E, ar_s M d (ar_u f (18 + 5 * l + w) v)) := by
  rw [ar_124 hk hl hw, ar_s_at, ar_s_s]
theorem ra_123 {f : Int → Int} (hk : am_kd E (d, 0) = some (6, 138)) (hl : 0 ≤ l ∧ l < 24) (hw : 0 ≤ w ∧ w < 5) : am_den 123 (0, [some (am_A (d, 0)), some (am_I l), some (am_I w)], [], E, ar_s M d f) = some (.inl (some (am_I (f (18 + 5 * l + w)))), E, ar_s M d f) := by
  rw [ar_123 hk hl hw, ar_s_at]
theorem ra_140 {f : Int → Int} (hk : am_kd E (d, 0) = some (6, 138)) (hq : ra_q f Y) (h7 : Y 0 7 ≤ 4) (hz : -1 ≤ q ∧ q < 24) (hl : -1 ≤ l ∧ l < 24) : ra_to E M d f none (am_pt (am_pt Y 4 24 q l) 3 24 l q) (am_den 140 (0, [some (am_A (d, 0)), some (am_I q), some (am_I l)], [], E, ar_s M d f)) := by
  have two : ∀ (f1 : Int → Int) (Y1 : Nat → Int → Int), ra_q f1 Y1 → Y1 0 7 ≤ 4 → f1 8 = f 8 → ra_to E M d f none (am_pt Y1 3 24 l q) (am_den 140 (12, [some (am_A (d, 0)), some (am_I q), some (am_I l)], [], E, ar_s M d f1)) := by
    intro f1 Y1 hq1 h71 h8
    rw [am_B140_12]
    by_cases b : l = -1
    · refine ⟨f1, ?_, ?_, h8⟩
      · rw [if_pos b, am_B140_24]
      · rw [ay_pt_no (by omega)]
        exact hq1
    · refine ⟨ar_u f1 (18 + 5 * l + 2) q, ?_, ?_, ?_⟩
      · rw [if_neg b, am_B140_17, ra_124 hk (by omega) (by omega), am_bd_u]
        simp only [Nat.reduceAdd]
        rw [am_B140_24]
      · rw [ay_pt_in (by omega)]
        exact ra_ulk hq1 h71 (Or.inl rfl) (by decide) (by omega)
      · rw [ar_u_ne (by omega)]
        exact h8
  rw [am_B140_0]
  by_cases a : q = -1
  · rw [if_pos a, ay_pt_no (i := q) (by omega)]
    exact two f Y hq h7 rfl
  · rw [if_neg a, am_B140_5, ra_124 hk (by omega) (by omega), am_bd_u, ay_pt_in (i := q) (by omega)]
    simp only [Nat.reduceAdd]
    refine two _ _ (ra_ulk hq h7 (Or.inr (Or.inl rfl)) (by decide) (by omega)) (by rw [ay_uy_ne (Or.inl (by decide))]; exact h7) (ar_u_ne (by omega))
theorem ra_to_tr {f g : Int → Int} {v : Option am_V} {X : Option am_Rs} (h8 : g 8 = f 8) (h : ra_to E M d g v Y X) : ra_to E M d f v Y X := by
  obtain ⟨f', a, b, c⟩ := h
  exact ⟨f', a, b, by rw [c, h8]⟩
/-- nodes are logs that lie in piles -/
def ra_on (Y : Nat → Int → Int) (t : at_T) : Prop := ∀ x, 0 < at_ct t x → x < Y 0 8 ∧ Y 2 x ≠ -1
theorem ra_141e {f : Int → Int} (hk : am_kd E (d, 0) = some (6, 138)) (hq : ra_q f Y) (h7 : Y 0 7 ≤ 4) {o t z x1 x2 : Int} {u7 u8 u9 : Option am_V} (hz : -1 ≤ z ∧ z < 24) (ho : -1 ≤ o ∧ o < 24) (hr : -1 ≤ q ∧ q < 24) (htz : t = -1 ↔ z = -1) : ra_to E M d f (some (am_I (am_jf Y o q t z).2)) (am_jf Y o q t z).1 (am_den 141 (125, [some (am_A (d, 0)), some (am_I x1), some (am_I x2), some (am_I t), some (am_I z), some (am_I o), some (am_I q), u7, u8, u9], [], E, ar_s M d f)) := by
  have go : ∀ r : Int, -1 ≤ r ∧ r < 24 → ra_to E M d f (some (am_I (if t = -1 then r else t))) (am_pt (am_pt Y 4 24 z r) 3 24 r z) (am_den 141 (138, [some (am_A (d, 0)), some (am_I x1), some (am_I x2), some (am_I t), some (am_I z), some (am_I o), some (am_I q), u7, u8, u9], [am_I r], E, ar_s M d f)) := by
    intro r hr
    obtain ⟨f', e, hq', h8⟩ := ra_140 (M := M) (q := z) (l := r) hk hq h7 hz hr
    refine ⟨f', ?_, hq', h8⟩
    rw [am_B141_138, e, am_bd_u]
    simp only [Nat.reduceAdd]
    rw [am_B141_148]
    by_cases h : z = -1
    · rw [if_neg (fun w => w h), am_B141_154, am_B141_160, if_pos (htz.mpr h)]
    · rw [if_pos h, am_B141_159, am_B141_160, if_neg (fun w => h (htz.mp w))]
  unfold am_jf
  rw [am_B141_125]
  by_cases h : o = -1
  · rw [if_neg (show ¬ o ≠ -1 from fun w => w h), am_B141_131, if_pos h]
    exact go q hr
  · rw [if_pos (show o ≠ -1 from h), am_B141_136, if_neg h]
    exact go o ho
theorem ra_141c {n : Nat} {f : Int → Int} (hk : am_kd E (d, 0) = some (6, 138)) (hq : ra_q f Y) (h7 : Y 0 7 ≤ 4) {h : Nat} {o : Int} {t z x1 x2 x5 x6 : Int} {u8 u9 : Option am_V} (hh : h < 24) (hlv : (h : Int) < Y 0 8 ∧ Y 2 h ≠ -1) (hz : -1 ≤ z ∧ z < 24) (hzh : z ≠ h) (htz : t = -1 ↔ z = -1)
    (ih : ∀ (f : Int → Int), ra_q f (am_j2 (am_j1 Y) h z) → ra_to E M d f (some (am_I (am_jl n (am_j2 (am_j1 Y) h z) (Y 5 h) o (if t = -1 then (h : Int) else t) h).2)) (am_jl n (am_j2 (am_j1 Y) h z) (Y 5 h) o (if t = -1 then (h : Int) else t) h).1 (am_den 141 (11, [some (am_A (d, 0)), some (am_I x1), some (am_I x2), some (am_I (if t = -1 then (h : Int) else t)), some (am_I h), some (am_I (Y 5 h)), some (am_I o), some (am_I h), some (am_I o), some (am_I (Y 5 h))], [], E, ar_s M d f))) :
    ra_to E M d f (some (am_I (am_jl n (am_j2 (am_j1 Y) h z) (Y 5 h) o (if t = -1 then (h : Int) else t) h).2)) (am_jl n (am_j2 (am_j1 Y) h z) (Y 5 h) o (if t = -1 then (h : Int) else t) h).1 (am_den 141 (64, [some (am_A (d, 0)), some (am_I x1), some (am_I x2), some (am_I t), some (am_I z), some (am_I x5), some (am_I x6), some (am_I h), u8, u9], [am_I o], E, ar_s M d (ar_u f 4 (am_w (Y 0 11 + 1))))) := by
  have hq1 : ra_q (ar_u f 4 (am_w (Y 0 11 + 1))) (am_j1 Y) := ra_us4 hq
  have h71 : am_j1 Y 0 7 ≤ 4 := by rw [at_j1_fr (Or.inr (by decide))]; exact h7
  obtain ⟨f2, e2, hq2, h82⟩ := ra_140 (M := M) (q := z) (l := h) hk hq1 h71 hz (by omega)
  rw [am_B141_64, e2, am_bd_u]
  simp only [Nat.reduceAdd]
  have hin : (0 : Int) ≤ h ∧ (h : Int) < ((24 : Nat) : Int) := by omega
  -- the row's links of h
  have y2 : ∀ c x, c ≠ 3 → (c ≠ 4 ∨ x ≠ z) → am_pt (am_pt (am_j1 Y) 4 24 z h) 3 24 h z c x = am_j1 Y c x := by
    intro c x a b
    rw [ay_pt_ne (Or.inl a), ay_pt_ne b]
  have l8 : (h : Int) < am_pt (am_pt (am_j1 Y) 4 24 z h) 3 24 h z 0 8 := by
    rw [y2 0 8 (by decide) (Or.inl (by decide)), at_j1_fr (Or.inr (by decide))]
    exact hlv.1
  have l2 : am_pt (am_pt (am_j1 Y) 4 24 z h) 3 24 h z 2 h ≠ -1 := by
    rw [y2 2 h (by decide) (Or.inl (by decide)), at_j1_fr (Or.inl (by decide))]
    exact hlv.2
  have lk := hq2.2.2.2 h (by omega) l8 l2
  have r5 : f2 (18 + 5 * (h : Int) + 4) = Y 5 h := by
    rw [lk.2.2, y2 5 h (by decide) (Or.inl (by decide)), at_j1_fr (Or.inl (by decide))]
  have r4 : f2 (18 + 5 * (h : Int) + 3) = Y 4 h := by
    rw [lk.2.1, y2 4 h (by decide) (Or.inr (by omega)), at_j1_fr (Or.inl (by decide))]
  have eY : am_j2 (am_j1 Y) h z = am_uy (am_pt (am_pt (am_j1 Y) 4 24 z h) 3 24 h z) 5 h (Y 4 h) := by
    unfold am_j2
    rw [at_gt hin, at_j1_fr (Or.inl (by decide)), ay_pt_in (c := 5) hin, ay_pt_in (c := 3) hin, ay_pt_in (c := 3) hin]
    by_cases b : 0 ≤ z ∧ z < ((24 : Nat) : Int)
    · rw [ay_pt_in b, ay_pt_in b, ay_cm (c := 5) (c' := 4) (Or.inl (by decide)), ay_cm (c := 5) (c' := 3) (Or.inl (by decide))]
    · rw [ay_pt_no b, ay_pt_no b, ay_cm (c := 5) (c' := 3) (Or.inl (by decide))]
  have hq3 : ra_q (ar_u f2 (18 + 5 * (h : Int) + 4) (Y 4 h)) (am_j2 (am_j1 Y) h z) := by
    rw [eY]
    exact ra_ulk hq2 (by rw [y2 0 7 (by decide) (Or.inl (by decide))]; exact h71) (Or.inr (Or.inr rfl)) (by decide) (by omega)
  have h83 : (ar_u f2 (18 + 5 * (h : Int) + 4) (Y 4 h)) 8 = f 8 := by
    rw [ar_u_ne (by omega), h82, ar_u_ne (by decide)]
  have fin : ∀ r : Int, r = (if t = -1 then (h : Int) else t) → ra_to E M d f (some (am_I (am_jl n (am_j2 (am_j1 Y) h z) (Y 5 h) o (if t = -1 then (h : Int) else t) h).2)) (am_jl n (am_j2 (am_j1 Y) h z) (Y 5 h) o (if t = -1 then (h : Int) else t) h).1 (am_den 141 (86, [some (am_A (d, 0)), some (am_I x1), some (am_I x2), some (am_I t), some (am_I z), some (am_I x5), some (am_I x6), some (am_I h), some (am_I o), u9], [am_I r], E, ar_s M d f2)) := by
    intro r hr
    rw [am_B141_86, ra_123 hk (by omega) (by omega), am_bd_v, r5]
    simp only [Nat.reduceAdd]
    rw [am_B141_94, ra_123 hk (by omega) (by omega), am_bd_v, r4]
    simp only [Nat.reduceAdd]
    rw [am_B141_107, ra_124 hk (by omega) (by omega), am_bd_u]
    simp only [Nat.reduceAdd]
    rw [am_B141_110, hr]
    exact ra_to_tr h83 (ih _ hq3)
  rw [am_B141_74]
  by_cases b : z = -1
  · rw [if_neg (show ¬ z ≠ -1 from fun w => w b), am_B141_80]
    exact fin h (by rw [if_pos (htz.mpr b)])
  · rw [if_pos (show z ≠ -1 from b), am_B141_85]
    exact fin t (by rw [if_neg (fun w => b (htz.mp w))])
end REF4
