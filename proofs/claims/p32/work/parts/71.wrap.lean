/-! ===== the law's wrappers, and call (written by wip/p32/gens/wrap.py) ===== -/
theorem tw_xk {E : am_E} {r : am_R} : am_kd (am_xE E) r = am_kd E r := rfl
theorem tw_xf {E : am_E} {r : am_R} {j : Nat} : am_rf (am_xE E) r j = am_rf E r j := rfl
theorem tw_xo {E : am_E} {r : am_R} {c : Nat} : am_ob (am_xE E) r c = am_ob E r c := by unfold am_ob; rw [tw_xk]
theorem tw_x {E : am_E} (hE : am_Wr E) : am_Wr (am_xE E) := by
  unfold am_Wr am_WY at *
  simp only [tw_xk, tw_xf, tw_xo]
  exact hE
theorem tw_c {E : am_E} {M : am_M} {k pc x pc' l : Nat} {ls : List (Option am_V)} {rest : List am_V} (hc : am_hc k pc x = some (pc', l)) (hl : l < ls.length) (hf : am_lf ls l = true) : am_bd k pc ls rest (some (.inr x, E, M)) = am_den k (pc', ls.set l none, [], E, M) := by
  unfold am_bd
  simp only [hc]
  rw [if_pos ⟨hl, hf⟩]
section WRAP
variable {E E1 : am_E} {M M1 : am_M} {v : Int}
theorem tw_117v {x1 : Int} {x2 : Int} {u3 : Option am_V} (hE : am_Wr E) (h : am_den 80 (0, [some (am_A (34, 0)), some (am_I x1), some (am_I x2)], [], E, M) = some (.inl (some (am_I v)), E1, M1)) : am_den 117 (0, [some (am_A (34, 0)), some (am_I x1), some (am_I x2), u3], [], E, M) = some (.inl (some (am_I v)), E1, M1) := by
  rw [am_B117_0 hE, h, am_bd_v]
  simp only [Nat.reduceAdd]
  rw [am_B117_6]
theorem tw_117x2 {x1 : Int} {x2 : Int} {u3 : Option am_V} (hE : am_Wr E) (h : am_den 80 (0, [some (am_A (34, 0)), some (am_I x1), some (am_I x2)], [], E, M) = some (.inr 2, E1, M1)) : am_den 117 (0, [some (am_A (34, 0)), some (am_I x1), some (am_I x2), u3], [], E, M) = some (.inl (some (am_I (-9999001))), E1, M1) := by
  rw [am_B117_0 hE, h, tw_c (show am_hc 117 3 2 = some (8, 3) from by decide +kernel) (Nat.le_of_ble_eq_true rfl) rfl]
  exact (am_d_ldi (z := -9999001) (show am_fetch 117 8 = some (.ldc 15, 2) from by decide +kernel) (show am_ki 117 15 = some (-9999001) from by decide +kernel)).trans (am_d_iret (show am_fetch 117 10 = some (.ireturn, 1) from by decide +kernel) rfl)
theorem tw_118v {x1 : Int} {x2 : Int} {u3 : Option am_V} {u4 : Option am_V} (hE : am_Wr E) (h : am_den 92 (0, [some (am_A (34, 0)), some (am_I x1), some (am_J x2), none, none, none, none], [], E, M) = some (.inl (some (am_I v)), E1, M1)) : am_den 118 (0, [some (am_A (34, 0)), some (am_I x1), some (am_J x2), u3, u4], [], E, M) = some (.inl (some (am_I v)), E1, M1) := by
  rw [am_B118_0 hE, h, am_bd_v]
  simp only [Nat.reduceAdd]
  rw [am_B118_6]
theorem tw_118x0 {x1 : Int} {x2 : Int} {u4 : Option am_V} (hE : am_Wr E) (h : am_den 92 (0, [some (am_A (34, 0)), some (am_I x1), some (am_J x2), none, none, none, none], [], E, M) = some (.inr 0, E1, M1)) : am_den 118 (0, [some (am_A (34, 0)), some (am_I x1), some (am_J x2), none, u4], [], E, M) = some (.inl (some (am_I (-9999002))), E1, M1) := by
  rw [am_B118_0 hE, h, tw_c (show am_hc 118 3 0 = some (9, 4) from by decide +kernel) (Nat.le_of_ble_eq_true rfl) rfl]
  exact (am_d_ldi (z := -9999002) (show am_fetch 118 9 = some (.ldc 22, 2) from by decide +kernel) (show am_ki 118 22 = some (-9999002) from by decide +kernel)).trans (am_d_iret (show am_fetch 118 11 = some (.ireturn, 1) from by decide +kernel) rfl)
theorem tw_119v {x1 : Int} {u2 : Option am_V} {x3 : Int} {u4 : Option am_V} (hE : am_Wr E) (h : am_den 93 (0, [some (am_A (34, 0)), some (am_J x1), none, some (am_I x3), none, none, none, none, none, none, none], [], E, M) = some (.inl (some (am_I v)), E1, M1)) : am_den 119 (0, [some (am_A (34, 0)), some (am_J x1), u2, some (am_I x3), u4], [], E, M) = some (.inl (some (am_I v)), E1, M1) := by
  rw [am_B119_0 hE, h, am_bd_v]
  simp only [Nat.reduceAdd]
  rw [am_B119_6]
theorem tw_119x0 {x1 : Int} {u2 : Option am_V} {x3 : Int} {u4 : Option am_V} (hE : am_Wr E) (h : am_den 93 (0, [some (am_A (34, 0)), some (am_J x1), none, some (am_I x3), none, none, none, none, none, none, none], [], E, M) = some (.inr 0, E1, M1)) : am_den 119 (0, [some (am_A (34, 0)), some (am_J x1), u2, some (am_I x3), u4], [], E, M) = some (.inl (some (am_I (-9999002))), E1, M1) := by
  rw [am_B119_0 hE, h, tw_c (show am_hc 119 3 0 = some (9, 4) from by decide +kernel) (Nat.le_of_ble_eq_true rfl) rfl]
  exact (am_d_ldi (z := -9999002) (show am_fetch 119 9 = some (.ldc 22, 2) from by decide +kernel) (show am_ki 119 22 = some (-9999002) from by decide +kernel)).trans (am_d_iret (show am_fetch 119 11 = some (.ireturn, 1) from by decide +kernel) rfl)
theorem tw_120v {x1 : Int} {u2 : Option am_V} (hE : am_Wr E) (h : am_den 67 (0, [some (am_A (34, 0)), some (am_I x1)], [], E, M) = some (.inl (some (am_I v)), E1, M1)) : am_den 120 (0, [some (am_A (34, 0)), some (am_I x1), u2], [], E, M) = some (.inl (some (am_I v)), E1, M1) := by
  rw [am_B120_0 hE, h, am_bd_v]
  simp only [Nat.reduceAdd]
  rw [am_B120_5]
theorem tw_120x0 {x1 : Int} {u2 : Option am_V} (hE : am_Wr E) (h : am_den 67 (0, [some (am_A (34, 0)), some (am_I x1)], [], E, M) = some (.inr 0, E1, M1)) : am_den 120 (0, [some (am_A (34, 0)), some (am_I x1), u2], [], E, M) = some (.inl (some (am_I (-9999002))), E1, M1) := by
  rw [am_B120_0 hE, h, tw_c (show am_hc 120 2 0 = some (7, 2) from by decide +kernel) (Nat.le_of_ble_eq_true rfl) rfl]
  exact (am_d_ldi (z := -9999002) (show am_fetch 120 7 = some (.ldc 22, 2) from by decide +kernel) (show am_ki 120 22 = some (-9999002) from by decide +kernel)).trans (am_d_iret (show am_fetch 120 9 = some (.ireturn, 1) from by decide +kernel) rfl)
theorem tw_120x1 {x1 : Int} {u2 : Option am_V} (hE : am_Wr E) (h : am_den 67 (0, [some (am_A (34, 0)), some (am_I x1)], [], E, M) = some (.inr 1, E1, M1)) : am_den 120 (0, [some (am_A (34, 0)), some (am_I x1), u2], [], E, M) = some (.inl (some (am_I (-9999003))), E1, M1) := by
  rw [am_B120_0 hE, h, tw_c (show am_hc 120 2 1 = some (11, 2) from by decide +kernel) (Nat.le_of_ble_eq_true rfl) rfl]
  exact (am_d_ldi (z := -9999003) (show am_fetch 120 11 = some (.ldc 33, 2) from by decide +kernel) (show am_ki 120 33 = some (-9999003) from by decide +kernel)).trans (am_d_iret (show am_fetch 120 13 = some (.ireturn, 1) from by decide +kernel) rfl)
theorem tw_121v {u1 : Option am_V} (hE : am_Wr E) (h : am_den 70 (0, [some (am_A (34, 0)), none, none], [], E, M) = some (.inl (some (am_I v)), E1, M1)) : am_den 121 (0, [some (am_A (34, 0)), u1], [], E, M) = some (.inl (some (am_I v)), E1, M1) := by
  rw [am_B121_0 hE, h, am_bd_v]
  simp only [Nat.reduceAdd]
  rw [am_B121_4]
theorem tw_121x1 {u1 : Option am_V} (hE : am_Wr E) (h : am_den 70 (0, [some (am_A (34, 0)), none, none], [], E, M) = some (.inr 1, E1, M1)) : am_den 121 (0, [some (am_A (34, 0)), u1], [], E, M) = some (.inl (some (am_I (-9999003))), E1, M1) := by
  rw [am_B121_0 hE, h, tw_c (show am_hc 121 1 1 = some (6, 1) from by decide +kernel) (Nat.le_of_ble_eq_true rfl) rfl]
  exact (am_d_ldi (z := -9999003) (show am_fetch 121 6 = some (.ldc 33, 2) from by decide +kernel) (show am_ki 121 33 = some (-9999003) from by decide +kernel)).trans (am_d_iret (show am_fetch 121 8 = some (.ireturn, 1) from by decide +kernel) rfl)
theorem tw_122v {x1 : Int} {u2 : Option am_V} (hE : am_Wr E) (h : am_den 71 (0, [some (am_A (34, 0)), some (am_I x1)], [], E, M) = some (.inl (some (am_I v)), E1, M1)) : am_den 122 (0, [some (am_A (34, 0)), some (am_I x1), u2], [], E, M) = some (.inl (some (am_I v)), E1, M1) := by
  rw [am_B122_0 hE, h, am_bd_v]
  simp only [Nat.reduceAdd]
  rw [am_B122_5]
theorem tw_122x0 {x1 : Int} {u2 : Option am_V} (hE : am_Wr E) (h : am_den 71 (0, [some (am_A (34, 0)), some (am_I x1)], [], E, M) = some (.inr 0, E1, M1)) : am_den 122 (0, [some (am_A (34, 0)), some (am_I x1), u2], [], E, M) = some (.inl (some (am_I (-9999002))), E1, M1) := by
  rw [am_B122_0 hE, h, tw_c (show am_hc 122 2 0 = some (7, 2) from by decide +kernel) (Nat.le_of_ble_eq_true rfl) rfl]
  exact (am_d_ldi (z := -9999002) (show am_fetch 122 7 = some (.ldc 22, 2) from by decide +kernel) (show am_ki 122 22 = some (-9999002) from by decide +kernel)).trans (am_d_iret (show am_fetch 122 9 = some (.ireturn, 1) from by decide +kernel) rfl)
theorem tw_123v {x1 : Int} {x2 : Int} {u3 : Option am_V} (hE : am_Wr E) (h : am_den 72 (0, [some (am_A (34, 0)), some (am_I x1), some (am_I x2)], [], E, M) = some (.inl (some (am_I v)), E1, M1)) : am_den 123 (0, [some (am_A (34, 0)), some (am_I x1), some (am_I x2), u3], [], E, M) = some (.inl (some (am_I v)), E1, M1) := by
  rw [am_B123_0 hE, h, am_bd_v]
  simp only [Nat.reduceAdd]
  rw [am_B123_6]
theorem tw_123x2 {x1 : Int} {x2 : Int} {u3 : Option am_V} (hE : am_Wr E) (h : am_den 72 (0, [some (am_A (34, 0)), some (am_I x1), some (am_I x2)], [], E, M) = some (.inr 2, E1, M1)) : am_den 123 (0, [some (am_A (34, 0)), some (am_I x1), some (am_I x2), u3], [], E, M) = some (.inl (some (am_I (-9999001))), E1, M1) := by
  rw [am_B123_0 hE, h, tw_c (show am_hc 123 3 2 = some (8, 3) from by decide +kernel) (Nat.le_of_ble_eq_true rfl) rfl]
  exact (am_d_ldi (z := -9999001) (show am_fetch 123 8 = some (.ldc 15, 2) from by decide +kernel) (show am_ki 123 15 = some (-9999001) from by decide +kernel)).trans (am_d_iret (show am_fetch 123 10 = some (.ireturn, 1) from by decide +kernel) rfl)
theorem tw_123x0 {x1 : Int} {x2 : Int} {u3 : Option am_V} (hE : am_Wr E) (h : am_den 72 (0, [some (am_A (34, 0)), some (am_I x1), some (am_I x2)], [], E, M) = some (.inr 0, E1, M1)) : am_den 123 (0, [some (am_A (34, 0)), some (am_I x1), some (am_I x2), u3], [], E, M) = some (.inl (some (am_I (-9999002))), E1, M1) := by
  rw [am_B123_0 hE, h, tw_c (show am_hc 123 3 0 = some (12, 3) from by decide +kernel) (Nat.le_of_ble_eq_true rfl) rfl]
  exact (am_d_ldi (z := -9999002) (show am_fetch 123 12 = some (.ldc 22, 2) from by decide +kernel) (show am_ki 123 22 = some (-9999002) from by decide +kernel)).trans (am_d_iret (show am_fetch 123 14 = some (.ireturn, 1) from by decide +kernel) rfl)
theorem tw_124v {x1 : Int} {x2 : Int} {u3 : Option am_V} (hE : am_Wr E) (h : am_den 73 (0, [some (am_A (34, 0)), some (am_I x1), some (am_I x2)], [], E, M) = some (.inl (some (am_I v)), E1, M1)) : am_den 124 (0, [some (am_A (34, 0)), some (am_I x1), some (am_I x2), u3], [], E, M) = some (.inl (some (am_I v)), E1, M1) := by
  rw [am_B124_0 hE, h, am_bd_v]
  simp only [Nat.reduceAdd]
  rw [am_B124_6]
theorem tw_124x2 {x1 : Int} {x2 : Int} {u3 : Option am_V} (hE : am_Wr E) (h : am_den 73 (0, [some (am_A (34, 0)), some (am_I x1), some (am_I x2)], [], E, M) = some (.inr 2, E1, M1)) : am_den 124 (0, [some (am_A (34, 0)), some (am_I x1), some (am_I x2), u3], [], E, M) = some (.inl (some (am_I (-9999001))), E1, M1) := by
  rw [am_B124_0 hE, h, tw_c (show am_hc 124 3 2 = some (8, 3) from by decide +kernel) (Nat.le_of_ble_eq_true rfl) rfl]
  exact (am_d_ldi (z := -9999001) (show am_fetch 124 8 = some (.ldc 15, 2) from by decide +kernel) (show am_ki 124 15 = some (-9999001) from by decide +kernel)).trans (am_d_iret (show am_fetch 124 10 = some (.ireturn, 1) from by decide +kernel) rfl)
theorem tw_124x0 {x1 : Int} {x2 : Int} {u3 : Option am_V} (hE : am_Wr E) (h : am_den 73 (0, [some (am_A (34, 0)), some (am_I x1), some (am_I x2)], [], E, M) = some (.inr 0, E1, M1)) : am_den 124 (0, [some (am_A (34, 0)), some (am_I x1), some (am_I x2), u3], [], E, M) = some (.inl (some (am_I (-9999002))), E1, M1) := by
  rw [am_B124_0 hE, h, tw_c (show am_hc 124 3 0 = some (12, 3) from by decide +kernel) (Nat.le_of_ble_eq_true rfl) rfl]
  exact (am_d_ldi (z := -9999002) (show am_fetch 124 12 = some (.ldc 22, 2) from by decide +kernel) (show am_ki 124 22 = some (-9999002) from by decide +kernel)).trans (am_d_iret (show am_fetch 124 14 = some (.ireturn, 1) from by decide +kernel) rfl)
theorem tw_125v {x1 : Int} {x2 : Int} {x3 : Int} {u4 : Option am_V} (hE : am_Wr E) (h : am_den 74 (0, [some (am_A (34, 0)), some (am_I x1), some (am_I x2), some (am_I x3)], [], E, M) = some (.inl (some (am_I v)), E1, M1)) : am_den 125 (0, [some (am_A (34, 0)), some (am_I x1), some (am_I x2), some (am_I x3), u4], [], E, M) = some (.inl (some (am_I v)), E1, M1) := by
  rw [am_B125_0 hE, h, am_bd_v]
  simp only [Nat.reduceAdd]
  rw [am_B125_7]
theorem tw_125x2 {x1 : Int} {x2 : Int} {x3 : Int} {u4 : Option am_V} (hE : am_Wr E) (h : am_den 74 (0, [some (am_A (34, 0)), some (am_I x1), some (am_I x2), some (am_I x3)], [], E, M) = some (.inr 2, E1, M1)) : am_den 125 (0, [some (am_A (34, 0)), some (am_I x1), some (am_I x2), some (am_I x3), u4], [], E, M) = some (.inl (some (am_I (-9999001))), E1, M1) := by
  rw [am_B125_0 hE, h, tw_c (show am_hc 125 4 2 = some (10, 4) from by decide +kernel) (Nat.le_of_ble_eq_true rfl) rfl]
  exact (am_d_ldi (z := -9999001) (show am_fetch 125 10 = some (.ldc 15, 2) from by decide +kernel) (show am_ki 125 15 = some (-9999001) from by decide +kernel)).trans (am_d_iret (show am_fetch 125 12 = some (.ireturn, 1) from by decide +kernel) rfl)
theorem tw_125x0 {x1 : Int} {x2 : Int} {x3 : Int} {u4 : Option am_V} (hE : am_Wr E) (h : am_den 74 (0, [some (am_A (34, 0)), some (am_I x1), some (am_I x2), some (am_I x3)], [], E, M) = some (.inr 0, E1, M1)) : am_den 125 (0, [some (am_A (34, 0)), some (am_I x1), some (am_I x2), some (am_I x3), u4], [], E, M) = some (.inl (some (am_I (-9999002))), E1, M1) := by
  rw [am_B125_0 hE, h, tw_c (show am_hc 125 4 0 = some (15, 4) from by decide +kernel) (Nat.le_of_ble_eq_true rfl) rfl]
  exact (am_d_ldi (z := -9999002) (show am_fetch 125 15 = some (.ldc 22, 2) from by decide +kernel) (show am_ki 125 22 = some (-9999002) from by decide +kernel)).trans (am_d_iret (show am_fetch 125 17 = some (.ireturn, 1) from by decide +kernel) rfl)
theorem tw_125x1 {x1 : Int} {x2 : Int} {x3 : Int} {u4 : Option am_V} (hE : am_Wr E) (h : am_den 74 (0, [some (am_A (34, 0)), some (am_I x1), some (am_I x2), some (am_I x3)], [], E, M) = some (.inr 1, E1, M1)) : am_den 125 (0, [some (am_A (34, 0)), some (am_I x1), some (am_I x2), some (am_I x3), u4], [], E, M) = some (.inl (some (am_I (-9999003))), E1, M1) := by
  rw [am_B125_0 hE, h, tw_c (show am_hc 125 4 1 = some (20, 4) from by decide +kernel) (Nat.le_of_ble_eq_true rfl) rfl]
  exact (am_d_ldi (z := -9999003) (show am_fetch 125 20 = some (.ldc 33, 2) from by decide +kernel) (show am_ki 125 33 = some (-9999003) from by decide +kernel)).trans (am_d_iret (show am_fetch 125 22 = some (.ireturn, 1) from by decide +kernel) rfl)
theorem tw_126v {u1 : Option am_V} (hE : am_Wr E) (h : am_den 75 (0, [some (am_A (34, 0))], [], E, M) = some (.inl (some (am_I v)), E1, M1)) : am_den 126 (0, [some (am_A (34, 0)), u1], [], E, M) = some (.inl (some (am_I v)), E1, M1) := by
  rw [am_B126_0 hE, h, am_bd_v]
  simp only [Nat.reduceAdd]
  rw [am_B126_4]
theorem tw_126x1 {u1 : Option am_V} (hE : am_Wr E) (h : am_den 75 (0, [some (am_A (34, 0))], [], E, M) = some (.inr 1, E1, M1)) : am_den 126 (0, [some (am_A (34, 0)), u1], [], E, M) = some (.inl (some (am_I (-9999003))), E1, M1) := by
  rw [am_B126_0 hE, h, tw_c (show am_hc 126 1 1 = some (6, 1) from by decide +kernel) (Nat.le_of_ble_eq_true rfl) rfl]
  exact (am_d_ldi (z := -9999003) (show am_fetch 126 6 = some (.ldc 33, 2) from by decide +kernel) (show am_ki 126 33 = some (-9999003) from by decide +kernel)).trans (am_d_iret (show am_fetch 126 8 = some (.ireturn, 1) from by decide +kernel) rfl)
theorem tw_127v {x1 : Int} {x2 : Int} {u3 : Option am_V} (hE : am_Wr E) (h : am_den 76 (0, [some (am_A (34, 0)), some (am_I x1), some (am_I x2)], [], E, M) = some (.inl (some (am_I v)), E1, M1)) : am_den 127 (0, [some (am_A (34, 0)), some (am_I x1), some (am_I x2), u3], [], E, M) = some (.inl (some (am_I v)), E1, M1) := by
  rw [am_B127_0 hE, h, am_bd_v]
  simp only [Nat.reduceAdd]
  rw [am_B127_6]
theorem tw_127x2 {x1 : Int} {x2 : Int} {u3 : Option am_V} (hE : am_Wr E) (h : am_den 76 (0, [some (am_A (34, 0)), some (am_I x1), some (am_I x2)], [], E, M) = some (.inr 2, E1, M1)) : am_den 127 (0, [some (am_A (34, 0)), some (am_I x1), some (am_I x2), u3], [], E, M) = some (.inl (some (am_I (-9999001))), E1, M1) := by
  rw [am_B127_0 hE, h, tw_c (show am_hc 127 3 2 = some (8, 3) from by decide +kernel) (Nat.le_of_ble_eq_true rfl) rfl]
  exact (am_d_ldi (z := -9999001) (show am_fetch 127 8 = some (.ldc 15, 2) from by decide +kernel) (show am_ki 127 15 = some (-9999001) from by decide +kernel)).trans (am_d_iret (show am_fetch 127 10 = some (.ireturn, 1) from by decide +kernel) rfl)
theorem tw_127x0 {x1 : Int} {x2 : Int} {u3 : Option am_V} (hE : am_Wr E) (h : am_den 76 (0, [some (am_A (34, 0)), some (am_I x1), some (am_I x2)], [], E, M) = some (.inr 0, E1, M1)) : am_den 127 (0, [some (am_A (34, 0)), some (am_I x1), some (am_I x2), u3], [], E, M) = some (.inl (some (am_I (-9999002))), E1, M1) := by
  rw [am_B127_0 hE, h, tw_c (show am_hc 127 3 0 = some (12, 3) from by decide +kernel) (Nat.le_of_ble_eq_true rfl) rfl]
  exact (am_d_ldi (z := -9999002) (show am_fetch 127 12 = some (.ldc 22, 2) from by decide +kernel) (show am_ki 127 22 = some (-9999002) from by decide +kernel)).trans (am_d_iret (show am_fetch 127 14 = some (.ireturn, 1) from by decide +kernel) rfl)
theorem tw_127x1 {x1 : Int} {x2 : Int} {u3 : Option am_V} (hE : am_Wr E) (h : am_den 76 (0, [some (am_A (34, 0)), some (am_I x1), some (am_I x2)], [], E, M) = some (.inr 1, E1, M1)) : am_den 127 (0, [some (am_A (34, 0)), some (am_I x1), some (am_I x2), u3], [], E, M) = some (.inl (some (am_I (-9999003))), E1, M1) := by
  rw [am_B127_0 hE, h, tw_c (show am_hc 127 3 1 = some (16, 3) from by decide +kernel) (Nat.le_of_ble_eq_true rfl) rfl]
  exact (am_d_ldi (z := -9999003) (show am_fetch 127 16 = some (.ldc 33, 2) from by decide +kernel) (show am_ki 127 33 = some (-9999003) from by decide +kernel)).trans (am_d_iret (show am_fetch 127 18 = some (.ireturn, 1) from by decide +kernel) rfl)
theorem tw_128v {x1 : Int} {u2 : Option am_V} (hE : am_Wr E) (h : am_den 77 (0, [some (am_A (34, 0)), some (am_I x1), none], [], E, M) = some (.inl (some (am_I v)), E1, M1)) : am_den 128 (0, [some (am_A (34, 0)), some (am_I x1), u2], [], E, M) = some (.inl (some (am_I v)), E1, M1) := by
  rw [am_B128_0 hE, h, am_bd_v]
  simp only [Nat.reduceAdd]
  rw [am_B128_5]
theorem tw_128x2 {x1 : Int} {u2 : Option am_V} (hE : am_Wr E) (h : am_den 77 (0, [some (am_A (34, 0)), some (am_I x1), none], [], E, M) = some (.inr 2, E1, M1)) : am_den 128 (0, [some (am_A (34, 0)), some (am_I x1), u2], [], E, M) = some (.inl (some (am_I (-9999001))), E1, M1) := by
  rw [am_B128_0 hE, h, tw_c (show am_hc 128 2 2 = some (7, 2) from by decide +kernel) (Nat.le_of_ble_eq_true rfl) rfl]
  exact (am_d_ldi (z := -9999001) (show am_fetch 128 7 = some (.ldc 15, 2) from by decide +kernel) (show am_ki 128 15 = some (-9999001) from by decide +kernel)).trans (am_d_iret (show am_fetch 128 9 = some (.ireturn, 1) from by decide +kernel) rfl)
theorem tw_129v {x1 : Int} {u2 : Option am_V} (hE : am_Wr E) (h : am_den 78 (0, [some (am_A (34, 0)), some (am_I x1)], [], E, M) = some (.inl (some (am_I v)), E1, M1)) : am_den 129 (0, [some (am_A (34, 0)), some (am_I x1), u2], [], E, M) = some (.inl (some (am_I v)), E1, M1) := by
  rw [am_B129_0 hE, h, am_bd_v]
  simp only [Nat.reduceAdd]
  rw [am_B129_5]
theorem tw_129x2 {x1 : Int} {u2 : Option am_V} (hE : am_Wr E) (h : am_den 78 (0, [some (am_A (34, 0)), some (am_I x1)], [], E, M) = some (.inr 2, E1, M1)) : am_den 129 (0, [some (am_A (34, 0)), some (am_I x1), u2], [], E, M) = some (.inl (some (am_I (-9999001))), E1, M1) := by
  rw [am_B129_0 hE, h, tw_c (show am_hc 129 2 2 = some (7, 2) from by decide +kernel) (Nat.le_of_ble_eq_true rfl) rfl]
  exact (am_d_ldi (z := -9999001) (show am_fetch 129 7 = some (.ldc 15, 2) from by decide +kernel) (show am_ki 129 15 = some (-9999001) from by decide +kernel)).trans (am_d_iret (show am_fetch 129 9 = some (.ireturn, 1) from by decide +kernel) rfl)
theorem tw_130v {x1 : Int} {x2 : Int} {u3 : Option am_V} (hE : am_Wr E) (h : am_den 79 (0, [some (am_A (34, 0)), some (am_I x1), some (am_I x2)], [], E, M) = some (.inl (some (am_I v)), E1, M1)) : am_den 130 (0, [some (am_A (34, 0)), some (am_I x1), some (am_I x2), u3], [], E, M) = some (.inl (some (am_I v)), E1, M1) := by
  rw [am_B130_0 hE, h, am_bd_v]
  simp only [Nat.reduceAdd]
  rw [am_B130_6]
theorem tw_130x2 {x1 : Int} {x2 : Int} {u3 : Option am_V} (hE : am_Wr E) (h : am_den 79 (0, [some (am_A (34, 0)), some (am_I x1), some (am_I x2)], [], E, M) = some (.inr 2, E1, M1)) : am_den 130 (0, [some (am_A (34, 0)), some (am_I x1), some (am_I x2), u3], [], E, M) = some (.inl (some (am_I (-9999001))), E1, M1) := by
  rw [am_B130_0 hE, h, tw_c (show am_hc 130 3 2 = some (8, 3) from by decide +kernel) (Nat.le_of_ble_eq_true rfl) rfl]
  exact (am_d_ldi (z := -9999001) (show am_fetch 130 8 = some (.ldc 15, 2) from by decide +kernel) (show am_ki 130 15 = some (-9999001) from by decide +kernel)).trans (am_d_iret (show am_fetch 130 10 = some (.ireturn, 1) from by decide +kernel) rfl)
theorem tw_130x0 {x1 : Int} {x2 : Int} {u3 : Option am_V} (hE : am_Wr E) (h : am_den 79 (0, [some (am_A (34, 0)), some (am_I x1), some (am_I x2)], [], E, M) = some (.inr 0, E1, M1)) : am_den 130 (0, [some (am_A (34, 0)), some (am_I x1), some (am_I x2), u3], [], E, M) = some (.inl (some (am_I (-9999002))), E1, M1) := by
  rw [am_B130_0 hE, h, tw_c (show am_hc 130 3 0 = some (12, 3) from by decide +kernel) (Nat.le_of_ble_eq_true rfl) rfl]
  exact (am_d_ldi (z := -9999002) (show am_fetch 130 12 = some (.ldc 22, 2) from by decide +kernel) (show am_ki 130 22 = some (-9999002) from by decide +kernel)).trans (am_d_iret (show am_fetch 130 14 = some (.ireturn, 1) from by decide +kernel) rfl)
theorem tw_131v {x1 : Int} {u2 : Option am_V} (hE : am_Wr E) (h : am_den 81 (0, [some (am_A (34, 0)), some (am_I x1)], [], E, M) = some (.inl (some (am_I v)), E1, M1)) : am_den 131 (0, [some (am_A (34, 0)), some (am_I x1), u2], [], E, M) = some (.inl (some (am_I v)), E1, M1) := by
  rw [am_B131_0 hE, h, am_bd_v]
  simp only [Nat.reduceAdd]
  rw [am_B131_5]
theorem tw_131x0 {x1 : Int} {u2 : Option am_V} (hE : am_Wr E) (h : am_den 81 (0, [some (am_A (34, 0)), some (am_I x1)], [], E, M) = some (.inr 0, E1, M1)) : am_den 131 (0, [some (am_A (34, 0)), some (am_I x1), u2], [], E, M) = some (.inl (some (am_I (-9999002))), E1, M1) := by
  rw [am_B131_0 hE, h, tw_c (show am_hc 131 2 0 = some (7, 2) from by decide +kernel) (Nat.le_of_ble_eq_true rfl) rfl]
  exact (am_d_ldi (z := -9999002) (show am_fetch 131 7 = some (.ldc 22, 2) from by decide +kernel) (show am_ki 131 22 = some (-9999002) from by decide +kernel)).trans (am_d_iret (show am_fetch 131 9 = some (.ireturn, 1) from by decide +kernel) rfl)
theorem tw_132v {x1 : Int} {u2 : Option am_V} (hE : am_Wr E) (h : am_den 82 (0, [some (am_A (34, 0)), some (am_I x1)], [], E, M) = some (.inl (some (am_I v)), E1, M1)) : am_den 132 (0, [some (am_A (34, 0)), some (am_I x1), u2], [], E, M) = some (.inl (some (am_I v)), E1, M1) := by
  rw [am_B132_0 hE, h, am_bd_v]
  simp only [Nat.reduceAdd]
  rw [am_B132_5]
theorem tw_132x0 {x1 : Int} {u2 : Option am_V} (hE : am_Wr E) (h : am_den 82 (0, [some (am_A (34, 0)), some (am_I x1)], [], E, M) = some (.inr 0, E1, M1)) : am_den 132 (0, [some (am_A (34, 0)), some (am_I x1), u2], [], E, M) = some (.inl (some (am_I (-9999002))), E1, M1) := by
  rw [am_B132_0 hE, h, tw_c (show am_hc 132 2 0 = some (7, 2) from by decide +kernel) (Nat.le_of_ble_eq_true rfl) rfl]
  exact (am_d_ldi (z := -9999002) (show am_fetch 132 7 = some (.ldc 22, 2) from by decide +kernel) (show am_ki 132 22 = some (-9999002) from by decide +kernel)).trans (am_d_iret (show am_fetch 132 9 = some (.ireturn, 1) from by decide +kernel) rfl)
theorem tw_133v {x1 : Int} {u2 : Option am_V} (hE : am_Wr E) (h : am_den 83 (0, [some (am_A (34, 0)), some (am_I x1)], [], E, M) = some (.inl (some (am_I v)), E1, M1)) : am_den 133 (0, [some (am_A (34, 0)), some (am_I x1), u2], [], E, M) = some (.inl (some (am_I v)), E1, M1) := by
  rw [am_B133_0 hE, h, am_bd_v]
  simp only [Nat.reduceAdd]
  rw [am_B133_5]
theorem tw_133x2 {x1 : Int} {u2 : Option am_V} (hE : am_Wr E) (h : am_den 83 (0, [some (am_A (34, 0)), some (am_I x1)], [], E, M) = some (.inr 2, E1, M1)) : am_den 133 (0, [some (am_A (34, 0)), some (am_I x1), u2], [], E, M) = some (.inl (some (am_I (-9999001))), E1, M1) := by
  rw [am_B133_0 hE, h, tw_c (show am_hc 133 2 2 = some (7, 2) from by decide +kernel) (Nat.le_of_ble_eq_true rfl) rfl]
  exact (am_d_ldi (z := -9999001) (show am_fetch 133 7 = some (.ldc 15, 2) from by decide +kernel) (show am_ki 133 15 = some (-9999001) from by decide +kernel)).trans (am_d_iret (show am_fetch 133 9 = some (.ireturn, 1) from by decide +kernel) rfl)
theorem tw_134v {x1 : Int} {u2 : Option am_V} (hE : am_Wr E) (h : am_den 84 (0, [some (am_A (34, 0)), some (am_I x1)], [], E, M) = some (.inl (some (am_I v)), E1, M1)) : am_den 134 (0, [some (am_A (34, 0)), some (am_I x1), u2], [], E, M) = some (.inl (some (am_I v)), E1, M1) := by
  rw [am_B134_0 hE, h, am_bd_v]
  simp only [Nat.reduceAdd]
  rw [am_B134_5]
theorem tw_134x0 {x1 : Int} {u2 : Option am_V} (hE : am_Wr E) (h : am_den 84 (0, [some (am_A (34, 0)), some (am_I x1)], [], E, M) = some (.inr 0, E1, M1)) : am_den 134 (0, [some (am_A (34, 0)), some (am_I x1), u2], [], E, M) = some (.inl (some (am_I (-9999002))), E1, M1) := by
  rw [am_B134_0 hE, h, tw_c (show am_hc 134 2 0 = some (7, 2) from by decide +kernel) (Nat.le_of_ble_eq_true rfl) rfl]
  exact (am_d_ldi (z := -9999002) (show am_fetch 134 7 = some (.ldc 22, 2) from by decide +kernel) (show am_ki 134 22 = some (-9999002) from by decide +kernel)).trans (am_d_iret (show am_fetch 134 9 = some (.ireturn, 1) from by decide +kernel) rfl)
theorem tw_135v {x1 : Int} {u2 : Option am_V} (hE : am_Wr E) (h : am_den 85 (0, [some (am_A (34, 0)), some (am_I x1), none], [], E, M) = some (.inl (some (am_I v)), E1, M1)) : am_den 135 (0, [some (am_A (34, 0)), some (am_I x1), u2], [], E, M) = some (.inl (some (am_I v)), E1, M1) := by
  rw [am_B135_0 hE, h, am_bd_v]
  simp only [Nat.reduceAdd]
  rw [am_B135_5]
theorem tw_135x0 {x1 : Int} {u2 : Option am_V} (hE : am_Wr E) (h : am_den 85 (0, [some (am_A (34, 0)), some (am_I x1), none], [], E, M) = some (.inr 0, E1, M1)) : am_den 135 (0, [some (am_A (34, 0)), some (am_I x1), u2], [], E, M) = some (.inl (some (am_I (-9999002))), E1, M1) := by
  rw [am_B135_0 hE, h, tw_c (show am_hc 135 2 0 = some (7, 2) from by decide +kernel) (Nat.le_of_ble_eq_true rfl) rfl]
  exact (am_d_ldi (z := -9999002) (show am_fetch 135 7 = some (.ldc 22, 2) from by decide +kernel) (show am_ki 135 22 = some (-9999002) from by decide +kernel)).trans (am_d_iret (show am_fetch 135 9 = some (.ireturn, 1) from by decide +kernel) rfl)
theorem tw_136v {u1 : Option am_V} (hE : am_Wr E) (h : am_den 86 (0, [some (am_A (34, 0))], [], E, M) = some (.inl (some (am_I v)), E1, M1)) : am_den 136 (0, [some (am_A (34, 0)), u1], [], E, M) = some (.inl (some (am_I v)), E1, M1) := by
  rw [am_B136_0 hE, h, am_bd_v]
  simp only [Nat.reduceAdd]
  rw [am_B136_4]
theorem tw_136x1 {u1 : Option am_V} (hE : am_Wr E) (h : am_den 86 (0, [some (am_A (34, 0))], [], E, M) = some (.inr 1, E1, M1)) : am_den 136 (0, [some (am_A (34, 0)), u1], [], E, M) = some (.inl (some (am_I (-9999003))), E1, M1) := by
  rw [am_B136_0 hE, h, tw_c (show am_hc 136 1 1 = some (6, 1) from by decide +kernel) (Nat.le_of_ble_eq_true rfl) rfl]
  exact (am_d_ldi (z := -9999003) (show am_fetch 136 6 = some (.ldc 33, 2) from by decide +kernel) (show am_ki 136 33 = some (-9999003) from by decide +kernel)).trans (am_d_iret (show am_fetch 136 8 = some (.ireturn, 1) from by decide +kernel) rfl)
theorem tw_137v {x1 : Int} {x2 : Int} {u3 : Option am_V} (hE : am_Wr E) (h : am_den 87 (0, [some (am_A (34, 0)), some (am_I x1), some (am_I x2), none, none, none], [], E, M) = some (.inl (some (am_I v)), E1, M1)) : am_den 137 (0, [some (am_A (34, 0)), some (am_I x1), some (am_I x2), u3], [], E, M) = some (.inl (some (am_I v)), E1, M1) := by
  rw [am_B137_0 hE, h, am_bd_v]
  simp only [Nat.reduceAdd]
  rw [am_B137_6]
theorem tw_137x2 {x1 : Int} {x2 : Int} {u3 : Option am_V} (hE : am_Wr E) (h : am_den 87 (0, [some (am_A (34, 0)), some (am_I x1), some (am_I x2), none, none, none], [], E, M) = some (.inr 2, E1, M1)) : am_den 137 (0, [some (am_A (34, 0)), some (am_I x1), some (am_I x2), u3], [], E, M) = some (.inl (some (am_I (-9999001))), E1, M1) := by
  rw [am_B137_0 hE, h, tw_c (show am_hc 137 3 2 = some (8, 3) from by decide +kernel) (Nat.le_of_ble_eq_true rfl) rfl]
  exact (am_d_ldi (z := -9999001) (show am_fetch 137 8 = some (.ldc 15, 2) from by decide +kernel) (show am_ki 137 15 = some (-9999001) from by decide +kernel)).trans (am_d_iret (show am_fetch 137 10 = some (.ireturn, 1) from by decide +kernel) rfl)
theorem tw_137x0 {x1 : Int} {x2 : Int} {u3 : Option am_V} (hE : am_Wr E) (h : am_den 87 (0, [some (am_A (34, 0)), some (am_I x1), some (am_I x2), none, none, none], [], E, M) = some (.inr 0, E1, M1)) : am_den 137 (0, [some (am_A (34, 0)), some (am_I x1), some (am_I x2), u3], [], E, M) = some (.inl (some (am_I (-9999002))), E1, M1) := by
  rw [am_B137_0 hE, h, tw_c (show am_hc 137 3 0 = some (12, 3) from by decide +kernel) (Nat.le_of_ble_eq_true rfl) rfl]
  exact (am_d_ldi (z := -9999002) (show am_fetch 137 12 = some (.ldc 22, 2) from by decide +kernel) (show am_ki 137 22 = some (-9999002) from by decide +kernel)).trans (am_d_iret (show am_fetch 137 14 = some (.ireturn, 1) from by decide +kernel) rfl)
theorem tw_138v {x1 : Int} {x2 : Int} {u3 : Option am_V} (hE : am_Wr E) (h : am_den 88 (0, [some (am_A (34, 0)), some (am_I x1), some (am_I x2)], [], E, M) = some (.inl (some (am_I v)), E1, M1)) : am_den 138 (0, [some (am_A (34, 0)), some (am_I x1), some (am_I x2), u3], [], E, M) = some (.inl (some (am_I v)), E1, M1) := by
  rw [am_B138_0 hE, h, am_bd_v]
  simp only [Nat.reduceAdd]
  rw [am_B138_6]
theorem tw_138x2 {x1 : Int} {x2 : Int} {u3 : Option am_V} (hE : am_Wr E) (h : am_den 88 (0, [some (am_A (34, 0)), some (am_I x1), some (am_I x2)], [], E, M) = some (.inr 2, E1, M1)) : am_den 138 (0, [some (am_A (34, 0)), some (am_I x1), some (am_I x2), u3], [], E, M) = some (.inl (some (am_I (-9999001))), E1, M1) := by
  rw [am_B138_0 hE, h, tw_c (show am_hc 138 3 2 = some (8, 3) from by decide +kernel) (Nat.le_of_ble_eq_true rfl) rfl]
  exact (am_d_ldi (z := -9999001) (show am_fetch 138 8 = some (.ldc 15, 2) from by decide +kernel) (show am_ki 138 15 = some (-9999001) from by decide +kernel)).trans (am_d_iret (show am_fetch 138 10 = some (.ireturn, 1) from by decide +kernel) rfl)
theorem tw_138x0 {x1 : Int} {x2 : Int} {u3 : Option am_V} (hE : am_Wr E) (h : am_den 88 (0, [some (am_A (34, 0)), some (am_I x1), some (am_I x2)], [], E, M) = some (.inr 0, E1, M1)) : am_den 138 (0, [some (am_A (34, 0)), some (am_I x1), some (am_I x2), u3], [], E, M) = some (.inl (some (am_I (-9999002))), E1, M1) := by
  rw [am_B138_0 hE, h, tw_c (show am_hc 138 3 0 = some (12, 3) from by decide +kernel) (Nat.le_of_ble_eq_true rfl) rfl]
  exact (am_d_ldi (z := -9999002) (show am_fetch 138 12 = some (.ldc 22, 2) from by decide +kernel) (show am_ki 138 22 = some (-9999002) from by decide +kernel)).trans (am_d_iret (show am_fetch 138 14 = some (.ireturn, 1) from by decide +kernel) rfl)
theorem tw_139v {x1 : Int} {x2 : Int} {u3 : Option am_V} (hE : am_Wr E) (h : am_den 90 (0, [some (am_A (34, 0)), some (am_I x1), some (am_I x2), none, none], [], E, M) = some (.inl (some (am_I v)), E1, M1)) : am_den 139 (0, [some (am_A (34, 0)), some (am_I x1), some (am_I x2), u3], [], E, M) = some (.inl (some (am_I v)), E1, M1) := by
  rw [am_B139_0 hE, h, am_bd_v]
  simp only [Nat.reduceAdd]
  rw [am_B139_6]
theorem tw_139x2 {x1 : Int} {x2 : Int} {u3 : Option am_V} (hE : am_Wr E) (h : am_den 90 (0, [some (am_A (34, 0)), some (am_I x1), some (am_I x2), none, none], [], E, M) = some (.inr 2, E1, M1)) : am_den 139 (0, [some (am_A (34, 0)), some (am_I x1), some (am_I x2), u3], [], E, M) = some (.inl (some (am_I (-9999001))), E1, M1) := by
  rw [am_B139_0 hE, h, tw_c (show am_hc 139 3 2 = some (8, 3) from by decide +kernel) (Nat.le_of_ble_eq_true rfl) rfl]
  exact (am_d_ldi (z := -9999001) (show am_fetch 139 8 = some (.ldc 15, 2) from by decide +kernel) (show am_ki 139 15 = some (-9999001) from by decide +kernel)).trans (am_d_iret (show am_fetch 139 10 = some (.ireturn, 1) from by decide +kernel) rfl)
theorem tw_139x0 {x1 : Int} {x2 : Int} {u3 : Option am_V} (hE : am_Wr E) (h : am_den 90 (0, [some (am_A (34, 0)), some (am_I x1), some (am_I x2), none, none], [], E, M) = some (.inr 0, E1, M1)) : am_den 139 (0, [some (am_A (34, 0)), some (am_I x1), some (am_I x2), u3], [], E, M) = some (.inl (some (am_I (-9999002))), E1, M1) := by
  rw [am_B139_0 hE, h, tw_c (show am_hc 139 3 0 = some (12, 3) from by decide +kernel) (Nat.le_of_ble_eq_true rfl) rfl]
  exact (am_d_ldi (z := -9999002) (show am_fetch 139 12 = some (.ldc 22, 2) from by decide +kernel) (show am_ki 139 22 = some (-9999002) from by decide +kernel)).trans (am_d_iret (show am_fetch 139 14 = some (.ireturn, 1) from by decide +kernel) rfl)
theorem tw_140v {x1 : Int} {u2 : Option am_V} (hE : am_Wr E) (h : am_den 94 (0, [some (am_A (34, 0)), some (am_I x1), none], [], E, M) = some (.inl (some (am_I v)), E1, M1)) : am_den 140 (0, [some (am_A (34, 0)), some (am_I x1), u2], [], E, M) = some (.inl (some (am_I v)), E1, M1) := by
  rw [am_B140_0 hE, h, am_bd_v]
  simp only [Nat.reduceAdd]
  rw [am_B140_5]
theorem tw_140x2 {x1 : Int} {u2 : Option am_V} (hE : am_Wr E) (h : am_den 94 (0, [some (am_A (34, 0)), some (am_I x1), none], [], E, M) = some (.inr 2, E1, M1)) : am_den 140 (0, [some (am_A (34, 0)), some (am_I x1), u2], [], E, M) = some (.inl (some (am_I (-9999001))), E1, M1) := by
  rw [am_B140_0 hE, h, tw_c (show am_hc 140 2 2 = some (7, 2) from by decide +kernel) (Nat.le_of_ble_eq_true rfl) rfl]
  exact (am_d_ldi (z := -9999001) (show am_fetch 140 7 = some (.ldc 15, 2) from by decide +kernel) (show am_ki 140 15 = some (-9999001) from by decide +kernel)).trans (am_d_iret (show am_fetch 140 9 = some (.ireturn, 1) from by decide +kernel) rfl)
theorem tw_141v {x1 : Int} {u2 : Option am_V} (hE : am_Wr E) (h : am_den 95 (0, [some (am_A (34, 0)), some (am_I x1), none], [], E, M) = some (.inl (some (am_I v)), E1, M1)) : am_den 141 (0, [some (am_A (34, 0)), some (am_I x1), u2], [], E, M) = some (.inl (some (am_I v)), E1, M1) := by
  rw [am_B141_0 hE, h, am_bd_v]
  simp only [Nat.reduceAdd]
  rw [am_B141_5]
theorem tw_141x2 {x1 : Int} {u2 : Option am_V} (hE : am_Wr E) (h : am_den 95 (0, [some (am_A (34, 0)), some (am_I x1), none], [], E, M) = some (.inr 2, E1, M1)) : am_den 141 (0, [some (am_A (34, 0)), some (am_I x1), u2], [], E, M) = some (.inl (some (am_I (-9999001))), E1, M1) := by
  rw [am_B141_0 hE, h, tw_c (show am_hc 141 2 2 = some (7, 2) from by decide +kernel) (Nat.le_of_ble_eq_true rfl) rfl]
  exact (am_d_ldi (z := -9999001) (show am_fetch 141 7 = some (.ldc 15, 2) from by decide +kernel) (show am_ki 141 15 = some (-9999001) from by decide +kernel)).trans (am_d_iret (show am_fetch 141 9 = some (.ireturn, 1) from by decide +kernel) rfl)
theorem tw_141x1 {x1 : Int} {u2 : Option am_V} (hE : am_Wr E) (h : am_den 95 (0, [some (am_A (34, 0)), some (am_I x1), none], [], E, M) = some (.inr 1, E1, M1)) : am_den 141 (0, [some (am_A (34, 0)), some (am_I x1), u2], [], E, M) = some (.inl (some (am_I (-9999003))), E1, M1) := by
  rw [am_B141_0 hE, h, tw_c (show am_hc 141 2 1 = some (11, 2) from by decide +kernel) (Nat.le_of_ble_eq_true rfl) rfl]
  exact (am_d_ldi (z := -9999003) (show am_fetch 141 11 = some (.ldc 33, 2) from by decide +kernel) (show am_ki 141 33 = some (-9999003) from by decide +kernel)).trans (am_d_iret (show am_fetch 141 13 = some (.ireturn, 1) from by decide +kernel) rfl)
theorem cv_0 {x2 x3 x4 : Int} (hE : am_Wr E) (h : am_den 67 (0, [some (am_A (34, 0)), some (am_I x2)], [], E, M) = some (.inl (some (am_I v)), E1, M1)) : am_den 142 (0, [some (am_A (34, 0)), some (am_I 0), some (am_I x2), some (am_I x3), some (am_I x4)], [], E, M) = some (.inl (some (am_I v)), E1, M1) := by
  rw [am_B142_0, am_S142_1v0 rfl, am_B142_100, tw_120v hE h, am_bd_v]
  simp only [Nat.reduceAdd]
  rw [am_B142_105]
theorem cx_0_0 {x2 x3 x4 : Int} (hE : am_Wr E) (h : am_den 67 (0, [some (am_A (34, 0)), some (am_I x2)], [], E, M) = some (.inr 0, E1, M1)) : am_den 142 (0, [some (am_A (34, 0)), some (am_I 0), some (am_I x2), some (am_I x3), some (am_I x4)], [], E, M) = some (.inl (some (am_I (-9999002))), E1, M1) := by
  rw [am_B142_0, am_S142_1v0 rfl, am_B142_100, tw_120x0 hE h, am_bd_v]
  simp only [Nat.reduceAdd]
  rw [am_B142_105]
theorem cx_0_1 {x2 x3 x4 : Int} (hE : am_Wr E) (h : am_den 67 (0, [some (am_A (34, 0)), some (am_I x2)], [], E, M) = some (.inr 1, E1, M1)) : am_den 142 (0, [some (am_A (34, 0)), some (am_I 0), some (am_I x2), some (am_I x3), some (am_I x4)], [], E, M) = some (.inl (some (am_I (-9999003))), E1, M1) := by
  rw [am_B142_0, am_S142_1v0 rfl, am_B142_100, tw_120x1 hE h, am_bd_v]
  simp only [Nat.reduceAdd]
  rw [am_B142_105]
theorem cv_1 {x2 x3 x4 : Int} (hE : am_Wr E) (h : am_den 70 (0, [some (am_A (34, 0)), none, none], [], E, M) = some (.inl (some (am_I v)), E1, M1)) : am_den 142 (0, [some (am_A (34, 0)), some (am_I 1), some (am_I x2), some (am_I x3), some (am_I x4)], [], E, M) = some (.inl (some (am_I v)), E1, M1) := by
  rw [am_B142_0, am_S142_1v1 rfl, am_B142_106, tw_121v hE h, am_bd_v]
  simp only [Nat.reduceAdd]
  rw [am_B142_110]
theorem cx_1_1 {x2 x3 x4 : Int} (hE : am_Wr E) (h : am_den 70 (0, [some (am_A (34, 0)), none, none], [], E, M) = some (.inr 1, E1, M1)) : am_den 142 (0, [some (am_A (34, 0)), some (am_I 1), some (am_I x2), some (am_I x3), some (am_I x4)], [], E, M) = some (.inl (some (am_I (-9999003))), E1, M1) := by
  rw [am_B142_0, am_S142_1v1 rfl, am_B142_106, tw_121x1 hE h, am_bd_v]
  simp only [Nat.reduceAdd]
  rw [am_B142_110]
theorem cv_2 {x2 x3 x4 : Int} (hE : am_Wr E) (h : am_den 71 (0, [some (am_A (34, 0)), some (am_I x2)], [], E, M) = some (.inl (some (am_I v)), E1, M1)) : am_den 142 (0, [some (am_A (34, 0)), some (am_I 2), some (am_I x2), some (am_I x3), some (am_I x4)], [], E, M) = some (.inl (some (am_I v)), E1, M1) := by
  rw [am_B142_0, am_S142_1v2 rfl, am_B142_111, tw_122v hE h, am_bd_v]
  simp only [Nat.reduceAdd]
  rw [am_B142_116]
theorem cx_2_0 {x2 x3 x4 : Int} (hE : am_Wr E) (h : am_den 71 (0, [some (am_A (34, 0)), some (am_I x2)], [], E, M) = some (.inr 0, E1, M1)) : am_den 142 (0, [some (am_A (34, 0)), some (am_I 2), some (am_I x2), some (am_I x3), some (am_I x4)], [], E, M) = some (.inl (some (am_I (-9999002))), E1, M1) := by
  rw [am_B142_0, am_S142_1v2 rfl, am_B142_111, tw_122x0 hE h, am_bd_v]
  simp only [Nat.reduceAdd]
  rw [am_B142_116]
theorem cv_3 {x2 x3 x4 : Int} (hE : am_Wr E) (h : am_den 72 (0, [some (am_A (34, 0)), some (am_I x2), some (am_I x3)], [], E, M) = some (.inl (some (am_I v)), E1, M1)) : am_den 142 (0, [some (am_A (34, 0)), some (am_I 3), some (am_I x2), some (am_I x3), some (am_I x4)], [], E, M) = some (.inl (some (am_I v)), E1, M1) := by
  rw [am_B142_0, am_S142_1v3 rfl, am_B142_117, tw_123v hE h, am_bd_v]
  simp only [Nat.reduceAdd]
  rw [am_B142_123]
theorem cx_3_2 {x2 x3 x4 : Int} (hE : am_Wr E) (h : am_den 72 (0, [some (am_A (34, 0)), some (am_I x2), some (am_I x3)], [], E, M) = some (.inr 2, E1, M1)) : am_den 142 (0, [some (am_A (34, 0)), some (am_I 3), some (am_I x2), some (am_I x3), some (am_I x4)], [], E, M) = some (.inl (some (am_I (-9999001))), E1, M1) := by
  rw [am_B142_0, am_S142_1v3 rfl, am_B142_117, tw_123x2 hE h, am_bd_v]
  simp only [Nat.reduceAdd]
  rw [am_B142_123]
theorem cx_3_0 {x2 x3 x4 : Int} (hE : am_Wr E) (h : am_den 72 (0, [some (am_A (34, 0)), some (am_I x2), some (am_I x3)], [], E, M) = some (.inr 0, E1, M1)) : am_den 142 (0, [some (am_A (34, 0)), some (am_I 3), some (am_I x2), some (am_I x3), some (am_I x4)], [], E, M) = some (.inl (some (am_I (-9999002))), E1, M1) := by
  rw [am_B142_0, am_S142_1v3 rfl, am_B142_117, tw_123x0 hE h, am_bd_v]
  simp only [Nat.reduceAdd]
  rw [am_B142_123]
theorem cv_4 {x2 x3 x4 : Int} (hE : am_Wr E) (h : am_den 73 (0, [some (am_A (34, 0)), some (am_I x2), some (am_I x3)], [], E, M) = some (.inl (some (am_I v)), E1, M1)) : am_den 142 (0, [some (am_A (34, 0)), some (am_I 4), some (am_I x2), some (am_I x3), some (am_I x4)], [], E, M) = some (.inl (some (am_I v)), E1, M1) := by
  rw [am_B142_0, am_S142_1v4 rfl, am_B142_124, tw_124v hE h, am_bd_v]
  simp only [Nat.reduceAdd]
  rw [am_B142_130]
theorem cx_4_2 {x2 x3 x4 : Int} (hE : am_Wr E) (h : am_den 73 (0, [some (am_A (34, 0)), some (am_I x2), some (am_I x3)], [], E, M) = some (.inr 2, E1, M1)) : am_den 142 (0, [some (am_A (34, 0)), some (am_I 4), some (am_I x2), some (am_I x3), some (am_I x4)], [], E, M) = some (.inl (some (am_I (-9999001))), E1, M1) := by
  rw [am_B142_0, am_S142_1v4 rfl, am_B142_124, tw_124x2 hE h, am_bd_v]
  simp only [Nat.reduceAdd]
  rw [am_B142_130]
theorem cx_4_0 {x2 x3 x4 : Int} (hE : am_Wr E) (h : am_den 73 (0, [some (am_A (34, 0)), some (am_I x2), some (am_I x3)], [], E, M) = some (.inr 0, E1, M1)) : am_den 142 (0, [some (am_A (34, 0)), some (am_I 4), some (am_I x2), some (am_I x3), some (am_I x4)], [], E, M) = some (.inl (some (am_I (-9999002))), E1, M1) := by
  rw [am_B142_0, am_S142_1v4 rfl, am_B142_124, tw_124x0 hE h, am_bd_v]
  simp only [Nat.reduceAdd]
  rw [am_B142_130]
theorem cv_5 {x2 x3 x4 : Int} (hE : am_Wr E) (h : am_den 74 (0, [some (am_A (34, 0)), some (am_I x2), some (am_I x3), some (am_I x4)], [], E, M) = some (.inl (some (am_I v)), E1, M1)) : am_den 142 (0, [some (am_A (34, 0)), some (am_I 5), some (am_I x2), some (am_I x3), some (am_I x4)], [], E, M) = some (.inl (some (am_I v)), E1, M1) := by
  rw [am_B142_0, am_S142_1v5 rfl, am_B142_131, tw_125v hE h, am_bd_v]
  simp only [Nat.reduceAdd]
  rw [am_B142_139]
theorem cx_5_2 {x2 x3 x4 : Int} (hE : am_Wr E) (h : am_den 74 (0, [some (am_A (34, 0)), some (am_I x2), some (am_I x3), some (am_I x4)], [], E, M) = some (.inr 2, E1, M1)) : am_den 142 (0, [some (am_A (34, 0)), some (am_I 5), some (am_I x2), some (am_I x3), some (am_I x4)], [], E, M) = some (.inl (some (am_I (-9999001))), E1, M1) := by
  rw [am_B142_0, am_S142_1v5 rfl, am_B142_131, tw_125x2 hE h, am_bd_v]
  simp only [Nat.reduceAdd]
  rw [am_B142_139]
theorem cx_5_0 {x2 x3 x4 : Int} (hE : am_Wr E) (h : am_den 74 (0, [some (am_A (34, 0)), some (am_I x2), some (am_I x3), some (am_I x4)], [], E, M) = some (.inr 0, E1, M1)) : am_den 142 (0, [some (am_A (34, 0)), some (am_I 5), some (am_I x2), some (am_I x3), some (am_I x4)], [], E, M) = some (.inl (some (am_I (-9999002))), E1, M1) := by
  rw [am_B142_0, am_S142_1v5 rfl, am_B142_131, tw_125x0 hE h, am_bd_v]
  simp only [Nat.reduceAdd]
  rw [am_B142_139]
theorem cx_5_1 {x2 x3 x4 : Int} (hE : am_Wr E) (h : am_den 74 (0, [some (am_A (34, 0)), some (am_I x2), some (am_I x3), some (am_I x4)], [], E, M) = some (.inr 1, E1, M1)) : am_den 142 (0, [some (am_A (34, 0)), some (am_I 5), some (am_I x2), some (am_I x3), some (am_I x4)], [], E, M) = some (.inl (some (am_I (-9999003))), E1, M1) := by
  rw [am_B142_0, am_S142_1v5 rfl, am_B142_131, tw_125x1 hE h, am_bd_v]
  simp only [Nat.reduceAdd]
  rw [am_B142_139]
theorem cv_6 {x2 x3 x4 : Int} (hE : am_Wr E) (h : am_den 75 (0, [some (am_A (34, 0))], [], E, M) = some (.inl (some (am_I v)), E1, M1)) : am_den 142 (0, [some (am_A (34, 0)), some (am_I 6), some (am_I x2), some (am_I x3), some (am_I x4)], [], E, M) = some (.inl (some (am_I v)), E1, M1) := by
  rw [am_B142_0, am_S142_1v6 rfl, am_B142_140, tw_126v hE h, am_bd_v]
  simp only [Nat.reduceAdd]
  rw [am_B142_144]
theorem cx_6_1 {x2 x3 x4 : Int} (hE : am_Wr E) (h : am_den 75 (0, [some (am_A (34, 0))], [], E, M) = some (.inr 1, E1, M1)) : am_den 142 (0, [some (am_A (34, 0)), some (am_I 6), some (am_I x2), some (am_I x3), some (am_I x4)], [], E, M) = some (.inl (some (am_I (-9999003))), E1, M1) := by
  rw [am_B142_0, am_S142_1v6 rfl, am_B142_140, tw_126x1 hE h, am_bd_v]
  simp only [Nat.reduceAdd]
  rw [am_B142_144]
theorem cv_7 {x2 x3 x4 : Int} (hE : am_Wr E) (h : am_den 76 (0, [some (am_A (34, 0)), some (am_I x2), some (am_I x3)], [], E, M) = some (.inl (some (am_I v)), E1, M1)) : am_den 142 (0, [some (am_A (34, 0)), some (am_I 7), some (am_I x2), some (am_I x3), some (am_I x4)], [], E, M) = some (.inl (some (am_I v)), E1, M1) := by
  rw [am_B142_0, am_S142_1v7 rfl, am_B142_145, tw_127v hE h, am_bd_v]
  simp only [Nat.reduceAdd]
  rw [am_B142_151]
theorem cx_7_2 {x2 x3 x4 : Int} (hE : am_Wr E) (h : am_den 76 (0, [some (am_A (34, 0)), some (am_I x2), some (am_I x3)], [], E, M) = some (.inr 2, E1, M1)) : am_den 142 (0, [some (am_A (34, 0)), some (am_I 7), some (am_I x2), some (am_I x3), some (am_I x4)], [], E, M) = some (.inl (some (am_I (-9999001))), E1, M1) := by
  rw [am_B142_0, am_S142_1v7 rfl, am_B142_145, tw_127x2 hE h, am_bd_v]
  simp only [Nat.reduceAdd]
  rw [am_B142_151]
theorem cx_7_0 {x2 x3 x4 : Int} (hE : am_Wr E) (h : am_den 76 (0, [some (am_A (34, 0)), some (am_I x2), some (am_I x3)], [], E, M) = some (.inr 0, E1, M1)) : am_den 142 (0, [some (am_A (34, 0)), some (am_I 7), some (am_I x2), some (am_I x3), some (am_I x4)], [], E, M) = some (.inl (some (am_I (-9999002))), E1, M1) := by
  rw [am_B142_0, am_S142_1v7 rfl, am_B142_145, tw_127x0 hE h, am_bd_v]
  simp only [Nat.reduceAdd]
  rw [am_B142_151]
theorem cx_7_1 {x2 x3 x4 : Int} (hE : am_Wr E) (h : am_den 76 (0, [some (am_A (34, 0)), some (am_I x2), some (am_I x3)], [], E, M) = some (.inr 1, E1, M1)) : am_den 142 (0, [some (am_A (34, 0)), some (am_I 7), some (am_I x2), some (am_I x3), some (am_I x4)], [], E, M) = some (.inl (some (am_I (-9999003))), E1, M1) := by
  rw [am_B142_0, am_S142_1v7 rfl, am_B142_145, tw_127x1 hE h, am_bd_v]
  simp only [Nat.reduceAdd]
  rw [am_B142_151]
theorem cv_8 {x2 x3 x4 : Int} (hE : am_Wr E) (h : am_den 77 (0, [some (am_A (34, 0)), some (am_I x2), none], [], E, M) = some (.inl (some (am_I v)), E1, M1)) : am_den 142 (0, [some (am_A (34, 0)), some (am_I 8), some (am_I x2), some (am_I x3), some (am_I x4)], [], E, M) = some (.inl (some (am_I v)), E1, M1) := by
  rw [am_B142_0, am_S142_1v8 rfl, am_B142_152, tw_128v hE h, am_bd_v]
  simp only [Nat.reduceAdd]
  rw [am_B142_157]
theorem cx_8_2 {x2 x3 x4 : Int} (hE : am_Wr E) (h : am_den 77 (0, [some (am_A (34, 0)), some (am_I x2), none], [], E, M) = some (.inr 2, E1, M1)) : am_den 142 (0, [some (am_A (34, 0)), some (am_I 8), some (am_I x2), some (am_I x3), some (am_I x4)], [], E, M) = some (.inl (some (am_I (-9999001))), E1, M1) := by
  rw [am_B142_0, am_S142_1v8 rfl, am_B142_152, tw_128x2 hE h, am_bd_v]
  simp only [Nat.reduceAdd]
  rw [am_B142_157]
theorem cv_9 {x2 x3 x4 : Int} (hE : am_Wr E) (h : am_den 78 (0, [some (am_A (34, 0)), some (am_I x2)], [], E, M) = some (.inl (some (am_I v)), E1, M1)) : am_den 142 (0, [some (am_A (34, 0)), some (am_I 9), some (am_I x2), some (am_I x3), some (am_I x4)], [], E, M) = some (.inl (some (am_I v)), E1, M1) := by
  rw [am_B142_0, am_S142_1v9 rfl, am_B142_158, tw_129v hE h, am_bd_v]
  simp only [Nat.reduceAdd]
  rw [am_B142_163]
theorem cx_9_2 {x2 x3 x4 : Int} (hE : am_Wr E) (h : am_den 78 (0, [some (am_A (34, 0)), some (am_I x2)], [], E, M) = some (.inr 2, E1, M1)) : am_den 142 (0, [some (am_A (34, 0)), some (am_I 9), some (am_I x2), some (am_I x3), some (am_I x4)], [], E, M) = some (.inl (some (am_I (-9999001))), E1, M1) := by
  rw [am_B142_0, am_S142_1v9 rfl, am_B142_158, tw_129x2 hE h, am_bd_v]
  simp only [Nat.reduceAdd]
  rw [am_B142_163]
theorem cv_10 {x2 x3 x4 : Int} (hE : am_Wr E) (h : am_den 79 (0, [some (am_A (34, 0)), some (am_I x2), some (am_I x3)], [], E, M) = some (.inl (some (am_I v)), E1, M1)) : am_den 142 (0, [some (am_A (34, 0)), some (am_I 10), some (am_I x2), some (am_I x3), some (am_I x4)], [], E, M) = some (.inl (some (am_I v)), E1, M1) := by
  rw [am_B142_0, am_S142_1v10 rfl, am_B142_164, tw_130v hE h, am_bd_v]
  simp only [Nat.reduceAdd]
  rw [am_B142_170]
theorem cx_10_2 {x2 x3 x4 : Int} (hE : am_Wr E) (h : am_den 79 (0, [some (am_A (34, 0)), some (am_I x2), some (am_I x3)], [], E, M) = some (.inr 2, E1, M1)) : am_den 142 (0, [some (am_A (34, 0)), some (am_I 10), some (am_I x2), some (am_I x3), some (am_I x4)], [], E, M) = some (.inl (some (am_I (-9999001))), E1, M1) := by
  rw [am_B142_0, am_S142_1v10 rfl, am_B142_164, tw_130x2 hE h, am_bd_v]
  simp only [Nat.reduceAdd]
  rw [am_B142_170]
theorem cx_10_0 {x2 x3 x4 : Int} (hE : am_Wr E) (h : am_den 79 (0, [some (am_A (34, 0)), some (am_I x2), some (am_I x3)], [], E, M) = some (.inr 0, E1, M1)) : am_den 142 (0, [some (am_A (34, 0)), some (am_I 10), some (am_I x2), some (am_I x3), some (am_I x4)], [], E, M) = some (.inl (some (am_I (-9999002))), E1, M1) := by
  rw [am_B142_0, am_S142_1v10 rfl, am_B142_164, tw_130x0 hE h, am_bd_v]
  simp only [Nat.reduceAdd]
  rw [am_B142_170]
theorem cv_11 {x2 x3 x4 : Int} (hE : am_Wr E) (h : am_den 81 (0, [some (am_A (34, 0)), some (am_I x2)], [], E, M) = some (.inl (some (am_I v)), E1, M1)) : am_den 142 (0, [some (am_A (34, 0)), some (am_I 11), some (am_I x2), some (am_I x3), some (am_I x4)], [], E, M) = some (.inl (some (am_I v)), E1, M1) := by
  rw [am_B142_0, am_S142_1v11 rfl, am_B142_171, tw_131v hE h, am_bd_v]
  simp only [Nat.reduceAdd]
  rw [am_B142_176]
theorem cx_11_0 {x2 x3 x4 : Int} (hE : am_Wr E) (h : am_den 81 (0, [some (am_A (34, 0)), some (am_I x2)], [], E, M) = some (.inr 0, E1, M1)) : am_den 142 (0, [some (am_A (34, 0)), some (am_I 11), some (am_I x2), some (am_I x3), some (am_I x4)], [], E, M) = some (.inl (some (am_I (-9999002))), E1, M1) := by
  rw [am_B142_0, am_S142_1v11 rfl, am_B142_171, tw_131x0 hE h, am_bd_v]
  simp only [Nat.reduceAdd]
  rw [am_B142_176]
theorem cv_12 {x2 x3 x4 : Int} (hE : am_Wr E) (h : am_den 82 (0, [some (am_A (34, 0)), some (am_I x2)], [], E, M) = some (.inl (some (am_I v)), E1, M1)) : am_den 142 (0, [some (am_A (34, 0)), some (am_I 12), some (am_I x2), some (am_I x3), some (am_I x4)], [], E, M) = some (.inl (some (am_I v)), E1, M1) := by
  rw [am_B142_0, am_S142_1v12 rfl, am_B142_177, tw_132v hE h, am_bd_v]
  simp only [Nat.reduceAdd]
  rw [am_B142_182]
theorem cx_12_0 {x2 x3 x4 : Int} (hE : am_Wr E) (h : am_den 82 (0, [some (am_A (34, 0)), some (am_I x2)], [], E, M) = some (.inr 0, E1, M1)) : am_den 142 (0, [some (am_A (34, 0)), some (am_I 12), some (am_I x2), some (am_I x3), some (am_I x4)], [], E, M) = some (.inl (some (am_I (-9999002))), E1, M1) := by
  rw [am_B142_0, am_S142_1v12 rfl, am_B142_177, tw_132x0 hE h, am_bd_v]
  simp only [Nat.reduceAdd]
  rw [am_B142_182]
theorem cv_13 {x2 x3 x4 : Int} (hE : am_Wr E) (h : am_den 83 (0, [some (am_A (34, 0)), some (am_I x2)], [], E, M) = some (.inl (some (am_I v)), E1, M1)) : am_den 142 (0, [some (am_A (34, 0)), some (am_I 13), some (am_I x2), some (am_I x3), some (am_I x4)], [], E, M) = some (.inl (some (am_I v)), E1, M1) := by
  rw [am_B142_0, am_S142_1v13 rfl, am_B142_183, tw_133v hE h, am_bd_v]
  simp only [Nat.reduceAdd]
  rw [am_B142_188]
theorem cx_13_2 {x2 x3 x4 : Int} (hE : am_Wr E) (h : am_den 83 (0, [some (am_A (34, 0)), some (am_I x2)], [], E, M) = some (.inr 2, E1, M1)) : am_den 142 (0, [some (am_A (34, 0)), some (am_I 13), some (am_I x2), some (am_I x3), some (am_I x4)], [], E, M) = some (.inl (some (am_I (-9999001))), E1, M1) := by
  rw [am_B142_0, am_S142_1v13 rfl, am_B142_183, tw_133x2 hE h, am_bd_v]
  simp only [Nat.reduceAdd]
  rw [am_B142_188]
theorem cv_14 {x2 x3 x4 : Int} (hE : am_Wr E) (h : am_den 84 (0, [some (am_A (34, 0)), some (am_I x2)], [], E, M) = some (.inl (some (am_I v)), E1, M1)) : am_den 142 (0, [some (am_A (34, 0)), some (am_I 14), some (am_I x2), some (am_I x3), some (am_I x4)], [], E, M) = some (.inl (some (am_I v)), E1, M1) := by
  rw [am_B142_0, am_S142_1v14 rfl, am_B142_189, tw_134v hE h, am_bd_v]
  simp only [Nat.reduceAdd]
  rw [am_B142_194]
theorem cx_14_0 {x2 x3 x4 : Int} (hE : am_Wr E) (h : am_den 84 (0, [some (am_A (34, 0)), some (am_I x2)], [], E, M) = some (.inr 0, E1, M1)) : am_den 142 (0, [some (am_A (34, 0)), some (am_I 14), some (am_I x2), some (am_I x3), some (am_I x4)], [], E, M) = some (.inl (some (am_I (-9999002))), E1, M1) := by
  rw [am_B142_0, am_S142_1v14 rfl, am_B142_189, tw_134x0 hE h, am_bd_v]
  simp only [Nat.reduceAdd]
  rw [am_B142_194]
theorem cv_15 {x2 x3 x4 : Int} (hE : am_Wr E) (h : am_den 85 (0, [some (am_A (34, 0)), some (am_I x2), none], [], E, M) = some (.inl (some (am_I v)), E1, M1)) : am_den 142 (0, [some (am_A (34, 0)), some (am_I 15), some (am_I x2), some (am_I x3), some (am_I x4)], [], E, M) = some (.inl (some (am_I v)), E1, M1) := by
  rw [am_B142_0, am_S142_1v15 rfl, am_B142_195, tw_135v hE h, am_bd_v]
  simp only [Nat.reduceAdd]
  rw [am_B142_200]
theorem cx_15_0 {x2 x3 x4 : Int} (hE : am_Wr E) (h : am_den 85 (0, [some (am_A (34, 0)), some (am_I x2), none], [], E, M) = some (.inr 0, E1, M1)) : am_den 142 (0, [some (am_A (34, 0)), some (am_I 15), some (am_I x2), some (am_I x3), some (am_I x4)], [], E, M) = some (.inl (some (am_I (-9999002))), E1, M1) := by
  rw [am_B142_0, am_S142_1v15 rfl, am_B142_195, tw_135x0 hE h, am_bd_v]
  simp only [Nat.reduceAdd]
  rw [am_B142_200]
theorem cv_16 {x2 x3 x4 : Int} (hE : am_Wr E) (h : am_den 86 (0, [some (am_A (34, 0))], [], E, M) = some (.inl (some (am_I v)), E1, M1)) : am_den 142 (0, [some (am_A (34, 0)), some (am_I 16), some (am_I x2), some (am_I x3), some (am_I x4)], [], E, M) = some (.inl (some (am_I v)), E1, M1) := by
  rw [am_B142_0, am_S142_1v16 rfl, am_B142_201, tw_136v hE h, am_bd_v]
  simp only [Nat.reduceAdd]
  rw [am_B142_205]
theorem cx_16_1 {x2 x3 x4 : Int} (hE : am_Wr E) (h : am_den 86 (0, [some (am_A (34, 0))], [], E, M) = some (.inr 1, E1, M1)) : am_den 142 (0, [some (am_A (34, 0)), some (am_I 16), some (am_I x2), some (am_I x3), some (am_I x4)], [], E, M) = some (.inl (some (am_I (-9999003))), E1, M1) := by
  rw [am_B142_0, am_S142_1v16 rfl, am_B142_201, tw_136x1 hE h, am_bd_v]
  simp only [Nat.reduceAdd]
  rw [am_B142_205]
theorem cv_17 {x2 x3 x4 : Int} (hE : am_Wr E) (h : am_den 87 (0, [some (am_A (34, 0)), some (am_I x2), some (am_I x3), none, none, none], [], E, M) = some (.inl (some (am_I v)), E1, M1)) : am_den 142 (0, [some (am_A (34, 0)), some (am_I 17), some (am_I x2), some (am_I x3), some (am_I x4)], [], E, M) = some (.inl (some (am_I v)), E1, M1) := by
  rw [am_B142_0, am_S142_1v17 rfl, am_B142_206, tw_137v hE h, am_bd_v]
  simp only [Nat.reduceAdd]
  rw [am_B142_212]
theorem cx_17_2 {x2 x3 x4 : Int} (hE : am_Wr E) (h : am_den 87 (0, [some (am_A (34, 0)), some (am_I x2), some (am_I x3), none, none, none], [], E, M) = some (.inr 2, E1, M1)) : am_den 142 (0, [some (am_A (34, 0)), some (am_I 17), some (am_I x2), some (am_I x3), some (am_I x4)], [], E, M) = some (.inl (some (am_I (-9999001))), E1, M1) := by
  rw [am_B142_0, am_S142_1v17 rfl, am_B142_206, tw_137x2 hE h, am_bd_v]
  simp only [Nat.reduceAdd]
  rw [am_B142_212]
theorem cx_17_0 {x2 x3 x4 : Int} (hE : am_Wr E) (h : am_den 87 (0, [some (am_A (34, 0)), some (am_I x2), some (am_I x3), none, none, none], [], E, M) = some (.inr 0, E1, M1)) : am_den 142 (0, [some (am_A (34, 0)), some (am_I 17), some (am_I x2), some (am_I x3), some (am_I x4)], [], E, M) = some (.inl (some (am_I (-9999002))), E1, M1) := by
  rw [am_B142_0, am_S142_1v17 rfl, am_B142_206, tw_137x0 hE h, am_bd_v]
  simp only [Nat.reduceAdd]
  rw [am_B142_212]
theorem cv_18 {x2 x3 x4 : Int} (hE : am_Wr E) (h : am_den 88 (0, [some (am_A (34, 0)), some (am_I x2), some (am_I x3)], [], E, M) = some (.inl (some (am_I v)), E1, M1)) : am_den 142 (0, [some (am_A (34, 0)), some (am_I 18), some (am_I x2), some (am_I x3), some (am_I x4)], [], E, M) = some (.inl (some (am_I v)), E1, M1) := by
  rw [am_B142_0, am_S142_1v18 rfl, am_B142_213, tw_138v hE h, am_bd_v]
  simp only [Nat.reduceAdd]
  rw [am_B142_219]
theorem cx_18_2 {x2 x3 x4 : Int} (hE : am_Wr E) (h : am_den 88 (0, [some (am_A (34, 0)), some (am_I x2), some (am_I x3)], [], E, M) = some (.inr 2, E1, M1)) : am_den 142 (0, [some (am_A (34, 0)), some (am_I 18), some (am_I x2), some (am_I x3), some (am_I x4)], [], E, M) = some (.inl (some (am_I (-9999001))), E1, M1) := by
  rw [am_B142_0, am_S142_1v18 rfl, am_B142_213, tw_138x2 hE h, am_bd_v]
  simp only [Nat.reduceAdd]
  rw [am_B142_219]
theorem cx_18_0 {x2 x3 x4 : Int} (hE : am_Wr E) (h : am_den 88 (0, [some (am_A (34, 0)), some (am_I x2), some (am_I x3)], [], E, M) = some (.inr 0, E1, M1)) : am_den 142 (0, [some (am_A (34, 0)), some (am_I 18), some (am_I x2), some (am_I x3), some (am_I x4)], [], E, M) = some (.inl (some (am_I (-9999002))), E1, M1) := by
  rw [am_B142_0, am_S142_1v18 rfl, am_B142_213, tw_138x0 hE h, am_bd_v]
  simp only [Nat.reduceAdd]
  rw [am_B142_219]
theorem cv_19 {x2 x3 x4 : Int} (hE : am_Wr E) (h : am_den 90 (0, [some (am_A (34, 0)), some (am_I x2), some (am_I x3), none, none], [], E, M) = some (.inl (some (am_I v)), E1, M1)) : am_den 142 (0, [some (am_A (34, 0)), some (am_I 19), some (am_I x2), some (am_I x3), some (am_I x4)], [], E, M) = some (.inl (some (am_I v)), E1, M1) := by
  rw [am_B142_0, am_S142_1v19 rfl, am_B142_220, tw_139v hE h, am_bd_v]
  simp only [Nat.reduceAdd]
  rw [am_B142_226]
theorem cx_19_2 {x2 x3 x4 : Int} (hE : am_Wr E) (h : am_den 90 (0, [some (am_A (34, 0)), some (am_I x2), some (am_I x3), none, none], [], E, M) = some (.inr 2, E1, M1)) : am_den 142 (0, [some (am_A (34, 0)), some (am_I 19), some (am_I x2), some (am_I x3), some (am_I x4)], [], E, M) = some (.inl (some (am_I (-9999001))), E1, M1) := by
  rw [am_B142_0, am_S142_1v19 rfl, am_B142_220, tw_139x2 hE h, am_bd_v]
  simp only [Nat.reduceAdd]
  rw [am_B142_226]
theorem cx_19_0 {x2 x3 x4 : Int} (hE : am_Wr E) (h : am_den 90 (0, [some (am_A (34, 0)), some (am_I x2), some (am_I x3), none, none], [], E, M) = some (.inr 0, E1, M1)) : am_den 142 (0, [some (am_A (34, 0)), some (am_I 19), some (am_I x2), some (am_I x3), some (am_I x4)], [], E, M) = some (.inl (some (am_I (-9999002))), E1, M1) := by
  rw [am_B142_0, am_S142_1v19 rfl, am_B142_220, tw_139x0 hE h, am_bd_v]
  simp only [Nat.reduceAdd]
  rw [am_B142_226]
theorem cv_20 {x2 x3 x4 : Int} (hE : am_Wr E) (h : am_den 94 (0, [some (am_A (34, 0)), some (am_I x2), none], [], E, M) = some (.inl (some (am_I v)), E1, M1)) : am_den 142 (0, [some (am_A (34, 0)), some (am_I 20), some (am_I x2), some (am_I x3), some (am_I x4)], [], E, M) = some (.inl (some (am_I v)), E1, M1) := by
  rw [am_B142_0, am_S142_1v20 rfl, am_B142_227, tw_140v hE h, am_bd_v]
  simp only [Nat.reduceAdd]
  rw [am_B142_232]
theorem cx_20_2 {x2 x3 x4 : Int} (hE : am_Wr E) (h : am_den 94 (0, [some (am_A (34, 0)), some (am_I x2), none], [], E, M) = some (.inr 2, E1, M1)) : am_den 142 (0, [some (am_A (34, 0)), some (am_I 20), some (am_I x2), some (am_I x3), some (am_I x4)], [], E, M) = some (.inl (some (am_I (-9999001))), E1, M1) := by
  rw [am_B142_0, am_S142_1v20 rfl, am_B142_227, tw_140x2 hE h, am_bd_v]
  simp only [Nat.reduceAdd]
  rw [am_B142_232]
theorem cv_21 {x2 x3 x4 : Int} (hE : am_Wr E) (h : am_den 95 (0, [some (am_A (34, 0)), some (am_I x2), none], [], E, M) = some (.inl (some (am_I v)), E1, M1)) : am_den 142 (0, [some (am_A (34, 0)), some (am_I 21), some (am_I x2), some (am_I x3), some (am_I x4)], [], E, M) = some (.inl (some (am_I v)), E1, M1) := by
  rw [am_B142_0, am_S142_1d (by decide), am_B142_233, tw_141v hE h, am_bd_v]
  simp only [Nat.reduceAdd]
  rw [am_B142_238]
theorem cx_21_2 {x2 x3 x4 : Int} (hE : am_Wr E) (h : am_den 95 (0, [some (am_A (34, 0)), some (am_I x2), none], [], E, M) = some (.inr 2, E1, M1)) : am_den 142 (0, [some (am_A (34, 0)), some (am_I 21), some (am_I x2), some (am_I x3), some (am_I x4)], [], E, M) = some (.inl (some (am_I (-9999001))), E1, M1) := by
  rw [am_B142_0, am_S142_1d (by decide), am_B142_233, tw_141x2 hE h, am_bd_v]
  simp only [Nat.reduceAdd]
  rw [am_B142_238]
theorem cx_21_1 {x2 x3 x4 : Int} (hE : am_Wr E) (h : am_den 95 (0, [some (am_A (34, 0)), some (am_I x2), none], [], E, M) = some (.inr 1, E1, M1)) : am_den 142 (0, [some (am_A (34, 0)), some (am_I 21), some (am_I x2), some (am_I x3), some (am_I x4)], [], E, M) = some (.inl (some (am_I (-9999003))), E1, M1) := by
  rw [am_B142_0, am_S142_1d (by decide), am_B142_233, tw_141x1 hE h, am_bd_v]
  simp only [Nat.reduceAdd]
  rw [am_B142_238]
end WRAP
