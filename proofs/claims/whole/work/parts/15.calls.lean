/-! ===== methods and their words ===== -/
theorem am_lkN {α : Type} {l : List (Nat × α)} {k : Nat} {v : α} (h : l.lookup k = some v) : (k, v) ∈ l := by
  induction l with
  | nil => cases h
  | cons a t ih =>
    obtain ⟨k', v'⟩ := a
    rw [List.lookup_cons] at h
    split at h
    · rename_i he
      cases h
      have : k = k' := by simpa using he
      subst this
      exact List.mem_cons_self
    · exact List.mem_cons_of_mem _ (ih h)
theorem am_fetch_i {k pc : Nat} {i : Instr} {len : Nat} (hk : k < 229) (h : am_fetch k pc = some (i, len)) : decode (am_mt k).2.2.2.1 pc = .ok (i, len) := by
  have h1 := am_lkN h
  have h2 := List.all_eq_true.mp (am_code_ok k hk) _ h1
  simpa [am_dB] using h2
def am_cw (t : Nat) : Cond := match (am_mt t).2.2.2.2.2.2.1 with
  | [] => .code (am_mt t).2.2.1 (am_mt t).2.2.2.1 (am_mt t).2.2.2.2.1 (am_mt t).2.2.2.2.2.1
  | hh => .codeWith (am_mt t).2.2.1 (am_mt t).2.2.2.1 (am_mt t).2.2.2.2.1 (am_mt t).2.2.2.2.2.1 hh
def am_cP (k : Nat) : Prop := k = 225 ∨ lw_tbl[(am_mp k).1]? = some (am_cw k)
theorem am_kb0 : ∀ k, k < 0 → am_cP k := fun k h => absurd h (Nat.not_lt_zero k)
set_option maxRecDepth 100000 in
theorem am_kb1 : ∀ k, k < 1 → am_cP k := am_fs am_kb0 (Or.inr rfl)
set_option maxRecDepth 100000 in
theorem am_kb2 : ∀ k, k < 2 → am_cP k := am_fs am_kb1 (Or.inr rfl)
set_option maxRecDepth 100000 in
theorem am_kb3 : ∀ k, k < 3 → am_cP k := am_fs am_kb2 (Or.inr rfl)
set_option maxRecDepth 100000 in
theorem am_kb4 : ∀ k, k < 4 → am_cP k := am_fs am_kb3 (Or.inr rfl)
set_option maxRecDepth 100000 in
theorem am_kb5 : ∀ k, k < 5 → am_cP k := am_fs am_kb4 (Or.inr rfl)
set_option maxRecDepth 100000 in
theorem am_kb6 : ∀ k, k < 6 → am_cP k := am_fs am_kb5 (Or.inr rfl)
set_option maxRecDepth 100000 in
theorem am_kb7 : ∀ k, k < 7 → am_cP k := am_fs am_kb6 (Or.inr rfl)
set_option maxRecDepth 100000 in
theorem am_kb8 : ∀ k, k < 8 → am_cP k := am_fs am_kb7 (Or.inr rfl)
set_option maxRecDepth 100000 in
theorem am_kb9 : ∀ k, k < 9 → am_cP k := am_fs am_kb8 (Or.inr rfl)
set_option maxRecDepth 100000 in
theorem am_kb10 : ∀ k, k < 10 → am_cP k := am_fs am_kb9 (Or.inr rfl)
set_option maxRecDepth 100000 in
theorem am_kb11 : ∀ k, k < 11 → am_cP k := am_fs am_kb10 (Or.inr rfl)
set_option maxRecDepth 100000 in
theorem am_kb12 : ∀ k, k < 12 → am_cP k := am_fs am_kb11 (Or.inr rfl)
set_option maxRecDepth 100000 in
theorem am_kb13 : ∀ k, k < 13 → am_cP k := am_fs am_kb12 (Or.inr rfl)
set_option maxRecDepth 100000 in
theorem am_kb14 : ∀ k, k < 14 → am_cP k := am_fs am_kb13 (Or.inr rfl)
set_option maxRecDepth 100000 in
theorem am_kb15 : ∀ k, k < 15 → am_cP k := am_fs am_kb14 (Or.inr rfl)
set_option maxRecDepth 100000 in
theorem am_kb16 : ∀ k, k < 16 → am_cP k := am_fs am_kb15 (Or.inr rfl)
set_option maxRecDepth 100000 in
theorem am_kb17 : ∀ k, k < 17 → am_cP k := am_fs am_kb16 (Or.inr rfl)
set_option maxRecDepth 100000 in
theorem am_kb18 : ∀ k, k < 18 → am_cP k := am_fs am_kb17 (Or.inr rfl)
set_option maxRecDepth 100000 in
theorem am_kb19 : ∀ k, k < 19 → am_cP k := am_fs am_kb18 (Or.inr rfl)
set_option maxRecDepth 100000 in
theorem am_kb20 : ∀ k, k < 20 → am_cP k := am_fs am_kb19 (Or.inr rfl)
set_option maxRecDepth 100000 in
theorem am_kb21 : ∀ k, k < 21 → am_cP k := am_fs am_kb20 (Or.inr rfl)
set_option maxRecDepth 100000 in
theorem am_kb22 : ∀ k, k < 22 → am_cP k := am_fs am_kb21 (Or.inr rfl)
set_option maxRecDepth 100000 in
theorem am_kb23 : ∀ k, k < 23 → am_cP k := am_fs am_kb22 (Or.inr rfl)
set_option maxRecDepth 100000 in
theorem am_kb24 : ∀ k, k < 24 → am_cP k := am_fs am_kb23 (Or.inr rfl)
set_option maxRecDepth 100000 in
theorem am_kb25 : ∀ k, k < 25 → am_cP k := am_fs am_kb24 (Or.inr rfl)
set_option maxRecDepth 100000 in
theorem am_kb26 : ∀ k, k < 26 → am_cP k := am_fs am_kb25 (Or.inr rfl)
set_option maxRecDepth 100000 in
theorem am_kb27 : ∀ k, k < 27 → am_cP k := am_fs am_kb26 (Or.inr rfl)
set_option maxRecDepth 100000 in
theorem am_kb28 : ∀ k, k < 28 → am_cP k := am_fs am_kb27 (Or.inr rfl)
set_option maxRecDepth 100000 in
theorem am_kb29 : ∀ k, k < 29 → am_cP k := am_fs am_kb28 (Or.inr rfl)
set_option maxRecDepth 100000 in
theorem am_kb30 : ∀ k, k < 30 → am_cP k := am_fs am_kb29 (Or.inr rfl)
set_option maxRecDepth 100000 in
theorem am_kb31 : ∀ k, k < 31 → am_cP k := am_fs am_kb30 (Or.inr rfl)
set_option maxRecDepth 100000 in
theorem am_kb32 : ∀ k, k < 32 → am_cP k := am_fs am_kb31 (Or.inr rfl)
set_option maxRecDepth 100000 in
theorem am_kb33 : ∀ k, k < 33 → am_cP k := am_fs am_kb32 (Or.inr rfl)
set_option maxRecDepth 100000 in
theorem am_kb34 : ∀ k, k < 34 → am_cP k := am_fs am_kb33 (Or.inr rfl)
set_option maxRecDepth 100000 in
theorem am_kb35 : ∀ k, k < 35 → am_cP k := am_fs am_kb34 (Or.inr rfl)
set_option maxRecDepth 100000 in
theorem am_kb36 : ∀ k, k < 36 → am_cP k := am_fs am_kb35 (Or.inr rfl)
set_option maxRecDepth 100000 in
theorem am_kb37 : ∀ k, k < 37 → am_cP k := am_fs am_kb36 (Or.inr rfl)
set_option maxRecDepth 100000 in
theorem am_kb38 : ∀ k, k < 38 → am_cP k := am_fs am_kb37 (Or.inr rfl)
set_option maxRecDepth 100000 in
theorem am_kb39 : ∀ k, k < 39 → am_cP k := am_fs am_kb38 (Or.inr rfl)
set_option maxRecDepth 100000 in
theorem am_kb40 : ∀ k, k < 40 → am_cP k := am_fs am_kb39 (Or.inr rfl)
set_option maxRecDepth 100000 in
theorem am_kb41 : ∀ k, k < 41 → am_cP k := am_fs am_kb40 (Or.inr rfl)
set_option maxRecDepth 100000 in
theorem am_kb42 : ∀ k, k < 42 → am_cP k := am_fs am_kb41 (Or.inr rfl)
set_option maxRecDepth 100000 in
theorem am_kb43 : ∀ k, k < 43 → am_cP k := am_fs am_kb42 (Or.inr rfl)
set_option maxRecDepth 100000 in
theorem am_kb44 : ∀ k, k < 44 → am_cP k := am_fs am_kb43 (Or.inr rfl)
set_option maxRecDepth 100000 in
theorem am_kb45 : ∀ k, k < 45 → am_cP k := am_fs am_kb44 (Or.inr rfl)
set_option maxRecDepth 100000 in
theorem am_kb46 : ∀ k, k < 46 → am_cP k := am_fs am_kb45 (Or.inr rfl)
set_option maxRecDepth 100000 in
theorem am_kb47 : ∀ k, k < 47 → am_cP k := am_fs am_kb46 (Or.inr rfl)
set_option maxRecDepth 100000 in
theorem am_kb48 : ∀ k, k < 48 → am_cP k := am_fs am_kb47 (Or.inr rfl)
set_option maxRecDepth 100000 in
theorem am_kb49 : ∀ k, k < 49 → am_cP k := am_fs am_kb48 (Or.inr rfl)
set_option maxRecDepth 100000 in
theorem am_kb50 : ∀ k, k < 50 → am_cP k := am_fs am_kb49 (Or.inr rfl)
set_option maxRecDepth 100000 in
theorem am_kb51 : ∀ k, k < 51 → am_cP k := am_fs am_kb50 (Or.inr rfl)
set_option maxRecDepth 100000 in
theorem am_kb52 : ∀ k, k < 52 → am_cP k := am_fs am_kb51 (Or.inr rfl)
set_option maxRecDepth 100000 in
theorem am_kb53 : ∀ k, k < 53 → am_cP k := am_fs am_kb52 (Or.inr rfl)
set_option maxRecDepth 100000 in
theorem am_kb54 : ∀ k, k < 54 → am_cP k := am_fs am_kb53 (Or.inr rfl)
set_option maxRecDepth 100000 in
theorem am_kb55 : ∀ k, k < 55 → am_cP k := am_fs am_kb54 (Or.inr rfl)
set_option maxRecDepth 100000 in
theorem am_kb56 : ∀ k, k < 56 → am_cP k := am_fs am_kb55 (Or.inr rfl)
set_option maxRecDepth 100000 in
theorem am_kb57 : ∀ k, k < 57 → am_cP k := am_fs am_kb56 (Or.inr rfl)
set_option maxRecDepth 100000 in
theorem am_kb58 : ∀ k, k < 58 → am_cP k := am_fs am_kb57 (Or.inr rfl)
set_option maxRecDepth 100000 in
theorem am_kb59 : ∀ k, k < 59 → am_cP k := am_fs am_kb58 (Or.inr rfl)
set_option maxRecDepth 100000 in
theorem am_kb60 : ∀ k, k < 60 → am_cP k := am_fs am_kb59 (Or.inr rfl)
set_option maxRecDepth 100000 in
theorem am_kb61 : ∀ k, k < 61 → am_cP k := am_fs am_kb60 (Or.inr rfl)
set_option maxRecDepth 100000 in
theorem am_kb62 : ∀ k, k < 62 → am_cP k := am_fs am_kb61 (Or.inr rfl)
set_option maxRecDepth 100000 in
theorem am_kb63 : ∀ k, k < 63 → am_cP k := am_fs am_kb62 (Or.inr rfl)
set_option maxRecDepth 100000 in
theorem am_kb64 : ∀ k, k < 64 → am_cP k := am_fs am_kb63 (Or.inr rfl)
set_option maxRecDepth 100000 in
theorem am_kb65 : ∀ k, k < 65 → am_cP k := am_fs am_kb64 (Or.inr rfl)
set_option maxRecDepth 100000 in
theorem am_kb66 : ∀ k, k < 66 → am_cP k := am_fs am_kb65 (Or.inr rfl)
set_option maxRecDepth 100000 in
theorem am_kb67 : ∀ k, k < 67 → am_cP k := am_fs am_kb66 (Or.inr rfl)
set_option maxRecDepth 100000 in
theorem am_kb68 : ∀ k, k < 68 → am_cP k := am_fs am_kb67 (Or.inr rfl)
set_option maxRecDepth 100000 in
theorem am_kb69 : ∀ k, k < 69 → am_cP k := am_fs am_kb68 (Or.inr rfl)
set_option maxRecDepth 100000 in
theorem am_kb70 : ∀ k, k < 70 → am_cP k := am_fs am_kb69 (Or.inr rfl)
set_option maxRecDepth 100000 in
theorem am_kb71 : ∀ k, k < 71 → am_cP k := am_fs am_kb70 (Or.inr rfl)
set_option maxRecDepth 100000 in
theorem am_kb72 : ∀ k, k < 72 → am_cP k := am_fs am_kb71 (Or.inr rfl)
set_option maxRecDepth 100000 in
theorem am_kb73 : ∀ k, k < 73 → am_cP k := am_fs am_kb72 (Or.inr rfl)
set_option maxRecDepth 100000 in
theorem am_kb74 : ∀ k, k < 74 → am_cP k := am_fs am_kb73 (Or.inr rfl)
set_option maxRecDepth 100000 in
theorem am_kb75 : ∀ k, k < 75 → am_cP k := am_fs am_kb74 (Or.inr rfl)
set_option maxRecDepth 100000 in
theorem am_kb76 : ∀ k, k < 76 → am_cP k := am_fs am_kb75 (Or.inr rfl)
set_option maxRecDepth 100000 in
theorem am_kb77 : ∀ k, k < 77 → am_cP k := am_fs am_kb76 (Or.inr rfl)
set_option maxRecDepth 100000 in
theorem am_kb78 : ∀ k, k < 78 → am_cP k := am_fs am_kb77 (Or.inr rfl)
set_option maxRecDepth 100000 in
theorem am_kb79 : ∀ k, k < 79 → am_cP k := am_fs am_kb78 (Or.inr rfl)
set_option maxRecDepth 100000 in
theorem am_kb80 : ∀ k, k < 80 → am_cP k := am_fs am_kb79 (Or.inr rfl)
set_option maxRecDepth 100000 in
theorem am_kb81 : ∀ k, k < 81 → am_cP k := am_fs am_kb80 (Or.inr rfl)
set_option maxRecDepth 100000 in
theorem am_kb82 : ∀ k, k < 82 → am_cP k := am_fs am_kb81 (Or.inr rfl)
set_option maxRecDepth 100000 in
theorem am_kb83 : ∀ k, k < 83 → am_cP k := am_fs am_kb82 (Or.inr rfl)
set_option maxRecDepth 100000 in
theorem am_kb84 : ∀ k, k < 84 → am_cP k := am_fs am_kb83 (Or.inr rfl)
set_option maxRecDepth 100000 in
theorem am_kb85 : ∀ k, k < 85 → am_cP k := am_fs am_kb84 (Or.inr rfl)
set_option maxRecDepth 100000 in
theorem am_kb86 : ∀ k, k < 86 → am_cP k := am_fs am_kb85 (Or.inr rfl)
set_option maxRecDepth 100000 in
theorem am_kb87 : ∀ k, k < 87 → am_cP k := am_fs am_kb86 (Or.inr rfl)
set_option maxRecDepth 100000 in
theorem am_kb88 : ∀ k, k < 88 → am_cP k := am_fs am_kb87 (Or.inr rfl)
set_option maxRecDepth 100000 in
theorem am_kb89 : ∀ k, k < 89 → am_cP k := am_fs am_kb88 (Or.inr rfl)
set_option maxRecDepth 100000 in
theorem am_kb90 : ∀ k, k < 90 → am_cP k := am_fs am_kb89 (Or.inr rfl)
set_option maxRecDepth 100000 in
theorem am_kb91 : ∀ k, k < 91 → am_cP k := am_fs am_kb90 (Or.inr rfl)
set_option maxRecDepth 100000 in
theorem am_kb92 : ∀ k, k < 92 → am_cP k := am_fs am_kb91 (Or.inr rfl)
set_option maxRecDepth 100000 in
theorem am_kb93 : ∀ k, k < 93 → am_cP k := am_fs am_kb92 (Or.inr rfl)
set_option maxRecDepth 100000 in
theorem am_kb94 : ∀ k, k < 94 → am_cP k := am_fs am_kb93 (Or.inr rfl)
set_option maxRecDepth 100000 in
theorem am_kb95 : ∀ k, k < 95 → am_cP k := am_fs am_kb94 (Or.inr rfl)
set_option maxRecDepth 100000 in
theorem am_kb96 : ∀ k, k < 96 → am_cP k := am_fs am_kb95 (Or.inr rfl)
set_option maxRecDepth 100000 in
theorem am_kb97 : ∀ k, k < 97 → am_cP k := am_fs am_kb96 (Or.inr rfl)
set_option maxRecDepth 100000 in
theorem am_kb98 : ∀ k, k < 98 → am_cP k := am_fs am_kb97 (Or.inr rfl)
set_option maxRecDepth 100000 in
theorem am_kb99 : ∀ k, k < 99 → am_cP k := am_fs am_kb98 (Or.inr rfl)
set_option maxRecDepth 100000 in
theorem am_kb100 : ∀ k, k < 100 → am_cP k := am_fs am_kb99 (Or.inr rfl)
set_option maxRecDepth 100000 in
theorem am_kb101 : ∀ k, k < 101 → am_cP k := am_fs am_kb100 (Or.inr rfl)
set_option maxRecDepth 100000 in
theorem am_kb102 : ∀ k, k < 102 → am_cP k := am_fs am_kb101 (Or.inr rfl)
set_option maxRecDepth 100000 in
theorem am_kb103 : ∀ k, k < 103 → am_cP k := am_fs am_kb102 (Or.inr rfl)
set_option maxRecDepth 100000 in
theorem am_kb104 : ∀ k, k < 104 → am_cP k := am_fs am_kb103 (Or.inr rfl)
set_option maxRecDepth 100000 in
theorem am_kb105 : ∀ k, k < 105 → am_cP k := am_fs am_kb104 (Or.inr rfl)
set_option maxRecDepth 100000 in
theorem am_kb106 : ∀ k, k < 106 → am_cP k := am_fs am_kb105 (Or.inr rfl)
set_option maxRecDepth 100000 in
theorem am_kb107 : ∀ k, k < 107 → am_cP k := am_fs am_kb106 (Or.inr rfl)
set_option maxRecDepth 100000 in
theorem am_kb108 : ∀ k, k < 108 → am_cP k := am_fs am_kb107 (Or.inr rfl)
set_option maxRecDepth 100000 in
theorem am_kb109 : ∀ k, k < 109 → am_cP k := am_fs am_kb108 (Or.inr rfl)
set_option maxRecDepth 100000 in
theorem am_kb110 : ∀ k, k < 110 → am_cP k := am_fs am_kb109 (Or.inr rfl)
set_option maxRecDepth 100000 in
theorem am_kb111 : ∀ k, k < 111 → am_cP k := am_fs am_kb110 (Or.inr rfl)
set_option maxRecDepth 100000 in
theorem am_kb112 : ∀ k, k < 112 → am_cP k := am_fs am_kb111 (Or.inr rfl)
set_option maxRecDepth 100000 in
theorem am_kb113 : ∀ k, k < 113 → am_cP k := am_fs am_kb112 (Or.inr rfl)
set_option maxRecDepth 100000 in
theorem am_kb114 : ∀ k, k < 114 → am_cP k := am_fs am_kb113 (Or.inr rfl)
set_option maxRecDepth 100000 in
theorem am_kb115 : ∀ k, k < 115 → am_cP k := am_fs am_kb114 (Or.inr rfl)
set_option maxRecDepth 100000 in
theorem am_kb116 : ∀ k, k < 116 → am_cP k := am_fs am_kb115 (Or.inr rfl)
set_option maxRecDepth 100000 in
theorem am_kb117 : ∀ k, k < 117 → am_cP k := am_fs am_kb116 (Or.inr rfl)
set_option maxRecDepth 100000 in
theorem am_kb118 : ∀ k, k < 118 → am_cP k := am_fs am_kb117 (Or.inr rfl)
set_option maxRecDepth 100000 in
theorem am_kb119 : ∀ k, k < 119 → am_cP k := am_fs am_kb118 (Or.inr rfl)
set_option maxRecDepth 100000 in
theorem am_kb120 : ∀ k, k < 120 → am_cP k := am_fs am_kb119 (Or.inr rfl)
set_option maxRecDepth 100000 in
theorem am_kb121 : ∀ k, k < 121 → am_cP k := am_fs am_kb120 (Or.inr rfl)
set_option maxRecDepth 100000 in
theorem am_kb122 : ∀ k, k < 122 → am_cP k := am_fs am_kb121 (Or.inr rfl)
set_option maxRecDepth 100000 in
theorem am_kb123 : ∀ k, k < 123 → am_cP k := am_fs am_kb122 (Or.inr rfl)
set_option maxRecDepth 100000 in
theorem am_kb124 : ∀ k, k < 124 → am_cP k := am_fs am_kb123 (Or.inr rfl)
set_option maxRecDepth 100000 in
theorem am_kb125 : ∀ k, k < 125 → am_cP k := am_fs am_kb124 (Or.inr rfl)
set_option maxRecDepth 100000 in
theorem am_kb126 : ∀ k, k < 126 → am_cP k := am_fs am_kb125 (Or.inr rfl)
set_option maxRecDepth 100000 in
theorem am_kb127 : ∀ k, k < 127 → am_cP k := am_fs am_kb126 (Or.inr rfl)
set_option maxRecDepth 100000 in
theorem am_kb128 : ∀ k, k < 128 → am_cP k := am_fs am_kb127 (Or.inr rfl)
set_option maxRecDepth 100000 in
theorem am_kb129 : ∀ k, k < 129 → am_cP k := am_fs am_kb128 (Or.inr rfl)
set_option maxRecDepth 100000 in
theorem am_kb130 : ∀ k, k < 130 → am_cP k := am_fs am_kb129 (Or.inr rfl)
set_option maxRecDepth 100000 in
theorem am_kb131 : ∀ k, k < 131 → am_cP k := am_fs am_kb130 (Or.inr rfl)
set_option maxRecDepth 100000 in
theorem am_kb132 : ∀ k, k < 132 → am_cP k := am_fs am_kb131 (Or.inr rfl)
set_option maxRecDepth 100000 in
theorem am_kb133 : ∀ k, k < 133 → am_cP k := am_fs am_kb132 (Or.inr rfl)
set_option maxRecDepth 100000 in
theorem am_kb134 : ∀ k, k < 134 → am_cP k := am_fs am_kb133 (Or.inr rfl)
set_option maxRecDepth 100000 in
theorem am_kb135 : ∀ k, k < 135 → am_cP k := am_fs am_kb134 (Or.inr rfl)
set_option maxRecDepth 100000 in
theorem am_kb136 : ∀ k, k < 136 → am_cP k := am_fs am_kb135 (Or.inr rfl)
set_option maxRecDepth 100000 in
theorem am_kb137 : ∀ k, k < 137 → am_cP k := am_fs am_kb136 (Or.inr rfl)
set_option maxRecDepth 100000 in
theorem am_kb138 : ∀ k, k < 138 → am_cP k := am_fs am_kb137 (Or.inr rfl)
set_option maxRecDepth 100000 in
theorem am_kb139 : ∀ k, k < 139 → am_cP k := am_fs am_kb138 (Or.inr rfl)
set_option maxRecDepth 100000 in
theorem am_kb140 : ∀ k, k < 140 → am_cP k := am_fs am_kb139 (Or.inr rfl)
set_option maxRecDepth 100000 in
theorem am_kb141 : ∀ k, k < 141 → am_cP k := am_fs am_kb140 (Or.inr rfl)
set_option maxRecDepth 100000 in
theorem am_kb142 : ∀ k, k < 142 → am_cP k := am_fs am_kb141 (Or.inr rfl)
set_option maxRecDepth 100000 in
theorem am_kb143 : ∀ k, k < 143 → am_cP k := am_fs am_kb142 (Or.inr rfl)
set_option maxRecDepth 100000 in
theorem am_kb144 : ∀ k, k < 144 → am_cP k := am_fs am_kb143 (Or.inr rfl)
set_option maxRecDepth 100000 in
theorem am_kb145 : ∀ k, k < 145 → am_cP k := am_fs am_kb144 (Or.inr rfl)
set_option maxRecDepth 100000 in
theorem am_kb146 : ∀ k, k < 146 → am_cP k := am_fs am_kb145 (Or.inr rfl)
set_option maxRecDepth 100000 in
theorem am_kb147 : ∀ k, k < 147 → am_cP k := am_fs am_kb146 (Or.inr rfl)
set_option maxRecDepth 100000 in
theorem am_kb148 : ∀ k, k < 148 → am_cP k := am_fs am_kb147 (Or.inr rfl)
set_option maxRecDepth 100000 in
theorem am_kb149 : ∀ k, k < 149 → am_cP k := am_fs am_kb148 (Or.inr rfl)
set_option maxRecDepth 100000 in
theorem am_kb150 : ∀ k, k < 150 → am_cP k := am_fs am_kb149 (Or.inr rfl)
set_option maxRecDepth 100000 in
theorem am_kb151 : ∀ k, k < 151 → am_cP k := am_fs am_kb150 (Or.inr rfl)
set_option maxRecDepth 100000 in
theorem am_kb152 : ∀ k, k < 152 → am_cP k := am_fs am_kb151 (Or.inr rfl)
set_option maxRecDepth 100000 in
theorem am_kb153 : ∀ k, k < 153 → am_cP k := am_fs am_kb152 (Or.inr rfl)
set_option maxRecDepth 100000 in
theorem am_kb154 : ∀ k, k < 154 → am_cP k := am_fs am_kb153 (Or.inr rfl)
set_option maxRecDepth 100000 in
theorem am_kb155 : ∀ k, k < 155 → am_cP k := am_fs am_kb154 (Or.inr rfl)
set_option maxRecDepth 100000 in
theorem am_kb156 : ∀ k, k < 156 → am_cP k := am_fs am_kb155 (Or.inr rfl)
set_option maxRecDepth 100000 in
theorem am_kb157 : ∀ k, k < 157 → am_cP k := am_fs am_kb156 (Or.inr rfl)
set_option maxRecDepth 100000 in
theorem am_kb158 : ∀ k, k < 158 → am_cP k := am_fs am_kb157 (Or.inr rfl)
set_option maxRecDepth 100000 in
theorem am_kb159 : ∀ k, k < 159 → am_cP k := am_fs am_kb158 (Or.inr rfl)
set_option maxRecDepth 100000 in
theorem am_kb160 : ∀ k, k < 160 → am_cP k := am_fs am_kb159 (Or.inr rfl)
set_option maxRecDepth 100000 in
theorem am_kb161 : ∀ k, k < 161 → am_cP k := am_fs am_kb160 (Or.inr rfl)
set_option maxRecDepth 100000 in
theorem am_kb162 : ∀ k, k < 162 → am_cP k := am_fs am_kb161 (Or.inr rfl)
set_option maxRecDepth 100000 in
theorem am_kb163 : ∀ k, k < 163 → am_cP k := am_fs am_kb162 (Or.inr rfl)
set_option maxRecDepth 100000 in
theorem am_kb164 : ∀ k, k < 164 → am_cP k := am_fs am_kb163 (Or.inr rfl)
set_option maxRecDepth 100000 in
theorem am_kb165 : ∀ k, k < 165 → am_cP k := am_fs am_kb164 (Or.inr rfl)
set_option maxRecDepth 100000 in
theorem am_kb166 : ∀ k, k < 166 → am_cP k := am_fs am_kb165 (Or.inr rfl)
set_option maxRecDepth 100000 in
theorem am_kb167 : ∀ k, k < 167 → am_cP k := am_fs am_kb166 (Or.inr rfl)
set_option maxRecDepth 100000 in
theorem am_kb168 : ∀ k, k < 168 → am_cP k := am_fs am_kb167 (Or.inr rfl)
set_option maxRecDepth 100000 in
theorem am_kb169 : ∀ k, k < 169 → am_cP k := am_fs am_kb168 (Or.inr rfl)
set_option maxRecDepth 100000 in
theorem am_kb170 : ∀ k, k < 170 → am_cP k := am_fs am_kb169 (Or.inr rfl)
set_option maxRecDepth 100000 in
theorem am_kb171 : ∀ k, k < 171 → am_cP k := am_fs am_kb170 (Or.inr rfl)
set_option maxRecDepth 100000 in
theorem am_kb172 : ∀ k, k < 172 → am_cP k := am_fs am_kb171 (Or.inr rfl)
set_option maxRecDepth 100000 in
theorem am_kb173 : ∀ k, k < 173 → am_cP k := am_fs am_kb172 (Or.inr rfl)
set_option maxRecDepth 100000 in
theorem am_kb174 : ∀ k, k < 174 → am_cP k := am_fs am_kb173 (Or.inr rfl)
set_option maxRecDepth 100000 in
theorem am_kb175 : ∀ k, k < 175 → am_cP k := am_fs am_kb174 (Or.inr rfl)
set_option maxRecDepth 100000 in
theorem am_kb176 : ∀ k, k < 176 → am_cP k := am_fs am_kb175 (Or.inr rfl)
set_option maxRecDepth 100000 in
theorem am_kb177 : ∀ k, k < 177 → am_cP k := am_fs am_kb176 (Or.inr rfl)
set_option maxRecDepth 100000 in
theorem am_kb178 : ∀ k, k < 178 → am_cP k := am_fs am_kb177 (Or.inr rfl)
set_option maxRecDepth 100000 in
theorem am_kb179 : ∀ k, k < 179 → am_cP k := am_fs am_kb178 (Or.inr rfl)
set_option maxRecDepth 100000 in
theorem am_kb180 : ∀ k, k < 180 → am_cP k := am_fs am_kb179 (Or.inr rfl)
set_option maxRecDepth 100000 in
theorem am_kb181 : ∀ k, k < 181 → am_cP k := am_fs am_kb180 (Or.inr rfl)
set_option maxRecDepth 100000 in
theorem am_kb182 : ∀ k, k < 182 → am_cP k := am_fs am_kb181 (Or.inr rfl)
set_option maxRecDepth 100000 in
theorem am_kb183 : ∀ k, k < 183 → am_cP k := am_fs am_kb182 (Or.inr rfl)
set_option maxRecDepth 100000 in
theorem am_kb184 : ∀ k, k < 184 → am_cP k := am_fs am_kb183 (Or.inr rfl)
set_option maxRecDepth 100000 in
theorem am_kb185 : ∀ k, k < 185 → am_cP k := am_fs am_kb184 (Or.inr rfl)
set_option maxRecDepth 100000 in
theorem am_kb186 : ∀ k, k < 186 → am_cP k := am_fs am_kb185 (Or.inr rfl)
set_option maxRecDepth 100000 in
theorem am_kb187 : ∀ k, k < 187 → am_cP k := am_fs am_kb186 (Or.inr rfl)
set_option maxRecDepth 100000 in
theorem am_kb188 : ∀ k, k < 188 → am_cP k := am_fs am_kb187 (Or.inr rfl)
set_option maxRecDepth 100000 in
theorem am_kb189 : ∀ k, k < 189 → am_cP k := am_fs am_kb188 (Or.inr rfl)
set_option maxRecDepth 100000 in
theorem am_kb190 : ∀ k, k < 190 → am_cP k := am_fs am_kb189 (Or.inr rfl)
set_option maxRecDepth 100000 in
theorem am_kb191 : ∀ k, k < 191 → am_cP k := am_fs am_kb190 (Or.inr rfl)
set_option maxRecDepth 100000 in
theorem am_kb192 : ∀ k, k < 192 → am_cP k := am_fs am_kb191 (Or.inr rfl)
set_option maxRecDepth 100000 in
theorem am_kb193 : ∀ k, k < 193 → am_cP k := am_fs am_kb192 (Or.inr rfl)
set_option maxRecDepth 100000 in
theorem am_kb194 : ∀ k, k < 194 → am_cP k := am_fs am_kb193 (Or.inr rfl)
set_option maxRecDepth 100000 in
theorem am_kb195 : ∀ k, k < 195 → am_cP k := am_fs am_kb194 (Or.inr rfl)
set_option maxRecDepth 100000 in
theorem am_kb196 : ∀ k, k < 196 → am_cP k := am_fs am_kb195 (Or.inr rfl)
set_option maxRecDepth 100000 in
theorem am_kb197 : ∀ k, k < 197 → am_cP k := am_fs am_kb196 (Or.inr rfl)
set_option maxRecDepth 100000 in
theorem am_kb198 : ∀ k, k < 198 → am_cP k := am_fs am_kb197 (Or.inr rfl)
set_option maxRecDepth 100000 in
theorem am_kb199 : ∀ k, k < 199 → am_cP k := am_fs am_kb198 (Or.inr rfl)
set_option maxRecDepth 100000 in
theorem am_kb200 : ∀ k, k < 200 → am_cP k := am_fs am_kb199 (Or.inr rfl)
set_option maxRecDepth 100000 in
theorem am_kb201 : ∀ k, k < 201 → am_cP k := am_fs am_kb200 (Or.inr rfl)
set_option maxRecDepth 100000 in
theorem am_kb202 : ∀ k, k < 202 → am_cP k := am_fs am_kb201 (Or.inr rfl)
set_option maxRecDepth 100000 in
theorem am_kb203 : ∀ k, k < 203 → am_cP k := am_fs am_kb202 (Or.inr rfl)
set_option maxRecDepth 100000 in
theorem am_kb204 : ∀ k, k < 204 → am_cP k := am_fs am_kb203 (Or.inr rfl)
set_option maxRecDepth 100000 in
theorem am_kb205 : ∀ k, k < 205 → am_cP k := am_fs am_kb204 (Or.inr rfl)
set_option maxRecDepth 100000 in
theorem am_kb206 : ∀ k, k < 206 → am_cP k := am_fs am_kb205 (Or.inr rfl)
set_option maxRecDepth 100000 in
theorem am_kb207 : ∀ k, k < 207 → am_cP k := am_fs am_kb206 (Or.inr rfl)
set_option maxRecDepth 100000 in
theorem am_kb208 : ∀ k, k < 208 → am_cP k := am_fs am_kb207 (Or.inr rfl)
set_option maxRecDepth 100000 in
theorem am_kb209 : ∀ k, k < 209 → am_cP k := am_fs am_kb208 (Or.inr rfl)
set_option maxRecDepth 100000 in
theorem am_kb210 : ∀ k, k < 210 → am_cP k := am_fs am_kb209 (Or.inr rfl)
set_option maxRecDepth 100000 in
theorem am_kb211 : ∀ k, k < 211 → am_cP k := am_fs am_kb210 (Or.inr rfl)
set_option maxRecDepth 100000 in
theorem am_kb212 : ∀ k, k < 212 → am_cP k := am_fs am_kb211 (Or.inr rfl)
set_option maxRecDepth 100000 in
theorem am_kb213 : ∀ k, k < 213 → am_cP k := am_fs am_kb212 (Or.inr rfl)
set_option maxRecDepth 100000 in
theorem am_kb214 : ∀ k, k < 214 → am_cP k := am_fs am_kb213 (Or.inr rfl)
set_option maxRecDepth 100000 in
theorem am_kb215 : ∀ k, k < 215 → am_cP k := am_fs am_kb214 (Or.inr rfl)
set_option maxRecDepth 100000 in
theorem am_kb216 : ∀ k, k < 216 → am_cP k := am_fs am_kb215 (Or.inr rfl)
set_option maxRecDepth 100000 in
theorem am_kb217 : ∀ k, k < 217 → am_cP k := am_fs am_kb216 (Or.inr rfl)
set_option maxRecDepth 100000 in
theorem am_kb218 : ∀ k, k < 218 → am_cP k := am_fs am_kb217 (Or.inr rfl)
set_option maxRecDepth 100000 in
theorem am_kb219 : ∀ k, k < 219 → am_cP k := am_fs am_kb218 (Or.inr rfl)
set_option maxRecDepth 100000 in
theorem am_kb220 : ∀ k, k < 220 → am_cP k := am_fs am_kb219 (Or.inr rfl)
set_option maxRecDepth 100000 in
theorem am_kb221 : ∀ k, k < 221 → am_cP k := am_fs am_kb220 (Or.inr rfl)
set_option maxRecDepth 100000 in
theorem am_kb222 : ∀ k, k < 222 → am_cP k := am_fs am_kb221 (Or.inr rfl)
set_option maxRecDepth 100000 in
theorem am_kb223 : ∀ k, k < 223 → am_cP k := am_fs am_kb222 (Or.inr rfl)
set_option maxRecDepth 100000 in
theorem am_kb224 : ∀ k, k < 224 → am_cP k := am_fs am_kb223 (Or.inr rfl)
set_option maxRecDepth 100000 in
theorem am_kb225 : ∀ k, k < 225 → am_cP k := am_fs am_kb224 (Or.inr rfl)
set_option maxRecDepth 100000 in
theorem am_kb226 : ∀ k, k < 226 → am_cP k := am_fs am_kb225 (Or.inl rfl)
set_option maxRecDepth 100000 in
theorem am_kb227 : ∀ k, k < 227 → am_cP k := am_fs am_kb226 (Or.inr rfl)
set_option maxRecDepth 100000 in
theorem am_kb228 : ∀ k, k < 228 → am_cP k := am_fs am_kb227 (Or.inr rfl)
set_option maxRecDepth 100000 in
theorem am_kb229 : ∀ k, k < 229 → am_cP k := am_fs am_kb228 (Or.inr rfl)
theorem am_cw_ok (k : Nat) (h : k < 229) : am_cP k := am_kb229 k h
def am_mtB (t : Nat) : Bool := t == 225 || (decide (lw_tbl[(am_mp t).2.1]? = some (if (am_mp t).2.2.2 = true then .static (am_mt t).2.2.1 else .instanceMethod (am_mt t).2.2.1)) &&
  ((am_mp t).2.2.2 || (am_mt t).2.2.1.name == "<init>" || decide (lw_tbl[(am_mp t).2.2.1]? = some (.selects (am_cn (am_mt t).2.1) (am_mt t).2.2.1 (am_mt t).2.2.1))) && ((am_mt t).2.2.1.cls == am_cn (am_mt t).2.1) && decide ((am_mt t).2.1 < 7) && decide ((am_mt t).2.2.2.2.1 ≤ 41) &&
  decide ((parseMethodDescriptor (am_mt t).2.2.1.desc).map (fun d => d.parameters.length) = some (if (am_mp t).2.2.2 = true then (am_mt t).2.2.2.2.2.2.2 else (am_mt t).2.2.2.2.2.2.2 - 1)) && ((am_mp t).2.2.2 || decide (1 ≤ (am_mt t).2.2.2.2.2.2.2)) && decide ((am_mt t).2.1 < 6 ∨ (am_mp t).2.2.2 = true))
theorem am_mt_ok : (List.range 229).all am_mtB = true := by decide +kernel
def am_mrB (e : (Nat × Nat) × Nat × Nat × Nat) : Bool := match e.2.2.1 with
  | 0 => decide (e.2.1 < 229) && (e.2.1 != 225) && (am_mp e.2.1).2.2.2 && decide ((am_mt e.2.1).2.2.2.2.2.2.1 = []) && decide (lw_tbl[e.2.2.2]? = some (.methodLink (am_gn e.1.1) e.1.2 (am_mt e.2.1).2.2.1))
  | 1 => decide (e.2.1 < 229) && (e.2.1 != 225) && !(am_mp e.2.1).2.2.2 && decide ((am_mt e.2.1).2.2.2.2.2.2.1 = []) && ((am_mt e.2.1).2.2.1.name != "<init>") && decide (lw_tbl[e.2.2.2]? = some (.methodLink (am_gn e.1.1) e.1.2 (am_mt e.2.1).2.2.1))
  | 2 => decide (e.2.1 < 229) && (e.2.1 != 225) && !(am_mp e.2.1).2.2.2 && decide ((am_mt e.2.1).2.2.2.2.2.2.1 = []) && ((am_mt e.2.1).2.2.1.name == "<init>") && decide ((am_mt e.2.1).2.2.2.2.2.1 = none) && decide (lw_tbl[e.2.2.2]? = some (.methodLink (am_gn e.1.1) e.1.2 (am_mt e.2.1).2.2.1))
  | 3 => decide (e.2.1 < 229) && (e.2.1 != 225) && (am_mp e.2.1).2.2.2 && decide ((am_mt e.2.1).2.2.2.2.2.2.1 = []) && decide (lw_tbl[e.2.2.2]? = some (.methodLinkNest (am_gn e.1.1) e.1.2 (am_mt e.2.1).2.2.1 RX4))
  | 4 => decide (e.2.1 < 229) && (e.2.1 != 225) && (am_mp e.2.1).2.2.2 && decide ((am_mt e.2.1).2.2.2.2.2.2.1 ≠ []) && decide (lw_tbl[e.2.2.2]? = some (.methodLink (am_gn e.1.1) e.1.2 (am_mt e.2.1).2.2.1))
  | 5 => decide (lw_tbl[e.2.2.2]? = some (.methodLink (am_gn e.1.1) e.1.2 objectInit))
  | 6 => decide (lw_tbl[e.2.2.2]? = some (.methodLink (am_gn e.1.1) e.1.2 Lib.Math.max.name))
  | 7 => decide (lw_tbl[e.2.2.2]? = some (.methodLink (am_gn e.1.1) e.1.2 Lib.Math.min.name))
  | _ => false
theorem am_mr_ok : am_mr.all am_mrB = true := by decide +kernel
theorem am_obj : Cond.instanceMethod objectInit ∈ am_Ts ∧ Cond.code objectInit ⟨#[0xb1]⟩ 1 none ∈ am_Ts := by decide +kernel
theorem am_mxw : (Cond.static Lib.Math.max.name ∈ am_Ts ∧ Cond.code Lib.Math.max.name Lib.Math.max.code 2 (some .int) ∈ am_Ts) ∧ (Cond.static Lib.Math.min.name ∈ am_Ts ∧ Cond.code Lib.Math.min.name Lib.Math.min.code 2 (some .int) ∈ am_Ts) ∧ Cond.initialized "java/lang/Math" ∈ am_Ts := by decide +kernel
theorem am_iniL : Cond.initialized RL ∈ am_Ts := by decide +kernel
def am_nms : List String := ["java/lang/RuntimeException", "java/lang/Exception"]
theorem am_exw : ∀ x, x < 3 → (∀ w ∈ vx_atS RX4 (am_ic x) (am_xn x) am_nms, w ∈ am_Ts ∧ vx_ot w = true) ∧ Cond.initialized (am_xn x) ∈ am_Ts ∧ Cond.castable (am_xn x) (am_xn x) ∈ am_Ts ∧ Bundle.fit (am_xn x) = true := by decide +kernel
theorem am_fits : ∀ n ∈ am_nms, Bundle.fit n = true := by decide +kernel
theorem am_plain : ∀ c, c < 7 → plainName (am_cn c) = true ∧ am_cn c ≠ "java/lang/invoke/MethodHandle" ∧ am_cn c ≠ "java/lang/invoke/VarHandle" := by decide +kernel
/-- what the tables say of a method -/
theorem am_mt_i {t : Nat} (h : t < 229) (h2 : t ≠ 225) : am_cw t ∈ am_Ts ∧ (if (am_mp t).2.2.2 = true then Cond.static (am_mt t).2.2.1 else Cond.instanceMethod (am_mt t).2.2.1) ∈ am_Ts ∧
    ((am_mp t).2.2.2 = true ∨ (am_mt t).2.2.1.name = "<init>" ∨ Cond.selects (am_cn (am_mt t).2.1) (am_mt t).2.2.1 (am_mt t).2.2.1 ∈ am_Ts) ∧ (am_mt t).2.2.1.cls = am_cn (am_mt t).2.1 ∧ (am_mt t).2.1 < 7 ∧ (am_mt t).2.2.2.2.1 ≤ 41 ∧
    (parseMethodDescriptor (am_mt t).2.2.1.desc).map (fun d => d.parameters.length) = some (if (am_mp t).2.2.2 = true then (am_mt t).2.2.2.2.2.2.2 else (am_mt t).2.2.2.2.2.2.2 - 1) ∧ ((am_mp t).2.2.2 = true ∨ 1 ≤ (am_mt t).2.2.2.2.2.2.2) ∧ Cond.initialized (am_cn (am_mt t).2.1) ∈ am_Ts := by
  have h1 := List.all_eq_true.mp am_mt_ok t (List.mem_range.mpr h)
  simp only [am_mtB, Bool.and_eq_true, Bool.or_eq_true, beq_iff_eq, decide_eq_true_eq] at h1
  rcases h1 with h1 | h1
  · exact absurd h1 h2
  · obtain ⟨⟨⟨⟨⟨⟨⟨a2, a3⟩, a4⟩, a5⟩, a6⟩, a7⟩, a8⟩, a9⟩ := h1
    have a1 := (am_cw_ok t h).resolve_left h2
    refine ⟨am_in_p a1 ?_, am_in_p a2 ?_, ?_, a4, a5, a6, a7, a8, ?_⟩
    · unfold am_cw
      split <;> rfl
    · split <;> rfl
    · rcases a3 with (a3 | a3) | a3
      · exact Or.inl a3
      · exact Or.inr (Or.inl a3)
      · exact Or.inr (Or.inr (am_in_p a3 rfl))
    · by_cases h6 : (am_mt t).2.1 < 6
      · exact (am_inst h6).2
      · rw [show (am_mt t).2.1 = 6 by omega]
        exact am_iniL
theorem am_ml_i {k idx t kd : Nat} (h : am_ml k idx = some (t, kd)) : ∃ p, am_mrB (((am_mt k).1, idx), t, kd, p) = true := by
  unfold am_ml at h
  split at h
  · rename_i q hq
    cases h
    exact ⟨q.2.2, List.all_eq_true.mp am_mr_ok _ (am_lk hq)⟩
  · cases h
/-! ===== an instruction's step, by its kind ===== -/
theorem am_stp_i {k : Nat} {c : am_Cf} {a : am_Ac} (h : am_stp k c = some a) : ∃ i len, am_fetch k c.1 = some (i, len) ∧
    ((∃ t st, am_jp i c.1 len c.2.2.1 = some (t, st) ∧ a = .inl (t, c.2.1, st, c.2.2.2.1, c.2.2.2.2)) ∨ (len = am_ln i ∧
    ((∃ st, am_op i c.2.2.1 = some st ∧ a = .inl (c.1 + len, c.2.1, st, c.2.2.2.1, c.2.2.2.2)) ∨
     (∃ v, am_ld i c.2.1 = some v ∧ a = .inl (c.1 + len, c.2.1, v :: c.2.2.1, c.2.2.2.1, c.2.2.2.2)) ∨
     (∃ ls st, am_st i c.2.1 c.2.2.1 = some (ls, st) ∧ a = .inl (c.1 + len, ls, st, c.2.2.2.1, c.2.2.2.2)) ∨
     (∃ st, am_rd k i c.2.2.1 c.2.2.2.1 c.2.2.2.2 = some st ∧ a = .inl (c.1 + len, c.2.1, st, c.2.2.2.1, c.2.2.2.2)) ∨
     (∃ st E M, am_wr k i c.2.2.1 c.2.2.2.1 c.2.2.2.2 = some (st, E, M) ∧ a = .inl (c.1 + len, c.2.1, st, E, M)) ∨
     (∃ st E M, am_mk k i c.2.2.1 c.2.2.2.1 c.2.2.2.2 = some (st, E, M) ∧ a = .inl (c.1 + len, c.2.1, st, E, M)) ∨
     (∃ v, am_rt k i c.2.2.1 = some v ∧ a = .inr (.inl (.inl v, c.2.2.2.1, c.2.2.2.2))) ∨
     (∃ st, am_iv k i c.2.2.1 c.2.2.2.1 = some (.inl st) ∧ a = .inl (c.1 + len, c.2.1, st, c.2.2.2.1, c.2.2.2.2)) ∨
     (∃ t, am_iv k i c.2.2.1 c.2.2.2.1 = some (.inr t) ∧ a = .inr (.inr t)) ∨
     (∃ x, am_th k c.1 i c.2.2.1 = some x ∧ a = .inr (.inl (.inr x, am_xE c.2.2.2.1, c.2.2.2.2)))))) := by
  unfold am_stp at h
  split at h
  · cases h
  · rename_i i len hf
    refine ⟨i, len, hf, ?_⟩
    split at h
    · rename_i t st hs
      exact Or.inl ⟨t, st, hs, (Option.some.inj h).symm⟩
    · split at h
      · cases h
      · rename_i hl
        refine Or.inr ⟨Decidable.not_not.mp hl, ?_⟩
        split at h
        · exact Or.inl ⟨_, by assumption, (Option.some.inj h).symm⟩
        · refine Or.inr ?_
          split at h
          · exact Or.inl ⟨_, by assumption, (Option.some.inj h).symm⟩
          · refine Or.inr ?_
            split at h
            · exact Or.inl ⟨_, _, by assumption, (Option.some.inj h).symm⟩
            · refine Or.inr ?_
              split at h
              · exact Or.inl ⟨_, by assumption, (Option.some.inj h).symm⟩
              · refine Or.inr ?_
                split at h
                · exact Or.inl ⟨_, _, _, by assumption, (Option.some.inj h).symm⟩
                · refine Or.inr ?_
                  split at h
                  · exact Or.inl ⟨_, _, _, by assumption, (Option.some.inj h).symm⟩
                  · refine Or.inr ?_
                    split at h
                    · exact Or.inl ⟨_, by assumption, (Option.some.inj h).symm⟩
                    · refine Or.inr ?_
                      split at h
                      · exact Or.inl ⟨_, by assumption, (Option.some.inj h).symm⟩
                      · exact Or.inr (Or.inl ⟨_, by assumption, (Option.some.inj h).symm⟩)
                      · refine Or.inr (Or.inr ?_)
                        split at h
                        · exact ⟨_, by assumption, (Option.some.inj h).symm⟩
                        · cases h
/-- cells and exceptions are made, not lost -/
def am_leE (E E' : am_E) : Prop := E.1 ≤ E'.1 ∧ E.2.1 ≤ E'.2.1
theorem am_wr_E {k : Nat} {i : Instr} {st st' : List am_V} {E E' : am_E} {M M' : am_M} (h : am_wr k i st E M = some (st', E', M')) : E'.1 = E.1 ∧ E'.2.1 = E.2.1 := by
  unfold am_wr at h
  repeat' split at h
  all_goals first | cases h; exact ⟨rfl, rfl⟩ | cases h
theorem am_mk_E {k : Nat} {i : Instr} {st st' : List am_V} {E E' : am_E} {M M' : am_M} (h : am_mk k i st E M = some (st', E', M')) : E'.1 = E.1 + 1 ∧ E'.2.1 = E.2.1 := by
  unfold am_mk at h
  repeat' split at h
  all_goals first | cases h; exact ⟨rfl, rfl⟩ | cases h
theorem am_run_le : ∀ (n k : Nat) (c : am_Cf) (r : am_Rs), am_run n k c = some r → am_leE c.2.2.2.1 r.2.1 := by
  intro n
  induction n with
  | zero => intro k c r h; cases h
  | succ n ih =>
    intro k c r h
    unfold am_run at h
    split at h
    · cases h
    · rename_i c' hs
      have h1 := ih k c' r h
      obtain ⟨i, len, hf, hs⟩ := am_stp_i hs
      rcases hs with ⟨t, st, -, hs⟩ | ⟨-, ⟨st, -, hs⟩ | ⟨v, -, hs⟩ | ⟨ls, st, -, hs⟩ | ⟨st, -, hs⟩ | ⟨st, E, M, hw, hs⟩ | ⟨st, E, M, hw, hs⟩ | ⟨v, -, hs⟩ | ⟨st, -, hs⟩ | ⟨t, -, hs⟩ | ⟨x, -, hs⟩⟩ <;> cases hs <;> first | exact h1 | skip
      · obtain ⟨e1, e2⟩ := am_wr_E hw
        exact ⟨by have := h1.1; dsimp only at this; omega, by have := h1.2; dsimp only at this; omega⟩
      · obtain ⟨e1, e2⟩ := am_mk_E hw
        exact ⟨by have := h1.1; dsimp only at this; omega, by have := h1.2; dsimp only at this; omega⟩
    · rename_i r' hs
      cases h
      obtain ⟨i, len, hf, hs⟩ := am_stp_i hs
      rcases hs with ⟨t, st, -, hs⟩ | ⟨-, ⟨st, -, hs⟩ | ⟨v, -, hs⟩ | ⟨ls, st, -, hs⟩ | ⟨st, -, hs⟩ | ⟨st, E, M, hw, hs⟩ | ⟨st, E, M, hw, hs⟩ | ⟨v, -, hs⟩ | ⟨st, -, hs⟩ | ⟨t, -, hs⟩ | ⟨x, -, hs⟩⟩ <;> cases hs
      · exact ⟨Nat.le_refl _, Nat.le_refl _⟩
      · exact ⟨Nat.le_refl _, Nat.le_succ _⟩
    · split at h
      · cases h
      · rename_i hr
        have h1 := ih _ _ _ hr
        have h2 := ih _ _ _ h
        exact ⟨Nat.le_trans h1.1 h2.1, Nat.le_trans h1.2 h2.2⟩
      · rename_i hr
        have h1 := ih _ _ _ hr
        split at h
        · split at h <;> cases h
          exact h1
        · have h2 := ih _ _ _ h
          exact ⟨Nat.le_trans h1.1 h2.1, Nat.le_trans h1.2 h2.2⟩
def am_qc (E : am_E) : Nat := E.1 + E.2.1
def am_qt (n : Nat) : Nat := ((am_tab.take n).map (fun t => t.2.2)).sum
def am_qs (E : am_E) : Nat := am_qt E.1 + 6 * E.2.1
theorem am_qt_s {n : Nat} {t : am_R × Nat × Nat} (h : am_tab[n]? = some t) : am_qt (n + 1) = am_qt n + t.2.2 := by
  unfold am_qt
  rw [List.take_add_one, h]
  simp
theorem am_qt_m {a c : Nat} (h : a ≤ c) : am_qt a ≤ am_qt c := by
  induction h with
  | refl => exact Nat.le_refl _
  | step _ ih =>
    rename_i m _
    refine Nat.le_trans ih ?_
    unfold am_qt
    rw [List.take_add_one]
    simp
theorem am_qc_m {E E' : am_E} (h : am_leE E E') : am_qc E ≤ am_qc E' := Nat.add_le_add h.1 h.2
theorem am_qs_m {E E' : am_E} (h : am_leE E E') : am_qs E ≤ am_qs E' := Nat.add_le_add (am_qt_m h.1) (Nat.mul_le_mul_left 6 h.2)
