/-! ===== the calls said of a state, of both objects; steps behind a call (written by wip/p32/gens/ct.py) ===== -/
def c2 (K : Nat) (E : am_E) (M : am_M) (X : Option am_Rs) (v : Int) (S T : am_M) : Prop := ∃ n N, n ≤ K ∧ X = some (.inl (some (am_I v)), xn n E, N) ∧ st N = S ∧ st (rl_M N) = T ∧ N 45 = M 45 ∧ wl (xn n E) N
section CT
variable {E : am_E} {M S T : am_M} {B : Int} {x y z : Int} {K : Nat} {X : Option am_Rs} {v w : Int}
theorem c2_s (h : cs K E M X v S) (hT : st (rl_M M) = T) : c2 K E M X v S T := by
  obtain ⟨n, N, hn, hX, hS, hb, hW⟩ := h
  refine ⟨n, N, hn, hX, hS, ?_, hb 45 (by decide), hW⟩
  rw [← hT]
  refine st_ext (fun b hb' => ?_)
  have e : rl_s b = b + 50 := by
    unfold rl_s
    rw [if_pos (by omega)]
  show N (rl_s b) = M (rl_s b)
  exact hb _ (by omega)
theorem c2_q (h : cq K E M X v T) (hS : st M = S) : c2 K E M X v S T := by
  obtain ⟨n, N, hn, hX, hT, hb, hW⟩ := h
  refine ⟨n, N, hn, hX, ?_, hT, hb 45 (Or.inr rfl), hW⟩
  rw [← hS]
  exact st_ext (fun b hb' => hb b (by omega))
theorem cs_ret (hw : wl E M) (hS : st M = S) : cs K E M (some (.inl (some (am_I v)), E, M)) v S := ⟨0, M, Nat.zero_le _, rfl, hS, fun _ _ => rfl, hw⟩
theorem c2_ret (hw : wl E M) (hS : st M = S) (hT : st (rl_M M) = T) : c2 K E M (some (.inl (some (am_I v)), E, M)) v S T := ⟨0, M, Nat.zero_le _, rfl, hS, hT, rfl, hw⟩
theorem cs_bd {k pc pc' J L : Nat} {ls : List (Option am_V)} {rest : List am_V} {v' : Int} {S1 S1' : am_M} (h : cs J E M X v S1) (hp : pc + 3 = pc') (hv : v = v') (hs : S1 = S1') (hJ : J + K ≤ L) (hc : ∀ (E1 : am_E) (M1 : am_M), wl E1 M1 → st M1 = S1' → cs K E1 M1 (am_den k (pc', ls, am_I v' :: rest, E1, M1)) w S) : cs L E M (am_bd k pc ls rest X) w S := by
  obtain ⟨n, N, hn, hX, hS, hb, hW⟩ := h
  obtain ⟨n2, N2, hn2, hX2, hS2, hb2, hW2⟩ := hc _ N hW (hS.trans hs)
  subst hv
  subst hp
  rw [hX, am_bd_v, hX2]
  rw [xn_xn] at hW2 ⊢
  exact ⟨n + n2, N2, by omega, rfl, hS2, fun b q => by rw [hb2 b q, hb b q], hW2⟩
theorem c2_bd {k pc pc' J L : Nat} {ls : List (Option am_V)} {rest : List am_V} {v' : Int} {S1 T1 S1' T1' : am_M} (h : c2 J E M X v S1 T1) (hp : pc + 3 = pc') (hv : v = v') (hs : S1 = S1') (ht : T1 = T1') (hJ : J + K ≤ L) (hc : ∀ (E1 : am_E) (M1 : am_M), wl E1 M1 → st M1 = S1' → st (rl_M M1) = T1' → M1 45 = M 45 → c2 K E1 M1 (am_den k (pc', ls, am_I v' :: rest, E1, M1)) w S T) : c2 L E M (am_bd k pc ls rest X) w S T := by
  obtain ⟨n, N, hn, hX, hS, hT, hb, hW⟩ := h
  obtain ⟨n2, N2, hn2, hX2, hS2, hT2, hb2, hW2⟩ := hc _ N hW (hS.trans hs) (hT.trans ht) hb
  subst hv
  subst hp
  rw [hX, am_bd_v, hX2]
  rw [xn_xn] at hW2 ⊢
  exact ⟨n + n2, N2, by omega, rfl, hS2, hT2, by rw [hb2, hb], hW2⟩
/-- one call more -/
theorem cs_b1 {k pc pc' : Nat} {ls : List (Option am_V)} {rest : List am_V} {v' : Int} {S1 S1' : am_M} (h : cs 1 E M X v S1) (hp : pc + 3 = pc') (hv : v = v') (hs : S1 = S1') (hc : ∀ (E1 : am_E) (M1 : am_M), wl E1 M1 → st M1 = S1' → cs K E1 M1 (am_den k (pc', ls, am_I v' :: rest, E1, M1)) w S) : cs (K + 1) E M (am_bd k pc ls rest X) w S := cs_bd h hp hv hs (by omega) hc
theorem c2_b1 {k pc pc' : Nat} {ls : List (Option am_V)} {rest : List am_V} {v' : Int} {S1 T1 S1' T1' : am_M} (h : c2 1 E M X v S1 T1) (hp : pc + 3 = pc') (hv : v = v') (hs : S1 = S1') (ht : T1 = T1') (hc : ∀ (E1 : am_E) (M1 : am_M), wl E1 M1 → st M1 = S1' → st (rl_M M1) = T1' → M1 45 = M 45 → c2 K E1 M1 (am_den k (pc', ls, am_I v' :: rest, E1, M1)) w S T) : c2 (K + 1) E M (am_bd k pc ls rest X) w S T := c2_bd h hp hv hs ht (by omega) hc
theorem c2_le {J K : Nat} (h : c2 J E M X v S T) (hJ : J ≤ K) : c2 K E M X v S T := by
  obtain ⟨n, N, hn, h⟩ := h
  exact ⟨n, N, by omega, h⟩

theorem ct_about (hw : wl E M) (hS : st M = S) (hi : si B S) : cs 1 E M (am_den 142 (0, [some (am_A (34, 0)), some (am_I 2), some (am_I x), some (am_I y), some (am_I z)], [], E, M)) (sv_about (S 0) x y z) (S) := by
  subst hS
  exact cs_about hw hi
theorem cr_about (hw : wl E M) (hT : st (rl_M M) = S) (hi : si B S) : cq 1 E M (am_den 142 (0, [some (am_A (84, 0)), some (am_I 2), some (am_I x), some (am_I y), some (am_I z)], [], E, M)) (sv_about (S 0) x y z) (S) := cq_of hw (ct_about (wl_rl hw) hT hi) rfl
theorem ct_told (hw : wl E M) (hS : st M = S) (hi : si B S) : cs 1 E M (am_den 142 (0, [some (am_A (34, 0)), some (am_I 3), some (am_I x), some (am_I y), some (am_I z)], [], E, M)) (sv_told (S 0) x y z) (S) := by
  subst hS
  exact cs_told hw hi
theorem cr_told (hw : wl E M) (hT : st (rl_M M) = S) (hi : si B S) : cq 1 E M (am_den 142 (0, [some (am_A (84, 0)), some (am_I 3), some (am_I x), some (am_I y), some (am_I z)], [], E, M)) (sv_told (S 0) x y z) (S) := cq_of hw (ct_told (wl_rl hw) hT hi) rfl
theorem ct_log (hw : wl E M) (hS : st M = S) (hi : si B S) : cs 1 E M (am_den 142 (0, [some (am_A (34, 0)), some (am_I 4), some (am_I x), some (am_I y), some (am_I z)], [], E, M)) (sv_log (S 0) x y z) (S) := by
  subst hS
  exact cs_log hw hi
theorem cr_log (hw : wl E M) (hT : st (rl_M M) = S) (hi : si B S) : cq 1 E M (am_den 142 (0, [some (am_A (84, 0)), some (am_I 4), some (am_I x), some (am_I y), some (am_I z)], [], E, M)) (sv_log (S 0) x y z) (S) := cq_of hw (ct_log (wl_rl hw) hT hi) rfl
theorem ct_ranked (hw : wl E M) (hS : st M = S) (hi : si B S) : cs 1 E M (am_den 142 (0, [some (am_A (34, 0)), some (am_I 5), some (am_I x), some (am_I y), some (am_I z)], [], E, M)) (sv_ranked (S 0) x y z) (S) := by
  subst hS
  exact cs_ranked hw hi
theorem cr_ranked (hw : wl E M) (hT : st (rl_M M) = S) (hi : si B S) : cq 1 E M (am_den 142 (0, [some (am_A (84, 0)), some (am_I 5), some (am_I x), some (am_I y), some (am_I z)], [], E, M)) (sv_ranked (S 0) x y z) (S) := cq_of hw (ct_ranked (wl_rl hw) hT hi) rfl
theorem ct_pile (hw : wl E M) (hS : st M = S) (hi : si B S) : cs 1 E M (am_den 142 (0, [some (am_A (34, 0)), some (am_I 6), some (am_I x), some (am_I y), some (am_I z)], [], E, M)) (sv_pile (S 0) x y z) (ss_pile S x y z) := by
  subst hS
  exact cs_pile hw hi
theorem cr_pile (hw : wl E M) (hT : st (rl_M M) = S) (hi : si B S) : cq 1 E M (am_den 142 (0, [some (am_A (84, 0)), some (am_I 6), some (am_I x), some (am_I y), some (am_I z)], [], E, M)) (sv_pile (S 0) x y z) (ss_pile S x y z) := cq_of hw (ct_pile (wl_rl hw) hT hi) rfl
theorem ct_come (hw : wl E M) (hS : st M = S) (hi : si B S) : cs 1 E M (am_den 142 (0, [some (am_A (34, 0)), some (am_I 7), some (am_I x), some (am_I y), some (am_I z)], [], E, M)) (sv_come (S 0) x y z) (ss_come S x y z) := by
  subst hS
  exact cs_come hw hi
theorem cr_come (hw : wl E M) (hT : st (rl_M M) = S) (hi : si B S) : cq 1 E M (am_den 142 (0, [some (am_A (84, 0)), some (am_I 7), some (am_I x), some (am_I y), some (am_I z)], [], E, M)) (sv_come (S 0) x y z) (ss_come S x y z) := cq_of hw (ct_come (wl_rl hw) hT hi) rfl
theorem ct_draw (hw : wl E M) (hS : st M = S) (hi : si B S) : cs 1 E M (am_den 142 (0, [some (am_A (34, 0)), some (am_I 8), some (am_I x), some (am_I y), some (am_I z)], [], E, M)) (sv_draw (S 0) x y z) (ss_draw S x y z) := by
  subst hS
  exact cs_draw hw hi
theorem cr_draw (hw : wl E M) (hT : st (rl_M M) = S) (hi : si B S) : cq 1 E M (am_den 142 (0, [some (am_A (84, 0)), some (am_I 8), some (am_I x), some (am_I y), some (am_I z)], [], E, M)) (sv_draw (S 0) x y z) (ss_draw S x y z) := cq_of hw (ct_draw (wl_rl hw) hT hi) rfl
theorem ct_take (hw : wl E M) (hS : st M = S) (hi : si B S) : cs 1 E M (am_den 142 (0, [some (am_A (34, 0)), some (am_I 9), some (am_I x), some (am_I y), some (am_I z)], [], E, M)) (sv_take (S 0) x y z) (ss_take S x y z) := by
  subst hS
  exact cs_take hw hi
theorem cr_take (hw : wl E M) (hT : st (rl_M M) = S) (hi : si B S) : cq 1 E M (am_den 142 (0, [some (am_A (84, 0)), some (am_I 9), some (am_I x), some (am_I y), some (am_I z)], [], E, M)) (sv_take (S 0) x y z) (ss_take S x y z) := cq_of hw (ct_take (wl_rl hw) hT hi) rfl
theorem ct_join (hw : wl E M) (hS : st M = S) (hi : si B S) : cs 1 E M (am_den 142 (0, [some (am_A (34, 0)), some (am_I 10), some (am_I x), some (am_I y), some (am_I z)], [], E, M)) (sv_join (S 0) x y z) (ss_join S x y z) := by
  subst hS
  exact cs_join hw hi
theorem cr_join (hw : wl E M) (hT : st (rl_M M) = S) (hi : si B S) : cq 1 E M (am_den 142 (0, [some (am_A (84, 0)), some (am_I 10), some (am_I x), some (am_I y), some (am_I z)], [], E, M)) (sv_join (S 0) x y z) (ss_join S x y z) := cq_of hw (ct_join (wl_rl hw) hT hi) rfl
theorem ct_rain (hw : wl E M) (hS : st M = S) (hi : si B S) : cs 1 E M (am_den 142 (0, [some (am_A (34, 0)), some (am_I 12), some (am_I x), some (am_I y), some (am_I z)], [], E, M)) (sv_rain (S 0) x y z) (ss_rain S x y z) := by
  subst hS
  exact cs_rain hw hi
theorem cr_rain (hw : wl E M) (hT : st (rl_M M) = S) (hi : si B S) : cq 1 E M (am_den 142 (0, [some (am_A (84, 0)), some (am_I 12), some (am_I x), some (am_I y), some (am_I z)], [], E, M)) (sv_rain (S 0) x y z) (ss_rain S x y z) := cq_of hw (ct_rain (wl_rl hw) hT hi) rfl
theorem ct_mend (hw : wl E M) (hS : st M = S) (hi : si B S) : cs 1 E M (am_den 142 (0, [some (am_A (34, 0)), some (am_I 13), some (am_I x), some (am_I y), some (am_I z)], [], E, M)) (sv_mend (S 0) x y z) (ss_mend S x y z) := by
  subst hS
  exact cs_mend hw hi
theorem cr_mend (hw : wl E M) (hT : st (rl_M M) = S) (hi : si B S) : cq 1 E M (am_den 142 (0, [some (am_A (84, 0)), some (am_I 13), some (am_I x), some (am_I y), some (am_I z)], [], E, M)) (sv_mend (S 0) x y z) (ss_mend S x y z) := cq_of hw (ct_mend (wl_rl hw) hT hi) rfl
theorem ct_nights (hw : wl E M) (hS : st M = S) (hi : si B S) : cs 1 E M (am_den 142 (0, [some (am_A (34, 0)), some (am_I 14), some (am_I x), some (am_I y), some (am_I z)], [], E, M)) (sv_nights (S 0) x y z) (ss_nights S x y z) := by
  subst hS
  exact cs_nights hw hi
theorem cr_nights (hw : wl E M) (hT : st (rl_M M) = S) (hi : si B S) : cq 1 E M (am_den 142 (0, [some (am_A (84, 0)), some (am_I 14), some (am_I x), some (am_I y), some (am_I z)], [], E, M)) (sv_nights (S 0) x y z) (ss_nights S x y z) := cq_of hw (ct_nights (wl_rl hw) hT hi) rfl
theorem ct_lay (hw : wl E M) (hS : st M = S) (hi : si B S) : cs 1 E M (am_den 142 (0, [some (am_A (34, 0)), some (am_I 15), some (am_I x), some (am_I y), some (am_I z)], [], E, M)) (sv_lay (S 0) x y z) (ss_lay S x y z) := by
  subst hS
  exact cs_lay hw hi
theorem cr_lay (hw : wl E M) (hT : st (rl_M M) = S) (hi : si B S) : cq 1 E M (am_den 142 (0, [some (am_A (84, 0)), some (am_I 15), some (am_I x), some (am_I y), some (am_I z)], [], E, M)) (sv_lay (S 0) x y z) (ss_lay S x y z) := cq_of hw (ct_lay (wl_rl hw) hT hi) rfl
theorem ct_till (hw : wl E M) (hS : st M = S) (hi : si B S) : cs 1 E M (am_den 142 (0, [some (am_A (34, 0)), some (am_I 17), some (am_I x), some (am_I y), some (am_I z)], [], E, M)) (sv_till (S 0) x y z) (S) := by
  subst hS
  exact cs_till hw hi
theorem cr_till (hw : wl E M) (hT : st (rl_M M) = S) (hi : si B S) : cq 1 E M (am_den 142 (0, [some (am_A (84, 0)), some (am_I 17), some (am_I x), some (am_I y), some (am_I z)], [], E, M)) (sv_till (S 0) x y z) (S) := cq_of hw (ct_till (wl_rl hw) hT hi) rfl
theorem ct_ifj (hw : wl E M) (hS : st M = S) (hi : si B S) : cs 1 E M (am_den 142 (0, [some (am_A (34, 0)), some (am_I 18), some (am_I x), some (am_I y), some (am_I z)], [], E, M)) (sv_ifj (S 0) x y z) (S) := by
  subst hS
  exact cs_ifj hw hi
theorem cr_ifj (hw : wl E M) (hT : st (rl_M M) = S) (hi : si B S) : cq 1 E M (am_den 142 (0, [some (am_A (84, 0)), some (am_I 18), some (am_I x), some (am_I y), some (am_I z)], [], E, M)) (sv_ifj (S 0) x y z) (S) := cq_of hw (ct_ifj (wl_rl hw) hT hi) rfl
theorem ct_mended (hw : wl E M) (hS : st M = S) (hi : si B S) : cs 1 E M (am_den 142 (0, [some (am_A (34, 0)), some (am_I 19), some (am_I x), some (am_I y), some (am_I z)], [], E, M)) (sv_mended (S 0) x y z) (S) := by
  subst hS
  exact cs_mended hw hi
theorem cr_mended (hw : wl E M) (hT : st (rl_M M) = S) (hi : si B S) : cq 1 E M (am_den 142 (0, [some (am_A (84, 0)), some (am_I 19), some (am_I x), some (am_I y), some (am_I z)], [], E, M)) (sv_mended (S 0) x y z) (S) := cq_of hw (ct_mended (wl_rl hw) hT hi) rfl
theorem ct_covers (hw : wl E M) (hS : st M = S) (hi : si B S) : cs 1 E M (am_den 117 (0, [some (am_A (34, 0)), some (am_I x), some (am_I y), none], [], E, M)) (sv_covers (S 0) x y z) (ss_covers S x y z) := by
  subst hS
  exact cs_covers hw hi
theorem cr_covers (hw : wl E M) (hT : st (rl_M M) = S) (hi : si B S) : cq 1 E M (am_den 117 (0, [some (am_A (84, 0)), some (am_I x), some (am_I y), none], [], E, M)) (sv_covers (S 0) x y z) (ss_covers S x y z) := cq_of hw (ct_covers (wl_rl hw) hT hi) rfl
theorem ct_wind (hw : wl E M) (hS : st M = S) (hi : si B S) : cs 1 E M (am_den 142 (0, [some (am_A (34, 0)), some (am_I 11), some (am_I x), some (am_I y), some (am_I z)], [], E, M)) (sv_wind (S 0) x y z) (ss_wind S x y z) := by
  subst hS
  exact cs_wind hw hi
theorem cr_wind (hw : wl E M) (hT : st (rl_M M) = S) (hi : si B S) : cq 1 E M (am_den 142 (0, [some (am_A (84, 0)), some (am_I 11), some (am_I x), some (am_I y), some (am_I z)], [], E, M)) (sv_wind (S 0) x y z) (ss_wind S x y z) := cq_of hw (ct_wind (wl_rl hw) hT hi) rfl
theorem ct_undo (hw : wl E M) (hS : st M = S) (hi : si B S) : cs 1 E M (am_den 142 (0, [some (am_A (34, 0)), some (am_I 16), some (am_I x), some (am_I y), some (am_I z)], [], E, M)) (sv_undo S) (su S) := by
  subst hS
  exact cs_undo hw hi
theorem cr_undo (hw : wl E M) (hT : st (rl_M M) = S) (hi : si B S) : cq 1 E M (am_den 142 (0, [some (am_A (84, 0)), some (am_I 16), some (am_I x), some (am_I y), some (am_I z)], [], E, M)) (sv_undo S) (su S) := cq_of hw (ct_undo (wl_rl hw) hT hi) rfl
theorem ct_keep (hw : wl E M) (hS : st M = S) : cs 1 E M (am_den 142 (0, [some (am_A (34, 0)), some (am_I 20), some (am_I x), some (am_I y), some (am_I z)], [], E, M)) (sv_keep S x) (sk S x) := by
  subst hS
  exact cs_keep hw
theorem cr_keep (hw : wl E M) (hT : st (rl_M M) = S) : cq 1 E M (am_den 142 (0, [some (am_A (84, 0)), some (am_I 20), some (am_I x), some (am_I y), some (am_I z)], [], E, M)) (sv_keep S x) (sk S x) := cq_of hw (ct_keep (wl_rl hw) hT) rfl
theorem ct_back (hw : wl E M) (hS : st M = S) : cs 1 E M (am_den 142 (0, [some (am_A (34, 0)), some (am_I 21), some (am_I x), some (am_I y), some (am_I z)], [], E, M)) (sv_back S x) (sg S x) := by
  subst hS
  exact cs_back hw
theorem cr_back (hw : wl E M) (hT : st (rl_M M) = S) : cq 1 E M (am_den 142 (0, [some (am_A (84, 0)), some (am_I 21), some (am_I x), some (am_I y), some (am_I z)], [], E, M)) (sv_back S x) (sg S x) := cq_of hw (ct_back (wl_rl hw) hT) rfl
theorem ct_sim (hw : wl E M) (hS : st M = S) (hi : si B S) : cs 1 E M (am_den 119 (0, [some (am_A (34, 0)), some (am_J x), none, some (am_I y), none], [], E, M)) (sv_sim (S 0) x y) (S) := by
  subst hS
  exact cs_sim hw hi
theorem cr_sim (hw : wl E M) (hT : st (rl_M M) = S) (hi : si B S) : cq 1 E M (am_den 119 (0, [some (am_A (84, 0)), some (am_J x), none, some (am_I y), none], [], E, M)) (sv_sim (S 0) x y) (S) := cq_of hw (ct_sim (wl_rl hw) hT hi) rfl
theorem ct_append (hw : wl E M) (hS : st M = S) (hx : x < 0 ∨ 255 < x) : cs 1 E M (am_den 142 (0, [some (am_A (34, 0)), some (am_I 0), some (am_I x), some (am_I y), some (am_I z)], [], E, M)) (-9999002) S := by
  subst hS
  exact cs_append hw hx
theorem ct_script0 (hw : wl E M) (hS : st M = S) (hi : si B S) : cs 1 E M (am_den 118 (0, [some (am_A (34, 0)), some (am_I 0), some (am_J 0), none, none], [], E, M)) (-9999002) S := by
  subst hS
  have h := cs_script (x := 0) (y := 100000) hw hi (by omega) (Or.inr rfl)
  rw [if_pos rfl] at h
  exact h
theorem ct_script1 (hw : wl E M) (hS : st M = S) (hi : si B S) (hx : 100000 ≤ y ∧ y < 10000000) : cs 1 E M (am_den 118 (0, [some (am_A (34, 0)), some (am_I 1), some (am_J y), none, none], [], E, M)) (-9999002) S := by
  subst hS
  have h := cs_script (x := 1) (y := y) hw hi hx (Or.inl rfl)
  rw [if_neg (by decide)] at h
  exact h
theorem am_Wi {z : Int} (h1 : -9223372036854775808 ≤ z) (h2 : z < 9223372036854775808) : am_W z = z := by
  unfold am_W
  rw [Int.bmod_def]
  omega
end CT
