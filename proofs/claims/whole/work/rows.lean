section
-- ===== PART A: goes FIRST, ahead of the names: the tables' words, and 'selects' of the private methods out of them =====
/-- a private method of a class that the tables say can be made, by its rows of tables_1 -/
def lw_okq (q : MethodName × Nat) : Prop := (q.1.cls ≠ "java/lang/invoke/MethodHandle" ∧ q.1.cls ≠ "java/lang/invoke/VarHandle") ∧ Cond.instantiable q.1.cls q.2 ∈ tables_1 ∧ Cond.privateMethod q.1 ∈ tables_1 ∧ Cond.instanceMethod q.1 ∈ tables_1
theorem lw_p0 : lw_okq (⟨"WoodPiles$Text", "signAhead", "()I"⟩, 6) := ⟨⟨by decide +kernel, by decide +kernel⟩, List.mem_of_getElem? (i := 23) (by decide +kernel), List.mem_of_getElem? (i := 210) (by decide +kernel), List.mem_of_getElem? (i := 211) (by decide +kernel)⟩
theorem lw_p1 : lw_okq (⟨"WoodPiles$Text", "readPile", "()Z"⟩, 6) := ⟨⟨by decide +kernel, by decide +kernel⟩, List.mem_of_getElem? (i := 23) (by decide +kernel), List.mem_of_getElem? (i := 222) (by decide +kernel), List.mem_of_getElem? (i := 223) (by decide +kernel)⟩
theorem lw_p2 : lw_okq (⟨"WoodPiles$Text", "readFirst", "(III)Z"⟩, 6) := ⟨⟨by decide +kernel, by decide +kernel⟩, List.mem_of_getElem? (i := 23) (by decide +kernel), List.mem_of_getElem? (i := 226) (by decide +kernel), List.mem_of_getElem? (i := 227) (by decide +kernel)⟩
theorem lw_p3 : lw_okq (⟨"WoodPiles$Text", "readNumber", "(III)I"⟩, 6) := ⟨⟨by decide +kernel, by decide +kernel⟩, List.mem_of_getElem? (i := 23) (by decide +kernel), List.mem_of_getElem? (i := 230) (by decide +kernel), List.mem_of_getElem? (i := 231) (by decide +kernel)⟩
theorem lw_p4 : lw_okq (⟨"WoodPiles$Text", "readSecond", "(III)Z"⟩, 6) := ⟨⟨by decide +kernel, by decide +kernel⟩, List.mem_of_getElem? (i := 23) (by decide +kernel), List.mem_of_getElem? (i := 234) (by decide +kernel), List.mem_of_getElem? (i := 235) (by decide +kernel)⟩
theorem lw_p5 : lw_okq (⟨"WoodPiles$Text", "readCover", "()Z"⟩, 6) := ⟨⟨by decide +kernel, by decide +kernel⟩, List.mem_of_getElem? (i := 23) (by decide +kernel), List.mem_of_getElem? (i := 238) (by decide +kernel), List.mem_of_getElem? (i := 239) (by decide +kernel)⟩
theorem lw_p6 : lw_okq (⟨"WoodPiles$Yard", "joinTrees", "(II)I"⟩, 17) := ⟨⟨by decide +kernel, by decide +kernel⟩, List.mem_of_getElem? (i := 52) (by decide +kernel), List.mem_of_getElem? (i := 271) (by decide +kernel), List.mem_of_getElem? (i := 272) (by decide +kernel)⟩
theorem lw_p7 : lw_okq (⟨"WoodPiles$Yard", "comesAhead", "(II)Z"⟩, 17) := ⟨⟨by decide +kernel, by decide +kernel⟩, List.mem_of_getElem? (i := 52) (by decide +kernel), List.mem_of_getElem? (i := 275) (by decide +kernel), List.mem_of_getElem? (i := 276) (by decide +kernel)⟩
theorem lw_p8 : lw_okq (⟨"WoodPiles", "copyOfYard", "()LWoodPiles$Yard;"⟩, 7) := ⟨⟨by decide +kernel, by decide +kernel⟩, List.mem_of_getElem? (i := 15) (by decide +kernel), List.mem_of_getElem? (i := 294) (by decide +kernel), List.mem_of_getElem? (i := 295) (by decide +kernel)⟩
theorem lw_p9 : lw_okq (⟨"java/lang/Throwable", "fillInStackTrace", "(I)Ljava/lang/Throwable;"⟩, 6) := ⟨⟨by decide +kernel, by decide +kernel⟩, List.mem_of_getElem? (i := 360) (by decide +kernel), List.mem_of_getElem? (i := 358) (by decide +kernel), List.mem_of_getElem? (i := 359) (by decide +kernel)⟩
theorem lw_p10 : lw_okq (⟨"WoodPiles$Yard", "canObey", "(III)Z"⟩, 17) := ⟨⟨by decide +kernel, by decide +kernel⟩, List.mem_of_getElem? (i := 52) (by decide +kernel), List.mem_of_getElem? (i := 434) (by decide +kernel), List.mem_of_getElem? (i := 435) (by decide +kernel)⟩
theorem lw_p11 : lw_okq (⟨"WoodPiles$Yard", "comeInto", "(II)V"⟩, 17) := ⟨⟨by decide +kernel, by decide +kernel⟩, List.mem_of_getElem? (i := 52) (by decide +kernel), List.mem_of_getElem? (i := 476) (by decide +kernel), List.mem_of_getElem? (i := 477) (by decide +kernel)⟩
theorem lw_p12 : lw_okq (⟨"WoodPiles$Yard", "removeLog", "(I)I"⟩, 17) := ⟨⟨by decide +kernel, by decide +kernel⟩, List.mem_of_getElem? (i := 52) (by decide +kernel), List.mem_of_getElem? (i := 488) (by decide +kernel), List.mem_of_getElem? (i := 489) (by decide +kernel)⟩
theorem lw_p13 : lw_okq (⟨"WoodPiles$Yard", "unlink", "(I)V"⟩, 17) := ⟨⟨by decide +kernel, by decide +kernel⟩, List.mem_of_getElem? (i := 52) (by decide +kernel), List.mem_of_getElem? (i := 492) (by decide +kernel), List.mem_of_getElem? (i := 493) (by decide +kernel)⟩
theorem lw_p14 : lw_okq (⟨"WoodPiles$Yard", "driestToDraw", "()I"⟩, 17) := ⟨⟨by decide +kernel, by decide +kernel⟩, List.mem_of_getElem? (i := 52) (by decide +kernel), List.mem_of_getElem? (i := 521) (by decide +kernel), List.mem_of_getElem? (i := 522) (by decide +kernel)⟩
theorem lw_p15 : lw_okq (⟨"WoodPiles", "needPile", "(I)V"⟩, 7) := ⟨⟨by decide +kernel, by decide +kernel⟩, List.mem_of_getElem? (i := 15) (by decide +kernel), List.mem_of_getElem? (i := 553) (by decide +kernel), List.mem_of_getElem? (i := 554) (by decide +kernel)⟩
def lw_privs_1 : List (MethodName × Nat) := [(⟨"WoodPiles$Text", "signAhead", "()I"⟩, 6), (⟨"WoodPiles$Text", "readPile", "()Z"⟩, 6), (⟨"WoodPiles$Text", "readFirst", "(III)Z"⟩, 6), (⟨"WoodPiles$Text", "readNumber", "(III)I"⟩, 6), (⟨"WoodPiles$Text", "readSecond", "(III)Z"⟩, 6), (⟨"WoodPiles$Text", "readCover", "()Z"⟩, 6), (⟨"WoodPiles$Yard", "joinTrees", "(II)I"⟩, 17), (⟨"WoodPiles$Yard", "comesAhead", "(II)Z"⟩, 17), (⟨"WoodPiles", "copyOfYard", "()LWoodPiles$Yard;"⟩, 7), (⟨"java/lang/Throwable", "fillInStackTrace", "(I)Ljava/lang/Throwable;"⟩, 6), (⟨"WoodPiles$Yard", "canObey", "(III)Z"⟩, 17), (⟨"WoodPiles$Yard", "comeInto", "(II)V"⟩, 17), (⟨"WoodPiles$Yard", "removeLog", "(I)I"⟩, 17), (⟨"WoodPiles$Yard", "unlink", "(I)V"⟩, 17), (⟨"WoodPiles$Yard", "driestToDraw", "()I"⟩, 17), (⟨"WoodPiles", "needPile", "(I)V"⟩, 7)]
theorem lw_r1 : ∀ q ∈ lw_privs_1, lw_okq q := List.forall_mem_cons.mpr ⟨lw_p0, List.forall_mem_cons.mpr ⟨lw_p1, List.forall_mem_cons.mpr ⟨lw_p2, List.forall_mem_cons.mpr ⟨lw_p3, List.forall_mem_cons.mpr ⟨lw_p4, List.forall_mem_cons.mpr ⟨lw_p5, List.forall_mem_cons.mpr ⟨lw_p6, List.forall_mem_cons.mpr ⟨lw_p7, List.forall_mem_cons.mpr ⟨lw_p8, List.forall_mem_cons.mpr ⟨lw_p9, List.forall_mem_cons.mpr ⟨lw_p10, List.forall_mem_cons.mpr ⟨lw_p11, List.forall_mem_cons.mpr ⟨lw_p12, List.forall_mem_cons.mpr ⟨lw_p13, List.forall_mem_cons.mpr ⟨lw_p14, List.forall_mem_cons.mpr ⟨lw_p15, fun _ h => absurd h List.not_mem_nil⟩⟩⟩⟩⟩⟩⟩⟩⟩⟩⟩⟩⟩⟩⟩⟩
theorem lw_p16 : lw_okq (⟨"WoodPiles", "needLog", "(I)V"⟩, 7) := ⟨⟨by decide +kernel, by decide +kernel⟩, List.mem_of_getElem? (i := 15) (by decide +kernel), List.mem_of_getElem? (i := 594) (by decide +kernel), List.mem_of_getElem? (i := 595) (by decide +kernel)⟩
theorem lw_p17 : lw_okq (⟨"WoodPiles$Yard", "liesUnder", "(II)Z"⟩, 17) := ⟨⟨by decide +kernel, by decide +kernel⟩, List.mem_of_getElem? (i := 52) (by decide +kernel), List.mem_of_getElem? (i := 606) (by decide +kernel), List.mem_of_getElem? (i := 607) (by decide +kernel)⟩
theorem lw_p18 : lw_okq (⟨"WoodPiles$Yard", "firstDirectlyUnder", "(I)I"⟩, 17) := ⟨⟨by decide +kernel, by decide +kernel⟩, List.mem_of_getElem? (i := 52) (by decide +kernel), List.mem_of_getElem? (i := 624) (by decide +kernel), List.mem_of_getElem? (i := 625) (by decide +kernel)⟩
theorem lw_p19 : lw_okq (⟨"WoodPiles$Yard", "logsAheadOf", "(II)I"⟩, 17) := ⟨⟨by decide +kernel, by decide +kernel⟩, List.mem_of_getElem? (i := 52) (by decide +kernel), List.mem_of_getElem? (i := 632) (by decide +kernel), List.mem_of_getElem? (i := 633) (by decide +kernel)⟩
theorem lw_p20 : lw_okq (⟨"WoodPiles", "needTwoPiles", "(II)V"⟩, 7) := ⟨⟨by decide +kernel, by decide +kernel⟩, List.mem_of_getElem? (i := 15) (by decide +kernel), List.mem_of_getElem? (i := 690) (by decide +kernel), List.mem_of_getElem? (i := 691) (by decide +kernel)⟩
theorem lw_p21 : lw_okq (⟨"WoodPiles", "slotOf", "(I)LWoodPiles$Slot;"⟩, 7) := ⟨⟨by decide +kernel, by decide +kernel⟩, List.mem_of_getElem? (i := 15) (by decide +kernel), List.mem_of_getElem? (i := 840) (by decide +kernel), List.mem_of_getElem? (i := 841) (by decide +kernel)⟩
theorem lw_p22 : lw_okq (⟨"WoodPilesModel", "refused", "(I)Z"⟩, 13) := ⟨⟨by decide +kernel, by decide +kernel⟩, List.mem_of_getElem? (i := 852) (by decide +kernel), List.mem_of_getElem? (i := 914) (by decide +kernel), List.mem_of_getElem? (i := 915) (by decide +kernel)⟩
theorem lw_p23 : lw_okq (⟨"WoodPilesModel", "readText", "([I)I"⟩, 13) := ⟨⟨by decide +kernel, by decide +kernel⟩, List.mem_of_getElem? (i := 852) (by decide +kernel), List.mem_of_getElem? (i := 926) (by decide +kernel), List.mem_of_getElem? (i := 927) (by decide +kernel)⟩
theorem lw_p24 : lw_okq (⟨"WoodPilesModel", "readCommand", "([I)Z"⟩, 13) := ⟨⟨by decide +kernel, by decide +kernel⟩, List.mem_of_getElem? (i := 852) (by decide +kernel), List.mem_of_getElem? (i := 930) (by decide +kernel), List.mem_of_getElem? (i := 931) (by decide +kernel)⟩
theorem lw_p25 : lw_okq (⟨"WoodPilesModel", "done", "(Z)Z"⟩, 13) := ⟨⟨by decide +kernel, by decide +kernel⟩, List.mem_of_getElem? (i := 852) (by decide +kernel), List.mem_of_getElem? (i := 937) (by decide +kernel), List.mem_of_getElem? (i := 938) (by decide +kernel)⟩
theorem lw_p26 : lw_okq (⟨"WoodPilesModel", "readPiles", "([II)Z"⟩, 13) := ⟨⟨by decide +kernel, by decide +kernel⟩, List.mem_of_getElem? (i := 852) (by decide +kernel), List.mem_of_getElem? (i := 941) (by decide +kernel), List.mem_of_getElem? (i := 942) (by decide +kernel)⟩
theorem lw_p27 : lw_okq (⟨"WoodPilesModel", "pileSign", "(I)I"⟩, 13) := ⟨⟨by decide +kernel, by decide +kernel⟩, List.mem_of_getElem? (i := 852) (by decide +kernel), List.mem_of_getElem? (i := 945) (by decide +kernel), List.mem_of_getElem? (i := 946) (by decide +kernel)⟩
theorem lw_p28 : lw_okq (⟨"WoodPilesModel", "figures", "(IIII)I"⟩, 13) := ⟨⟨by decide +kernel, by decide +kernel⟩, List.mem_of_getElem? (i := 852) (by decide +kernel), List.mem_of_getElem? (i := 949) (by decide +kernel), List.mem_of_getElem? (i := 950) (by decide +kernel)⟩
theorem lw_p29 : lw_okq (⟨"WoodPilesModel", "readCover", "([I)Z"⟩, 13) := ⟨⟨by decide +kernel, by decide +kernel⟩, List.mem_of_getElem? (i := 852) (by decide +kernel), List.mem_of_getElem? (i := 1014) (by decide +kernel), List.mem_of_getElem? (i := 1015) (by decide +kernel)⟩
theorem lw_p30 : lw_okq (⟨"WoodPilesModel", "rankedIn", "(II)I"⟩, 13) := ⟨⟨by decide +kernel, by decide +kernel⟩, List.mem_of_getElem? (i := 852) (by decide +kernel), List.mem_of_getElem? (i := 1082) (by decide +kernel), List.mem_of_getElem? (i := 1083) (by decide +kernel)⟩
theorem lw_p31 : lw_okq (⟨"WoodPilesModel", "remember", "()V"⟩, 13) := ⟨⟨by decide +kernel, by decide +kernel⟩, List.mem_of_getElem? (i := 852) (by decide +kernel), List.mem_of_getElem? (i := 1090) (by decide +kernel), List.mem_of_getElem? (i := 1091) (by decide +kernel)⟩
def lw_privs_2 : List (MethodName × Nat) := [(⟨"WoodPiles", "needLog", "(I)V"⟩, 7), (⟨"WoodPiles$Yard", "liesUnder", "(II)Z"⟩, 17), (⟨"WoodPiles$Yard", "firstDirectlyUnder", "(I)I"⟩, 17), (⟨"WoodPiles$Yard", "logsAheadOf", "(II)I"⟩, 17), (⟨"WoodPiles", "needTwoPiles", "(II)V"⟩, 7), (⟨"WoodPiles", "slotOf", "(I)LWoodPiles$Slot;"⟩, 7), (⟨"WoodPilesModel", "refused", "(I)Z"⟩, 13), (⟨"WoodPilesModel", "readText", "([I)I"⟩, 13), (⟨"WoodPilesModel", "readCommand", "([I)Z"⟩, 13), (⟨"WoodPilesModel", "done", "(Z)Z"⟩, 13), (⟨"WoodPilesModel", "readPiles", "([II)Z"⟩, 13), (⟨"WoodPilesModel", "pileSign", "(I)I"⟩, 13), (⟨"WoodPilesModel", "figures", "(IIII)I"⟩, 13), (⟨"WoodPilesModel", "readCover", "([I)Z"⟩, 13), (⟨"WoodPilesModel", "rankedIn", "(II)I"⟩, 13), (⟨"WoodPilesModel", "remember", "()V"⟩, 13)]
theorem lw_r2 : ∀ q ∈ lw_privs_2, lw_okq q := List.forall_mem_cons.mpr ⟨lw_p16, List.forall_mem_cons.mpr ⟨lw_p17, List.forall_mem_cons.mpr ⟨lw_p18, List.forall_mem_cons.mpr ⟨lw_p19, List.forall_mem_cons.mpr ⟨lw_p20, List.forall_mem_cons.mpr ⟨lw_p21, List.forall_mem_cons.mpr ⟨lw_p22, List.forall_mem_cons.mpr ⟨lw_p23, List.forall_mem_cons.mpr ⟨lw_p24, List.forall_mem_cons.mpr ⟨lw_p25, List.forall_mem_cons.mpr ⟨lw_p26, List.forall_mem_cons.mpr ⟨lw_p27, List.forall_mem_cons.mpr ⟨lw_p28, List.forall_mem_cons.mpr ⟨lw_p29, List.forall_mem_cons.mpr ⟨lw_p30, List.forall_mem_cons.mpr ⟨lw_p31, fun _ h => absurd h List.not_mem_nil⟩⟩⟩⟩⟩⟩⟩⟩⟩⟩⟩⟩⟩⟩⟩⟩
theorem lw_p32 : lw_okq (⟨"WoodPilesModel", "lastLifts", "(I)I"⟩, 13) := ⟨⟨by decide +kernel, by decide +kernel⟩, List.mem_of_getElem? (i := 852) (by decide +kernel), List.mem_of_getElem? (i := 1152) (by decide +kernel), List.mem_of_getElem? (i := 1153) (by decide +kernel)⟩
theorem lw_p33 : lw_okq (⟨"WoodPilesModel", "command", "(II)Z"⟩, 13) := ⟨⟨by decide +kernel, by decide +kernel⟩, List.mem_of_getElem? (i := 852) (by decide +kernel), List.mem_of_getElem? (i := 1173) (by decide +kernel), List.mem_of_getElem? (i := 1174) (by decide +kernel)⟩
def lw_privs_3 : List (MethodName × Nat) := [(⟨"WoodPilesModel", "lastLifts", "(I)I"⟩, 13), (⟨"WoodPilesModel", "command", "(II)Z"⟩, 13)]
theorem lw_r3 : ∀ q ∈ lw_privs_3, lw_okq q := List.forall_mem_cons.mpr ⟨lw_p32, List.forall_mem_cons.mpr ⟨lw_p33, fun _ h => absurd h List.not_mem_nil⟩⟩
def lw_privs : List (MethodName × Nat) := lw_privs_1 ++ (lw_privs_2 ++ (lw_privs_3))
def lw_tbl : List Cond := k2_sels lw_privs ++ tables_1
theorem lw_privs_ok : ∀ q ∈ lw_privs, lw_okq q := by
  show ∀ q ∈ lw_privs_1 ++ (lw_privs_2 ++ (lw_privs_3)), lw_okq q
  exact List.forall_mem_append.mpr ⟨lw_r1, List.forall_mem_append.mpr ⟨lw_r2, lw_r3⟩⟩
end
section
/-! ===== BEGIN words of one list among another's, by their places ===== -/
theorem goodIn_r {big : List Cond} (ws : List Cond) (ps : List Nat) (hp : ws = ps.filterMap (fun i => big[i]?)) (h : ws.all goodWord = true) : GoodIn big ws := by
  intro w hw
  have h1 := List.all_eq_true.mp h w hw
  rw [hp] at hw
  obtain ⟨i, -, hi⟩ := List.mem_filterMap.mp hw
  have hm : w ∈ big := by first | exact List.mem_of_getElem? hi | exact List.getElem?_mem hi
  exact ⟨hm, good_of_word h1⟩
theorem goodIn_app {big a b : List Cond} (ha : GoodIn big a) (hb : GoodIn big b) : GoodIn big (a ++ b) := fun w h => (List.mem_append.mp h).elim (ha w) (hb w)
theorem goodIn_ca {big a b : List Cond} {c : Cond} (ha : GoodIn big (c :: a)) (hb : GoodIn big b) : GoodIn big (c :: (a ++ b)) := fun w h => (List.mem_cons.mp h).elim (fun e => ha w (List.mem_cons.mpr (Or.inl e))) (fun h => (List.mem_append.mp h).elim (fun h => ha w (List.mem_cons.mpr (Or.inr h))) (hb w))
theorem goodIn_sub {big ws : List Cond} (hm : ∀ w ∈ ws, w ∈ big) (h : ws.all goodWord = true) : GoodIn big ws := fun w hw => ⟨hm w hw, good_of_word (List.all_eq_true.mp h w hw)⟩
/-! ===== END ===== -/

/-! ===== BEGIN exceptions that leave a method, and their catching by the caller (launches without stack traces) ===== -/
section VXA
/-! The laws vx_back, vx_callV, vx_callS, vx_callSW, vx_throw0, vx_throwS follow proofs of the library, with one case more: JvmDerived/Free/Laws.lean (Back.of_free), Shelf42/LK1.lean (callV, callS), Shelf/KitTraced.lean (throwNew0V, throwNewS). -/
/-- where a method has thrown q: the class by its name, the cell, what was written, the world -/
def vx_T (XC : String → State → State → Prop) (st : State) (q : Addr) (t : State) (mc ms : Nat) (free : Addr → Prop) : Prop :=
  ∃ (E : String) (ce : Cell) (L : List Loc), XC E st t ∧ t.heap[q]? = some ce ∧ ce.vm = .none ∧ st.vm.findClass E = some ce.cls ∧ st.WarmedH t.vm ∧ st.sameButNew ({ t with vm := st.vm } : State) L mc ms ∧ ∀ z ∈ L, free z.base
def vx_Q (Qc : Array Value → State → Outcome → State → Prop) (XC : String → State → State → Prop) (mc ms : Nat) (free : Addr → Prop) : Array Value → State → Outcome → State → Prop := fun a st o t =>
  (Qc a st o t ∧ ∃ L, FrameEnd st o t L mc ms ∧ ∀ q ∈ L, free q.base) ∨ ∃ q, o = .threw q ∧ vx_T XC st q t mc ms free
/-- a callee that returns or throws -/
def vx_Met (l : Launch) (y : MethodName) (ws : List Cond) (rm : Room) (Pc : Array Value → State → Prop) (Qc : Array Value → State → Outcome → State → Prop) (XC : String → State → State → Prop) (mc ms : Nat) (free : Addr → Prop) : Prop :=
  MetFree l y (headSpec ws rm) Pc (fun _ _ _ _ _ => True) (vx_Q Qc XC mc ms free)
def vx_Post (XC : String → State → State → Prop) (mc ms : Nat) (free : Addr → Prop) : Pt → Array Value → Addr → Pt → Prop := fun A a q B =>
  ∃ (g : JFrame) (mk : MethodId) (t : State) (L : List Loc) (E : String) (ce : Cell), B.U.heap = t.heap ∧ B.U.vm = t.vm ∧ XC E (A.U.calling g mk a) t ∧ t.heap[q]? = some ce ∧ ce.vm = .none ∧ A.U.vm.findClass E = some ce.cls ∧ B.locs = A.locs ++ L ∧ (∀ z ∈ L, free z.base) ∧ B.cells = A.cells + mc ∧ B.slots = A.slots + ms
def vx_Back (l : Launch) (R : Room) (p : Program) (e : Env) (below : List Frame) (s : State) (sargs : Array Value) (y : MethodName) (len W9 : Nat)
    (Pre : Pt → Array Value → Prop) (Post : Pt → Array Value → Option Value → Pt → Prop) (PostX : Pt → Array Value → Addr → Pt → Prop) : Prop :=
  ∀ (m : MethodId) (meth : Method) (c : Code) (A : Pt) (g : JFrame) (ig : Instr) (mk : MethodId) (a : Array Value),
    Stand p l e R s m sargs below meth c A.U A.locs A.cells A.slots → g.method = m → g.locals.size = c.maxLocals → decode c.code g.pc = .ok (ig, len) →
    2 * g.monitorRoom + (g.stack.map fun v => v.category).sum ≤ W9 → A.U.methodNamed? y = some mk → Pre A a →
    (∃ (v : Option Value) (B : Pt), Stand p l e R s m sargs below meth c B.U B.locs B.cells B.slots ∧ Post A a v B ∧
      Steps p.tables e below (doInvoke e (A.U.setTop g) [] mk a).1 (B.U.setTop { g with pc := g.pc + len, stack := v.toList ++ g.stack })) ∨
    (∃ (q : Addr) (B : Pt), Stand p l e R s m sargs below meth c B.U B.locs B.cells B.slots ∧ PostX A a q B ∧
      Steps p.tables e below (doInvoke e (A.U.setTop g) [] mk a).1 ((B.U.setTop g).pushFrame (.throwing q)))
section Payer
variable {l : Launch} {R : Room} {p : Program} {e : Env} {below : List Frame} {s : State} {sargs : Array Value} {y : MethodName} {len W9 : Nat}
theorem vx_back {ws : List Cond} {rm : Room} {Pc : Array Value → State → Prop} {Qc : Array Value → State → Outcome → State → Prop} {XC : String → State → State → Prop} {mc ms : Nat} {free : Addr → Prop} {bytes : ByteArray} {maxL : Nat} {ret : Option FieldType}
    (hM : vx_Met l y ws rm Pc Qc XC mc ms free) (hblind : FrameBlind Pc) (hrc : rm.cells = mc) (hrs : rm.slots = ms)
    (hframes : rm.frames + 1 ≤ R.frames) (hlocals : W9 + (maxL + 11) + rm.locals ≤ R.locals)
    (hws : ∀ w ∈ ws, ∀ a' U, s.WarmedH U.vm → w.before a' U = true) (hcode : Cond.code y bytes maxL ret ∈ ws) (hinit : ∀ a' U, s.WarmedH U.vm → (Cond.initialized y.cls).before a' U = true) :
    vx_Back l R p e below s sargs y len W9 (PreOf R mc ms Pc) (PostOf Qc mc ms free) (vx_Post XC mc ms free) := by
  intro m meth c A g ig mk a X hg hsize hdg hW hn hp
  have h1 : (headSpec ws rm).pre.before a A.U = true := atoms_intro fun w hw => hws w hw _ _ X.warmed
  have h2 : (Cond.code y bytes maxL ret).before a A.U = true := hws _ hcode _ _ X.warmed
  have h3 : (Cond.initialized y.cls).before a A.U = true := hinit _ _ X.warmed
  have h4 : A.cells + (headSpec ws rm).room.cells ≤ R.cells := by rw [show (headSpec ws rm).room.cells = mc from hrc]; exact hp.1
  have h5 : A.slots + (headSpec ws rm).room.slots ≤ R.slots := by rw [show (headSpec ws rm).room.slots = ms from hrs]; exact hp.2.1
  have hPc : Pc a (A.U.calling g mk a) := hblind _ _ _ _ hp.2.2
  obtain ⟨U, Ls, c0, s0⟩ := A
  dsimp only [Pt.U, Pt.locs, Pt.cells, Pt.slots] at h1 h2 h3 h4 h5 X hn hPc ⊢
  obtain ⟨methY, cY, hmY, hcY, -, hlY, -, -, -, -⟩ := Cond.code_spec hn h2
  obtain ⟨kY, hkY, -⟩ := className_of_methodNamed hn
  have hinitY : kY.init = .initialized := Cond.initialized_spec (findClass_of_methodNamed hn) hkY h3
  have h : At U g.method c below := by rw [hg]; exact X.here
  have hlocals9 : W9 + (maxL + 11) + (headSpec ws rm).room.locals ≤ R.locals := hlocals
  have happ : (headSpec ws rm).appliesLoose y e.platform (U.calling g mk a) = true :=
    Spec.appliesLoose_calling (g := g) h hdg hn hkY hinitY
      (X.room_calling (g := g) (R' := (headSpec ws rm).room) hsize hmY hcY hframes (by rw [hlY]; omega) h4 h5) h1
  obtain ⟨mid, hmid⟩ := h.above
  have hfr : (U.setTop g).frames = (.java g :: mid) ++ below := by rw [State.frames_setTop' g h.top, hmid]; rfl
  obtain ⟨o, s₂, hsteps, -, hend, hq⟩ := Steps.callFree hM p X.admits X.cas X.clock (acts := []) hfr happ hPc trivial
  have hq' : vx_Q Qc XC mc ms free a (U.calling g mk a) o s₂ := hq
  rw [State.frames_setTop' g h.top] at hend
  obtain ⟨g₀, hg0⟩ := Option.isSome_iff_exists.mp h.top
  obtain ⟨r, hr⟩ := State.topJava?_eq_some.mp hg0
  have hr' : (({ U with heap := s₂.heap, slotsUsed := s₂.slotsUsed } : State).setVm s₂.vm).frames = .java g₀ :: r := hr
  rcases hq' with ⟨hqc, L, hfe, hL⟩ | ⟨q, rfl, E, ce, L, hx, hce, hcv, hcl, hW₂, hsm, hL⟩
  · obtain ⟨⟨v, rfl⟩, hW₂, e2, q2, q3, q4, q5, q6⟩ := id hfe
    have e3 : s₂ = ({ (U.calling g mk a).setFrames s₂.frames with heap := s₂.heap, slotsUsed := s₂.slotsUsed } : State).setVm s₂.vm := by
      have : s₂ = ({ s₂ with vm := (U.calling g mk a).vm } : State).setVm s₂.vm := rfl
      rw [e2] at this
      exact this
    obtain ⟨c₂, i₂, len₂, hc₂, hd₂, hf₂⟩ := hend
    have hW' : U.WarmedH s₂.vm := hW₂
    have hcc : c₂ = c := by
      have h1 : s₂.code? g.method = U.code? g.method := by
        rw [State.code?_eq, State.code?_eq, hW'.alike.method?]
      exact Option.some.inj (hc₂.symm.trans (h1.trans h.code))
    subst hcc
    have hlen : len₂ = len := by rw [hdg] at hd₂; cases hd₂; rfl
    subst hlen
    have hs₂ : s₂ = (({ U with heap := s₂.heap, slotsUsed := s₂.slotsUsed } : State).setVm s₂.vm).setTop { g with pc := g.pc + len₂, stack := v.toList ++ g.stack } := by
      refine e3.trans ?_
      rw [hf₂, State.calling_eq h.top, State.setFrames_setFrames, State.setTop_of_frames _ hr', hr]
      rfl
    have hsame : U.sameButNew ({ U with heap := s₂.heap, slotsUsed := s₂.slotsUsed } : State) L mc ms := by
      refine ⟨?_, q2, q3, q4, q5, q6⟩
      obtain ⟨t, ht, -⟩ := State.frames_cons hr
      show ({ U with heap := s₂.heap, slotsUsed := s₂.slotsUsed } : State) = { U.setFrames U.frames with heap := s₂.heap, slotsUsed := s₂.slotsUsed }
      rw [State.setFrames_self ht]
    subst hg
    refine Or.inl ⟨v, ⟨(({ U with heap := s₂.heap, slotsUsed := s₂.slotsUsed } : State).setVm s₂.vm), Ls ++ L, c0 + mc, s0 + ms⟩,
      ⟨X.admits, X.cas, X.clock, X.frames, X.room, X.hears, X.method, X.code, (X.here.setHeapUsed s₂.heap s₂.slotsUsed).setVm hW'.alike, X.tail, State.WarmedH.trans X.warmed hW', X.limits, X.bytes, X.same.trans (hsame.setVm s.vm)⟩,
      ⟨g, mk, s₂, L, rfl, rfl, hqc, rfl, hL, rfl, rfl⟩, ?_⟩
    show Steps p.tables e below _ ((({ U with heap := s₂.heap, slotsUsed := s₂.slotsUsed } : State).setVm s₂.vm).setTop { g with pc := g.pc + len₂, stack := v.toList ++ g.stack })
    rw [← hs₂]
    exact hsteps
  · obtain ⟨e2, q2, q3, q4, q5, q6⟩ := id hsm
    have e3 : s₂ = ({ (U.calling g mk a).setFrames s₂.frames with heap := s₂.heap, slotsUsed := s₂.slotsUsed } : State).setVm s₂.vm := by
      have : s₂ = ({ s₂ with vm := (U.calling g mk a).vm } : State).setVm s₂.vm := rfl
      rw [e2] at this
      exact this
    have hf₂ : s₂.frames = .throwing q :: .java g :: U.frames.tail := hend
    have hW' : U.WarmedH s₂.vm := hW₂
    have hs₂ : s₂ = ((({ U with heap := s₂.heap, slotsUsed := s₂.slotsUsed } : State).setVm s₂.vm).setTop g).pushFrame (.throwing q) := by
      refine e3.trans ?_
      rw [hf₂, State.calling_eq h.top, State.setFrames_setFrames, State.pushFrame, State.frames_setTop _ hr', State.setTop_of_frames _ hr', State.setFrames_setFrames, hr]
      rfl
    have hsame : U.sameButNew ({ U with heap := s₂.heap, slotsUsed := s₂.slotsUsed } : State) L mc ms := by
      refine ⟨?_, q2, q3, q4, q5, q6⟩
      obtain ⟨t, ht, -⟩ := State.frames_cons hr
      show ({ U with heap := s₂.heap, slotsUsed := s₂.slotsUsed } : State) = { U.setFrames U.frames with heap := s₂.heap, slotsUsed := s₂.slotsUsed }
      rw [State.setFrames_self ht]
    subst hg
    refine Or.inr ⟨q, ⟨(({ U with heap := s₂.heap, slotsUsed := s₂.slotsUsed } : State).setVm s₂.vm), Ls ++ L, c0 + mc, s0 + ms⟩,
      ⟨X.admits, X.cas, X.clock, X.frames, X.room, X.hears, X.method, X.code, (X.here.setHeapUsed s₂.heap s₂.slotsUsed).setVm hW'.alike, X.tail, State.WarmedH.trans X.warmed hW', X.limits, X.bytes, X.same.trans (hsame.setVm s.vm)⟩,
      ⟨g, mk, s₂, L, E, ce, rfl, rfl, hx, hce, hcv, hcl, rfl, hL, rfl, rfl⟩, ?_⟩
    show Steps p.tables e below _ (((({ U with heap := s₂.heap, slotsUsed := s₂.slotsUsed } : State).setVm s₂.vm).setTop g).pushFrame (.throwing q))
    rw [← hs₂]
    exact hsteps
end Payer
section Calls
variable {p : Program} {l : Launch} {e : Env} {R : Room} {s : State} {m : MethodId} {args : Array Value} {below : List Frame} {meth : Method} {c : Code} {T : State} {locs : List Loc} {cells slots : Nat}
theorem vx_callV (X : Stand p l e R s m args below meth c T locs cells slots) (hexec : p.tables.exec = Jvm.exec) {own C : String} {index : Nat} {y : MethodName} {bytes : ByteArray} {maxL : Nat} {ret : Option FieldType}
    (hown : s.vm.findClass own = some m.cls) (hlink : (Cond.methodLink own index y).before args s = true) (hinst : (Cond.instanceMethod y).before args s = true) (hsel : (Cond.selects C y y).before args s = true)
    (hcode : (Cond.code y bytes maxL ret).before args s = true) (hy : y.cls ≠ "java/lang/invoke/MethodHandle" ∧ y.cls ≠ "java/lang/invoke/VarHandle")
    {W9 : Nat} {Pre : Pt → Array Value → Prop} {Post : Pt → Array Value → Option Value → Pt → Prop} {PostX : Pt → Array Value → Addr → Pt → Prop} (hK : vx_Back l R p e below s args y 3 W9 Pre Post PostX)
    {b : Addr} {cellB : Cell} (hcell : T.heap[b]? = some cellB) (hobj : cellB.vm.isStatics = false) (hcls : s.vm.findClass C = some cellB.cls)
    {g : JFrame} (hg : g.method = m) (hsize : g.locals.size = c.maxLocals) {argsL rest : List Value} (hlen : ∀ sig, parseMethodDescriptor y.desc = some sig → argsL.length = sig.parameters.length)
    (hstack : g.stack = argsL.reverse ++ .ref b :: rest) (hW : 2 * g.monitorRoom + (rest.map fun v => v.category).sum ≤ W9) (hdg : decode c.code g.pc = .ok (.invokevirtual index, 3))
    (hpre : ∀ vm₁, s.WarmedH vm₁ → Pre ⟨T.setVm vm₁, locs, cells, slots⟩ (Value.ref b :: argsL).toArray) :
    (∃ (v : Option Value) (vm₁ : Vm) (B : Pt), s.WarmedH vm₁ ∧ Stand p l e R s m args below meth c B.U B.locs B.cells B.slots ∧ Post ⟨T.setVm vm₁, locs, cells, slots⟩ (Value.ref b :: argsL).toArray v B ∧
      ∀ target, Steps p.tables e below (B.U.setTop { g with pc := g.pc + 3, stack := v.toList ++ rest }) target → Steps p.tables e below (T.setTop g) target) ∨
    (∃ (q : Addr) (vm₁ : Vm) (B : Pt), s.WarmedH vm₁ ∧ Stand p l e R s m args below meth c B.U B.locs B.cells B.slots ∧ PostX ⟨T.setVm vm₁, locs, cells, slots⟩ (Value.ref b :: argsL).toArray q B ∧
      Steps p.tables e below (T.setTop g) ((B.U.setTop { g with stack := rest }).pushFrame (.throwing q))) := by
  obtain ⟨mk, methM, hnamed, hmethM, hstM, habM⟩ := Cond.instanceMethod_spec hinst
  obtain ⟨methM', cM, hmethM', -, -, -, -, -, -, hsigM⟩ := Cond.code_spec hnamed hcode
  cases hmethM.symm.trans hmethM'
  obtain ⟨c2, r2, m2, q1, q2, q3, q4, kP, hkP, hkPi⟩ := Cond.selects_spec hsel
  cases hcls.symm.trans q1
  cases (State.methodFound?_of_named hnamed hy).symm.trans q2
  cases hnamed.symm.trans q3
  have hselP : selectMethod e.platform s.vm cellB.cls mk = .method mk := by rw [Launch.admits_selectMethod X.admits]; exact q4
  obtain ⟨vm₁, X₁, hstep₁⟩ := X.invokevirtual hexec hown hlink hnamed hmethM hstM hkP hkPi hy (a := b) (cell := cellB) hcell
    (fun z h => by rw [h] at hobj; cases hobj) hselP hmethM habM hkP hkPi (g := g) hg (argsL := argsL) (rest := rest) (hlen _ hsigM) hstack hdg
  rcases hK m meth c ⟨T.setVm vm₁, locs, cells, slots⟩ { g with stack := rest } (.invokevirtual index) mk (Value.ref b :: argsL).toArray X₁ hg hsize hdg hW (X₁.named hnamed) (hpre vm₁ X₁.warmed) with ⟨v, B, X', hpost, hsteps⟩ | ⟨q, B, X', hpost, hsteps⟩
  · exact Or.inl ⟨v, vm₁, B, X₁.warmed, X', hpost, fun target h => hstep₁ _ fun acts => by rw [doInvoke_state]; exact hsteps.trans h⟩
  · exact Or.inr ⟨q, vm₁, B, X₁.warmed, X', hpost, hstep₁ _ fun acts => by rw [doInvoke_state]; exact hsteps⟩
theorem vx_callS (X : Stand p l e R s m args below meth c T locs cells slots) (hexec : p.tables.exec = Jvm.exec) {own : String} {index : Nat} {y : MethodName} {bytes : ByteArray} {maxL : Nat} {ret : Option FieldType}
    (hown : s.vm.findClass own = some m.cls) (hlink : (Cond.methodLink own index y).before args s = true) (hstat : (Cond.static y).before args s = true) (hinit : (Cond.initialized y.cls).before args s = true)
    (hcode : (Cond.code y bytes maxL ret).before args s = true) (hy : y.cls ≠ "java/lang/invoke/MethodHandle" ∧ y.cls ≠ "java/lang/invoke/VarHandle")
    {W9 : Nat} {Pre : Pt → Array Value → Prop} {Post : Pt → Array Value → Option Value → Pt → Prop} {PostX : Pt → Array Value → Addr → Pt → Prop} (hK : vx_Back l R p e below s args y 3 W9 Pre Post PostX)
    {g : JFrame} (hg : g.method = m) (hsize : g.locals.size = c.maxLocals) {argsL rest : List Value} (hlen : ∀ sig, parseMethodDescriptor y.desc = some sig → argsL.length = sig.parameters.length)
    (hstack : g.stack = argsL.reverse ++ rest) (hW : 2 * g.monitorRoom + (rest.map fun v => v.category).sum ≤ W9) (hdg : decode c.code g.pc = .ok (.invokestatic index, 3))
    (hpre : ∀ vm₁, s.WarmedH vm₁ → Pre ⟨T.setVm vm₁, locs, cells, slots⟩ argsL.toArray) :
    (∃ (v : Option Value) (vm₁ : Vm) (B : Pt), s.WarmedH vm₁ ∧ Stand p l e R s m args below meth c B.U B.locs B.cells B.slots ∧ Post ⟨T.setVm vm₁, locs, cells, slots⟩ argsL.toArray v B ∧
      ∀ target, Steps p.tables e below (B.U.setTop { g with pc := g.pc + 3, stack := v.toList ++ rest }) target → Steps p.tables e below (T.setTop g) target) ∨
    (∃ (q : Addr) (vm₁ : Vm) (B : Pt), s.WarmedH vm₁ ∧ Stand p l e R s m args below meth c B.U B.locs B.cells B.slots ∧ PostX ⟨T.setVm vm₁, locs, cells, slots⟩ argsL.toArray q B ∧
      Steps p.tables e below (T.setTop g) ((B.U.setTop { g with stack := rest }).pushFrame (.throwing q))) := by
  obtain ⟨mk, hnamed⟩ := Cond.code_named hcode
  obtain ⟨methM, cM, hmethM, -, -, -, -, -, -, hsigM⟩ := Cond.code_spec hnamed hcode
  have hstatic : methM.isStatic = true := Cond.static_spec hnamed hmethM hstat
  obtain ⟨kP, hkP, -⟩ := className_of_methodNamed hnamed
  have hinitP : kP.init = .initialized := Cond.initialized_spec (findClass_of_methodNamed hnamed) hkP hinit
  obtain ⟨vm₁, X₁, hstep₁⟩ := X.invokestatic hexec hown hlink hnamed hmethM hstatic hkP hinitP hy (g := g) hg (argsL := argsL) (rest := rest) (hlen _ hsigM) hstack hdg
  rcases hK m meth c ⟨T.setVm vm₁, locs, cells, slots⟩ { g with stack := rest } (.invokestatic index) mk argsL.toArray X₁ hg hsize hdg hW (X₁.named hnamed) (hpre vm₁ X₁.warmed) with ⟨v, B, X', hpost, hsteps⟩ | ⟨q, B, X', hpost, hsteps⟩
  · exact Or.inl ⟨v, vm₁, B, X₁.warmed, X', hpost, fun target h => hstep₁ _ fun acts => by rw [doInvoke_state]; exact hsteps.trans h⟩
  · exact Or.inr ⟨q, vm₁, B, X₁.warmed, X', hpost, hstep₁ _ fun acts => by rw [doInvoke_state]; exact hsteps⟩
end Calls
theorem vx_cls {s : State} {T : State} {vm₁ : Vm} {E : String} {k : ClassId} (hW : s.WarmedH vm₁) (h : (T.setVm vm₁).vm.findClass E = some k) : s.vm.findClass E = some k := by
  have h1 : vm₁.findClass E = some k := h
  rw [hW.alike.findClass] at h1
  exact h1
/-- the method's frame g, with q thrown over it -/
def vx_W (p : Program) (l : Launch) (e : Env) (R : Room) (s : State) (m : MethodId) (args : Array Value) (below : List Frame) (meth : Method) (c : Code) (H : Heap) (locs : List Loc) (cells slots : Nat) (Q : State → Prop) (g : JFrame) (q : Addr) : Prop :=
  ∀ T : State, T.heap = H → Stand p l e R s m args below meth c T locs cells slots → ∃ t, Steps p.tables e below ((T.setTop g).pushFrame (.throwing q)) t ∧ Q t
def vx_Run (p : Program) (l : Launch) (e : Env) (R : Room) (s : State) (m : MethodId) (args : Array Value) (below : List Frame) (meth : Method) (c : Code) (H : Heap) (locs : List Loc) (cells slots mc ms : Nat) (g : JFrame) (rest : List Value) (Qa : State → Outcome → State → Prop) (XC : String → State → State → Prop) (free : Addr → Prop) : Prop :=
  ∀ T : State, T.heap = H → Stand p l e R s m args below meth c T locs cells slots →
    (∃ (v : Option Value) (st₀ t T' : State) (L : List Loc), st₀.heap = H ∧ Stand p l e R s m args below meth c T' (locs ++ L) (cells + mc) (slots + ms) ∧ (∀ q ∈ L, free q.base) ∧ T'.heap = t.heap ∧ T'.vm = t.vm ∧ Qa st₀ (.returned v) t ∧
      Goes p e below T g T' { g with pc := g.pc + 3, stack := v.toList ++ rest }) ∨
    (∃ (q : Addr) (st₀ t T' : State) (L : List Loc) (E : String) (ce : Cell), st₀.heap = H ∧ Stand p l e R s m args below meth c T' (locs ++ L) (cells + mc) (slots + ms) ∧ (∀ z ∈ L, free z.base) ∧ T'.heap = t.heap ∧ T'.vm = t.vm ∧ XC E st₀ t ∧ t.heap[q]? = some ce ∧ ce.vm = .none ∧ s.vm.findClass E = some ce.cls ∧
      Steps p.tables e below (T.setTop g) ((T'.setTop { g with stack := rest }).pushFrame (.throwing q)))
def vx_X {S : Type} (px : S → Prop) (B : String → S → State → Prop) (A : Nat → Prop) : String → State → State → Prop := fun E st t => ∃ u : S, px u ∧ B E u t ∧ va_F A st t
section Runs
variable {p : Program} {l : Launch} {e : Env} {R : Room} {s : State} {m : MethodId} {args : Array Value} {below : List Frame} {meth : Method} {c : Code} {H : Heap} {locs : List Loc} {cells slots : Nat}
variable {y : MethodName} {bytes cc : ByteArray} {maxL nL mc ms n index : Nat} {ret : Option FieldType} {ws : List Cond} {rm : Room} {Pc : Array Value → State → Prop} {Qc : Array Value → State → Outcome → State → Prop} {XC : String → State → State → Prop} {free : Addr → Prop} {Ts : List Cond} {own C : String} {b : Addr} {As rest : List Value} {g : JFrame}
theorem vx_callBack (cb : CallB R s args own index y bytes maxL ret ws rm mc ms n) (hM : vx_Met l y ws rm Pc Qc XC mc ms free) (hbl : FrameBlind Pc) : vx_Back l R p e below s args y 3 8 (PreOf R mc ms Pc) (PostOf Qc mc ms free) (vx_Post XC mc ms free) := by
  obtain ⟨hrc, hrs, hfr, hlo, hws, hcw, -, hini, -⟩ := cb
  exact vx_back (bytes := bytes) (maxL := maxL) (ret := ret) hM hbl hrc hrs hfr hlo hws hcw (fun a' U hW => word_at hW (Or.inl (by first | rfl | simp [Cond.onTables, Cond.keeps, Cond.steady])) hini)
theorem vx_runV (S : CallFix p m c cc nL s args Ts own) (hM : vx_Met l y ws rm Pc Qc XC mc ms free) (cw : CallW R s args own C index y bytes maxL ret ws rm mc ms n) (hp : PreV s H C b Pc As)
    (hg : g.method = m) (hn : As.length = n) (hsize : g.locals.size = nL) (hstack : g.stack = As.reverse ++ .ref b :: rest) (hW : 2 * g.monitorRoom + (rest.map fun v => v.category).sum ≤ 8) (hdg : decode cc g.pc = .ok (.invokevirtual index, 3)) (hf : cells + mc ≤ R.cells ∧ slots + ms ≤ R.slots) :
    vx_Run p l e R s m args below meth c H locs cells slots mc ms g rest (Qc (Value.ref b :: As).toArray) XC free := by
  have hK : vx_Back l R p e below s args y 3 8 (PreOf R mc ms Pc) (PostOf Qc mc ms free) (vx_Post XC mc ms free) := vx_callBack cw.1 hM hp.1
  obtain ⟨⟨-, -, -, -, -, -, hcode, -, hy, hlen, hl⟩, hin, hse⟩ := cw
  obtain ⟨hx, hb, hml, ho, -⟩ := S
  obtain ⟨-, ⟨cellB, hcB, hoB, hclB⟩, hPc⟩ := hp
  intro T hT X
  rcases vx_callV X hx (C := C) (bytes := bytes) (maxL := maxL) (ret := ret) ho hl hin hse hcode hy hK (by rw [hT]; exact hcB) hoB hclB hg (hsize.trans hml.symm) (argsL := As) (rest := rest) (fun sig h => hn.trans (hlen sig h)) hstack hW (by rw [hb]; exact hdg)
    (fun vm₁ hW₁ => ⟨hf.1, hf.2, hPc (T.setVm vm₁) hT hW₁⟩) with ⟨v, vm₁, ⟨U', l2, c2, s2⟩, hW₁, X', ⟨g', mk, t, L, e1, e2, hq, h1, hL, h2, h3⟩, st⟩ | ⟨q, vm₁, ⟨U', l2, c2, s2⟩, hW₁, X', ⟨g', mk, t, L, E, ce, e1, e2, hq, hce, hcv, hcl, h1, hL, h2, h3⟩, st⟩
  · dsimp only [Pt.U, Pt.locs, Pt.cells, Pt.slots] at X' e1 e2 h1 h2 h3 st
    subst h1; subst h2; subst h3
    exact Or.inl ⟨v, (T.setVm vm₁).calling g' mk (Value.ref b :: As).toArray, t, U', L, hT, X', hL, e1, e2, hq, st⟩
  · dsimp only [Pt.U, Pt.locs, Pt.cells, Pt.slots] at X' e1 e2 h1 h2 h3 st hcl
    subst h1; subst h2; subst h3
    exact Or.inr ⟨q, (T.setVm vm₁).calling g' mk (Value.ref b :: As).toArray, t, U', L, E, ce, hT, X', hL, e1, e2, hq, hce, hcv, vx_cls hW₁ hcl, st⟩
theorem vx_runS (S : CallFix p m c cc nL s args Ts own) (hM : vx_Met l y ws rm Pc Qc XC mc ms free) (cw : CallB R s args own index y bytes maxL ret ws rm mc ms n ∧ (Cond.static y).before args s = true) (hp : PreS s H Pc As)
    (hg : g.method = m) (hn : As.length = n) (hsize : g.locals.size = nL) (hstack : g.stack = As.reverse ++ rest) (hW : 2 * g.monitorRoom + (rest.map fun v => v.category).sum ≤ 8) (hdg : decode cc g.pc = .ok (.invokestatic index, 3)) (hf : cells + mc ≤ R.cells ∧ slots + ms ≤ R.slots) :
    vx_Run p l e R s m args below meth c H locs cells slots mc ms g rest (Qc As.toArray) XC free := by
  have hK : vx_Back l R p e below s args y 3 8 (PreOf R mc ms Pc) (PostOf Qc mc ms free) (vx_Post XC mc ms free) := vx_callBack cw.1 hM hp.1
  obtain ⟨⟨-, -, -, -, -, -, hcode, hini, hy, hlen, hl⟩, hstt⟩ := cw
  obtain ⟨hx, hb, hml, ho, -⟩ := S
  intro T hT X
  rcases vx_callS X hx (bytes := bytes) (maxL := maxL) (ret := ret) ho hl hstt hini hcode hy hK hg (hsize.trans hml.symm) (argsL := As) (rest := rest) (fun sig h => hn.trans (hlen sig h)) hstack hW (by rw [hb]; exact hdg)
    (fun vm₁ hW₁ => ⟨hf.1, hf.2, hp.2 (T.setVm vm₁) hT hW₁⟩) with ⟨v, vm₁, ⟨U', l2, c2, s2⟩, hW₁, X', ⟨g', mk, t, L, e1, e2, hq, h1, hL, h2, h3⟩, st⟩ | ⟨q, vm₁, ⟨U', l2, c2, s2⟩, hW₁, X', ⟨g', mk, t, L, E, ce, e1, e2, hq, hce, hcv, hcl, h1, hL, h2, h3⟩, st⟩
  · dsimp only [Pt.U, Pt.locs, Pt.cells, Pt.slots] at X' e1 e2 h1 h2 h3 st
    subst h1; subst h2; subst h3
    exact Or.inl ⟨v, (T.setVm vm₁).calling g' mk As.toArray, t, U', L, hT, X', hL, e1, e2, hq, st⟩
  · dsimp only [Pt.U, Pt.locs, Pt.cells, Pt.slots] at X' e1 e2 h1 h2 h3 st hcl
    subst h1; subst h2; subst h3
    exact Or.inr ⟨q, (T.setVm vm₁).calling g' mk As.toArray, t, U', L, E, ce, hT, X', hL, e1, e2, hq, hce, hcv, vx_cls hW₁ hcl, st⟩
end Runs
section Rows
variable {p : Program} {l : Launch} {e : Env} {R : Room} {s : State} {m : MethodId} {args : Array Value} {below : List Frame} {meth : Method} {c : Code} {H : Heap} {locs : List Loc} {cells slots : Nat} {Q : State → Prop}
variable {mc ms : Nat} {free : Addr → Prop} {A0 A1 : Nat → Prop} {H0 : Heap} {a : Array Value} {pc : Nat} {ls : Array Slot} {st0 rest : List Value}
theorem vx_keep {st₀ t T' : State} {L : List Loc} (h0 : st₀.heap = H) (e1 : T'.heap = t.heap) (hS : va_S A0 H0 H locs) (hA : ∀ q, q < H.size → A1 q → A0 q) (hf : ∀ q, free q → A0 q) (hL : ∀ q ∈ L, free q.base) (hF : va_F A1 st₀ t) :
    H.size ≤ T'.heap.size ∧ (∀ q : Nat, q < H.size → ¬ A1 q → T'.heap[q]? = H[q]?) ∧ va_S A0 H0 T'.heap (locs ++ L) := by
  obtain ⟨hz, hk⟩ := hF
  rw [h0] at hz hk
  exact ⟨by rw [e1]; exact hz, fun q h1 h2 => by rw [e1]; exact hk q h1 h2,
    ⟨Nat.le_trans hS.1 (by rw [e1]; exact hz), fun q h1 h2 => by rw [e1, hk q (Nat.lt_of_lt_of_le h1 hS.1) (fun z => h2 (hA q (Nat.lt_of_lt_of_le h1 hS.1) z))]; exact hS.2.1 q h1 h2, fun q hq => by
      rcases List.mem_append.mp hq with h | h
      · exact hS.2.2 q h
      · exact hf _ (hL q h)⟩⟩
theorem vx_calli {S SX : Type} {post : Int32 → S → Prop} {px : SX → Prop} {B : S → State → Prop} {BX : String → SX → State → Prop} {AX : Nat → Prop} (hr : vx_Run p l e R s m args below meth c H locs cells slots mc ms (F0 m pc ls st0) rest (va_Qi post B A1 a) (vx_X px BX AX) free) (hS : va_S A0 H0 H locs) (hA : ∀ q, q < H.size → A1 q → A0 q) (hf : ∀ q, free q → A0 q) (hAX : ∀ q, q < H.size → AX q → A0 q)
    (kx : ∀ (E : String) (ce : Cell) (q9 : Addr) (u : SX) (t : State) (H1 : Heap) (locs1 : List Loc), t.heap = H1 → s.vm.Alike t.vm → px u → BX E u t → H.size ≤ H1.size → (∀ q : Nat, q < H.size → ¬ AX q → H1[q]? = H[q]?) → va_S A0 H0 H1 locs1 → H1[q9]? = some ce → ce.vm = .none → s.vm.findClass E = some ce.cls → vx_W p l e R s m args below meth c H1 locs1 (cells + mc) (slots + ms) Q (F0 m pc ls rest) q9)
    (kk : ∀ (r : Int32) (u : S) (t : State) (H1 : Heap) (locs1 : List Loc), t.heap = H1 → s.vm.Alike t.vm → post r u → B u t → H.size ≤ H1.size → (∀ q : Nat, q < H.size → ¬ A1 q → H1[q]? = H[q]?) → va_S A0 H0 H1 locs1 → W p l e R s m args below meth c H1 locs1 (cells + mc) (slots + ms) Q (F0 m (pc + 3) ls (.int r :: rest))) : W p l e R s m args below meth c H locs cells slots Q (F0 m pc ls st0) := by
  intro T hT X
  rcases hr T hT X with ⟨v, st₀, t, T', L, h0, X', hL, e1, e2, ⟨⟨r, u, hv, hp, hb⟩, hF⟩, st⟩ | ⟨q, st₀, t, T', L, E, ce, h0, X', hL, e1, e2, ⟨u, hp, hb, hF⟩, hce, hcv, hcl, st⟩
  · cases hv
    obtain ⟨k1, k2, k3⟩ := vx_keep h0 e1 hS hA hf hL hF
    obtain ⟨t2, a1, b1⟩ := kk r u t T'.heap (locs ++ L) e1.symm (by rw [← e2]; exact X'.warmed.alike) hp hb k1 k2 k3 T' rfl X'
    exact ⟨t2, st t2 a1, b1⟩
  · obtain ⟨k1, k2, k3⟩ := vx_keep h0 e1 hS hAX hf hL hF
    obtain ⟨t2, a1, b1⟩ := kx E ce q u t T'.heap (locs ++ L) e1.symm (by rw [← e2]; exact X'.warmed.alike) hp hb k1 k2 k3 (by rw [e1]; exact hce) hcv hcl T' rfl X'
    exact ⟨t2, st.trans a1, b1⟩
theorem vx_calll {S SX : Type} {post : Int64 → S → Prop} {px : SX → Prop} {B : S → State → Prop} {BX : String → SX → State → Prop} {AX : Nat → Prop} (hr : vx_Run p l e R s m args below meth c H locs cells slots mc ms (F0 m pc ls st0) rest (va_Ql post B A1 a) (vx_X px BX AX) free) (hS : va_S A0 H0 H locs) (hA : ∀ q, q < H.size → A1 q → A0 q) (hf : ∀ q, free q → A0 q) (hAX : ∀ q, q < H.size → AX q → A0 q)
    (kx : ∀ (E : String) (ce : Cell) (q9 : Addr) (u : SX) (t : State) (H1 : Heap) (locs1 : List Loc), t.heap = H1 → s.vm.Alike t.vm → px u → BX E u t → H.size ≤ H1.size → (∀ q : Nat, q < H.size → ¬ AX q → H1[q]? = H[q]?) → va_S A0 H0 H1 locs1 → H1[q9]? = some ce → ce.vm = .none → s.vm.findClass E = some ce.cls → vx_W p l e R s m args below meth c H1 locs1 (cells + mc) (slots + ms) Q (F0 m pc ls rest) q9)
    (kk : ∀ (r : Int64) (u : S) (t : State) (H1 : Heap) (locs1 : List Loc), t.heap = H1 → s.vm.Alike t.vm → post r u → B u t → H.size ≤ H1.size → (∀ q : Nat, q < H.size → ¬ A1 q → H1[q]? = H[q]?) → va_S A0 H0 H1 locs1 → W p l e R s m args below meth c H1 locs1 (cells + mc) (slots + ms) Q (F0 m (pc + 3) ls (.long r :: rest))) : W p l e R s m args below meth c H locs cells slots Q (F0 m pc ls st0) := by
  intro T hT X
  rcases hr T hT X with ⟨v, st₀, t, T', L, h0, X', hL, e1, e2, ⟨⟨r, u, hv, hp, hb⟩, hF⟩, st⟩ | ⟨q, st₀, t, T', L, E, ce, h0, X', hL, e1, e2, ⟨u, hp, hb, hF⟩, hce, hcv, hcl, st⟩
  · cases hv
    obtain ⟨k1, k2, k3⟩ := vx_keep h0 e1 hS hA hf hL hF
    obtain ⟨t2, a1, b1⟩ := kk r u t T'.heap (locs ++ L) e1.symm (by rw [← e2]; exact X'.warmed.alike) hp hb k1 k2 k3 T' rfl X'
    exact ⟨t2, st t2 a1, b1⟩
  · obtain ⟨k1, k2, k3⟩ := vx_keep h0 e1 hS hAX hf hL hF
    obtain ⟨t2, a1, b1⟩ := kx E ce q u t T'.heap (locs ++ L) e1.symm (by rw [← e2]; exact X'.warmed.alike) hp hb k1 k2 k3 (by rw [e1]; exact hce) hcv hcl T' rfl X'
    exact ⟨t2, st.trans a1, b1⟩
theorem vx_callf {S SX : Type} {post : UInt32 → S → Prop} {px : SX → Prop} {B : S → State → Prop} {BX : String → SX → State → Prop} {AX : Nat → Prop} (hr : vx_Run p l e R s m args below meth c H locs cells slots mc ms (F0 m pc ls st0) rest (va_Qf post B A1 a) (vx_X px BX AX) free) (hS : va_S A0 H0 H locs) (hA : ∀ q, q < H.size → A1 q → A0 q) (hf : ∀ q, free q → A0 q) (hAX : ∀ q, q < H.size → AX q → A0 q)
    (kx : ∀ (E : String) (ce : Cell) (q9 : Addr) (u : SX) (t : State) (H1 : Heap) (locs1 : List Loc), t.heap = H1 → s.vm.Alike t.vm → px u → BX E u t → H.size ≤ H1.size → (∀ q : Nat, q < H.size → ¬ AX q → H1[q]? = H[q]?) → va_S A0 H0 H1 locs1 → H1[q9]? = some ce → ce.vm = .none → s.vm.findClass E = some ce.cls → vx_W p l e R s m args below meth c H1 locs1 (cells + mc) (slots + ms) Q (F0 m pc ls rest) q9)
    (kk : ∀ (r : UInt32) (u : S) (t : State) (H1 : Heap) (locs1 : List Loc), t.heap = H1 → s.vm.Alike t.vm → post r u → B u t → H.size ≤ H1.size → (∀ q : Nat, q < H.size → ¬ A1 q → H1[q]? = H[q]?) → va_S A0 H0 H1 locs1 → W p l e R s m args below meth c H1 locs1 (cells + mc) (slots + ms) Q (F0 m (pc + 3) ls (.float r :: rest))) : W p l e R s m args below meth c H locs cells slots Q (F0 m pc ls st0) := by
  intro T hT X
  rcases hr T hT X with ⟨v, st₀, t, T', L, h0, X', hL, e1, e2, ⟨⟨r, u, hv, hp, hb⟩, hF⟩, st⟩ | ⟨q, st₀, t, T', L, E, ce, h0, X', hL, e1, e2, ⟨u, hp, hb, hF⟩, hce, hcv, hcl, st⟩
  · cases hv
    obtain ⟨k1, k2, k3⟩ := vx_keep h0 e1 hS hA hf hL hF
    obtain ⟨t2, a1, b1⟩ := kk r u t T'.heap (locs ++ L) e1.symm (by rw [← e2]; exact X'.warmed.alike) hp hb k1 k2 k3 T' rfl X'
    exact ⟨t2, st t2 a1, b1⟩
  · obtain ⟨k1, k2, k3⟩ := vx_keep h0 e1 hS hAX hf hL hF
    obtain ⟨t2, a1, b1⟩ := kx E ce q u t T'.heap (locs ++ L) e1.symm (by rw [← e2]; exact X'.warmed.alike) hp hb k1 k2 k3 (by rw [e1]; exact hce) hcv hcl T' rfl X'
    exact ⟨t2, st.trans a1, b1⟩
theorem vx_calld {S SX : Type} {post : UInt64 → S → Prop} {px : SX → Prop} {B : S → State → Prop} {BX : String → SX → State → Prop} {AX : Nat → Prop} (hr : vx_Run p l e R s m args below meth c H locs cells slots mc ms (F0 m pc ls st0) rest (va_Qd post B A1 a) (vx_X px BX AX) free) (hS : va_S A0 H0 H locs) (hA : ∀ q, q < H.size → A1 q → A0 q) (hf : ∀ q, free q → A0 q) (hAX : ∀ q, q < H.size → AX q → A0 q)
    (kx : ∀ (E : String) (ce : Cell) (q9 : Addr) (u : SX) (t : State) (H1 : Heap) (locs1 : List Loc), t.heap = H1 → s.vm.Alike t.vm → px u → BX E u t → H.size ≤ H1.size → (∀ q : Nat, q < H.size → ¬ AX q → H1[q]? = H[q]?) → va_S A0 H0 H1 locs1 → H1[q9]? = some ce → ce.vm = .none → s.vm.findClass E = some ce.cls → vx_W p l e R s m args below meth c H1 locs1 (cells + mc) (slots + ms) Q (F0 m pc ls rest) q9)
    (kk : ∀ (r : UInt64) (u : S) (t : State) (H1 : Heap) (locs1 : List Loc), t.heap = H1 → s.vm.Alike t.vm → post r u → B u t → H.size ≤ H1.size → (∀ q : Nat, q < H.size → ¬ A1 q → H1[q]? = H[q]?) → va_S A0 H0 H1 locs1 → W p l e R s m args below meth c H1 locs1 (cells + mc) (slots + ms) Q (F0 m (pc + 3) ls (.double r :: rest))) : W p l e R s m args below meth c H locs cells slots Q (F0 m pc ls st0) := by
  intro T hT X
  rcases hr T hT X with ⟨v, st₀, t, T', L, h0, X', hL, e1, e2, ⟨⟨r, u, hv, hp, hb⟩, hF⟩, st⟩ | ⟨q, st₀, t, T', L, E, ce, h0, X', hL, e1, e2, ⟨u, hp, hb, hF⟩, hce, hcv, hcl, st⟩
  · cases hv
    obtain ⟨k1, k2, k3⟩ := vx_keep h0 e1 hS hA hf hL hF
    obtain ⟨t2, a1, b1⟩ := kk r u t T'.heap (locs ++ L) e1.symm (by rw [← e2]; exact X'.warmed.alike) hp hb k1 k2 k3 T' rfl X'
    exact ⟨t2, st t2 a1, b1⟩
  · obtain ⟨k1, k2, k3⟩ := vx_keep h0 e1 hS hAX hf hL hF
    obtain ⟨t2, a1, b1⟩ := kx E ce q u t T'.heap (locs ++ L) e1.symm (by rw [← e2]; exact X'.warmed.alike) hp hb k1 k2 k3 (by rw [e1]; exact hce) hcv hcl T' rfl X'
    exact ⟨t2, st.trans a1, b1⟩
theorem vx_callv {S SX : Type} {post : S → Prop} {px : SX → Prop} {B : S → State → Prop} {BX : String → SX → State → Prop} {AX : Nat → Prop} (hr : vx_Run p l e R s m args below meth c H locs cells slots mc ms (F0 m pc ls st0) rest (va_Qv post B A1 a) (vx_X px BX AX) free) (hS : va_S A0 H0 H locs) (hA : ∀ q, q < H.size → A1 q → A0 q) (hf : ∀ q, free q → A0 q) (hAX : ∀ q, q < H.size → AX q → A0 q)
    (kx : ∀ (E : String) (ce : Cell) (q9 : Addr) (u : SX) (t : State) (H1 : Heap) (locs1 : List Loc), t.heap = H1 → s.vm.Alike t.vm → px u → BX E u t → H.size ≤ H1.size → (∀ q : Nat, q < H.size → ¬ AX q → H1[q]? = H[q]?) → va_S A0 H0 H1 locs1 → H1[q9]? = some ce → ce.vm = .none → s.vm.findClass E = some ce.cls → vx_W p l e R s m args below meth c H1 locs1 (cells + mc) (slots + ms) Q (F0 m pc ls rest) q9)
    (kk : ∀ (u : S) (t : State) (H1 : Heap) (locs1 : List Loc), t.heap = H1 → s.vm.Alike t.vm → post u → B u t → H.size ≤ H1.size → (∀ q : Nat, q < H.size → ¬ A1 q → H1[q]? = H[q]?) → va_S A0 H0 H1 locs1 → W p l e R s m args below meth c H1 locs1 (cells + mc) (slots + ms) Q (F0 m (pc + 3) ls (rest))) : W p l e R s m args below meth c H locs cells slots Q (F0 m pc ls st0) := by
  intro T hT X
  rcases hr T hT X with ⟨v, st₀, t, T', L, h0, X', hL, e1, e2, ⟨⟨u, hv, hp, hb⟩, hF⟩, st⟩ | ⟨q, st₀, t, T', L, E, ce, h0, X', hL, e1, e2, ⟨u, hp, hb, hF⟩, hce, hcv, hcl, st⟩
  · cases hv
    obtain ⟨k1, k2, k3⟩ := vx_keep h0 e1 hS hA hf hL hF
    obtain ⟨t2, a1, b1⟩ := kk u t T'.heap (locs ++ L) e1.symm (by rw [← e2]; exact X'.warmed.alike) hp hb k1 k2 k3 T' rfl X'
    exact ⟨t2, st t2 a1, b1⟩
  · obtain ⟨k1, k2, k3⟩ := vx_keep h0 e1 hS hAX hf hL hF
    obtain ⟨t2, a1, b1⟩ := kx E ce q u t T'.heap (locs ++ L) e1.symm (by rw [← e2]; exact X'.warmed.alike) hp hb k1 k2 k3 (by rw [e1]; exact hce) hcv hcl T' rfl X'
    exact ⟨t2, st.trans a1, b1⟩
/-- caught by the row x of this method's table; the rows ahead don't take it -/
theorem vx_catch {own name : String} {E : String} {ce : Cell} {q : Addr} (hown : s.vm.findClass own = some m.cls) (pre : List ExceptionTableEntry) (x : ExceptionTableEntry) (suf : List ExceptionTableEntry) (hsplit : c.exceptionTable.toList = pre ++ x :: suf)
    (hpass : ∀ z ∈ pre, covers z pc = false ∨ (z.catchType ≠ 0 ∧ ∃ nm : String, (Cond.classLink own z.catchType nm).before args s = true ∧ va_Nc E nm s)) (hx : covers x pc = true) (h0 : x.catchType ≠ 0)
    (hlink : (Cond.classLink own x.catchType name).before args s = true) (hcast : (Cond.castable E name).before args s = true) (hcell : H[q]? = some ce) (hv : ce.vm = .none) (hcl : s.vm.findClass E = some ce.cls)
    (kk : W p l e R s m args below meth c H locs cells slots Q (F0 m x.handlerPc ls [.ref q])) : vx_W p l e R s m args below meth c H locs cells slots Q (F0 m pc ls rest) q := by
  intro T hT X
  have hpl : e.platform.magicAccessors = ({} : Platform).magicAccessors := by rw [X.admits.platform]
  obtain ⟨c3, c4, hc3, hc4, hasg⟩ := Cond.castable_spec hcast
  cases Option.some.inj (hc3.symm.trans hcl)
  obtain ⟨c5, hc5, hcl5⟩ := Cond.classLink_spec hown hlink e.platform hpl
  cases Option.some.inj (hc4.symm.trans hc5)
  obtain ⟨vm', X', st⟩ := X.thenCaughtThrough q (g := F0 m pc ls rest) rfl (Steps.refl _) (by rw [hT]; exact hcell) (by rw [hv]; rfl) (by obtain ⟨k9, h9, -⟩ := Vm.findClass_spec hcl; exact ⟨k9, h9⟩) pre x suf hsplit
    (fun z hz => by
      rcases hpass z hz with h | ⟨hz0, nm, hl1, hn1⟩
      · exact Or.inl h
      · obtain ⟨c6, hc6, hcl6⟩ := Cond.classLink_spec hown hl1 e.platform hpl
        obtain ⟨a8, b8, h1, h2, h3⟩ := hn1
        cases Option.some.inj (h1.symm.trans hcl)
        cases Option.some.inj (h2.symm.trans hc6)
        exact Or.inr ⟨hz0, _, hcl6, h3⟩) hx (Or.inr ⟨h0, c4, hcl5, hasg⟩)
  obtain ⟨t, a1, b1⟩ := kk (T.setVm vm') hT X'
  exact ⟨t, st.trans a1, b1⟩
end Rows
section Ends
variable {p : Program} {l : Launch} {e : Env} {R : Room} {s : State} {m : MethodId} {args : Array Value} {below : List Frame} {meth : Method} {c : Code} {H : Heap} {locs : List Loc} {cells slots : Nat} {Q : State → Prop}
variable {mc ms : Nat} {free : Addr → Prop} {A0 A1 : Nat → Prop} {H0 : Heap} {a : Array Value} {ls : Array Slot} {st0 rest : List Value}
variable {Qc : Array Value → State → Outcome → State → Prop} {XC : String → State → State → Prop}
/-- what a body that may throw owes at its end -/
def vx_MQ (below : List Frame) (Qc : Array Value → State → Outcome → State → Prop) (XC : String → State → State → Prop) (a : Array Value) (s : State) (mc ms : Nat) (free : Addr → Prop) : State → Prop := fun t =>
  ∃ o, t.status = .running ∧ Ended t below o ∧ vx_Q Qc XC mc ms free a s o t
theorem vx_ret {g : JFrame} {mc ms : Nat} (k : W p l e R s m args below meth c H locs cells slots (MQ below Qc args s mc ms free) g) : W p l e R s m args below meth c H locs cells slots (vx_MQ below Qc XC args s mc ms free) g := by
  intro T hT X
  obtain ⟨t, a1, o, b1, b2, b3, b4⟩ := k T hT X
  exact ⟨t, a1, o, b1, b2, Or.inl ⟨b3, b4⟩⟩
/-- not caught here: it goes on to the caller -/
theorem vx_widen {g : JFrame} {q : Addr} {k n : Nat} (h1 : cells ≤ k) (h2 : slots ≤ n) (kk : vx_W p l e R s m args below meth c H locs k n Q g q) : vx_W p l e R s m args below meth c H locs cells slots Q g q := fun T hT X => kk T hT (stand_widen X h1 h2)
theorem vx_out {pc : Nat} {E : String} {ce : Cell} {q : Addr} {mc ms : Nat} (hout : ∀ x ∈ c.exceptionTable.toList, covers x pc = false) (hlocks : meth.locks = false) (hcell : H[q]? = some ce) (hv : ce.vm = .none) (hcl : s.vm.findClass E = some ce.cls)
    (hx : ∀ t : State, t.heap = H → s.vm.Alike t.vm → XC E s t) (hf : ∀ z ∈ locs, free z.base) (hc : cells ≤ mc) (hs : slots ≤ ms) :
    vx_W p l e R s m args below meth c H locs cells slots (vx_MQ below Qc XC args s mc ms free) (F0 m pc ls rest) q := by
  intro T hT X
  obtain ⟨st1, hrun, hend, hW, hsm⟩ := X.leaveThrown q (g := F0 m pc ls rest) rfl rfl rfl hout hlocks
  have hcell9 : (T.setFrames (.throwing q :: below)).heap[q]? = some ce := by
    show T.heap[q]? = some ce
    rw [hT]; exact hcell
  exact ⟨_, st1, .threw q, hrun, hend, Or.inr ⟨q, rfl, E, ce, locs, hx _ hT hW.alike, hcell9, hv, hcl, hW, hsm.mono hc hs, hf⟩⟩
theorem vx_frame {U : State} {k n : Nat} (h : s.sameButNew ({ U with vm := s.vm } : State) locs k n) : s.heap.size ≤ U.heap.size ∧ ∀ q : Nat, q < s.heap.size → (∀ z ∈ locs, z.base ≠ q) → U.heap[q]? = s.heap[q]? := by
  obtain ⟨-, h2, -, -, -, h6⟩ := h
  refine ⟨h2, fun q hq hz => ?_⟩
  obtain ⟨c9, e1, e2, e3, e4⟩ := h6 q _ (Array.getElem?_eq_getElem hq)
  have hs : c9.slots = (s.heap[q]).slots := Array.ext_getElem? fun i => e4 i fun hm => hz _ hm rfl
  have h9 : c9 = s.heap[q] := by
    rw [hs] at e2
    exact e2
  have e5 : U.heap[q]? = some c9 := e1
  rw [e5, h9, Array.getElem?_eq_getElem hq]
/-- the words of a throw but the four that speak of the heap -/
def vx_no (w : Cond) : Bool := decide (w ≠ .isRef (.static Bundle.tN "UNASSIGNED_STACK" Bundle.steD)) && decide (w ≠ .isRef (.static Bundle.tN "SUPPRESSED_SENTINEL" Bundle.listD)) && decide (w ≠ .laysStatic Bundle.tN "UNASSIGNED_STACK" Bundle.steD) && decide (w ≠ .laysStatic Bundle.tN "SUPPRESSED_SENTINEL" Bundle.listD)
def vx_at0 (own : String) (ic : Nat) (X : String) (names : List String) : List Cond := (Bundle.ownAtoms0 own ic X names).filter vx_no
def vx_atS (own : String) (ic : Nat) (X : String) (names : List String) : List Cond := (Bundle.ownAtoms own ic X names).filter vx_no
/-- a word that the tables alone decide, or a good one -/
def vx_ot (w : Cond) : Bool := w.onTables || goodWord w
theorem vx_ot_at {args a' : Array Value} {s U : State} {w : Cond} (hW : s.WarmedH U.vm) (hvm : s.vm = U.vm) (hg : vx_ot w = true) (h : w.before args s = true) : w.before a' U = true := by
  simp only [vx_ot, Bool.or_eq_true] at hg
  rcases hg with hg | hg
  · exact va_tabs hg hvm h
  · exact word_at hW (good_of_word hg) h
/-- a list's words: the good ones out of the method's own list, the others by premises of their own -/
theorem vx_hat {args : Array Value} {s : State} {L B : List Cond} (h1 : ∀ w ∈ L.filter goodWord, w.before args s = true) (h2 : ∀ w ∈ L.filter (fun w => !goodWord w), w ∈ B) (h3 : ∀ w ∈ B, w.before args s = true) : ∀ w ∈ L, w.before args s = true := by
  intro w hw
  by_cases g : goodWord w = true
  · exact h1 w (List.mem_filter.mpr ⟨hw, g⟩)
  · refine h3 w (h2 w (List.mem_filter.mpr ⟨hw, ?_⟩))
    show (!goodWord w) = true
    cases hgw : goodWord w
    · rfl
    · exact absurd hgw g
theorem vx_c {args : Array Value} {s : State} {w : Cond} {B : List Cond} (h : w.before args s = true) (t : ∀ w ∈ B, w.before args s = true) : ∀ w' ∈ w :: B, w'.before args s = true := fun w' h' => (List.mem_cons.mp h').elim (fun e => by rw [e]; exact h) (t w')
theorem vx_n {args : Array Value} {s : State} : ∀ w ∈ ([] : List Cond), w.before args s = true := fun _ h => nomatch h
theorem vx_own {args : Array Value} {s : State} {L : List Cond} (h1 : ∀ w ∈ L.filter vx_no, w.before args s = true)
    (hU : (Cond.isRef (.static Bundle.tN "UNASSIGNED_STACK" Bundle.steD)).before args s = true) (hN : (Cond.isRef (.static Bundle.tN "SUPPRESSED_SENTINEL" Bundle.listD)).before args s = true)
    (lU : (Cond.laysStatic Bundle.tN "UNASSIGNED_STACK" Bundle.steD).before args s = true) (lN : (Cond.laysStatic Bundle.tN "SUPPRESSED_SENTINEL" Bundle.listD).before args s = true) : ∀ w ∈ L, w.before args s = true := by
  intro w hw
  by_cases e1 : w = .isRef (.static Bundle.tN "UNASSIGNED_STACK" Bundle.steD)
  · rw [e1]; exact hU
  · by_cases e2 : w = .isRef (.static Bundle.tN "SUPPRESSED_SENTINEL" Bundle.listD)
    · rw [e2]; exact hN
    · by_cases e3 : w = .laysStatic Bundle.tN "UNASSIGNED_STACK" Bundle.steD
      · rw [e3]; exact lU
      · by_cases e4 : w = .laysStatic Bundle.tN "SUPPRESSED_SENTINEL" Bundle.listD
        · rw [e4]; exact lN
        · exact h1 w (List.mem_filter.mpr ⟨hw, by unfold vx_no; rw [decide_eq_true e1, decide_eq_true e2, decide_eq_true e3, decide_eq_true e4]; rfl⟩)
/-- where a static field lies, its class's statics cell in H -/
def vx_L (C n d : String) (A : Nat → Prop) (U : State) (H : Heap) : Prop := ∃ (c : ClassId) (k : Class) (i : Nat) (f : Field) (a : Nat) (cell : Cell), U.vm.findClass C = some c ∧ U.fieldFound? C n d = some (c, k, i, f) ∧ f.isStatic = true ∧ k.statics = some a ∧ H[a]? = some cell ∧ cell.vm.isStatics = true ∧ cell.cls = c ∧ f.slot < cell.slots.size ∧ k.staticTypes[f.slot]? = some f.type ∧ ¬ A a
theorem vx_L.moved {C n d : String} {A : Nat → Prop} {u U : State} {H : Heap} (hvm : u.vm.Alike U.vm) (h : vx_L C n d A u H) : vx_L C n d A U H := by
  obtain ⟨c, k, i, f, a, cell, h1, h2, h3, h4, h5, h6, h7, h8, h9, h10⟩ := h
  obtain ⟨k', hi', he⟩ := State.fieldFound?_setVm hvm h2
  exact ⟨c, k', i, f, a, cell, by rw [hvm.findClass]; exact h1, hi', h3, by rw [he]; exact h4, h5, h6, h7, h8, by rw [he]; exact h9, h10⟩
theorem vx_L.kept {C n d : String} {A : Nat → Prop} {U : State} {H H1 : Heap} (h : vx_L C n d A U H) (hq : ∀ a : Nat, a < H.size → ¬ A a → H1[a]? = H[a]?) : vx_L C n d A U H1 := by
  obtain ⟨c, k, i, f, a, cell, h1, h2, h3, h4, h5, h6, h7, h8, h9, h10⟩ := h
  exact ⟨c, k, i, f, a, cell, h1, h2, h3, h4, by rw [hq a (Array.getElem?_eq_some_iff.mp h5).1 h10]; exact h5, h6, h7, h8, h9, h10⟩
theorem vx_L.narrow {C n d : String} {A B : Nat → Prop} {U : State} {H : Heap} (h : vx_L C n d A U H) (hAB : ∀ q, B q → A q) : vx_L C n d B U H := by
  obtain ⟨c, k, i, f, a, cell, h1, h2, h3, h4, h5, h6, h7, h8, h9, h10⟩ := h
  exact ⟨c, k, i, f, a, cell, h1, h2, h3, h4, h5, h6, h7, h8, h9, fun z => h10 (hAB _ z)⟩
theorem vx_L.word {C n d : String} {A : Nat → Prop} {s : State} {args : Array Value} (h : vx_L C n d A s s.heap) : (Cond.laysStatic C n d).before args s = true := by
  obtain ⟨c, k, i, f, a, cell, h1, h2, h3, h4, h5, h6, h7, h8, h9, -⟩ := h
  show (Cond.laysStatic C n d).holds args s none s [] = true
  exact Cond.laysStatic_of h1 h2 h3 h4 h5 h6 h7 h8 h9
/-- .. and what it holds: null or some reference -/
def vx_Zq (C n d : String) (A : Nat → Prop) (U : State) (H : Heap) : Prop := va_Zq C n d A U H ∧ vx_L C n d A U H
theorem vx_Zq.moved {C n d : String} {A : Nat → Prop} {u U : State} {H : Heap} (hvm : u.vm.Alike U.vm) (h : vx_Zq C n d A u H) : vx_Zq C n d A U H := ⟨va_Zq.moved hvm h.1, vx_L.moved hvm h.2⟩
theorem vx_Zq.kept {C n d : String} {A : Nat → Prop} {U : State} {H H1 : Heap} (h : vx_Zq C n d A U H) (hq : ∀ a : Nat, a < H.size → ¬ A a → H1[a]? = H[a]?) : vx_Zq C n d A U H1 := ⟨va_Zq.kept h.1 hq, vx_L.kept h.2 hq⟩
theorem vx_Zq.narrow {C n d : String} {A B : Nat → Prop} {U : State} {H : Heap} (h : vx_Zq C n d A U H) (hAB : ∀ q, B q → A q) : vx_Zq C n d B U H := ⟨va_Zq.narrow h.1 hAB, vx_L.narrow h.2 hAB⟩
theorem vx_Zqof {args : Array Value} {s : State} {C n d : String} {A : Nat → Prop} (hl : (Cond.laysStatic C n d).before args s = true) (hini : (Cond.initialized C).before args s = true) (h : (Cond.isRef (.static C n d)).before args s = true) (hA : ∀ a : Nat, a < s.heap.size → ¬ A a) : vx_Zq C n d A s s.heap := by
  refine ⟨va_Zqof hl hini h hA, ?_⟩
  obtain ⟨c, k, i, f, a, cell, h1, h2, h3, h4, h5, h6, h7, h8, h9⟩ := Cond.laysStatic_spec hl
  exact ⟨c, k, i, f, a, cell, h1, h2, h3, h4, h5, h6, h7, h8, h9, hA a (Array.getElem?_eq_some_iff.mp h5).1⟩
theorem vx_isRef {C n d : String} {v : Value} {A : Nat → Prop} {s : State} {args : Array Value} (h : va_Z C n d v A s s.heap) (hv : v.isRef = true) : (Cond.isRef (.static C n d)).before args s = true := by
  obtain ⟨cf, kf, fi, f, a, cell, h1, h2, h3, h4, h5, h6, h7, -⟩ := h
  have he : (Term.static C n d).eval args s none [] s = some v := by
    simp [Term.eval, State.fieldNamed?, h1, h2, h4, h5, h6, h7]
  simp only [Cond.before, Cond.holds, Cond.value, he]
  cases v <;> simp_all [Value.isRef]
theorem vx_isRefq {C n d : String} {A : Nat → Prop} {s : State} {args : Array Value} (h : va_Zq C n d A s s.heap) : (Cond.isRef (.static C n d)).before args s = true := by
  rcases h with h | ⟨t, h⟩
  · exact vx_isRef h rfl
  · exact vx_isRef h rfl
/-- the same frame, seen from here: as if the method were called anew in this heap -/
theorem vx_rebase {T : State} (X : Stand p l e R s m args below meth c T locs cells slots) {R' : Room} (hf : R'.frames ≤ R.frames) (hl : R'.locals ≤ R.locals) (hc : cells + R'.cells ≤ R.cells) (hs : slots + R'.slots ≤ R.slots) :
    Stand p l e R' ((T.setVm s.vm).setFrames (.invoking m args :: below)) m args below meth c T [] 0 0 := by
  have htop : (T.setVm s.vm).topJava?.isSome := X.here.top
  have hF : ((T.setVm s.vm).setFrames (.invoking m args :: below)).frames = .invoking m args :: below := State.frames_setFrames _ (State.cur_lt_of_top htop)
  obtain ⟨g₀, hg0⟩ := Option.isSome_iff_exists.mp htop
  obtain ⟨r, hr⟩ := State.topJava?_eq_some.mp hg0
  have hl9 : e.platform.stackLimits (T.setVm s.vm).me = e.platform.stackLimits s.me := X.limits
  have hb9 : (T.setVm s.vm).me.stackBytes = s.me.stackBytes := X.bytes
  refine ⟨X.admits, X.cas, X.clock, hF, ?_, X.hears, X.method, X.code, X.here, X.tail, X.warmed, ?_, ?_, ?_⟩
  · have h := X.room
    have hU : ((T.setVm s.vm).setFrames (.invoking m args :: below)).localsInUse = s.localsInUse := by
      rw [State.localsInUse_invoking hF (meth := meth) (c := c) X.method X.code, State.localsInUse_invoking X.frames X.method X.code]
    simp only [State.hasRoom, Bool.and_eq_true, decide_eq_true_eq] at h ⊢
    obtain ⟨⟨⟨⟨h1, h2, h3, h4, h5, h6⟩, h7⟩, h8⟩, h9⟩ := h
    rw [X.frames, List.length_cons] at h2 h3
    have q1 := X.heapSize
    have q2 := X.used
    simp only [hF, hU, List.length_cons, State.stackLimits_setFrames, State.stackBytes_setFrames, hl9, hb9]
    refine ⟨⟨⟨⟨by omega, by omega, by omega, by omega, by omega, h6⟩, ?_⟩, ?_⟩, X.book⟩
    · show T.heap.size + R'.cells ≤ e.platform.maxCells
      omega
    · show T.slotsUsed + R'.slots ≤ e.platform.maxSlots
      omega
  · rw [State.stackLimits_setFrames]; rfl
  · rw [State.stackBytes_setFrames]; rfl
  · refine ⟨?_, Nat.le_refl _, Nat.le_refl _, ?_, ?_, fun a c9 h9 => ⟨c9, h9, rfl, rfl, fun _ _ => rfl⟩⟩
    · obtain ⟨t, ht, -⟩ := State.frames_cons hr
      show T.setVm s.vm = { ((T.setVm s.vm).setFrames (.invoking m args :: below)).setFrames (T.setVm s.vm).frames with heap := T.heap, slotsUsed := T.slotsUsed }
      rw [State.setFrames_setFrames, State.setFrames_self ht]
      rfl
    · show T.slotsUsed = T.slotsUsed + ((T.heap.toList.drop T.heap.size).map (·.slots.size)).sum
      rw [List.drop_eq_nil_of_le (Nat.le_of_eq Array.length_toList)]
      rfl
    · show ((T.heap.toList.drop T.heap.size).map (·.slots.size)).sum ≤ 0
      rw [List.drop_eq_nil_of_le (Nat.le_of_eq Array.length_toList)]
      exact Nat.le_refl _
/-- 'throw new E()': new; dup; invokespecial; athrow -/
theorem vx_throw0 {cc : ByteArray} {pc : Nat} (hexec : p.tables.exec = Jvm.exec) (hb : c.code = cc) (hl : l.stackTraces = false) {own cls : String} {names : List String} {ik ic mc ms : Nat} {A : Nat → Prop}
    (hown : s.vm.findClass own = some m.cls) (hcls : Bundle.fit cls = true) (hnames : ∀ n ∈ names, Bundle.fit n = true)
    (hk : (Cond.classLink own ik cls).before args s = true) (hini : (Cond.initialized cls).before args s = true) (hat : ∀ w ∈ vx_at0 own ic cls names, w.before args s = true)
    (hgood : ∀ w ∈ Cond.classLink own ik cls :: Cond.initialized cls :: vx_at0 own ic cls names, vx_ot w = true)
    (hU : vx_Zq Bundle.tN "UNASSIGNED_STACK" Bundle.steD A s s.heap) (hN : vx_Zq Bundle.tN "SUPPRESSED_SENTINEL" Bundle.listD A s s.heap) (hS : va_S A s.heap H locs) (hsize : ls.size = c.maxLocals)
    (d0 : decode cc pc = .ok (.new ik, 3)) (d3 : decode cc (pc + 3) = .ok (.dup, 1)) (d4 : decode cc (pc + 4) = .ok (.invokespecial ic, 3)) (d7 : decode cc (pc + 7) = .ok (.athrow, 1))
    (hout : ∀ x ∈ c.exceptionTable.toList, covers x (pc + 7) = false)
    (hRframes : names.length + 3 < R.frames) (hRlocals : (rest.map fun v => v.category).sum + (13 * (names.length + 1) + 42) ≤ R.locals) (hRcells : cells + 1 ≤ R.cells) (hRslots : slots + 6 ≤ R.slots) (hlocks : meth.locks = false)
    (hx : ∀ t : State, s.vm.Alike t.vm → H.size ≤ t.heap.size → (∀ q : Nat, q < H.size → t.heap[q]? = H[q]?) → XC cls s t)
    (hf : ∀ z ∈ locs, free z.base) (hc : cells + 1 ≤ mc) (hs : slots + 6 ≤ ms) :
    W p l e R s m args below meth c H locs cells slots (vx_MQ below Qc XC args s mc ms free) (F0 m pc ls rest) := by
  intro T hT X
  have htr : e.platform.stackTraces = false := (show e.platform.stackTraces = l.stackTraces by rw [X.admits.platform]).trans hl
  have Y := vx_rebase X (R' := { frames := R.frames, locals := R.locals, cells := 1, slots := 6 }) (Nat.le_refl _) (Nat.le_refl _) hRcells hRslots
  obtain ⟨s', hA⟩ : ∃ z, z = (T.setVm s.vm).setFrames (.invoking m args :: below) := ⟨_, rfl⟩
  rw [← hA] at Y
  have hvm : s'.vm = s.vm := by rw [hA]; rfl
  have hhp : s'.heap = H := by rw [hA]; exact hT
  have hW0 : s.WarmedH s'.vm := by rw [hvm]; exact State.WarmedH.refl s
  have hat' : ∀ w ∈ vx_at0 own ic cls names, w.before args s' = true := fun w hw => vx_ot_at hW0 hvm.symm (hgood w (List.mem_cons_of_mem _ (List.mem_cons_of_mem _ hw))) (hat w hw)
  have hk' : (Cond.classLink own ik cls).before args s' = true := vx_ot_at hW0 hvm.symm (hgood _ List.mem_cons_self) hk
  have hini' : (Cond.initialized cls).before args s' = true := vx_ot_at hW0 hvm.symm (hgood _ (List.mem_cons_of_mem _ List.mem_cons_self)) hini
  have hU' : vx_Zq Bundle.tN "UNASSIGNED_STACK" Bundle.steD A s' s'.heap := by rw [hhp]; exact vx_Zq.moved hW0.alike (hU.kept hS.2.1)
  have hN' : vx_Zq Bundle.tN "SUPPRESSED_SENTINEL" Bundle.listD A s' s'.heap := by rw [hhp]; exact vx_Zq.moved hW0.alike (hN.kept hS.2.1)
  have h : ∀ w ∈ Bundle.ownAtoms0 own ic cls names, w.before args s' = true := vx_own hat' (vx_isRefq hU'.1) (vx_isRefq hN'.1) hU'.2.word hN'.2.word
  have hown' : s'.vm.findClass own = some m.cls := by rw [hvm]; exact hown
  have hins : (Cond.instantiable cls 6).before args s' = true := h _ (by simp [Bundle.ownAtoms0])
  obtain ⟨vm₁, cX, kX, hfX, hkX, -, -, X₁, st1⟩ := Y.newCold hexec (own := own) (C := cls) (index := ik) (n := 6) hown' hk' hins hini'
    (g := F0 m pc ls rest) rfl (by rw [hb]; exact d0) (Nat.le_refl _) (Nat.le_refl _)
  generalize hT1 : (T.setVm vm₁).pushCell { cls := cX, slots := kX.instanceTypes.map defaultValue, vm := .none } = T1 at X₁ st1
  have hcat : (Value.ref T.heap.size).category = 1 := rfl
  have hcellA : T1.heap[T.heap.size]? = some (freshCell cX kX) := by rw [← hT1]; exact State.heap_pushCell_size _ _
  have d3' : decode c.code (pc + 3) = .ok (.dup, 1) := by rw [hb]; exact d3
  obtain ⟨U, hsteps, hrun, hend, hW, hsame, ce, hce, hO⟩ := X₁.ctorThrow0 hexec htr (own := own) (cls := cls) (names := names) (ic := ic) hown' hcls hnames h (fun x hx => nomatch hx) hfX hkX hcellA (by rw [hhp, hT]; exact Nat.le_refl _)
    (g := { method := m, pc := pc + 4, locals := ls, stack := .ref T.heap.size :: .ref T.heap.size :: rest, locked := none }) rfl hsize rfl rfl (rest := rest) rfl
    (by rw [hb]; exact d4) (by rw [hb]; exact d7) hout hRframes (by simp only [List.map_cons, List.sum_cons, hcat]; omega) hlocks
  obtain ⟨f1, f2⟩ := vx_frame hsame
  rw [hhp] at f1 f2
  have hWs : s.WarmedH U.vm := State.WarmedH.trans hW0 hW
  have hcl : s.vm.findClass cls = some ce.cls := by
    have h9 := hO.cls
    rw [hvm] at h9
    exact h9
  have hall : s.sameButNew ({ U with vm := s.vm } : State) locs mc ms := by
    subst hA
    obtain ⟨e1, e2⟩ := hsame
    rw [State.setFrames_setFrames] at e1
    have h2 : (T.setVm s.vm).sameButNew ({ U with vm := s.vm } : State) [] (0 + 1) (0 + 6) := ⟨e1, e2⟩
    have h3 := X.same.trans h2
    rw [List.append_nil] at h3
    exact h3.mono hc hs
  refine ⟨U, ?_, .threw T.heap.size, hrun, hend, Or.inr ⟨T.heap.size, rfl, cls, ce, locs, hx U hWs.alike f1 (fun q hq => f2 q hq (fun z hz => nomatch hz)), hce, hO.vm, hcl, hWs, hall, hf⟩⟩
  refine st1 _ ?_
  show Steps p.tables e below (T1.setTop { method := m, pc := pc + 3, locals := ls, stack := .ref T.heap.size :: rest, locked := none }) _
  jvm_step X₁.here [X₁.here.top, hexec, d3', Value.category]
  exact hsteps
/-- 'throw new E("text")': new; dup; ldc; invokespecial; athrow -/
theorem vx_throwS {cc : ByteArray} {pc : Nat} (hexec : p.tables.exec = Jvm.exec) (hb : c.code = cc) (hl : l.stackTraces = false) {own cls text : String} {names : List String} {ik is ic mc ms sa : Nat} {A : Nat → Prop}
    (hown : s.vm.findClass own = some m.cls) (hcls : Bundle.fit cls = true) (hnames : ∀ n ∈ names, Bundle.fit n = true)
    (hk : (Cond.classLink own ik cls).before args s = true) (hini : (Cond.initialized cls).before args s = true) (hstr : vk_R own is text sa s) (hat : ∀ w ∈ vx_atS own ic cls names, w.before args s = true)
    (hgood : ∀ w ∈ Cond.classLink own ik cls :: Cond.initialized cls :: vx_atS own ic cls names, vx_ot w = true)
    (hU : vx_Zq Bundle.tN "UNASSIGNED_STACK" Bundle.steD A s s.heap) (hN : vx_Zq Bundle.tN "SUPPRESSED_SENTINEL" Bundle.listD A s s.heap) (hS : va_S A s.heap H locs) (hsize : ls.size = c.maxLocals)
    (d0 : decode cc pc = .ok (.new ik, 3)) (d3 : decode cc (pc + 3) = .ok (.dup, 1)) (d4 : decode cc (pc + 4) = .ok (.ldc is, 2)) (d6 : decode cc (pc + 6) = .ok (.invokespecial ic, 3)) (d9 : decode cc (pc + 9) = .ok (.athrow, 1))
    (hout : ∀ x ∈ c.exceptionTable.toList, covers x (pc + 9) = false)
    (hRframes : names.length + 3 < R.frames) (hRlocals : (rest.map fun v => v.category).sum + (13 * (names.length + 1) + 43) ≤ R.locals) (hRcells : cells + 1 ≤ R.cells) (hRslots : slots + 6 ≤ R.slots) (hlocks : meth.locks = false)
    (hx : ∀ t : State, s.vm.Alike t.vm → H.size ≤ t.heap.size → (∀ q : Nat, q < H.size → t.heap[q]? = H[q]?) → XC cls s t)
    (hf : ∀ z ∈ locs, free z.base) (hc : cells + 1 ≤ mc) (hs : slots + 6 ≤ ms) :
    W p l e R s m args below meth c H locs cells slots (vx_MQ below Qc XC args s mc ms free) (F0 m pc ls rest) := by
  intro T hT X
  have htr : e.platform.stackTraces = false := (show e.platform.stackTraces = l.stackTraces by rw [X.admits.platform]).trans hl
  have Y := vx_rebase X (R' := { frames := R.frames, locals := R.locals, cells := 1, slots := 6 }) (Nat.le_refl _) (Nat.le_refl _) hRcells hRslots
  obtain ⟨s', hA⟩ : ∃ z, z = (T.setVm s.vm).setFrames (.invoking m args :: below) := ⟨_, rfl⟩
  rw [← hA] at Y
  have hvm : s'.vm = s.vm := by rw [hA]; rfl
  have hhp : s'.heap = H := by rw [hA]; exact hT
  have hW0 : s.WarmedH s'.vm := by rw [hvm]; exact State.WarmedH.refl s
  have hat' : ∀ w ∈ vx_atS own ic cls names, w.before args s' = true := fun w hw => vx_ot_at hW0 hvm.symm (hgood w (List.mem_cons_of_mem _ (List.mem_cons_of_mem _ hw))) (hat w hw)
  have hk' : (Cond.classLink own ik cls).before args s' = true := vx_ot_at hW0 hvm.symm (hgood _ List.mem_cons_self) hk
  have hini' : (Cond.initialized cls).before args s' = true := vx_ot_at hW0 hvm.symm (hgood _ (List.mem_cons_of_mem _ List.mem_cons_self)) hini
  have hU' : vx_Zq Bundle.tN "UNASSIGNED_STACK" Bundle.steD A s' s'.heap := by rw [hhp]; exact vx_Zq.moved hW0.alike (hU.kept hS.2.1)
  have hN' : vx_Zq Bundle.tN "SUPPRESSED_SENTINEL" Bundle.listD A s' s'.heap := by rw [hhp]; exact vx_Zq.moved hW0.alike (hN.kept hS.2.1)
  have h : ∀ w ∈ Bundle.ownAtoms own ic cls names, w.before args s' = true := vx_own hat' (vx_isRefq hU'.1) (vx_isRefq hN'.1) hU'.2.word hN'.2.word
  have hown' : s'.vm.findClass own = some m.cls := by rw [hvm]; exact hown
  have hins : (Cond.instantiable cls 6).before args s' = true := h _ (by simp [Bundle.ownAtoms])
  obtain ⟨vm₁, cX, kX, hfX, hkX, -, -, X₁, st1⟩ := Y.newCold hexec (own := own) (C := cls) (index := ik) (n := 6) hown' hk' hins hini'
    (g := F0 m pc ls rest) rfl (by rw [hb]; exact d0) (Nat.le_refl _) (Nat.le_refl _)
  generalize hT1 : (T.setVm vm₁).pushCell { cls := cX, slots := kX.instanceTypes.map defaultValue, vm := .none } = T1 at X₁ st1
  have hcat : (Value.ref T.heap.size).category = 1 := rfl
  have hcellA : T1.heap[T.heap.size]? = some (freshCell cX kX) := by rw [← hT1]; exact State.heap_pushCell_size _ _
  have d3' : decode c.code (pc + 3) = .ok (.dup, 1) := by rw [hb]; exact d3
  have d4' : decode c.code (pc + 4) = .ok (.ldc is, 2) := by rw [hb]; exact d4
  have hstr' : vk_R own is text sa s' := vk_R.warm hW0 hstr
  obtain ⟨U, hsteps, hrun, hend, hW, hsame, ce, hce, hO⟩ := X₁.ctorThrowS hexec htr (own := own) (cls := cls) (names := names) (ic := ic) hown' hcls hnames h (fun x hx => nomatch hx) hfX hkX hcellA (by rw [hhp, hT]; exact Nat.le_refl _) (msg := .ref sa) rfl
    (g := { method := m, pc := pc + 6, locals := ls, stack := .ref sa :: .ref T.heap.size :: .ref T.heap.size :: rest, locked := none }) rfl hsize rfl rfl (rest := rest) rfl
    (by rw [hb]; exact d6) (by rw [hb]; exact d9) hout hRframes (by simp only [List.map_cons, List.sum_cons, hcat]; omega) hlocks
  obtain ⟨f1, f2⟩ := vx_frame hsame
  rw [hhp] at f1 f2
  have hWs : s.WarmedH U.vm := State.WarmedH.trans hW0 hW
  have hcl : s.vm.findClass cls = some ce.cls := by
    have h9 := hO.cls
    rw [hvm] at h9
    exact h9
  have hall : s.sameButNew ({ U with vm := s.vm } : State) locs mc ms := by
    subst hA
    obtain ⟨e1, e2⟩ := hsame
    rw [State.setFrames_setFrames] at e1
    have h2 : (T.setVm s.vm).sameButNew ({ U with vm := s.vm } : State) [] (0 + 1) (0 + 6) := ⟨e1, e2⟩
    have h3 := X.same.trans h2
    rw [List.append_nil] at h3
    exact h3.mono hc hs
  refine ⟨U, ?_, .threw T.heap.size, hrun, hend, Or.inr ⟨T.heap.size, rfl, cls, ce, locs, hx U hWs.alike f1 (fun q hq => f2 q hq (fun z hz => nomatch hz)), hce, hO.vm, hcl, hWs, hall, hf⟩⟩
  refine st1 _ ?_
  show Steps p.tables e below (T1.setTop { method := m, pc := pc + 3, locals := ls, stack := .ref T.heap.size :: rest, locked := none }) _
  jvm_step X₁.here [X₁.here.top, hexec, d3', Value.category]
  exact X₁.ldcString hexec (own := own) (text := text) (index := is) (a := sa) hown' hstr'.1 hstr'.2
    (g := { method := m, pc := pc + 4, locals := ls, stack := .ref T.heap.size :: .ref T.heap.size :: rest, locked := none }) rfl d4' _ hsteps
/-- 'throw new E("text")', the text by a wide index -/
theorem vx_throwSW {cc : ByteArray} {pc : Nat} (hexec : p.tables.exec = Jvm.exec) (hb : c.code = cc) (hl : l.stackTraces = false) {own cls text : String} {names : List String} {ik is ic mc ms sa : Nat} {A : Nat → Prop}
    (hown : s.vm.findClass own = some m.cls) (hcls : Bundle.fit cls = true) (hnames : ∀ n ∈ names, Bundle.fit n = true)
    (hk : (Cond.classLink own ik cls).before args s = true) (hini : (Cond.initialized cls).before args s = true) (hstr : vk_R own is text sa s) (hat : ∀ w ∈ vx_atS own ic cls names, w.before args s = true)
    (hgood : ∀ w ∈ Cond.classLink own ik cls :: Cond.initialized cls :: vx_atS own ic cls names, vx_ot w = true)
    (hU : vx_Zq Bundle.tN "UNASSIGNED_STACK" Bundle.steD A s s.heap) (hN : vx_Zq Bundle.tN "SUPPRESSED_SENTINEL" Bundle.listD A s s.heap) (hS : va_S A s.heap H locs) (hsize : ls.size = c.maxLocals)
    (d0 : decode cc pc = .ok (.new ik, 3)) (d3 : decode cc (pc + 3) = .ok (.dup, 1)) (d4 : decode cc (pc + 4) = .ok (.ldc_w is, 3)) (d7 : decode cc (pc + 7) = .ok (.invokespecial ic, 3)) (d10 : decode cc (pc + 10) = .ok (.athrow, 1))
    (hout : ∀ x ∈ c.exceptionTable.toList, covers x (pc + 10) = false)
    (hRframes : names.length + 3 < R.frames) (hRlocals : (rest.map fun v => v.category).sum + (13 * (names.length + 1) + 43) ≤ R.locals) (hRcells : cells + 1 ≤ R.cells) (hRslots : slots + 6 ≤ R.slots) (hlocks : meth.locks = false)
    (hx : ∀ t : State, s.vm.Alike t.vm → H.size ≤ t.heap.size → (∀ q : Nat, q < H.size → t.heap[q]? = H[q]?) → XC cls s t)
    (hf : ∀ z ∈ locs, free z.base) (hc : cells + 1 ≤ mc) (hs : slots + 6 ≤ ms) :
    W p l e R s m args below meth c H locs cells slots (vx_MQ below Qc XC args s mc ms free) (F0 m pc ls rest) := by
  intro T hT X
  have htr : e.platform.stackTraces = false := (show e.platform.stackTraces = l.stackTraces by rw [X.admits.platform]).trans hl
  have Y := vx_rebase X (R' := { frames := R.frames, locals := R.locals, cells := 1, slots := 6 }) (Nat.le_refl _) (Nat.le_refl _) hRcells hRslots
  obtain ⟨s', hA⟩ : ∃ z, z = (T.setVm s.vm).setFrames (.invoking m args :: below) := ⟨_, rfl⟩
  rw [← hA] at Y
  have hvm : s'.vm = s.vm := by rw [hA]; rfl
  have hhp : s'.heap = H := by rw [hA]; exact hT
  have hW0 : s.WarmedH s'.vm := by rw [hvm]; exact State.WarmedH.refl s
  have hat' : ∀ w ∈ vx_atS own ic cls names, w.before args s' = true := fun w hw => vx_ot_at hW0 hvm.symm (hgood w (List.mem_cons_of_mem _ (List.mem_cons_of_mem _ hw))) (hat w hw)
  have hk' : (Cond.classLink own ik cls).before args s' = true := vx_ot_at hW0 hvm.symm (hgood _ List.mem_cons_self) hk
  have hini' : (Cond.initialized cls).before args s' = true := vx_ot_at hW0 hvm.symm (hgood _ (List.mem_cons_of_mem _ List.mem_cons_self)) hini
  have hU' : vx_Zq Bundle.tN "UNASSIGNED_STACK" Bundle.steD A s' s'.heap := by rw [hhp]; exact vx_Zq.moved hW0.alike (hU.kept hS.2.1)
  have hN' : vx_Zq Bundle.tN "SUPPRESSED_SENTINEL" Bundle.listD A s' s'.heap := by rw [hhp]; exact vx_Zq.moved hW0.alike (hN.kept hS.2.1)
  have h : ∀ w ∈ Bundle.ownAtoms own ic cls names, w.before args s' = true := vx_own hat' (vx_isRefq hU'.1) (vx_isRefq hN'.1) hU'.2.word hN'.2.word
  have hown' : s'.vm.findClass own = some m.cls := by rw [hvm]; exact hown
  have hins : (Cond.instantiable cls 6).before args s' = true := h _ (by simp [Bundle.ownAtoms])
  obtain ⟨vm₁, cX, kX, hfX, hkX, -, -, X₁, st1⟩ := Y.newCold hexec (own := own) (C := cls) (index := ik) (n := 6) hown' hk' hins hini'
    (g := F0 m pc ls rest) rfl (by rw [hb]; exact d0) (Nat.le_refl _) (Nat.le_refl _)
  generalize hT1 : (T.setVm vm₁).pushCell { cls := cX, slots := kX.instanceTypes.map defaultValue, vm := .none } = T1 at X₁ st1
  have hcat : (Value.ref T.heap.size).category = 1 := rfl
  have hcellA : T1.heap[T.heap.size]? = some (freshCell cX kX) := by rw [← hT1]; exact State.heap_pushCell_size _ _
  have d3' : decode c.code (pc + 3) = .ok (.dup, 1) := by rw [hb]; exact d3
  have d4' : decode c.code (pc + 4) = .ok (.ldc_w is, 3) := by rw [hb]; exact d4
  have hstr' : vk_R own is text sa s' := vk_R.warm hW0 hstr
  obtain ⟨U, hsteps, hrun, hend, hW, hsame, ce, hce, hO⟩ := X₁.ctorThrowS hexec htr (own := own) (cls := cls) (names := names) (ic := ic) hown' hcls hnames h (fun x hx => nomatch hx) hfX hkX hcellA (by rw [hhp, hT]; exact Nat.le_refl _) (msg := .ref sa) rfl
    (g := { method := m, pc := pc + 7, locals := ls, stack := .ref sa :: .ref T.heap.size :: .ref T.heap.size :: rest, locked := none }) rfl hsize rfl rfl (rest := rest) rfl
    (by rw [hb]; exact d7) (by rw [hb]; exact d10) hout hRframes (by simp only [List.map_cons, List.sum_cons, hcat]; omega) hlocks
  obtain ⟨f1, f2⟩ := vx_frame hsame
  rw [hhp] at f1 f2
  have hWs : s.WarmedH U.vm := State.WarmedH.trans hW0 hW
  have hcl : s.vm.findClass cls = some ce.cls := by
    have h9 := hO.cls
    rw [hvm] at h9
    exact h9
  have hall : s.sameButNew ({ U with vm := s.vm } : State) locs mc ms := by
    subst hA
    obtain ⟨e1, e2⟩ := hsame
    rw [State.setFrames_setFrames] at e1
    have h2 : (T.setVm s.vm).sameButNew ({ U with vm := s.vm } : State) [] (0 + 1) (0 + 6) := ⟨e1, e2⟩
    have h3 := X.same.trans h2
    rw [List.append_nil] at h3
    exact h3.mono hc hs
  refine ⟨U, ?_, .threw T.heap.size, hrun, hend, Or.inr ⟨T.heap.size, rfl, cls, ce, locs, hx U hWs.alike f1 (fun q hq => f2 q hq (fun z hz => nomatch hz)), hce, hO.vm, hcl, hWs, hall, hf⟩⟩
  refine st1 _ ?_
  show Steps p.tables e below (T1.setTop { method := m, pc := pc + 3, locals := ls, stack := .ref T.heap.size :: rest, locked := none }) _
  jvm_step X₁.here [X₁.here.top, hexec, d3', Value.category]
  exact X₁.ldcStringW hexec (own := own) (text := text) (index := is) (a := sa) hown' hstr'.1 hstr'.2
    (g := { method := m, pc := pc + 4, locals := ls, stack := .ref T.heap.size :: .ref T.heap.size :: rest, locked := none }) rfl d4' _ hsteps
end Ends
section Bodies
variable {l : Launch}
theorem vx_ofW {y : MethodName} {ws ws' : List Cond} {rm : Room} {Pc : Array Value → State → Prop} {Qc : Array Value → State → Outcome → State → Prop} {XC : String → State → State → Prop} {mc ms : Nat} {free : Addr → Prop} {cc : ByteArray} {maxL : Nat} {ret : Option FieldType}
    (hy : plainName y.cls = true) (hw : ws = Cond.code y cc maxL ret :: ws')
    (body : ∀ p e s m args below meth c s₁, BodyLoose p l y (headSpec ws rm) cc maxL ret e s m args below meth c s₁ → c.maxLocals = maxL → (∀ x ∈ c.exceptionTable.toList, False) → Pc args s →
      W p l e (headSpec ws rm).room s m args below meth c s.heap [] 0 0 (vx_MQ below Qc XC args s mc ms free) (entryFrame m args maxL)) : vx_Met l y ws rm Pc Qc XC mc ms free := by
  refine MetFree.of_bodyS (code := cc) (maxLocals := maxL) (ret := ret) hy ?_ ?_
  · intro args s m h hn
    obtain ⟨meth, c, h1, h2, h3, h4, h5, h6, -, -⟩ := Cond.code_spec hn (atoms_spec (ws := ws) h _ (by rw [hw]; exact List.mem_cons_self))
    exact ⟨meth, c, h1, h2, h3, h4, h5, h6⟩
  · intro p e s m args below meth c s₁ B hml hP _
    have hh0 : s₁.heap = s.heap := by rw [B.state]; rfl
    have ht : ∀ x ∈ c.exceptionTable.toList, False := by
      obtain ⟨meth9, c9, h1, h2, -, -, -, -, h7, -⟩ := Cond.code_spec B.named (atoms_spec (ws := ws) B.pre _ (by rw [hw]; exact List.mem_cons_self))
      cases Option.some.inj (h1.symm.trans B.method)
      cases Option.some.inj (h2.symm.trans (Stand.of_body B).code)
      intro x hx
      rw [Array.isEmpty_iff.mp h7] at hx
      cases hx
    obtain ⟨t, a1, o, b1, b2, b3⟩ := body p e s m args below meth c s₁ B hml ht hP s₁ hh0 (Stand.of_body B)
    exact ⟨t, o, a1, b1, b2, b3⟩
/-- the table of a body with handlers -/
theorem vx_table {p : Program} {x y : MethodName} {S : Spec} {cc bytes : ByteArray} {maxL maxL' : Nat} {ret ret' : Option FieldType} {e : Env} {s s₁ : State} {m : MethodId} {args : Array Value} {below : List Frame} {meth : Method} {c : Code} {hh : List (Nat × Nat × Nat × Nat)}
    (B : BodyLoose p l y S cc maxL ret e s m args below meth c s₁) (h : (Cond.codeWith y bytes maxL' ret' hh).before args s = true) : c.exceptionTable.toList = tableOf hh := by
  obtain ⟨m9, meth9, c9, hn9, h1, h2, -, -, h6, -⟩ := Cond.codeWith_spec h
  cases Option.some.inj (hn9.symm.trans B.named)
  cases Option.some.inj (h1.symm.trans B.method)
  cases Option.some.inj (h2.symm.trans (Stand.of_body B).code)
  rw [← h6, table_eq]
end Bodies
end VXA
/-! ===== END ===== -/
/-! ===== BEGIN a static call of a method with an exception table ===== -/
section VXS
variable {p : Program} {l : Launch} {e : Env} {R : Room} {s : State} {m : MethodId} {args : Array Value} {below : List Frame} {meth : Method} {c : Code} {T : State} {H : Heap} {locs : List Loc} {cells slots : Nat}
abbrev vx_CSW (R : Room) (s : State) (args : Array Value) (own : String) (index : Nat) (y : MethodName) (bytes : ByteArray) (maxL : Nat) (ret : Option FieldType) (hh : List (Nat × Nat × Nat × Nat)) (ws : List Cond) (rm : Room) (mc ms n : Nat) : Prop :=
  (rm.cells = mc ∧ rm.slots = ms ∧ rm.frames + 1 ≤ R.frames ∧ 8 + (maxL + 11) + rm.locals ≤ R.locals ∧ (∀ w ∈ ws, ∀ (a' : Array Value) (U : State), s.WarmedH U.vm → w.before a' U = true) ∧ Cond.codeWith y bytes maxL ret hh ∈ ws) ∧
  (Cond.codeWith y bytes maxL ret hh).before args s = true ∧ (Cond.initialized y.cls).before args s = true ∧ (y.cls ≠ "java/lang/invoke/MethodHandle" ∧ y.cls ≠ "java/lang/invoke/VarHandle") ∧
  (∀ sig, parseMethodDescriptor y.desc = some sig → n = sig.parameters.length) ∧ (Cond.methodLink own index y).before args s = true ∧ (Cond.static y).before args s = true
theorem vx_cwSW {own : String} {index maxL mc ms : Nat} {y : MethodName} {bytes : ByteArray} {ret : Option FieldType} {hh : List (Nat × Nat × Nat × Nat)} {Ts ws ws' : List Cond} {rm : Room} (n : Nat) (ht : ∀ w ∈ Ts, w.before args s = true) (hT : GoodIn Ts (va_wsS own index y ws)) (hw : ws = Cond.codeWith y bytes maxL ret hh :: ws') (hrc : rm.cells = mc) (hrs : rm.slots = ms)
    (hd : y.cls ≠ "java/lang/invoke/MethodHandle" ∧ y.cls ≠ "java/lang/invoke/VarHandle" ∧ (parseMethodDescriptor y.desc).map (fun d => d.parameters.length) = some n) (hR : rm.frames + 1 ≤ R.frames ∧ 8 + (maxL + 11) + rm.locals ≤ R.locals) :
    vx_CSW R s args own index y bytes maxL ret hh ws rm mc ms n := by
  have ok : ∀ w ∈ va_wsS own index y ws, w.before args s = true := fun w h => ht w (hT w h).1
  have hG : GoodIn Ts ws := fun w h => hT w (by unfold va_wsS; exact List.mem_append_right _ h)
  have hc : Cond.codeWith y bytes maxL ret hh ∈ ws := by rw [hw]; exact List.mem_cons_self
  refine ⟨⟨hrc, hrs, hR.1, hR.2, pay_in ht hG, hc⟩, ht _ (hG _ hc).1, ok _ (by simp [va_wsS]), ⟨hd.1, hd.2.1⟩, fun sig h => ?_, ok _ (by simp [va_wsS]), ok _ (by simp [va_wsS])⟩
  have h2 := hd.2.2
  rw [h] at h2
  exact (Option.some.inj h2).symm
theorem vx_callSW (X : Stand p l e R s m args below meth c T locs cells slots) (hexec : p.tables.exec = Jvm.exec) {own : String} {index : Nat} {y : MethodName} {bytes : ByteArray} {maxL : Nat} {ret : Option FieldType} {hh : List (Nat × Nat × Nat × Nat)}
    (hown : s.vm.findClass own = some m.cls) (hlink : (Cond.methodLink own index y).before args s = true) (hstat : (Cond.static y).before args s = true) (hinit : (Cond.initialized y.cls).before args s = true)
    (hcode : (Cond.codeWith y bytes maxL ret hh).before args s = true) (hy : y.cls ≠ "java/lang/invoke/MethodHandle" ∧ y.cls ≠ "java/lang/invoke/VarHandle")
    {W9 : Nat} {Pre : Pt → Array Value → Prop} {Post : Pt → Array Value → Option Value → Pt → Prop} (hK : Back l R p e below s args y 3 W9 Pre Post)
    {g : JFrame} (hg : g.method = m) (hsize : g.locals.size = c.maxLocals) {argsL rest : List Value} (hlen : ∀ sig, parseMethodDescriptor y.desc = some sig → argsL.length = sig.parameters.length)
    (hstack : g.stack = argsL.reverse ++ rest) (hW : 2 * g.monitorRoom + (rest.map fun v => v.category).sum ≤ W9) (hdg : decode c.code g.pc = .ok (.invokestatic index, 3))
    (hpre : ∀ vm₁, s.WarmedH vm₁ → Pre ⟨T.setVm vm₁, locs, cells, slots⟩ argsL.toArray) :
    ∃ (v : Option Value) (vm₁ : Vm) (B : Pt), s.WarmedH vm₁ ∧ Stand p l e R s m args below meth c B.U B.locs B.cells B.slots ∧ Post ⟨T.setVm vm₁, locs, cells, slots⟩ argsL.toArray v B ∧
      ∀ target, Steps p.tables e below (B.U.setTop { g with pc := g.pc + 3, stack := v.toList ++ rest }) target → Steps p.tables e below (T.setTop g) target := by
  obtain ⟨mk, methM, cM, hnamed, hmethM, -, -, -, -, -, -, hsigM⟩ := Cond.codeWith_spec hcode
  have hstatic : methM.isStatic = true := Cond.static_spec hnamed hmethM hstat
  obtain ⟨kP, hkP, -⟩ := className_of_methodNamed hnamed
  have hinitP : kP.init = .initialized := Cond.initialized_spec (findClass_of_methodNamed hnamed) hkP hinit
  obtain ⟨vm₁, X₁, hstep₁⟩ := X.invokestatic hexec hown hlink hnamed hmethM hstatic hkP hinitP hy (g := g) hg (argsL := argsL) (rest := rest) (hlen _ hsigM) hstack hdg
  obtain ⟨v, B, X', hpost, hsteps⟩ := hK m meth c ⟨T.setVm vm₁, locs, cells, slots⟩ { g with stack := rest } (.invokestatic index) mk argsL.toArray X₁ hg hsize hdg hW (X₁.named hnamed) (hpre vm₁ X₁.warmed)
  exact ⟨v, vm₁, B, X₁.warmed, X', hpost, fun target h => hstep₁ _ fun acts => by rw [doInvoke_state]; exact hsteps.trans h⟩
theorem vx_runSW {y : MethodName} {bytes cc : ByteArray} {maxL nL mc ms n index : Nat} {ret : Option FieldType} {hh : List (Nat × Nat × Nat × Nat)} {ws : List Cond} {rm : Room} {Pc : Array Value → State → Prop} {Qc : Array Value → State → Outcome → State → Prop} {free : Addr → Prop} {Ts : List Cond} {own : String} {As rest : List Value} {g : JFrame}
    (S : CallFix p m c cc nL s args Ts own) (hM : Met l y ws rm Pc Qc mc ms free) (cw : vx_CSW R s args own index y bytes maxL ret hh ws rm mc ms n) (hp : PreS s H Pc As)
    (hg : g.method = m) (hn : As.length = n) (hsize : g.locals.size = nL) (hstack : g.stack = As.reverse ++ rest) (hW : 2 * g.monitorRoom + (rest.map fun v => v.category).sum ≤ 8) (hdg : decode cc g.pc = .ok (.invokestatic index, 3)) (hf : cells + mc ≤ R.cells ∧ slots + ms ≤ R.slots) :
    va_Run p l e R s m args below meth c H locs cells slots mc ms g rest (Qc As.toArray) (free) := by
  obtain ⟨⟨hrc, hrs, hfr, hlo, hws, hcw⟩, hcode, hini, hy, hlen, hl, hstt⟩ := cw
  have hK : Back l R p e below s args y 3 8 (PreOf R mc ms Pc) (PostOf Qc mc ms free) := va_backW (hh := hh) (bytes := bytes) (maxL := maxL) (ret := ret) hM hp.1 hrc hrs hfr hlo hws hcw (fun a' U hW => word_at hW (Or.inl (by first | rfl | simp [Cond.onTables, Cond.keeps, Cond.steady])) hini)
  obtain ⟨hx, hb, hml, ho, -⟩ := S
  intro T hT X
  obtain ⟨v, vm₁, ⟨U', l2, c2, s2⟩, hW₁, X', ⟨g', mk, t, L, e1, e2, hq, h1, hL, h2, h3⟩, st⟩ := vx_callSW X hx (hh := hh) (bytes := bytes) (maxL := maxL) (ret := ret) ho hl hstt hini hcode hy hK hg (hsize.trans hml.symm) (argsL := As) (rest := rest) (fun sig h => hn.trans (hlen sig h)) hstack hW (by rw [hb]; exact hdg)
    (fun vm₁ hW₁ => ⟨hf.1, hf.2, hp.2 (T.setVm vm₁) hT hW₁⟩)
  dsimp only [Pt.U, Pt.locs, Pt.cells, Pt.slots] at X' e1 e2 h1 h2 h3 st
  subst h1; subst h2; subst h3
  exact ⟨v, (T.setVm vm₁).calling g' mk As.toArray, t, U', L, hT, X', hL, e1, e2, hq, st⟩
/-- not caught here, past rows that name other classes: it goes on to the caller -/
theorem vx_outP {p : Program} {l : Launch} {e : Env} {R : Room} {s : State} {m : MethodId} {args : Array Value} {below : List Frame} {meth : Method} {c : Code} {H : Heap} {locs : List Loc} {cells slots : Nat} {free : Addr → Prop} {ls : Array Slot} {rest : List Value} {Qc : Array Value → State → Outcome → State → Prop} {XC : String → State → State → Prop}
    {pc : Nat} {own E : String} {ce : Cell} {q : Addr} {mc ms : Nat} (hown : s.vm.findClass own = some m.cls) (hlocks : meth.locks = false)
    (hpass : ∀ z ∈ c.exceptionTable.toList, covers z pc = false ∨ (z.catchType ≠ 0 ∧ ∃ nm : String, (Cond.classLink own z.catchType nm).before args s = true ∧ va_Nc E nm s)) (hcell : H[q]? = some ce) (hv : ce.vm = .none) (hcl : s.vm.findClass E = some ce.cls)
    (hx : ∀ t : State, t.heap = H → s.vm.Alike t.vm → XC E s t) (hf : ∀ z ∈ locs, free z.base) (hc : cells ≤ mc) (hs : slots ≤ ms) :
    vx_W p l e R s m args below meth c H locs cells slots (vx_MQ below Qc XC args s mc ms free) (F0 m pc ls rest) q := by
  intro T hT X
  have hpl : e.platform.magicAccessors = ({} : Platform).magicAccessors := by rw [X.admits.platform]
  obtain ⟨vm', hW', X', st⟩ := X.outThrough hlocks q (g := F0 m pc ls rest) rfl rfl rfl (cell := ce) (by rw [hT]; exact hcell) (by rw [hv]; rfl)
    (by obtain ⟨k9, h9, -⟩ := Vm.findClass_spec hcl; exact ⟨k9, h9⟩) (fun z hz => by
      rcases hpass z hz with h | ⟨hz0, nm, hl1, hn1⟩
      · exact Or.inl h
      · obtain ⟨c6, hc6, hcl6⟩ := Cond.classLink_spec hown hl1 e.platform hpl
        obtain ⟨a8, b8, h1, h2, h3⟩ := hn1
        cases Option.some.inj (h1.symm.trans hcl)
        cases Option.some.inj (h2.symm.trans hc6)
        exact Or.inr ⟨hz0, _, hcl6, h3⟩)
  obtain ⟨g₀, hfr⟩ := X'.frames_eq
  have hcell9 : ((T.setVm vm').setFrames (.throwing q :: below)).heap[q]? = some ce := by
    show T.heap[q]? = some ce
    rw [hT]; exact hcell
  have hend : Ended ((T.setVm vm').setFrames (.throwing q :: below)) below (.threw q) := State.frames_setFrames _ (State.cur_lt_of_frames hfr)
  refine ⟨(T.setVm vm').setFrames (.throwing q :: below), ?_, .threw q, X'.here.running, hend, Or.inr ⟨q, rfl, E, ce, locs, hx _ hT (X'.ends _).1.alike, hcell9, hv, hcl, (X'.ends _).1, (X'.ends _).2.mono hc hs, hf⟩⟩
  rw [X.pushThrowing_eq]
  exact st
/-- a thing of a world lies in the heap -/
theorem vx_lt {D : va_G} {cl : List vw_C} {ws : va_W} {H1 : Heap} (h : va_P D cl ws H1) {k : Nat} {q : Nat × va_E} (hk : ws[k]? = some q) : q.1 < H1.size := (h k q hk).lt
end VXS
/-! ===== END ===== -/
/-! ===== BEGIN methods with a table of their own: called by a name, returning or throwing ===== -/
section VXH
/-! vx_backW, vx_callVX, vx_callSX, vx_callVW, vx_runVW, vx_runVX, vx_runSX, vx_ofWH follow the same proofs as their sisters above (Free/Laws.lean, Shelf42/LK1.lean); vx_outP calls Shelf42/NT130.lean (outThrough). -/
section
variable {l : Launch} {R : Room} {p : Program} {e : Env} {below : List Frame} {s : State} {sargs : Array Value} {y : MethodName} {len W9 : Nat}
theorem vx_backW {ws : List Cond} {rm : Room} {Pc : Array Value → State → Prop} {Qc : Array Value → State → Outcome → State → Prop} {XC : String → State → State → Prop} {mc ms : Nat} {free : Addr → Prop} {bytes : ByteArray} {maxL : Nat} {ret : Option FieldType} {hh : List (Nat × Nat × Nat × Nat)}
    (hM : vx_Met l y ws rm Pc Qc XC mc ms free) (hblind : FrameBlind Pc) (hrc : rm.cells = mc) (hrs : rm.slots = ms)
    (hframes : rm.frames + 1 ≤ R.frames) (hlocals : W9 + (maxL + 11) + rm.locals ≤ R.locals)
    (hws : ∀ w ∈ ws, ∀ a' U, s.WarmedH U.vm → w.before a' U = true) (hcode : Cond.codeWith y bytes maxL ret hh ∈ ws) (hinit : ∀ a' U, s.WarmedH U.vm → (Cond.initialized y.cls).before a' U = true) :
    vx_Back l R p e below s sargs y len W9 (PreOf R mc ms Pc) (PostOf Qc mc ms free) (vx_Post XC mc ms free) := by
  intro m meth c A g ig mk a X hg hsize hdg hW hn hp
  have h1 : (headSpec ws rm).pre.before a A.U = true := atoms_intro fun w hw => hws w hw _ _ X.warmed
  have h2 : (Cond.codeWith y bytes maxL ret hh).before a A.U = true := hws _ hcode _ _ X.warmed
  have h3 : (Cond.initialized y.cls).before a A.U = true := hinit _ _ X.warmed
  have h4 : A.cells + (headSpec ws rm).room.cells ≤ R.cells := by rw [show (headSpec ws rm).room.cells = mc from hrc]; exact hp.1
  have h5 : A.slots + (headSpec ws rm).room.slots ≤ R.slots := by rw [show (headSpec ws rm).room.slots = ms from hrs]; exact hp.2.1
  have hPc : Pc a (A.U.calling g mk a) := hblind _ _ _ _ hp.2.2
  obtain ⟨U, Ls, c0, s0⟩ := A
  dsimp only [Pt.U, Pt.locs, Pt.cells, Pt.slots] at h1 h2 h3 h4 h5 X hn hPc ⊢
  obtain ⟨m9, methY, cY, hn9, hmY, hcY, -, hlY, -⟩ := Cond.codeWith_spec h2
  cases Option.some.inj (hn9.symm.trans hn)
  obtain ⟨kY, hkY, -⟩ := className_of_methodNamed hn
  have hinitY : kY.init = .initialized := Cond.initialized_spec (findClass_of_methodNamed hn) hkY h3
  have h : At U g.method c below := by rw [hg]; exact X.here
  have hlocals9 : W9 + (maxL + 11) + (headSpec ws rm).room.locals ≤ R.locals := hlocals
  have happ : (headSpec ws rm).appliesLoose y e.platform (U.calling g mk a) = true :=
    Spec.appliesLoose_calling (g := g) h hdg hn hkY hinitY
      (X.room_calling (g := g) (R' := (headSpec ws rm).room) hsize hmY hcY hframes (by rw [hlY]; omega) h4 h5) h1
  obtain ⟨mid, hmid⟩ := h.above
  have hfr : (U.setTop g).frames = (.java g :: mid) ++ below := by rw [State.frames_setTop' g h.top, hmid]; rfl
  obtain ⟨o, s₂, hsteps, -, hend, hq⟩ := Steps.callFree hM p X.admits X.cas X.clock (acts := []) hfr happ hPc trivial
  have hq' : vx_Q Qc XC mc ms free a (U.calling g mk a) o s₂ := hq
  rw [State.frames_setTop' g h.top] at hend
  obtain ⟨g₀, hg0⟩ := Option.isSome_iff_exists.mp h.top
  obtain ⟨r, hr⟩ := State.topJava?_eq_some.mp hg0
  have hr' : (({ U with heap := s₂.heap, slotsUsed := s₂.slotsUsed } : State).setVm s₂.vm).frames = .java g₀ :: r := hr
  rcases hq' with ⟨hqc, L, hfe, hL⟩ | ⟨q, rfl, E, ce, L, hx, hce, hcv, hcl, hW₂, hsm, hL⟩
  · obtain ⟨⟨v, rfl⟩, hW₂, e2, q2, q3, q4, q5, q6⟩ := id hfe
    have e3 : s₂ = ({ (U.calling g mk a).setFrames s₂.frames with heap := s₂.heap, slotsUsed := s₂.slotsUsed } : State).setVm s₂.vm := by
      have : s₂ = ({ s₂ with vm := (U.calling g mk a).vm } : State).setVm s₂.vm := rfl
      rw [e2] at this
      exact this
    obtain ⟨c₂, i₂, len₂, hc₂, hd₂, hf₂⟩ := hend
    have hW' : U.WarmedH s₂.vm := hW₂
    have hcc : c₂ = c := by
      have h1 : s₂.code? g.method = U.code? g.method := by
        rw [State.code?_eq, State.code?_eq, hW'.alike.method?]
      exact Option.some.inj (hc₂.symm.trans (h1.trans h.code))
    subst hcc
    have hlen : len₂ = len := by rw [hdg] at hd₂; cases hd₂; rfl
    subst hlen
    have hs₂ : s₂ = (({ U with heap := s₂.heap, slotsUsed := s₂.slotsUsed } : State).setVm s₂.vm).setTop { g with pc := g.pc + len₂, stack := v.toList ++ g.stack } := by
      refine e3.trans ?_
      rw [hf₂, State.calling_eq h.top, State.setFrames_setFrames, State.setTop_of_frames _ hr', hr]
      rfl
    have hsame : U.sameButNew ({ U with heap := s₂.heap, slotsUsed := s₂.slotsUsed } : State) L mc ms := by
      refine ⟨?_, q2, q3, q4, q5, q6⟩
      obtain ⟨t, ht, -⟩ := State.frames_cons hr
      show ({ U with heap := s₂.heap, slotsUsed := s₂.slotsUsed } : State) = { U.setFrames U.frames with heap := s₂.heap, slotsUsed := s₂.slotsUsed }
      rw [State.setFrames_self ht]
    subst hg
    refine Or.inl ⟨v, ⟨(({ U with heap := s₂.heap, slotsUsed := s₂.slotsUsed } : State).setVm s₂.vm), Ls ++ L, c0 + mc, s0 + ms⟩,
      ⟨X.admits, X.cas, X.clock, X.frames, X.room, X.hears, X.method, X.code, (X.here.setHeapUsed s₂.heap s₂.slotsUsed).setVm hW'.alike, X.tail, State.WarmedH.trans X.warmed hW', X.limits, X.bytes, X.same.trans (hsame.setVm s.vm)⟩,
      ⟨g, mk, s₂, L, rfl, rfl, hqc, rfl, hL, rfl, rfl⟩, ?_⟩
    show Steps p.tables e below _ ((({ U with heap := s₂.heap, slotsUsed := s₂.slotsUsed } : State).setVm s₂.vm).setTop { g with pc := g.pc + len₂, stack := v.toList ++ g.stack })
    rw [← hs₂]
    exact hsteps
  · obtain ⟨e2, q2, q3, q4, q5, q6⟩ := id hsm
    have e3 : s₂ = ({ (U.calling g mk a).setFrames s₂.frames with heap := s₂.heap, slotsUsed := s₂.slotsUsed } : State).setVm s₂.vm := by
      have : s₂ = ({ s₂ with vm := (U.calling g mk a).vm } : State).setVm s₂.vm := rfl
      rw [e2] at this
      exact this
    have hf₂ : s₂.frames = .throwing q :: .java g :: U.frames.tail := hend
    have hW' : U.WarmedH s₂.vm := hW₂
    have hs₂ : s₂ = ((({ U with heap := s₂.heap, slotsUsed := s₂.slotsUsed } : State).setVm s₂.vm).setTop g).pushFrame (.throwing q) := by
      refine e3.trans ?_
      rw [hf₂, State.calling_eq h.top, State.setFrames_setFrames, State.pushFrame, State.frames_setTop _ hr', State.setTop_of_frames _ hr', State.setFrames_setFrames, hr]
      rfl
    have hsame : U.sameButNew ({ U with heap := s₂.heap, slotsUsed := s₂.slotsUsed } : State) L mc ms := by
      refine ⟨?_, q2, q3, q4, q5, q6⟩
      obtain ⟨t, ht, -⟩ := State.frames_cons hr
      show ({ U with heap := s₂.heap, slotsUsed := s₂.slotsUsed } : State) = { U.setFrames U.frames with heap := s₂.heap, slotsUsed := s₂.slotsUsed }
      rw [State.setFrames_self ht]
    subst hg
    refine Or.inr ⟨q, ⟨(({ U with heap := s₂.heap, slotsUsed := s₂.slotsUsed } : State).setVm s₂.vm), Ls ++ L, c0 + mc, s0 + ms⟩,
      ⟨X.admits, X.cas, X.clock, X.frames, X.room, X.hears, X.method, X.code, (X.here.setHeapUsed s₂.heap s₂.slotsUsed).setVm hW'.alike, X.tail, State.WarmedH.trans X.warmed hW', X.limits, X.bytes, X.same.trans (hsame.setVm s.vm)⟩,
      ⟨g, mk, s₂, L, E, ce, rfl, rfl, hx, hce, hcv, hcl, rfl, hL, rfl, rfl⟩, ?_⟩
    show Steps p.tables e below _ (((({ U with heap := s₂.heap, slotsUsed := s₂.slotsUsed } : State).setVm s₂.vm).setTop g).pushFrame (.throwing q))
    rw [← hs₂]
    exact hsteps
end
variable {p : Program} {l : Launch} {e : Env} {R : Room} {s : State} {m : MethodId} {args : Array Value} {below : List Frame} {meth : Method} {c : Code} {T : State} {H : Heap} {locs : List Loc} {cells slots : Nat}
theorem vx_callVX (X : Stand p l e R s m args below meth c T locs cells slots) (hexec : p.tables.exec = Jvm.exec) {own C : String} {index : Nat} {y : MethodName} {bytes : ByteArray} {maxL : Nat} {ret : Option FieldType} {hh : List (Nat × Nat × Nat × Nat)}
    (hown : s.vm.findClass own = some m.cls) (hlink : (Cond.methodLink own index y).before args s = true) (hinst : (Cond.instanceMethod y).before args s = true) (hsel : (Cond.selects C y y).before args s = true)
    (hcode : (Cond.codeWith y bytes maxL ret hh).before args s = true) (hy : y.cls ≠ "java/lang/invoke/MethodHandle" ∧ y.cls ≠ "java/lang/invoke/VarHandle")
    {W9 : Nat} {Pre : Pt → Array Value → Prop} {Post : Pt → Array Value → Option Value → Pt → Prop} {PostX : Pt → Array Value → Addr → Pt → Prop} (hK : vx_Back l R p e below s args y 3 W9 Pre Post PostX)
    {b : Addr} {cellB : Cell} (hcell : T.heap[b]? = some cellB) (hobj : cellB.vm.isStatics = false) (hcls : s.vm.findClass C = some cellB.cls)
    {g : JFrame} (hg : g.method = m) (hsize : g.locals.size = c.maxLocals) {argsL rest : List Value} (hlen : ∀ sig, parseMethodDescriptor y.desc = some sig → argsL.length = sig.parameters.length)
    (hstack : g.stack = argsL.reverse ++ .ref b :: rest) (hW : 2 * g.monitorRoom + (rest.map fun v => v.category).sum ≤ W9) (hdg : decode c.code g.pc = .ok (.invokevirtual index, 3))
    (hpre : ∀ vm₁, s.WarmedH vm₁ → Pre ⟨T.setVm vm₁, locs, cells, slots⟩ (Value.ref b :: argsL).toArray) :
    (∃ (v : Option Value) (vm₁ : Vm) (B : Pt), s.WarmedH vm₁ ∧ Stand p l e R s m args below meth c B.U B.locs B.cells B.slots ∧ Post ⟨T.setVm vm₁, locs, cells, slots⟩ (Value.ref b :: argsL).toArray v B ∧
      ∀ target, Steps p.tables e below (B.U.setTop { g with pc := g.pc + 3, stack := v.toList ++ rest }) target → Steps p.tables e below (T.setTop g) target) ∨
    (∃ (q : Addr) (vm₁ : Vm) (B : Pt), s.WarmedH vm₁ ∧ Stand p l e R s m args below meth c B.U B.locs B.cells B.slots ∧ PostX ⟨T.setVm vm₁, locs, cells, slots⟩ (Value.ref b :: argsL).toArray q B ∧
      Steps p.tables e below (T.setTop g) ((B.U.setTop { g with stack := rest }).pushFrame (.throwing q))) := by
  obtain ⟨mk, methM, hnamed, hmethM, hstM, habM⟩ := Cond.instanceMethod_spec hinst
  obtain ⟨m8, methM', cM, hn8, hmethM', -, -, -, -, -, -, hsigM⟩ := Cond.codeWith_spec hcode
  cases Option.some.inj (hn8.symm.trans hnamed)
  cases hmethM.symm.trans hmethM'
  obtain ⟨c2, r2, m2, q1, q2, q3, q4, kP, hkP, hkPi⟩ := Cond.selects_spec hsel
  cases hcls.symm.trans q1
  cases (State.methodFound?_of_named hnamed hy).symm.trans q2
  cases hnamed.symm.trans q3
  have hselP : selectMethod e.platform s.vm cellB.cls mk = .method mk := by rw [Launch.admits_selectMethod X.admits]; exact q4
  obtain ⟨vm₁, X₁, hstep₁⟩ := X.invokevirtual hexec hown hlink hnamed hmethM hstM hkP hkPi hy (a := b) (cell := cellB) hcell
    (fun z h => by rw [h] at hobj; cases hobj) hselP hmethM habM hkP hkPi (g := g) hg (argsL := argsL) (rest := rest) (hlen _ hsigM) hstack hdg
  rcases hK m meth c ⟨T.setVm vm₁, locs, cells, slots⟩ { g with stack := rest } (.invokevirtual index) mk (Value.ref b :: argsL).toArray X₁ hg hsize hdg hW (X₁.named hnamed) (hpre vm₁ X₁.warmed) with ⟨v, B, X', hpost, hsteps⟩ | ⟨q, B, X', hpost, hsteps⟩
  · exact Or.inl ⟨v, vm₁, B, X₁.warmed, X', hpost, fun target h => hstep₁ _ fun acts => by rw [doInvoke_state]; exact hsteps.trans h⟩
  · exact Or.inr ⟨q, vm₁, B, X₁.warmed, X', hpost, hstep₁ _ fun acts => by rw [doInvoke_state]; exact hsteps⟩
theorem vx_callSX (X : Stand p l e R s m args below meth c T locs cells slots) (hexec : p.tables.exec = Jvm.exec) {own : String} {index : Nat} {y : MethodName} {bytes : ByteArray} {maxL : Nat} {ret : Option FieldType} {hh : List (Nat × Nat × Nat × Nat)}
    (hown : s.vm.findClass own = some m.cls) (hlink : (Cond.methodLink own index y).before args s = true) (hstat : (Cond.static y).before args s = true) (hinit : (Cond.initialized y.cls).before args s = true)
    (hcode : (Cond.codeWith y bytes maxL ret hh).before args s = true) (hy : y.cls ≠ "java/lang/invoke/MethodHandle" ∧ y.cls ≠ "java/lang/invoke/VarHandle")
    {W9 : Nat} {Pre : Pt → Array Value → Prop} {Post : Pt → Array Value → Option Value → Pt → Prop} {PostX : Pt → Array Value → Addr → Pt → Prop} (hK : vx_Back l R p e below s args y 3 W9 Pre Post PostX)
    {g : JFrame} (hg : g.method = m) (hsize : g.locals.size = c.maxLocals) {argsL rest : List Value} (hlen : ∀ sig, parseMethodDescriptor y.desc = some sig → argsL.length = sig.parameters.length)
    (hstack : g.stack = argsL.reverse ++ rest) (hW : 2 * g.monitorRoom + (rest.map fun v => v.category).sum ≤ W9) (hdg : decode c.code g.pc = .ok (.invokestatic index, 3))
    (hpre : ∀ vm₁, s.WarmedH vm₁ → Pre ⟨T.setVm vm₁, locs, cells, slots⟩ argsL.toArray) :
    (∃ (v : Option Value) (vm₁ : Vm) (B : Pt), s.WarmedH vm₁ ∧ Stand p l e R s m args below meth c B.U B.locs B.cells B.slots ∧ Post ⟨T.setVm vm₁, locs, cells, slots⟩ argsL.toArray v B ∧
      ∀ target, Steps p.tables e below (B.U.setTop { g with pc := g.pc + 3, stack := v.toList ++ rest }) target → Steps p.tables e below (T.setTop g) target) ∨
    (∃ (q : Addr) (vm₁ : Vm) (B : Pt), s.WarmedH vm₁ ∧ Stand p l e R s m args below meth c B.U B.locs B.cells B.slots ∧ PostX ⟨T.setVm vm₁, locs, cells, slots⟩ argsL.toArray q B ∧
      Steps p.tables e below (T.setTop g) ((B.U.setTop { g with stack := rest }).pushFrame (.throwing q))) := by
  obtain ⟨mk, methM, cM, hnamed, hmethM, -, -, -, -, -, -, hsigM⟩ := Cond.codeWith_spec hcode
  have hstatic : methM.isStatic = true := Cond.static_spec hnamed hmethM hstat
  obtain ⟨kP, hkP, -⟩ := className_of_methodNamed hnamed
  have hinitP : kP.init = .initialized := Cond.initialized_spec (findClass_of_methodNamed hnamed) hkP hinit
  obtain ⟨vm₁, X₁, hstep₁⟩ := X.invokestatic hexec hown hlink hnamed hmethM hstatic hkP hinitP hy (g := g) hg (argsL := argsL) (rest := rest) (hlen _ hsigM) hstack hdg
  rcases hK m meth c ⟨T.setVm vm₁, locs, cells, slots⟩ { g with stack := rest } (.invokestatic index) mk argsL.toArray X₁ hg hsize hdg hW (X₁.named hnamed) (hpre vm₁ X₁.warmed) with ⟨v, B, X', hpost, hsteps⟩ | ⟨q, B, X', hpost, hsteps⟩
  · exact Or.inl ⟨v, vm₁, B, X₁.warmed, X', hpost, fun target h => hstep₁ _ fun acts => by rw [doInvoke_state]; exact hsteps.trans h⟩
  · exact Or.inr ⟨q, vm₁, B, X₁.warmed, X', hpost, hstep₁ _ fun acts => by rw [doInvoke_state]; exact hsteps⟩
theorem vx_callVW (X : Stand p l e R s m args below meth c T locs cells slots) (hexec : p.tables.exec = Jvm.exec) {own C : String} {index : Nat} {y : MethodName} {bytes : ByteArray} {maxL : Nat} {ret : Option FieldType} {hh : List (Nat × Nat × Nat × Nat)}
    (hown : s.vm.findClass own = some m.cls) (hlink : (Cond.methodLink own index y).before args s = true) (hinst : (Cond.instanceMethod y).before args s = true) (hsel : (Cond.selects C y y).before args s = true)
    (hcode : (Cond.codeWith y bytes maxL ret hh).before args s = true) (hy : y.cls ≠ "java/lang/invoke/MethodHandle" ∧ y.cls ≠ "java/lang/invoke/VarHandle")
    {W9 : Nat} {Pre : Pt → Array Value → Prop} {Post : Pt → Array Value → Option Value → Pt → Prop} (hK : Back l R p e below s args y 3 W9 Pre Post)
    {b : Addr} {cellB : Cell} (hcell : T.heap[b]? = some cellB) (hobj : cellB.vm.isStatics = false) (hcls : s.vm.findClass C = some cellB.cls)
    {g : JFrame} (hg : g.method = m) (hsize : g.locals.size = c.maxLocals) {argsL rest : List Value} (hlen : ∀ sig, parseMethodDescriptor y.desc = some sig → argsL.length = sig.parameters.length)
    (hstack : g.stack = argsL.reverse ++ .ref b :: rest) (hW : 2 * g.monitorRoom + (rest.map fun v => v.category).sum ≤ W9) (hdg : decode c.code g.pc = .ok (.invokevirtual index, 3))
    (hpre : ∀ vm₁, s.WarmedH vm₁ → Pre ⟨T.setVm vm₁, locs, cells, slots⟩ (Value.ref b :: argsL).toArray) :
    ∃ (v : Option Value) (vm₁ : Vm) (B : Pt), s.WarmedH vm₁ ∧ Stand p l e R s m args below meth c B.U B.locs B.cells B.slots ∧ Post ⟨T.setVm vm₁, locs, cells, slots⟩ (Value.ref b :: argsL).toArray v B ∧
      ∀ target, Steps p.tables e below (B.U.setTop { g with pc := g.pc + 3, stack := v.toList ++ rest }) target → Steps p.tables e below (T.setTop g) target := by
  obtain ⟨mk, methM, hnamed, hmethM, hstM, habM⟩ := Cond.instanceMethod_spec hinst
  obtain ⟨m8, methM', cM, hn8, hmethM', -, -, -, -, -, -, hsigM⟩ := Cond.codeWith_spec hcode
  cases Option.some.inj (hn8.symm.trans hnamed)
  cases hmethM.symm.trans hmethM'
  obtain ⟨c2, r2, m2, q1, q2, q3, q4, kP, hkP, hkPi⟩ := Cond.selects_spec hsel
  cases hcls.symm.trans q1
  cases (State.methodFound?_of_named hnamed hy).symm.trans q2
  cases hnamed.symm.trans q3
  have hselP : selectMethod e.platform s.vm cellB.cls mk = .method mk := by rw [Launch.admits_selectMethod X.admits]; exact q4
  obtain ⟨vm₁, X₁, hstep₁⟩ := X.invokevirtual hexec hown hlink hnamed hmethM hstM hkP hkPi hy (a := b) (cell := cellB) hcell
    (fun z h => by rw [h] at hobj; cases hobj) hselP hmethM habM hkP hkPi (g := g) hg (argsL := argsL) (rest := rest) (hlen _ hsigM) hstack hdg
  obtain ⟨v, B, X', hpost, hsteps⟩ := hK m meth c ⟨T.setVm vm₁, locs, cells, slots⟩ { g with stack := rest } (.invokevirtual index) mk (Value.ref b :: argsL).toArray X₁ hg hsize hdg hW (X₁.named hnamed) (hpre vm₁ X₁.warmed)
  exact ⟨v, vm₁, B, X₁.warmed, X', hpost, fun target h => hstep₁ _ fun acts => by rw [doInvoke_state]; exact hsteps.trans h⟩
abbrev vx_CVW (R : Room) (s : State) (args : Array Value) (own C : String) (index : Nat) (y : MethodName) (bytes : ByteArray) (maxL : Nat) (ret : Option FieldType) (hh : List (Nat × Nat × Nat × Nat)) (ws : List Cond) (rm : Room) (mc ms n : Nat) : Prop :=
  (rm.cells = mc ∧ rm.slots = ms ∧ rm.frames + 1 ≤ R.frames ∧ 8 + (maxL + 11) + rm.locals ≤ R.locals ∧ (∀ w ∈ ws, ∀ (a' : Array Value) (U : State), s.WarmedH U.vm → w.before a' U = true) ∧ Cond.codeWith y bytes maxL ret hh ∈ ws) ∧
  (Cond.codeWith y bytes maxL ret hh).before args s = true ∧ (Cond.initialized y.cls).before args s = true ∧ (y.cls ≠ "java/lang/invoke/MethodHandle" ∧ y.cls ≠ "java/lang/invoke/VarHandle") ∧
  (∀ sig, parseMethodDescriptor y.desc = some sig → n = sig.parameters.length) ∧ (Cond.methodLink own index y).before args s = true ∧ (Cond.instanceMethod y).before args s = true ∧ (Cond.selects C y y).before args s = true
theorem vx_cwVW {own C : String} {index maxL mc ms : Nat} {y : MethodName} {bytes : ByteArray} {ret : Option FieldType} {hh : List (Nat × Nat × Nat × Nat)} {Ts ws ws' : List Cond} {rm : Room} (n : Nat) (ht : ∀ w ∈ Ts, w.before args s = true) (hT : GoodIn Ts (wsV own index C y ws)) (hw : ws = Cond.codeWith y bytes maxL ret hh :: ws') (hrc : rm.cells = mc) (hrs : rm.slots = ms)
    (hd : y.cls = C ∧ y.cls ≠ "java/lang/invoke/MethodHandle" ∧ y.cls ≠ "java/lang/invoke/VarHandle" ∧ (parseMethodDescriptor y.desc).map (fun d => d.parameters.length) = some n) (hR : rm.frames + 1 ≤ R.frames ∧ 8 + (maxL + 11) + rm.locals ≤ R.locals) :
    vx_CVW R s args own C index y bytes maxL ret hh ws rm mc ms n := by
  obtain ⟨hC, hd⟩ := hd
  subst hC
  have ok : ∀ w ∈ wsV own index y.cls y ws, w.before args s = true := fun w h => ht w (hT w h).1
  have hG : GoodIn Ts ws := fun w h => hT w (by unfold wsV; exact List.mem_append_right _ h)
  have hc : Cond.codeWith y bytes maxL ret hh ∈ ws := by rw [hw]; exact List.mem_cons_self
  refine ⟨⟨hrc, hrs, hR.1, hR.2, pay_in ht hG, hc⟩, ht _ (hG _ hc).1, ok _ (by simp [wsV]), ⟨hd.1, hd.2.1⟩, fun sig h => ?_, ok _ (by simp [wsV]), ok _ (by simp [wsV]), ok _ (by simp [wsV])⟩
  have h2 := hd.2.2
  rw [h] at h2
  exact (Option.some.inj h2).symm
theorem vx_runVW {y : MethodName} {bytes cc : ByteArray} {maxL nL mc ms n index : Nat} {ret : Option FieldType} {hh : List (Nat × Nat × Nat × Nat)} {ws : List Cond} {rm : Room} {Pc : Array Value → State → Prop} {Qc : Array Value → State → Outcome → State → Prop} {free : Addr → Prop} {Ts : List Cond} {own C : String} {b : Addr} {As rest : List Value} {g : JFrame}
    (S : CallFix p m c cc nL s args Ts own) (hM : Met l y ws rm Pc Qc mc ms free) (cw : vx_CVW R s args own C index y bytes maxL ret hh ws rm mc ms n) (hp : PreV s H C b Pc As)
    (hg : g.method = m) (hn : As.length = n) (hsize : g.locals.size = nL) (hstack : g.stack = As.reverse ++ .ref b :: rest) (hW : 2 * g.monitorRoom + (rest.map fun v => v.category).sum ≤ 8) (hdg : decode cc g.pc = .ok (.invokevirtual index, 3)) (hf : cells + mc ≤ R.cells ∧ slots + ms ≤ R.slots) :
    va_Run p l e R s m args below meth c H locs cells slots mc ms g rest (Qc (Value.ref b :: As).toArray) free := by
  obtain ⟨⟨hrc, hrs, hfr, hlo, hws, hcw⟩, hcode, hini, hy, hlen, hl, hin, hse⟩ := cw
  have hK : Back l R p e below s args y 3 8 (PreOf R mc ms Pc) (PostOf Qc mc ms free) := va_backW (hh := hh) (bytes := bytes) (maxL := maxL) (ret := ret) hM hp.1 hrc hrs hfr hlo hws hcw (fun a' U hW => word_at hW (Or.inl (by first | rfl | simp [Cond.onTables, Cond.keeps, Cond.steady])) hini)
  obtain ⟨hx, hb, hml, ho, -⟩ := S
  obtain ⟨-, ⟨cellB, hcB, hoB, hclB⟩, hPc⟩ := hp
  intro T hT X
  obtain ⟨v, vm₁, ⟨U', l2, c2, s2⟩, hW₁, X', ⟨g', mk, t, L, e1, e2, hq, h1, hL, h2, h3⟩, st⟩ := vx_callVW X hx (C := C) (hh := hh) (bytes := bytes) (maxL := maxL) (ret := ret) ho hl hin hse hcode hy hK (by rw [hT]; exact hcB) hoB hclB hg (hsize.trans hml.symm) (argsL := As) (rest := rest) (fun sig h => hn.trans (hlen sig h)) hstack hW (by rw [hb]; exact hdg)
    (fun vm₁ hW₁ => ⟨hf.1, hf.2, hPc (T.setVm vm₁) hT hW₁⟩)
  dsimp only [Pt.U, Pt.locs, Pt.cells, Pt.slots] at X' e1 e2 h1 h2 h3 st
  subst h1; subst h2; subst h3
  exact ⟨v, (T.setVm vm₁).calling g' mk (Value.ref b :: As).toArray, t, U', L, hT, X', hL, e1, e2, hq, st⟩
section
variable {y : MethodName} {bytes cc : ByteArray} {maxL nL mc ms n index : Nat} {ret : Option FieldType} {ws : List Cond} {rm : Room} {Pc : Array Value → State → Prop} {Qc : Array Value → State → Outcome → State → Prop} {XC : String → State → State → Prop} {free : Addr → Prop} {Ts : List Cond} {own C : String} {b : Addr} {As rest : List Value} {g : JFrame}
theorem vx_runVX {hh : List (Nat × Nat × Nat × Nat)} (S : CallFix p m c cc nL s args Ts own) (hM : vx_Met l y ws rm Pc Qc XC mc ms free) (cw : vx_CVW R s args own C index y bytes maxL ret hh ws rm mc ms n) (hp : PreV s H C b Pc As)
    (hg : g.method = m) (hn : As.length = n) (hsize : g.locals.size = nL) (hstack : g.stack = As.reverse ++ .ref b :: rest) (hW : 2 * g.monitorRoom + (rest.map fun v => v.category).sum ≤ 8) (hdg : decode cc g.pc = .ok (.invokevirtual index, 3)) (hf : cells + mc ≤ R.cells ∧ slots + ms ≤ R.slots) :
    vx_Run p l e R s m args below meth c H locs cells slots mc ms g rest (Qc (Value.ref b :: As).toArray) XC free := by
  obtain ⟨⟨hrc, hrs, hfr, hlo, hws, hcw⟩, hcode, hini, hy, hlen, hl, hin, hse⟩ := cw
  have hK : vx_Back l R p e below s args y 3 8 (PreOf R mc ms Pc) (PostOf Qc mc ms free) (vx_Post XC mc ms free) := vx_backW (hh := hh) (bytes := bytes) (maxL := maxL) (ret := ret) hM hp.1 hrc hrs hfr hlo hws hcw (fun a' U hW => word_at hW (Or.inl (by first | rfl | simp [Cond.onTables, Cond.keeps, Cond.steady])) hini)
  obtain ⟨hx, hb, hml, ho, -⟩ := S
  obtain ⟨-, ⟨cellB, hcB, hoB, hclB⟩, hPc⟩ := hp
  intro T hT X
  rcases vx_callVX X hx (C := C) (hh := hh) (bytes := bytes) (maxL := maxL) (ret := ret) ho hl hin hse hcode hy hK (by rw [hT]; exact hcB) hoB hclB hg (hsize.trans hml.symm) (argsL := As) (rest := rest) (fun sig h => hn.trans (hlen sig h)) hstack hW (by rw [hb]; exact hdg)
    (fun vm₁ hW₁ => ⟨hf.1, hf.2, hPc (T.setVm vm₁) hT hW₁⟩) with ⟨v, vm₁, ⟨U', l2, c2, s2⟩, hW₁, X', ⟨g', mk, t, L, e1, e2, hq, h1, hL, h2, h3⟩, st⟩ | ⟨q, vm₁, ⟨U', l2, c2, s2⟩, hW₁, X', ⟨g', mk, t, L, E, ce, e1, e2, hq, hce, hcv, hcl, h1, hL, h2, h3⟩, st⟩
  · dsimp only [Pt.U, Pt.locs, Pt.cells, Pt.slots] at X' e1 e2 h1 h2 h3 st
    subst h1; subst h2; subst h3
    exact Or.inl ⟨v, (T.setVm vm₁).calling g' mk (Value.ref b :: As).toArray, t, U', L, hT, X', hL, e1, e2, hq, st⟩
  · dsimp only [Pt.U, Pt.locs, Pt.cells, Pt.slots] at X' e1 e2 h1 h2 h3 st hcl
    subst h1; subst h2; subst h3
    exact Or.inr ⟨q, (T.setVm vm₁).calling g' mk (Value.ref b :: As).toArray, t, U', L, E, ce, hT, X', hL, e1, e2, hq, hce, hcv, vx_cls hW₁ hcl, st⟩
theorem vx_runSX {hh : List (Nat × Nat × Nat × Nat)} (S : CallFix p m c cc nL s args Ts own) (hM : vx_Met l y ws rm Pc Qc XC mc ms free) (cw : vx_CSW R s args own index y bytes maxL ret hh ws rm mc ms n) (hp : PreS s H Pc As)
    (hg : g.method = m) (hn : As.length = n) (hsize : g.locals.size = nL) (hstack : g.stack = As.reverse ++ rest) (hW : 2 * g.monitorRoom + (rest.map fun v => v.category).sum ≤ 8) (hdg : decode cc g.pc = .ok (.invokestatic index, 3)) (hf : cells + mc ≤ R.cells ∧ slots + ms ≤ R.slots) :
    vx_Run p l e R s m args below meth c H locs cells slots mc ms g rest (Qc As.toArray) XC free := by
  obtain ⟨⟨hrc, hrs, hfr, hlo, hws, hcw⟩, hcode, hini, hy, hlen, hl, hstt⟩ := cw
  have hK : vx_Back l R p e below s args y 3 8 (PreOf R mc ms Pc) (PostOf Qc mc ms free) (vx_Post XC mc ms free) := vx_backW (hh := hh) (bytes := bytes) (maxL := maxL) (ret := ret) hM hp.1 hrc hrs hfr hlo hws hcw (fun a' U hW => word_at hW (Or.inl (by first | rfl | simp [Cond.onTables, Cond.keeps, Cond.steady])) hini)
  obtain ⟨hx, hb, hml, ho, -⟩ := S
  intro T hT X
  rcases vx_callSX X hx (hh := hh) (bytes := bytes) (maxL := maxL) (ret := ret) ho hl hstt hini hcode hy hK hg (hsize.trans hml.symm) (argsL := As) (rest := rest) (fun sig h => hn.trans (hlen sig h)) hstack hW (by rw [hb]; exact hdg)
    (fun vm₁ hW₁ => ⟨hf.1, hf.2, hp.2 (T.setVm vm₁) hT hW₁⟩) with ⟨v, vm₁, ⟨U', l2, c2, s2⟩, hW₁, X', ⟨g', mk, t, L, e1, e2, hq, h1, hL, h2, h3⟩, st⟩ | ⟨q, vm₁, ⟨U', l2, c2, s2⟩, hW₁, X', ⟨g', mk, t, L, E, ce, e1, e2, hq, hce, hcv, hcl, h1, hL, h2, h3⟩, st⟩
  · dsimp only [Pt.U, Pt.locs, Pt.cells, Pt.slots] at X' e1 e2 h1 h2 h3 st
    subst h1; subst h2; subst h3
    exact Or.inl ⟨v, (T.setVm vm₁).calling g' mk As.toArray, t, U', L, hT, X', hL, e1, e2, hq, st⟩
  · dsimp only [Pt.U, Pt.locs, Pt.cells, Pt.slots] at X' e1 e2 h1 h2 h3 st hcl
    subst h1; subst h2; subst h3
    exact Or.inr ⟨q, (T.setVm vm₁).calling g' mk As.toArray, t, U', L, E, ce, hT, X', hL, e1, e2, hq, hce, hcv, vx_cls hW₁ hcl, st⟩
end
end VXH
theorem vx_ofWH {l : Launch} {y : MethodName} {ws ws' : List Cond} {rm : Room} {Pc : Array Value → State → Prop} {Qc : Array Value → State → Outcome → State → Prop} {XC : String → State → State → Prop} {mc ms : Nat} {free : Addr → Prop} {cc : ByteArray} {maxL : Nat} {ret : Option FieldType} {hh : List (Nat × Nat × Nat × Nat)}
    (hy : plainName y.cls = true) (hw : ws = Cond.codeWith y cc maxL ret hh :: ws')
    (body : ∀ p e s m args below meth c s₁, BodyLoose p l y (headSpec ws rm) cc maxL ret e s m args below meth c s₁ → c.maxLocals = maxL → Pc args s →
      W p l e (headSpec ws rm).room s m args below meth c s.heap [] 0 0 (vx_MQ below Qc XC args s mc ms free) (entryFrame m args maxL)) : vx_Met l y ws rm Pc Qc XC mc ms free := by
  refine MetFree.of_bodyS (code := cc) (maxLocals := maxL) (ret := ret) hy ?_ ?_
  · intro args s m h hn
    obtain ⟨m9, meth, c, hn9, h1, h2, h3, h4, -, h5, h6, -⟩ := Cond.codeWith_spec (atoms_spec (ws := ws) h _ (by rw [hw]; exact List.mem_cons_self))
    cases hn.symm.trans hn9
    exact ⟨meth, c, h1, h2, h3, h4, h5, h6⟩
  · intro p e s m args below meth c s₁ B hml hP _
    have hh0 : s₁.heap = s.heap := by rw [B.state]; rfl
    obtain ⟨t, a1, o, b1, b2, b3⟩ := body p e s m args below meth c s₁ B hml hP s₁ hh0 (Stand.of_body B)
    exact ⟨t, o, a1, b1, b2, b3⟩
/-! ===== END ===== -/
end
section
/-! names, printed by the kit -/
def RX0 : String := "WoodPiles$Memory"
def TX0 : u_T := fun k => match k with
  | 0 => ("WoodPiles$Memory", "states", "[LWoodPiles$Yard;", true)
  | 1 => ("WoodPiles$Memory", "oldest", "I", false)
  | _ => ("WoodPiles$Memory", "count", "I", false)
def tyX0 : Nat → FieldType := fun k => match k with
  | 0 => .array (.object "WoodPiles$Yard")
  | 1 => .int
  | _ => .int
abbrev wsX00 : List Cond := u_ws RX0 TX0 3
theorem nmX0 : ∀ a, a < 3 → ∀ b, b < 3 → a ≠ b → (TX0 a).2.1 ≠ (TX0 b).2.1 := by decide +kernel
theorem tyX0_ok : ∀ k, k < 3 → parseFieldDescriptor (TX0 k).2.2.1 = some (tyX0 k) := by decide +kernel
abbrev cX0_init : ByteArray := prog_2_method_1_code
def yX0_init : MethodName := ⟨RX0, "<init>", "()V"⟩
abbrev cX0_isEmpty : ByteArray := prog_2_method_2_code
def yX0_isEmpty : MethodName := ⟨RX0, "isEmpty", "()Z"⟩
abbrev cX0_forget : ByteArray := prog_2_method_3_code
def yX0_forget : MethodName := ⟨RX0, "forget", "()V"⟩
abbrev cX0_keep : ByteArray := prog_2_method_4_code
def yX0_keep : MethodName := ⟨RX0, "keep", "(LWoodPiles$Yard;)V"⟩
abbrev cX0_giveBack : ByteArray := prog_2_method_5_code
def yX0_giveBack : MethodName := ⟨RX0, "giveBack", "(LWoodPiles$Yard;)I"⟩
def RX1 : String := "WoodPiles$Slot"
def TX1 : u_T := fun k => match k with
  | 0 => ("WoodPiles$Slot", "state", "LWoodPiles$Yard;", true)
  | _ => ("WoodPiles$Slot", "filled", "Z", false)
def tyX1 : Nat → FieldType := fun k => match k with
  | 0 => .object "WoodPiles$Yard"
  | _ => .boolean
abbrev wsX10 : List Cond := u_ws RX1 TX1 2
theorem nmX1 : ∀ a, a < 2 → ∀ b, b < 2 → a ≠ b → (TX1 a).2.1 ≠ (TX1 b).2.1 := by decide +kernel
theorem tyX1_ok : ∀ k, k < 2 → parseFieldDescriptor (TX1 k).2.2.1 = some (tyX1 k) := by decide +kernel
abbrev cX1_init : ByteArray := prog_3_method_1_code
def yX1_init : MethodName := ⟨RX1, "<init>", "()V"⟩
def RX2 : String := "WoodPiles$Text"
def TX2 : u_T := fun k => match k with
  | 0 => ("WoodPiles$Text", "signs", "[C", true)
  | 1 => ("WoodPiles$Text", "length", "I", false)
  | 2 => ("WoodPiles$Text", "at", "I", false)
  | 3 => ("WoodPiles$Text", "letter", "I", false)
  | 4 => ("WoodPiles$Text", "first", "I", false)
  | _ => ("WoodPiles$Text", "second", "I", false)
def tyX2 : Nat → FieldType := fun k => match k with
  | 0 => .array .char
  | 1 => .int
  | 2 => .int
  | 3 => .int
  | 4 => .int
  | _ => .int
abbrev wsX20 : List Cond := u_ws RX2 TX2 6
theorem nmX2 : ∀ a, a < 6 → ∀ b, b < 6 → a ≠ b → (TX2 a).2.1 ≠ (TX2 b).2.1 := by decide +kernel
theorem tyX2_ok : ∀ k, k < 6 → parseFieldDescriptor (TX2 k).2.2.1 = some (tyX2 k) := by decide +kernel
abbrev cX2_init : ByteArray := prog_4_method_1_code
def yX2_init : MethodName := ⟨RX2, "<init>", "()V"⟩
abbrev cX2_isFull : ByteArray := prog_4_method_2_code
def yX2_isFull : MethodName := ⟨RX2, "isFull", "()Z"⟩
abbrev cX2_add : ByteArray := prog_4_method_3_code
def yX2_add : MethodName := ⟨RX2, "add", "(C)I"⟩
abbrev cX2_empty : ByteArray := prog_4_method_4_code
def yX2_empty : MethodName := ⟨RX2, "empty", "()I"⟩
abbrev cX2_firstWrong : ByteArray := prog_4_method_5_code
def yX2_firstWrong : MethodName := ⟨RX2, "firstWrong", "()I"⟩
abbrev cX2_begin : ByteArray := prog_4_method_6_code
def yX2_begin : MethodName := ⟨RX2, "begin", "()Z"⟩
abbrev cX2_hasMore : ByteArray := prog_4_method_7_code
def yX2_hasMore : MethodName := ⟨RX2, "hasMore", "()Z"⟩
abbrev cX2_signAhead : ByteArray := prog_4_method_8_code
def yX2_signAhead : MethodName := ⟨RX2, "signAhead", "()I"⟩
abbrev cX2_readCommand : ByteArray := prog_4_method_9_code
def yX2_readCommand : MethodName := ⟨RX2, "readCommand", "()Z"⟩
abbrev cX2_readPile : ByteArray := prog_4_method_10_code
def yX2_readPile : MethodName := ⟨RX2, "readPile", "()Z"⟩
abbrev cX2_readFirst : ByteArray := prog_4_method_11_code
def yX2_readFirst : MethodName := ⟨RX2, "readFirst", "(III)Z"⟩
abbrev cX2_readSecond : ByteArray := prog_4_method_12_code
def yX2_readSecond : MethodName := ⟨RX2, "readSecond", "(III)Z"⟩
abbrev cX2_readCover : ByteArray := prog_4_method_13_code
def yX2_readCover : MethodName := ⟨RX2, "readCover", "()Z"⟩
abbrev cX2_readNumber : ByteArray := prog_4_method_14_code
def yX2_readNumber : MethodName := ⟨RX2, "readNumber", "(III)I"⟩
def RX3 : String := "WoodPiles$Yard"
def TX3 : u_T := fun k => match k with
  | 0 => ("WoodPiles$Yard", "damp", "[I", true)
  | 1 => ("WoodPiles$Yard", "home", "[I", true)
  | 2 => ("WoodPiles$Yard", "above", "[I", true)
  | 3 => ("WoodPiles$Yard", "left", "[I", true)
  | 4 => ("WoodPiles$Yard", "right", "[I", true)
  | 5 => ("WoodPiles$Yard", "tops", "[I", true)
  | 6 => ("WoodPiles$Yard", "covers", "[I", true)
  | 7 => ("WoodPiles$Yard", "piles", "I", false)
  | 8 => ("WoodPiles$Yard", "came", "I", false)
  | 9 => ("WoodPiles$Yard", "burnt", "I", false)
  | 10 => ("WoodPiles$Yard", "takenOut", "I", false)
  | 11 => ("WoodPiles$Yard", "lifts", "I", false)
  | 12 => ("WoodPiles$Yard", "heat", "I", false)
  | 13 => ("WoodPiles$Yard", "smoked", "I", false)
  | 14 => ("WoodPiles$Yard", "coldNights", "I", false)
  | 15 => ("WoodPiles$Yard", "refused", "I", false)
  | _ => ("WoodPiles$Yard", "limit", "I", false)
def tyX3 : Nat → FieldType := fun k => match k with
  | 0 => .array .int
  | 1 => .array .int
  | 2 => .array .int
  | 3 => .array .int
  | 4 => .array .int
  | 5 => .array .int
  | 6 => .array .int
  | 7 => .int
  | 8 => .int
  | 9 => .int
  | 10 => .int
  | 11 => .int
  | 12 => .int
  | 13 => .int
  | 14 => .int
  | 15 => .int
  | _ => .int
abbrev wsX30 : List Cond := u_ws RX3 TX3 17
theorem nmX3 : ∀ a, a < 17 → ∀ b, b < 17 → a ≠ b → (TX3 a).2.1 ≠ (TX3 b).2.1 := by decide +kernel
theorem tyX3_ok : ∀ k, k < 17 → parseFieldDescriptor (TX3 k).2.2.1 = some (tyX3 k) := by decide +kernel
abbrev cX3_init : ByteArray := prog_5_method_1_code
def yX3_init : MethodName := ⟨RX3, "<init>", "()V"⟩
abbrev cX3_clear : ByteArray := prog_5_method_2_code
def yX3_clear : MethodName := ⟨RX3, "clear", "()V"⟩
abbrev cX3_copyFrom : ByteArray := prog_5_method_3_code
def yX3_copyFrom : MethodName := ⟨RX3, "copyFrom", "(LWoodPiles$Yard;)V"⟩
abbrev cX3_hasPile : ByteArray := prog_5_method_4_code
def yX3_hasPile : MethodName := ⟨RX3, "hasPile", "(I)Z"⟩
abbrev cX3_hasTwoPiles : ByteArray := prog_5_method_5_code
def yX3_hasTwoPiles : MethodName := ⟨RX3, "hasTwoPiles", "(II)Z"⟩
abbrev cX3_hasLog : ByteArray := prog_5_method_6_code
def yX3_hasLog : MethodName := ⟨RX3, "hasLog", "(I)Z"⟩
abbrev cX3_hasRoomForPile : ByteArray := prog_5_method_7_code
def yX3_hasRoomForPile : MethodName := ⟨RX3, "hasRoomForPile", "()Z"⟩
abbrev cX3_hasRoomForLog : ByteArray := prog_5_method_8_code
def yX3_hasRoomForLog : MethodName := ⟨RX3, "hasRoomForLog", "()Z"⟩
abbrev cX3_topOf : ByteArray := prog_5_method_9_code
def yX3_topOf : MethodName := ⟨RX3, "topOf", "(I)I"⟩
abbrev cX3_isTop : ByteArray := prog_5_method_10_code
def yX3_isTop : MethodName := ⟨RX3, "isTop", "(II)Z"⟩
abbrev cX3_dampOfTop : ByteArray := prog_5_method_11_code
def yX3_dampOfTop : MethodName := ⟨RX3, "dampOfTop", "(I)I"⟩
abbrev cX3_isCovered : ByteArray := prog_5_method_12_code
def yX3_isCovered : MethodName := ⟨RX3, "isCovered", "(I)Z"⟩
abbrev cX3_logsIn : ByteArray := prog_5_method_13_code
def yX3_logsIn : MethodName := ⟨RX3, "logsIn", "(I)I"⟩
abbrev cX3_logsInAll : ByteArray := prog_5_method_14_code
def yX3_logsInAll : MethodName := ⟨RX3, "logsInAll", "()I"⟩
abbrev cX3_dampIn : ByteArray := prog_5_method_15_code
def yX3_dampIn : MethodName := ⟨RX3, "dampIn", "(I)I"⟩
abbrev cX3_dampInAll : ByteArray := prog_5_method_16_code
def yX3_dampInAll : MethodName := ⟨RX3, "dampInAll", "()I"⟩
abbrev cX3_offIn : ByteArray := prog_5_method_17_code
def yX3_offIn : MethodName := ⟨RX3, "offIn", "(I)I"⟩
abbrev cX3_offInAll : ByteArray := prog_5_method_18_code
def yX3_offInAll : MethodName := ⟨RX3, "offInAll", "()I"⟩
abbrev cX3_greatestDepth : ByteArray := prog_5_method_19_code
def yX3_greatestDepth : MethodName := ⟨RX3, "greatestDepth", "(I)I"⟩
abbrev cX3_whyNotDrawn : ByteArray := prog_5_method_20_code
def yX3_whyNotDrawn : MethodName := ⟨RX3, "whyNotDrawn", "(I)I"⟩
abbrev cX3_depthOf : ByteArray := prog_5_method_21_code
def yX3_depthOf : MethodName := ⟨RX3, "depthOf", "(I)I"⟩
abbrev cX3_logsUnder : ByteArray := prog_5_method_22_code
def yX3_logsUnder : MethodName := ⟨RX3, "logsUnder", "(I)I"⟩
abbrev cX3_liesUnder : ByteArray := prog_5_method_23_code
def yX3_liesUnder : MethodName := ⟨RX3, "liesUnder", "(II)Z"⟩
abbrev cX3_comesAhead : ByteArray := prog_5_method_24_code
def yX3_comesAhead : MethodName := ⟨RX3, "comesAhead", "(II)Z"⟩
abbrev cX3_rankedFromTop : ByteArray := prog_5_method_25_code
def yX3_rankedFromTop : MethodName := ⟨RX3, "rankedFromTop", "(II)I"⟩
abbrev cX3_firstDirectlyUnder : ByteArray := prog_5_method_26_code
def yX3_firstDirectlyUnder : MethodName := ⟨RX3, "firstDirectlyUnder", "(I)I"⟩
abbrev cX3_rankedByAll : ByteArray := prog_5_method_27_code
def yX3_rankedByAll : MethodName := ⟨RX3, "rankedByAll", "(II)I"⟩
abbrev cX3_logsAheadOf : ByteArray := prog_5_method_28_code
def yX3_logsAheadOf : MethodName := ⟨RX3, "logsAheadOf", "(II)I"⟩
abbrev cX3_addPile : ByteArray := prog_5_method_29_code
def yX3_addPile : MethodName := ⟨RX3, "addPile", "()I"⟩
abbrev cX3_addLog : ByteArray := prog_5_method_30_code
def yX3_addLog : MethodName := ⟨RX3, "addLog", "(II)I"⟩
abbrev cX3_comeInto : ByteArray := prog_5_method_31_code
def yX3_comeInto : MethodName := ⟨RX3, "comeInto", "(II)V"⟩
abbrev cX3_joinTrees : ByteArray := prog_5_method_32_code
def yX3_joinTrees : MethodName := ⟨RX3, "joinTrees", "(II)I"⟩
abbrev cX3_removeLog : ByteArray := prog_5_method_33_code
def yX3_removeLog : MethodName := ⟨RX3, "removeLog", "(I)I"⟩
abbrev cX3_unlink : ByteArray := prog_5_method_34_code
def yX3_unlink : MethodName := ⟨RX3, "unlink", "(I)V"⟩
abbrev cX3_takeAway : ByteArray := prog_5_method_35_code
def yX3_takeAway : MethodName := ⟨RX3, "takeAway", "(I)I"⟩
abbrev cX3_burnTop : ByteArray := prog_5_method_36_code
def yX3_burnTop : MethodName := ⟨RX3, "burnTop", "(I)I"⟩
abbrev cX3_drawEmpty : ByteArray := prog_5_method_37_code
def yX3_drawEmpty : MethodName := ⟨RX3, "drawEmpty", "(I)I"⟩
abbrev cX3_joinPiles : ByteArray := prog_5_method_38_code
def yX3_joinPiles : MethodName := ⟨RX3, "joinPiles", "(II)I"⟩
abbrev cX3_changeCover : ByteArray := prog_5_method_39_code
def yX3_changeCover : MethodName := ⟨RX3, "changeCover", "(IZ)Z"⟩
abbrev cX3_letWindBlow : ByteArray := prog_5_method_40_code
def yX3_letWindBlow : MethodName := ⟨RX3, "letWindBlow", "(I)V"⟩
abbrev cX3_letRainFall : ByteArray := prog_5_method_41_code
def yX3_letRainFall : MethodName := ⟨RX3, "letRainFall", "(I)V"⟩
abbrev cX3_mendPile : ByteArray := prog_5_method_42_code
def yX3_mendPile : MethodName := ⟨RX3, "mendPile", "(I)I"⟩
abbrev cX3_passNights : ByteArray := prog_5_method_43_code
def yX3_passNights : MethodName := ⟨RX3, "passNights", "(I)I"⟩
abbrev cX3_driestToDraw : ByteArray := prog_5_method_44_code
def yX3_driestToDraw : MethodName := ⟨RX3, "driestToDraw", "()I"⟩
abbrev cX3_obey : ByteArray := prog_5_method_45_code
def yX3_obey : MethodName := ⟨RX3, "obey", "(III)Z"⟩
abbrev cX3_canObey : ByteArray := prog_5_method_46_code
def yX3_canObey : MethodName := ⟨RX3, "canObey", "(III)Z"⟩
def RX4 : String := "WoodPiles"
def TX4 : u_T := fun k => match k with
  | 0 => ("WoodPiles", "text", "LWoodPiles$Text;", true)
  | 1 => ("WoodPiles", "yard", "LWoodPiles$Yard;", true)
  | 2 => ("WoodPiles", "memory", "LWoodPiles$Memory;", true)
  | 3 => ("WoodPiles", "firstSlot", "LWoodPiles$Slot;", true)
  | 4 => ("WoodPiles", "secondSlot", "LWoodPiles$Slot;", true)
  | 5 => ("WoodPiles", "trial", "LWoodPiles$Yard;", true)
  | _ => ("WoodPiles", "levels", "[LWoodPiles$Yard;", true)
def tyX4 : Nat → FieldType := fun k => match k with
  | 0 => .object "WoodPiles$Text"
  | 1 => .object "WoodPiles$Yard"
  | 2 => .object "WoodPiles$Memory"
  | 3 => .object "WoodPiles$Slot"
  | 4 => .object "WoodPiles$Slot"
  | 5 => .object "WoodPiles$Yard"
  | _ => .array (.object "WoodPiles$Yard")
abbrev wsX40 : List Cond := u_ws RX4 TX4 7
theorem nmX4 : ∀ a, a < 7 → ∀ b, b < 7 → a ≠ b → (TX4 a).2.1 ≠ (TX4 b).2.1 := by decide +kernel
theorem tyX4_ok : ∀ k, k < 7 → parseFieldDescriptor (TX4 k).2.2.1 = some (tyX4 k) := by decide +kernel
abbrev cX4_init : ByteArray := prog_1_method_1_code
def yX4_init : MethodName := ⟨RX4, "<init>", "()V"⟩
abbrev cX4_append : ByteArray := prog_1_method_2_code
def yX4_append : MethodName := ⟨RX4, "append", "(I)I"⟩
abbrev cX4_clearText : ByteArray := prog_1_method_3_code
def yX4_clearText : MethodName := ⟨RX4, "clearText", "()I"⟩
abbrev cX4_errorPosition : ByteArray := prog_1_method_4_code
def yX4_errorPosition : MethodName := ⟨RX4, "errorPosition", "()I"⟩
abbrev cX4_load : ByteArray := prog_1_method_5_code
def yX4_load : MethodName := ⟨RX4, "load", "()I"⟩
abbrev cX4_about : ByteArray := prog_1_method_6_code
def yX4_about : MethodName := ⟨RX4, "about", "(I)I"⟩
abbrev cX4_pileOf : ByteArray := prog_1_method_7_code
def yX4_pileOf : MethodName := ⟨RX4, "pileOf", "(II)I"⟩
abbrev cX4_logOf : ByteArray := prog_1_method_8_code
def yX4_logOf : MethodName := ⟨RX4, "logOf", "(II)I"⟩
abbrev cX4_ranked : ByteArray := prog_1_method_9_code
def yX4_ranked : MethodName := ⟨RX4, "ranked", "(III)I"⟩
abbrev cX4_pile : ByteArray := prog_1_method_10_code
def yX4_pile : MethodName := ⟨RX4, "pile", "()I"⟩
abbrev cX4_log : ByteArray := prog_1_method_11_code
def yX4_log : MethodName := ⟨RX4, "log", "(II)I"⟩
abbrev cX4_draw : ByteArray := prog_1_method_12_code
def yX4_draw : MethodName := ⟨RX4, "draw", "(I)I"⟩
abbrev cX4_take : ByteArray := prog_1_method_13_code
def yX4_take : MethodName := ⟨RX4, "take", "(I)I"⟩
abbrev cX4_join : ByteArray := prog_1_method_14_code
def yX4_join : MethodName := ⟨RX4, "join", "(II)I"⟩
abbrev cX4_cover : ByteArray := prog_1_method_15_code
def yX4_cover : MethodName := ⟨RX4, "cover", "(IZ)I"⟩
abbrev cX4_wind : ByteArray := prog_1_method_16_code
def yX4_wind : MethodName := ⟨RX4, "wind", "(I)I"⟩
abbrev cX4_rain : ByteArray := prog_1_method_17_code
def yX4_rain : MethodName := ⟨RX4, "rain", "(I)I"⟩
abbrev cX4_mend : ByteArray := prog_1_method_18_code
def yX4_mend : MethodName := ⟨RX4, "mend", "(I)I"⟩
abbrev cX4_nights : ByteArray := prog_1_method_19_code
def yX4_nights : MethodName := ⟨RX4, "nights", "(I)I"⟩
abbrev cX4_set : ByteArray := prog_1_method_20_code
def yX4_set : MethodName := ⟨RX4, "set", "(I)I"⟩
abbrev cX4_undo : ByteArray := prog_1_method_21_code
def yX4_undo : MethodName := ⟨RX4, "undo", "()I"⟩
abbrev cX4_drawsTill : ByteArray := prog_1_method_22_code
def yX4_drawsTill : MethodName := ⟨RX4, "drawsTill", "(II)I"⟩
abbrev cX4_ifJoined : ByteArray := prog_1_method_23_code
def yX4_ifJoined : MethodName := ⟨RX4, "ifJoined", "(II)I"⟩
abbrev cX4_fewestLifts : ByteArray := prog_1_method_24_code
def yX4_fewestLifts : MethodName := ⟨RX4, "fewestLifts", "()I"⟩
abbrev cX4_ifMended : ByteArray := prog_1_method_25_code
def yX4_ifMended : MethodName := ⟨RX4, "ifMended", "(II)I"⟩
abbrev cX4_harmless : ByteArray := prog_1_method_26_code
def yX4_harmless : MethodName := ⟨RX4, "harmless", "()I"⟩
abbrev cX4_runScript : ByteArray := prog_1_method_27_code
def yX4_runScript : MethodName := ⟨RX4, "runScript", "(IJ)I"⟩
abbrev cX4_simulate : ByteArray := prog_1_method_28_code
def yX4_simulate : MethodName := ⟨RX4, "simulate", "(JI)I"⟩
abbrev cX4_save : ByteArray := prog_1_method_29_code
def yX4_save : MethodName := ⟨RX4, "save", "(I)I"⟩
abbrev cX4_restore : ByteArray := prog_1_method_30_code
def yX4_restore : MethodName := ⟨RX4, "restore", "(I)I"⟩
abbrev cX4_needPile : ByteArray := prog_1_method_31_code
def yX4_needPile : MethodName := ⟨RX4, "needPile", "(I)V"⟩
abbrev cX4_needTwoPiles : ByteArray := prog_1_method_32_code
def yX4_needTwoPiles : MethodName := ⟨RX4, "needTwoPiles", "(II)V"⟩
abbrev cX4_needLog : ByteArray := prog_1_method_33_code
def yX4_needLog : MethodName := ⟨RX4, "needLog", "(I)V"⟩
abbrev cX4_needDamp : ByteArray := prog_1_method_34_code
def yX4_needDamp : MethodName := ⟨RX4, "needDamp", "(I)V"⟩
abbrev cX4_needWeather : ByteArray := prog_1_method_35_code
def yX4_needWeather : MethodName := ⟨RX4, "needWeather", "(I)V"⟩
abbrev cX4_needSlot : ByteArray := prog_1_method_36_code
def yX4_needSlot : MethodName := ⟨RX4, "needSlot", "(I)V"⟩
abbrev cX4_isDamp : ByteArray := prog_1_method_37_code
def yX4_isDamp : MethodName := ⟨RX4, "isDamp", "(I)Z"⟩
abbrev cX4_isWeather : ByteArray := prog_1_method_38_code
def yX4_isWeather : MethodName := ⟨RX4, "isWeather", "(I)Z"⟩
abbrev cX4_slotOf : ByteArray := prog_1_method_39_code
def yX4_slotOf : MethodName := ⟨RX4, "slotOf", "(I)LWoodPiles$Slot;"⟩
abbrev cX4_copyOfYard : ByteArray := prog_1_method_40_code
def yX4_copyOfYard : MethodName := ⟨RX4, "copyOfYard", "()LWoodPiles$Yard;"⟩
abbrev cX4_fewestFrom : ByteArray := prog_1_method_41_code
def yX4_fewestFrom : MethodName := ⟨RX4, "fewestFrom", "([LWoodPiles$Yard;I)I"⟩
abbrev cX4_withoutGroups : ByteArray := prog_1_method_42_code
def yX4_withoutGroups : MethodName := ⟨RX4, "withoutGroups", "(JI)J"⟩
abbrev cX4_doGroup : ByteArray := prog_1_method_43_code
def yX4_doGroup : MethodName := ⟨RX4, "doGroup", "(LWoodPiles$Yard;I)Z"⟩
abbrev cX4_letterOfTurn : ByteArray := prog_1_method_44_code
def yX4_letterOfTurn : MethodName := ⟨RX4, "letterOfTurn", "(I)C"⟩
abbrev cX4_firstOfTurn : ByteArray := prog_1_method_45_code
def yX4_firstOfTurn : MethodName := ⟨RX4, "firstOfTurn", "(II)I"⟩
abbrev cX4_secondOfTurn : ByteArray := prog_1_method_46_code
def yX4_secondOfTurn : MethodName := ⟨RX4, "secondOfTurn", "(II)I"⟩
abbrev cX4_get : ByteArray := prog_1_method_47_code
def yX4_get : MethodName := ⟨RX4, "get", "([II)I"⟩
abbrev cX4_put : ByteArray := prog_1_method_48_code
def yX4_put : MethodName := ⟨RX4, "put", "([III)V"⟩
abbrev cX4_fill : ByteArray := prog_1_method_49_code
def yX4_fill : MethodName := ⟨RX4, "fill", "([II)V"⟩
abbrev cX4_copyRow : ByteArray := prog_1_method_50_code
def yX4_copyRow : MethodName := ⟨RX4, "copyRow", "([I[I)V"⟩
abbrev cX4_yardAt : ByteArray := prog_1_method_51_code
def yX4_yardAt : MethodName := ⟨RX4, "yardAt", "([LWoodPiles$Yard;I)LWoodPiles$Yard;"⟩
def RX5 : String := "WoodPilesModel"
def TX5 : u_T := fun k => match k with
  | 0 => ("WoodPilesModel", "refusal", "I", false)
  | 1 => ("WoodPilesModel", "text", "[I", true)
  | 2 => ("WoodPilesModel", "size", "I", false)
  | 3 => ("WoodPilesModel", "now", "[I", true)
  | 4 => ("WoodPilesModel", "trial", "[I", true)
  | 5 => ("WoodPilesModel", "third", "[I", true)
  | 6 => ("WoodPilesModel", "fourth", "[I", true)
  | 7 => ("WoodPilesModel", "diary", "[I", true)
  | 8 => ("WoodPilesModel", "acts", "I", false)
  | 9 => ("WoodPilesModel", "kept", "[I", true)
  | 10 => ("WoodPilesModel", "isKept", "[Z", true)
  | 11 => ("WoodPilesModel", "spot", "I", false)
  | _ => ("WoodPilesModel", "out", "I", false)
def tyX5 : Nat → FieldType := fun k => match k with
  | 0 => .int
  | 1 => .array .int
  | 2 => .int
  | 3 => .array .int
  | 4 => .array .int
  | 5 => .array .int
  | 6 => .array .int
  | 7 => .array .int
  | 8 => .int
  | 9 => .array .int
  | 10 => .array .boolean
  | 11 => .int
  | _ => .int
abbrev wsX50 : List Cond := u_ws RX5 TX5 13
theorem nmX5 : ∀ a, a < 13 → ∀ b, b < 13 → a ≠ b → (TX5 a).2.1 ≠ (TX5 b).2.1 := by decide +kernel
theorem tyX5_ok : ∀ k, k < 13 → parseFieldDescriptor (TX5 k).2.2.1 = some (tyX5 k) := by decide +kernel
abbrev cX5_init : ByteArray := prog_7_method_1_code
def yX5_init : MethodName := ⟨RX5, "<init>", "()V"⟩
abbrev cX5_thrown : ByteArray := prog_7_method_2_code
def yX5_thrown : MethodName := ⟨RX5, "thrown", "()I"⟩
abbrev cX5_refused : ByteArray := prog_7_method_3_code
def yX5_refused : MethodName := ⟨RX5, "refused", "(I)Z"⟩
abbrev cX5_in : ByteArray := prog_7_method_4_code
def yX5_in : MethodName := ⟨RX5, "in", "(JJJ)Z"⟩
abbrev cX5_copyState : ByteArray := prog_7_method_5_code
def yX5_copyState : MethodName := ⟨RX5, "copyState", "([II[II)V"⟩
abbrev cX5_clear : ByteArray := prog_7_method_6_code
def yX5_clear : MethodName := ⟨RX5, "clear", "([I)V"⟩
abbrev cX5_of : ByteArray := prog_7_method_7_code
def yX5_of : MethodName := ⟨RX5, "of", "([III)I"⟩
abbrev cX5_lay : ByteArray := prog_7_method_8_code
def yX5_lay : MethodName := ⟨RX5, "lay", "([IIII)V"⟩
abbrev cX5_top : ByteArray := prog_7_method_9_code
def yX5_top : MethodName := ⟨RX5, "top", "([II)I"⟩
abbrev cX5_isCovered : ByteArray := prog_7_method_10_code
def yX5_isCovered : MethodName := ⟨RX5, "isCovered", "([II)Z"⟩
abbrev cX5_isPile : ByteArray := prog_7_method_11_code
def yX5_isPile : MethodName := ⟨RX5, "isPile", "([II)Z"⟩
abbrev cX5_isLog : ByteArray := prog_7_method_12_code
def yX5_isLog : MethodName := ⟨RX5, "isLog", "([II)Z"⟩
abbrev cX5_isAhead : ByteArray := prog_7_method_13_code
def yX5_isAhead : MethodName := ⟨RX5, "isAhead", "([III)Z"⟩
abbrev cX5_isOff : ByteArray := prog_7_method_14_code
def yX5_isOff : MethodName := ⟨RX5, "isOff", "([II)Z"⟩
abbrev cX5_depth : ByteArray := prog_7_method_15_code
def yX5_depth : MethodName := ⟨RX5, "depth", "([II)I"⟩
abbrev cX5_isUnder : ByteArray := prog_7_method_16_code
def yX5_isUnder : MethodName := ⟨RX5, "isUnder", "([III)Z"⟩
abbrev cX5_lies : ByteArray := prog_7_method_17_code
def yX5_lies : MethodName := ⟨RX5, "lies", "([III)Z"⟩
abbrev cX5_logsIn : ByteArray := prog_7_method_18_code
def yX5_logsIn : MethodName := ⟨RX5, "logsIn", "([II)I"⟩
abbrev cX5_offIn : ByteArray := prog_7_method_19_code
def yX5_offIn : MethodName := ⟨RX5, "offIn", "([II)I"⟩
abbrev cX5_dampIn : ByteArray := prog_7_method_20_code
def yX5_dampIn : MethodName := ⟨RX5, "dampIn", "([II)I"⟩
abbrev cX5_allOff : ByteArray := prog_7_method_21_code
def yX5_allOff : MethodName := ⟨RX5, "allOff", "([I)I"⟩
abbrev cX5_allDamp : ByteArray := prog_7_method_22_code
def yX5_allDamp : MethodName := ⟨RX5, "allDamp", "([I)I"⟩
abbrev cX5_allLogs : ByteArray := prog_7_method_23_code
def yX5_allLogs : MethodName := ⟨RX5, "allLogs", "([I)I"⟩
abbrev cX5_hang : ByteArray := prog_7_method_24_code
def yX5_hang : MethodName := ⟨RX5, "hang", "([III)V"⟩
abbrev cX5_joined : ByteArray := prog_7_method_25_code
def yX5_joined : MethodName := ⟨RX5, "joined", "([III)I"⟩
abbrev cX5_comesInto : ByteArray := prog_7_method_26_code
def yX5_comesInto : MethodName := ⟨RX5, "comesInto", "([III)V"⟩
abbrev cX5_goesOut : ByteArray := prog_7_method_27_code
def yX5_goesOut : MethodName := ⟨RX5, "goesOut", "([II)V"⟩
abbrev cX5_pileOn : ByteArray := prog_7_method_28_code
def yX5_pileOn : MethodName := ⟨RX5, "pileOn", "([I)I"⟩
abbrev cX5_logOn : ByteArray := prog_7_method_29_code
def yX5_logOn : MethodName := ⟨RX5, "logOn", "([III)I"⟩
abbrev cX5_reason : ByteArray := prog_7_method_30_code
def yX5_reason : MethodName := ⟨RX5, "reason", "([II)I"⟩
abbrev cX5_burn : ByteArray := prog_7_method_31_code
def yX5_burn : MethodName := ⟨RX5, "burn", "([II)V"⟩
abbrev cX5_drawOn : ByteArray := prog_7_method_32_code
def yX5_drawOn : MethodName := ⟨RX5, "drawOn", "([II)I"⟩
abbrev cX5_takeOn : ByteArray := prog_7_method_33_code
def yX5_takeOn : MethodName := ⟨RX5, "takeOn", "([II)I"⟩
abbrev cX5_joinOn : ByteArray := prog_7_method_34_code
def yX5_joinOn : MethodName := ⟨RX5, "joinOn", "([III)I"⟩
abbrev cX5_coverOn : ByteArray := prog_7_method_35_code
def yX5_coverOn : MethodName := ⟨RX5, "coverOn", "([IIZ)I"⟩
abbrev cX5_windOn : ByteArray := prog_7_method_36_code
def yX5_windOn : MethodName := ⟨RX5, "windOn", "([II)I"⟩
abbrev cX5_rainOn : ByteArray := prog_7_method_37_code
def yX5_rainOn : MethodName := ⟨RX5, "rainOn", "([II)I"⟩
abbrev cX5_mendOn : ByteArray := prog_7_method_38_code
def yX5_mendOn : MethodName := ⟨RX5, "mendOn", "([II)I"⟩
abbrev cX5_nightsOn : ByteArray := prog_7_method_39_code
def yX5_nightsOn : MethodName := ⟨RX5, "nightsOn", "([II)I"⟩
abbrev cX5_append : ByteArray := prog_7_method_40_code
def yX5_append : MethodName := ⟨RX5, "append", "(I)I"⟩
abbrev cX5_clearText : ByteArray := prog_7_method_41_code
def yX5_clearText : MethodName := ⟨RX5, "clearText", "()I"⟩
abbrev cX5_figures : ByteArray := prog_7_method_42_code
def yX5_figures : MethodName := ⟨RX5, "figures", "(IIII)I"⟩
abbrev cX5_done : ByteArray := prog_7_method_43_code
def yX5_done : MethodName := ⟨RX5, "done", "(Z)Z"⟩
abbrev cX5_pileSign : ByteArray := prog_7_method_44_code
def yX5_pileSign : MethodName := ⟨RX5, "pileSign", "(I)I"⟩
abbrev cX5_readCover : ByteArray := prog_7_method_45_code
def yX5_readCover : MethodName := ⟨RX5, "readCover", "([I)Z"⟩
abbrev cX5_readPiles : ByteArray := prog_7_method_46_code
def yX5_readPiles : MethodName := ⟨RX5, "readPiles", "([II)Z"⟩
abbrev cX5_readCommand : ByteArray := prog_7_method_47_code
def yX5_readCommand : MethodName := ⟨RX5, "readCommand", "([I)Z"⟩
abbrev cX5_readText : ByteArray := prog_7_method_48_code
def yX5_readText : MethodName := ⟨RX5, "readText", "([I)I"⟩
abbrev cX5_errorPosition : ByteArray := prog_7_method_49_code
def yX5_errorPosition : MethodName := ⟨RX5, "errorPosition", "()I"⟩
abbrev cX5_load : ByteArray := prog_7_method_50_code
def yX5_load : MethodName := ⟨RX5, "load", "()I"⟩
abbrev cX5_about : ByteArray := prog_7_method_51_code
def yX5_about : MethodName := ⟨RX5, "about", "(I)I"⟩
abbrev cX5_greatestDepth : ByteArray := prog_7_method_52_code
def yX5_greatestDepth : MethodName := ⟨RX5, "greatestDepth", "([II)I"⟩
abbrev cX5_pileOf : ByteArray := prog_7_method_53_code
def yX5_pileOf : MethodName := ⟨RX5, "pileOf", "(II)I"⟩
abbrev cX5_logOf : ByteArray := prog_7_method_54_code
def yX5_logOf : MethodName := ⟨RX5, "logOf", "(II)I"⟩
abbrev cX5_rankedIn : ByteArray := prog_7_method_55_code
def yX5_rankedIn : MethodName := ⟨RX5, "rankedIn", "(II)I"⟩
abbrev cX5_ranked : ByteArray := prog_7_method_56_code
def yX5_ranked : MethodName := ⟨RX5, "ranked", "(III)I"⟩
abbrev cX5_remember : ByteArray := prog_7_method_57_code
def yX5_remember : MethodName := ⟨RX5, "remember", "()V"⟩
abbrev cX5_pile : ByteArray := prog_7_method_58_code
def yX5_pile : MethodName := ⟨RX5, "pile", "()I"⟩
abbrev cX5_log : ByteArray := prog_7_method_59_code
def yX5_log : MethodName := ⟨RX5, "log", "(II)I"⟩
abbrev cX5_draw : ByteArray := prog_7_method_60_code
def yX5_draw : MethodName := ⟨RX5, "draw", "(I)I"⟩
abbrev cX5_take : ByteArray := prog_7_method_61_code
def yX5_take : MethodName := ⟨RX5, "take", "(I)I"⟩
abbrev cX5_join : ByteArray := prog_7_method_62_code
def yX5_join : MethodName := ⟨RX5, "join", "(II)I"⟩
abbrev cX5_cover : ByteArray := prog_7_method_63_code
def yX5_cover : MethodName := ⟨RX5, "cover", "(IZ)I"⟩
abbrev cX5_wind : ByteArray := prog_7_method_64_code
def yX5_wind : MethodName := ⟨RX5, "wind", "(I)I"⟩
abbrev cX5_rain : ByteArray := prog_7_method_65_code
def yX5_rain : MethodName := ⟨RX5, "rain", "(I)I"⟩
abbrev cX5_mend : ByteArray := prog_7_method_66_code
def yX5_mend : MethodName := ⟨RX5, "mend", "(I)I"⟩
abbrev cX5_nights : ByteArray := prog_7_method_67_code
def yX5_nights : MethodName := ⟨RX5, "nights", "(I)I"⟩
abbrev cX5_set : ByteArray := prog_7_method_68_code
def yX5_set : MethodName := ⟨RX5, "set", "(I)I"⟩
abbrev cX5_undo : ByteArray := prog_7_method_69_code
def yX5_undo : MethodName := ⟨RX5, "undo", "()I"⟩
abbrev cX5_drawsTill : ByteArray := prog_7_method_70_code
def yX5_drawsTill : MethodName := ⟨RX5, "drawsTill", "(II)I"⟩
abbrev cX5_ifJoined : ByteArray := prog_7_method_71_code
def yX5_ifJoined : MethodName := ⟨RX5, "ifJoined", "(II)I"⟩
abbrev cX5_lesser : ByteArray := prog_7_method_72_code
def yX5_lesser : MethodName := ⟨RX5, "lesser", "(II)I"⟩
abbrev cX5_lastLifts : ByteArray := prog_7_method_73_code
def yX5_lastLifts : MethodName := ⟨RX5, "lastLifts", "(I)I"⟩
abbrev cX5_fewestLifts : ByteArray := prog_7_method_74_code
def yX5_fewestLifts : MethodName := ⟨RX5, "fewestLifts", "()I"⟩
abbrev cX5_ifMended : ByteArray := prog_7_method_75_code
def yX5_ifMended : MethodName := ⟨RX5, "ifMended", "(II)I"⟩
abbrev cX5_harmless : ByteArray := prog_7_method_76_code
def yX5_harmless : MethodName := ⟨RX5, "harmless", "()I"⟩
abbrev cX5_command : ByteArray := prog_7_method_77_code
def yX5_command : MethodName := ⟨RX5, "command", "(II)Z"⟩
abbrev cX5_runScript : ByteArray := prog_7_method_78_code
def yX5_runScript : MethodName := ⟨RX5, "runScript", "(IJ)I"⟩
abbrev cX5_turnPile : ByteArray := prog_7_method_79_code
def yX5_turnPile : MethodName := ⟨RX5, "turnPile", "([III)V"⟩
abbrev cX5_turnOf : ByteArray := prog_7_method_80_code
def yX5_turnOf : MethodName := ⟨RX5, "turnOf", "([III)V"⟩
abbrev cX5_simulate : ByteArray := prog_7_method_81_code
def yX5_simulate : MethodName := ⟨RX5, "simulate", "(JI)I"⟩
abbrev cX5_save : ByteArray := prog_7_method_82_code
def yX5_save : MethodName := ⟨RX5, "save", "(I)I"⟩
abbrev cX5_restore : ByteArray := prog_7_method_83_code
def yX5_restore : MethodName := ⟨RX5, "restore", "(I)I"⟩
def RL : String := "WoodPilesLaw"
abbrev cL_append : ByteArray := method_3_code
def yL_append : MethodName := ⟨RL, "append", "(LWoodPiles;I[J)I"⟩
abbrev cL_load : ByteArray := method_4_code
def yL_load : MethodName := ⟨RL, "load", "(LWoodPiles;[J)I"⟩
abbrev cL_about : ByteArray := method_5_code
def yL_about : MethodName := ⟨RL, "about", "(LWoodPiles;I[J)I"⟩
abbrev cL_pileOf : ByteArray := method_6_code
def yL_pileOf : MethodName := ⟨RL, "pileOf", "(LWoodPiles;II[J)I"⟩
abbrev cL_logOf : ByteArray := method_7_code
def yL_logOf : MethodName := ⟨RL, "logOf", "(LWoodPiles;II[J)I"⟩
abbrev cL_ranked : ByteArray := method_8_code
def yL_ranked : MethodName := ⟨RL, "ranked", "(LWoodPiles;III[J)I"⟩
abbrev cL_pile : ByteArray := method_9_code
def yL_pile : MethodName := ⟨RL, "pile", "(LWoodPiles;[J)I"⟩
abbrev cL_log : ByteArray := method_10_code
def yL_log : MethodName := ⟨RL, "log", "(LWoodPiles;II[J)I"⟩
abbrev cL_draw : ByteArray := method_11_code
def yL_draw : MethodName := ⟨RL, "draw", "(LWoodPiles;I[J)I"⟩
abbrev cL_take : ByteArray := method_12_code
def yL_take : MethodName := ⟨RL, "take", "(LWoodPiles;I[J)I"⟩
abbrev cL_join : ByteArray := method_13_code
def yL_join : MethodName := ⟨RL, "join", "(LWoodPiles;II[J)I"⟩
abbrev cL_cover : ByteArray := method_14_code
def yL_cover : MethodName := ⟨RL, "cover", "(LWoodPiles;IZ[J)I"⟩
abbrev cL_wind : ByteArray := method_15_code
def yL_wind : MethodName := ⟨RL, "wind", "(LWoodPiles;I[J)I"⟩
abbrev cL_rain : ByteArray := method_16_code
def yL_rain : MethodName := ⟨RL, "rain", "(LWoodPiles;I[J)I"⟩
abbrev cL_mend : ByteArray := method_17_code
def yL_mend : MethodName := ⟨RL, "mend", "(LWoodPiles;I[J)I"⟩
abbrev cL_nights : ByteArray := method_18_code
def yL_nights : MethodName := ⟨RL, "nights", "(LWoodPiles;I[J)I"⟩
abbrev cL_set : ByteArray := method_19_code
def yL_set : MethodName := ⟨RL, "set", "(LWoodPiles;I[J)I"⟩
abbrev cL_undo : ByteArray := method_20_code
def yL_undo : MethodName := ⟨RL, "undo", "(LWoodPiles;[J)I"⟩
abbrev cL_drawsTill : ByteArray := method_21_code
def yL_drawsTill : MethodName := ⟨RL, "drawsTill", "(LWoodPiles;II[J)I"⟩
abbrev cL_ifJoined : ByteArray := method_22_code
def yL_ifJoined : MethodName := ⟨RL, "ifJoined", "(LWoodPiles;II[J)I"⟩
abbrev cL_ifMended : ByteArray := method_23_code
def yL_ifMended : MethodName := ⟨RL, "ifMended", "(LWoodPiles;II[J)I"⟩
abbrev cL_runScript : ByteArray := method_24_code
def yL_runScript : MethodName := ⟨RL, "runScript", "(LWoodPiles;IJ[J)I"⟩
abbrev cL_simulate : ByteArray := method_25_code
def yL_simulate : MethodName := ⟨RL, "simulate", "(LWoodPiles;JI[J)I"⟩
abbrev cL_save : ByteArray := method_26_code
def yL_save : MethodName := ⟨RL, "save", "(LWoodPiles;I[J)I"⟩
abbrev cL_restore : ByteArray := method_27_code
def yL_restore : MethodName := ⟨RL, "restore", "(LWoodPiles;I[J)I"⟩
abbrev vwCl : List vw_C := [(RX0, TX0, 3), (RX1, TX1, 2), (RX2, TX2, 6), (RX3, TX3, 17), (RX4, TX4, 7), (RX5, TX5, 13)]
end
section
/-! ===== the abstract machine: values, cells by names, instructions, runs ===== -/
abbrev am_R : Type := Nat × Nat
abbrev am_V : Type := Int ⊕ (Int ⊕ Option am_R)
abbrev am_M : Type := Nat → Nat → Int → Int
/-- cells made, exceptions made, the script's length, the references that each cell holds -/
abbrev am_E : Type := Nat × Nat × Nat × (am_R → Nat → Option am_R)
abbrev am_I (z : Int) : am_V := .inl z
abbrev am_J (z : Int) : am_V := .inr (.inl z)
abbrev am_A (r : am_R) : am_V := .inr (.inr (some r))
abbrev am_N : am_V := .inr (.inr none)
def am_w (z : Int) : Int := Int.bmod z 4294967296
def am_W (z : Int) : Int := Int.bmod z 18446744073709551616
/-- the cells of a block -/
def am_sb (M : am_M) (b : Nat) (Y : Nat → Int → Int) : am_M := fun b' => if b' = b then Y else M b'
def am_uy (Y : Nat → Int → Int) (c : Nat) (j v : Int) : Nat → Int → Int := fun c' => if c' = c then (fun j' => if j' = j then v else Y c j') else Y c'
def am_up (M : am_M) (r : am_R) (j v : Int) : am_M := am_sb M r.1 (am_uy (M r.1) r.2 j v)
def am_cat (v : am_V) : Nat := match v with
  | .inr (.inl _) => 2
  | _ => 1
def am_wt (st : List am_V) : Nat := (st.map am_cat).sum
/-- the cells by their numbers: name, kind (a class, or of array), fields or elements -/
def am_tab : List (am_R × Nat × Nat) :=
  [((34, 0), 4, 7), ((30, 0), 2, 6), ((30, 1), 7, 120), ((0, 0), 3, 17), ((0, 1), 6, 24), ((0, 2), 6, 24), ((0, 3), 6, 24), ((0, 4), 6, 24), ((0, 5), 6, 24), ((0, 6), 6, 4), ((0, 7), 6, 4), ((31, 0), 0, 3), ((31, 1), 10, 14), ((1, 0), 3, 17), ((1, 1), 6, 24), ((1, 2), 6, 24), ((1, 3), 6, 24), ((1, 4), 6, 24), ((1, 5), 6, 24), ((1, 6), 6, 4), ((1, 7), 6, 4), ((2, 0), 3, 17), ((2, 1), 6, 24), ((2, 2), 6, 24), ((2, 3), 6, 24), ((2, 4), 6, 24), ((2, 5), 6, 24), ((2, 6), 6, 4), ((2, 7), 6, 4), ((3, 0), 3, 17), ((3, 1), 6, 24), ((3, 2), 6, 24), ((3, 3), 6, 24), ((3, 4), 6, 24), ((3, 5), 6, 24), ((3, 6), 6, 4), ((3, 7), 6, 4), ((4, 0), 3, 17), ((4, 1), 6, 24), ((4, 2), 6, 24), ((4, 3), 6, 24), ((4, 4), 6, 24), ((4, 5), 6, 24), ((4, 6), 6, 4), ((4, 7), 6, 4), ((5, 0), 3, 17), ((5, 1), 6, 24), ((5, 2), 6, 24), ((5, 3), 6, 24), ((5, 4), 6, 24), ((5, 5), 6, 24), ((5, 6), 6, 4), ((5, 7), 6, 4), ((6, 0), 3, 17), ((6, 1), 6, 24), ((6, 2), 6, 24), ((6, 3), 6, 24), ((6, 4), 6, 24), ((6, 5), 6, 24), ((6, 6), 6, 4), ((6, 7), 6, 4), ((7, 0), 3, 17), ((7, 1), 6, 24), ((7, 2), 6, 24), ((7, 3), 6, 24), ((7, 4), 6, 24), ((7, 5), 6, 24), ((7, 6), 6, 4), ((7, 7), 6, 4), ((8, 0), 3, 17), ((8, 1), 6, 24), ((8, 2), 6, 24), ((8, 3), 6, 24), ((8, 4), 6, 24), ((8, 5), 6, 24), ((8, 6), 6, 4), ((8, 7), 6, 4), ((9, 0), 3, 17), ((9, 1), 6, 24), ((9, 2), 6, 24), ((9, 3), 6, 24), ((9, 4), 6, 24), ((9, 5), 6, 24), ((9, 6), 6, 4), ((9, 7), 6, 4), ((10, 0), 3, 17), ((10, 1), 6, 24), ((10, 2), 6, 24), ((10, 3), 6, 24), ((10, 4), 6, 24), ((10, 5), 6, 24), ((10, 6), 6, 4), ((10, 7), 6, 4), ((11, 0), 3, 17), ((11, 1), 6, 24), ((11, 2), 6, 24), ((11, 3), 6, 24), ((11, 4), 6, 24), ((11, 5), 6, 24), ((11, 6), 6, 4), ((11, 7), 6, 4), ((12, 0), 3, 17), ((12, 1), 6, 24), ((12, 2), 6, 24), ((12, 3), 6, 24), ((12, 4), 6, 24), ((12, 5), 6, 24), ((12, 6), 6, 4), ((12, 7), 6, 4), ((13, 0), 3, 17), ((13, 1), 6, 24), ((13, 2), 6, 24), ((13, 3), 6, 24), ((13, 4), 6, 24), ((13, 5), 6, 24), ((13, 6), 6, 4), ((13, 7), 6, 4), ((14, 0), 3, 17), ((14, 1), 6, 24), ((14, 2), 6, 24), ((14, 3), 6, 24), ((14, 4), 6, 24), ((14, 5), 6, 24), ((14, 6), 6, 4), ((14, 7), 6, 4), ((32, 0), 1, 2), ((15, 0), 3, 17), ((15, 1), 6, 24), ((15, 2), 6, 24), ((15, 3), 6, 24), ((15, 4), 6, 24), ((15, 5), 6, 24), ((15, 6), 6, 4), ((15, 7), 6, 4), ((33, 0), 1, 2), ((16, 0), 3, 17), ((16, 1), 6, 24), ((16, 2), 6, 24), ((16, 3), 6, 24), ((16, 4), 6, 24), ((16, 5), 6, 24), ((16, 6), 6, 4), ((16, 7), 6, 4), ((17, 0), 3, 17), ((17, 1), 6, 24), ((17, 2), 6, 24), ((17, 3), 6, 24), ((17, 4), 6, 24), ((17, 5), 6, 24), ((17, 6), 6, 4), ((17, 7), 6, 4), ((34, 1), 10, 4), ((18, 0), 3, 17), ((18, 1), 6, 24), ((18, 2), 6, 24), ((18, 3), 6, 24), ((18, 4), 6, 24), ((18, 5), 6, 24), ((18, 6), 6, 4), ((18, 7), 6, 4), ((19, 0), 3, 17), ((19, 1), 6, 24), ((19, 2), 6, 24), ((19, 3), 6, 24), ((19, 4), 6, 24), ((19, 5), 6, 24), ((19, 6), 6, 4), ((19, 7), 6, 4), ((20, 0), 3, 17), ((20, 1), 6, 24), ((20, 2), 6, 24), ((20, 3), 6, 24), ((20, 4), 6, 24), ((20, 5), 6, 24), ((20, 6), 6, 4), ((20, 7), 6, 4), ((21, 0), 3, 17), ((21, 1), 6, 24), ((21, 2), 6, 24), ((21, 3), 6, 24), ((21, 4), 6, 24), ((21, 5), 6, 24), ((21, 6), 6, 4), ((21, 7), 6, 4), ((35, 0), 5, 13), ((36, 0), 6, 120), ((37, 0), 6, 138), ((38, 0), 6, 138), ((39, 0), 6, 138), ((40, 0), 6, 138), ((41, 0), 6, 1932), ((42, 0), 6, 276), ((43, 0), 8, 2), ((44, 0), 9, 1)]
def am_ix (r : am_R) : Nat := am_tab.findIdx (fun t => t.1 == r)
def am_kd (E : am_E) (r : am_R) : Option (Nat × Nat) := if r = (45, 0) then some (12, E.2.2.1) else if am_ix r < E.1 then (match am_tab[am_ix r]? with
  | some t => some t.2
  | none => none) else none
def am_rf (E : am_E) (r : am_R) (k : Nat) : Option am_R := E.2.2.2 r k
def am_srf (E : am_E) (r : am_R) (k : Nat) (v : am_R) : am_E := (E.1, E.2.1, E.2.2.1, fun r' k' => if r' = r ∧ k' = k then some v else E.2.2.2 r' k')
def am_xE (E : am_E) : am_E := (E.1, E.2.1 + 1, E.2.2)
/-- instructions on the stack alone -/
def am_b1 (f : Int → Int) (st : List am_V) : Option (List am_V) := match st with
  | .inl a :: r => some (.inl (f a) :: r)
  | _ => none
def am_b2 (f : Int → Int → Int) (st : List am_V) : Option (List am_V) := match st with
  | .inl b :: .inl a :: r => some (.inl (f a b) :: r)
  | _ => none
def am_d2 (f : Int → Int → Int) (st : List am_V) : Option (List am_V) := match st with
  | .inl b :: .inl a :: r => if b = 0 then none else some (.inl (f a b) :: r)
  | _ => none
def am_l2 (f : Int → Int → Int) (st : List am_V) : Option (List am_V) := match st with
  | .inr (.inl b) :: .inr (.inl a) :: r => some (.inr (.inl (f a b)) :: r)
  | _ => none
def am_dl2 (f : Int → Int → Int) (st : List am_V) : Option (List am_V) := match st with
  | .inr (.inl b) :: .inr (.inl a) :: r => if b = 0 then none else some (.inr (.inl (f a b)) :: r)
  | _ => none
def am_s2 (f : Int → Int → Int) (st : List am_V) : Option (List am_V) := match st with
  | .inl b :: .inr (.inl a) :: r => some (.inr (.inl (f a b)) :: r)
  | _ => none
def am_op (i : Instr) (st : List am_V) : Option (List am_V) := match i with
  | .iconst z => if -32768 ≤ z ∧ z < 32768 then some (.inl z :: st) else none
  | .bipush z => if -128 ≤ z ∧ z < 128 then some (.inl z :: st) else none
  | .sipush z => if -32768 ≤ z ∧ z < 32768 then some (.inl z :: st) else none
  | .lconst z => some (.inr (.inl (z.val : Int)) :: st)
  | .aconst_null => some (am_N :: st)
  | .iadd => am_b2 (fun a b => am_w (a + b)) st
  | .isub => am_b2 (fun a b => am_w (a - b)) st
  | .imul => am_b2 (fun a b => am_w (a * b)) st
  | .idiv => am_d2 (fun a b => am_w (a.tdiv b)) st
  | .irem => am_d2 (fun a b => a.tmod b) st
  | .iand => am_b2 (fun a b => (Int32.ofInt a &&& Int32.ofInt b).toInt) st
  | .ior => am_b2 (fun a b => (Int32.ofInt a ||| Int32.ofInt b).toInt) st
  | .ishl => am_b2 (fun a b => (Int32.ofInt a <<< (Int32.ofInt b &&& 31)).toInt) st
  | .ishr => am_b2 (fun a b => (Int32.ofInt a >>> (Int32.ofInt b &&& 31)).toInt) st
  | .ladd => am_l2 (fun a b => am_W (a + b)) st
  | .lsub => am_l2 (fun a b => am_W (a - b)) st
  | .lmul => am_l2 (fun a b => am_W (a * b)) st
  | .ldiv => am_dl2 (fun a b => am_W (a.tdiv b)) st
  | .lrem => am_dl2 (fun a b => a.tmod b) st
  | .land => am_l2 (fun a b => (Int64.ofInt a &&& Int64.ofInt b).toInt) st
  | .lor => am_l2 (fun a b => (Int64.ofInt a ||| Int64.ofInt b).toInt) st
  | .lshl => am_s2 (fun a b => (Int64.ofInt a <<< ((Int32.ofInt b).toInt64 &&& 63)).toInt) st
  | .lushr => am_s2 (fun a b => ((Int64.ofInt a).toUInt64 >>> ((Int32.ofInt b).toInt64.toUInt64 &&& Int64.toUInt64 63)).toInt64.toInt) st
  | .lcmp => (match st with
    | .inr (.inl b) :: .inr (.inl a) :: r => some (.inl (if a < b then -1 else if a = b then 0 else 1) :: r)
    | _ => none)
  | .i2l => (match st with
    | .inl a :: r => some (.inr (.inl a) :: r)
    | _ => none)
  | .l2i => (match st with
    | .inr (.inl a) :: r => some (.inl (am_w a) :: r)
    | _ => none)
  | .i2c => am_b1 (fun a => ((Int32.ofInt a).toUInt32 % 65536).toInt32.toInt) st
  | .dup => (match st with
    | a :: r => if am_cat a = 1 then some (a :: a :: r) else none
    | _ => none)
  | .dup2 => (match st with
    | a :: b :: r => if am_cat a = 1 ∧ am_cat b = 1 then some (a :: b :: a :: b :: r) else none
    | _ => none)
  | .pop => (match st with
    | a :: r => if am_cat a = 1 then some r else none
    | _ => none)
  | _ => none
/-- the bytes that an instruction takes -/
def am_ln (i : Instr) : Nat := match i with
  | .bipush _ | .iload _ | .lload _ | .aload _ | .istore _ | .lstore _ | .astore _ | .newarray _ => 2
  | .sipush _ | .iinc _ _ | .goto _ | .ifCond _ _ | .if_icmp _ _ | .ifnull _ | .ifnonnull _ | .getfield _ | .putfield _ | .invokestatic _ | .invokevirtual _ | .invokespecial _ | .new _ | .anewarray _ | .ldc2_w _ => 3
  | _ => 1
def am_g (ls : List (Option am_V)) (n : Nat) : Option am_V := match ls[n]? with
  | some x => x
  | none => none
def am_gi (ls : List (Option am_V)) (n : Nat) : Option am_V := match am_g ls n with
  | some (.inl z) => some (.inl z)
  | _ => none
def am_gl (ls : List (Option am_V)) (n : Nat) : Option am_V := match am_g ls n with
  | some (.inr (.inl z)) => some (.inr (.inl z))
  | _ => none
def am_ga (ls : List (Option am_V)) (n : Nat) : Option am_V := match am_g ls n with
  | some (.inr (.inr r)) => some (.inr (.inr r))
  | _ => none
/-- loads of locals -/
def am_ld (i : Instr) (ls : List (Option am_V)) : Option am_V := match i with
  | .iload n => am_gi ls n
  | .iload_n n => am_gi ls n.val
  | .lload n => am_gl ls n
  | .lload_n n => am_gl ls n.val
  | .aload n => am_ga ls n
  | .aload_n n => am_ga ls n.val
  | _ => none
def am_lf (ls : List (Option am_V)) (n : Nat) : Bool := match n with
  | 0 => true
  | j + 1 => (match am_g ls j with
    | some (.inr (.inl _)) => false
    | _ => true)
def am_s1 (ls : List (Option am_V)) (n : Nat) (v : am_V) : Option (List (Option am_V)) := if n < ls.length ∧ am_lf ls n = true then some (ls.set n (some v)) else none
def am_s3 (ls : List (Option am_V)) (n : Nat) (v : am_V) : Option (List (Option am_V)) := if n + 1 < ls.length ∧ am_lf ls n = true then some ((ls.set n (some v)).set (n + 1) none) else none
def am_si (ls : List (Option am_V)) (n : Nat) (st : List am_V) : Option (List (Option am_V) × List am_V) := match st with
  | .inl z :: r => (match am_s1 ls n (.inl z) with
    | some l => some (l, r)
    | none => none)
  | _ => none
def am_sl (ls : List (Option am_V)) (n : Nat) (st : List am_V) : Option (List (Option am_V) × List am_V) := match st with
  | .inr (.inl z) :: r => (match am_s3 ls n (.inr (.inl z)) with
    | some l => some (l, r)
    | none => none)
  | _ => none
def am_sa (ls : List (Option am_V)) (n : Nat) (st : List am_V) : Option (List (Option am_V) × List am_V) := match st with
  | .inr (.inr x) :: r => (match am_s1 ls n (.inr (.inr x)) with
    | some l => some (l, r)
    | none => none)
  | _ => none
/-- stores of locals -/
def am_st (i : Instr) (ls : List (Option am_V)) (st : List am_V) : Option (List (Option am_V) × List am_V) := match i with
  | .istore n => am_si ls n st
  | .istore_n n => am_si ls n.val st
  | .lstore n => am_sl ls n st
  | .lstore_n n => am_sl ls n.val st
  | .astore n => am_sa ls n st
  | .astore_n n => am_sa ls n.val st
  | .iinc n c => if -32768 ≤ c ∧ c < 32768 then (match am_g ls n with
    | some (.inl z) => (match am_s1 ls n (.inl (am_w (z + c))) with
      | some l => some (l, st)
      | none => none)
    | _ => none) else none
  | _ => none
def am_cc (c : Jvm.ClassFile.Cond) (a b : Int) : Bool := match c with
  | .eq => decide (a = b)
  | .ne => decide (a ≠ b)
  | .lt => decide (a < b)
  | .ge => decide (b ≤ a)
  | .gt => decide (b < a)
  | .le => decide (a ≤ b)
def am_at (pc : Nat) (off : Int) : Option Nat := if 0 ≤ (pc : Int) + off then some ((pc : Int) + off).toNat else none
/-- jumps -/
def am_sw (i : Instr) : Bool := match i with
  | .tableswitch _ _ _ _ => true
  | .lookupswitch _ _ => true
  | _ => false
def am_jp (i : Instr) (pc len : Nat) (st : List am_V) : Option (Nat × List am_V) := if len = 3 ∨ am_sw i = true then (match i with
  | .goto off => (match am_at pc off with
    | some t => some (t, st)
    | none => none)
  | .ifCond c off => (match st, am_at pc off with
    | .inl a :: r, some t => some (bif am_cc c a 0 then t else pc + len, r)
    | _, _ => none)
  | .if_icmp c off => (match st, am_at pc off with
    | .inl b :: .inl a :: r, some t => some (bif am_cc c a b then t else pc + len, r)
    | _, _ => none)
  | .ifnull off => (match st, am_at pc off with
    | .inr (.inr (some _)) :: r, some _ => some (pc + len, r)
    | .inr (.inr none) :: r, some t => some (t, r)
    | _, _ => none)
  | .ifnonnull off => (match st, am_at pc off with
    | .inr (.inr (some _)) :: r, some t => some (t, r)
    | .inr (.inr none) :: r, some _ => some (pc + len, r)
    | _, _ => none)
  | .tableswitch d lo hi offs => (match st with
    | .inl a :: r => if a < lo ∨ hi < a then (match am_at pc d with
        | some t => some (t, r)
        | none => none)
      else (match offs[(a - lo).toNat]? with
        | some o => (match am_at pc o with
          | some t => some (t, r)
          | none => none)
        | none => none)
    | _ => none)
  | .lookupswitch d ps => (match st with
    | .inl a :: r => if (ps.toList.zip (ps.toList.drop 1)).all (fun (a, next) => a.1 < next.1) = true then (match am_at pc (Op.lookupswitch.offset ps.toList d a) with
        | some t => some (t, r)
        | none => none) else none
    | _ => none)
  | _ => none) else none
end
section
/-! the program: instructions, references, methods -/
def am_c0 : List (Nat × Instr × Nat) := [(0, .aload_n 0, 1), (1, .invokespecial 3, 3), (4, .aload_n 0, 1), (5, .bipush 14, 2), (7, .anewarray 9, 3), (10, .putfield 11, 3), (13, .iconst 0, 1), (14, .istore_n 1, 1), (15, .iload_n 1, 1), (16, .aload_n 0, 1), (17, .getfield 11, 3), (20, .arraylength, 1), (21, .if_icmp .ge 22, 3), (24, .aload_n 0, 1), (25, .getfield 11, 3), (28, .iload_n 1, 1), (29, .new 9, 3), (32, .dup, 1), (33, .invokespecial 17, 3), (36, .aastore, 1), (37, .iinc 1 1, 3), (40, .goto (-25), 3), (43, .return_, 1)]
def am_c1 : List (Nat × Instr × Nat) := [(0, .aload_n 0, 1), (1, .getfield 18, 3), (4, .ifCond .ne 7, 3), (7, .iconst 1, 1), (8, .goto 4, 3), (11, .iconst 0, 1), (12, .ireturn, 1)]
def am_c2 : List (Nat × Instr × Nat) := [(0, .aload_n 0, 1), (1, .iconst 0, 1), (2, .putfield 18, 3), (5, .return_, 1)]
def am_c3_0 : List (Nat × Instr × Nat) := [(0, .aload_n 0, 1), (1, .getfield 18, 3), (4, .bipush 14, 2), (6, .if_icmp .ne 26, 3), (9, .aload_n 0, 1), (10, .aload_n 0, 1), (11, .getfield 22, 3), (14, .iconst 1, 1), (15, .iadd, 1), (16, .bipush 14, 2), (18, .irem, 1), (19, .putfield 22, 3), (22, .aload_n 0, 1), (23, .dup, 1), (24, .getfield 18, 3), (27, .iconst 1, 1), (28, .isub, 1), (29, .putfield 18, 3), (32, .aload_n 0, 1), (33, .getfield 11, 3), (36, .aload_n 0, 1), (37, .getfield 22, 3), (40, .aload_n 0, 1), (41, .getfield 18, 3), (44, .iadd, 1), (45, .bipush 14, 2), (47, .irem, 1), (48, .invokestatic 25, 3), (51, .astore_n 2, 1), (52, .aload_n 2, 1), (53, .ifnull 18, 3), (56, .aload_n 2, 1), (57, .aload_n 1, 1), (58, .invokevirtual 29, 3), (61, .aload_n 0, 1), (62, .dup, 1), (63, .getfield 18, 3), (66, .iconst 1, 1), (67, .iadd, 1), (68, .putfield 18, 3)]
def am_c3_1 : List (Nat × Instr × Nat) := [(71, .return_, 1)]
def am_c3 : List (Nat × Instr × Nat) := am_c3_0 ++ (am_c3_1)
def am_c4 : List (Nat × Instr × Nat) := [(0, .aload_n 0, 1), (1, .dup, 1), (2, .getfield 18, 3), (5, .iconst 1, 1), (6, .isub, 1), (7, .putfield 18, 3), (10, .aload_n 0, 1), (11, .getfield 11, 3), (14, .aload_n 0, 1), (15, .getfield 22, 3), (18, .aload_n 0, 1), (19, .getfield 18, 3), (22, .iadd, 1), (23, .bipush 14, 2), (25, .irem, 1), (26, .invokestatic 25, 3), (29, .astore_n 2, 1), (30, .aload_n 2, 1), (31, .ifnull 8, 3), (34, .aload_n 1, 1), (35, .aload_n 2, 1), (36, .invokevirtual 29, 3), (39, .aload_n 0, 1), (40, .getfield 18, 3), (43, .ireturn, 1)]
def am_c5 : List (Nat × Instr × Nat) := [(0, .aload_n 0, 1), (1, .invokespecial 1, 3), (4, .aload_n 0, 1), (5, .new 7, 3), (8, .dup, 1), (9, .invokespecial 9, 3), (12, .putfield 10, 3), (15, .return_, 1)]
def am_c6 : List (Nat × Instr × Nat) := [(0, .aload_n 0, 1), (1, .invokespecial 3, 3), (4, .aload_n 0, 1), (5, .bipush 120, 2), (7, .newarray .char, 2), (9, .putfield 9, 3), (12, .return_, 1)]
def am_c7 : List (Nat × Instr × Nat) := [(0, .aload_n 0, 1), (1, .getfield 15, 3), (4, .bipush 120, 2), (6, .if_icmp .lt 7, 3), (9, .iconst 1, 1), (10, .goto 4, 3), (13, .iconst 0, 1), (14, .ireturn, 1)]
def am_c8 : List (Nat × Instr × Nat) := [(0, .aload_n 0, 1), (1, .getfield 15, 3), (4, .ifCond .lt 35, 3), (7, .aload_n 0, 1), (8, .getfield 15, 3), (11, .aload_n 0, 1), (12, .getfield 9, 3), (15, .arraylength, 1), (16, .if_icmp .ge 23, 3), (19, .aload_n 0, 1), (20, .getfield 9, 3), (23, .aload_n 0, 1), (24, .getfield 15, 3), (27, .iload_n 1, 1), (28, .castore, 1), (29, .aload_n 0, 1), (30, .dup, 1), (31, .getfield 15, 3), (34, .iconst 1, 1), (35, .iadd, 1), (36, .putfield 15, 3), (39, .aload_n 0, 1), (40, .getfield 15, 3), (43, .ireturn, 1)]
def am_c9 : List (Nat × Instr × Nat) := [(0, .aload_n 0, 1), (1, .getfield 15, 3), (4, .istore_n 1, 1), (5, .aload_n 0, 1), (6, .iconst 0, 1), (7, .putfield 15, 3), (10, .iload_n 1, 1), (11, .ireturn, 1)]
def am_c10 : List (Nat × Instr × Nat) := [(0, .aload_n 0, 1), (1, .invokevirtual 19, 3), (4, .ifCond .ne 8, 3), (7, .aload_n 0, 1), (8, .getfield 23, 3), (11, .ireturn, 1), (12, .iconst 0, 1), (13, .istore_n 1, 1), (14, .iload_n 1, 1), (15, .bipush 120, 2), (17, .if_icmp .ge 28, 3), (20, .aload_n 0, 1), (21, .invokevirtual 26, 3), (24, .ifCond .eq 21, 3), (27, .aload_n 0, 1), (28, .invokevirtual 29, 3), (31, .ifCond .ne 8, 3), (34, .aload_n 0, 1), (35, .getfield 23, 3), (38, .ireturn, 1), (39, .iinc 1 1, 3), (42, .goto (-28), 3), (45, .iconst (-1), 1), (46, .ireturn, 1)]
def am_c11 : List (Nat × Instr × Nat) := [(0, .aload_n 0, 1), (1, .iconst 0, 1), (2, .putfield 23, 3), (5, .aload_n 0, 1), (6, .invokevirtual 32, 3), (9, .bipush 79, 2), (11, .if_icmp .eq 5, 3), (14, .iconst 0, 1), (15, .ireturn, 1), (16, .aload_n 0, 1), (17, .dup, 1), (18, .getfield 23, 3), (21, .iconst 1, 1), (22, .iadd, 1), (23, .putfield 23, 3), (26, .iconst 1, 1), (27, .ireturn, 1)]
def am_c12 : List (Nat × Instr × Nat) := [(0, .aload_n 0, 1), (1, .getfield 23, 3), (4, .aload_n 0, 1), (5, .getfield 15, 3), (8, .if_icmp .ge 7, 3), (11, .iconst 1, 1), (12, .goto 4, 3), (15, .iconst 0, 1), (16, .ireturn, 1)]
def am_c13 : List (Nat × Instr × Nat) := [(0, .aload_n 0, 1), (1, .getfield 23, 3), (4, .ifCond .lt 38, 3), (7, .aload_n 0, 1), (8, .getfield 23, 3), (11, .aload_n 0, 1), (12, .getfield 15, 3), (15, .if_icmp .ge 27, 3), (18, .aload_n 0, 1), (19, .getfield 23, 3), (22, .aload_n 0, 1), (23, .getfield 9, 3), (26, .arraylength, 1), (27, .if_icmp .ge 15, 3), (30, .aload_n 0, 1), (31, .getfield 9, 3), (34, .aload_n 0, 1), (35, .getfield 23, 3), (38, .caload, 1), (39, .goto 4, 3), (42, .iconst (-1), 1), (43, .ireturn, 1)]
def am_c14_0 : List (Nat × Instr × Nat) := [(0, .aload_n 0, 1), (1, .getfield 23, 3), (4, .istore_n 1, 1), (5, .aload_n 0, 1), (6, .aload_n 0, 1), (7, .invokevirtual 32, 3), (10, .putfield 36, 3), (13, .aload_n 0, 1), (14, .iconst 0, 1), (15, .putfield 39, 3), (18, .aload_n 0, 1), (19, .iconst 0, 1), (20, .putfield 42, 3), (23, .aload_n 0, 1), (24, .iload_n 1, 1), (25, .iconst 1, 1), (26, .iadd, 1), (27, .putfield 23, 3), (30, .aload_n 0, 1), (31, .getfield 36, 3), (34, .tableswitch 199 99 119 #[161, 124, 199, 199, 199, 199, 199, 138, 129, 100, 124, 190, 199, 98, 199, 181, 199, 199, 199, 199, 181], 98), (132, .iconst 1, 1), (133, .ireturn, 1), (134, .aload_n 0, 1), (135, .invokevirtual 45, 3), (138, .ifCond .eq 18, 3), (141, .aload_n 0, 1), (142, .iconst 2, 1), (143, .iconst 0, 1), (144, .bipush 99, 2), (146, .invokevirtual 48, 3), (149, .ifCond .eq 7, 3), (152, .iconst 1, 1), (153, .goto 4, 3), (156, .iconst 0, 1), (157, .ireturn, 1), (158, .aload_n 0, 1), (159, .invokevirtual 45, 3), (162, .ireturn, 1), (163, .aload_n 0, 1)]
def am_c14_1 : List (Nat × Instr × Nat) := [(164, .iconst 2, 1), (165, .iconst 0, 1), (166, .bipush 23, 2), (168, .invokevirtual 52, 3), (171, .ireturn, 1), (172, .aload_n 0, 1), (173, .invokevirtual 45, 3), (176, .ifCond .eq 17, 3), (179, .aload_n 0, 1), (180, .iconst 1, 1), (181, .iconst 0, 1), (182, .iconst 3, 1), (183, .invokevirtual 48, 3), (186, .ifCond .eq 7, 3), (189, .iconst 1, 1), (190, .goto 4, 3), (193, .iconst 0, 1), (194, .ireturn, 1), (195, .aload_n 0, 1), (196, .invokevirtual 45, 3), (199, .ifCond .eq 14, 3), (202, .aload_n 0, 1), (203, .invokevirtual 55, 3), (206, .ifCond .eq 7, 3), (209, .iconst 1, 1), (210, .goto 4, 3), (213, .iconst 0, 1), (214, .ireturn, 1), (215, .aload_n 0, 1), (216, .iconst 2, 1), (217, .iconst 1, 1), (218, .bipush 30, 2), (220, .invokevirtual 52, 3), (223, .ireturn, 1), (224, .aload_n 0, 1), (225, .iconst 1, 1), (226, .iconst 1, 1), (227, .bipush 9, 2), (229, .invokevirtual 52, 3), (232, .ireturn, 1)]
def am_c14_2 : List (Nat × Instr × Nat) := [(233, .aload_n 0, 1), (234, .iload_n 1, 1), (235, .putfield 23, 3), (238, .iconst 0, 1), (239, .ireturn, 1)]
def am_c14 : List (Nat × Instr × Nat) := am_c14_0 ++ (am_c14_1 ++ (am_c14_2))
def am_c15 : List (Nat × Instr × Nat) := [(0, .aload_n 0, 1), (1, .iconst 1, 1), (2, .iconst 0, 1), (3, .iconst 3, 1), (4, .invokevirtual 52, 3), (7, .ireturn, 1)]
def am_c16 : List (Nat × Instr × Nat) := [(0, .aload_n 0, 1), (1, .aload_n 0, 1), (2, .iload_n 1, 1), (3, .iload_n 2, 1), (4, .iload_n 3, 1), (5, .invokevirtual 58, 3), (8, .putfield 39, 3), (11, .aload_n 0, 1), (12, .getfield 39, 3), (15, .iconst (-1), 1), (16, .if_icmp .eq 7, 3), (19, .iconst 1, 1), (20, .goto 4, 3), (23, .iconst 0, 1), (24, .ireturn, 1)]
def am_c17 : List (Nat × Instr × Nat) := [(0, .aload_n 0, 1), (1, .aload_n 0, 1), (2, .iload_n 1, 1), (3, .iload_n 2, 1), (4, .iload_n 3, 1), (5, .invokevirtual 58, 3), (8, .putfield 42, 3), (11, .aload_n 0, 1), (12, .getfield 42, 3), (15, .iconst (-1), 1), (16, .if_icmp .eq 7, 3), (19, .iconst 1, 1), (20, .goto 4, 3), (23, .iconst 0, 1), (24, .ireturn, 1)]
def am_c18 : List (Nat × Instr × Nat) := [(0, .aload_n 0, 1), (1, .invokevirtual 32, 3), (4, .istore_n 1, 1), (5, .iload_n 1, 1), (6, .bipush 43, 2), (8, .if_icmp .eq 11, 3), (11, .iload_n 1, 1), (12, .bipush 45, 2), (14, .if_icmp .eq 5, 3), (17, .iconst 0, 1), (18, .ireturn, 1), (19, .aload_n 0, 1), (20, .dup, 1), (21, .getfield 23, 3), (24, .iconst 1, 1), (25, .iadd, 1), (26, .putfield 23, 3), (29, .aload_n 0, 1), (30, .iload_n 1, 1), (31, .bipush 43, 2), (33, .if_icmp .ne 7, 3), (36, .iconst 1, 1), (37, .goto 4, 3), (40, .iconst 0, 1), (41, .putfield 42, 3), (44, .iconst 1, 1), (45, .ireturn, 1)]
def am_c19_0 : List (Nat × Instr × Nat) := [(0, .iconst 0, 1), (1, .istore 4, 2), (3, .iload_n 1, 1), (4, .iconst 2, 1), (5, .if_icmp .ne 8, 3), (8, .bipush 10, 2), (10, .goto 4, 3), (13, .iconst 1, 1), (14, .istore 5, 2), (16, .iconst 0, 1), (17, .istore 6, 2), (19, .iload 6, 2), (21, .iload_n 1, 1), (22, .if_icmp .ge 84, 3), (25, .aload_n 0, 1), (26, .invokevirtual 32, 3), (29, .bipush 48, 2), (31, .isub, 1), (32, .istore 7, 2), (34, .iload 7, 2), (36, .ifCond .lt 10, 3), (39, .iload 7, 2), (41, .bipush 9, 2), (43, .if_icmp .le 5, 3), (46, .iconst (-1), 1), (47, .ireturn, 1), (48, .iload 4, 2), (50, .bipush 10, 2), (52, .imul, 1), (53, .iload 7, 2), (55, .iadd, 1), (56, .istore 4, 2), (58, .iload 4, 2), (60, .iload 5, 2), (62, .imul, 1), (63, .iload 5, 2), (65, .iadd, 1), (66, .iconst 1, 1), (67, .isub, 1), (68, .iload_n 2, 1)]
def am_c19_1 : List (Nat × Instr × Nat) := [(69, .if_icmp .lt 12, 3), (72, .iload 4, 2), (74, .iload 5, 2), (76, .imul, 1), (77, .iload_n 3, 1), (78, .if_icmp .le 5, 3), (81, .iconst (-1), 1), (82, .ireturn, 1), (83, .aload_n 0, 1), (84, .dup, 1), (85, .getfield 23, 3), (88, .iconst 1, 1), (89, .iadd, 1), (90, .putfield 23, 3), (93, .iload 5, 2), (95, .bipush 10, 2), (97, .idiv, 1), (98, .istore 5, 2), (100, .iinc 6 1, 3), (103, .goto (-84), 3), (106, .iload 4, 2), (108, .ireturn, 1)]
def am_c19 : List (Nat × Instr × Nat) := am_c19_0 ++ (am_c19_1)
def am_c20 : List (Nat × Instr × Nat) := [(0, .aload_n 0, 1), (1, .invokespecial 3, 3), (4, .aload_n 0, 1), (5, .bipush 24, 2), (7, .newarray .int, 2), (9, .putfield 9, 3), (12, .aload_n 0, 1), (13, .bipush 24, 2), (15, .newarray .int, 2), (17, .putfield 15, 3), (20, .aload_n 0, 1), (21, .bipush 24, 2), (23, .newarray .int, 2), (25, .putfield 18, 3), (28, .aload_n 0, 1), (29, .bipush 24, 2), (31, .newarray .int, 2), (33, .putfield 21, 3), (36, .aload_n 0, 1), (37, .bipush 24, 2), (39, .newarray .int, 2), (41, .putfield 24, 3), (44, .aload_n 0, 1), (45, .iconst 4, 1), (46, .newarray .int, 2), (48, .putfield 27, 3), (51, .aload_n 0, 1), (52, .iconst 4, 1), (53, .newarray .int, 2), (55, .putfield 30, 3), (58, .aload_n 0, 1), (59, .invokevirtual 33, 3), (62, .return_, 1)]
def am_c21_0 : List (Nat × Instr × Nat) := [(0, .aload_n 0, 1), (1, .getfield 9, 3), (4, .iconst 0, 1), (5, .invokestatic 36, 3), (8, .aload_n 0, 1), (9, .getfield 15, 3), (12, .iconst (-1), 1), (13, .invokestatic 36, 3), (16, .aload_n 0, 1), (17, .getfield 18, 3), (20, .iconst (-1), 1), (21, .invokestatic 36, 3), (24, .aload_n 0, 1), (25, .getfield 21, 3), (28, .iconst (-1), 1), (29, .invokestatic 36, 3), (32, .aload_n 0, 1), (33, .getfield 24, 3), (36, .iconst (-1), 1), (37, .invokestatic 36, 3), (40, .aload_n 0, 1), (41, .getfield 27, 3), (44, .iconst (-1), 1), (45, .invokestatic 36, 3), (48, .aload_n 0, 1), (49, .getfield 30, 3), (52, .iconst 0, 1), (53, .invokestatic 36, 3), (56, .aload_n 0, 1), (57, .iconst 0, 1), (58, .putfield 40, 3), (61, .aload_n 0, 1), (62, .iconst 0, 1), (63, .putfield 44, 3), (66, .aload_n 0, 1), (67, .iconst 0, 1), (68, .putfield 47, 3), (71, .aload_n 0, 1), (72, .iconst 0, 1), (73, .putfield 50, 3)]
def am_c21_1 : List (Nat × Instr × Nat) := [(76, .aload_n 0, 1), (77, .iconst 0, 1), (78, .putfield 53, 3), (81, .aload_n 0, 1), (82, .iconst 0, 1), (83, .putfield 56, 3), (86, .aload_n 0, 1), (87, .iconst 0, 1), (88, .putfield 59, 3), (91, .aload_n 0, 1), (92, .iconst 0, 1), (93, .putfield 62, 3), (96, .aload_n 0, 1), (97, .iconst 0, 1), (98, .putfield 65, 3), (101, .aload_n 0, 1), (102, .bipush 40, 2), (104, .putfield 68, 3), (107, .return_, 1)]
def am_c21 : List (Nat × Instr × Nat) := am_c21_0 ++ (am_c21_1)
def am_c22_0 : List (Nat × Instr × Nat) := [(0, .aload_n 1, 1), (1, .getfield 9, 3), (4, .aload_n 0, 1), (5, .getfield 9, 3), (8, .invokestatic 71, 3), (11, .aload_n 1, 1), (12, .getfield 15, 3), (15, .aload_n 0, 1), (16, .getfield 15, 3), (19, .invokestatic 71, 3), (22, .aload_n 1, 1), (23, .getfield 18, 3), (26, .aload_n 0, 1), (27, .getfield 18, 3), (30, .invokestatic 71, 3), (33, .aload_n 1, 1), (34, .getfield 21, 3), (37, .aload_n 0, 1), (38, .getfield 21, 3), (41, .invokestatic 71, 3), (44, .aload_n 1, 1), (45, .getfield 24, 3), (48, .aload_n 0, 1), (49, .getfield 24, 3), (52, .invokestatic 71, 3), (55, .aload_n 1, 1), (56, .getfield 27, 3), (59, .aload_n 0, 1), (60, .getfield 27, 3), (63, .invokestatic 71, 3), (66, .aload_n 1, 1), (67, .getfield 30, 3), (70, .aload_n 0, 1), (71, .getfield 30, 3), (74, .invokestatic 71, 3), (77, .aload_n 0, 1), (78, .aload_n 1, 1), (79, .getfield 40, 3), (82, .putfield 40, 3), (85, .aload_n 0, 1)]
def am_c22_1 : List (Nat × Instr × Nat) := [(86, .aload_n 1, 1), (87, .getfield 44, 3), (90, .putfield 44, 3), (93, .aload_n 0, 1), (94, .aload_n 1, 1), (95, .getfield 47, 3), (98, .putfield 47, 3), (101, .aload_n 0, 1), (102, .aload_n 1, 1), (103, .getfield 50, 3), (106, .putfield 50, 3), (109, .aload_n 0, 1), (110, .aload_n 1, 1), (111, .getfield 53, 3), (114, .putfield 53, 3), (117, .aload_n 0, 1), (118, .aload_n 1, 1), (119, .getfield 56, 3), (122, .putfield 56, 3), (125, .aload_n 0, 1), (126, .aload_n 1, 1), (127, .getfield 59, 3), (130, .putfield 59, 3), (133, .aload_n 0, 1), (134, .aload_n 1, 1), (135, .getfield 62, 3), (138, .putfield 62, 3), (141, .aload_n 0, 1), (142, .aload_n 1, 1), (143, .getfield 65, 3), (146, .putfield 65, 3), (149, .aload_n 0, 1), (150, .aload_n 1, 1), (151, .getfield 68, 3), (154, .putfield 68, 3), (157, .return_, 1)]
def am_c22 : List (Nat × Instr × Nat) := am_c22_0 ++ (am_c22_1)
def am_c23 : List (Nat × Instr × Nat) := [(0, .iload_n 1, 1), (1, .ifCond .lt 15, 3), (4, .iload_n 1, 1), (5, .aload_n 0, 1), (6, .getfield 40, 3), (9, .if_icmp .ge 7, 3), (12, .iconst 1, 1), (13, .goto 4, 3), (16, .iconst 0, 1), (17, .ireturn, 1)]
def am_c24 : List (Nat × Instr × Nat) := [(0, .aload_n 0, 1), (1, .iload_n 1, 1), (2, .invokevirtual 75, 3), (5, .ifCond .eq 20, 3), (8, .aload_n 0, 1), (9, .iload_n 2, 1), (10, .invokevirtual 75, 3), (13, .ifCond .eq 12, 3), (16, .iload_n 1, 1), (17, .iload_n 2, 1), (18, .if_icmp .eq 7, 3), (21, .iconst 1, 1), (22, .goto 4, 3), (25, .iconst 0, 1), (26, .ireturn, 1)]
def am_c25 : List (Nat × Instr × Nat) := [(0, .aload_n 0, 1), (1, .getfield 15, 3), (4, .iload_n 1, 1), (5, .invokestatic 79, 3), (8, .iconst (-1), 1), (9, .if_icmp .eq 7, 3), (12, .iconst 1, 1), (13, .goto 4, 3), (16, .iconst 0, 1), (17, .ireturn, 1)]
def am_c26 : List (Nat × Instr × Nat) := [(0, .aload_n 0, 1), (1, .getfield 40, 3), (4, .iconst 4, 1), (5, .if_icmp .ge 7, 3), (8, .iconst 1, 1), (9, .goto 4, 3), (12, .iconst 0, 1), (13, .ireturn, 1)]
def am_c27 : List (Nat × Instr × Nat) := [(0, .aload_n 0, 1), (1, .getfield 44, 3), (4, .bipush 24, 2), (6, .if_icmp .ge 7, 3), (9, .iconst 1, 1), (10, .goto 4, 3), (13, .iconst 0, 1), (14, .ireturn, 1)]
def am_c28 : List (Nat × Instr × Nat) := [(0, .aload_n 0, 1), (1, .getfield 27, 3), (4, .iload_n 1, 1), (5, .invokestatic 79, 3), (8, .ireturn, 1)]
def am_c29 : List (Nat × Instr × Nat) := [(0, .aload_n 0, 1), (1, .iload_n 1, 1), (2, .invokevirtual 75, 3), (5, .ifCond .eq 24, 3), (8, .aload_n 0, 1), (9, .iload_n 2, 1), (10, .invokevirtual 83, 3), (13, .ifCond .eq 16, 3), (16, .aload_n 0, 1), (17, .iload_n 1, 1), (18, .invokevirtual 86, 3), (21, .iload_n 2, 1), (22, .if_icmp .ne 7, 3), (25, .iconst 1, 1), (26, .goto 4, 3), (29, .iconst 0, 1), (30, .ireturn, 1)]
def am_c30 : List (Nat × Instr × Nat) := [(0, .aload_n 0, 1), (1, .getfield 9, 3), (4, .aload_n 0, 1), (5, .iload_n 1, 1), (6, .invokevirtual 86, 3), (9, .invokestatic 79, 3), (12, .ireturn, 1)]
def am_c31 : List (Nat × Instr × Nat) := [(0, .aload_n 0, 1), (1, .getfield 30, 3), (4, .iload_n 1, 1), (5, .invokestatic 79, 3), (8, .iconst 1, 1), (9, .if_icmp .ne 7, 3), (12, .iconst 1, 1), (13, .goto 4, 3), (16, .iconst 0, 1), (17, .ireturn, 1)]
def am_c32 : List (Nat × Instr × Nat) := [(0, .iconst 0, 1), (1, .istore_n 2, 1), (2, .iconst 0, 1), (3, .istore_n 3, 1), (4, .iload_n 3, 1), (5, .bipush 24, 2), (7, .if_icmp .ge 22, 3), (10, .aload_n 0, 1), (11, .getfield 15, 3), (14, .iload_n 3, 1), (15, .iaload, 1), (16, .iload_n 1, 1), (17, .if_icmp .ne 6, 3), (20, .iinc 2 1, 3), (23, .iinc 3 1, 3), (26, .goto (-22), 3), (29, .iload_n 2, 1), (30, .ireturn, 1)]
def am_c33 : List (Nat × Instr × Nat) := [(0, .aload_n 0, 1), (1, .getfield 44, 3), (4, .aload_n 0, 1), (5, .getfield 47, 3), (8, .isub, 1), (9, .aload_n 0, 1), (10, .getfield 50, 3), (13, .isub, 1), (14, .ireturn, 1)]
def am_c34 : List (Nat × Instr × Nat) := [(0, .iconst 0, 1), (1, .istore_n 2, 1), (2, .iconst 0, 1), (3, .istore_n 3, 1), (4, .iload_n 3, 1), (5, .bipush 24, 2), (7, .if_icmp .ge 28, 3), (10, .aload_n 0, 1), (11, .getfield 15, 3), (14, .iload_n 3, 1), (15, .iaload, 1), (16, .iload_n 1, 1), (17, .if_icmp .ne 12, 3), (20, .iload_n 2, 1), (21, .aload_n 0, 1), (22, .getfield 9, 3), (25, .iload_n 3, 1), (26, .iaload, 1), (27, .iadd, 1), (28, .istore_n 2, 1), (29, .iinc 3 1, 3), (32, .goto (-28), 3), (35, .iload_n 2, 1), (36, .ireturn, 1)]
def am_c35 : List (Nat × Instr × Nat) := [(0, .iconst 0, 1), (1, .istore_n 1, 1), (2, .iconst 0, 1), (3, .istore_n 2, 1), (4, .iload_n 2, 1), (5, .aload_n 0, 1), (6, .getfield 40, 3), (9, .if_icmp .ge 17, 3), (12, .iload_n 1, 1), (13, .aload_n 0, 1), (14, .iload_n 2, 1), (15, .invokevirtual 90, 3), (18, .iadd, 1), (19, .istore_n 1, 1), (20, .iinc 2 1, 3), (23, .goto (-19), 3), (26, .iload_n 1, 1), (27, .ireturn, 1)]
def am_c36 : List (Nat × Instr × Nat) := [(0, .iconst 0, 1), (1, .istore_n 2, 1), (2, .iconst 0, 1), (3, .istore_n 3, 1), (4, .iload_n 3, 1), (5, .bipush 24, 2), (7, .if_icmp .ge 46, 3), (10, .aload_n 0, 1), (11, .getfield 15, 3), (14, .iload_n 3, 1), (15, .iaload, 1), (16, .iload_n 1, 1), (17, .if_icmp .ne 30, 3), (20, .aload_n 0, 1), (21, .getfield 18, 3), (24, .iload_n 3, 1), (25, .iaload, 1), (26, .iconst (-1), 1), (27, .if_icmp .eq 20, 3), (30, .aload_n 0, 1), (31, .iload_n 3, 1), (32, .aload_n 0, 1), (33, .getfield 18, 3), (36, .iload_n 3, 1), (37, .iaload, 1), (38, .invokevirtual 93, 3), (41, .ifCond .eq 6, 3), (44, .iinc 2 1, 3), (47, .iinc 3 1, 3), (50, .goto (-46), 3), (53, .iload_n 2, 1), (54, .ireturn, 1)]
def am_c37 : List (Nat × Instr × Nat) := [(0, .iconst 0, 1), (1, .istore_n 1, 1), (2, .iconst 0, 1), (3, .istore_n 2, 1), (4, .iload_n 2, 1), (5, .aload_n 0, 1), (6, .getfield 40, 3), (9, .if_icmp .ge 17, 3), (12, .iload_n 1, 1), (13, .aload_n 0, 1), (14, .iload_n 2, 1), (15, .invokevirtual 97, 3), (18, .iadd, 1), (19, .istore_n 1, 1), (20, .iinc 2 1, 3), (23, .goto (-19), 3), (26, .iload_n 1, 1), (27, .ireturn, 1)]
def am_c38 : List (Nat × Instr × Nat) := [(0, .iconst (-1), 1), (1, .istore_n 2, 1), (2, .iconst 0, 1), (3, .istore_n 3, 1), (4, .iload_n 3, 1), (5, .bipush 24, 2), (7, .if_icmp .ge 39, 3), (10, .aload_n 0, 1), (11, .getfield 15, 3), (14, .iload_n 3, 1), (15, .iaload, 1), (16, .iload_n 1, 1), (17, .if_icmp .ne 23, 3), (20, .aload_n 0, 1), (21, .iload_n 3, 1), (22, .invokevirtual 100, 3), (25, .istore 4, 2), (27, .iload 4, 2), (29, .iload_n 2, 1), (30, .if_icmp .le 8, 3), (33, .iload 4, 2), (35, .goto 4, 3), (38, .iload_n 2, 1), (39, .istore_n 2, 1), (40, .iinc 3 1, 3), (43, .goto (-39), 3), (46, .iload_n 2, 1), (47, .ireturn, 1)]
def am_c39 : List (Nat × Instr × Nat) := [(0, .aload_n 0, 1), (1, .iload_n 1, 1), (2, .invokevirtual 86, 3), (5, .iconst (-1), 1), (6, .if_icmp .ne 5, 3), (9, .iconst 1, 1), (10, .ireturn, 1), (11, .aload_n 0, 1), (12, .iload_n 1, 1), (13, .invokevirtual 97, 3), (16, .ifCond .le 7, 3), (19, .iconst 2, 1), (20, .goto 4, 3), (23, .iconst 0, 1), (24, .ireturn, 1)]
def am_c40 : List (Nat × Instr × Nat) := [(0, .iconst 0, 1), (1, .istore_n 2, 1), (2, .aload_n 0, 1), (3, .getfield 18, 3), (6, .iload_n 1, 1), (7, .invokestatic 79, 3), (10, .istore_n 3, 1), (11, .iconst 0, 1), (12, .istore 4, 2), (14, .iload 4, 2), (16, .bipush 24, 2), (18, .if_icmp .ge 26, 3), (21, .iload_n 3, 1), (22, .iconst (-1), 1), (23, .if_icmp .eq 21, 3), (26, .iinc 2 1, 3), (29, .aload_n 0, 1), (30, .getfield 18, 3), (33, .iload_n 3, 1), (34, .invokestatic 79, 3), (37, .istore_n 3, 1), (38, .iinc 4 1, 3), (41, .goto (-27), 3), (44, .iload_n 2, 1), (45, .ireturn, 1)]
def am_c41 : List (Nat × Instr × Nat) := [(0, .iconst 0, 1), (1, .istore_n 2, 1), (2, .iconst 0, 1), (3, .istore_n 3, 1), (4, .iload_n 3, 1), (5, .bipush 24, 2), (7, .if_icmp .ge 31, 3), (10, .aload_n 0, 1), (11, .getfield 15, 3), (14, .iload_n 3, 1), (15, .iaload, 1), (16, .iconst (-1), 1), (17, .if_icmp .eq 15, 3), (20, .aload_n 0, 1), (21, .iload_n 3, 1), (22, .iload_n 1, 1), (23, .invokevirtual 103, 3), (26, .ifCond .eq 6, 3), (29, .iinc 2 1, 3), (32, .iinc 3 1, 3), (35, .goto (-31), 3), (38, .iload_n 2, 1), (39, .ireturn, 1)]
def am_c42 : List (Nat × Instr × Nat) := [(0, .aload_n 0, 1), (1, .getfield 18, 3), (4, .iload_n 1, 1), (5, .invokestatic 79, 3), (8, .istore_n 3, 1), (9, .iconst 0, 1), (10, .istore 4, 2), (12, .iload 4, 2), (14, .bipush 24, 2), (16, .if_icmp .ge 28, 3), (19, .iload_n 3, 1), (20, .iconst (-1), 1), (21, .if_icmp .eq 23, 3), (24, .iload_n 3, 1), (25, .iload_n 2, 1), (26, .if_icmp .eq 18, 3), (29, .aload_n 0, 1), (30, .getfield 18, 3), (33, .iload_n 3, 1), (34, .invokestatic 79, 3), (37, .istore_n 3, 1), (38, .iinc 4 1, 3), (41, .goto (-29), 3), (44, .iload_n 3, 1), (45, .iload_n 2, 1), (46, .if_icmp .ne 7, 3), (49, .iconst 1, 1), (50, .goto 4, 3), (53, .iconst 0, 1), (54, .ireturn, 1)]
def am_c43 : List (Nat × Instr × Nat) := [(0, .iload_n 1, 1), (1, .ifCond .lt 19, 3), (4, .iload_n 1, 1), (5, .bipush 24, 2), (7, .if_icmp .ge 13, 3), (10, .iload_n 2, 1), (11, .ifCond .lt 9, 3), (14, .iload_n 2, 1), (15, .bipush 24, 2), (17, .if_icmp .lt 5, 3), (20, .iconst 0, 1), (21, .ireturn, 1), (22, .aload_n 0, 1), (23, .getfield 9, 3), (26, .iload_n 1, 1), (27, .iaload, 1), (28, .aload_n 0, 1), (29, .getfield 9, 3), (32, .iload_n 2, 1), (33, .iaload, 1), (34, .if_icmp .lt 23, 3), (37, .aload_n 0, 1), (38, .getfield 9, 3), (41, .iload_n 1, 1), (42, .iaload, 1), (43, .aload_n 0, 1), (44, .getfield 9, 3), (47, .iload_n 2, 1), (48, .iaload, 1), (49, .if_icmp .ne 12, 3), (52, .iload_n 1, 1), (53, .iload_n 2, 1), (54, .if_icmp .ge 7, 3), (57, .iconst 1, 1), (58, .goto 4, 3), (61, .iconst 0, 1), (62, .ireturn, 1)]
def am_c44 : List (Nat × Instr × Nat) := [(0, .aload_n 0, 1), (1, .iload_n 1, 1), (2, .invokevirtual 86, 3), (5, .istore_n 3, 1), (6, .iconst 0, 1), (7, .istore 4, 2), (9, .iconst 0, 1), (10, .istore 5, 2), (12, .iload 5, 2), (14, .iload_n 2, 1), (15, .if_icmp .ge 31, 3), (18, .iload 5, 2), (20, .bipush 24, 2), (22, .if_icmp .ge 24, 3), (25, .iload 4, 2), (27, .iconst 1, 1), (28, .iload_n 3, 1), (29, .ishl, 1), (30, .ior, 1), (31, .istore 4, 2), (33, .aload_n 0, 1), (34, .iload 4, 2), (36, .invokevirtual 106, 3), (39, .istore_n 3, 1), (40, .iinc 5 1, 3), (43, .goto (-31), 3), (46, .iload_n 3, 1), (47, .ireturn, 1)]
def am_c45_0 : List (Nat × Instr × Nat) := [(0, .iconst (-1), 1), (1, .istore_n 2, 1), (2, .iconst 0, 1), (3, .istore_n 3, 1), (4, .iload_n 3, 1), (5, .bipush 24, 2), (7, .if_icmp .ge 69, 3), (10, .iload_n 1, 1), (11, .iload_n 3, 1), (12, .ishr, 1), (13, .iconst 1, 1), (14, .iand, 1), (15, .ifCond .ne 31, 3), (18, .aload_n 0, 1), (19, .getfield 18, 3), (22, .iload_n 3, 1), (23, .iaload, 1), (24, .iconst (-1), 1), (25, .if_icmp .eq 21, 3), (28, .iload_n 1, 1), (29, .aload_n 0, 1), (30, .getfield 18, 3), (33, .iload_n 3, 1), (34, .iaload, 1), (35, .ishr, 1), (36, .iconst 1, 1), (37, .iand, 1), (38, .iconst 1, 1), (39, .if_icmp .ne 7, 3), (42, .iconst 1, 1), (43, .goto 4, 3), (46, .iconst 0, 1), (47, .istore 4, 2), (49, .iload 4, 2), (51, .ifCond .eq 19, 3), (54, .iload_n 2, 1), (55, .iconst (-1), 1), (56, .if_icmp .eq 12, 3), (59, .aload_n 0, 1), (60, .iload_n 3, 1)]
def am_c45_1 : List (Nat × Instr × Nat) := [(61, .iload_n 2, 1), (62, .invokevirtual 93, 3), (65, .ifCond .eq 5, 3), (68, .iload_n 3, 1), (69, .istore_n 2, 1), (70, .iinc 3 1, 3), (73, .goto (-69), 3), (76, .iload_n 2, 1), (77, .ireturn, 1)]
def am_c45 : List (Nat × Instr × Nat) := am_c45_0 ++ (am_c45_1)
def am_c46 : List (Nat × Instr × Nat) := [(0, .iconst 0, 1), (1, .istore_n 3, 1), (2, .iload_n 3, 1), (3, .bipush 24, 2), (5, .if_icmp .ge 31, 3), (8, .aload_n 0, 1), (9, .getfield 15, 3), (12, .iload_n 3, 1), (13, .iaload, 1), (14, .iload_n 1, 1), (15, .if_icmp .ne 15, 3), (18, .aload_n 0, 1), (19, .iload_n 3, 1), (20, .iload_n 1, 1), (21, .invokevirtual 109, 3), (24, .iload_n 2, 1), (25, .if_icmp .ne 5, 3), (28, .iload_n 3, 1), (29, .ireturn, 1), (30, .iinc 3 1, 3), (33, .goto (-31), 3), (36, .iconst (-1), 1), (37, .ireturn, 1)]
def am_c47 : List (Nat × Instr × Nat) := [(0, .iconst 0, 1), (1, .istore_n 3, 1), (2, .iconst 0, 1), (3, .istore 4, 2), (5, .iload 4, 2), (7, .bipush 24, 2), (9, .if_icmp .ge 33, 3), (12, .aload_n 0, 1), (13, .getfield 15, 3), (16, .iload 4, 2), (18, .iaload, 1), (19, .iload_n 2, 1), (20, .if_icmp .ne 16, 3), (23, .aload_n 0, 1), (24, .iload 4, 2), (26, .iload_n 1, 1), (27, .invokevirtual 93, 3), (30, .ifCond .eq 6, 3), (33, .iinc 3 1, 3), (36, .iinc 4 1, 3), (39, .goto (-34), 3), (42, .iload_n 3, 1), (43, .ireturn, 1)]
def am_c48 : List (Nat × Instr × Nat) := [(0, .aload_n 0, 1), (1, .getfield 40, 3), (4, .istore_n 1, 1), (5, .aload_n 0, 1), (6, .dup, 1), (7, .getfield 40, 3), (10, .iconst 1, 1), (11, .iadd, 1), (12, .putfield 40, 3), (15, .iload_n 1, 1), (16, .ireturn, 1)]
def am_c49 : List (Nat × Instr × Nat) := [(0, .aload_n 0, 1), (1, .getfield 44, 3), (4, .istore_n 3, 1), (5, .aload_n 0, 1), (6, .dup, 1), (7, .getfield 44, 3), (10, .iconst 1, 1), (11, .iadd, 1), (12, .putfield 44, 3), (15, .aload_n 0, 1), (16, .getfield 9, 3), (19, .iload_n 3, 1), (20, .iload_n 2, 1), (21, .invokestatic 113, 3), (24, .aload_n 0, 1), (25, .getfield 15, 3), (28, .iload_n 3, 1), (29, .iload_n 1, 1), (30, .invokestatic 113, 3), (33, .aload_n 0, 1), (34, .iload_n 1, 1), (35, .iload_n 3, 1), (36, .invokevirtual 117, 3), (39, .iload_n 3, 1), (40, .ireturn, 1)]
def am_c50 : List (Nat × Instr × Nat) := [(0, .aload_n 0, 1), (1, .getfield 27, 3), (4, .iload_n 1, 1), (5, .aload_n 0, 1), (6, .aload_n 0, 1), (7, .iload_n 1, 1), (8, .invokevirtual 86, 3), (11, .iload_n 2, 1), (12, .invokevirtual 121, 3), (15, .invokestatic 113, 3), (18, .return_, 1)]
def am_c51_0 : List (Nat × Instr × Nat) := [(0, .iload_n 1, 1), (1, .istore_n 3, 1), (2, .iload_n 2, 1), (3, .istore 4, 2), (5, .iconst (-1), 1), (6, .istore 5, 2), (8, .iconst (-1), 1), (9, .istore 6, 2), (11, .iconst 0, 1), (12, .istore 7, 2), (14, .iload 7, 2), (16, .bipush 24, 2), (18, .if_icmp .ge 131, 3), (21, .iload_n 3, 1), (22, .iconst (-1), 1), (23, .if_icmp .eq 126, 3), (26, .iload 4, 2), (28, .iconst (-1), 1), (29, .if_icmp .eq 120, 3), (32, .aload_n 0, 1), (33, .dup, 1), (34, .getfield 53, 3), (37, .iconst 1, 1), (38, .iadd, 1), (39, .putfield 53, 3), (42, .aload_n 0, 1), (43, .iload_n 3, 1), (44, .iload 4, 2), (46, .invokevirtual 93, 3), (49, .ifCond .eq 7, 3), (52, .iload_n 3, 1), (53, .goto 5, 3), (56, .iload 4, 2), (58, .istore 8, 2), (60, .iload 8, 2), (62, .iload_n 3, 1), (63, .if_icmp .ne 8, 3), (66, .iload 4, 2), (68, .goto 4, 3), (71, .iload_n 3, 1)]
def am_c51_1 : List (Nat × Instr × Nat) := [(72, .istore 4, 2), (74, .aload_n 0, 1), (75, .getfield 24, 3), (78, .iload 8, 2), (80, .invokestatic 79, 3), (83, .istore_n 3, 1), (84, .aload_n 0, 1), (85, .getfield 24, 3), (88, .iload 8, 2), (90, .aload_n 0, 1), (91, .getfield 21, 3), (94, .iload 8, 2), (96, .invokestatic 79, 3), (99, .invokestatic 113, 3), (102, .aload_n 0, 1), (103, .getfield 21, 3), (106, .iload 6, 2), (108, .iload 8, 2), (110, .invokestatic 113, 3), (113, .aload_n 0, 1), (114, .getfield 18, 3), (117, .iload 8, 2), (119, .iload 6, 2), (121, .invokestatic 113, 3), (124, .iload 5, 2), (126, .iconst (-1), 1), (127, .if_icmp .ne 8, 3), (130, .iload 8, 2), (132, .goto 5, 3), (135, .iload 5, 2), (137, .istore 5, 2), (139, .iload 8, 2), (141, .istore 6, 2), (143, .iinc 7 1, 3), (146, .goto (-132), 3), (149, .iload_n 3, 1), (150, .iconst (-1), 1), (151, .if_icmp .ne 8, 3), (154, .iload 4, 2), (156, .goto 4, 3)]
def am_c51_2 : List (Nat × Instr × Nat) := [(159, .iload_n 3, 1), (160, .istore 7, 2), (162, .aload_n 0, 1), (163, .getfield 21, 3), (166, .iload 6, 2), (168, .iload 7, 2), (170, .invokestatic 113, 3), (173, .aload_n 0, 1), (174, .getfield 18, 3), (177, .iload 7, 2), (179, .iload 6, 2), (181, .invokestatic 113, 3), (184, .iload 5, 2), (186, .iconst (-1), 1), (187, .if_icmp .ne 8, 3), (190, .iload 7, 2), (192, .goto 5, 3), (195, .iload 5, 2), (197, .ireturn, 1)]
def am_c51 : List (Nat × Instr × Nat) := am_c51_0 ++ (am_c51_1 ++ (am_c51_2))
def am_c52_0 : List (Nat × Instr × Nat) := [(0, .aload_n 0, 1), (1, .getfield 53, 3), (4, .istore_n 2, 1), (5, .aload_n 0, 1), (6, .getfield 18, 3), (9, .iload_n 1, 1), (10, .invokestatic 79, 3), (13, .istore_n 3, 1), (14, .aload_n 0, 1), (15, .aload_n 0, 1), (16, .getfield 21, 3), (19, .iload_n 1, 1), (20, .invokestatic 79, 3), (23, .aload_n 0, 1), (24, .getfield 24, 3), (27, .iload_n 1, 1), (28, .invokestatic 79, 3), (31, .invokevirtual 121, 3), (34, .istore 4, 2), (36, .aload_n 0, 1), (37, .getfield 18, 3), (40, .iload 4, 2), (42, .iload_n 3, 1), (43, .invokestatic 113, 3), (46, .iload_n 3, 1), (47, .iconst (-1), 1), (48, .if_icmp .ne 23, 3), (51, .aload_n 0, 1), (52, .getfield 27, 3), (55, .aload_n 0, 1), (56, .getfield 15, 3), (59, .iload_n 1, 1), (60, .invokestatic 79, 3), (63, .iload 4, 2), (65, .invokestatic 113, 3), (68, .goto 38, 3), (71, .aload_n 0, 1), (72, .getfield 21, 3), (75, .iload_n 3, 1), (76, .invokestatic 79, 3)]
def am_c52_1 : List (Nat × Instr × Nat) := [(79, .iload_n 1, 1), (80, .if_icmp .ne 16, 3), (83, .aload_n 0, 1), (84, .getfield 21, 3), (87, .iload_n 3, 1), (88, .iload 4, 2), (90, .invokestatic 113, 3), (93, .goto 13, 3), (96, .aload_n 0, 1), (97, .getfield 24, 3), (100, .iload_n 3, 1), (101, .iload 4, 2), (103, .invokestatic 113, 3), (106, .aload_n 0, 1), (107, .getfield 15, 3), (110, .iload_n 1, 1), (111, .iconst (-1), 1), (112, .invokestatic 113, 3), (115, .aload_n 0, 1), (116, .iload_n 1, 1), (117, .invokevirtual 124, 3), (120, .aload_n 0, 1), (121, .getfield 53, 3), (124, .iload_n 2, 1), (125, .isub, 1), (126, .ireturn, 1)]
def am_c52 : List (Nat × Instr × Nat) := am_c52_0 ++ (am_c52_1)
def am_c53 : List (Nat × Instr × Nat) := [(0, .aload_n 0, 1), (1, .getfield 18, 3), (4, .iload_n 1, 1), (5, .iconst (-1), 1), (6, .invokestatic 113, 3), (9, .aload_n 0, 1), (10, .getfield 21, 3), (13, .iload_n 1, 1), (14, .iconst (-1), 1), (15, .invokestatic 113, 3), (18, .aload_n 0, 1), (19, .getfield 24, 3), (22, .iload_n 1, 1), (23, .iconst (-1), 1), (24, .invokestatic 113, 3), (27, .return_, 1)]
def am_c54 : List (Nat × Instr × Nat) := [(0, .aload_n 0, 1), (1, .dup, 1), (2, .getfield 50, 3), (5, .iconst 1, 1), (6, .iadd, 1), (7, .putfield 50, 3), (10, .aload_n 0, 1), (11, .iload_n 1, 1), (12, .invokevirtual 128, 3), (15, .ireturn, 1)]
def am_c55 : List (Nat × Instr × Nat) := [(0, .aload_n 0, 1), (1, .iload_n 1, 1), (2, .invokevirtual 131, 3), (5, .istore_n 2, 1), (6, .aload_n 0, 1), (7, .dup, 1), (8, .getfield 47, 3), (11, .iconst 1, 1), (12, .iadd, 1), (13, .putfield 47, 3), (16, .iload_n 2, 1), (17, .aload_n 0, 1), (18, .getfield 68, 3), (21, .if_icmp .gt 19, 3), (24, .aload_n 0, 1), (25, .dup, 1), (26, .getfield 56, 3), (29, .bipush 100, 2), (31, .iload_n 2, 1), (32, .isub, 1), (33, .iadd, 1), (34, .putfield 56, 3), (37, .goto 13, 3), (40, .aload_n 0, 1), (41, .dup, 1), (42, .getfield 59, 3), (45, .iconst 1, 1), (46, .iadd, 1), (47, .putfield 59, 3), (50, .aload_n 0, 1), (51, .aload_n 0, 1), (52, .iload_n 1, 1), (53, .invokevirtual 86, 3), (56, .invokevirtual 128, 3), (59, .ireturn, 1)]
def am_c56 : List (Nat × Instr × Nat) := [(0, .aload_n 0, 1), (1, .getfield 53, 3), (4, .istore_n 2, 1), (5, .iconst 0, 1), (6, .istore_n 3, 1), (7, .iload_n 3, 1), (8, .bipush 24, 2), (10, .if_icmp .ge 23, 3), (13, .aload_n 0, 1), (14, .iload_n 1, 1), (15, .invokevirtual 134, 3), (18, .ifCond .ne 15, 3), (21, .aload_n 0, 1), (22, .iload_n 1, 1), (23, .invokevirtual 137, 3), (26, .pop, 1), (27, .iinc 3 1, 3), (30, .goto (-23), 3), (33, .aload_n 0, 1), (34, .getfield 53, 3), (37, .iload_n 2, 1), (38, .isub, 1), (39, .ireturn, 1)]
def am_c57_0 : List (Nat × Instr × Nat) := [(0, .aload_n 0, 1), (1, .getfield 53, 3), (4, .istore_n 3, 1), (5, .aload_n 0, 1), (6, .getfield 27, 3), (9, .iload_n 1, 1), (10, .aload_n 0, 1), (11, .aload_n 0, 1), (12, .iload_n 1, 1), (13, .invokevirtual 86, 3), (16, .aload_n 0, 1), (17, .iload_n 2, 1), (18, .invokevirtual 86, 3), (21, .invokevirtual 121, 3), (24, .invokestatic 113, 3), (27, .aload_n 0, 1), (28, .getfield 27, 3), (31, .iload_n 2, 1), (32, .iconst (-1), 1), (33, .invokestatic 113, 3), (36, .iconst 0, 1), (37, .istore 4, 2), (39, .iload 4, 2), (41, .bipush 24, 2), (43, .if_icmp .ge 28, 3), (46, .aload_n 0, 1), (47, .getfield 15, 3), (50, .iload 4, 2), (52, .iaload, 1), (53, .iload_n 2, 1), (54, .if_icmp .ne 11, 3), (57, .aload_n 0, 1), (58, .getfield 15, 3), (61, .iload 4, 2), (63, .iload_n 1, 1), (64, .iastore, 1), (65, .iinc 4 1, 3), (68, .goto (-29), 3), (71, .aload_n 0, 1), (72, .getfield 53, 3)]
def am_c57_1 : List (Nat × Instr × Nat) := [(75, .iload_n 3, 1), (76, .isub, 1), (77, .ireturn, 1)]
def am_c57 : List (Nat × Instr × Nat) := am_c57_0 ++ (am_c57_1)
def am_c58 : List (Nat × Instr × Nat) := [(0, .aload_n 0, 1), (1, .iload_n 1, 1), (2, .invokevirtual 140, 3), (5, .istore_n 3, 1), (6, .aload_n 0, 1), (7, .getfield 30, 3), (10, .iload_n 1, 1), (11, .iload_n 2, 1), (12, .ifCond .eq 7, 3), (15, .iconst 1, 1), (16, .goto 4, 3), (19, .iconst 0, 1), (20, .invokestatic 113, 3), (23, .iload_n 3, 1), (24, .ireturn, 1)]
def am_c59_0 : List (Nat × Instr × Nat) := [(0, .iconst 0, 1), (1, .istore_n 2, 1), (2, .iload_n 2, 1), (3, .bipush 24, 2), (5, .if_icmp .ge 73, 3), (8, .aload_n 0, 1), (9, .getfield 15, 3), (12, .iload_n 2, 1), (13, .iaload, 1), (14, .iconst (-1), 1), (15, .if_icmp .eq 57, 3), (18, .aload_n 0, 1), (19, .aload_n 0, 1), (20, .getfield 15, 3), (23, .iload_n 2, 1), (24, .iaload, 1), (25, .invokevirtual 140, 3), (28, .ifCond .eq 9, 3), (31, .iload_n 1, 1), (32, .iconst 4, 1), (33, .idiv, 1), (34, .goto 19, 3), (37, .aload_n 0, 1), (38, .iload_n 2, 1), (39, .invokevirtual 100, 3), (42, .iconst 1, 1), (43, .if_icmp .gt 7, 3), (46, .iload_n 1, 1), (47, .goto 6, 3), (50, .iload_n 1, 1), (51, .iconst 2, 1), (52, .idiv, 1), (53, .istore_n 3, 1), (54, .aload_n 0, 1), (55, .getfield 9, 3), (58, .iload_n 2, 1), (59, .iconst 0, 1), (60, .aload_n 0, 1), (61, .getfield 9, 3), (64, .iload_n 2, 1)]
def am_c59_1 : List (Nat × Instr × Nat) := [(65, .iaload, 1), (66, .iload_n 3, 1), (67, .isub, 1), (68, .invokestatic 143, 3), (71, .iastore, 1), (72, .iinc 2 1, 3), (75, .goto (-73), 3), (78, .return_, 1)]
def am_c59 : List (Nat × Instr × Nat) := am_c59_0 ++ (am_c59_1)
def am_c60_0 : List (Nat × Instr × Nat) := [(0, .iconst 0, 1), (1, .istore_n 2, 1), (2, .iload_n 2, 1), (3, .bipush 24, 2), (5, .if_icmp .ge 68, 3), (8, .aload_n 0, 1), (9, .getfield 15, 3), (12, .iload_n 2, 1), (13, .iaload, 1), (14, .iconst (-1), 1), (15, .if_icmp .eq 52, 3), (18, .aload_n 0, 1), (19, .aload_n 0, 1), (20, .getfield 15, 3), (23, .iload_n 2, 1), (24, .iaload, 1), (25, .invokevirtual 140, 3), (28, .ifCond .ne 39, 3), (31, .aload_n 0, 1), (32, .iload_n 2, 1), (33, .invokevirtual 100, 3), (36, .iconst 1, 1), (37, .if_icmp .gt 7, 3), (40, .iload_n 1, 1), (41, .goto 6, 3), (44, .iload_n 1, 1), (45, .iconst 3, 1), (46, .idiv, 1), (47, .istore_n 3, 1), (48, .aload_n 0, 1), (49, .getfield 9, 3), (52, .iload_n 2, 1), (53, .bipush 99, 2), (55, .aload_n 0, 1), (56, .getfield 9, 3), (59, .iload_n 2, 1), (60, .iaload, 1), (61, .iload_n 3, 1), (62, .iadd, 1), (63, .invokestatic 148, 3)]
def am_c60_1 : List (Nat × Instr × Nat) := [(66, .iastore, 1), (67, .iinc 2 1, 3), (70, .goto (-68), 3), (73, .return_, 1)]
def am_c60 : List (Nat × Instr × Nat) := am_c60_0 ++ (am_c60_1)
def am_c61 : List (Nat × Instr × Nat) := [(0, .aload_n 0, 1), (1, .getfield 53, 3), (4, .istore_n 2, 1), (5, .aload_n 0, 1), (6, .getfield 27, 3), (9, .iload_n 1, 1), (10, .iconst (-1), 1), (11, .invokestatic 113, 3), (14, .iconst 0, 1), (15, .istore_n 3, 1), (16, .iload_n 3, 1), (17, .bipush 24, 2), (19, .if_icmp .ge 30, 3), (22, .aload_n 0, 1), (23, .getfield 15, 3), (26, .iload_n 3, 1), (27, .iaload, 1), (28, .iload_n 1, 1), (29, .if_icmp .ne 14, 3), (32, .aload_n 0, 1), (33, .iload_n 3, 1), (34, .invokevirtual 124, 3), (37, .aload_n 0, 1), (38, .iload_n 1, 1), (39, .iload_n 3, 1), (40, .invokevirtual 117, 3), (43, .iinc 3 1, 3), (46, .goto (-30), 3), (49, .aload_n 0, 1), (50, .getfield 53, 3), (53, .iload_n 2, 1), (54, .isub, 1), (55, .ireturn, 1)]
def am_c62 : List (Nat × Instr × Nat) := [(0, .aload_n 0, 1), (1, .getfield 56, 3), (4, .istore_n 2, 1), (5, .iconst 0, 1), (6, .istore_n 3, 1), (7, .iload_n 3, 1), (8, .iload_n 1, 1), (9, .if_icmp .ge 41, 3), (12, .aload_n 0, 1), (13, .invokevirtual 151, 3), (16, .istore 4, 2), (18, .iload 4, 2), (20, .iconst (-1), 1), (21, .if_icmp .ne 16, 3), (24, .aload_n 0, 1), (25, .dup, 1), (26, .getfield 62, 3), (29, .iconst 1, 1), (30, .iadd, 1), (31, .putfield 62, 3), (34, .goto 10, 3), (37, .aload_n 0, 1), (38, .iload 4, 2), (40, .invokevirtual 137, 3), (43, .pop, 1), (44, .iinc 3 1, 3), (47, .goto (-40), 3), (50, .aload_n 0, 1), (51, .getfield 56, 3), (54, .iload_n 2, 1), (55, .isub, 1), (56, .ireturn, 1)]
def am_c63 : List (Nat × Instr × Nat) := [(0, .iconst (-1), 1), (1, .istore_n 1, 1), (2, .iconst 0, 1), (3, .istore_n 2, 1), (4, .iload_n 2, 1), (5, .aload_n 0, 1), (6, .getfield 40, 3), (9, .if_icmp .ge 37, 3), (12, .aload_n 0, 1), (13, .iload_n 2, 1), (14, .invokevirtual 134, 3), (17, .ifCond .ne 23, 3), (20, .iload_n 1, 1), (21, .iconst (-1), 1), (22, .if_icmp .eq 16, 3), (25, .aload_n 0, 1), (26, .iload_n 2, 1), (27, .invokevirtual 131, 3), (30, .aload_n 0, 1), (31, .iload_n 1, 1), (32, .invokevirtual 131, 3), (35, .if_icmp .ge 5, 3), (38, .iload_n 2, 1), (39, .istore_n 1, 1), (40, .iinc 2 1, 3), (43, .goto (-39), 3), (46, .iload_n 1, 1), (47, .ireturn, 1)]
def am_c64_0 : List (Nat × Instr × Nat) := [(0, .aload_n 0, 1), (1, .iload_n 1, 1), (2, .iload_n 2, 1), (3, .iload_n 3, 1), (4, .invokevirtual 155, 3), (7, .ifCond .ne 5, 3), (10, .iconst 0, 1), (11, .ireturn, 1), (12, .iload_n 1, 1), (13, .tableswitch 189 99 119 #[145, 117, 189, 189, 189, 189, 189, 135, 126, 107, 180, 189, 189, 99, 189, 172, 189, 189, 189, 189, 164], 99), (112, .aload_n 0, 1), (113, .invokevirtual 159, 3), (116, .pop, 1), (117, .goto 91, 3), (120, .aload_n 0, 1), (121, .iload_n 2, 1), (122, .iload_n 3, 1), (123, .invokevirtual 162, 3), (126, .pop, 1), (127, .goto 81, 3), (130, .aload_n 0, 1), (131, .iload_n 2, 1), (132, .invokevirtual 137, 3), (135, .pop, 1), (136, .goto 72, 3), (139, .aload_n 0, 1), (140, .iload_n 2, 1), (141, .invokevirtual 165, 3), (144, .pop, 1), (145, .goto 63, 3), (148, .aload_n 0, 1), (149, .iload_n 2, 1), (150, .iload_n 3, 1), (151, .invokevirtual 168, 3), (154, .pop, 1), (155, .goto 53, 3), (158, .aload_n 0, 1), (159, .iload_n 2, 1), (160, .iload_n 3, 1), (161, .iconst 1, 1)]
def am_c64_1 : List (Nat × Instr × Nat) := [(162, .if_icmp .ne 7, 3), (165, .iconst 1, 1), (166, .goto 4, 3), (169, .iconst 0, 1), (170, .invokevirtual 171, 3), (173, .pop, 1), (174, .goto 34, 3), (177, .aload_n 0, 1), (178, .iload_n 2, 1), (179, .invokevirtual 175, 3), (182, .goto 26, 3), (185, .aload_n 0, 1), (186, .iload_n 2, 1), (187, .invokevirtual 178, 3), (190, .goto 18, 3), (193, .aload_n 0, 1), (194, .iload_n 2, 1), (195, .invokevirtual 181, 3), (198, .pop, 1), (199, .goto 9, 3), (202, .aload_n 0, 1), (203, .iload_n 2, 1), (204, .invokevirtual 184, 3), (207, .pop, 1), (208, .iconst 1, 1), (209, .ireturn, 1)]
def am_c64 : List (Nat × Instr × Nat) := am_c64_0 ++ (am_c64_1)
def am_c65_0 : List (Nat × Instr × Nat) := [(0, .iload_n 1, 1), (1, .tableswitch 195 99 119 #[167, 132, 195, 195, 195, 195, 195, 160, 154, 104, 167, 178, 195, 99, 195, 173, 195, 195, 195, 195, 173], 99), (100, .aload_n 0, 1), (101, .invokevirtual 187, 3), (104, .ireturn, 1), (105, .aload_n 0, 1), (106, .iload_n 2, 1), (107, .invokevirtual 75, 3), (110, .ifCond .eq 21, 3), (113, .iload_n 3, 1), (114, .invokestatic 191, 3), (117, .ifCond .eq 14, 3), (120, .aload_n 0, 1), (121, .invokevirtual 194, 3), (124, .ifCond .eq 7, 3), (127, .iconst 1, 1), (128, .goto 4, 3), (131, .iconst 0, 1), (132, .ireturn, 1), (133, .aload_n 0, 1), (134, .iload_n 2, 1), (135, .invokevirtual 75, 3), (138, .ifCond .eq 15, 3), (141, .aload_n 0, 1), (142, .iload_n 2, 1), (143, .invokevirtual 134, 3), (146, .ifCond .ne 7, 3), (149, .iconst 1, 1), (150, .goto 4, 3), (153, .iconst 0, 1), (154, .ireturn, 1), (155, .aload_n 0, 1), (156, .iload_n 2, 1), (157, .invokevirtual 83, 3), (160, .ireturn, 1), (161, .aload_n 0, 1), (162, .iload_n 2, 1), (163, .iload_n 3, 1), (164, .invokevirtual 197, 3), (167, .ireturn, 1)]
def am_c65_1 : List (Nat × Instr × Nat) := [(168, .aload_n 0, 1), (169, .iload_n 2, 1), (170, .invokevirtual 75, 3), (173, .ireturn, 1), (174, .iload_n 2, 1), (175, .invokestatic 200, 3), (178, .ireturn, 1), (179, .iload_n 2, 1), (180, .iconst 1, 1), (181, .if_icmp .lt 13, 3), (184, .iload_n 2, 1), (185, .bipush 9, 2), (187, .if_icmp .gt 7, 3), (190, .iconst 1, 1), (191, .goto 4, 3), (194, .iconst 0, 1), (195, .ireturn, 1), (196, .iconst 0, 1), (197, .ireturn, 1)]
def am_c65 : List (Nat × Instr × Nat) := am_c65_0 ++ (am_c65_1)
def am_c66_0 : List (Nat × Instr × Nat) := [(0, .aload_n 0, 1), (1, .invokespecial 1, 3), (4, .aload_n 0, 1), (5, .new 7, 3), (8, .dup, 1), (9, .invokespecial 9, 3), (12, .putfield 10, 3), (15, .aload_n 0, 1), (16, .new 16, 3), (19, .dup, 1), (20, .invokespecial 18, 3), (23, .putfield 19, 3), (26, .aload_n 0, 1), (27, .new 23, 3), (30, .dup, 1), (31, .invokespecial 25, 3), (34, .putfield 26, 3), (37, .aload_n 0, 1), (38, .new 30, 3), (41, .dup, 1), (42, .invokespecial 32, 3), (45, .putfield 33, 3), (48, .aload_n 0, 1), (49, .new 30, 3), (52, .dup, 1), (53, .invokespecial 32, 3), (56, .putfield 37, 3), (59, .aload_n 0, 1), (60, .new 16, 3), (63, .dup, 1), (64, .invokespecial 18, 3), (67, .putfield 40, 3), (70, .aload_n 0, 1), (71, .iconst 4, 1), (72, .anewarray 16, 3), (75, .putfield 43, 3), (78, .iconst 0, 1), (79, .istore_n 1, 1), (80, .iload_n 1, 1), (81, .aload_n 0, 1)]
def am_c66_1 : List (Nat × Instr × Nat) := [(82, .getfield 43, 3), (85, .arraylength, 1), (86, .if_icmp .ge 22, 3), (89, .aload_n 0, 1), (90, .getfield 43, 3), (93, .iload_n 1, 1), (94, .new 16, 3), (97, .dup, 1), (98, .invokespecial 18, 3), (101, .aastore, 1), (102, .iinc 1 1, 3), (105, .goto (-25), 3), (108, .return_, 1)]
def am_c66 : List (Nat × Instr × Nat) := am_c66_0 ++ (am_c66_1)
def am_c67 : List (Nat × Instr × Nat) := [(0, .iload_n 1, 1), (1, .ifCond .lt 10, 3), (4, .iload_n 1, 1), (5, .sipush 255, 3), (8, .if_icmp .le 13, 3), (11, .new 47, 3), (14, .dup, 1), (15, .ldc 49, 2), (17, .invokespecial 51, 3), (20, .athrow, 1), (21, .aload_n 0, 1), (22, .getfield 10, 3), (25, .invokevirtual 54, 3), (28, .ifCond .eq 13, 3), (31, .new 58, 3), (34, .dup, 1), (35, .ldc 60, 2), (37, .invokespecial 62, 3), (40, .athrow, 1), (41, .aload_n 0, 1), (42, .getfield 10, 3), (45, .iload_n 1, 1), (46, .i2c, 1), (47, .invokevirtual 63, 3), (50, .ireturn, 1)]
def am_c68 : List (Nat × Instr × Nat) := [(0, .aload_n 0, 1), (1, .getfield 10, 3), (4, .invokevirtual 67, 3), (7, .ireturn, 1)]
def am_c69 : List (Nat × Instr × Nat) := [(0, .aload_n 0, 1), (1, .getfield 10, 3), (4, .invokevirtual 71, 3), (7, .ireturn, 1)]
def am_c70_0 : List (Nat × Instr × Nat) := [(0, .aload_n 0, 1), (1, .getfield 10, 3), (4, .invokevirtual 71, 3), (7, .iconst (-1), 1), (8, .if_icmp .eq 13, 3), (11, .new 58, 3), (14, .dup, 1), (15, .ldc 74, 2), (17, .invokespecial 62, 3), (20, .athrow, 1), (21, .aload_n 0, 1), (22, .getfield 19, 3), (25, .invokevirtual 76, 3), (28, .aload_n 0, 1), (29, .getfield 26, 3), (32, .invokevirtual 79, 3), (35, .aload_n 0, 1), (36, .getfield 33, 3), (39, .iconst 0, 1), (40, .putfield 82, 3), (43, .aload_n 0, 1), (44, .getfield 37, 3), (47, .iconst 0, 1), (48, .putfield 82, 3), (51, .iconst 0, 1), (52, .istore_n 1, 1), (53, .aload_n 0, 1), (54, .getfield 10, 3), (57, .invokevirtual 86, 3), (60, .pop, 1), (61, .iconst 0, 1), (62, .istore_n 2, 1), (63, .iload_n 2, 1), (64, .bipush 120, 2), (66, .if_icmp .ge 63, 3), (69, .aload_n 0, 1), (70, .getfield 10, 3), (73, .invokevirtual 89, 3), (76, .ifCond .eq 53, 3), (79, .aload_n 0, 1)]
def am_c70_1 : List (Nat × Instr × Nat) := [(80, .getfield 10, 3), (83, .invokevirtual 92, 3), (86, .ifCond .eq 43, 3), (89, .aload_n 0, 1), (90, .getfield 19, 3), (93, .aload_n 0, 1), (94, .getfield 10, 3), (97, .getfield 95, 3), (100, .aload_n 0, 1), (101, .getfield 10, 3), (104, .getfield 99, 3), (107, .aload_n 0, 1), (108, .getfield 10, 3), (111, .getfield 102, 3), (114, .invokevirtual 105, 3), (117, .ifCond .ne 6, 3), (120, .iinc 1 1, 3), (123, .iinc 2 1, 3), (126, .goto (-63), 3), (129, .iload_n 1, 1), (130, .ireturn, 1)]
def am_c70 : List (Nat × Instr × Nat) := am_c70_0 ++ (am_c70_1)
def am_c71_0 : List (Nat × Instr × Nat) := [(0, .iload_n 1, 1), (1, .tableswitch 159 0 11 #[63, 71, 79, 87, 95, 103, 111, 119, 127, 135, 143, 151], 63), (64, .aload_n 0, 1), (65, .getfield 19, 3), (68, .getfield 109, 3), (71, .ireturn, 1), (72, .aload_n 0, 1), (73, .getfield 19, 3), (76, .getfield 112, 3), (79, .ireturn, 1), (80, .aload_n 0, 1), (81, .getfield 19, 3), (84, .invokevirtual 115, 3), (87, .ireturn, 1), (88, .aload_n 0, 1), (89, .getfield 19, 3), (92, .getfield 118, 3), (95, .ireturn, 1), (96, .aload_n 0, 1), (97, .getfield 19, 3), (100, .getfield 121, 3), (103, .ireturn, 1), (104, .aload_n 0, 1), (105, .getfield 19, 3), (108, .getfield 124, 3), (111, .ireturn, 1), (112, .aload_n 0, 1), (113, .getfield 19, 3), (116, .getfield 127, 3), (119, .ireturn, 1), (120, .aload_n 0, 1), (121, .getfield 19, 3), (124, .getfield 130, 3), (127, .ireturn, 1), (128, .aload_n 0, 1), (129, .getfield 19, 3), (132, .getfield 133, 3), (135, .ireturn, 1), (136, .aload_n 0, 1), (137, .getfield 19, 3)]
def am_c71_1 : List (Nat × Instr × Nat) := [(140, .getfield 136, 3), (143, .ireturn, 1), (144, .aload_n 0, 1), (145, .getfield 19, 3), (148, .invokevirtual 139, 3), (151, .ireturn, 1), (152, .aload_n 0, 1), (153, .getfield 19, 3), (156, .getfield 142, 3), (159, .ireturn, 1), (160, .new 47, 3), (163, .dup, 1), (164, .ldc 145, 2), (166, .invokespecial 51, 3), (169, .athrow, 1)]
def am_c71 : List (Nat × Instr × Nat) := am_c71_0 ++ (am_c71_1)
def am_c72_0 : List (Nat × Instr × Nat) := [(0, .aload_n 0, 1), (1, .iload_n 1, 1), (2, .invokevirtual 147, 3), (5, .iload_n 2, 1), (6, .tableswitch 113 0 6 #[42, 51, 60, 69, 86, 95, 104], 42), (48, .aload_n 0, 1), (49, .getfield 19, 3), (52, .iload_n 1, 1), (53, .invokevirtual 151, 3), (56, .ireturn, 1), (57, .aload_n 0, 1), (58, .getfield 19, 3), (61, .iload_n 1, 1), (62, .invokevirtual 155, 3), (65, .ireturn, 1), (66, .aload_n 0, 1), (67, .getfield 19, 3), (70, .iload_n 1, 1), (71, .invokevirtual 158, 3), (74, .ireturn, 1), (75, .aload_n 0, 1), (76, .getfield 19, 3), (79, .iload_n 1, 1), (80, .invokevirtual 161, 3), (83, .ifCond .eq 7, 3), (86, .iconst 1, 1), (87, .goto 4, 3), (90, .iconst 0, 1), (91, .ireturn, 1), (92, .aload_n 0, 1), (93, .getfield 19, 3), (96, .iload_n 1, 1), (97, .invokevirtual 165, 3), (100, .ireturn, 1), (101, .aload_n 0, 1), (102, .getfield 19, 3), (105, .iload_n 1, 1), (106, .invokevirtual 168, 3), (109, .ireturn, 1), (110, .aload_n 0, 1)]
def am_c72_1 : List (Nat × Instr × Nat) := [(111, .getfield 19, 3), (114, .iload_n 1, 1), (115, .invokevirtual 171, 3), (118, .ireturn, 1), (119, .new 47, 3), (122, .dup, 1), (123, .ldc 174, 2), (125, .invokespecial 51, 3), (128, .athrow, 1)]
def am_c72 : List (Nat × Instr × Nat) := am_c72_0 ++ (am_c72_1)
def am_c73_0 : List (Nat × Instr × Nat) := [(0, .aload_n 0, 1), (1, .iload_n 1, 1), (2, .invokevirtual 176, 3), (5, .iload_n 2, 1), (6, .tableswitch 120 0 6 #[42, 54, 66, 75, 87, 99, 111], 42), (48, .aload_n 0, 1), (49, .getfield 19, 3), (52, .getfield 179, 3), (55, .iload_n 1, 1), (56, .invokestatic 183, 3), (59, .ireturn, 1), (60, .aload_n 0, 1), (61, .getfield 19, 3), (64, .getfield 187, 3), (67, .iload_n 1, 1), (68, .invokestatic 183, 3), (71, .ireturn, 1), (72, .aload_n 0, 1), (73, .getfield 19, 3), (76, .iload_n 1, 1), (77, .invokevirtual 190, 3), (80, .ireturn, 1), (81, .aload_n 0, 1), (82, .getfield 19, 3), (85, .getfield 193, 3), (88, .iload_n 1, 1), (89, .invokestatic 183, 3), (92, .ireturn, 1), (93, .aload_n 0, 1), (94, .getfield 19, 3), (97, .getfield 196, 3), (100, .iload_n 1, 1), (101, .invokestatic 183, 3), (104, .ireturn, 1), (105, .aload_n 0, 1), (106, .getfield 19, 3), (109, .getfield 199, 3), (112, .iload_n 1, 1), (113, .invokestatic 183, 3), (116, .ireturn, 1)]
def am_c73_1 : List (Nat × Instr × Nat) := [(117, .aload_n 0, 1), (118, .getfield 19, 3), (121, .iload_n 1, 1), (122, .invokevirtual 202, 3), (125, .ireturn, 1), (126, .new 47, 3), (129, .dup, 1), (130, .ldc 174, 2), (132, .invokespecial 51, 3), (135, .athrow, 1)]
def am_c73 : List (Nat × Instr × Nat) := am_c73_0 ++ (am_c73_1)
def am_c74_0 : List (Nat × Instr × Nat) := [(0, .aload_n 0, 1), (1, .iload_n 1, 1), (2, .invokevirtual 147, 3), (5, .iload_n 2, 1), (6, .ifCond .lt 15, 3), (9, .iload_n 2, 1), (10, .aload_n 0, 1), (11, .getfield 19, 3), (14, .iload_n 1, 1), (15, .invokevirtual 151, 3), (18, .if_icmp .lt 13, 3), (21, .new 205, 3), (24, .dup, 1), (25, .ldc 207, 2), (27, .invokespecial 209, 3), (30, .athrow, 1), (31, .iload_n 3, 1), (32, .ifCond .eq 18, 3), (35, .iload_n 3, 1), (36, .iconst 1, 1), (37, .if_icmp .eq 13, 3), (40, .new 47, 3), (43, .dup, 1), (44, .ldc 210, 2), (46, .invokespecial 51, 3), (49, .athrow, 1), (50, .aload_n 0, 1), (51, .getfield 19, 3), (54, .iload_n 1, 1), (55, .invokevirtual 165, 3), (58, .ifCond .le 13, 3), (61, .new 58, 3), (64, .dup, 1), (65, .ldc 212, 2), (67, .invokespecial 62, 3), (70, .athrow, 1), (71, .iload_n 3, 1), (72, .ifCond .ne 15, 3), (75, .aload_n 0, 1), (76, .getfield 19, 3)]
def am_c74_1 : List (Nat × Instr × Nat) := [(79, .iload_n 1, 1), (80, .iload_n 2, 1), (81, .invokevirtual 214, 3), (84, .goto 12, 3), (87, .aload_n 0, 1), (88, .getfield 19, 3), (91, .iload_n 1, 1), (92, .iload_n 2, 1), (93, .invokevirtual 218, 3), (96, .ireturn, 1)]
def am_c74 : List (Nat × Instr × Nat) := am_c74_0 ++ (am_c74_1)
def am_c75 : List (Nat × Instr × Nat) := [(0, .aload_n 0, 1), (1, .getfield 19, 3), (4, .invokevirtual 221, 3), (7, .ifCond .ne 13, 3), (10, .new 58, 3), (13, .dup, 1), (14, .ldc 224, 2), (16, .invokespecial 62, 3), (19, .athrow, 1), (20, .aload_n 0, 1), (21, .getfield 26, 3), (24, .aload_n 0, 1), (25, .getfield 19, 3), (28, .invokevirtual 226, 3), (31, .aload_n 0, 1), (32, .getfield 19, 3), (35, .invokevirtual 230, 3), (38, .ireturn, 1)]
def am_c76 : List (Nat × Instr × Nat) := [(0, .aload_n 0, 1), (1, .iload_n 1, 1), (2, .invokevirtual 147, 3), (5, .iload_n 2, 1), (6, .invokestatic 233, 3), (9, .aload_n 0, 1), (10, .getfield 19, 3), (13, .invokevirtual 236, 3), (16, .ifCond .ne 13, 3), (19, .new 58, 3), (22, .dup, 1), (23, .ldc 239, 2), (25, .invokespecial 62, 3), (28, .athrow, 1), (29, .aload_n 0, 1), (30, .getfield 26, 3), (33, .aload_n 0, 1), (34, .getfield 19, 3), (37, .invokevirtual 226, 3), (40, .aload_n 0, 1), (41, .getfield 19, 3), (44, .iload_n 1, 1), (45, .iload_n 2, 1), (46, .invokevirtual 241, 3), (49, .ireturn, 1)]
def am_c77 : List (Nat × Instr × Nat) := [(0, .aload_n 0, 1), (1, .iload_n 1, 1), (2, .invokevirtual 147, 3), (5, .aload_n 0, 1), (6, .getfield 26, 3), (9, .aload_n 0, 1), (10, .getfield 19, 3), (13, .invokevirtual 226, 3), (16, .aload_n 0, 1), (17, .getfield 19, 3), (20, .iload_n 1, 1), (21, .invokevirtual 171, 3), (24, .istore_n 2, 1), (25, .iload_n 2, 1), (26, .ifCond .ne 15, 3), (29, .aload_n 0, 1), (30, .getfield 19, 3), (33, .iload_n 1, 1), (34, .invokevirtual 244, 3), (37, .pop, 1), (38, .goto 16, 3), (41, .aload_n 0, 1), (42, .getfield 19, 3), (45, .dup, 1), (46, .getfield 136, 3), (49, .iconst 1, 1), (50, .iadd, 1), (51, .putfield 136, 3), (54, .iload_n 2, 1), (55, .ireturn, 1)]
def am_c78 : List (Nat × Instr × Nat) := [(0, .aload_n 0, 1), (1, .iload_n 1, 1), (2, .invokevirtual 176, 3), (5, .aload_n 0, 1), (6, .getfield 26, 3), (9, .aload_n 0, 1), (10, .getfield 19, 3), (13, .invokevirtual 226, 3), (16, .aload_n 0, 1), (17, .getfield 19, 3), (20, .iload_n 1, 1), (21, .invokevirtual 247, 3), (24, .ireturn, 1)]
def am_c79 : List (Nat × Instr × Nat) := [(0, .aload_n 0, 1), (1, .iload_n 1, 1), (2, .iload_n 2, 1), (3, .invokevirtual 250, 3), (6, .aload_n 0, 1), (7, .getfield 26, 3), (10, .aload_n 0, 1), (11, .getfield 19, 3), (14, .invokevirtual 226, 3), (17, .aload_n 0, 1), (18, .getfield 19, 3), (21, .iload_n 1, 1), (22, .iload_n 2, 1), (23, .invokevirtual 254, 3), (26, .ireturn, 1)]
def am_c80 : List (Nat × Instr × Nat) := [(0, .aload_n 0, 1), (1, .iload_n 1, 1), (2, .invokevirtual 147, 3), (5, .aload_n 0, 1), (6, .getfield 26, 3), (9, .aload_n 0, 1), (10, .getfield 19, 3), (13, .invokevirtual 226, 3), (16, .aload_n 0, 1), (17, .getfield 19, 3), (20, .iload_n 1, 1), (21, .iload_n 2, 1), (22, .invokevirtual 257, 3), (25, .ifCond .eq 7, 3), (28, .iconst 1, 1), (29, .goto 4, 3), (32, .iconst 0, 1), (33, .ireturn, 1)]
def am_c81 : List (Nat × Instr × Nat) := [(0, .iload_n 1, 1), (1, .invokestatic 261, 3), (4, .aload_n 0, 1), (5, .getfield 26, 3), (8, .aload_n 0, 1), (9, .getfield 19, 3), (12, .invokevirtual 226, 3), (15, .aload_n 0, 1), (16, .getfield 19, 3), (19, .iload_n 1, 1), (20, .invokevirtual 264, 3), (23, .aload_n 0, 1), (24, .getfield 19, 3), (27, .invokevirtual 139, 3), (30, .ireturn, 1)]
def am_c82 : List (Nat × Instr × Nat) := [(0, .iload_n 1, 1), (1, .invokestatic 261, 3), (4, .aload_n 0, 1), (5, .getfield 26, 3), (8, .aload_n 0, 1), (9, .getfield 19, 3), (12, .invokevirtual 226, 3), (15, .aload_n 0, 1), (16, .getfield 19, 3), (19, .iload_n 1, 1), (20, .invokevirtual 267, 3), (23, .aload_n 0, 1), (24, .getfield 19, 3), (27, .invokevirtual 270, 3), (30, .ireturn, 1)]
def am_c83 : List (Nat × Instr × Nat) := [(0, .aload_n 0, 1), (1, .iload_n 1, 1), (2, .invokevirtual 147, 3), (5, .aload_n 0, 1), (6, .getfield 26, 3), (9, .aload_n 0, 1), (10, .getfield 19, 3), (13, .invokevirtual 226, 3), (16, .aload_n 0, 1), (17, .getfield 19, 3), (20, .iload_n 1, 1), (21, .invokevirtual 273, 3), (24, .ireturn, 1)]
def am_c84 : List (Nat × Instr × Nat) := [(0, .iload_n 1, 1), (1, .iconst 1, 1), (2, .if_icmp .lt 9, 3), (5, .iload_n 1, 1), (6, .bipush 9, 2), (8, .if_icmp .le 14, 3), (11, .new 47, 3), (14, .dup, 1), (15, .ldc_w 276, 3), (18, .invokespecial 51, 3), (21, .athrow, 1), (22, .aload_n 0, 1), (23, .getfield 26, 3), (26, .aload_n 0, 1), (27, .getfield 19, 3), (30, .invokevirtual 226, 3), (33, .aload_n 0, 1), (34, .getfield 19, 3), (37, .iload_n 1, 1), (38, .invokevirtual 278, 3), (41, .ireturn, 1)]
def am_c85 : List (Nat × Instr × Nat) := [(0, .iload_n 1, 1), (1, .invokestatic 233, 3), (4, .aload_n 0, 1), (5, .getfield 26, 3), (8, .aload_n 0, 1), (9, .getfield 19, 3), (12, .invokevirtual 226, 3), (15, .aload_n 0, 1), (16, .getfield 19, 3), (19, .getfield 142, 3), (22, .istore_n 2, 1), (23, .aload_n 0, 1), (24, .getfield 19, 3), (27, .iload_n 1, 1), (28, .putfield 142, 3), (31, .iload_n 2, 1), (32, .ireturn, 1)]
def am_c86 : List (Nat × Instr × Nat) := [(0, .aload_n 0, 1), (1, .getfield 26, 3), (4, .invokevirtual 281, 3), (7, .ifCond .eq 14, 3), (10, .new 58, 3), (13, .dup, 1), (14, .ldc_w 284, 3), (17, .invokespecial 62, 3), (20, .athrow, 1), (21, .aload_n 0, 1), (22, .getfield 26, 3), (25, .aload_n 0, 1), (26, .getfield 19, 3), (29, .invokevirtual 286, 3), (32, .ireturn, 1)]
def am_c87 : List (Nat × Instr × Nat) := [(0, .aload_n 0, 1), (1, .iload_n 1, 1), (2, .invokevirtual 147, 3), (5, .iload_n 2, 1), (6, .invokestatic 233, 3), (9, .aload_n 0, 1), (10, .invokevirtual 290, 3), (13, .astore_n 3, 1), (14, .iconst 0, 1), (15, .istore 4, 2), (17, .iconst 0, 1), (18, .istore 5, 2), (20, .iload 5, 2), (22, .bipush 24, 2), (24, .if_icmp .ge 35, 3), (27, .aload_n 3, 1), (28, .iload_n 1, 1), (29, .invokevirtual 171, 3), (32, .ifCond .ne 27, 3), (35, .aload_n 3, 1), (36, .iload_n 1, 1), (37, .invokevirtual 294, 3), (40, .iload_n 2, 1), (41, .if_icmp .gt 18, 3), (44, .aload_n 3, 1), (45, .iload_n 1, 1), (46, .invokevirtual 244, 3), (49, .pop, 1), (50, .iinc 4 1, 3), (53, .iinc 5 1, 3), (56, .goto (-36), 3), (59, .iload 4, 2), (61, .ireturn, 1)]
def am_c88 : List (Nat × Instr × Nat) := [(0, .aload_n 0, 1), (1, .iload_n 1, 1), (2, .iload_n 2, 1), (3, .invokevirtual 250, 3), (6, .aload_n 0, 1), (7, .invokevirtual 290, 3), (10, .iload_n 1, 1), (11, .iload_n 2, 1), (12, .invokevirtual 254, 3), (15, .ireturn, 1)]
def am_c89 : List (Nat × Instr × Nat) := [(0, .aload_n 0, 1), (1, .getfield 43, 3), (4, .iconst 0, 1), (5, .invokestatic 297, 3), (8, .astore_n 1, 1), (9, .aload_n 1, 1), (10, .ifnonnull 5, 3), (13, .iconst 0, 1), (14, .ireturn, 1), (15, .aload_n 1, 1), (16, .aload_n 0, 1), (17, .getfield 19, 3), (20, .invokevirtual 301, 3), (23, .aload_n 0, 1), (24, .getfield 43, 3), (27, .iconst 0, 1), (28, .invokestatic 304, 3), (31, .ireturn, 1)]
def am_c90 : List (Nat × Instr × Nat) := [(0, .aload_n 0, 1), (1, .iload_n 1, 1), (2, .invokevirtual 147, 3), (5, .iload_n 2, 1), (6, .ifCond .eq 19, 3), (9, .iload_n 2, 1), (10, .iconst 1, 1), (11, .if_icmp .eq 14, 3), (14, .new 47, 3), (17, .dup, 1), (18, .ldc_w 308, 3), (21, .invokespecial 51, 3), (24, .athrow, 1), (25, .aload_n 0, 1), (26, .invokevirtual 290, 3), (29, .astore_n 3, 1), (30, .aload_n 3, 1), (31, .iload_n 1, 1), (32, .invokevirtual 273, 3), (35, .istore 4, 2), (37, .iload_n 2, 1), (38, .ifCond .ne 8, 3), (41, .iload 4, 2), (43, .goto 8, 3), (46, .aload_n 3, 1), (47, .iload_n 1, 1), (48, .invokevirtual 310, 3), (51, .ireturn, 1)]
def am_c91 : List (Nat × Instr × Nat) := [(0, .aload_n 0, 1), (1, .getfield 19, 3), (4, .invokevirtual 270, 3), (7, .ifCond .le 5, 3), (10, .iconst (-1), 1), (11, .ireturn, 1), (12, .bipush 30, 2), (14, .istore_n 1, 1), (15, .iload_n 1, 1), (16, .ifCond .le 28, 3), (19, .aload_n 0, 1), (20, .invokevirtual 290, 3), (23, .astore_n 2, 1), (24, .aload_n 2, 1), (25, .iload_n 1, 1), (26, .invokevirtual 267, 3), (29, .aload_n 2, 1), (30, .invokevirtual 270, 3), (33, .ifCond .ne 5, 3), (36, .iload_n 1, 1), (37, .ireturn, 1), (38, .iinc 1 (-1), 3), (41, .goto (-26), 3), (44, .iconst 0, 1), (45, .ireturn, 1)]
def am_c92_0 : List (Nat × Instr × Nat) := [(0, .iload_n 1, 1), (1, .iconst 1, 1), (2, .if_icmp .lt 8, 3), (5, .iload_n 1, 1), (6, .iconst 3, 1), (7, .if_icmp .le 14, 3), (10, .new 47, 3), (13, .dup, 1), (14, .ldc_w 313, 3), (17, .invokespecial 51, 3), (20, .athrow, 1), (21, .lload_n 2, 1), (22, .lconst 0, 1), (23, .lcmp, 1), (24, .ifCond .lt 13, 3), (27, .lload_n 2, 1), (28, .iload_n 1, 1), (29, .invokestatic 315, 3), (32, .lconst 0, 1), (33, .lcmp, 1), (34, .ifCond .eq 14, 3), (37, .new 47, 3), (40, .dup, 1), (41, .ldc_w 319, 3), (44, .invokespecial 51, 3), (47, .athrow, 1), (48, .aload_n 0, 1), (49, .invokevirtual 290, 3), (52, .astore 4, 2), (54, .iconst 0, 1), (55, .istore 5, 2), (57, .iload 5, 2), (59, .iload_n 1, 1), (60, .if_icmp .ge 39, 3), (63, .lload_n 2, 1), (64, .iload_n 1, 1), (65, .iconst 1, 1), (66, .isub, 1), (67, .iload 5, 2), (69, .isub, 1)]
def am_c92_1 : List (Nat × Instr × Nat) := [(70, .invokestatic 315, 3), (73, .ldc2_w 321, 3), (76, .lrem, 1), (77, .l2i, 1), (78, .istore 6, 2), (80, .aload 4, 2), (82, .iload 6, 2), (84, .invokestatic 323, 3), (87, .ifCond .ne 6, 3), (90, .iload 5, 2), (92, .ireturn, 1), (93, .iinc 5 1, 3), (96, .goto (-39), 3), (99, .iconst (-1), 1), (100, .ireturn, 1)]
def am_c92 : List (Nat × Instr × Nat) := am_c92_0 ++ (am_c92_1)
def am_c93_0 : List (Nat × Instr × Nat) := [(0, .iload_n 3, 1), (1, .iconst 1, 1), (2, .if_icmp .lt 9, 3), (5, .iload_n 3, 1), (6, .bipush 60, 2), (8, .if_icmp .le 14, 3), (11, .new 47, 3), (14, .dup, 1), (15, .ldc_w 327, 3), (18, .invokespecial 51, 3), (21, .athrow, 1), (22, .aload_n 0, 1), (23, .invokevirtual 290, 3), (26, .astore 4, 2), (28, .lload_n 1, 1), (29, .lstore 5, 2), (31, .iconst 0, 1), (32, .istore 7, 2), (34, .iload 7, 2), (36, .iload_n 3, 1), (37, .if_icmp .ge 68, 3), (40, .lload 5, 2), (42, .ldc2_w 329, 3), (45, .lmul, 1), (46, .ldc2_w 331, 3), (49, .ladd, 1), (50, .lstore 5, 2), (52, .lload 5, 2), (54, .bipush 33, 2), (56, .lushr, 1), (57, .l2i, 1), (58, .istore 8, 2), (60, .iload 8, 2), (62, .bipush 16, 2), (64, .irem, 1), (65, .istore 9, 2), (67, .iload 8, 2), (69, .bipush 16, 2), (71, .idiv, 1), (72, .istore 10, 2)]
def am_c93_1 : List (Nat × Instr × Nat) := [(74, .aload 4, 2), (76, .iload 9, 2), (78, .invokestatic 333, 3), (81, .iload 9, 2), (83, .iload 10, 2), (85, .invokestatic 337, 3), (88, .iload 9, 2), (90, .iload 10, 2), (92, .invokestatic 340, 3), (95, .invokevirtual 105, 3), (98, .pop, 1), (99, .iinc 7 1, 3), (102, .goto (-68), 3), (105, .aload 4, 2), (107, .getfield 124, 3), (110, .aload_n 0, 1), (111, .getfield 19, 3), (114, .getfield 124, 3), (117, .isub, 1), (118, .istore 7, 2), (120, .sipush 10000, 3), (123, .aload 4, 2), (125, .invokevirtual 115, 3), (128, .imul, 1), (129, .iload 7, 2), (131, .sipush 9999, 3), (134, .if_icmp .le 9, 3), (137, .sipush 9999, 3), (140, .goto 5, 3), (143, .iload 7, 2), (145, .iadd, 1), (146, .ireturn, 1)]
def am_c93 : List (Nat × Instr × Nat) := am_c93_0 ++ (am_c93_1)
def am_c94 : List (Nat × Instr × Nat) := [(0, .iload_n 1, 1), (1, .invokestatic 343, 3), (4, .aload_n 0, 1), (5, .iload_n 1, 1), (6, .invokevirtual 346, 3), (9, .astore_n 2, 1), (10, .aload_n 2, 1), (11, .getfield 350, 3), (14, .aload_n 0, 1), (15, .getfield 19, 3), (18, .invokevirtual 301, 3), (21, .aload_n 2, 1), (22, .iconst 1, 1), (23, .putfield 82, 3), (26, .aload_n 0, 1), (27, .getfield 19, 3), (30, .getfield 112, 3), (33, .ireturn, 1)]
def am_c95 : List (Nat × Instr × Nat) := [(0, .iload_n 1, 1), (1, .invokestatic 343, 3), (4, .aload_n 0, 1), (5, .iload_n 1, 1), (6, .invokevirtual 346, 3), (9, .astore_n 2, 1), (10, .aload_n 2, 1), (11, .getfield 82, 3), (14, .ifCond .ne 14, 3), (17, .new 58, 3), (20, .dup, 1), (21, .ldc_w 353, 3), (24, .invokespecial 62, 3), (27, .athrow, 1), (28, .aload_n 0, 1), (29, .getfield 19, 3), (32, .aload_n 2, 1), (33, .getfield 350, 3), (36, .invokevirtual 301, 3), (39, .aload_n 0, 1), (40, .getfield 26, 3), (43, .invokevirtual 79, 3), (46, .aload_n 0, 1), (47, .getfield 19, 3), (50, .getfield 112, 3), (53, .ireturn, 1)]
def am_c96 : List (Nat × Instr × Nat) := [(0, .aload_n 0, 1), (1, .getfield 19, 3), (4, .iload_n 1, 1), (5, .invokevirtual 355, 3), (8, .ifCond .ne 14, 3), (11, .new 205, 3), (14, .dup, 1), (15, .ldc_w 358, 3), (18, .invokespecial 209, 3), (21, .athrow, 1), (22, .return_, 1)]
def am_c97 : List (Nat × Instr × Nat) := [(0, .aload_n 0, 1), (1, .getfield 19, 3), (4, .iload_n 1, 1), (5, .invokevirtual 355, 3), (8, .ifCond .eq 14, 3), (11, .aload_n 0, 1), (12, .getfield 19, 3), (15, .iload_n 2, 1), (16, .invokevirtual 355, 3), (19, .ifCond .ne 14, 3), (22, .new 205, 3), (25, .dup, 1), (26, .ldc_w 358, 3), (29, .invokespecial 209, 3), (32, .athrow, 1), (33, .iload_n 1, 1), (34, .iload_n 2, 1), (35, .if_icmp .ne 14, 3), (38, .new 47, 3), (41, .dup, 1), (42, .ldc_w 360, 3), (45, .invokespecial 51, 3), (48, .athrow, 1), (49, .return_, 1)]
def am_c98 : List (Nat × Instr × Nat) := [(0, .aload_n 0, 1), (1, .getfield 19, 3), (4, .iload_n 1, 1), (5, .invokevirtual 362, 3), (8, .ifCond .ne 14, 3), (11, .new 205, 3), (14, .dup, 1), (15, .ldc_w 365, 3), (18, .invokespecial 209, 3), (21, .athrow, 1), (22, .return_, 1)]
def am_c99 : List (Nat × Instr × Nat) := [(0, .iload_n 0, 1), (1, .invokestatic 367, 3), (4, .ifCond .ne 14, 3), (7, .new 47, 3), (10, .dup, 1), (11, .ldc_w 370, 3), (14, .invokespecial 51, 3), (17, .athrow, 1), (18, .return_, 1)]
def am_c100 : List (Nat × Instr × Nat) := [(0, .iload_n 0, 1), (1, .invokestatic 372, 3), (4, .ifCond .ne 14, 3), (7, .new 47, 3), (10, .dup, 1), (11, .ldc_w 375, 3), (14, .invokespecial 51, 3), (17, .athrow, 1), (18, .return_, 1)]
def am_c101 : List (Nat × Instr × Nat) := [(0, .iload_n 0, 1), (1, .ifCond .eq 19, 3), (4, .iload_n 0, 1), (5, .iconst 1, 1), (6, .if_icmp .eq 14, 3), (9, .new 205, 3), (12, .dup, 1), (13, .ldc_w 377, 3), (16, .invokespecial 209, 3), (19, .athrow, 1), (20, .return_, 1)]
def am_c102 : List (Nat × Instr × Nat) := [(0, .iload_n 0, 1), (1, .ifCond .lt 13, 3), (4, .iload_n 0, 1), (5, .bipush 99, 2), (7, .if_icmp .gt 7, 3), (10, .iconst 1, 1), (11, .goto 4, 3), (14, .iconst 0, 1), (15, .ireturn, 1)]
def am_c103 : List (Nat × Instr × Nat) := [(0, .iload_n 0, 1), (1, .iconst 1, 1), (2, .if_icmp .lt 13, 3), (5, .iload_n 0, 1), (6, .bipush 30, 2), (8, .if_icmp .gt 7, 3), (11, .iconst 1, 1), (12, .goto 4, 3), (15, .iconst 0, 1), (16, .ireturn, 1)]
def am_c104 : List (Nat × Instr × Nat) := [(0, .iload_n 1, 1), (1, .ifCond .ne 10, 3), (4, .aload_n 0, 1), (5, .getfield 33, 3), (8, .goto 7, 3), (11, .aload_n 0, 1), (12, .getfield 37, 3), (15, .areturn, 1)]
def am_c105 : List (Nat × Instr × Nat) := [(0, .aload_n 0, 1), (1, .getfield 40, 3), (4, .aload_n 0, 1), (5, .getfield 19, 3), (8, .invokevirtual 301, 3), (11, .aload_n 0, 1), (12, .getfield 40, 3), (15, .areturn, 1)]
def am_c106_0 : List (Nat × Instr × Nat) := [(0, .aload_n 0, 1), (1, .iload_n 1, 1), (2, .invokestatic 297, 3), (5, .astore_n 2, 1), (6, .aload_n 0, 1), (7, .iload_n 1, 1), (8, .iconst 1, 1), (9, .iadd, 1), (10, .invokestatic 297, 3), (13, .astore_n 3, 1), (14, .aload_n 2, 1), (15, .ifnull 7, 3), (18, .aload_n 3, 1), (19, .ifnonnull 5, 3), (22, .iconst 0, 1), (23, .ireturn, 1), (24, .iconst (-1), 1), (25, .istore 4, 2), (27, .iconst 0, 1), (28, .istore 5, 2), (30, .iload 5, 2), (32, .iconst 4, 1), (33, .if_icmp .ge 92, 3), (36, .iload 5, 2), (38, .iconst 1, 1), (39, .iadd, 1), (40, .istore 6, 2), (42, .iload 6, 2), (44, .iconst 4, 1), (45, .if_icmp .ge 74, 3), (48, .aload_n 2, 1), (49, .iload 5, 2), (51, .invokevirtual 155, 3), (54, .iconst (-1), 1), (55, .if_icmp .eq 58, 3), (58, .aload_n 2, 1), (59, .iload 6, 2), (61, .invokevirtual 155, 3), (64, .iconst (-1), 1), (65, .if_icmp .eq 48, 3)]
def am_c106_1 : List (Nat × Instr × Nat) := [(68, .aload_n 3, 1), (69, .aload_n 2, 1), (70, .invokevirtual 301, 3), (73, .aload_n 3, 1), (74, .iload 5, 2), (76, .iload 6, 2), (78, .invokevirtual 254, 3), (81, .aload_n 0, 1), (82, .iload_n 1, 1), (83, .iconst 1, 1), (84, .iadd, 1), (85, .invokestatic 304, 3), (88, .iadd, 1), (89, .istore 7, 2), (91, .iload 4, 2), (93, .iconst (-1), 1), (94, .if_icmp .eq 10, 3), (97, .iload 7, 2), (99, .iload 4, 2), (101, .if_icmp .ge 8, 3), (104, .iload 7, 2), (106, .goto 5, 3), (109, .iload 4, 2), (111, .istore 4, 2), (113, .iinc 6 1, 3), (116, .goto (-74), 3), (119, .iinc 5 1, 3), (122, .goto (-92), 3), (125, .iload 4, 2), (127, .iconst (-1), 1), (128, .if_icmp .ne 7, 3), (131, .iconst 0, 1), (132, .goto 5, 3), (135, .iload 4, 2), (137, .ireturn, 1)]
def am_c106 : List (Nat × Instr × Nat) := am_c106_0 ++ (am_c106_1)
def am_c107 : List (Nat × Instr × Nat) := [(0, .lload_n 0, 1), (1, .lstore_n 3, 1), (2, .iconst 0, 1), (3, .istore 5, 2), (5, .iload 5, 2), (7, .iload_n 2, 1), (8, .if_icmp .ge 15, 3), (11, .lload_n 3, 1), (12, .ldc2_w 321, 3), (15, .ldiv, 1), (16, .lstore_n 3, 1), (17, .iinc 5 1, 3), (20, .goto (-15), 3), (23, .lload_n 3, 1), (24, .lreturn, 1)]
def am_c108_0 : List (Nat × Instr × Nat) := [(0, .iload_n 1, 1), (1, .sipush 1000, 3), (4, .idiv, 1), (5, .bipush 10, 2), (7, .irem, 1), (8, .istore_n 2, 1), (9, .iload_n 1, 1), (10, .bipush 100, 2), (12, .idiv, 1), (13, .bipush 10, 2), (15, .irem, 1), (16, .istore_n 3, 1), (17, .iload_n 1, 1), (18, .bipush 100, 2), (20, .irem, 1), (21, .istore 4, 2), (23, .iload_n 1, 1), (24, .sipush 10000, 3), (27, .idiv, 1), (28, .tableswitch 294 1 9 #[52, 74, 99, 127, 149, 185, 210, 238, 266], 52), (80, .iload_n 3, 1), (81, .ifCond .ne 19, 3), (84, .aload_n 0, 1), (85, .bipush 108, 2), (87, .iload_n 2, 1), (88, .iload 4, 2), (90, .invokevirtual 105, 3), (93, .ifCond .eq 7, 3), (96, .iconst 1, 1), (97, .goto 4, 3), (100, .iconst 0, 1), (101, .ireturn, 1), (102, .iload_n 1, 1), (103, .sipush 1000, 3), (106, .irem, 1), (107, .ifCond .ne 18, 3), (110, .aload_n 0, 1), (111, .bipush 100, 2), (113, .iload_n 2, 1), (114, .iconst 0, 1)]
def am_c108_1 : List (Nat × Instr × Nat) := [(115, .invokevirtual 105, 3), (118, .ifCond .eq 7, 3), (121, .iconst 1, 1), (122, .goto 4, 3), (125, .iconst 0, 1), (126, .ireturn, 1), (127, .iload 4, 2), (129, .ifCond .ne 24, 3), (132, .aload_n 0, 1), (133, .bipush 107, 2), (135, .iload_n 1, 1), (136, .bipush 100, 2), (138, .idiv, 1), (139, .bipush 100, 2), (141, .irem, 1), (142, .iconst 0, 1), (143, .invokevirtual 105, 3), (146, .ifCond .eq 7, 3), (149, .iconst 1, 1), (150, .goto 4, 3), (153, .iconst 0, 1), (154, .ireturn, 1), (155, .iload 4, 2), (157, .ifCond .ne 18, 3), (160, .aload_n 0, 1), (161, .bipush 106, 2), (163, .iload_n 2, 1), (164, .iload_n 3, 1), (165, .invokevirtual 105, 3), (168, .ifCond .eq 7, 3), (171, .iconst 1, 1), (172, .goto 4, 3), (175, .iconst 0, 1), (176, .ireturn, 1), (177, .iload_n 2, 1), (178, .iconst 1, 1), (179, .if_icmp .gt 32, 3), (182, .iload_n 3, 1), (183, .ifCond .ne 28, 3), (186, .aload_n 0, 1)]
def am_c108_2 : List (Nat × Instr × Nat) := [(187, .iload_n 2, 1), (188, .ifCond .ne 8, 3), (191, .bipush 119, 2), (193, .goto 5, 3), (196, .bipush 114, 2), (198, .iload 4, 2), (200, .iconst 0, 1), (201, .invokevirtual 105, 3), (204, .ifCond .eq 7, 3), (207, .iconst 1, 1), (208, .goto 4, 3), (211, .iconst 0, 1), (212, .ireturn, 1), (213, .iload_n 1, 1), (214, .sipush 1000, 3), (217, .irem, 1), (218, .ifCond .ne 18, 3), (221, .aload_n 0, 1), (222, .bipush 109, 2), (224, .iload_n 2, 1), (225, .iconst 0, 1), (226, .invokevirtual 105, 3), (229, .ifCond .eq 7, 3), (232, .iconst 1, 1), (233, .goto 4, 3), (236, .iconst 0, 1), (237, .ireturn, 1), (238, .iload_n 3, 1), (239, .ifCond .ne 25, 3), (242, .aload_n 0, 1), (243, .iload_n 2, 1), (244, .invokevirtual 355, 3), (247, .ifCond .eq 17, 3), (250, .aload_n 0, 1), (251, .iload_n 2, 1), (252, .invokevirtual 151, 3), (255, .iload 4, 2), (257, .if_icmp .lt 7, 3), (260, .iconst 1, 1), (261, .goto 4, 3)]
def am_c108_3 : List (Nat × Instr × Nat) := [(264, .iconst 0, 1), (265, .ireturn, 1), (266, .iload_n 1, 1), (267, .bipush 10, 2), (269, .irem, 1), (270, .ifCond .ne 22, 3), (273, .aload_n 0, 1), (274, .iload_n 2, 1), (275, .iload_n 1, 1), (276, .bipush 10, 2), (278, .idiv, 1), (279, .bipush 100, 2), (281, .irem, 1), (282, .invokevirtual 379, 3), (285, .ifCond .eq 7, 3), (288, .iconst 1, 1), (289, .goto 4, 3), (292, .iconst 0, 1), (293, .ireturn, 1), (294, .iload_n 3, 1), (295, .ifCond .ne 25, 3), (298, .aload_n 0, 1), (299, .iload_n 2, 1), (300, .invokevirtual 355, 3), (303, .ifCond .eq 17, 3), (306, .aload_n 0, 1), (307, .iload_n 2, 1), (308, .invokevirtual 165, 3), (311, .iload 4, 2), (313, .if_icmp .gt 7, 3), (316, .iconst 1, 1), (317, .goto 4, 3), (320, .iconst 0, 1), (321, .ireturn, 1), (322, .iconst 0, 1), (323, .ireturn, 1)]
def am_c108 : List (Nat × Instr × Nat) := am_c108_0 ++ (am_c108_1 ++ (am_c108_2 ++ (am_c108_3)))
def am_c109 : List (Nat × Instr × Nat) := [(0, .iload_n 0, 1), (1, .tableswitch 98 0 13 #[71, 74, 74, 74, 74, 74, 77, 77, 80, 83, 86, 89, 92, 95], 71), (72, .bipush 112, 2), (74, .ireturn, 1), (75, .bipush 108, 2), (77, .ireturn, 1), (78, .bipush 100, 2), (80, .ireturn, 1), (81, .bipush 107, 2), (83, .ireturn, 1), (84, .bipush 106, 2), (86, .ireturn, 1), (87, .bipush 99, 2), (89, .ireturn, 1), (90, .bipush 119, 2), (92, .ireturn, 1), (93, .bipush 114, 2), (95, .ireturn, 1), (96, .bipush 109, 2), (98, .ireturn, 1), (99, .bipush 110, 2), (101, .ireturn, 1)]
def am_c110 : List (Nat × Instr × Nat) := [(0, .iload_n 0, 1), (1, .tableswitch 65 8 15 #[47, 65, 65, 52, 52, 65, 59, 59], 47), (48, .iload_n 1, 1), (49, .bipush 24, 2), (51, .irem, 1), (52, .ireturn, 1), (53, .iconst 1, 1), (54, .iload_n 1, 1), (55, .bipush 30, 2), (57, .irem, 1), (58, .iadd, 1), (59, .ireturn, 1), (60, .iconst 1, 1), (61, .iload_n 1, 1), (62, .iconst 3, 1), (63, .irem, 1), (64, .iadd, 1), (65, .ireturn, 1), (66, .iload_n 1, 1), (67, .iconst 4, 1), (68, .irem, 1), (69, .ireturn, 1)]
def am_c111 : List (Nat × Instr × Nat) := [(0, .iload_n 0, 1), (1, .lookupswitch 39 #[(9, 27), (10, 33)], 27), (28, .iload_n 1, 1), (29, .iconst 4, 1), (30, .idiv, 1), (31, .iconst 4, 1), (32, .irem, 1), (33, .ireturn, 1), (34, .iload_n 1, 1), (35, .iconst 4, 1), (36, .idiv, 1), (37, .iconst 2, 1), (38, .irem, 1), (39, .ireturn, 1), (40, .iload_n 1, 1), (41, .iconst 4, 1), (42, .idiv, 1), (43, .bipush 100, 2), (45, .irem, 1), (46, .ireturn, 1)]
def am_c112 : List (Nat × Instr × Nat) := [(0, .iload_n 1, 1), (1, .ifCond .lt 15, 3), (4, .iload_n 1, 1), (5, .aload_n 0, 1), (6, .arraylength, 1), (7, .if_icmp .ge 9, 3), (10, .aload_n 0, 1), (11, .iload_n 1, 1), (12, .iaload, 1), (13, .goto 4, 3), (16, .iconst (-1), 1), (17, .ireturn, 1)]
def am_c113 : List (Nat × Instr × Nat) := [(0, .iload_n 1, 1), (1, .ifCond .lt 13, 3), (4, .iload_n 1, 1), (5, .aload_n 0, 1), (6, .arraylength, 1), (7, .if_icmp .ge 7, 3), (10, .aload_n 0, 1), (11, .iload_n 1, 1), (12, .iload_n 2, 1), (13, .iastore, 1), (14, .return_, 1)]
def am_c114 : List (Nat × Instr × Nat) := [(0, .iconst 0, 1), (1, .istore_n 2, 1), (2, .iload_n 2, 1), (3, .aload_n 0, 1), (4, .arraylength, 1), (5, .if_icmp .ge 13, 3), (8, .aload_n 0, 1), (9, .iload_n 2, 1), (10, .iload_n 1, 1), (11, .iastore, 1), (12, .iinc 2 1, 3), (15, .goto (-13), 3), (18, .return_, 1)]
def am_c115 : List (Nat × Instr × Nat) := [(0, .iconst 0, 1), (1, .istore_n 2, 1), (2, .iload_n 2, 1), (3, .aload_n 0, 1), (4, .arraylength, 1), (5, .if_icmp .ge 21, 3), (8, .iload_n 2, 1), (9, .aload_n 1, 1), (10, .arraylength, 1), (11, .if_icmp .ge 15, 3), (14, .aload_n 1, 1), (15, .iload_n 2, 1), (16, .aload_n 0, 1), (17, .iload_n 2, 1), (18, .iaload, 1), (19, .iastore, 1), (20, .iinc 2 1, 3), (23, .goto (-21), 3), (26, .return_, 1)]
def am_c116 : List (Nat × Instr × Nat) := [(0, .iload_n 1, 1), (1, .ifCond .lt 15, 3), (4, .iload_n 1, 1), (5, .aload_n 0, 1), (6, .arraylength, 1), (7, .if_icmp .ge 9, 3), (10, .aload_n 0, 1), (11, .iload_n 1, 1), (12, .aaload, 1), (13, .goto 4, 3), (16, .aconst_null, 1), (17, .areturn, 1)]
def am_c117 : List (Nat × Instr × Nat) := [(0, .aload_n 0, 1), (1, .invokespecial 1, 3), (4, .aload_n 0, 1), (5, .bipush 120, 2), (7, .newarray .int, 2), (9, .putfield 7, 3), (12, .aload_n 0, 1), (13, .sipush 138, 3), (16, .newarray .int, 2), (18, .putfield 13, 3), (21, .aload_n 0, 1), (22, .sipush 138, 3), (25, .newarray .int, 2), (27, .putfield 16, 3), (30, .aload_n 0, 1), (31, .sipush 138, 3), (34, .newarray .int, 2), (36, .putfield 19, 3), (39, .aload_n 0, 1), (40, .sipush 138, 3), (43, .newarray .int, 2), (45, .putfield 22, 3), (48, .aload_n 0, 1), (49, .sipush 1932, 3), (52, .newarray .int, 2), (54, .putfield 25, 3), (57, .aload_n 0, 1), (58, .sipush 276, 3), (61, .newarray .int, 2), (63, .putfield 28, 3), (66, .aload_n 0, 1), (67, .iconst 2, 1), (68, .newarray .boolean, 2), (70, .putfield 31, 3), (73, .aload_n 0, 1), (74, .getfield 13, 3), (77, .invokestatic 35, 3), (80, .return_, 1)]
def am_c118 : List (Nat × Instr × Nat) := [(0, .aload_n 0, 1), (1, .getfield 39, 3), (4, .ireturn, 1)]
def am_c119 : List (Nat × Instr × Nat) := [(0, .aload_n 0, 1), (1, .iload_n 1, 1), (2, .putfield 39, 3), (5, .iload_n 1, 1), (6, .ifCond .le 7, 3), (9, .iconst 1, 1), (10, .goto 4, 3), (13, .iconst 0, 1), (14, .ireturn, 1)]
def am_c120 : List (Nat × Instr × Nat) := [(0, .lload_n 0, 1), (1, .lload_n 2, 1), (2, .lcmp, 1), (3, .ifCond .lt 14, 3), (6, .lload_n 0, 1), (7, .lload 4, 2), (9, .lcmp, 1), (10, .ifCond .gt 7, 3), (13, .iconst 1, 1), (14, .goto 4, 3), (17, .iconst 0, 1), (18, .ireturn, 1)]
def am_c121 : List (Nat × Instr × Nat) := [(0, .iconst 0, 1), (1, .istore 4, 2), (3, .iload 4, 2), (5, .sipush 138, 3), (8, .if_icmp .ge 21, 3), (11, .aload_n 2, 1), (12, .iload_n 3, 1), (13, .iload 4, 2), (15, .iadd, 1), (16, .aload_n 0, 1), (17, .iload_n 1, 1), (18, .iload 4, 2), (20, .iadd, 1), (21, .iaload, 1), (22, .iastore, 1), (23, .iinc 4 1, 3), (26, .goto (-23), 3), (29, .return_, 1)]
def am_c122 : List (Nat × Instr × Nat) := [(0, .iconst 0, 1), (1, .istore_n 1, 1), (2, .iload_n 1, 1), (3, .sipush 138, 3), (6, .if_icmp .ge 13, 3), (9, .aload_n 0, 1), (10, .iload_n 1, 1), (11, .iconst 0, 1), (12, .iastore, 1), (13, .iinc 1 1, 3), (16, .goto (-14), 3), (19, .aload_n 0, 1), (20, .bipush 9, 2), (22, .bipush 40, 2), (24, .iastore, 1), (25, .return_, 1)]
def am_c123 : List (Nat × Instr × Nat) := [(0, .aload_n 0, 1), (1, .bipush 18, 2), (3, .iconst 5, 1), (4, .iload_n 1, 1), (5, .imul, 1), (6, .iadd, 1), (7, .iload_n 2, 1), (8, .iadd, 1), (9, .iaload, 1), (10, .ireturn, 1)]
def am_c124 : List (Nat × Instr × Nat) := [(0, .aload_n 0, 1), (1, .bipush 18, 2), (3, .iconst 5, 1), (4, .iload_n 1, 1), (5, .imul, 1), (6, .iadd, 1), (7, .iload_n 2, 1), (8, .iadd, 1), (9, .iload_n 3, 1), (10, .iastore, 1), (11, .return_, 1)]
def am_c125 : List (Nat × Instr × Nat) := [(0, .aload_n 0, 1), (1, .bipush 10, 2), (3, .iconst 2, 1), (4, .iload_n 1, 1), (5, .imul, 1), (6, .iadd, 1), (7, .iaload, 1), (8, .ireturn, 1)]
def am_c126 : List (Nat × Instr × Nat) := [(0, .aload_n 0, 1), (1, .bipush 10, 2), (3, .iconst 2, 1), (4, .iload_n 1, 1), (5, .imul, 1), (6, .iadd, 1), (7, .iconst 1, 1), (8, .iadd, 1), (9, .iaload, 1), (10, .iconst 1, 1), (11, .if_icmp .ne 7, 3), (14, .iconst 1, 1), (15, .goto 4, 3), (18, .iconst 0, 1), (19, .ireturn, 1)]
def am_c127 : List (Nat × Instr × Nat) := [(0, .iload_n 1, 1), (1, .i2l, 1), (2, .lconst 0, 1), (3, .aload_n 0, 1), (4, .iconst 0, 1), (5, .iaload, 1), (6, .iconst 1, 1), (7, .isub, 1), (8, .i2l, 1), (9, .invokestatic 43, 3), (12, .ireturn, 1)]
def am_c128 : List (Nat × Instr × Nat) := [(0, .iload_n 1, 1), (1, .i2l, 1), (2, .lconst 0, 1), (3, .aload_n 0, 1), (4, .iconst 1, 1), (5, .iaload, 1), (6, .iconst 1, 1), (7, .isub, 1), (8, .i2l, 1), (9, .invokestatic 43, 3), (12, .ifCond .eq 17, 3), (15, .aload_n 0, 1), (16, .iload_n 1, 1), (17, .iconst 1, 1), (18, .invokestatic 47, 3), (21, .iconst (-1), 1), (22, .if_icmp .eq 7, 3), (25, .iconst 1, 1), (26, .goto 4, 3), (29, .iconst 0, 1), (30, .ireturn, 1)]
def am_c129 : List (Nat × Instr × Nat) := [(0, .aload_n 0, 1), (1, .iload_n 1, 1), (2, .iconst 0, 1), (3, .invokestatic 47, 3), (6, .aload_n 0, 1), (7, .iload_n 2, 1), (8, .iconst 0, 1), (9, .invokestatic 47, 3), (12, .isub, 1), (13, .istore_n 3, 1), (14, .iload_n 3, 1), (15, .ifCond .lt 12, 3), (18, .iload_n 3, 1), (19, .ifCond .ne 12, 3), (22, .iload_n 1, 1), (23, .iload_n 2, 1), (24, .if_icmp .ge 7, 3), (27, .iconst 1, 1), (28, .goto 4, 3), (31, .iconst 0, 1), (32, .ireturn, 1)]
def am_c130 : List (Nat × Instr × Nat) := [(0, .aload_n 0, 1), (1, .iload_n 1, 1), (2, .iconst 2, 1), (3, .invokestatic 47, 3), (6, .iconst (-1), 1), (7, .if_icmp .eq 21, 3), (10, .aload_n 0, 1), (11, .iload_n 1, 1), (12, .aload_n 0, 1), (13, .iload_n 1, 1), (14, .iconst 2, 1), (15, .invokestatic 47, 3), (18, .invokestatic 51, 3), (21, .ifCond .eq 7, 3), (24, .iconst 1, 1), (25, .goto 4, 3), (28, .iconst 0, 1), (29, .ireturn, 1)]
def am_c131 : List (Nat × Instr × Nat) := [(0, .iconst 0, 1), (1, .istore_n 2, 1), (2, .aload_n 0, 1), (3, .iload_n 1, 1), (4, .iconst 2, 1), (5, .invokestatic 47, 3), (8, .istore_n 3, 1), (9, .iload_n 3, 1), (10, .iconst (-1), 1), (11, .if_icmp .eq 16, 3), (14, .iinc 2 1, 3), (17, .aload_n 0, 1), (18, .iload_n 3, 1), (19, .iconst 2, 1), (20, .invokestatic 47, 3), (23, .istore_n 3, 1), (24, .goto (-15), 3), (27, .iload_n 2, 1), (28, .ireturn, 1)]
def am_c132 : List (Nat × Instr × Nat) := [(0, .aload_n 0, 1), (1, .iload_n 1, 1), (2, .iconst 2, 1), (3, .invokestatic 47, 3), (6, .istore_n 3, 1), (7, .iload_n 3, 1), (8, .iconst (-1), 1), (9, .if_icmp .eq 18, 3), (12, .iload_n 3, 1), (13, .iload_n 2, 1), (14, .if_icmp .eq 13, 3), (17, .aload_n 0, 1), (18, .iload_n 3, 1), (19, .iconst 2, 1), (20, .invokestatic 47, 3), (23, .istore_n 3, 1), (24, .goto (-17), 3), (27, .iload_n 3, 1), (28, .iload_n 2, 1), (29, .if_icmp .ne 7, 3), (32, .iconst 1, 1), (33, .goto 4, 3), (36, .iconst 0, 1), (37, .ireturn, 1)]
def am_c133 : List (Nat × Instr × Nat) := [(0, .aload_n 0, 1), (1, .iload_n 1, 1), (2, .iconst 1, 1), (3, .invokestatic 47, 3), (6, .iload_n 2, 1), (7, .if_icmp .ne 7, 3), (10, .iconst 1, 1), (11, .goto 4, 3), (14, .iconst 0, 1), (15, .ireturn, 1)]
def am_c134 : List (Nat × Instr × Nat) := [(0, .iconst 0, 1), (1, .istore_n 2, 1), (2, .iconst 0, 1), (3, .istore_n 3, 1), (4, .iload_n 3, 1), (5, .aload_n 0, 1), (6, .iconst 1, 1), (7, .iaload, 1), (8, .if_icmp .ge 26, 3), (11, .iload_n 2, 1), (12, .aload_n 0, 1), (13, .iload_n 3, 1), (14, .iload_n 1, 1), (15, .invokestatic 55, 3), (18, .ifCond .eq 7, 3), (21, .iconst 1, 1), (22, .goto 4, 3), (25, .iconst 0, 1), (26, .iadd, 1), (27, .istore_n 2, 1), (28, .iinc 3 1, 3), (31, .goto (-27), 3), (34, .iload_n 2, 1), (35, .ireturn, 1)]
def am_c135 : List (Nat × Instr × Nat) := [(0, .iconst 0, 1), (1, .istore_n 2, 1), (2, .iconst 0, 1), (3, .istore_n 3, 1), (4, .iload_n 3, 1), (5, .aload_n 0, 1), (6, .iconst 1, 1), (7, .iaload, 1), (8, .if_icmp .ge 34, 3), (11, .iload_n 2, 1), (12, .aload_n 0, 1), (13, .iload_n 3, 1), (14, .iload_n 1, 1), (15, .invokestatic 55, 3), (18, .ifCond .eq 15, 3), (21, .aload_n 0, 1), (22, .iload_n 3, 1), (23, .invokestatic 58, 3), (26, .ifCond .eq 7, 3), (29, .iconst 1, 1), (30, .goto 4, 3), (33, .iconst 0, 1), (34, .iadd, 1), (35, .istore_n 2, 1), (36, .iinc 3 1, 3), (39, .goto (-35), 3), (42, .iload_n 2, 1), (43, .ireturn, 1)]
def am_c136 : List (Nat × Instr × Nat) := [(0, .iconst 0, 1), (1, .istore_n 2, 1), (2, .iconst 0, 1), (3, .istore_n 3, 1), (4, .iload_n 3, 1), (5, .aload_n 0, 1), (6, .iconst 1, 1), (7, .iaload, 1), (8, .if_icmp .ge 31, 3), (11, .iload_n 2, 1), (12, .aload_n 0, 1), (13, .iload_n 3, 1), (14, .iload_n 1, 1), (15, .invokestatic 55, 3), (18, .ifCond .eq 12, 3), (21, .aload_n 0, 1), (22, .iload_n 3, 1), (23, .iconst 0, 1), (24, .invokestatic 47, 3), (27, .goto 4, 3), (30, .iconst 0, 1), (31, .iadd, 1), (32, .istore_n 2, 1), (33, .iinc 3 1, 3), (36, .goto (-32), 3), (39, .iload_n 2, 1), (40, .ireturn, 1)]
def am_c137 : List (Nat × Instr × Nat) := [(0, .iconst 0, 1), (1, .istore_n 1, 1), (2, .iconst 0, 1), (3, .istore_n 2, 1), (4, .iload_n 2, 1), (5, .aload_n 0, 1), (6, .iconst 0, 1), (7, .iaload, 1), (8, .if_icmp .ge 17, 3), (11, .iload_n 1, 1), (12, .aload_n 0, 1), (13, .iload_n 2, 1), (14, .invokestatic 62, 3), (17, .iadd, 1), (18, .istore_n 1, 1), (19, .iinc 2 1, 3), (22, .goto (-18), 3), (25, .iload_n 1, 1), (26, .ireturn, 1)]
def am_c138 : List (Nat × Instr × Nat) := [(0, .iconst 0, 1), (1, .istore_n 1, 1), (2, .iconst 0, 1), (3, .istore_n 2, 1), (4, .iload_n 2, 1), (5, .aload_n 0, 1), (6, .iconst 0, 1), (7, .iaload, 1), (8, .if_icmp .ge 17, 3), (11, .iload_n 1, 1), (12, .aload_n 0, 1), (13, .iload_n 2, 1), (14, .invokestatic 66, 3), (17, .iadd, 1), (18, .istore_n 1, 1), (19, .iinc 2 1, 3), (22, .goto (-18), 3), (25, .iload_n 1, 1), (26, .ireturn, 1)]
def am_c139 : List (Nat × Instr × Nat) := [(0, .iconst 0, 1), (1, .istore_n 1, 1), (2, .iconst 0, 1), (3, .istore_n 2, 1), (4, .iload_n 2, 1), (5, .aload_n 0, 1), (6, .iconst 0, 1), (7, .iaload, 1), (8, .if_icmp .ge 17, 3), (11, .iload_n 1, 1), (12, .aload_n 0, 1), (13, .iload_n 2, 1), (14, .invokestatic 69, 3), (17, .iadd, 1), (18, .istore_n 1, 1), (19, .iinc 2 1, 3), (22, .goto (-18), 3), (25, .iload_n 1, 1), (26, .ireturn, 1)]
def am_c140 : List (Nat × Instr × Nat) := [(0, .iload_n 1, 1), (1, .iconst (-1), 1), (2, .if_icmp .eq 10, 3), (5, .aload_n 0, 1), (6, .iload_n 1, 1), (7, .iconst 3, 1), (8, .iload_n 2, 1), (9, .invokestatic 72, 3), (12, .iload_n 2, 1), (13, .iconst (-1), 1), (14, .if_icmp .eq 10, 3), (17, .aload_n 0, 1), (18, .iload_n 2, 1), (19, .iconst 2, 1), (20, .iload_n 1, 1), (21, .invokestatic 72, 3), (24, .return_, 1)]
def am_c141_0 : List (Nat × Instr × Nat) := [(0, .iconst (-1), 1), (1, .istore_n 3, 1), (2, .iconst (-1), 1), (3, .istore 4, 2), (5, .iload_n 1, 1), (6, .istore 5, 2), (8, .iload_n 2, 1), (9, .istore 6, 2), (11, .iload 5, 2), (13, .iconst (-1), 1), (14, .if_icmp .eq 111, 3), (17, .iload 6, 2), (19, .iconst (-1), 1), (20, .if_icmp .eq 105, 3), (23, .aload_n 0, 1), (24, .iconst 4, 1), (25, .dup2, 1), (26, .iaload, 1), (27, .iconst 1, 1), (28, .iadd, 1), (29, .iastore, 1), (30, .aload_n 0, 1), (31, .iload 5, 2), (33, .iload 6, 2), (35, .invokestatic 51, 3), (38, .ifCond .eq 8, 3), (41, .iload 5, 2), (43, .goto 5, 3), (46, .iload 6, 2), (48, .istore 7, 2), (50, .iload 7, 2), (52, .iload 5, 2), (54, .if_icmp .ne 8, 3), (57, .iload 6, 2), (59, .goto 5, 3), (62, .iload 5, 2), (64, .istore 8, 2), (66, .aload_n 0, 1), (67, .iload 4, 2), (69, .iload 7, 2)]
def am_c141_1 : List (Nat × Instr × Nat) := [(71, .invokestatic 76, 3), (74, .iload 4, 2), (76, .iconst (-1), 1), (77, .if_icmp .ne 8, 3), (80, .iload 7, 2), (82, .goto 4, 3), (85, .iload_n 3, 1), (86, .istore_n 3, 1), (87, .aload_n 0, 1), (88, .iload 7, 2), (90, .iconst 4, 1), (91, .invokestatic 47, 3), (94, .istore 9, 2), (96, .aload_n 0, 1), (97, .iload 7, 2), (99, .iconst 4, 1), (100, .aload_n 0, 1), (101, .iload 7, 2), (103, .iconst 3, 1), (104, .invokestatic 47, 3), (107, .invokestatic 72, 3), (110, .iload 7, 2), (112, .istore 4, 2), (114, .iload 9, 2), (116, .istore 5, 2), (118, .iload 8, 2), (120, .istore 6, 2), (122, .goto (-111), 3), (125, .iload 5, 2), (127, .iconst (-1), 1), (128, .if_icmp .ne 8, 3), (131, .iload 6, 2), (133, .goto 5, 3), (136, .iload 5, 2), (138, .istore 7, 2), (140, .aload_n 0, 1), (141, .iload 4, 2), (143, .iload 7, 2), (145, .invokestatic 76, 3), (148, .iload 4, 2)]
def am_c141_2 : List (Nat × Instr × Nat) := [(150, .iconst (-1), 1), (151, .if_icmp .ne 8, 3), (154, .iload 7, 2), (156, .goto 4, 3), (159, .iload_n 3, 1), (160, .ireturn, 1)]
def am_c141 : List (Nat × Instr × Nat) := am_c141_0 ++ (am_c141_1 ++ (am_c141_2))
def am_c142 : List (Nat × Instr × Nat) := [(0, .aload_n 0, 1), (1, .iload_n 2, 1), (2, .iconst 1, 1), (3, .iload_n 1, 1), (4, .invokestatic 72, 3), (7, .aload_n 0, 1), (8, .iload_n 2, 1), (9, .iconst 2, 1), (10, .iconst (-1), 1), (11, .invokestatic 72, 3), (14, .aload_n 0, 1), (15, .iload_n 2, 1), (16, .iconst 3, 1), (17, .iconst (-1), 1), (18, .invokestatic 72, 3), (21, .aload_n 0, 1), (22, .iload_n 2, 1), (23, .iconst 4, 1), (24, .iconst (-1), 1), (25, .invokestatic 72, 3), (28, .aload_n 0, 1), (29, .bipush 10, 2), (31, .iconst 2, 1), (32, .iload_n 1, 1), (33, .imul, 1), (34, .iadd, 1), (35, .aload_n 0, 1), (36, .aload_n 0, 1), (37, .iload_n 1, 1), (38, .invokestatic 80, 3), (41, .iload_n 2, 1), (42, .invokestatic 83, 3), (45, .iastore, 1), (46, .return_, 1)]
def am_c143_0 : List (Nat × Instr × Nat) := [(0, .aload_n 0, 1), (1, .iload_n 1, 1), (2, .iconst 2, 1), (3, .invokestatic 47, 3), (6, .istore_n 2, 1), (7, .iload_n 2, 1), (8, .iconst (-1), 1), (9, .if_icmp .eq 17, 3), (12, .aload_n 0, 1), (13, .iload_n 2, 1), (14, .iconst 3, 1), (15, .invokestatic 47, 3), (18, .iload_n 1, 1), (19, .if_icmp .ne 7, 3), (22, .iconst 1, 1), (23, .goto 4, 3), (26, .iconst 0, 1), (27, .istore_n 3, 1), (28, .aload_n 0, 1), (29, .iload_n 1, 1), (30, .iconst 1, 1), (31, .invokestatic 47, 3), (34, .istore 4, 2), (36, .aload_n 0, 1), (37, .aload_n 0, 1), (38, .iload_n 1, 1), (39, .iconst 3, 1), (40, .invokestatic 47, 3), (43, .aload_n 0, 1), (44, .iload_n 1, 1), (45, .iconst 4, 1), (46, .invokestatic 47, 3), (49, .invokestatic 83, 3), (52, .istore 5, 2), (54, .iload_n 2, 1), (55, .iconst (-1), 1), (56, .if_icmp .ne 17, 3), (59, .aload_n 0, 1), (60, .bipush 10, 2), (62, .iconst 2, 1)]
def am_c143_1 : List (Nat × Instr × Nat) := [(63, .iload 4, 2), (65, .imul, 1), (66, .iadd, 1), (67, .iload 5, 2), (69, .iastore, 1), (70, .goto 19, 3), (73, .aload_n 0, 1), (74, .iload_n 2, 1), (75, .iload_n 3, 1), (76, .ifCond .eq 7, 3), (79, .iconst 3, 1), (80, .goto 4, 3), (83, .iconst 4, 1), (84, .iload 5, 2), (86, .invokestatic 72, 3), (89, .iload 5, 2), (91, .iconst (-1), 1), (92, .if_icmp .eq 11, 3), (95, .aload_n 0, 1), (96, .iload 5, 2), (98, .iconst 2, 1), (99, .iload_n 2, 1), (100, .invokestatic 72, 3), (103, .aload_n 0, 1), (104, .iload_n 1, 1), (105, .iconst 1, 1), (106, .iconst (-1), 1), (107, .invokestatic 72, 3), (110, .return_, 1)]
def am_c143 : List (Nat × Instr × Nat) := am_c143_0 ++ (am_c143_1)
def am_c144 : List (Nat × Instr × Nat) := [(0, .aload_n 0, 1), (1, .iconst 0, 1), (2, .iaload, 1), (3, .istore_n 1, 1), (4, .aload_n 0, 1), (5, .bipush 10, 2), (7, .iconst 2, 1), (8, .iload_n 1, 1), (9, .imul, 1), (10, .iadd, 1), (11, .iconst (-1), 1), (12, .iastore, 1), (13, .aload_n 0, 1), (14, .bipush 10, 2), (16, .iconst 2, 1), (17, .iload_n 1, 1), (18, .imul, 1), (19, .iadd, 1), (20, .iconst 1, 1), (21, .iadd, 1), (22, .iconst 0, 1), (23, .iastore, 1), (24, .aload_n 0, 1), (25, .iconst 0, 1), (26, .dup2, 1), (27, .iaload, 1), (28, .iconst 1, 1), (29, .iadd, 1), (30, .iastore, 1), (31, .iload_n 1, 1), (32, .ireturn, 1)]
def am_c145 : List (Nat × Instr × Nat) := [(0, .aload_n 0, 1), (1, .iconst 1, 1), (2, .iaload, 1), (3, .istore_n 3, 1), (4, .aload_n 0, 1), (5, .iload_n 3, 1), (6, .iconst 0, 1), (7, .iload_n 2, 1), (8, .invokestatic 72, 3), (11, .aload_n 0, 1), (12, .iconst 1, 1), (13, .dup2, 1), (14, .iaload, 1), (15, .iconst 1, 1), (16, .iadd, 1), (17, .iastore, 1), (18, .aload_n 0, 1), (19, .iload_n 1, 1), (20, .iload_n 3, 1), (21, .invokestatic 86, 3), (24, .iload_n 3, 1), (25, .ireturn, 1)]
def am_c146 : List (Nat × Instr × Nat) := [(0, .aload_n 0, 1), (1, .iload_n 1, 1), (2, .invokestatic 80, 3), (5, .iconst (-1), 1), (6, .if_icmp .ne 7, 3), (9, .iconst 1, 1), (10, .goto 16, 3), (13, .aload_n 0, 1), (14, .iload_n 1, 1), (15, .invokestatic 62, 3), (18, .ifCond .le 7, 3), (21, .iconst 2, 1), (22, .goto 4, 3), (25, .iconst 0, 1), (26, .ireturn, 1)]
def am_c147_0 : List (Nat × Instr × Nat) := [(0, .aload_n 0, 1), (1, .iload_n 1, 1), (2, .invokestatic 80, 3), (5, .istore_n 2, 1), (6, .aload_n 0, 1), (7, .iload_n 2, 1), (8, .iconst 0, 1), (9, .invokestatic 47, 3), (12, .istore_n 3, 1), (13, .aload_n 0, 1), (14, .iload_n 2, 1), (15, .invokestatic 89, 3), (18, .aload_n 0, 1), (19, .iconst 2, 1), (20, .dup2, 1), (21, .iaload, 1), (22, .iconst 1, 1), (23, .iadd, 1), (24, .iastore, 1), (25, .aload_n 0, 1), (26, .iconst 5, 1), (27, .dup2, 1), (28, .iaload, 1), (29, .iload_n 3, 1), (30, .aload_n 0, 1), (31, .bipush 9, 2), (33, .iaload, 1), (34, .if_icmp .gt 10, 3), (37, .bipush 100, 2), (39, .iload_n 3, 1), (40, .isub, 1), (41, .goto 4, 3), (44, .iconst 0, 1), (45, .iadd, 1), (46, .iastore, 1), (47, .aload_n 0, 1), (48, .bipush 6, 2), (50, .dup2, 1), (51, .iaload, 1), (52, .iload_n 3, 1)]
def am_c147_1 : List (Nat × Instr × Nat) := [(53, .aload_n 0, 1), (54, .bipush 9, 2), (56, .iaload, 1), (57, .if_icmp .gt 7, 3), (60, .iconst 0, 1), (61, .goto 4, 3), (64, .iconst 1, 1), (65, .iadd, 1), (66, .iastore, 1), (67, .return_, 1)]
def am_c147 : List (Nat × Instr × Nat) := am_c147_0 ++ (am_c147_1)
def am_c148 : List (Nat × Instr × Nat) := [(0, .aload_n 0, 1), (1, .iload_n 1, 1), (2, .invokestatic 93, 3), (5, .istore_n 2, 1), (6, .iload_n 2, 1), (7, .ifCond .ne 11, 3), (10, .aload_n 0, 1), (11, .iload_n 1, 1), (12, .invokestatic 96, 3), (15, .goto 11, 3), (18, .aload_n 0, 1), (19, .bipush 8, 2), (21, .dup2, 1), (22, .iaload, 1), (23, .iconst 1, 1), (24, .iadd, 1), (25, .iastore, 1), (26, .iload_n 2, 1), (27, .ireturn, 1)]
def am_c149 : List (Nat × Instr × Nat) := [(0, .aload_n 0, 1), (1, .iconst 4, 1), (2, .iaload, 1), (3, .istore_n 2, 1), (4, .aload_n 0, 1), (5, .iload_n 1, 1), (6, .invokestatic 89, 3), (9, .aload_n 0, 1), (10, .iconst 3, 1), (11, .dup2, 1), (12, .iaload, 1), (13, .iconst 1, 1), (14, .iadd, 1), (15, .iastore, 1), (16, .aload_n 0, 1), (17, .iconst 4, 1), (18, .iaload, 1), (19, .iload_n 2, 1), (20, .isub, 1), (21, .ireturn, 1)]
def am_c150_0 : List (Nat × Instr × Nat) := [(0, .aload_n 0, 1), (1, .iconst 4, 1), (2, .iaload, 1), (3, .istore_n 3, 1), (4, .aload_n 0, 1), (5, .bipush 10, 2), (7, .iconst 2, 1), (8, .iload_n 1, 1), (9, .imul, 1), (10, .iadd, 1), (11, .aload_n 0, 1), (12, .aload_n 0, 1), (13, .iload_n 1, 1), (14, .invokestatic 80, 3), (17, .aload_n 0, 1), (18, .iload_n 2, 1), (19, .invokestatic 80, 3), (22, .invokestatic 83, 3), (25, .iastore, 1), (26, .aload_n 0, 1), (27, .bipush 10, 2), (29, .iconst 2, 1), (30, .iload_n 2, 1), (31, .imul, 1), (32, .iadd, 1), (33, .iconst (-1), 1), (34, .iastore, 1), (35, .iconst 0, 1), (36, .istore 4, 2), (38, .iload 4, 2), (40, .aload_n 0, 1), (41, .iconst 1, 1), (42, .iaload, 1), (43, .if_icmp .ge 37, 3), (46, .aload_n 0, 1), (47, .iload 4, 2), (49, .iconst 1, 1), (50, .aload_n 0, 1), (51, .iload 4, 2), (53, .iload_n 2, 1)]
def am_c150_1 : List (Nat × Instr × Nat) := [(54, .invokestatic 55, 3), (57, .ifCond .eq 7, 3), (60, .iload_n 1, 1), (61, .goto 10, 3), (64, .aload_n 0, 1), (65, .iload 4, 2), (67, .iconst 1, 1), (68, .invokestatic 47, 3), (71, .invokestatic 72, 3), (74, .iinc 4 1, 3), (77, .goto (-39), 3), (80, .aload_n 0, 1), (81, .iconst 4, 1), (82, .iaload, 1), (83, .iload_n 3, 1), (84, .isub, 1), (85, .ireturn, 1)]
def am_c150 : List (Nat × Instr × Nat) := am_c150_0 ++ (am_c150_1)
def am_c151 : List (Nat × Instr × Nat) := [(0, .aload_n 0, 1), (1, .bipush 10, 2), (3, .iconst 2, 1), (4, .iload_n 1, 1), (5, .imul, 1), (6, .iadd, 1), (7, .iconst 1, 1), (8, .iadd, 1), (9, .iaload, 1), (10, .istore_n 3, 1), (11, .aload_n 0, 1), (12, .bipush 10, 2), (14, .iconst 2, 1), (15, .iload_n 1, 1), (16, .imul, 1), (17, .iadd, 1), (18, .iconst 1, 1), (19, .iadd, 1), (20, .iload_n 2, 1), (21, .ifCond .eq 7, 3), (24, .iconst 1, 1), (25, .goto 4, 3), (28, .iconst 0, 1), (29, .iastore, 1), (30, .iload_n 3, 1), (31, .ireturn, 1)]
def am_c152_0 : List (Nat × Instr × Nat) := [(0, .iconst 0, 1), (1, .istore_n 2, 1), (2, .iload_n 2, 1), (3, .aload_n 0, 1), (4, .iconst 1, 1), (5, .iaload, 1), (6, .if_icmp .ge 80, 3), (9, .aload_n 0, 1), (10, .iload_n 2, 1), (11, .invokestatic 99, 3), (14, .ifCond .eq 66, 3), (17, .aload_n 0, 1), (18, .aload_n 0, 1), (19, .iload_n 2, 1), (20, .iconst 1, 1), (21, .invokestatic 47, 3), (24, .invokestatic 102, 3), (27, .ifCond .eq 9, 3), (30, .iload_n 1, 1), (31, .iconst 4, 1), (32, .idiv, 1), (33, .goto 19, 3), (36, .aload_n 0, 1), (37, .iload_n 2, 1), (38, .invokestatic 105, 3), (41, .iconst 2, 1), (42, .if_icmp .ge 7, 3), (45, .iload_n 1, 1), (46, .goto 6, 3), (49, .iload_n 1, 1), (50, .iconst 2, 1), (51, .idiv, 1), (52, .istore_n 3, 1), (53, .aload_n 0, 1), (54, .iload_n 2, 1), (55, .iconst 0, 1), (56, .invokestatic 47, 3), (59, .iload_n 3, 1), (60, .isub, 1), (61, .istore 4, 2)]
def am_c152_1 : List (Nat × Instr × Nat) := [(63, .aload_n 0, 1), (64, .iload_n 2, 1), (65, .iconst 0, 1), (66, .iload 4, 2), (68, .ifCond .ge 7, 3), (71, .iconst 0, 1), (72, .goto 5, 3), (75, .iload 4, 2), (77, .invokestatic 72, 3), (80, .iinc 2 1, 3), (83, .goto (-81), 3), (86, .aload_n 0, 1), (87, .invokestatic 108, 3), (90, .ireturn, 1)]
def am_c152 : List (Nat × Instr × Nat) := am_c152_0 ++ (am_c152_1)
def am_c153_0 : List (Nat × Instr × Nat) := [(0, .iconst 0, 1), (1, .istore_n 2, 1), (2, .iload_n 2, 1), (3, .aload_n 0, 1), (4, .iconst 1, 1), (5, .iaload, 1), (6, .if_icmp .ge 72, 3), (9, .aload_n 0, 1), (10, .iload_n 2, 1), (11, .invokestatic 99, 3), (14, .ifCond .eq 58, 3), (17, .aload_n 0, 1), (18, .aload_n 0, 1), (19, .iload_n 2, 1), (20, .iconst 1, 1), (21, .invokestatic 47, 3), (24, .invokestatic 102, 3), (27, .ifCond .ne 45, 3), (30, .aload_n 0, 1), (31, .iload_n 2, 1), (32, .iconst 0, 1), (33, .invokestatic 47, 3), (36, .aload_n 0, 1), (37, .iload_n 2, 1), (38, .invokestatic 105, 3), (41, .iconst 2, 1), (42, .if_icmp .ge 7, 3), (45, .iload_n 1, 1), (46, .goto 6, 3), (49, .iload_n 1, 1), (50, .iconst 3, 1), (51, .idiv, 1), (52, .iadd, 1), (53, .istore_n 3, 1), (54, .aload_n 0, 1), (55, .iload_n 2, 1), (56, .iconst 0, 1), (57, .iload_n 3, 1), (58, .bipush 99, 2), (60, .if_icmp .le 8, 3)]
def am_c153_1 : List (Nat × Instr × Nat) := [(63, .bipush 99, 2), (65, .goto 4, 3), (68, .iload_n 3, 1), (69, .invokestatic 72, 3), (72, .iinc 2 1, 3), (75, .goto (-73), 3), (78, .aload_n 0, 1), (79, .invokestatic 112, 3), (82, .ireturn, 1)]
def am_c153 : List (Nat × Instr × Nat) := am_c153_0 ++ (am_c153_1)
def am_c154 : List (Nat × Instr × Nat) := [(0, .aload_n 0, 1), (1, .iconst 4, 1), (2, .iaload, 1), (3, .istore_n 2, 1), (4, .aload_n 0, 1), (5, .bipush 10, 2), (7, .iconst 2, 1), (8, .iload_n 1, 1), (9, .imul, 1), (10, .iadd, 1), (11, .iconst (-1), 1), (12, .iastore, 1), (13, .iconst 0, 1), (14, .istore_n 3, 1), (15, .iload_n 3, 1), (16, .aload_n 0, 1), (17, .iconst 1, 1), (18, .iaload, 1), (19, .if_icmp .ge 24, 3), (22, .aload_n 0, 1), (23, .iload_n 3, 1), (24, .iload_n 1, 1), (25, .invokestatic 55, 3), (28, .ifCond .eq 9, 3), (31, .aload_n 0, 1), (32, .iload_n 1, 1), (33, .iload_n 3, 1), (34, .invokestatic 86, 3), (37, .iinc 3 1, 3), (40, .goto (-25), 3), (43, .aload_n 0, 1), (44, .iconst 4, 1), (45, .iaload, 1), (46, .iload_n 2, 1), (47, .isub, 1), (48, .ireturn, 1)]
def am_c155_0 : List (Nat × Instr × Nat) := [(0, .aload_n 0, 1), (1, .iconst 5, 1), (2, .iaload, 1), (3, .istore_n 2, 1), (4, .iconst 0, 1), (5, .istore_n 3, 1), (6, .iload_n 3, 1), (7, .iload_n 1, 1), (8, .if_icmp .ge 113, 3), (11, .iconst (-1), 1), (12, .istore 4, 2), (14, .iconst 0, 1), (15, .istore 5, 2), (17, .iload 5, 2), (19, .aload_n 0, 1), (20, .iconst 0, 1), (21, .iaload, 1), (22, .if_icmp .ge 70, 3), (25, .aload_n 0, 1), (26, .iload 5, 2), (28, .invokestatic 93, 3), (31, .ifCond .ne 7, 3), (34, .iconst 1, 1), (35, .goto 4, 3), (38, .iconst 0, 1), (39, .istore 6, 2), (41, .iload 6, 2), (43, .ifCond .eq 39, 3), (46, .iload 4, 2), (48, .iconst (-1), 1), (49, .if_icmp .eq 28, 3), (52, .aload_n 0, 1), (53, .aload_n 0, 1), (54, .iload 5, 2), (56, .invokestatic 80, 3), (59, .iconst 0, 1), (60, .invokestatic 47, 3), (63, .aload_n 0, 1), (64, .aload_n 0, 1), (65, .iload 4, 2)]
def am_c155_1 : List (Nat × Instr × Nat) := [(67, .invokestatic 80, 3), (70, .iconst 0, 1), (71, .invokestatic 47, 3), (74, .if_icmp .ge 8, 3), (77, .iload 5, 2), (79, .goto 5, 3), (82, .iload 4, 2), (84, .istore 4, 2), (86, .iinc 5 1, 3), (89, .goto (-72), 3), (92, .iload 4, 2), (94, .iconst (-1), 1), (95, .if_icmp .ne 14, 3), (98, .aload_n 0, 1), (99, .bipush 7, 2), (101, .dup2, 1), (102, .iaload, 1), (103, .iconst 1, 1), (104, .iadd, 1), (105, .iastore, 1), (106, .goto 9, 3), (109, .aload_n 0, 1), (110, .iload 4, 2), (112, .invokestatic 96, 3), (115, .iinc 3 1, 3), (118, .goto (-112), 3), (121, .aload_n 0, 1), (122, .iconst 5, 1), (123, .iaload, 1), (124, .iload_n 2, 1), (125, .isub, 1), (126, .ireturn, 1)]
def am_c155 : List (Nat × Instr × Nat) := am_c155_0 ++ (am_c155_1)
def am_c156 : List (Nat × Instr × Nat) := [(0, .aload_n 0, 1), (1, .iload_n 1, 1), (2, .i2l, 1), (3, .lconst 0, 1), (4, .ldc2_w 115, 3), (7, .invokestatic 43, 3), (10, .ifCond .ne 7, 3), (13, .iconst 1, 1), (14, .goto 17, 3), (17, .aload_n 0, 1), (18, .getfield 117, 3), (21, .bipush 120, 2), (23, .if_icmp .ne 7, 3), (26, .iconst 2, 1), (27, .goto 4, 3), (30, .iconst 0, 1), (31, .invokevirtual 120, 3), (34, .ifCond .eq 5, 3), (37, .iconst 0, 1), (38, .ireturn, 1), (39, .aload_n 0, 1), (40, .getfield 7, 3), (43, .aload_n 0, 1), (44, .getfield 117, 3), (47, .iload_n 1, 1), (48, .iastore, 1), (49, .aload_n 0, 1), (50, .dup, 1), (51, .getfield 117, 3), (54, .iconst 1, 1), (55, .iadd, 1), (56, .putfield 117, 3), (59, .aload_n 0, 1), (60, .getfield 117, 3), (63, .ireturn, 1)]
def am_c157 : List (Nat × Instr × Nat) := [(0, .aload_n 0, 1), (1, .iconst 0, 1), (2, .putfield 39, 3), (5, .aload_n 0, 1), (6, .getfield 117, 3), (9, .istore_n 1, 1), (10, .aload_n 0, 1), (11, .iconst 0, 1), (12, .putfield 117, 3), (15, .iload_n 1, 1), (16, .ireturn, 1)]
def am_c158_0 : List (Nat × Instr × Nat) := [(0, .iconst 0, 1), (1, .istore 5, 2), (3, .iload_n 2, 1), (4, .iconst 2, 1), (5, .if_icmp .ne 8, 3), (8, .bipush 10, 2), (10, .goto 4, 3), (13, .iconst 1, 1), (14, .istore 6, 2), (16, .iload 6, 2), (18, .ifCond .le 104, 3), (21, .iload_n 1, 1), (22, .iconst (-1), 1), (23, .if_icmp .eq 99, 3), (26, .aload_n 0, 1), (27, .getfield 124, 3), (30, .aload_n 0, 1), (31, .getfield 117, 3), (34, .if_icmp .ge 18, 3), (37, .aload_n 0, 1), (38, .getfield 7, 3), (41, .aload_n 0, 1), (42, .getfield 124, 3), (45, .iaload, 1), (46, .bipush 48, 2), (48, .isub, 1), (49, .goto 4, 3), (52, .iconst (-1), 1), (53, .istore 7, 2), (55, .iload 5, 2), (57, .iload 7, 2), (59, .iload 6, 2), (61, .imul, 1), (62, .iadd, 1), (63, .istore 8, 2), (65, .iload 7, 2), (67, .i2l, 1), (68, .lconst 0, 1), (69, .ldc2_w 127, 3), (72, .invokestatic 43, 3)]
def am_c158_1 : List (Nat × Instr × Nat) := [(75, .ifCond .eq 21, 3), (78, .iload 8, 2), (80, .iload 4, 2), (82, .if_icmp .gt 14, 3), (85, .iload 8, 2), (87, .iload 6, 2), (89, .iadd, 1), (90, .iconst 1, 1), (91, .isub, 1), (92, .iload_n 3, 1), (93, .if_icmp .ge 5, 3), (96, .iconst (-1), 1), (97, .ireturn, 1), (98, .iload 8, 2), (100, .istore 5, 2), (102, .aload_n 0, 1), (103, .dup, 1), (104, .getfield 124, 3), (107, .iconst 1, 1), (108, .iadd, 1), (109, .putfield 124, 3), (112, .iload 6, 2), (114, .bipush 10, 2), (116, .idiv, 1), (117, .istore 6, 2), (119, .goto (-103), 3), (122, .iload_n 1, 1), (123, .iconst (-1), 1), (124, .if_icmp .ne 7, 3), (127, .iconst (-1), 1), (128, .goto 5, 3), (131, .iload 5, 2), (133, .ireturn, 1)]
def am_c158 : List (Nat × Instr × Nat) := am_c158_0 ++ (am_c158_1)
def am_c159 : List (Nat × Instr × Nat) := [(0, .aload_n 0, 1), (1, .dup, 1), (2, .getfield 129, 3), (5, .iload_n 1, 1), (6, .ifCond .eq 7, 3), (9, .iconst 0, 1), (10, .goto 4, 3), (13, .iconst 1, 1), (14, .iadd, 1), (15, .putfield 129, 3), (18, .iconst 1, 1), (19, .ireturn, 1)]
def am_c160 : List (Nat × Instr × Nat) := [(0, .aload_n 0, 1), (1, .iload_n 1, 1), (2, .iconst 1, 1), (3, .iconst 0, 1), (4, .iconst 3, 1), (5, .invokevirtual 132, 3), (8, .ireturn, 1)]
def am_c161_0 : List (Nat × Instr × Nat) := [(0, .aload_n 0, 1), (1, .iconst 0, 1), (2, .invokevirtual 136, 3), (5, .istore_n 2, 1), (6, .iload_n 2, 1), (7, .iconst (-1), 1), (8, .if_icmp .eq 42, 3), (11, .aload_n 0, 1), (12, .getfield 124, 3), (15, .aload_n 0, 1), (16, .getfield 117, 3), (19, .if_icmp .eq 31, 3), (22, .aload_n 0, 1), (23, .getfield 7, 3), (26, .aload_n 0, 1), (27, .getfield 124, 3), (30, .iaload, 1), (31, .bipush 43, 2), (33, .if_icmp .eq 19, 3), (36, .aload_n 0, 1), (37, .getfield 7, 3), (40, .aload_n 0, 1), (41, .getfield 124, 3), (44, .iaload, 1), (45, .bipush 45, 2), (47, .if_icmp .eq 5, 3), (50, .iconst 0, 1), (51, .ireturn, 1), (52, .aload_n 0, 1), (53, .getfield 7, 3), (56, .aload_n 0, 1), (57, .getfield 124, 3), (60, .iaload, 1), (61, .bipush 43, 2), (63, .if_icmp .ne 7, 3), (66, .iconst 1, 1), (67, .goto 4, 3), (70, .iconst 0, 1), (71, .istore_n 3, 1), (72, .aload_n 0, 1)]
def am_c161_1 : List (Nat × Instr × Nat) := [(73, .dup, 1), (74, .getfield 124, 3), (77, .iconst 1, 1), (78, .iadd, 1), (79, .putfield 124, 3), (82, .aload_n 0, 1), (83, .aload_n 1, 1), (84, .iload_n 2, 1), (85, .invokestatic 140, 3), (88, .ifCond .eq 16, 3), (91, .aload_n 1, 1), (92, .iload_n 2, 1), (93, .iload_n 3, 1), (94, .invokestatic 143, 3), (97, .ifCond .lt 7, 3), (100, .iconst 1, 1), (101, .goto 4, 3), (104, .iconst 0, 1), (105, .invokevirtual 147, 3), (108, .ireturn, 1)]
def am_c161 : List (Nat × Instr × Nat) := am_c161_0 ++ (am_c161_1)
def am_c162_0 : List (Nat × Instr × Nat) := [(0, .aload_n 0, 1), (1, .iconst 0, 1), (2, .invokevirtual 136, 3), (5, .istore_n 3, 1), (6, .iload_n 2, 1), (7, .bipush 108, 2), (9, .if_icmp .ne 15, 3), (12, .aload_n 0, 1), (13, .iload_n 3, 1), (14, .iconst 2, 1), (15, .iconst 0, 1), (16, .bipush 99, 2), (18, .invokevirtual 132, 3), (21, .goto 18, 3), (24, .iload_n 2, 1), (25, .bipush 106, 2), (27, .if_icmp .ne 11, 3), (30, .aload_n 0, 1), (31, .iload_n 3, 1), (32, .invokevirtual 136, 3), (35, .goto 4, 3), (38, .iload_n 3, 1), (39, .istore 4, 2), (41, .iload 4, 2), (43, .iconst (-1), 1), (44, .if_icmp .ne 5, 3), (47, .iconst 0, 1), (48, .ireturn, 1), (49, .iload_n 2, 1), (50, .lookupswitch 147 #[(100, 70), (106, 104), (108, 34)], 34), (84, .aload_n 0, 1), (85, .aload_n 1, 1), (86, .iload_n 3, 1), (87, .invokestatic 140, 3), (90, .ifCond .eq 25, 3), (93, .aload_n 1, 1), (94, .iconst 1, 1), (95, .iaload, 1), (96, .bipush 24, 2), (98, .if_icmp .ge 17, 3)]
def am_c162_1 : List (Nat × Instr × Nat) := [(101, .aload_n 1, 1), (102, .iload_n 3, 1), (103, .iload 4, 2), (105, .invokestatic 151, 3), (108, .ifCond .lt 7, 3), (111, .iconst 1, 1), (112, .goto 4, 3), (115, .iconst 0, 1), (116, .invokevirtual 147, 3), (119, .ireturn, 1), (120, .aload_n 0, 1), (121, .aload_n 1, 1), (122, .iload_n 3, 1), (123, .invokestatic 140, 3), (126, .ifCond .eq 23, 3), (129, .aload_n 1, 1), (130, .iload_n 3, 1), (131, .invokestatic 93, 3), (134, .ifCond .ne 15, 3), (137, .aload_n 1, 1), (138, .iload_n 3, 1), (139, .invokestatic 154, 3), (142, .ifCond .ne 7, 3), (145, .iconst 1, 1), (146, .goto 4, 3), (149, .iconst 0, 1), (150, .invokevirtual 147, 3), (153, .ireturn, 1), (154, .aload_n 0, 1), (155, .aload_n 1, 1), (156, .iload_n 3, 1), (157, .invokestatic 140, 3), (160, .ifCond .eq 32, 3), (163, .aload_n 1, 1), (164, .iload 4, 2), (166, .invokestatic 140, 3), (169, .ifCond .eq 23, 3), (172, .iload_n 3, 1), (173, .iload 4, 2), (175, .if_icmp .eq 17, 3)]
def am_c162_2 : List (Nat × Instr × Nat) := [(178, .aload_n 1, 1), (179, .iload_n 3, 1), (180, .iload 4, 2), (182, .invokestatic 157, 3), (185, .ifCond .lt 7, 3), (188, .iconst 1, 1), (189, .goto 4, 3), (192, .iconst 0, 1), (193, .invokevirtual 147, 3), (196, .ireturn, 1), (197, .aload_n 0, 1), (198, .aload_n 1, 1), (199, .iload_n 3, 1), (200, .invokestatic 140, 3), (203, .ifCond .eq 15, 3), (206, .aload_n 1, 1), (207, .iload_n 3, 1), (208, .invokestatic 160, 3), (211, .ifCond .lt 7, 3), (214, .iconst 1, 1), (215, .goto 4, 3), (218, .iconst 0, 1), (219, .invokevirtual 147, 3), (222, .ireturn, 1)]
def am_c162 : List (Nat × Instr × Nat) := am_c162_0 ++ (am_c162_1 ++ (am_c162_2))
def am_c163_0 : List (Nat × Instr × Nat) := [(0, .aload_n 0, 1), (1, .getfield 7, 3), (4, .aload_n 0, 1), (5, .getfield 124, 3), (8, .iaload, 1), (9, .istore_n 2, 1), (10, .aload_n 0, 1), (11, .dup, 1), (12, .getfield 124, 3), (15, .iconst 1, 1), (16, .iadd, 1), (17, .putfield 124, 3), (20, .iload_n 2, 1), (21, .tableswitch 281 99 119 #[179, 123, 281, 281, 281, 281, 281, 123, 130, 123, 123, 240, 281, 99, 281, 185, 281, 281, 281, 281, 185], 99), (120, .aload_n 0, 1), (121, .aload_n 1, 1), (122, .iconst 0, 1), (123, .iaload, 1), (124, .iconst 4, 1), (125, .if_icmp .ge 14, 3), (128, .aload_n 1, 1), (129, .invokestatic 163, 3), (132, .ifCond .lt 7, 3), (135, .iconst 1, 1), (136, .goto 4, 3), (139, .iconst 0, 1), (140, .invokevirtual 147, 3), (143, .ireturn, 1), (144, .aload_n 0, 1), (145, .aload_n 1, 1), (146, .iload_n 2, 1), (147, .invokevirtual 166, 3), (150, .ireturn, 1), (151, .aload_n 0, 1), (152, .iconst 0, 1), (153, .iconst 2, 1), (154, .iconst 0, 1), (155, .bipush 23, 2), (157, .invokevirtual 132, 3), (160, .istore_n 3, 1)]
def am_c163_1 : List (Nat × Instr × Nat) := [(161, .iload_n 3, 1), (162, .iconst (-1), 1), (163, .if_icmp .eq 35, 3), (166, .aload_n 0, 1), (167, .aload_n 1, 1), (168, .iload_n 3, 1), (169, .invokestatic 99, 3), (172, .ifCond .eq 15, 3), (175, .aload_n 1, 1), (176, .iload_n 3, 1), (177, .invokestatic 169, 3), (180, .ifCond .lt 7, 3), (183, .iconst 1, 1), (184, .goto 4, 3), (187, .iconst 0, 1), (188, .invokevirtual 147, 3), (191, .ifCond .eq 7, 3), (194, .iconst 1, 1), (195, .goto 4, 3), (198, .iconst 0, 1), (199, .ireturn, 1), (200, .aload_n 0, 1), (201, .aload_n 1, 1), (202, .invokevirtual 172, 3), (205, .ireturn, 1), (206, .aload_n 0, 1), (207, .iconst 0, 1), (208, .iconst 2, 1), (209, .iconst 1, 1), (210, .bipush 30, 2), (212, .invokevirtual 132, 3), (215, .istore_n 3, 1), (216, .iload_n 3, 1), (217, .iconst (-1), 1), (218, .if_icmp .eq 41, 3), (221, .aload_n 0, 1), (222, .iload_n 2, 1), (223, .bipush 119, 2), (225, .if_icmp .ne 11, 3), (228, .aload_n 1, 1)]
def am_c163_2 : List (Nat × Instr × Nat) := [(229, .iload_n 3, 1), (230, .invokestatic 176, 3), (233, .goto 8, 3), (236, .aload_n 1, 1), (237, .iload_n 3, 1), (238, .invokestatic 179, 3), (241, .ifCond .lt 7, 3), (244, .iconst 1, 1), (245, .goto 4, 3), (248, .iconst 0, 1), (249, .invokevirtual 147, 3), (252, .ifCond .eq 7, 3), (255, .iconst 1, 1), (256, .goto 4, 3), (259, .iconst 0, 1), (260, .ireturn, 1), (261, .aload_n 0, 1), (262, .iconst 0, 1), (263, .iconst 1, 1), (264, .iconst 1, 1), (265, .bipush 9, 2), (267, .invokevirtual 132, 3), (270, .istore_n 3, 1), (271, .iload_n 3, 1), (272, .iconst (-1), 1), (273, .if_icmp .eq 27, 3), (276, .aload_n 0, 1), (277, .aload_n 1, 1), (278, .iload_n 3, 1), (279, .invokestatic 182, 3), (282, .ifCond .lt 7, 3), (285, .iconst 1, 1), (286, .goto 4, 3), (289, .iconst 0, 1), (290, .invokevirtual 147, 3), (293, .ifCond .eq 7, 3), (296, .iconst 1, 1), (297, .goto 4, 3), (300, .iconst 0, 1), (301, .ireturn, 1)]
def am_c163_3 : List (Nat × Instr × Nat) := [(302, .aload_n 0, 1), (303, .dup, 1), (304, .getfield 124, 3), (307, .iconst 1, 1), (308, .isub, 1), (309, .putfield 124, 3), (312, .iconst 0, 1), (313, .ireturn, 1)]
def am_c163 : List (Nat × Instr × Nat) := am_c163_0 ++ (am_c163_1 ++ (am_c163_2 ++ (am_c163_3)))
def am_c164 : List (Nat × Instr × Nat) := [(0, .aload_n 1, 1), (1, .invokestatic 35, 3), (4, .aload_n 0, 1), (5, .iconst 0, 1), (6, .putfield 129, 3), (9, .aload_n 0, 1), (10, .iconst 0, 1), (11, .putfield 124, 3), (14, .aload_n 0, 1), (15, .getfield 117, 3), (18, .ifCond .eq 14, 3), (21, .aload_n 0, 1), (22, .getfield 7, 3), (25, .iconst 0, 1), (26, .iaload, 1), (27, .bipush 79, 2), (29, .if_icmp .eq 5, 3), (32, .iconst 0, 1), (33, .ireturn, 1), (34, .aload_n 0, 1), (35, .iconst 1, 1), (36, .putfield 124, 3), (39, .aload_n 0, 1), (40, .getfield 124, 3), (43, .aload_n 0, 1), (44, .getfield 117, 3), (47, .if_icmp .ge 16, 3), (50, .aload_n 0, 1), (51, .aload_n 1, 1), (52, .invokevirtual 185, 3), (55, .ifCond .ne (-16), 3), (58, .aload_n 0, 1), (59, .getfield 124, 3), (62, .ireturn, 1), (63, .iconst (-1), 1), (64, .ireturn, 1)]
def am_c165 : List (Nat × Instr × Nat) := [(0, .aload_n 0, 1), (1, .iconst 0, 1), (2, .putfield 39, 3), (5, .aload_n 0, 1), (6, .aload_n 0, 1), (7, .getfield 16, 3), (10, .invokevirtual 188, 3), (13, .ireturn, 1)]
def am_c166 : List (Nat × Instr × Nat) := [(0, .aload_n 0, 1), (1, .aload_n 0, 1), (2, .aload_n 0, 1), (3, .getfield 16, 3), (6, .invokevirtual 188, 3), (9, .iconst (-1), 1), (10, .if_icmp .ne 7, 3), (13, .iconst 0, 1), (14, .goto 4, 3), (17, .iconst 1, 1), (18, .invokevirtual 120, 3), (21, .ifCond .eq 5, 3), (24, .iconst 0, 1), (25, .ireturn, 1), (26, .aload_n 0, 1), (27, .getfield 16, 3), (30, .iconst 0, 1), (31, .aload_n 0, 1), (32, .getfield 13, 3), (35, .iconst 0, 1), (36, .invokestatic 191, 3), (39, .aload_n 0, 1), (40, .iconst 0, 1), (41, .putfield 195, 3), (44, .aload_n 0, 1), (45, .getfield 31, 3), (48, .iconst 0, 1), (49, .iconst 0, 1), (50, .bastore, 1), (51, .aload_n 0, 1), (52, .getfield 31, 3), (55, .iconst 1, 1), (56, .iconst 0, 1), (57, .bastore, 1), (58, .aload_n 0, 1), (59, .getfield 129, 3), (62, .ireturn, 1)]
def am_c167_0 : List (Nat × Instr × Nat) := [(0, .aload_n 0, 1), (1, .iload_n 1, 1), (2, .i2l, 1), (3, .lconst 0, 1), (4, .ldc2_w 198, 3), (7, .invokestatic 43, 3), (10, .ifCond .eq 7, 3), (13, .iconst 0, 1), (14, .goto 4, 3), (17, .iconst 1, 1), (18, .invokevirtual 120, 3), (21, .ifCond .eq 5, 3), (24, .iconst 0, 1), (25, .ireturn, 1), (26, .iload_n 1, 1), (27, .tableswitch 92 0 11 #[61, 61, 68, 92, 92, 92, 92, 92, 92, 92, 76, 84], 61), (88, .aload_n 0, 1), (89, .getfield 13, 3), (92, .iload_n 1, 1), (93, .iaload, 1), (94, .ireturn, 1), (95, .aload_n 0, 1), (96, .getfield 13, 3), (99, .invokestatic 200, 3), (102, .ireturn, 1), (103, .aload_n 0, 1), (104, .getfield 13, 3), (107, .invokestatic 108, 3), (110, .ireturn, 1), (111, .aload_n 0, 1), (112, .getfield 13, 3), (115, .bipush 9, 2), (117, .iaload, 1), (118, .ireturn, 1), (119, .aload_n 0, 1), (120, .getfield 13, 3), (123, .iload_n 1, 1), (124, .iconst 1, 1), (125, .isub, 1), (126, .iaload, 1)]
def am_c167_1 : List (Nat × Instr × Nat) := [(127, .ireturn, 1)]
def am_c167 : List (Nat × Instr × Nat) := am_c167_0 ++ (am_c167_1)
def am_c168 : List (Nat × Instr × Nat) := [(0, .iconst (-1), 1), (1, .istore_n 2, 1), (2, .iconst 0, 1), (3, .istore_n 3, 1), (4, .iload_n 3, 1), (5, .aload_n 0, 1), (6, .iconst 1, 1), (7, .iaload, 1), (8, .if_icmp .ge 42, 3), (11, .aload_n 0, 1), (12, .iload_n 3, 1), (13, .iload_n 1, 1), (14, .invokestatic 55, 3), (17, .ifCond .eq 11, 3), (20, .aload_n 0, 1), (21, .iload_n 3, 1), (22, .invokestatic 105, 3), (25, .goto 4, 3), (28, .iconst (-1), 1), (29, .istore 4, 2), (31, .iload 4, 2), (33, .iload_n 2, 1), (34, .if_icmp .le 8, 3), (37, .iload 4, 2), (39, .goto 4, 3), (42, .iload_n 2, 1), (43, .istore_n 2, 1), (44, .iinc 3 1, 3), (47, .goto (-43), 3), (50, .iload_n 2, 1), (51, .ireturn, 1)]
def am_c169_0 : List (Nat × Instr × Nat) := [(0, .aload_n 0, 1), (1, .aload_n 0, 1), (2, .getfield 13, 3), (5, .iload_n 1, 1), (6, .invokestatic 140, 3), (9, .ifCond .ne 7, 3), (12, .iconst 1, 1), (13, .goto 20, 3), (16, .iload_n 2, 1), (17, .i2l, 1), (18, .lconst 0, 1), (19, .ldc2_w 203, 3), (22, .invokestatic 43, 3), (25, .ifCond .eq 7, 3), (28, .iconst 0, 1), (29, .goto 4, 3), (32, .iconst 2, 1), (33, .invokevirtual 120, 3), (36, .ifCond .eq 5, 3), (39, .iconst 0, 1), (40, .ireturn, 1), (41, .iload_n 2, 1), (42, .tableswitch 100 0 5 #[38, 47, 56, 65, 82, 91], 38), (80, .aload_n 0, 1), (81, .getfield 13, 3), (84, .iload_n 1, 1), (85, .invokestatic 69, 3), (88, .ireturn, 1), (89, .aload_n 0, 1), (90, .getfield 13, 3), (93, .iload_n 1, 1), (94, .invokestatic 80, 3), (97, .ireturn, 1), (98, .aload_n 0, 1), (99, .getfield 13, 3), (102, .iload_n 1, 1), (103, .invokestatic 205, 3), (106, .ireturn, 1), (107, .aload_n 0, 1), (108, .getfield 13, 3)]
def am_c169_1 : List (Nat × Instr × Nat) := [(111, .iload_n 1, 1), (112, .invokestatic 102, 3), (115, .ifCond .eq 7, 3), (118, .iconst 1, 1), (119, .goto 4, 3), (122, .iconst 0, 1), (123, .ireturn, 1), (124, .aload_n 0, 1), (125, .getfield 13, 3), (128, .iload_n 1, 1), (129, .invokestatic 62, 3), (132, .ireturn, 1), (133, .aload_n 0, 1), (134, .getfield 13, 3), (137, .iload_n 1, 1), (138, .invokestatic 66, 3), (141, .ireturn, 1), (142, .aload_n 0, 1), (143, .getfield 13, 3), (146, .iload_n 1, 1), (147, .invokestatic 93, 3), (150, .ireturn, 1)]
def am_c169 : List (Nat × Instr × Nat) := am_c169_0 ++ (am_c169_1)
def am_c170_0 : List (Nat × Instr × Nat) := [(0, .aload_n 0, 1), (1, .aload_n 0, 1), (2, .getfield 13, 3), (5, .iload_n 1, 1), (6, .invokestatic 99, 3), (9, .ifCond .ne 7, 3), (12, .iconst 1, 1), (13, .goto 20, 3), (16, .iload_n 2, 1), (17, .i2l, 1), (18, .lconst 0, 1), (19, .ldc2_w 203, 3), (22, .invokestatic 43, 3), (25, .ifCond .eq 7, 3), (28, .iconst 0, 1), (29, .goto 4, 3), (32, .iconst 2, 1), (33, .invokevirtual 120, 3), (36, .ifCond .eq 5, 3), (39, .iconst 0, 1), (40, .ireturn, 1), (41, .iconst 0, 1), (42, .istore_n 3, 1), (43, .iconst 0, 1), (44, .istore 4, 2), (46, .iload 4, 2), (48, .aload_n 0, 1), (49, .getfield 13, 3), (52, .iconst 1, 1), (53, .iaload, 1), (54, .if_icmp .ge 42, 3), (57, .iload_n 3, 1), (58, .aload_n 0, 1), (59, .getfield 13, 3), (62, .iload 4, 2), (64, .invokestatic 99, 3), (67, .ifCond .eq 20, 3), (70, .aload_n 0, 1), (71, .getfield 13, 3), (74, .iload 4, 2)]
def am_c170_1 : List (Nat × Instr × Nat) := [(76, .iload_n 1, 1), (77, .invokestatic 208, 3), (80, .ifCond .eq 7, 3), (83, .iconst 1, 1), (84, .goto 4, 3), (87, .iconst 0, 1), (88, .iadd, 1), (89, .istore_n 3, 1), (90, .iinc 4 1, 3), (93, .goto (-47), 3), (96, .iload_n 2, 1), (97, .iconst 2, 1), (98, .if_icmp .ge 15, 3), (101, .aload_n 0, 1), (102, .getfield 13, 3), (105, .iload_n 1, 1), (106, .iload_n 2, 1), (107, .invokestatic 47, 3), (110, .goto 40, 3), (113, .iload_n 2, 1), (114, .iconst 2, 1), (115, .if_icmp .ne 14, 3), (118, .aload_n 0, 1), (119, .getfield 13, 3), (122, .iload_n 1, 1), (123, .invokestatic 105, 3), (126, .goto 24, 3), (129, .iload_n 2, 1), (130, .bipush 6, 2), (132, .if_icmp .ge 17, 3), (135, .aload_n 0, 1), (136, .getfield 13, 3), (139, .iload_n 1, 1), (140, .iload_n 2, 1), (141, .iconst 1, 1), (142, .isub, 1), (143, .invokestatic 47, 3), (146, .goto 4, 3), (149, .iload_n 3, 1), (150, .ireturn, 1)]
def am_c170 : List (Nat × Instr × Nat) := am_c170_0 ++ (am_c170_1)
def am_c171_0 : List (Nat × Instr × Nat) := [(0, .iconst 0, 1), (1, .istore_n 3, 1), (2, .iload_n 3, 1), (3, .aload_n 0, 1), (4, .getfield 13, 3), (7, .iconst 1, 1), (8, .iaload, 1), (9, .if_icmp .ge 88, 3), (12, .iconst 0, 1), (13, .istore 4, 2), (15, .iconst 0, 1), (16, .istore 5, 2), (18, .iload 5, 2), (20, .aload_n 0, 1), (21, .getfield 13, 3), (24, .iconst 1, 1), (25, .iaload, 1), (26, .if_icmp .ge 45, 3), (29, .iload 4, 2), (31, .aload_n 0, 1), (32, .getfield 13, 3), (35, .iload 5, 2), (37, .iload_n 1, 1), (38, .invokestatic 55, 3), (41, .ifCond .eq 20, 3), (44, .aload_n 0, 1), (45, .getfield 13, 3), (48, .iload 5, 2), (50, .iload_n 3, 1), (51, .invokestatic 51, 3), (54, .ifCond .eq 7, 3), (57, .iconst 1, 1), (58, .goto 4, 3), (61, .iconst 0, 1), (62, .iadd, 1), (63, .istore 4, 2), (65, .iinc 5 1, 3), (68, .goto (-50), 3), (71, .aload_n 0, 1), (72, .getfield 13, 3)]
def am_c171_1 : List (Nat × Instr × Nat) := [(75, .iload_n 3, 1), (76, .iload_n 1, 1), (77, .invokestatic 55, 3), (80, .ifCond .eq 11, 3), (83, .iload 4, 2), (85, .iload_n 2, 1), (86, .if_icmp .ne 5, 3), (89, .iload_n 3, 1), (90, .ireturn, 1), (91, .iinc 3 1, 3), (94, .goto (-92), 3), (97, .iconst (-1), 1), (98, .ireturn, 1)]
def am_c171 : List (Nat × Instr × Nat) := am_c171_0 ++ (am_c171_1)
def am_c172_0 : List (Nat × Instr × Nat) := [(0, .aload_n 0, 1), (1, .getfield 13, 3), (4, .iload_n 1, 1), (5, .invokestatic 140, 3), (8, .ifCond .eq 27, 3), (11, .iload_n 2, 1), (12, .i2l, 1), (13, .lconst 0, 1), (14, .aload_n 0, 1), (15, .getfield 13, 3), (18, .iload_n 1, 1), (19, .invokestatic 69, 3), (22, .iconst 1, 1), (23, .isub, 1), (24, .i2l, 1), (25, .invokestatic 43, 3), (28, .ifCond .eq 7, 3), (31, .iconst 1, 1), (32, .goto 4, 3), (35, .iconst 0, 1), (36, .istore 4, 2), (38, .aload_n 0, 1), (39, .iload 4, 2), (41, .ifCond .ne 7, 3), (44, .iconst 1, 1), (45, .goto 33, 3), (48, .iload_n 3, 1), (49, .i2l, 1), (50, .lconst 0, 1), (51, .lconst 1, 1), (52, .invokestatic 43, 3), (55, .ifCond .ne 7, 3), (58, .iconst 2, 1), (59, .goto 19, 3), (62, .aload_n 0, 1), (63, .getfield 13, 3), (66, .iload_n 1, 1), (67, .invokestatic 62, 3), (70, .ifCond .le 7, 3), (73, .iconst 3, 1)]
def am_c172_1 : List (Nat × Instr × Nat) := [(74, .goto 4, 3), (77, .iconst 0, 1), (78, .invokevirtual 120, 3), (81, .ifCond .eq 5, 3), (84, .iconst 0, 1), (85, .ireturn, 1), (86, .aload_n 0, 1), (87, .iload_n 1, 1), (88, .iload_n 2, 1), (89, .invokevirtual 211, 3), (92, .ireturn, 1)]
def am_c172 : List (Nat × Instr × Nat) := am_c172_0 ++ (am_c172_1)
def am_c173_0 : List (Nat × Instr × Nat) := [(0, .aload_n 0, 1), (1, .getfield 195, 3), (4, .bipush 14, 2), (6, .if_icmp .ne 44, 3), (9, .iconst 0, 1), (10, .istore_n 1, 1), (11, .iload_n 1, 1), (12, .sipush 1794, 3), (15, .if_icmp .ge 25, 3), (18, .aload_n 0, 1), (19, .getfield 25, 3), (22, .iload_n 1, 1), (23, .aload_n 0, 1), (24, .getfield 25, 3), (27, .iload_n 1, 1), (28, .sipush 138, 3), (31, .iadd, 1), (32, .iaload, 1), (33, .iastore, 1), (34, .iinc 1 1, 3), (37, .goto (-26), 3), (40, .aload_n 0, 1), (41, .dup, 1), (42, .getfield 195, 3), (45, .iconst 1, 1), (46, .isub, 1), (47, .putfield 195, 3), (50, .aload_n 0, 1), (51, .getfield 13, 3), (54, .iconst 0, 1), (55, .aload_n 0, 1), (56, .getfield 25, 3), (59, .sipush 138, 3), (62, .aload_n 0, 1), (63, .getfield 195, 3), (66, .imul, 1), (67, .invokestatic 191, 3), (70, .aload_n 0, 1), (71, .dup, 1), (72, .getfield 195, 3)]
def am_c173_1 : List (Nat × Instr × Nat) := [(75, .iconst 1, 1), (76, .iadd, 1), (77, .putfield 195, 3), (80, .return_, 1)]
def am_c173 : List (Nat × Instr × Nat) := am_c173_0 ++ (am_c173_1)
def am_c174 : List (Nat × Instr × Nat) := [(0, .aload_n 0, 1), (1, .aload_n 0, 1), (2, .getfield 13, 3), (5, .iconst 0, 1), (6, .iaload, 1), (7, .iconst 4, 1), (8, .if_icmp .ge 7, 3), (11, .iconst 0, 1), (12, .goto 4, 3), (15, .iconst 1, 1), (16, .invokevirtual 120, 3), (19, .ifCond .eq 5, 3), (22, .iconst 0, 1), (23, .ireturn, 1), (24, .aload_n 0, 1), (25, .invokevirtual 215, 3), (28, .aload_n 0, 1), (29, .getfield 13, 3), (32, .invokestatic 163, 3), (35, .ireturn, 1)]
def am_c175 : List (Nat × Instr × Nat) := [(0, .aload_n 0, 1), (1, .aload_n 0, 1), (2, .getfield 13, 3), (5, .iload_n 1, 1), (6, .invokestatic 140, 3), (9, .ifCond .ne 7, 3), (12, .iconst 1, 1), (13, .goto 35, 3), (16, .iload_n 2, 1), (17, .i2l, 1), (18, .lconst 0, 1), (19, .ldc2_w 218, 3), (22, .invokestatic 43, 3), (25, .ifCond .ne 7, 3), (28, .iconst 2, 1), (29, .goto 19, 3), (32, .aload_n 0, 1), (33, .getfield 13, 3), (36, .iconst 1, 1), (37, .iaload, 1), (38, .bipush 24, 2), (40, .if_icmp .ge 7, 3), (43, .iconst 0, 1), (44, .goto 4, 3), (47, .iconst 3, 1), (48, .invokevirtual 120, 3), (51, .ifCond .eq 5, 3), (54, .iconst 0, 1), (55, .ireturn, 1), (56, .aload_n 0, 1), (57, .invokevirtual 215, 3), (60, .aload_n 0, 1), (61, .getfield 13, 3), (64, .iload_n 1, 1), (65, .iload_n 2, 1), (66, .invokestatic 151, 3), (69, .ireturn, 1)]
def am_c176 : List (Nat × Instr × Nat) := [(0, .aload_n 0, 1), (1, .aload_n 0, 1), (2, .getfield 13, 3), (5, .iload_n 1, 1), (6, .invokestatic 140, 3), (9, .ifCond .eq 7, 3), (12, .iconst 0, 1), (13, .goto 4, 3), (16, .iconst 1, 1), (17, .invokevirtual 120, 3), (20, .ifCond .eq 5, 3), (23, .iconst 0, 1), (24, .ireturn, 1), (25, .aload_n 0, 1), (26, .invokevirtual 215, 3), (29, .aload_n 0, 1), (30, .getfield 13, 3), (33, .iload_n 1, 1), (34, .invokestatic 154, 3), (37, .ireturn, 1)]
def am_c177 : List (Nat × Instr × Nat) := [(0, .aload_n 0, 1), (1, .aload_n 0, 1), (2, .getfield 13, 3), (5, .iload_n 1, 1), (6, .invokestatic 99, 3), (9, .ifCond .eq 7, 3), (12, .iconst 0, 1), (13, .goto 4, 3), (16, .iconst 1, 1), (17, .invokevirtual 120, 3), (20, .ifCond .eq 5, 3), (23, .iconst 0, 1), (24, .ireturn, 1), (25, .aload_n 0, 1), (26, .invokevirtual 215, 3), (29, .aload_n 0, 1), (30, .getfield 13, 3), (33, .iload_n 1, 1), (34, .invokestatic 169, 3), (37, .ireturn, 1)]
def am_c178 : List (Nat × Instr × Nat) := [(0, .aload_n 0, 1), (1, .aload_n 0, 1), (2, .getfield 13, 3), (5, .iload_n 1, 1), (6, .invokestatic 140, 3), (9, .ifCond .eq 14, 3), (12, .aload_n 0, 1), (13, .getfield 13, 3), (16, .iload_n 2, 1), (17, .invokestatic 140, 3), (20, .ifCond .ne 7, 3), (23, .iconst 1, 1), (24, .goto 13, 3), (27, .iload_n 1, 1), (28, .iload_n 2, 1), (29, .if_icmp .ne 7, 3), (32, .iconst 2, 1), (33, .goto 4, 3), (36, .iconst 0, 1), (37, .invokevirtual 120, 3), (40, .ifCond .eq 5, 3), (43, .iconst 0, 1), (44, .ireturn, 1), (45, .aload_n 0, 1), (46, .invokevirtual 215, 3), (49, .aload_n 0, 1), (50, .getfield 13, 3), (53, .iload_n 1, 1), (54, .iload_n 2, 1), (55, .invokestatic 157, 3), (58, .ireturn, 1)]
def am_c179 : List (Nat × Instr × Nat) := [(0, .aload_n 0, 1), (1, .aload_n 0, 1), (2, .getfield 13, 3), (5, .iload_n 1, 1), (6, .invokestatic 140, 3), (9, .ifCond .eq 7, 3), (12, .iconst 0, 1), (13, .goto 4, 3), (16, .iconst 1, 1), (17, .invokevirtual 120, 3), (20, .ifCond .eq 5, 3), (23, .iconst 0, 1), (24, .ireturn, 1), (25, .aload_n 0, 1), (26, .invokevirtual 215, 3), (29, .aload_n 0, 1), (30, .getfield 13, 3), (33, .iload_n 1, 1), (34, .iload_n 2, 1), (35, .invokestatic 143, 3), (38, .ireturn, 1)]
def am_c180 : List (Nat × Instr × Nat) := [(0, .aload_n 0, 1), (1, .iload_n 1, 1), (2, .i2l, 1), (3, .lconst 1, 1), (4, .ldc2_w 220, 3), (7, .invokestatic 43, 3), (10, .ifCond .eq 7, 3), (13, .iconst 0, 1), (14, .goto 4, 3), (17, .iconst 1, 1), (18, .invokevirtual 120, 3), (21, .ifCond .eq 5, 3), (24, .iconst 0, 1), (25, .ireturn, 1), (26, .aload_n 0, 1), (27, .invokevirtual 215, 3), (30, .aload_n 0, 1), (31, .getfield 13, 3), (34, .iload_n 1, 1), (35, .invokestatic 176, 3), (38, .ireturn, 1)]
def am_c181 : List (Nat × Instr × Nat) := [(0, .aload_n 0, 1), (1, .iload_n 1, 1), (2, .i2l, 1), (3, .lconst 1, 1), (4, .ldc2_w 220, 3), (7, .invokestatic 43, 3), (10, .ifCond .eq 7, 3), (13, .iconst 0, 1), (14, .goto 4, 3), (17, .iconst 1, 1), (18, .invokevirtual 120, 3), (21, .ifCond .eq 5, 3), (24, .iconst 0, 1), (25, .ireturn, 1), (26, .aload_n 0, 1), (27, .invokevirtual 215, 3), (30, .aload_n 0, 1), (31, .getfield 13, 3), (34, .iload_n 1, 1), (35, .invokestatic 179, 3), (38, .ireturn, 1)]
def am_c182 : List (Nat × Instr × Nat) := [(0, .aload_n 0, 1), (1, .aload_n 0, 1), (2, .getfield 13, 3), (5, .iload_n 1, 1), (6, .invokestatic 140, 3), (9, .ifCond .eq 7, 3), (12, .iconst 0, 1), (13, .goto 4, 3), (16, .iconst 1, 1), (17, .invokevirtual 120, 3), (20, .ifCond .eq 5, 3), (23, .iconst 0, 1), (24, .ireturn, 1), (25, .aload_n 0, 1), (26, .invokevirtual 215, 3), (29, .aload_n 0, 1), (30, .getfield 13, 3), (33, .iload_n 1, 1), (34, .invokestatic 160, 3), (37, .ireturn, 1)]
def am_c183 : List (Nat × Instr × Nat) := [(0, .aload_n 0, 1), (1, .iload_n 1, 1), (2, .i2l, 1), (3, .lconst 1, 1), (4, .ldc2_w 127, 3), (7, .invokestatic 43, 3), (10, .ifCond .eq 7, 3), (13, .iconst 0, 1), (14, .goto 4, 3), (17, .iconst 1, 1), (18, .invokevirtual 120, 3), (21, .ifCond .eq 5, 3), (24, .iconst 0, 1), (25, .ireturn, 1), (26, .aload_n 0, 1), (27, .invokevirtual 215, 3), (30, .aload_n 0, 1), (31, .getfield 13, 3), (34, .iload_n 1, 1), (35, .invokestatic 182, 3), (38, .ireturn, 1)]
def am_c184 : List (Nat × Instr × Nat) := [(0, .aload_n 0, 1), (1, .iload_n 1, 1), (2, .i2l, 1), (3, .lconst 0, 1), (4, .ldc2_w 218, 3), (7, .invokestatic 43, 3), (10, .ifCond .eq 7, 3), (13, .iconst 0, 1), (14, .goto 4, 3), (17, .iconst 1, 1), (18, .invokevirtual 120, 3), (21, .ifCond .eq 5, 3), (24, .iconst 0, 1), (25, .ireturn, 1), (26, .aload_n 0, 1), (27, .invokevirtual 215, 3), (30, .aload_n 0, 1), (31, .getfield 13, 3), (34, .bipush 9, 2), (36, .iaload, 1), (37, .istore_n 2, 1), (38, .aload_n 0, 1), (39, .getfield 13, 3), (42, .bipush 9, 2), (44, .iload_n 1, 1), (45, .iastore, 1), (46, .iload_n 2, 1), (47, .ireturn, 1)]
def am_c185 : List (Nat × Instr × Nat) := [(0, .aload_n 0, 1), (1, .aload_n 0, 1), (2, .getfield 195, 3), (5, .ifCond .ne 7, 3), (8, .iconst 1, 1), (9, .goto 4, 3), (12, .iconst 0, 1), (13, .invokevirtual 120, 3), (16, .ifCond .eq 5, 3), (19, .iconst 0, 1), (20, .ireturn, 1), (21, .aload_n 0, 1), (22, .dup, 1), (23, .getfield 195, 3), (26, .iconst 1, 1), (27, .isub, 1), (28, .putfield 195, 3), (31, .aload_n 0, 1), (32, .getfield 25, 3), (35, .sipush 138, 3), (38, .aload_n 0, 1), (39, .getfield 195, 3), (42, .imul, 1), (43, .aload_n 0, 1), (44, .getfield 13, 3), (47, .iconst 0, 1), (48, .invokestatic 191, 3), (51, .aload_n 0, 1), (52, .getfield 195, 3), (55, .ireturn, 1)]
def am_c186_0 : List (Nat × Instr × Nat) := [(0, .aload_n 0, 1), (1, .aload_n 0, 1), (2, .getfield 13, 3), (5, .iload_n 1, 1), (6, .invokestatic 140, 3), (9, .ifCond .ne 7, 3), (12, .iconst 1, 1), (13, .goto 20, 3), (16, .iload_n 2, 1), (17, .i2l, 1), (18, .lconst 0, 1), (19, .ldc2_w 218, 3), (22, .invokestatic 43, 3), (25, .ifCond .eq 7, 3), (28, .iconst 0, 1), (29, .goto 4, 3), (32, .iconst 2, 1), (33, .invokevirtual 120, 3), (36, .ifCond .eq 5, 3), (39, .iconst 0, 1), (40, .ireturn, 1), (41, .aload_n 0, 1), (42, .getfield 13, 3), (45, .iconst 0, 1), (46, .aload_n 0, 1), (47, .getfield 16, 3), (50, .iconst 0, 1), (51, .invokestatic 191, 3), (54, .iconst 0, 1), (55, .istore_n 3, 1), (56, .aload_n 0, 1), (57, .getfield 16, 3), (60, .iload_n 1, 1), (61, .invokestatic 93, 3), (64, .ifCond .ne 37, 3), (67, .aload_n 0, 1), (68, .getfield 16, 3), (71, .aload_n 0, 1), (72, .getfield 16, 3), (75, .iload_n 1, 1)]
def am_c186_1 : List (Nat × Instr × Nat) := [(76, .invokestatic 80, 3), (79, .iconst 0, 1), (80, .invokestatic 47, 3), (83, .iload_n 2, 1), (84, .if_icmp .gt 17, 3), (87, .aload_n 0, 1), (88, .getfield 16, 3), (91, .iload_n 1, 1), (92, .invokestatic 96, 3), (95, .iinc 3 1, 3), (98, .goto (-42), 3), (101, .iload_n 3, 1), (102, .ireturn, 1)]
def am_c186 : List (Nat × Instr × Nat) := am_c186_0 ++ (am_c186_1)
def am_c187 : List (Nat × Instr × Nat) := [(0, .aload_n 0, 1), (1, .aload_n 0, 1), (2, .getfield 13, 3), (5, .iload_n 1, 1), (6, .invokestatic 140, 3), (9, .ifCond .eq 14, 3), (12, .aload_n 0, 1), (13, .getfield 13, 3), (16, .iload_n 2, 1), (17, .invokestatic 140, 3), (20, .ifCond .ne 7, 3), (23, .iconst 1, 1), (24, .goto 13, 3), (27, .iload_n 1, 1), (28, .iload_n 2, 1), (29, .if_icmp .ne 7, 3), (32, .iconst 2, 1), (33, .goto 4, 3), (36, .iconst 0, 1), (37, .invokevirtual 120, 3), (40, .ifCond .eq 5, 3), (43, .iconst 0, 1), (44, .ireturn, 1), (45, .aload_n 0, 1), (46, .getfield 13, 3), (49, .iconst 0, 1), (50, .aload_n 0, 1), (51, .getfield 16, 3), (54, .iconst 0, 1), (55, .invokestatic 191, 3), (58, .aload_n 0, 1), (59, .getfield 16, 3), (62, .iload_n 1, 1), (63, .iload_n 2, 1), (64, .invokestatic 157, 3), (67, .ireturn, 1)]
def am_c188 : List (Nat × Instr × Nat) := [(0, .iload_n 0, 1), (1, .iconst (-1), 1), (2, .if_icmp .eq 8, 3), (5, .iload_n 1, 1), (6, .iload_n 0, 1), (7, .if_icmp .ge 7, 3), (10, .iload_n 1, 1), (11, .goto 4, 3), (14, .iload_n 0, 1), (15, .ireturn, 1)]
def am_c189_0 : List (Nat × Instr × Nat) := [(0, .iconst (-1), 1), (1, .istore_n 2, 1), (2, .iconst 0, 1), (3, .istore_n 3, 1), (4, .iload_n 3, 1), (5, .iconst 4, 1), (6, .if_icmp .ge 159, 3), (9, .iload_n 3, 1), (10, .iconst 1, 1), (11, .iadd, 1), (12, .istore 4, 2), (14, .iload 4, 2), (16, .iconst 4, 1), (17, .if_icmp .ge 142, 3), (20, .iload 4, 2), (22, .i2l, 1), (23, .lconst 0, 1), (24, .aload_n 0, 1), (25, .getfield 19, 3), (28, .iconst 0, 1), (29, .iaload, 1), (30, .iconst 1, 1), (31, .isub, 1), (32, .i2l, 1), (33, .invokestatic 43, 3), (36, .ifCond .eq 117, 3), (39, .iload_n 3, 1), (40, .iload_n 1, 1), (41, .if_icmp .eq 112, 3), (44, .iload 4, 2), (46, .iload_n 1, 1), (47, .if_icmp .eq 106, 3), (50, .aload_n 0, 1), (51, .getfield 19, 3), (54, .iconst 0, 1), (55, .aload_n 0, 1), (56, .getfield 22, 3), (59, .iconst 0, 1), (60, .invokestatic 191, 3), (63, .aload_n 0, 1)]
def am_c189_1 : List (Nat × Instr × Nat) := [(64, .getfield 22, 3), (67, .iload_n 3, 1), (68, .iload 4, 2), (70, .invokestatic 157, 3), (73, .pop, 1), (74, .iconst (-1), 1), (75, .istore 5, 2), (77, .iconst 0, 1), (78, .istore 6, 2), (80, .iload 6, 2), (82, .aload_n 0, 1), (83, .getfield 22, 3), (86, .iconst 0, 1), (87, .iaload, 1), (88, .if_icmp .ge 37, 3), (91, .iload 6, 2), (93, .iload_n 1, 1), (94, .if_icmp .eq 21, 3), (97, .iload 6, 2), (99, .iload 4, 2), (101, .if_icmp .eq 14, 3), (104, .iload 6, 2), (106, .iload_n 3, 1), (107, .if_icmp .eq 8, 3), (110, .iload 6, 2), (112, .goto 5, 3), (115, .iload 5, 2), (117, .istore 5, 2), (119, .iinc 6 1, 3), (122, .goto (-42), 3), (125, .iload 5, 2), (127, .iconst (-1), 1), (128, .if_icmp .eq 14, 3), (131, .aload_n 0, 1), (132, .getfield 22, 3), (135, .iload_n 3, 1), (136, .iload 5, 2), (138, .invokestatic 157, 3), (141, .pop, 1), (142, .iload_n 2, 1)]
def am_c189_2 : List (Nat × Instr × Nat) := [(143, .aload_n 0, 1), (144, .getfield 22, 3), (147, .iconst 4, 1), (148, .iaload, 1), (149, .invokestatic 222, 3), (152, .istore_n 2, 1), (153, .iinc 4 1, 3), (156, .goto (-142), 3), (159, .iinc 3 1, 3), (162, .goto (-158), 3), (165, .iload_n 2, 1), (166, .iconst (-1), 1), (167, .if_icmp .ne 12, 3), (170, .aload_n 0, 1), (171, .getfield 19, 3), (174, .iconst 4, 1), (175, .iaload, 1), (176, .goto 4, 3), (179, .iload_n 2, 1), (180, .ireturn, 1)]
def am_c189 : List (Nat × Instr × Nat) := am_c189_0 ++ (am_c189_1 ++ (am_c189_2))
def am_c190_0 : List (Nat × Instr × Nat) := [(0, .aload_n 0, 1), (1, .iconst 0, 1), (2, .putfield 39, 3), (5, .iconst (-1), 1), (6, .istore_n 1, 1), (7, .iconst 0, 1), (8, .istore_n 2, 1), (9, .iload_n 2, 1), (10, .aload_n 0, 1), (11, .getfield 13, 3), (14, .iconst 0, 1), (15, .iaload, 1), (16, .if_icmp .ge 62, 3), (19, .iload_n 2, 1), (20, .iconst 1, 1), (21, .iadd, 1), (22, .istore_n 3, 1), (23, .iload_n 3, 1), (24, .aload_n 0, 1), (25, .getfield 13, 3), (28, .iconst 0, 1), (29, .iaload, 1), (30, .if_icmp .ge 42, 3), (33, .aload_n 0, 1), (34, .getfield 13, 3), (37, .iconst 0, 1), (38, .aload_n 0, 1), (39, .getfield 19, 3), (42, .iconst 0, 1), (43, .invokestatic 191, 3), (46, .aload_n 0, 1), (47, .getfield 19, 3), (50, .iload_n 2, 1), (51, .iload_n 3, 1), (52, .invokestatic 157, 3), (55, .pop, 1), (56, .iload_n 1, 1), (57, .aload_n 0, 1), (58, .iload_n 3, 1), (59, .invokevirtual 225, 3)]
def am_c190_1 : List (Nat × Instr × Nat) := [(62, .invokestatic 222, 3), (65, .istore_n 1, 1), (66, .iinc 3 1, 3), (69, .goto (-46), 3), (72, .iinc 2 1, 3), (75, .goto (-66), 3), (78, .iload_n 1, 1), (79, .iconst (-1), 1), (80, .if_icmp .ne 7, 3), (83, .iconst 0, 1), (84, .goto 11, 3), (87, .iload_n 1, 1), (88, .aload_n 0, 1), (89, .getfield 13, 3), (92, .iconst 4, 1), (93, .iaload, 1), (94, .isub, 1), (95, .ireturn, 1)]
def am_c190 : List (Nat × Instr × Nat) := am_c190_0 ++ (am_c190_1)
def am_c191_0 : List (Nat × Instr × Nat) := [(0, .aload_n 0, 1), (1, .aload_n 0, 1), (2, .getfield 13, 3), (5, .iload_n 1, 1), (6, .invokestatic 140, 3), (9, .ifCond .ne 7, 3), (12, .iconst 1, 1), (13, .goto 18, 3), (16, .iload_n 2, 1), (17, .i2l, 1), (18, .lconst 0, 1), (19, .lconst 1, 1), (20, .invokestatic 43, 3), (23, .ifCond .eq 7, 3), (26, .iconst 0, 1), (27, .goto 4, 3), (30, .iconst 2, 1), (31, .invokevirtual 120, 3), (34, .ifCond .eq 5, 3), (37, .iconst 0, 1), (38, .ireturn, 1), (39, .aload_n 0, 1), (40, .getfield 13, 3), (43, .iconst 0, 1), (44, .aload_n 0, 1), (45, .getfield 16, 3), (48, .iconst 0, 1), (49, .invokestatic 191, 3), (52, .aload_n 0, 1), (53, .getfield 16, 3), (56, .iload_n 1, 1), (57, .invokestatic 160, 3), (60, .istore_n 3, 1), (61, .aload_n 0, 1), (62, .getfield 16, 3), (65, .iconst 4, 1), (66, .iaload, 1), (67, .istore 4, 2), (69, .aload_n 0, 1), (70, .getfield 16, 3)]
def am_c191_1 : List (Nat × Instr × Nat) := [(73, .iload_n 1, 1), (74, .invokestatic 80, 3), (77, .iconst (-1), 1), (78, .if_icmp .eq 14, 3), (81, .aload_n 0, 1), (82, .getfield 16, 3), (85, .iload_n 1, 1), (86, .invokestatic 96, 3), (89, .goto (-20), 3), (92, .iload_n 2, 1), (93, .ifCond .ne 7, 3), (96, .iload_n 3, 1), (97, .goto 12, 3), (100, .aload_n 0, 1), (101, .getfield 16, 3), (104, .iconst 4, 1), (105, .iaload, 1), (106, .iload 4, 2), (108, .isub, 1), (109, .ireturn, 1)]
def am_c191 : List (Nat × Instr × Nat) := am_c191_0 ++ (am_c191_1)
def am_c192 : List (Nat × Instr × Nat) := [(0, .aload_n 0, 1), (1, .iconst 0, 1), (2, .putfield 39, 3), (5, .aload_n 0, 1), (6, .getfield 13, 3), (9, .invokestatic 112, 3), (12, .ifCond .ne 7, 3), (15, .iconst 0, 1), (16, .goto 4, 3), (19, .iconst (-1), 1), (20, .istore_n 1, 1), (21, .iconst 1, 1), (22, .istore_n 2, 1), (23, .iload_n 2, 1), (24, .bipush 30, 2), (26, .if_icmp .gt 44, 3), (29, .iload_n 1, 1), (30, .iconst (-1), 1), (31, .if_icmp .eq 39, 3), (34, .aload_n 0, 1), (35, .getfield 13, 3), (38, .iconst 0, 1), (39, .aload_n 0, 1), (40, .getfield 16, 3), (43, .iconst 0, 1), (44, .invokestatic 191, 3), (47, .aload_n 0, 1), (48, .getfield 16, 3), (51, .iload_n 2, 1), (52, .invokestatic 179, 3), (55, .ifCond .ne 7, 3), (58, .iload_n 2, 1), (59, .goto 4, 3), (62, .iload_n 1, 1), (63, .istore_n 1, 1), (64, .iinc 2 1, 3), (67, .goto (-44), 3), (70, .iload_n 1, 1), (71, .ireturn, 1)]
def am_c193_0 : List (Nat × Instr × Nat) := [(0, .iload_n 2, 1), (1, .sipush 1000, 3), (4, .idiv, 1), (5, .istore_n 3, 1), (6, .iload_n 2, 1), (7, .bipush 100, 2), (9, .idiv, 1), (10, .bipush 10, 2), (12, .irem, 1), (13, .istore 4, 2), (15, .iload_n 2, 1), (16, .bipush 100, 2), (18, .idiv, 1), (19, .istore 5, 2), (21, .iload_n 2, 1), (22, .bipush 10, 2), (24, .idiv, 1), (25, .bipush 100, 2), (27, .irem, 1), (28, .istore 6, 2), (30, .iload_n 2, 1), (31, .bipush 100, 2), (33, .irem, 1), (34, .istore 7, 2), (36, .iload_n 2, 1), (37, .bipush 10, 2), (39, .irem, 1), (40, .istore 8, 2), (42, .iload_n 1, 1), (43, .tableswitch 429 1 9 #[49, 95, 131, 166, 219, 276, 312, 347, 394], 49), (92, .iload 4, 2), (94, .ifCond .ne 42, 3), (97, .aload_n 0, 1), (98, .getfield 16, 3), (101, .iload_n 3, 1), (102, .invokestatic 140, 3), (105, .ifCond .eq 31, 3), (108, .aload_n 0, 1), (109, .getfield 16, 3), (112, .iconst 1, 1)]
def am_c193_1 : List (Nat × Instr × Nat) := [(113, .iaload, 1), (114, .bipush 24, 2), (116, .if_icmp .ge 20, 3), (119, .aload_n 0, 1), (120, .getfield 16, 3), (123, .iload_n 3, 1), (124, .iload 7, 2), (126, .invokestatic 151, 3), (129, .ifCond .lt 7, 3), (132, .iconst 1, 1), (133, .goto 4, 3), (136, .iconst 0, 1), (137, .ireturn, 1), (138, .iload_n 2, 1), (139, .sipush 1000, 3), (142, .irem, 1), (143, .ifCond .ne 29, 3), (146, .aload_n 0, 1), (147, .getfield 16, 3), (150, .iload_n 3, 1), (151, .invokestatic 140, 3), (154, .ifCond .eq 18, 3), (157, .aload_n 0, 1), (158, .getfield 16, 3), (161, .iload_n 3, 1), (162, .invokestatic 154, 3), (165, .ifCond .ne 7, 3), (168, .iconst 1, 1), (169, .goto 4, 3), (172, .iconst 0, 1), (173, .ireturn, 1), (174, .iload 7, 2), (176, .ifCond .ne 31, 3), (179, .aload_n 0, 1), (180, .getfield 16, 3), (183, .iload 5, 2), (185, .invokestatic 99, 3), (188, .ifCond .eq 19, 3), (191, .aload_n 0, 1), (192, .getfield 16, 3)]
def am_c193_2 : List (Nat × Instr × Nat) := [(195, .iload 5, 2), (197, .invokestatic 169, 3), (200, .ifCond .lt 7, 3), (203, .iconst 1, 1), (204, .goto 4, 3), (207, .iconst 0, 1), (208, .ireturn, 1), (209, .iload 7, 2), (211, .ifCond .ne 49, 3), (214, .aload_n 0, 1), (215, .getfield 16, 3), (218, .iload_n 3, 1), (219, .invokestatic 140, 3), (222, .ifCond .eq 38, 3), (225, .aload_n 0, 1), (226, .getfield 16, 3), (229, .iload 4, 2), (231, .invokestatic 140, 3), (234, .ifCond .eq 26, 3), (237, .iload_n 3, 1), (238, .iload 4, 2), (240, .if_icmp .eq 20, 3), (243, .aload_n 0, 1), (244, .getfield 16, 3), (247, .iload_n 3, 1), (248, .iload 4, 2), (250, .invokestatic 157, 3), (253, .ifCond .lt 7, 3), (256, .iconst 1, 1), (257, .goto 4, 3), (260, .iconst 0, 1), (261, .ireturn, 1), (262, .iload 4, 2), (264, .ifCond .ne 53, 3), (267, .iload_n 3, 1), (268, .iconst 2, 1), (269, .if_icmp .ge 48, 3), (272, .iload 7, 2), (274, .i2l, 1), (275, .lconst 1, 1)]
def am_c193_3 : List (Nat × Instr × Nat) := [(276, .ldc2_w 220, 3), (279, .invokestatic 43, 3), (282, .ifCond .eq 35, 3), (285, .iload_n 3, 1), (286, .ifCond .ne 15, 3), (289, .aload_n 0, 1), (290, .getfield 16, 3), (293, .iload 7, 2), (295, .invokestatic 176, 3), (298, .goto 12, 3), (301, .aload_n 0, 1), (302, .getfield 16, 3), (305, .iload 7, 2), (307, .invokestatic 179, 3), (310, .ifCond .lt 7, 3), (313, .iconst 1, 1), (314, .goto 4, 3), (317, .iconst 0, 1), (318, .ireturn, 1), (319, .iload_n 2, 1), (320, .sipush 1000, 3), (323, .irem, 1), (324, .ifCond .ne 29, 3), (327, .aload_n 0, 1), (328, .getfield 16, 3), (331, .iload_n 3, 1), (332, .invokestatic 140, 3), (335, .ifCond .eq 18, 3), (338, .aload_n 0, 1), (339, .getfield 16, 3), (342, .iload_n 3, 1), (343, .invokestatic 160, 3), (346, .ifCond .lt 7, 3), (349, .iconst 1, 1), (350, .goto 4, 3), (353, .iconst 0, 1), (354, .ireturn, 1), (355, .iload 4, 2), (357, .ifCond .ne 31, 3), (360, .aload_n 0, 1)]
def am_c193_4 : List (Nat × Instr × Nat) := [(361, .getfield 16, 3), (364, .iload_n 3, 1), (365, .invokestatic 140, 3), (368, .ifCond .eq 20, 3), (371, .aload_n 0, 1), (372, .getfield 16, 3), (375, .iload_n 3, 1), (376, .invokestatic 69, 3), (379, .iload 7, 2), (381, .if_icmp .lt 7, 3), (384, .iconst 1, 1), (385, .goto 4, 3), (388, .iconst 0, 1), (389, .ireturn, 1), (390, .iload 8, 2), (392, .ifCond .ne 43, 3), (395, .aload_n 0, 1), (396, .getfield 16, 3), (399, .iload_n 3, 1), (400, .invokestatic 140, 3), (403, .ifCond .eq 32, 3), (406, .aload_n 0, 1), (407, .getfield 16, 3), (410, .iload 6, 2), (412, .invokestatic 99, 3), (415, .ifCond .eq 20, 3), (418, .aload_n 0, 1), (419, .getfield 16, 3), (422, .iload_n 3, 1), (423, .invokestatic 80, 3), (426, .iload 6, 2), (428, .if_icmp .ne 7, 3), (431, .iconst 1, 1), (432, .goto 4, 3), (435, .iconst 0, 1), (436, .ireturn, 1), (437, .iload 4, 2), (439, .ifCond .ne 31, 3), (442, .aload_n 0, 1), (443, .getfield 16, 3)]
def am_c193_5 : List (Nat × Instr × Nat) := [(446, .iload_n 3, 1), (447, .invokestatic 140, 3), (450, .ifCond .eq 20, 3), (453, .aload_n 0, 1), (454, .getfield 16, 3), (457, .iload_n 3, 1), (458, .invokestatic 62, 3), (461, .iload 7, 2), (463, .if_icmp .gt 7, 3), (466, .iconst 1, 1), (467, .goto 4, 3), (470, .iconst 0, 1), (471, .ireturn, 1), (472, .iconst 0, 1), (473, .ireturn, 1)]
def am_c193 : List (Nat × Instr × Nat) := am_c193_0 ++ (am_c193_1 ++ (am_c193_2 ++ (am_c193_3 ++ (am_c193_4 ++ (am_c193_5)))))
def am_c194_0 : List (Nat × Instr × Nat) := [(0, .lconst 1, 1), (1, .lstore 4, 2), (3, .iconst 0, 1), (4, .istore 6, 2), (6, .iload 6, 2), (8, .iload_n 1, 1), (9, .if_icmp .ge 23, 3), (12, .iload 6, 2), (14, .iconst 3, 1), (15, .if_icmp .ge 17, 3), (18, .lload 4, 2), (20, .ldc2_w 228, 3), (23, .lmul, 1), (24, .lstore 4, 2), (26, .iinc 6 1, 3), (29, .goto (-23), 3), (32, .aload_n 0, 1), (33, .iload_n 1, 1), (34, .i2l, 1), (35, .lconst 1, 1), (36, .ldc2_w 230, 3), (39, .invokestatic 43, 3), (42, .ifCond .eq 19, 3), (45, .lload_n 2, 1), (46, .lconst 0, 1), (47, .lload 4, 2), (49, .lconst 1, 1), (50, .lsub, 1), (51, .invokestatic 43, 3), (54, .ifCond .eq 7, 3), (57, .iconst 0, 1), (58, .goto 4, 3), (61, .iconst 1, 1), (62, .invokevirtual 120, 3), (65, .ifCond .eq 5, 3), (68, .iconst 0, 1), (69, .ireturn, 1), (70, .aload_n 0, 1), (71, .getfield 13, 3), (74, .iconst 0, 1)]
def am_c194_1 : List (Nat × Instr × Nat) := [(75, .aload_n 0, 1), (76, .getfield 16, 3), (79, .iconst 0, 1), (80, .invokestatic 191, 3), (83, .iconst 0, 1), (84, .istore 6, 2), (86, .iload 6, 2), (88, .iload_n 1, 1), (89, .if_icmp .ge 50, 3), (92, .lload 4, 2), (94, .ldc2_w 228, 3), (97, .ldiv, 1), (98, .lstore 4, 2), (100, .lload_n 2, 1), (101, .lload 4, 2), (103, .ldiv, 1), (104, .ldc2_w 228, 3), (107, .lrem, 1), (108, .l2i, 1), (109, .istore 7, 2), (111, .aload_n 0, 1), (112, .iload 7, 2), (114, .sipush 10000, 3), (117, .idiv, 1), (118, .iload 7, 2), (120, .sipush 10000, 3), (123, .irem, 1), (124, .invokevirtual 232, 3), (127, .ifCond .ne 6, 3), (130, .iload 6, 2), (132, .ireturn, 1), (133, .iinc 6 1, 3), (136, .goto (-50), 3), (139, .iconst (-1), 1), (140, .ireturn, 1)]
def am_c194 : List (Nat × Instr × Nat) := am_c194_0 ++ (am_c194_1)
def am_c195_0 : List (Nat × Instr × Nat) := [(0, .iload_n 2, 1), (1, .iconst 4, 1), (2, .irem, 1), (3, .istore_n 3, 1), (4, .iload_n 1, 1), (5, .ifCond .ne 18, 3), (8, .aload_n 0, 1), (9, .iconst 0, 1), (10, .iaload, 1), (11, .iconst 4, 1), (12, .if_icmp .ge 140, 3), (15, .aload_n 0, 1), (16, .invokestatic 163, 3), (19, .pop, 1), (20, .goto 132, 3), (23, .aload_n 0, 1), (24, .iload_n 3, 1), (25, .invokestatic 140, 3), (28, .ifCond .ne 4, 3), (31, .return_, 1), (32, .iload_n 1, 1), (33, .bipush 6, 2), (35, .if_icmp .ge 26, 3), (38, .aload_n 0, 1), (39, .iconst 1, 1), (40, .iaload, 1), (41, .bipush 24, 2), (43, .if_icmp .ge 109, 3), (46, .aload_n 0, 1), (47, .iload_n 3, 1), (48, .iload_n 2, 1), (49, .iconst 4, 1), (50, .idiv, 1), (51, .bipush 100, 2), (53, .irem, 1), (54, .invokestatic 151, 3), (57, .pop, 1), (58, .goto 94, 3), (61, .iload_n 1, 1), (62, .bipush 8, 2)]
def am_c195_1 : List (Nat × Instr × Nat) := [(64, .if_icmp .ge 12, 3), (67, .aload_n 0, 1), (68, .iload_n 3, 1), (69, .invokestatic 154, 3), (72, .pop, 1), (73, .goto 79, 3), (76, .iload_n 1, 1), (77, .bipush 9, 2), (79, .if_icmp .ne 38, 3), (82, .aload_n 0, 1), (83, .iload_n 2, 1), (84, .iconst 4, 1), (85, .idiv, 1), (86, .iconst 4, 1), (87, .irem, 1), (88, .invokestatic 140, 3), (91, .ifCond .eq 61, 3), (94, .iload_n 3, 1), (95, .iload_n 2, 1), (96, .iconst 4, 1), (97, .idiv, 1), (98, .iconst 4, 1), (99, .irem, 1), (100, .if_icmp .eq 52, 3), (103, .aload_n 0, 1), (104, .iload_n 3, 1), (105, .iload_n 2, 1), (106, .iconst 4, 1), (107, .idiv, 1), (108, .iconst 4, 1), (109, .irem, 1), (110, .invokestatic 157, 3), (113, .pop, 1), (114, .goto 38, 3), (117, .iload_n 1, 1), (118, .bipush 10, 2), (120, .if_icmp .ne 26, 3), (123, .aload_n 0, 1), (124, .iload_n 3, 1), (125, .iload_n 2, 1)]
def am_c195_2 : List (Nat × Instr × Nat) := [(126, .iconst 4, 1), (127, .idiv, 1), (128, .iconst 2, 1), (129, .irem, 1), (130, .iconst 1, 1), (131, .if_icmp .ne 7, 3), (134, .iconst 1, 1), (135, .goto 4, 3), (138, .iconst 0, 1), (139, .invokestatic 143, 3), (142, .pop, 1), (143, .goto 9, 3), (146, .aload_n 0, 1), (147, .iload_n 3, 1), (148, .invokestatic 160, 3), (151, .pop, 1), (152, .return_, 1)]
def am_c195 : List (Nat × Instr × Nat) := am_c195_0 ++ (am_c195_1 ++ (am_c195_2))
def am_c196_0 : List (Nat × Instr × Nat) := [(0, .iload_n 1, 1), (1, .bipush 8, 2), (3, .if_icmp .ne 26, 3), (6, .aload_n 0, 1), (7, .iload_n 2, 1), (8, .bipush 24, 2), (10, .irem, 1), (11, .invokestatic 99, 3), (14, .ifCond .eq 80, 3), (17, .aload_n 0, 1), (18, .iload_n 2, 1), (19, .bipush 24, 2), (21, .irem, 1), (22, .invokestatic 169, 3), (25, .pop, 1), (26, .goto 68, 3), (29, .iload_n 1, 1), (30, .bipush 11, 2), (32, .if_icmp .ne 17, 3), (35, .aload_n 0, 1), (36, .iconst 1, 1), (37, .iload_n 2, 1), (38, .bipush 30, 2), (40, .irem, 1), (41, .iadd, 1), (42, .invokestatic 176, 3), (45, .pop, 1), (46, .goto 48, 3), (49, .iload_n 1, 1), (50, .bipush 12, 2), (52, .if_icmp .ne 17, 3), (55, .aload_n 0, 1), (56, .iconst 1, 1), (57, .iload_n 2, 1), (58, .bipush 30, 2), (60, .irem, 1), (61, .iadd, 1), (62, .invokestatic 179, 3), (65, .pop, 1), (66, .goto 28, 3)]
def am_c196_1 : List (Nat × Instr × Nat) := [(69, .iload_n 1, 1), (70, .bipush 13, 2), (72, .if_icmp .le 16, 3), (75, .aload_n 0, 1), (76, .iconst 1, 1), (77, .iload_n 2, 1), (78, .iconst 3, 1), (79, .irem, 1), (80, .iadd, 1), (81, .invokestatic 182, 3), (84, .pop, 1), (85, .goto 9, 3), (88, .aload_n 0, 1), (89, .iload_n 1, 1), (90, .iload_n 2, 1), (91, .invokestatic 236, 3), (94, .return_, 1)]
def am_c196 : List (Nat × Instr × Nat) := am_c196_0 ++ (am_c196_1)
def am_c197_0 : List (Nat × Instr × Nat) := [(0, .aload_n 0, 1), (1, .iload_n 3, 1), (2, .i2l, 1), (3, .lconst 1, 1), (4, .ldc2_w 239, 3), (7, .invokestatic 43, 3), (10, .ifCond .eq 7, 3), (13, .iconst 0, 1), (14, .goto 4, 3), (17, .iconst 1, 1), (18, .invokevirtual 120, 3), (21, .ifCond .eq 5, 3), (24, .iconst 0, 1), (25, .ireturn, 1), (26, .aload_n 0, 1), (27, .getfield 13, 3), (30, .iconst 0, 1), (31, .aload_n 0, 1), (32, .getfield 16, 3), (35, .iconst 0, 1), (36, .invokestatic 191, 3), (39, .lload_n 1, 1), (40, .lstore 4, 2), (42, .iconst 0, 1), (43, .istore 6, 2), (45, .iload 6, 2), (47, .iload_n 3, 1), (48, .if_icmp .ge 46, 3), (51, .lload 4, 2), (53, .ldc2_w 241, 3), (56, .lmul, 1), (57, .ldc2_w 243, 3), (60, .ladd, 1), (61, .lstore 4, 2), (63, .lload 4, 2), (65, .bipush 33, 2), (67, .lushr, 1), (68, .l2i, 1), (69, .istore 7, 2), (71, .aload_n 0, 1)]
def am_c197_1 : List (Nat × Instr × Nat) := [(72, .getfield 16, 3), (75, .iload 7, 2), (77, .bipush 16, 2), (79, .irem, 1), (80, .iload 7, 2), (82, .bipush 16, 2), (84, .idiv, 1), (85, .invokestatic 245, 3), (88, .iinc 6 1, 3), (91, .goto (-46), 3), (94, .aload_n 0, 1), (95, .getfield 16, 3), (98, .iconst 4, 1), (99, .iaload, 1), (100, .aload_n 0, 1), (101, .getfield 13, 3), (104, .iconst 4, 1), (105, .iaload, 1), (106, .isub, 1), (107, .istore 6, 2), (109, .sipush 10000, 3), (112, .aload_n 0, 1), (113, .getfield 16, 3), (116, .invokestatic 200, 3), (119, .imul, 1), (120, .iload 6, 2), (122, .sipush 9999, 3), (125, .if_icmp .le 9, 3), (128, .sipush 9999, 3), (131, .goto 5, 3), (134, .iload 6, 2), (136, .iadd, 1), (137, .ireturn, 1)]
def am_c197 : List (Nat × Instr × Nat) := am_c197_0 ++ (am_c197_1)
def am_c198 : List (Nat × Instr × Nat) := [(0, .aload_n 0, 1), (1, .iload_n 1, 1), (2, .i2l, 1), (3, .lconst 0, 1), (4, .lconst 1, 1), (5, .invokestatic 43, 3), (8, .ifCond .eq 7, 3), (11, .iconst 0, 1), (12, .goto 4, 3), (15, .iconst 1, 1), (16, .invokevirtual 120, 3), (19, .ifCond .eq 5, 3), (22, .iconst 0, 1), (23, .ireturn, 1), (24, .aload_n 0, 1), (25, .getfield 13, 3), (28, .iconst 0, 1), (29, .aload_n 0, 1), (30, .getfield 28, 3), (33, .sipush 138, 3), (36, .iload_n 1, 1), (37, .imul, 1), (38, .invokestatic 191, 3), (41, .aload_n 0, 1), (42, .getfield 31, 3), (45, .iload_n 1, 1), (46, .iconst 1, 1), (47, .bastore, 1), (48, .aload_n 0, 1), (49, .getfield 13, 3), (52, .iconst 1, 1), (53, .iaload, 1), (54, .ireturn, 1)]
def am_c199 : List (Nat × Instr × Nat) := [(0, .aload_n 0, 1), (1, .iload_n 1, 1), (2, .i2l, 1), (3, .lconst 0, 1), (4, .lconst 1, 1), (5, .invokestatic 43, 3), (8, .ifCond .ne 7, 3), (11, .iconst 1, 1), (12, .goto 17, 3), (15, .aload_n 0, 1), (16, .getfield 31, 3), (19, .iload_n 1, 1), (20, .baload, 1), (21, .ifCond .ne 7, 3), (24, .iconst 2, 1), (25, .goto 4, 3), (28, .iconst 0, 1), (29, .invokevirtual 120, 3), (32, .ifCond .eq 5, 3), (35, .iconst 0, 1), (36, .ireturn, 1), (37, .aload_n 0, 1), (38, .getfield 28, 3), (41, .sipush 138, 3), (44, .iload_n 1, 1), (45, .imul, 1), (46, .aload_n 0, 1), (47, .getfield 13, 3), (50, .iconst 0, 1), (51, .invokestatic 191, 3), (54, .aload_n 0, 1), (55, .iconst 0, 1), (56, .putfield 195, 3), (59, .aload_n 0, 1), (60, .getfield 13, 3), (63, .iconst 1, 1), (64, .iaload, 1), (65, .ireturn, 1)]
def am_c200 : List (Nat × Instr × Nat) := [(0, .aload_n 2, 1), (1, .iconst 0, 1), (2, .aload_n 0, 1), (3, .iload_n 1, 1), (4, .invokevirtual 7, 3), (7, .i2l, 1), (8, .lastore, 1), (9, .goto 9, 3), (12, .astore_n 3, 1), (13, .iconst 1, 1), (14, .ireturn, 1), (15, .astore_n 3, 1), (16, .iconst 2, 1), (17, .ireturn, 1), (18, .iconst 0, 1), (19, .ireturn, 1)]
def am_c201 : List (Nat × Instr × Nat) := [(0, .aload_n 1, 1), (1, .iconst 0, 1), (2, .aload_n 0, 1), (3, .invokevirtual 17, 3), (6, .i2l, 1), (7, .lastore, 1), (8, .goto 6, 3), (11, .astore_n 2, 1), (12, .iconst 1, 1), (13, .ireturn, 1), (14, .iconst 0, 1), (15, .ireturn, 1)]
def am_c202 : List (Nat × Instr × Nat) := [(0, .aload_n 2, 1), (1, .iconst 0, 1), (2, .aload_n 0, 1), (3, .iload_n 1, 1), (4, .invokevirtual 21, 3), (7, .i2l, 1), (8, .lastore, 1), (9, .goto 6, 3), (12, .astore_n 3, 1), (13, .iconst 1, 1), (14, .ireturn, 1), (15, .iconst 0, 1), (16, .ireturn, 1)]
def am_c203 : List (Nat × Instr × Nat) := [(0, .aload_n 3, 1), (1, .iconst 0, 1), (2, .aload_n 0, 1), (3, .iload_n 1, 1), (4, .iload_n 2, 1), (5, .invokevirtual 24, 3), (8, .i2l, 1), (9, .lastore, 1), (10, .goto 11, 3), (13, .astore 4, 2), (15, .iconst 1, 1), (16, .ireturn, 1), (17, .astore 4, 2), (19, .iconst 2, 1), (20, .ireturn, 1), (21, .iconst 0, 1), (22, .ireturn, 1)]
def am_c204 : List (Nat × Instr × Nat) := [(0, .aload_n 3, 1), (1, .iconst 0, 1), (2, .aload_n 0, 1), (3, .iload_n 1, 1), (4, .iload_n 2, 1), (5, .invokevirtual 30, 3), (8, .i2l, 1), (9, .lastore, 1), (10, .goto 11, 3), (13, .astore 4, 2), (15, .iconst 1, 1), (16, .ireturn, 1), (17, .astore 4, 2), (19, .iconst 2, 1), (20, .ireturn, 1), (21, .iconst 0, 1), (22, .ireturn, 1)]
def am_c205 : List (Nat × Instr × Nat) := [(0, .aload 4, 2), (2, .iconst 0, 1), (3, .aload_n 0, 1), (4, .iload_n 1, 1), (5, .iload_n 2, 1), (6, .iload_n 3, 1), (7, .invokevirtual 33, 3), (10, .i2l, 1), (11, .lastore, 1), (12, .goto 15, 3), (15, .astore 5, 2), (17, .iconst 1, 1), (18, .ireturn, 1), (19, .astore 5, 2), (21, .iconst 2, 1), (22, .ireturn, 1), (23, .astore 5, 2), (25, .iconst 3, 1), (26, .ireturn, 1), (27, .iconst 0, 1), (28, .ireturn, 1)]
def am_c206 : List (Nat × Instr × Nat) := [(0, .aload_n 1, 1), (1, .iconst 0, 1), (2, .aload_n 0, 1), (3, .invokevirtual 37, 3), (6, .i2l, 1), (7, .lastore, 1), (8, .goto 6, 3), (11, .astore_n 2, 1), (12, .iconst 1, 1), (13, .ireturn, 1), (14, .iconst 0, 1), (15, .ireturn, 1)]
def am_c207 : List (Nat × Instr × Nat) := [(0, .aload_n 3, 1), (1, .iconst 0, 1), (2, .aload_n 0, 1), (3, .iload_n 1, 1), (4, .iload_n 2, 1), (5, .invokevirtual 40, 3), (8, .i2l, 1), (9, .lastore, 1), (10, .goto 15, 3), (13, .astore 4, 2), (15, .iconst 1, 1), (16, .ireturn, 1), (17, .astore 4, 2), (19, .iconst 2, 1), (20, .ireturn, 1), (21, .astore 4, 2), (23, .iconst 3, 1), (24, .ireturn, 1), (25, .iconst 0, 1), (26, .ireturn, 1)]
def am_c208 : List (Nat × Instr × Nat) := [(0, .aload_n 2, 1), (1, .iconst 0, 1), (2, .aload_n 0, 1), (3, .iload_n 1, 1), (4, .invokevirtual 43, 3), (7, .i2l, 1), (8, .lastore, 1), (9, .goto 6, 3), (12, .astore_n 3, 1), (13, .iconst 1, 1), (14, .ireturn, 1), (15, .iconst 0, 1), (16, .ireturn, 1)]
def am_c209 : List (Nat × Instr × Nat) := [(0, .aload_n 2, 1), (1, .iconst 0, 1), (2, .aload_n 0, 1), (3, .iload_n 1, 1), (4, .invokevirtual 46, 3), (7, .i2l, 1), (8, .lastore, 1), (9, .goto 6, 3), (12, .astore_n 3, 1), (13, .iconst 1, 1), (14, .ireturn, 1), (15, .iconst 0, 1), (16, .ireturn, 1)]
def am_c210 : List (Nat × Instr × Nat) := [(0, .aload_n 3, 1), (1, .iconst 0, 1), (2, .aload_n 0, 1), (3, .iload_n 1, 1), (4, .iload_n 2, 1), (5, .invokevirtual 49, 3), (8, .i2l, 1), (9, .lastore, 1), (10, .goto 11, 3), (13, .astore 4, 2), (15, .iconst 1, 1), (16, .ireturn, 1), (17, .astore 4, 2), (19, .iconst 2, 1), (20, .ireturn, 1), (21, .iconst 0, 1), (22, .ireturn, 1)]
def am_c211 : List (Nat × Instr × Nat) := [(0, .aload_n 3, 1), (1, .iconst 0, 1), (2, .aload_n 0, 1), (3, .iload_n 1, 1), (4, .iload_n 2, 1), (5, .invokevirtual 52, 3), (8, .i2l, 1), (9, .lastore, 1), (10, .goto 7, 3), (13, .astore 4, 2), (15, .iconst 1, 1), (16, .ireturn, 1), (17, .iconst 0, 1), (18, .ireturn, 1)]
def am_c212 : List (Nat × Instr × Nat) := [(0, .aload_n 2, 1), (1, .iconst 0, 1), (2, .aload_n 0, 1), (3, .iload_n 1, 1), (4, .invokevirtual 56, 3), (7, .i2l, 1), (8, .lastore, 1), (9, .goto 6, 3), (12, .astore_n 3, 1), (13, .iconst 1, 1), (14, .ireturn, 1), (15, .iconst 0, 1), (16, .ireturn, 1)]
def am_c213 : List (Nat × Instr × Nat) := [(0, .aload_n 2, 1), (1, .iconst 0, 1), (2, .aload_n 0, 1), (3, .iload_n 1, 1), (4, .invokevirtual 59, 3), (7, .i2l, 1), (8, .lastore, 1), (9, .goto 6, 3), (12, .astore_n 3, 1), (13, .iconst 1, 1), (14, .ireturn, 1), (15, .iconst 0, 1), (16, .ireturn, 1)]
def am_c214 : List (Nat × Instr × Nat) := [(0, .aload_n 2, 1), (1, .iconst 0, 1), (2, .aload_n 0, 1), (3, .iload_n 1, 1), (4, .invokevirtual 62, 3), (7, .i2l, 1), (8, .lastore, 1), (9, .goto 6, 3), (12, .astore_n 3, 1), (13, .iconst 1, 1), (14, .ireturn, 1), (15, .iconst 0, 1), (16, .ireturn, 1)]
def am_c215 : List (Nat × Instr × Nat) := [(0, .aload_n 2, 1), (1, .iconst 0, 1), (2, .aload_n 0, 1), (3, .iload_n 1, 1), (4, .invokevirtual 65, 3), (7, .i2l, 1), (8, .lastore, 1), (9, .goto 6, 3), (12, .astore_n 3, 1), (13, .iconst 1, 1), (14, .ireturn, 1), (15, .iconst 0, 1), (16, .ireturn, 1)]
def am_c216 : List (Nat × Instr × Nat) := [(0, .aload_n 2, 1), (1, .iconst 0, 1), (2, .aload_n 0, 1), (3, .iload_n 1, 1), (4, .invokevirtual 68, 3), (7, .i2l, 1), (8, .lastore, 1), (9, .goto 6, 3), (12, .astore_n 3, 1), (13, .iconst 1, 1), (14, .ireturn, 1), (15, .iconst 0, 1), (16, .ireturn, 1)]
def am_c217 : List (Nat × Instr × Nat) := [(0, .aload_n 1, 1), (1, .iconst 0, 1), (2, .aload_n 0, 1), (3, .invokevirtual 71, 3), (6, .i2l, 1), (7, .lastore, 1), (8, .goto 6, 3), (11, .astore_n 2, 1), (12, .iconst 1, 1), (13, .ireturn, 1), (14, .iconst 0, 1), (15, .ireturn, 1)]
def am_c218 : List (Nat × Instr × Nat) := [(0, .aload_n 3, 1), (1, .iconst 0, 1), (2, .aload_n 0, 1), (3, .iload_n 1, 1), (4, .iload_n 2, 1), (5, .invokevirtual 74, 3), (8, .i2l, 1), (9, .lastore, 1), (10, .goto 11, 3), (13, .astore 4, 2), (15, .iconst 1, 1), (16, .ireturn, 1), (17, .astore 4, 2), (19, .iconst 2, 1), (20, .ireturn, 1), (21, .iconst 0, 1), (22, .ireturn, 1)]
def am_c219 : List (Nat × Instr × Nat) := [(0, .aload_n 3, 1), (1, .iconst 0, 1), (2, .aload_n 0, 1), (3, .iload_n 1, 1), (4, .iload_n 2, 1), (5, .invokevirtual 77, 3), (8, .i2l, 1), (9, .lastore, 1), (10, .goto 11, 3), (13, .astore 4, 2), (15, .iconst 1, 1), (16, .ireturn, 1), (17, .astore 4, 2), (19, .iconst 2, 1), (20, .ireturn, 1), (21, .iconst 0, 1), (22, .ireturn, 1)]
def am_c220 : List (Nat × Instr × Nat) := [(0, .aload_n 3, 1), (1, .iconst 0, 1), (2, .aload_n 0, 1), (3, .iload_n 1, 1), (4, .iload_n 2, 1), (5, .invokevirtual 80, 3), (8, .i2l, 1), (9, .lastore, 1), (10, .goto 11, 3), (13, .astore 4, 2), (15, .iconst 1, 1), (16, .ireturn, 1), (17, .astore 4, 2), (19, .iconst 2, 1), (20, .ireturn, 1), (21, .iconst 0, 1), (22, .ireturn, 1)]
def am_c221 : List (Nat × Instr × Nat) := [(0, .aload 4, 2), (2, .iconst 0, 1), (3, .aload_n 0, 1), (4, .iload_n 1, 1), (5, .lload_n 2, 1), (6, .invokevirtual 83, 3), (9, .i2l, 1), (10, .lastore, 1), (11, .goto 7, 3), (14, .astore 5, 2), (16, .iconst 1, 1), (17, .ireturn, 1), (18, .iconst 0, 1), (19, .ireturn, 1)]
def am_c222 : List (Nat × Instr × Nat) := [(0, .aload 4, 2), (2, .iconst 0, 1), (3, .aload_n 0, 1), (4, .lload_n 1, 1), (5, .iload_n 3, 1), (6, .invokevirtual 87, 3), (9, .i2l, 1), (10, .lastore, 1), (11, .goto 7, 3), (14, .astore 5, 2), (16, .iconst 1, 1), (17, .ireturn, 1), (18, .iconst 0, 1), (19, .ireturn, 1)]
def am_c223 : List (Nat × Instr × Nat) := [(0, .aload_n 2, 1), (1, .iconst 0, 1), (2, .aload_n 0, 1), (3, .iload_n 1, 1), (4, .invokevirtual 91, 3), (7, .i2l, 1), (8, .lastore, 1), (9, .goto 6, 3), (12, .astore_n 3, 1), (13, .iconst 1, 1), (14, .ireturn, 1), (15, .iconst 0, 1), (16, .ireturn, 1)]
def am_c224 : List (Nat × Instr × Nat) := [(0, .aload_n 2, 1), (1, .iconst 0, 1), (2, .aload_n 0, 1), (3, .iload_n 1, 1), (4, .invokevirtual 94, 3), (7, .i2l, 1), (8, .lastore, 1), (9, .goto 9, 3), (12, .astore_n 3, 1), (13, .iconst 1, 1), (14, .ireturn, 1), (15, .astore_n 3, 1), (16, .iconst 2, 1), (17, .ireturn, 1), (18, .iconst 0, 1), (19, .ireturn, 1)]
def am_c225_0 : List (Nat × Instr × Nat) := [(0, .new 8, 3), (3, .dup, 1), (4, .invokespecial 97, 3), (7, .astore_n 1, 1), (8, .new 98, 3), (11, .dup, 1), (12, .invokespecial 100, 3), (15, .astore_n 2, 1), (16, .iconst 1, 1), (17, .newarray .long, 2), (19, .astore_n 3, 1), (20, .iconst 0, 1), (21, .istore 4, 2), (23, .iload 4, 2), (25, .aload_n 0, 1), (26, .arraylength, 1), (27, .iconst 4, 1), (28, .isub, 1), (29, .if_icmp .gt 1785, 3), (32, .aload_n 0, 1), (33, .iload 4, 2), (35, .iaload, 1), (36, .bipush 31, 2), (38, .iand, 1), (39, .tableswitch 1769 0 28 #[129, 185, 198, 211, 255, 311, 379, 447, 527, 571, 639, 695, 751, 819, 903, 959, 1015, 1071, 1127, 1183, 1227, 1295, 1363, 1376, 1444, 1457, 1557, 1657, 1713], 129), (168, .aload_n 1, 1), (169, .aload_n 0, 1), (170, .iload 4, 2), (172, .iconst 1, 1), (173, .iadd, 1), (174, .iaload, 1), (175, .aload_n 3, 1), (176, .invokestatic 101, 3), (179, .istore 5, 2), (181, .aload_n 2, 1), (182, .aload_n 0, 1), (183, .iload 4, 2), (185, .iconst 1, 1), (186, .iadd, 1), (187, .iaload, 1)]
def am_c225_1 : List (Nat × Instr × Nat) := [(188, .invokevirtual 106, 3), (191, .istore 6, 2), (193, .aload_n 2, 1), (194, .invokevirtual 107, 3), (197, .iload 5, 2), (199, .if_icmp .eq 5, 3), (202, .iconst 0, 1), (203, .ireturn, 1), (204, .iload 5, 2), (206, .ifCond .ne 15, 3), (209, .aload_n 3, 1), (210, .iconst 0, 1), (211, .laload, 1), (212, .iload 6, 2), (214, .i2l, 1), (215, .lcmp, 1), (216, .ifCond .eq 5, 3), (219, .iconst 0, 1), (220, .ireturn, 1), (221, .goto 1587, 3), (224, .aload_n 1, 1), (225, .invokevirtual 110, 3), (228, .aload_n 2, 1), (229, .invokevirtual 113, 3), (232, .if_icmp .eq 1576, 3), (235, .iconst 0, 1), (236, .ireturn, 1), (237, .aload_n 1, 1), (238, .invokevirtual 114, 3), (241, .aload_n 2, 1), (242, .invokevirtual 117, 3), (245, .if_icmp .eq 1563, 3), (248, .iconst 0, 1), (249, .ireturn, 1), (250, .aload_n 1, 1), (251, .aload_n 3, 1), (252, .invokestatic 118, 3), (255, .istore 5, 2), (257, .aload_n 2, 1), (258, .invokevirtual 121, 3)]
def am_c225_2 : List (Nat × Instr × Nat) := [(261, .istore 6, 2), (263, .aload_n 2, 1), (264, .invokevirtual 107, 3), (267, .iload 5, 2), (269, .if_icmp .eq 5, 3), (272, .iconst 0, 1), (273, .ireturn, 1), (274, .iload 5, 2), (276, .ifCond .ne 15, 3), (279, .aload_n 3, 1), (280, .iconst 0, 1), (281, .laload, 1), (282, .iload 6, 2), (284, .i2l, 1), (285, .lcmp, 1), (286, .ifCond .eq 5, 3), (289, .iconst 0, 1), (290, .ireturn, 1), (291, .goto 1517, 3), (294, .aload_n 1, 1), (295, .aload_n 0, 1), (296, .iload 4, 2), (298, .iconst 1, 1), (299, .iadd, 1), (300, .iaload, 1), (301, .aload_n 3, 1), (302, .invokestatic 122, 3), (305, .istore 5, 2), (307, .aload_n 2, 1), (308, .aload_n 0, 1), (309, .iload 4, 2), (311, .iconst 1, 1), (312, .iadd, 1), (313, .iaload, 1), (314, .invokevirtual 124, 3), (317, .istore 6, 2), (319, .aload_n 2, 1), (320, .invokevirtual 107, 3), (323, .iload 5, 2), (325, .if_icmp .eq 5, 3)]
def am_c225_3 : List (Nat × Instr × Nat) := [(328, .iconst 0, 1), (329, .ireturn, 1), (330, .iload 5, 2), (332, .ifCond .ne 15, 3), (335, .aload_n 3, 1), (336, .iconst 0, 1), (337, .laload, 1), (338, .iload 6, 2), (340, .i2l, 1), (341, .lcmp, 1), (342, .ifCond .eq 5, 3), (345, .iconst 0, 1), (346, .ireturn, 1), (347, .goto 1461, 3), (350, .aload_n 1, 1), (351, .aload_n 0, 1), (352, .iload 4, 2), (354, .iconst 1, 1), (355, .iadd, 1), (356, .iaload, 1), (357, .aload_n 0, 1), (358, .iload 4, 2), (360, .iconst 2, 1), (361, .iadd, 1), (362, .iaload, 1), (363, .aload_n 3, 1), (364, .invokestatic 125, 3), (367, .istore 5, 2), (369, .aload_n 2, 1), (370, .aload_n 0, 1), (371, .iload 4, 2), (373, .iconst 1, 1), (374, .iadd, 1), (375, .iaload, 1), (376, .aload_n 0, 1), (377, .iload 4, 2), (379, .iconst 2, 1), (380, .iadd, 1), (381, .iaload, 1), (382, .invokevirtual 128, 3)]
def am_c225_4 : List (Nat × Instr × Nat) := [(385, .istore 6, 2), (387, .aload_n 2, 1), (388, .invokevirtual 107, 3), (391, .iload 5, 2), (393, .if_icmp .eq 5, 3), (396, .iconst 0, 1), (397, .ireturn, 1), (398, .iload 5, 2), (400, .ifCond .ne 15, 3), (403, .aload_n 3, 1), (404, .iconst 0, 1), (405, .laload, 1), (406, .iload 6, 2), (408, .i2l, 1), (409, .lcmp, 1), (410, .ifCond .eq 5, 3), (413, .iconst 0, 1), (414, .ireturn, 1), (415, .goto 1393, 3), (418, .aload_n 1, 1), (419, .aload_n 0, 1), (420, .iload 4, 2), (422, .iconst 1, 1), (423, .iadd, 1), (424, .iaload, 1), (425, .aload_n 0, 1), (426, .iload 4, 2), (428, .iconst 2, 1), (429, .iadd, 1), (430, .iaload, 1), (431, .aload_n 3, 1), (432, .invokestatic 129, 3), (435, .istore 5, 2), (437, .aload_n 2, 1), (438, .aload_n 0, 1), (439, .iload 4, 2), (441, .iconst 1, 1), (442, .iadd, 1), (443, .iaload, 1), (444, .aload_n 0, 1)]
def am_c225_5 : List (Nat × Instr × Nat) := [(445, .iload 4, 2), (447, .iconst 2, 1), (448, .iadd, 1), (449, .iaload, 1), (450, .invokevirtual 131, 3), (453, .istore 6, 2), (455, .aload_n 2, 1), (456, .invokevirtual 107, 3), (459, .iload 5, 2), (461, .if_icmp .eq 5, 3), (464, .iconst 0, 1), (465, .ireturn, 1), (466, .iload 5, 2), (468, .ifCond .ne 15, 3), (471, .aload_n 3, 1), (472, .iconst 0, 1), (473, .laload, 1), (474, .iload 6, 2), (476, .i2l, 1), (477, .lcmp, 1), (478, .ifCond .eq 5, 3), (481, .iconst 0, 1), (482, .ireturn, 1), (483, .goto 1325, 3), (486, .aload_n 1, 1), (487, .aload_n 0, 1), (488, .iload 4, 2), (490, .iconst 1, 1), (491, .iadd, 1), (492, .iaload, 1), (493, .aload_n 0, 1), (494, .iload 4, 2), (496, .iconst 2, 1), (497, .iadd, 1), (498, .iaload, 1), (499, .aload_n 0, 1), (500, .iload 4, 2), (502, .iconst 3, 1), (503, .iadd, 1), (504, .iaload, 1)]
def am_c225_6 : List (Nat × Instr × Nat) := [(505, .aload_n 3, 1), (506, .invokestatic 132, 3), (509, .istore 5, 2), (511, .aload_n 2, 1), (512, .aload_n 0, 1), (513, .iload 4, 2), (515, .iconst 1, 1), (516, .iadd, 1), (517, .iaload, 1), (518, .aload_n 0, 1), (519, .iload 4, 2), (521, .iconst 2, 1), (522, .iadd, 1), (523, .iaload, 1), (524, .aload_n 0, 1), (525, .iload 4, 2), (527, .iconst 3, 1), (528, .iadd, 1), (529, .iaload, 1), (530, .invokevirtual 135, 3), (533, .istore 6, 2), (535, .aload_n 2, 1), (536, .invokevirtual 107, 3), (539, .iload 5, 2), (541, .if_icmp .eq 5, 3), (544, .iconst 0, 1), (545, .ireturn, 1), (546, .iload 5, 2), (548, .ifCond .ne 15, 3), (551, .aload_n 3, 1), (552, .iconst 0, 1), (553, .laload, 1), (554, .iload 6, 2), (556, .i2l, 1), (557, .lcmp, 1), (558, .ifCond .eq 5, 3), (561, .iconst 0, 1), (562, .ireturn, 1), (563, .goto 1245, 3), (566, .aload_n 1, 1)]
def am_c225_7 : List (Nat × Instr × Nat) := [(567, .aload_n 3, 1), (568, .invokestatic 136, 3), (571, .istore 5, 2), (573, .aload_n 2, 1), (574, .invokevirtual 138, 3), (577, .istore 6, 2), (579, .aload_n 2, 1), (580, .invokevirtual 107, 3), (583, .iload 5, 2), (585, .if_icmp .eq 5, 3), (588, .iconst 0, 1), (589, .ireturn, 1), (590, .iload 5, 2), (592, .ifCond .ne 15, 3), (595, .aload_n 3, 1), (596, .iconst 0, 1), (597, .laload, 1), (598, .iload 6, 2), (600, .i2l, 1), (601, .lcmp, 1), (602, .ifCond .eq 5, 3), (605, .iconst 0, 1), (606, .ireturn, 1), (607, .goto 1201, 3), (610, .aload_n 1, 1), (611, .aload_n 0, 1), (612, .iload 4, 2), (614, .iconst 1, 1), (615, .iadd, 1), (616, .iaload, 1), (617, .aload_n 0, 1), (618, .iload 4, 2), (620, .iconst 2, 1), (621, .iadd, 1), (622, .iaload, 1), (623, .aload_n 3, 1), (624, .invokestatic 139, 3), (627, .istore 5, 2), (629, .aload_n 2, 1), (630, .aload_n 0, 1)]
def am_c225_8 : List (Nat × Instr × Nat) := [(631, .iload 4, 2), (633, .iconst 1, 1), (634, .iadd, 1), (635, .iaload, 1), (636, .aload_n 0, 1), (637, .iload 4, 2), (639, .iconst 2, 1), (640, .iadd, 1), (641, .iaload, 1), (642, .invokevirtual 141, 3), (645, .istore 6, 2), (647, .aload_n 2, 1), (648, .invokevirtual 107, 3), (651, .iload 5, 2), (653, .if_icmp .eq 5, 3), (656, .iconst 0, 1), (657, .ireturn, 1), (658, .iload 5, 2), (660, .ifCond .ne 15, 3), (663, .aload_n 3, 1), (664, .iconst 0, 1), (665, .laload, 1), (666, .iload 6, 2), (668, .i2l, 1), (669, .lcmp, 1), (670, .ifCond .eq 5, 3), (673, .iconst 0, 1), (674, .ireturn, 1), (675, .goto 1133, 3), (678, .aload_n 1, 1), (679, .aload_n 0, 1), (680, .iload 4, 2), (682, .iconst 1, 1), (683, .iadd, 1), (684, .iaload, 1), (685, .aload_n 3, 1), (686, .invokestatic 142, 3), (689, .istore 5, 2), (691, .aload_n 2, 1), (692, .aload_n 0, 1)]
def am_c225_9 : List (Nat × Instr × Nat) := [(693, .iload 4, 2), (695, .iconst 1, 1), (696, .iadd, 1), (697, .iaload, 1), (698, .invokevirtual 144, 3), (701, .istore 6, 2), (703, .aload_n 2, 1), (704, .invokevirtual 107, 3), (707, .iload 5, 2), (709, .if_icmp .eq 5, 3), (712, .iconst 0, 1), (713, .ireturn, 1), (714, .iload 5, 2), (716, .ifCond .ne 15, 3), (719, .aload_n 3, 1), (720, .iconst 0, 1), (721, .laload, 1), (722, .iload 6, 2), (724, .i2l, 1), (725, .lcmp, 1), (726, .ifCond .eq 5, 3), (729, .iconst 0, 1), (730, .ireturn, 1), (731, .goto 1077, 3), (734, .aload_n 1, 1), (735, .aload_n 0, 1), (736, .iload 4, 2), (738, .iconst 1, 1), (739, .iadd, 1), (740, .iaload, 1), (741, .aload_n 3, 1), (742, .invokestatic 145, 3), (745, .istore 5, 2), (747, .aload_n 2, 1), (748, .aload_n 0, 1), (749, .iload 4, 2), (751, .iconst 1, 1), (752, .iadd, 1), (753, .iaload, 1), (754, .invokevirtual 147, 3)]
def am_c225_10 : List (Nat × Instr × Nat) := [(757, .istore 6, 2), (759, .aload_n 2, 1), (760, .invokevirtual 107, 3), (763, .iload 5, 2), (765, .if_icmp .eq 5, 3), (768, .iconst 0, 1), (769, .ireturn, 1), (770, .iload 5, 2), (772, .ifCond .ne 15, 3), (775, .aload_n 3, 1), (776, .iconst 0, 1), (777, .laload, 1), (778, .iload 6, 2), (780, .i2l, 1), (781, .lcmp, 1), (782, .ifCond .eq 5, 3), (785, .iconst 0, 1), (786, .ireturn, 1), (787, .goto 1021, 3), (790, .aload_n 1, 1), (791, .aload_n 0, 1), (792, .iload 4, 2), (794, .iconst 1, 1), (795, .iadd, 1), (796, .iaload, 1), (797, .aload_n 0, 1), (798, .iload 4, 2), (800, .iconst 2, 1), (801, .iadd, 1), (802, .iaload, 1), (803, .aload_n 3, 1), (804, .invokestatic 148, 3), (807, .istore 5, 2), (809, .aload_n 2, 1), (810, .aload_n 0, 1), (811, .iload 4, 2), (813, .iconst 1, 1), (814, .iadd, 1), (815, .iaload, 1), (816, .aload_n 0, 1)]
def am_c225_11 : List (Nat × Instr × Nat) := [(817, .iload 4, 2), (819, .iconst 2, 1), (820, .iadd, 1), (821, .iaload, 1), (822, .invokevirtual 150, 3), (825, .istore 6, 2), (827, .aload_n 2, 1), (828, .invokevirtual 107, 3), (831, .iload 5, 2), (833, .if_icmp .eq 5, 3), (836, .iconst 0, 1), (837, .ireturn, 1), (838, .iload 5, 2), (840, .ifCond .ne 15, 3), (843, .aload_n 3, 1), (844, .iconst 0, 1), (845, .laload, 1), (846, .iload 6, 2), (848, .i2l, 1), (849, .lcmp, 1), (850, .ifCond .eq 5, 3), (853, .iconst 0, 1), (854, .ireturn, 1), (855, .goto 953, 3), (858, .aload_n 1, 1), (859, .aload_n 0, 1), (860, .iload 4, 2), (862, .iconst 1, 1), (863, .iadd, 1), (864, .iaload, 1), (865, .aload_n 0, 1), (866, .iload 4, 2), (868, .iconst 2, 1), (869, .iadd, 1), (870, .iaload, 1), (871, .ifCond .eq 7, 3), (874, .iconst 1, 1), (875, .goto 4, 3), (878, .iconst 0, 1), (879, .aload_n 3, 1)]
def am_c225_12 : List (Nat × Instr × Nat) := [(880, .invokestatic 151, 3), (883, .istore 5, 2), (885, .aload_n 2, 1), (886, .aload_n 0, 1), (887, .iload 4, 2), (889, .iconst 1, 1), (890, .iadd, 1), (891, .iaload, 1), (892, .aload_n 0, 1), (893, .iload 4, 2), (895, .iconst 2, 1), (896, .iadd, 1), (897, .iaload, 1), (898, .ifCond .eq 7, 3), (901, .iconst 1, 1), (902, .goto 4, 3), (905, .iconst 0, 1), (906, .invokevirtual 154, 3), (909, .istore 6, 2), (911, .aload_n 2, 1), (912, .invokevirtual 107, 3), (915, .iload 5, 2), (917, .if_icmp .eq 5, 3), (920, .iconst 0, 1), (921, .ireturn, 1), (922, .iload 5, 2), (924, .ifCond .ne 15, 3), (927, .aload_n 3, 1), (928, .iconst 0, 1), (929, .laload, 1), (930, .iload 6, 2), (932, .i2l, 1), (933, .lcmp, 1), (934, .ifCond .eq 5, 3), (937, .iconst 0, 1), (938, .ireturn, 1), (939, .goto 869, 3), (942, .aload_n 1, 1), (943, .aload_n 0, 1), (944, .iload 4, 2)]
def am_c225_13 : List (Nat × Instr × Nat) := [(946, .iconst 1, 1), (947, .iadd, 1), (948, .iaload, 1), (949, .aload_n 3, 1), (950, .invokestatic 155, 3), (953, .istore 5, 2), (955, .aload_n 2, 1), (956, .aload_n 0, 1), (957, .iload 4, 2), (959, .iconst 1, 1), (960, .iadd, 1), (961, .iaload, 1), (962, .invokevirtual 157, 3), (965, .istore 6, 2), (967, .aload_n 2, 1), (968, .invokevirtual 107, 3), (971, .iload 5, 2), (973, .if_icmp .eq 5, 3), (976, .iconst 0, 1), (977, .ireturn, 1), (978, .iload 5, 2), (980, .ifCond .ne 15, 3), (983, .aload_n 3, 1), (984, .iconst 0, 1), (985, .laload, 1), (986, .iload 6, 2), (988, .i2l, 1), (989, .lcmp, 1), (990, .ifCond .eq 5, 3), (993, .iconst 0, 1), (994, .ireturn, 1), (995, .goto 813, 3), (998, .aload_n 1, 1), (999, .aload_n 0, 1), (1000, .iload 4, 2), (1002, .iconst 1, 1), (1003, .iadd, 1), (1004, .iaload, 1), (1005, .aload_n 3, 1), (1006, .invokestatic 158, 3)]
def am_c225_14 : List (Nat × Instr × Nat) := [(1009, .istore 5, 2), (1011, .aload_n 2, 1), (1012, .aload_n 0, 1), (1013, .iload 4, 2), (1015, .iconst 1, 1), (1016, .iadd, 1), (1017, .iaload, 1), (1018, .invokevirtual 160, 3), (1021, .istore 6, 2), (1023, .aload_n 2, 1), (1024, .invokevirtual 107, 3), (1027, .iload 5, 2), (1029, .if_icmp .eq 5, 3), (1032, .iconst 0, 1), (1033, .ireturn, 1), (1034, .iload 5, 2), (1036, .ifCond .ne 15, 3), (1039, .aload_n 3, 1), (1040, .iconst 0, 1), (1041, .laload, 1), (1042, .iload 6, 2), (1044, .i2l, 1), (1045, .lcmp, 1), (1046, .ifCond .eq 5, 3), (1049, .iconst 0, 1), (1050, .ireturn, 1), (1051, .goto 757, 3), (1054, .aload_n 1, 1), (1055, .aload_n 0, 1), (1056, .iload 4, 2), (1058, .iconst 1, 1), (1059, .iadd, 1), (1060, .iaload, 1), (1061, .aload_n 3, 1), (1062, .invokestatic 161, 3), (1065, .istore 5, 2), (1067, .aload_n 2, 1), (1068, .aload_n 0, 1), (1069, .iload 4, 2), (1071, .iconst 1, 1)]
def am_c225_15 : List (Nat × Instr × Nat) := [(1072, .iadd, 1), (1073, .iaload, 1), (1074, .invokevirtual 163, 3), (1077, .istore 6, 2), (1079, .aload_n 2, 1), (1080, .invokevirtual 107, 3), (1083, .iload 5, 2), (1085, .if_icmp .eq 5, 3), (1088, .iconst 0, 1), (1089, .ireturn, 1), (1090, .iload 5, 2), (1092, .ifCond .ne 15, 3), (1095, .aload_n 3, 1), (1096, .iconst 0, 1), (1097, .laload, 1), (1098, .iload 6, 2), (1100, .i2l, 1), (1101, .lcmp, 1), (1102, .ifCond .eq 5, 3), (1105, .iconst 0, 1), (1106, .ireturn, 1), (1107, .goto 701, 3), (1110, .aload_n 1, 1), (1111, .aload_n 0, 1), (1112, .iload 4, 2), (1114, .iconst 1, 1), (1115, .iadd, 1), (1116, .iaload, 1), (1117, .aload_n 3, 1), (1118, .invokestatic 164, 3), (1121, .istore 5, 2), (1123, .aload_n 2, 1), (1124, .aload_n 0, 1), (1125, .iload 4, 2), (1127, .iconst 1, 1), (1128, .iadd, 1), (1129, .iaload, 1), (1130, .invokevirtual 166, 3), (1133, .istore 6, 2), (1135, .aload_n 2, 1)]
def am_c225_16 : List (Nat × Instr × Nat) := [(1136, .invokevirtual 107, 3), (1139, .iload 5, 2), (1141, .if_icmp .eq 5, 3), (1144, .iconst 0, 1), (1145, .ireturn, 1), (1146, .iload 5, 2), (1148, .ifCond .ne 15, 3), (1151, .aload_n 3, 1), (1152, .iconst 0, 1), (1153, .laload, 1), (1154, .iload 6, 2), (1156, .i2l, 1), (1157, .lcmp, 1), (1158, .ifCond .eq 5, 3), (1161, .iconst 0, 1), (1162, .ireturn, 1), (1163, .goto 645, 3), (1166, .aload_n 1, 1), (1167, .aload_n 0, 1), (1168, .iload 4, 2), (1170, .iconst 1, 1), (1171, .iadd, 1), (1172, .iaload, 1), (1173, .aload_n 3, 1), (1174, .invokestatic 167, 3), (1177, .istore 5, 2), (1179, .aload_n 2, 1), (1180, .aload_n 0, 1), (1181, .iload 4, 2), (1183, .iconst 1, 1), (1184, .iadd, 1), (1185, .iaload, 1), (1186, .invokevirtual 169, 3), (1189, .istore 6, 2), (1191, .aload_n 2, 1), (1192, .invokevirtual 107, 3), (1195, .iload 5, 2), (1197, .if_icmp .eq 5, 3), (1200, .iconst 0, 1), (1201, .ireturn, 1)]
def am_c225_17 : List (Nat × Instr × Nat) := [(1202, .iload 5, 2), (1204, .ifCond .ne 15, 3), (1207, .aload_n 3, 1), (1208, .iconst 0, 1), (1209, .laload, 1), (1210, .iload 6, 2), (1212, .i2l, 1), (1213, .lcmp, 1), (1214, .ifCond .eq 5, 3), (1217, .iconst 0, 1), (1218, .ireturn, 1), (1219, .goto 589, 3), (1222, .aload_n 1, 1), (1223, .aload_n 3, 1), (1224, .invokestatic 170, 3), (1227, .istore 5, 2), (1229, .aload_n 2, 1), (1230, .invokevirtual 172, 3), (1233, .istore 6, 2), (1235, .aload_n 2, 1), (1236, .invokevirtual 107, 3), (1239, .iload 5, 2), (1241, .if_icmp .eq 5, 3), (1244, .iconst 0, 1), (1245, .ireturn, 1), (1246, .iload 5, 2), (1248, .ifCond .ne 15, 3), (1251, .aload_n 3, 1), (1252, .iconst 0, 1), (1253, .laload, 1), (1254, .iload 6, 2), (1256, .i2l, 1), (1257, .lcmp, 1), (1258, .ifCond .eq 5, 3), (1261, .iconst 0, 1), (1262, .ireturn, 1), (1263, .goto 545, 3), (1266, .aload_n 1, 1), (1267, .aload_n 0, 1), (1268, .iload 4, 2)]
def am_c225_18 : List (Nat × Instr × Nat) := [(1270, .iconst 1, 1), (1271, .iadd, 1), (1272, .iaload, 1), (1273, .aload_n 0, 1), (1274, .iload 4, 2), (1276, .iconst 2, 1), (1277, .iadd, 1), (1278, .iaload, 1), (1279, .aload_n 3, 1), (1280, .invokestatic 173, 3), (1283, .istore 5, 2), (1285, .aload_n 2, 1), (1286, .aload_n 0, 1), (1287, .iload 4, 2), (1289, .iconst 1, 1), (1290, .iadd, 1), (1291, .iaload, 1), (1292, .aload_n 0, 1), (1293, .iload 4, 2), (1295, .iconst 2, 1), (1296, .iadd, 1), (1297, .iaload, 1), (1298, .invokevirtual 175, 3), (1301, .istore 6, 2), (1303, .aload_n 2, 1), (1304, .invokevirtual 107, 3), (1307, .iload 5, 2), (1309, .if_icmp .eq 5, 3), (1312, .iconst 0, 1), (1313, .ireturn, 1), (1314, .iload 5, 2), (1316, .ifCond .ne 15, 3), (1319, .aload_n 3, 1), (1320, .iconst 0, 1), (1321, .laload, 1), (1322, .iload 6, 2), (1324, .i2l, 1), (1325, .lcmp, 1), (1326, .ifCond .eq 5, 3), (1329, .iconst 0, 1)]
def am_c225_19 : List (Nat × Instr × Nat) := [(1330, .ireturn, 1), (1331, .goto 477, 3), (1334, .aload_n 1, 1), (1335, .aload_n 0, 1), (1336, .iload 4, 2), (1338, .iconst 1, 1), (1339, .iadd, 1), (1340, .iaload, 1), (1341, .aload_n 0, 1), (1342, .iload 4, 2), (1344, .iconst 2, 1), (1345, .iadd, 1), (1346, .iaload, 1), (1347, .aload_n 3, 1), (1348, .invokestatic 176, 3), (1351, .istore 5, 2), (1353, .aload_n 2, 1), (1354, .aload_n 0, 1), (1355, .iload 4, 2), (1357, .iconst 1, 1), (1358, .iadd, 1), (1359, .iaload, 1), (1360, .aload_n 0, 1), (1361, .iload 4, 2), (1363, .iconst 2, 1), (1364, .iadd, 1), (1365, .iaload, 1), (1366, .invokevirtual 178, 3), (1369, .istore 6, 2), (1371, .aload_n 2, 1), (1372, .invokevirtual 107, 3), (1375, .iload 5, 2), (1377, .if_icmp .eq 5, 3), (1380, .iconst 0, 1), (1381, .ireturn, 1), (1382, .iload 5, 2), (1384, .ifCond .ne 15, 3), (1387, .aload_n 3, 1), (1388, .iconst 0, 1), (1389, .laload, 1)]
def am_c225_20 : List (Nat × Instr × Nat) := [(1390, .iload 6, 2), (1392, .i2l, 1), (1393, .lcmp, 1), (1394, .ifCond .eq 5, 3), (1397, .iconst 0, 1), (1398, .ireturn, 1), (1399, .goto 409, 3), (1402, .aload_n 1, 1), (1403, .invokevirtual 179, 3), (1406, .aload_n 2, 1), (1407, .invokevirtual 182, 3), (1410, .if_icmp .eq 398, 3), (1413, .iconst 0, 1), (1414, .ireturn, 1), (1415, .aload_n 1, 1), (1416, .aload_n 0, 1), (1417, .iload 4, 2), (1419, .iconst 1, 1), (1420, .iadd, 1), (1421, .iaload, 1), (1422, .aload_n 0, 1), (1423, .iload 4, 2), (1425, .iconst 2, 1), (1426, .iadd, 1), (1427, .iaload, 1), (1428, .aload_n 3, 1), (1429, .invokestatic 183, 3), (1432, .istore 5, 2), (1434, .aload_n 2, 1), (1435, .aload_n 0, 1), (1436, .iload 4, 2), (1438, .iconst 1, 1), (1439, .iadd, 1), (1440, .iaload, 1), (1441, .aload_n 0, 1), (1442, .iload 4, 2), (1444, .iconst 2, 1), (1445, .iadd, 1), (1446, .iaload, 1), (1447, .invokevirtual 185, 3)]
def am_c225_21 : List (Nat × Instr × Nat) := [(1450, .istore 6, 2), (1452, .aload_n 2, 1), (1453, .invokevirtual 107, 3), (1456, .iload 5, 2), (1458, .if_icmp .eq 5, 3), (1461, .iconst 0, 1), (1462, .ireturn, 1), (1463, .iload 5, 2), (1465, .ifCond .ne 15, 3), (1468, .aload_n 3, 1), (1469, .iconst 0, 1), (1470, .laload, 1), (1471, .iload 6, 2), (1473, .i2l, 1), (1474, .lcmp, 1), (1475, .ifCond .eq 5, 3), (1478, .iconst 0, 1), (1479, .ireturn, 1), (1480, .goto 328, 3), (1483, .aload_n 1, 1), (1484, .invokevirtual 186, 3), (1487, .aload_n 2, 1), (1488, .invokevirtual 189, 3), (1491, .if_icmp .eq 317, 3), (1494, .iconst 0, 1), (1495, .ireturn, 1), (1496, .aload_n 1, 1), (1497, .aload_n 0, 1), (1498, .iload 4, 2), (1500, .iconst 1, 1), (1501, .iadd, 1), (1502, .iaload, 1), (1503, .aload_n 0, 1), (1504, .iload 4, 2), (1506, .iconst 2, 1), (1507, .iadd, 1), (1508, .iaload, 1), (1509, .i2l, 1), (1510, .bipush 32, 2), (1512, .lshl, 1)]
def am_c225_22 : List (Nat × Instr × Nat) := [(1513, .aload_n 0, 1), (1514, .iload 4, 2), (1516, .iconst 3, 1), (1517, .iadd, 1), (1518, .iaload, 1), (1519, .i2l, 1), (1520, .ldc2_w 190, 3), (1523, .land, 1), (1524, .lor, 1), (1525, .aload_n 3, 1), (1526, .invokestatic 192, 3), (1529, .istore 5, 2), (1531, .aload_n 2, 1), (1532, .aload_n 0, 1), (1533, .iload 4, 2), (1535, .iconst 1, 1), (1536, .iadd, 1), (1537, .iaload, 1), (1538, .aload_n 0, 1), (1539, .iload 4, 2), (1541, .iconst 2, 1), (1542, .iadd, 1), (1543, .iaload, 1), (1544, .i2l, 1), (1545, .bipush 32, 2), (1547, .lshl, 1), (1548, .aload_n 0, 1), (1549, .iload 4, 2), (1551, .iconst 3, 1), (1552, .iadd, 1), (1553, .iaload, 1), (1554, .i2l, 1), (1555, .ldc2_w 190, 3), (1558, .land, 1), (1559, .lor, 1), (1560, .invokevirtual 195, 3), (1563, .istore 6, 2), (1565, .aload_n 2, 1), (1566, .invokevirtual 107, 3), (1569, .iload 5, 2)]
def am_c225_23 : List (Nat × Instr × Nat) := [(1571, .if_icmp .eq 5, 3), (1574, .iconst 0, 1), (1575, .ireturn, 1), (1576, .iload 5, 2), (1578, .ifCond .ne 15, 3), (1581, .aload_n 3, 1), (1582, .iconst 0, 1), (1583, .laload, 1), (1584, .iload 6, 2), (1586, .i2l, 1), (1587, .lcmp, 1), (1588, .ifCond .eq 5, 3), (1591, .iconst 0, 1), (1592, .ireturn, 1), (1593, .goto 215, 3), (1596, .aload_n 1, 1), (1597, .aload_n 0, 1), (1598, .iload 4, 2), (1600, .iconst 1, 1), (1601, .iadd, 1), (1602, .iaload, 1), (1603, .i2l, 1), (1604, .bipush 32, 2), (1606, .lshl, 1), (1607, .aload_n 0, 1), (1608, .iload 4, 2), (1610, .iconst 2, 1), (1611, .iadd, 1), (1612, .iaload, 1), (1613, .i2l, 1), (1614, .ldc2_w 190, 3), (1617, .land, 1), (1618, .lor, 1), (1619, .aload_n 0, 1), (1620, .iload 4, 2), (1622, .iconst 3, 1), (1623, .iadd, 1), (1624, .iaload, 1), (1625, .aload_n 3, 1), (1626, .invokestatic 196, 3)]
def am_c225_24 : List (Nat × Instr × Nat) := [(1629, .istore 5, 2), (1631, .aload_n 2, 1), (1632, .aload_n 0, 1), (1633, .iload 4, 2), (1635, .iconst 1, 1), (1636, .iadd, 1), (1637, .iaload, 1), (1638, .i2l, 1), (1639, .bipush 32, 2), (1641, .lshl, 1), (1642, .aload_n 0, 1), (1643, .iload 4, 2), (1645, .iconst 2, 1), (1646, .iadd, 1), (1647, .iaload, 1), (1648, .i2l, 1), (1649, .ldc2_w 190, 3), (1652, .land, 1), (1653, .lor, 1), (1654, .aload_n 0, 1), (1655, .iload 4, 2), (1657, .iconst 3, 1), (1658, .iadd, 1), (1659, .iaload, 1), (1660, .invokevirtual 199, 3), (1663, .istore 6, 2), (1665, .aload_n 2, 1), (1666, .invokevirtual 107, 3), (1669, .iload 5, 2), (1671, .if_icmp .eq 5, 3), (1674, .iconst 0, 1), (1675, .ireturn, 1), (1676, .iload 5, 2), (1678, .ifCond .ne 15, 3), (1681, .aload_n 3, 1), (1682, .iconst 0, 1), (1683, .laload, 1), (1684, .iload 6, 2), (1686, .i2l, 1), (1687, .lcmp, 1)]
def am_c225_25 : List (Nat × Instr × Nat) := [(1688, .ifCond .eq 5, 3), (1691, .iconst 0, 1), (1692, .ireturn, 1), (1693, .goto 115, 3), (1696, .aload_n 1, 1), (1697, .aload_n 0, 1), (1698, .iload 4, 2), (1700, .iconst 1, 1), (1701, .iadd, 1), (1702, .iaload, 1), (1703, .aload_n 3, 1), (1704, .invokestatic 200, 3), (1707, .istore 5, 2), (1709, .aload_n 2, 1), (1710, .aload_n 0, 1), (1711, .iload 4, 2), (1713, .iconst 1, 1), (1714, .iadd, 1), (1715, .iaload, 1), (1716, .invokevirtual 202, 3), (1719, .istore 6, 2), (1721, .aload_n 2, 1), (1722, .invokevirtual 107, 3), (1725, .iload 5, 2), (1727, .if_icmp .eq 5, 3), (1730, .iconst 0, 1), (1731, .ireturn, 1), (1732, .iload 5, 2), (1734, .ifCond .ne 15, 3), (1737, .aload_n 3, 1), (1738, .iconst 0, 1), (1739, .laload, 1), (1740, .iload 6, 2), (1742, .i2l, 1), (1743, .lcmp, 1), (1744, .ifCond .eq 5, 3), (1747, .iconst 0, 1), (1748, .ireturn, 1), (1749, .goto 59, 3), (1752, .aload_n 1, 1)]
def am_c225_26 : List (Nat × Instr × Nat) := [(1753, .aload_n 0, 1), (1754, .iload 4, 2), (1756, .iconst 1, 1), (1757, .iadd, 1), (1758, .iaload, 1), (1759, .aload_n 3, 1), (1760, .invokestatic 203, 3), (1763, .istore 5, 2), (1765, .aload_n 2, 1), (1766, .aload_n 0, 1), (1767, .iload 4, 2), (1769, .iconst 1, 1), (1770, .iadd, 1), (1771, .iaload, 1), (1772, .invokevirtual 205, 3), (1775, .istore 6, 2), (1777, .aload_n 2, 1), (1778, .invokevirtual 107, 3), (1781, .iload 5, 2), (1783, .if_icmp .eq 5, 3), (1786, .iconst 0, 1), (1787, .ireturn, 1), (1788, .iload 5, 2), (1790, .ifCond .ne 15, 3), (1793, .aload_n 3, 1), (1794, .iconst 0, 1), (1795, .laload, 1), (1796, .iload 6, 2), (1798, .i2l, 1), (1799, .lcmp, 1), (1800, .ifCond .eq 5, 3), (1803, .iconst 0, 1), (1804, .ireturn, 1), (1805, .goto 3, 3), (1808, .iinc 4 4, 3), (1811, .goto (-1788), 3), (1814, .iconst 1, 1), (1815, .ireturn, 1)]
def am_c225 : List (Nat × Instr × Nat) := am_c225_0 ++ (am_c225_1 ++ (am_c225_2 ++ (am_c225_3 ++ (am_c225_4 ++ (am_c225_5 ++ (am_c225_6 ++ (am_c225_7 ++ (am_c225_8 ++ (am_c225_9 ++ (am_c225_10 ++ (am_c225_11 ++ (am_c225_12 ++ (am_c225_13 ++ (am_c225_14 ++ (am_c225_15 ++ (am_c225_16 ++ (am_c225_17 ++ (am_c225_18 ++ (am_c225_19 ++ (am_c225_20 ++ (am_c225_21 ++ (am_c225_22 ++ (am_c225_23 ++ (am_c225_24 ++ (am_c225_25 ++ (am_c225_26))))))))))))))))))))))))))
def am_code (k : Nat) : List (Nat × Instr × Nat) := (if k < 114 then (if k < 57 then (if k < 28 then (if k < 14 then (if k < 7 then (if k < 3 then (if k < 1 then am_c0 else (if k < 2 then am_c1 else am_c2)) else (if k < 5 then (if k < 4 then am_c3 else am_c4) else (if k < 6 then am_c5 else am_c6))) else (if k < 10 then (if k < 8 then am_c7 else (if k < 9 then am_c8 else am_c9)) else (if k < 12 then (if k < 11 then am_c10 else am_c11) else (if k < 13 then am_c12 else am_c13)))) else (if k < 21 then (if k < 17 then (if k < 15 then am_c14 else (if k < 16 then am_c15 else am_c16)) else (if k < 19 then (if k < 18 then am_c17 else am_c18) else (if k < 20 then am_c19 else am_c20))) else (if k < 24 then (if k < 22 then am_c21 else (if k < 23 then am_c22 else am_c23)) else (if k < 26 then (if k < 25 then am_c24 else am_c25) else (if k < 27 then am_c26 else am_c27))))) else (if k < 42 then (if k < 35 then (if k < 31 then (if k < 29 then am_c28 else (if k < 30 then am_c29 else am_c30)) else (if k < 33 then (if k < 32 then am_c31 else am_c32) else (if k < 34 then am_c33 else am_c34))) else (if k < 38 then (if k < 36 then am_c35 else (if k < 37 then am_c36 else am_c37)) else (if k < 40 then (if k < 39 then am_c38 else am_c39) else (if k < 41 then am_c40 else am_c41)))) else (if k < 49 then (if k < 45 then (if k < 43 then am_c42 else (if k < 44 then am_c43 else am_c44)) else (if k < 47 then (if k < 46 then am_c45 else am_c46) else (if k < 48 then am_c47 else am_c48))) else (if k < 53 then (if k < 51 then (if k < 50 then am_c49 else am_c50) else (if k < 52 then am_c51 else am_c52)) else (if k < 55 then (if k < 54 then am_c53 else am_c54) else (if k < 56 then am_c55 else am_c56)))))) else (if k < 85 then (if k < 71 then (if k < 64 then (if k < 60 then (if k < 58 then am_c57 else (if k < 59 then am_c58 else am_c59)) else (if k < 62 then (if k < 61 then am_c60 else am_c61) else (if k < 63 then am_c62 else am_c63))) else (if k < 67 then (if k < 65 then am_c64 else (if k < 66 then am_c65 else am_c66)) else (if k < 69 then (if k < 68 then am_c67 else am_c68) else (if k < 70 then am_c69 else am_c70)))) else (if k < 78 then (if k < 74 then (if k < 72 then am_c71 else (if k < 73 then am_c72 else am_c73)) else (if k < 76 then (if k < 75 then am_c74 else am_c75) else (if k < 77 then am_c76 else am_c77))) else (if k < 81 then (if k < 79 then am_c78 else (if k < 80 then am_c79 else am_c80)) else (if k < 83 then (if k < 82 then am_c81 else am_c82) else (if k < 84 then am_c83 else am_c84))))) else (if k < 99 then (if k < 92 then (if k < 88 then (if k < 86 then am_c85 else (if k < 87 then am_c86 else am_c87)) else (if k < 90 then (if k < 89 then am_c88 else am_c89) else (if k < 91 then am_c90 else am_c91))) else (if k < 95 then (if k < 93 then am_c92 else (if k < 94 then am_c93 else am_c94)) else (if k < 97 then (if k < 96 then am_c95 else am_c96) else (if k < 98 then am_c97 else am_c98)))) else (if k < 106 then (if k < 102 then (if k < 100 then am_c99 else (if k < 101 then am_c100 else am_c101)) else (if k < 104 then (if k < 103 then am_c102 else am_c103) else (if k < 105 then am_c104 else am_c105))) else (if k < 110 then (if k < 108 then (if k < 107 then am_c106 else am_c107) else (if k < 109 then am_c108 else am_c109)) else (if k < 112 then (if k < 111 then am_c110 else am_c111) else (if k < 113 then am_c112 else am_c113))))))) else (if k < 171 then (if k < 142 then (if k < 128 then (if k < 121 then (if k < 117 then (if k < 115 then am_c114 else (if k < 116 then am_c115 else am_c116)) else (if k < 119 then (if k < 118 then am_c117 else am_c118) else (if k < 120 then am_c119 else am_c120))) else (if k < 124 then (if k < 122 then am_c121 else (if k < 123 then am_c122 else am_c123)) else (if k < 126 then (if k < 125 then am_c124 else am_c125) else (if k < 127 then am_c126 else am_c127)))) else (if k < 135 then (if k < 131 then (if k < 129 then am_c128 else (if k < 130 then am_c129 else am_c130)) else (if k < 133 then (if k < 132 then am_c131 else am_c132) else (if k < 134 then am_c133 else am_c134))) else (if k < 138 then (if k < 136 then am_c135 else (if k < 137 then am_c136 else am_c137)) else (if k < 140 then (if k < 139 then am_c138 else am_c139) else (if k < 141 then am_c140 else am_c141))))) else (if k < 156 then (if k < 149 then (if k < 145 then (if k < 143 then am_c142 else (if k < 144 then am_c143 else am_c144)) else (if k < 147 then (if k < 146 then am_c145 else am_c146) else (if k < 148 then am_c147 else am_c148))) else (if k < 152 then (if k < 150 then am_c149 else (if k < 151 then am_c150 else am_c151)) else (if k < 154 then (if k < 153 then am_c152 else am_c153) else (if k < 155 then am_c154 else am_c155)))) else (if k < 163 then (if k < 159 then (if k < 157 then am_c156 else (if k < 158 then am_c157 else am_c158)) else (if k < 161 then (if k < 160 then am_c159 else am_c160) else (if k < 162 then am_c161 else am_c162))) else (if k < 167 then (if k < 165 then (if k < 164 then am_c163 else am_c164) else (if k < 166 then am_c165 else am_c166)) else (if k < 169 then (if k < 168 then am_c167 else am_c168) else (if k < 170 then am_c169 else am_c170)))))) else (if k < 200 then (if k < 185 then (if k < 178 then (if k < 174 then (if k < 172 then am_c171 else (if k < 173 then am_c172 else am_c173)) else (if k < 176 then (if k < 175 then am_c174 else am_c175) else (if k < 177 then am_c176 else am_c177))) else (if k < 181 then (if k < 179 then am_c178 else (if k < 180 then am_c179 else am_c180)) else (if k < 183 then (if k < 182 then am_c181 else am_c182) else (if k < 184 then am_c183 else am_c184)))) else (if k < 192 then (if k < 188 then (if k < 186 then am_c185 else (if k < 187 then am_c186 else am_c187)) else (if k < 190 then (if k < 189 then am_c188 else am_c189) else (if k < 191 then am_c190 else am_c191))) else (if k < 196 then (if k < 194 then (if k < 193 then am_c192 else am_c193) else (if k < 195 then am_c194 else am_c195)) else (if k < 198 then (if k < 197 then am_c196 else am_c197) else (if k < 199 then am_c198 else am_c199))))) else (if k < 214 then (if k < 207 then (if k < 203 then (if k < 201 then am_c200 else (if k < 202 then am_c201 else am_c202)) else (if k < 205 then (if k < 204 then am_c203 else am_c204) else (if k < 206 then am_c205 else am_c206))) else (if k < 210 then (if k < 208 then am_c207 else (if k < 209 then am_c208 else am_c209)) else (if k < 212 then (if k < 211 then am_c210 else am_c211) else (if k < 213 then am_c212 else am_c213)))) else (if k < 221 then (if k < 217 then (if k < 215 then am_c214 else (if k < 216 then am_c215 else am_c216)) else (if k < 219 then (if k < 218 then am_c217 else am_c218) else (if k < 220 then am_c219 else am_c220))) else (if k < 225 then (if k < 223 then (if k < 222 then am_c221 else am_c222) else (if k < 224 then am_c223 else am_c224)) else (if k < 227 then (if k < 226 then am_c225 else am_c106) else (if k < 228 then am_c106 else am_c106))))))))
def am_mts : List (Nat × Nat × MethodName × ByteArray × Nat × Option FieldType × List (Nat × Nat × Nat × Nat) × Nat) := [
  (0, 0, yX0_init, cX0_init, 2, none, [], 1),
  (0, 0, yX0_isEmpty, cX0_isEmpty, 1, (some .boolean), [], 1),
  (0, 0, yX0_forget, cX0_forget, 1, none, [], 1),
  (0, 0, yX0_keep, cX0_keep, 3, none, [], 2),
  (0, 0, yX0_giveBack, cX0_giveBack, 3, (some .int), [], 2),
  (1, 1, yX1_init, cX1_init, 1, none, [], 1),
  (2, 2, yX2_init, cX2_init, 1, none, [], 1),
  (2, 2, yX2_isFull, cX2_isFull, 1, (some .boolean), [], 1),
  (2, 2, yX2_add, cX2_add, 2, (some .int), [], 2),
  (2, 2, yX2_empty, cX2_empty, 2, (some .int), [], 1),
  (2, 2, yX2_firstWrong, cX2_firstWrong, 2, (some .int), [], 1),
  (2, 2, yX2_begin, cX2_begin, 1, (some .boolean), [], 1),
  (2, 2, yX2_hasMore, cX2_hasMore, 1, (some .boolean), [], 1),
  (2, 2, yX2_signAhead, cX2_signAhead, 1, (some .int), [], 1),
  (2, 2, yX2_readCommand, cX2_readCommand, 2, (some .boolean), [], 1),
  (2, 2, yX2_readPile, cX2_readPile, 1, (some .boolean), [], 1),
  (2, 2, yX2_readFirst, cX2_readFirst, 4, (some .boolean), [], 4),
  (2, 2, yX2_readSecond, cX2_readSecond, 4, (some .boolean), [], 4),
  (2, 2, yX2_readCover, cX2_readCover, 2, (some .boolean), [], 1),
  (2, 2, yX2_readNumber, cX2_readNumber, 8, (some .int), [], 4),
  (3, 3, yX3_init, cX3_init, 1, none, [], 1),
  (3, 3, yX3_clear, cX3_clear, 1, none, [], 1),
  (3, 3, yX3_copyFrom, cX3_copyFrom, 2, none, [], 2),
  (3, 3, yX3_hasPile, cX3_hasPile, 2, (some .boolean), [], 2),
  (3, 3, yX3_hasTwoPiles, cX3_hasTwoPiles, 3, (some .boolean), [], 3),
  (3, 3, yX3_hasLog, cX3_hasLog, 2, (some .boolean), [], 2),
  (3, 3, yX3_hasRoomForPile, cX3_hasRoomForPile, 1, (some .boolean), [], 1),
  (3, 3, yX3_hasRoomForLog, cX3_hasRoomForLog, 1, (some .boolean), [], 1),
  (3, 3, yX3_topOf, cX3_topOf, 2, (some .int), [], 2),
  (3, 3, yX3_isTop, cX3_isTop, 3, (some .boolean), [], 3),
  (3, 3, yX3_dampOfTop, cX3_dampOfTop, 2, (some .int), [], 2),
  (3, 3, yX3_isCovered, cX3_isCovered, 2, (some .boolean), [], 2),
  (3, 3, yX3_logsIn, cX3_logsIn, 4, (some .int), [], 2),
  (3, 3, yX3_logsInAll, cX3_logsInAll, 1, (some .int), [], 1),
  (3, 3, yX3_dampIn, cX3_dampIn, 4, (some .int), [], 2),
  (3, 3, yX3_dampInAll, cX3_dampInAll, 3, (some .int), [], 1),
  (3, 3, yX3_offIn, cX3_offIn, 4, (some .int), [], 2),
  (3, 3, yX3_offInAll, cX3_offInAll, 3, (some .int), [], 1),
  (3, 3, yX3_greatestDepth, cX3_greatestDepth, 5, (some .int), [], 2),
  (3, 3, yX3_whyNotDrawn, cX3_whyNotDrawn, 2, (some .int), [], 2),
  (3, 3, yX3_depthOf, cX3_depthOf, 5, (some .int), [], 2),
  (3, 3, yX3_logsUnder, cX3_logsUnder, 4, (some .int), [], 2),
  (3, 3, yX3_liesUnder, cX3_liesUnder, 5, (some .boolean), [], 3),
  (3, 3, yX3_comesAhead, cX3_comesAhead, 3, (some .boolean), [], 3),
  (3, 3, yX3_rankedFromTop, cX3_rankedFromTop, 6, (some .int), [], 3),
  (3, 3, yX3_firstDirectlyUnder, cX3_firstDirectlyUnder, 5, (some .int), [], 2),
  (3, 3, yX3_rankedByAll, cX3_rankedByAll, 4, (some .int), [], 3),
  (3, 3, yX3_logsAheadOf, cX3_logsAheadOf, 5, (some .int), [], 3),
  (3, 3, yX3_addPile, cX3_addPile, 2, (some .int), [], 1),
  (3, 3, yX3_addLog, cX3_addLog, 4, (some .int), [], 3),
  (3, 3, yX3_comeInto, cX3_comeInto, 3, none, [], 3),
  (3, 3, yX3_joinTrees, cX3_joinTrees, 9, (some .int), [], 3),
  (3, 3, yX3_removeLog, cX3_removeLog, 5, (some .int), [], 2),
  (3, 3, yX3_unlink, cX3_unlink, 2, none, [], 2),
  (3, 3, yX3_takeAway, cX3_takeAway, 2, (some .int), [], 2),
  (3, 3, yX3_burnTop, cX3_burnTop, 3, (some .int), [], 2),
  (3, 3, yX3_drawEmpty, cX3_drawEmpty, 4, (some .int), [], 2),
  (3, 3, yX3_joinPiles, cX3_joinPiles, 5, (some .int), [], 3),
  (3, 3, yX3_changeCover, cX3_changeCover, 4, (some .boolean), [], 3),
  (3, 3, yX3_letWindBlow, cX3_letWindBlow, 4, none, [], 2),
  (3, 3, yX3_letRainFall, cX3_letRainFall, 4, none, [], 2),
  (3, 3, yX3_mendPile, cX3_mendPile, 4, (some .int), [], 2),
  (3, 3, yX3_passNights, cX3_passNights, 5, (some .int), [], 2),
  (3, 3, yX3_driestToDraw, cX3_driestToDraw, 3, (some .int), [], 1),
  (3, 3, yX3_obey, cX3_obey, 4, (some .boolean), [], 4),
  (3, 3, yX3_canObey, cX3_canObey, 4, (some .boolean), [], 4),
  (4, 4, yX4_init, cX4_init, 2, none, [], 1),
  (4, 4, yX4_append, cX4_append, 2, (some .int), [], 2),
  (4, 4, yX4_clearText, cX4_clearText, 1, (some .int), [], 1),
  (4, 4, yX4_errorPosition, cX4_errorPosition, 1, (some .int), [], 1),
  (4, 4, yX4_load, cX4_load, 3, (some .int), [], 1),
  (4, 4, yX4_about, cX4_about, 2, (some .int), [], 2),
  (4, 4, yX4_pileOf, cX4_pileOf, 3, (some .int), [], 3),
  (4, 4, yX4_logOf, cX4_logOf, 3, (some .int), [], 3),
  (4, 4, yX4_ranked, cX4_ranked, 4, (some .int), [], 4),
  (4, 4, yX4_pile, cX4_pile, 1, (some .int), [], 1),
  (4, 4, yX4_log, cX4_log, 3, (some .int), [], 3),
  (4, 4, yX4_draw, cX4_draw, 3, (some .int), [], 2),
  (4, 4, yX4_take, cX4_take, 2, (some .int), [], 2),
  (4, 4, yX4_join, cX4_join, 3, (some .int), [], 3),
  (4, 4, yX4_cover, cX4_cover, 3, (some .int), [], 3),
  (4, 4, yX4_wind, cX4_wind, 2, (some .int), [], 2),
  (4, 4, yX4_rain, cX4_rain, 2, (some .int), [], 2),
  (4, 4, yX4_mend, cX4_mend, 2, (some .int), [], 2),
  (4, 4, yX4_nights, cX4_nights, 2, (some .int), [], 2),
  (4, 4, yX4_set, cX4_set, 3, (some .int), [], 2),
  (4, 4, yX4_undo, cX4_undo, 1, (some .int), [], 1),
  (4, 4, yX4_drawsTill, cX4_drawsTill, 6, (some .int), [], 3),
  (4, 4, yX4_ifJoined, cX4_ifJoined, 3, (some .int), [], 3),
  (4, 4, yX4_fewestLifts, cX4_fewestLifts, 2, (some .int), [], 1),
  (4, 4, yX4_ifMended, cX4_ifMended, 5, (some .int), [], 3),
  (4, 4, yX4_harmless, cX4_harmless, 3, (some .int), [], 1),
  (4, 4, yX4_runScript, cX4_runScript, 7, (some .int), [], 3),
  (4, 4, yX4_simulate, cX4_simulate, 11, (some .int), [], 3),
  (4, 4, yX4_save, cX4_save, 3, (some .int), [], 2),
  (4, 4, yX4_restore, cX4_restore, 3, (some .int), [], 2),
  (4, 4, yX4_needPile, cX4_needPile, 2, none, [], 2),
  (4, 4, yX4_needTwoPiles, cX4_needTwoPiles, 3, none, [], 3),
  (4, 4, yX4_needLog, cX4_needLog, 2, none, [], 2),
  (4, 4, yX4_needDamp, cX4_needDamp, 1, none, [], 1),
  (4, 4, yX4_needWeather, cX4_needWeather, 1, none, [], 1),
  (4, 4, yX4_needSlot, cX4_needSlot, 1, none, [], 1),
  (4, 4, yX4_isDamp, cX4_isDamp, 1, (some .boolean), [], 1),
  (4, 4, yX4_isWeather, cX4_isWeather, 1, (some .boolean), [], 1),
  (4, 4, yX4_slotOf, cX4_slotOf, 2, (some (.object "WoodPiles$Slot")), [], 2),
  (4, 4, yX4_copyOfYard, cX4_copyOfYard, 1, (some (.object "WoodPiles$Yard")), [], 1),
  (10, 4, yX4_fewestFrom, cX4_fewestFrom, 8, (some .int), [], 2),
  (4, 4, yX4_withoutGroups, cX4_withoutGroups, 6, (some .long), [], 2),
  (4, 4, yX4_doGroup, cX4_doGroup, 5, (some .boolean), [], 2),
  (4, 4, yX4_letterOfTurn, cX4_letterOfTurn, 1, (some .char), [], 1),
  (4, 4, yX4_firstOfTurn, cX4_firstOfTurn, 2, (some .int), [], 2),
  (4, 4, yX4_secondOfTurn, cX4_secondOfTurn, 2, (some .int), [], 2),
  (4, 4, yX4_get, cX4_get, 2, (some .int), [], 2),
  (4, 4, yX4_put, cX4_put, 3, none, [], 3),
  (4, 4, yX4_fill, cX4_fill, 3, none, [], 2),
  (4, 4, yX4_copyRow, cX4_copyRow, 3, none, [], 2),
  (4, 4, yX4_yardAt, cX4_yardAt, 2, (some (.object "WoodPiles$Yard")), [], 2),
  (5, 5, yX5_init, cX5_init, 1, none, [], 1),
  (5, 5, yX5_thrown, cX5_thrown, 1, (some .int), [], 1),
  (5, 5, yX5_refused, cX5_refused, 2, (some .boolean), [], 2),
  (5, 5, yX5_in, cX5_in, 6, (some .boolean), [], 3),
  (5, 5, yX5_copyState, cX5_copyState, 5, none, [], 4),
  (5, 5, yX5_clear, cX5_clear, 2, none, [], 1),
  (5, 5, yX5_of, cX5_of, 3, (some .int), [], 3),
  (5, 5, yX5_lay, cX5_lay, 4, none, [], 4),
  (5, 5, yX5_top, cX5_top, 2, (some .int), [], 2),
  (5, 5, yX5_isCovered, cX5_isCovered, 2, (some .boolean), [], 2),
  (5, 5, yX5_isPile, cX5_isPile, 2, (some .boolean), [], 2),
  (5, 5, yX5_isLog, cX5_isLog, 2, (some .boolean), [], 2),
  (5, 5, yX5_isAhead, cX5_isAhead, 4, (some .boolean), [], 3),
  (5, 5, yX5_isOff, cX5_isOff, 2, (some .boolean), [], 2),
  (5, 5, yX5_depth, cX5_depth, 4, (some .int), [], 2),
  (5, 5, yX5_isUnder, cX5_isUnder, 4, (some .boolean), [], 3),
  (5, 5, yX5_lies, cX5_lies, 3, (some .boolean), [], 3),
  (5, 5, yX5_logsIn, cX5_logsIn, 4, (some .int), [], 2),
  (5, 5, yX5_offIn, cX5_offIn, 4, (some .int), [], 2),
  (5, 5, yX5_dampIn, cX5_dampIn, 4, (some .int), [], 2),
  (5, 5, yX5_allOff, cX5_allOff, 3, (some .int), [], 1),
  (5, 5, yX5_allDamp, cX5_allDamp, 3, (some .int), [], 1),
  (5, 5, yX5_allLogs, cX5_allLogs, 3, (some .int), [], 1),
  (5, 5, yX5_hang, cX5_hang, 3, none, [], 3),
  (5, 5, yX5_joined, cX5_joined, 10, (some .int), [], 3),
  (5, 5, yX5_comesInto, cX5_comesInto, 3, none, [], 3),
  (5, 5, yX5_goesOut, cX5_goesOut, 6, none, [], 2),
  (5, 5, yX5_pileOn, cX5_pileOn, 2, (some .int), [], 1),
  (5, 5, yX5_logOn, cX5_logOn, 4, (some .int), [], 3),
  (5, 5, yX5_reason, cX5_reason, 2, (some .int), [], 2),
  (5, 5, yX5_burn, cX5_burn, 4, none, [], 2),
  (5, 5, yX5_drawOn, cX5_drawOn, 3, (some .int), [], 2),
  (5, 5, yX5_takeOn, cX5_takeOn, 3, (some .int), [], 2),
  (5, 5, yX5_joinOn, cX5_joinOn, 5, (some .int), [], 3),
  (5, 5, yX5_coverOn, cX5_coverOn, 4, (some .int), [], 3),
  (5, 5, yX5_windOn, cX5_windOn, 5, (some .int), [], 2),
  (5, 5, yX5_rainOn, cX5_rainOn, 4, (some .int), [], 2),
  (5, 5, yX5_mendOn, cX5_mendOn, 4, (some .int), [], 2),
  (5, 5, yX5_nightsOn, cX5_nightsOn, 7, (some .int), [], 2),
  (5, 5, yX5_append, cX5_append, 2, (some .int), [], 2),
  (5, 5, yX5_clearText, cX5_clearText, 2, (some .int), [], 1),
  (5, 5, yX5_figures, cX5_figures, 9, (some .int), [], 5),
  (5, 5, yX5_done, cX5_done, 2, (some .boolean), [], 2),
  (5, 5, yX5_pileSign, cX5_pileSign, 2, (some .int), [], 2),
  (5, 5, yX5_readCover, cX5_readCover, 4, (some .boolean), [], 2),
  (5, 5, yX5_readPiles, cX5_readPiles, 5, (some .boolean), [], 3),
  (5, 5, yX5_readCommand, cX5_readCommand, 4, (some .boolean), [], 2),
  (5, 5, yX5_readText, cX5_readText, 2, (some .int), [], 2),
  (5, 5, yX5_errorPosition, cX5_errorPosition, 1, (some .int), [], 1),
  (5, 5, yX5_load, cX5_load, 1, (some .int), [], 1),
  (5, 5, yX5_about, cX5_about, 2, (some .int), [], 2),
  (5, 5, yX5_greatestDepth, cX5_greatestDepth, 5, (some .int), [], 2),
  (5, 5, yX5_pileOf, cX5_pileOf, 3, (some .int), [], 3),
  (5, 5, yX5_logOf, cX5_logOf, 5, (some .int), [], 3),
  (5, 5, yX5_rankedIn, cX5_rankedIn, 6, (some .int), [], 3),
  (5, 5, yX5_ranked, cX5_ranked, 5, (some .int), [], 4),
  (5, 5, yX5_remember, cX5_remember, 2, none, [], 1),
  (5, 5, yX5_pile, cX5_pile, 1, (some .int), [], 1),
  (5, 5, yX5_log, cX5_log, 3, (some .int), [], 3),
  (5, 5, yX5_draw, cX5_draw, 2, (some .int), [], 2),
  (5, 5, yX5_take, cX5_take, 2, (some .int), [], 2),
  (5, 5, yX5_join, cX5_join, 3, (some .int), [], 3),
  (5, 5, yX5_cover, cX5_cover, 3, (some .int), [], 3),
  (5, 5, yX5_wind, cX5_wind, 2, (some .int), [], 2),
  (5, 5, yX5_rain, cX5_rain, 2, (some .int), [], 2),
  (5, 5, yX5_mend, cX5_mend, 2, (some .int), [], 2),
  (5, 5, yX5_nights, cX5_nights, 2, (some .int), [], 2),
  (5, 5, yX5_set, cX5_set, 3, (some .int), [], 2),
  (5, 5, yX5_undo, cX5_undo, 1, (some .int), [], 1),
  (5, 5, yX5_drawsTill, cX5_drawsTill, 4, (some .int), [], 3),
  (5, 5, yX5_ifJoined, cX5_ifJoined, 3, (some .int), [], 3),
  (5, 5, yX5_lesser, cX5_lesser, 2, (some .int), [], 2),
  (5, 5, yX5_lastLifts, cX5_lastLifts, 7, (some .int), [], 2),
  (5, 5, yX5_fewestLifts, cX5_fewestLifts, 4, (some .int), [], 1),
  (5, 5, yX5_ifMended, cX5_ifMended, 5, (some .int), [], 3),
  (5, 5, yX5_harmless, cX5_harmless, 3, (some .int), [], 1),
  (5, 5, yX5_command, cX5_command, 9, (some .boolean), [], 3),
  (5, 5, yX5_runScript, cX5_runScript, 8, (some .int), [], 3),
  (5, 5, yX5_turnPile, cX5_turnPile, 4, none, [], 3),
  (5, 5, yX5_turnOf, cX5_turnOf, 3, none, [], 3),
  (5, 5, yX5_simulate, cX5_simulate, 8, (some .int), [], 3),
  (5, 5, yX5_save, cX5_save, 2, (some .int), [], 2),
  (5, 5, yX5_restore, cX5_restore, 2, (some .int), [], 2),
  (6, 6, yL_append, cL_append, 4, (some .int), [(0, 9, 12, 13), (0, 9, 15, 15)], 3),
  (6, 6, yL_load, cL_load, 3, (some .int), [(0, 8, 11, 15)], 2),
  (6, 6, yL_about, cL_about, 4, (some .int), [(0, 9, 12, 13)], 3),
  (6, 6, yL_pileOf, cL_pileOf, 5, (some .int), [(0, 10, 13, 28), (0, 10, 17, 13)], 4),
  (6, 6, yL_logOf, cL_logOf, 5, (some .int), [(0, 10, 13, 28), (0, 10, 17, 13)], 4),
  (6, 6, yL_ranked, cL_ranked, 6, (some .int), [(0, 12, 15, 28), (0, 12, 19, 13), (0, 12, 23, 15)], 5),
  (6, 6, yL_pile, cL_pile, 3, (some .int), [(0, 8, 11, 15)], 2),
  (6, 6, yL_log, cL_log, 5, (some .int), [(0, 10, 13, 28), (0, 10, 17, 13), (0, 10, 21, 15)], 4),
  (6, 6, yL_draw, cL_draw, 4, (some .int), [(0, 9, 12, 28)], 3),
  (6, 6, yL_take, cL_take, 4, (some .int), [(0, 9, 12, 28)], 3),
  (6, 6, yL_join, cL_join, 5, (some .int), [(0, 10, 13, 28), (0, 10, 17, 13)], 4),
  (6, 6, yL_cover, cL_cover, 5, (some .int), [(0, 10, 13, 28)], 4),
  (6, 6, yL_wind, cL_wind, 4, (some .int), [(0, 9, 12, 13)], 3),
  (6, 6, yL_rain, cL_rain, 4, (some .int), [(0, 9, 12, 13)], 3),
  (6, 6, yL_mend, cL_mend, 4, (some .int), [(0, 9, 12, 28)], 3),
  (6, 6, yL_nights, cL_nights, 4, (some .int), [(0, 9, 12, 13)], 3),
  (6, 6, yL_set, cL_set, 4, (some .int), [(0, 9, 12, 13)], 3),
  (6, 6, yL_undo, cL_undo, 3, (some .int), [(0, 8, 11, 15)], 2),
  (6, 6, yL_drawsTill, cL_drawsTill, 5, (some .int), [(0, 10, 13, 28), (0, 10, 17, 13)], 4),
  (6, 6, yL_ifJoined, cL_ifJoined, 5, (some .int), [(0, 10, 13, 28), (0, 10, 17, 13)], 4),
  (6, 6, yL_ifMended, cL_ifMended, 5, (some .int), [(0, 10, 13, 28), (0, 10, 17, 13)], 4),
  (6, 6, yL_runScript, cL_runScript, 6, (some .int), [(0, 11, 14, 13)], 4),
  (6, 6, yL_simulate, cL_simulate, 6, (some .int), [(0, 11, 14, 13)], 4),
  (6, 6, yL_save, cL_save, 4, (some .int), [(0, 9, 12, 28)], 3),
  (6, 6, yL_restore, cL_restore, 4, (some .int), [(0, 9, 12, 28), (0, 9, 15, 15)], 3),
  (6, 6, ⟨RL, "law", "([I)Z"⟩, code, 7, (some .boolean), [], 1),
  (11, 4, yX4_fewestFrom, cX4_fewestFrom, 8, (some .int), [], 2),
  (12, 4, yX4_fewestFrom, cX4_fewestFrom, 8, (some .int), [], 2),
  (13, 4, yX4_fewestFrom, cX4_fewestFrom, 8, (some .int), [], 2)]
def am_ft : List ((Nat × Nat) × Nat × Nat × Nat) := [((0, 11), 0, 0, 175), ((0, 18), 0, 2, 177), ((0, 22), 0, 1, 176), ((1, 10), 1, 0, 193), ((2, 9), 2, 0, 62), ((2, 15), 2, 1, 63), ((2, 23), 2, 2, 64), ((2, 36), 2, 3, 66), ((2, 39), 2, 4, 68), ((2, 42), 2, 5, 70), ((3, 9), 3, 0, 98), ((3, 15), 3, 1, 100), ((3, 18), 3, 2, 102), ((3, 21), 3, 3, 104), ((3, 24), 3, 4, 106), ((3, 27), 3, 5, 108), ((3, 30), 3, 6, 109), ((3, 40), 3, 7, 110), ((3, 44), 3, 8, 112), ((3, 47), 3, 9, 114), ((3, 50), 3, 10, 116), ((3, 53), 3, 11, 118), ((3, 56), 3, 12, 120), ((3, 59), 3, 13, 122), ((3, 62), 3, 14, 124), ((3, 65), 3, 15, 126), ((3, 68), 3, 16, 128), ((4, 10), 4, 0, 201), ((4, 19), 4, 1, 202), ((4, 26), 4, 2, 203), ((4, 33), 4, 3, 204), ((4, 37), 4, 4, 205), ((4, 40), 4, 5, 206), ((4, 43), 4, 6, 207), ((4, 82), 1, 1, 195), ((4, 95), 2, 3, 65), ((4, 99), 2, 4, 67), ((4, 102), 2, 5, 69), ((4, 109), 3, 7, 111), ((4, 112), 3, 8, 113), ((4, 118), 3, 9, 115), ((4, 121), 3, 10, 117), ((4, 124), 3, 11, 119), ((4, 127), 3, 12, 121), ((4, 130), 3, 13, 123), ((4, 133), 3, 14, 125), ((4, 136), 3, 15, 127), ((4, 142), 3, 16, 129), ((4, 179), 3, 0, 99), ((4, 187), 3, 1, 101), ((4, 193), 3, 2, 103), ((4, 196), 3, 3, 105), ((4, 199), 3, 4, 107), ((4, 350), 1, 0, 194), ((5, 7), 5, 1, 895), ((5, 13), 5, 3, 897), ((5, 16), 5, 4, 898), ((5, 19), 5, 5, 899), ((5, 22), 5, 6, 900), ((5, 25), 5, 7, 901), ((5, 28), 5, 9, 903), ((5, 31), 5, 10, 904), ((5, 39), 5, 0, 894), ((5, 117), 5, 2, 896), ((5, 124), 5, 11, 905), ((5, 129), 5, 12, 906), ((5, 195), 5, 8, 902)]
def am_mr : List ((Nat × Nat) × Nat × Nat × Nat) := [((0, 3), 0, 5, 171), ((0, 17), 20, 2, 174), ((0, 25), 116, 3, 682), ((0, 29), 22, 1, 683), ((1, 1), 0, 5, 190), ((1, 9), 20, 2, 192), ((2, 3), 0, 5, 61), ((2, 19), 11, 1, 239), ((2, 26), 12, 1, 247), ((2, 29), 14, 1, 251), ((2, 32), 13, 1, 243), ((2, 45), 15, 1, 255), ((2, 48), 17, 1, 267), ((2, 52), 16, 1, 259), ((2, 55), 18, 1, 271), ((2, 58), 19, 1, 263), ((3, 3), 0, 5, 90), ((3, 33), 21, 1, 91), ((3, 36), 114, 3, 95), ((3, 71), 115, 3, 286), ((3, 75), 23, 1, 475), ((3, 79), 112, 3, 296), ((3, 83), 25, 1, 490), ((3, 86), 28, 1, 303), ((3, 90), 34, 1, 573), ((3, 93), 43, 1, 308), ((3, 97), 36, 1, 323), ((3, 100), 40, 1, 339), ((3, 103), 42, 1, 639), ((3, 106), 45, 1, 657), ((3, 109), 47, 1, 665), ((3, 113), 113, 3, 312), ((3, 117), 50, 1, 509), ((3, 121), 51, 1, 304), ((3, 124), 53, 1, 525), ((3, 128), 52, 1, 521), ((3, 131), 30, 1, 517), ((3, 134), 39, 1, 486), ((3, 137), 55, 1, 513), ((3, 140), 31, 1, 335), ((3, 143), 0, 6, 542), ((3, 148), 0, 7, 343), ((3, 151), 63, 1, 554), ((3, 155), 65, 1, 467), ((3, 159), 48, 1, 501), ((3, 162), 49, 1, 505), ((3, 165), 54, 1, 529), ((3, 168), 57, 1, 533), ((3, 171), 58, 1, 534), ((3, 175), 59, 1, 538), ((3, 178), 60, 1, 545), ((3, 181), 61, 1, 546), ((3, 184), 62, 1, 550), ((3, 187), 26, 1, 471), ((3, 191), 102, 3, 479), ((3, 194), 27, 1, 482), ((3, 197), 24, 1, 494), ((3, 200), 103, 3, 498), ((4, 1), 0, 5, 53), ((4, 9), 6, 2, 58), ((4, 18), 20, 2, 87), ((4, 25), 0, 2, 168), ((4, 32), 5, 2, 187), ((4, 54), 7, 1, 423), ((4, 63), 8, 1, 443), ((4, 67), 9, 1, 227), ((4, 71), 10, 1, 235), ((4, 76), 21, 1, 455), ((4, 79), 2, 1, 456), ((4, 86), 11, 1, 460), ((4, 89), 12, 1, 461), ((4, 92), 14, 1, 462), ((4, 105), 64, 1, 463), ((4, 115), 33, 1, 565), ((4, 139), 35, 1, 569), ((4, 147), 96, 1, 586), ((4, 151), 32, 1, 607), ((4, 155), 28, 1, 292), ((4, 158), 38, 1, 611), ((4, 161), 31, 1, 615), ((4, 165), 36, 1, 616), ((4, 168), 34, 1, 617), ((4, 171), 39, 1, 618), ((4, 176), 98, 1, 627), ((4, 183), 112, 0, 633), ((4, 190), 40, 1, 634), ((4, 202), 41, 1, 635), ((4, 214), 44, 1, 653), ((4, 218), 46, 1, 661), ((4, 221), 26, 1, 676), ((4, 226), 3, 1, 678), ((4, 230), 48, 1, 684), ((4, 233), 99, 0, 692), ((4, 236), 27, 1, 697), ((4, 241), 49, 1, 699), ((4, 244), 55, 1, 707), ((4, 247), 54, 1, 715), ((4, 250), 97, 1, 723), ((4, 254), 57, 1, 299), ((4, 257), 58, 1, 735), ((4, 261), 100, 0, 743), ((4, 264), 59, 1, 748), ((4, 267), 60, 1, 331), ((4, 270), 37, 1, 319), ((4, 273), 61, 1, 763), ((4, 278), 62, 1, 772), ((4, 281), 1, 1, 787), ((4, 286), 4, 1, 792), ((4, 290), 105, 1, 327), ((4, 294), 30, 1, 803), ((4, 297), 116, 0, 279), ((4, 301), 22, 1, 282), ((4, 304), 106, 0, 289), ((4, 310), 56, 1, 819), ((4, 315), 107, 0, 831), ((4, 323), 108, 0, 836), ((4, 333), 109, 0, 853), ((4, 337), 110, 0, 856), ((4, 340), 111, 0, 859), ((4, 343), 101, 0, 869), ((4, 346), 104, 1, 873), ((4, 355), 23, 1, 590), ((4, 362), 25, 1, 631), ((4, 367), 102, 0, 695), ((4, 372), 103, 0, 746), ((4, 379), 29, 1, 839), ((5, 1), 0, 5, 890), ((5, 35), 122, 0, 891), ((5, 43), 120, 0, 944), ((5, 47), 123, 0, 1008), ((5, 51), 129, 0, 1005), ((5, 55), 133, 0, 1020), ((5, 58), 130, 0, 1023), ((5, 62), 135, 0, 1017), ((5, 66), 136, 0, 1066), ((5, 69), 134, 0, 1093), ((5, 72), 124, 0, 993), ((5, 76), 140, 0, 1011), ((5, 80), 125, 0, 999), ((5, 83), 141, 0, 1002), ((5, 86), 142, 0, 996), ((5, 89), 143, 0, 1032), ((5, 93), 146, 0, 1014), ((5, 96), 147, 0, 1029), ((5, 99), 128, 0, 1041), ((5, 102), 126, 0, 1057), ((5, 105), 131, 0, 1060), ((5, 108), 138, 0, 1063), ((5, 112), 137, 0, 1072), ((5, 120), 119, 1, 947), ((5, 132), 158, 1, 982), ((5, 136), 160, 1, 978), ((5, 140), 127, 0, 987), ((5, 143), 151, 0, 1051), ((5, 147), 159, 1, 970), ((5, 151), 145, 0, 990), ((5, 154), 148, 0, 1026), ((5, 157), 150, 0, 1035), ((5, 160), 154, 0, 1038), ((5, 163), 144, 0, 967), ((5, 166), 162, 1, 974), ((5, 169), 149, 0, 1044), ((5, 172), 161, 1, 1047), ((5, 176), 152, 0, 1054), ((5, 179), 153, 0, 1069), ((5, 182), 155, 0, 1075), ((5, 185), 163, 1, 963), ((5, 188), 164, 1, 959), ((5, 191), 121, 0, 1082), ((5, 200), 139, 0, 1090), ((5, 205), 168, 0, 1101), ((5, 208), 132, 0, 1108), ((5, 211), 171, 1, 1115), ((5, 215), 173, 1, 1123), ((5, 222), 188, 0, 1189), ((5, 225), 189, 1, 1185), ((5, 232), 193, 1, 1206), ((5, 236), 195, 0, 1220), ((5, 245), 196, 0, 1217), ((6, 7), 67, 1, 351), ((6, 17), 70, 1, 450), ((6, 21), 71, 1, 561), ((6, 24), 72, 1, 582), ((6, 30), 73, 1, 623), ((6, 33), 74, 1, 646), ((6, 37), 75, 1, 672), ((6, 40), 76, 1, 688), ((6, 43), 77, 1, 703), ((6, 46), 78, 1, 711), ((6, 49), 79, 1, 719), ((6, 52), 80, 1, 731), ((6, 56), 81, 1, 739), ((6, 59), 82, 1, 752), ((6, 62), 83, 1, 759), ((6, 65), 84, 1, 767), ((6, 68), 85, 1, 776), ((6, 71), 86, 1, 783), ((6, 74), 87, 1, 799), ((6, 77), 88, 1, 807), ((6, 80), 90, 1, 814), ((6, 83), 92, 1, 826), ((6, 87), 93, 1, 846), ((6, 91), 94, 1, 865), ((6, 94), 95, 1, 880), ((6, 97), 66, 2, 50), ((6, 100), 117, 2, 887), ((6, 101), 200, 4, 346), ((6, 106), 156, 1, 939), ((6, 107), 118, 1, 935), ((6, 110), 68, 1, 223), ((6, 113), 157, 1, 951), ((6, 114), 69, 1, 231), ((6, 117), 165, 1, 955), ((6, 118), 201, 4, 447), ((6, 121), 166, 1, 1078), ((6, 122), 202, 4, 558), ((6, 124), 167, 1, 1085), ((6, 125), 203, 4, 578), ((6, 128), 169, 1, 1096), ((6, 129), 204, 4, 620), ((6, 131), 170, 1, 1104), ((6, 132), 205, 4, 643), ((6, 135), 172, 1, 1111), ((6, 136), 206, 4, 669), ((6, 138), 174, 1, 1119), ((6, 139), 207, 4, 685), ((6, 141), 175, 1, 1127), ((6, 142), 208, 4, 700), ((6, 144), 176, 1, 1132), ((6, 145), 209, 4, 708), ((6, 147), 177, 1, 1136), ((6, 148), 210, 4, 716), ((6, 150), 178, 1, 1140), ((6, 151), 211, 4, 728), ((6, 154), 179, 1, 1144), ((6, 155), 212, 4, 736), ((6, 157), 180, 1, 1148), ((6, 158), 213, 4, 749), ((6, 160), 181, 1, 1153), ((6, 161), 214, 4, 756), ((6, 163), 182, 1, 1157), ((6, 164), 215, 4, 764), ((6, 166), 183, 1, 1161), ((6, 167), 216, 4, 773), ((6, 169), 184, 1, 1165), ((6, 170), 217, 4, 780), ((6, 172), 185, 1, 1169), ((6, 173), 218, 4, 796), ((6, 175), 186, 1, 1173), ((6, 176), 219, 4, 804), ((6, 178), 187, 1, 1177), ((6, 179), 89, 1, 275), ((6, 182), 190, 1, 1181), ((6, 183), 220, 4, 811), ((6, 185), 191, 1, 1192), ((6, 186), 91, 1, 315), ((6, 189), 192, 1, 1196), ((6, 192), 221, 4, 823), ((6, 195), 194, 1, 1200), ((6, 196), 222, 4, 843), ((6, 199), 197, 1, 1210), ((6, 200), 223, 4, 862), ((6, 202), 198, 1, 1223), ((6, 203), 224, 4, 877), ((6, 205), 199, 1, 1227), ((10, 155), 28, 1, 292), ((10, 254), 57, 1, 299), ((10, 297), 116, 0, 279), ((10, 301), 22, 1, 282), ((10, 304), 226, 0, 289), ((11, 155), 28, 1, 292), ((11, 254), 57, 1, 299), ((11, 297), 116, 0, 279), ((11, 301), 22, 1, 282), ((11, 304), 227, 0, 289), ((12, 155), 28, 1, 292), ((12, 254), 57, 1, 299), ((12, 297), 116, 0, 279), ((12, 301), 22, 1, 282), ((12, 304), 228, 0, 289), ((13, 155), 28, 1, 292), ((13, 254), 57, 1, 299), ((13, 297), 116, 0, 279), ((13, 301), 22, 1, 282)]
def am_cr : List ((Nat × Nat) × (Nat ⊕ Nat) × Nat) := [((0, 9), .inl 3, 172), ((1, 7), .inl 3, 191), ((4, 7), .inl 2, 56), ((4, 16), .inl 3, 85), ((4, 23), .inl 0, 166), ((4, 30), .inl 1, 185), ((4, 47), .inr 0, 355), ((4, 58), .inr 1, 427), ((4, 205), .inr 2, 591), ((6, 8), .inl 4, 48), ((6, 13), .inr 0, 349), ((6, 15), .inr 1, 350), ((6, 28), .inr 2, 581), ((6, 98), .inl 5, 885)]
def am_kr : List ((Nat × Nat) × Int × Nat) := [((4, 321), 100000, 834), ((4, 329), 6364136223846793005, 851), ((4, 331), 1442695040888963407, 852), ((5, 115), 255, 943), ((5, 127), 9, 986), ((5, 198), 11, 1089), ((5, 203), 6, 1100), ((5, 218), 99, 1131), ((5, 220), 30, 1152), ((5, 228), 100000, 1204), ((5, 230), 3, 1205), ((5, 239), 60, 1214), ((5, 241), 6364136223846793005, 1215), ((5, 243), 1442695040888963407, 1216), ((6, 190), 4294967295, 1231)]
def am_rk (k : Nat) : Nat := match ([3, 0, 0, 2, 2, 3, 0, 0, 0, 0, 5, 1, 0, 0, 4, 3, 2, 2, 1, 1, 2, 1, 1, 0, 1, 1, 0, 0, 1, 2, 2, 1, 0, 0, 0, 1, 1, 2, 2, 2, 1, 2, 1, 0, 2, 1, 2, 1, 0, 3, 2, 1, 2, 1, 3, 3, 4, 2, 2, 2, 2, 3, 4, 3, 5, 3, 4, 1, 1, 6, 6, 2, 3, 3, 3, 3, 4, 4, 4, 3, 3, 3, 3, 4, 5, 3, 3, 4, 3, 7, 5, 3, 7, 6, 2, 2, 1, 1, 2, 1, 1, 0, 0, 0, 0, 2, 6, 0, 6, 0, 0, 0, 0, 0, 0, 0, 0, 1, 0, 0, 0, 0, 0, 0, 0, 0, 0, 1, 1, 1, 2, 1, 1, 1, 2, 3, 2, 4, 3, 3, 1, 2, 3, 3, 0, 4, 4, 4, 5, 4, 3, 0, 4, 5, 4, 5, 1, 0, 1, 0, 2, 3, 6, 7, 8, 9, 9, 4, 2, 5, 2, 2, 4, 1, 2, 5, 6, 5, 4, 2, 5, 6, 5, 6, 2, 1, 5, 4, 0, 4, 5, 5, 6, 6, 7, 6, 7, 8, 1, 1, 2, 7, 3, 4, 4, 4, 4, 5, 5, 5, 4, 4, 4, 4, 5, 6, 4, 4, 5, 4, 6, 8, 7, 3, 3, 10, 5, 4, 3] : List Nat)[k]? with
  | some r => r
  | none => 0
def am_strs : List (String × Nat × String) := [("WoodPiles", 49, "the character code is not 0 to 255"), ("WoodPiles", 60, "the text has 120 characters"), ("WoodPiles", 74, "the text is not a yard"), ("WoodPiles", 145, "what is not 0 to 11"), ("WoodPiles", 358, "there is no such pile"), ("WoodPiles", 174, "what is not 0 to 6"), ("WoodPiles", 365, "there is no such log"), ("WoodPiles", 207, "there is no such rank"), ("WoodPiles", 210, "way is neither 0 nor 1"), ("WoodPiles", 212, "the pile is off"), ("WoodPiles", 224, "there are 4 piles"), ("WoodPiles", 370, "the damp is not 0 to 99"), ("WoodPiles", 239, "24 logs came"), ("WoodPiles", 360, "both piles are the same"), ("WoodPiles", 375, "w is not 1 to 30"), ("WoodPiles", 276, "n is not 1 to 9"), ("WoodPiles", 284, "no state is remembered"), ("WoodPiles", 308, "what is neither 0 nor 1"), ("WoodPiles", 313, "n is not 1 to 3"), ("WoodPiles", 319, "the script is negative or has too many digits"), ("WoodPiles", 327, "m is not 1 to 60"), ("WoodPiles", 377, "there is no such save slot"), ("WoodPiles", 353, "nothing is saved in the slot")]
def am_mpl : List (Nat × Nat × Nat × Bool) := [(170, 169, 0, false), (790, 788, 789, false), (459, 457, 458, false), (681, 679, 680, false), (795, 793, 794, false), (189, 188, 0, false), (60, 59, 0, false), (426, 424, 425, false), (446, 444, 445, false), (230, 228, 229, false), (238, 236, 237, false), (242, 240, 241, false), (250, 248, 249, false), (246, 245, 0, false), (254, 252, 253, false), (258, 257, 1, false), (262, 261, 2, false), (270, 269, 4, false), (274, 273, 5, false), (266, 265, 3, false), (89, 88, 0, false), (94, 92, 93, false), (285, 283, 284, false), (478, 476, 477, false), (497, 495, 496, false), (493, 491, 492, false), (474, 472, 473, false), (485, 483, 484, false), (295, 293, 294, false), (842, 840, 841, false), (520, 518, 519, false), (338, 336, 337, false), (610, 608, 609, false), (568, 566, 567, false), (576, 574, 575, false), (572, 570, 571, false), (326, 324, 325, false), (322, 320, 321, false), (614, 612, 613, false), (489, 487, 488, false), (342, 340, 341, false), (638, 636, 637, false), (642, 641, 17, false), (311, 310, 7, false), (656, 654, 655, false), (660, 659, 18, false), (664, 662, 663, false), (668, 667, 19, false), (504, 502, 503, false), (508, 506, 507, false), (512, 511, 11, false), (307, 306, 6, false), (524, 523, 12, false), (528, 527, 13, false), (532, 530, 531, false), (516, 514, 515, false), (822, 820, 821, false), (302, 300, 301, false), (537, 535, 536, false), (541, 539, 540, false), (334, 332, 333, false), (549, 547, 548, false), (553, 551, 552, false), (557, 556, 14, false), (466, 464, 465, false), (470, 469, 10, false), (52, 51, 0, false), (354, 352, 353, false), (226, 224, 225, false), (234, 232, 233, false), (453, 451, 452, false), (564, 562, 563, false), (585, 583, 584, false), (626, 624, 625, false), (649, 647, 648, false), (675, 673, 674, false), (691, 689, 690, false), (706, 704, 705, false), (714, 712, 713, false), (722, 720, 721, false), (734, 732, 733, false), (742, 740, 741, false), (755, 753, 754, false), (762, 760, 761, false), (770, 768, 769, false), (779, 777, 778, false), (786, 784, 785, false), (802, 800, 801, false), (810, 808, 809, false), (278, 276, 277, false), (817, 815, 816, false), (318, 316, 317, false), (829, 827, 828, false), (849, 847, 848, false), (868, 866, 867, false), (883, 881, 882, false), (589, 588, 15, false), (726, 725, 20, false), (630, 629, 16, false), (694, 693, 0, true), (745, 744, 0, true), (871, 870, 0, true), (481, 480, 0, true), (500, 499, 0, true), (876, 875, 21, false), (330, 329, 8, false), (291, 290, 0, true), (833, 832, 0, true), (838, 837, 0, true), (855, 854, 0, true), (858, 857, 0, true), (861, 860, 0, true), (298, 297, 0, true), (314, 313, 0, true), (97, 96, 0, true), (288, 287, 0, true), (281, 280, 0, true), (889, 888, 0, false), (938, 936, 937, false), (950, 949, 22, false), (946, 945, 0, true), (1084, 1083, 0, true), (893, 892, 0, true), (1010, 1009, 0, true), (995, 994, 0, true), (1001, 1000, 0, true), (1059, 1058, 0, true), (989, 988, 0, true), (1043, 1042, 0, true), (1007, 1006, 0, true), (1025, 1024, 0, true), (1062, 1061, 0, true), (1110, 1109, 0, true), (1022, 1021, 0, true), (1095, 1094, 0, true), (1019, 1018, 0, true), (1068, 1067, 0, true), (1074, 1073, 0, true), (1065, 1064, 0, true), (1092, 1091, 0, true), (1013, 1012, 0, true), (1004, 1003, 0, true), (998, 997, 0, true), (1034, 1033, 0, true), (969, 968, 0, true), (992, 991, 0, true), (1016, 1015, 0, true), (1031, 1030, 0, true), (1028, 1027, 0, true), (1046, 1045, 0, true), (1037, 1036, 0, true), (1053, 1052, 0, true), (1056, 1055, 0, true), (1071, 1070, 0, true), (1040, 1039, 0, true), (1077, 1076, 0, true), (942, 940, 941, false), (954, 952, 953, false), (985, 984, 28, false), (973, 972, 25, false), (981, 980, 27, false), (1050, 1049, 29, false), (977, 976, 26, false), (966, 965, 24, false), (962, 961, 23, false), (958, 956, 957, false), (1081, 1079, 1080, false), (1088, 1086, 1087, false), (1103, 1102, 0, true), (1099, 1097, 1098, false), (1107, 1105, 1106, false), (1118, 1117, 30, false), (1114, 1112, 1113, false), (1126, 1125, 31, false), (1122, 1120, 1121, false), (1130, 1128, 1129, false), (1135, 1133, 1134, false), (1139, 1137, 1138, false), (1143, 1141, 1142, false), (1147, 1145, 1146, false), (1151, 1149, 1150, false), (1156, 1154, 1155, false), (1160, 1158, 1159, false), (1164, 1162, 1163, false), (1168, 1166, 1167, false), (1172, 1170, 1171, false), (1176, 1174, 1175, false), (1180, 1178, 1179, false), (1191, 1190, 0, true), (1188, 1187, 32, false), (1184, 1182, 1183, false), (1195, 1193, 1194, false), (1199, 1197, 1198, false), (1209, 1208, 33, false), (1203, 1201, 1202, false), (1222, 1221, 0, true), (1219, 1218, 0, true), (1213, 1211, 1212, false), (1226, 1224, 1225, false), (1230, 1228, 1229, false), (348, 347, 0, true), (449, 448, 0, true), (560, 559, 0, true), (580, 579, 0, true), (622, 621, 0, true), (645, 644, 0, true), (671, 670, 0, true), (687, 686, 0, true), (702, 701, 0, true), (710, 709, 0, true), (718, 717, 0, true), (730, 729, 0, true), (738, 737, 0, true), (751, 750, 0, true), (758, 757, 0, true), (766, 765, 0, true), (775, 774, 0, true), (782, 781, 0, true), (798, 797, 0, true), (806, 805, 0, true), (813, 812, 0, true), (825, 824, 0, true), (845, 844, 0, true), (864, 863, 0, true), (879, 878, 0, true), (0, 0, 0, true), (291, 290, 0, true), (291, 290, 0, true), (291, 290, 0, true)]
def am_mp (k : Nat) : Nat × Nat × Nat × Bool := match am_mpl[k]? with
  | some t => t
  | none => (0, 0, 0, false)
/-- group, class, name, bytes, locals, result, handlers, arguments (with the receiver) -/
abbrev am_T : Type := Nat × Nat × MethodName × ByteArray × Nat × Option FieldType × List (Nat × Nat × Nat × Nat) × Nat
def am_mt (k : Nat) : am_T := match am_mts[k]? with
  | some t => t
  | none => (0, 0, ⟨"", "", ""⟩, ⟨#[]⟩, 0, none, [], 0)
def am_fetch (k pc : Nat) : Option (Instr × Nat) := (am_code k).lookup pc
end
section
/-! ===== the program's tables hold ===== -/
def am_dB (b : ByteArray) (e : Nat × Instr × Nat) : Bool := decide (decode b e.1 = .ok (e.2.1, e.2.2))
theorem am_fs {P : Nat → Prop} {n : Nat} (h : ∀ k, k < n → P k) (hn : P n) : ∀ k, k < n + 1 → P k := fun k hk => by
  rcases Nat.lt_or_ge k n with q | q
  · exact h k q
  · rw [show k = n by omega]; exact hn
theorem am_al {b : ByteArray} {l m : List (Nat × Instr × Nat)} (h1 : l.all (am_dB b) = true) (h2 : m.all (am_dB b) = true) : (l ++ m).all (am_dB b) = true := by rw [List.all_append, h1, h2]; rfl
theorem am_k0 : am_c0.all (am_dB cX0_init) = true := by decide +kernel
theorem am_k1 : am_c1.all (am_dB cX0_isEmpty) = true := by decide +kernel
theorem am_k2 : am_c2.all (am_dB cX0_forget) = true := by decide +kernel
theorem am_k3_0 : am_c3_0.all (am_dB cX0_keep) = true := by decide +kernel
theorem am_k3_1 : am_c3_1.all (am_dB cX0_keep) = true := by decide +kernel
theorem am_k3 : am_c3.all (am_dB cX0_keep) = true := am_al am_k3_0 (am_k3_1)
theorem am_k4 : am_c4.all (am_dB cX0_giveBack) = true := by decide +kernel
theorem am_k5 : am_c5.all (am_dB cX1_init) = true := by decide +kernel
theorem am_k6 : am_c6.all (am_dB cX2_init) = true := by decide +kernel
theorem am_k7 : am_c7.all (am_dB cX2_isFull) = true := by decide +kernel
theorem am_k8 : am_c8.all (am_dB cX2_add) = true := by decide +kernel
theorem am_k9 : am_c9.all (am_dB cX2_empty) = true := by decide +kernel
theorem am_k10 : am_c10.all (am_dB cX2_firstWrong) = true := by decide +kernel
theorem am_k11 : am_c11.all (am_dB cX2_begin) = true := by decide +kernel
theorem am_k12 : am_c12.all (am_dB cX2_hasMore) = true := by decide +kernel
theorem am_k13 : am_c13.all (am_dB cX2_signAhead) = true := by decide +kernel
theorem am_k14_0 : am_c14_0.all (am_dB cX2_readCommand) = true := by decide +kernel
theorem am_k14_1 : am_c14_1.all (am_dB cX2_readCommand) = true := by decide +kernel
theorem am_k14_2 : am_c14_2.all (am_dB cX2_readCommand) = true := by decide +kernel
theorem am_k14 : am_c14.all (am_dB cX2_readCommand) = true := am_al am_k14_0 (am_al am_k14_1 (am_k14_2))
theorem am_k15 : am_c15.all (am_dB cX2_readPile) = true := by decide +kernel
theorem am_k16 : am_c16.all (am_dB cX2_readFirst) = true := by decide +kernel
theorem am_k17 : am_c17.all (am_dB cX2_readSecond) = true := by decide +kernel
theorem am_k18 : am_c18.all (am_dB cX2_readCover) = true := by decide +kernel
theorem am_k19_0 : am_c19_0.all (am_dB cX2_readNumber) = true := by decide +kernel
theorem am_k19_1 : am_c19_1.all (am_dB cX2_readNumber) = true := by decide +kernel
theorem am_k19 : am_c19.all (am_dB cX2_readNumber) = true := am_al am_k19_0 (am_k19_1)
theorem am_k20 : am_c20.all (am_dB cX3_init) = true := by decide +kernel
theorem am_k21_0 : am_c21_0.all (am_dB cX3_clear) = true := by decide +kernel
theorem am_k21_1 : am_c21_1.all (am_dB cX3_clear) = true := by decide +kernel
theorem am_k21 : am_c21.all (am_dB cX3_clear) = true := am_al am_k21_0 (am_k21_1)
theorem am_k22_0 : am_c22_0.all (am_dB cX3_copyFrom) = true := by decide +kernel
theorem am_k22_1 : am_c22_1.all (am_dB cX3_copyFrom) = true := by decide +kernel
theorem am_k22 : am_c22.all (am_dB cX3_copyFrom) = true := am_al am_k22_0 (am_k22_1)
theorem am_k23 : am_c23.all (am_dB cX3_hasPile) = true := by decide +kernel
theorem am_k24 : am_c24.all (am_dB cX3_hasTwoPiles) = true := by decide +kernel
theorem am_k25 : am_c25.all (am_dB cX3_hasLog) = true := by decide +kernel
theorem am_k26 : am_c26.all (am_dB cX3_hasRoomForPile) = true := by decide +kernel
theorem am_k27 : am_c27.all (am_dB cX3_hasRoomForLog) = true := by decide +kernel
theorem am_k28 : am_c28.all (am_dB cX3_topOf) = true := by decide +kernel
theorem am_k29 : am_c29.all (am_dB cX3_isTop) = true := by decide +kernel
theorem am_k30 : am_c30.all (am_dB cX3_dampOfTop) = true := by decide +kernel
theorem am_k31 : am_c31.all (am_dB cX3_isCovered) = true := by decide +kernel
theorem am_k32 : am_c32.all (am_dB cX3_logsIn) = true := by decide +kernel
theorem am_k33 : am_c33.all (am_dB cX3_logsInAll) = true := by decide +kernel
theorem am_k34 : am_c34.all (am_dB cX3_dampIn) = true := by decide +kernel
theorem am_k35 : am_c35.all (am_dB cX3_dampInAll) = true := by decide +kernel
theorem am_k36 : am_c36.all (am_dB cX3_offIn) = true := by decide +kernel
theorem am_k37 : am_c37.all (am_dB cX3_offInAll) = true := by decide +kernel
theorem am_k38 : am_c38.all (am_dB cX3_greatestDepth) = true := by decide +kernel
theorem am_k39 : am_c39.all (am_dB cX3_whyNotDrawn) = true := by decide +kernel
theorem am_k40 : am_c40.all (am_dB cX3_depthOf) = true := by decide +kernel
theorem am_k41 : am_c41.all (am_dB cX3_logsUnder) = true := by decide +kernel
theorem am_k42 : am_c42.all (am_dB cX3_liesUnder) = true := by decide +kernel
theorem am_k43 : am_c43.all (am_dB cX3_comesAhead) = true := by decide +kernel
theorem am_k44 : am_c44.all (am_dB cX3_rankedFromTop) = true := by decide +kernel
theorem am_k45_0 : am_c45_0.all (am_dB cX3_firstDirectlyUnder) = true := by decide +kernel
theorem am_k45_1 : am_c45_1.all (am_dB cX3_firstDirectlyUnder) = true := by decide +kernel
theorem am_k45 : am_c45.all (am_dB cX3_firstDirectlyUnder) = true := am_al am_k45_0 (am_k45_1)
theorem am_k46 : am_c46.all (am_dB cX3_rankedByAll) = true := by decide +kernel
theorem am_k47 : am_c47.all (am_dB cX3_logsAheadOf) = true := by decide +kernel
theorem am_k48 : am_c48.all (am_dB cX3_addPile) = true := by decide +kernel
theorem am_k49 : am_c49.all (am_dB cX3_addLog) = true := by decide +kernel
theorem am_k50 : am_c50.all (am_dB cX3_comeInto) = true := by decide +kernel
theorem am_k51_0 : am_c51_0.all (am_dB cX3_joinTrees) = true := by decide +kernel
theorem am_k51_1 : am_c51_1.all (am_dB cX3_joinTrees) = true := by decide +kernel
theorem am_k51_2 : am_c51_2.all (am_dB cX3_joinTrees) = true := by decide +kernel
theorem am_k51 : am_c51.all (am_dB cX3_joinTrees) = true := am_al am_k51_0 (am_al am_k51_1 (am_k51_2))
theorem am_k52_0 : am_c52_0.all (am_dB cX3_removeLog) = true := by decide +kernel
theorem am_k52_1 : am_c52_1.all (am_dB cX3_removeLog) = true := by decide +kernel
theorem am_k52 : am_c52.all (am_dB cX3_removeLog) = true := am_al am_k52_0 (am_k52_1)
theorem am_k53 : am_c53.all (am_dB cX3_unlink) = true := by decide +kernel
theorem am_k54 : am_c54.all (am_dB cX3_takeAway) = true := by decide +kernel
theorem am_k55 : am_c55.all (am_dB cX3_burnTop) = true := by decide +kernel
theorem am_k56 : am_c56.all (am_dB cX3_drawEmpty) = true := by decide +kernel
theorem am_k57_0 : am_c57_0.all (am_dB cX3_joinPiles) = true := by decide +kernel
theorem am_k57_1 : am_c57_1.all (am_dB cX3_joinPiles) = true := by decide +kernel
theorem am_k57 : am_c57.all (am_dB cX3_joinPiles) = true := am_al am_k57_0 (am_k57_1)
theorem am_k58 : am_c58.all (am_dB cX3_changeCover) = true := by decide +kernel
theorem am_k59_0 : am_c59_0.all (am_dB cX3_letWindBlow) = true := by decide +kernel
theorem am_k59_1 : am_c59_1.all (am_dB cX3_letWindBlow) = true := by decide +kernel
theorem am_k59 : am_c59.all (am_dB cX3_letWindBlow) = true := am_al am_k59_0 (am_k59_1)
theorem am_k60_0 : am_c60_0.all (am_dB cX3_letRainFall) = true := by decide +kernel
theorem am_k60_1 : am_c60_1.all (am_dB cX3_letRainFall) = true := by decide +kernel
theorem am_k60 : am_c60.all (am_dB cX3_letRainFall) = true := am_al am_k60_0 (am_k60_1)
theorem am_k61 : am_c61.all (am_dB cX3_mendPile) = true := by decide +kernel
theorem am_k62 : am_c62.all (am_dB cX3_passNights) = true := by decide +kernel
theorem am_k63 : am_c63.all (am_dB cX3_driestToDraw) = true := by decide +kernel
theorem am_k64_0 : am_c64_0.all (am_dB cX3_obey) = true := by decide +kernel
theorem am_k64_1 : am_c64_1.all (am_dB cX3_obey) = true := by decide +kernel
theorem am_k64 : am_c64.all (am_dB cX3_obey) = true := am_al am_k64_0 (am_k64_1)
theorem am_k65_0 : am_c65_0.all (am_dB cX3_canObey) = true := by decide +kernel
theorem am_k65_1 : am_c65_1.all (am_dB cX3_canObey) = true := by decide +kernel
theorem am_k65 : am_c65.all (am_dB cX3_canObey) = true := am_al am_k65_0 (am_k65_1)
theorem am_k66_0 : am_c66_0.all (am_dB cX4_init) = true := by decide +kernel
theorem am_k66_1 : am_c66_1.all (am_dB cX4_init) = true := by decide +kernel
theorem am_k66 : am_c66.all (am_dB cX4_init) = true := am_al am_k66_0 (am_k66_1)
theorem am_k67 : am_c67.all (am_dB cX4_append) = true := by decide +kernel
theorem am_k68 : am_c68.all (am_dB cX4_clearText) = true := by decide +kernel
theorem am_k69 : am_c69.all (am_dB cX4_errorPosition) = true := by decide +kernel
theorem am_k70_0 : am_c70_0.all (am_dB cX4_load) = true := by decide +kernel
theorem am_k70_1 : am_c70_1.all (am_dB cX4_load) = true := by decide +kernel
theorem am_k70 : am_c70.all (am_dB cX4_load) = true := am_al am_k70_0 (am_k70_1)
theorem am_k71_0 : am_c71_0.all (am_dB cX4_about) = true := by decide +kernel
theorem am_k71_1 : am_c71_1.all (am_dB cX4_about) = true := by decide +kernel
theorem am_k71 : am_c71.all (am_dB cX4_about) = true := am_al am_k71_0 (am_k71_1)
theorem am_k72_0 : am_c72_0.all (am_dB cX4_pileOf) = true := by decide +kernel
theorem am_k72_1 : am_c72_1.all (am_dB cX4_pileOf) = true := by decide +kernel
theorem am_k72 : am_c72.all (am_dB cX4_pileOf) = true := am_al am_k72_0 (am_k72_1)
theorem am_k73_0 : am_c73_0.all (am_dB cX4_logOf) = true := by decide +kernel
theorem am_k73_1 : am_c73_1.all (am_dB cX4_logOf) = true := by decide +kernel
theorem am_k73 : am_c73.all (am_dB cX4_logOf) = true := am_al am_k73_0 (am_k73_1)
theorem am_k74_0 : am_c74_0.all (am_dB cX4_ranked) = true := by decide +kernel
theorem am_k74_1 : am_c74_1.all (am_dB cX4_ranked) = true := by decide +kernel
theorem am_k74 : am_c74.all (am_dB cX4_ranked) = true := am_al am_k74_0 (am_k74_1)
theorem am_k75 : am_c75.all (am_dB cX4_pile) = true := by decide +kernel
theorem am_k76 : am_c76.all (am_dB cX4_log) = true := by decide +kernel
theorem am_k77 : am_c77.all (am_dB cX4_draw) = true := by decide +kernel
theorem am_k78 : am_c78.all (am_dB cX4_take) = true := by decide +kernel
theorem am_k79 : am_c79.all (am_dB cX4_join) = true := by decide +kernel
theorem am_k80 : am_c80.all (am_dB cX4_cover) = true := by decide +kernel
theorem am_k81 : am_c81.all (am_dB cX4_wind) = true := by decide +kernel
theorem am_k82 : am_c82.all (am_dB cX4_rain) = true := by decide +kernel
theorem am_k83 : am_c83.all (am_dB cX4_mend) = true := by decide +kernel
theorem am_k84 : am_c84.all (am_dB cX4_nights) = true := by decide +kernel
theorem am_k85 : am_c85.all (am_dB cX4_set) = true := by decide +kernel
theorem am_k86 : am_c86.all (am_dB cX4_undo) = true := by decide +kernel
theorem am_k87 : am_c87.all (am_dB cX4_drawsTill) = true := by decide +kernel
theorem am_k88 : am_c88.all (am_dB cX4_ifJoined) = true := by decide +kernel
theorem am_k89 : am_c89.all (am_dB cX4_fewestLifts) = true := by decide +kernel
theorem am_k90 : am_c90.all (am_dB cX4_ifMended) = true := by decide +kernel
theorem am_k91 : am_c91.all (am_dB cX4_harmless) = true := by decide +kernel
theorem am_k92_0 : am_c92_0.all (am_dB cX4_runScript) = true := by decide +kernel
theorem am_k92_1 : am_c92_1.all (am_dB cX4_runScript) = true := by decide +kernel
theorem am_k92 : am_c92.all (am_dB cX4_runScript) = true := am_al am_k92_0 (am_k92_1)
theorem am_k93_0 : am_c93_0.all (am_dB cX4_simulate) = true := by decide +kernel
theorem am_k93_1 : am_c93_1.all (am_dB cX4_simulate) = true := by decide +kernel
theorem am_k93 : am_c93.all (am_dB cX4_simulate) = true := am_al am_k93_0 (am_k93_1)
theorem am_k94 : am_c94.all (am_dB cX4_save) = true := by decide +kernel
theorem am_k95 : am_c95.all (am_dB cX4_restore) = true := by decide +kernel
theorem am_k96 : am_c96.all (am_dB cX4_needPile) = true := by decide +kernel
theorem am_k97 : am_c97.all (am_dB cX4_needTwoPiles) = true := by decide +kernel
theorem am_k98 : am_c98.all (am_dB cX4_needLog) = true := by decide +kernel
theorem am_k99 : am_c99.all (am_dB cX4_needDamp) = true := by decide +kernel
theorem am_k100 : am_c100.all (am_dB cX4_needWeather) = true := by decide +kernel
theorem am_k101 : am_c101.all (am_dB cX4_needSlot) = true := by decide +kernel
theorem am_k102 : am_c102.all (am_dB cX4_isDamp) = true := by decide +kernel
theorem am_k103 : am_c103.all (am_dB cX4_isWeather) = true := by decide +kernel
theorem am_k104 : am_c104.all (am_dB cX4_slotOf) = true := by decide +kernel
theorem am_k105 : am_c105.all (am_dB cX4_copyOfYard) = true := by decide +kernel
theorem am_k106_0 : am_c106_0.all (am_dB cX4_fewestFrom) = true := by decide +kernel
theorem am_k106_1 : am_c106_1.all (am_dB cX4_fewestFrom) = true := by decide +kernel
theorem am_k106 : am_c106.all (am_dB cX4_fewestFrom) = true := am_al am_k106_0 (am_k106_1)
theorem am_k107 : am_c107.all (am_dB cX4_withoutGroups) = true := by decide +kernel
theorem am_k108_0 : am_c108_0.all (am_dB cX4_doGroup) = true := by decide +kernel
theorem am_k108_1 : am_c108_1.all (am_dB cX4_doGroup) = true := by decide +kernel
theorem am_k108_2 : am_c108_2.all (am_dB cX4_doGroup) = true := by decide +kernel
theorem am_k108_3 : am_c108_3.all (am_dB cX4_doGroup) = true := by decide +kernel
theorem am_k108 : am_c108.all (am_dB cX4_doGroup) = true := am_al am_k108_0 (am_al am_k108_1 (am_al am_k108_2 (am_k108_3)))
theorem am_k109 : am_c109.all (am_dB cX4_letterOfTurn) = true := by decide +kernel
theorem am_k110 : am_c110.all (am_dB cX4_firstOfTurn) = true := by decide +kernel
theorem am_k111 : am_c111.all (am_dB cX4_secondOfTurn) = true := by decide +kernel
theorem am_k112 : am_c112.all (am_dB cX4_get) = true := by decide +kernel
theorem am_k113 : am_c113.all (am_dB cX4_put) = true := by decide +kernel
theorem am_k114 : am_c114.all (am_dB cX4_fill) = true := by decide +kernel
theorem am_k115 : am_c115.all (am_dB cX4_copyRow) = true := by decide +kernel
theorem am_k116 : am_c116.all (am_dB cX4_yardAt) = true := by decide +kernel
theorem am_k117 : am_c117.all (am_dB cX5_init) = true := by decide +kernel
theorem am_k118 : am_c118.all (am_dB cX5_thrown) = true := by decide +kernel
theorem am_k119 : am_c119.all (am_dB cX5_refused) = true := by decide +kernel
theorem am_k120 : am_c120.all (am_dB cX5_in) = true := by decide +kernel
theorem am_k121 : am_c121.all (am_dB cX5_copyState) = true := by decide +kernel
theorem am_k122 : am_c122.all (am_dB cX5_clear) = true := by decide +kernel
theorem am_k123 : am_c123.all (am_dB cX5_of) = true := by decide +kernel
theorem am_k124 : am_c124.all (am_dB cX5_lay) = true := by decide +kernel
theorem am_k125 : am_c125.all (am_dB cX5_top) = true := by decide +kernel
theorem am_k126 : am_c126.all (am_dB cX5_isCovered) = true := by decide +kernel
theorem am_k127 : am_c127.all (am_dB cX5_isPile) = true := by decide +kernel
theorem am_k128 : am_c128.all (am_dB cX5_isLog) = true := by decide +kernel
theorem am_k129 : am_c129.all (am_dB cX5_isAhead) = true := by decide +kernel
theorem am_k130 : am_c130.all (am_dB cX5_isOff) = true := by decide +kernel
theorem am_k131 : am_c131.all (am_dB cX5_depth) = true := by decide +kernel
theorem am_k132 : am_c132.all (am_dB cX5_isUnder) = true := by decide +kernel
theorem am_k133 : am_c133.all (am_dB cX5_lies) = true := by decide +kernel
theorem am_k134 : am_c134.all (am_dB cX5_logsIn) = true := by decide +kernel
theorem am_k135 : am_c135.all (am_dB cX5_offIn) = true := by decide +kernel
theorem am_k136 : am_c136.all (am_dB cX5_dampIn) = true := by decide +kernel
theorem am_k137 : am_c137.all (am_dB cX5_allOff) = true := by decide +kernel
theorem am_k138 : am_c138.all (am_dB cX5_allDamp) = true := by decide +kernel
theorem am_k139 : am_c139.all (am_dB cX5_allLogs) = true := by decide +kernel
theorem am_k140 : am_c140.all (am_dB cX5_hang) = true := by decide +kernel
theorem am_k141_0 : am_c141_0.all (am_dB cX5_joined) = true := by decide +kernel
theorem am_k141_1 : am_c141_1.all (am_dB cX5_joined) = true := by decide +kernel
theorem am_k141_2 : am_c141_2.all (am_dB cX5_joined) = true := by decide +kernel
theorem am_k141 : am_c141.all (am_dB cX5_joined) = true := am_al am_k141_0 (am_al am_k141_1 (am_k141_2))
theorem am_k142 : am_c142.all (am_dB cX5_comesInto) = true := by decide +kernel
theorem am_k143_0 : am_c143_0.all (am_dB cX5_goesOut) = true := by decide +kernel
theorem am_k143_1 : am_c143_1.all (am_dB cX5_goesOut) = true := by decide +kernel
theorem am_k143 : am_c143.all (am_dB cX5_goesOut) = true := am_al am_k143_0 (am_k143_1)
theorem am_k144 : am_c144.all (am_dB cX5_pileOn) = true := by decide +kernel
theorem am_k145 : am_c145.all (am_dB cX5_logOn) = true := by decide +kernel
theorem am_k146 : am_c146.all (am_dB cX5_reason) = true := by decide +kernel
theorem am_k147_0 : am_c147_0.all (am_dB cX5_burn) = true := by decide +kernel
theorem am_k147_1 : am_c147_1.all (am_dB cX5_burn) = true := by decide +kernel
theorem am_k147 : am_c147.all (am_dB cX5_burn) = true := am_al am_k147_0 (am_k147_1)
theorem am_k148 : am_c148.all (am_dB cX5_drawOn) = true := by decide +kernel
theorem am_k149 : am_c149.all (am_dB cX5_takeOn) = true := by decide +kernel
theorem am_k150_0 : am_c150_0.all (am_dB cX5_joinOn) = true := by decide +kernel
theorem am_k150_1 : am_c150_1.all (am_dB cX5_joinOn) = true := by decide +kernel
theorem am_k150 : am_c150.all (am_dB cX5_joinOn) = true := am_al am_k150_0 (am_k150_1)
theorem am_k151 : am_c151.all (am_dB cX5_coverOn) = true := by decide +kernel
theorem am_k152_0 : am_c152_0.all (am_dB cX5_windOn) = true := by decide +kernel
theorem am_k152_1 : am_c152_1.all (am_dB cX5_windOn) = true := by decide +kernel
theorem am_k152 : am_c152.all (am_dB cX5_windOn) = true := am_al am_k152_0 (am_k152_1)
theorem am_k153_0 : am_c153_0.all (am_dB cX5_rainOn) = true := by decide +kernel
theorem am_k153_1 : am_c153_1.all (am_dB cX5_rainOn) = true := by decide +kernel
theorem am_k153 : am_c153.all (am_dB cX5_rainOn) = true := am_al am_k153_0 (am_k153_1)
theorem am_k154 : am_c154.all (am_dB cX5_mendOn) = true := by decide +kernel
theorem am_k155_0 : am_c155_0.all (am_dB cX5_nightsOn) = true := by decide +kernel
theorem am_k155_1 : am_c155_1.all (am_dB cX5_nightsOn) = true := by decide +kernel
theorem am_k155 : am_c155.all (am_dB cX5_nightsOn) = true := am_al am_k155_0 (am_k155_1)
theorem am_k156 : am_c156.all (am_dB cX5_append) = true := by decide +kernel
theorem am_k157 : am_c157.all (am_dB cX5_clearText) = true := by decide +kernel
theorem am_k158_0 : am_c158_0.all (am_dB cX5_figures) = true := by decide +kernel
theorem am_k158_1 : am_c158_1.all (am_dB cX5_figures) = true := by decide +kernel
theorem am_k158 : am_c158.all (am_dB cX5_figures) = true := am_al am_k158_0 (am_k158_1)
theorem am_k159 : am_c159.all (am_dB cX5_done) = true := by decide +kernel
theorem am_k160 : am_c160.all (am_dB cX5_pileSign) = true := by decide +kernel
theorem am_k161_0 : am_c161_0.all (am_dB cX5_readCover) = true := by decide +kernel
theorem am_k161_1 : am_c161_1.all (am_dB cX5_readCover) = true := by decide +kernel
theorem am_k161 : am_c161.all (am_dB cX5_readCover) = true := am_al am_k161_0 (am_k161_1)
theorem am_k162_0 : am_c162_0.all (am_dB cX5_readPiles) = true := by decide +kernel
theorem am_k162_1 : am_c162_1.all (am_dB cX5_readPiles) = true := by decide +kernel
theorem am_k162_2 : am_c162_2.all (am_dB cX5_readPiles) = true := by decide +kernel
theorem am_k162 : am_c162.all (am_dB cX5_readPiles) = true := am_al am_k162_0 (am_al am_k162_1 (am_k162_2))
theorem am_k163_0 : am_c163_0.all (am_dB cX5_readCommand) = true := by decide +kernel
theorem am_k163_1 : am_c163_1.all (am_dB cX5_readCommand) = true := by decide +kernel
theorem am_k163_2 : am_c163_2.all (am_dB cX5_readCommand) = true := by decide +kernel
theorem am_k163_3 : am_c163_3.all (am_dB cX5_readCommand) = true := by decide +kernel
theorem am_k163 : am_c163.all (am_dB cX5_readCommand) = true := am_al am_k163_0 (am_al am_k163_1 (am_al am_k163_2 (am_k163_3)))
theorem am_k164 : am_c164.all (am_dB cX5_readText) = true := by decide +kernel
theorem am_k165 : am_c165.all (am_dB cX5_errorPosition) = true := by decide +kernel
theorem am_k166 : am_c166.all (am_dB cX5_load) = true := by decide +kernel
theorem am_k167_0 : am_c167_0.all (am_dB cX5_about) = true := by decide +kernel
theorem am_k167_1 : am_c167_1.all (am_dB cX5_about) = true := by decide +kernel
theorem am_k167 : am_c167.all (am_dB cX5_about) = true := am_al am_k167_0 (am_k167_1)
theorem am_k168 : am_c168.all (am_dB cX5_greatestDepth) = true := by decide +kernel
theorem am_k169_0 : am_c169_0.all (am_dB cX5_pileOf) = true := by decide +kernel
theorem am_k169_1 : am_c169_1.all (am_dB cX5_pileOf) = true := by decide +kernel
theorem am_k169 : am_c169.all (am_dB cX5_pileOf) = true := am_al am_k169_0 (am_k169_1)
theorem am_k170_0 : am_c170_0.all (am_dB cX5_logOf) = true := by decide +kernel
theorem am_k170_1 : am_c170_1.all (am_dB cX5_logOf) = true := by decide +kernel
theorem am_k170 : am_c170.all (am_dB cX5_logOf) = true := am_al am_k170_0 (am_k170_1)
theorem am_k171_0 : am_c171_0.all (am_dB cX5_rankedIn) = true := by decide +kernel
theorem am_k171_1 : am_c171_1.all (am_dB cX5_rankedIn) = true := by decide +kernel
theorem am_k171 : am_c171.all (am_dB cX5_rankedIn) = true := am_al am_k171_0 (am_k171_1)
theorem am_k172_0 : am_c172_0.all (am_dB cX5_ranked) = true := by decide +kernel
theorem am_k172_1 : am_c172_1.all (am_dB cX5_ranked) = true := by decide +kernel
theorem am_k172 : am_c172.all (am_dB cX5_ranked) = true := am_al am_k172_0 (am_k172_1)
theorem am_k173_0 : am_c173_0.all (am_dB cX5_remember) = true := by decide +kernel
theorem am_k173_1 : am_c173_1.all (am_dB cX5_remember) = true := by decide +kernel
theorem am_k173 : am_c173.all (am_dB cX5_remember) = true := am_al am_k173_0 (am_k173_1)
theorem am_k174 : am_c174.all (am_dB cX5_pile) = true := by decide +kernel
theorem am_k175 : am_c175.all (am_dB cX5_log) = true := by decide +kernel
theorem am_k176 : am_c176.all (am_dB cX5_draw) = true := by decide +kernel
theorem am_k177 : am_c177.all (am_dB cX5_take) = true := by decide +kernel
theorem am_k178 : am_c178.all (am_dB cX5_join) = true := by decide +kernel
theorem am_k179 : am_c179.all (am_dB cX5_cover) = true := by decide +kernel
theorem am_k180 : am_c180.all (am_dB cX5_wind) = true := by decide +kernel
theorem am_k181 : am_c181.all (am_dB cX5_rain) = true := by decide +kernel
theorem am_k182 : am_c182.all (am_dB cX5_mend) = true := by decide +kernel
theorem am_k183 : am_c183.all (am_dB cX5_nights) = true := by decide +kernel
theorem am_k184 : am_c184.all (am_dB cX5_set) = true := by decide +kernel
theorem am_k185 : am_c185.all (am_dB cX5_undo) = true := by decide +kernel
theorem am_k186_0 : am_c186_0.all (am_dB cX5_drawsTill) = true := by decide +kernel
theorem am_k186_1 : am_c186_1.all (am_dB cX5_drawsTill) = true := by decide +kernel
theorem am_k186 : am_c186.all (am_dB cX5_drawsTill) = true := am_al am_k186_0 (am_k186_1)
theorem am_k187 : am_c187.all (am_dB cX5_ifJoined) = true := by decide +kernel
theorem am_k188 : am_c188.all (am_dB cX5_lesser) = true := by decide +kernel
theorem am_k189_0 : am_c189_0.all (am_dB cX5_lastLifts) = true := by decide +kernel
theorem am_k189_1 : am_c189_1.all (am_dB cX5_lastLifts) = true := by decide +kernel
theorem am_k189_2 : am_c189_2.all (am_dB cX5_lastLifts) = true := by decide +kernel
theorem am_k189 : am_c189.all (am_dB cX5_lastLifts) = true := am_al am_k189_0 (am_al am_k189_1 (am_k189_2))
theorem am_k190_0 : am_c190_0.all (am_dB cX5_fewestLifts) = true := by decide +kernel
theorem am_k190_1 : am_c190_1.all (am_dB cX5_fewestLifts) = true := by decide +kernel
theorem am_k190 : am_c190.all (am_dB cX5_fewestLifts) = true := am_al am_k190_0 (am_k190_1)
theorem am_k191_0 : am_c191_0.all (am_dB cX5_ifMended) = true := by decide +kernel
theorem am_k191_1 : am_c191_1.all (am_dB cX5_ifMended) = true := by decide +kernel
theorem am_k191 : am_c191.all (am_dB cX5_ifMended) = true := am_al am_k191_0 (am_k191_1)
theorem am_k192 : am_c192.all (am_dB cX5_harmless) = true := by decide +kernel
theorem am_k193_0 : am_c193_0.all (am_dB cX5_command) = true := by decide +kernel
theorem am_k193_1 : am_c193_1.all (am_dB cX5_command) = true := by decide +kernel
theorem am_k193_2 : am_c193_2.all (am_dB cX5_command) = true := by decide +kernel
theorem am_k193_3 : am_c193_3.all (am_dB cX5_command) = true := by decide +kernel
theorem am_k193_4 : am_c193_4.all (am_dB cX5_command) = true := by decide +kernel
theorem am_k193_5 : am_c193_5.all (am_dB cX5_command) = true := by decide +kernel
theorem am_k193 : am_c193.all (am_dB cX5_command) = true := am_al am_k193_0 (am_al am_k193_1 (am_al am_k193_2 (am_al am_k193_3 (am_al am_k193_4 (am_k193_5)))))
theorem am_k194_0 : am_c194_0.all (am_dB cX5_runScript) = true := by decide +kernel
theorem am_k194_1 : am_c194_1.all (am_dB cX5_runScript) = true := by decide +kernel
theorem am_k194 : am_c194.all (am_dB cX5_runScript) = true := am_al am_k194_0 (am_k194_1)
theorem am_k195_0 : am_c195_0.all (am_dB cX5_turnPile) = true := by decide +kernel
theorem am_k195_1 : am_c195_1.all (am_dB cX5_turnPile) = true := by decide +kernel
theorem am_k195_2 : am_c195_2.all (am_dB cX5_turnPile) = true := by decide +kernel
theorem am_k195 : am_c195.all (am_dB cX5_turnPile) = true := am_al am_k195_0 (am_al am_k195_1 (am_k195_2))
theorem am_k196_0 : am_c196_0.all (am_dB cX5_turnOf) = true := by decide +kernel
theorem am_k196_1 : am_c196_1.all (am_dB cX5_turnOf) = true := by decide +kernel
theorem am_k196 : am_c196.all (am_dB cX5_turnOf) = true := am_al am_k196_0 (am_k196_1)
theorem am_k197_0 : am_c197_0.all (am_dB cX5_simulate) = true := by decide +kernel
theorem am_k197_1 : am_c197_1.all (am_dB cX5_simulate) = true := by decide +kernel
theorem am_k197 : am_c197.all (am_dB cX5_simulate) = true := am_al am_k197_0 (am_k197_1)
theorem am_k198 : am_c198.all (am_dB cX5_save) = true := by decide +kernel
theorem am_k199 : am_c199.all (am_dB cX5_restore) = true := by decide +kernel
theorem am_k200 : am_c200.all (am_dB cL_append) = true := by decide +kernel
theorem am_k201 : am_c201.all (am_dB cL_load) = true := by decide +kernel
theorem am_k202 : am_c202.all (am_dB cL_about) = true := by decide +kernel
theorem am_k203 : am_c203.all (am_dB cL_pileOf) = true := by decide +kernel
theorem am_k204 : am_c204.all (am_dB cL_logOf) = true := by decide +kernel
theorem am_k205 : am_c205.all (am_dB cL_ranked) = true := by decide +kernel
theorem am_k206 : am_c206.all (am_dB cL_pile) = true := by decide +kernel
theorem am_k207 : am_c207.all (am_dB cL_log) = true := by decide +kernel
theorem am_k208 : am_c208.all (am_dB cL_draw) = true := by decide +kernel
theorem am_k209 : am_c209.all (am_dB cL_take) = true := by decide +kernel
theorem am_k210 : am_c210.all (am_dB cL_join) = true := by decide +kernel
theorem am_k211 : am_c211.all (am_dB cL_cover) = true := by decide +kernel
theorem am_k212 : am_c212.all (am_dB cL_wind) = true := by decide +kernel
theorem am_k213 : am_c213.all (am_dB cL_rain) = true := by decide +kernel
theorem am_k214 : am_c214.all (am_dB cL_mend) = true := by decide +kernel
theorem am_k215 : am_c215.all (am_dB cL_nights) = true := by decide +kernel
theorem am_k216 : am_c216.all (am_dB cL_set) = true := by decide +kernel
theorem am_k217 : am_c217.all (am_dB cL_undo) = true := by decide +kernel
theorem am_k218 : am_c218.all (am_dB cL_drawsTill) = true := by decide +kernel
theorem am_k219 : am_c219.all (am_dB cL_ifJoined) = true := by decide +kernel
theorem am_k220 : am_c220.all (am_dB cL_ifMended) = true := by decide +kernel
theorem am_k221 : am_c221.all (am_dB cL_runScript) = true := by decide +kernel
theorem am_k222 : am_c222.all (am_dB cL_simulate) = true := by decide +kernel
theorem am_k223 : am_c223.all (am_dB cL_save) = true := by decide +kernel
theorem am_k224 : am_c224.all (am_dB cL_restore) = true := by decide +kernel
theorem am_k225_0 : am_c225_0.all (am_dB code) = true := by decide +kernel
theorem am_k225_1 : am_c225_1.all (am_dB code) = true := by decide +kernel
theorem am_k225_2 : am_c225_2.all (am_dB code) = true := by decide +kernel
theorem am_k225_3 : am_c225_3.all (am_dB code) = true := by decide +kernel
theorem am_k225_4 : am_c225_4.all (am_dB code) = true := by decide +kernel
theorem am_k225_5 : am_c225_5.all (am_dB code) = true := by decide +kernel
theorem am_k225_6 : am_c225_6.all (am_dB code) = true := by decide +kernel
theorem am_k225_7 : am_c225_7.all (am_dB code) = true := by decide +kernel
theorem am_k225_8 : am_c225_8.all (am_dB code) = true := by decide +kernel
theorem am_k225_9 : am_c225_9.all (am_dB code) = true := by decide +kernel
theorem am_k225_10 : am_c225_10.all (am_dB code) = true := by decide +kernel
theorem am_k225_11 : am_c225_11.all (am_dB code) = true := by decide +kernel
theorem am_k225_12 : am_c225_12.all (am_dB code) = true := by decide +kernel
theorem am_k225_13 : am_c225_13.all (am_dB code) = true := by decide +kernel
theorem am_k225_14 : am_c225_14.all (am_dB code) = true := by decide +kernel
theorem am_k225_15 : am_c225_15.all (am_dB code) = true := by decide +kernel
theorem am_k225_16 : am_c225_16.all (am_dB code) = true := by decide +kernel
theorem am_k225_17 : am_c225_17.all (am_dB code) = true := by decide +kernel
theorem am_k225_18 : am_c225_18.all (am_dB code) = true := by decide +kernel
theorem am_k225_19 : am_c225_19.all (am_dB code) = true := by decide +kernel
theorem am_k225_20 : am_c225_20.all (am_dB code) = true := by decide +kernel
theorem am_k225_21 : am_c225_21.all (am_dB code) = true := by decide +kernel
theorem am_k225_22 : am_c225_22.all (am_dB code) = true := by decide +kernel
theorem am_k225_23 : am_c225_23.all (am_dB code) = true := by decide +kernel
theorem am_k225_24 : am_c225_24.all (am_dB code) = true := by decide +kernel
theorem am_k225_25 : am_c225_25.all (am_dB code) = true := by decide +kernel
theorem am_k225_26 : am_c225_26.all (am_dB code) = true := by decide +kernel
theorem am_k225 : am_c225.all (am_dB code) = true := am_al am_k225_0 (am_al am_k225_1 (am_al am_k225_2 (am_al am_k225_3 (am_al am_k225_4 (am_al am_k225_5 (am_al am_k225_6 (am_al am_k225_7 (am_al am_k225_8 (am_al am_k225_9 (am_al am_k225_10 (am_al am_k225_11 (am_al am_k225_12 (am_al am_k225_13 (am_al am_k225_14 (am_al am_k225_15 (am_al am_k225_16 (am_al am_k225_17 (am_al am_k225_18 (am_al am_k225_19 (am_al am_k225_20 (am_al am_k225_21 (am_al am_k225_22 (am_al am_k225_23 (am_al am_k225_24 (am_al am_k225_25 (am_k225_26))))))))))))))))))))))))))
def am_dP (k : Nat) : Prop := (am_code k).all (am_dB (am_mt k).2.2.2.1) = true
theorem am_ka0 : ∀ k, k < 0 → am_dP k := fun k h => absurd h (Nat.not_lt_zero k)
theorem am_ka1 : ∀ k, k < 1 → am_dP k := am_fs am_ka0 am_k0
theorem am_ka2 : ∀ k, k < 2 → am_dP k := am_fs am_ka1 am_k1
theorem am_ka3 : ∀ k, k < 3 → am_dP k := am_fs am_ka2 am_k2
theorem am_ka4 : ∀ k, k < 4 → am_dP k := am_fs am_ka3 am_k3
theorem am_ka5 : ∀ k, k < 5 → am_dP k := am_fs am_ka4 am_k4
theorem am_ka6 : ∀ k, k < 6 → am_dP k := am_fs am_ka5 am_k5
theorem am_ka7 : ∀ k, k < 7 → am_dP k := am_fs am_ka6 am_k6
theorem am_ka8 : ∀ k, k < 8 → am_dP k := am_fs am_ka7 am_k7
theorem am_ka9 : ∀ k, k < 9 → am_dP k := am_fs am_ka8 am_k8
theorem am_ka10 : ∀ k, k < 10 → am_dP k := am_fs am_ka9 am_k9
theorem am_ka11 : ∀ k, k < 11 → am_dP k := am_fs am_ka10 am_k10
theorem am_ka12 : ∀ k, k < 12 → am_dP k := am_fs am_ka11 am_k11
theorem am_ka13 : ∀ k, k < 13 → am_dP k := am_fs am_ka12 am_k12
theorem am_ka14 : ∀ k, k < 14 → am_dP k := am_fs am_ka13 am_k13
theorem am_ka15 : ∀ k, k < 15 → am_dP k := am_fs am_ka14 am_k14
theorem am_ka16 : ∀ k, k < 16 → am_dP k := am_fs am_ka15 am_k15
theorem am_ka17 : ∀ k, k < 17 → am_dP k := am_fs am_ka16 am_k16
theorem am_ka18 : ∀ k, k < 18 → am_dP k := am_fs am_ka17 am_k17
theorem am_ka19 : ∀ k, k < 19 → am_dP k := am_fs am_ka18 am_k18
theorem am_ka20 : ∀ k, k < 20 → am_dP k := am_fs am_ka19 am_k19
theorem am_ka21 : ∀ k, k < 21 → am_dP k := am_fs am_ka20 am_k20
theorem am_ka22 : ∀ k, k < 22 → am_dP k := am_fs am_ka21 am_k21
theorem am_ka23 : ∀ k, k < 23 → am_dP k := am_fs am_ka22 am_k22
theorem am_ka24 : ∀ k, k < 24 → am_dP k := am_fs am_ka23 am_k23
theorem am_ka25 : ∀ k, k < 25 → am_dP k := am_fs am_ka24 am_k24
theorem am_ka26 : ∀ k, k < 26 → am_dP k := am_fs am_ka25 am_k25
theorem am_ka27 : ∀ k, k < 27 → am_dP k := am_fs am_ka26 am_k26
theorem am_ka28 : ∀ k, k < 28 → am_dP k := am_fs am_ka27 am_k27
theorem am_ka29 : ∀ k, k < 29 → am_dP k := am_fs am_ka28 am_k28
theorem am_ka30 : ∀ k, k < 30 → am_dP k := am_fs am_ka29 am_k29
theorem am_ka31 : ∀ k, k < 31 → am_dP k := am_fs am_ka30 am_k30
theorem am_ka32 : ∀ k, k < 32 → am_dP k := am_fs am_ka31 am_k31
theorem am_ka33 : ∀ k, k < 33 → am_dP k := am_fs am_ka32 am_k32
theorem am_ka34 : ∀ k, k < 34 → am_dP k := am_fs am_ka33 am_k33
theorem am_ka35 : ∀ k, k < 35 → am_dP k := am_fs am_ka34 am_k34
theorem am_ka36 : ∀ k, k < 36 → am_dP k := am_fs am_ka35 am_k35
theorem am_ka37 : ∀ k, k < 37 → am_dP k := am_fs am_ka36 am_k36
theorem am_ka38 : ∀ k, k < 38 → am_dP k := am_fs am_ka37 am_k37
theorem am_ka39 : ∀ k, k < 39 → am_dP k := am_fs am_ka38 am_k38
theorem am_ka40 : ∀ k, k < 40 → am_dP k := am_fs am_ka39 am_k39
theorem am_ka41 : ∀ k, k < 41 → am_dP k := am_fs am_ka40 am_k40
theorem am_ka42 : ∀ k, k < 42 → am_dP k := am_fs am_ka41 am_k41
theorem am_ka43 : ∀ k, k < 43 → am_dP k := am_fs am_ka42 am_k42
theorem am_ka44 : ∀ k, k < 44 → am_dP k := am_fs am_ka43 am_k43
theorem am_ka45 : ∀ k, k < 45 → am_dP k := am_fs am_ka44 am_k44
theorem am_ka46 : ∀ k, k < 46 → am_dP k := am_fs am_ka45 am_k45
theorem am_ka47 : ∀ k, k < 47 → am_dP k := am_fs am_ka46 am_k46
theorem am_ka48 : ∀ k, k < 48 → am_dP k := am_fs am_ka47 am_k47
theorem am_ka49 : ∀ k, k < 49 → am_dP k := am_fs am_ka48 am_k48
theorem am_ka50 : ∀ k, k < 50 → am_dP k := am_fs am_ka49 am_k49
theorem am_ka51 : ∀ k, k < 51 → am_dP k := am_fs am_ka50 am_k50
theorem am_ka52 : ∀ k, k < 52 → am_dP k := am_fs am_ka51 am_k51
theorem am_ka53 : ∀ k, k < 53 → am_dP k := am_fs am_ka52 am_k52
theorem am_ka54 : ∀ k, k < 54 → am_dP k := am_fs am_ka53 am_k53
theorem am_ka55 : ∀ k, k < 55 → am_dP k := am_fs am_ka54 am_k54
theorem am_ka56 : ∀ k, k < 56 → am_dP k := am_fs am_ka55 am_k55
theorem am_ka57 : ∀ k, k < 57 → am_dP k := am_fs am_ka56 am_k56
theorem am_ka58 : ∀ k, k < 58 → am_dP k := am_fs am_ka57 am_k57
theorem am_ka59 : ∀ k, k < 59 → am_dP k := am_fs am_ka58 am_k58
theorem am_ka60 : ∀ k, k < 60 → am_dP k := am_fs am_ka59 am_k59
theorem am_ka61 : ∀ k, k < 61 → am_dP k := am_fs am_ka60 am_k60
theorem am_ka62 : ∀ k, k < 62 → am_dP k := am_fs am_ka61 am_k61
theorem am_ka63 : ∀ k, k < 63 → am_dP k := am_fs am_ka62 am_k62
theorem am_ka64 : ∀ k, k < 64 → am_dP k := am_fs am_ka63 am_k63
theorem am_ka65 : ∀ k, k < 65 → am_dP k := am_fs am_ka64 am_k64
theorem am_ka66 : ∀ k, k < 66 → am_dP k := am_fs am_ka65 am_k65
theorem am_ka67 : ∀ k, k < 67 → am_dP k := am_fs am_ka66 am_k66
theorem am_ka68 : ∀ k, k < 68 → am_dP k := am_fs am_ka67 am_k67
theorem am_ka69 : ∀ k, k < 69 → am_dP k := am_fs am_ka68 am_k68
theorem am_ka70 : ∀ k, k < 70 → am_dP k := am_fs am_ka69 am_k69
theorem am_ka71 : ∀ k, k < 71 → am_dP k := am_fs am_ka70 am_k70
theorem am_ka72 : ∀ k, k < 72 → am_dP k := am_fs am_ka71 am_k71
theorem am_ka73 : ∀ k, k < 73 → am_dP k := am_fs am_ka72 am_k72
theorem am_ka74 : ∀ k, k < 74 → am_dP k := am_fs am_ka73 am_k73
theorem am_ka75 : ∀ k, k < 75 → am_dP k := am_fs am_ka74 am_k74
theorem am_ka76 : ∀ k, k < 76 → am_dP k := am_fs am_ka75 am_k75
theorem am_ka77 : ∀ k, k < 77 → am_dP k := am_fs am_ka76 am_k76
theorem am_ka78 : ∀ k, k < 78 → am_dP k := am_fs am_ka77 am_k77
theorem am_ka79 : ∀ k, k < 79 → am_dP k := am_fs am_ka78 am_k78
theorem am_ka80 : ∀ k, k < 80 → am_dP k := am_fs am_ka79 am_k79
theorem am_ka81 : ∀ k, k < 81 → am_dP k := am_fs am_ka80 am_k80
theorem am_ka82 : ∀ k, k < 82 → am_dP k := am_fs am_ka81 am_k81
theorem am_ka83 : ∀ k, k < 83 → am_dP k := am_fs am_ka82 am_k82
theorem am_ka84 : ∀ k, k < 84 → am_dP k := am_fs am_ka83 am_k83
theorem am_ka85 : ∀ k, k < 85 → am_dP k := am_fs am_ka84 am_k84
theorem am_ka86 : ∀ k, k < 86 → am_dP k := am_fs am_ka85 am_k85
theorem am_ka87 : ∀ k, k < 87 → am_dP k := am_fs am_ka86 am_k86
theorem am_ka88 : ∀ k, k < 88 → am_dP k := am_fs am_ka87 am_k87
theorem am_ka89 : ∀ k, k < 89 → am_dP k := am_fs am_ka88 am_k88
theorem am_ka90 : ∀ k, k < 90 → am_dP k := am_fs am_ka89 am_k89
theorem am_ka91 : ∀ k, k < 91 → am_dP k := am_fs am_ka90 am_k90
theorem am_ka92 : ∀ k, k < 92 → am_dP k := am_fs am_ka91 am_k91
theorem am_ka93 : ∀ k, k < 93 → am_dP k := am_fs am_ka92 am_k92
theorem am_ka94 : ∀ k, k < 94 → am_dP k := am_fs am_ka93 am_k93
theorem am_ka95 : ∀ k, k < 95 → am_dP k := am_fs am_ka94 am_k94
theorem am_ka96 : ∀ k, k < 96 → am_dP k := am_fs am_ka95 am_k95
theorem am_ka97 : ∀ k, k < 97 → am_dP k := am_fs am_ka96 am_k96
theorem am_ka98 : ∀ k, k < 98 → am_dP k := am_fs am_ka97 am_k97
theorem am_ka99 : ∀ k, k < 99 → am_dP k := am_fs am_ka98 am_k98
theorem am_ka100 : ∀ k, k < 100 → am_dP k := am_fs am_ka99 am_k99
theorem am_ka101 : ∀ k, k < 101 → am_dP k := am_fs am_ka100 am_k100
theorem am_ka102 : ∀ k, k < 102 → am_dP k := am_fs am_ka101 am_k101
theorem am_ka103 : ∀ k, k < 103 → am_dP k := am_fs am_ka102 am_k102
theorem am_ka104 : ∀ k, k < 104 → am_dP k := am_fs am_ka103 am_k103
theorem am_ka105 : ∀ k, k < 105 → am_dP k := am_fs am_ka104 am_k104
theorem am_ka106 : ∀ k, k < 106 → am_dP k := am_fs am_ka105 am_k105
theorem am_ka107 : ∀ k, k < 107 → am_dP k := am_fs am_ka106 am_k106
theorem am_ka108 : ∀ k, k < 108 → am_dP k := am_fs am_ka107 am_k107
theorem am_ka109 : ∀ k, k < 109 → am_dP k := am_fs am_ka108 am_k108
theorem am_ka110 : ∀ k, k < 110 → am_dP k := am_fs am_ka109 am_k109
theorem am_ka111 : ∀ k, k < 111 → am_dP k := am_fs am_ka110 am_k110
theorem am_ka112 : ∀ k, k < 112 → am_dP k := am_fs am_ka111 am_k111
theorem am_ka113 : ∀ k, k < 113 → am_dP k := am_fs am_ka112 am_k112
theorem am_ka114 : ∀ k, k < 114 → am_dP k := am_fs am_ka113 am_k113
theorem am_ka115 : ∀ k, k < 115 → am_dP k := am_fs am_ka114 am_k114
theorem am_ka116 : ∀ k, k < 116 → am_dP k := am_fs am_ka115 am_k115
theorem am_ka117 : ∀ k, k < 117 → am_dP k := am_fs am_ka116 am_k116
theorem am_ka118 : ∀ k, k < 118 → am_dP k := am_fs am_ka117 am_k117
theorem am_ka119 : ∀ k, k < 119 → am_dP k := am_fs am_ka118 am_k118
theorem am_ka120 : ∀ k, k < 120 → am_dP k := am_fs am_ka119 am_k119
theorem am_ka121 : ∀ k, k < 121 → am_dP k := am_fs am_ka120 am_k120
theorem am_ka122 : ∀ k, k < 122 → am_dP k := am_fs am_ka121 am_k121
theorem am_ka123 : ∀ k, k < 123 → am_dP k := am_fs am_ka122 am_k122
theorem am_ka124 : ∀ k, k < 124 → am_dP k := am_fs am_ka123 am_k123
theorem am_ka125 : ∀ k, k < 125 → am_dP k := am_fs am_ka124 am_k124
theorem am_ka126 : ∀ k, k < 126 → am_dP k := am_fs am_ka125 am_k125
theorem am_ka127 : ∀ k, k < 127 → am_dP k := am_fs am_ka126 am_k126
theorem am_ka128 : ∀ k, k < 128 → am_dP k := am_fs am_ka127 am_k127
theorem am_ka129 : ∀ k, k < 129 → am_dP k := am_fs am_ka128 am_k128
theorem am_ka130 : ∀ k, k < 130 → am_dP k := am_fs am_ka129 am_k129
theorem am_ka131 : ∀ k, k < 131 → am_dP k := am_fs am_ka130 am_k130
theorem am_ka132 : ∀ k, k < 132 → am_dP k := am_fs am_ka131 am_k131
theorem am_ka133 : ∀ k, k < 133 → am_dP k := am_fs am_ka132 am_k132
theorem am_ka134 : ∀ k, k < 134 → am_dP k := am_fs am_ka133 am_k133
theorem am_ka135 : ∀ k, k < 135 → am_dP k := am_fs am_ka134 am_k134
theorem am_ka136 : ∀ k, k < 136 → am_dP k := am_fs am_ka135 am_k135
theorem am_ka137 : ∀ k, k < 137 → am_dP k := am_fs am_ka136 am_k136
theorem am_ka138 : ∀ k, k < 138 → am_dP k := am_fs am_ka137 am_k137
theorem am_ka139 : ∀ k, k < 139 → am_dP k := am_fs am_ka138 am_k138
theorem am_ka140 : ∀ k, k < 140 → am_dP k := am_fs am_ka139 am_k139
theorem am_ka141 : ∀ k, k < 141 → am_dP k := am_fs am_ka140 am_k140
theorem am_ka142 : ∀ k, k < 142 → am_dP k := am_fs am_ka141 am_k141
theorem am_ka143 : ∀ k, k < 143 → am_dP k := am_fs am_ka142 am_k142
theorem am_ka144 : ∀ k, k < 144 → am_dP k := am_fs am_ka143 am_k143
theorem am_ka145 : ∀ k, k < 145 → am_dP k := am_fs am_ka144 am_k144
theorem am_ka146 : ∀ k, k < 146 → am_dP k := am_fs am_ka145 am_k145
theorem am_ka147 : ∀ k, k < 147 → am_dP k := am_fs am_ka146 am_k146
theorem am_ka148 : ∀ k, k < 148 → am_dP k := am_fs am_ka147 am_k147
theorem am_ka149 : ∀ k, k < 149 → am_dP k := am_fs am_ka148 am_k148
theorem am_ka150 : ∀ k, k < 150 → am_dP k := am_fs am_ka149 am_k149
theorem am_ka151 : ∀ k, k < 151 → am_dP k := am_fs am_ka150 am_k150
theorem am_ka152 : ∀ k, k < 152 → am_dP k := am_fs am_ka151 am_k151
theorem am_ka153 : ∀ k, k < 153 → am_dP k := am_fs am_ka152 am_k152
theorem am_ka154 : ∀ k, k < 154 → am_dP k := am_fs am_ka153 am_k153
theorem am_ka155 : ∀ k, k < 155 → am_dP k := am_fs am_ka154 am_k154
theorem am_ka156 : ∀ k, k < 156 → am_dP k := am_fs am_ka155 am_k155
theorem am_ka157 : ∀ k, k < 157 → am_dP k := am_fs am_ka156 am_k156
theorem am_ka158 : ∀ k, k < 158 → am_dP k := am_fs am_ka157 am_k157
theorem am_ka159 : ∀ k, k < 159 → am_dP k := am_fs am_ka158 am_k158
theorem am_ka160 : ∀ k, k < 160 → am_dP k := am_fs am_ka159 am_k159
theorem am_ka161 : ∀ k, k < 161 → am_dP k := am_fs am_ka160 am_k160
theorem am_ka162 : ∀ k, k < 162 → am_dP k := am_fs am_ka161 am_k161
theorem am_ka163 : ∀ k, k < 163 → am_dP k := am_fs am_ka162 am_k162
theorem am_ka164 : ∀ k, k < 164 → am_dP k := am_fs am_ka163 am_k163
theorem am_ka165 : ∀ k, k < 165 → am_dP k := am_fs am_ka164 am_k164
theorem am_ka166 : ∀ k, k < 166 → am_dP k := am_fs am_ka165 am_k165
theorem am_ka167 : ∀ k, k < 167 → am_dP k := am_fs am_ka166 am_k166
theorem am_ka168 : ∀ k, k < 168 → am_dP k := am_fs am_ka167 am_k167
theorem am_ka169 : ∀ k, k < 169 → am_dP k := am_fs am_ka168 am_k168
theorem am_ka170 : ∀ k, k < 170 → am_dP k := am_fs am_ka169 am_k169
theorem am_ka171 : ∀ k, k < 171 → am_dP k := am_fs am_ka170 am_k170
theorem am_ka172 : ∀ k, k < 172 → am_dP k := am_fs am_ka171 am_k171
theorem am_ka173 : ∀ k, k < 173 → am_dP k := am_fs am_ka172 am_k172
theorem am_ka174 : ∀ k, k < 174 → am_dP k := am_fs am_ka173 am_k173
theorem am_ka175 : ∀ k, k < 175 → am_dP k := am_fs am_ka174 am_k174
theorem am_ka176 : ∀ k, k < 176 → am_dP k := am_fs am_ka175 am_k175
theorem am_ka177 : ∀ k, k < 177 → am_dP k := am_fs am_ka176 am_k176
theorem am_ka178 : ∀ k, k < 178 → am_dP k := am_fs am_ka177 am_k177
theorem am_ka179 : ∀ k, k < 179 → am_dP k := am_fs am_ka178 am_k178
theorem am_ka180 : ∀ k, k < 180 → am_dP k := am_fs am_ka179 am_k179
theorem am_ka181 : ∀ k, k < 181 → am_dP k := am_fs am_ka180 am_k180
theorem am_ka182 : ∀ k, k < 182 → am_dP k := am_fs am_ka181 am_k181
theorem am_ka183 : ∀ k, k < 183 → am_dP k := am_fs am_ka182 am_k182
theorem am_ka184 : ∀ k, k < 184 → am_dP k := am_fs am_ka183 am_k183
theorem am_ka185 : ∀ k, k < 185 → am_dP k := am_fs am_ka184 am_k184
theorem am_ka186 : ∀ k, k < 186 → am_dP k := am_fs am_ka185 am_k185
theorem am_ka187 : ∀ k, k < 187 → am_dP k := am_fs am_ka186 am_k186
theorem am_ka188 : ∀ k, k < 188 → am_dP k := am_fs am_ka187 am_k187
theorem am_ka189 : ∀ k, k < 189 → am_dP k := am_fs am_ka188 am_k188
theorem am_ka190 : ∀ k, k < 190 → am_dP k := am_fs am_ka189 am_k189
theorem am_ka191 : ∀ k, k < 191 → am_dP k := am_fs am_ka190 am_k190
theorem am_ka192 : ∀ k, k < 192 → am_dP k := am_fs am_ka191 am_k191
theorem am_ka193 : ∀ k, k < 193 → am_dP k := am_fs am_ka192 am_k192
theorem am_ka194 : ∀ k, k < 194 → am_dP k := am_fs am_ka193 am_k193
theorem am_ka195 : ∀ k, k < 195 → am_dP k := am_fs am_ka194 am_k194
theorem am_ka196 : ∀ k, k < 196 → am_dP k := am_fs am_ka195 am_k195
theorem am_ka197 : ∀ k, k < 197 → am_dP k := am_fs am_ka196 am_k196
theorem am_ka198 : ∀ k, k < 198 → am_dP k := am_fs am_ka197 am_k197
theorem am_ka199 : ∀ k, k < 199 → am_dP k := am_fs am_ka198 am_k198
theorem am_ka200 : ∀ k, k < 200 → am_dP k := am_fs am_ka199 am_k199
theorem am_ka201 : ∀ k, k < 201 → am_dP k := am_fs am_ka200 am_k200
theorem am_ka202 : ∀ k, k < 202 → am_dP k := am_fs am_ka201 am_k201
theorem am_ka203 : ∀ k, k < 203 → am_dP k := am_fs am_ka202 am_k202
theorem am_ka204 : ∀ k, k < 204 → am_dP k := am_fs am_ka203 am_k203
theorem am_ka205 : ∀ k, k < 205 → am_dP k := am_fs am_ka204 am_k204
theorem am_ka206 : ∀ k, k < 206 → am_dP k := am_fs am_ka205 am_k205
theorem am_ka207 : ∀ k, k < 207 → am_dP k := am_fs am_ka206 am_k206
theorem am_ka208 : ∀ k, k < 208 → am_dP k := am_fs am_ka207 am_k207
theorem am_ka209 : ∀ k, k < 209 → am_dP k := am_fs am_ka208 am_k208
theorem am_ka210 : ∀ k, k < 210 → am_dP k := am_fs am_ka209 am_k209
theorem am_ka211 : ∀ k, k < 211 → am_dP k := am_fs am_ka210 am_k210
theorem am_ka212 : ∀ k, k < 212 → am_dP k := am_fs am_ka211 am_k211
theorem am_ka213 : ∀ k, k < 213 → am_dP k := am_fs am_ka212 am_k212
theorem am_ka214 : ∀ k, k < 214 → am_dP k := am_fs am_ka213 am_k213
theorem am_ka215 : ∀ k, k < 215 → am_dP k := am_fs am_ka214 am_k214
theorem am_ka216 : ∀ k, k < 216 → am_dP k := am_fs am_ka215 am_k215
theorem am_ka217 : ∀ k, k < 217 → am_dP k := am_fs am_ka216 am_k216
theorem am_ka218 : ∀ k, k < 218 → am_dP k := am_fs am_ka217 am_k217
theorem am_ka219 : ∀ k, k < 219 → am_dP k := am_fs am_ka218 am_k218
theorem am_ka220 : ∀ k, k < 220 → am_dP k := am_fs am_ka219 am_k219
theorem am_ka221 : ∀ k, k < 221 → am_dP k := am_fs am_ka220 am_k220
theorem am_ka222 : ∀ k, k < 222 → am_dP k := am_fs am_ka221 am_k221
theorem am_ka223 : ∀ k, k < 223 → am_dP k := am_fs am_ka222 am_k222
theorem am_ka224 : ∀ k, k < 224 → am_dP k := am_fs am_ka223 am_k223
theorem am_ka225 : ∀ k, k < 225 → am_dP k := am_fs am_ka224 am_k224
theorem am_ka226 : ∀ k, k < 226 → am_dP k := am_fs am_ka225 am_k225
theorem am_ka227 : ∀ k, k < 227 → am_dP k := am_fs am_ka226 am_k106
theorem am_ka228 : ∀ k, k < 228 → am_dP k := am_fs am_ka227 am_k106
theorem am_ka229 : ∀ k, k < 229 → am_dP k := am_fs am_ka228 am_k106
theorem am_code_ok (k : Nat) (h : k < 229) : (am_code k).all (am_dB (am_mt k).2.2.2.1) = true := am_ka229 k h
def am_cw (t : Nat) : Cond := match (am_mt t).2.2.2.2.2.2.1 with
  | [] => .code (am_mt t).2.2.1 (am_mt t).2.2.2.1 (am_mt t).2.2.2.2.1 (am_mt t).2.2.2.2.2.1
  | hh => .codeWith (am_mt t).2.2.1 (am_mt t).2.2.2.1 (am_mt t).2.2.2.2.1 (am_mt t).2.2.2.2.2.1 hh
def am_cP (k : Nat) : Prop := k = 225 ∨ lw_tbl[(am_mp k).1]? = some (am_cw k)
theorem am_kb0 : ∀ k, k < 0 → am_cP k := fun k h => absurd h (Nat.not_lt_zero k)
set_option maxRecDepth 100000 in
theorem am_kb1 : ∀ k, k < 1 → am_cP k := am_fs am_kb0 (Or.inr rfl)
set_option maxRecDepth 100000 in
theorem am_kb2 : ∀ k, k < 2 → am_cP k := am_fs am_kb1 (Or.inr rfl)
set_option maxRecDepth 100000 in
theorem am_kb3 : ∀ k, k < 3 → am_cP k := am_fs am_kb2 (Or.inr rfl)
set_option maxRecDepth 100000 in
theorem am_kb4 : ∀ k, k < 4 → am_cP k := am_fs am_kb3 (Or.inr rfl)
set_option maxRecDepth 100000 in
theorem am_kb5 : ∀ k, k < 5 → am_cP k := am_fs am_kb4 (Or.inr rfl)
set_option maxRecDepth 100000 in
theorem am_kb6 : ∀ k, k < 6 → am_cP k := am_fs am_kb5 (Or.inr rfl)
set_option maxRecDepth 100000 in
theorem am_kb7 : ∀ k, k < 7 → am_cP k := am_fs am_kb6 (Or.inr rfl)
set_option maxRecDepth 100000 in
theorem am_kb8 : ∀ k, k < 8 → am_cP k := am_fs am_kb7 (Or.inr rfl)
set_option maxRecDepth 100000 in
theorem am_kb9 : ∀ k, k < 9 → am_cP k := am_fs am_kb8 (Or.inr rfl)
set_option maxRecDepth 100000 in
theorem am_kb10 : ∀ k, k < 10 → am_cP k := am_fs am_kb9 (Or.inr rfl)
set_option maxRecDepth 100000 in
theorem am_kb11 : ∀ k, k < 11 → am_cP k := am_fs am_kb10 (Or.inr rfl)
set_option maxRecDepth 100000 in
theorem am_kb12 : ∀ k, k < 12 → am_cP k := am_fs am_kb11 (Or.inr rfl)
set_option maxRecDepth 100000 in
theorem am_kb13 : ∀ k, k < 13 → am_cP k := am_fs am_kb12 (Or.inr rfl)
set_option maxRecDepth 100000 in
theorem am_kb14 : ∀ k, k < 14 → am_cP k := am_fs am_kb13 (Or.inr rfl)
set_option maxRecDepth 100000 in
theorem am_kb15 : ∀ k, k < 15 → am_cP k := am_fs am_kb14 (Or.inr rfl)
set_option maxRecDepth 100000 in
theorem am_kb16 : ∀ k, k < 16 → am_cP k := am_fs am_kb15 (Or.inr rfl)
set_option maxRecDepth 100000 in
theorem am_kb17 : ∀ k, k < 17 → am_cP k := am_fs am_kb16 (Or.inr rfl)
set_option maxRecDepth 100000 in
theorem am_kb18 : ∀ k, k < 18 → am_cP k := am_fs am_kb17 (Or.inr rfl)
set_option maxRecDepth 100000 in
theorem am_kb19 : ∀ k, k < 19 → am_cP k := am_fs am_kb18 (Or.inr rfl)
set_option maxRecDepth 100000 in
theorem am_kb20 : ∀ k, k < 20 → am_cP k := am_fs am_kb19 (Or.inr rfl)
set_option maxRecDepth 100000 in
theorem am_kb21 : ∀ k, k < 21 → am_cP k := am_fs am_kb20 (Or.inr rfl)
set_option maxRecDepth 100000 in
theorem am_kb22 : ∀ k, k < 22 → am_cP k := am_fs am_kb21 (Or.inr rfl)
set_option maxRecDepth 100000 in
theorem am_kb23 : ∀ k, k < 23 → am_cP k := am_fs am_kb22 (Or.inr rfl)
set_option maxRecDepth 100000 in
theorem am_kb24 : ∀ k, k < 24 → am_cP k := am_fs am_kb23 (Or.inr rfl)
set_option maxRecDepth 100000 in
theorem am_kb25 : ∀ k, k < 25 → am_cP k := am_fs am_kb24 (Or.inr rfl)
set_option maxRecDepth 100000 in
theorem am_kb26 : ∀ k, k < 26 → am_cP k := am_fs am_kb25 (Or.inr rfl)
set_option maxRecDepth 100000 in
theorem am_kb27 : ∀ k, k < 27 → am_cP k := am_fs am_kb26 (Or.inr rfl)
set_option maxRecDepth 100000 in
theorem am_kb28 : ∀ k, k < 28 → am_cP k := am_fs am_kb27 (Or.inr rfl)
set_option maxRecDepth 100000 in
theorem am_kb29 : ∀ k, k < 29 → am_cP k := am_fs am_kb28 (Or.inr rfl)
set_option maxRecDepth 100000 in
theorem am_kb30 : ∀ k, k < 30 → am_cP k := am_fs am_kb29 (Or.inr rfl)
set_option maxRecDepth 100000 in
theorem am_kb31 : ∀ k, k < 31 → am_cP k := am_fs am_kb30 (Or.inr rfl)
set_option maxRecDepth 100000 in
theorem am_kb32 : ∀ k, k < 32 → am_cP k := am_fs am_kb31 (Or.inr rfl)
set_option maxRecDepth 100000 in
theorem am_kb33 : ∀ k, k < 33 → am_cP k := am_fs am_kb32 (Or.inr rfl)
set_option maxRecDepth 100000 in
theorem am_kb34 : ∀ k, k < 34 → am_cP k := am_fs am_kb33 (Or.inr rfl)
set_option maxRecDepth 100000 in
theorem am_kb35 : ∀ k, k < 35 → am_cP k := am_fs am_kb34 (Or.inr rfl)
set_option maxRecDepth 100000 in
theorem am_kb36 : ∀ k, k < 36 → am_cP k := am_fs am_kb35 (Or.inr rfl)
set_option maxRecDepth 100000 in
theorem am_kb37 : ∀ k, k < 37 → am_cP k := am_fs am_kb36 (Or.inr rfl)
set_option maxRecDepth 100000 in
theorem am_kb38 : ∀ k, k < 38 → am_cP k := am_fs am_kb37 (Or.inr rfl)
set_option maxRecDepth 100000 in
theorem am_kb39 : ∀ k, k < 39 → am_cP k := am_fs am_kb38 (Or.inr rfl)
set_option maxRecDepth 100000 in
theorem am_kb40 : ∀ k, k < 40 → am_cP k := am_fs am_kb39 (Or.inr rfl)
set_option maxRecDepth 100000 in
theorem am_kb41 : ∀ k, k < 41 → am_cP k := am_fs am_kb40 (Or.inr rfl)
set_option maxRecDepth 100000 in
theorem am_kb42 : ∀ k, k < 42 → am_cP k := am_fs am_kb41 (Or.inr rfl)
set_option maxRecDepth 100000 in
theorem am_kb43 : ∀ k, k < 43 → am_cP k := am_fs am_kb42 (Or.inr rfl)
set_option maxRecDepth 100000 in
theorem am_kb44 : ∀ k, k < 44 → am_cP k := am_fs am_kb43 (Or.inr rfl)
set_option maxRecDepth 100000 in
theorem am_kb45 : ∀ k, k < 45 → am_cP k := am_fs am_kb44 (Or.inr rfl)
set_option maxRecDepth 100000 in
theorem am_kb46 : ∀ k, k < 46 → am_cP k := am_fs am_kb45 (Or.inr rfl)
set_option maxRecDepth 100000 in
theorem am_kb47 : ∀ k, k < 47 → am_cP k := am_fs am_kb46 (Or.inr rfl)
set_option maxRecDepth 100000 in
theorem am_kb48 : ∀ k, k < 48 → am_cP k := am_fs am_kb47 (Or.inr rfl)
set_option maxRecDepth 100000 in
theorem am_kb49 : ∀ k, k < 49 → am_cP k := am_fs am_kb48 (Or.inr rfl)
set_option maxRecDepth 100000 in
theorem am_kb50 : ∀ k, k < 50 → am_cP k := am_fs am_kb49 (Or.inr rfl)
set_option maxRecDepth 100000 in
theorem am_kb51 : ∀ k, k < 51 → am_cP k := am_fs am_kb50 (Or.inr rfl)
set_option maxRecDepth 100000 in
theorem am_kb52 : ∀ k, k < 52 → am_cP k := am_fs am_kb51 (Or.inr rfl)
set_option maxRecDepth 100000 in
theorem am_kb53 : ∀ k, k < 53 → am_cP k := am_fs am_kb52 (Or.inr rfl)
set_option maxRecDepth 100000 in
theorem am_kb54 : ∀ k, k < 54 → am_cP k := am_fs am_kb53 (Or.inr rfl)
set_option maxRecDepth 100000 in
theorem am_kb55 : ∀ k, k < 55 → am_cP k := am_fs am_kb54 (Or.inr rfl)
set_option maxRecDepth 100000 in
theorem am_kb56 : ∀ k, k < 56 → am_cP k := am_fs am_kb55 (Or.inr rfl)
set_option maxRecDepth 100000 in
theorem am_kb57 : ∀ k, k < 57 → am_cP k := am_fs am_kb56 (Or.inr rfl)
set_option maxRecDepth 100000 in
theorem am_kb58 : ∀ k, k < 58 → am_cP k := am_fs am_kb57 (Or.inr rfl)
set_option maxRecDepth 100000 in
theorem am_kb59 : ∀ k, k < 59 → am_cP k := am_fs am_kb58 (Or.inr rfl)
set_option maxRecDepth 100000 in
theorem am_kb60 : ∀ k, k < 60 → am_cP k := am_fs am_kb59 (Or.inr rfl)
set_option maxRecDepth 100000 in
theorem am_kb61 : ∀ k, k < 61 → am_cP k := am_fs am_kb60 (Or.inr rfl)
set_option maxRecDepth 100000 in
theorem am_kb62 : ∀ k, k < 62 → am_cP k := am_fs am_kb61 (Or.inr rfl)
set_option maxRecDepth 100000 in
theorem am_kb63 : ∀ k, k < 63 → am_cP k := am_fs am_kb62 (Or.inr rfl)
set_option maxRecDepth 100000 in
theorem am_kb64 : ∀ k, k < 64 → am_cP k := am_fs am_kb63 (Or.inr rfl)
set_option maxRecDepth 100000 in
theorem am_kb65 : ∀ k, k < 65 → am_cP k := am_fs am_kb64 (Or.inr rfl)
set_option maxRecDepth 100000 in
theorem am_kb66 : ∀ k, k < 66 → am_cP k := am_fs am_kb65 (Or.inr rfl)
set_option maxRecDepth 100000 in
theorem am_kb67 : ∀ k, k < 67 → am_cP k := am_fs am_kb66 (Or.inr rfl)
set_option maxRecDepth 100000 in
theorem am_kb68 : ∀ k, k < 68 → am_cP k := am_fs am_kb67 (Or.inr rfl)
set_option maxRecDepth 100000 in
theorem am_kb69 : ∀ k, k < 69 → am_cP k := am_fs am_kb68 (Or.inr rfl)
set_option maxRecDepth 100000 in
theorem am_kb70 : ∀ k, k < 70 → am_cP k := am_fs am_kb69 (Or.inr rfl)
set_option maxRecDepth 100000 in
theorem am_kb71 : ∀ k, k < 71 → am_cP k := am_fs am_kb70 (Or.inr rfl)
set_option maxRecDepth 100000 in
theorem am_kb72 : ∀ k, k < 72 → am_cP k := am_fs am_kb71 (Or.inr rfl)
set_option maxRecDepth 100000 in
theorem am_kb73 : ∀ k, k < 73 → am_cP k := am_fs am_kb72 (Or.inr rfl)
set_option maxRecDepth 100000 in
theorem am_kb74 : ∀ k, k < 74 → am_cP k := am_fs am_kb73 (Or.inr rfl)
set_option maxRecDepth 100000 in
theorem am_kb75 : ∀ k, k < 75 → am_cP k := am_fs am_kb74 (Or.inr rfl)
set_option maxRecDepth 100000 in
theorem am_kb76 : ∀ k, k < 76 → am_cP k := am_fs am_kb75 (Or.inr rfl)
set_option maxRecDepth 100000 in
theorem am_kb77 : ∀ k, k < 77 → am_cP k := am_fs am_kb76 (Or.inr rfl)
set_option maxRecDepth 100000 in
theorem am_kb78 : ∀ k, k < 78 → am_cP k := am_fs am_kb77 (Or.inr rfl)
set_option maxRecDepth 100000 in
theorem am_kb79 : ∀ k, k < 79 → am_cP k := am_fs am_kb78 (Or.inr rfl)
set_option maxRecDepth 100000 in
theorem am_kb80 : ∀ k, k < 80 → am_cP k := am_fs am_kb79 (Or.inr rfl)
set_option maxRecDepth 100000 in
theorem am_kb81 : ∀ k, k < 81 → am_cP k := am_fs am_kb80 (Or.inr rfl)
set_option maxRecDepth 100000 in
theorem am_kb82 : ∀ k, k < 82 → am_cP k := am_fs am_kb81 (Or.inr rfl)
set_option maxRecDepth 100000 in
theorem am_kb83 : ∀ k, k < 83 → am_cP k := am_fs am_kb82 (Or.inr rfl)
set_option maxRecDepth 100000 in
theorem am_kb84 : ∀ k, k < 84 → am_cP k := am_fs am_kb83 (Or.inr rfl)
set_option maxRecDepth 100000 in
theorem am_kb85 : ∀ k, k < 85 → am_cP k := am_fs am_kb84 (Or.inr rfl)
set_option maxRecDepth 100000 in
theorem am_kb86 : ∀ k, k < 86 → am_cP k := am_fs am_kb85 (Or.inr rfl)
set_option maxRecDepth 100000 in
theorem am_kb87 : ∀ k, k < 87 → am_cP k := am_fs am_kb86 (Or.inr rfl)
set_option maxRecDepth 100000 in
theorem am_kb88 : ∀ k, k < 88 → am_cP k := am_fs am_kb87 (Or.inr rfl)
set_option maxRecDepth 100000 in
theorem am_kb89 : ∀ k, k < 89 → am_cP k := am_fs am_kb88 (Or.inr rfl)
set_option maxRecDepth 100000 in
theorem am_kb90 : ∀ k, k < 90 → am_cP k := am_fs am_kb89 (Or.inr rfl)
set_option maxRecDepth 100000 in
theorem am_kb91 : ∀ k, k < 91 → am_cP k := am_fs am_kb90 (Or.inr rfl)
set_option maxRecDepth 100000 in
theorem am_kb92 : ∀ k, k < 92 → am_cP k := am_fs am_kb91 (Or.inr rfl)
set_option maxRecDepth 100000 in
theorem am_kb93 : ∀ k, k < 93 → am_cP k := am_fs am_kb92 (Or.inr rfl)
set_option maxRecDepth 100000 in
theorem am_kb94 : ∀ k, k < 94 → am_cP k := am_fs am_kb93 (Or.inr rfl)
set_option maxRecDepth 100000 in
theorem am_kb95 : ∀ k, k < 95 → am_cP k := am_fs am_kb94 (Or.inr rfl)
set_option maxRecDepth 100000 in
theorem am_kb96 : ∀ k, k < 96 → am_cP k := am_fs am_kb95 (Or.inr rfl)
set_option maxRecDepth 100000 in
theorem am_kb97 : ∀ k, k < 97 → am_cP k := am_fs am_kb96 (Or.inr rfl)
set_option maxRecDepth 100000 in
theorem am_kb98 : ∀ k, k < 98 → am_cP k := am_fs am_kb97 (Or.inr rfl)
set_option maxRecDepth 100000 in
theorem am_kb99 : ∀ k, k < 99 → am_cP k := am_fs am_kb98 (Or.inr rfl)
set_option maxRecDepth 100000 in
theorem am_kb100 : ∀ k, k < 100 → am_cP k := am_fs am_kb99 (Or.inr rfl)
set_option maxRecDepth 100000 in
theorem am_kb101 : ∀ k, k < 101 → am_cP k := am_fs am_kb100 (Or.inr rfl)
set_option maxRecDepth 100000 in
theorem am_kb102 : ∀ k, k < 102 → am_cP k := am_fs am_kb101 (Or.inr rfl)
set_option maxRecDepth 100000 in
theorem am_kb103 : ∀ k, k < 103 → am_cP k := am_fs am_kb102 (Or.inr rfl)
set_option maxRecDepth 100000 in
theorem am_kb104 : ∀ k, k < 104 → am_cP k := am_fs am_kb103 (Or.inr rfl)
set_option maxRecDepth 100000 in
theorem am_kb105 : ∀ k, k < 105 → am_cP k := am_fs am_kb104 (Or.inr rfl)
set_option maxRecDepth 100000 in
theorem am_kb106 : ∀ k, k < 106 → am_cP k := am_fs am_kb105 (Or.inr rfl)
set_option maxRecDepth 100000 in
theorem am_kb107 : ∀ k, k < 107 → am_cP k := am_fs am_kb106 (Or.inr rfl)
set_option maxRecDepth 100000 in
theorem am_kb108 : ∀ k, k < 108 → am_cP k := am_fs am_kb107 (Or.inr rfl)
set_option maxRecDepth 100000 in
theorem am_kb109 : ∀ k, k < 109 → am_cP k := am_fs am_kb108 (Or.inr rfl)
set_option maxRecDepth 100000 in
theorem am_kb110 : ∀ k, k < 110 → am_cP k := am_fs am_kb109 (Or.inr rfl)
set_option maxRecDepth 100000 in
theorem am_kb111 : ∀ k, k < 111 → am_cP k := am_fs am_kb110 (Or.inr rfl)
set_option maxRecDepth 100000 in
theorem am_kb112 : ∀ k, k < 112 → am_cP k := am_fs am_kb111 (Or.inr rfl)
set_option maxRecDepth 100000 in
theorem am_kb113 : ∀ k, k < 113 → am_cP k := am_fs am_kb112 (Or.inr rfl)
set_option maxRecDepth 100000 in
theorem am_kb114 : ∀ k, k < 114 → am_cP k := am_fs am_kb113 (Or.inr rfl)
set_option maxRecDepth 100000 in
theorem am_kb115 : ∀ k, k < 115 → am_cP k := am_fs am_kb114 (Or.inr rfl)
set_option maxRecDepth 100000 in
theorem am_kb116 : ∀ k, k < 116 → am_cP k := am_fs am_kb115 (Or.inr rfl)
set_option maxRecDepth 100000 in
theorem am_kb117 : ∀ k, k < 117 → am_cP k := am_fs am_kb116 (Or.inr rfl)
set_option maxRecDepth 100000 in
theorem am_kb118 : ∀ k, k < 118 → am_cP k := am_fs am_kb117 (Or.inr rfl)
set_option maxRecDepth 100000 in
theorem am_kb119 : ∀ k, k < 119 → am_cP k := am_fs am_kb118 (Or.inr rfl)
set_option maxRecDepth 100000 in
theorem am_kb120 : ∀ k, k < 120 → am_cP k := am_fs am_kb119 (Or.inr rfl)
set_option maxRecDepth 100000 in
theorem am_kb121 : ∀ k, k < 121 → am_cP k := am_fs am_kb120 (Or.inr rfl)
set_option maxRecDepth 100000 in
theorem am_kb122 : ∀ k, k < 122 → am_cP k := am_fs am_kb121 (Or.inr rfl)
set_option maxRecDepth 100000 in
theorem am_kb123 : ∀ k, k < 123 → am_cP k := am_fs am_kb122 (Or.inr rfl)
set_option maxRecDepth 100000 in
theorem am_kb124 : ∀ k, k < 124 → am_cP k := am_fs am_kb123 (Or.inr rfl)
set_option maxRecDepth 100000 in
theorem am_kb125 : ∀ k, k < 125 → am_cP k := am_fs am_kb124 (Or.inr rfl)
set_option maxRecDepth 100000 in
theorem am_kb126 : ∀ k, k < 126 → am_cP k := am_fs am_kb125 (Or.inr rfl)
set_option maxRecDepth 100000 in
theorem am_kb127 : ∀ k, k < 127 → am_cP k := am_fs am_kb126 (Or.inr rfl)
set_option maxRecDepth 100000 in
theorem am_kb128 : ∀ k, k < 128 → am_cP k := am_fs am_kb127 (Or.inr rfl)
set_option maxRecDepth 100000 in
theorem am_kb129 : ∀ k, k < 129 → am_cP k := am_fs am_kb128 (Or.inr rfl)
set_option maxRecDepth 100000 in
theorem am_kb130 : ∀ k, k < 130 → am_cP k := am_fs am_kb129 (Or.inr rfl)
set_option maxRecDepth 100000 in
theorem am_kb131 : ∀ k, k < 131 → am_cP k := am_fs am_kb130 (Or.inr rfl)
set_option maxRecDepth 100000 in
theorem am_kb132 : ∀ k, k < 132 → am_cP k := am_fs am_kb131 (Or.inr rfl)
set_option maxRecDepth 100000 in
theorem am_kb133 : ∀ k, k < 133 → am_cP k := am_fs am_kb132 (Or.inr rfl)
set_option maxRecDepth 100000 in
theorem am_kb134 : ∀ k, k < 134 → am_cP k := am_fs am_kb133 (Or.inr rfl)
set_option maxRecDepth 100000 in
theorem am_kb135 : ∀ k, k < 135 → am_cP k := am_fs am_kb134 (Or.inr rfl)
set_option maxRecDepth 100000 in
theorem am_kb136 : ∀ k, k < 136 → am_cP k := am_fs am_kb135 (Or.inr rfl)
set_option maxRecDepth 100000 in
theorem am_kb137 : ∀ k, k < 137 → am_cP k := am_fs am_kb136 (Or.inr rfl)
set_option maxRecDepth 100000 in
theorem am_kb138 : ∀ k, k < 138 → am_cP k := am_fs am_kb137 (Or.inr rfl)
set_option maxRecDepth 100000 in
theorem am_kb139 : ∀ k, k < 139 → am_cP k := am_fs am_kb138 (Or.inr rfl)
set_option maxRecDepth 100000 in
theorem am_kb140 : ∀ k, k < 140 → am_cP k := am_fs am_kb139 (Or.inr rfl)
set_option maxRecDepth 100000 in
theorem am_kb141 : ∀ k, k < 141 → am_cP k := am_fs am_kb140 (Or.inr rfl)
set_option maxRecDepth 100000 in
theorem am_kb142 : ∀ k, k < 142 → am_cP k := am_fs am_kb141 (Or.inr rfl)
set_option maxRecDepth 100000 in
theorem am_kb143 : ∀ k, k < 143 → am_cP k := am_fs am_kb142 (Or.inr rfl)
set_option maxRecDepth 100000 in
theorem am_kb144 : ∀ k, k < 144 → am_cP k := am_fs am_kb143 (Or.inr rfl)
set_option maxRecDepth 100000 in
theorem am_kb145 : ∀ k, k < 145 → am_cP k := am_fs am_kb144 (Or.inr rfl)
set_option maxRecDepth 100000 in
theorem am_kb146 : ∀ k, k < 146 → am_cP k := am_fs am_kb145 (Or.inr rfl)
set_option maxRecDepth 100000 in
theorem am_kb147 : ∀ k, k < 147 → am_cP k := am_fs am_kb146 (Or.inr rfl)
set_option maxRecDepth 100000 in
theorem am_kb148 : ∀ k, k < 148 → am_cP k := am_fs am_kb147 (Or.inr rfl)
set_option maxRecDepth 100000 in
theorem am_kb149 : ∀ k, k < 149 → am_cP k := am_fs am_kb148 (Or.inr rfl)
set_option maxRecDepth 100000 in
theorem am_kb150 : ∀ k, k < 150 → am_cP k := am_fs am_kb149 (Or.inr rfl)
set_option maxRecDepth 100000 in
theorem am_kb151 : ∀ k, k < 151 → am_cP k := am_fs am_kb150 (Or.inr rfl)
set_option maxRecDepth 100000 in
theorem am_kb152 : ∀ k, k < 152 → am_cP k := am_fs am_kb151 (Or.inr rfl)
set_option maxRecDepth 100000 in
theorem am_kb153 : ∀ k, k < 153 → am_cP k := am_fs am_kb152 (Or.inr rfl)
set_option maxRecDepth 100000 in
theorem am_kb154 : ∀ k, k < 154 → am_cP k := am_fs am_kb153 (Or.inr rfl)
set_option maxRecDepth 100000 in
theorem am_kb155 : ∀ k, k < 155 → am_cP k := am_fs am_kb154 (Or.inr rfl)
set_option maxRecDepth 100000 in
theorem am_kb156 : ∀ k, k < 156 → am_cP k := am_fs am_kb155 (Or.inr rfl)
set_option maxRecDepth 100000 in
theorem am_kb157 : ∀ k, k < 157 → am_cP k := am_fs am_kb156 (Or.inr rfl)
set_option maxRecDepth 100000 in
theorem am_kb158 : ∀ k, k < 158 → am_cP k := am_fs am_kb157 (Or.inr rfl)
set_option maxRecDepth 100000 in
theorem am_kb159 : ∀ k, k < 159 → am_cP k := am_fs am_kb158 (Or.inr rfl)
set_option maxRecDepth 100000 in
theorem am_kb160 : ∀ k, k < 160 → am_cP k := am_fs am_kb159 (Or.inr rfl)
set_option maxRecDepth 100000 in
theorem am_kb161 : ∀ k, k < 161 → am_cP k := am_fs am_kb160 (Or.inr rfl)
set_option maxRecDepth 100000 in
theorem am_kb162 : ∀ k, k < 162 → am_cP k := am_fs am_kb161 (Or.inr rfl)
set_option maxRecDepth 100000 in
theorem am_kb163 : ∀ k, k < 163 → am_cP k := am_fs am_kb162 (Or.inr rfl)
set_option maxRecDepth 100000 in
theorem am_kb164 : ∀ k, k < 164 → am_cP k := am_fs am_kb163 (Or.inr rfl)
set_option maxRecDepth 100000 in
theorem am_kb165 : ∀ k, k < 165 → am_cP k := am_fs am_kb164 (Or.inr rfl)
set_option maxRecDepth 100000 in
theorem am_kb166 : ∀ k, k < 166 → am_cP k := am_fs am_kb165 (Or.inr rfl)
set_option maxRecDepth 100000 in
theorem am_kb167 : ∀ k, k < 167 → am_cP k := am_fs am_kb166 (Or.inr rfl)
set_option maxRecDepth 100000 in
theorem am_kb168 : ∀ k, k < 168 → am_cP k := am_fs am_kb167 (Or.inr rfl)
set_option maxRecDepth 100000 in
theorem am_kb169 : ∀ k, k < 169 → am_cP k := am_fs am_kb168 (Or.inr rfl)
set_option maxRecDepth 100000 in
theorem am_kb170 : ∀ k, k < 170 → am_cP k := am_fs am_kb169 (Or.inr rfl)
set_option maxRecDepth 100000 in
theorem am_kb171 : ∀ k, k < 171 → am_cP k := am_fs am_kb170 (Or.inr rfl)
set_option maxRecDepth 100000 in
theorem am_kb172 : ∀ k, k < 172 → am_cP k := am_fs am_kb171 (Or.inr rfl)
set_option maxRecDepth 100000 in
theorem am_kb173 : ∀ k, k < 173 → am_cP k := am_fs am_kb172 (Or.inr rfl)
set_option maxRecDepth 100000 in
theorem am_kb174 : ∀ k, k < 174 → am_cP k := am_fs am_kb173 (Or.inr rfl)
set_option maxRecDepth 100000 in
theorem am_kb175 : ∀ k, k < 175 → am_cP k := am_fs am_kb174 (Or.inr rfl)
set_option maxRecDepth 100000 in
theorem am_kb176 : ∀ k, k < 176 → am_cP k := am_fs am_kb175 (Or.inr rfl)
set_option maxRecDepth 100000 in
theorem am_kb177 : ∀ k, k < 177 → am_cP k := am_fs am_kb176 (Or.inr rfl)
set_option maxRecDepth 100000 in
theorem am_kb178 : ∀ k, k < 178 → am_cP k := am_fs am_kb177 (Or.inr rfl)
set_option maxRecDepth 100000 in
theorem am_kb179 : ∀ k, k < 179 → am_cP k := am_fs am_kb178 (Or.inr rfl)
set_option maxRecDepth 100000 in
theorem am_kb180 : ∀ k, k < 180 → am_cP k := am_fs am_kb179 (Or.inr rfl)
set_option maxRecDepth 100000 in
theorem am_kb181 : ∀ k, k < 181 → am_cP k := am_fs am_kb180 (Or.inr rfl)
set_option maxRecDepth 100000 in
theorem am_kb182 : ∀ k, k < 182 → am_cP k := am_fs am_kb181 (Or.inr rfl)
set_option maxRecDepth 100000 in
theorem am_kb183 : ∀ k, k < 183 → am_cP k := am_fs am_kb182 (Or.inr rfl)
set_option maxRecDepth 100000 in
theorem am_kb184 : ∀ k, k < 184 → am_cP k := am_fs am_kb183 (Or.inr rfl)
set_option maxRecDepth 100000 in
theorem am_kb185 : ∀ k, k < 185 → am_cP k := am_fs am_kb184 (Or.inr rfl)
set_option maxRecDepth 100000 in
theorem am_kb186 : ∀ k, k < 186 → am_cP k := am_fs am_kb185 (Or.inr rfl)
set_option maxRecDepth 100000 in
theorem am_kb187 : ∀ k, k < 187 → am_cP k := am_fs am_kb186 (Or.inr rfl)
set_option maxRecDepth 100000 in
theorem am_kb188 : ∀ k, k < 188 → am_cP k := am_fs am_kb187 (Or.inr rfl)
set_option maxRecDepth 100000 in
theorem am_kb189 : ∀ k, k < 189 → am_cP k := am_fs am_kb188 (Or.inr rfl)
set_option maxRecDepth 100000 in
theorem am_kb190 : ∀ k, k < 190 → am_cP k := am_fs am_kb189 (Or.inr rfl)
set_option maxRecDepth 100000 in
theorem am_kb191 : ∀ k, k < 191 → am_cP k := am_fs am_kb190 (Or.inr rfl)
set_option maxRecDepth 100000 in
theorem am_kb192 : ∀ k, k < 192 → am_cP k := am_fs am_kb191 (Or.inr rfl)
set_option maxRecDepth 100000 in
theorem am_kb193 : ∀ k, k < 193 → am_cP k := am_fs am_kb192 (Or.inr rfl)
set_option maxRecDepth 100000 in
theorem am_kb194 : ∀ k, k < 194 → am_cP k := am_fs am_kb193 (Or.inr rfl)
set_option maxRecDepth 100000 in
theorem am_kb195 : ∀ k, k < 195 → am_cP k := am_fs am_kb194 (Or.inr rfl)
set_option maxRecDepth 100000 in
theorem am_kb196 : ∀ k, k < 196 → am_cP k := am_fs am_kb195 (Or.inr rfl)
set_option maxRecDepth 100000 in
theorem am_kb197 : ∀ k, k < 197 → am_cP k := am_fs am_kb196 (Or.inr rfl)
set_option maxRecDepth 100000 in
theorem am_kb198 : ∀ k, k < 198 → am_cP k := am_fs am_kb197 (Or.inr rfl)
set_option maxRecDepth 100000 in
theorem am_kb199 : ∀ k, k < 199 → am_cP k := am_fs am_kb198 (Or.inr rfl)
set_option maxRecDepth 100000 in
theorem am_kb200 : ∀ k, k < 200 → am_cP k := am_fs am_kb199 (Or.inr rfl)
set_option maxRecDepth 100000 in
theorem am_kb201 : ∀ k, k < 201 → am_cP k := am_fs am_kb200 (Or.inr rfl)
set_option maxRecDepth 100000 in
theorem am_kb202 : ∀ k, k < 202 → am_cP k := am_fs am_kb201 (Or.inr rfl)
set_option maxRecDepth 100000 in
theorem am_kb203 : ∀ k, k < 203 → am_cP k := am_fs am_kb202 (Or.inr rfl)
set_option maxRecDepth 100000 in
theorem am_kb204 : ∀ k, k < 204 → am_cP k := am_fs am_kb203 (Or.inr rfl)
set_option maxRecDepth 100000 in
theorem am_kb205 : ∀ k, k < 205 → am_cP k := am_fs am_kb204 (Or.inr rfl)
set_option maxRecDepth 100000 in
theorem am_kb206 : ∀ k, k < 206 → am_cP k := am_fs am_kb205 (Or.inr rfl)
set_option maxRecDepth 100000 in
theorem am_kb207 : ∀ k, k < 207 → am_cP k := am_fs am_kb206 (Or.inr rfl)
set_option maxRecDepth 100000 in
theorem am_kb208 : ∀ k, k < 208 → am_cP k := am_fs am_kb207 (Or.inr rfl)
set_option maxRecDepth 100000 in
theorem am_kb209 : ∀ k, k < 209 → am_cP k := am_fs am_kb208 (Or.inr rfl)
set_option maxRecDepth 100000 in
theorem am_kb210 : ∀ k, k < 210 → am_cP k := am_fs am_kb209 (Or.inr rfl)
set_option maxRecDepth 100000 in
theorem am_kb211 : ∀ k, k < 211 → am_cP k := am_fs am_kb210 (Or.inr rfl)
set_option maxRecDepth 100000 in
theorem am_kb212 : ∀ k, k < 212 → am_cP k := am_fs am_kb211 (Or.inr rfl)
set_option maxRecDepth 100000 in
theorem am_kb213 : ∀ k, k < 213 → am_cP k := am_fs am_kb212 (Or.inr rfl)
set_option maxRecDepth 100000 in
theorem am_kb214 : ∀ k, k < 214 → am_cP k := am_fs am_kb213 (Or.inr rfl)
set_option maxRecDepth 100000 in
theorem am_kb215 : ∀ k, k < 215 → am_cP k := am_fs am_kb214 (Or.inr rfl)
set_option maxRecDepth 100000 in
theorem am_kb216 : ∀ k, k < 216 → am_cP k := am_fs am_kb215 (Or.inr rfl)
set_option maxRecDepth 100000 in
theorem am_kb217 : ∀ k, k < 217 → am_cP k := am_fs am_kb216 (Or.inr rfl)
set_option maxRecDepth 100000 in
theorem am_kb218 : ∀ k, k < 218 → am_cP k := am_fs am_kb217 (Or.inr rfl)
set_option maxRecDepth 100000 in
theorem am_kb219 : ∀ k, k < 219 → am_cP k := am_fs am_kb218 (Or.inr rfl)
set_option maxRecDepth 100000 in
theorem am_kb220 : ∀ k, k < 220 → am_cP k := am_fs am_kb219 (Or.inr rfl)
set_option maxRecDepth 100000 in
theorem am_kb221 : ∀ k, k < 221 → am_cP k := am_fs am_kb220 (Or.inr rfl)
set_option maxRecDepth 100000 in
theorem am_kb222 : ∀ k, k < 222 → am_cP k := am_fs am_kb221 (Or.inr rfl)
set_option maxRecDepth 100000 in
theorem am_kb223 : ∀ k, k < 223 → am_cP k := am_fs am_kb222 (Or.inr rfl)
set_option maxRecDepth 100000 in
theorem am_kb224 : ∀ k, k < 224 → am_cP k := am_fs am_kb223 (Or.inr rfl)
set_option maxRecDepth 100000 in
theorem am_kb225 : ∀ k, k < 225 → am_cP k := am_fs am_kb224 (Or.inr rfl)
set_option maxRecDepth 100000 in
theorem am_kb226 : ∀ k, k < 226 → am_cP k := am_fs am_kb225 (Or.inl rfl)
set_option maxRecDepth 100000 in
theorem am_kb227 : ∀ k, k < 227 → am_cP k := am_fs am_kb226 (Or.inr rfl)
set_option maxRecDepth 100000 in
theorem am_kb228 : ∀ k, k < 228 → am_cP k := am_fs am_kb227 (Or.inr rfl)
set_option maxRecDepth 100000 in
theorem am_kb229 : ∀ k, k < 229 → am_cP k := am_fs am_kb228 (Or.inr rfl)
theorem am_cw_ok (k : Nat) (h : k < 229) : am_cP k := am_kb229 k h
end
section
/-! ===== methods: tables and steps ===== -/
def am_cn (c : Nat) : String := match c with
  | 0 => RX0
  | 1 => RX1
  | 2 => RX2
  | 3 => RX3
  | 4 => RX4
  | 5 => RX5
  | _ => RL
def am_xn (x : Nat) : String := match x with
  | 0 => "java/lang/IllegalArgumentException"
  | 1 => "java/lang/IllegalStateException"
  | _ => "java/lang/IndexOutOfBoundsException"
/-- is a field of a class a reference; a truth value -/
def am_isr (c k : Nat) : Bool := match c with
  | 0 => k == 0
  | 1 => k == 0
  | 2 => k == 0
  | 3 => k < 7
  | 4 => true
  | _ => k == 1 || (3 ≤ k && k ≤ 7) || k == 9 || k == 10
def am_isz (c k : Nat) : Bool := c == 1 && k == 1
def am_fl (k idx : Nat) : Option (Nat × Nat) := match am_ft.lookup ((am_mt k).1, idx) with
  | some t => some (t.1, t.2.1)
  | none => none
def am_ml (k idx : Nat) : Option (Nat × Nat) := match am_mr.lookup ((am_mt k).1, idx) with
  | some t => some (t.1, t.2.1)
  | none => none
/-- a class that is named: of objects (.inl), of exceptions -/
def am_cl (k idx : Nat) : Option (Nat ⊕ Nat) := match am_cr.lookup ((am_mt k).1, idx) with
  | some t => some t.1
  | none => none
def am_kl (k idx : Nat) : Option Int := match am_kr.lookup ((am_mt k).1, idx) with
  | some t => some t.1
  | none => none
abbrev am_Cf : Type := Nat × List (Option am_V) × List am_V × am_E × am_M
abbrev am_Rs : Type := (Option am_V ⊕ Nat) × am_E × am_M
/-- what an instruction does: it goes on; it ends; it calls a method with these arguments over this stack -/
abbrev am_Ac : Type := am_Cf ⊕ (am_Rs ⊕ (Nat × List am_V × List am_V))
def am_ar (E : am_E) (r : am_R) (k : Nat) (i : Int) : Bool := match am_kd E r with
  | some (k', n) => k' == k && decide (0 ≤ i) && decide (i < (n : Int))
  | none => false
def am_ob (E : am_E) (r : am_R) (c : Nat) : Bool := match am_kd E r with
  | some (k', _) => k' == c
  | none => false
def am_rv (r : Option am_R) : am_V := .inr (.inr r)
/-- reads of the heap: what stands on the stack then -/
def am_rd (k : Nat) (i : Instr) (st : List am_V) (E : am_E) (M : am_M) : Option (List am_V) := match i with
  | .getfield idx => (match st, am_fl k idx with
    | .inr (.inr (some r)) :: rest, some (c, f) => if am_ob E r c = true then some ((bif am_isr c f then am_rv (am_rf E r f) else am_I (M r.1 r.2 f)) :: rest) else none
    | _, _ => none)
  | .iaload => (match st with
    | .inl i :: .inr (.inr (some r)) :: rest => if am_ar E r 6 i = true ∨ am_ar E r 12 i = true then some (am_I (M r.1 r.2 i) :: rest) else none
    | _ => none)
  | .caload => (match st with
    | .inl i :: .inr (.inr (some r)) :: rest => if am_ar E r 7 i = true then some (am_I (M r.1 r.2 i) :: rest) else none
    | _ => none)
  | .baload => (match st with
    | .inl i :: .inr (.inr (some r)) :: rest => if am_ar E r 8 i = true then some (am_I (M r.1 r.2 i) :: rest) else none
    | _ => none)
  | .laload => (match st with
    | .inl i :: .inr (.inr (some r)) :: rest => if am_ar E r 9 i = true then some (am_J (M r.1 r.2 i) :: rest) else none
    | _ => none)
  | .aaload => (match st with
    | .inl i :: .inr (.inr (some r)) :: rest => if am_ar E r 10 i = true then some (am_rv (am_rf E r i.toNat) :: rest) else none
    | _ => none)
  | .arraylength => (match st with
    | .inr (.inr (some r)) :: rest => (match am_kd E r with
      | some (c, n) => if 6 ≤ c then some (am_I n :: rest) else none
      | none => none)
    | _ => none)
  | .ldc2_w idx => (match am_kl k idx with
    | some z => some (am_J z :: st)
    | none => none)
  | _ => none
/-- writes into the heap -/
def am_wr (k : Nat) (i : Instr) (st : List am_V) (E : am_E) (M : am_M) : Option (List am_V × am_E × am_M) := match i with
  | .putfield idx => (match st, am_fl k idx with
    | .inl z :: .inr (.inr (some r)) :: rest, some (c, f) => if am_ob E r c = true ∧ am_isr c f = false ∧ (am_isz c f = true → z = 0 ∨ z = 1) then some (rest, E, am_up M r f z) else none
    | .inr (.inr (some v)) :: .inr (.inr (some r)) :: rest, some (c, f) => if am_ob E r c = true ∧ am_isr c f = true ∧ (am_mt k).2.2.1.name = "<init>" ∧ (am_mt k).2.1 = c then some (rest, am_srf E r f v, M) else none
    | _, _ => none)
  | .iastore => (match st with
    | .inl z :: .inl i :: .inr (.inr (some r)) :: rest => if am_ar E r 6 i = true then some (rest, E, am_up M r i z) else none
    | _ => none)
  | .castore => (match st with
    | .inl z :: .inl i :: .inr (.inr (some r)) :: rest => if am_ar E r 7 i = true ∧ 0 ≤ z ∧ z < 65536 then some (rest, E, am_up M r i z) else none
    | _ => none)
  | .bastore => (match st with
    | .inl z :: .inl i :: .inr (.inr (some r)) :: rest => if am_ar E r 8 i = true ∧ (z = 0 ∨ z = 1) then some (rest, E, am_up M r i z) else none
    | _ => none)
  | .lastore => (match st with
    | .inr (.inl z) :: .inl i :: .inr (.inr (some r)) :: rest => if am_ar E r 9 i = true then some (rest, E, am_up M r i z) else none
    | _ => none)
  | .aastore => (match st with
    | .inr (.inr (some v)) :: .inl i :: .inr (.inr (some r)) :: rest => if am_ar E r 10 i = true ∧ am_ob E v 3 = true then some (rest, am_srf E r i.toNat v, M) else none
    | _ => none)
  | _ => none
/-- what comes next is made: its name, if it is of this kind and length -/
def am_nx (E : am_E) (c : Nat) (n : Int) : Option am_R := match am_tab[E.1]? with
  | some (r, c', n') => if c' = c ∧ (n' : Int) = n ∧ E.2.1 = 0 then some r else none
  | none => none
def am_nE (E : am_E) (r : am_R) : am_E := (E.1 + 1, E.2.1, E.2.2.1, fun r' k' => if r' = r then none else E.2.2.2 r' k')
def am_nM (M : am_M) (r : am_R) : am_M := am_sb M r.1 (fun c j => if c = r.2 then 0 else M r.1 c j)
def am_ty (a : ArrayType) : Nat := match a with
  | .int => 6
  | .char => 7
  | .boolean => 8
  | .long => 9
  | _ => 99
def am_fn (c : Nat) : Nat := match c with
  | 0 => 3
  | 1 => 2
  | 2 => 6
  | 3 => 17
  | 4 => 7
  | _ => 13
def am_mk (k : Nat) (i : Instr) (st : List am_V) (E : am_E) (M : am_M) : Option (List am_V × am_E × am_M) := match i with
  | .new idx => (match am_cl k idx with
    | some (.inl c) => (match am_nx E c (am_fn c) with
      | some r => some (am_A r :: st, am_nE E r, am_nM M r)
      | none => none)
    | _ => none)
  | .newarray a => (match st with
    | .inl n :: rest => if 0 ≤ n ∧ n < 100000 ∧ am_ty a < 99 then (match am_nx E (am_ty a) n with
      | some r => some (am_A r :: rest, am_nE E r, am_nM M r)
      | none => none) else none
    | _ => none)
  | .anewarray idx => (match st, am_cl k idx with
    | .inl n :: rest, some (.inl 3) => if 0 ≤ n ∧ n < 100000 then (match am_nx E 10 n with
      | some r => some (am_A r :: rest, am_nE E r, am_nM M r)
      | none => none) else none
    | _, _ => none)
  | _ => none
def am_rok (t : Option FieldType) (v : am_V) : Bool := match t, v with
  | some .int, .inl _ => true
  | some .boolean, .inl z => z == 0 || z == 1
  | some .char, .inl z => decide (0 ≤ z) && decide (z < 65536)
  | some .long, .inr (.inl _) => true
  | some (.object _), .inr (.inr _) => true
  | _, _ => false
/-- returns -/
def am_rt (k : Nat) (i : Instr) (st : List am_V) : Option (Option am_V) := match i with
  | .ireturn => (match st with
    | [.inl z] => if am_rok (am_mt k).2.2.2.2.2.1 (.inl z) = true then some (some (.inl z)) else none
    | _ => none)
  | .lreturn => (match st with
    | [.inr (.inl z)] => if am_rok (am_mt k).2.2.2.2.2.1 (.inr (.inl z)) = true then some (some (.inr (.inl z))) else none
    | _ => none)
  | .areturn => (match st with
    | [.inr (.inr r)] => if am_rok (am_mt k).2.2.2.2.2.1 (.inr (.inr r)) = true then some (some (.inr (.inr r))) else none
    | _ => none)
  | .return_ => (match st with
    | [] => if (am_mt k).2.2.2.2.2.1 = none then some none else none
    | _ => none)
  | _ => none
/-- the slots of a call's arguments -/
def am_xp : List am_V → List (Option am_V)
  | [] => []
  | v :: r => if am_cat v = 2 then some v :: none :: am_xp r else some v :: am_xp r
/-- does the call fit its kind -/
def am_rcv (as : List am_V) (c : Nat) (E : am_E) : Bool := match as with
  | .inr (.inr (some r)) :: _ => am_ob E r c
  | _ => false
def am_ivc (t c : Nat) (i : Instr) (as : List am_V) (E : am_E) : Bool := match i with
  | .invokestatic _ => c == 0 || c == 3 || c == 4
  | .invokevirtual _ => c == 1 && am_rcv as (am_mt t).2.1 E
  | .invokespecial _ => c == 2 && am_rcv as (am_mt t).2.1 E
  | _ => false
/-- calls; 0: static, 1: virtual, 2: a constructor, 3: static of a nest mate, 4: static with handlers, 5: Object(), 6: max, 7: min -/
def am_iv (k : Nat) (i : Instr) (st : List am_V) (E : am_E) : Option (List am_V ⊕ (Nat × List am_V × List am_V)) :=
  match (match i with
    | .invokestatic idx => am_ml k idx
    | .invokevirtual idx => am_ml k idx
    | .invokespecial idx => am_ml k idx
    | _ => none) with
  | none => none
  | some (t, 5) => (match i, st with
    | .invokespecial _, .inr (.inr (some _)) :: rest => if am_wt rest ≤ 8 then some (.inl rest) else none
    | _, _ => none)
  | some (t, 6) => (match i, st with
    | .invokestatic _, .inl b :: .inl a :: rest => if am_wt rest ≤ 8 then some (.inl (.inl (if a < b then b else a) :: rest)) else none
    | _, _ => none)
  | some (t, 7) => (match i, st with
    | .invokestatic _, .inl b :: .inl a :: rest => if am_wt rest ≤ 8 then some (.inl (.inl (if b < a then b else a) :: rest)) else none
    | _, _ => none)
  | some (t, c) => if am_rk t < am_rk k ∧ (am_mt t).2.2.2.2.2.2.2 ≤ st.length ∧ am_wt (st.drop (am_mt t).2.2.2.2.2.2.2) ≤ 8 ∧ am_ivc t c i (st.take (am_mt t).2.2.2.2.2.2.2).reverse E = true ∧ (am_xp (st.take (am_mt t).2.2.2.2.2.2.2).reverse).length ≤ (am_mt t).2.2.2.2.1 then some (.inr (t, (st.take (am_mt t).2.2.2.2.2.2.2).reverse, st.drop (am_mt t).2.2.2.2.2.2.2)) else none
/-- 'throw new E(text)', told at its first instruction -/
def am_ic (x : Nat) : Nat := match x with
  | 0 => 51
  | 1 => 62
  | _ => 209
def am_th (k pc : Nat) (i : Instr) (st : List am_V) : Option Nat := match i with
  | .new idx => (match am_cl k idx with
    | some (.inr x) => if st = [] ∧ (am_mt k).1 = 4 ∧ (am_mt k).2.2.2.2.2.2.1 = [] ∧ am_fetch k (pc + 3) = some (.dup, 1) then
      (match am_fetch k (pc + 4) with
      | some (.ldc is, 2) => if am_strs.any (fun q => q.1 == RX4 && q.2.1 == is) = true ∧ am_fetch k (pc + 6) = some (.invokespecial (am_ic x), 3) ∧ am_fetch k (pc + 9) = some (.athrow, 1) then some x else none
      | some (.ldc_w is, 3) => if am_strs.any (fun q => q.1 == RX4 && q.2.1 == is) = true ∧ am_fetch k (pc + 7) = some (.invokespecial (am_ic x), 3) ∧ am_fetch k (pc + 10) = some (.athrow, 1) then some x else none
      | _ => none) else none
    | _ => none)
  | _ => none
def am_hd (k pc x : Nat) : List (Nat × Nat × Nat × Nat) → Option Nat
  | [] => none
  | h :: hs => if h.1 ≤ pc ∧ pc < h.2.1 then (match am_cl k h.2.2.2 with
      | some (.inr x') => if x' = x then some h.2.2.1 else am_hd k pc x hs
      | _ => none) else am_hd k pc x hs
/-- where an exception is caught: behind the store of the handler, and which local holds it -/
def am_hc (k pc x : Nat) : Option (Nat × Nat) := match am_hd k pc x (am_mt k).2.2.2.2.2.2.1 with
  | none => none
  | some h => (match am_fetch k h with
    | some (.astore n, 2) => some (h + 2, n)
    | some (.astore_n n, 1) => some (h + 1, n.val)
    | _ => none)
def am_stp (k : Nat) (c : am_Cf) : Option am_Ac := match am_fetch k c.1 with
  | none => none
  | some (i, len) => (match am_jp i c.1 len c.2.2.1 with
    | some (t, st) => some (.inl (t, c.2.1, st, c.2.2.2.1, c.2.2.2.2))
    | none => if len ≠ am_ln i then none else (match am_op i c.2.2.1 with
      | some st => some (.inl (c.1 + len, c.2.1, st, c.2.2.2.1, c.2.2.2.2))
      | none => (match am_ld i c.2.1 with
        | some v => some (.inl (c.1 + len, c.2.1, v :: c.2.2.1, c.2.2.2.1, c.2.2.2.2))
        | none => (match am_st i c.2.1 c.2.2.1 with
          | some (ls, st) => some (.inl (c.1 + len, ls, st, c.2.2.2.1, c.2.2.2.2))
          | none => (match am_rd k i c.2.2.1 c.2.2.2.1 c.2.2.2.2 with
            | some st => some (.inl (c.1 + len, c.2.1, st, c.2.2.2.1, c.2.2.2.2))
            | none => (match am_wr k i c.2.2.1 c.2.2.2.1 c.2.2.2.2 with
              | some (st, E, M) => some (.inl (c.1 + len, c.2.1, st, E, M))
              | none => (match am_mk k i c.2.2.1 c.2.2.2.1 c.2.2.2.2 with
                | some (st, E, M) => some (.inl (c.1 + len, c.2.1, st, E, M))
                | none => (match am_rt k i c.2.2.1 with
                  | some v => some (.inr (.inl (.inl v, c.2.2.2.1, c.2.2.2.2)))
                  | none => (match am_iv k i c.2.2.1 c.2.2.2.1 with
                    | some (.inl st) => some (.inl (c.1 + len, c.2.1, st, c.2.2.2.1, c.2.2.2.2))
                    | some (.inr t) => some (.inr (.inr t))
                    | none => (match am_th k c.1 i c.2.2.1 with
                      | some x => some (.inr (.inl (.inr x, am_xE c.2.2.2.1, c.2.2.2.2)))
                      | none => none)))))))))) 
/-- the locals at a method's entry -/
def am_el (n : Nat) (as : List am_V) : List (Option am_V) := am_xp as ++ List.replicate (n - (am_xp as).length) none
def am_en (k : Nat) (as : List am_V) (E : am_E) (M : am_M) : am_Cf := (0, am_el (am_mt k).2.2.2.2.1 as, [], E, M)
def am_ol (v : Option am_V) : List am_V := match v with
  | some x => [x]
  | none => []
def am_run : Nat → Nat → am_Cf → Option am_Rs
  | 0, _, _ => none
  | n + 1, k, c => (match am_stp k c with
    | none => none
    | some (.inl c') => am_run n k c'
    | some (.inr (.inl r)) => some r
    | some (.inr (.inr (t, as, rest))) => (match am_run n t (am_en t as c.2.2.2.1 c.2.2.2.2) with
      | none => none
      | some (.inl v, E, M) => am_run n k (c.1 + 3, c.2.1, am_ol v ++ rest, E, M)
      | some (.inr x, E, M) => (match am_hc k c.1 x with
        | none => if (am_mt k).2.2.2.2.2.2.1 = [] then some (.inr x, E, M) else none
        | some (pc, l) => if l < c.2.1.length ∧ am_lf c.2.1 l = true then am_run n k (pc, c.2.1.set l none, [], E, M) else none)))
end
section
/-! ===== the abstract machine's values among the machine's ===== -/
def am_n32 (z : Int) : Prop := -2147483648 ≤ z ∧ z < 2147483648
def am_n64 (z : Int) : Prop := -9223372036854775808 ≤ z ∧ z < 9223372036854775808
def am_nv (v : am_V) : Prop := match v with
  | .inl z => am_n32 z
  | .inr (.inl z) => am_n64 z
  | .inr (.inr _) => True
theorem am_toI {z : Int} (h : am_n32 z) : (Int32.ofInt z).toInt = z := Int32.toInt_ofInt_of_le (by have := h.1; omega) (by have := h.2; omega)
theorem am_toJ {z : Int} (h : am_n64 z) : (Int64.ofInt z).toInt = z := Int64.toInt_ofInt_of_le (by have := h.1; omega) (by have := h.2; omega)
theorem am_nI (x : Int32) : am_n32 x.toInt := ⟨by have := x.le_toInt; omega, by have := x.toInt_lt; omega⟩
theorem am_nJ (x : Int64) : am_n64 x.toInt := ⟨by have := x.le_toInt; omega, by have := x.toInt_lt; omega⟩
theorem am_ofI (x : Int32) : Int32.ofInt x.toInt = x := Int32.ofInt_toInt x
theorem am_ofJ (x : Int64) : Int64.ofInt x.toInt = x := Int64.ofInt_toInt x
theorem am_wI (z : Int) : am_n32 (am_w z) := ⟨by unfold am_w; have := @Int.le_bmod z 4294967296 (by decide); omega, by unfold am_w; have := @Int.bmod_lt z 4294967296 (by decide); omega⟩
theorem am_wJ (z : Int) : am_n64 (am_W z) := ⟨by unfold am_W; have := @Int.le_bmod z 18446744073709551616 (by decide); omega, by unfold am_W; have := @Int.bmod_lt z 18446744073709551616 (by decide); omega⟩
theorem am_w_of (z : Int) : Int32.ofInt (am_w z) = Int32.ofInt z := by
  apply Int32.toInt_inj.mp
  rw [am_toI (am_wI z), Int32.toInt_ofInt]
  rfl
theorem am_W_of (z : Int) : Int64.ofInt (am_W z) = Int64.ofInt z := by
  apply Int64.toInt_inj.mp
  rw [am_toJ (am_wJ z), Int64.toInt_ofInt]
  rfl
theorem am_w_id {z : Int} (h : am_n32 z) : am_w z = z := by
  have e := am_w_of z
  have h2 := congrArg Int32.toInt e
  rwa [am_toI (am_wI z), am_toI h] at h2
theorem am_W_id {z : Int} (h : am_n64 z) : am_W z = z := by
  have e := am_W_of z
  have h2 := congrArg Int64.toInt e
  rwa [am_toJ (am_wJ z), am_toJ h] at h2
theorem am_div {a b : Int} (ha : am_n32 a) (hb : am_n32 b) : Int32.ofInt a / Int32.ofInt b = Int32.ofInt (am_w (a.tdiv b)) := by
  apply Int32.toInt_inj.mp
  rw [am_toI (am_wI _), Int32.toInt_div, am_toI ha, am_toI hb]
  rfl
theorem am_divJ {a b : Int} (ha : am_n64 a) (hb : am_n64 b) : Int64.ofInt a / Int64.ofInt b = Int64.ofInt (am_W (a.tdiv b)) := by
  apply Int64.toInt_inj.mp
  rw [am_toJ (am_wJ _), Int64.toInt_div, am_toJ ha, am_toJ hb]
  rfl
theorem am_rem {a b : Int} (ha : am_n32 a) (hb : am_n32 b) : Int32.ofInt a - Int32.ofInt a / Int32.ofInt b * Int32.ofInt b = Int32.ofInt (a.tmod b) := by
  rw [am_div ha hb, am_w_of, ← Int32.ofInt_mul, ← Int32.ofInt_sub]
  congr 1
  have := Int.tmod_add_mul_tdiv a b
  rw [Int.mul_comm] at this
  omega
theorem am_remJ {a b : Int} (ha : am_n64 a) (hb : am_n64 b) : Int64.ofInt a - Int64.ofInt a / Int64.ofInt b * Int64.ofInt b = Int64.ofInt (a.tmod b) := by
  rw [am_divJ ha hb, am_W_of, ← Int64.ofInt_mul, ← Int64.ofInt_sub]
  congr 1
  have := Int.tmod_add_mul_tdiv a b
  rw [Int.mul_comm] at this
  omega
theorem am_tmod_n {a b : Int} (ha : am_n32 a) (hb : am_n32 b) : am_n32 (a.tmod b) := by
  have e := am_rem ha hb
  by_cases h0 : b = 0
  · subst h0
    rw [Int.tmod_zero]
    exact ha
  · have h1 := Int.natAbs_tmod a b
    have h2 : a.natAbs % b.natAbs < b.natAbs := Nat.mod_lt _ (by omega)
    have h3 := ha.1
    have h4 := hb.1
    have h5 := hb.2
    rcases Int.le_total 0 a with h6 | h6
    · have h7 : 0 ≤ a.tmod b := Int.tmod_nonneg b h6
      constructor <;> omega
    · have h7 : a.natAbs % b.natAbs ≤ a.natAbs := Nat.mod_le _ _
      have h8 : 0 ≤ (-a).tmod b := Int.tmod_nonneg b (by omega)
      rw [Int.neg_tmod] at h8
      constructor <;> omega
theorem am_tmod_nJ {a b : Int} (ha : am_n64 a) (hb : am_n64 b) : am_n64 (a.tmod b) := by
  by_cases h0 : b = 0
  · subst h0
    rw [Int.tmod_zero]
    exact ha
  · have h1 := Int.natAbs_tmod a b
    have h2 : a.natAbs % b.natAbs < b.natAbs := Nat.mod_lt _ (by omega)
    have h3 := ha.1
    have h4 := hb.1
    have h5 := hb.2
    rcases Int.le_total 0 a with h6 | h6
    · have h7 : 0 ≤ a.tmod b := Int.tmod_nonneg b h6
      constructor <;> omega
    · have h7 : a.natAbs % b.natAbs ≤ a.natAbs := Nat.mod_le _ _
      have h8 : 0 ≤ (-a).tmod b := Int.tmod_nonneg b (by omega)
      rw [Int.neg_tmod] at h8
      constructor <;> omega
theorem am_lt {a b : Int} (ha : am_n32 a) (hb : am_n32 b) : Int32.ofInt a < Int32.ofInt b ↔ a < b := by rw [Int32.lt_iff_toInt_lt, am_toI ha, am_toI hb]
theorem am_le {a b : Int} (ha : am_n32 a) (hb : am_n32 b) : Int32.ofInt a ≤ Int32.ofInt b ↔ a ≤ b := by rw [Int32.le_iff_toInt_le, am_toI ha, am_toI hb]
theorem am_eq {a b : Int} (ha : am_n32 a) (hb : am_n32 b) : Int32.ofInt a = Int32.ofInt b ↔ a = b := by rw [← Int32.toInt_inj, am_toI ha, am_toI hb]
theorem am_ltJ {a b : Int} (ha : am_n64 a) (hb : am_n64 b) : Int64.ofInt a < Int64.ofInt b ↔ a < b := by rw [Int64.lt_iff_toInt_lt, am_toJ ha, am_toJ hb]
theorem am_eqJ {a b : Int} (ha : am_n64 a) (hb : am_n64 b) : Int64.ofInt a = Int64.ofInt b ↔ a = b := by rw [← Int64.toInt_inj, am_toJ ha, am_toJ hb]
theorem am_cmp {a b : Int} (ha : am_n64 a) (hb : am_n64 b) : lg_cmp (Int64.ofInt a) (Int64.ofInt b) = Int32.ofInt (if a < b then -1 else if a = b then 0 else 1) := by
  unfold lg_cmp
  simp only [am_ltJ hb ha, am_eqJ ha hb]
  by_cases h : a < b
  · rw [if_pos h, if_neg (by omega), if_neg (by omega)]; rfl
  · by_cases h2 : a = b
    · rw [if_neg h, if_pos h2, if_neg (by omega), if_pos h2]; rfl
    · have h3 : b < a := by omega
      simp only [h, h2, h3, if_true, if_false]; rfl
theorem am_z0 : am_n32 0 := by constructor <;> decide
theorem am_in {z : Int} {n : Nat} (h0 : 0 ≤ z) (h1 : z < (n : Int)) (hz : am_n32 z) : vp_in (Int32.ofInt z) n ∧ (Int32.ofInt z).toNatClampNeg = z.toNat := by
  have e : (Int32.ofInt z).toInt = z := am_toI hz
  have e2 : (Int32.ofInt z).toNatClampNeg = z.toNat := by rw [Int32.toNatClampNeg, e]
  refine ⟨?_, e2⟩
  rintro (h | h)
  · rw [Int32.lt_iff_toInt_lt, e, Int32.toInt_zero] at h; omega
  · rw [e2] at h; omega
def am_ad (B0 b : Nat) (r : am_R) : Nat := if r = (45, 0) then b else B0 + am_ix r
def am_cv (B0 b : Nat) (v : am_V) : Value := match v with
  | .inl z => .int (Int32.ofInt z)
  | .inr (.inl z) => .long (Int64.ofInt z)
  | .inr (.inr r) => va_rf (r.map (am_ad B0 b))
theorem am_cat_cv (B0 b : Nat) (v : am_V) : (am_cv B0 b v).category = am_cat v := by
  rcases v with z | z | (_ | r) <;> rfl
theorem am_wt_cv (B0 b : Nat) (st : List am_V) : ((st.map (am_cv B0 b)).map fun v => v.category).sum = am_wt st := by
  unfold am_wt
  rw [List.map_map]
  congr 1
  apply List.map_congr_left
  intro v _
  exact am_cat_cv B0 b v
end
section
/-! ===== instructions that touch no heap ===== -/
theorem am_b1_i {f : Int → Int} {st st' : List am_V} (h : am_b1 f st = some st') : ∃ a r, st = .inl a :: r ∧ st' = .inl (f a) :: r := by
  unfold am_b1 at h
  split at h <;> cases h
  exact ⟨_, _, rfl, rfl⟩
theorem am_b2_i {f : Int → Int → Int} {st st' : List am_V} (h : am_b2 f st = some st') : ∃ a b r, st = .inl b :: .inl a :: r ∧ st' = .inl (f a b) :: r := by
  unfold am_b2 at h
  split at h <;> cases h
  exact ⟨_, _, _, rfl, rfl⟩
theorem am_d2_i {f : Int → Int → Int} {st st' : List am_V} (h : am_d2 f st = some st') : ∃ a b r, b ≠ 0 ∧ st = .inl b :: .inl a :: r ∧ st' = .inl (f a b) :: r := by
  unfold am_d2 at h
  split at h
  · split at h <;> cases h
    exact ⟨_, _, _, by assumption, rfl, rfl⟩
  · cases h
theorem am_l2_i {f : Int → Int → Int} {st st' : List am_V} (h : am_l2 f st = some st') : ∃ a b r, st = .inr (.inl b) :: .inr (.inl a) :: r ∧ st' = .inr (.inl (f a b)) :: r := by
  unfold am_l2 at h
  split at h <;> cases h
  exact ⟨_, _, _, rfl, rfl⟩
theorem am_dl2_i {f : Int → Int → Int} {st st' : List am_V} (h : am_dl2 f st = some st') : ∃ a b r, b ≠ 0 ∧ st = .inr (.inl b) :: .inr (.inl a) :: r ∧ st' = .inr (.inl (f a b)) :: r := by
  unfold am_dl2 at h
  split at h
  · split at h <;> cases h
    exact ⟨_, _, _, by assumption, rfl, rfl⟩
  · cases h
theorem am_s2_i {f : Int → Int → Int} {st st' : List am_V} (h : am_s2 f st = some st') : ∃ a b r, st = .inl b :: .inr (.inl a) :: r ∧ st' = .inr (.inl (f a b)) :: r := by
  unfold am_s2 at h
  split at h <;> cases h
  exact ⟨_, _, _, rfl, rfl⟩
theorem am_nc {v : am_V} {r : List am_V} (h : ∀ x ∈ v :: r, am_nv x) : am_nv v ∧ ∀ x ∈ r, am_nv x := ⟨h v List.mem_cons_self, fun x hx => h x (List.mem_cons_of_mem _ hx)⟩
theorem am_ncc {v : am_V} {r : List am_V} (h1 : am_nv v) (h2 : ∀ x ∈ r, am_nv x) : ∀ x ∈ v :: r, am_nv x := fun x hx => by
  rcases List.mem_cons.mp hx with rfl | hx
  · exact h1
  · exact h2 x hx
theorem am_ne0 {a : Int} (h : am_n32 a) (h0 : a ≠ 0) : ¬ Int32.ofInt a = 0 := fun q => h0 ((am_eq h am_z0).mp q)
theorem am_ne0J {a : Int} (h : am_n64 a) (h0 : a ≠ 0) : ¬ Int64.ofInt a = 0 := fun q => h0 ((am_eqJ h ⟨by decide, by decide⟩).mp q)
section AMW
variable {p : Program} {l : Launch} {e : Env} {R : Room} {s : State} {m : MethodId} {args : Array Value} {below : List Frame} {meth : Method} {c : Code} {H : Heap} {locs : List Loc} {cells slots : Nat} {Q : State → Prop}
variable {cc : ByteArray} {pc : Nat} {ls : Array Slot} {B0 b : Nat}
set_option maxHeartbeats 4000000 in
theorem am_W_op (hx : p.tables.exec = Jvm.exec) (hb : c.code = cc) {i : Instr} {len : Nat} {st st' : List am_V} (hd : decode cc pc = .ok (i, len)) (hl : len = am_ln i) (hs : am_op i st = some st') (hn : ∀ v ∈ st, am_nv v)
    (k : (∀ v ∈ st', am_nv v) → W p l e R s m args below meth c H locs cells slots Q (F0 m (pc + len) ls (st'.map (am_cv B0 b)))) : W p l e R s m args below meth c H locs cells slots Q (F0 m pc ls (st.map (am_cv B0 b))) := by
  subst hl
  unfold am_op at hs
  split at hs
  · rename_i z
    split at hs <;> cases hs
    rename_i hz
    exact lv_iconst hx hb hd rfl (k (am_ncc ⟨by omega, by omega⟩ hn))
  · rename_i z
    split at hs <;> cases hs
    rename_i hz
    refine lv_bipush hx hb hd (v := Int32.ofInt z) ?_ (k (am_ncc ⟨by omega, by omega⟩ hn))
    apply Int32.toInt_inj.mp
    rw [Int8.toInt_toInt32, Int8.toInt_ofInt_of_le (by omega) (by omega), am_toI ⟨by omega, by omega⟩]
  · rename_i z
    split at hs <;> cases hs
    rename_i hz
    refine lv_sipush hx hb hd (v := Int32.ofInt z) ?_ (k (am_ncc ⟨by omega, by omega⟩ hn))
    apply Int32.toInt_inj.mp
    rw [Int16.toInt_toInt32, Int16.toInt_ofInt_of_le (by omega) (by omega), am_toI ⟨by omega, by omega⟩]
  · rename_i z
    cases hs
    refine lv_lconst hx hb hd (v := Int64.ofInt (z.val : Int)) ?_ (k (am_ncc ⟨by have := z.isLt; omega, by have := z.isLt; omega⟩ hn))
    match z with
    | 0 => rfl
    | 1 => rfl
  · cases hs
    exact lv_null hx hb hd (k (am_ncc trivial hn))
  · obtain ⟨x, y, r, rfl, rfl⟩ := am_b2_i hs
    obtain ⟨-, h3⟩ := am_nc hn
    obtain ⟨-, h5⟩ := am_nc h3
    refine lv_iadd hx hb hd ?_
    rw [← Int32.ofInt_add, ← am_w_of]
    exact k (am_ncc (am_wI _) h5)
  · obtain ⟨x, y, r, rfl, rfl⟩ := am_b2_i hs
    obtain ⟨-, h3⟩ := am_nc hn
    obtain ⟨-, h5⟩ := am_nc h3
    refine lv_isub hx hb hd ?_
    rw [← Int32.ofInt_sub, ← am_w_of]
    exact k (am_ncc (am_wI _) h5)
  · obtain ⟨x, y, r, rfl, rfl⟩ := am_b2_i hs
    obtain ⟨-, h3⟩ := am_nc hn
    obtain ⟨-, h5⟩ := am_nc h3
    refine lv_imul hx hb hd ?_
    rw [← Int32.ofInt_mul, ← am_w_of]
    exact k (am_ncc (am_wI _) h5)
  · obtain ⟨x, y, r, h0, rfl, rfl⟩ := am_d2_i hs
    obtain ⟨h2, h3⟩ := am_nc hn
    obtain ⟨h4, h5⟩ := am_nc h3
    refine lv_idiv hx hb hd (am_ne0 h2 h0) ?_
    rw [am_div h4 h2]
    exact k (am_ncc (am_wI _) h5)
  · obtain ⟨x, y, r, h0, rfl, rfl⟩ := am_d2_i hs
    obtain ⟨h2, h3⟩ := am_nc hn
    obtain ⟨h4, h5⟩ := am_nc h3
    refine lv_irem hx hb hd (am_ne0 h2 h0) ?_
    rw [am_rem h4 h2]
    exact k (am_ncc (am_tmod_n h4 h2) h5)
  · obtain ⟨x, y, r, rfl, rfl⟩ := am_b2_i hs
    obtain ⟨-, h3⟩ := am_nc hn
    obtain ⟨-, h5⟩ := am_nc h3
    refine lv_iand hx hb hd ?_
    rw [← am_ofI (_ &&& _)]
    exact k (am_ncc (am_nI _) h5)
  · obtain ⟨x, y, r, rfl, rfl⟩ := am_b2_i hs
    obtain ⟨-, h3⟩ := am_nc hn
    obtain ⟨-, h5⟩ := am_nc h3
    refine lv_ior hx hb hd ?_
    rw [← am_ofI (_ ||| _)]
    exact k (am_ncc (am_nI _) h5)
  · obtain ⟨x, y, r, rfl, rfl⟩ := am_b2_i hs
    obtain ⟨-, h3⟩ := am_nc hn
    obtain ⟨-, h5⟩ := am_nc h3
    refine lv_ishl hx hb hd ?_
    rw [← am_ofI (_ <<< _)]
    exact k (am_ncc (am_nI _) h5)
  · obtain ⟨x, y, r, rfl, rfl⟩ := am_b2_i hs
    obtain ⟨-, h3⟩ := am_nc hn
    obtain ⟨-, h5⟩ := am_nc h3
    refine lv_ishr hx hb hd ?_
    rw [← am_ofI (_ >>> _)]
    exact k (am_ncc (am_nI _) h5)
  · obtain ⟨x, y, r, rfl, rfl⟩ := am_l2_i hs
    obtain ⟨-, h3⟩ := am_nc hn
    obtain ⟨-, h5⟩ := am_nc h3
    refine lv_ladd hx hb hd ?_
    rw [← Int64.ofInt_add, ← am_W_of]
    exact k (am_ncc (am_wJ _) h5)
  · obtain ⟨x, y, r, rfl, rfl⟩ := am_l2_i hs
    obtain ⟨-, h3⟩ := am_nc hn
    obtain ⟨-, h5⟩ := am_nc h3
    refine lv_lsub hx hb hd ?_
    rw [← Int64.ofInt_sub, ← am_W_of]
    exact k (am_ncc (am_wJ _) h5)
  · obtain ⟨x, y, r, rfl, rfl⟩ := am_l2_i hs
    obtain ⟨-, h3⟩ := am_nc hn
    obtain ⟨-, h5⟩ := am_nc h3
    refine lv_lmul hx hb hd ?_
    rw [← Int64.ofInt_mul, ← am_W_of]
    exact k (am_ncc (am_wJ _) h5)
  · obtain ⟨x, y, r, h0, rfl, rfl⟩ := am_dl2_i hs
    obtain ⟨h2, h3⟩ := am_nc hn
    obtain ⟨h4, h5⟩ := am_nc h3
    refine lv_ldiv hx hb hd (am_ne0J h2 h0) ?_
    rw [am_divJ h4 h2]
    exact k (am_ncc (am_wJ _) h5)
  · obtain ⟨x, y, r, h0, rfl, rfl⟩ := am_dl2_i hs
    obtain ⟨h2, h3⟩ := am_nc hn
    obtain ⟨h4, h5⟩ := am_nc h3
    refine lv_lrem hx hb hd (am_ne0J h2 h0) ?_
    rw [am_remJ h4 h2]
    exact k (am_ncc (am_tmod_nJ h4 h2) h5)
  · obtain ⟨x, y, r, rfl, rfl⟩ := am_l2_i hs
    obtain ⟨-, h3⟩ := am_nc hn
    obtain ⟨-, h5⟩ := am_nc h3
    refine lv_land hx hb hd ?_
    rw [← am_ofJ (_ &&& _)]
    exact k (am_ncc (am_nJ _) h5)
  · obtain ⟨x, y, r, rfl, rfl⟩ := am_l2_i hs
    obtain ⟨-, h3⟩ := am_nc hn
    obtain ⟨-, h5⟩ := am_nc h3
    refine lv_lor hx hb hd ?_
    rw [← am_ofJ (_ ||| _)]
    exact k (am_ncc (am_nJ _) h5)
  · obtain ⟨x, y, r, rfl, rfl⟩ := am_s2_i hs
    obtain ⟨-, h3⟩ := am_nc hn
    obtain ⟨-, h5⟩ := am_nc h3
    refine lv_lshl hx hb hd (am_ofJ _).symm (k (am_ncc (am_nJ _) h5))
  · obtain ⟨x, y, r, rfl, rfl⟩ := am_s2_i hs
    obtain ⟨-, h3⟩ := am_nc hn
    obtain ⟨-, h5⟩ := am_nc h3
    refine lv_lushr hx hb hd (am_ofJ _).symm (k (am_ncc (am_nJ _) h5))
  · split at hs <;> cases hs
    obtain ⟨h2, h3⟩ := am_nc hn
    obtain ⟨h4, h5⟩ := am_nc h3
    refine W.lcmp hx hb hd ?_
    rw [am_cmp h4 h2]
    refine k (am_ncc ?_ h5)
    show am_n32 _
    unfold am_n32
    split
    · omega
    · split <;> omega
  · split at hs <;> cases hs
    rename_i a r
    obtain ⟨h2, h3⟩ := am_nc hn
    have h2 : am_n32 a := h2
    have h6 : am_n64 a := ⟨by have := h2.1; omega, by have := h2.2; omega⟩
    refine lv_i2l hx hb hd (v := Int64.ofInt a) ?_ (k (am_ncc h6 h3))
    apply Int64.toInt_inj.mp
    rw [Int32.toInt_toInt64, am_toI h2, am_toJ h6]
  · split at hs <;> cases hs
    rename_i a r
    obtain ⟨h2, h3⟩ := am_nc hn
    refine lv_l2i hx hb hd (v := Int32.ofInt (am_w a)) ?_ (k (am_ncc (am_wI _) h3))
    apply Int32.toInt_inj.mp
    rw [Int64.toInt_toInt32, am_toJ h2, am_toI (am_wI _)]
    rfl
  · obtain ⟨a, r, rfl, rfl⟩ := am_b1_i hs
    obtain ⟨h2, h3⟩ := am_nc hn
    exact lv_i2c hx hb hd (am_ofI _).symm (k (am_ncc (am_nI _) h3))
  · split at hs
    · split at hs <;> cases hs
      rename_i a r hc
      exact lv_dup hx hb hd (by rw [am_cat_cv]; exact hc) (k (am_ncc (am_nc hn).1 hn))
    · cases hs
  · split at hs
    · split at hs <;> cases hs
      rename_i a a2 r hc
      exact lv_dup2_11 hx hb hd (by rw [am_cat_cv]; exact hc.1) (by rw [am_cat_cv]; exact hc.2) (k (am_ncc (am_nc hn).1 (am_ncc (am_nc (am_nc hn).2).1 hn)))
    · cases hs
  · split at hs
    · split at hs <;> cases hs
      rename_i a hc
      exact lv_pop hx hb hd (by rw [am_cat_cv]; exact hc) (k (am_nc hn).2)
    · cases hs
  · cases hs
end AMW
end
section
/-! ===== jumps; locals ===== -/
theorem am_at_i {pc t : Nat} {off : Int} (h : am_at pc off = some t) : (pc : Int) + off = (t : Int) := by
  unfold am_at at h
  split at h <;> cases h
  rename_i h0
  exact (Int.toNat_of_nonneg h0).symm
theorem am_o0 : Int32.ofInt 0 = 0 := rfl
section AMJ
variable {p : Program} {l : Launch} {e : Env} {R : Room} {s : State} {m : MethodId} {args : Array Value} {below : List Frame} {meth : Method} {c : Code} {H : Heap} {locs : List Loc} {cells slots : Nat} {Q : State → Prop}
variable {cc : ByteArray} {pc : Nat} {ls : Array Slot} {B0 b : Nat}
theorem am_W_if (hx : p.tables.exec = Jvm.exec) (hb : c.code = cc) {co : Jvm.ClassFile.Cond} {off : Int} {t : Nat} {a : Int} {r : List am_V} (hd : decode cc pc = .ok (.ifCond co off, 3)) (ht : (pc : Int) + off = (t : Int)) (ha : am_n32 a)
    (k : W p l e R s m args below meth c H locs cells slots Q (F0 m (bif am_cc co a 0 then t else pc + 3) ls (r.map (am_cv B0 b)))) : W p l e R s m args below meth c H locs cells slots Q (F0 m pc ls ((.inl a :: r : List am_V).map (am_cv B0 b))) := by
  have e1 : ∀ {q : Bool}, am_cc co a 0 = q → W p l e R s m args below meth c H locs cells slots Q (F0 m (bif q then t else pc + 3) ls (r.map (am_cv B0 b))) := fun h => by rw [← h]; exact k
  cases co
  · exact lv_if_eq hx hb hd ht (fun h => e1 (q := true) (by rw [← am_o0, am_eq ha am_z0] at h; simpa [am_cc] using h)) (fun h => e1 (q := false) (by rw [← am_o0, am_eq ha am_z0] at h; simpa [am_cc] using h))
  · exact lv_if_ne hx hb hd ht (fun h => e1 (q := true) (by rw [← am_o0, am_eq ha am_z0] at h; simpa [am_cc] using h)) (fun h => e1 (q := false) (by rw [← am_o0, am_eq ha am_z0] at h; simpa [am_cc] using h))
  · exact lv_if_lt hx hb hd ht (fun h => e1 (q := true) (by rw [← am_o0, am_lt ha am_z0] at h; simpa [am_cc] using h)) (fun h => e1 (q := false) (by rw [← am_o0, am_lt ha am_z0] at h; simpa [am_cc] using h))
  · exact lv_if_ge hx hb hd ht (fun h => e1 (q := true) (by rw [← am_o0, am_le am_z0 ha] at h; simpa [am_cc] using h)) (fun h => e1 (q := false) (by rw [← am_o0, am_le am_z0 ha] at h; simpa [am_cc] using h))
  · exact lv_if_gt hx hb hd ht (fun h => e1 (q := true) (by rw [← am_o0, am_lt am_z0 ha] at h; simpa [am_cc] using h)) (fun h => e1 (q := false) (by rw [← am_o0, am_lt am_z0 ha] at h; simpa [am_cc] using h))
  · exact lv_if_le hx hb hd ht (fun h => e1 (q := true) (by rw [← am_o0, am_le ha am_z0] at h; simpa [am_cc] using h)) (fun h => e1 (q := false) (by rw [← am_o0, am_le ha am_z0] at h; simpa [am_cc] using h))
theorem am_W_icmp (hx : p.tables.exec = Jvm.exec) (hb : c.code = cc) {co : Jvm.ClassFile.Cond} {off : Int} {t : Nat} {a d : Int} {r : List am_V} (hd : decode cc pc = .ok (.if_icmp co off, 3)) (ht : (pc : Int) + off = (t : Int)) (ha : am_n32 a) (hc : am_n32 d)
    (k : W p l e R s m args below meth c H locs cells slots Q (F0 m (bif am_cc co a d then t else pc + 3) ls (r.map (am_cv B0 b)))) : W p l e R s m args below meth c H locs cells slots Q (F0 m pc ls ((.inl d :: .inl a :: r : List am_V).map (am_cv B0 b))) := by
  have e1 : ∀ {q : Bool}, am_cc co a d = q → W p l e R s m args below meth c H locs cells slots Q (F0 m (bif q then t else pc + 3) ls (r.map (am_cv B0 b))) := fun h => by rw [← h]; exact k
  cases co
  · exact lv_icmp_eq hx hb hd ht (fun h => e1 (q := true) (by rw [am_eq ha hc] at h; simpa [am_cc] using h)) (fun h => e1 (q := false) (by rw [am_eq ha hc] at h; simpa [am_cc] using h))
  · exact lv_icmp_ne hx hb hd ht (fun h => e1 (q := true) (by rw [am_eq ha hc] at h; simpa [am_cc] using h)) (fun h => e1 (q := false) (by rw [am_eq ha hc] at h; simpa [am_cc] using h))
  · exact lv_icmp_lt hx hb hd ht (fun h => e1 (q := true) (by rw [am_lt ha hc] at h; simpa [am_cc] using h)) (fun h => e1 (q := false) (by rw [am_lt ha hc] at h; simpa [am_cc] using h))
  · exact lv_icmp_ge hx hb hd ht (fun h => e1 (q := true) (by rw [am_le hc ha] at h; simpa [am_cc] using h)) (fun h => e1 (q := false) (by rw [am_le hc ha] at h; simpa [am_cc] using h))
  · exact lv_icmp_gt hx hb hd ht (fun h => e1 (q := true) (by rw [am_lt hc ha] at h; simpa [am_cc] using h)) (fun h => e1 (q := false) (by rw [am_lt hc ha] at h; simpa [am_cc] using h))
  · exact lv_icmp_le hx hb hd ht (fun h => e1 (q := true) (by rw [am_le ha hc] at h; simpa [am_cc] using h)) (fun h => e1 (q := false) (by rw [am_le ha hc] at h; simpa [am_cc] using h))
theorem am_W_jp (hx : p.tables.exec = Jvm.exec) (hb : c.code = cc) {i : Instr} {len t : Nat} {st st' : List am_V} (hd : decode cc pc = .ok (i, len)) (hs : am_jp i pc len st = some (t, st')) (hn : ∀ v ∈ st, am_nv v)
    (k : (∀ v ∈ st', am_nv v) → W p l e R s m args below meth c H locs cells slots Q (F0 m t ls (st'.map (am_cv B0 b)))) : W p l e R s m args below meth c H locs cells slots Q (F0 m pc ls (st.map (am_cv B0 b))) := by
  unfold am_jp at hs
  split at hs
  · rename_i hl
    split at hs
    · have h3 : len = 3 := by simpa [am_sw] using hl
      subst h3
      split at hs <;> cases hs
      rename_i ht
      exact lv_goto hx hb hd (am_at_i ht) (k hn)
    · have h3 : len = 3 := by simpa [am_sw] using hl
      subst h3
      split at hs <;> cases hs
      rename_i ht
      exact am_W_if hx hb hd (am_at_i ht) (am_nc hn).1 (k (am_nc hn).2)
    · have h3 : len = 3 := by simpa [am_sw] using hl
      subst h3
      split at hs <;> cases hs
      rename_i ht
      exact am_W_icmp hx hb hd (am_at_i ht) (am_nc (am_nc hn).2).1 (am_nc hn).1 (k (am_nc (am_nc hn).2).2)
    · have h3 : len = 3 := by simpa [am_sw] using hl
      subst h3
      split at hs <;> cases hs
      · exact lv_ifnull hx hb hd (k (am_nc hn).2)
      · rename_i ht
        exact lv_ifnullN hx hb hd (am_at_i ht) (k (am_nc hn).2)
    · have h3 : len = 3 := by simpa [am_sw] using hl
      subst h3
      split at hs <;> cases hs
      · rename_i ht
        exact lv_ifnonnull hx hb hd (am_at_i ht) (k (am_nc hn).2)
      · exact lv_ifnonnullN hx hb hd (k (am_nc hn).2)
    · split at hs
      · rename_i d lo hi offs _ a r
        have ha : am_n32 a := (am_nc hn).1
        split at hs
        · rename_i h0
          split at hs <;> cases hs
          rename_i ht
          exact lv_tableOut hx hb hd (by rw [am_toI ha]; exact h0) (am_at_i ht) (k (am_nc hn).2)
        · rename_i h0
          split at hs
          · rename_i o ho
            split at hs <;> cases hs
            rename_i ht
            exact lv_tableIn hx hb hd (by rw [am_toI ha]; omega) (by rw [am_toI ha]; omega) (by rw [am_toI ha]; exact ho) (am_at_i ht) (k (am_nc hn).2)
          · cases hs
      · cases hs
    · split at hs
      · rename_i d ps _ a r
        have ha : am_n32 a := (am_nc hn).1
        split at hs
        · rename_i h0
          split at hs <;> cases hs
          rename_i ht
          exact lv_lookup hx hb hd h0 (by rw [am_toI ha]) (am_at_i ht) (k (am_nc hn).2)
        · cases hs
      · cases hs
    · cases hs
  · cases hs
end AMJ
/-- the locals, as the kit lists them -/
def am_lp (B0 b : Nat) (ls : List (Option am_V)) : List (Nat × Value) := (List.range ls.length).filterMap (fun i => match am_g ls i with
  | some v => some (i, am_cv B0 b v)
  | none => none)
theorem am_g_lt {ls : List (Option am_V)} {n : Nat} {v : am_V} (h : am_g ls n = some v) : n < ls.length := by
  unfold am_g at h
  split at h
  · rename_i x hx
    exact (List.getElem?_eq_some_iff.mp hx).1
  · cases h
theorem am_lp_mem {B0 b : Nat} {ls : List (Option am_V)} {q : Nat × Value} : q ∈ am_lp B0 b ls ↔ ∃ n v, am_g ls n = some v ∧ q = (n, am_cv B0 b v) := by
  unfold am_lp
  rw [List.mem_filterMap]
  constructor
  · rintro ⟨i, -, h⟩
    split at h
    · rename_i v hv
      cases h
      exact ⟨i, v, hv, rfl⟩
    · cases h
  · rintro ⟨n, v, h, rfl⟩
    refine ⟨n, List.mem_range.mpr (am_g_lt h), ?_⟩
    rw [h]
/-- the frame's locals are these -/
def am_L (B0 b nL : Nat) (ls : List (Option am_V)) (lsC : Array Slot) : Prop := ls.length = nL ∧ lv_has lsC nL (am_lp B0 b ls) ∧ ∀ n v, am_g ls n = some v → am_nv v
theorem am_L_at {B0 b nL : Nat} {ls : List (Option am_V)} {lsC : Array Slot} (h : am_L B0 b nL ls lsC) {n : Nat} {v : am_V} (hv : am_g ls n = some v) : lsC[n]? = some (.val (am_cv B0 b v)) :=
  h.2.1.2.2 (n, am_cv B0 b v) (am_lp_mem.mpr ⟨n, v, hv, rfl⟩)
theorem am_g_set {ls : List (Option am_V)} {n j : Nat} {x : Option am_V} (hn : n < ls.length) : am_g (ls.set n x) j = if j = n then x else am_g ls j := by
  unfold am_g
  by_cases h : j = n
  · subst h
    rw [if_pos rfl, List.getElem?_set_self hn]
  · rw [if_neg h, List.getElem?_set_ne (Ne.symm h)]
theorem am_lf_i {ls : List (Option am_V)} {n j : Nat} (h : am_lf ls n = true) (hj : j + 1 = n) {v : am_V} (hv : am_g ls j = some v) : am_cat v = 1 := by
  subst hj
  rcases v with z | z | r
  · rfl
  · simp [am_lf, hv] at h
  · rfl
theorem am_L_set {B0 b nL : Nat} {ls : List (Option am_V)} {lsC lsC' : Array Slot} {n : Nat} {v : am_V} (h : am_L B0 b nL ls lsC) (hn : n < ls.length) (hf : am_lf ls n = true) (hv : am_nv v)
    (h' : lv_has lsC' nL ((n, am_cv B0 b v) :: (am_lp B0 b ls).filter (fun q => !(q.1 == n) && !(q.1 + 1 == n && q.2.category == 2)))) : am_L B0 b nL (ls.set n (some v)) lsC' := by
  refine ⟨by rw [List.length_set]; exact h.1, ⟨h'.1, h'.2.1, fun q hq => ?_⟩, fun j w hw => ?_⟩
  · obtain ⟨j, w, hj, rfl⟩ := am_lp_mem.mp hq
    rw [am_g_set hn] at hj
    by_cases hjn : j = n
    · rw [if_pos hjn] at hj
      cases hj
      subst hjn
      exact h'.2.2 _ List.mem_cons_self
    · rw [if_neg hjn] at hj
      refine h'.2.2 _ (List.mem_cons_of_mem _ (List.mem_filter.mpr ⟨am_lp_mem.mpr ⟨j, w, hj, rfl⟩, ?_⟩))
      have : ¬ j + 1 = n ∨ ¬ (am_cv B0 b w).category = 2 := by
        by_cases h1 : j + 1 = n
        · exact Or.inr (by rw [am_cat_cv, am_lf_i hf h1 hj]; decide)
        · exact Or.inl h1
      simpa [hjn] using this
  · rw [am_g_set hn] at hw
    by_cases hjn : j = n
    · rw [if_pos hjn] at hw
      cases hw
      exact hv
    · rw [if_neg hjn] at hw
      exact h.2.2 j w hw
theorem am_L_set2 {B0 b nL : Nat} {ls : List (Option am_V)} {lsC lsC' : Array Slot} {n : Nat} {v : am_V} (h : am_L B0 b nL ls lsC) (hn : n + 1 < ls.length) (hf : am_lf ls n = true) (hv : am_nv v)
    (h' : lv_has lsC' nL ((n, am_cv B0 b v) :: (am_lp B0 b ls).filter (fun q => !(q.1 == n) && (!(q.1 == n + 1) && !(q.1 + 1 == n && q.2.category == 2))))) : am_L B0 b nL ((ls.set n (some v)).set (n + 1) none) lsC' := by
  have hn1 : n < ls.length := by omega
  have hg : ∀ j, am_g ((ls.set n (some v)).set (n + 1) none) j = if j = n + 1 then none else if j = n then some v else am_g ls j := fun j => by
    rw [am_g_set (by rw [List.length_set]; exact hn), am_g_set hn1]
  refine ⟨by rw [List.length_set, List.length_set]; exact h.1, ⟨h'.1, h'.2.1, fun q hq => ?_⟩, fun j w hw => ?_⟩
  · obtain ⟨j, w, hj, rfl⟩ := am_lp_mem.mp hq
    rw [hg] at hj
    by_cases hj1 : j = n + 1
    · rw [if_pos hj1] at hj
      cases hj
    · rw [if_neg hj1] at hj
      by_cases hjn : j = n
      · rw [if_pos hjn] at hj
        cases hj
        subst hjn
        exact h'.2.2 _ List.mem_cons_self
      · rw [if_neg hjn] at hj
        refine h'.2.2 _ (List.mem_cons_of_mem _ (List.mem_filter.mpr ⟨am_lp_mem.mpr ⟨j, w, hj, rfl⟩, ?_⟩))
        have : ¬ j + 1 = n ∨ ¬ (am_cv B0 b w).category = 2 := by
          by_cases h1 : j + 1 = n
          · exact Or.inr (by rw [am_cat_cv, am_lf_i hf h1 hj]; decide)
          · exact Or.inl h1
        simpa [hjn, hj1] using this
  · rw [hg] at hw
    by_cases hj1 : j = n + 1
    · rw [if_pos hj1] at hw
      cases hw
    · rw [if_neg hj1] at hw
      by_cases hjn : j = n
      · rw [if_pos hjn] at hw
        cases hw
        exact hv
      · rw [if_neg hjn] at hw
        exact h.2.2 j w hw
/-- fewer locals -/
theorem am_L_drop {B0 b nL : Nat} {ls : List (Option am_V)} {lsC : Array Slot} {n : Nat} (h : am_L B0 b nL ls lsC) : am_L B0 b nL (ls.set n none) lsC := by
  by_cases hn : n < ls.length
  · have hg : ∀ j w, am_g (ls.set n none) j = some w → am_g ls j = some w := fun j w hw => by
      rw [am_g_set hn] at hw
      by_cases hjn : j = n
      · rw [if_pos hjn] at hw
        cases hw
      · rwa [if_neg hjn] at hw
    refine ⟨by rw [List.length_set]; exact h.1, ⟨h.2.1.1, h.2.1.2.1, fun q hq => ?_⟩, fun j w hw => h.2.2 j w (hg j w hw)⟩
    obtain ⟨j, w, hj, rfl⟩ := am_lp_mem.mp hq
    exact am_L_at h (hg j w hj)
  · rw [List.set_eq_of_length_le (by omega)]
    exact h
section AML
variable {p : Program} {l : Launch} {e : Env} {R : Room} {s : State} {m : MethodId} {args : Array Value} {below : List Frame} {meth : Method} {c : Code} {H : Heap} {locs : List Loc} {cells slots : Nat} {Q : State → Prop}
variable {cc : ByteArray} {pc : Nat} {lsC : Array Slot} {B0 b nL : Nat} {ls : List (Option am_V)}
theorem am_gi_i {n : Nat} {v : am_V} (h : am_gi ls n = some v) : ∃ z, v = .inl z ∧ am_g ls n = some (.inl z) := by
  unfold am_gi at h
  split at h <;> cases h
  exact ⟨_, rfl, by assumption⟩
theorem am_gl_i {n : Nat} {v : am_V} (h : am_gl ls n = some v) : ∃ z, v = .inr (.inl z) ∧ am_g ls n = some (.inr (.inl z)) := by
  unfold am_gl at h
  split at h <;> cases h
  exact ⟨_, rfl, by assumption⟩
theorem am_ga_i {n : Nat} {v : am_V} (h : am_ga ls n = some v) : ∃ r, v = .inr (.inr r) ∧ am_g ls n = some (.inr (.inr r)) := by
  unfold am_ga at h
  split at h <;> cases h
  exact ⟨_, rfl, by assumption⟩
theorem am_W_ld (hx : p.tables.exec = Jvm.exec) (hb : c.code = cc) (hL : am_L B0 b nL ls lsC) {i : Instr} {len : Nat} {st : List am_V} {v : am_V} (hd : decode cc pc = .ok (i, len)) (hl : len = am_ln i) (hs : am_ld i ls = some v) (hn : ∀ v ∈ st, am_nv v)
    (k : (∀ w ∈ v :: st, am_nv w) → W p l e R s m args below meth c H locs cells slots Q (F0 m (pc + len) lsC ((v :: st).map (am_cv B0 b)))) : W p l e R s m args below meth c H locs cells slots Q (F0 m pc lsC (st.map (am_cv B0 b))) := by
  subst hl
  unfold am_ld at hs
  split at hs
  · obtain ⟨z, rfl, hg⟩ := am_gi_i hs
    exact lv_iload hx hb hd (am_L_at hL hg) (k (am_ncc (hL.2.2 _ _ hg) hn))
  · obtain ⟨z, rfl, hg⟩ := am_gi_i hs
    exact lv_iload_n hx hb hd rfl (am_L_at hL hg) (k (am_ncc (hL.2.2 _ _ hg) hn))
  · obtain ⟨z, rfl, hg⟩ := am_gl_i hs
    exact lv_lload hx hb hd (am_L_at hL hg) (k (am_ncc (hL.2.2 _ _ hg) hn))
  · obtain ⟨z, rfl, hg⟩ := am_gl_i hs
    exact lv_lload_n hx hb hd rfl (am_L_at hL hg) (k (am_ncc (hL.2.2 _ _ hg) hn))
  · obtain ⟨r, rfl, hg⟩ := am_ga_i hs
    cases r with
    | none => exact lv_aloadN hx hb hd (am_L_at hL hg) (k (am_ncc trivial hn))
    | some r => exact lv_aload hx hb hd (am_L_at hL hg) (k (am_ncc trivial hn))
  · obtain ⟨r, rfl, hg⟩ := am_ga_i hs
    cases r with
    | none => exact lv_aload_nN hx hb hd rfl (am_L_at hL hg) (k (am_ncc trivial hn))
    | some r => exact lv_aload_n hx hb hd rfl (am_L_at hL hg) (k (am_ncc trivial hn))
  · cases hs
theorem am_s1_i {n : Nat} {v : am_V} {ls' : List (Option am_V)} (h : am_s1 ls n v = some ls') : n < ls.length ∧ am_lf ls n = true ∧ ls' = ls.set n (some v) := by
  unfold am_s1 at h
  split at h <;> cases h
  rename_i h0
  exact ⟨h0.1, h0.2, rfl⟩
theorem am_s3_i {n : Nat} {v : am_V} {ls' : List (Option am_V)} (h : am_s3 ls n v = some ls') : n + 1 < ls.length ∧ am_lf ls n = true ∧ ls' = (ls.set n (some v)).set (n + 1) none := by
  unfold am_s3 at h
  split at h <;> cases h
  rename_i h0
  exact ⟨h0.1, h0.2, rfl⟩
theorem am_si_i {n : Nat} {st : List am_V} {q : List (Option am_V) × List am_V} (h : am_si ls n st = some q) : ∃ z r, st = .inl z :: r ∧ am_s1 ls n (.inl z) = some q.1 ∧ q.2 = r := by
  unfold am_si at h
  split at h
  · split at h <;> cases h
    exact ⟨_, _, rfl, by assumption, rfl⟩
  · cases h
theorem am_sl_i {n : Nat} {st : List am_V} {q : List (Option am_V) × List am_V} (h : am_sl ls n st = some q) : ∃ z r, st = .inr (.inl z) :: r ∧ am_s3 ls n (.inr (.inl z)) = some q.1 ∧ q.2 = r := by
  unfold am_sl at h
  split at h
  · split at h <;> cases h
    exact ⟨_, _, rfl, by assumption, rfl⟩
  · cases h
theorem am_sa_i {n : Nat} {st : List am_V} {q : List (Option am_V) × List am_V} (h : am_sa ls n st = some q) : ∃ x r, st = .inr (.inr x) :: r ∧ am_s1 ls n (.inr (.inr x)) = some q.1 ∧ q.2 = r := by
  unfold am_sa at h
  split at h
  · split at h <;> cases h
    exact ⟨_, _, rfl, by assumption, rfl⟩
  · cases h
theorem am_W_st (hx : p.tables.exec = Jvm.exec) (hb : c.code = cc) (hL : am_L B0 b nL ls lsC) {i : Instr} {len : Nat} {st st' : List am_V} {ls' : List (Option am_V)} (hd : decode cc pc = .ok (i, len)) (hl : len = am_ln i) (hs : am_st i ls st = some (ls', st')) (hn : ∀ v ∈ st, am_nv v)
    (k : (∀ w ∈ st', am_nv w) → ∀ lsC', am_L B0 b nL ls' lsC' → W p l e R s m args below meth c H locs cells slots Q (F0 m (pc + len) lsC' (st'.map (am_cv B0 b)))) : W p l e R s m args below meth c H locs cells slots Q (F0 m pc lsC (st.map (am_cv B0 b))) := by
  subst hl
  have hnL := hL.1
  unfold am_st at hs
  split at hs
  · obtain ⟨z, r, rfl, h1, rfl⟩ := am_si_i hs
    obtain ⟨a1, a2, a3⟩ := am_s1_i h1
    dsimp only at a3; subst a3
    exact lv_istore hx hb hd hL.2.1 (by omega) rfl (fun lsC' h' => k (am_nc hn).2 lsC' (am_L_set hL a1 a2 (am_nc hn).1 h'))
  · obtain ⟨z, r, rfl, h1, rfl⟩ := am_si_i hs
    obtain ⟨a1, a2, a3⟩ := am_s1_i h1
    dsimp only at a3; subst a3
    exact lv_istore_n hx hb hd rfl hL.2.1 (by omega) rfl (fun lsC' h' => k (am_nc hn).2 lsC' (am_L_set hL a1 a2 (am_nc hn).1 h'))
  · obtain ⟨z, r, rfl, h1, rfl⟩ := am_sl_i hs
    obtain ⟨a1, a2, a3⟩ := am_s3_i h1
    dsimp only at a3; subst a3
    exact lv_lstore hx hb hd hL.2.1 (by omega) rfl (fun lsC' h' => k (am_nc hn).2 lsC' (am_L_set2 hL a1 a2 (am_nc hn).1 h'))
  · obtain ⟨z, r, rfl, h1, rfl⟩ := am_sl_i hs
    obtain ⟨a1, a2, a3⟩ := am_s3_i h1
    dsimp only at a3; subst a3
    exact lv_lstore_n hx hb hd rfl hL.2.1 (by omega) rfl (fun lsC' h' => k (am_nc hn).2 lsC' (am_L_set2 hL a1 a2 (am_nc hn).1 h'))
  · obtain ⟨x, r, rfl, h1, rfl⟩ := am_sa_i hs
    obtain ⟨a1, a2, a3⟩ := am_s1_i h1
    dsimp only at a3; subst a3
    cases x with
    | none => exact lv_astoreN hx hb hd hL.2.1 (by omega) rfl (fun lsC' h' => k (am_nc hn).2 lsC' (am_L_set hL a1 a2 (v := .inr (.inr none)) trivial h'))
    | some x => exact lv_astore hx hb hd hL.2.1 (by omega) rfl (fun lsC' h' => k (am_nc hn).2 lsC' (am_L_set hL a1 a2 (v := .inr (.inr (some x))) trivial h'))
  · obtain ⟨x, r, rfl, h1, rfl⟩ := am_sa_i hs
    obtain ⟨a1, a2, a3⟩ := am_s1_i h1
    dsimp only at a3; subst a3
    cases x with
    | none => exact lv_astore_nN hx hb hd rfl hL.2.1 (by omega) rfl (fun lsC' h' => k (am_nc hn).2 lsC' (am_L_set hL a1 a2 (v := .inr (.inr none)) trivial h'))
    | some x => exact lv_astore_n hx hb hd rfl hL.2.1 (by omega) rfl (fun lsC' h' => k (am_nc hn).2 lsC' (am_L_set hL a1 a2 (v := .inr (.inr (some x))) trivial h'))
  · split at hs
    · split at hs
      · rename_i n d h0 x0 z hg
        split at hs <;> cases hs
        rename_i h1
        obtain ⟨a1, a2, a3⟩ := am_s1_i h1
        subst a3
        obtain ⟨kk, hkk⟩ := List.getElem?_of_mem (am_lp_mem (B0 := B0) (b := b).mpr ⟨n, _, hg, rfl⟩)
        refine lv_iinc hx hb hd hL.2.1 hkk (v := Int32.ofInt (am_w (z + d))) ?_ (by omega) rfl (fun lsC' h' => k hn lsC' (am_L_set hL a1 a2 (v := .inl (am_w (z + d))) (am_wI _) h'))
        rw [am_w_of, Int32.ofInt_add]
      · cases hs
    · cases hs
  · cases hs
end AML
end
section
/-! ===== the cells: the abstract machine's among the machine's ===== -/
def am_nm (M : am_M) : Prop := ∀ (b c : Nat) (j : Int), if b = 44 then am_n64 (M b c j) else am_n32 (M b c j)
def am_TX (c : Nat) : u_T := match c with
  | 0 => TX0
  | 1 => TX1
  | 2 => TX2
  | 3 => TX3
  | 4 => TX4
  | _ => TX5
def am_tX (c : Nat) : Nat → FieldType := match c with
  | 0 => tyX0
  | 1 => tyX1
  | 2 => tyX2
  | 3 => tyX3
  | 4 => tyX4
  | _ => tyX5
def am_gn (g : Nat) : String := if g < 10 then am_cn g else RX4
theorem am_cl6 {c : Nat} (h : c < 6) : vwCl[c]? = some (am_cn c, am_TX c, am_fn c) := by
  rcases (show c = 0 ∨ c = 1 ∨ c = 2 ∨ c = 3 ∨ c = 4 ∨ c = 5 by omega) with rfl | rfl | rfl | rfl | rfl | rfl <;> rfl
theorem am_tX_ok {c : Nat} (h : c < 6) : ∀ k, k < am_fn c → parseFieldDescriptor (am_TX c k).2.2.1 = some (am_tX c k) := by
  rcases (show c = 0 ∨ c = 1 ∨ c = 2 ∨ c = 3 ∨ c = 4 ∨ c = 5 by omega) with rfl | rfl | rfl | rfl | rfl | rfl
  · exact tyX0_ok
  · exact tyX1_ok
  · exact tyX2_ok
  · exact tyX3_ok
  · exact tyX4_ok
  · exact tyX5_ok
theorem am_nmX {c : Nat} (h : c < 6) : ∀ a, a < am_fn c → ∀ b, b < am_fn c → a ≠ b → (am_TX c a).2.1 ≠ (am_TX c b).2.1 := by
  rcases (show c = 0 ∨ c = 1 ∨ c = 2 ∨ c = 3 ∨ c = 4 ∨ c = 5 by omega) with rfl | rfl | rfl | rfl | rfl | rfl
  · exact nmX0
  · exact nmX1
  · exact nmX2
  · exact nmX3
  · exact nmX4
  · exact nmX5
/-- what the fields' tables say -/
theorem am_fld : ∀ c, c < 6 → ∀ f, f < am_fn c → (am_TX c f).1 = am_cn c ∧ (am_TX c f).2.2.2 = am_isr c f ∧ (am_isr c f = false → am_tX c f = if am_isz c f = true then .boolean else .int) ∧ (am_isr c f = true → (am_tX c f).isReference = true) := by decide +kernel
/-- the words that stay -/
def am_wk (w : Cond) : Bool := match w with
  | .declares _ => true
  | .publicMethod _ => true
  | .unhidden _ _ _ => true
  | .castable _ _ => true
  | .methodLinkNest _ _ _ _ => true
  | w => goodWord w
theorem am_wmv {w : Cond} (hw : am_wk w = true) {s U : State} (hW : s.WarmedH U.vm) {a : Array Value} (h : w.before a s = true) (a' : Array Value) : w.before a' U = true := by
  cases w with
  | declares x => exact va_Nw.use rfl (va_Nw.warmD hW (va_Nw.of rfl h))
  | castable x y => exact va_Nw.use rfl (va_Nw.warmC hW (va_Nw.of rfl h))
  | methodLinkNest x y z u => exact va_Nw.use rfl (va_Nw.warmM hW (va_Nw.of rfl h))
  | publicMethod x => exact va_tabs rfl (rfl : (s.setVm U.vm).vm = U.vm) (Cond.faceAtom_setVm hW.alike _ rfl h)
  | unhidden x y z => exact va_tabs rfl (rfl : (s.setVm U.vm).vm = U.vm) (Cond.faceAtom_setVm hW.alike _ rfl h)
  | _ => exact word_at hW (good_of_word hw) h
def am_Ts : List Cond := lw_tbl.filter am_wk
theorem am_Ts_in {w : Cond} (h : w ∈ lw_tbl) (hw : am_wk w = true) : w ∈ am_Ts := List.mem_filter.mpr ⟨h, hw⟩
theorem am_wsX {c : Nat} (h : c < 6) : ∀ w ∈ u_ws (am_cn c) (am_TX c) (am_fn c), w ∈ am_Ts := by
  rcases (show c = 0 ∨ c = 1 ∨ c = 2 ∨ c = 3 ∨ c = 4 ∨ c = 5 by omega) with rfl | rfl | rfl | rfl | rfl | rfl <;> decide +kernel
theorem am_in_p {p : Nat} {w : Cond} (h : lw_tbl[p]? = some w) (hw : am_wk w = true) : w ∈ am_Ts := am_Ts_in (List.mem_of_getElem? h) hw
/-- the fields that are named: in their class, their words among the tables -/
def am_ftB (e : (Nat × Nat) × Nat × Nat × Nat) : Bool := decide (e.2.1 < 6) && decide (e.2.2.1 < am_fn e.2.1) && decide (lw_tbl[e.2.2.2]? = some (.fieldLink (am_gn e.1.1) e.1.2 (am_cn e.2.1) (am_TX e.2.1 e.2.2.1).2.1 (am_TX e.2.1 e.2.2.1).2.2.1))
theorem am_ft_ok : am_ft.all am_ftB = true := by decide +kernel
def am_krB (e : (Nat × Nat) × Int × Nat) : Bool := decide (-9223372036854775808 ≤ e.2.1) && decide (e.2.1 < 9223372036854775808) && decide (lw_tbl[e.2.2]? = some (.constantLong (am_gn e.1.1) e.1.2 (Int64.ofInt e.2.1)))
theorem am_kr_ok : am_kr.all am_krB = true := by decide +kernel
theorem am_lk {α : Type} {l : List ((Nat × Nat) × α)} {k : Nat × Nat} {v : α} (h : l.lookup k = some v) : (k, v) ∈ l := by
  induction l with
  | nil => cases h
  | cons a t ih =>
    obtain ⟨k', v'⟩ := a
    rw [List.lookup_cons] at h
    split at h
    · rename_i he
      cases h
      have : k = k' := by simpa using he
      subst this
      exact List.mem_cons_self
    · exact List.mem_cons_of_mem _ (ih h)
theorem am_fl_i {k idx c f : Nat} (h : am_fl k idx = some (c, f)) : c < 6 ∧ f < am_fn c ∧ Cond.fieldLink (am_gn (am_mt k).1) idx (am_cn c) (am_TX c f).2.1 (am_TX c f).2.2.1 ∈ am_Ts := by
  unfold am_fl at h
  split at h
  · rename_i t ht
    cases h
    have h1 := List.all_eq_true.mp am_ft_ok _ (am_lk ht)
    simp only [am_ftB, Bool.and_eq_true, decide_eq_true_eq] at h1
    exact ⟨h1.1.1, h1.1.2, am_in_p h1.2 rfl⟩
  · cases h
theorem am_kl_i {k idx : Nat} {z : Int} (h : am_kl k idx = some z) : am_n64 z ∧ Cond.constantLong (am_gn (am_mt k).1) idx (Int64.ofInt z) ∈ am_Ts := by
  unfold am_kl at h
  split at h
  · rename_i t ht
    cases h
    have h1 := List.all_eq_true.mp am_kr_ok _ (am_lk ht)
    simp only [am_krB, Bool.and_eq_true, decide_eq_true_eq] at h1
    exact ⟨h1.1, am_in_p h1.2 rfl⟩
  · cases h
theorem am_mts_ok : am_mts.all (fun t => am_gn t.1 == am_cn t.2.1) = true := by decide +kernel
/-! the table of the cells -/
theorem am_tab_len : am_tab.length = 194 := by decide +kernel
def am_tabB (i : Nat) : Bool := match am_tab[i]? with
  | some t => am_ix t.1 == i && (t.1 != (45, 0)) && decide (t.2.2 < 10000) && ((decide (t.2.1 < 6) && t.2.2 == am_fn t.2.1) || (decide (6 ≤ t.2.1) && decide (t.2.1 ≤ 10))) && ((t.2.1 == 9) == (t.1.1 == 44))
  | none => false
theorem am_tab_ok : (List.range 194).all am_tabB = true := by decide +kernel
theorem am_tab_i {i : Nat} {t : am_R × Nat × Nat} (h : am_tab[i]? = some t) : i < 194 ∧ am_ix t.1 = i ∧ t.1 ≠ (45, 0) ∧ t.2.2 < 10000 ∧ ((t.2.1 < 6 ∧ t.2.2 = am_fn t.2.1) ∨ (6 ≤ t.2.1 ∧ t.2.1 ≤ 10)) ∧ (t.2.1 = 9 ↔ t.1.1 = 44) := by
  have hi : i < 194 := by rw [← am_tab_len]; exact (List.getElem?_eq_some_iff.mp h).1
  have h1 := List.all_eq_true.mp am_tab_ok i (List.mem_range.mpr hi)
  unfold am_tabB at h1
  rw [h] at h1
  simp only [Bool.and_eq_true, Bool.or_eq_true, beq_iff_eq, decide_eq_true_eq, bne_iff_ne, ne_eq] at h1
  obtain ⟨⟨⟨⟨h2, h3⟩, h4⟩, h5⟩, h6⟩ := h1
  refine ⟨hi, h2, h3, h4, h5, ?_⟩
  have h7 : decide (t.2.1 = 9) = decide (t.1.1 = 44) := h6
  constructor
  · intro h8
    simpa [h8] using h7.symm
  · intro h8
    simpa [h8] using h7
theorem am_ix_i {r : am_R} {t : am_R × Nat × Nat} (h : am_tab[am_ix r]? = some t) : t.1 = r := by
  have hlt : am_tab.findIdx (fun t => t.1 == r) < am_tab.length := (List.getElem?_eq_some_iff.mp h).1
  have h1 := List.findIdx_getElem (w := hlt)
  have h2 : am_tab[am_tab.findIdx (fun t => t.1 == r)] = t := (List.getElem?_eq_some_iff.mp h).2
  rw [h2] at h1
  simpa using h1
theorem am_kd_i {E : am_E} {r : am_R} {c n : Nat} (h : am_kd E r = some (c, n)) : (r = (45, 0) ∧ c = 12 ∧ n = E.2.2.1) ∨ (r ≠ (45, 0) ∧ am_ix r < E.1 ∧ am_tab[am_ix r]? = some (r, c, n)) := by
  unfold am_kd at h
  split at h
  · rename_i hr
    cases h
    exact Or.inl ⟨hr, rfl, rfl⟩
  · rename_i hr
    split at h
    · rename_i hlt
      split at h
      · rename_i t ht
        have h2 := Option.some.inj h
        have h3 := am_ix_i ht
        refine Or.inr ⟨hr, hlt, ?_⟩
        rw [ht]
        obtain ⟨t1, t2⟩ := t
        dsimp only at h2 h3
        rw [h3, h2]
      · cases h
    · cases h
def am_fv (B0 b : Nat) (E : am_E) (M : am_M) (r : am_R) (c k : Nat) : Value := if am_isr c k = true then va_rf ((am_rf E r k).map (am_ad B0 b)) else .int (Int32.ofInt (M r.1 r.2 k))
def am_ce (cy : Nat → ClassId) (B0 b : Nat) (E : am_E) (M : am_M) (t : am_R × Nat × Nat) : va_E :=
  if t.2.1 < 6 then .inr (t.2.1, (List.range t.2.2).map (am_fv B0 b E M t.1 t.2.1))
  else if t.2.1 = 9 then .inl (cy 9, t.2.2, .inr (.inl (fun j => Int64.ofInt (M t.1.1 t.1.2 j))))
  else if t.2.1 = 10 then .inl (cy 10, t.2.2, .inr (.inr (.inr (.inr (fun j => (am_rf E t.1 j).map (am_ad B0 b))))))
  else .inl (cy t.2.1, t.2.2, .inl (fun j => Int32.ofInt (M t.1.1 t.1.2 j)))
def am_cl1 (cy : Nat → ClassId) (B0 b : Nat) (E : am_E) (M : am_M) (i : Nat) : va_E := match am_tab[i]? with
  | some t => am_ce cy B0 b E M t
  | none => .inr (0, [])
def am_ws (cy : Nat → ClassId) (B0 b : Nat) (E : am_E) (M : am_M) : va_W := (List.range E.1).map (fun i => (B0 + i, am_cl1 cy B0 b E M i))
theorem am_ws_get {cy : Nat → ClassId} {B0 b : Nat} {E : am_E} {M : am_M} {i : Nat} {t : am_R × Nat × Nat} (hi : i < E.1) (ht : am_tab[i]? = some t) : (am_ws cy B0 b E M)[i]? = some (B0 + i, am_ce cy B0 b E M t) := by
  unfold am_ws am_cl1
  rw [List.getElem?_map, List.getElem?_range hi, Option.map_some, ht]
theorem am_ws_D (cy : Nat → ClassId) (B0 b : Nat) (E : am_E) (M : am_M) : va_D (fun q => B0 ≤ q) (am_ws cy B0 b E M) := by
  have key : ∀ (k : Nat) (q : Nat × va_E), (am_ws cy B0 b E M)[k]? = some q → q.1 = B0 + k := fun k q h => by
    unfold am_ws at h
    rw [List.getElem?_map] at h
    have hk : k < E.1 := by
      rcases Nat.lt_or_ge k E.1 with h0 | h0
      · exact h0
      · rw [List.getElem?_eq_none (by rw [List.length_range]; exact h0)] at h
        cases h
    rw [List.getElem?_range hk] at h
    cases h
    rfl
  refine ⟨fun i j p q hp hq he => ?_, fun k q h => ?_⟩
  · rw [key i p hp, key j q hq] at he
    omega
  · show B0 ≤ q.1
    rw [key k q h]
    omega
theorem am_ws_set {cy : Nat → ClassId} {B0 b : Nat} {E E' : am_E} {M M' : am_M} {i : Nat} {t : am_R × Nat × Nat} (ht : am_tab[i]? = some t) (hE : E'.1 = E.1)
    (h : ∀ (j : Nat) (t' : am_R × Nat × Nat), j ≠ i → am_tab[j]? = some t' → am_ce cy B0 b E' M' t' = am_ce cy B0 b E M t') : (am_ws cy B0 b E M).set i (B0 + i, am_ce cy B0 b E' M' t) = am_ws cy B0 b E' M' := by
  apply List.ext_getElem?
  intro j
  unfold am_ws
  rw [hE]
  by_cases hj : j = i
  · subst hj
    by_cases hl : j < E.1
    · rw [List.getElem?_set_self (by rw [List.length_map, List.length_range]; exact hl), List.getElem?_map, List.getElem?_range hl]
      simp [am_cl1, ht]
    · rw [List.getElem?_eq_none (by rw [List.length_set, List.length_map, List.length_range]; omega), List.getElem?_eq_none (by rw [List.length_map, List.length_range]; omega)]
  · rw [List.getElem?_set_ne (Ne.symm hj), List.getElem?_map, List.getElem?_map]
    by_cases hl : j < E.1
    · rw [List.getElem?_range hl]
      simp only [Option.map_some, am_cl1]
      split
      · rename_i t' ht'
        rw [h j t' hj ht']
      · rfl
    · rw [List.getElem?_eq_none (by rw [List.length_range]; omega)]
      rfl
/-- what the tables, statics and strings say at a method's start -/
def am_tys (cy : Nat → ClassId) : List (ClassId × FieldType) := [(cy 6, .int), (cy 7, .char), (cy 8, .boolean), (cy 9, .long), (cy 10, .object RX3)]
def am_F (dC : Nat → ClassId) (dI : Nat → Nat → Nat) (cy : Nat → ClassId) (B0 b L : Nat) (xs : Nat → Int32) (s : State) : Prop :=
  (∀ w ∈ am_Ts, ∀ a, w.before a s = true) ∧ va_K (dC, dI) vwCl (am_tys cy) s ∧ va_X b L xs s s.heap ∧ b < B0 ∧ B0 ≤ s.heap.size ∧ L ≤ 2048 ∧
  vx_Zq Bundle.tN "UNASSIGNED_STACK" Bundle.steD (fun q => B0 ≤ q) s s.heap ∧ vx_Zq Bundle.tN "SUPPRESSED_SENTINEL" Bundle.listD (fun q => B0 ≤ q) s s.heap ∧
  (∀ q ∈ am_strs, ∃ a, vk_R q.1 q.2.1 q.2.2 a s) ∧ va_AO RX3 s ∧ ∀ x y, x < 3 → y < 3 → x ≠ y → va_Nc (am_xn x) (am_xn y) s
/-- the heap holds the abstract machine's cells -/
def am_H (dC : Nat → ClassId) (dI : Nat → Nat → Nat) (cy : Nat → ClassId) (B0 b L : Nat) (xs : Nat → Int32) (E : am_E) (M : am_M) (H : Heap) : Prop :=
  va_P (dC, dI) vwCl (am_ws cy B0 b E M) H ∧ am_nm M ∧ E.1 ≤ 194 ∧ E.2.2.1 = L ∧ ∀ j : Nat, j < L → M 45 0 j = (xs j).toInt
end
section
/-! ===== reads of the heap ===== -/
theorem am_ad_of {B0 b : Nat} {r : am_R} (h : r ≠ (45, 0)) : am_ad B0 b r = B0 + am_ix r := if_neg h
theorem am_ar_i {E : am_E} {r : am_R} {k : Nat} {i : Int} (h : am_ar E r k i = true) : ∃ n, am_kd E r = some (k, n) ∧ 0 ≤ i ∧ i < (n : Int) := by
  unfold am_ar at h
  split at h
  · rename_i k' n hk
    simp only [Bool.and_eq_true, beq_iff_eq, decide_eq_true_eq] at h
    obtain ⟨⟨rfl, h2⟩, h3⟩ := h
    exact ⟨n, hk, h2, h3⟩
  · cases h
theorem am_ob_i {E : am_E} {r : am_R} {c : Nat} (h : am_ob E r c = true) : ∃ n, am_kd E r = some (c, n) := by
  unfold am_ob at h
  split at h
  · rename_i k' n hk
    have : k' = c := by simpa using h
    subst this
    exact ⟨n, hk⟩
  · cases h
theorem am_ob_c {E : am_E} {r : am_R} {c : Nat} (h : am_ob E r c = true) (hc : c < 6) : r ≠ (45, 0) ∧ am_ix r < E.1 ∧ am_tab[am_ix r]? = some (r, c, am_fn c) := by
  obtain ⟨n, hk⟩ := am_ob_i h
  rcases am_kd_i hk with ⟨h1, h2, h3⟩ | ⟨h1, h2, h3⟩
  · omega
  · have h4 := (am_tab_i h3).2.2.2.2.1
    dsimp only at h4
    have h5 : n = am_fn c := by omega
    subst h5
    exact ⟨h1, h2, h3⟩
theorem am_ar_c {E : am_E} {r : am_R} {c : Nat} {i : Int} (h : am_ar E r c i = true) (hc : c ≠ 12) : ∃ n, r ≠ (45, 0) ∧ am_ix r < E.1 ∧ am_tab[am_ix r]? = some (r, c, n) ∧ 0 ≤ i ∧ i < (n : Int) := by
  obtain ⟨n, hk, h4, h5⟩ := am_ar_i h
  rcases am_kd_i hk with ⟨h1, h2, h3⟩ | ⟨h1, h2, h3⟩
  · exact absurd h2 hc
  · exact ⟨n, h1, h2, h3, h4, h5⟩
theorem am_nm_i {M : am_M} (h : am_nm M) {b c : Nat} {j : Int} (hb : b ≠ 44) : am_n32 (M b c j) := by
  have := h b c j
  rwa [if_neg hb] at this
theorem am_nm_j {M : am_M} (h : am_nm M) {c : Nat} {j : Int} : am_n64 (M 44 c j) := by
  have := h 44 c j
  rwa [if_pos rfl] at this
theorem am_ofnat (n : Nat) : Int32.ofNat n = Int32.ofInt (n : Int) := rfl
section AMR
variable {p : Program} {l : Launch} {e : Env} {R : Room} {s : State} {m : MethodId} {args : Array Value} {below : List Frame} {meth : Method} {c : Code} {H : Heap} {locs : List Loc} {cells slots : Nat} {Q : State → Prop}
variable {cc : ByteArray} {pc : Nat} {lsC : Array Slot} {dC : Nat → ClassId} {dI : Nat → Nat → Nat} {cy : Nat → ClassId} {B0 b L : Nat} {xs : Nat → Int32} {E : am_E} {M : am_M} {k : Nat}
theorem am_W_rd (hx : p.tables.exec = Jvm.exec) (hb : c.code = cc) (hF : am_F dC dI cy B0 b L xs s) (hown : s.vm.findClass (am_gn (am_mt k).1) = some m.cls) (hH : am_H dC dI cy B0 b L xs E M H) (hS : va_S (fun q => B0 ≤ q) s.heap H locs)
    {i : Instr} {len : Nat} {st st' : List am_V} (hd : decode cc pc = .ok (i, len)) (hl : len = am_ln i) (hs : am_rd k i st E M = some st') (hn : ∀ v ∈ st, am_nv v)
    (kk : (∀ v ∈ st', am_nv v) → W p l e R s m args below meth c H locs cells slots Q (F0 m (pc + len) lsC (st'.map (am_cv B0 b)))) : W p l e R s m args below meth c H locs cells slots Q (F0 m pc lsC (st.map (am_cv B0 b))) := by
  subst hl
  obtain ⟨hw, hK, hX, hbB, hBs, hL, -, -, -, -, -⟩ := hF
  have hts : ∀ w ∈ am_Ts, w.before args s = true := fun w h => hw w h args
  obtain ⟨hP, hM, -, hEL, hsc⟩ := hH
  unfold am_rd at hs
  split at hs
  · split at hs
    · rename_i idx _ _ r rest c f hfl
      split at hs <;> cases hs
      rename_i hob
      obtain ⟨h6, hf, hlk⟩ := am_fl_i hfl
      obtain ⟨hr, hlt, ht⟩ := am_ob_c hob h6
      show W _ _ _ _ _ _ _ _ _ _ _ _ _ _ _ (F0 m pc lsC (.ref (am_ad B0 b r) :: rest.map (am_cv B0 b)))
      rw [am_ad_of hr]
      have he := am_ws_get (cy := cy) (B0 := B0) (b := b) (M := M) hlt ht
      unfold am_ce at he
      rw [if_pos h6] at he
      have hq := am_fld c h6 f hf
      refine va_get (v := am_fv B0 b E M r c f) hx hb hts (am_wsX h6) hown hK hP (am_ix r) he (am_cl6 h6) f hf (hts _ hlk) (fun x h => by rw [hq.1] at h; exact h) ?_ hd ?_
      · rw [List.getElem?_map, List.getElem?_range hf]; rfl
      · have e1 : am_cv B0 b (bif am_isr c f then am_rv (am_rf E r f) else am_I (M r.1 r.2 f)) = am_fv B0 b E M r c f := by
          unfold am_fv
          cases am_isr c f <;> rfl
        have h44 : r.1 ≠ 44 := fun h => by
          have := (am_tab_i ht).2.2.2.2.2
          dsimp only at this
          omega
        rw [← e1]
        refine kk (am_ncc ?_ (am_nc hn).2)
        cases am_isr c f
        · exact am_nm_i hM h44
        · trivial
    · cases hs
  · split at hs
    · rename_i _ i r rest
      have hi : am_n32 i := (am_nc hn).1
      split at hs <;> cases hs
      rename_i har
      rcases har with har | har
      · obtain ⟨n, hr, hlt, ht, h0, h1⟩ := am_ar_c har (by decide)
        obtain ⟨g1, g2⟩ := am_in h0 h1 hi
        show W _ _ _ _ _ _ _ _ _ _ _ _ _ _ _ (F0 m pc lsC (.int (Int32.ofInt i) :: .ref (am_ad B0 b r) :: rest.map (am_cv B0 b)))
        rw [am_ad_of hr]
        have he := am_ws_get (cy := cy) (B0 := B0) (b := b) (M := M) hlt ht
        have h44 : r.1 ≠ 44 := fun h => by
          have := (am_tab_i ht).2.2.2.2.2
          dsimp only at this
          omega
        refine va_iald hx hb hK hP (am_ix r) 0 he rfl g1 hd ?_
        rw [g2, Int.toNat_of_nonneg h0]
        exact kk (am_ncc (am_nm_i hM h44) (am_nc (am_nc hn).2).2)
      · obtain ⟨n, hk, h0, h1⟩ := am_ar_i har
        rcases am_kd_i hk with ⟨rfl, -, rfl⟩ | ⟨q1, q2, q3⟩
        · rw [hEL] at h1
          obtain ⟨g1, g2⟩ := am_in h0 h1 hi
          show W _ _ _ _ _ _ _ _ _ _ _ _ _ _ _ (F0 m pc lsC (.int (Int32.ofInt i) :: .ref b :: rest.map (am_cv B0 b)))
          refine va_sld hx hb hX (by omega) (show ¬ B0 ≤ b by omega) hS g1 hd ?_
          rw [g2]
          have e2 : M 45 0 i = (xs i.toNat).toInt := by
            have := hsc i.toNat (by omega)
            rwa [Int.toNat_of_nonneg h0] at this
          have e3 : xs i.toNat = Int32.ofInt (M 45 0 i) := by rw [e2, am_ofI]
          rw [e3]
          exact kk (am_ncc (am_nm_i hM (by decide)) (am_nc (am_nc hn).2).2)
        · have := (am_tab_i q3).2.2.2.2.1
          dsimp only at this
          omega
    · cases hs
  · split at hs
    · rename_i _ i r rest
      have hi : am_n32 i := (am_nc hn).1
      split at hs <;> cases hs
      rename_i har
      obtain ⟨n, hr, hlt, ht, h0, h1⟩ := am_ar_c har (by decide)
      obtain ⟨g1, g2⟩ := am_in h0 h1 hi
      show W _ _ _ _ _ _ _ _ _ _ _ _ _ _ _ (F0 m pc lsC (.int (Int32.ofInt i) :: .ref (am_ad B0 b r) :: rest.map (am_cv B0 b)))
      rw [am_ad_of hr]
      have he := am_ws_get (cy := cy) (B0 := B0) (b := b) (M := M) hlt ht
      have h44 : r.1 ≠ 44 := fun h => by
        have := (am_tab_i ht).2.2.2.2.2
        dsimp only at this
        omega
      refine va_cald hx hb hK hP (am_ix r) 1 he rfl g1 hd ?_
      rw [g2, Int.toNat_of_nonneg h0]
      exact kk (am_ncc (am_nm_i hM h44) (am_nc (am_nc hn).2).2)
    · cases hs
  · split at hs
    · rename_i _ i r rest
      have hi : am_n32 i := (am_nc hn).1
      split at hs <;> cases hs
      rename_i har
      obtain ⟨n, hr, hlt, ht, h0, h1⟩ := am_ar_c har (by decide)
      obtain ⟨g1, g2⟩ := am_in h0 h1 hi
      show W _ _ _ _ _ _ _ _ _ _ _ _ _ _ _ (F0 m pc lsC (.int (Int32.ofInt i) :: .ref (am_ad B0 b r) :: rest.map (am_cv B0 b)))
      rw [am_ad_of hr]
      have he := am_ws_get (cy := cy) (B0 := B0) (b := b) (M := M) hlt ht
      have h44 : r.1 ≠ 44 := fun h => by
        have := (am_tab_i ht).2.2.2.2.2
        dsimp only at this
        omega
      refine va_zald hx hb hK hP (am_ix r) 2 he rfl g1 hd ?_
      rw [g2, Int.toNat_of_nonneg h0]
      exact kk (am_ncc (am_nm_i hM h44) (am_nc (am_nc hn).2).2)
    · cases hs
  · split at hs
    · rename_i _ i r rest
      have hi : am_n32 i := (am_nc hn).1
      split at hs <;> cases hs
      rename_i har
      obtain ⟨n, hr, hlt, ht, h0, h1⟩ := am_ar_c har (by decide)
      obtain ⟨g1, g2⟩ := am_in h0 h1 hi
      show W _ _ _ _ _ _ _ _ _ _ _ _ _ _ _ (F0 m pc lsC (.int (Int32.ofInt i) :: .ref (am_ad B0 b r) :: rest.map (am_cv B0 b)))
      rw [am_ad_of hr]
      have he := am_ws_get (cy := cy) (B0 := B0) (b := b) (M := M) hlt ht
      have h44 : r.1 = 44 := (am_tab_i ht).2.2.2.2.2.mp rfl
      refine va_lald hx hb hK hP (am_ix r) 3 he rfl g1 hd ?_
      rw [g2, Int.toNat_of_nonneg h0]
      refine kk (am_ncc ?_ (am_nc (am_nc hn).2).2)
      show am_n64 (M r.1 r.2 i)
      rw [h44]
      exact am_nm_j hM
    · cases hs
  · split at hs
    · rename_i _ i r rest
      have hi : am_n32 i := (am_nc hn).1
      split at hs <;> cases hs
      rename_i har
      obtain ⟨n, hr, hlt, ht, h0, h1⟩ := am_ar_c har (by decide)
      obtain ⟨g1, g2⟩ := am_in h0 h1 hi
      show W _ _ _ _ _ _ _ _ _ _ _ _ _ _ _ (F0 m pc lsC (.int (Int32.ofInt i) :: .ref (am_ad B0 b r) :: rest.map (am_cv B0 b)))
      rw [am_ad_of hr]
      have he := am_ws_get (cy := cy) (B0 := B0) (b := b) (M := M) hlt ht
      refine va_aldq hx hb hK hP (am_ix r) 4 he rfl g1 hd ?_
      rw [g2]
      exact kk (am_ncc trivial (am_nc (am_nc hn).2).2)
    · cases hs
  · split at hs
    · rename_i _ r rest
      split at hs
      · rename_i c n hk
        split at hs <;> cases hs
        rename_i h6
        rcases am_kd_i hk with ⟨rfl, -, rfl⟩ | ⟨hr, hlt, ht⟩
        · show W _ _ _ _ _ _ _ _ _ _ _ _ _ _ _ (F0 m pc lsC (.ref b :: rest.map (am_cv B0 b)))
          refine va_slen hx hb hX (by omega) (show ¬ B0 ≤ b by omega) hS hd ?_
          rw [hEL, am_ofnat] at *
          exact kk (am_ncc ⟨by omega, by omega⟩ (am_nc hn).2)
        · show W _ _ _ _ _ _ _ _ _ _ _ _ _ _ _ (F0 m pc lsC (.ref (am_ad B0 b r) :: rest.map (am_cv B0 b)))
          rw [am_ad_of hr]
          have he := am_ws_get (cy := cy) (B0 := B0) (b := b) (M := M) hlt ht
          have h7 := am_tab_i ht
          dsimp only at h7
          have h8 : c = 6 ∨ c = 7 ∨ c = 8 ∨ c = 9 ∨ c = 10 := by omega
          have kk' := kk (am_ncc (v := am_I n) (show am_n32 n from ⟨by omega, by omega⟩) (am_nc hn).2)
          rcases h8 with rfl | rfl | rfl | rfl | rfl
          · exact va_alen hx hb hK hP (am_ix r) 0 he rfl (am_ofnat n) hd kk'
          · exact va_alen hx hb hK hP (am_ix r) 1 he rfl (am_ofnat n) hd kk'
          · exact va_alen hx hb hK hP (am_ix r) 2 he rfl (am_ofnat n) hd kk'
          · exact va_alen hx hb hK hP (am_ix r) 3 he rfl (am_ofnat n) hd kk'
          · exact va_alen hx hb hK hP (am_ix r) 4 he rfl (am_ofnat n) hd kk'
      · cases hs
    · cases hs
  · split at hs
    · rename_i z hz
      cases hs
      obtain ⟨h1, h2⟩ := am_kl_i hz
      exact lv_ldc2 hx hb hown (hts _ h2) hd (kk (am_ncc h1 hn))
    · cases hs
  · cases hs
end AMR
end
section
/-! ===== writes into the heap ===== -/
theorem am_up_ne {M : am_M} {r r' : am_R} {j v : Int} (h : r' ≠ r) : am_up M r j v r'.1 r'.2 = M r'.1 r'.2 := by
  unfold am_up am_sb am_uy
  by_cases h1 : r'.1 = r.1
  · have h2 : r'.2 ≠ r.2 := fun h2 => h (Prod.ext h1 h2)
    simp only [h1, h2, if_true, if_false]
  · simp only [h1, if_false]
theorem am_up_at {M : am_M} {r : am_R} {j v j' : Int} : am_up M r j v r.1 r.2 j' = if j' = j then v else M r.1 r.2 j' := by
  unfold am_up am_sb am_uy
  simp only [if_true]
theorem am_ce_ne {cy : Nat → ClassId} {B0 b : Nat} {E : am_E} {M M' : am_M} {t : am_R × Nat × Nat} (h : M' t.1.1 t.1.2 = M t.1.1 t.1.2) : am_ce cy B0 b E M' t = am_ce cy B0 b E M t := by
  unfold am_ce am_fv
  rw [h]
theorem am_ce_srf {cy : Nat → ClassId} {B0 b : Nat} {E : am_E} {M : am_M} {t : am_R × Nat × Nat} {r v : am_R} {f : Nat} (h : t.1 ≠ r) : am_ce cy B0 b (am_srf E r f v) M t = am_ce cy B0 b E M t := by
  have e : ∀ k, am_rf (am_srf E r f v) t.1 k = am_rf E t.1 k := fun k => by
    unfold am_rf am_srf
    simp [h]
  unfold am_ce am_fv
  simp only [e]
theorem am_nm_up {M : am_M} {r : am_R} {j v : Int} (h : am_nm M) (hv : if r.1 = 44 then am_n64 v else am_n32 v) : am_nm (am_up M r j v) := by
  intro b c j'
  unfold am_up am_sb am_uy
  by_cases h1 : b = r.1
  · subst h1
    simp only [if_true]
    by_cases h2 : c = r.2
    · subst h2
      simp only [if_true]
      by_cases h3 : j' = j
      · simp only [h3, if_true]; exact hv
      · simp only [h3, if_false]; exact h _ _ _
    · simp only [h2, if_false]; exact h _ _ _
  · simp only [h1, if_false]; exact h _ _ _
theorem am_tab_ne {i j : Nat} {t t' : am_R × Nat × Nat} (h : am_tab[i]? = some t) (h' : am_tab[j]? = some t') (hj : j ≠ i) : t'.1 ≠ t.1 := fun he => by
  have h1 := (am_tab_i h).2.1
  have h2 := (am_tab_i h').2.1
  rw [he] at h2
  omega
theorem am_ar45 {E : am_E} {M : am_M} {r : am_R} {j v : Int} {L : Nat} {xs : Nat → Int32} (hr : r ≠ (45, 0)) (h : ∀ j : Nat, j < L → M 45 0 j = (xs j).toInt) : ∀ j' : Nat, j' < L → am_up M r j v 45 0 j' = (xs j').toInt := fun j' hj => by
  rw [← h j' hj]
  exact congrFun (am_up_ne (r' := (45, 0)) (Ne.symm hr)) _
theorem am_updE {f : Nat → Int32} {M : am_M} {r : am_R} {i : Int} {z : Int} (h0 : 0 ≤ i) (hf : f = fun j : Nat => Int32.ofInt (M r.1 r.2 j)) : upd f i.toNat (Int32.ofInt z) = fun j : Nat => Int32.ofInt (am_up M r i z r.1 r.2 j) := by
  funext j
  rw [am_up_at, hf]
  unfold upd
  by_cases h : j = i.toNat
  · rw [if_pos h, if_pos (by omega)]
  · rw [if_neg h, if_neg (by omega)]
theorem am_updEL {f : Nat → Int64} {M : am_M} {r : am_R} {i : Int} {z : Int} (h0 : 0 ≤ i) (hf : f = fun j : Nat => Int64.ofInt (M r.1 r.2 j)) : vp_updL f i.toNat (Int64.ofInt z) = fun j : Nat => Int64.ofInt (am_up M r i z r.1 r.2 j) := by
  funext j
  rw [am_up_at, hf]
  unfold vp_updL
  by_cases h : j = i.toNat
  · rw [if_pos h, if_pos (by omega)]
  · rw [if_neg h, if_neg (by omega)]
theorem am_nar_c {z : Int} (h0 : 0 ≤ z) (h1 : z < 65536) : vp_nar .char (Int32.ofInt z) = Int32.ofInt z := by
  rw [vp_nar_char]
  have h : z = ((z.toNat : Nat) : Int) := by omega
  have h2 : z.toNat < 65536 := by omega
  generalize z.toNat = n at h h2
  subst h
  apply Int32.toInt_inj.mp
  have e1 : (Int32.ofInt (n : Int)).toUInt32 = UInt32.ofNat n := by
    apply UInt32.toNat_inj.mp
    have e0 : (Int32.ofInt (n : Int)) = Int32.ofNat n := rfl
    rw [e0]
    rfl
  rw [e1]
  have e2 : (UInt32.ofNat n).toUInt16.toUInt32 = UInt32.ofNat n := by
    apply UInt32.toNat_inj.mp
    rw [UInt16.toNat_toUInt32, UInt32.toNat_toUInt16, UInt32.toNat_ofNat']
    omega
  rw [e2]
  rfl
theorem am_nar_z {z : Int} (h : z = 0 ∨ z = 1) : vp_nar .boolean (Int32.ofInt z) = Int32.ofInt z := by
  rcases h with rfl | rfl <;> decide
section AMWR
variable {p : Program} {l : Launch} {e : Env} {R : Room} {s : State} {m : MethodId} {args : Array Value} {below : List Frame} {meth : Method} {c : Code} {H : Heap} {locs : List Loc} {cells slots : Nat} {Q : State → Prop}
variable {cc : ByteArray} {pc : Nat} {lsC : Array Slot} {dC : Nat → ClassId} {dI : Nat → Nat → Nat} {cy : Nat → ClassId} {B0 b L : Nat} {xs : Nat → Int32} {E : am_E} {M : am_M} {k : Nat}
/-- behind a write of ints -/
theorem am_H_up {H1 : Heap} {r : am_R} {c' n : Nat} {j v : Int} (hH : am_H dC dI cy B0 b L xs E M H) (hr : r ≠ (45, 0)) (ht : am_tab[am_ix r]? = some (r, c', n)) (hv : if r.1 = 44 then am_n64 v else am_n32 v)
    {x : va_E} (hx : x = am_ce cy B0 b E (am_up M r j v) (r, c', n)) (hP : va_P (dC, dI) vwCl ((am_ws cy B0 b E M).set (am_ix r) (B0 + am_ix r, x)) H1) : am_H dC dI cy B0 b L xs E (am_up M r j v) H1 := by
  obtain ⟨-, h3, h4, h5, h6⟩ := hH
  subst hx
  refine ⟨?_, am_nm_up h3 hv, h4, h5, am_ar45 (E := E) hr h6⟩
  rwa [am_ws_set (E := E) (E' := E) (M' := am_up M r j v) ht rfl (fun j' t' hj ht' => am_ce_ne (am_up_ne (am_tab_ne ht ht' hj)))] at hP
theorem am_H_srf {H1 : Heap} {r v : am_R} {c' n f : Nat} (hH : am_H dC dI cy B0 b L xs E M H) (ht : am_tab[am_ix r]? = some (r, c', n))
    {x : va_E} (hx : x = am_ce cy B0 b (am_srf E r f v) M (r, c', n)) (hP : va_P (dC, dI) vwCl ((am_ws cy B0 b E M).set (am_ix r) (B0 + am_ix r, x)) H1) : am_H dC dI cy B0 b L xs (am_srf E r f v) M H1 := by
  obtain ⟨-, h3, h4, h5, h6⟩ := hH
  subst hx
  refine ⟨?_, h3, h4, h5, h6⟩
  rwa [am_ws_set (E := E) (E' := am_srf E r f v) (M' := M) ht rfl (fun j' t' hj ht' => am_ce_srf (am_tab_ne ht ht' hj))] at hP
theorem am_fs_set {n f : Nat} {v : Value} {g g' : Nat → Value} (hv : g' f = v) (h : ∀ j, j ≠ f → g' j = g j) : ((List.range n).map g).set f v = (List.range n).map g' := by
  apply List.ext_getElem?
  intro j
  by_cases hj : j = f
  · subst hj
    by_cases hl : j < n
    · rw [List.getElem?_set_self (by rw [List.length_map, List.length_range]; exact hl), List.getElem?_map, List.getElem?_range hl, Option.map_some, hv]
    · rw [List.getElem?_eq_none (by rw [List.length_set, List.length_map, List.length_range]; omega), List.getElem?_eq_none (by rw [List.length_map, List.length_range]; omega)]
  · rw [List.getElem?_set_ne (Ne.symm hj), List.getElem?_map, List.getElem?_map]
    by_cases hl : j < n
    · rw [List.getElem?_range hl, Option.map_some, Option.map_some, h j hj]
    · rw [List.getElem?_eq_none (by rw [List.length_range]; omega)]
      rfl
theorem am_refT {ty : FieldType} (h : ty.isReference = true) (a : Nat) : narrow ty (.ref a) = .ref a ∧ fits ty (.ref a) = true := by
  cases ty <;> first | exact ⟨rfl, rfl⟩ | cases h
theorem am_W_wr (hx : p.tables.exec = Jvm.exec) (hb : c.code = cc) (hF : am_F dC dI cy B0 b L xs s) (hown : s.vm.findClass (am_gn (am_mt k).1) = some m.cls) (hgn : am_gn (am_mt k).1 = am_cn (am_mt k).2.1) (hmn : (am_mt k).2.2.1.name = "<init>" → meth.name = "<init>") (hH : am_H dC dI cy B0 b L xs E M H) (hS : va_S (fun q => B0 ≤ q) s.heap H locs)
    {i : Instr} {len : Nat} {st st' : List am_V} {E' : am_E} {M' : am_M} (hd : decode cc pc = .ok (i, len)) (hl : len = am_ln i) (hs : am_wr k i st E M = some (st', E', M')) (hn : ∀ v ∈ st, am_nv v)
    (kk : (∀ v ∈ st', am_nv v) → ∀ H1 locs1, am_H dC dI cy B0 b L xs E' M' H1 → va_S (fun q => B0 ≤ q) s.heap H1 locs1 → W p l e R s m args below meth c H1 locs1 cells slots Q (F0 m (pc + len) lsC (st'.map (am_cv B0 b)))) : W p l e R s m args below meth c H locs cells slots Q (F0 m pc lsC (st.map (am_cv B0 b))) := by
  subst hl
  obtain ⟨hw, hK, hX, hbB, hBs, hL, -, -, -, -, -⟩ := hF
  have hts : ∀ w ∈ am_Ts, w.before args s = true := fun w h => hw w h args
  have hP := hH.1
  have hD := am_ws_D cy B0 b E M
  unfold am_wr at hs
  split at hs
  · split at hs
    · rename_i idx _ _ z r rest c f hfl
      split at hs <;> cases hs
      rename_i hob
      obtain ⟨hob, hisr, hz⟩ := hob
      obtain ⟨h6, hf, hlk⟩ := am_fl_i hfl
      obtain ⟨hr, hlt, ht⟩ := am_ob_c hob h6
      have hzn : am_n32 z := (am_nc hn).1
      show W _ _ _ _ _ _ _ _ _ _ _ _ _ _ _ (F0 m pc lsC (.int (Int32.ofInt z) :: .ref (am_ad B0 b r) :: st'.map (am_cv B0 b)))
      rw [am_ad_of hr]
      have he := am_ws_get (cy := cy) (B0 := B0) (b := b) (M := M) hlt ht
      unfold am_ce at he
      rw [if_pos h6] at he
      have hq := am_fld c h6 f hf
      have h44 : r.1 ≠ 44 := fun h => by
        have := (am_tab_i ht).2.2.2.2.2
        dsimp only at this
        omega
      have hty := hq.2.2.1 hisr
      have hnf : narrow (am_tX c f) (.int (Int32.ofInt z)) = .int (Int32.ofInt z) ∧ fits (am_tX c f) (.int (Int32.ofInt z)) = true := by
        rw [hty]
        cases hisz : am_isz c f
        · exact ⟨rfl, rfl⟩
        · rcases hz hisz with rfl | rfl <;> exact ⟨rfl, rfl⟩
      refine va_put (ty := am_tX c f) hx hb hts (am_wsX h6) (am_tX c) (am_tX_ok h6) (am_nmX h6) hown hK hP hD hS (am_ix r) he (am_cl6 h6) f hf (hts _ hlk) (fun x h => by rw [hq.1] at h; exact h) (by rw [hq.2.1]; exact hisr) (am_tX_ok h6 f hf) hnf.1 hnf.2 (by rw [List.length_map, List.length_range]; exact hf) hd (fun H1 locs1 hP1 _ hS1 => ?_)
      refine kk (am_nc (am_nc hn).2).2 H1 locs1 (am_H_up hH hr ht (by rw [if_neg h44]; exact hzn) ?_ hP1) hS1
      unfold am_ce
      rw [if_pos h6]
      congr 2
      refine am_fs_set ?_ (fun j hj => ?_)
      · unfold am_fv
        rw [if_neg (by rw [hisr]; decide), am_up_at, if_pos rfl]
      · unfold am_fv
        split
        · rfl
        · rw [am_up_at, if_neg (by omega)]
    · rename_i idx _ _ v r rest c f hfl
      split at hs <;> cases hs
      rename_i hob
      obtain ⟨hob, hisr, hini, hc⟩ := hob
      obtain ⟨h6, hf, hlk⟩ := am_fl_i hfl
      obtain ⟨hr, hlt, ht⟩ := am_ob_c hob h6
      show W _ _ _ _ _ _ _ _ _ _ _ _ _ _ _ (F0 m pc lsC (.ref (am_ad B0 b v) :: .ref (am_ad B0 b r) :: st'.map (am_cv B0 b)))
      rw [am_ad_of hr]
      have he := am_ws_get (cy := cy) (B0 := B0) (b := b) (M := M) hlt ht
      unfold am_ce at he
      rw [if_pos h6] at he
      have hq := am_fld c h6 f hf
      obtain ⟨hn1, hn2⟩ := am_refT (hq.2.2.2 hisr) (am_ad B0 b v)
      refine va_putF (ty := am_tX c f) hx hb hts (am_wsX h6) (am_tX c) (am_tX_ok h6) (am_nmX h6) hown hK hP hD hS (am_ix r) he (am_cl6 h6) f hf (hts _ hlk) (fun x h => by rw [hq.1] at h; exact h) (by rw [hq.2.1]; exact hisr) (hmn hini) (by rw [hq.1, hgn, hc]) (am_tX_ok h6 f hf) hn1 hn2 (by rw [List.length_map, List.length_range]; exact hf) hd (fun H1 locs1 hP1 _ hS1 => ?_)
      refine kk (am_nc (am_nc hn).2).2 H1 locs1 (am_H_srf hH ht ?_ hP1) hS1
      unfold am_ce
      rw [if_pos h6]
      congr 2
      refine am_fs_set ?_ (fun j hj => ?_)
      · unfold am_fv am_rf am_srf
        rw [if_pos hisr]
        simp [va_rf]
      · unfold am_fv am_rf am_srf
        simp [hj]
    · cases hs
  · split at hs
    · rename_i _ z i r rest
      have hzn : am_n32 z := (am_nc hn).1
      have hi : am_n32 i := (am_nc (am_nc hn).2).1
      split at hs <;> cases hs
      rename_i har
      obtain ⟨n, hr, hlt, ht, h0, h1⟩ := am_ar_c har (by decide)
      obtain ⟨g1, g2⟩ := am_in h0 h1 hi
      show W _ _ _ _ _ _ _ _ _ _ _ _ _ _ _ (F0 m pc lsC (.int (Int32.ofInt z) :: .int (Int32.ofInt i) :: .ref (am_ad B0 b r) :: st'.map (am_cv B0 b)))
      rw [am_ad_of hr]
      have he := am_ws_get (cy := cy) (B0 := B0) (b := b) (M := M) hlt ht
      have h44 : r.1 ≠ 44 := fun h => by
        have := (am_tab_i ht).2.2.2.2.2
        dsimp only at this
        omega
      refine va_iast hx hb hK hP hD hS (am_ix r) 0 he rfl g1 hd (fun H1 locs1 hP1 _ hS1 => ?_)
      refine kk (am_nc (am_nc (am_nc hn).2).2).2 H1 locs1 (am_H_up hH hr ht (by rw [if_neg h44]; exact hzn) ?_ hP1) hS1
      rw [g2, am_updE h0 rfl]
      rfl
    · cases hs
  · split at hs
    · rename_i _ z i r rest
      have hzn : am_n32 z := (am_nc hn).1
      have hi : am_n32 i := (am_nc (am_nc hn).2).1
      split at hs <;> cases hs
      rename_i har
      obtain ⟨har, hz0, hz1⟩ := har
      obtain ⟨n, hr, hlt, ht, h0, h1⟩ := am_ar_c har (by decide)
      obtain ⟨g1, g2⟩ := am_in h0 h1 hi
      show W _ _ _ _ _ _ _ _ _ _ _ _ _ _ _ (F0 m pc lsC (.int (Int32.ofInt z) :: .int (Int32.ofInt i) :: .ref (am_ad B0 b r) :: st'.map (am_cv B0 b)))
      rw [am_ad_of hr]
      have he := am_ws_get (cy := cy) (B0 := B0) (b := b) (M := M) hlt ht
      have h44 : r.1 ≠ 44 := fun h => by
        have := (am_tab_i ht).2.2.2.2.2
        dsimp only at this
        omega
      refine va_cast hx hb hK hP hD hS (am_ix r) 1 he rfl g1 hd (fun H1 locs1 hP1 _ hS1 => ?_)
      refine kk (am_nc (am_nc (am_nc hn).2).2).2 H1 locs1 (am_H_up hH hr ht (by rw [if_neg h44]; exact hzn) ?_ hP1) hS1
      rw [g2, am_nar_c hz0 hz1, am_updE h0 rfl]
      rfl
    · cases hs
  · split at hs
    · rename_i _ z i r rest
      have hzn : am_n32 z := (am_nc hn).1
      have hi : am_n32 i := (am_nc (am_nc hn).2).1
      split at hs <;> cases hs
      rename_i har
      obtain ⟨har, hz0⟩ := har
      obtain ⟨n, hr, hlt, ht, h0, h1⟩ := am_ar_c har (by decide)
      obtain ⟨g1, g2⟩ := am_in h0 h1 hi
      show W _ _ _ _ _ _ _ _ _ _ _ _ _ _ _ (F0 m pc lsC (.int (Int32.ofInt z) :: .int (Int32.ofInt i) :: .ref (am_ad B0 b r) :: st'.map (am_cv B0 b)))
      rw [am_ad_of hr]
      have he := am_ws_get (cy := cy) (B0 := B0) (b := b) (M := M) hlt ht
      have h44 : r.1 ≠ 44 := fun h => by
        have := (am_tab_i ht).2.2.2.2.2
        dsimp only at this
        omega
      refine va_zast hx hb hK hP hD hS (am_ix r) 2 he rfl g1 hd (fun H1 locs1 hP1 _ hS1 => ?_)
      refine kk (am_nc (am_nc (am_nc hn).2).2).2 H1 locs1 (am_H_up hH hr ht (by rw [if_neg h44]; exact hzn) ?_ hP1) hS1
      rw [g2, am_nar_z hz0, am_updE h0 rfl]
      rfl
    · cases hs
  · split at hs
    · rename_i _ z i r rest
      have hzn : am_n64 z := (am_nc hn).1
      have hi : am_n32 i := (am_nc (am_nc hn).2).1
      split at hs <;> cases hs
      rename_i har
      obtain ⟨n, hr, hlt, ht, h0, h1⟩ := am_ar_c har (by decide)
      obtain ⟨g1, g2⟩ := am_in h0 h1 hi
      show W _ _ _ _ _ _ _ _ _ _ _ _ _ _ _ (F0 m pc lsC (.long (Int64.ofInt z) :: .int (Int32.ofInt i) :: .ref (am_ad B0 b r) :: st'.map (am_cv B0 b)))
      rw [am_ad_of hr]
      have he := am_ws_get (cy := cy) (B0 := B0) (b := b) (M := M) hlt ht
      have h44 : r.1 = 44 := (am_tab_i ht).2.2.2.2.2.mp rfl
      refine va_last hx hb hK hP hD hS (am_ix r) 3 he rfl g1 hd (fun H1 locs1 hP1 _ hS1 => ?_)
      refine kk (am_nc (am_nc (am_nc hn).2).2).2 H1 locs1 (am_H_up hH hr ht (by rw [if_pos h44]; exact hzn) ?_ hP1) hS1
      rw [g2, am_updEL h0 rfl]
      rfl
    · cases hs
  · split at hs
    · rename_i _ v i r rest
      have hi : am_n32 i := (am_nc (am_nc hn).2).1
      split at hs <;> cases hs
      rename_i har
      obtain ⟨har, hob⟩ := har
      obtain ⟨n, hr, hlt, ht, h0, h1⟩ := am_ar_c har (by decide)
      obtain ⟨hr2, hlt2, ht2⟩ := am_ob_c hob (by decide)
      obtain ⟨g1, g2⟩ := am_in h0 h1 hi
      show W _ _ _ _ _ _ _ _ _ _ _ _ _ _ _ (F0 m pc lsC (.ref (am_ad B0 b v) :: .int (Int32.ofInt i) :: .ref (am_ad B0 b r) :: st'.map (am_cv B0 b)))
      rw [am_ad_of hr, am_ad_of hr2]
      have he := am_ws_get (cy := cy) (B0 := B0) (b := b) (M := M) hlt ht
      have he2 := am_ws_get (cy := cy) (B0 := B0) (b := b) (M := M) hlt2 ht2
      refine va_astq hx hb hK hP hD hS (am_ix r) 4 (am_ix v) 3 he rfl he2 (am_cl6 (by decide)) g1 hd (fun H1 locs1 hP1 _ hS1 => ?_)
      refine kk (am_nc (am_nc (am_nc hn).2).2).2 H1 locs1 (am_H_srf hH ht ?_ hP1) hS1
      rw [g2]
      unfold am_ce
      simp only [show ¬ (10 : Nat) < 6 by decide, show ¬ (10 : Nat) = 9 by decide, if_false, if_true]
      congr 7
      funext j
      unfold va_up am_rf am_srf
      by_cases hj : j = i.toNat
      · rw [if_pos hj]
        simp [hj, am_ad_of hr2]
      · rw [if_neg hj]
        simp [hj]
    · cases hs
  · cases hs
end AMWR
end
section
/-! ===== cells that are made ===== -/
def am_crB (e : (Nat × Nat) × (Nat ⊕ Nat) × Nat) : Bool := match e.2.1 with
  | .inl c => decide (c < 6) && decide (lw_tbl[e.2.2]? = some (.classLink (am_gn e.1.1) e.1.2 (am_cn c)))
  | .inr x => decide (x < 3) && decide (lw_tbl[e.2.2]? = some (.classLink (am_gn e.1.1) e.1.2 (am_xn x)))
theorem am_cr_ok : am_cr.all am_crB = true := by decide +kernel
theorem am_cl_i {k idx c : Nat} (h : am_cl k idx = some (.inl c)) : c < 6 ∧ Cond.classLink (am_gn (am_mt k).1) idx (am_cn c) ∈ am_Ts := by
  unfold am_cl at h
  split at h
  · rename_i t ht
    have h1 := List.all_eq_true.mp am_cr_ok _ (am_lk ht)
    have h2 := Option.some.inj h
    simp only [am_crB, h2, Bool.and_eq_true, decide_eq_true_eq] at h1
    exact ⟨h1.1, am_in_p h1.2 rfl⟩
  · cases h
theorem am_cl_x {k idx x : Nat} (h : am_cl k idx = some (.inr x)) : x < 3 ∧ Cond.classLink (am_gn (am_mt k).1) idx (am_xn x) ∈ am_Ts := by
  unfold am_cl at h
  split at h
  · rename_i t ht
    have h1 := List.all_eq_true.mp am_cr_ok _ (am_lk ht)
    have h2 := Option.some.inj h
    simp only [am_crB, h2, Bool.and_eq_true, decide_eq_true_eq] at h1
    exact ⟨h1.1, am_in_p h1.2 rfl⟩
  · cases h
theorem am_inst {c : Nat} (h : c < 6) : Cond.instantiable (am_cn c) (am_fn c) ∈ am_Ts ∧ Cond.initialized (am_cn c) ∈ am_Ts := by
  rcases (show c = 0 ∨ c = 1 ∨ c = 2 ∨ c = 3 ∨ c = 4 ∨ c = 5 by omega) with rfl | rfl | rfl | rfl | rfl | rfl <;> decide +kernel
theorem am_arrc : Cond.arrayClass .int ∈ am_Ts ∧ Cond.arrayClass .char ∈ am_Ts ∧ Cond.arrayClass .boolean ∈ am_Ts ∧ Cond.arrayClass .long ∈ am_Ts := by decide +kernel
theorem am_nx_i {E : am_E} {c : Nat} {n : Int} {r : am_R} (h : am_nx E c n = some r) : ∃ n' : Nat, am_tab[E.1]? = some (r, c, n') ∧ (n' : Int) = n ∧ E.2.1 = 0 := by
  unfold am_nx at h
  split at h
  · rename_i r' c' n' ht
    split at h
    · rename_i hc
      cases h
      exact ⟨n', by rw [ht, hc.1], hc.2.1, hc.2.2⟩
    · cases h
  · cases h
theorem am_nM_ne {M : am_M} {r r' : am_R} (h : r' ≠ r) : am_nM M r r'.1 r'.2 = M r'.1 r'.2 := by
  unfold am_nM am_sb
  by_cases h1 : r'.1 = r.1
  · have h2 : r'.2 ≠ r.2 := fun h2 => h (Prod.ext h1 h2)
    funext j
    simp [h1, h2]
  · simp [h1]
theorem am_nM_at {M : am_M} {r : am_R} {j : Int} : am_nM M r r.1 r.2 j = 0 := by
  unfold am_nM am_sb
  simp
theorem am_nm_nM {M : am_M} {r : am_R} (h : am_nm M) : am_nm (am_nM M r) := by
  intro b c j
  have h0 : ∀ q : Nat, if q = 44 then am_n64 0 else am_n32 0 := fun q => by
    split <;> constructor <;> decide
  by_cases hb : (b, c) = r
  · subst hb
    rw [am_nM_at (r := (b, c))]
    exact h0 b
  · have e := congrFun (am_nM_ne (M := M) (r := r) (r' := (b, c)) hb) j
    dsimp only at e
    rw [e]
    exact h b c j
theorem am_ce_new {cy : Nat → ClassId} {B0 b : Nat} {E : am_E} {M : am_M} {t : am_R × Nat × Nat} {r : am_R} (h : t.1 ≠ r) : am_ce cy B0 b (am_nE E r) (am_nM M r) t = am_ce cy B0 b E M t := by
  have e : ∀ k, am_rf (am_nE E r) t.1 k = am_rf E t.1 k := fun k => by
    unfold am_rf am_nE
    simp [h]
  have e2 := am_nM_ne (M := M) h
  unfold am_ce am_fv
  simp only [e, e2]
theorem am_ws_new {cy : Nat → ClassId} {B0 b : Nat} {E : am_E} {M : am_M} {t : am_R × Nat × Nat} (ht : am_tab[E.1]? = some t) : am_ws cy B0 b (am_nE E t.1) (am_nM M t.1) = am_ws cy B0 b E M ++ [(B0 + E.1, am_ce cy B0 b (am_nE E t.1) (am_nM M t.1) t)] := by
  unfold am_ws
  have e : (am_nE E t.1).1 = E.1 + 1 := rfl
  rw [e, List.range_succ, List.map_append]
  congr 1
  · apply List.map_congr_left
    intro i hi
    have hi := List.mem_range.mp hi
    congr 1
    unfold am_cl1
    split
    · rename_i t' ht'
      exact am_ce_new (am_tab_ne ht ht' (by omega))
    · rfl
  · simp [am_cl1, ht]
section AMK
variable {p : Program} {l : Launch} {e : Env} {R : Room} {s : State} {m : MethodId} {args : Array Value} {below : List Frame} {meth : Method} {c : Code} {H : Heap} {locs : List Loc} {cells slots : Nat} {Q : State → Prop}
variable {cc : ByteArray} {pc : Nat} {lsC : Array Slot} {dC : Nat → ClassId} {dI : Nat → Nat → Nat} {cy : Nat → ClassId} {B0 b L : Nat} {xs : Nat → Int32} {E : am_E} {M : am_M} {k : Nat}
theorem am_know {g : JFrame} (h : H.size ≤ s.heap.size + cells → W p l e R s m args below meth c H locs cells slots Q g) : W p l e R s m args below meth c H locs cells slots Q g := fun T hT X => by
  have h1 : T.heap.size ≤ s.heap.size + cells := X.same.2.2.1
  rw [hT] at h1
  exact h h1 T hT X
theorem am_H_new {H1 : Heap} {t : am_R × Nat × Nat} (hH : am_H dC dI cy B0 b L xs E M H) (ht : am_tab[E.1]? = some t) (o1 : ∀ q, q < H.size → H1[q]? = H[q]?)
    (h1 : va_at (dC, dI) vwCl (B0 + E.1, am_ce cy B0 b (am_nE E t.1) (am_nM M t.1) t) H1) : am_H dC dI cy B0 b L xs (am_nE E t.1) (am_nM M t.1) H1 := by
  obtain ⟨hP, h3, h4, h5, h6⟩ := hH
  have h9 := am_tab_i ht
  refine ⟨?_, am_nm_nM h3, by have : (am_nE E t.1).1 = E.1 + 1 := rfl; omega, h5, fun j hj => ?_⟩
  · rw [am_ws_new ht]
    refine (hP.kept (fun k q hq => o1 q.1 (hP k q hq).lt)).app (fun k q hq => ?_)
    have hz : k < 1 := (List.getElem?_eq_some_iff.mp hq).1
    rw [show k = 0 by omega] at hq
    cases hq
    exact h1
  · rw [← h6 j hj]
    exact congrFun (am_nM_ne (r' := (45, 0)) (Ne.symm h9.2.2.1)) _
theorem am_H_lo (hH : am_H dC dI cy B0 b L xs E M H) (hB : B0 ≤ H.size) : B0 + E.1 ≤ H.size := by
  obtain ⟨hP, h3, h4, h5, h6⟩ := hH
  by_cases h0 : E.1 = 0
  · omega
  · have hlt : E.1 - 1 < am_tab.length := by rw [am_tab_len]; omega
    have he := am_ws_get (cy := cy) (B0 := B0) (b := b) (E := E) (M := M) (i := E.1 - 1) (by omega) (List.getElem?_eq_getElem hlt)
    have := (hP _ _ he).lt
    dsimp only at this
    omega
theorem am_S_new {H1 : Heap} (hS : va_S (fun q => B0 ≤ q) s.heap H locs) (z1 : H1.size = H.size + 1) (o1 : ∀ q, q < H.size → H1[q]? = H[q]?) : va_S (fun q => B0 ≤ q) s.heap H1 locs :=
  ⟨Nat.le_trans hS.1 (by omega), fun x h1 h2 => (o1 x (Nat.lt_of_lt_of_le h1 hS.1)).trans (hS.2.1 x h1 h2), hS.2.2⟩
theorem am_cyN {k : Nat} {ty : FieldType} {cA : ClassId} (hK : va_K (dC, dI) vwCl (am_tys cy) s) (j : Nat) (hj : (am_tys cy)[j]? = some (cy k, ty)) (hty : ∀ C, ty ≠ .object C) (h : s.vm.findClass ("[" ++ ty.toString) = some cA) : cA = cy k := by
  have h1 := (hK.2 j _ hj).2
  dsimp only at h1
  have h2 : s.vm.findClass ("[" ++ ty.toString) = some (cy k) := by
    cases ty with
    | object C => exact absurd rfl (hty C)
    | _ => exact h1
  exact Option.some.inj (h.symm.trans h2)
theorem am_W_na (hx : p.tables.exec = Jvm.exec) (hb : c.code = cc) (hF : am_F dC dI cy B0 b L xs s) (hH : am_H dC dI cy B0 b L xs E M H) (hS : va_S (fun q => B0 ≤ q) s.heap H locs) (hsz : H.size = B0 + E.1)
    {at9 : ArrayType} {kd : Nat} {ty : FieldType} {r : am_R} {n : Nat} {rest : List Value} (hty : newarray.typeOf at9 = ty) (hw : Cond.arrayClass ty ∈ am_Ts) (j : Nat) (hj : (am_tys cy)[j]? = some (cy kd, ty)) (hto : ∀ C, ty ≠ .object C) (ht : am_tab[E.1]? = some (r, kd, n)) (hn : n < 100000) (hcb : componentBytes ty ≤ 8)
    (hcell : vp_cell (cy kd) (n, .inl (fun j => Int32.ofInt (am_nM M r r.1 r.2 j))) = arrV (cy kd) n (fun _ => defaultValue ty) ∧ am_ce cy B0 b (am_nE E r) (am_nM M r) (r, kd, n) = .inl (cy kd, n, .inl (fun j => Int32.ofInt (am_nM M r r.1 r.2 j))) ∨ vp_cell (cy kd) (n, .inr (.inl (fun j => Int64.ofInt (am_nM M r r.1 r.2 j)))) = arrV (cy kd) n (fun _ => defaultValue ty) ∧ am_ce cy B0 b (am_nE E r) (am_nM M r) (r, kd, n) = .inl (cy kd, n, .inr (.inl (fun j => Int64.ofInt (am_nM M r r.1 r.2 j)))))
    (hc : cells + 1 ≤ R.cells) (hsl : slots + n ≤ R.slots) (hd : decode cc pc = .ok (.newarray at9, 2))
    (kk : ∀ H1, am_H dC dI cy B0 b L xs (am_nE E r) (am_nM M r) H1 → va_S (fun q => B0 ≤ q) s.heap H1 locs → W p l e R s m args below meth c H1 locs (cells + 1) (slots + n) Q (F0 m (pc + 2) lsC (.ref (B0 + E.1) :: rest))) : W p l e R s m args below meth c H locs cells slots Q (F0 m pc lsC (.int (Int32.ofInt (n : Int)) :: rest)) := by
  subst hty
  have hnn : am_n32 (n : Int) := ⟨by omega, by omega⟩
  have e1 : (Int32.ofInt (n : Int)).toNatClampNeg = n := by rw [Int32.toNatClampNeg, am_toI hnn]; omega
  refine va_newaK hx hb (hF.1 _ hw _) rfl hd rfl (fun h => ?_) e1 (Nat.le_trans (Nat.mul_le_mul_left n hcb) (by omega)) hc hsl hsz fun H1 cA e1 z1 o1 hAr hNm => ?_
  · rw [← am_o0, am_lt hnn am_z0] at h; omega
  · have hcA : cA = cy kd := am_cyN hF.2.1 j hj hto hNm
    subst hcA
    rw [← hsz] at o1 z1
    refine kk H1 (am_H_new hH ht o1 ?_) (am_S_new hS z1 o1)
    rcases hcell with ⟨q1, q2⟩ | ⟨q1, q2⟩
    · rw [q2]
      show H1[B0 + E.1]? = some (vp_cell _ _)
      rw [q1]; exact e1
    · rw [q2]
      show H1[B0 + E.1]? = some (vp_cell _ _)
      rw [q1]; exact e1
theorem am_arr0 {cA : ClassId} {n : Nat} {M : am_M} {r : am_R} {ty : FieldType} (h : defaultValue ty = .int 0) : vp_cell cA (n, .inl (fun j => Int32.ofInt (am_nM M r r.1 r.2 j))) = arrV cA n (fun _ => defaultValue ty) := by
  rw [vp_cell_i, h]
  congr 1
  funext j
  rw [am_nM_at]
  rfl
theorem am_arr0l {cA : ClassId} {n : Nat} {M : am_M} {r : am_R} : vp_cell cA (n, .inr (.inl (fun j => Int64.ofInt (am_nM M r r.1 r.2 j)))) = arrV cA n (fun _ => defaultValue .long) := by
  rw [vp_cell_l]
  congr 1
  funext j
  rw [am_nM_at]
  rfl
theorem am_W_mk (hx : p.tables.exec = Jvm.exec) (hb : c.code = cc) (hF : am_F dC dI cy B0 b L xs s) (hown : s.vm.findClass (am_gn (am_mt k).1) = some m.cls) (hH : am_H dC dI cy B0 b L xs E M H) (hS : va_S (fun q => B0 ≤ q) s.heap H locs) (hsz : E.2.1 = 0 → H.size = B0 + E.1)
    {i : Instr} {len : Nat} {st st' : List am_V} {E' : am_E} {M' : am_M} (hd : decode cc pc = .ok (i, len)) (hl : len = am_ln i) (hs : am_mk k i st E M = some (st', E', M')) (hn : ∀ v ∈ st, am_nv v)
    (hc : cells + 1 ≤ R.cells) (hsl : ∀ t, am_tab[E.1]? = some t → slots + t.2.2 ≤ R.slots)
    (kk : (∀ v ∈ st', am_nv v) → ∀ H1, am_H dC dI cy B0 b L xs E' M' H1 → va_S (fun q => B0 ≤ q) s.heap H1 locs → ∀ t, am_tab[E.1]? = some t → E'.1 = E.1 + 1 → E'.2.1 = E.2.1 → W p l e R s m args below meth c H1 locs (cells + 1) (slots + t.2.2) Q (F0 m (pc + len) lsC (st'.map (am_cv B0 b)))) : W p l e R s m args below meth c H locs cells slots Q (F0 m pc lsC (st.map (am_cv B0 b))) := by
  subst hl
  have hts : ∀ w ∈ am_Ts, w.before args s = true := fun w h => hF.1 w h args
  have hK := hF.2.1
  have had : ∀ {r : am_R} {kd n : Nat}, am_tab[E.1]? = some (r, kd, n) → am_ad B0 b r = B0 + E.1 := fun ht => by
    have h9 := am_tab_i ht
    rw [am_ad_of h9.2.2.1, h9.2.1]
  unfold am_mk at hs
  split at hs
  · rename_i idx
    split at hs
    · rename_i c9 hcl
      split at hs
      · rename_i r hr
        cases hs
        obtain ⟨n', ht, hn', hx0⟩ := am_nx_i hr
        have hn9 : n' = am_fn c9 := by omega
        subst hn9
        obtain ⟨h6, hlk⟩ := am_cl_i hcl
        obtain ⟨hi1, hi2⟩ := am_inst h6
        have hKn := hK.1 c9 _ (am_cl6 h6)
        have hs0 := hsz hx0
        refine W.newcK hx hb hown (hts _ hlk) (hts _ hi1) (hts _ hi2) rfl hd hc (hsl _ ht) hKn.2.1 hs0 fun H1 kC hkC e1 z1 o1 => ?_
        rw [← hs0] at o1 z1
        have k2 := kk (am_ncc trivial hn) H1 (am_H_new hH ht o1 ?_) (am_S_new hS z1 o1) _ ht rfl rfl
        · have e3 : am_cv B0 b (am_A r) = .ref (B0 + E.1) := by
            show va_rf (some (am_ad B0 b r)) = _
            rw [had ht]; rfl
          rw [List.map_cons, e3] at k2
          exact k2
        · unfold am_ce
          rw [if_pos h6]
          refine ⟨_, am_cl6 h6, (u_born (am_tX c9) hts (am_wsX h6) hKn hkC e1 (am_tX_ok h6)).to (fun j hj => ?_)⟩
          have hq := am_fld c9 h6 j hj
          unfold vp_V
          rw [List.getD_eq_getElem?_getD, List.getElem?_map, List.getElem?_range hj]
          show defaultValue (am_tX c9 j) = am_fv B0 b (am_nE E r) (am_nM M r) r c9 j
          unfold am_fv
          cases hisr : am_isr c9 j
          · rw [if_neg (by decide), am_nM_at, hq.2.2.1 hisr]
            split <;> rfl
          · rw [if_pos rfl]
            have e5 : am_rf (am_nE E r) r j = none := by
              unfold am_rf am_nE
              simp
            rw [e5]
            have e6 := hq.2.2.2 hisr
            cases hty : am_tX c9 j <;> rw [hty] at e6 <;> first | rfl | cases e6
      · cases hs
    · cases hs
  · split at hs
    · rename_i a9 _ n rest
      split at hs
      · rename_i hn9
        split at hs
        · rename_i r hr
          cases hs
          obtain ⟨n', ht, hn', hx0⟩ := am_nx_i hr
          subst hn'
          have hs0 := hsz hx0
          have kk2 : ∀ H1, am_H dC dI cy B0 b L xs (am_nE E r) (am_nM M r) H1 → va_S (fun q => B0 ≤ q) s.heap H1 locs → W p l e R s m args below meth c H1 locs (cells + 1) (slots + n') Q (F0 m (pc + 2) lsC (.ref (B0 + E.1) :: rest.map (am_cv B0 b))) := fun H1 g1 g2 => by
            have k2 := kk (am_ncc trivial (am_nc hn).2) H1 g1 g2 _ ht rfl rfl
            have e3 : am_cv B0 b (am_A r) = .ref (B0 + E.1) := by
              show va_rf (some (am_ad B0 b r)) = _
              rw [had ht]; rfl
            rw [List.map_cons, e3] at k2
            exact k2
          obtain ⟨w1, w2, w3, w4⟩ := am_arrc
          cases a9 <;> first | (exfalso; exact absurd hn9.2.2 (by decide)) | skip
          · exact am_W_na (at9 := .boolean) (ty := .boolean) hx hb hF hH hS hs0 rfl w3 2 rfl (fun C h => by cases h) ht (by omega) (by decide) (Or.inl ⟨am_arr0 rfl, rfl⟩) hc (hsl _ ht) hd kk2
          · exact am_W_na (at9 := .char) (ty := .char) hx hb hF hH hS hs0 rfl w2 1 rfl (fun C h => by cases h) ht (by omega) (by decide) (Or.inl ⟨am_arr0 rfl, rfl⟩) hc (hsl _ ht) hd kk2
          · exact am_W_na (at9 := .int) (ty := .int) hx hb hF hH hS hs0 rfl w1 0 rfl (fun C h => by cases h) ht (by omega) (by decide) (Or.inl ⟨am_arr0 rfl, rfl⟩) hc (hsl _ ht) hd kk2
          · exact am_W_na (at9 := .long) (ty := .long) hx hb hF hH hS hs0 rfl w4 3 rfl (fun C h => by cases h) ht (by omega) (by decide) (Or.inr ⟨am_arr0l, rfl⟩) hc (hsl _ ht) hd kk2
        · cases hs
      · cases hs
    · cases hs
  · split at hs
    · rename_i idx _ _ n rest hcl
      split at hs
      · rename_i hn9
        split at hs
        · rename_i r hr
          cases hs
          obtain ⟨n', ht, hn', hx0⟩ := am_nx_i hr
          subst hn'
          have hs0 := hsz hx0
          obtain ⟨-, hlk⟩ := am_cl_i hcl
          have hnn : am_n32 (n' : Int) := ⟨by omega, by omega⟩
          have e1 : (Int32.ofInt (n' : Int)).toNatClampNeg = n' := by rw [Int32.toNatClampNeg, am_toI hnn]; omega
          obtain ⟨-, -, -, -, -, -, -, -, -, hAO, -⟩ := hF
          refine W.anew (C := RX3) hx hb hown (hts _ hlk) (va_AO.use hAO) rfl hd rfl (fun h => ?_) (by rw [e1]; omega) hc (by rw [e1]; exact hsl _ ht) fun cA kA comp f1 f2 f3 f4 => ?_
          · rw [← am_o0, am_lt hnn am_z0] at h; omega
          · rw [e1]
            generalize hH1 : H.push ({ cls := cA, slots := Array.replicate n' .null, vm := .none } : Cell) = H1
            have z1 : H1.size = H.size + 1 := by rw [← hH1, Array.size_push]
            have g1 : H1[H.size]? = some (arrV cA n' (fun _ => .null)) := by rw [← hH1, Array.getElem?_push_size, ← arrV_new]
            have o1 : ∀ q : Nat, q < H.size → H1[q]? = H[q]? := fun q hq => by rw [← hH1, Array.getElem?_push, if_neg (Nat.ne_of_lt hq)]
            have hcA : cA = cy 10 := by
              obtain ⟨kA', comp', -, -, -, h4⟩ := (hK.2 4 _ rfl).2
              exact Option.some.inj (f1.symm.trans h4)
            subst hcA
            have k2 := kk (am_ncc trivial (am_nc hn).2) H1 (am_H_new hH ht o1 ?_) (am_S_new hS z1 o1) _ ht rfl rfl
            · have e3 : am_cv B0 b (am_A r) = .ref (B0 + E.1) := by
                show va_rf (some (am_ad B0 b r)) = _
                rw [had ht]; rfl
              rw [List.map_cons, e3, ← hs0] at k2
              exact k2
            · rw [← hs0]
              show H1[H.size]? = some (vp_cell _ _)
              rw [vp_cell_q]
              rw [g1]
              congr 2
              funext j
              have e5 : am_rf (am_nE E r) r j = none := by
                unfold am_rf am_nE
                simp
              dsimp only
              rw [e5]
              rfl
        · cases hs
      · cases hs
    · cases hs
  · cases hs
end AMK
end
section
/-! ===== methods and their words ===== -/
theorem am_lkN {α : Type} {l : List (Nat × α)} {k : Nat} {v : α} (h : l.lookup k = some v) : (k, v) ∈ l := by
  induction l with
  | nil => cases h
  | cons a t ih =>
    obtain ⟨k', v'⟩ := a
    rw [List.lookup_cons] at h
    split at h
    · rename_i he
      cases h
      have : k = k' := by simpa using he
      subst this
      exact List.mem_cons_self
    · exact List.mem_cons_of_mem _ (ih h)
theorem am_fetch_i {k pc : Nat} {i : Instr} {len : Nat} (hk : k < 229) (h : am_fetch k pc = some (i, len)) : decode (am_mt k).2.2.2.1 pc = .ok (i, len) := by
  have h1 := am_lkN h
  have h2 := List.all_eq_true.mp (am_code_ok k hk) _ h1
  simpa [am_dB] using h2
def am_mtB (t : Nat) : Bool := t == 225 || (decide (lw_tbl[(am_mp t).2.1]? = some (if (am_mp t).2.2.2 = true then .static (am_mt t).2.2.1 else .instanceMethod (am_mt t).2.2.1)) &&
  ((am_mp t).2.2.2 || (am_mt t).2.2.1.name == "<init>" || decide (lw_tbl[(am_mp t).2.2.1]? = some (.selects (am_cn (am_mt t).2.1) (am_mt t).2.2.1 (am_mt t).2.2.1))) && ((am_mt t).2.2.1.cls == am_cn (am_mt t).2.1) && decide ((am_mt t).2.1 < 7) && decide ((am_mt t).2.2.2.2.1 ≤ 41) &&
  decide ((parseMethodDescriptor (am_mt t).2.2.1.desc).map (fun d => d.parameters.length) = some (if (am_mp t).2.2.2 = true then (am_mt t).2.2.2.2.2.2.2 else (am_mt t).2.2.2.2.2.2.2 - 1)) && ((am_mp t).2.2.2 || decide (1 ≤ (am_mt t).2.2.2.2.2.2.2)) && decide ((am_mt t).2.1 < 6 ∨ (am_mp t).2.2.2 = true))
theorem am_mt_ok : (List.range 229).all am_mtB = true := by decide +kernel
def am_mrB (e : (Nat × Nat) × Nat × Nat × Nat) : Bool := match e.2.2.1 with
  | 0 => decide (e.2.1 < 229) && (e.2.1 != 225) && (am_mp e.2.1).2.2.2 && decide ((am_mt e.2.1).2.2.2.2.2.2.1 = []) && decide (lw_tbl[e.2.2.2]? = some (.methodLink (am_gn e.1.1) e.1.2 (am_mt e.2.1).2.2.1))
  | 1 => decide (e.2.1 < 229) && (e.2.1 != 225) && !(am_mp e.2.1).2.2.2 && decide ((am_mt e.2.1).2.2.2.2.2.2.1 = []) && ((am_mt e.2.1).2.2.1.name != "<init>") && decide (lw_tbl[e.2.2.2]? = some (.methodLink (am_gn e.1.1) e.1.2 (am_mt e.2.1).2.2.1))
  | 2 => decide (e.2.1 < 229) && (e.2.1 != 225) && !(am_mp e.2.1).2.2.2 && decide ((am_mt e.2.1).2.2.2.2.2.2.1 = []) && ((am_mt e.2.1).2.2.1.name == "<init>") && decide ((am_mt e.2.1).2.2.2.2.2.1 = none) && decide (lw_tbl[e.2.2.2]? = some (.methodLink (am_gn e.1.1) e.1.2 (am_mt e.2.1).2.2.1))
  | 3 => decide (e.2.1 < 229) && (e.2.1 != 225) && (am_mp e.2.1).2.2.2 && decide ((am_mt e.2.1).2.2.2.2.2.2.1 = []) && decide (lw_tbl[e.2.2.2]? = some (.methodLinkNest (am_gn e.1.1) e.1.2 (am_mt e.2.1).2.2.1 RX4))
  | 4 => decide (e.2.1 < 229) && (e.2.1 != 225) && (am_mp e.2.1).2.2.2 && decide ((am_mt e.2.1).2.2.2.2.2.2.1 ≠ []) && decide (lw_tbl[e.2.2.2]? = some (.methodLink (am_gn e.1.1) e.1.2 (am_mt e.2.1).2.2.1))
  | 5 => decide (lw_tbl[e.2.2.2]? = some (.methodLink (am_gn e.1.1) e.1.2 objectInit))
  | 6 => decide (lw_tbl[e.2.2.2]? = some (.methodLink (am_gn e.1.1) e.1.2 Lib.Math.max.name))
  | 7 => decide (lw_tbl[e.2.2.2]? = some (.methodLink (am_gn e.1.1) e.1.2 Lib.Math.min.name))
  | _ => false
theorem am_mr_ok : am_mr.all am_mrB = true := by decide +kernel
theorem am_obj : Cond.instanceMethod objectInit ∈ am_Ts ∧ Cond.code objectInit ⟨#[0xb1]⟩ 1 none ∈ am_Ts := by decide +kernel
theorem am_mxw : (Cond.static Lib.Math.max.name ∈ am_Ts ∧ Cond.code Lib.Math.max.name Lib.Math.max.code 2 (some .int) ∈ am_Ts) ∧ (Cond.static Lib.Math.min.name ∈ am_Ts ∧ Cond.code Lib.Math.min.name Lib.Math.min.code 2 (some .int) ∈ am_Ts) ∧ Cond.initialized "java/lang/Math" ∈ am_Ts := by decide +kernel
theorem am_iniL : Cond.initialized RL ∈ am_Ts := by decide +kernel
def am_nms : List String := ["java/lang/RuntimeException", "java/lang/Exception"]
theorem am_exw : ∀ x, x < 3 → (∀ w ∈ vx_atS RX4 (am_ic x) (am_xn x) am_nms, w ∈ am_Ts ∧ vx_ot w = true) ∧ Cond.initialized (am_xn x) ∈ am_Ts ∧ Cond.castable (am_xn x) (am_xn x) ∈ am_Ts ∧ Bundle.fit (am_xn x) = true := by decide +kernel
theorem am_fits : ∀ n ∈ am_nms, Bundle.fit n = true := by decide +kernel
theorem am_plain : ∀ c, c < 7 → plainName (am_cn c) = true ∧ am_cn c ≠ "java/lang/invoke/MethodHandle" ∧ am_cn c ≠ "java/lang/invoke/VarHandle" := by decide +kernel
/-- what the tables say of a method -/
theorem am_mt_i {t : Nat} (h : t < 229) (h2 : t ≠ 225) : am_cw t ∈ am_Ts ∧ (if (am_mp t).2.2.2 = true then Cond.static (am_mt t).2.2.1 else Cond.instanceMethod (am_mt t).2.2.1) ∈ am_Ts ∧
    ((am_mp t).2.2.2 = true ∨ (am_mt t).2.2.1.name = "<init>" ∨ Cond.selects (am_cn (am_mt t).2.1) (am_mt t).2.2.1 (am_mt t).2.2.1 ∈ am_Ts) ∧ (am_mt t).2.2.1.cls = am_cn (am_mt t).2.1 ∧ (am_mt t).2.1 < 7 ∧ (am_mt t).2.2.2.2.1 ≤ 41 ∧
    (parseMethodDescriptor (am_mt t).2.2.1.desc).map (fun d => d.parameters.length) = some (if (am_mp t).2.2.2 = true then (am_mt t).2.2.2.2.2.2.2 else (am_mt t).2.2.2.2.2.2.2 - 1) ∧ ((am_mp t).2.2.2 = true ∨ 1 ≤ (am_mt t).2.2.2.2.2.2.2) ∧ Cond.initialized (am_cn (am_mt t).2.1) ∈ am_Ts := by
  have h1 := List.all_eq_true.mp am_mt_ok t (List.mem_range.mpr h)
  simp only [am_mtB, Bool.and_eq_true, Bool.or_eq_true, beq_iff_eq, decide_eq_true_eq] at h1
  rcases h1 with h1 | h1
  · exact absurd h1 h2
  · obtain ⟨⟨⟨⟨⟨⟨⟨a2, a3⟩, a4⟩, a5⟩, a6⟩, a7⟩, a8⟩, a9⟩ := h1
    have a1 := (am_cw_ok t h).resolve_left h2
    refine ⟨am_in_p a1 ?_, am_in_p a2 ?_, ?_, a4, a5, a6, a7, a8, ?_⟩
    · unfold am_cw
      split <;> rfl
    · split <;> rfl
    · rcases a3 with (a3 | a3) | a3
      · exact Or.inl a3
      · exact Or.inr (Or.inl a3)
      · exact Or.inr (Or.inr (am_in_p a3 rfl))
    · by_cases h6 : (am_mt t).2.1 < 6
      · exact (am_inst h6).2
      · rw [show (am_mt t).2.1 = 6 by omega]
        exact am_iniL
theorem am_ml_i {k idx t kd : Nat} (h : am_ml k idx = some (t, kd)) : ∃ p, am_mrB (((am_mt k).1, idx), t, kd, p) = true := by
  unfold am_ml at h
  split at h
  · rename_i q hq
    cases h
    exact ⟨q.2.2, List.all_eq_true.mp am_mr_ok _ (am_lk hq)⟩
  · cases h
/-! ===== an instruction's step, by its kind ===== -/
theorem am_stp_i {k : Nat} {c : am_Cf} {a : am_Ac} (h : am_stp k c = some a) : ∃ i len, am_fetch k c.1 = some (i, len) ∧
    ((∃ t st, am_jp i c.1 len c.2.2.1 = some (t, st) ∧ a = .inl (t, c.2.1, st, c.2.2.2.1, c.2.2.2.2)) ∨ (len = am_ln i ∧
    ((∃ st, am_op i c.2.2.1 = some st ∧ a = .inl (c.1 + len, c.2.1, st, c.2.2.2.1, c.2.2.2.2)) ∨
     (∃ v, am_ld i c.2.1 = some v ∧ a = .inl (c.1 + len, c.2.1, v :: c.2.2.1, c.2.2.2.1, c.2.2.2.2)) ∨
     (∃ ls st, am_st i c.2.1 c.2.2.1 = some (ls, st) ∧ a = .inl (c.1 + len, ls, st, c.2.2.2.1, c.2.2.2.2)) ∨
     (∃ st, am_rd k i c.2.2.1 c.2.2.2.1 c.2.2.2.2 = some st ∧ a = .inl (c.1 + len, c.2.1, st, c.2.2.2.1, c.2.2.2.2)) ∨
     (∃ st E M, am_wr k i c.2.2.1 c.2.2.2.1 c.2.2.2.2 = some (st, E, M) ∧ a = .inl (c.1 + len, c.2.1, st, E, M)) ∨
     (∃ st E M, am_mk k i c.2.2.1 c.2.2.2.1 c.2.2.2.2 = some (st, E, M) ∧ a = .inl (c.1 + len, c.2.1, st, E, M)) ∨
     (∃ v, am_rt k i c.2.2.1 = some v ∧ a = .inr (.inl (.inl v, c.2.2.2.1, c.2.2.2.2))) ∨
     (∃ st, am_iv k i c.2.2.1 c.2.2.2.1 = some (.inl st) ∧ a = .inl (c.1 + len, c.2.1, st, c.2.2.2.1, c.2.2.2.2)) ∨
     (∃ t, am_iv k i c.2.2.1 c.2.2.2.1 = some (.inr t) ∧ a = .inr (.inr t)) ∨
     (∃ x, am_th k c.1 i c.2.2.1 = some x ∧ a = .inr (.inl (.inr x, am_xE c.2.2.2.1, c.2.2.2.2)))))) := by
  unfold am_stp at h
  split at h
  · cases h
  · rename_i i len hf
    refine ⟨i, len, hf, ?_⟩
    split at h
    · rename_i t st hs
      exact Or.inl ⟨t, st, hs, (Option.some.inj h).symm⟩
    · split at h
      · cases h
      · rename_i hl
        refine Or.inr ⟨Decidable.not_not.mp hl, ?_⟩
        split at h
        · exact Or.inl ⟨_, by assumption, (Option.some.inj h).symm⟩
        · refine Or.inr ?_
          split at h
          · exact Or.inl ⟨_, by assumption, (Option.some.inj h).symm⟩
          · refine Or.inr ?_
            split at h
            · exact Or.inl ⟨_, _, by assumption, (Option.some.inj h).symm⟩
            · refine Or.inr ?_
              split at h
              · exact Or.inl ⟨_, by assumption, (Option.some.inj h).symm⟩
              · refine Or.inr ?_
                split at h
                · exact Or.inl ⟨_, _, _, by assumption, (Option.some.inj h).symm⟩
                · refine Or.inr ?_
                  split at h
                  · exact Or.inl ⟨_, _, _, by assumption, (Option.some.inj h).symm⟩
                  · refine Or.inr ?_
                    split at h
                    · exact Or.inl ⟨_, by assumption, (Option.some.inj h).symm⟩
                    · refine Or.inr ?_
                      split at h
                      · exact Or.inl ⟨_, by assumption, (Option.some.inj h).symm⟩
                      · exact Or.inr (Or.inl ⟨_, by assumption, (Option.some.inj h).symm⟩)
                      · refine Or.inr (Or.inr ?_)
                        split at h
                        · exact ⟨_, by assumption, (Option.some.inj h).symm⟩
                        · cases h
/-- cells and exceptions are made, not lost -/
def am_leE (E E' : am_E) : Prop := E.1 ≤ E'.1 ∧ E.2.1 ≤ E'.2.1
theorem am_wr_E {k : Nat} {i : Instr} {st st' : List am_V} {E E' : am_E} {M M' : am_M} (h : am_wr k i st E M = some (st', E', M')) : E'.1 = E.1 ∧ E'.2.1 = E.2.1 := by
  unfold am_wr at h
  repeat' split at h
  all_goals first | cases h; exact ⟨rfl, rfl⟩ | cases h
theorem am_mk_E {k : Nat} {i : Instr} {st st' : List am_V} {E E' : am_E} {M M' : am_M} (h : am_mk k i st E M = some (st', E', M')) : E'.1 = E.1 + 1 ∧ E'.2.1 = E.2.1 := by
  unfold am_mk at h
  repeat' split at h
  all_goals first | cases h; exact ⟨rfl, rfl⟩ | cases h
theorem am_run_le : ∀ (n k : Nat) (c : am_Cf) (r : am_Rs), am_run n k c = some r → am_leE c.2.2.2.1 r.2.1 := by
  intro n
  induction n with
  | zero => intro k c r h; cases h
  | succ n ih =>
    intro k c r h
    unfold am_run at h
    split at h
    · cases h
    · rename_i c' hs
      have h1 := ih k c' r h
      obtain ⟨i, len, hf, hs⟩ := am_stp_i hs
      rcases hs with ⟨t, st, -, hs⟩ | ⟨-, ⟨st, -, hs⟩ | ⟨v, -, hs⟩ | ⟨ls, st, -, hs⟩ | ⟨st, -, hs⟩ | ⟨st, E, M, hw, hs⟩ | ⟨st, E, M, hw, hs⟩ | ⟨v, -, hs⟩ | ⟨st, -, hs⟩ | ⟨t, -, hs⟩ | ⟨x, -, hs⟩⟩ <;> cases hs <;> first | exact h1 | skip
      · obtain ⟨e1, e2⟩ := am_wr_E hw
        exact ⟨by have := h1.1; dsimp only at this; omega, by have := h1.2; dsimp only at this; omega⟩
      · obtain ⟨e1, e2⟩ := am_mk_E hw
        exact ⟨by have := h1.1; dsimp only at this; omega, by have := h1.2; dsimp only at this; omega⟩
    · rename_i r' hs
      cases h
      obtain ⟨i, len, hf, hs⟩ := am_stp_i hs
      rcases hs with ⟨t, st, -, hs⟩ | ⟨-, ⟨st, -, hs⟩ | ⟨v, -, hs⟩ | ⟨ls, st, -, hs⟩ | ⟨st, -, hs⟩ | ⟨st, E, M, hw, hs⟩ | ⟨st, E, M, hw, hs⟩ | ⟨v, -, hs⟩ | ⟨st, -, hs⟩ | ⟨t, -, hs⟩ | ⟨x, -, hs⟩⟩ <;> cases hs
      · exact ⟨Nat.le_refl _, Nat.le_refl _⟩
      · exact ⟨Nat.le_refl _, Nat.le_succ _⟩
    · split at h
      · cases h
      · rename_i hr
        have h1 := ih _ _ _ hr
        have h2 := ih _ _ _ h
        exact ⟨Nat.le_trans h1.1 h2.1, Nat.le_trans h1.2 h2.2⟩
      · rename_i hr
        have h1 := ih _ _ _ hr
        split at h
        · split at h <;> cases h
          exact h1
        · split at h
          · have h2 := ih _ _ _ h
            exact ⟨Nat.le_trans h1.1 h2.1, Nat.le_trans h1.2 h2.2⟩
          · cases h
def am_qc (E : am_E) : Nat := E.1 + E.2.1
def am_qt (n : Nat) : Nat := ((am_tab.take n).map (fun t => t.2.2)).sum
def am_qs (E : am_E) : Nat := am_qt E.1 + 6 * E.2.1
theorem am_qt_s {n : Nat} {t : am_R × Nat × Nat} (h : am_tab[n]? = some t) : am_qt (n + 1) = am_qt n + t.2.2 := by
  unfold am_qt
  rw [List.take_add_one, h]
  simp
theorem am_qt_m {a c : Nat} (h : a ≤ c) : am_qt a ≤ am_qt c := by
  induction h with
  | refl => exact Nat.le_refl _
  | step _ ih =>
    rename_i m _
    refine Nat.le_trans ih ?_
    unfold am_qt
    rw [List.take_add_one]
    simp
theorem am_qc_m {E E' : am_E} (h : am_leE E E') : am_qc E ≤ am_qc E' := Nat.add_le_add h.1 h.2
theorem am_qs_m {E E' : am_E} (h : am_leE E E') : am_qs E ≤ am_qs E' := Nat.add_le_add (am_qt_m h.1) (Nat.mul_le_mul_left 6 h.2)
end
section
/-! ===== BEGIN a constructor that throws (launches without stack traces) ===== -/
section VXIA
variable {p : Program} {l : Launch} {e : Env} {R : Room} {s : State} {m : MethodId} {args : Array Value} {below : List Frame} {meth : Method} {c : Code} {T : State} {locs : List Loc} {cells slots : Nat}
theorem vx_callI (X : Stand p l e R s m args below meth c T locs cells slots) (hexec : p.tables.exec = Jvm.exec) {own : String} {index : Nat} {y : MethodName} {bytes : ByteArray} {maxL : Nat}
    (hown : s.vm.findClass own = some m.cls) (hy1 : y.name = "<init>") (hlink : (Cond.methodLink own index y).before args s = true) (hinst : (Cond.instanceMethod y).before args s = true)
    (hcode : (Cond.code y bytes maxL none).before args s = true) (hy : y.cls ≠ "java/lang/invoke/MethodHandle" ∧ y.cls ≠ "java/lang/invoke/VarHandle")
    {W9 : Nat} {Pre : Pt → Array Value → Prop} {Post : Pt → Array Value → Option Value → Pt → Prop} {PostX : Pt → Array Value → Addr → Pt → Prop} (hK : vx_Back l R p e below s args y 3 W9 Pre Post PostX)
    {g : JFrame} (hg : g.method = m) (hsize : g.locals.size = c.maxLocals) {a : Addr} {argsL rest : List Value} (hlen : ∀ sig, parseMethodDescriptor y.desc = some sig → argsL.length = sig.parameters.length)
    (hstack : g.stack = argsL.reverse ++ .ref a :: rest) (hW : 2 * g.monitorRoom + (rest.map fun v => v.category).sum ≤ W9) (hdg : decode c.code g.pc = .ok (.invokespecial index, 3))
    (hpre : ∀ vm₁, s.WarmedH vm₁ → Pre ⟨T.setVm vm₁, locs, cells, slots⟩ (Value.ref a :: argsL).toArray) :
    (∃ (v : Option Value) (vm₁ : Vm) (B : Pt), s.WarmedH vm₁ ∧ Stand p l e R s m args below meth c B.U B.locs B.cells B.slots ∧ Post ⟨T.setVm vm₁, locs, cells, slots⟩ (Value.ref a :: argsL).toArray v B ∧
      ∀ target, Steps p.tables e below (B.U.setTop { g with pc := g.pc + 3, stack := v.toList ++ rest }) target → Steps p.tables e below (T.setTop g) target) ∨
    (∃ (q : Addr) (vm₁ : Vm) (B : Pt), s.WarmedH vm₁ ∧ Stand p l e R s m args below meth c B.U B.locs B.cells B.slots ∧ PostX ⟨T.setVm vm₁, locs, cells, slots⟩ (Value.ref a :: argsL).toArray q B ∧
      Steps p.tables e below (T.setTop g) ((B.U.setTop { g with stack := rest }).pushFrame (.throwing q))) := by
  subst hg
  have hpl : e.platform.magicAccessors = ({} : Platform).magicAccessors := by rw [X.admits.platform]
  obtain ⟨mk, methM, cM, kP, vm₁, hnamed, hmethM, hcodeM, -, hlocalsM, -, hkP, -, hW₁, hstep₁⟩ := Steps.initColdArgs (e := e) X.here hexec X.warmed hpl hown hy1 hy hlink hinst hcode (f := g) rfl hlen hstack hdg
  have X₁ := X.noted hW₁
  rcases hK g.method meth c ⟨T.setVm vm₁, locs, cells, slots⟩ { g with stack := rest } (.invokespecial index) mk (Value.ref a :: argsL).toArray X₁ rfl hsize hdg hW (X₁.named hnamed) (hpre vm₁ X₁.warmed) with ⟨v, B, X', hpost, hsteps⟩ | ⟨q, B, X', hpost, hsteps⟩
  · exact Or.inl ⟨v, vm₁, B, X₁.warmed, X', hpost, fun target h => hstep₁ _ fun acts => by rw [doInvoke_state]; exact hsteps.trans h⟩
  · exact Or.inr ⟨q, vm₁, B, X₁.warmed, X', hpost, hstep₁ _ fun acts => by rw [doInvoke_state]; exact hsteps⟩
end VXIA
section VXIB
variable {p : Program} {l : Launch} {e : Env} {R : Room} {s : State} {m : MethodId} {args : Array Value} {below : List Frame} {meth : Method} {c : Code} {H : Heap} {locs : List Loc} {cells slots : Nat}
variable {y : MethodName} {bytes cc : ByteArray} {maxL nL mc ms n index : Nat} {ret : Option FieldType} {ws : List Cond} {rm : Room} {Pc : Array Value → State → Prop} {Qc : Array Value → State → Outcome → State → Prop} {XC : String → State → State → Prop} {free : Addr → Prop} {Ts : List Cond} {own C : String} {b : Addr} {As rest : List Value} {g : JFrame}
theorem vx_runI (S : CallFix p m c cc nL s args Ts own) (hM : vx_Met l y ws rm Pc Qc XC mc ms free) (cw : CallB R s args own index y bytes maxL none ws rm mc ms n ∧ y.name = "<init>" ∧ (Cond.instanceMethod y).before args s = true) (hp : PreS s H Pc (.ref b :: As))
    (hg : g.method = m) (hn : As.length = n) (hsize : g.locals.size = nL) (hstack : g.stack = As.reverse ++ .ref b :: rest) (hW : 2 * g.monitorRoom + (rest.map fun v => v.category).sum ≤ 8) (hdg : decode cc g.pc = .ok (.invokespecial index, 3)) (hf : cells + mc ≤ R.cells ∧ slots + ms ≤ R.slots) :
    vx_Run p l e R s m args below meth c H locs cells slots mc ms g rest (Qc (Value.ref b :: As).toArray) XC free := by
  have hK : vx_Back l R p e below s args y 3 8 (PreOf R mc ms Pc) (PostOf Qc mc ms free) (vx_Post XC mc ms free) := vx_callBack cw.1 hM hp.1
  obtain ⟨⟨-, -, -, -, -, -, hcode, -, hy, hlen, hl⟩, hy1, hin⟩ := cw
  obtain ⟨hx, hb, hml, ho, -⟩ := S
  have hPc := hp.2
  intro T hT X
  rcases vx_callI X hx (bytes := bytes) (maxL := maxL) ho hy1 hl hin hcode hy hK hg (hsize.trans hml.symm) (a := b) (argsL := As) (rest := rest) (fun sig h => hn.trans (hlen sig h)) hstack hW (by rw [hb]; exact hdg)
    (fun vm₁ hW₁ => ⟨hf.1, hf.2, hPc (T.setVm vm₁) hT hW₁⟩) with ⟨v, vm₁, ⟨U', l2, c2, s2⟩, hW₁, X', ⟨g', mk, t, L, e1, e2, hq, h1, hL, h2, h3⟩, st⟩ | ⟨q, vm₁, ⟨U', l2, c2, s2⟩, hW₁, X', ⟨g', mk, t, L, E, ce, e1, e2, hq, hce, hcv, hcl, h1, hL, h2, h3⟩, st⟩
  · dsimp only [Pt.U, Pt.locs, Pt.cells, Pt.slots] at X' e1 e2 h1 h2 h3 st
    subst h1; subst h2; subst h3
    exact Or.inl ⟨v, (T.setVm vm₁).calling g' mk (Value.ref b :: As).toArray, t, U', L, hT, X', hL, e1, e2, hq, st⟩
  · dsimp only [Pt.U, Pt.locs, Pt.cells, Pt.slots] at X' e1 e2 h1 h2 h3 st hcl
    subst h1; subst h2; subst h3
    exact Or.inr ⟨q, (T.setVm vm₁).calling g' mk (Value.ref b :: As).toArray, t, U', L, E, ce, hT, X', hL, e1, e2, hq, hce, hcv, vx_cls hW₁ hcl, st⟩
end VXIB
/-! ===== END ===== -/
/-! ===== BEGIN a private method of a nest mate that may throw (follows va_callVN, va_callSN, va_runVN, va_runSN) ===== -/
section
variable {p : Program} {l : Launch} {e : Env} {R : Room} {s : State} {m : MethodId} {args : Array Value} {below : List Frame} {meth : Method} {c : Code} {H : Heap} {locs : List Loc} {cells slots : Nat}
variable {T : State}
theorem vx_callVN (X : Stand p l e R s m args below meth c T locs cells slots) (hexec : p.tables.exec = Jvm.exec) {own C : String} {index : Nat} {host : String} {y : MethodName} {bytes : ByteArray} {maxL : Nat} {ret : Option FieldType}
    (hown : s.vm.findClass own = some m.cls) (hlink : (Cond.methodLinkNest own index y host).before args s = true) (hinst : (Cond.instanceMethod y).before args s = true) (hsel : (Cond.selects C y y).before args s = true)
    (hcode : (Cond.code y bytes maxL ret).before args s = true) (hy : y.cls ≠ "java/lang/invoke/MethodHandle" ∧ y.cls ≠ "java/lang/invoke/VarHandle")
    {W : Nat} {Pre : Pt → Array Value → Prop} {Post : Pt → Array Value → Option Value → Pt → Prop} {PostX : Pt → Array Value → Addr → Pt → Prop} (hK : vx_Back l R p e below s args y 3 W Pre Post PostX)
    {b : Addr} {cellB : Cell} (hcell : T.heap[b]? = some cellB) (hobj : cellB.vm.isStatics = false) (hcls : s.vm.findClass C = some cellB.cls)
    {g : JFrame} (hg : g.method = m) (hsize : g.locals.size = c.maxLocals) {argsL rest : List Value} (hlen : ∀ sig, parseMethodDescriptor y.desc = some sig → argsL.length = sig.parameters.length)
    (hstack : g.stack = argsL.reverse ++ .ref b :: rest) (hW : 2 * g.monitorRoom + (rest.map fun v => v.category).sum ≤ W) (hdg : decode c.code g.pc = .ok (.invokevirtual index, 3))
    (hpre : ∀ vm₁, s.WarmedH vm₁ → Pre ⟨T.setVm vm₁, locs, cells, slots⟩ (Value.ref b :: argsL).toArray) :
    (∃ (v : Option Value) (vm₁ : Vm) (B : Pt), s.WarmedH vm₁ ∧ Stand p l e R s m args below meth c B.U B.locs B.cells B.slots ∧ Post ⟨T.setVm vm₁, locs, cells, slots⟩ (Value.ref b :: argsL).toArray v B ∧
      ∀ target, Steps p.tables e below (B.U.setTop { g with pc := g.pc + 3, stack := v.toList ++ rest }) target → Steps p.tables e below (T.setTop g) target) ∨
    (∃ (q : Addr) (vm₁ : Vm) (B : Pt), s.WarmedH vm₁ ∧ Stand p l e R s m args below meth c B.U B.locs B.cells B.slots ∧ PostX ⟨T.setVm vm₁, locs, cells, slots⟩ (Value.ref b :: argsL).toArray q B ∧
      Steps p.tables e below (T.setTop g) ((B.U.setTop { g with stack := rest }).pushFrame (.throwing q))) := by
  obtain ⟨mk, methM, hnamed, hmethM, hstM, habM⟩ := Cond.instanceMethod_spec hinst
  obtain ⟨methM', cM, hmethM', -, -, -, -, -, -, hsigM⟩ := Cond.code_spec hnamed hcode
  cases hmethM.symm.trans hmethM'
  obtain ⟨c2, r2, m2, q1, q2, q3, q4, kP, hkP, hkPi⟩ := Cond.selects_spec hsel
  cases hcls.symm.trans q1
  cases (State.methodFound?_of_named hnamed hy).symm.trans q2
  cases hnamed.symm.trans q3
  have hselP : selectMethod e.platform s.vm cellB.cls mk = .method mk := by rw [Launch.admits_selectMethod X.admits]; exact q4
  obtain ⟨vm₁, X₁, hstep₁⟩ := X.invokevirtualNest hexec hown hlink hnamed hmethM hstM hkP hkPi hy (a := b) (cell := cellB) hcell
    (fun z h => by rw [h] at hobj; cases hobj) hselP hmethM habM hkP hkPi (g := g) hg (argsL := argsL) (rest := rest) (hlen _ hsigM) hstack hdg
  rcases hK m meth c ⟨T.setVm vm₁, locs, cells, slots⟩ { g with stack := rest } (.invokevirtual index) mk (Value.ref b :: argsL).toArray X₁ hg hsize hdg hW (X₁.named hnamed) (hpre vm₁ X₁.warmed) with ⟨v, B, X', hpost, hsteps⟩ | ⟨q, B, X', hpost, hsteps⟩
  · exact Or.inl ⟨v, vm₁, B, X₁.warmed, X', hpost, fun target h => hstep₁ _ fun acts => by rw [doInvoke_state]; exact hsteps.trans h⟩
  · exact Or.inr ⟨q, vm₁, B, X₁.warmed, X', hpost, hstep₁ _ fun acts => by rw [doInvoke_state]; exact hsteps⟩
theorem vx_callSN (X : Stand p l e R s m args below meth c T locs cells slots) (hexec : p.tables.exec = Jvm.exec) {own : String} {index : Nat} {host : String} {y : MethodName} {bytes : ByteArray} {maxL : Nat} {ret : Option FieldType}
    (hown : s.vm.findClass own = some m.cls) (hlink : (Cond.methodLinkNest own index y host).before args s = true) (hstat : (Cond.static y).before args s = true) (hinit : (Cond.initialized y.cls).before args s = true)
    (hcode : (Cond.code y bytes maxL ret).before args s = true) (hy : y.cls ≠ "java/lang/invoke/MethodHandle" ∧ y.cls ≠ "java/lang/invoke/VarHandle")
    {W : Nat} {Pre : Pt → Array Value → Prop} {Post : Pt → Array Value → Option Value → Pt → Prop} {PostX : Pt → Array Value → Addr → Pt → Prop} (hK : vx_Back l R p e below s args y 3 W Pre Post PostX)
    {g : JFrame} (hg : g.method = m) (hsize : g.locals.size = c.maxLocals) {argsL rest : List Value} (hlen : ∀ sig, parseMethodDescriptor y.desc = some sig → argsL.length = sig.parameters.length)
    (hstack : g.stack = argsL.reverse ++ rest) (hW : 2 * g.monitorRoom + (rest.map fun v => v.category).sum ≤ W) (hdg : decode c.code g.pc = .ok (.invokestatic index, 3))
    (hpre : ∀ vm₁, s.WarmedH vm₁ → Pre ⟨T.setVm vm₁, locs, cells, slots⟩ argsL.toArray) :
    (∃ (v : Option Value) (vm₁ : Vm) (B : Pt), s.WarmedH vm₁ ∧ Stand p l e R s m args below meth c B.U B.locs B.cells B.slots ∧ Post ⟨T.setVm vm₁, locs, cells, slots⟩ argsL.toArray v B ∧
      ∀ target, Steps p.tables e below (B.U.setTop { g with pc := g.pc + 3, stack := v.toList ++ rest }) target → Steps p.tables e below (T.setTop g) target) ∨
    (∃ (q : Addr) (vm₁ : Vm) (B : Pt), s.WarmedH vm₁ ∧ Stand p l e R s m args below meth c B.U B.locs B.cells B.slots ∧ PostX ⟨T.setVm vm₁, locs, cells, slots⟩ argsL.toArray q B ∧
      Steps p.tables e below (T.setTop g) ((B.U.setTop { g with stack := rest }).pushFrame (.throwing q))) := by
  obtain ⟨mk, hnamed⟩ := Cond.code_named hcode
  obtain ⟨methM, cM, hmethM, -, -, -, -, -, -, hsigM⟩ := Cond.code_spec hnamed hcode
  have hstatic : methM.isStatic = true := Cond.static_spec hnamed hmethM hstat
  obtain ⟨kP, hkP, -⟩ := className_of_methodNamed hnamed
  have hinitP : kP.init = .initialized := Cond.initialized_spec (findClass_of_methodNamed hnamed) hkP hinit
  obtain ⟨vm₁, X₁, hstep₁⟩ := X.invokestaticNest hexec hown hlink hnamed hmethM hstatic hkP hinitP hy (g := g) hg (argsL := argsL) (rest := rest) (hlen _ hsigM) hstack hdg
  rcases hK m meth c ⟨T.setVm vm₁, locs, cells, slots⟩ { g with stack := rest } (.invokestatic index) mk argsL.toArray X₁ hg hsize hdg hW (X₁.named hnamed) (hpre vm₁ X₁.warmed) with ⟨v, B, X', hpost, hsteps⟩ | ⟨q, B, X', hpost, hsteps⟩
  · exact Or.inl ⟨v, vm₁, B, X₁.warmed, X', hpost, fun target h => hstep₁ _ fun acts => by rw [doInvoke_state]; exact hsteps.trans h⟩
  · exact Or.inr ⟨q, vm₁, B, X₁.warmed, X', hpost, hstep₁ _ fun acts => by rw [doInvoke_state]; exact hsteps⟩
theorem vx_runVN {y : MethodName} {bytes cc : ByteArray} {maxL nL mc ms n index : Nat} {ret : Option FieldType} {ws : List Cond} {rm : Room} {Pc : Array Value → State → Prop} {Qc : Array Value → State → Outcome → State → Prop} {XC : String → State → State → Prop} {free : Addr → Prop} {Ts : List Cond} {own C host : String} {b : Addr} {As rest : List Value} {g : JFrame}
    (S : CallFix p m c cc nL s args Ts own) (hM : vx_Met l y ws rm Pc Qc XC mc ms free) (cw : va_CN R s args own index y host bytes maxL ret ws rm mc ms n ∧ (Cond.instanceMethod y).before args s = true ∧ (Cond.selects C y y).before args s = true) (hp : PreV s H C b Pc As)
    (hg : g.method = m) (hn : As.length = n) (hsize : g.locals.size = nL) (hstack : g.stack = As.reverse ++ .ref b :: rest) (hW : 2 * g.monitorRoom + (rest.map fun v => v.category).sum ≤ 8) (hdg : decode cc g.pc = .ok (.invokevirtual index, 3)) (hf : cells + mc ≤ R.cells ∧ slots + ms ≤ R.slots) :
    vx_Run p l e R s m args below meth c H locs cells slots mc ms g rest (Qc (Value.ref b :: As).toArray) XC free := by
  obtain ⟨⟨⟨hrc, hrs, hfr, hlo, hws, hcw⟩, hcode, hini, hy, hlen, hl⟩, hx1, hx2⟩ := cw
  have hK : vx_Back l R p e below s args y 3 8 (PreOf R mc ms Pc) (PostOf Qc mc ms free) (vx_Post XC mc ms free) := vx_back (bytes := bytes) (maxL := maxL) (ret := ret) hM hp.1 hrc hrs hfr hlo hws hcw (fun a' U hW => word_at hW (Or.inl (by first | rfl | simp [Cond.onTables, Cond.keeps, Cond.steady])) hini)
  obtain ⟨hx, hb, hml, ho, -⟩ := S
  obtain ⟨-, ⟨cellB, hcB, hoB, hclB⟩, hPc⟩ := hp
  intro T hT X
  rcases vx_callVN X hx (C := C) (bytes := bytes) (maxL := maxL) (ret := ret) ho hl hx1 hx2 hcode hy hK (by rw [hT]; exact hcB) hoB hclB hg (hsize.trans hml.symm) (argsL := As) (rest := rest) (fun sig h => hn.trans (hlen sig h)) hstack hW (by rw [hb]; exact hdg)
    (fun vm₁ hW₁ => ⟨hf.1, hf.2, hPc (T.setVm vm₁) hT hW₁⟩) with ⟨v, vm₁, ⟨U', l2, c2, s2⟩, hW₁, X', ⟨g', mk, t, L, e1, e2, hq, h1, hL, h2, h3⟩, st⟩ | ⟨q, vm₁, ⟨U', l2, c2, s2⟩, hW₁, X', ⟨g', mk, t, L, E, ce, e1, e2, hq, hce, hcv, hcl, h1, hL, h2, h3⟩, st⟩
  · dsimp only [Pt.U, Pt.locs, Pt.cells, Pt.slots] at X' e1 e2 h1 h2 h3 st
    subst h1; subst h2; subst h3
    exact Or.inl ⟨v, (T.setVm vm₁).calling g' mk (Value.ref b :: As).toArray, t, U', L, hT, X', hL, e1, e2, hq, st⟩
  · dsimp only [Pt.U, Pt.locs, Pt.cells, Pt.slots] at X' e1 e2 h1 h2 h3 st hcl
    subst h1; subst h2; subst h3
    exact Or.inr ⟨q, (T.setVm vm₁).calling g' mk (Value.ref b :: As).toArray, t, U', L, E, ce, hT, X', hL, e1, e2, hq, hce, hcv, vx_cls hW₁ hcl, st⟩
theorem vx_runSN {y : MethodName} {bytes cc : ByteArray} {maxL nL mc ms n index : Nat} {ret : Option FieldType} {ws : List Cond} {rm : Room} {Pc : Array Value → State → Prop} {Qc : Array Value → State → Outcome → State → Prop} {XC : String → State → State → Prop} {free : Addr → Prop} {Ts : List Cond} {own host : String} {As rest : List Value} {g : JFrame}
    (S : CallFix p m c cc nL s args Ts own) (hM : vx_Met l y ws rm Pc Qc XC mc ms free) (cw : va_CN R s args own index y host bytes maxL ret ws rm mc ms n ∧ (Cond.static y).before args s = true ∧ True) (hp : PreS s H Pc As)
    (hg : g.method = m) (hn : As.length = n) (hsize : g.locals.size = nL) (hstack : g.stack = As.reverse ++ rest) (hW : 2 * g.monitorRoom + (rest.map fun v => v.category).sum ≤ 8) (hdg : decode cc g.pc = .ok (.invokestatic index, 3)) (hf : cells + mc ≤ R.cells ∧ slots + ms ≤ R.slots) :
    vx_Run p l e R s m args below meth c H locs cells slots mc ms g rest (Qc As.toArray) XC free := by
  obtain ⟨⟨⟨hrc, hrs, hfr, hlo, hws, hcw⟩, hcode, hini, hy, hlen, hl⟩, hx1, hx2⟩ := cw
  have hK : vx_Back l R p e below s args y 3 8 (PreOf R mc ms Pc) (PostOf Qc mc ms free) (vx_Post XC mc ms free) := vx_back (bytes := bytes) (maxL := maxL) (ret := ret) hM hp.1 hrc hrs hfr hlo hws hcw (fun a' U hW => word_at hW (Or.inl (by first | rfl | simp [Cond.onTables, Cond.keeps, Cond.steady])) hini)
  obtain ⟨hx, hb, hml, ho, -⟩ := S
  have hPc := hp.2
  intro T hT X
  rcases vx_callSN X hx (bytes := bytes) (maxL := maxL) (ret := ret) ho hl hx1 hini hcode hy hK hg (hsize.trans hml.symm) (argsL := As) (rest := rest) (fun sig h => hn.trans (hlen sig h)) hstack hW (by rw [hb]; exact hdg)
    (fun vm₁ hW₁ => ⟨hf.1, hf.2, hPc (T.setVm vm₁) hT hW₁⟩) with ⟨v, vm₁, ⟨U', l2, c2, s2⟩, hW₁, X', ⟨g', mk, t, L, e1, e2, hq, h1, hL, h2, h3⟩, st⟩ | ⟨q, vm₁, ⟨U', l2, c2, s2⟩, hW₁, X', ⟨g', mk, t, L, E, ce, e1, e2, hq, hce, hcv, hcl, h1, hL, h2, h3⟩, st⟩
  · dsimp only [Pt.U, Pt.locs, Pt.cells, Pt.slots] at X' e1 e2 h1 h2 h3 st
    subst h1; subst h2; subst h3
    exact Or.inl ⟨v, (T.setVm vm₁).calling g' mk As.toArray, t, U', L, hT, X', hL, e1, e2, hq, st⟩
  · dsimp only [Pt.U, Pt.locs, Pt.cells, Pt.slots] at X' e1 e2 h1 h2 h3 st hcl
    subst h1; subst h2; subst h3
    exact Or.inr ⟨q, (T.setVm vm₁).calling g' mk As.toArray, t, U', L, E, ce, hT, X', hL, e1, e2, hq, hce, hcv, vx_cls hW₁ hcl, st⟩
end
/-! ===== END ===== -/
end
section
/-! ===== calls and ends ===== -/
theorem am_cv_ol (B0 b : Nat) (v : Option am_V) (rest : List am_V) : (v.map (am_cv B0 b)).toList ++ rest.map (am_cv B0 b) = (am_ol v ++ rest).map (am_cv B0 b) := by
  cases v <;> rfl
theorem am_ivc_i {t c : Nat} {i : Instr} {as : List am_V} {E : am_E} (h : am_ivc t c i as E = true) : (∃ idx, i = .invokestatic idx ∧ (c = 0 ∨ c = 3 ∨ c = 4)) ∨ (∃ idx r as', i = .invokevirtual idx ∧ c = 1 ∧ as = am_A r :: as' ∧ am_ob E r (am_mt t).2.1 = true) ∨ (∃ idx r as', i = .invokespecial idx ∧ c = 2 ∧ as = am_A r :: as' ∧ am_ob E r (am_mt t).2.1 = true) := by
  have hr : am_rcv as (am_mt t).2.1 E = true → ∃ r as', as = am_A r :: as' ∧ am_ob E r (am_mt t).2.1 = true := fun h => by
    unfold am_rcv at h
    split at h
    · exact ⟨_, _, rfl, h⟩
    · cases h
  unfold am_ivc at h
  split at h
  · simp only [Bool.or_eq_true, beq_iff_eq] at h
    exact Or.inl ⟨_, rfl, by omega⟩
  · simp only [Bool.and_eq_true, beq_iff_eq] at h
    obtain ⟨r, as', h1, h2⟩ := hr h.2
    exact Or.inr (Or.inl ⟨_, r, as', rfl, h.1, h1, h2⟩)
  · simp only [Bool.and_eq_true, beq_iff_eq] at h
    obtain ⟨r, as', h1, h2⟩ := hr h.2
    exact Or.inr (Or.inr ⟨_, r, as', rfl, h.1, h1, h2⟩)
  · cases h
section AMC
variable {dC : Nat → ClassId} {dI : Nat → Nat → Nat} {cy : Nat → ClassId} {B0 b L : Nat} {xs : Nat → Int32}
theorem am_F_mv {s U : State} {locs : List Loc} (hF : am_F dC dI cy B0 b L xs s) (hW : s.WarmedH U.vm) (hS : va_S (fun q => B0 ≤ q) s.heap U.heap locs) : am_F dC dI cy B0 b L xs U := by
  obtain ⟨h1, h2, h3, h4, h5, h6, h7, h8, h9, h10, h11⟩ := hF
  have ha := hW.alike
  have hk : ∀ a : Nat, a < s.heap.size → ¬ B0 ≤ a → U.heap[a]? = s.heap[a]? := fun a q1 q2 => hS.2.1 a q1 q2
  refine ⟨fun w hw a => am_wmv (List.mem_filter.mp hw).2 hW (h1 w hw #[]) a, h2.moved ha, (h3.kept (hk b (by omega) (by omega))).moved ha, h4, Nat.le_trans h5 hS.1, h6, (h7.kept hk).moved ha, (h8.kept hk).moved ha, fun q hq => ?_, va_AO.moved ha h10, fun x y hx hy hxy => va_Nc.moved ha (h11 x y hx hy hxy)⟩
  obtain ⟨a, h⟩ := h9 q hq
  exact ⟨a, h.warm hW⟩
def am_Pc (dC : Nat → ClassId) (dI : Nat → Nat → Nat) (cy : Nat → ClassId) (B0 b L : Nat) (xs : Nat → Int32) (as : List am_V) (E : am_E) (M : am_M) : Array Value → State → Prop := va_Pc (as.map (am_cv B0 b)) (fun U => am_F dC dI cy B0 b L xs U ∧ am_H dC dI cy B0 b L xs E M U.heap ∧ (E.2.1 = 0 → U.heap.size = B0 + E.1))
def am_Qc (dC : Nat → ClassId) (dI : Nat → Nat → Nat) (cy : Nat → ClassId) (B0 b L : Nat) (xs : Nat → Int32) (r : am_Rs) : Array Value → State → Outcome → State → Prop := fun _ st o t => (∃ v, r.1 = .inl v ∧ o = .returned (v.map (am_cv B0 b)) ∧ ∀ x ∈ am_ol v, am_nv x) ∧ am_H dC dI cy B0 b L xs r.2.1 r.2.2 t.heap ∧ va_F (fun q => B0 ≤ q) st t
def am_XC (dC : Nat → ClassId) (dI : Nat → Nat → Nat) (cy : Nat → ClassId) (B0 b L : Nat) (xs : Nat → Int32) (r : am_Rs) : String → State → State → Prop := fun X st t => (∃ x, r.1 = .inr x ∧ X = am_xn x ∧ x < 3) ∧ am_H dC dI cy B0 b L xs r.2.1 r.2.2 t.heap ∧ va_F (fun q => B0 ≤ q) st t
def am_rm (k : Nat) (E : am_E) (r : am_Rs) : Room := { frames := 10 + am_rk k, cells := am_qc r.2.1 - am_qc E, slots := am_qs r.2.1 - am_qs E, locals := 200 + 60 * am_rk k }
/-- the contract of a method that runs so -/
def am_Ctr (l : Launch) (dC : Nat → ClassId) (dI : Nat → Nat → Nat) (cy : Nat → ClassId) (B0 b L : Nat) (xs : Nat → Int32) (k : Nat) (as : List am_V) (E : am_E) (M : am_M) (r : am_Rs) : Prop :=
  vx_Met l (am_mt k).2.2.1 [am_cw k] (am_rm k E r) (am_Pc dC dI cy B0 b L xs as E M) (am_Qc dC dI cy B0 b L xs r) (am_XC dC dI cy B0 b L xs r) (am_qc r.2.1 - am_qc E) (am_qs r.2.1 - am_qs E) (fun q => B0 ≤ q)
theorem am_blind {as : List am_V} {E : am_E} {M : am_M} : FrameBlind (am_Pc dC dI cy B0 b L xs as E M) := by
  intro a U g mk ⟨h1, h2, h3, h4⟩
  refine ⟨h1, ?_, h3, h4⟩
  exact am_F_mv (U := U.calling g mk a) h2 (State.WarmedH.refl U) (va_S.rf)
variable {p : Program} {l : Launch} {e : Env} {R : Room} {s : State} {m : MethodId} {args : Array Value} {below : List Frame} {meth : Method} {c : Code} {H : Heap} {locs : List Loc} {cells slots : Nat} {Q : State → Prop}
variable {cc : ByteArray} {pc : Nat} {lsC : Array Slot} {E : am_E} {M : am_M} {k : Nat}
/-- what every call of a method owes -/
theorem am_callB {t : Nat} {r : am_Rs} (hF : am_F dC dI cy B0 b L xs s) (ht : t < 229) (h225 : t ≠ 225) (hrk : am_rk t < am_rk k) (hRf : 10 + am_rk k ≤ R.frames) (hRl : 200 + 60 * am_rk k ≤ R.locals) (hh : (am_mt t).2.2.2.2.2.2.1 = []) {idx n : Nat} (hlk : (Cond.methodLink (am_gn (am_mt k).1) idx (am_mt t).2.2.1).before args s = true)
    (hn : n = if (am_mp t).2.2.2 = true then (am_mt t).2.2.2.2.2.2.2 else (am_mt t).2.2.2.2.2.2.2 - 1) :
    CallB R s args (am_gn (am_mt k).1) idx (am_mt t).2.2.1 (am_mt t).2.2.2.1 (am_mt t).2.2.2.2.1 (am_mt t).2.2.2.2.2.1 [am_cw t] (am_rm t E r) (am_qc r.2.1 - am_qc E) (am_qs r.2.1 - am_qs E) n := by
  obtain ⟨a1, a2, a3, a4, a5, a6, a7, a8, a9⟩ := am_mt_i ht h225
  have hcw : am_cw t = .code (am_mt t).2.2.1 (am_mt t).2.2.2.1 (am_mt t).2.2.2.2.1 (am_mt t).2.2.2.2.2.1 := by unfold am_cw; rw [hh]
  have hpl := am_plain _ a5
  refine ⟨rfl, rfl, by unfold am_rm; dsimp only; omega, by unfold am_rm; dsimp only; omega, fun w hw a' U hW => ?_, by rw [hcw]; exact List.mem_singleton_self _, by rw [← hcw]; exact hF.1 _ a1 _, by rw [a4]; exact hF.1 _ a9 _, by rw [a4]; exact ⟨hpl.2.1, hpl.2.2⟩, fun sig h => ?_, hlk⟩
  · rw [List.mem_singleton.mp hw]
    exact am_wmv (List.mem_filter.mp a1).2 hW (hF.1 _ a1 #[]) a'
  · rw [h] at a7
    rw [hn]
    exact (Option.some.inj a7).symm
theorem am_pre {as : List am_V} (hF : am_F dC dI cy B0 b L xs s) (hH : am_H dC dI cy B0 b L xs E M H) (hS : va_S (fun q => B0 ≤ q) s.heap H locs) (hsz : E.2.1 = 0 → H.size = B0 + E.1) {vs : List Value} (hv : vs = as.map (am_cv B0 b)) : PreS s H (am_Pc dC dI cy B0 b L xs as E M) vs :=
  ⟨am_blind, fun U hU hW => ⟨by rw [hv], am_F_mv (locs := locs) hF hW (by rw [hU]; exact hS), by rw [hU]; exact hH, by rw [hU]; exact hsz⟩⟩
/-- a call, as an instruction: it is run, or throws -/
theorem am_W_iv (hk : k < 229) (hx : p.tables.exec = Jvm.exec) (hb : c.code = cc) {nL : Nat} (hml : c.maxLocals = nL) (hls : lsC.size = nL) (hF : am_F dC dI cy B0 b L xs s) (hown : s.vm.findClass (am_gn (am_mt k).1) = some m.cls) (hH : am_H dC dI cy B0 b L xs E M H) (hS : va_S (fun q => B0 ≤ q) s.heap H locs) (hsz : E.2.1 = 0 → H.size = B0 + E.1) (hRf : 10 + am_rk k ≤ R.frames) (hRl : 200 + 60 * am_rk k ≤ R.locals)
    {i : Instr} {len t : Nat} {st as rest : List am_V} {r : am_Rs} (hd : decode cc pc = .ok (i, len)) (hl : len = am_ln i) (hs : am_iv k i st E = some (.inr (t, as, rest))) (hfit : cells + (am_qc r.2.1 - am_qc E) ≤ R.cells ∧ slots + (am_qs r.2.1 - am_qs E) ≤ R.slots) (hC : am_rk t < am_rk k → t < 229 → t ≠ 225 → as.length = (am_mt t).2.2.2.2.2.2.2 → (∀ x ∈ as, x ∈ st) → (am_xp as).length ≤ (am_mt t).2.2.2.2.1 → am_Ctr l dC dI cy B0 b L xs t as E M r) :
    (∀ x ∈ rest, x ∈ st) ∧ (∀ x ∈ as, x ∈ st) ∧ len = 3 ∧ vx_Run p l e R s m args below meth c H locs cells slots (am_qc r.2.1 - am_qc E) (am_qs r.2.1 - am_qs E) (F0 m pc lsC (st.map (am_cv B0 b))) (rest.map (am_cv B0 b)) (am_Qc dC dI cy B0 b L xs r #[]) (am_XC dC dI cy B0 b L xs r) (fun q => B0 ≤ q) := by
  have hts : ∀ w ∈ am_Ts, w.before args s = true := fun w h => hF.1 w h args
  have hFix : CallFix p m c cc nL s args am_Ts (am_gn (am_mt k).1) := ⟨hx, hb, hml, hown, hts⟩
  unfold am_iv at hs
  split at hs
  · cases hs
  · split at hs
    · split at hs <;> cases hs
    · cases hs
  · split at hs
    · split at hs <;> cases hs
    · cases hs
  · split at hs
    · split at hs <;> cases hs
    · cases hs
  · rename_i t' kd n5 n6 n7 hml'
    split at hs
    · rename_i hcond
      simp only [Option.some.injEq, Sum.inr.injEq, Prod.mk.injEq] at hs
      obtain ⟨e1, e2, e3⟩ := hs
      subst e1
      obtain ⟨hrk, hna, hwt, hki, hxp⟩ := hcond
      generalize hnn : (am_mt t').2.2.2.2.2.2.2 = n at *
      have hre : as.length = n := by rw [← e2, List.length_reverse, List.length_take]; omega
      have hm1 : ∀ x ∈ rest, x ∈ st := fun x h => by rw [← e3] at h; exact List.mem_of_mem_drop h
      have hm2 : ∀ x ∈ as, x ∈ st := fun x h => by rw [← e2] at h; exact List.mem_of_mem_take (List.mem_reverse.mp h)
      have hstk : st.map (am_cv B0 b) = (as.map (am_cv B0 b)).reverse ++ rest.map (am_cv B0 b) := by
        rw [← e2, ← e3, ← List.map_reverse, List.reverse_reverse, ← List.map_append, List.take_append_drop]
      rw [e3] at hwt
      rw [e2] at hki hxp
      refine ⟨hm1, hm2, ?_⟩
      have hW : ∀ pc' ls' st', 2 * (F0 m pc' ls' st').monitorRoom + ((rest.map (am_cv B0 b)).map fun v => v.category).sum ≤ 8 := fun pc' ls' st' => lv_room (by rw [am_wt_cv]; exact hwt)
      rcases am_ivc_i hki with ⟨idx, rfl, hkd⟩ | ⟨idx, r9, as', rfl, rfl, rfl, hob⟩ | ⟨idx, r9, as', rfl, rfl, rfl, hob⟩
      · obtain ⟨pp, hmr⟩ := am_ml_i hml'
        refine ⟨hl, ?_⟩
        subst hl
        rcases hkd with rfl | rfl | rfl
        · simp only [am_mrB, Bool.and_eq_true, decide_eq_true_eq, bne_iff_ne] at hmr
          obtain ⟨⟨⟨⟨g1, g2⟩, g3⟩, g4⟩, g5⟩ := hmr
          have hC' := hC hrk g1 g2 hre hm2 hxp
          obtain ⟨a1, a2, a3, a4, a5, a6, a7, a8, a9⟩ := am_mt_i g1 g2
          rw [if_pos g3] at a2
          exact vx_runS (n := n) (As := as.map (am_cv B0 b)) hFix hC' ⟨am_callB hF g1 g2 hrk hRf hRl g4 (hts _ (am_in_p g5 rfl)) (by rw [if_pos g3, hnn]), hts _ a2⟩ (am_pre hF hH hS hsz rfl) rfl (by rw [List.length_map]; exact hre) hls hstk (hW _ _ _) hd hfit
        · simp only [am_mrB, Bool.and_eq_true, decide_eq_true_eq, bne_iff_ne] at hmr
          obtain ⟨⟨⟨⟨g1, g2⟩, g3⟩, g4⟩, g5⟩ := hmr
          have hC' := hC hrk g1 g2 hre hm2 hxp
          obtain ⟨a1, a2, a3, a4, a5, a6, a7, a8, a9⟩ := am_mt_i g1 g2
          rw [if_pos g3] at a2
          have hcw : am_cw t' = .code (am_mt t').2.2.1 (am_mt t').2.2.2.1 (am_mt t').2.2.2.2.1 (am_mt t').2.2.2.2.2.1 := by unfold am_cw; rw [g4]
          have hpl := am_plain _ a5
          refine vx_runSN (bytes := (am_mt t').2.2.2.1) (maxL := (am_mt t').2.2.2.2.1) (ret := (am_mt t').2.2.2.2.2.1) (n := n) (As := as.map (am_cv B0 b)) (host := RX4) hFix hC' ⟨⟨⟨rfl, rfl, by unfold am_rm; dsimp only; omega, by unfold am_rm; dsimp only; omega, fun w hw a' U hW => ?_, by rw [hcw]; exact List.mem_singleton_self _⟩, by rw [← hcw]; exact hts _ a1, by rw [a4]; exact hts _ a9, by rw [a4]; exact ⟨hpl.2.1, hpl.2.2⟩, fun sig h => ?_, hts _ (am_in_p g5 rfl)⟩, hts _ a2, trivial⟩ (am_pre hF hH hS hsz rfl) rfl (by rw [List.length_map]; exact hre) hls hstk (hW _ _ _) hd hfit
          · rw [List.mem_singleton.mp hw]
            exact am_wmv (List.mem_filter.mp a1).2 hW (hF.1 _ a1 #[]) a'
          · rw [h, if_pos g3, hnn] at a7
            exact (Option.some.inj a7).symm
        · simp only [am_mrB, Bool.and_eq_true, decide_eq_true_eq, bne_iff_ne] at hmr
          obtain ⟨⟨⟨⟨g1, g2⟩, g3⟩, g4⟩, g5⟩ := hmr
          have hC' := hC hrk g1 g2 hre hm2 hxp
          obtain ⟨a1, a2, a3, a4, a5, a6, a7, a8, a9⟩ := am_mt_i g1 g2
          rw [if_pos g3] at a2
          have hcw : am_cw t' = .codeWith (am_mt t').2.2.1 (am_mt t').2.2.2.1 (am_mt t').2.2.2.2.1 (am_mt t').2.2.2.2.2.1 (am_mt t').2.2.2.2.2.2.1 := by
            unfold am_cw
            split
            · rename_i h0; exact absurd h0 g4
            · rfl
          have hpl := am_plain _ a5
          refine vx_runSX (n := n) (As := as.map (am_cv B0 b)) (hh := (am_mt t').2.2.2.2.2.2.1) (bytes := (am_mt t').2.2.2.1) (maxL := (am_mt t').2.2.2.2.1) (ret := (am_mt t').2.2.2.2.2.1) hFix hC' ⟨⟨rfl, rfl, by unfold am_rm; dsimp only; omega, by unfold am_rm; dsimp only; omega, fun w hw a' U hW => ?_, by rw [hcw]; exact List.mem_singleton_self _⟩, by rw [← hcw]; exact hts _ a1, by rw [a4]; exact hts _ a9, by rw [a4]; exact ⟨hpl.2.1, hpl.2.2⟩, fun sig h => ?_, hts _ (am_in_p g5 rfl), hts _ a2⟩ (am_pre hF hH hS hsz rfl) rfl (by rw [List.length_map]; exact hre) hls hstk (hW _ _ _) hd hfit
          · rw [List.mem_singleton.mp hw]
            exact am_wmv (List.mem_filter.mp a1).2 hW (hF.1 _ a1 #[]) a'
          · rw [h, if_pos g3, hnn] at a7
            exact (Option.some.inj a7).symm
      · obtain ⟨pp, hmr⟩ := am_ml_i hml'
        refine ⟨hl, ?_⟩
        subst hl
        simp only [am_mrB, Bool.and_eq_true, decide_eq_true_eq, bne_iff_ne, Bool.not_eq_true'] at hmr
        obtain ⟨⟨⟨⟨⟨g1, g2⟩, g3⟩, g4⟩, g6⟩, g5⟩ := hmr
        have hC' := hC hrk g1 g2 hre hm2 hxp
        obtain ⟨a1, a2, a3, a4, a5, a6, a7, a8, a9⟩ := am_mt_i g1 g2
        rw [if_neg (by rw [g3]; decide)] at a2
        have a3' : Cond.selects (am_cn (am_mt t').2.1) (am_mt t').2.2.1 (am_mt t').2.2.1 ∈ am_Ts := by
          rcases a3 with a3 | a3 | a3
          · rw [g3] at a3; cases a3
          · exact absurd a3 g6
          · exact a3
        have h6 : (am_mt t').2.1 < 6 := by
          have h1 := List.all_eq_true.mp am_mt_ok t' (List.mem_range.mpr g1)
          simp only [am_mtB, Bool.and_eq_true, Bool.or_eq_true, beq_iff_eq, decide_eq_true_eq] at h1
          rcases h1 with h1 | h1
          · exact absurd h1 g2
          · rcases h1.2 with h1 | h1
            · exact h1
            · rw [g3] at h1; cases h1
        obtain ⟨hr9, hlt9, ht9⟩ := am_ob_c hob h6
        have he := am_ws_get (cy := cy) (B0 := B0) (b := b) (M := M) hlt9 ht9
        unfold am_ce at he
        rw [if_pos h6] at he
        have hrc := va_recv hF.2.1 hH.1 (am_cl6 h6) he
        have hPS := am_pre (as := am_A r9 :: as') hF hH hS hsz rfl
        have had : am_cv B0 b (am_A r9) = .ref (B0 + am_ix r9) := by
          show va_rf (some (am_ad B0 b r9)) = _
          rw [am_ad_of hr9]; rfl
        have hlen' : as'.length = n - 1 := by simp only [List.length_cons] at hre; omega
        have h3 : vx_Run p l e R s m args below meth c H locs cells slots (am_qc r.2.1 - am_qc E) (am_qs r.2.1 - am_qs E) (F0 m pc lsC (st.map (am_cv B0 b))) (rest.map (am_cv B0 b)) (am_Qc dC dI cy B0 b L xs r (Value.ref (B0 + am_ix r9) :: as'.map (am_cv B0 b)).toArray) (am_XC dC dI cy B0 b L xs r) (fun q => B0 ≤ q) :=
          vx_runV (n := n - 1) (C := am_cn (am_mt t').2.1) (b := B0 + am_ix r9) (As := as'.map (am_cv B0 b)) hFix hC' ⟨am_callB hF g1 g2 hrk hRf hRl g4 (hts _ (am_in_p g5 rfl)) (by rw [if_neg (by rw [g3]; decide), hnn]), hts _ a2, hts _ a3'⟩ ⟨hPS.1, hrc, by
            have h := hPS.2
            rw [List.map_cons, had] at h
            exact h⟩ rfl (by rw [List.length_map]; exact hlen') hls (by
            show st.map (am_cv B0 b) = _
            rw [hstk, List.map_cons, had, List.reverse_cons, List.append_assoc]; rfl) (hW _ _ _) hd hfit
        exact h3
      · obtain ⟨pp, hmr⟩ := am_ml_i hml'
        refine ⟨hl, ?_⟩
        subst hl
        simp only [am_mrB, Bool.and_eq_true, decide_eq_true_eq, bne_iff_ne, beq_iff_eq, Bool.not_eq_true'] at hmr
        obtain ⟨⟨⟨⟨⟨⟨g1, g2⟩, g3⟩, g4⟩, g6⟩, g7⟩, g5⟩ := hmr
        have hC' := hC hrk g1 g2 hre hm2 hxp
        obtain ⟨a1, a2, a3, a4, a5, a6, a7, a8, a9⟩ := am_mt_i g1 g2
        rw [if_neg (by rw [g3]; decide)] at a2
        have h6 : (am_mt t').2.1 < 6 := by
          have h1 := List.all_eq_true.mp am_mt_ok t' (List.mem_range.mpr g1)
          simp only [am_mtB, Bool.and_eq_true, Bool.or_eq_true, beq_iff_eq, decide_eq_true_eq] at h1
          rcases h1 with h1 | h1
          · exact absurd h1 g2
          · rcases h1.2 with h1 | h1
            · exact h1
            · rw [g3] at h1; cases h1
        obtain ⟨hr9, hlt9, ht9⟩ := am_ob_c hob h6
        have hPS := am_pre (as := am_A r9 :: as') hF hH hS hsz rfl
        have had : am_cv B0 b (am_A r9) = .ref (B0 + am_ix r9) := by
          show va_rf (some (am_ad B0 b r9)) = _
          rw [am_ad_of hr9]; rfl
        have hlen' : as'.length = n - 1 := by simp only [List.length_cons] at hre; omega
        have hcb := am_callB (E := E) (r := r) (args := args) hF g1 g2 hrk hRf hRl g4 (hts _ (am_in_p g5 rfl)) (n := n - 1) (by rw [if_neg (by rw [g3]; decide), hnn])
        rw [g7] at hcb
        have h3 : vx_Run p l e R s m args below meth c H locs cells slots (am_qc r.2.1 - am_qc E) (am_qs r.2.1 - am_qs E) (F0 m pc lsC (st.map (am_cv B0 b))) (rest.map (am_cv B0 b)) (am_Qc dC dI cy B0 b L xs r (Value.ref (B0 + am_ix r9) :: as'.map (am_cv B0 b)).toArray) (am_XC dC dI cy B0 b L xs r) (fun q => B0 ≤ q) :=
          vx_runI (n := n - 1) (b := B0 + am_ix r9) (As := as'.map (am_cv B0 b)) hFix hC' ⟨hcb, g6, hts _ a2⟩ (by
            have h := hPS
            rw [List.map_cons, had] at h
            exact h) rfl (by rw [List.length_map]; exact hlen') hls (by
            show st.map (am_cv B0 b) = _
            rw [hstk, List.map_cons, had, List.reverse_cons, List.append_assoc]; rfl) (hW _ _ _) hd hfit
        exact h3
    · cases hs
end AMC
end
section
/-! ===== a method's run ===== -/
theorem am_cn_ok {k : Nat} (hk : k < 229) : am_gn (am_mt k).1 = am_cn (am_mt k).2.1 := by
  unfold am_mt
  split
  · rename_i t ht
    have := List.all_eq_true.mp am_mts_ok t (List.mem_of_getElem? ht)
    simpa using this
  · rename_i ht
    have h2 : am_mts.length = 229 := by decide +kernel
    rw [List.getElem?_eq_none_iff] at ht
    omega
theorem am_th_i {k pc : Nat} {i : Instr} {st : List am_V} {x : Nat} (h : am_th k pc i st = some x) : ∃ idx, i = .new idx ∧ am_cl k idx = some (.inr x) ∧ st = [] ∧ (am_mt k).1 = 4 ∧ (am_mt k).2.2.2.2.2.2.1 = [] ∧ am_fetch k (pc + 3) = some (.dup, 1) ∧
    ((∃ is, am_fetch k (pc + 4) = some (.ldc is, 2) ∧ (∃ q ∈ am_strs, q.1 = RX4 ∧ q.2.1 = is) ∧ am_fetch k (pc + 6) = some (.invokespecial (am_ic x), 3) ∧ am_fetch k (pc + 9) = some (.athrow, 1)) ∨
     (∃ is, am_fetch k (pc + 4) = some (.ldc_w is, 3) ∧ (∃ q ∈ am_strs, q.1 = RX4 ∧ q.2.1 = is) ∧ am_fetch k (pc + 7) = some (.invokespecial (am_ic x), 3) ∧ am_fetch k (pc + 10) = some (.athrow, 1))) := by
  have hstr : ∀ {is : Nat}, am_strs.any (fun q => q.1 == RX4 && q.2.1 == is) = true → ∃ q ∈ am_strs, q.1 = RX4 ∧ q.2.1 = is := fun h => by
    obtain ⟨q, h1, h2⟩ := List.any_eq_true.mp h
    simp only [Bool.and_eq_true, beq_iff_eq] at h2
    exact ⟨q, h1, h2⟩
  unfold am_th at h
  split at h
  · rename_i idx
    split at h
    · rename_i x' hcl
      split at h
      · rename_i h0
        obtain ⟨g1, g2, g3, g4⟩ := h0
        split at h
        · rename_i is hf
          split at h <;> cases h
          rename_i h5
          exact ⟨idx, rfl, hcl, g1, g2, g3, g4, Or.inl ⟨is, hf, hstr h5.1, h5.2.1, h5.2.2⟩⟩
        · rename_i is hf
          split at h <;> cases h
          rename_i h5
          exact ⟨idx, rfl, hcl, g1, g2, g3, g4, Or.inr ⟨is, hf, hstr h5.1, h5.2.1, h5.2.2⟩⟩
        · cases h
      · cases h
    · cases h
  · cases h
theorem am_iv_i {k : Nat} {i : Instr} {st st' : List am_V} {E : am_E} (h : am_iv k i st E = some (.inl st')) :
    (∃ idx t r, i = .invokespecial idx ∧ am_ml k idx = some (t, 5) ∧ st = am_A r :: st' ∧ am_wt st' ≤ 8) ∨
    (∃ idx t a d rest, i = .invokestatic idx ∧ am_ml k idx = some (t, 6) ∧ st = .inl d :: .inl a :: rest ∧ st' = .inl (if a < d then d else a) :: rest ∧ am_wt rest ≤ 8) ∨
    (∃ idx t a d rest, i = .invokestatic idx ∧ am_ml k idx = some (t, 7) ∧ st = .inl d :: .inl a :: rest ∧ st' = .inl (if d < a then d else a) :: rest ∧ am_wt rest ≤ 8) := by
  unfold am_iv at h
  split at h
  · cases h
  · rename_i t hm
    split at h
    · split at h <;> cases h
      rename_i hw
      exact Or.inl ⟨_, t, _, rfl, hm, rfl, hw⟩
    · cases h
  · rename_i t hm
    split at h
    · split at h <;> cases h
      rename_i hw
      exact Or.inr (Or.inl ⟨_, t, _, _, _, rfl, hm, rfl, rfl, hw⟩)
    · cases h
  · rename_i t hm
    split at h
    · split at h <;> cases h
      rename_i hw
      exact Or.inr (Or.inr ⟨_, t, _, _, _, rfl, hm, rfl, rfl, hw⟩)
    · cases h
  · split at h <;> cases h
theorem am_L_exc {B0 b nL : Nat} {ls : List (Option am_V)} {lsC lsC' : Array Slot} {n : Nat} {v : Value} (h : am_L B0 b nL ls lsC) (hn : n < ls.length) (hf : am_lf ls n = true)
    (h' : lv_has lsC' nL ((n, v) :: (am_lp B0 b ls).filter (fun q => !(q.1 == n) && !(q.1 + 1 == n && q.2.category == 2)))) : am_L B0 b nL (ls.set n none) lsC' := by
  have hg : ∀ j w, am_g (ls.set n none) j = some w → j ≠ n ∧ am_g ls j = some w := fun j w hw => by
    rw [am_g_set hn] at hw
    by_cases hjn : j = n
    · rw [if_pos hjn] at hw
      cases hw
    · rw [if_neg hjn] at hw
      exact ⟨hjn, hw⟩
  refine ⟨by rw [List.length_set]; exact h.1, ⟨h'.1, h'.2.1, fun q hq => ?_⟩, fun j w hw => h.2.2 j w (hg j w hw).2⟩
  obtain ⟨j, w, hj, rfl⟩ := am_lp_mem.mp hq
  obtain ⟨hjn, hj⟩ := hg j w hj
  refine h'.2.2 _ (List.mem_cons_of_mem _ (List.mem_filter.mpr ⟨am_lp_mem.mpr ⟨j, w, hj, rfl⟩, ?_⟩))
  have : ¬ j + 1 = n ∨ ¬ (am_cv B0 b w).category = 2 := by
    by_cases h1 : j + 1 = n
    · exact Or.inr (by rw [am_cat_cv, am_lf_i hf h1 hj]; decide)
    · exact Or.inl h1
  simpa [hjn] using this
section AMX
variable {dC : Nat → ClassId} {dI : Nat → Nat → Nat} {cy : Nat → ClassId} {B0 b L : Nat} {xs : Nat → Int32}
variable {p : Program} {l : Launch} {e : Env} {R : Room} {s : State} {m : MethodId} {args : Array Value} {below : List Frame} {meth : Method} {c : Code} {Q : State → Prop}
variable {k nL : Nat}
/-- caught: on behind the handler's store -/
theorem am_W_catch {H : Heap} {locs : List Loc} {cells slots pc : Nat} {lsC : Array Slot} {ls : List (Option am_V)} (hk : k < 229) (hx : p.tables.exec = Jvm.exec) (hb : c.code = (am_mt k).2.2.2.1) (hown : s.vm.findClass (am_gn (am_mt k).1) = some m.cls) (hF : am_F dC dI cy B0 b L xs s) (htb : (am_mt k).2.2.2.2.2.2.1 ≠ [] → c.exceptionTable.toList = tableOf (am_mt k).2.2.2.2.2.2.1)
    {x pc' nl : Nat} (hx3 : x < 3) (hc : am_hc k pc x = some (pc', nl)) (hn1 : nl < ls.length) (hn2 : am_lf ls nl = true) (hL : am_L B0 b nL ls lsC) {q : Addr} {ce : Cell} {rest : List Value} (hcell : H[q]? = some ce) (hv : ce.vm = .none) (hcl : s.vm.findClass (am_xn x) = some ce.cls)
    (kk : ∀ lsC', am_L B0 b nL (ls.set nl none) lsC' → W p l e R s m args below meth c H locs cells slots Q (F0 m pc' lsC' [])) : vx_W p l e R s m args below meth c H locs cells slots Q (F0 m pc lsC rest) q := by
  have hts : ∀ w ∈ am_Ts, w.before args s = true := fun w h => hF.1 w h args
  have hN := hF.2.2.2.2.2.2.2.2.2.2
  unfold am_hc at hc
  split at hc
  · cases hc
  · rename_i h hh
    have htb := htb (fun h0 => by rw [h0] at hh; cases hh)
    have key : ∀ hs pre, tableOf (am_mt k).2.2.2.2.2.2.1 = pre ++ tableOf hs → (∀ z ∈ pre, covers z pc = false ∨ (z.catchType ≠ 0 ∧ ∃ nm : String, (Cond.classLink (am_gn (am_mt k).1) z.catchType nm).before args s = true ∧ va_Nc (am_xn x) nm s)) → am_hd k pc x hs = some h →
        (∀ lsC', am_L B0 b nL (ls.set nl none) lsC' → W p l e R s m args below meth c H locs cells slots Q (F0 m pc' lsC' [])) → vx_W p l e R s m args below meth c H locs cells slots Q (F0 m pc lsC rest) q := by
      intro hs
      induction hs with
      | nil => intro pre _ _ h0; cases h0
      | cons a t ih =>
        intro pre hp hpre h0 kk
        unfold am_hd at h0
        have hp2 : tableOf (am_mt k).2.2.2.2.2.2.1 = (pre ++ [⟨a.1, a.2.1, a.2.2.1, a.2.2.2⟩]) ++ tableOf t := by rw [hp, List.append_assoc]; rfl
        split at h0
        · rename_i hcov
          split at h0
          · rename_i x' hx'
            obtain ⟨y3, hlk⟩ := am_cl_x hx'
            have hne0 : a.2.2.2 ≠ 0 := fun h => by
              rw [h] at hx'
              revert hx'
              unfold am_cl
              have h9 : ∀ g, am_cr.lookup (g, 0) = none := by
                intro g
                cases hq : am_cr.lookup (g, 0) with
                | none => rfl
                | some v =>
                  have := List.all_eq_true.mp (show am_cr.all (fun e => e.1.2 != 0) = true by decide +kernel) _ (am_lk hq)
                  simp at this
              rw [h9]
              intro h; cases h
            split at h0
            · rename_i hxx
              cases h0
              subst hxx
              obtain ⟨e1, e2, e3, e4⟩ := am_exw x' y3
              have hkk : W p l e R s m args below meth c H locs cells slots Q (F0 m a.2.2.1 lsC [.ref q]) := by
                split at hc
                · rename_i n hf
                  cases hc
                  have hd := am_fetch_i hk hf
                  exact lv_astore hx hb hd hL.2.1 (by have := hL.1; omega) rfl (fun lsC' h' => kk lsC' (am_L_exc hL hn1 hn2 h'))
                · rename_i n hf
                  cases hc
                  have hd := am_fetch_i hk hf
                  exact lv_astore_n hx hb hd rfl hL.2.1 (by have := hL.1; omega) rfl (fun lsC' h' => kk lsC' (am_L_exc hL hn1 hn2 h'))
                · cases hc
              exact vx_catch hown pre _ (tableOf t) (by rw [htb, hp]; rfl) hpre (by simp [covers, hcov]) hne0 (hts _ hlk) (hts _ e3) hcell hv hcl hkk
            · rename_i hxx
              refine ih _ hp2 (fun z hz => ?_) h0 kk
              rcases List.mem_append.mp hz with hz | hz
              · exact hpre z hz
              · rw [List.mem_singleton.mp hz]
                exact Or.inr ⟨hne0, am_xn x', hts _ hlk, hN x x' hx3 y3 (Ne.symm hxx)⟩
          · cases h0
        · rename_i hcov
          refine ih _ hp2 (fun z hz => ?_) h0 kk
          rcases List.mem_append.mp hz with hz | hz
          · exact hpre z hz
          · rw [List.mem_singleton.mp hz]
            refine Or.inl ?_
            simp only [covers, Bool.and_eq_false_iff, decide_eq_false_iff_not]
            omega
    exact key _ [] rfl (fun z hz => by cases hz) hh kk
/-- from the abstract machine's run to the machine's -/
theorem am_W_run (hk : k < 229) (hx : p.tables.exec = Jvm.exec) (hb : c.code = (am_mt k).2.2.2.1) (hml : c.maxLocals = nL) (hown : s.vm.findClass (am_gn (am_mt k).1) = some m.cls) (hmn : (am_mt k).2.2.1.name = "<init>" → meth.name = "<init>") (hF : am_F dC dI cy B0 b L xs s) (htb : (am_mt k).2.2.2.2.2.2.1 ≠ [] → c.exceptionTable.toList = tableOf (am_mt k).2.2.2.2.2.2.1)
    {E0 : am_E} {r : am_Rs} (hRf : 10 + am_rk k ≤ R.frames) (hRl : 200 + 60 * am_rk k ≤ R.locals) (hRc : am_qc r.2.1 ≤ am_qc E0 + R.cells) (hRs : am_qs r.2.1 ≤ am_qs E0 + R.slots) (hsz0 : E0.2.1 = 0 → s.heap.size = B0 + E0.1)
    (IH : ∀ (t : Nat) (as : List am_V) (E : am_E) (M : am_M) (r' : am_Rs) (n : Nat), am_rk t < am_rk k → t < 229 → t ≠ 225 → as.length = (am_mt t).2.2.2.2.2.2.2 → (∀ v ∈ as, am_nv v) → (am_xp as).length ≤ (am_mt t).2.2.2.2.1 → am_run n t (am_en t as E M) = some r' → am_Ctr l dC dI cy B0 b L xs t as E M r')
    (hret : ∀ (pc : Nat) (i : Instr) (v : Option am_V) (st : List am_V) (lsC : Array Slot) (H : Heap) (locs : List Loc) (cells slots : Nat), am_rt k i st = some v → r.1 = .inl v → decode (am_mt k).2.2.2.1 pc = .ok (i, 1) → (∀ x ∈ st, am_nv x) → am_H dC dI cy B0 b L xs r.2.1 r.2.2 H → va_S (fun q => B0 ≤ q) s.heap H locs → cells + am_qc E0 = am_qc r.2.1 → slots + am_qs E0 = am_qs r.2.1 → W p l e R s m args below meth c H locs cells slots Q (F0 m pc lsC (st.map (am_cv B0 b))))
    (hthr : ∀ (pc : Nat) (i : Instr) (x : Nat) (E : am_E) (M : am_M) (lsC : Array Slot) (H : Heap) (locs : List Loc) (cells slots : Nat), am_th k pc i [] = some x → am_fetch k pc = some (i, 3) → r = (.inr x, am_xE E, M) → lsC.size = nL → am_H dC dI cy B0 b L xs E M H → va_S (fun q => B0 ≤ q) s.heap H locs → cells + am_qc E0 = am_qc E → slots + am_qs E0 = am_qs E → W p l e R s m args below meth c H locs cells slots Q (F0 m pc lsC []))
    (hexc : ∀ (pc x : Nat) (ce : Cell) (q : Addr) (rest : List Value) (lsC : Array Slot) (H : Heap) (locs : List Loc) (cells slots : Nat), r.1 = .inr x → (am_mt k).2.2.2.2.2.2.1 = [] → x < 3 → am_H dC dI cy B0 b L xs r.2.1 r.2.2 H → va_S (fun q => B0 ≤ q) s.heap H locs → cells + am_qc E0 = am_qc r.2.1 → slots + am_qs E0 = am_qs r.2.1 → H[q]? = some ce → ce.vm = .none → s.vm.findClass (am_xn x) = some ce.cls → vx_W p l e R s m args below meth c H locs cells slots Q (F0 m pc lsC rest) q) :
    ∀ (n pc : Nat) (ls : List (Option am_V)) (st : List am_V) (E : am_E) (M : am_M) (lsC : Array Slot) (H : Heap) (locs : List Loc) (cells slots : Nat), am_run n k (pc, ls, st, E, M) = some r → am_L B0 b nL ls lsC → (∀ v ∈ st, am_nv v) → am_H dC dI cy B0 b L xs E M H → va_S (fun q => B0 ≤ q) s.heap H locs → cells + am_qc E0 = am_qc E → slots + am_qs E0 = am_qs E → am_leE E0 E →
      W p l e R s m args below meth c H locs cells slots Q (F0 m pc lsC (st.map (am_cv B0 b))) := by
  intro n
  induction n with
  | zero => intro pc ls st E M lsC H locs cells slots h; cases h
  | succ n ih =>
    intro pc ls st E M lsC H locs cells slots h hL hn hH hS hc hs hE
    have hgn := am_cn_ok hk
    have hle := am_run_le _ _ _ _ h
    dsimp only at hle
    have hts : ∀ w ∈ am_Ts, w.before args s = true := fun w h => hF.1 w h args
    have hfr : ∀ {q : Nat}, s.heap.size ≤ q → B0 ≤ q := fun h => Nat.le_trans hF.2.2.2.2.1 h
    have hBH : B0 ≤ H.size := Nat.le_trans hF.2.2.2.2.1 hS.1
    refine am_know (fun hkn => ?_)
    have hsz : E.2.1 = 0 → H.size = B0 + E.1 := fun h0 => by
      have h1 : E0.2.1 = 0 := by have := hE.2; omega
      have h2 := hsz0 h1
      have h3 := am_H_lo hH hBH
      unfold am_qc at hc
      omega
    have hqc := am_qc_m hle
    have hqs := am_qs_m hle
    unfold am_run at h
    split at h
    · cases h
    · rename_i c' hst
      obtain ⟨i, len, hf, hst⟩ := am_stp_i hst
      dsimp only at hf hst
      have hd := am_fetch_i hk hf
      have hle' := am_run_le _ _ _ _ h
      rcases hst with ⟨t, st', hj, hst⟩ | ⟨hl, ⟨st', hj, hst⟩ | ⟨v, hj, hst⟩ | ⟨ls', st', hj, hst⟩ | ⟨st', hj, hst⟩ | ⟨st', E', M', hj, hst⟩ | ⟨st', E', M', hj, hst⟩ | ⟨v, hj, hst⟩ | ⟨st', hj, hst⟩ | ⟨t, hj, hst⟩ | ⟨x, hj, hst⟩⟩ <;> cases hst
      · exact am_W_jp hx hb hd hj hn (fun hn' => ih _ _ _ _ _ _ _ _ _ _ h hL hn' hH hS hc hs hE)
      · exact am_W_op hx hb hd hl hj hn (fun hn' => ih _ _ _ _ _ _ _ _ _ _ h hL hn' hH hS hc hs hE)
      · exact am_W_ld hx hb hL hd hl hj hn (fun hn' => ih _ _ _ _ _ _ _ _ _ _ h hL hn' hH hS hc hs hE)
      · exact am_W_st hx hb hL hd hl hj hn (fun hn' lsC' hL' => ih _ _ _ _ _ _ _ _ _ _ h hL' hn' hH hS hc hs hE)
      · exact am_W_rd hx hb hF hown hH hS hd hl hj hn (fun hn' => ih _ _ _ _ _ _ _ _ _ _ h hL hn' hH hS hc hs hE)
      · have e1 := am_wr_E hj
        have e2 : am_qc E' = am_qc E := by unfold am_qc; rw [e1.1, e1.2]
        have e3 : am_qs E' = am_qs E := by unfold am_qs; rw [e1.1, e1.2]
        exact am_W_wr hx hb hF hown hgn hmn hH hS hd hl hj hn (fun hn' H1 locs1 hH' hS' => ih _ _ _ _ _ _ _ _ _ _ h hL hn' hH' hS' (by rw [e2]; exact hc) (by rw [e3]; exact hs) ⟨by rw [e1.1]; exact hE.1, by rw [e1.2]; exact hE.2⟩)
      · have e1 := am_mk_E hj
        dsimp only at hle'
        have q1 := am_qc_m hle'
        have q2 := am_qs_m hle'
        have e2 : am_qc E' = am_qc E + 1 := by unfold am_qc; rw [e1.1, e1.2]; omega
        have e3 : ∀ t, am_tab[E.1]? = some t → am_qs E' = am_qs E + t.2.2 := fun t ht => by unfold am_qs; rw [e1.1, e1.2, am_qt_s ht]; omega
        exact am_W_mk hx hb hF hown hH hS hsz hd hl hj hn (by omega) (fun t ht => by have := e3 t ht; omega) (fun hn' H1 hH' hS' t ht _ _ => ih _ _ _ _ _ _ _ _ _ _ h hL hn' hH' hS' (by omega) (by have := e3 t ht; omega) ⟨by have := hE.1; omega, by have := hE.2; omega⟩)
      · have h8 := am_iv_i hj
        rcases h8 with ⟨idx, t, r9, rfl, hm, rfl, hw⟩ | ⟨idx, t, a, d, rest, rfl, hm, rfl, rfl, hw⟩ | ⟨idx, t, a, d, rest, rfl, hm, rfl, rfl, hw⟩
        · subst hl
          obtain ⟨pp, hmr⟩ := am_ml_i hm
          simp only [am_mrB, decide_eq_true_eq] at hmr
          exact W.objInit hx hb hown (hts _ (am_in_p hmr rfl)) (hts _ am_obj.1) (hts _ am_obj.2) rfl (by show lsC.size = c.maxLocals; rw [hml]; exact hL.2.1.1) rfl hd (by omega) (by
            have hm0 : (F0 m pc lsC ((am_A r9 :: st').map (am_cv B0 b))).monitorRoom = 0 := rfl
            rw [hm0, am_wt_cv]; omega) (ih _ _ _ _ _ _ _ _ _ _ h hL (am_nc hn).2 hH hS hc hs hE)
        · subst hl
          obtain ⟨pp, hmr⟩ := am_ml_i hm
          simp only [am_mrB, decide_eq_true_eq] at hmr
          have ha : am_n32 a := (am_nc (am_nc hn).2).1
          have hdd : am_n32 d := (am_nc hn).1
          refine va_mmax hx hb (by rw [hml]; exact hL.2.1.1.symm) hown (hts _ (am_in_p hmr rfl)) (hts _ am_mxw.1.1) (hts _ am_mxw.2.2) (hts _ am_mxw.1.2) (by omega) (by rw [am_wt_cv]; omega) (by omega) (by omega) hd ?_
          have e9 : (if Int32.ofInt a < Int32.ofInt d then Int32.ofInt d else Int32.ofInt a) = Int32.ofInt (if a < d then d else a) := by
            simp only [am_lt ha hdd]
            split <;> rfl
          rw [e9]
          exact ih _ _ _ _ _ _ _ _ _ _ h hL (am_ncc (by show am_n32 _; split <;> assumption) (am_nc (am_nc hn).2).2) hH hS hc hs hE
        · subst hl
          obtain ⟨pp, hmr⟩ := am_ml_i hm
          simp only [am_mrB, decide_eq_true_eq] at hmr
          have ha : am_n32 a := (am_nc (am_nc hn).2).1
          have hdd : am_n32 d := (am_nc hn).1
          refine va_mmin hx hb (by rw [hml]; exact hL.2.1.1.symm) hown (hts _ (am_in_p hmr rfl)) (hts _ am_mxw.2.1.1) (hts _ am_mxw.2.2) (hts _ am_mxw.2.1.2) (by omega) (by rw [am_wt_cv]; omega) (by omega) (by omega) hd ?_
          have e9 : (if Int32.ofInt d < Int32.ofInt a then Int32.ofInt d else Int32.ofInt a) = Int32.ofInt (if d < a then d else a) := by
            simp only [am_lt hdd ha]
            split <;> rfl
          rw [e9]
          exact ih _ _ _ _ _ _ _ _ _ _ h hL (am_ncc (by show am_n32 _; split <;> assumption) (am_nc (am_nc hn).2).2) hH hS hc hs hE
    · rename_i r' hst
      have h0 := Option.some.inj h
      subst h0
      obtain ⟨i, len, hf, hst⟩ := am_stp_i hst
      dsimp only at hf hst
      have hd := am_fetch_i hk hf
      rcases hst with ⟨t, st', hj, hst⟩ | ⟨hl, ⟨st', hj, hst⟩ | ⟨v, hj, hst⟩ | ⟨ls', st', hj, hst⟩ | ⟨st', hj, hst⟩ | ⟨st', E', M', hj, hst⟩ | ⟨st', E', M', hj, hst⟩ | ⟨v, hj, hst⟩ | ⟨st', hj, hst⟩ | ⟨t, hj, hst⟩ | ⟨x, hj, hst⟩⟩ <;> cases hst
      · have hl1 : len = 1 := by
          rw [hl]
          unfold am_rt at hj
          split at hj <;> first | rfl | cases hj
        subst hl1
        exact hret pc i v st lsC H locs cells slots hj rfl hd hn hH hS hc hs
      · have h9 := am_th_i hj
        obtain ⟨idx, rfl, -, hst0, -⟩ := h9
        subst hst0
        subst hl
        exact hthr pc _ x E M lsC H locs cells slots hj hf rfl hL.2.1.1 hH hS hc hs
    · rename_i t as rest hst
      obtain ⟨i, len, hf, hst⟩ := am_stp_i hst
      dsimp only at hf hst
      have hd := am_fetch_i hk hf
      rcases hst with ⟨t', st', hj, hst⟩ | ⟨hl, ⟨st', hj, hst⟩ | ⟨v, hj, hst⟩ | ⟨ls', st', hj, hst⟩ | ⟨st', hj, hst⟩ | ⟨st', E', M', hj, hst⟩ | ⟨st', E', M', hj, hst⟩ | ⟨v, hj, hst⟩ | ⟨st', hj, hst⟩ | ⟨t', hj, hst⟩ | ⟨x, hj, hst⟩⟩ <;> cases hst
      have hcall : ∀ (r1 : am_Rs), am_run n t (am_en t as E M) = some r1 → am_leE r1.2.1 r.2.1 →
          (∀ x ∈ rest, x ∈ st) ∧ (∀ x ∈ as, x ∈ st) ∧ len = 3 ∧ am_qc E ≤ am_qc r1.2.1 ∧ am_qs E ≤ am_qs r1.2.1 ∧ vx_Run p l e R s m args below meth c H locs cells slots (am_qc r1.2.1 - am_qc E) (am_qs r1.2.1 - am_qs E) (F0 m pc lsC (st.map (am_cv B0 b))) (rest.map (am_cv B0 b)) (am_Qc dC dI cy B0 b L xs r1 #[]) (am_XC dC dI cy B0 b L xs r1) (fun q => B0 ≤ q) := by
        intro r1 hr1 hle1
        have g1 := am_run_le _ _ _ _ hr1
        have g2 := am_qc_m g1
        have g3 := am_qs_m g1
        have g4 := am_qc_m hle1
        have g5 := am_qs_m hle1
        have g2' : am_qc E ≤ am_qc r1.2.1 := g2
        have g3' : am_qs E ≤ am_qs r1.2.1 := g3
        have h9 := am_W_iv (args := args) (r := r1) (cells := cells) (slots := slots) (p := p) (e := e) (below := below) (meth := meth) (l := l) hk hx hb hml hL.2.1.1 hF hown hH hS hsz hRf hRl hd hl hj ⟨by omega, by omega⟩ (fun q1 q2 q3 q4 q5 q6 => IH t as E M r1 n q1 q2 q3 q4 (fun v hv => hn v (q5 v hv)) q6 hr1)
        exact ⟨h9.1, h9.2.1, h9.2.2.1, g2', g3', h9.2.2.2⟩
      split at h
      · cases h
      · rename_i v E1 M1 hr
        obtain ⟨hm1, hm2, hl3, g2, g3, hrun⟩ := hcall _ hr (am_run_le _ _ _ _ h)
        dsimp only at g2 g3
        subst hl3
        intro T hT X
        have g1 := am_run_le _ _ _ _ hr
        rcases hrun T hT X with ⟨v', st₀, t', T', Lc, h0, X', hLc, e1, e2, ⟨⟨v2, hv1, hv2, hv3⟩, hH', hF'⟩, stp⟩ | ⟨q, st₀, t', T', Lc, X9, ce, h0, X', hLc, e1, e2, ⟨⟨x, hx1, -⟩, -⟩, -⟩
        · cases hv1
          cases hv2
          obtain ⟨k1, k2, k3⟩ := vx_keep (A0 := fun q => B0 ≤ q) (A1 := fun q => B0 ≤ q) (free := fun q => B0 ≤ q) h0 e1 hS (fun q _ h => h) (fun q h => h) hLc hF'
          have hW := ih (pc + 3) ls (am_ol v ++ rest) E1 M1 lsC T'.heap (locs ++ Lc) (cells + (am_qc E1 - am_qc E)) (slots + (am_qs E1 - am_qs E)) h hL (fun x hx => by
            rcases List.mem_append.mp hx with hx | hx
            · exact hv3 x hx
            · exact hn x (hm1 x hx)) (by rw [e1]; exact hH') k3 (by first | omega | (dsimp only; omega)) (by first | omega | (dsimp only; omega)) ⟨Nat.le_trans hE.1 g1.1, Nat.le_trans hE.2 g1.2⟩
          obtain ⟨t2, a1, b1⟩ := hW T' rfl X'
          refine ⟨t2, stp t2 ?_, b1⟩
          rw [am_cv_ol]
          exact a1
        · cases hx1
      · rename_i x E1 M1 hr
        split at h
        · rename_i hhc
          split at h
          · rename_i hh0
            cases h
            obtain ⟨hm1, hm2, hl3, g2, g3, hrun⟩ := hcall _ hr ⟨Nat.le_refl _, Nat.le_refl _⟩
            dsimp only at g2 g3
            intro T hT X
            rcases hrun T hT X with ⟨v', st₀, t', T', Lc, h0, X', hLc, e1, e2, ⟨⟨v2, hv1, -⟩, -⟩, -⟩ | ⟨q, st₀, t', T', Lc, X9, ce, h0, X', hLc, e1, e2, ⟨⟨x', hx1, rfl, hx3⟩, hH', hF'⟩, hce, hcv, hcl, stp⟩
            · cases hv1
            · cases hx1
              obtain ⟨k1, k2, k3⟩ := vx_keep (A0 := fun q => B0 ≤ q) (A1 := fun q => B0 ≤ q) (free := fun q => B0 ≤ q) h0 e1 hS (fun q _ h => h) (fun q h => h) hLc hF'
              obtain ⟨t2, a1, b1⟩ := hexc pc x ce q (rest.map (am_cv B0 b)) lsC T'.heap (locs ++ Lc) (cells + (am_qc E1 - am_qc E)) (slots + (am_qs E1 - am_qs E)) rfl hh0 hx3 (by rw [e1]; exact hH') k3 (by first | omega | (dsimp only; omega)) (by first | omega | (dsimp only; omega)) (by rw [e1]; exact hce) hcv hcl T' rfl X'
              exact ⟨t2, stp.trans a1, b1⟩
          · cases h
        · rename_i pc' nl hhc
          split at h
          · rename_i hcond
            obtain ⟨hm1, hm2, hl3, g2, g3, hrun⟩ := hcall _ hr (am_run_le _ _ _ _ h)
            dsimp only at g2 g3
            have g1 := am_run_le _ _ _ _ hr
            intro T hT X
            rcases hrun T hT X with ⟨v', st₀, t', T', Lc, h0, X', hLc, e1, e2, ⟨⟨v2, hv1, -⟩, -⟩, -⟩ | ⟨q, st₀, t', T', Lc, X9, ce, h0, X', hLc, e1, e2, ⟨⟨x', hx1, rfl, hx3⟩, hH', hF'⟩, hce, hcv, hcl, stp⟩
            · cases hv1
            · cases hx1
              obtain ⟨k1, k2, k3⟩ := vx_keep (A0 := fun q => B0 ≤ q) (A1 := fun q => B0 ≤ q) (free := fun q => B0 ≤ q) h0 e1 hS (fun q _ h => h) (fun q h => h) hLc hF'
              obtain ⟨t2, a1, b1⟩ := am_W_catch (rest := rest.map (am_cv B0 b)) (Q := Q) hk hx hb hown hF htb hx3 hhc hcond.1 hcond.2 hL (by rw [e1]; exact hce) hcv hcl (fun lsC' hL' => ih pc' _ [] E1 M1 lsC' T'.heap (locs ++ Lc) (cells + (am_qc E1 - am_qc E)) (slots + (am_qs E1 - am_qs E)) h hL' (fun v hv => by cases hv) (by rw [e1]; exact hH') k3 (by first | omega | (dsimp only; omega)) (by first | omega | (dsimp only; omega)) ⟨Nat.le_trans hE.1 g1.1, Nat.le_trans hE.2 g1.2⟩) T' rfl X'
              exact ⟨t2, stp.trans a1, b1⟩
          · cases h
end AMX
end
section
/-! ===== every method keeps its contract ===== -/
theorem am_g_app {l1 l2 : List (Option am_V)} {j : Nat} : am_g (l1 ++ l2) j = if j < l1.length then am_g l1 j else am_g l2 (j - l1.length) := by
  unfold am_g
  by_cases h : j < l1.length
  · rw [if_pos h, List.getElem?_append_left h]
  · rw [if_neg h, List.getElem?_append_right (by omega)]
theorem am_xp_at {B0 b : Nat} {as : List am_V} : ∀ {i j : Nat} {v : am_V}, am_g (am_xp as) j = some v → (i + j, am_cv B0 b v) ∈ lv_args i (as.map (am_cv B0 b)) ∧ v ∈ as := by
  induction as with
  | nil => intro i j v h; unfold am_g am_xp at h; simp at h
  | cons a t ih =>
    intro i j v h
    unfold am_xp at h
    rw [List.map_cons]
    unfold lv_args
    rw [am_cat_cv]
    by_cases hc : am_cat a = 2
    · rw [if_pos hc] at h
      rw [if_pos hc]
      match j, h with
      | 0, h =>
        cases h
        exact ⟨List.mem_cons_self, List.mem_cons_self⟩
      | 1, h => cases h
      | j + 2, h =>
        have h1 : am_g (am_xp t) j = some v := h
        obtain ⟨h2, h3⟩ := ih (i := i + 2) h1
        exact ⟨List.mem_cons_of_mem _ (by rw [show i + (j + 2) = i + 2 + j by omega]; exact h2), List.mem_cons_of_mem _ h3⟩
    · rw [if_neg hc] at h
      rw [if_neg hc]
      match j, h with
      | 0, h =>
        cases h
        exact ⟨List.mem_cons_self, List.mem_cons_self⟩
      | j + 1, h =>
        have h1 : am_g (am_xp t) j = some v := h
        obtain ⟨h2, h3⟩ := ih (i := i + 1) h1
        exact ⟨List.mem_cons_of_mem _ (by rw [show i + (j + 1) = i + 1 + j by omega]; exact h2), List.mem_cons_of_mem _ h3⟩
theorem am_xp_len {B0 b : Nat} {as : List am_V} : (lg_sl (as.map (am_cv B0 b))).length = (am_xp as).length := by
  induction as with
  | nil => rfl
  | cons a t ih =>
    unfold lg_sl at ih ⊢
    rw [List.map_cons, List.flatMap_cons, List.length_append, ih, am_cat_cv]
    have e : am_xp (a :: t) = if am_cat a = 2 then some a :: none :: am_xp t else some a :: am_xp t := rfl
    rw [e]
    by_cases hc : am_cat a = 2
    · rw [if_pos hc, if_pos hc]; simp only [List.length_cons, List.length_nil]; omega
    · rw [if_neg hc, if_neg hc]; simp only [List.length_cons, List.length_nil]; omega
theorem am_L_entry {B0 b nL : Nat} {as : List am_V} (h : (am_xp as).length ≤ nL) (hn : ∀ v ∈ as, am_nv v) : am_L B0 b nL (am_el nL as) ((lg_sl (as.map (am_cv B0 b)) ++ List.replicate (nL - (lg_sl (as.map (am_cv B0 b))).length) Slot.unset).toArray) := by
  have hl := lv_entry (as.map (am_cv B0 b)) (n := nL) (by rw [am_xp_len]; exact h)
  have hg : ∀ j v, am_g (am_el nL as) j = some v → am_g (am_xp as) j = some v := fun j v hj => by
    unfold am_el at hj
    rw [am_g_app] at hj
    by_cases hjl : j < (am_xp as).length
    · rwa [if_pos hjl] at hj
    · rw [if_neg hjl] at hj
      unfold am_g at hj
      split at hj
      · rename_i x hx
        rw [List.getElem?_replicate] at hx
        split at hx <;> cases hx
        cases hj
      · cases hj
  refine ⟨?_, ⟨hl.1, hl.2.1, fun q hq => ?_⟩, fun j v hj => hn v (am_xp_at (B0 := B0) (b := b) (i := 0) (hg j v hj)).2⟩
  · unfold am_el
    rw [List.length_append, List.length_replicate]
    omega
  · obtain ⟨j, v, hj, rfl⟩ := am_lp_mem.mp hq
    have h1 := (am_xp_at (B0 := B0) (b := b) (i := 0) (hg j v hj)).1
    rw [Nat.zero_add] at h1
    exact hl.2.2 _ h1
section AMZ
variable {dC : Nat → ClassId} {dI : Nat → Nat → Nat} {cy : Nat → ClassId} {B0 b L : Nat} {xs : Nat → Int32}
/-- a method's return, as its contract has it -/
theorem am_end {p : Program} {l : Launch} {e : Env} {R : Room} {s : State} {m : MethodId} {args : Array Value} {below : List Frame} {meth : Method} {c : Code} {k : Nat} {r : am_Rs} {E0 : am_E}
    (hx : p.tables.exec = Jvm.exec) (hb : c.code = (am_mt k).2.2.2.1) (hrt : meth.sig.returnType = (am_mt k).2.2.2.2.2.1) (hlocks : meth.locks = false)
    {pc : Nat} {i : Instr} {v : Option am_V} {st : List am_V} {lsC : Array Slot} {H : Heap} {locs : List Loc} {cells slots : Nat} (hj : am_rt k i st = some v) (hr : r.1 = .inl v) (hd : decode (am_mt k).2.2.2.1 pc = .ok (i, 1)) (hn : ∀ x ∈ st, am_nv x) (hH : am_H dC dI cy B0 b L xs r.2.1 r.2.2 H) (hS : va_S (fun q => B0 ≤ q) s.heap H locs) (hc : cells = am_qc r.2.1 - am_qc E0) (hs : slots = am_qs r.2.1 - am_qs E0) :
    W p l e R s m args below meth c H locs cells slots (vx_MQ below (am_Qc dC dI cy B0 b L xs r) (am_XC dC dI cy B0 b L xs r) args s (am_qc r.2.1 - am_qc E0) (am_qs r.2.1 - am_qs E0) (fun q => B0 ≤ q)) (F0 m pc lsC (st.map (am_cv B0 b))) := by
  subst hc; subst hs
  refine vx_ret ?_
  have hQ : ∀ (t : State) (o : Outcome), t.heap = H → o = .returned (v.map (am_cv B0 b)) → (∀ x ∈ am_ol v, am_nv x) → am_Qc dC dI cy B0 b L xs r args s o t := fun t o ht ho hv => ⟨⟨v, hr, ho, hv⟩, by rw [ht]; exact hH, hS.F ht⟩
  have hf : ∀ q ∈ locs, B0 ≤ q.base := hS.2.2
  unfold am_rt at hj
  split at hj
  · split at hj
    · rename_i _ z
      split at hj <;> cases hj
      rename_i hok
      have hz : am_n32 z := hn _ List.mem_cons_self
      have hol : ∀ x ∈ am_ol (some (.inl z)), am_nv x := fun x hx => by rw [List.mem_singleton.mp hx]; exact hz
      cases hty : (am_mt k).2.2.2.2.2.1 with
      | none => rw [hty] at hok; cases hok
      | some ty =>
        rw [hty] at hok hrt
        refine W.zret (ty := ty) hx hb hrt ?_ (fun t ht _ => hQ t _ ht rfl hol) hf hd hlocks
        cases ty with
        | int => rfl
        | boolean =>
          have h0 : z = 0 ∨ z = 1 := by simpa [am_rok] using hok
          have := am_nar_z h0
          rcases h0 with rfl | rfl <;> rfl
        | char =>
          have h0 : 0 ≤ z ∧ z < 65536 := by simpa [am_rok] using hok
          have h1 := am_nar_c h0.1 h0.2
          rw [vp_nar_char] at h1
          show Value.int _ = _
          rw [h1]
        | _ => simp [am_rok] at hok
    · cases hj
  · split at hj
    · rename_i _ z
      split at hj <;> cases hj
      rename_i hok
      have hz : am_n64 z := hn _ List.mem_cons_self
      have hol : ∀ x ∈ am_ol (some (.inr (.inl z))), am_nv x := fun x hx => by rw [List.mem_singleton.mp hx]; exact hz
      cases hty : (am_mt k).2.2.2.2.2.1 with
      | none => rw [hty] at hok; cases hok
      | some ty =>
        rw [hty] at hok hrt
        cases ty with
        | long => exact W.lret hx hb hrt (fun t ht _ => hQ t _ ht rfl hol) hf hd hlocks
        | _ => simp [am_rok] at hok
    · cases hj
  · split at hj
    · rename_i _ q
      split at hj <;> cases hj
      rename_i hok
      have hol : ∀ x ∈ am_ol (some (.inr (.inr q))), am_nv x := fun x hx => by rw [List.mem_singleton.mp hx]; trivial
      cases hty : (am_mt k).2.2.2.2.2.1 with
      | none => rw [hty] at hok; cases hok
      | some ty =>
        rw [hty] at hok hrt
        cases ty with
        | object n => exact W.aret hx hb hrt (Or.inl ⟨n, rfl⟩) (va_rf_or _) (fun t ht _ => hQ t _ ht rfl hol) hf hd hlocks
        | _ => simp [am_rok] at hok
    · cases hj
  · split at hj
    · split at hj <;> cases hj
      rename_i hok
      rw [hok] at hrt
      exact W.vret hx hb hrt (fun t ht _ => hQ t _ ht rfl (fun x hx => by cases hx)) hf hd hlocks
    · cases hj
  · cases hj
theorem am_body {l : Launch} (hl : l.stackTraces = false) {k : Nat} (hk : k < 229) (h225 : k ≠ 225)
    (IH : ∀ (t : Nat) (as : List am_V) (E : am_E) (M : am_M) (r' : am_Rs) (n : Nat), am_rk t < am_rk k → t < 229 → t ≠ 225 → as.length = (am_mt t).2.2.2.2.2.2.2 → (∀ v ∈ as, am_nv v) → (am_xp as).length ≤ (am_mt t).2.2.2.2.1 → am_run n t (am_en t as E M) = some r' → am_Ctr l dC dI cy B0 b L xs t as E M r')
    {as : List am_V} {E : am_E} {M : am_M} {r : am_Rs} {n : Nat} (hnv : ∀ v ∈ as, am_nv v) (hxp : (am_xp as).length ≤ (am_mt k).2.2.2.2.1) (hrun : am_run n k (am_en k as E M) = some r) {ws : List Cond} {w1 : List Cond}
    {p : Program} {e : Env} {s : State} {m : MethodId} {args : Array Value} {below : List Frame} {meth : Method} {c : Code} {s₁ : State}
    (B : BodyLoose p l (am_mt k).2.2.1 (headSpec ws (am_rm k E r)) (am_mt k).2.2.2.1 (am_mt k).2.2.2.2.1 (am_mt k).2.2.2.2.2.1 e s m args below meth c s₁) (hml : c.maxLocals = (am_mt k).2.2.2.2.1) (htb : c.exceptionTable.toList = tableOf (am_mt k).2.2.2.2.2.2.1) (hv : am_Pc dC dI cy B0 b L xs as E M args s) :
    W p l e (am_rm k E r) s m args below meth c s.heap [] 0 0 (vx_MQ below (am_Qc dC dI cy B0 b L xs r) (am_XC dC dI cy B0 b L xs r) args s (am_qc r.2.1 - am_qc E) (am_qs r.2.1 - am_qs E) (fun q => B0 ≤ q)) (entryFrame m args (am_mt k).2.2.2.2.1) := by
  obtain ⟨rfl, hF, hH, hsz⟩ := hv
  obtain ⟨a1, a2, a3, a4, a5, a6, a7, a8, a9⟩ := am_mt_i hk h225
  have hgn := am_cn_ok hk
  have hown : s.vm.findClass (am_gn (am_mt k).1) = some m.cls := by
    rw [hgn, ← a4]; exact findClass_of_methodNamed B.named
  have hmn : meth.name = (am_mt k).2.2.1.name := (name_of_methodNamed B.named B.method).1
  have hle := am_run_le _ _ _ _ hrun
  have hqc := am_qc_m hle
  have hqs := am_qs_m hle
  have hqc' : am_qc E ≤ am_qc r.2.1 := hqc
  have hqs' : am_qs E ≤ am_qs r.2.1 := hqs
  have hts : ∀ w ∈ am_Ts, w.before (as.map (am_cv B0 b)).toArray s = true := fun w h => hF.1 w h _
  rw [lg_entry_eq]
  refine am_W_run (E0 := E) (r := r) hk B.exec B.bytes hml hown (fun h => hmn.trans h) hF (fun _ => htb) (Nat.le_refl _) (Nat.le_refl _) (by unfold am_rm; dsimp only; omega) (by unfold am_rm; dsimp only; omega) hsz IH ?_ ?_ ?_ n 0 (am_el (am_mt k).2.2.2.2.1 as) [] E M _ _ _ _ _ hrun (am_L_entry hxp hnv) (fun v hv => by cases hv) hH va_S.rf (Nat.zero_add _) (Nat.zero_add _) ⟨Nat.le_refl _, Nat.le_refl _⟩
  · intro pc i v st lsC H locs cells slots g1 g2 g3 g4 g5 g6 g7 g8
    exact am_end B.exec B.bytes B.returns B.notSynchronized g1 g2 g3 g4 g5 g6 (by omega) (by omega)
  · intro pc i x E9 M9 lsC H locs cells slots g1 g2 g3 g4 g5 g6 g7 g8
    subst g3
    obtain ⟨idx, rfl, hcl, -, hg4, hhh, hdup, hrest⟩ := am_th_i g1
    obtain ⟨hx3, hlk⟩ := am_cl_x hcl
    obtain ⟨e1, e2, e3, e4⟩ := am_exw x hx3
    have hgr : am_gn (am_mt k).1 = RX4 := by rw [hg4]; rfl
    rw [hgr] at hown hlk
    have q1 : am_qc (am_xE E9) = am_qc E9 + 1 := by unfold am_qc am_xE; dsimp only; omega
    have q2 : am_qs (am_xE E9) = am_qs E9 + 6 := by unfold am_qs am_xE; dsimp only; omega
    dsimp only at hqc' hqs'
    have htab : ∀ pc', ∀ x ∈ c.exceptionTable.toList, covers x pc' = false := fun pc' x hx => by
      rw [htb, hhh] at hx
      cases hx
    have hxq : ∀ t : State, s.vm.Alike t.vm → H.size ≤ t.heap.size → (∀ q : Nat, q < H.size → t.heap[q]? = H[q]?) → am_XC dC dI cy B0 b L xs (.inr x, am_xE E9, M9) (am_xn x) s t := fun t _ h1 h2 => by
      refine ⟨⟨x, rfl, rfl, hx3⟩, ?_, ⟨Nat.le_trans g6.1 h1, fun q hq hnq => (h2 q (Nat.lt_of_lt_of_le hq g6.1)).trans (g6.2.1 q hq hnq)⟩⟩
      obtain ⟨hP, k1, k2, k3, k4⟩ := g5
      exact ⟨hP.kept (fun j q hq => h2 q.1 (hP j q hq).lt), k1, k2, k3, k4⟩
    have hgood : ∀ w ∈ Cond.classLink RX4 idx (am_xn x) :: Cond.initialized (am_xn x) :: vx_atS RX4 (am_ic x) (am_xn x) am_nms, vx_ot w = true := fun w hw => by
      rcases List.mem_cons.mp hw with rfl | hw
      · rfl
      · rcases List.mem_cons.mp hw with rfl | hw
        · rfl
        · exact (e1 w hw).2
    have hstr : ∀ {is : Nat}, (∃ q ∈ am_strs, q.1 = RX4 ∧ q.2.1 = is) → ∃ (tx : String) (sa : Nat), vk_R RX4 is tx sa s := fun ⟨q, hq, h1, h2⟩ => by
      obtain ⟨a, ha⟩ := hF.2.2.2.2.2.2.2.2.1 q hq
      rw [h1, h2] at ha
      exact ⟨_, a, ha⟩
    have hlen : am_nms.length = 2 := rfl
    rcases hrest with ⟨is, f1, hst, f2, f3⟩ | ⟨is, f1, hst, f2, f3⟩
    · obtain ⟨tx, sa, hR⟩ := hstr hst
      exact vx_throwS (rest := []) B.exec B.bytes hl hown e4 am_fits (hts _ hlk) (hts _ e2) hR (fun w hw => hts _ (e1 w hw).1) hgood hF.2.2.2.2.2.2.1 hF.2.2.2.2.2.2.2.1 g6 (by rw [hml]; exact g4) (am_fetch_i hk g2) (am_fetch_i hk hdup) (am_fetch_i hk f1) (am_fetch_i hk f2) (am_fetch_i hk f3) (htab _)
        (by unfold am_rm; dsimp only; omega) (by unfold am_rm; dsimp only; rw [hlen]; simp only [List.map_nil, List.sum_nil]; omega) (by unfold am_rm; dsimp only; omega) (by unfold am_rm; dsimp only; omega) B.notSynchronized hxq g6.2.2 (by dsimp only; omega) (by dsimp only; omega)
    · obtain ⟨tx, sa, hR⟩ := hstr hst
      exact vx_throwSW (rest := []) B.exec B.bytes hl hown e4 am_fits (hts _ hlk) (hts _ e2) hR (fun w hw => hts _ (e1 w hw).1) hgood hF.2.2.2.2.2.2.1 hF.2.2.2.2.2.2.2.1 g6 (by rw [hml]; exact g4) (am_fetch_i hk g2) (am_fetch_i hk hdup) (am_fetch_i hk f1) (am_fetch_i hk f2) (am_fetch_i hk f3) (htab _)
        (by unfold am_rm; dsimp only; omega) (by unfold am_rm; dsimp only; rw [hlen]; simp only [List.map_nil, List.sum_nil]; omega) (by unfold am_rm; dsimp only; omega) (by unfold am_rm; dsimp only; omega) B.notSynchronized hxq g6.2.2 (by dsimp only; omega) (by dsimp only; omega)
  · intro pc x ce q rest lsC H locs cells slots g1 g2 g3 g4 g5 g6 g7 g8 g9 g10
    refine vx_out (fun y hy => ?_) B.notSynchronized g8 g9 g10 (fun t ht _ => ⟨⟨x, g1, rfl, g3⟩, by rw [ht]; exact g4, g5.F ht⟩) g5.2.2 (by omega) (by omega)
    rw [htb, g2] at hy
    cases hy
/-- EVERY METHOD -/
theorem am_ctr {l : Launch} (hl : l.stackTraces = false) : ∀ (N k : Nat), am_rk k < N → k < 229 → k ≠ 225 → ∀ (as : List am_V) (E : am_E) (M : am_M) (r : am_Rs) (n : Nat), (∀ v ∈ as, am_nv v) → (am_xp as).length ≤ (am_mt k).2.2.2.2.1 → am_run n k (am_en k as E M) = some r → am_Ctr l dC dI cy B0 b L xs k as E M r := by
  intro N
  induction N with
  | zero => intro k h; omega
  | succ N ih =>
    intro k hN hk h225 as E M r n hnv hxp hrun
    have IH : ∀ (t : Nat) (as : List am_V) (E : am_E) (M : am_M) (r' : am_Rs) (n : Nat), am_rk t < am_rk k → t < 229 → t ≠ 225 → as.length = (am_mt t).2.2.2.2.2.2.2 → (∀ v ∈ as, am_nv v) → (am_xp as).length ≤ (am_mt t).2.2.2.2.1 → am_run n t (am_en t as E M) = some r' → am_Ctr l dC dI cy B0 b L xs t as E M r' :=
      fun t as E M r' n h1 h2 h3 _ h5 h6 h7 => ih t (by omega) h2 h3 as E M r' n h5 h6 h7
    obtain ⟨a1, a2, a3, a4, a5, a6, a7, a8, a9⟩ := am_mt_i hk h225
    have hpl : plainName (am_mt k).2.2.1.cls = true := by rw [a4]; exact (am_plain _ a5).1
    unfold am_Ctr
    by_cases hh : (am_mt k).2.2.2.2.2.2.1 = []
    · have hcw : am_cw k = .code (am_mt k).2.2.1 (am_mt k).2.2.2.1 (am_mt k).2.2.2.2.1 (am_mt k).2.2.2.2.2.1 := by unfold am_cw; rw [hh]
      refine vx_ofW (ws' := []) (cc := (am_mt k).2.2.2.1) (maxL := (am_mt k).2.2.2.2.1) (ret := (am_mt k).2.2.2.2.2.1) hpl (by rw [hcw]) ?_
      intro p e s m args below meth c s₁ B hml htab hv
      refine am_body hl hk h225 IH hnv hxp hrun (w1 := []) B hml ?_ hv
      rw [hh]
      show c.exceptionTable.toList = []
      cases hq : c.exceptionTable.toList with
      | nil => rfl
      | cons x t => exact absurd (htab x (by rw [hq]; exact List.mem_cons_self)) id
    · have hcw : am_cw k = .codeWith (am_mt k).2.2.1 (am_mt k).2.2.2.1 (am_mt k).2.2.2.2.1 (am_mt k).2.2.2.2.2.1 (am_mt k).2.2.2.2.2.2.1 := by
        unfold am_cw
        split
        · rename_i h0; exact absurd h0 hh
        · rfl
      refine vx_ofWH (ws' := []) (cc := (am_mt k).2.2.2.1) (maxL := (am_mt k).2.2.2.2.1) (ret := (am_mt k).2.2.2.2.2.1) (hh := (am_mt k).2.2.2.2.2.2.1) hpl (by rw [hcw]) ?_
      intro p e s m args below meth c s₁ B hml hv
      refine am_body hl hk h225 IH hnv hxp hrun (w1 := []) B hml ?_ hv
      exact vx_table (x := (am_mt k).2.2.1) B (by rw [← hcw]; exact hv.2.1.1 _ a1 _)
end AMZ
end
section
/-! THE CLAIM OUT OF ONE WALK OF THE LAW'S BODY. Your part is whole_start (and what it stands on); all else here is the same for every law, but numbers. -/
def R_law : String := "WoodPilesLaw"
def lw_P (b : Addr) (xs : List Int32) (args : Array Value) (s : State) : Prop := args = #[.ref b] ∧ s.IntsAt b xs ∧ xs.length ≤ 2048 ∧ (Jvm.Cond.and given_1 narrow_1).before args s = true
def lw_Q (_ : Array Value) (s : State) (o : Outcome) (t : State) : Prop := o = .returned (some (.int 1)) ∧ Framed s o t [] 601024 7293034
def lw_Z (below : List Frame) (a : Array Value) (s : State) : State → Prop := fun t => ∃ o, t.status = .running ∧ Ended t below o ∧ lw_Q a s o t
/-- the law's own end, with 1 on the stack, nothing written that was there before, its room as the claim has it -/
theorem lw_ret {p : Program} {l : Launch} {e : Env} {s : State} {m : MethodId} {below : List Frame} {meth : Method} {c : Code} {b : Nat} (hx : p.tables.exec = Jvm.exec) (hb : c.code = code) (hr : meth.sig.returnType = ret) (hlocks : meth.locks = false) {pc : Nat} {H : Heap} {ls : Array Slot} (hdg : decode code pc = .ok (.ireturn, 1)) : W p l e room_1 s m #[Value.ref b] below meth c H [] 601024 7293034 (lw_Z below #[Value.ref b] s) (F0 m pc ls [.int 1]) := by
  intro T hT X
  obtain ⟨fs, hret, hrun, hended, hW, hframe⟩ := X.leave (v := some (.int 1)) (hlocks := hlocks) (fun h => by rw [hr] at h; cases h)
  have hmeth' : T.vm.method? m = some meth := X.method'
  refine ⟨T.setFrames fs, ?_, .returned (some (.int 1)), hrun, hended, rfl, ⟨_, rfl⟩, hW, hframe⟩
  jvm_step X.here [X.here.top, hx, hb, hdg, hmeth', hr, ret, narrow_b1]
  (try refine ⟨rfl, ?_⟩); (try refine ⟨rfl, ?_⟩)
  first | (intro acts; rw [hret _ acts rfl rfl rfl]) | rw [hret _ _ rfl rfl rfl]
  exact Steps.refl _
/-- what holds at the law's entry: the machine, the code, the tables' words (any of lw_tbl by 'hts w (by decide +kernel)'), the script of L ints xs at the cell b, what the Statement gives of the start (any of its parts by flat_of_before) -/
def lw_At (p : Program) (s : State) (m : MethodId) (meth : Method) (c : Code) (b L : Nat) (xs : Nat → Int32) : Prop :=
  p.tables.exec = Jvm.exec ∧ c.code = code ∧ meth.sig.returnType = ret ∧ c.maxLocals = 7 ∧ s.vm.findClass R_law = some m.cls ∧ (∀ w ∈ lw_tbl, w.before #[Value.ref b] s = true) ∧ va_X b L xs s s.heap ∧ b < s.heap.size ∧ meth.locks = false ∧ (Jvm.Cond.and given_1 narrow_1).before #[Value.ref b] s = true
/-! ===== the law, out of its run on the abstract machine ===== -/
def am_M0 (L : Nat) (xs : Nat → Int32) : am_M := fun b' c' j => if b' = 45 ∧ c' = 0 ∧ 0 ≤ j ∧ j < (L : Int) then (xs j.toNat).toInt else 0
def am_E0 (L : Nat) : am_E := (0, 0, L, fun _ _ => none)
/-- WHAT IS LEFT TO PROVE OF THE ABSTRACT MACHINE: on every script the law's run ends with true, in its room -/
def am_Law : Prop := ∀ (L : Nat) (xs : Nat → Int32), L ≤ 2048 → ∃ (n : Nat) (E : am_E) (M : am_M), am_run n 225 (am_en 225 [am_A (45, 0)] (am_E0 L) (am_M0 L xs)) = some (.inl (some (am_I 1)), E, M) ∧ am_qc E ≤ 601024 ∧ am_qs E ≤ 7293034
theorem am_tyA {s : State} {ty : FieldType} (h : (Cond.arrayClass ty).before #[] s = true) (hto : ∀ C, ty ≠ .object C) : ∃ cA, ArrOfT s cA ty ∧ va_RA s cA ty := by
  obtain ⟨cA, k, comp, h1, h2, h3⟩ := Cond.arrayClass_spec (show (Cond.arrayClass ty).holds #[] s none s [] = true from h)
  refine ⟨cA, fun n z => ⟨(fun k h => by cases h), k, h2, comp, h3⟩, ?_⟩
  cases ty with
  | object C => exact absurd rfl (hto C)
  | _ => exact h1
theorem am_tyO {s : State} (h : (Cond.arrayOver (.object RX3)).before #[] s = true) : ∃ cA, ArrOfT s cA (.object RX3) ∧ va_RA s cA (.object RX3) := by
  obtain ⟨comp, cA, k, h1, -, h2, h3, h4⟩ := Cond.arrayOver_spec (show (Cond.arrayOver (.object RX3)).holds #[] s none s [] = true from h)
  exact ⟨cA, fun n z => ⟨(fun k h => by cases h), k, h2, comp, h3⟩, k, comp, h2, h3, h1, h4⟩
theorem am_strs_in : ∀ q ∈ am_strs, q.1 = RX4 ∧ Cond.stringRef q.1 q.2.1 q.2.2 ∈ lw_tbl := by decide +kernel
theorem am_stat_in : Cond.laysStatic Bundle.tN "UNASSIGNED_STACK" Bundle.steD ∈ lw_tbl ∧ Cond.laysStatic Bundle.tN "SUPPRESSED_SENTINEL" Bundle.listD ∈ lw_tbl ∧ Cond.initialized Bundle.tN ∈ lw_tbl ∧ Cond.arrayOver (.object RX3) ∈ lw_tbl := by decide +kernel
theorem am_nc_in : ∀ x, x < 3 → ∀ y, y < 3 → x ≠ y → Cond.not (.castable (am_xn x) (am_xn y)) ∈ flatC (Jvm.Cond.and given_1 narrow_1) := by decide +kernel
theorem am_isr_in : Cond.isRef (.static Bundle.tN "UNASSIGNED_STACK" Bundle.steD) ∈ flatC (Jvm.Cond.and given_1 narrow_1) ∧ Cond.isRef (.static Bundle.tN "SUPPRESSED_SENTINEL" Bundle.listD) ∈ flatC (Jvm.Cond.and given_1 narrow_1) := by decide +kernel
theorem am_F_start {s : State} {b L : Nat} {xs : Nat → Int32} (hL : L ≤ 2048) (hts : ∀ w ∈ lw_tbl, w.before #[Value.ref b] s = true) (hX : va_X b L xs s s.heap) (hbl : b < s.heap.size) (hgv : (Jvm.Cond.and given_1 narrow_1).before #[Value.ref b] s = true) :
    ∃ (dC : Nat → ClassId) (dI : Nat → Nat → Nat) (cy : Nat → ClassId), am_F dC dI cy s.heap.size b L xs s := by
  have hw : ∀ w ∈ am_Ts, ∀ a, w.before a s = true := fun w h a => am_wmv (List.mem_filter.mp h).2 (State.WarmedH.refl s) (hts w (List.mem_filter.mp h).1) a
  have hgs := flat_of_before _ hgv
  have hkn : ∀ c : Nat, ∃ (cC : ClassId) (iS : Nat → Nat), ∀ q : vw_C, vwCl[c]? = some q → u_Kn s q.1 q.2.1 q.2.2 cC iS := by
    intro c
    by_cases h6 : c < 6
    · obtain ⟨cC, iS, h⟩ := u_known (ws := am_Ts) (args := #[]) (fun w h => hw w h #[]) (am_wsX h6) (hw _ (am_inst h6).1 #[])
      exact ⟨cC, iS, fun q hq => by
        rw [am_cl6 h6] at hq
        cases hq
        exact h⟩
    · exact ⟨0, fun _ => 0, fun q hq => by
        have : c < 6 := (List.getElem?_eq_some_iff.mp hq).1
        omega⟩
  have hk1 : ∃ (dC : Nat → ClassId) (dI : Nat → Nat → Nat), ∀ (c : Nat) (q : vw_C), vwCl[c]? = some q → u_Kn s q.1 q.2.1 q.2.2 (dC c) (dI c) :=
    ⟨fun c => Classical.choose (hkn c), fun c => Classical.choose (Classical.choose_spec (hkn c)), fun c q hq => Classical.choose_spec (Classical.choose_spec (hkn c)) q hq⟩
  obtain ⟨dC, dI, hk⟩ := hk1
  obtain ⟨w1, w2, w3, w4⟩ := am_arrc
  obtain ⟨c6, a6, b6⟩ := am_tyA (hw _ w1 #[]) (fun C h => by cases h)
  obtain ⟨c7, a7, b7⟩ := am_tyA (hw _ w2 #[]) (fun C h => by cases h)
  obtain ⟨c8, a8, b8⟩ := am_tyA (hw _ w3 #[]) (fun C h => by cases h)
  obtain ⟨c9, a9, b9⟩ := am_tyA (hw _ w4 #[]) (fun C h => by cases h)
  have hAO : va_AO RX3 s := va_AO.of (hts _ am_stat_in.2.2.2)
  obtain ⟨c10, a10, b10⟩ := am_tyO hAO
  have hK : va_K (dC, dI) vwCl (am_tys (fun k => if k = 6 then c6 else if k = 7 then c7 else if k = 8 then c8 else if k = 9 then c9 else c10)) s := by
    refine ⟨hk, fun j q hq => ?_⟩
    unfold am_tys at hq
    match j, hq with
    | 0, hq => cases hq; exact ⟨a6, b6⟩
    | 1, hq => cases hq; exact ⟨a7, b7⟩
    | 2, hq => cases hq; exact ⟨a8, b8⟩
    | 3, hq => cases hq; exact ⟨a9, b9⟩
    | 4, hq => cases hq; exact ⟨a10, b10⟩
    | j + 5, hq => simp at hq
  have hA : ∀ a : Nat, a < s.heap.size → ¬ s.heap.size ≤ a := fun a h => Nat.not_le.mpr h
  refine ⟨dC, dI, _, hw, hK, hX, hbl, Nat.le_refl _, hL, vx_Zqof (hts _ am_stat_in.1) (hts _ am_stat_in.2.2.1) (hgs _ am_isr_in.1) hA, vx_Zqof (hts _ am_stat_in.2.1) (hts _ am_stat_in.2.2.1) (hgs _ am_isr_in.2) hA, fun q hq => ?_, hAO, fun x y hx hy hxy => va_Nc.of (hgs _ (am_nc_in x hx y hy hxy))⟩
  obtain ⟨h1, h2⟩ := am_strs_in q hq
  have h3 : (Cond.stringRef q.1 q.2.1 q.2.2).holds #[Value.ref b] s none s [] = true := hts _ h2
  have hcur : s.vm.findClass q.1 = some (dC 4) := by
    rw [h1]; exact (hk 4 _ rfl).2.1
  obtain ⟨k, cf, i, a, g1, g2, g3, g4, g5, g6⟩ := Cond.stringRef_spec hcur h3
  exact ⟨a, vk_R.same (U := s) rfl (by
    refine vk_R.of (A := #[]) ?_ ?_
    · exact h3
    · exact g6)⟩
theorem am_H_start {s : State} {dC : Nat → ClassId} {dI : Nat → Nat → Nat} {cy : Nat → ClassId} {B0 b L : Nat} {xs : Nat → Int32} {H : Heap} : am_H dC dI cy B0 b L xs (am_E0 L) (am_M0 L xs) H := by
  refine ⟨fun k q h => ?_, fun b' c' j => ?_, Nat.zero_le _, rfl, fun j hj => ?_⟩
  · unfold am_ws am_E0 at h
    simp at h
  · unfold am_M0
    by_cases h : b' = 45 ∧ c' = 0 ∧ 0 ≤ j ∧ j < (L : Int)
    · rw [if_pos h, if_neg (by omega)]
      exact am_nI _
    · rw [if_neg h]
      split <;> constructor <;> decide
  · unfold am_M0
    rw [if_pos ⟨rfl, rfl, by omega, by omega⟩]
    rfl
theorem am_rk225 : am_rk 225 = 10 := by decide +kernel
/-- from the entry, for every script of at most 2048 ints, the law comes to its end with true -/
theorem whole_start_open (hLaw : am_Law) {p : Program} {e : Env} {s : State} {m : MethodId} {below : List Frame} {meth : Method} {c : Code} (l : Launch) (hflags : l.flags = flags0) {b L : Nat} {xs : Nat → Int32} (hL : L ≤ 2048) (C0 : lw_At p s m meth c b L xs) : W p l e room_1 s m #[Value.ref b] below meth c s.heap [] 0 0 (lw_Z below #[Value.ref b] s) (entryFrame m ([Value.ref b] : List Value).toArray 7) := by
  obtain ⟨hx, hb, hr, hml, hown, hts, hX, hbl, hlocks, hgv⟩ := id C0
  have hst : l.stackTraces = false := by unfold Launch.stackTraces; rw [hflags]; decide
  obtain ⟨dC, dI, cy, hF⟩ := am_F_start hL hts hX hbl hgv
  obtain ⟨n, E, M, hrun, hqc, hqs⟩ := hLaw L xs hL
  have hL0 := am_L_entry (B0 := s.heap.size) (b := b) (nL := 7) (as := [am_A (45, 0)]) (by decide) (fun v hv => by rw [List.mem_singleton.mp hv]; trivial)
  have e1 : ([am_A (45, 0)] : List am_V).map (am_cv s.heap.size b) = [Value.ref b] := rfl
  rw [e1] at hL0
  rw [lg_entry_eq]
  have h0 : am_qc (am_E0 L) = 0 := rfl
  have h1 : am_qs (am_E0 L) = 0 := rfl
  have h2 : am_mt 225 = (6, 6, ⟨RL, "law", "([I)Z"⟩, code, 7, some .boolean, [], 1) := rfl
  refine am_W_run (E0 := am_E0 L) (r := (.inl (some (am_I 1)), E, M)) (k := 225) (nL := 7) (dC := dC) (dI := dI) (cy := cy) (B0 := s.heap.size) (b := b) (L := L) (xs := xs) (by decide) hx (by rw [h2]; exact hb) hml (by rw [h2]; exact hown) (fun h => by rw [h2] at h; exact absurd h (by decide)) hF (fun h => by rw [h2] at h; exact absurd rfl h) (by rw [am_rk225]; exact Nat.le_of_ble_eq_true rfl) (by rw [am_rk225]; exact Nat.le_of_ble_eq_true rfl) (by rw [h0, Nat.zero_add]; exact hqc) (by rw [h1, Nat.zero_add]; exact hqs) (fun _ => rfl)
    (fun t as E9 M9 r' n9 g1 g2 g3 _ g5 g6 g7 => am_ctr hst (am_rk t + 1) t (Nat.lt_succ_self _) g2 g3 as E9 M9 r' n9 g5 g6 g7) ?_ ?_ ?_ n 0 (am_el 7 [am_A (45, 0)]) [] (am_E0 L) (am_M0 L xs) _ _ _ _ _ hrun hL0 (fun v hv => by cases hv) (am_H_start (s := s)) va_S.rf rfl rfl ⟨Nat.le_refl _, Nat.le_refl _⟩
  · intro pc i v st lsC H locs cells slots g1 g2 g3 g4 g5 g6 g7 g8
    have hv : v = some (am_I 1) := (Sum.inl.inj g2).symm
    subst hv
    unfold am_rt at g1
    split at g1
    · split at g1
      · split at g1 <;> cases g1
        have hd : decode code pc = .ok (.ireturn, 1) := by rw [h2] at g3; exact g3
        refine va_forget g6.2.2 ?_
        refine W.widen (k := 601024) (n := 7293034) (by dsimp only at g7; omega) (by dsimp only at g8; omega) ?_
        exact lw_ret hx hb hr hlocks hd
      · cases g1
    · split at g1
      · split at g1 <;> cases g1
      · cases g1
    · split at g1
      · split at g1 <;> cases g1
      · cases g1
    · split at g1
      · split at g1 <;> cases g1
      · cases g1
    · cases g1
  · intro pc i x E9 M9 lsC H locs cells slots _ _ g3
    cases g3
  · intro pc x ce q rest lsC H locs cells slots g1
    cases g1
end
section
/-! ===== what the abstract machine's run comes to: equations ===== -/
theorem am_run_mono : ∀ (n k : Nat) (c : am_Cf) (r : am_Rs), am_run n k c = some r → am_run (n + 1) k c = some r := by
  intro n
  induction n with
  | zero => intro k c r h; cases h
  | succ n ih =>
    intro k c r h
    unfold am_run at h ⊢
    split at h
    · cases h
    · exact ih _ _ _ h
    · exact h
    · rename_i t as rest hs
      split at h
      · cases h
      · rename_i hr
        rw [ih _ _ _ hr]
        exact ih _ _ _ h
      · rename_i hr
        rw [ih _ _ _ hr]
        dsimp only
        split at h
        · exact h
        · split at h
          · rename_i hc
            rw [if_pos hc]
            exact ih _ _ _ h
          · cases h
theorem am_run_le2 {n m k : Nat} {c : am_Cf} {r : am_Rs} (h : am_run n k c = some r) (hm : n ≤ m) : am_run m k c = some r := by
  induction hm with
  | refl => exact h
  | step _ ih => exact am_run_mono _ _ _ _ ih
noncomputable def am_den (k : Nat) (c : am_Cf) : Option am_Rs := @dite _ (∃ r n, am_run n k c = some r) (Classical.propDecidable _) (fun h => some (Classical.choose h)) (fun _ => none)
theorem am_den_of {n k : Nat} {c : am_Cf} {r : am_Rs} (h : am_run n k c = some r) : am_den k c = some r := by
  have h1 : ∃ r n, am_run n k c = some r := ⟨r, n, h⟩
  unfold am_den
  rw [dif_pos h1]
  obtain ⟨m, hm⟩ := Classical.choose_spec h1
  rcases Nat.le_total n m with q | q
  · exact hm.symm.trans (am_run_le2 h q)
  · exact (am_run_le2 hm q).symm.trans h
theorem am_den_i {k : Nat} {c : am_Cf} {r : am_Rs} (h : am_den k c = some r) : ∃ n, am_run n k c = some r := by
  unfold am_den at h
  by_cases h1 : ∃ r n, am_run n k c = some r
  · rw [dif_pos h1] at h
    have h2 := Classical.choose_spec h1
    rw [Option.some.inj h] at h2
    exact h2
  · rw [dif_neg h1] at h
    cases h
theorem am_den_n0 {k : Nat} {c : am_Cf} (h : ∀ r n, am_run n k c ≠ some r) : am_den k c = none := by
  cases hd : am_den k c with
  | none => rfl
  | some r =>
    obtain ⟨n, hn⟩ := am_den_i hd
    exact absurd hn (h r n)
theorem am_den_ret {k : Nat} {c : am_Cf} {r : am_Rs} (h : am_stp k c = some (.inr (.inl r))) : am_den k c = some r := am_den_of (n := 1) (by unfold am_run; rw [h])
theorem am_den_go {k : Nat} {c c' : am_Cf} (h : am_stp k c = some (.inl c')) : am_den k c = am_den k c' := by
  cases hd : am_den k c' with
  | some r =>
    obtain ⟨n, hn⟩ := am_den_i hd
    exact am_den_of (n := n + 1) (by unfold am_run; rw [h]; exact hn)
  | none =>
    refine am_den_n0 (fun r n hn => ?_)
    cases n with
    | zero => cases hn
    | succ n =>
      unfold am_run at hn
      rw [h] at hn
      rw [am_den_of hn] at hd
      cases hd
/-- behind a call -/
noncomputable def am_bd (k pc : Nat) (ls : List (Option am_V)) (rest : List am_V) (o : Option am_Rs) : Option am_Rs := match o with
  | none => none
  | some (.inl v, E, M) => am_den k (pc + 3, ls, am_ol v ++ rest, E, M)
  | some (.inr x, E, M) => (match am_hc k pc x with
    | none => if (am_mt k).2.2.2.2.2.2.1 = [] then some (.inr x, E, M) else none
    | some (pc', l) => if l < ls.length ∧ am_lf ls l = true then am_den k (pc', ls.set l none, [], E, M) else none)
theorem am_den_call {k t : Nat} {c : am_Cf} {as rest : List am_V} (h : am_stp k c = some (.inr (.inr (t, as, rest)))) : am_den k c = am_bd k c.1 c.2.1 rest (am_den t (am_en t as c.2.2.2.1 c.2.2.2.2)) := by
  cases hd : am_bd k c.1 c.2.1 rest (am_den t (am_en t as c.2.2.2.1 c.2.2.2.2)) with
  | some r =>
    unfold am_bd at hd
    split at hd
    · cases hd
    · rename_i v E M ho
      obtain ⟨n1, h1⟩ := am_den_i ho
      obtain ⟨n2, h2⟩ := am_den_i hd
      refine am_den_of (n := (n1 + n2) + 1) ?_
      unfold am_run
      rw [h]
      dsimp only
      rw [am_run_le2 h1 (Nat.le_add_right _ _)]
      exact am_run_le2 h2 (Nat.le_add_left _ _)
    · rename_i x E M ho
      obtain ⟨n1, h1⟩ := am_den_i ho
      split at hd
      · rename_i hc
        refine am_den_of (n := n1 + 1) ?_
        unfold am_run
        rw [h]
        dsimp only
        rw [h1]
        dsimp only
        rw [hc]
        exact hd
      · rename_i pc' l hc
        split at hd
        · rename_i hcond
          obtain ⟨n2, h2⟩ := am_den_i hd
          refine am_den_of (n := (n1 + n2) + 1) ?_
          unfold am_run
          rw [h]
          dsimp only
          rw [am_run_le2 h1 (Nat.le_add_right _ _)]
          dsimp only
          rw [hc]
          dsimp only
          rw [if_pos hcond]
          exact am_run_le2 h2 (Nat.le_add_left _ _)
        · cases hd
  | none =>
    refine am_den_n0 (fun r n hn => ?_)
    cases n with
    | zero => cases hn
    | succ n =>
      unfold am_run at hn
      rw [h] at hn
      dsimp only at hn
      split at hn
      · cases hn
      · rename_i v E M hr
        rw [am_den_of hr] at hd
        unfold am_bd at hd
        dsimp only at hd
        rw [am_den_of hn] at hd
        cases hd
      · rename_i x E M hr
        rw [am_den_of hr] at hd
        unfold am_bd at hd
        dsimp only at hd
        split at hn
        · rename_i hc
          rw [hc] at hd
          dsimp only at hd
          rw [hn] at hd
          cases hd
        · rename_i pc' l hc
          rw [hc] at hd
          dsimp only at hd
          split at hn
          · rename_i hcond
            rw [if_pos hcond, am_den_of hn] at hd
            cases hd
          · cases hn
theorem am_bd_v {k pc : Nat} {ls : List (Option am_V)} {rest : List am_V} {v : am_V} {E : am_E} {M : am_M} : am_bd k pc ls rest (some (.inl (some v), E, M)) = am_den k (pc + 3, ls, v :: rest, E, M) := rfl
theorem am_bd_u {k pc : Nat} {ls : List (Option am_V)} {rest : List am_V} {E : am_E} {M : am_M} : am_bd k pc ls rest (some (.inl none, E, M)) = am_den k (pc + 3, ls, rest, E, M) := rfl
/-- an exception that goes on -/
theorem am_bd_x {k pc x : Nat} {ls : List (Option am_V)} {rest : List am_V} {E : am_E} {M : am_M} (hh : (am_mt k).2.2.2.2.2.2.1 = []) : am_bd k pc ls rest (some (.inr x, E, M)) = some (.inr x, E, M) := by
  unfold am_bd am_hc
  dsimp only
  rw [hh]
  unfold am_hd
  simp
/-- several steps at once -/
def am_stpn (k : Nat) : Nat → am_Cf → Option am_Cf
  | 0, c => some c
  | n + 1, c => (match am_stp k c with
    | some (.inl c') => am_stpn k n c'
    | _ => none)
theorem am_den_n {k : Nat} (n : Nat) : ∀ {c c' : am_Cf}, am_stpn k n c = some c' → am_den k c = am_den k c' := by
  induction n with
  | zero => intro c c' h; cases h; rfl
  | succ n ih =>
    intro c c' h
    unfold am_stpn at h
    split at h
    · rename_i c2 hs
      exact (am_den_go hs).trans (ih h)
    · cases h
section DEN
variable {k pc idx : Nat} {ls : List (Option am_V)} {st : List am_V} {E : am_E} {M : am_M} {b c f : Nat} {r r' : am_R} {z i : Int}
theorem am_d_gfi (F : am_fetch k pc = some (.getfield idx, 3)) (hf : am_fl k idx = some (c, f)) (ho : am_ob E r c = true) (hr : am_isr c f = false) : am_den k (pc, ls, am_A r :: st, E, M) = am_den k (pc + 3, ls, am_I (M r.1 r.2 f) :: st, E, M) :=
  am_den_go (by simp [am_stp, F, am_jp, am_ln, am_op, am_ld, am_st, am_rd, hf, ho, hr])
theorem am_d_gfr (F : am_fetch k pc = some (.getfield idx, 3)) (hf : am_fl k idx = some (c, f)) (ho : am_ob E r c = true) (hr : am_isr c f = true) (h : am_rf E r f = some r') : am_den k (pc, ls, am_A r :: st, E, M) = am_den k (pc + 3, ls, am_A r' :: st, E, M) :=
  am_den_go (by simp [am_stp, F, am_jp, am_ln, am_op, am_ld, am_st, am_rd, hf, ho, hr, h, am_rv])
theorem am_d_ial (F : am_fetch k pc = some (.iaload, 1)) (h : am_ar E r 6 i = true) : am_den k (pc, ls, am_I i :: am_A r :: st, E, M) = am_den k (pc + 1, ls, am_I (M r.1 r.2 i) :: st, E, M) :=
  am_den_go (by simp [am_stp, F, am_jp, am_ln, am_op, am_ld, am_st, am_rd, h, am_sw])
theorem am_d_sal (F : am_fetch k pc = some (.iaload, 1)) (h : am_ar E r 12 i = true) : am_den k (pc, ls, am_I i :: am_A r :: st, E, M) = am_den k (pc + 1, ls, am_I (M r.1 r.2 i) :: st, E, M) :=
  am_den_go (by simp [am_stp, F, am_jp, am_ln, am_op, am_ld, am_st, am_rd, h, am_sw])
theorem am_d_cal (F : am_fetch k pc = some (.caload, 1)) (h : am_ar E r 7 i = true) : am_den k (pc, ls, am_I i :: am_A r :: st, E, M) = am_den k (pc + 1, ls, am_I (M r.1 r.2 i) :: st, E, M) :=
  am_den_go (by simp [am_stp, F, am_jp, am_ln, am_op, am_ld, am_st, am_rd, h, am_sw])
theorem am_d_bal (F : am_fetch k pc = some (.baload, 1)) (h : am_ar E r 8 i = true) : am_den k (pc, ls, am_I i :: am_A r :: st, E, M) = am_den k (pc + 1, ls, am_I (M r.1 r.2 i) :: st, E, M) :=
  am_den_go (by simp [am_stp, F, am_jp, am_ln, am_op, am_ld, am_st, am_rd, h, am_sw])
theorem am_d_lal (F : am_fetch k pc = some (.laload, 1)) (h : am_ar E r 9 i = true) : am_den k (pc, ls, am_I i :: am_A r :: st, E, M) = am_den k (pc + 1, ls, am_J (M r.1 r.2 i) :: st, E, M) :=
  am_den_go (by simp [am_stp, F, am_jp, am_ln, am_op, am_ld, am_st, am_rd, h, am_sw])
theorem am_d_aal (F : am_fetch k pc = some (.aaload, 1)) (h : am_ar E r 10 i = true) (hr : am_rf E r i.toNat = some r') : am_den k (pc, ls, am_I i :: am_A r :: st, E, M) = am_den k (pc + 1, ls, am_A r' :: st, E, M) :=
  am_den_go (by simp [am_stp, F, am_jp, am_ln, am_op, am_ld, am_st, am_rd, h, hr, am_rv, am_sw])
theorem am_d_len {n : Nat} (F : am_fetch k pc = some (.arraylength, 1)) (h : am_kd E r = some (c, n)) (h6 : 6 ≤ c) : am_den k (pc, ls, am_A r :: st, E, M) = am_den k (pc + 1, ls, am_I n :: st, E, M) :=
  am_den_go (by simp [am_stp, F, am_jp, am_ln, am_op, am_ld, am_st, am_rd, h, h6, am_sw])
theorem am_d_pfi (F : am_fetch k pc = some (.putfield idx, 3)) (hf : am_fl k idx = some (c, f)) (ho : am_ob E r c = true) (hr : am_isr c f = false) (hz : am_isz c f = true → z = 0 ∨ z = 1) : am_den k (pc, ls, am_I z :: am_A r :: st, E, M) = am_den k (pc + 3, ls, st, E, am_up M r f z) := by
  have h1 : am_wr k (.putfield idx) (am_I z :: am_A r :: st) E M = some (st, E, am_up M r f z) := by
    unfold am_wr
    simp only [hf]
    rw [if_pos ⟨ho, hr, hz⟩]
  exact am_den_go (by simp [am_stp, F, am_jp, am_ln, am_op, am_ld, am_st, am_rd, h1])
theorem am_d_pfr (F : am_fetch k pc = some (.putfield idx, 3)) (hf : am_fl k idx = some (c, f)) (ho : am_ob E r c = true) (hr : am_isr c f = true) (hn : (am_mt k).2.2.1.name = "<init>") (hc : (am_mt k).2.1 = c) : am_den k (pc, ls, am_A r' :: am_A r :: st, E, M) = am_den k (pc + 3, ls, st, am_srf E r f r', M) := by
  have h1 : am_wr k (.putfield idx) (am_A r' :: am_A r :: st) E M = some (st, am_srf E r f r', M) := by
    unfold am_wr
    simp only [hf]
    rw [if_pos ⟨ho, hr, hn, hc⟩]
  exact am_den_go (by simp [am_stp, F, am_jp, am_ln, am_op, am_ld, am_st, am_rd, h1])
theorem am_d_ias (F : am_fetch k pc = some (.iastore, 1)) (h : am_ar E r 6 i = true) : am_den k (pc, ls, am_I z :: am_I i :: am_A r :: st, E, M) = am_den k (pc + 1, ls, st, E, am_up M r i z) :=
  am_den_go (by simp [am_stp, F, am_jp, am_ln, am_op, am_ld, am_st, am_rd, am_wr, h, am_sw])
theorem am_d_cas (F : am_fetch k pc = some (.castore, 1)) (h : am_ar E r 7 i = true) (h0 : 0 ≤ z) (h1 : z < 65536) : am_den k (pc, ls, am_I z :: am_I i :: am_A r :: st, E, M) = am_den k (pc + 1, ls, st, E, am_up M r i z) :=
  am_den_go (by simp [am_stp, F, am_jp, am_ln, am_op, am_ld, am_st, am_rd, am_wr, h, h0, h1, am_sw])
theorem am_d_bas (F : am_fetch k pc = some (.bastore, 1)) (h : am_ar E r 8 i = true) (h0 : z = 0 ∨ z = 1) : am_den k (pc, ls, am_I z :: am_I i :: am_A r :: st, E, M) = am_den k (pc + 1, ls, st, E, am_up M r i z) :=
  am_den_go (by simp [am_stp, F, am_jp, am_ln, am_op, am_ld, am_st, am_rd, am_wr, h, h0, am_sw])
theorem am_d_las (F : am_fetch k pc = some (.lastore, 1)) (h : am_ar E r 9 i = true) : am_den k (pc, ls, am_J z :: am_I i :: am_A r :: st, E, M) = am_den k (pc + 1, ls, st, E, am_up M r i z) :=
  am_den_go (by simp [am_stp, F, am_jp, am_ln, am_op, am_ld, am_st, am_rd, am_wr, h, am_sw])
theorem am_d_aas (F : am_fetch k pc = some (.aastore, 1)) (h : am_ar E r 10 i = true) (h0 : am_ob E r' 3 = true) : am_den k (pc, ls, am_A r' :: am_I i :: am_A r :: st, E, M) = am_den k (pc + 1, ls, st, am_srf E r i.toNat r', M) :=
  am_den_go (by simp [am_stp, F, am_jp, am_ln, am_op, am_ld, am_st, am_rd, am_wr, h, h0, am_sw])
theorem am_d_if {co : Jvm.ClassFile.Cond} {off : Int} {t : Nat} {q : Prop} [Decidable q] (F : am_fetch k pc = some (.ifCond co off, 3)) (ht : am_at pc off = some t) (hq : am_cc co z 0 = decide q) : am_den k (pc, ls, am_I z :: st, E, M) = if q then am_den k (t, ls, st, E, M) else am_den k (pc + 3, ls, st, E, M) := by
  have h1 : am_jp (.ifCond co off) pc 3 (am_I z :: st) = some (bif am_cc co z 0 then t else pc + 3, st) := by simp [am_jp, ht]
  rw [am_den_go (c' := (bif am_cc co z 0 then t else pc + 3, ls, st, E, M)) (by simp only [am_stp, F, h1]), hq]
  by_cases h : q
  · rw [if_pos h, decide_eq_true h]; rfl
  · rw [if_neg h, decide_eq_false h]; rfl
theorem am_d_ic {co : Jvm.ClassFile.Cond} {off : Int} {t : Nat} {q : Prop} [Decidable q] (F : am_fetch k pc = some (.if_icmp co off, 3)) (ht : am_at pc off = some t) (hq : am_cc co i z = decide q) : am_den k (pc, ls, am_I z :: am_I i :: st, E, M) = if q then am_den k (t, ls, st, E, M) else am_den k (pc + 3, ls, st, E, M) := by
  have h1 : am_jp (.if_icmp co off) pc 3 (am_I z :: am_I i :: st) = some (bif am_cc co i z then t else pc + 3, st) := by simp [am_jp, ht]
  rw [am_den_go (c' := (bif am_cc co i z then t else pc + 3, ls, st, E, M)) (by simp only [am_stp, F, h1]), hq]
  by_cases h : q
  · rw [if_pos h, decide_eq_true h]; rfl
  · rw [if_neg h, decide_eq_false h]; rfl
theorem am_d_iv {i' : Instr} {t : Nat} {as rest : List am_V} (F : am_fetch k pc = some (i', 3)) (hi : (∃ x, i' = .invokestatic x) ∨ (∃ x, i' = .invokevirtual x) ∨ (∃ x, i' = .invokespecial x)) (h : am_iv k i' st E = some (.inr (t, as, rest))) : am_den k (pc, ls, st, E, M) = am_bd k pc ls rest (am_den t (am_en t as E M)) := by
  refine am_den_call (c := (pc, ls, st, E, M)) ?_
  rcases hi with ⟨x, rfl⟩ | ⟨x, rfl⟩ | ⟨x, rfl⟩ <;> simp [am_stp, F, am_jp, am_ln, am_op, am_ld, am_st, am_rd, am_wr, am_mk, am_rt, h]
theorem am_iv_v {t n : Nat} {as rest : List am_V} (h1 : am_ml k idx = some (t, 1)) (hn : (am_mt t).2.2.2.2.2.2.2 = n) (hc : (am_mt t).2.1 = c) (h2 : Nat.blt (am_rk t) (am_rk k) = true) (h3 : (st.take n).reverse = am_A r :: as) (h4 : st.drop n = rest) (h5 : Nat.ble n st.length = true) (h6 : Nat.ble (am_wt rest) 8 = true) (h7 : Nat.ble (am_xp (am_A r :: as)).length (am_mt t).2.2.2.2.1 = true) (ho : am_ob E r c = true) :
    am_iv k (.invokevirtual idx) st E = some (.inr (t, am_A r :: as, rest)) := by
  unfold am_iv
  simp only [h1]
  rw [if_pos ⟨by have h9 := h2; simp [Nat.blt] at h9; omega, by rw [hn]; exact Nat.le_of_ble_eq_true h5, by rw [hn, h4]; exact Nat.le_of_ble_eq_true h6, by rw [hn, h3]; simp [am_ivc, am_rcv, hc, ho], by rw [hn, h3]; exact Nat.le_of_ble_eq_true h7⟩, hn, h3, h4]
theorem am_iv_i2 {t n : Nat} {as rest : List am_V} (h1 : am_ml k idx = some (t, 2)) (hn : (am_mt t).2.2.2.2.2.2.2 = n) (hc : (am_mt t).2.1 = c) (h2 : Nat.blt (am_rk t) (am_rk k) = true) (h3 : (st.take n).reverse = am_A r :: as) (h4 : st.drop n = rest) (h5 : Nat.ble n st.length = true) (h6 : Nat.ble (am_wt rest) 8 = true) (h7 : Nat.ble (am_xp (am_A r :: as)).length (am_mt t).2.2.2.2.1 = true) (ho : am_ob E r c = true) :
    am_iv k (.invokespecial idx) st E = some (.inr (t, am_A r :: as, rest)) := by
  unfold am_iv
  simp only [h1]
  rw [if_pos ⟨by have h9 := h2; simp [Nat.blt] at h9; omega, by rw [hn]; exact Nat.le_of_ble_eq_true h5, by rw [hn, h4]; exact Nat.le_of_ble_eq_true h6, by rw [hn, h3]; simp [am_ivc, am_rcv, hc, ho], by rw [hn, h3]; exact Nat.le_of_ble_eq_true h7⟩, hn, h3, h4]
theorem am_iv_s {t n kd : Nat} {as rest : List am_V} (h1 : am_ml k idx = some (t, kd)) (hk : kd = 0 ∨ kd = 3 ∨ kd = 4) (hn : (am_mt t).2.2.2.2.2.2.2 = n) (h2 : Nat.blt (am_rk t) (am_rk k) = true) (h3 : (st.take n).reverse = as) (h4 : st.drop n = rest) (h5 : Nat.ble n st.length = true) (h6 : Nat.ble (am_wt rest) 8 = true) (h7 : Nat.ble (am_xp as).length (am_mt t).2.2.2.2.1 = true) :
    am_iv k (.invokestatic idx) st E = some (.inr (t, as, rest)) := by
  rcases hk with rfl | rfl | rfl <;>
  · unfold am_iv
    simp only [h1]
    rw [if_pos ⟨by have h9 := h2; simp [Nat.blt] at h9; omega, by rw [hn]; exact Nat.le_of_ble_eq_true h5, by rw [hn, h4]; exact Nat.le_of_ble_eq_true h6, by simp [am_ivc], by rw [hn, h3]; exact Nat.le_of_ble_eq_true h7⟩, hn, h3, h4]
theorem am_d_ret {v : Option am_V} {len : Nat} {i' : Instr} (F : am_fetch k pc = some (i', len)) (h : am_stp k (pc, ls, st, E, M) = some (.inr (.inl (.inl v, E, M)))) : am_den k (pc, ls, st, E, M) = some (.inl v, E, M) := am_den_ret h
end DEN
end
section
/-! ===== the wires: which cell holds which ===== -/
def am_WY (E : am_E) (b : Nat) : Prop := am_ob E (b, 0) 3 = true ∧ (∀ f, f < 7 → am_rf E (b, 0) f = some (b, f + 1)) ∧ (∀ c, 1 ≤ c → c ≤ 5 → am_kd E (b, c) = some (6, 24)) ∧ am_kd E (b, 6) = some (6, 4) ∧ am_kd E (b, 7) = some (6, 4)
def am_Wr (E : am_E) : Prop := (∀ b, b < 22 → am_WY E b) ∧
  (am_ob E (30, 0) 2 = true ∧ am_rf E (30, 0) 0 = some (30, 1) ∧ am_kd E (30, 1) = some (7, 120)) ∧
  (am_ob E (31, 0) 0 = true ∧ am_rf E (31, 0) 0 = some (31, 1) ∧ am_kd E (31, 1) = some (10, 14) ∧ ∀ i, i < 14 → am_rf E (31, 1) i = some (i + 1, 0)) ∧
  (∀ s, s = 32 ∨ s = 33 → am_ob E (s, 0) 1 = true ∧ am_rf E (s, 0) 0 = some (s - 17, 0)) ∧
  (am_ob E (34, 0) 4 = true ∧ am_rf E (34, 0) 0 = some (30, 0) ∧ am_rf E (34, 0) 1 = some (0, 0) ∧ am_rf E (34, 0) 2 = some (31, 0) ∧ am_rf E (34, 0) 3 = some (32, 0) ∧ am_rf E (34, 0) 4 = some (33, 0) ∧ am_rf E (34, 0) 5 = some (17, 0) ∧ am_rf E (34, 0) 6 = some (34, 1) ∧ am_kd E (34, 1) = some (10, 4) ∧ ∀ i, i < 4 → am_rf E (34, 1) i = some (18 + i, 0)) ∧
  (am_ob E (35, 0) 5 = true ∧ am_rf E (35, 0) 1 = some (36, 0) ∧ am_rf E (35, 0) 3 = some (37, 0) ∧ am_rf E (35, 0) 4 = some (38, 0) ∧ am_rf E (35, 0) 5 = some (39, 0) ∧ am_rf E (35, 0) 6 = some (40, 0) ∧ am_rf E (35, 0) 7 = some (41, 0) ∧ am_rf E (35, 0) 9 = some (42, 0) ∧ am_rf E (35, 0) 10 = some (43, 0)) ∧
  (am_kd E (36, 0) = some (6, 120) ∧ am_kd E (37, 0) = some (6, 138) ∧ am_kd E (38, 0) = some (6, 138) ∧ am_kd E (39, 0) = some (6, 138) ∧ am_kd E (40, 0) = some (6, 138) ∧ am_kd E (41, 0) = some (6, 1932) ∧ am_kd E (42, 0) = some (6, 276) ∧ am_kd E (43, 0) = some (8, 2) ∧ am_kd E (44, 0) = some (9, 1))
theorem am_ar_of {E : am_E} {r : am_R} {k n : Nat} {i : Int} (h : am_kd E r = some (k, n)) (g : 0 ≤ i ∧ i < (n : Int)) : am_ar E r k i = true := by
  unfold am_ar
  rw [h]
  simp [g.1, g.2]
theorem am_kd45 {E : am_E} : am_kd E (45, 0) = some (12, E.2.2.1) := rfl
section DEN2
variable {k pc idx : Nat} {ls : List (Option am_V)} {st : List am_V} {E : am_E} {M : am_M} {b c f t : Nat} {r r' : am_R} {z i : Int}
theorem am_d_ldc (F : am_fetch k pc = some (.ldc2_w idx, 3)) (h : am_kl k idx = some z) : am_den k (pc, ls, st, E, M) = am_den k (pc + 3, ls, am_J z :: st, E, M) :=
  am_den_go (by simp [am_stp, F, am_jp, am_ln, am_op, am_ld, am_st, am_rd, h])
theorem am_d_iret (F : am_fetch k pc = some (.ireturn, 1)) (h : am_rok (am_mt k).2.2.2.2.2.1 (.inl z) = true) : am_den k (pc, ls, [am_I z], E, M) = some (.inl (some (am_I z)), E, M) := by
  have h1 : am_rt k .ireturn [am_I z] = some (some (am_I z)) := by
    unfold am_rt
    simp only []
    rw [if_pos h]
  exact am_den_ret (by simp [am_stp, F, am_jp, am_ln, am_op, am_ld, am_st, am_rd, am_wr, am_mk, am_sw, h1])
theorem am_d_max (F : am_fetch k pc = some (.invokestatic idx, 3)) (h : am_ml k idx = some (t, 6)) (hw : Nat.ble (am_wt st) 8 = true) : am_den k (pc, ls, am_I z :: am_I i :: st, E, M) = am_den k (pc + 3, ls, am_I (if i < z then z else i) :: st, E, M) := by
  have h1 : am_iv k (.invokestatic idx) (am_I z :: am_I i :: st) E = some (.inl (am_I (if i < z then z else i) :: st)) := by
    unfold am_iv
    simp only [h]
    rw [if_pos (Nat.le_of_ble_eq_true hw)]
  exact am_den_go (by simp [am_stp, F, am_jp, am_ln, am_op, am_ld, am_st, am_rd, am_wr, am_mk, am_rt, h1])
theorem am_d_min (F : am_fetch k pc = some (.invokestatic idx, 3)) (h : am_ml k idx = some (t, 7)) (hw : Nat.ble (am_wt st) 8 = true) : am_den k (pc, ls, am_I z :: am_I i :: st, E, M) = am_den k (pc + 3, ls, am_I (if z < i then z else i) :: st, E, M) := by
  have h1 : am_iv k (.invokestatic idx) (am_I z :: am_I i :: st) E = some (.inl (am_I (if z < i then z else i) :: st)) := by
    unfold am_iv
    simp only [h]
    rw [if_pos (Nat.le_of_ble_eq_true hw)]
  exact am_den_go (by simp [am_stp, F, am_jp, am_ln, am_op, am_ld, am_st, am_rd, am_wr, am_mk, am_rt, h1])
theorem am_d_obj (F : am_fetch k pc = some (.invokespecial idx, 3)) (h : am_ml k idx = some (t, 5)) (hw : Nat.ble (am_wt st) 8 = true) : am_den k (pc, ls, am_A r :: st, E, M) = am_den k (pc + 3, ls, st, E, M) := by
  have h1 : am_iv k (.invokespecial idx) (am_A r :: st) E = some (.inl st) := by
    unfold am_iv
    simp only [h]
    rw [if_pos (Nat.le_of_ble_eq_true hw)]
  exact am_den_go (by simp [am_stp, F, am_jp, am_ln, am_op, am_ld, am_st, am_rd, am_wr, am_mk, am_rt, h1])
theorem am_d_thr {x : Nat} (F : am_fetch k pc = some (.new idx, 3)) (hc : am_cl k idx = some (.inr x)) (h : am_th k pc (.new idx) [] = some x) : am_den k (pc, ls, [], E, M) = some (.inr x, am_xE E, M) :=
  am_den_ret (by simp [am_stp, F, am_jp, am_ln, am_op, am_ld, am_st, am_rd, am_wr, am_mk, am_rt, am_iv, hc, h])
theorem am_d_new (F : am_fetch k pc = some (.new idx, 3)) (hc : am_cl k idx = some (.inl c)) (hx : am_nx E c (am_fn c) = some r) : am_den k (pc, ls, st, E, M) = am_den k (pc + 3, ls, am_A r :: st, am_nE E r, am_nM M r) :=
  am_den_go (by simp [am_stp, F, am_jp, am_ln, am_op, am_ld, am_st, am_rd, am_wr, am_mk, hc, hx])
theorem am_d_na {a : ArrayType} (F : am_fetch k pc = some (.newarray a, 2)) (h0 : 0 ≤ z) (h1 : z < 100000) (ha : am_ty a < 99) (hx : am_nx E (am_ty a) z = some r) : am_den k (pc, ls, am_I z :: st, E, M) = am_den k (pc + 2, ls, am_A r :: st, am_nE E r, am_nM M r) :=
  am_den_go (by simp [am_stp, F, am_jp, am_ln, am_op, am_ld, am_st, am_rd, am_wr, am_mk, h0, h1, ha, hx, am_sw])
theorem am_d_nb (F : am_fetch k pc = some (.anewarray idx, 3)) (hc : am_cl k idx = some (.inl 3)) (h0 : 0 ≤ z) (h1 : z < 100000) (hx : am_nx E 10 z = some r) : am_den k (pc, ls, am_I z :: st, E, M) = am_den k (pc + 3, ls, am_A r :: st, am_nE E r, am_nM M r) :=
  am_den_go (by simp [am_stp, F, am_jp, am_ln, am_op, am_ld, am_st, am_rd, am_wr, am_mk, h0, h1, hc, hx])
end DEN2
end
