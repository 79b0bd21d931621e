/-! ===== the program's tables hold ===== -/
def am_dB (b : ByteArray) (e : Nat × Instr × Nat) : Bool := decide (decode b e.1 = .ok (e.2.1, e.2.2))
theorem am_fs {P : Nat → Prop} {n : Nat} (h : ∀ k, k < n → P k) (hn : P n) : ∀ k, k < n + 1 → P k := fun k hk => by
  rcases Nat.lt_or_ge k n with q | q
  · exact h k q
  · rw [show k = n by omega]; exact hn
theorem am_al {b : ByteArray} {l m : List (Nat × Instr × Nat)} (h1 : l.all (am_dB b) = true) (h2 : m.all (am_dB b) = true) : (l ++ m).all (am_dB b) = true := by rw [List.all_append, h1, h2]; rfl
theorem am_k0 : am_c0.all (am_dB cX0_init) = true := by decide +kernel
theorem am_k1 : am_c1.all (am_dB cX0_isEmpty) = true := by decide +kernel
theorem am_k2 : am_c2.all (am_dB cX0_forget) = true := by decide +kernel
theorem am_k3_0 : am_c3_0.all (am_dB cX0_keep) = true := by decide +kernel
theorem am_k3_1 : am_c3_1.all (am_dB cX0_keep) = true := by decide +kernel
theorem am_k3 : am_c3.all (am_dB cX0_keep) = true := am_al am_k3_0 (am_k3_1)
theorem am_k4 : am_c4.all (am_dB cX0_giveBack) = true := by decide +kernel
theorem am_k5 : am_c5.all (am_dB cX1_init) = true := by decide +kernel
theorem am_k6 : am_c6.all (am_dB cX2_init) = true := by decide +kernel
theorem am_k7 : am_c7.all (am_dB cX2_isFull) = true := by decide +kernel
theorem am_k8 : am_c8.all (am_dB cX2_add) = true := by decide +kernel
theorem am_k10 : am_c10.all (am_dB cX2_firstWrong) = true := by decide +kernel
theorem am_k11 : am_c11.all (am_dB cX2_begin) = true := by decide +kernel
theorem am_k12 : am_c12.all (am_dB cX2_hasMore) = true := by decide +kernel
theorem am_k13 : am_c13.all (am_dB cX2_signAhead) = true := by decide +kernel
theorem am_k14_0 : am_c14_0.all (am_dB cX2_readCommand) = true := by decide +kernel
theorem am_k14_1 : am_c14_1.all (am_dB cX2_readCommand) = true := by decide +kernel
theorem am_k14_2 : am_c14_2.all (am_dB cX2_readCommand) = true := by decide +kernel
theorem am_k14 : am_c14.all (am_dB cX2_readCommand) = true := am_al am_k14_0 (am_al am_k14_1 (am_k14_2))
theorem am_k15 : am_c15.all (am_dB cX2_readPile) = true := by decide +kernel
theorem am_k16 : am_c16.all (am_dB cX2_readFirst) = true := by decide +kernel
theorem am_k17 : am_c17.all (am_dB cX2_readSecond) = true := by decide +kernel
theorem am_k18 : am_c18.all (am_dB cX2_readCover) = true := by decide +kernel
theorem am_k19_0 : am_c19_0.all (am_dB cX2_readNumber) = true := by decide +kernel
theorem am_k19_1 : am_c19_1.all (am_dB cX2_readNumber) = true := by decide +kernel
theorem am_k19 : am_c19.all (am_dB cX2_readNumber) = true := am_al am_k19_0 (am_k19_1)
theorem am_k20 : am_c20.all (am_dB cX3_init) = true := by decide +kernel
theorem am_k21_0 : am_c21_0.all (am_dB cX3_clear) = true := by decide +kernel
theorem am_k21_1 : am_c21_1.all (am_dB cX3_clear) = true := by decide +kernel
theorem am_k21 : am_c21.all (am_dB cX3_clear) = true := am_al am_k21_0 (am_k21_1)
theorem am_k22_0 : am_c22_0.all (am_dB cX3_copyFrom) = true := by decide +kernel
theorem am_k22_1 : am_c22_1.all (am_dB cX3_copyFrom) = true := by decide +kernel
theorem am_k22 : am_c22.all (am_dB cX3_copyFrom) = true := am_al am_k22_0 (am_k22_1)
theorem am_k23 : am_c23.all (am_dB cX3_hasPile) = true := by decide +kernel
theorem am_k24 : am_c24.all (am_dB cX3_hasTwoPiles) = true := by decide +kernel
theorem am_k25 : am_c25.all (am_dB cX3_hasLog) = true := by decide +kernel
theorem am_k26 : am_c26.all (am_dB cX3_hasRoomForPile) = true := by decide +kernel
theorem am_k27 : am_c27.all (am_dB cX3_hasRoomForLog) = true := by decide +kernel
theorem am_k28 : am_c28.all (am_dB cX3_topOf) = true := by decide +kernel
theorem am_k29 : am_c29.all (am_dB cX3_isTop) = true := by decide +kernel
theorem am_k30 : am_c30.all (am_dB cX3_dampOfTop) = true := by decide +kernel
theorem am_k31 : am_c31.all (am_dB cX3_isCovered) = true := by decide +kernel
theorem am_k32 : am_c32.all (am_dB cX3_logsIn) = true := by decide +kernel
theorem am_k33 : am_c33.all (am_dB cX3_logsInAll) = true := by decide +kernel
theorem am_k34 : am_c34.all (am_dB cX3_dampIn) = true := by decide +kernel
theorem am_k35 : am_c35.all (am_dB cX3_dampInAll) = true := by decide +kernel
theorem am_k36 : am_c36.all (am_dB cX3_offIn) = true := by decide +kernel
theorem am_k37 : am_c37.all (am_dB cX3_offInAll) = true := by decide +kernel
theorem am_k38 : am_c38.all (am_dB cX3_greatestDepth) = true := by decide +kernel
theorem am_k39 : am_c39.all (am_dB cX3_whyNotDrawn) = true := by decide +kernel
theorem am_k40 : am_c40.all (am_dB cX3_depthOf) = true := by decide +kernel
theorem am_k41 : am_c41.all (am_dB cX3_logsUnder) = true := by decide +kernel
theorem am_k42 : am_c42.all (am_dB cX3_liesUnder) = true := by decide +kernel
theorem am_k43 : am_c43.all (am_dB cX3_comesAhead) = true := by decide +kernel
theorem am_k44 : am_c44.all (am_dB cX3_rankedFromTop) = true := by decide +kernel
theorem am_k45_0 : am_c45_0.all (am_dB cX3_firstDirectlyUnder) = true := by decide +kernel
theorem am_k45_1 : am_c45_1.all (am_dB cX3_firstDirectlyUnder) = true := by decide +kernel
theorem am_k45 : am_c45.all (am_dB cX3_firstDirectlyUnder) = true := am_al am_k45_0 (am_k45_1)
theorem am_k46 : am_c46.all (am_dB cX3_rankedByAll) = true := by decide +kernel
theorem am_k47 : am_c47.all (am_dB cX3_logsAheadOf) = true := by decide +kernel
theorem am_k48 : am_c48.all (am_dB cX3_addPile) = true := by decide +kernel
theorem am_k49 : am_c49.all (am_dB cX3_addLog) = true := by decide +kernel
theorem am_k50 : am_c50.all (am_dB cX3_comeInto) = true := by decide +kernel
theorem am_k51_0 : am_c51_0.all (am_dB cX3_joinTrees) = true := by decide +kernel
theorem am_k51_1 : am_c51_1.all (am_dB cX3_joinTrees) = true := by decide +kernel
theorem am_k51_2 : am_c51_2.all (am_dB cX3_joinTrees) = true := by decide +kernel
theorem am_k51 : am_c51.all (am_dB cX3_joinTrees) = true := am_al am_k51_0 (am_al am_k51_1 (am_k51_2))
theorem am_k52_0 : am_c52_0.all (am_dB cX3_removeLog) = true := by decide +kernel
theorem am_k52_1 : am_c52_1.all (am_dB cX3_removeLog) = true := by decide +kernel
theorem am_k52 : am_c52.all (am_dB cX3_removeLog) = true := am_al am_k52_0 (am_k52_1)
theorem am_k53 : am_c53.all (am_dB cX3_unlink) = true := by decide +kernel
theorem am_k54 : am_c54.all (am_dB cX3_takeAway) = true := by decide +kernel
theorem am_k55 : am_c55.all (am_dB cX3_burnTop) = true := by decide +kernel
theorem am_k56 : am_c56.all (am_dB cX3_drawEmpty) = true := by decide +kernel
theorem am_k57_0 : am_c57_0.all (am_dB cX3_joinPiles) = true := by decide +kernel
theorem am_k57_1 : am_c57_1.all (am_dB cX3_joinPiles) = true := by decide +kernel
theorem am_k57 : am_c57.all (am_dB cX3_joinPiles) = true := am_al am_k57_0 (am_k57_1)
theorem am_k58 : am_c58.all (am_dB cX3_changeCover) = true := by decide +kernel
theorem am_k59_0 : am_c59_0.all (am_dB cX3_letWindBlow) = true := by decide +kernel
theorem am_k59_1 : am_c59_1.all (am_dB cX3_letWindBlow) = true := by decide +kernel
theorem am_k59 : am_c59.all (am_dB cX3_letWindBlow) = true := am_al am_k59_0 (am_k59_1)
theorem am_k60_0 : am_c60_0.all (am_dB cX3_letRainFall) = true := by decide +kernel
theorem am_k60_1 : am_c60_1.all (am_dB cX3_letRainFall) = true := by decide +kernel
theorem am_k60 : am_c60.all (am_dB cX3_letRainFall) = true := am_al am_k60_0 (am_k60_1)
theorem am_k61 : am_c61.all (am_dB cX3_mendPile) = true := by decide +kernel
theorem am_k62 : am_c62.all (am_dB cX3_passNights) = true := by decide +kernel
theorem am_k63 : am_c63.all (am_dB cX3_driestToDraw) = true := by decide +kernel
theorem am_k64_0 : am_c64_0.all (am_dB cX3_obey) = true := by decide +kernel
theorem am_k64_1 : am_c64_1.all (am_dB cX3_obey) = true := by decide +kernel
theorem am_k64 : am_c64.all (am_dB cX3_obey) = true := am_al am_k64_0 (am_k64_1)
theorem am_k65_0 : am_c65_0.all (am_dB cX3_canObey) = true := by decide +kernel
theorem am_k65_1 : am_c65_1.all (am_dB cX3_canObey) = true := by decide +kernel
theorem am_k65 : am_c65.all (am_dB cX3_canObey) = true := am_al am_k65_0 (am_k65_1)
theorem am_k66_0 : am_c66_0.all (am_dB cX4_init) = true := by decide +kernel
theorem am_k66_1 : am_c66_1.all (am_dB cX4_init) = true := by decide +kernel
theorem am_k66 : am_c66.all (am_dB cX4_init) = true := am_al am_k66_0 (am_k66_1)
theorem am_k67 : am_c67.all (am_dB cX4_append) = true := by decide +kernel
theorem am_k70_0 : am_c70_0.all (am_dB cX4_load) = true := by decide +kernel
theorem am_k70_1 : am_c70_1.all (am_dB cX4_load) = true := by decide +kernel
theorem am_k70 : am_c70.all (am_dB cX4_load) = true := am_al am_k70_0 (am_k70_1)
theorem am_k71_0 : am_c71_0.all (am_dB cX4_about) = true := by decide +kernel
theorem am_k71_1 : am_c71_1.all (am_dB cX4_about) = true := by decide +kernel
theorem am_k71 : am_c71.all (am_dB cX4_about) = true := am_al am_k71_0 (am_k71_1)
theorem am_k72_0 : am_c72_0.all (am_dB cX4_pileOf) = true := by decide +kernel
theorem am_k72_1 : am_c72_1.all (am_dB cX4_pileOf) = true := by decide +kernel
theorem am_k72 : am_c72.all (am_dB cX4_pileOf) = true := am_al am_k72_0 (am_k72_1)
theorem am_k73_0 : am_c73_0.all (am_dB cX4_logOf) = true := by decide +kernel
theorem am_k73_1 : am_c73_1.all (am_dB cX4_logOf) = true := by decide +kernel
theorem am_k73 : am_c73.all (am_dB cX4_logOf) = true := am_al am_k73_0 (am_k73_1)
theorem am_k74_0 : am_c74_0.all (am_dB cX4_ranked) = true := by decide +kernel
theorem am_k74_1 : am_c74_1.all (am_dB cX4_ranked) = true := by decide +kernel
theorem am_k74 : am_c74.all (am_dB cX4_ranked) = true := am_al am_k74_0 (am_k74_1)
theorem am_k75 : am_c75.all (am_dB cX4_pile) = true := by decide +kernel
theorem am_k76 : am_c76.all (am_dB cX4_log) = true := by decide +kernel
theorem am_k77 : am_c77.all (am_dB cX4_draw) = true := by decide +kernel
theorem am_k78 : am_c78.all (am_dB cX4_take) = true := by decide +kernel
theorem am_k79 : am_c79.all (am_dB cX4_join) = true := by decide +kernel
theorem am_k80 : am_c80.all (am_dB cX4_cover) = true := by decide +kernel
theorem am_k81 : am_c81.all (am_dB cX4_wind) = true := by decide +kernel
theorem am_k82 : am_c82.all (am_dB cX4_rain) = true := by decide +kernel
theorem am_k83 : am_c83.all (am_dB cX4_mend) = true := by decide +kernel
theorem am_k84 : am_c84.all (am_dB cX4_nights) = true := by decide +kernel
theorem am_k85 : am_c85.all (am_dB cX4_set) = true := by decide +kernel
theorem am_k86 : am_c86.all (am_dB cX4_undo) = true := by decide +kernel
theorem am_k87 : am_c87.all (am_dB cX4_drawsTill) = true := by decide +kernel
theorem am_k88 : am_c88.all (am_dB cX4_ifJoined) = true := by decide +kernel
theorem am_k89 : am_c89.all (am_dB cX4_fewestLifts) = true := by decide +kernel
theorem am_k90 : am_c90.all (am_dB cX4_ifMended) = true := by decide +kernel
theorem am_k91 : am_c91.all (am_dB cX4_harmless) = true := by decide +kernel
theorem am_k92_0 : am_c92_0.all (am_dB cX4_runScript) = true := by decide +kernel
theorem am_k92_1 : am_c92_1.all (am_dB cX4_runScript) = true := by decide +kernel
theorem am_k92 : am_c92.all (am_dB cX4_runScript) = true := am_al am_k92_0 (am_k92_1)
theorem am_k93_0 : am_c93_0.all (am_dB cX4_simulate) = true := by decide +kernel
theorem am_k93_1 : am_c93_1.all (am_dB cX4_simulate) = true := by decide +kernel
theorem am_k93 : am_c93.all (am_dB cX4_simulate) = true := am_al am_k93_0 (am_k93_1)
theorem am_k94 : am_c94.all (am_dB cX4_save) = true := by decide +kernel
theorem am_k95 : am_c95.all (am_dB cX4_restore) = true := by decide +kernel
theorem am_k96 : am_c96.all (am_dB cX4_needPile) = true := by decide +kernel
theorem am_k97 : am_c97.all (am_dB cX4_needTwoPiles) = true := by decide +kernel
theorem am_k98 : am_c98.all (am_dB cX4_needLog) = true := by decide +kernel
theorem am_k99 : am_c99.all (am_dB cX4_needDamp) = true := by decide +kernel
theorem am_k100 : am_c100.all (am_dB cX4_needWeather) = true := by decide +kernel
theorem am_k101 : am_c101.all (am_dB cX4_needSlot) = true := by decide +kernel
theorem am_k102 : am_c102.all (am_dB cX4_isDamp) = true := by decide +kernel
theorem am_k103 : am_c103.all (am_dB cX4_isWeather) = true := by decide +kernel
theorem am_k104 : am_c104.all (am_dB cX4_slotOf) = true := by decide +kernel
theorem am_k105 : am_c105.all (am_dB cX4_copyOfYard) = true := by decide +kernel
theorem am_k106_0 : am_c106_0.all (am_dB cX4_fewestFrom) = true := by decide +kernel
theorem am_k106_1 : am_c106_1.all (am_dB cX4_fewestFrom) = true := by decide +kernel
theorem am_k106 : am_c106.all (am_dB cX4_fewestFrom) = true := am_al am_k106_0 (am_k106_1)
theorem am_k107 : am_c107.all (am_dB cX4_withoutGroups) = true := by decide +kernel
theorem am_k108_0 : am_c108_0.all (am_dB cX4_doGroup) = true := by decide +kernel
theorem am_k108_1 : am_c108_1.all (am_dB cX4_doGroup) = true := by decide +kernel
theorem am_k108_2 : am_c108_2.all (am_dB cX4_doGroup) = true := by decide +kernel
theorem am_k108_3 : am_c108_3.all (am_dB cX4_doGroup) = true := by decide +kernel
theorem am_k108 : am_c108.all (am_dB cX4_doGroup) = true := am_al am_k108_0 (am_al am_k108_1 (am_al am_k108_2 (am_k108_3)))
theorem am_k109 : am_c109.all (am_dB cX4_letterOfTurn) = true := by decide +kernel
theorem am_k110 : am_c110.all (am_dB cX4_firstOfTurn) = true := by decide +kernel
theorem am_k111 : am_c111.all (am_dB cX4_secondOfTurn) = true := by decide +kernel
theorem am_k112 : am_c112.all (am_dB cX4_get) = true := by decide +kernel
theorem am_k113 : am_c113.all (am_dB cX4_put) = true := by decide +kernel
theorem am_k114 : am_c114.all (am_dB cX4_fill) = true := by decide +kernel
theorem am_k115 : am_c115.all (am_dB cX4_copyRow) = true := by decide +kernel
theorem am_k116 : am_c116.all (am_dB cX4_yardAt) = true := by decide +kernel
theorem am_k117 : am_c117.all (am_dB cL_covers) = true := by decide +kernel
theorem am_k118 : am_c118.all (am_dB cL_doScript) = true := by decide +kernel
theorem am_k119 : am_c119.all (am_dB cL_doSimulate) = true := by decide +kernel
theorem am_k120 : am_c120.all (am_dB cL_tryAppend) = true := by decide +kernel
theorem am_k121 : am_c121.all (am_dB cL_tryLoad) = true := by decide +kernel
theorem am_k122 : am_c122.all (am_dB cL_tryAbout) = true := by decide +kernel
theorem am_k123 : am_c123.all (am_dB cL_tryTold) = true := by decide +kernel
theorem am_k124 : am_c124.all (am_dB cL_tryLog) = true := by decide +kernel
theorem am_k125 : am_c125.all (am_dB cL_tryRanked) = true := by decide +kernel
theorem am_k126 : am_c126.all (am_dB cL_tryPile) = true := by decide +kernel
theorem am_k127 : am_c127.all (am_dB cL_tryCome) = true := by decide +kernel
theorem am_k128 : am_c128.all (am_dB cL_tryDraw) = true := by decide +kernel
theorem am_k129 : am_c129.all (am_dB cL_tryTake) = true := by decide +kernel
theorem am_k130 : am_c130.all (am_dB cL_tryJoin) = true := by decide +kernel
theorem am_k131 : am_c131.all (am_dB cL_tryWind) = true := by decide +kernel
theorem am_k132 : am_c132.all (am_dB cL_tryRain) = true := by decide +kernel
theorem am_k133 : am_c133.all (am_dB cL_tryMend) = true := by decide +kernel
theorem am_k134 : am_c134.all (am_dB cL_tryNights) = true := by decide +kernel
theorem am_k135 : am_c135.all (am_dB cL_tryLay) = true := by decide +kernel
theorem am_k136 : am_c136.all (am_dB cL_tryUndo) = true := by decide +kernel
theorem am_k137 : am_c137.all (am_dB cL_tryTill) = true := by decide +kernel
theorem am_k138 : am_c138.all (am_dB cL_tryIf) = true := by decide +kernel
theorem am_k139 : am_c139.all (am_dB cL_tryMended) = true := by decide +kernel
theorem am_k140 : am_c140.all (am_dB cL_tryKeep) = true := by decide +kernel
theorem am_k141 : am_c141.all (am_dB cL_tryBack) = true := by decide +kernel
theorem am_k142_0 : am_c142_0.all (am_dB cL_call) = true := by decide +kernel
theorem am_k142_1 : am_c142_1.all (am_dB cL_call) = true := by decide +kernel
theorem am_k142_2 : am_c142_2.all (am_dB cL_call) = true := by decide +kernel
theorem am_k142 : am_c142.all (am_dB cL_call) = true := am_al am_k142_0 (am_al am_k142_1 (am_k142_2))
theorem am_k143 : am_c143.all (am_dB cL_cell) = true := by decide +kernel
theorem am_k144 : am_c144.all (am_dB cL_thrown) = true := by decide +kernel
theorem am_k145_0 : am_c145_0.all (am_dB cL_refuses) = true := by decide +kernel
theorem am_k145_1 : am_c145_1.all (am_dB cL_refuses) = true := by decide +kernel
theorem am_k145_2 : am_c145_2.all (am_dB cL_refuses) = true := by decide +kernel
theorem am_k145_3 : am_c145_3.all (am_dB cL_refuses) = true := by decide +kernel
theorem am_k145_4 : am_c145_4.all (am_dB cL_refuses) = true := by decide +kernel
theorem am_k145_5 : am_c145_5.all (am_dB cL_refuses) = true := by decide +kernel
theorem am_k145_6 : am_c145_6.all (am_dB cL_refuses) = true := by decide +kernel
theorem am_k145_7 : am_c145_7.all (am_dB cL_refuses) = true := by decide +kernel
theorem am_k145_8 : am_c145_8.all (am_dB cL_refuses) = true := by decide +kernel
theorem am_k145_9 : am_c145_9.all (am_dB cL_refuses) = true := by decide +kernel
theorem am_k145_10 : am_c145_10.all (am_dB cL_refuses) = true := by decide +kernel
theorem am_k145_11 : am_c145_11.all (am_dB cL_refuses) = true := by decide +kernel
theorem am_k145_12 : am_c145_12.all (am_dB cL_refuses) = true := by decide +kernel
theorem am_k145 : am_c145.all (am_dB cL_refuses) = true := am_al am_k145_0 (am_al am_k145_1 (am_al am_k145_2 (am_al am_k145_3 (am_al am_k145_4 (am_al am_k145_5 (am_al am_k145_6 (am_al am_k145_7 (am_al am_k145_8 (am_al am_k145_9 (am_al am_k145_10 (am_al am_k145_11 (am_k145_12))))))))))))
theorem am_k146 : am_c146.all (am_dB cL_ahead) = true := by decide +kernel
theorem am_k147_0 : am_c147_0.all (am_dB cL_holds) = true := by decide +kernel
theorem am_k147_1 : am_c147_1.all (am_dB cL_holds) = true := by decide +kernel
theorem am_k147_2 : am_c147_2.all (am_dB cL_holds) = true := by decide +kernel
theorem am_k147_3 : am_c147_3.all (am_dB cL_holds) = true := by decide +kernel
theorem am_k147_4 : am_c147_4.all (am_dB cL_holds) = true := by decide +kernel
theorem am_k147_5 : am_c147_5.all (am_dB cL_holds) = true := by decide +kernel
theorem am_k147_6 : am_c147_6.all (am_dB cL_holds) = true := by decide +kernel
theorem am_k147_7 : am_c147_7.all (am_dB cL_holds) = true := by decide +kernel
theorem am_k147_8 : am_c147_8.all (am_dB cL_holds) = true := by decide +kernel
theorem am_k147_9 : am_c147_9.all (am_dB cL_holds) = true := by decide +kernel
theorem am_k147_10 : am_c147_10.all (am_dB cL_holds) = true := by decide +kernel
theorem am_k147_11 : am_c147_11.all (am_dB cL_holds) = true := by decide +kernel
theorem am_k147 : am_c147.all (am_dB cL_holds) = true := am_al am_k147_0 (am_al am_k147_1 (am_al am_k147_2 (am_al am_k147_3 (am_al am_k147_4 (am_al am_k147_5 (am_al am_k147_6 (am_al am_k147_7 (am_al am_k147_8 (am_al am_k147_9 (am_al am_k147_10 (am_k147_11)))))))))))
theorem am_k148_0 : am_c148_0.all (am_dB cL_act) = true := by decide +kernel
theorem am_k148_1 : am_c148_1.all (am_dB cL_act) = true := by decide +kernel
theorem am_k148_2 : am_c148_2.all (am_dB cL_act) = true := by decide +kernel
theorem am_k148_3 : am_c148_3.all (am_dB cL_act) = true := by decide +kernel
theorem am_k148_4 : am_c148_4.all (am_dB cL_act) = true := by decide +kernel
theorem am_k148 : am_c148.all (am_dB cL_act) = true := am_al am_k148_0 (am_al am_k148_1 (am_al am_k148_2 (am_al am_k148_3 (am_k148_4))))
theorem am_k149_0 : am_c149_0.all (am_dB cL_alike) = true := by decide +kernel
theorem am_k149_1 : am_c149_1.all (am_dB cL_alike) = true := by decide +kernel
theorem am_k149_2 : am_c149_2.all (am_dB cL_alike) = true := by decide +kernel
theorem am_k149 : am_c149.all (am_dB cL_alike) = true := am_al am_k149_0 (am_al am_k149_1 (am_k149_2))
theorem am_k150_0 : am_c150_0.all (am_dB cL_draws) = true := by decide +kernel
theorem am_k150_1 : am_c150_1.all (am_dB cL_draws) = true := by decide +kernel
theorem am_k150_2 : am_c150_2.all (am_dB cL_draws) = true := by decide +kernel
theorem am_k150_3 : am_c150_3.all (am_dB cL_draws) = true := by decide +kernel
theorem am_k150_4 : am_c150_4.all (am_dB cL_draws) = true := by decide +kernel
theorem am_k150_5 : am_c150_5.all (am_dB cL_draws) = true := by decide +kernel
theorem am_k150_6 : am_c150_6.all (am_dB cL_draws) = true := by decide +kernel
theorem am_k150 : am_c150.all (am_dB cL_draws) = true := am_al am_k150_0 (am_al am_k150_1 (am_al am_k150_2 (am_al am_k150_3 (am_al am_k150_4 (am_al am_k150_5 (am_k150_6))))))
theorem am_k151_0 : am_c151_0.all (am_dB cL_joins) = true := by decide +kernel
theorem am_k151_1 : am_c151_1.all (am_dB cL_joins) = true := by decide +kernel
theorem am_k151_2 : am_c151_2.all (am_dB cL_joins) = true := by decide +kernel
theorem am_k151_3 : am_c151_3.all (am_dB cL_joins) = true := by decide +kernel
theorem am_k151_4 : am_c151_4.all (am_dB cL_joins) = true := by decide +kernel
theorem am_k151_5 : am_c151_5.all (am_dB cL_joins) = true := by decide +kernel
theorem am_k151 : am_c151.all (am_dB cL_joins) = true := am_al am_k151_0 (am_al am_k151_1 (am_al am_k151_2 (am_al am_k151_3 (am_al am_k151_4 (am_k151_5)))))
theorem am_k152_0 : am_c152_0.all (am_dB cL_rains) = true := by decide +kernel
theorem am_k152_1 : am_c152_1.all (am_dB cL_rains) = true := by decide +kernel
theorem am_k152_2 : am_c152_2.all (am_dB cL_rains) = true := by decide +kernel
theorem am_k152_3 : am_c152_3.all (am_dB cL_rains) = true := by decide +kernel
theorem am_k152 : am_c152.all (am_dB cL_rains) = true := am_al am_k152_0 (am_al am_k152_1 (am_al am_k152_2 (am_k152_3)))
theorem am_k225_0 : am_c225_0.all (am_dB code) = true := by decide +kernel
theorem am_k225_1 : am_c225_1.all (am_dB code) = true := by decide +kernel
theorem am_k225_2 : am_c225_2.all (am_dB code) = true := by decide +kernel
theorem am_k225_3 : am_c225_3.all (am_dB code) = true := by decide +kernel
theorem am_k225_4 : am_c225_4.all (am_dB code) = true := by decide +kernel
theorem am_k225 : am_c225.all (am_dB code) = true := am_al am_k225_0 (am_al am_k225_1 (am_al am_k225_2 (am_al am_k225_3 (am_k225_4))))
def am_dP (k : Nat) : Prop := (am_code k).all (am_dB (am_mt k).2.2.2.1) = true
theorem am_ka0 : ∀ k, k < 0 → am_dP k := fun k h => absurd h (Nat.not_lt_zero k)
theorem am_ka1 : ∀ k, k < 1 → am_dP k := am_fs am_ka0 am_k0
theorem am_ka2 : ∀ k, k < 2 → am_dP k := am_fs am_ka1 am_k1
theorem am_ka3 : ∀ k, k < 3 → am_dP k := am_fs am_ka2 am_k2
theorem am_ka4 : ∀ k, k < 4 → am_dP k := am_fs am_ka3 am_k3
theorem am_ka5 : ∀ k, k < 5 → am_dP k := am_fs am_ka4 am_k4
theorem am_ka6 : ∀ k, k < 6 → am_dP k := am_fs am_ka5 am_k5
theorem am_ka7 : ∀ k, k < 7 → am_dP k := am_fs am_ka6 am_k6
theorem am_ka8 : ∀ k, k < 8 → am_dP k := am_fs am_ka7 am_k7
theorem am_ka9 : ∀ k, k < 9 → am_dP k := am_fs am_ka8 am_k8
theorem am_ka10 : ∀ k, k < 10 → am_dP k := am_fs am_ka9 am_k1
theorem am_ka11 : ∀ k, k < 11 → am_dP k := am_fs am_ka10 am_k10
theorem am_ka12 : ∀ k, k < 12 → am_dP k := am_fs am_ka11 am_k11
theorem am_ka13 : ∀ k, k < 13 → am_dP k := am_fs am_ka12 am_k12
theorem am_ka14 : ∀ k, k < 14 → am_dP k := am_fs am_ka13 am_k13
theorem am_ka15 : ∀ k, k < 15 → am_dP k := am_fs am_ka14 am_k14
theorem am_ka16 : ∀ k, k < 16 → am_dP k := am_fs am_ka15 am_k15
theorem am_ka17 : ∀ k, k < 17 → am_dP k := am_fs am_ka16 am_k16
theorem am_ka18 : ∀ k, k < 18 → am_dP k := am_fs am_ka17 am_k17
theorem am_ka19 : ∀ k, k < 19 → am_dP k := am_fs am_ka18 am_k18
theorem am_ka20 : ∀ k, k < 20 → am_dP k := am_fs am_ka19 am_k19
theorem am_ka21 : ∀ k, k < 21 → am_dP k := am_fs am_ka20 am_k20
theorem am_ka22 : ∀ k, k < 22 → am_dP k := am_fs am_ka21 am_k21
theorem am_ka23 : ∀ k, k < 23 → am_dP k := am_fs am_ka22 am_k22
theorem am_ka24 : ∀ k, k < 24 → am_dP k := am_fs am_ka23 am_k23
theorem am_ka25 : ∀ k, k < 25 → am_dP k := am_fs am_ka24 am_k24
theorem am_ka26 : ∀ k, k < 26 → am_dP k := am_fs am_ka25 am_k25
theorem am_ka27 : ∀ k, k < 27 → am_dP k := am_fs am_ka26 am_k26
theorem am_ka28 : ∀ k, k < 28 → am_dP k := am_fs am_ka27 am_k27
theorem am_ka29 : ∀ k, k < 29 → am_dP k := am_fs am_ka28 am_k28
theorem am_ka30 : ∀ k, k < 30 → am_dP k := am_fs am_ka29 am_k29
theorem am_ka31 : ∀ k, k < 31 → am_dP k := am_fs am_ka30 am_k30
theorem am_ka32 : ∀ k, k < 32 → am_dP k := am_fs am_ka31 am_k31
theorem am_ka33 : ∀ k, k < 33 → am_dP k := am_fs am_ka32 am_k32
theorem am_ka34 : ∀ k, k < 34 → am_dP k := am_fs am_ka33 am_k33
theorem am_ka35 : ∀ k, k < 35 → am_dP k := am_fs am_ka34 am_k34
theorem am_ka36 : ∀ k, k < 36 → am_dP k := am_fs am_ka35 am_k35
theorem am_ka37 : ∀ k, k < 37 → am_dP k := am_fs am_ka36 am_k36
theorem am_ka38 : ∀ k, k < 38 → am_dP k := am_fs am_ka37 am_k37
theorem am_ka39 : ∀ k, k < 39 → am_dP k := am_fs am_ka38 am_k38
theorem am_ka40 : ∀ k, k < 40 → am_dP k := am_fs am_ka39 am_k39
theorem am_ka41 : ∀ k, k < 41 → am_dP k := am_fs am_ka40 am_k40
theorem am_ka42 : ∀ k, k < 42 → am_dP k := am_fs am_ka41 am_k41
theorem am_ka43 : ∀ k, k < 43 → am_dP k := am_fs am_ka42 am_k42
theorem am_ka44 : ∀ k, k < 44 → am_dP k := am_fs am_ka43 am_k43
theorem am_ka45 : ∀ k, k < 45 → am_dP k := am_fs am_ka44 am_k44
theorem am_ka46 : ∀ k, k < 46 → am_dP k := am_fs am_ka45 am_k45
theorem am_ka47 : ∀ k, k < 47 → am_dP k := am_fs am_ka46 am_k46
theorem am_ka48 : ∀ k, k < 48 → am_dP k := am_fs am_ka47 am_k47
theorem am_ka49 : ∀ k, k < 49 → am_dP k := am_fs am_ka48 am_k48
theorem am_ka50 : ∀ k, k < 50 → am_dP k := am_fs am_ka49 am_k49
theorem am_ka51 : ∀ k, k < 51 → am_dP k := am_fs am_ka50 am_k50
theorem am_ka52 : ∀ k, k < 52 → am_dP k := am_fs am_ka51 am_k51
theorem am_ka53 : ∀ k, k < 53 → am_dP k := am_fs am_ka52 am_k52
theorem am_ka54 : ∀ k, k < 54 → am_dP k := am_fs am_ka53 am_k53
theorem am_ka55 : ∀ k, k < 55 → am_dP k := am_fs am_ka54 am_k54
theorem am_ka56 : ∀ k, k < 56 → am_dP k := am_fs am_ka55 am_k55
theorem am_ka57 : ∀ k, k < 57 → am_dP k := am_fs am_ka56 am_k56
theorem am_ka58 : ∀ k, k < 58 → am_dP k := am_fs am_ka57 am_k57
theorem am_ka59 : ∀ k, k < 59 → am_dP k := am_fs am_ka58 am_k58
theorem am_ka60 : ∀ k, k < 60 → am_dP k := am_fs am_ka59 am_k59
theorem am_ka61 : ∀ k, k < 61 → am_dP k := am_fs am_ka60 am_k60
theorem am_ka62 : ∀ k, k < 62 → am_dP k := am_fs am_ka61 am_k61
theorem am_ka63 : ∀ k, k < 63 → am_dP k := am_fs am_ka62 am_k62
theorem am_ka64 : ∀ k, k < 64 → am_dP k := am_fs am_ka63 am_k63
theorem am_ka65 : ∀ k, k < 65 → am_dP k := am_fs am_ka64 am_k64
theorem am_ka66 : ∀ k, k < 66 → am_dP k := am_fs am_ka65 am_k65
theorem am_ka67 : ∀ k, k < 67 → am_dP k := am_fs am_ka66 am_k66
theorem am_ka68 : ∀ k, k < 68 → am_dP k := am_fs am_ka67 am_k67
theorem am_ka69 : ∀ k, k < 69 → am_dP k := am_fs am_ka68 am_k1
theorem am_ka70 : ∀ k, k < 70 → am_dP k := am_fs am_ka69 am_k1
theorem am_ka71 : ∀ k, k < 71 → am_dP k := am_fs am_ka70 am_k70
theorem am_ka72 : ∀ k, k < 72 → am_dP k := am_fs am_ka71 am_k71
theorem am_ka73 : ∀ k, k < 73 → am_dP k := am_fs am_ka72 am_k72
theorem am_ka74 : ∀ k, k < 74 → am_dP k := am_fs am_ka73 am_k73
theorem am_ka75 : ∀ k, k < 75 → am_dP k := am_fs am_ka74 am_k74
theorem am_ka76 : ∀ k, k < 76 → am_dP k := am_fs am_ka75 am_k75
theorem am_ka77 : ∀ k, k < 77 → am_dP k := am_fs am_ka76 am_k76
theorem am_ka78 : ∀ k, k < 78 → am_dP k := am_fs am_ka77 am_k77
theorem am_ka79 : ∀ k, k < 79 → am_dP k := am_fs am_ka78 am_k78
theorem am_ka80 : ∀ k, k < 80 → am_dP k := am_fs am_ka79 am_k79
theorem am_ka81 : ∀ k, k < 81 → am_dP k := am_fs am_ka80 am_k80
theorem am_ka82 : ∀ k, k < 82 → am_dP k := am_fs am_ka81 am_k81
theorem am_ka83 : ∀ k, k < 83 → am_dP k := am_fs am_ka82 am_k82
theorem am_ka84 : ∀ k, k < 84 → am_dP k := am_fs am_ka83 am_k83
theorem am_ka85 : ∀ k, k < 85 → am_dP k := am_fs am_ka84 am_k84
theorem am_ka86 : ∀ k, k < 86 → am_dP k := am_fs am_ka85 am_k85
theorem am_ka87 : ∀ k, k < 87 → am_dP k := am_fs am_ka86 am_k86
theorem am_ka88 : ∀ k, k < 88 → am_dP k := am_fs am_ka87 am_k87
theorem am_ka89 : ∀ k, k < 89 → am_dP k := am_fs am_ka88 am_k88
theorem am_ka90 : ∀ k, k < 90 → am_dP k := am_fs am_ka89 am_k89
theorem am_ka91 : ∀ k, k < 91 → am_dP k := am_fs am_ka90 am_k90
theorem am_ka92 : ∀ k, k < 92 → am_dP k := am_fs am_ka91 am_k91
theorem am_ka93 : ∀ k, k < 93 → am_dP k := am_fs am_ka92 am_k92
theorem am_ka94 : ∀ k, k < 94 → am_dP k := am_fs am_ka93 am_k93
theorem am_ka95 : ∀ k, k < 95 → am_dP k := am_fs am_ka94 am_k94
theorem am_ka96 : ∀ k, k < 96 → am_dP k := am_fs am_ka95 am_k95
theorem am_ka97 : ∀ k, k < 97 → am_dP k := am_fs am_ka96 am_k96
theorem am_ka98 : ∀ k, k < 98 → am_dP k := am_fs am_ka97 am_k97
theorem am_ka99 : ∀ k, k < 99 → am_dP k := am_fs am_ka98 am_k98
theorem am_ka100 : ∀ k, k < 100 → am_dP k := am_fs am_ka99 am_k99
theorem am_ka101 : ∀ k, k < 101 → am_dP k := am_fs am_ka100 am_k100
theorem am_ka102 : ∀ k, k < 102 → am_dP k := am_fs am_ka101 am_k101
theorem am_ka103 : ∀ k, k < 103 → am_dP k := am_fs am_ka102 am_k102
theorem am_ka104 : ∀ k, k < 104 → am_dP k := am_fs am_ka103 am_k103
theorem am_ka105 : ∀ k, k < 105 → am_dP k := am_fs am_ka104 am_k104
theorem am_ka106 : ∀ k, k < 106 → am_dP k := am_fs am_ka105 am_k105
theorem am_ka107 : ∀ k, k < 107 → am_dP k := am_fs am_ka106 am_k106
theorem am_ka108 : ∀ k, k < 108 → am_dP k := am_fs am_ka107 am_k107
theorem am_ka109 : ∀ k, k < 109 → am_dP k := am_fs am_ka108 am_k108
theorem am_ka110 : ∀ k, k < 110 → am_dP k := am_fs am_ka109 am_k109
theorem am_ka111 : ∀ k, k < 111 → am_dP k := am_fs am_ka110 am_k110
theorem am_ka112 : ∀ k, k < 112 → am_dP k := am_fs am_ka111 am_k111
theorem am_ka113 : ∀ k, k < 113 → am_dP k := am_fs am_ka112 am_k112
theorem am_ka114 : ∀ k, k < 114 → am_dP k := am_fs am_ka113 am_k113
theorem am_ka115 : ∀ k, k < 115 → am_dP k := am_fs am_ka114 am_k114
theorem am_ka116 : ∀ k, k < 116 → am_dP k := am_fs am_ka115 am_k115
theorem am_ka117 : ∀ k, k < 117 → am_dP k := am_fs am_ka116 am_k116
theorem am_ka118 : ∀ k, k < 118 → am_dP k := am_fs am_ka117 am_k117
theorem am_ka119 : ∀ k, k < 119 → am_dP k := am_fs am_ka118 am_k118
theorem am_ka120 : ∀ k, k < 120 → am_dP k := am_fs am_ka119 am_k119
theorem am_ka121 : ∀ k, k < 121 → am_dP k := am_fs am_ka120 am_k120
theorem am_ka122 : ∀ k, k < 122 → am_dP k := am_fs am_ka121 am_k121
theorem am_ka123 : ∀ k, k < 123 → am_dP k := am_fs am_ka122 am_k122
theorem am_ka124 : ∀ k, k < 124 → am_dP k := am_fs am_ka123 am_k123
theorem am_ka125 : ∀ k, k < 125 → am_dP k := am_fs am_ka124 am_k124
theorem am_ka126 : ∀ k, k < 126 → am_dP k := am_fs am_ka125 am_k125
theorem am_ka127 : ∀ k, k < 127 → am_dP k := am_fs am_ka126 am_k126
theorem am_ka128 : ∀ k, k < 128 → am_dP k := am_fs am_ka127 am_k127
theorem am_ka129 : ∀ k, k < 129 → am_dP k := am_fs am_ka128 am_k128
theorem am_ka130 : ∀ k, k < 130 → am_dP k := am_fs am_ka129 am_k129
theorem am_ka131 : ∀ k, k < 131 → am_dP k := am_fs am_ka130 am_k130
theorem am_ka132 : ∀ k, k < 132 → am_dP k := am_fs am_ka131 am_k131
theorem am_ka133 : ∀ k, k < 133 → am_dP k := am_fs am_ka132 am_k132
theorem am_ka134 : ∀ k, k < 134 → am_dP k := am_fs am_ka133 am_k133
theorem am_ka135 : ∀ k, k < 135 → am_dP k := am_fs am_ka134 am_k134
theorem am_ka136 : ∀ k, k < 136 → am_dP k := am_fs am_ka135 am_k135
theorem am_ka137 : ∀ k, k < 137 → am_dP k := am_fs am_ka136 am_k136
theorem am_ka138 : ∀ k, k < 138 → am_dP k := am_fs am_ka137 am_k137
theorem am_ka139 : ∀ k, k < 139 → am_dP k := am_fs am_ka138 am_k138
theorem am_ka140 : ∀ k, k < 140 → am_dP k := am_fs am_ka139 am_k139
theorem am_ka141 : ∀ k, k < 141 → am_dP k := am_fs am_ka140 am_k140
theorem am_ka142 : ∀ k, k < 142 → am_dP k := am_fs am_ka141 am_k141
theorem am_ka143 : ∀ k, k < 143 → am_dP k := am_fs am_ka142 am_k142
theorem am_ka144 : ∀ k, k < 144 → am_dP k := am_fs am_ka143 am_k143
theorem am_ka145 : ∀ k, k < 145 → am_dP k := am_fs am_ka144 am_k144
theorem am_ka146 : ∀ k, k < 146 → am_dP k := am_fs am_ka145 am_k145
theorem am_ka147 : ∀ k, k < 147 → am_dP k := am_fs am_ka146 am_k146
theorem am_ka148 : ∀ k, k < 148 → am_dP k := am_fs am_ka147 am_k147
theorem am_ka149 : ∀ k, k < 149 → am_dP k := am_fs am_ka148 am_k148
theorem am_ka150 : ∀ k, k < 150 → am_dP k := am_fs am_ka149 am_k149
theorem am_ka151 : ∀ k, k < 151 → am_dP k := am_fs am_ka150 am_k150
theorem am_ka152 : ∀ k, k < 152 → am_dP k := am_fs am_ka151 am_k151
theorem am_ka153 : ∀ k, k < 153 → am_dP k := am_fs am_ka152 am_k152
theorem am_ka154 : ∀ k, k < 154 → am_dP k := am_fs am_ka153 am_k1
theorem am_ka155 : ∀ k, k < 155 → am_dP k := am_fs am_ka154 am_k1
theorem am_ka156 : ∀ k, k < 156 → am_dP k := am_fs am_ka155 am_k1
theorem am_ka157 : ∀ k, k < 157 → am_dP k := am_fs am_ka156 am_k1
theorem am_ka158 : ∀ k, k < 158 → am_dP k := am_fs am_ka157 am_k1
theorem am_ka159 : ∀ k, k < 159 → am_dP k := am_fs am_ka158 am_k1
theorem am_ka160 : ∀ k, k < 160 → am_dP k := am_fs am_ka159 am_k1
theorem am_ka161 : ∀ k, k < 161 → am_dP k := am_fs am_ka160 am_k1
theorem am_ka162 : ∀ k, k < 162 → am_dP k := am_fs am_ka161 am_k1
theorem am_ka163 : ∀ k, k < 163 → am_dP k := am_fs am_ka162 am_k1
theorem am_ka164 : ∀ k, k < 164 → am_dP k := am_fs am_ka163 am_k1
theorem am_ka165 : ∀ k, k < 165 → am_dP k := am_fs am_ka164 am_k1
theorem am_ka166 : ∀ k, k < 166 → am_dP k := am_fs am_ka165 am_k1
theorem am_ka167 : ∀ k, k < 167 → am_dP k := am_fs am_ka166 am_k1
theorem am_ka168 : ∀ k, k < 168 → am_dP k := am_fs am_ka167 am_k1
theorem am_ka169 : ∀ k, k < 169 → am_dP k := am_fs am_ka168 am_k1
theorem am_ka170 : ∀ k, k < 170 → am_dP k := am_fs am_ka169 am_k1
theorem am_ka171 : ∀ k, k < 171 → am_dP k := am_fs am_ka170 am_k1
theorem am_ka172 : ∀ k, k < 172 → am_dP k := am_fs am_ka171 am_k1
theorem am_ka173 : ∀ k, k < 173 → am_dP k := am_fs am_ka172 am_k1
theorem am_ka174 : ∀ k, k < 174 → am_dP k := am_fs am_ka173 am_k1
theorem am_ka175 : ∀ k, k < 175 → am_dP k := am_fs am_ka174 am_k1
theorem am_ka176 : ∀ k, k < 176 → am_dP k := am_fs am_ka175 am_k1
theorem am_ka177 : ∀ k, k < 177 → am_dP k := am_fs am_ka176 am_k1
theorem am_ka178 : ∀ k, k < 178 → am_dP k := am_fs am_ka177 am_k1
theorem am_ka179 : ∀ k, k < 179 → am_dP k := am_fs am_ka178 am_k1
theorem am_ka180 : ∀ k, k < 180 → am_dP k := am_fs am_ka179 am_k1
theorem am_ka181 : ∀ k, k < 181 → am_dP k := am_fs am_ka180 am_k1
theorem am_ka182 : ∀ k, k < 182 → am_dP k := am_fs am_ka181 am_k1
theorem am_ka183 : ∀ k, k < 183 → am_dP k := am_fs am_ka182 am_k1
theorem am_ka184 : ∀ k, k < 184 → am_dP k := am_fs am_ka183 am_k1
theorem am_ka185 : ∀ k, k < 185 → am_dP k := am_fs am_ka184 am_k1
theorem am_ka186 : ∀ k, k < 186 → am_dP k := am_fs am_ka185 am_k1
theorem am_ka187 : ∀ k, k < 187 → am_dP k := am_fs am_ka186 am_k1
theorem am_ka188 : ∀ k, k < 188 → am_dP k := am_fs am_ka187 am_k1
theorem am_ka189 : ∀ k, k < 189 → am_dP k := am_fs am_ka188 am_k1
theorem am_ka190 : ∀ k, k < 190 → am_dP k := am_fs am_ka189 am_k1
theorem am_ka191 : ∀ k, k < 191 → am_dP k := am_fs am_ka190 am_k1
theorem am_ka192 : ∀ k, k < 192 → am_dP k := am_fs am_ka191 am_k1
theorem am_ka193 : ∀ k, k < 193 → am_dP k := am_fs am_ka192 am_k1
theorem am_ka194 : ∀ k, k < 194 → am_dP k := am_fs am_ka193 am_k1
theorem am_ka195 : ∀ k, k < 195 → am_dP k := am_fs am_ka194 am_k1
theorem am_ka196 : ∀ k, k < 196 → am_dP k := am_fs am_ka195 am_k1
theorem am_ka197 : ∀ k, k < 197 → am_dP k := am_fs am_ka196 am_k1
theorem am_ka198 : ∀ k, k < 198 → am_dP k := am_fs am_ka197 am_k1
theorem am_ka199 : ∀ k, k < 199 → am_dP k := am_fs am_ka198 am_k1
theorem am_ka200 : ∀ k, k < 200 → am_dP k := am_fs am_ka199 am_k1
theorem am_ka201 : ∀ k, k < 201 → am_dP k := am_fs am_ka200 am_k1
theorem am_ka202 : ∀ k, k < 202 → am_dP k := am_fs am_ka201 am_k1
theorem am_ka203 : ∀ k, k < 203 → am_dP k := am_fs am_ka202 am_k1
theorem am_ka204 : ∀ k, k < 204 → am_dP k := am_fs am_ka203 am_k1
theorem am_ka205 : ∀ k, k < 205 → am_dP k := am_fs am_ka204 am_k1
theorem am_ka206 : ∀ k, k < 206 → am_dP k := am_fs am_ka205 am_k1
theorem am_ka207 : ∀ k, k < 207 → am_dP k := am_fs am_ka206 am_k1
theorem am_ka208 : ∀ k, k < 208 → am_dP k := am_fs am_ka207 am_k1
theorem am_ka209 : ∀ k, k < 209 → am_dP k := am_fs am_ka208 am_k1
theorem am_ka210 : ∀ k, k < 210 → am_dP k := am_fs am_ka209 am_k1
theorem am_ka211 : ∀ k, k < 211 → am_dP k := am_fs am_ka210 am_k1
theorem am_ka212 : ∀ k, k < 212 → am_dP k := am_fs am_ka211 am_k1
theorem am_ka213 : ∀ k, k < 213 → am_dP k := am_fs am_ka212 am_k1
theorem am_ka214 : ∀ k, k < 214 → am_dP k := am_fs am_ka213 am_k1
theorem am_ka215 : ∀ k, k < 215 → am_dP k := am_fs am_ka214 am_k1
theorem am_ka216 : ∀ k, k < 216 → am_dP k := am_fs am_ka215 am_k1
theorem am_ka217 : ∀ k, k < 217 → am_dP k := am_fs am_ka216 am_k1
theorem am_ka218 : ∀ k, k < 218 → am_dP k := am_fs am_ka217 am_k1
theorem am_ka219 : ∀ k, k < 219 → am_dP k := am_fs am_ka218 am_k1
theorem am_ka220 : ∀ k, k < 220 → am_dP k := am_fs am_ka219 am_k1
theorem am_ka221 : ∀ k, k < 221 → am_dP k := am_fs am_ka220 am_k1
theorem am_ka222 : ∀ k, k < 222 → am_dP k := am_fs am_ka221 am_k1
theorem am_ka223 : ∀ k, k < 223 → am_dP k := am_fs am_ka222 am_k1
theorem am_ka224 : ∀ k, k < 224 → am_dP k := am_fs am_ka223 am_k1
theorem am_ka225 : ∀ k, k < 225 → am_dP k := am_fs am_ka224 am_k1
theorem am_ka226 : ∀ k, k < 226 → am_dP k := am_fs am_ka225 am_k225
theorem am_ka227 : ∀ k, k < 227 → am_dP k := am_fs am_ka226 am_k106
theorem am_ka228 : ∀ k, k < 228 → am_dP k := am_fs am_ka227 am_k106
theorem am_ka229 : ∀ k, k < 229 → am_dP k := am_fs am_ka228 am_k106
theorem am_code_ok (k : Nat) (h : k < 229) : (am_code k).all (am_dB (am_mt k).2.2.2.1) = true := am_ka229 k h
def am_cw (t : Nat) : Cond := match (am_mt t).2.2.2.2.2.2.1 with
  | [] => .code (am_mt t).2.2.1 (am_mt t).2.2.2.1 (am_mt t).2.2.2.2.1 (am_mt t).2.2.2.2.2.1
  | hh => .codeWith (am_mt t).2.2.1 (am_mt t).2.2.2.1 (am_mt t).2.2.2.2.1 (am_mt t).2.2.2.2.2.1 hh
def am_cP (k : Nat) : Prop := k = 225 ∨ lw_tbl[(am_mp k).1]? = some (am_cw k)
theorem am_kb0 : ∀ k, k < 0 → am_cP k := fun k h => absurd h (Nat.not_lt_zero k)
set_option maxRecDepth 100000 in
theorem am_kb1 : ∀ k, k < 1 → am_cP k := am_fs am_kb0 (Or.inr rfl)
set_option maxRecDepth 100000 in
theorem am_kb2 : ∀ k, k < 2 → am_cP k := am_fs am_kb1 (Or.inr rfl)
set_option maxRecDepth 100000 in
theorem am_kb3 : ∀ k, k < 3 → am_cP k := am_fs am_kb2 (Or.inr rfl)
set_option maxRecDepth 100000 in
theorem am_kb4 : ∀ k, k < 4 → am_cP k := am_fs am_kb3 (Or.inr rfl)
set_option maxRecDepth 100000 in
theorem am_kb5 : ∀ k, k < 5 → am_cP k := am_fs am_kb4 (Or.inr rfl)
set_option maxRecDepth 100000 in
theorem am_kb6 : ∀ k, k < 6 → am_cP k := am_fs am_kb5 (Or.inr rfl)
set_option maxRecDepth 100000 in
theorem am_kb7 : ∀ k, k < 7 → am_cP k := am_fs am_kb6 (Or.inr rfl)
set_option maxRecDepth 100000 in
theorem am_kb8 : ∀ k, k < 8 → am_cP k := am_fs am_kb7 (Or.inr rfl)
set_option maxRecDepth 100000 in
theorem am_kb9 : ∀ k, k < 9 → am_cP k := am_fs am_kb8 (Or.inr rfl)
set_option maxRecDepth 100000 in
theorem am_kb10 : ∀ k, k < 10 → am_cP k := am_fs am_kb9 (Or.inr rfl)
set_option maxRecDepth 100000 in
theorem am_kb11 : ∀ k, k < 11 → am_cP k := am_fs am_kb10 (Or.inr rfl)
set_option maxRecDepth 100000 in
theorem am_kb12 : ∀ k, k < 12 → am_cP k := am_fs am_kb11 (Or.inr rfl)
set_option maxRecDepth 100000 in
theorem am_kb13 : ∀ k, k < 13 → am_cP k := am_fs am_kb12 (Or.inr rfl)
set_option maxRecDepth 100000 in
theorem am_kb14 : ∀ k, k < 14 → am_cP k := am_fs am_kb13 (Or.inr rfl)
set_option maxRecDepth 100000 in
theorem am_kb15 : ∀ k, k < 15 → am_cP k := am_fs am_kb14 (Or.inr rfl)
set_option maxRecDepth 100000 in
theorem am_kb16 : ∀ k, k < 16 → am_cP k := am_fs am_kb15 (Or.inr rfl)
set_option maxRecDepth 100000 in
theorem am_kb17 : ∀ k, k < 17 → am_cP k := am_fs am_kb16 (Or.inr rfl)
set_option maxRecDepth 100000 in
theorem am_kb18 : ∀ k, k < 18 → am_cP k := am_fs am_kb17 (Or.inr rfl)
set_option maxRecDepth 100000 in
theorem am_kb19 : ∀ k, k < 19 → am_cP k := am_fs am_kb18 (Or.inr rfl)
set_option maxRecDepth 100000 in
theorem am_kb20 : ∀ k, k < 20 → am_cP k := am_fs am_kb19 (Or.inr rfl)
set_option maxRecDepth 100000 in
theorem am_kb21 : ∀ k, k < 21 → am_cP k := am_fs am_kb20 (Or.inr rfl)
set_option maxRecDepth 100000 in
theorem am_kb22 : ∀ k, k < 22 → am_cP k := am_fs am_kb21 (Or.inr rfl)
set_option maxRecDepth 100000 in
theorem am_kb23 : ∀ k, k < 23 → am_cP k := am_fs am_kb22 (Or.inr rfl)
set_option maxRecDepth 100000 in
theorem am_kb24 : ∀ k, k < 24 → am_cP k := am_fs am_kb23 (Or.inr rfl)
set_option maxRecDepth 100000 in
theorem am_kb25 : ∀ k, k < 25 → am_cP k := am_fs am_kb24 (Or.inr rfl)
set_option maxRecDepth 100000 in
theorem am_kb26 : ∀ k, k < 26 → am_cP k := am_fs am_kb25 (Or.inr rfl)
set_option maxRecDepth 100000 in
theorem am_kb27 : ∀ k, k < 27 → am_cP k := am_fs am_kb26 (Or.inr rfl)
set_option maxRecDepth 100000 in
theorem am_kb28 : ∀ k, k < 28 → am_cP k := am_fs am_kb27 (Or.inr rfl)
set_option maxRecDepth 100000 in
theorem am_kb29 : ∀ k, k < 29 → am_cP k := am_fs am_kb28 (Or.inr rfl)
set_option maxRecDepth 100000 in
theorem am_kb30 : ∀ k, k < 30 → am_cP k := am_fs am_kb29 (Or.inr rfl)
set_option maxRecDepth 100000 in
theorem am_kb31 : ∀ k, k < 31 → am_cP k := am_fs am_kb30 (Or.inr rfl)
set_option maxRecDepth 100000 in
theorem am_kb32 : ∀ k, k < 32 → am_cP k := am_fs am_kb31 (Or.inr rfl)
set_option maxRecDepth 100000 in
theorem am_kb33 : ∀ k, k < 33 → am_cP k := am_fs am_kb32 (Or.inr rfl)
set_option maxRecDepth 100000 in
theorem am_kb34 : ∀ k, k < 34 → am_cP k := am_fs am_kb33 (Or.inr rfl)
set_option maxRecDepth 100000 in
theorem am_kb35 : ∀ k, k < 35 → am_cP k := am_fs am_kb34 (Or.inr rfl)
set_option maxRecDepth 100000 in
theorem am_kb36 : ∀ k, k < 36 → am_cP k := am_fs am_kb35 (Or.inr rfl)
set_option maxRecDepth 100000 in
theorem am_kb37 : ∀ k, k < 37 → am_cP k := am_fs am_kb36 (Or.inr rfl)
set_option maxRecDepth 100000 in
theorem am_kb38 : ∀ k, k < 38 → am_cP k := am_fs am_kb37 (Or.inr rfl)
set_option maxRecDepth 100000 in
theorem am_kb39 : ∀ k, k < 39 → am_cP k := am_fs am_kb38 (Or.inr rfl)
set_option maxRecDepth 100000 in
theorem am_kb40 : ∀ k, k < 40 → am_cP k := am_fs am_kb39 (Or.inr rfl)
set_option maxRecDepth 100000 in
theorem am_kb41 : ∀ k, k < 41 → am_cP k := am_fs am_kb40 (Or.inr rfl)
set_option maxRecDepth 100000 in
theorem am_kb42 : ∀ k, k < 42 → am_cP k := am_fs am_kb41 (Or.inr rfl)
set_option maxRecDepth 100000 in
theorem am_kb43 : ∀ k, k < 43 → am_cP k := am_fs am_kb42 (Or.inr rfl)
set_option maxRecDepth 100000 in
theorem am_kb44 : ∀ k, k < 44 → am_cP k := am_fs am_kb43 (Or.inr rfl)
set_option maxRecDepth 100000 in
theorem am_kb45 : ∀ k, k < 45 → am_cP k := am_fs am_kb44 (Or.inr rfl)
set_option maxRecDepth 100000 in
theorem am_kb46 : ∀ k, k < 46 → am_cP k := am_fs am_kb45 (Or.inr rfl)
set_option maxRecDepth 100000 in
theorem am_kb47 : ∀ k, k < 47 → am_cP k := am_fs am_kb46 (Or.inr rfl)
set_option maxRecDepth 100000 in
theorem am_kb48 : ∀ k, k < 48 → am_cP k := am_fs am_kb47 (Or.inr rfl)
set_option maxRecDepth 100000 in
theorem am_kb49 : ∀ k, k < 49 → am_cP k := am_fs am_kb48 (Or.inr rfl)
set_option maxRecDepth 100000 in
theorem am_kb50 : ∀ k, k < 50 → am_cP k := am_fs am_kb49 (Or.inr rfl)
set_option maxRecDepth 100000 in
theorem am_kb51 : ∀ k, k < 51 → am_cP k := am_fs am_kb50 (Or.inr rfl)
set_option maxRecDepth 100000 in
theorem am_kb52 : ∀ k, k < 52 → am_cP k := am_fs am_kb51 (Or.inr rfl)
set_option maxRecDepth 100000 in
theorem am_kb53 : ∀ k, k < 53 → am_cP k := am_fs am_kb52 (Or.inr rfl)
set_option maxRecDepth 100000 in
theorem am_kb54 : ∀ k, k < 54 → am_cP k := am_fs am_kb53 (Or.inr rfl)
set_option maxRecDepth 100000 in
theorem am_kb55 : ∀ k, k < 55 → am_cP k := am_fs am_kb54 (Or.inr rfl)
set_option maxRecDepth 100000 in
theorem am_kb56 : ∀ k, k < 56 → am_cP k := am_fs am_kb55 (Or.inr rfl)
set_option maxRecDepth 100000 in
theorem am_kb57 : ∀ k, k < 57 → am_cP k := am_fs am_kb56 (Or.inr rfl)
set_option maxRecDepth 100000 in
theorem am_kb58 : ∀ k, k < 58 → am_cP k := am_fs am_kb57 (Or.inr rfl)
set_option maxRecDepth 100000 in
theorem am_kb59 : ∀ k, k < 59 → am_cP k := am_fs am_kb58 (Or.inr rfl)
set_option maxRecDepth 100000 in
theorem am_kb60 : ∀ k, k < 60 → am_cP k := am_fs am_kb59 (Or.inr rfl)
set_option maxRecDepth 100000 in
theorem am_kb61 : ∀ k, k < 61 → am_cP k := am_fs am_kb60 (Or.inr rfl)
set_option maxRecDepth 100000 in
theorem am_kb62 : ∀ k, k < 62 → am_cP k := am_fs am_kb61 (Or.inr rfl)
set_option maxRecDepth 100000 in
theorem am_kb63 : ∀ k, k < 63 → am_cP k := am_fs am_kb62 (Or.inr rfl)
set_option maxRecDepth 100000 in
theorem am_kb64 : ∀ k, k < 64 → am_cP k := am_fs am_kb63 (Or.inr rfl)
set_option maxRecDepth 100000 in
theorem am_kb65 : ∀ k, k < 65 → am_cP k := am_fs am_kb64 (Or.inr rfl)
set_option maxRecDepth 100000 in
theorem am_kb66 : ∀ k, k < 66 → am_cP k := am_fs am_kb65 (Or.inr rfl)
set_option maxRecDepth 100000 in
theorem am_kb67 : ∀ k, k < 67 → am_cP k := am_fs am_kb66 (Or.inr rfl)
set_option maxRecDepth 100000 in
theorem am_kb68 : ∀ k, k < 68 → am_cP k := am_fs am_kb67 (Or.inr rfl)
set_option maxRecDepth 100000 in
theorem am_kb69 : ∀ k, k < 69 → am_cP k := am_fs am_kb68 (Or.inr rfl)
set_option maxRecDepth 100000 in
theorem am_kb70 : ∀ k, k < 70 → am_cP k := am_fs am_kb69 (Or.inr rfl)
set_option maxRecDepth 100000 in
theorem am_kb71 : ∀ k, k < 71 → am_cP k := am_fs am_kb70 (Or.inr rfl)
set_option maxRecDepth 100000 in
theorem am_kb72 : ∀ k, k < 72 → am_cP k := am_fs am_kb71 (Or.inr rfl)
set_option maxRecDepth 100000 in
theorem am_kb73 : ∀ k, k < 73 → am_cP k := am_fs am_kb72 (Or.inr rfl)
set_option maxRecDepth 100000 in
theorem am_kb74 : ∀ k, k < 74 → am_cP k := am_fs am_kb73 (Or.inr rfl)
set_option maxRecDepth 100000 in
theorem am_kb75 : ∀ k, k < 75 → am_cP k := am_fs am_kb74 (Or.inr rfl)
set_option maxRecDepth 100000 in
theorem am_kb76 : ∀ k, k < 76 → am_cP k := am_fs am_kb75 (Or.inr rfl)
set_option maxRecDepth 100000 in
theorem am_kb77 : ∀ k, k < 77 → am_cP k := am_fs am_kb76 (Or.inr rfl)
set_option maxRecDepth 100000 in
theorem am_kb78 : ∀ k, k < 78 → am_cP k := am_fs am_kb77 (Or.inr rfl)
set_option maxRecDepth 100000 in
theorem am_kb79 : ∀ k, k < 79 → am_cP k := am_fs am_kb78 (Or.inr rfl)
set_option maxRecDepth 100000 in
theorem am_kb80 : ∀ k, k < 80 → am_cP k := am_fs am_kb79 (Or.inr rfl)
set_option maxRecDepth 100000 in
theorem am_kb81 : ∀ k, k < 81 → am_cP k := am_fs am_kb80 (Or.inr rfl)
set_option maxRecDepth 100000 in
theorem am_kb82 : ∀ k, k < 82 → am_cP k := am_fs am_kb81 (Or.inr rfl)
set_option maxRecDepth 100000 in
theorem am_kb83 : ∀ k, k < 83 → am_cP k := am_fs am_kb82 (Or.inr rfl)
set_option maxRecDepth 100000 in
theorem am_kb84 : ∀ k, k < 84 → am_cP k := am_fs am_kb83 (Or.inr rfl)
set_option maxRecDepth 100000 in
theorem am_kb85 : ∀ k, k < 85 → am_cP k := am_fs am_kb84 (Or.inr rfl)
set_option maxRecDepth 100000 in
theorem am_kb86 : ∀ k, k < 86 → am_cP k := am_fs am_kb85 (Or.inr rfl)
set_option maxRecDepth 100000 in
theorem am_kb87 : ∀ k, k < 87 → am_cP k := am_fs am_kb86 (Or.inr rfl)
set_option maxRecDepth 100000 in
theorem am_kb88 : ∀ k, k < 88 → am_cP k := am_fs am_kb87 (Or.inr rfl)
set_option maxRecDepth 100000 in
theorem am_kb89 : ∀ k, k < 89 → am_cP k := am_fs am_kb88 (Or.inr rfl)
set_option maxRecDepth 100000 in
theorem am_kb90 : ∀ k, k < 90 → am_cP k := am_fs am_kb89 (Or.inr rfl)
set_option maxRecDepth 100000 in
theorem am_kb91 : ∀ k, k < 91 → am_cP k := am_fs am_kb90 (Or.inr rfl)
set_option maxRecDepth 100000 in
theorem am_kb92 : ∀ k, k < 92 → am_cP k := am_fs am_kb91 (Or.inr rfl)
set_option maxRecDepth 100000 in
theorem am_kb93 : ∀ k, k < 93 → am_cP k := am_fs am_kb92 (Or.inr rfl)
set_option maxRecDepth 100000 in
theorem am_kb94 : ∀ k, k < 94 → am_cP k := am_fs am_kb93 (Or.inr rfl)
set_option maxRecDepth 100000 in
theorem am_kb95 : ∀ k, k < 95 → am_cP k := am_fs am_kb94 (Or.inr rfl)
set_option maxRecDepth 100000 in
theorem am_kb96 : ∀ k, k < 96 → am_cP k := am_fs am_kb95 (Or.inr rfl)
set_option maxRecDepth 100000 in
theorem am_kb97 : ∀ k, k < 97 → am_cP k := am_fs am_kb96 (Or.inr rfl)
set_option maxRecDepth 100000 in
theorem am_kb98 : ∀ k, k < 98 → am_cP k := am_fs am_kb97 (Or.inr rfl)
set_option maxRecDepth 100000 in
theorem am_kb99 : ∀ k, k < 99 → am_cP k := am_fs am_kb98 (Or.inr rfl)
set_option maxRecDepth 100000 in
theorem am_kb100 : ∀ k, k < 100 → am_cP k := am_fs am_kb99 (Or.inr rfl)
set_option maxRecDepth 100000 in
theorem am_kb101 : ∀ k, k < 101 → am_cP k := am_fs am_kb100 (Or.inr rfl)
set_option maxRecDepth 100000 in
theorem am_kb102 : ∀ k, k < 102 → am_cP k := am_fs am_kb101 (Or.inr rfl)
set_option maxRecDepth 100000 in
theorem am_kb103 : ∀ k, k < 103 → am_cP k := am_fs am_kb102 (Or.inr rfl)
set_option maxRecDepth 100000 in
theorem am_kb104 : ∀ k, k < 104 → am_cP k := am_fs am_kb103 (Or.inr rfl)
set_option maxRecDepth 100000 in
theorem am_kb105 : ∀ k, k < 105 → am_cP k := am_fs am_kb104 (Or.inr rfl)
set_option maxRecDepth 100000 in
theorem am_kb106 : ∀ k, k < 106 → am_cP k := am_fs am_kb105 (Or.inr rfl)
set_option maxRecDepth 100000 in
theorem am_kb107 : ∀ k, k < 107 → am_cP k := am_fs am_kb106 (Or.inr rfl)
set_option maxRecDepth 100000 in
theorem am_kb108 : ∀ k, k < 108 → am_cP k := am_fs am_kb107 (Or.inr rfl)
set_option maxRecDepth 100000 in
theorem am_kb109 : ∀ k, k < 109 → am_cP k := am_fs am_kb108 (Or.inr rfl)
set_option maxRecDepth 100000 in
theorem am_kb110 : ∀ k, k < 110 → am_cP k := am_fs am_kb109 (Or.inr rfl)
set_option maxRecDepth 100000 in
theorem am_kb111 : ∀ k, k < 111 → am_cP k := am_fs am_kb110 (Or.inr rfl)
set_option maxRecDepth 100000 in
theorem am_kb112 : ∀ k, k < 112 → am_cP k := am_fs am_kb111 (Or.inr rfl)
set_option maxRecDepth 100000 in
theorem am_kb113 : ∀ k, k < 113 → am_cP k := am_fs am_kb112 (Or.inr rfl)
set_option maxRecDepth 100000 in
theorem am_kb114 : ∀ k, k < 114 → am_cP k := am_fs am_kb113 (Or.inr rfl)
set_option maxRecDepth 100000 in
theorem am_kb115 : ∀ k, k < 115 → am_cP k := am_fs am_kb114 (Or.inr rfl)
set_option maxRecDepth 100000 in
theorem am_kb116 : ∀ k, k < 116 → am_cP k := am_fs am_kb115 (Or.inr rfl)
set_option maxRecDepth 100000 in
theorem am_kb117 : ∀ k, k < 117 → am_cP k := am_fs am_kb116 (Or.inr rfl)
set_option maxRecDepth 100000 in
theorem am_kb118 : ∀ k, k < 118 → am_cP k := am_fs am_kb117 (Or.inr rfl)
set_option maxRecDepth 100000 in
theorem am_kb119 : ∀ k, k < 119 → am_cP k := am_fs am_kb118 (Or.inr rfl)
set_option maxRecDepth 100000 in
theorem am_kb120 : ∀ k, k < 120 → am_cP k := am_fs am_kb119 (Or.inr rfl)
set_option maxRecDepth 100000 in
theorem am_kb121 : ∀ k, k < 121 → am_cP k := am_fs am_kb120 (Or.inr rfl)
set_option maxRecDepth 100000 in
theorem am_kb122 : ∀ k, k < 122 → am_cP k := am_fs am_kb121 (Or.inr rfl)
set_option maxRecDepth 100000 in
theorem am_kb123 : ∀ k, k < 123 → am_cP k := am_fs am_kb122 (Or.inr rfl)
set_option maxRecDepth 100000 in
theorem am_kb124 : ∀ k, k < 124 → am_cP k := am_fs am_kb123 (Or.inr rfl)
set_option maxRecDepth 100000 in
theorem am_kb125 : ∀ k, k < 125 → am_cP k := am_fs am_kb124 (Or.inr rfl)
set_option maxRecDepth 100000 in
theorem am_kb126 : ∀ k, k < 126 → am_cP k := am_fs am_kb125 (Or.inr rfl)
set_option maxRecDepth 100000 in
theorem am_kb127 : ∀ k, k < 127 → am_cP k := am_fs am_kb126 (Or.inr rfl)
set_option maxRecDepth 100000 in
theorem am_kb128 : ∀ k, k < 128 → am_cP k := am_fs am_kb127 (Or.inr rfl)
set_option maxRecDepth 100000 in
theorem am_kb129 : ∀ k, k < 129 → am_cP k := am_fs am_kb128 (Or.inr rfl)
set_option maxRecDepth 100000 in
theorem am_kb130 : ∀ k, k < 130 → am_cP k := am_fs am_kb129 (Or.inr rfl)
set_option maxRecDepth 100000 in
theorem am_kb131 : ∀ k, k < 131 → am_cP k := am_fs am_kb130 (Or.inr rfl)
set_option maxRecDepth 100000 in
theorem am_kb132 : ∀ k, k < 132 → am_cP k := am_fs am_kb131 (Or.inr rfl)
set_option maxRecDepth 100000 in
theorem am_kb133 : ∀ k, k < 133 → am_cP k := am_fs am_kb132 (Or.inr rfl)
set_option maxRecDepth 100000 in
theorem am_kb134 : ∀ k, k < 134 → am_cP k := am_fs am_kb133 (Or.inr rfl)
set_option maxRecDepth 100000 in
theorem am_kb135 : ∀ k, k < 135 → am_cP k := am_fs am_kb134 (Or.inr rfl)
set_option maxRecDepth 100000 in
theorem am_kb136 : ∀ k, k < 136 → am_cP k := am_fs am_kb135 (Or.inr rfl)
set_option maxRecDepth 100000 in
theorem am_kb137 : ∀ k, k < 137 → am_cP k := am_fs am_kb136 (Or.inr rfl)
set_option maxRecDepth 100000 in
theorem am_kb138 : ∀ k, k < 138 → am_cP k := am_fs am_kb137 (Or.inr rfl)
set_option maxRecDepth 100000 in
theorem am_kb139 : ∀ k, k < 139 → am_cP k := am_fs am_kb138 (Or.inr rfl)
set_option maxRecDepth 100000 in
theorem am_kb140 : ∀ k, k < 140 → am_cP k := am_fs am_kb139 (Or.inr rfl)
set_option maxRecDepth 100000 in
theorem am_kb141 : ∀ k, k < 141 → am_cP k := am_fs am_kb140 (Or.inr rfl)
set_option maxRecDepth 100000 in
theorem am_kb142 : ∀ k, k < 142 → am_cP k := am_fs am_kb141 (Or.inr rfl)
set_option maxRecDepth 100000 in
theorem am_kb143 : ∀ k, k < 143 → am_cP k := am_fs am_kb142 (Or.inr rfl)
set_option maxRecDepth 100000 in
theorem am_kb144 : ∀ k, k < 144 → am_cP k := am_fs am_kb143 (Or.inr rfl)
set_option maxRecDepth 100000 in
theorem am_kb145 : ∀ k, k < 145 → am_cP k := am_fs am_kb144 (Or.inr rfl)
set_option maxRecDepth 100000 in
theorem am_kb146 : ∀ k, k < 146 → am_cP k := am_fs am_kb145 (Or.inr rfl)
set_option maxRecDepth 100000 in
theorem am_kb147 : ∀ k, k < 147 → am_cP k := am_fs am_kb146 (Or.inr rfl)
set_option maxRecDepth 100000 in
theorem am_kb148 : ∀ k, k < 148 → am_cP k := am_fs am_kb147 (Or.inr rfl)
set_option maxRecDepth 100000 in
theorem am_kb149 : ∀ k, k < 149 → am_cP k := am_fs am_kb148 (Or.inr rfl)
set_option maxRecDepth 100000 in
theorem am_kb150 : ∀ k, k < 150 → am_cP k := am_fs am_kb149 (Or.inr rfl)
set_option maxRecDepth 100000 in
theorem am_kb151 : ∀ k, k < 151 → am_cP k := am_fs am_kb150 (Or.inr rfl)
set_option maxRecDepth 100000 in
theorem am_kb152 : ∀ k, k < 152 → am_cP k := am_fs am_kb151 (Or.inr rfl)
set_option maxRecDepth 100000 in
theorem am_kb153 : ∀ k, k < 153 → am_cP k := am_fs am_kb152 (Or.inr rfl)
set_option maxRecDepth 100000 in
theorem am_kb154 : ∀ k, k < 154 → am_cP k := am_fs am_kb153 (Or.inr rfl)
set_option maxRecDepth 100000 in
theorem am_kb155 : ∀ k, k < 155 → am_cP k := am_fs am_kb154 (Or.inr rfl)
set_option maxRecDepth 100000 in
theorem am_kb156 : ∀ k, k < 156 → am_cP k := am_fs am_kb155 (Or.inr rfl)
set_option maxRecDepth 100000 in
theorem am_kb157 : ∀ k, k < 157 → am_cP k := am_fs am_kb156 (Or.inr rfl)
set_option maxRecDepth 100000 in
theorem am_kb158 : ∀ k, k < 158 → am_cP k := am_fs am_kb157 (Or.inr rfl)
set_option maxRecDepth 100000 in
theorem am_kb159 : ∀ k, k < 159 → am_cP k := am_fs am_kb158 (Or.inr rfl)
set_option maxRecDepth 100000 in
theorem am_kb160 : ∀ k, k < 160 → am_cP k := am_fs am_kb159 (Or.inr rfl)
set_option maxRecDepth 100000 in
theorem am_kb161 : ∀ k, k < 161 → am_cP k := am_fs am_kb160 (Or.inr rfl)
set_option maxRecDepth 100000 in
theorem am_kb162 : ∀ k, k < 162 → am_cP k := am_fs am_kb161 (Or.inr rfl)
set_option maxRecDepth 100000 in
theorem am_kb163 : ∀ k, k < 163 → am_cP k := am_fs am_kb162 (Or.inr rfl)
set_option maxRecDepth 100000 in
theorem am_kb164 : ∀ k, k < 164 → am_cP k := am_fs am_kb163 (Or.inr rfl)
set_option maxRecDepth 100000 in
theorem am_kb165 : ∀ k, k < 165 → am_cP k := am_fs am_kb164 (Or.inr rfl)
set_option maxRecDepth 100000 in
theorem am_kb166 : ∀ k, k < 166 → am_cP k := am_fs am_kb165 (Or.inr rfl)
set_option maxRecDepth 100000 in
theorem am_kb167 : ∀ k, k < 167 → am_cP k := am_fs am_kb166 (Or.inr rfl)
set_option maxRecDepth 100000 in
theorem am_kb168 : ∀ k, k < 168 → am_cP k := am_fs am_kb167 (Or.inr rfl)
set_option maxRecDepth 100000 in
theorem am_kb169 : ∀ k, k < 169 → am_cP k := am_fs am_kb168 (Or.inr rfl)
set_option maxRecDepth 100000 in
theorem am_kb170 : ∀ k, k < 170 → am_cP k := am_fs am_kb169 (Or.inr rfl)
set_option maxRecDepth 100000 in
theorem am_kb171 : ∀ k, k < 171 → am_cP k := am_fs am_kb170 (Or.inr rfl)
set_option maxRecDepth 100000 in
theorem am_kb172 : ∀ k, k < 172 → am_cP k := am_fs am_kb171 (Or.inr rfl)
set_option maxRecDepth 100000 in
theorem am_kb173 : ∀ k, k < 173 → am_cP k := am_fs am_kb172 (Or.inr rfl)
set_option maxRecDepth 100000 in
theorem am_kb174 : ∀ k, k < 174 → am_cP k := am_fs am_kb173 (Or.inr rfl)
set_option maxRecDepth 100000 in
theorem am_kb175 : ∀ k, k < 175 → am_cP k := am_fs am_kb174 (Or.inr rfl)
set_option maxRecDepth 100000 in
theorem am_kb176 : ∀ k, k < 176 → am_cP k := am_fs am_kb175 (Or.inr rfl)
set_option maxRecDepth 100000 in
theorem am_kb177 : ∀ k, k < 177 → am_cP k := am_fs am_kb176 (Or.inr rfl)
set_option maxRecDepth 100000 in
theorem am_kb178 : ∀ k, k < 178 → am_cP k := am_fs am_kb177 (Or.inr rfl)
set_option maxRecDepth 100000 in
theorem am_kb179 : ∀ k, k < 179 → am_cP k := am_fs am_kb178 (Or.inr rfl)
set_option maxRecDepth 100000 in
theorem am_kb180 : ∀ k, k < 180 → am_cP k := am_fs am_kb179 (Or.inr rfl)
set_option maxRecDepth 100000 in
theorem am_kb181 : ∀ k, k < 181 → am_cP k := am_fs am_kb180 (Or.inr rfl)
set_option maxRecDepth 100000 in
theorem am_kb182 : ∀ k, k < 182 → am_cP k := am_fs am_kb181 (Or.inr rfl)
set_option maxRecDepth 100000 in
theorem am_kb183 : ∀ k, k < 183 → am_cP k := am_fs am_kb182 (Or.inr rfl)
set_option maxRecDepth 100000 in
theorem am_kb184 : ∀ k, k < 184 → am_cP k := am_fs am_kb183 (Or.inr rfl)
set_option maxRecDepth 100000 in
theorem am_kb185 : ∀ k, k < 185 → am_cP k := am_fs am_kb184 (Or.inr rfl)
set_option maxRecDepth 100000 in
theorem am_kb186 : ∀ k, k < 186 → am_cP k := am_fs am_kb185 (Or.inr rfl)
set_option maxRecDepth 100000 in
theorem am_kb187 : ∀ k, k < 187 → am_cP k := am_fs am_kb186 (Or.inr rfl)
set_option maxRecDepth 100000 in
theorem am_kb188 : ∀ k, k < 188 → am_cP k := am_fs am_kb187 (Or.inr rfl)
set_option maxRecDepth 100000 in
theorem am_kb189 : ∀ k, k < 189 → am_cP k := am_fs am_kb188 (Or.inr rfl)
set_option maxRecDepth 100000 in
theorem am_kb190 : ∀ k, k < 190 → am_cP k := am_fs am_kb189 (Or.inr rfl)
set_option maxRecDepth 100000 in
theorem am_kb191 : ∀ k, k < 191 → am_cP k := am_fs am_kb190 (Or.inr rfl)
set_option maxRecDepth 100000 in
theorem am_kb192 : ∀ k, k < 192 → am_cP k := am_fs am_kb191 (Or.inr rfl)
set_option maxRecDepth 100000 in
theorem am_kb193 : ∀ k, k < 193 → am_cP k := am_fs am_kb192 (Or.inr rfl)
set_option maxRecDepth 100000 in
theorem am_kb194 : ∀ k, k < 194 → am_cP k := am_fs am_kb193 (Or.inr rfl)
set_option maxRecDepth 100000 in
theorem am_kb195 : ∀ k, k < 195 → am_cP k := am_fs am_kb194 (Or.inr rfl)
set_option maxRecDepth 100000 in
theorem am_kb196 : ∀ k, k < 196 → am_cP k := am_fs am_kb195 (Or.inr rfl)
set_option maxRecDepth 100000 in
theorem am_kb197 : ∀ k, k < 197 → am_cP k := am_fs am_kb196 (Or.inr rfl)
set_option maxRecDepth 100000 in
theorem am_kb198 : ∀ k, k < 198 → am_cP k := am_fs am_kb197 (Or.inr rfl)
set_option maxRecDepth 100000 in
theorem am_kb199 : ∀ k, k < 199 → am_cP k := am_fs am_kb198 (Or.inr rfl)
set_option maxRecDepth 100000 in
theorem am_kb200 : ∀ k, k < 200 → am_cP k := am_fs am_kb199 (Or.inr rfl)
set_option maxRecDepth 100000 in
theorem am_kb201 : ∀ k, k < 201 → am_cP k := am_fs am_kb200 (Or.inr rfl)
set_option maxRecDepth 100000 in
theorem am_kb202 : ∀ k, k < 202 → am_cP k := am_fs am_kb201 (Or.inr rfl)
set_option maxRecDepth 100000 in
theorem am_kb203 : ∀ k, k < 203 → am_cP k := am_fs am_kb202 (Or.inr rfl)
set_option maxRecDepth 100000 in
theorem am_kb204 : ∀ k, k < 204 → am_cP k := am_fs am_kb203 (Or.inr rfl)
set_option maxRecDepth 100000 in
theorem am_kb205 : ∀ k, k < 205 → am_cP k := am_fs am_kb204 (Or.inr rfl)
set_option maxRecDepth 100000 in
theorem am_kb206 : ∀ k, k < 206 → am_cP k := am_fs am_kb205 (Or.inr rfl)
set_option maxRecDepth 100000 in
theorem am_kb207 : ∀ k, k < 207 → am_cP k := am_fs am_kb206 (Or.inr rfl)
set_option maxRecDepth 100000 in
theorem am_kb208 : ∀ k, k < 208 → am_cP k := am_fs am_kb207 (Or.inr rfl)
set_option maxRecDepth 100000 in
theorem am_kb209 : ∀ k, k < 209 → am_cP k := am_fs am_kb208 (Or.inr rfl)
set_option maxRecDepth 100000 in
theorem am_kb210 : ∀ k, k < 210 → am_cP k := am_fs am_kb209 (Or.inr rfl)
set_option maxRecDepth 100000 in
theorem am_kb211 : ∀ k, k < 211 → am_cP k := am_fs am_kb210 (Or.inr rfl)
set_option maxRecDepth 100000 in
theorem am_kb212 : ∀ k, k < 212 → am_cP k := am_fs am_kb211 (Or.inr rfl)
set_option maxRecDepth 100000 in
theorem am_kb213 : ∀ k, k < 213 → am_cP k := am_fs am_kb212 (Or.inr rfl)
set_option maxRecDepth 100000 in
theorem am_kb214 : ∀ k, k < 214 → am_cP k := am_fs am_kb213 (Or.inr rfl)
set_option maxRecDepth 100000 in
theorem am_kb215 : ∀ k, k < 215 → am_cP k := am_fs am_kb214 (Or.inr rfl)
set_option maxRecDepth 100000 in
theorem am_kb216 : ∀ k, k < 216 → am_cP k := am_fs am_kb215 (Or.inr rfl)
set_option maxRecDepth 100000 in
theorem am_kb217 : ∀ k, k < 217 → am_cP k := am_fs am_kb216 (Or.inr rfl)
set_option maxRecDepth 100000 in
theorem am_kb218 : ∀ k, k < 218 → am_cP k := am_fs am_kb217 (Or.inr rfl)
set_option maxRecDepth 100000 in
theorem am_kb219 : ∀ k, k < 219 → am_cP k := am_fs am_kb218 (Or.inr rfl)
set_option maxRecDepth 100000 in
theorem am_kb220 : ∀ k, k < 220 → am_cP k := am_fs am_kb219 (Or.inr rfl)
set_option maxRecDepth 100000 in
theorem am_kb221 : ∀ k, k < 221 → am_cP k := am_fs am_kb220 (Or.inr rfl)
set_option maxRecDepth 100000 in
theorem am_kb222 : ∀ k, k < 222 → am_cP k := am_fs am_kb221 (Or.inr rfl)
set_option maxRecDepth 100000 in
theorem am_kb223 : ∀ k, k < 223 → am_cP k := am_fs am_kb222 (Or.inr rfl)
set_option maxRecDepth 100000 in
theorem am_kb224 : ∀ k, k < 224 → am_cP k := am_fs am_kb223 (Or.inr rfl)
set_option maxRecDepth 100000 in
theorem am_kb225 : ∀ k, k < 225 → am_cP k := am_fs am_kb224 (Or.inr rfl)
set_option maxRecDepth 100000 in
theorem am_kb226 : ∀ k, k < 226 → am_cP k := am_fs am_kb225 (Or.inl rfl)
set_option maxRecDepth 100000 in
theorem am_kb227 : ∀ k, k < 227 → am_cP k := am_fs am_kb226 (Or.inr rfl)
set_option maxRecDepth 100000 in
theorem am_kb228 : ∀ k, k < 228 → am_cP k := am_fs am_kb227 (Or.inr rfl)
set_option maxRecDepth 100000 in
theorem am_kb229 : ∀ k, k < 229 → am_cP k := am_fs am_kb228 (Or.inr rfl)
theorem am_cw_ok (k : Nat) (h : k < 229) : am_cP k := am_kb229 k h
