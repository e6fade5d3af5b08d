/-! the good words of the tables: those that a callee may be given -/
def TT : List Cond := lw_tbl.filter goodWord
theorem TT_in : ∀ w ∈ TT, w ∈ lw_tbl := fun _ h => (List.mem_filter.mp h).1
theorem TT_ok : GoodIn TT TT := fun _ h => ⟨h, good_of_word (List.mem_filter.mp h).2⟩
theorem TT_of {w : Cond} (h : w ∈ tables_1) (hg : goodWord w = true) : w ∈ TT := List.mem_filter.mpr ⟨List.mem_append_right _ h, hg⟩
theorem TT_pv {w : Cond} (h : w ∈ k2_sels lw_privs) (hg : goodWord w = true) : w ∈ TT := List.mem_filter.mpr ⟨List.mem_append_left _ h, hg⟩
theorem TT_2 {a : Cond} {l : List Cond} (ha : a ∈ TT) (h : GoodIn TT l) : GoodIn TT (a :: l) := fun w hw => by
  rcases List.mem_cons.mp hw with rfl | hw
  · exact TT_ok _ ha
  · exact h w hw
theorem TT_0 : GoodIn TT [] := fun w hw => by cases hw
theorem TT_t0 {w : Cond} (h : w ∈ tables_1_1) (hg : goodWord w = true) : w ∈ TT := TT_of (List.mem_append_left _ h) hg
theorem TT_t1 {w : Cond} (h : w ∈ tables_1_2) (hg : goodWord w = true) : w ∈ TT := TT_of (List.mem_append_right _ (List.mem_append_left _ h)) hg
theorem TT_t2 {w : Cond} (h : w ∈ tables_1_3) (hg : goodWord w = true) : w ∈ TT := TT_of (List.mem_append_right _ (List.mem_append_right _ (List.mem_append_left _ h))) hg
theorem TT_t3 {w : Cond} (h : w ∈ tables_1_4) (hg : goodWord w = true) : w ∈ TT := TT_of (List.mem_append_right _ (List.mem_append_right _ (List.mem_append_right _ (List.mem_append_left _ h)))) hg
theorem TT_t4 {w : Cond} (h : w ∈ tables_1_5) (hg : goodWord w = true) : w ∈ TT := TT_of (List.mem_append_right _ (List.mem_append_right _ (List.mem_append_right _ (List.mem_append_right _ (List.mem_append_left _ h))))) hg
theorem TT_t5 {w : Cond} (h : w ∈ tables_1_6) (hg : goodWord w = true) : w ∈ TT := TT_of (List.mem_append_right _ (List.mem_append_right _ (List.mem_append_right _ (List.mem_append_right _ (List.mem_append_right _ (h)))))) hg
theorem mw_X8_1 : Cond.methodLink RX8 1 objectInit ∈ TT := TT_t0 (List.mem_of_getElem? (i := 19) (by decide +kernel)) (by decide +kernel)
theorem fw_X8_11 : Cond.fieldLink RX8 11 "GlowDebts" "rows" "[LGlowDebts$Strip;" ∈ TT := TT_t0 (List.mem_of_getElem? (i := 101) (by decide +kernel)) (by decide +kernel)
theorem fw_X8_15 : Cond.fieldLink RX8 15 "GlowDebts" "texts" "[LGlowDebts$Strip;" ∈ TT := TT_t0 (List.mem_of_getElem? (i := 102) (by decide +kernel)) (by decide +kernel)
theorem fw_X8_21 : Cond.fieldLink RX8 21 "GlowDebts" "now" "LGlowDebts$Bank;" ∈ TT := TT_t0 (List.mem_of_getElem? (i := 103) (by decide +kernel)) (by decide +kernel)
theorem fw_X8_25 : Cond.fieldLink RX8 25 "GlowDebts" "keeps" "[LGlowDebts$Bank;" ∈ TT := TT_t0 (List.mem_of_getElem? (i := 104) (by decide +kernel)) (by decide +kernel)
theorem fw_X8_32 : Cond.fieldLink RX8 32 "GlowDebts" "sets" "LGlowDebts$Sets;" ∈ TT := TT_t0 (List.mem_of_getElem? (i := 105) (by decide +kernel)) (by decide +kernel)
theorem fw_X8_39 : Cond.fieldLink RX8 39 "GlowDebts" "chains" "LGlowDebts$Chains;" ∈ TT := TT_t0 (List.mem_of_getElem? (i := 106) (by decide +kernel)) (by decide +kernel)
theorem fw_X8_43 : Cond.fieldLink RX8 43 "GlowDebts" "found" "[I" ∈ TT := TT_t0 (List.mem_of_getElem? (i := 107) (by decide +kernel)) (by decide +kernel)
theorem fw_X8_47 : Cond.fieldLink RX8 47 "GlowDebts" "latestFound" "I" ∈ TT := TT_t0 (List.mem_of_getElem? (i := 108) (by decide +kernel)) (by decide +kernel)
theorem fw_X8_51 : Cond.fieldLink RX8 51 "GlowDebts" "toldAside" "I" ∈ TT := TT_t0 (List.mem_of_getElem? (i := 109) (by decide +kernel)) (by decide +kernel)
theorem fw_X8_54 : Cond.fieldLink RX8 54 "GlowDebts" "toldUpper" "J" ∈ TT := TT_t0 (List.mem_of_getElem? (i := 110) (by decide +kernel)) (by decide +kernel)
theorem fw_X8_58 : Cond.fieldLink RX8 58 "GlowDebts" "toldLower" "J" ∈ TT := TT_t0 (List.mem_of_getElem? (i := 111) (by decide +kernel)) (by decide +kernel)
theorem mw_X8_61 : Cond.methodLink RX8 61 yX5_init ∈ TT := TT_t0 (List.mem_of_getElem? (i := 87) (by decide +kernel)) (by decide +kernel)
theorem mw_X8_64 : Cond.methodLink RX8 64 yX8_rowOf ∈ TT := TT_t0 (List.mem_of_getElem? (i := 139) (by decide +kernel)) (by decide +kernel)
theorem mw_X8_68 : Cond.methodLink RX8 68 yX8_makeAnew ∈ TT := TT_t0 (List.mem_of_getElem? (i := 143) (by decide +kernel)) (by decide +kernel)
theorem mw_X8_72 : Cond.methodLink RX8 72 yX8_refusedAt ∈ TT := TT_t0 (List.mem_of_getElem? (i := 166) (by decide +kernel)) (by decide +kernel)
theorem mw_X8_76 : Cond.methodLink RX8 76 yX5_get ∈ TT := TT_t0 (List.mem_of_getElem? (i := 182) (by decide +kernel)) (by decide +kernel)
theorem mw_X8_80 : Cond.methodLink RX8 80 yX5_set ∈ TT := TT_t0 (List.mem_of_getElem? (i := 187) (by decide +kernel)) (by decide +kernel)
theorem mw_X8_84 : Cond.methodLink RX8 84 yX8_refusedMissing ∈ TT := TT_t0 (List.mem_of_getElem? (i := 170) (by decide +kernel)) (by decide +kernel)
theorem mw_X8_88 : Cond.methodLink RX8 88 yX5_remove ∈ TT := TT_t0 (List.mem_of_getElem? (i := 199) (by decide +kernel)) (by decide +kernel)
theorem mw_X8_91 : Cond.methodLink RX8 91 yX8_refuse ∈ TT := TT_t0 (List.mem_of_getElem? (i := 151) (by decide +kernel)) (by decide +kernel)
theorem mw_X8_94 : Cond.methodLink RX8 94 yX5_isMissing ∈ TT := TT_t0 (List.mem_of_getElem? (i := 174) (by decide +kernel)) (by decide +kernel)
theorem mw_X8_98 : Cond.methodLink RX8 98 yX5_holdsRun ∈ TT := TT_t0 (List.mem_of_getElem? (i := 207) (by decide +kernel)) (by decide +kernel)
theorem mw_X8_102 : Cond.methodLink RX8 102 yX5_takeRun ∈ TT := TT_t0 (List.mem_of_getElem? (i := 211) (by decide +kernel)) (by decide +kernel)
theorem mw_X8_106 : Cond.methodLink RX8 106 yX5_size ∈ TT := TT_t0 (List.mem_of_getElem? (i := 223) (by decide +kernel)) (by decide +kernel)
theorem mw_X8_110 : Cond.methodLink RX8 110 yX5_total ∈ TT := TT_t0 (List.mem_of_getElem? (i := 227) (by decide +kernel)) (by decide +kernel)
theorem mw_X8_114 : Cond.methodLink RX8 114 yX8_textOf ∈ TT := TT_t0 (List.mem_of_getElem? (i := 235) (by decide +kernel)) (by decide +kernel)
theorem mw_X8_117 : Cond.methodLink RX8 117 yX7_firstFault ∈ TT := TT_t1 (List.mem_of_getElem? (i := 7) (by decide +kernel)) (by decide +kernel)
theorem mw_X8_122 : Cond.methodLink RX8 122 yX7_readInto ∈ TT := TT_t1 (List.mem_of_getElem? (i := 30) (by decide +kernel)) (by decide +kernel)
theorem mw_X8_126 : Cond.methodLink RX8 126 yX8_keepOf ∈ TT := TT_t1 (List.mem_of_getElem? (i := 41) (by decide +kernel)) (by decide +kernel)
theorem mw_X8_130 : Cond.methodLink RX8 130 yX0_clear ∈ TT := TT_t1 (List.mem_of_getElem? (i := 45) (by decide +kernel)) (by decide +kernel)
theorem mw_X8_133 : Cond.methodLink RX8 133 yX0_size ∈ TT := TT_t1 (List.mem_of_getElem? (i := 46) (by decide +kernel)) (by decide +kernel)
theorem mw_X8_134 : Cond.methodLink RX8 134 yX0_has ∈ TT := TT_t1 (List.mem_of_getElem? (i := 54) (by decide +kernel)) (by decide +kernel)
theorem mw_X8_138 : Cond.methodLink RX8 138 yX0_partOf ∈ TT := TT_t1 (List.mem_of_getElem? (i := 58) (by decide +kernel)) (by decide +kernel)
theorem mw_X8_142 : Cond.methodLink RX8 142 yX0_kindOf ∈ TT := TT_t1 (List.mem_of_getElem? (i := 100) (by decide +kernel)) (by decide +kernel)
theorem mw_X8_145 : Cond.methodLink RX8 145 yX2_isOf ∈ TT := TT_t1 (List.mem_of_getElem? (i := 101) (by decide +kernel)) (by decide +kernel)
theorem mw_X8_150 : Cond.methodLink RX8 150 yX0_firstOf ∈ TT := TT_t1 (List.mem_of_getElem? (i := 107) (by decide +kernel)) (by decide +kernel)
theorem mw_X8_153 : Cond.methodLink RX8 153 yX0_thisNight ∈ TT := TT_t1 (List.mem_of_getElem? (i := 108) (by decide +kernel)) (by decide +kernel)
theorem mw_X8_156 : Cond.methodLink RX8 156 yX2_signOf ∈ TT := TT_t1 (List.mem_of_getElem? (i := 112) (by decide +kernel)) (by decide +kernel)
theorem mw_X8_160 : Cond.methodLink RX8 160 yX0_glowOf ∈ TT := TT_t1 (List.mem_of_getElem? (i := 120) (by decide +kernel)) (by decide +kernel)
theorem mw_X8_163 : Cond.methodLink RX8 163 yX0_deedsDone ∈ TT := TT_t1 (List.mem_of_getElem? (i := 125) (by decide +kernel)) (by decide +kernel)
theorem mw_X8_166 : Cond.methodLink RX8 166 yX0_passNight ∈ TT := TT_t1 (List.mem_of_getElem? (i := 129) (by decide +kernel)) (by decide +kernel)
theorem mw_X8_169 : Cond.methodLink RX8 169 yX0_litGlow ∈ TT := TT_t1 (List.mem_of_getElem? (i := 137) (by decide +kernel)) (by decide +kernel)
theorem mw_X8_172 : Cond.methodLink RX8 172 yX0_isLit ∈ TT := TT_t1 (List.mem_of_getElem? (i := 145) (by decide +kernel)) (by decide +kernel)
theorem mw_X8_175 : Cond.methodLink RX8 175 yX0_putOut ∈ TT := TT_t1 (List.mem_of_getElem? (i := 146) (by decide +kernel)) (by decide +kernel)
theorem mw_X8_178 : Cond.methodLink RX8 178 yX0_lightAgain ∈ TT := TT_t1 (List.mem_of_getElem? (i := 154) (by decide +kernel)) (by decide +kernel)
theorem mw_X8_181 : Cond.methodLink RX8 181 yX8_isPlace ∈ TT := TT_t1 (List.mem_of_getElem? (i := 162) (by decide +kernel)) (by decide +kernel)
theorem mw_X8_184 : Cond.methodLink RX8 184 yX0_placeOf ∈ TT := TT_t1 (List.mem_of_getElem? (i := 165) (by decide +kernel)) (by decide +kernel)
theorem mw_X8_187 : Cond.methodLink RX8 187 yX0_carryTo ∈ TT := TT_t1 (List.mem_of_getElem? (i := 166) (by decide +kernel)) (by decide +kernel)
theorem mw_X8_190 : Cond.methodLink RX8 190 yX0_takeBackFrom ∈ TT := TT_t1 (List.mem_of_getElem? (i := 174) (by decide +kernel)) (by decide +kernel)
theorem mw_X8_193 : Cond.methodLink RX8 193 yX0_become ∈ TT := TT_t1 (List.mem_of_getElem? (i := 186) (by decide +kernel)) (by decide +kernel)
theorem mw_X8_197 : Cond.methodLink RX8 197 yX0_brightAt ∈ TT := TT_t1 (List.mem_of_getElem? (i := 199) (by decide +kernel)) (by decide +kernel)
theorem mw_X8_200 : Cond.methodLink RX8 200 yX8_isStretch ∈ TT := TT_t1 (List.mem_of_getElem? (i := 218) (by decide +kernel)) (by decide +kernel)
theorem mw_X8_203 : Cond.methodLink RX8 203 yX0_brightAlong ∈ TT := TT_t1 (List.mem_of_getElem? (i := 221) (by decide +kernel)) (by decide +kernel)
theorem mw_X8_206 : Cond.methodLink RX8 206 yX0_shareAlong ∈ TT := TT_t1 (List.mem_of_getElem? (i := 234) (by decide +kernel)) (by decide +kernel)
theorem mw_X8_209 : Cond.methodLink RX8 209 yX6_darkest ∈ TT := TT_t2 (List.mem_of_getElem? (i := 6) (by decide +kernel)) (by decide +kernel)
theorem mw_X8_215 : Cond.methodLink RX8 215 yX6_placesOnRoad ∈ TT := TT_t2 (List.mem_of_getElem? (i := 12) (by decide +kernel)) (by decide +kernel)
theorem mw_X8_218 : Cond.methodLink RX8 218 yX6_brightness ∈ TT := TT_t2 (List.mem_of_getElem? (i := 15) (by decide +kernel)) (by decide +kernel)
theorem mw_X8_221 : Cond.methodLink RX8 221 yX8_isPerson ∈ TT := TT_t2 (List.mem_of_getElem? (i := 22) (by decide +kernel)) (by decide +kernel)
theorem mw_X8_224 : Cond.methodLink RX8 224 yX0_balanceOf ∈ TT := TT_t2 (List.mem_of_getElem? (i := 25) (by decide +kernel)) (by decide +kernel)
theorem mw_X8_227 : Cond.methodLink RX8 227 yX4_largestRing ∈ TT := TT_t2 (List.mem_of_getElem? (i := 38) (by decide +kernel)) (by decide +kernel)
theorem mw_X8_230 : Cond.methodLink RX8 230 yJ6_bitCount_0f7a4 ∈ TT := TT_t2 (List.mem_of_getElem? (i := 67) (by decide +kernel)) (by decide +kernel)
theorem mw_X8_235 : Cond.methodLink RX8 235 yX4_ringsWith ∈ TT := TT_t2 (List.mem_of_getElem? (i := 72) (by decide +kernel)) (by decide +kernel)
theorem mw_X8_239 : Cond.methodLink RX8 239 yX4_smallestRingWith ∈ TT := TT_t2 (List.mem_of_getElem? (i := 80) (by decide +kernel)) (by decide +kernel)
theorem mw_X8_242 : Cond.methodLink RX8 242 yX1_shortest ∈ TT := TT_t2 (List.mem_of_getElem? (i := 88) (by decide +kernel)) (by decide +kernel)
theorem mw_X8_246 : Cond.methodLink RX8 246 yX1_write ∈ TT := TT_t2 (List.mem_of_getElem? (i := 101) (by decide +kernel)) (by decide +kernel)
theorem mw_X8_250 : Cond.methodLink RX8 250 yX4_fewestToAnswer ∈ TT := TT_t2 (List.mem_of_getElem? (i := 116) (by decide +kernel)) (by decide +kernel)
theorem mw_X8_253 : Cond.methodLink RX8 253 yX8_refusedLooks ∈ TT := TT_t2 (List.mem_of_getElem? (i := 136) (by decide +kernel)) (by decide +kernel)
theorem mw_X8_257 : Cond.methodLink RX8 257 yX3_fittingFirsts ∈ TT := TT_t2 (List.mem_of_getElem? (i := 145) (by decide +kernel)) (by decide +kernel)
theorem mw_X8_262 : Cond.methodLink RX8 262 yX3_fittingKinds ∈ TT := TT_t2 (List.mem_of_getElem? (i := 156) (by decide +kernel)) (by decide +kernel)
theorem mw_X8_265 : Cond.methodLink RX8 265 yX3_tellingNight ∈ TT := TT_t2 (List.mem_of_getElem? (i := 163) (by decide +kernel)) (by decide +kernel)
theorem mw_X8_268 : Cond.methodLink RX8 268 yX3_largestPart ∈ TT := TT_t2 (List.mem_of_getElem? (i := 173) (by decide +kernel)) (by decide +kernel)
theorem mw_X8_272 : Cond.methodLink RX8 272 yX3_areTold ∈ TT := TT_t2 (List.mem_of_getElem? (i := 178) (by decide +kernel)) (by decide +kernel)
theorem mw_X8_276 : Cond.methodLink RX8 276 yX3_fittingOwers ∈ TT := TT_t2 (List.mem_of_getElem? (i := 181) (by decide +kernel)) (by decide +kernel)
theorem mw_X8_280 : Cond.methodLink RX8 280 yX4_afterTurns ∈ TT := TT_t2 (List.mem_of_getElem? (i := 195) (by decide +kernel)) (by decide +kernel)
theorem mw_X8_283 : Cond.methodLink RX8 283 yX4_waysToBeDark ∈ TT := TT_t2 (List.mem_of_getElem? (i := 212) (by decide +kernel)) (by decide +kernel)
theorem mw_X8_287 : Cond.methodLink RX8 287 yX0_litSet ∈ TT := TT_t2 (List.mem_of_getElem? (i := 219) (by decide +kernel)) (by decide +kernel)
theorem mw_X8_290 : Cond.methodLink RX8 290 yX4_power ∈ TT := TT_t2 (List.mem_of_getElem? (i := 220) (by decide +kernel)) (by decide +kernel)
theorem mw_X8_294 : Cond.methodLink RX8 294 yX8_tellInLowestTerms ∈ TT := TT_t2 (List.mem_of_getElem? (i := 221) (by decide +kernel)) (by decide +kernel)
theorem kw_X8_298 : Cond.constantLong RX8 298 (12) ∈ TT := TT_t2 (List.mem_of_getElem? (i := 232) (by decide +kernel)) (by decide +kernel)
theorem kw_X8_300 : Cond.constant RX8 300 (2147483646) ∈ TT := TT_t2 (List.mem_of_getElem? (i := 237) (by decide +kernel)) (by decide +kernel)
theorem kw_X8_301 : Cond.constantLong RX8 301 (48271) ∈ TT := TT_t2 (List.mem_of_getElem? (i := 238) (by decide +kernel)) (by decide +kernel)
theorem kw_X8_303 : Cond.constantLong RX8 303 (2147483647) ∈ TT := TT_t2 (List.mem_of_getElem? (i := 239) (by decide +kernel)) (by decide +kernel)
theorem mw_X8_305 : Cond.methodLink RX8 305 yX0_doByLot ∈ TT := TT_t3 (List.mem_of_getElem? (i := 0) (by decide +kernel)) (by decide +kernel)
theorem mw_X8_309 : Cond.methodLink RX8 309 yX0_howManyOf ∈ TT := TT_t3 (List.mem_of_getElem? (i := 28) (by decide +kernel)) (by decide +kernel)
theorem mw_X8_312 : Cond.methodLink RX8 312 yX8_howManyThere ∈ TT := TT_t3 (List.mem_of_getElem? (i := 32) (by decide +kernel)) (by decide +kernel)
theorem mw_X8_316 : Cond.methodLink RX8 316 yX8_howManyKept ∈ TT := TT_t3 (List.mem_of_getElem? (i := 35) (by decide +kernel)) (by decide +kernel)
theorem kw_X8_319 : Cond.constantLong RX8 319 (17) ∈ TT := TT_t3 (List.mem_of_getElem? (i := 51) (by decide +kernel)) (by decide +kernel)
theorem kw_X8_321 : Cond.constantLong RX8 321 (31) ∈ TT := TT_t3 (List.mem_of_getElem? (i := 52) (by decide +kernel)) (by decide +kernel)
theorem mw_X8_323 : Cond.methodLink RX8 323 yX8_count ∈ TT := TT_t3 (List.mem_of_getElem? (i := 53) (by decide +kernel)) (by decide +kernel)
theorem mw_X8_326 : Cond.methodLink RX8 326 yX8_digestOf ∈ TT := TT_t3 (List.mem_of_getElem? (i := 54) (by decide +kernel)) (by decide +kernel)
theorem mw_X8_330 : Cond.methodLink RX8 330 yX5_holds ∈ TT := TT_t0 (List.mem_of_getElem? (i := 178) (by decide +kernel)) (by decide +kernel)
theorem mw_X8_333 : Cond.methodLink RX8 333 yX3_arePairs ∈ TT := TT_t2 (List.mem_of_getElem? (i := 140) (by decide +kernel)) (by decide +kernel)
theorem mw_X8_336 : Cond.methodLink RX8 336 yX5_room ∈ TT := TT_t0 (List.mem_of_getElem? (i := 147) (by decide +kernel)) (by decide +kernel)
theorem mw_X8_339 : Cond.methodLink RX8 339 yX5_renew ∈ TT := TT_t0 (List.mem_of_getElem? (i := 155) (by decide +kernel)) (by decide +kernel)
theorem mw_X8_342 : Cond.methodLink RX8 342 yX8_greatestDivisor ∈ TT := TT_t2 (List.mem_of_getElem? (i := 225) (by decide +kernel)) (by decide +kernel)
theorem mw_X9_1 : Cond.methodLink RX9 1 objectInit ∈ TT := TT_t3 (List.mem_of_getElem? (i := 62) (by decide +kernel)) (by decide +kernel)
theorem fw_X9_7 : Cond.fieldLink RX9 7 "GlowDebtsModel" "w" "[I" ∈ TT := TT_t3 (List.mem_of_getElem? (i := 63) (by decide +kernel)) (by decide +kernel)
theorem fw_X9_13 : Cond.fieldLink RX9 13 "GlowDebtsModel" "rowSize" "[I" ∈ TT := TT_t3 (List.mem_of_getElem? (i := 64) (by decide +kernel)) (by decide +kernel)
theorem fw_X9_16 : Cond.fieldLink RX9 16 "GlowDebtsModel" "ints" "[I" ∈ TT := TT_t3 (List.mem_of_getElem? (i := 65) (by decide +kernel)) (by decide +kernel)
theorem fw_X9_19 : Cond.fieldLink RX9 19 "GlowDebtsModel" "textSize" "[I" ∈ TT := TT_t3 (List.mem_of_getElem? (i := 66) (by decide +kernel)) (by decide +kernel)
theorem fw_X9_22 : Cond.fieldLink RX9 22 "GlowDebtsModel" "bytes" "[I" ∈ TT := TT_t3 (List.mem_of_getElem? (i := 67) (by decide +kernel)) (by decide +kernel)
theorem fw_X9_25 : Cond.fieldLink RX9 25 "GlowDebtsModel" "finds" "[I" ∈ TT := TT_t3 (List.mem_of_getElem? (i := 69) (by decide +kernel)) (by decide +kernel)
theorem fw_X9_28 : Cond.fieldLink RX9 28 "GlowDebtsModel" "lower" "J" ∈ TT := TT_t3 (List.mem_of_getElem? (i := 72) (by decide +kernel)) (by decide +kernel)
theorem fw_X9_32 : Cond.fieldLink RX9 32 "GlowDebtsModel" "held" "[I" ∈ TT := TT_t3 (List.mem_of_getElem? (i := 73) (by decide +kernel)) (by decide +kernel)
theorem fw_X9_35 : Cond.fieldLink RX9 35 "GlowDebtsModel" "read" "[I" ∈ TT := TT_t3 (List.mem_of_getElem? (i := 79) (by decide +kernel)) (by decide +kernel)
theorem fw_X9_38 : Cond.fieldLink RX9 38 "GlowDebtsModel" "brights" "[I" ∈ TT := TT_t3 (List.mem_of_getElem? (i := 80) (by decide +kernel)) (by decide +kernel)
theorem fw_X9_41 : Cond.fieldLink RX9 41 "GlowDebtsModel" "away" "[I" ∈ TT := TT_t3 (List.mem_of_getElem? (i := 81) (by decide +kernel)) (by decide +kernel)
theorem fw_X9_44 : Cond.fieldLink RX9 44 "GlowDebtsModel" "litBy" "[I" ∈ TT := TT_t3 (List.mem_of_getElem? (i := 82) (by decide +kernel)) (by decide +kernel)
theorem fw_X9_47 : Cond.fieldLink RX9 47 "GlowDebtsModel" "tried" "[I" ∈ TT := TT_t3 (List.mem_of_getElem? (i := 83) (by decide +kernel)) (by decide +kernel)
theorem fw_X9_50 : Cond.fieldLink RX9 50 "GlowDebtsModel" "best" "[I" ∈ TT := TT_t3 (List.mem_of_getElem? (i := 84) (by decide +kernel)) (by decide +kernel)
theorem fw_X9_53 : Cond.fieldLink RX9 53 "GlowDebtsModel" "found" "I" ∈ TT := TT_t3 (List.mem_of_getElem? (i := 68) (by decide +kernel)) (by decide +kernel)
theorem fw_X9_57 : Cond.fieldLink RX9 57 "GlowDebtsModel" "asked" "I" ∈ TT := TT_t3 (List.mem_of_getElem? (i := 70) (by decide +kernel)) (by decide +kernel)
theorem kw_X9_60 : Cond.constantLong RX9 60 (5) ∈ TT := TT_t3 (List.mem_of_getElem? (i := 140) (by decide +kernel)) (by decide +kernel)
theorem mw_X9_62 : Cond.methodLink RX9 62 yX9_in ∈ TT := TT_t3 (List.mem_of_getElem? (i := 141) (by decide +kernel)) (by decide +kernel)
theorem kw_X9_66 : Cond.constantLong RX9 66 (3) ∈ TT := TT_t3 (List.mem_of_getElem? (i := 179) (by decide +kernel)) (by decide +kernel)
theorem kw_X9_68 : Cond.constantLong RX9 68 (9) ∈ TT := TT_t4 (List.mem_of_getElem? (i := 43) (by decide +kernel)) (by decide +kernel)
theorem mw_X9_70 : Cond.methodLink RX9 70 yX9_isRow ∈ TT := TT_t3 (List.mem_of_getElem? (i := 137) (by decide +kernel)) (by decide +kernel)
theorem mw_X9_74 : Cond.methodLink RX9 74 yX9_finds ∈ TT := TT_t3 (List.mem_of_getElem? (i := 144) (by decide +kernel)) (by decide +kernel)
theorem mw_X9_77 : Cond.methodLink RX9 77 yX9_tells ∈ TT := TT_t3 (List.mem_of_getElem? (i := 152) (by decide +kernel)) (by decide +kernel)
theorem mw_X9_80 : Cond.methodLink RX9 80 yX9_isText ∈ TT := TT_t3 (List.mem_of_getElem? (i := 176) (by decide +kernel)) (by decide +kernel)
theorem fw_X9_83 : Cond.fieldLink RX9 83 "GlowDebtsModel" "place" "I" ∈ TT := TT_t3 (List.mem_of_getElem? (i := 75) (by decide +kernel)) (by decide +kernel)
theorem fw_X9_86 : Cond.fieldLink RX9 86 "GlowDebtsModel" "end" "I" ∈ TT := TT_t3 (List.mem_of_getElem? (i := 76) (by decide +kernel)) (by decide +kernel)
theorem fw_X9_89 : Cond.fieldLink RX9 89 "GlowDebtsModel" "from" "I" ∈ TT := TT_t3 (List.mem_of_getElem? (i := 74) (by decide +kernel)) (by decide +kernel)
theorem mw_X9_92 : Cond.methodLink RX9 92 yX9_here ∈ TT := TT_t3 (List.mem_of_getElem? (i := 192) (by decide +kernel)) (by decide +kernel)
theorem fw_X9_96 : Cond.fieldLink RX9 96 "GlowDebtsModel" "number" "I" ∈ TT := TT_t3 (List.mem_of_getElem? (i := 77) (by decide +kernel)) (by decide +kernel)
theorem mw_X9_99 : Cond.methodLink RX9 99 yX9_kindOf ∈ TT := TT_t3 (List.mem_of_getElem? (i := 200) (by decide +kernel)) (by decide +kernel)
theorem fw_X9_102 : Cond.fieldLink RX9 102 "GlowDebtsModel" "readMany" "I" ∈ TT := TT_t3 (List.mem_of_getElem? (i := 78) (by decide +kernel)) (by decide +kernel)
theorem mw_X9_105 : Cond.methodLink RX9 105 yX9_takes ∈ TT := TT_t3 (List.mem_of_getElem? (i := 203) (by decide +kernel)) (by decide +kernel)
theorem mw_X9_109 : Cond.methodLink RX9 109 yX9_takesLight ∈ TT := TT_t3 (List.mem_of_getElem? (i := 196) (by decide +kernel)) (by decide +kernel)
theorem mw_X9_113 : Cond.methodLink RX9 113 yX9_faultOf ∈ TT := TT_t3 (List.mem_of_getElem? (i := 188) (by decide +kernel)) (by decide +kernel)
theorem mw_X9_116 : Cond.methodLink RX9 116 yX9_dew ∈ TT := TT_t3 (List.mem_of_getElem? (i := 231) (by decide +kernel)) (by decide +kernel)
theorem mw_X9_120 : Cond.methodLink RX9 120 yX9_forged ∈ TT := TT_t3 (List.mem_of_getElem? (i := 234) (by decide +kernel)) (by decide +kernel)
theorem mw_X9_123 : Cond.methodLink RX9 123 yX9_glowBy ∈ TT := TT_t3 (List.mem_of_getElem? (i := 228) (by decide +kernel)) (by decide +kernel)
theorem mw_X9_127 : Cond.methodLink RX9 127 yX9_isLight ∈ TT := TT_t3 (List.mem_of_getElem? (i := 215) (by decide +kernel)) (by decide +kernel)
theorem kw_X9_130 : Cond.constantLong RX9 130 (6) ∈ TT := TT_t3 (List.mem_of_getElem? (i := 219) (by decide +kernel)) (by decide +kernel)
theorem mw_X9_132 : Cond.methodLink RX9 132 yX9_lightOf ∈ TT := TT_t3 (List.mem_of_getElem? (i := 220) (by decide +kernel)) (by decide +kernel)
theorem mw_X9_135 : Cond.methodLink RX9 135 yX9_glowOf ∈ TT := TT_t3 (List.mem_of_getElem? (i := 224) (by decide +kernel)) (by decide +kernel)
theorem mw_X9_138 : Cond.methodLink RX9 138 yX9_isA ∈ TT := TT_t4 (List.mem_of_getElem? (i := 1) (by decide +kernel)) (by decide +kernel)
theorem kw_X9_141 : Cond.constantLong RX9 141 (99) ∈ TT := TT_t4 (List.mem_of_getElem? (i := 8) (by decide +kernel)) (by decide +kernel)
theorem mw_X9_143 : Cond.methodLink RX9 143 yX9_has ∈ TT := TT_t4 (List.mem_of_getElem? (i := 21) (by decide +kernel)) (by decide +kernel)
theorem mw_X9_146 : Cond.methodLink RX9 146 yX9_minds ∈ TT := TT_t4 (List.mem_of_getElem? (i := 13) (by decide +kernel)) (by decide +kernel)
theorem mw_X9_149 : Cond.methodLink RX9 149 yX9_glowAll ∈ TT := TT_t4 (List.mem_of_getElem? (i := 17) (by decide +kernel)) (by decide +kernel)
theorem mw_X9_152 : Cond.methodLink RX9 152 yX9_lights ∈ TT := TT_t4 (List.mem_of_getElem? (i := 28) (by decide +kernel)) (by decide +kernel)
theorem mw_X9_156 : Cond.methodLink RX9 156 yX9_isPlace ∈ TT := TT_t4 (List.mem_of_getElem? (i := 40) (by decide +kernel)) (by decide +kernel)
theorem kw_X9_159 : Cond.constantLong RX9 159 (2) ∈ TT := TT_t4 (List.mem_of_getElem? (i := 52) (by decide +kernel)) (by decide +kernel)
theorem mw_X9_161 : Cond.methodLink RX9 161 yX9_bring ∈ TT := TT_t4 (List.mem_of_getElem? (i := 53) (by decide +kernel)) (by decide +kernel)
theorem mw_X9_165 : Cond.methodLink RX9 165 yX9_size ∈ TT := TT_t4 (List.mem_of_getElem? (i := 77) (by decide +kernel)) (by decide +kernel)
theorem mw_X9_168 : Cond.methodLink RX9 168 yX9_gives ∈ TT := TT_t4 (List.mem_of_getElem? (i := 73) (by decide +kernel)) (by decide +kernel)
theorem mw_X9_172 : Cond.methodLink RX9 172 yX9_brightBy ∈ TT := TT_t4 (List.mem_of_getElem? (i := 69) (by decide +kernel)) (by decide +kernel)
theorem mw_X9_175 : Cond.methodLink RX9 175 yX9_brightNow ∈ TT := TT_t4 (List.mem_of_getElem? (i := 65) (by decide +kernel)) (by decide +kernel)
theorem mw_X9_178 : Cond.methodLink RX9 178 yX9_alongNow ∈ TT := TT_t4 (List.mem_of_getElem? (i := 84) (by decide +kernel)) (by decide +kernel)
theorem kw_X9_181 : Cond.constantLong RX9 181 (200) ∈ TT := TT_t4 (List.mem_of_getElem? (i := 92) (by decide +kernel)) (by decide +kernel)
theorem kw_X9_183 : Cond.constant RX9 183 (1000000) ∈ TT := TT_t4 (List.mem_of_getElem? (i := 97) (by decide +kernel)) (by decide +kernel)
theorem kw_X9_184 : Cond.constantLong RX9 184 (10) ∈ TT := TT_t4 (List.mem_of_getElem? (i := 102) (by decide +kernel)) (by decide +kernel)
theorem mw_X9_186 : Cond.methodLink RX9 186 yX9_isForged ∈ TT := TT_t4 (List.mem_of_getElem? (i := 115) (by decide +kernel)) (by decide +kernel)
theorem mw_X9_189 : Cond.methodLink RX9 189 yX9_debts ∈ TT := TT_t4 (List.mem_of_getElem? (i := 111) (by decide +kernel)) (by decide +kernel)
theorem mw_X9_192 : Cond.methodLink RX9 192 yX9_owesBy ∈ TT := TT_t4 (List.mem_of_getElem? (i := 119) (by decide +kernel)) (by decide +kernel)
theorem mw_X9_195 : Cond.methodLink RX9 195 yX9_isRing ∈ TT := TT_t4 (List.mem_of_getElem? (i := 127) (by decide +kernel)) (by decide +kernel)
theorem mw_X9_198 : Cond.methodLink RX9 198 yX9_ones ∈ TT := TT_t4 (List.mem_of_getElem? (i := 131) (by decide +kernel)) (by decide +kernel)
theorem mw_X9_201 : Cond.methodLink RX9 201 yX9_row ∈ TT := TT_t4 (List.mem_of_getElem? (i := 146) (by decide +kernel)) (by decide +kernel)
theorem mw_X9_204 : Cond.methodLink RX9 204 yX9_against ∈ TT := TT_t4 (List.mem_of_getElem? (i := 155) (by decide +kernel)) (by decide +kernel)
theorem mw_X9_207 : Cond.methodLink RX9 207 yX9_fits ∈ TT := TT_t4 (List.mem_of_getElem? (i := 159) (by decide +kernel)) (by decide +kernel)
theorem mw_X9_211 : Cond.methodLink RX9 211 yX9_kindsOf ∈ TT := TT_t4 (List.mem_of_getElem? (i := 167) (by decide +kernel)) (by decide +kernel)
theorem mw_X9_214 : Cond.methodLink RX9 214 yX9_greatestPart ∈ TT := TT_t4 (List.mem_of_getElem? (i := 175) (by decide +kernel)) (by decide +kernel)
theorem kw_X9_217 : Cond.constantLong RX9 217 (4) ∈ TT := TT_t4 (List.mem_of_getElem? (i := 187) (by decide +kernel)) (by decide +kernel)
theorem mw_X9_219 : Cond.methodLink RX9 219 yX9_betters ∈ TT := TT_t4 (List.mem_of_getElem? (i := 188) (by decide +kernel)) (by decide +kernel)
theorem fw_X9_223 : Cond.fieldLink RX9 223 "GlowDebtsModel" "upper" "J" ∈ TT := TT_t3 (List.mem_of_getElem? (i := 71) (by decide +kernel)) (by decide +kernel)
theorem kw_X9_226 : Cond.constantLong RX9 226 (12) ∈ TT := TT_t4 (List.mem_of_getElem? (i := 196) (by decide +kernel)) (by decide +kernel)
theorem mw_X9_228 : Cond.methodLink RX9 228 yX9_tellsPart ∈ TT := TT_t4 (List.mem_of_getElem? (i := 201) (by decide +kernel)) (by decide +kernel)
theorem mw_X9_232 : Cond.methodLink RX9 232 yX9_chances ∈ TT := TT_t4 (List.mem_of_getElem? (i := 197) (by decide +kernel)) (by decide +kernel)
theorem kw_X9_235 : Cond.constantLong RX9 235 (20) ∈ TT := TT_t4 (List.mem_of_getElem? (i := 213) (by decide +kernel)) (by decide +kernel)
theorem kw_X9_237 : Cond.constantLong RX9 237 (2147483646) ∈ TT := TT_t4 (List.mem_of_getElem? (i := 214) (by decide +kernel)) (by decide +kernel)
theorem kw_X9_239 : Cond.constantLong RX9 239 (48271) ∈ TT := TT_t4 (List.mem_of_getElem? (i := 215) (by decide +kernel)) (by decide +kernel)
theorem kw_X9_241 : Cond.constantLong RX9 241 (2147483647) ∈ TT := TT_t4 (List.mem_of_getElem? (i := 216) (by decide +kernel)) (by decide +kernel)
theorem kw_X9_243 : Cond.constantLong RX9 243 (8) ∈ TT := TT_t4 (List.mem_of_getElem? (i := 217) (by decide +kernel)) (by decide +kernel)
theorem kw_X9_245 : Cond.constantLong RX9 245 (64) ∈ TT := TT_t4 (List.mem_of_getElem? (i := 218) (by decide +kernel)) (by decide +kernel)
theorem mw_X9_247 : Cond.methodLink RX9 247 yX9_manyOf ∈ TT := TT_t4 (List.mem_of_getElem? (i := 235) (by decide +kernel)) (by decide +kernel)
theorem mw_X9_250 : Cond.methodLink RX9 250 yX9_rowsThere ∈ TT := TT_t4 (List.mem_of_getElem? (i := 239) (by decide +kernel)) (by decide +kernel)
theorem mw_X9_253 : Cond.methodLink RX9 253 yX9_textsThere ∈ TT := TT_t5 (List.mem_of_getElem? (i := 3) (by decide +kernel)) (by decide +kernel)
theorem mw_X9_256 : Cond.methodLink RX9 256 yX9_banksKept ∈ TT := TT_t5 (List.mem_of_getElem? (i := 7) (by decide +kernel)) (by decide +kernel)
theorem kw_X9_259 : Cond.constantLong RX9 259 (31) ∈ TT := TT_t5 (List.mem_of_getElem? (i := 29) (by decide +kernel)) (by decide +kernel)
theorem fw_X9_261 : Cond.fieldLink RX9 261 "GlowDebtsModel" "h" "J" ∈ TT := TT_t3 (List.mem_of_getElem? (i := 85) (by decide +kernel)) (by decide +kernel)
theorem kw_X9_264 : Cond.constantLong RX9 264 (17) ∈ TT := TT_t5 (List.mem_of_getElem? (i := 23) (by decide +kernel)) (by decide +kernel)
theorem mw_X9_266 : Cond.methodLink RX9 266 yX9_count ∈ TT := TT_t5 (List.mem_of_getElem? (i := 24) (by decide +kernel)) (by decide +kernel)
theorem mw_X9_269 : Cond.methodLink RX9 269 yX9_mix ∈ TT := TT_t5 (List.mem_of_getElem? (i := 25) (by decide +kernel)) (by decide +kernel)
theorem kw_X9_273 : Cond.constantLong RX9 273 (-1) ∈ TT := TT_t5 (List.mem_of_getElem? (i := 30) (by decide +kernel)) (by decide +kernel)
theorem mw_X0_3 : Cond.methodLink RX0 3 objectInit ∈ TT := TT_t0 (List.mem_of_getElem? (i := 29) (by decide +kernel)) (by decide +kernel)
theorem fw_X0_9 : Cond.fieldLink RX0 9 "GlowDebts$Bank" "kinds" "[I" ∈ TT := TT_t0 (List.mem_of_getElem? (i := 30) (by decide +kernel)) (by decide +kernel)
theorem fw_X0_15 : Cond.fieldLink RX0 15 "GlowDebts$Bank" "owers" "[I" ∈ TT := TT_t0 (List.mem_of_getElem? (i := 31) (by decide +kernel)) (by decide +kernel)
theorem fw_X0_18 : Cond.fieldLink RX0 18 "GlowDebts$Bank" "creditors" "[I" ∈ TT := TT_t0 (List.mem_of_getElem? (i := 32) (by decide +kernel)) (by decide +kernel)
theorem fw_X0_21 : Cond.fieldLink RX0 21 "GlowDebts$Bank" "places" "[I" ∈ TT := TT_t0 (List.mem_of_getElem? (i := 33) (by decide +kernel)) (by decide +kernel)
theorem fw_X0_24 : Cond.fieldLink RX0 24 "GlowDebts$Bank" "firsts" "[I" ∈ TT := TT_t0 (List.mem_of_getElem? (i := 34) (by decide +kernel)) (by decide +kernel)
theorem fw_X0_27 : Cond.fieldLink RX0 27 "GlowDebts$Bank" "deeds" "[I" ∈ TT := TT_t0 (List.mem_of_getElem? (i := 35) (by decide +kernel)) (by decide +kernel)
theorem fw_X0_30 : Cond.fieldLink RX0 30 "GlowDebts$Bank" "size" "I" ∈ TT := TT_t0 (List.mem_of_getElem? (i := 36) (by decide +kernel)) (by decide +kernel)
theorem fw_X0_34 : Cond.fieldLink RX0 34 "GlowDebts$Bank" "litBits" "I" ∈ TT := TT_t0 (List.mem_of_getElem? (i := 37) (by decide +kernel)) (by decide +kernel)
theorem fw_X0_37 : Cond.fieldLink RX0 37 "GlowDebts$Bank" "nightNow" "I" ∈ TT := TT_t0 (List.mem_of_getElem? (i := 38) (by decide +kernel)) (by decide +kernel)
theorem fw_X0_40 : Cond.fieldLink RX0 40 "GlowDebts$Bank" "done" "I" ∈ TT := TT_t0 (List.mem_of_getElem? (i := 39) (by decide +kernel)) (by decide +kernel)
theorem mw_X0_43 : Cond.methodLink RX0 43 arraycopyName ∈ TT := TT_t1 (List.mem_of_getElem? (i := 190) (by decide +kernel)) (by decide +kernel)
theorem mw_X0_49 : Cond.methodLink RX0 49 yX0_has ∈ TT := TT_t1 (List.mem_of_getElem? (i := 66) (by decide +kernel)) (by decide +kernel)
theorem mw_X0_53 : Cond.methodLink RX0 53 yX0_isLit ∈ TT := TT_t1 (List.mem_of_getElem? (i := 83) (by decide +kernel)) (by decide +kernel)
theorem mw_X0_56 : Cond.methodLink RX0 56 yX0_kindOf ∈ TT := TT_t1 (List.mem_of_getElem? (i := 62) (by decide +kernel)) (by decide +kernel)
theorem mw_X0_60 : Cond.methodLink RX0 60 yX2_isOf ∈ TT := TT_t2 (List.mem_of_getElem? (i := 33) (by decide +kernel)) (by decide +kernel)
theorem mw_X0_66 : Cond.methodLink RX0 66 yX0_owerOf ∈ TT := TT_t1 (List.mem_of_getElem? (i := 67) (by decide +kernel)) (by decide +kernel)
theorem mw_X0_69 : Cond.methodLink RX0 69 yX0_creditorOf ∈ TT := TT_t1 (List.mem_of_getElem? (i := 71) (by decide +kernel)) (by decide +kernel)
theorem mw_X0_72 : Cond.methodLink RX0 72 yX0_placeOf ∈ TT := TT_t1 (List.mem_of_getElem? (i := 75) (by decide +kernel)) (by decide +kernel)
theorem mw_X0_75 : Cond.methodLink RX0 75 yX0_firstOf ∈ TT := TT_t1 (List.mem_of_getElem? (i := 79) (by decide +kernel)) (by decide +kernel)
theorem mw_X0_78 : Cond.methodLink RX0 78 yX0_glowOf ∈ TT := TT_t1 (List.mem_of_getElem? (i := 87) (by decide +kernel)) (by decide +kernel)
theorem mw_X0_82 : Cond.methodLink RX0 82 yX2_glow ∈ TT := TT_t1 (List.mem_of_getElem? (i := 91) (by decide +kernel)) (by decide +kernel)
theorem mw_X0_86 : Cond.methodLink RX0 86 Lib.Math.abs.name ∈ TT := TT_t1 (List.mem_of_getElem? (i := 210) (by decide +kernel)) (by decide +kernel)
theorem mw_X0_91 : Cond.methodLink RX0 91 Lib.Math.max.name ∈ TT := TT_t1 (List.mem_of_getElem? (i := 213) (by decide +kernel)) (by decide +kernel)
theorem mw_X0_94 : Cond.methodLink RX0 94 yX0_faded ∈ TT := TT_t1 (List.mem_of_getElem? (i := 207) (by decide +kernel)) (by decide +kernel)
theorem mw_X0_97 : Cond.methodLink RX0 97 yX0_glowAt ∈ TT := TT_t1 (List.mem_of_getElem? (i := 203) (by decide +kernel)) (by decide +kernel)
theorem mw_X0_100 : Cond.methodLink RX0 100 yX0_brightAt ∈ TT := TT_t1 (List.mem_of_getElem? (i := 225) (by decide +kernel)) (by decide +kernel)
theorem mw_X0_103 : Cond.methodLink RX0 103 yX0_isOwing ∈ TT := TT_t2 (List.mem_of_getElem? (i := 29) (by decide +kernel)) (by decide +kernel)
theorem mw_X0_106 : Cond.methodLink RX0 106 yX0_write ∈ TT := TT_t1 (List.mem_of_getElem? (i := 133) (by decide +kernel)) (by decide +kernel)
theorem kw_X0_110 : Cond.constantLong RX0 110 (8) ∈ TT := TT_t3 (List.mem_of_getElem? (i := 4) (by decide +kernel)) (by decide +kernel)
theorem kw_X0_112 : Cond.constantLong RX0 112 (4) ∈ TT := TT_t3 (List.mem_of_getElem? (i := 5) (by decide +kernel)) (by decide +kernel)
theorem mw_X0_114 : Cond.methodLink RX0 114 yX0_passNight ∈ TT := TT_t3 (List.mem_of_getElem? (i := 6) (by decide +kernel)) (by decide +kernel)
theorem kw_X0_117 : Cond.constantLong RX0 117 (64) ∈ TT := TT_t3 (List.mem_of_getElem? (i := 7) (by decide +kernel)) (by decide +kernel)
theorem kw_X0_119 : Cond.constantLong RX0 119 (10) ∈ TT := TT_t3 (List.mem_of_getElem? (i := 8) (by decide +kernel)) (by decide +kernel)
theorem mw_X0_121 : Cond.methodLink RX0 121 yX0_carryTo ∈ TT := TT_t3 (List.mem_of_getElem? (i := 9) (by decide +kernel)) (by decide +kernel)
theorem mw_X0_125 : Cond.methodLink RX0 125 yX0_putOut ∈ TT := TT_t3 (List.mem_of_getElem? (i := 10) (by decide +kernel)) (by decide +kernel)
theorem mw_X0_129 : Cond.methodLink RX0 129 yX0_lightAgain ∈ TT := TT_t3 (List.mem_of_getElem? (i := 11) (by decide +kernel)) (by decide +kernel)
theorem mw_X0_132 : Cond.methodLink RX0 132 yX0_takeBack ∈ TT := TT_t1 (List.mem_of_getElem? (i := 178) (by decide +kernel)) (by decide +kernel)
theorem mw_X1_3 : Cond.methodLink RX1 3 objectInit ∈ TT := TT_t0 (List.mem_of_getElem? (i := 81) (by decide +kernel)) (by decide +kernel)
theorem fw_X1_9 : Cond.fieldLink RX1 9 "GlowDebts$Chains" "steps" "[I" ∈ TT := TT_t0 (List.mem_of_getElem? (i := 82) (by decide +kernel)) (by decide +kernel)
theorem mw_X1_15 : Cond.methodLink RX1 15 yX0_size ∈ TT := TT_t2 (List.mem_of_getElem? (i := 92) (by decide +kernel)) (by decide +kernel)
theorem mw_X1_21 : Cond.methodLink RX1 21 yX0_owerOf ∈ TT := TT_t2 (List.mem_of_getElem? (i := 93) (by decide +kernel)) (by decide +kernel)
theorem mw_X1_25 : Cond.methodLink RX1 25 yX0_isOwing ∈ TT := TT_t2 (List.mem_of_getElem? (i := 94) (by decide +kernel)) (by decide +kernel)
theorem mw_X1_32 : Cond.methodLink RX1 32 yX0_creditorOf ∈ TT := TT_t2 (List.mem_of_getElem? (i := 96) (by decide +kernel)) (by decide +kernel)
theorem mw_X1_35 : Cond.methodLink RX1 35 yX1_stepsOf ∈ TT := TT_t2 (List.mem_of_getElem? (i := 97) (by decide +kernel)) (by decide +kernel)
theorem mw_X1_38 : Cond.methodLink RX1 38 yX5_renew ∈ TT := TT_t2 (List.mem_of_getElem? (i := 105) (by decide +kernel)) (by decide +kernel)
theorem mw_X1_44 : Cond.methodLink RX1 44 yX5_size ∈ TT := TT_t2 (List.mem_of_getElem? (i := 106) (by decide +kernel)) (by decide +kernel)
theorem mw_X1_45 : Cond.methodLink RX1 45 yX1_lowestNearer ∈ TT := TT_t2 (List.mem_of_getElem? (i := 107) (by decide +kernel)) (by decide +kernel)
theorem mw_X1_49 : Cond.methodLink RX1 49 yX5_set ∈ TT := TT_t2 (List.mem_of_getElem? (i := 111) (by decide +kernel)) (by decide +kernel)
theorem fw_X2_9 : Cond.fieldLink RX2 9 "GlowDebts$Kinds" "LETTERS" "[I" ∈ TT := TT_t1 (List.mem_of_getElem? (i := 18) (by decide +kernel)) (by decide +kernel)
theorem mw_X2_15 : Cond.methodLink RX2 15 yX2_parentOf ∈ TT := TT_t1 (List.mem_of_getElem? (i := 104) (by decide +kernel)) (by decide +kernel)
theorem mw_X2_19 : Cond.methodLink RX2 19 Lib.Math.min.name ∈ TT := TT_t1 (List.mem_of_getElem? (i := 94) (by decide +kernel)) (by decide +kernel)
theorem mw_X2_25 : Cond.methodLink RX2 25 Lib.Math.max.name ∈ TT := TT_t1 (List.mem_of_getElem? (i := 95) (by decide +kernel)) (by decide +kernel)
theorem mw_X2_28 : Cond.methodLink RX2 28 yX2_glow ∈ TT := TT_t1 (List.mem_of_getElem? (i := 115) (by decide +kernel)) (by decide +kernel)
theorem mw_X3_9 : Cond.methodLink RX3 9 yX5_size ∈ TT := TT_t2 (List.mem_of_getElem? (i := 143) (by decide +kernel)) (by decide +kernel)
theorem mw_X3_15 : Cond.methodLink RX3 15 yX5_get ∈ TT := TT_t2 (List.mem_of_getElem? (i := 144) (by decide +kernel)) (by decide +kernel)
theorem mw_X3_19 : Cond.methodLink RX3 19 yX2_glow ∈ TT := TT_t2 (List.mem_of_getElem? (i := 151) (by decide +kernel)) (by decide +kernel)
theorem mw_X3_25 : Cond.methodLink RX3 25 yX3_fit ∈ TT := TT_t2 (List.mem_of_getElem? (i := 148) (by decide +kernel)) (by decide +kernel)
theorem mw_X3_31 : Cond.methodLink RX3 31 yX3_largestPart ∈ TT := TT_t2 (List.mem_of_getElem? (i := 166) (by decide +kernel)) (by decide +kernel)
theorem mw_X3_34 : Cond.methodLink RX3 34 yX3_howManyGlow ∈ TT := TT_t2 (List.mem_of_getElem? (i := 169) (by decide +kernel)) (by decide +kernel)
theorem mw_X3_38 : Cond.methodLink RX3 38 Lib.Math.max.name ∈ TT := TT_t2 (List.mem_of_getElem? (i := 172) (by decide +kernel)) (by decide +kernel)
theorem mw_X3_44 : Cond.methodLink RX3 44 yX0_creditorOf ∈ TT := TT_t2 (List.mem_of_getElem? (i := 184) (by decide +kernel)) (by decide +kernel)
theorem mw_X3_49 : Cond.methodLink RX3 49 yX3_fitsOwer ∈ TT := TT_t2 (List.mem_of_getElem? (i := 185) (by decide +kernel)) (by decide +kernel)
theorem mw_X3_53 : Cond.methodLink RX3 53 yX0_isOwing ∈ TT := TT_t2 (List.mem_of_getElem? (i := 188) (by decide +kernel)) (by decide +kernel)
theorem mw_X3_57 : Cond.methodLink RX3 57 yX0_balanceOf ∈ TT := TT_t2 (List.mem_of_getElem? (i := 189) (by decide +kernel)) (by decide +kernel)
theorem mw_X3_60 : Cond.methodLink RX3 60 yX0_owerOf ∈ TT := TT_t2 (List.mem_of_getElem? (i := 190) (by decide +kernel)) (by decide +kernel)
theorem mw_X4_3 : Cond.methodLink RX4 3 objectInit ∈ TT := TT_t0 (List.mem_of_getElem? (i := 68) (by decide +kernel)) (by decide +kernel)
theorem fw_X4_9 : Cond.fieldLink RX4 9 "GlowDebts$Sets" "weights" "[I" ∈ TT := TT_t0 (List.mem_of_getElem? (i := 69) (by decide +kernel)) (by decide +kernel)
theorem fw_X4_15 : Cond.fieldLink RX4 15 "GlowDebts$Sets" "sums" "[I" ∈ TT := TT_t0 (List.mem_of_getElem? (i := 70) (by decide +kernel)) (by decide +kernel)
theorem mw_X4_18 : Cond.methodLink RX4 18 yX0_size ∈ TT := TT_t2 (List.mem_of_getElem? (i := 56) (by decide +kernel)) (by decide +kernel)
theorem mw_X4_24 : Cond.methodLink RX4 24 Lib.Math.min.name ∈ TT := TT_t2 (List.mem_of_getElem? (i := 57) (by decide +kernel)) (by decide +kernel)
theorem mw_X4_30 : Cond.methodLink RX4 30 yX0_has ∈ TT := TT_t2 (List.mem_of_getElem? (i := 124) (by decide +kernel)) (by decide +kernel)
theorem mw_X4_34 : Cond.methodLink RX4 34 yX0_thisNight ∈ TT := TT_t2 (List.mem_of_getElem? (i := 125) (by decide +kernel)) (by decide +kernel)
theorem mw_X4_37 : Cond.methodLink RX4 37 yX0_glowAt ∈ TT := TT_t2 (List.mem_of_getElem? (i := 126) (by decide +kernel)) (by decide +kernel)
theorem mw_X4_41 : Cond.methodLink RX4 41 yX4_sumUp ∈ TT := TT_t2 (List.mem_of_getElem? (i := 49) (by decide +kernel)) (by decide +kernel)
theorem mw_X4_44 : Cond.methodLink RX4 44 yX0_isOwing ∈ TT := TT_t2 (List.mem_of_getElem? (i := 46) (by decide +kernel)) (by decide +kernel)
theorem mw_X4_47 : Cond.methodLink RX4 47 yX0_owerOf ∈ TT := TT_t2 (List.mem_of_getElem? (i := 47) (by decide +kernel)) (by decide +kernel)
theorem mw_X4_51 : Cond.methodLink RX4 51 yX0_creditorOf ∈ TT := TT_t2 (List.mem_of_getElem? (i := 48) (by decide +kernel)) (by decide +kernel)
theorem mw_X4_54 : Cond.methodLink RX4 54 yX4_sumDebts ∈ TT := TT_t2 (List.mem_of_getElem? (i := 42) (by decide +kernel)) (by decide +kernel)
theorem mw_X4_58 : Cond.methodLink RX4 58 yX4_setsOf ∈ TT := TT_t2 (List.mem_of_getElem? (i := 53) (by decide +kernel)) (by decide +kernel)
theorem mw_X4_61 : Cond.methodLink RX4 61 yX4_isWithin ∈ TT := TT_t2 (List.mem_of_getElem? (i := 58) (by decide +kernel)) (by decide +kernel)
theorem mw_X4_65 : Cond.methodLink RX4 65 yJ6_bitCount_0f7a4 ∈ TT := TT_t2 (List.mem_of_getElem? (i := 61) (by decide +kernel)) (by decide +kernel)
theorem mw_X4_70 : Cond.methodLink RX4 70 yX4_sumGlow ∈ TT := TT_t2 (List.mem_of_getElem? (i := 120) (by decide +kernel)) (by decide +kernel)
theorem mw_X4_74 : Cond.methodLink RX4 74 yX0_litSet ∈ TT := TT_t2 (List.mem_of_getElem? (i := 127) (by decide +kernel)) (by decide +kernel)
theorem mw_X4_77 : Cond.methodLink RX4 77 yX0_brightAt ∈ TT := TT_t2 (List.mem_of_getElem? (i := 131) (by decide +kernel)) (by decide +kernel)
theorem mw_X4_80 : Cond.methodLink RX4 80 yX4_letOneAnswer ∈ TT := TT_t2 (List.mem_of_getElem? (i := 199) (by decide +kernel)) (by decide +kernel)
theorem mw_X4_84 : Cond.methodLink RX4 84 yX4_letOneLight ∈ TT := TT_t2 (List.mem_of_getElem? (i := 203) (by decide +kernel)) (by decide +kernel)
theorem mw_X4_87 : Cond.methodLink RX4 87 Lib.Math.max.name ∈ TT := TT_t2 (List.mem_of_getElem? (i := 207) (by decide +kernel)) (by decide +kernel)
theorem mw_X4_90 : Cond.methodLink RX4 90 yX4_power ∈ TT := TT_t2 (List.mem_of_getElem? (i := 216) (by decide +kernel)) (by decide +kernel)
theorem mw_X5_1 : Cond.methodLink RX5 1 objectInit ∈ TT := TT_t0 (List.mem_of_getElem? (i := 90) (by decide +kernel)) (by decide +kernel)
theorem fw_X5_9 : Cond.fieldLink RX5 9 "GlowDebts$Strip" "size" "I" ∈ TT := TT_t0 (List.mem_of_getElem? (i := 95) (by decide +kernel)) (by decide +kernel)
theorem mw_X5_13 : Cond.methodLink RX5 13 Lib.Math.max.name ∈ TT := TT_t0 (List.mem_of_getElem? (i := 91) (by decide +kernel)) (by decide +kernel)
theorem fw_X5_19 : Cond.fieldLink RX5 19 "GlowDebts$Strip" "cells" "[I" ∈ TT := TT_t0 (List.mem_of_getElem? (i := 94) (by decide +kernel)) (by decide +kernel)
theorem mw_X5_23 : Cond.methodLink RX5 23 Lib.Math.min.name ∈ TT := TT_t0 (List.mem_of_getElem? (i := 159) (by decide +kernel)) (by decide +kernel)
theorem mw_X5_26 : Cond.methodLink RX5 26 yX5_holds ∈ TT := TT_t0 (List.mem_of_getElem? (i := 186) (by decide +kernel)) (by decide +kernel)
theorem mw_X5_30 : Cond.methodLink RX5 30 yX5_holdsRun ∈ TT := TT_t0 (List.mem_of_getElem? (i := 215) (by decide +kernel)) (by decide +kernel)
theorem mw_X5_34 : Cond.methodLink RX5 34 arraycopyName ∈ TT := TT_t0 (List.mem_of_getElem? (i := 216) (by decide +kernel)) (by decide +kernel)
theorem mw_X6_11 : Cond.methodLink RX6 11 yX0_thisNight ∈ TT := TT_t2 (List.mem_of_getElem? (i := 9) (by decide +kernel)) (by decide +kernel)
theorem mw_X6_17 : Cond.methodLink RX6 17 yX0_brightAt ∈ TT := TT_t2 (List.mem_of_getElem? (i := 10) (by decide +kernel)) (by decide +kernel)
theorem mw_X6_21 : Cond.methodLink RX6 21 Lib.Math.min.name ∈ TT := TT_t2 (List.mem_of_getElem? (i := 11) (by decide +kernel)) (by decide +kernel)
theorem mw_X7_9 : Cond.methodLink RX7 9 yX5_size ∈ TT := TT_t1 (List.mem_of_getElem? (i := 10) (by decide +kernel)) (by decide +kernel)
theorem mw_X7_15 : Cond.methodLink RX7 15 yX5_get ∈ TT := TT_t1 (List.mem_of_getElem? (i := 11) (by decide +kernel)) (by decide +kernel)
theorem mw_X7_19 : Cond.methodLink RX7 19 yX7_itemFault ∈ TT := TT_t1 (List.mem_of_getElem? (i := 12) (by decide +kernel)) (by decide +kernel)
theorem mw_X7_25 : Cond.methodLink RX7 25 yX2_ofLetter ∈ TT := TT_t1 (List.mem_of_getElem? (i := 15) (by decide +kernel)) (by decide +kernel)
theorem mw_X7_30 : Cond.methodLink RX7 30 yX7_isFigureOf ∈ TT := TT_t1 (List.mem_of_getElem? (i := 20) (by decide +kernel)) (by decide +kernel)
theorem mw_X7_34 : Cond.methodLink RX7 34 yX7_figureAt ∈ TT := TT_t1 (List.mem_of_getElem? (i := 23) (by decide +kernel)) (by decide +kernel)
theorem mw_X7_37 : Cond.methodLink RX7 37 yX0_clear ∈ TT := TT_t1 (List.mem_of_getElem? (i := 33) (by decide +kernel)) (by decide +kernel)
theorem mw_X7_42 : Cond.methodLink RX7 42 yX0_add ∈ TT := TT_t1 (List.mem_of_getElem? (i := 37) (by decide +kernel)) (by decide +kernel)
theorem mw_L_9 : Cond.methodLink RL 9 yX8_init ∈ TT := TT_t0 (List.mem_of_getElem? (i := 16) (by decide +kernel)) (by decide +kernel)
theorem mw_L_12 : Cond.methodLink RL 12 yX9_init ∈ TT := TT_t3 (List.mem_of_getElem? (i := 59) (by decide +kernel)) (by decide +kernel)
theorem mw_L_13 : Cond.methodLink RL 13 yX8_row ∈ TT := TT_t0 (List.mem_of_getElem? (i := 135) (by decide +kernel)) (by decide +kernel)
theorem mw_L_17 : Cond.methodLink RL 17 yX9_row ∈ TT := TT_t3 (List.mem_of_getElem? (i := 133) (by decide +kernel)) (by decide +kernel)
theorem mw_L_18 : Cond.methodLink RL 18 yX8_lay ∈ TT := TT_t0 (List.mem_of_getElem? (i := 162) (by decide +kernel)) (by decide +kernel)
theorem mw_L_22 : Cond.methodLink RL 22 yX9_lay ∈ TT := TT_t3 (List.mem_of_getElem? (i := 148) (by decide +kernel)) (by decide +kernel)
theorem mw_L_23 : Cond.methodLink RL 23 yX8_at ∈ TT := TT_t0 (List.mem_of_getElem? (i := 191) (by decide +kernel)) (by decide +kernel)
theorem mw_L_26 : Cond.methodLink RL 26 yX9_at ∈ TT := TT_t3 (List.mem_of_getElem? (i := 156) (by decide +kernel)) (by decide +kernel)
theorem mw_L_27 : Cond.methodLink RL 27 yX8_tear ∈ TT := TT_t0 (List.mem_of_getElem? (i := 195) (by decide +kernel)) (by decide +kernel)
theorem mw_L_31 : Cond.methodLink RL 31 yX9_tear ∈ TT := TT_t3 (List.mem_of_getElem? (i := 160) (by decide +kernel)) (by decide +kernel)
theorem mw_L_32 : Cond.methodLink RL 32 yX8_copy ∈ TT := TT_t0 (List.mem_of_getElem? (i := 203) (by decide +kernel)) (by decide +kernel)
theorem mw_L_36 : Cond.methodLink RL 36 yX9_copy ∈ TT := TT_t3 (List.mem_of_getElem? (i := 164) (by decide +kernel)) (by decide +kernel)
theorem mw_L_37 : Cond.methodLink RL 37 yX8_mean ∈ TT := TT_t0 (List.mem_of_getElem? (i := 219) (by decide +kernel)) (by decide +kernel)
theorem mw_L_40 : Cond.methodLink RL 40 yX9_mean ∈ TT := TT_t3 (List.mem_of_getElem? (i := 168) (by decide +kernel)) (by decide +kernel)
theorem mw_L_41 : Cond.methodLink RL 41 yX8_text ∈ TT := TT_t0 (List.mem_of_getElem? (i := 231) (by decide +kernel)) (by decide +kernel)
theorem mw_L_44 : Cond.methodLink RL 44 yX9_text ∈ TT := TT_t3 (List.mem_of_getElem? (i := 172) (by decide +kernel)) (by decide +kernel)
theorem mw_L_45 : Cond.methodLink RL 45 yX8_put ∈ TT := TT_t0 (List.mem_of_getElem? (i := 239) (by decide +kernel)) (by decide +kernel)
theorem mw_L_48 : Cond.methodLink RL 48 yX9_put ∈ TT := TT_t3 (List.mem_of_getElem? (i := 180) (by decide +kernel)) (by decide +kernel)
theorem mw_L_49 : Cond.methodLink RL 49 yX8_fault ∈ TT := TT_t1 (List.mem_of_getElem? (i := 3) (by decide +kernel)) (by decide +kernel)
theorem mw_L_52 : Cond.methodLink RL 52 yX9_fault ∈ TT := TT_t3 (List.mem_of_getElem? (i := 184) (by decide +kernel)) (by decide +kernel)
theorem mw_L_53 : Cond.methodLink RL 53 yX8_bank ∈ TT := TT_t1 (List.mem_of_getElem? (i := 26) (by decide +kernel)) (by decide +kernel)
theorem mw_L_56 : Cond.methodLink RL 56 yX9_bank ∈ TT := TT_t3 (List.mem_of_getElem? (i := 207) (by decide +kernel)) (by decide +kernel)
theorem mw_L_57 : Cond.methodLink RL 57 yX8_light ∈ TT := TT_t1 (List.mem_of_getElem? (i := 50) (by decide +kernel)) (by decide +kernel)
theorem mw_L_60 : Cond.methodLink RL 60 yX9_light ∈ TT := TT_t3 (List.mem_of_getElem? (i := 211) (by decide +kernel)) (by decide +kernel)
theorem mw_L_61 : Cond.methodLink RL 61 yX8_mark ∈ TT := TT_t1 (List.mem_of_getElem? (i := 96) (by decide +kernel)) (by decide +kernel)
theorem mw_L_64 : Cond.methodLink RL 64 yX9_mark ∈ TT := TT_t3 (List.mem_of_getElem? (i := 237) (by decide +kernel)) (by decide +kernel)
theorem mw_L_65 : Cond.methodLink RL 65 yX8_glows ∈ TT := TT_t1 (List.mem_of_getElem? (i := 116) (by decide +kernel)) (by decide +kernel)
theorem mw_L_68 : Cond.methodLink RL 68 yX9_glows ∈ TT := TT_t4 (List.mem_of_getElem? (i := 4) (by decide +kernel)) (by decide +kernel)
theorem mw_L_69 : Cond.methodLink RL 69 yX8_night ∈ TT := TT_t1 (List.mem_of_getElem? (i := 121) (by decide +kernel)) (by decide +kernel)
theorem mw_L_73 : Cond.methodLink RL 73 yX9_night ∈ TT := TT_t4 (List.mem_of_getElem? (i := 9) (by decide +kernel)) (by decide +kernel)
theorem mw_L_74 : Cond.methodLink RL 74 yX8_answer ∈ TT := TT_t1 (List.mem_of_getElem? (i := 141) (by decide +kernel)) (by decide +kernel)
theorem mw_L_77 : Cond.methodLink RL 77 yX9_answer ∈ TT := TT_t4 (List.mem_of_getElem? (i := 24) (by decide +kernel)) (by decide +kernel)
theorem mw_L_78 : Cond.methodLink RL 78 yX8_relight ∈ TT := TT_t1 (List.mem_of_getElem? (i := 150) (by decide +kernel)) (by decide +kernel)
theorem mw_L_81 : Cond.methodLink RL 81 yX9_relight ∈ TT := TT_t4 (List.mem_of_getElem? (i := 32) (by decide +kernel)) (by decide +kernel)
theorem mw_L_82 : Cond.methodLink RL 82 yX8_carry ∈ TT := TT_t1 (List.mem_of_getElem? (i := 158) (by decide +kernel)) (by decide +kernel)
theorem mw_L_85 : Cond.methodLink RL 85 yX9_carry ∈ TT := TT_t4 (List.mem_of_getElem? (i := 36) (by decide +kernel)) (by decide +kernel)
theorem mw_L_86 : Cond.methodLink RL 86 yX8_undo ∈ TT := TT_t1 (List.mem_of_getElem? (i := 170) (by decide +kernel)) (by decide +kernel)
theorem mw_L_89 : Cond.methodLink RL 89 yX9_undo ∈ TT := TT_t4 (List.mem_of_getElem? (i := 44) (by decide +kernel)) (by decide +kernel)
theorem mw_L_90 : Cond.methodLink RL 90 yX8_keep ∈ TT := TT_t1 (List.mem_of_getElem? (i := 182) (by decide +kernel)) (by decide +kernel)
theorem mw_L_93 : Cond.methodLink RL 93 yX9_keep ∈ TT := TT_t4 (List.mem_of_getElem? (i := 48) (by decide +kernel)) (by decide +kernel)
theorem mw_L_94 : Cond.methodLink RL 94 yX8_on ∈ TT := TT_t1 (List.mem_of_getElem? (i := 191) (by decide +kernel)) (by decide +kernel)
theorem mw_L_97 : Cond.methodLink RL 97 yX9_on ∈ TT := TT_t4 (List.mem_of_getElem? (i := 57) (by decide +kernel)) (by decide +kernel)
theorem mw_L_98 : Cond.methodLink RL 98 yX8_bright ∈ TT := TT_t1 (List.mem_of_getElem? (i := 195) (by decide +kernel)) (by decide +kernel)
theorem mw_L_101 : Cond.methodLink RL 101 yX9_bright ∈ TT := TT_t4 (List.mem_of_getElem? (i := 61) (by decide +kernel)) (by decide +kernel)
theorem mw_L_102 : Cond.methodLink RL 102 yX8_along ∈ TT := TT_t1 (List.mem_of_getElem? (i := 214) (by decide +kernel)) (by decide +kernel)
theorem mw_L_105 : Cond.methodLink RL 105 yX9_along ∈ TT := TT_t4 (List.mem_of_getElem? (i := 80) (by decide +kernel)) (by decide +kernel)
theorem mw_L_106 : Cond.methodLink RL 106 yX8_when ∈ TT := TT_t1 (List.mem_of_getElem? (i := 226) (by decide +kernel)) (by decide +kernel)
theorem mw_L_109 : Cond.methodLink RL 109 yX9_when ∈ TT := TT_t4 (List.mem_of_getElem? (i := 88) (by decide +kernel)) (by decide +kernel)
theorem mw_L_110 : Cond.methodLink RL 110 yX8_stow ∈ TT := TT_t1 (List.mem_of_getElem? (i := 230) (by decide +kernel)) (by decide +kernel)
theorem mw_L_113 : Cond.methodLink RL 113 yX9_stow ∈ TT := TT_t4 (List.mem_of_getElem? (i := 93) (by decide +kernel)) (by decide +kernel)
theorem mw_L_114 : Cond.methodLink RL 114 yX8_dark ∈ TT := TT_t1 (List.mem_of_getElem? (i := 238) (by decide +kernel)) (by decide +kernel)
theorem mw_L_117 : Cond.methodLink RL 117 yX9_dark ∈ TT := TT_t4 (List.mem_of_getElem? (i := 98) (by decide +kernel)) (by decide +kernel)
theorem mw_L_118 : Cond.methodLink RL 118 yX8_road ∈ TT := TT_t2 (List.mem_of_getElem? (i := 2) (by decide +kernel)) (by decide +kernel)
theorem mw_L_121 : Cond.methodLink RL 121 yX9_road ∈ TT := TT_t4 (List.mem_of_getElem? (i := 103) (by decide +kernel)) (by decide +kernel)
theorem mw_L_122 : Cond.methodLink RL 122 yX8_owes ∈ TT := TT_t2 (List.mem_of_getElem? (i := 18) (by decide +kernel)) (by decide +kernel)
theorem mw_L_125 : Cond.methodLink RL 125 yX9_owes ∈ TT := TT_t4 (List.mem_of_getElem? (i := 107) (by decide +kernel)) (by decide +kernel)
theorem mw_L_126 : Cond.methodLink RL 126 yX8_ring ∈ TT := TT_t2 (List.mem_of_getElem? (i := 34) (by decide +kernel)) (by decide +kernel)
theorem mw_L_129 : Cond.methodLink RL 129 yX9_ring ∈ TT := TT_t4 (List.mem_of_getElem? (i := 123) (by decide +kernel)) (by decide +kernel)
theorem mw_L_130 : Cond.methodLink RL 130 yX8_rings ∈ TT := TT_t2 (List.mem_of_getElem? (i := 68) (by decide +kernel)) (by decide +kernel)
theorem mw_L_133 : Cond.methodLink RL 133 yX9_rings ∈ TT := TT_t4 (List.mem_of_getElem? (i := 134) (by decide +kernel)) (by decide +kernel)
theorem mw_L_134 : Cond.methodLink RL 134 yX8_least ∈ TT := TT_t2 (List.mem_of_getElem? (i := 76) (by decide +kernel)) (by decide +kernel)
theorem mw_L_137 : Cond.methodLink RL 137 yX9_least ∈ TT := TT_t4 (List.mem_of_getElem? (i := 138) (by decide +kernel)) (by decide +kernel)
theorem mw_L_138 : Cond.methodLink RL 138 yX8_chain ∈ TT := TT_t2 (List.mem_of_getElem? (i := 84) (by decide +kernel)) (by decide +kernel)
theorem mw_L_141 : Cond.methodLink RL 141 yX9_chain ∈ TT := TT_t4 (List.mem_of_getElem? (i := 142) (by decide +kernel)) (by decide +kernel)
theorem mw_L_142 : Cond.methodLink RL 142 yX8_dim ∈ TT := TT_t2 (List.mem_of_getElem? (i := 112) (by decide +kernel)) (by decide +kernel)
theorem mw_L_145 : Cond.methodLink RL 145 yX9_dim ∈ TT := TT_t4 (List.mem_of_getElem? (i := 147) (by decide +kernel)) (by decide +kernel)
theorem mw_L_146 : Cond.methodLink RL 146 yX8_firsts ∈ TT := TT_t2 (List.mem_of_getElem? (i := 132) (by decide +kernel)) (by decide +kernel)
theorem mw_L_149 : Cond.methodLink RL 149 yX9_firsts ∈ TT := TT_t4 (List.mem_of_getElem? (i := 151) (by decide +kernel)) (by decide +kernel)
theorem mw_L_150 : Cond.methodLink RL 150 yX8_kinds ∈ TT := TT_t2 (List.mem_of_getElem? (i := 152) (by decide +kernel)) (by decide +kernel)
theorem mw_L_153 : Cond.methodLink RL 153 yX9_kinds ∈ TT := TT_t4 (List.mem_of_getElem? (i := 163) (by decide +kernel)) (by decide +kernel)
theorem mw_L_154 : Cond.methodLink RL 154 yX8_test ∈ TT := TT_t2 (List.mem_of_getElem? (i := 159) (by decide +kernel)) (by decide +kernel)
theorem mw_L_157 : Cond.methodLink RL 157 yX9_test ∈ TT := TT_t4 (List.mem_of_getElem? (i := 171) (by decide +kernel)) (by decide +kernel)
theorem mw_L_158 : Cond.methodLink RL 158 yX8_whose ∈ TT := TT_t2 (List.mem_of_getElem? (i := 174) (by decide +kernel)) (by decide +kernel)
theorem mw_L_161 : Cond.methodLink RL 161 yX9_whose ∈ TT := TT_t4 (List.mem_of_getElem? (i := 179) (by decide +kernel)) (by decide +kernel)
theorem mw_L_162 : Cond.methodLink RL 162 yX8_duel ∈ TT := TT_t2 (List.mem_of_getElem? (i := 191) (by decide +kernel)) (by decide +kernel)
theorem mw_L_165 : Cond.methodLink RL 165 yX9_duel ∈ TT := TT_t4 (List.mem_of_getElem? (i := 183) (by decide +kernel)) (by decide +kernel)
theorem mw_L_166 : Cond.methodLink RL 166 yX8_odds ∈ TT := TT_t2 (List.mem_of_getElem? (i := 208) (by decide +kernel)) (by decide +kernel)
theorem mw_L_169 : Cond.methodLink RL 169 yX9_odds ∈ TT := TT_t4 (List.mem_of_getElem? (i := 192) (by decide +kernel)) (by decide +kernel)
theorem mw_L_170 : Cond.methodLink RL 170 yX8_mid ∈ TT := TT_t2 (List.mem_of_getElem? (i := 228) (by decide +kernel)) (by decide +kernel)
theorem mw_L_173 : Cond.methodLink RL 173 yX9_mid ∈ TT := TT_t4 (List.mem_of_getElem? (i := 205) (by decide +kernel)) (by decide +kernel)
theorem mw_L_174 : Cond.methodLink RL 174 yX8_lots ∈ TT := TT_t2 (List.mem_of_getElem? (i := 233) (by decide +kernel)) (by decide +kernel)
theorem mw_L_177 : Cond.methodLink RL 177 yX9_lots ∈ TT := TT_t4 (List.mem_of_getElem? (i := 209) (by decide +kernel)) (by decide +kernel)
theorem mw_L_178 : Cond.methodLink RL 178 yX8_asked ∈ TT := TT_t3 (List.mem_of_getElem? (i := 12) (by decide +kernel)) (by decide +kernel)
theorem mw_L_181 : Cond.methodLink RL 181 yX9_asked ∈ TT := TT_t4 (List.mem_of_getElem? (i := 219) (by decide +kernel)) (by decide +kernel)
theorem mw_L_182 : Cond.methodLink RL 182 yX8_upper ∈ TT := TT_t3 (List.mem_of_getElem? (i := 16) (by decide +kernel)) (by decide +kernel)
theorem mw_L_186 : Cond.methodLink RL 186 yX9_upper ∈ TT := TT_t4 (List.mem_of_getElem? (i := 223) (by decide +kernel)) (by decide +kernel)
theorem mw_L_187 : Cond.methodLink RL 187 yX8_lower ∈ TT := TT_t3 (List.mem_of_getElem? (i := 20) (by decide +kernel)) (by decide +kernel)
theorem mw_L_190 : Cond.methodLink RL 190 yX9_lower ∈ TT := TT_t4 (List.mem_of_getElem? (i := 227) (by decide +kernel)) (by decide +kernel)
theorem mw_L_191 : Cond.methodLink RL 191 yX8_count ∈ TT := TT_t3 (List.mem_of_getElem? (i := 24) (by decide +kernel)) (by decide +kernel)
theorem mw_L_194 : Cond.methodLink RL 194 yX9_count ∈ TT := TT_t4 (List.mem_of_getElem? (i := 231) (by decide +kernel)) (by decide +kernel)
theorem mw_L_195 : Cond.methodLink RL 195 yX8_finding ∈ TT := TT_t3 (List.mem_of_getElem? (i := 39) (by decide +kernel)) (by decide +kernel)
theorem mw_L_198 : Cond.methodLink RL 198 yX9_finding ∈ TT := TT_t5 (List.mem_of_getElem? (i := 11) (by decide +kernel)) (by decide +kernel)
theorem mw_L_199 : Cond.methodLink RL 199 yX8_findings ∈ TT := TT_t3 (List.mem_of_getElem? (i := 43) (by decide +kernel)) (by decide +kernel)
theorem mw_L_202 : Cond.methodLink RL 202 yX9_findings ∈ TT := TT_t5 (List.mem_of_getElem? (i := 15) (by decide +kernel)) (by decide +kernel)
theorem mw_L_203 : Cond.methodLink RL 203 yX8_digest ∈ TT := TT_t3 (List.mem_of_getElem? (i := 47) (by decide +kernel)) (by decide +kernel)
theorem mw_L_206 : Cond.methodLink RL 206 yX9_digest ∈ TT := TT_t5 (List.mem_of_getElem? (i := 19) (by decide +kernel)) (by decide +kernel)
theorem ix_X0 : ∀ w ∈ u_ws RX0 TX0 10, w ∈ TT := by
  have h1 : ∀ w ∈ u_ws RX0 TX0 10, w ∈ tables_1 := by decide +kernel
  have h2 : (u_ws RX0 TX0 10).all goodWord = true := by decide +kernel
  exact fun w h => TT_of (h1 w h) (List.all_eq_true.mp h2 w h)
theorem ix_X1 : ∀ w ∈ u_ws RX1 TX1 1, w ∈ TT := by
  have h1 : ∀ w ∈ u_ws RX1 TX1 1, w ∈ tables_1 := by decide +kernel
  have h2 : (u_ws RX1 TX1 1).all goodWord = true := by decide +kernel
  exact fun w h => TT_of (h1 w h) (List.all_eq_true.mp h2 w h)
theorem ix_X4 : ∀ w ∈ u_ws RX4 TX4 2, w ∈ TT := by
  have h1 : ∀ w ∈ u_ws RX4 TX4 2, w ∈ tables_1 := by decide +kernel
  have h2 : (u_ws RX4 TX4 2).all goodWord = true := by decide +kernel
  exact fun w h => TT_of (h1 w h) (List.all_eq_true.mp h2 w h)
theorem ix_X5 : ∀ w ∈ u_ws RX5 TX5 2, w ∈ TT := by
  have h1 : ∀ w ∈ u_ws RX5 TX5 2, w ∈ tables_1 := by decide +kernel
  have h2 : (u_ws RX5 TX5 2).all goodWord = true := by decide +kernel
  exact fun w h => TT_of (h1 w h) (List.all_eq_true.mp h2 w h)
theorem ix_X8 : ∀ w ∈ u_ws RX8 TX8 11, w ∈ TT := by
  have h1 : ∀ w ∈ u_ws RX8 TX8 11, w ∈ tables_1 := by decide +kernel
  have h2 : (u_ws RX8 TX8 11).all goodWord = true := by decide +kernel
  exact fun w h => TT_of (h1 w h) (List.all_eq_true.mp h2 w h)
theorem ix_X9 : ∀ w ∈ u_ws RX9 TX9 23, w ∈ TT := by
  have h1 : ∀ w ∈ u_ws RX9 TX9 23, w ∈ tables_1 := by decide +kernel
  have h2 : (u_ws RX9 TX9 23).all goodWord = true := by decide +kernel
  exact fun w h => TT_of (h1 w h) (List.all_eq_true.mp h2 w h)
abbrev Ym : Type := MethodName × ByteArray × Nat × Option FieldType × Nat
def JV (J : Ym) (n : Nat) : Prop := (J.1.cls ≠ "java/lang/invoke/MethodHandle" ∧ J.1.cls ≠ "java/lang/invoke/VarHandle" ∧ (parseMethodDescriptor J.1.desc).map (fun d => d.parameters.length) = some n) ∧ GoodIn TT [.instanceMethod J.1, .selects J.1.cls J.1 J.1, .initialized J.1.cls, .code J.1 J.2.1 J.2.2.1 J.2.2.2.1]
def JS (J : Ym) (n : Nat) : Prop := (J.1.cls ≠ "java/lang/invoke/MethodHandle" ∧ J.1.cls ≠ "java/lang/invoke/VarHandle" ∧ (parseMethodDescriptor J.1.desc).map (fun d => d.parameters.length) = some n) ∧ GoodIn TT [.static J.1, .initialized J.1.cls, .code J.1 J.2.1 J.2.2.1 J.2.2.2.1]
theorem in_c {c : String} (h : Cond.initialized c ∈ TT) : Cond.initialized c ∈ TT := h
theorem in_X0 : Cond.initialized "GlowDebts$Bank" ∈ TT := TT_t0 (List.mem_of_getElem? (i := 2) (by decide +kernel)) (by decide +kernel)
theorem in_X1 : Cond.initialized "GlowDebts$Chains" ∈ TT := TT_t0 (List.mem_of_getElem? (i := 4) (by decide +kernel)) (by decide +kernel)
theorem in_X2 : Cond.initialized "GlowDebts$Kinds" ∈ TT := TT_t0 (List.mem_of_getElem? (i := 10) (by decide +kernel)) (by decide +kernel)
theorem in_X3 : Cond.initialized "GlowDebts$Looks" ∈ TT := TT_t0 (List.mem_of_getElem? (i := 13) (by decide +kernel)) (by decide +kernel)
theorem in_X4 : Cond.initialized "GlowDebts$Sets" ∈ TT := TT_t0 (List.mem_of_getElem? (i := 3) (by decide +kernel)) (by decide +kernel)
theorem in_X5 : Cond.initialized "GlowDebts$Strip" ∈ TT := TT_t0 (List.mem_of_getElem? (i := 5) (by decide +kernel)) (by decide +kernel)
theorem in_X6 : Cond.initialized "GlowDebts$Ways" ∈ TT := TT_t0 (List.mem_of_getElem? (i := 11) (by decide +kernel)) (by decide +kernel)
theorem in_X7 : Cond.initialized "GlowDebts$Wording" ∈ TT := TT_t0 (List.mem_of_getElem? (i := 9) (by decide +kernel)) (by decide +kernel)
theorem in_X8 : Cond.initialized "GlowDebts" ∈ TT := TT_t0 (List.mem_of_getElem? (i := 1) (by decide +kernel)) (by decide +kernel)
theorem in_X9 : Cond.initialized "GlowDebtsModel" ∈ TT := TT_t0 (List.mem_of_getElem? (i := 7) (by decide +kernel)) (by decide +kernel)
theorem in_J6 : Cond.initialized "java/lang/Integer" ∈ TT := TT_t0 (List.mem_of_getElem? (i := 12) (by decide +kernel)) (by decide +kernel)
theorem in_J9 : Cond.initialized "java/lang/Math" ∈ TT := TT_t0 (List.mem_of_getElem? (i := 6) (by decide +kernel)) (by decide +kernel)
theorem in_J10 : Cond.initialized "java/lang/System" ∈ TT := TT_t0 (List.mem_of_getElem? (i := 8) (by decide +kernel)) (by decide +kernel)
theorem in_L : Cond.initialized "GlowDebtsLaw" ∈ TT := TT_t0 (List.mem_of_getElem? (i := 0) (by decide +kernel)) (by decide +kernel)
abbrev i_X8_row : Ym := (yX8_row, cX8_row, 3, (some .int), 3)
theorem j_X8_row : JV i_X8_row 2 := ⟨⟨by decide +kernel, by decide +kernel, by decide +kernel⟩, TT_2 (TT_t0 (List.mem_of_getElem? (i := 136) (by decide +kernel)) (by decide +kernel)) (TT_2 (TT_t0 (List.mem_of_getElem? (i := 137) (by decide +kernel)) (by decide +kernel)) (TT_2 in_X8 (TT_2 (TT_t0 (List.mem_of_getElem? (i := 138) (by decide +kernel)) (by decide +kernel)) TT_0)))⟩
abbrev i_X8_lay : Ym := (yX8_lay, cX8_lay, 6, (some .int), 3)
theorem j_X8_lay : JV i_X8_lay 3 := ⟨⟨by decide +kernel, by decide +kernel, by decide +kernel⟩, TT_2 (TT_t0 (List.mem_of_getElem? (i := 163) (by decide +kernel)) (by decide +kernel)) (TT_2 (TT_t0 (List.mem_of_getElem? (i := 164) (by decide +kernel)) (by decide +kernel)) (TT_2 in_X8 (TT_2 (TT_t0 (List.mem_of_getElem? (i := 165) (by decide +kernel)) (by decide +kernel)) TT_0)))⟩
abbrev i_X8_at : Ym := (yX8_at, cX8_at, 5, (some .int), 3)
theorem j_X8_at : JV i_X8_at 2 := ⟨⟨by decide +kernel, by decide +kernel, by decide +kernel⟩, TT_2 (TT_t0 (List.mem_of_getElem? (i := 192) (by decide +kernel)) (by decide +kernel)) (TT_2 (TT_t0 (List.mem_of_getElem? (i := 193) (by decide +kernel)) (by decide +kernel)) (TT_2 in_X8 (TT_2 (TT_t0 (List.mem_of_getElem? (i := 194) (by decide +kernel)) (by decide +kernel)) TT_0)))⟩
abbrev i_X8_tear : Ym := (yX8_tear, cX8_tear, 4, (some .int), 2)
theorem j_X8_tear : JV i_X8_tear 1 := ⟨⟨by decide +kernel, by decide +kernel, by decide +kernel⟩, TT_2 (TT_t0 (List.mem_of_getElem? (i := 196) (by decide +kernel)) (by decide +kernel)) (TT_2 (TT_t0 (List.mem_of_getElem? (i := 197) (by decide +kernel)) (by decide +kernel)) (TT_2 in_X8 (TT_2 (TT_t0 (List.mem_of_getElem? (i := 198) (by decide +kernel)) (by decide +kernel)) TT_0)))⟩
abbrev i_X8_copy : Ym := (yX8_copy, cX8_copy, 8, (some .int), 2)
theorem j_X8_copy : JV i_X8_copy 5 := ⟨⟨by decide +kernel, by decide +kernel, by decide +kernel⟩, TT_2 (TT_t0 (List.mem_of_getElem? (i := 204) (by decide +kernel)) (by decide +kernel)) (TT_2 (TT_t0 (List.mem_of_getElem? (i := 205) (by decide +kernel)) (by decide +kernel)) (TT_2 in_X8 (TT_2 (TT_t0 (List.mem_of_getElem? (i := 206) (by decide +kernel)) (by decide +kernel)) TT_0)))⟩
abbrev i_X8_mean : Ym := (yX8_mean, cX8_mean, 5, (some .int), 2)
theorem j_X8_mean : JV i_X8_mean 1 := ⟨⟨by decide +kernel, by decide +kernel, by decide +kernel⟩, TT_2 (TT_t0 (List.mem_of_getElem? (i := 220) (by decide +kernel)) (by decide +kernel)) (TT_2 (TT_t0 (List.mem_of_getElem? (i := 221) (by decide +kernel)) (by decide +kernel)) (TT_2 in_X8 (TT_2 (TT_t0 (List.mem_of_getElem? (i := 222) (by decide +kernel)) (by decide +kernel)) TT_0)))⟩
abbrev i_X8_text : Ym := (yX8_text, cX8_text, 3, (some .int), 3)
theorem j_X8_text : JV i_X8_text 2 := ⟨⟨by decide +kernel, by decide +kernel, by decide +kernel⟩, TT_2 (TT_t0 (List.mem_of_getElem? (i := 232) (by decide +kernel)) (by decide +kernel)) (TT_2 (TT_t0 (List.mem_of_getElem? (i := 233) (by decide +kernel)) (by decide +kernel)) (TT_2 in_X8 (TT_2 (TT_t0 (List.mem_of_getElem? (i := 234) (by decide +kernel)) (by decide +kernel)) TT_0)))⟩
abbrev i_X8_put : Ym := (yX8_put, cX8_put, 7, (some .int), 3)
theorem j_X8_put : JV i_X8_put 3 := ⟨⟨by decide +kernel, by decide +kernel, by decide +kernel⟩, TT_2 (TT_t1 (List.mem_of_getElem? (i := 0) (by decide +kernel)) (by decide +kernel)) (TT_2 (TT_t1 (List.mem_of_getElem? (i := 1) (by decide +kernel)) (by decide +kernel)) (TT_2 in_X8 (TT_2 (TT_t1 (List.mem_of_getElem? (i := 2) (by decide +kernel)) (by decide +kernel)) TT_0)))⟩
abbrev i_X8_fault : Ym := (yX8_fault, cX8_fault, 4, (some .int), 6)
theorem j_X8_fault : JV i_X8_fault 1 := ⟨⟨by decide +kernel, by decide +kernel, by decide +kernel⟩, TT_2 (TT_t1 (List.mem_of_getElem? (i := 4) (by decide +kernel)) (by decide +kernel)) (TT_2 (TT_t1 (List.mem_of_getElem? (i := 5) (by decide +kernel)) (by decide +kernel)) (TT_2 in_X8 (TT_2 (TT_t1 (List.mem_of_getElem? (i := 6) (by decide +kernel)) (by decide +kernel)) TT_0)))⟩
abbrev i_X8_bank : Ym := (yX8_bank, cX8_bank, 6, (some .int), 6)
theorem j_X8_bank : JV i_X8_bank 1 := ⟨⟨by decide +kernel, by decide +kernel, by decide +kernel⟩, TT_2 (TT_t1 (List.mem_of_getElem? (i := 27) (by decide +kernel)) (by decide +kernel)) (TT_2 (TT_t1 (List.mem_of_getElem? (i := 28) (by decide +kernel)) (by decide +kernel)) (TT_2 in_X8 (TT_2 (TT_t1 (List.mem_of_getElem? (i := 29) (by decide +kernel)) (by decide +kernel)) TT_0)))⟩
abbrev i_X8_light : Ym := (yX8_light, cX8_light, 3, (some .int), 4)
theorem j_X8_light : JV i_X8_light 2 := ⟨⟨by decide +kernel, by decide +kernel, by decide +kernel⟩, TT_2 (TT_t1 (List.mem_of_getElem? (i := 51) (by decide +kernel)) (by decide +kernel)) (TT_2 (TT_t1 (List.mem_of_getElem? (i := 52) (by decide +kernel)) (by decide +kernel)) (TT_2 in_X8 (TT_2 (TT_t1 (List.mem_of_getElem? (i := 53) (by decide +kernel)) (by decide +kernel)) TT_0)))⟩
abbrev i_X8_mark : Ym := (yX8_mark, cX8_mark, 3, (some .int), 3)
theorem j_X8_mark : JV i_X8_mark 2 := ⟨⟨by decide +kernel, by decide +kernel, by decide +kernel⟩, TT_2 (TT_t1 (List.mem_of_getElem? (i := 97) (by decide +kernel)) (by decide +kernel)) (TT_2 (TT_t1 (List.mem_of_getElem? (i := 98) (by decide +kernel)) (by decide +kernel)) (TT_2 in_X8 (TT_2 (TT_t1 (List.mem_of_getElem? (i := 99) (by decide +kernel)) (by decide +kernel)) TT_0)))⟩
abbrev i_X8_glows : Ym := (yX8_glows, cX8_glows, 3, (some .int), 3)
theorem j_X8_glows : JV i_X8_glows 2 := ⟨⟨by decide +kernel, by decide +kernel, by decide +kernel⟩, TT_2 (TT_t1 (List.mem_of_getElem? (i := 117) (by decide +kernel)) (by decide +kernel)) (TT_2 (TT_t1 (List.mem_of_getElem? (i := 118) (by decide +kernel)) (by decide +kernel)) (TT_2 in_X8 (TT_2 (TT_t1 (List.mem_of_getElem? (i := 119) (by decide +kernel)) (by decide +kernel)) TT_0)))⟩
abbrev i_X8_night : Ym := (yX8_night, cX8_night, 1, (some .int), 4)
theorem j_X8_night : JV i_X8_night 0 := ⟨⟨by decide +kernel, by decide +kernel, by decide +kernel⟩, TT_2 (TT_t1 (List.mem_of_getElem? (i := 122) (by decide +kernel)) (by decide +kernel)) (TT_2 (TT_t1 (List.mem_of_getElem? (i := 123) (by decide +kernel)) (by decide +kernel)) (TT_2 in_X8 (TT_2 (TT_t1 (List.mem_of_getElem? (i := 124) (by decide +kernel)) (by decide +kernel)) TT_0)))⟩
abbrev i_X8_answer : Ym := (yX8_answer, cX8_answer, 2, (some .int), 3)
theorem j_X8_answer : JV i_X8_answer 1 := ⟨⟨by decide +kernel, by decide +kernel, by decide +kernel⟩, TT_2 (TT_t1 (List.mem_of_getElem? (i := 142) (by decide +kernel)) (by decide +kernel)) (TT_2 (TT_t1 (List.mem_of_getElem? (i := 143) (by decide +kernel)) (by decide +kernel)) (TT_2 in_X8 (TT_2 (TT_t1 (List.mem_of_getElem? (i := 144) (by decide +kernel)) (by decide +kernel)) TT_0)))⟩
abbrev i_X8_relight : Ym := (yX8_relight, cX8_relight, 2, (some .int), 3)
theorem j_X8_relight : JV i_X8_relight 1 := ⟨⟨by decide +kernel, by decide +kernel, by decide +kernel⟩, TT_2 (TT_t1 (List.mem_of_getElem? (i := 151) (by decide +kernel)) (by decide +kernel)) (TT_2 (TT_t1 (List.mem_of_getElem? (i := 152) (by decide +kernel)) (by decide +kernel)) (TT_2 in_X8 (TT_2 (TT_t1 (List.mem_of_getElem? (i := 153) (by decide +kernel)) (by decide +kernel)) TT_0)))⟩
abbrev i_X8_carry : Ym := (yX8_carry, cX8_carry, 4, (some .int), 2)
theorem j_X8_carry : JV i_X8_carry 2 := ⟨⟨by decide +kernel, by decide +kernel, by decide +kernel⟩, TT_2 (TT_t1 (List.mem_of_getElem? (i := 159) (by decide +kernel)) (by decide +kernel)) (TT_2 (TT_t1 (List.mem_of_getElem? (i := 160) (by decide +kernel)) (by decide +kernel)) (TT_2 in_X8 (TT_2 (TT_t1 (List.mem_of_getElem? (i := 161) (by decide +kernel)) (by decide +kernel)) TT_0)))⟩
abbrev i_X8_undo : Ym := (yX8_undo, cX8_undo, 3, (some .int), 3)
theorem j_X8_undo : JV i_X8_undo 1 := ⟨⟨by decide +kernel, by decide +kernel, by decide +kernel⟩, TT_2 (TT_t1 (List.mem_of_getElem? (i := 171) (by decide +kernel)) (by decide +kernel)) (TT_2 (TT_t1 (List.mem_of_getElem? (i := 172) (by decide +kernel)) (by decide +kernel)) (TT_2 in_X8 (TT_2 (TT_t1 (List.mem_of_getElem? (i := 173) (by decide +kernel)) (by decide +kernel)) TT_0)))⟩
abbrev i_X8_keep : Ym := (yX8_keep, cX8_keep, 3, (some .int), 2)
theorem j_X8_keep : JV i_X8_keep 1 := ⟨⟨by decide +kernel, by decide +kernel, by decide +kernel⟩, TT_2 (TT_t1 (List.mem_of_getElem? (i := 183) (by decide +kernel)) (by decide +kernel)) (TT_2 (TT_t1 (List.mem_of_getElem? (i := 184) (by decide +kernel)) (by decide +kernel)) (TT_2 in_X8 (TT_2 (TT_t1 (List.mem_of_getElem? (i := 185) (by decide +kernel)) (by decide +kernel)) TT_0)))⟩
abbrev i_X8_on : Ym := (yX8_on, cX8_on, 3, (some .int), 2)
theorem j_X8_on : JV i_X8_on 1 := ⟨⟨by decide +kernel, by decide +kernel, by decide +kernel⟩, TT_2 (TT_t1 (List.mem_of_getElem? (i := 192) (by decide +kernel)) (by decide +kernel)) (TT_2 (TT_t1 (List.mem_of_getElem? (i := 193) (by decide +kernel)) (by decide +kernel)) (TT_2 in_X8 (TT_2 (TT_t1 (List.mem_of_getElem? (i := 194) (by decide +kernel)) (by decide +kernel)) TT_0)))⟩
abbrev i_X8_bright : Ym := (yX8_bright, cX8_bright, 2, (some .int), 5)
theorem j_X8_bright : JV i_X8_bright 1 := ⟨⟨by decide +kernel, by decide +kernel, by decide +kernel⟩, TT_2 (TT_t1 (List.mem_of_getElem? (i := 196) (by decide +kernel)) (by decide +kernel)) (TT_2 (TT_t1 (List.mem_of_getElem? (i := 197) (by decide +kernel)) (by decide +kernel)) (TT_2 in_X8 (TT_2 (TT_t1 (List.mem_of_getElem? (i := 198) (by decide +kernel)) (by decide +kernel)) TT_0)))⟩
abbrev i_X8_along : Ym := (yX8_along, cX8_along, 3, (some .int), 6)
theorem j_X8_along : JV i_X8_along 2 := ⟨⟨by decide +kernel, by decide +kernel, by decide +kernel⟩, TT_2 (TT_t1 (List.mem_of_getElem? (i := 215) (by decide +kernel)) (by decide +kernel)) (TT_2 (TT_t1 (List.mem_of_getElem? (i := 216) (by decide +kernel)) (by decide +kernel)) (TT_2 in_X8 (TT_2 (TT_t1 (List.mem_of_getElem? (i := 217) (by decide +kernel)) (by decide +kernel)) TT_0)))⟩
abbrev i_X8_when : Ym := (yX8_when, cX8_when, 5, (some .int), 5)
theorem j_X8_when : JV i_X8_when 2 := ⟨⟨by decide +kernel, by decide +kernel, by decide +kernel⟩, TT_2 (TT_t1 (List.mem_of_getElem? (i := 227) (by decide +kernel)) (by decide +kernel)) (TT_2 (TT_t1 (List.mem_of_getElem? (i := 228) (by decide +kernel)) (by decide +kernel)) (TT_2 in_X8 (TT_2 (TT_t1 (List.mem_of_getElem? (i := 229) (by decide +kernel)) (by decide +kernel)) TT_0)))⟩
abbrev i_X8_stow : Ym := (yX8_stow, cX8_stow, 9, (some .int), 6)
theorem j_X8_stow : JV i_X8_stow 3 := ⟨⟨by decide +kernel, by decide +kernel, by decide +kernel⟩, TT_2 (TT_t1 (List.mem_of_getElem? (i := 231) (by decide +kernel)) (by decide +kernel)) (TT_2 (TT_t1 (List.mem_of_getElem? (i := 232) (by decide +kernel)) (by decide +kernel)) (TT_2 in_X8 (TT_2 (TT_t1 (List.mem_of_getElem? (i := 233) (by decide +kernel)) (by decide +kernel)) TT_0)))⟩
abbrev i_X8_dark : Ym := (yX8_dark, cX8_dark, 6, (some .int), 6)
theorem j_X8_dark : JV i_X8_dark 1 := ⟨⟨by decide +kernel, by decide +kernel, by decide +kernel⟩, TT_2 (TT_t1 (List.mem_of_getElem? (i := 239) (by decide +kernel)) (by decide +kernel)) (TT_2 (TT_t2 (List.mem_of_getElem? (i := 0) (by decide +kernel)) (by decide +kernel)) (TT_2 in_X8 (TT_2 (TT_t2 (List.mem_of_getElem? (i := 1) (by decide +kernel)) (by decide +kernel)) TT_0)))⟩
abbrev i_X8_road : Ym := (yX8_road, cX8_road, 2, (some .int), 6)
theorem j_X8_road : JV i_X8_road 0 := ⟨⟨by decide +kernel, by decide +kernel, by decide +kernel⟩, TT_2 (TT_t2 (List.mem_of_getElem? (i := 3) (by decide +kernel)) (by decide +kernel)) (TT_2 (TT_t2 (List.mem_of_getElem? (i := 4) (by decide +kernel)) (by decide +kernel)) (TT_2 in_X8 (TT_2 (TT_t2 (List.mem_of_getElem? (i := 5) (by decide +kernel)) (by decide +kernel)) TT_0)))⟩
abbrev i_X8_owes : Ym := (yX8_owes, cX8_owes, 2, (some .int), 4)
theorem j_X8_owes : JV i_X8_owes 1 := ⟨⟨by decide +kernel, by decide +kernel, by decide +kernel⟩, TT_2 (TT_t2 (List.mem_of_getElem? (i := 19) (by decide +kernel)) (by decide +kernel)) (TT_2 (TT_t2 (List.mem_of_getElem? (i := 20) (by decide +kernel)) (by decide +kernel)) (TT_2 in_X8 (TT_2 (TT_t2 (List.mem_of_getElem? (i := 21) (by decide +kernel)) (by decide +kernel)) TT_0)))⟩
abbrev i_X8_ring : Ym := (yX8_ring, cX8_ring, 2, (some .int), 5)
theorem j_X8_ring : JV i_X8_ring 0 := ⟨⟨by decide +kernel, by decide +kernel, by decide +kernel⟩, TT_2 (TT_t2 (List.mem_of_getElem? (i := 35) (by decide +kernel)) (by decide +kernel)) (TT_2 (TT_t2 (List.mem_of_getElem? (i := 36) (by decide +kernel)) (by decide +kernel)) (TT_2 in_X8 (TT_2 (TT_t2 (List.mem_of_getElem? (i := 37) (by decide +kernel)) (by decide +kernel)) TT_0)))⟩
abbrev i_X8_rings : Ym := (yX8_rings, cX8_rings, 2, (some .int), 5)
theorem j_X8_rings : JV i_X8_rings 1 := ⟨⟨by decide +kernel, by decide +kernel, by decide +kernel⟩, TT_2 (TT_t2 (List.mem_of_getElem? (i := 69) (by decide +kernel)) (by decide +kernel)) (TT_2 (TT_t2 (List.mem_of_getElem? (i := 70) (by decide +kernel)) (by decide +kernel)) (TT_2 in_X8 (TT_2 (TT_t2 (List.mem_of_getElem? (i := 71) (by decide +kernel)) (by decide +kernel)) TT_0)))⟩
abbrev i_X8_least : Ym := (yX8_least, cX8_least, 3, (some .int), 5)
theorem j_X8_least : JV i_X8_least 1 := ⟨⟨by decide +kernel, by decide +kernel, by decide +kernel⟩, TT_2 (TT_t2 (List.mem_of_getElem? (i := 77) (by decide +kernel)) (by decide +kernel)) (TT_2 (TT_t2 (List.mem_of_getElem? (i := 78) (by decide +kernel)) (by decide +kernel)) (TT_2 in_X8 (TT_2 (TT_t2 (List.mem_of_getElem? (i := 79) (by decide +kernel)) (by decide +kernel)) TT_0)))⟩
abbrev i_X8_chain : Ym := (yX8_chain, cX8_chain, 6, (some .int), 5)
theorem j_X8_chain : JV i_X8_chain 3 := ⟨⟨by decide +kernel, by decide +kernel, by decide +kernel⟩, TT_2 (TT_t2 (List.mem_of_getElem? (i := 85) (by decide +kernel)) (by decide +kernel)) (TT_2 (TT_t2 (List.mem_of_getElem? (i := 86) (by decide +kernel)) (by decide +kernel)) (TT_2 in_X8 (TT_2 (TT_t2 (List.mem_of_getElem? (i := 87) (by decide +kernel)) (by decide +kernel)) TT_0)))⟩
abbrev i_X8_dim : Ym := (yX8_dim, cX8_dim, 4, (some .int), 6)
theorem j_X8_dim : JV i_X8_dim 2 := ⟨⟨by decide +kernel, by decide +kernel, by decide +kernel⟩, TT_2 (TT_t2 (List.mem_of_getElem? (i := 113) (by decide +kernel)) (by decide +kernel)) (TT_2 (TT_t2 (List.mem_of_getElem? (i := 114) (by decide +kernel)) (by decide +kernel)) (TT_2 in_X8 (TT_2 (TT_t2 (List.mem_of_getElem? (i := 115) (by decide +kernel)) (by decide +kernel)) TT_0)))⟩
abbrev i_X8_firsts : Ym := (yX8_firsts, cX8_firsts, 5, (some .int), 4)
theorem j_X8_firsts : JV i_X8_firsts 2 := ⟨⟨by decide +kernel, by decide +kernel, by decide +kernel⟩, TT_2 (TT_t2 (List.mem_of_getElem? (i := 133) (by decide +kernel)) (by decide +kernel)) (TT_2 (TT_t2 (List.mem_of_getElem? (i := 134) (by decide +kernel)) (by decide +kernel)) (TT_2 in_X8 (TT_2 (TT_t2 (List.mem_of_getElem? (i := 135) (by decide +kernel)) (by decide +kernel)) TT_0)))⟩
abbrev i_X8_kinds : Ym := (yX8_kinds, cX8_kinds, 5, (some .int), 4)
theorem j_X8_kinds : JV i_X8_kinds 2 := ⟨⟨by decide +kernel, by decide +kernel, by decide +kernel⟩, TT_2 (TT_t2 (List.mem_of_getElem? (i := 153) (by decide +kernel)) (by decide +kernel)) (TT_2 (TT_t2 (List.mem_of_getElem? (i := 154) (by decide +kernel)) (by decide +kernel)) (TT_2 in_X8 (TT_2 (TT_t2 (List.mem_of_getElem? (i := 155) (by decide +kernel)) (by decide +kernel)) TT_0)))⟩
abbrev i_X8_test : Ym := (yX8_test, cX8_test, 8, (some .int), 5)
theorem j_X8_test : JV i_X8_test 2 := ⟨⟨by decide +kernel, by decide +kernel, by decide +kernel⟩, TT_2 (TT_t2 (List.mem_of_getElem? (i := 160) (by decide +kernel)) (by decide +kernel)) (TT_2 (TT_t2 (List.mem_of_getElem? (i := 161) (by decide +kernel)) (by decide +kernel)) (TT_2 in_X8 (TT_2 (TT_t2 (List.mem_of_getElem? (i := 162) (by decide +kernel)) (by decide +kernel)) TT_0)))⟩
abbrev i_X8_whose : Ym := (yX8_whose, cX8_whose, 4, (some .int), 6)
theorem j_X8_whose : JV i_X8_whose 2 := ⟨⟨by decide +kernel, by decide +kernel, by decide +kernel⟩, TT_2 (TT_t2 (List.mem_of_getElem? (i := 175) (by decide +kernel)) (by decide +kernel)) (TT_2 (TT_t2 (List.mem_of_getElem? (i := 176) (by decide +kernel)) (by decide +kernel)) (TT_2 in_X8 (TT_2 (TT_t2 (List.mem_of_getElem? (i := 177) (by decide +kernel)) (by decide +kernel)) TT_0)))⟩
abbrev i_X8_duel : Ym := (yX8_duel, cX8_duel, 3, (some .int), 6)
theorem j_X8_duel : JV i_X8_duel 2 := ⟨⟨by decide +kernel, by decide +kernel, by decide +kernel⟩, TT_2 (TT_t2 (List.mem_of_getElem? (i := 192) (by decide +kernel)) (by decide +kernel)) (TT_2 (TT_t2 (List.mem_of_getElem? (i := 193) (by decide +kernel)) (by decide +kernel)) (TT_2 in_X8 (TT_2 (TT_t2 (List.mem_of_getElem? (i := 194) (by decide +kernel)) (by decide +kernel)) TT_0)))⟩
abbrev i_X8_odds : Ym := (yX8_odds, cX8_odds, 6, (some .int), 6)
theorem j_X8_odds : JV i_X8_odds 3 := ⟨⟨by decide +kernel, by decide +kernel, by decide +kernel⟩, TT_2 (TT_t2 (List.mem_of_getElem? (i := 209) (by decide +kernel)) (by decide +kernel)) (TT_2 (TT_t2 (List.mem_of_getElem? (i := 210) (by decide +kernel)) (by decide +kernel)) (TT_2 in_X8 (TT_2 (TT_t2 (List.mem_of_getElem? (i := 211) (by decide +kernel)) (by decide +kernel)) TT_0)))⟩
abbrev i_X8_mid : Ym := (yX8_mid, cX8_mid, 5, (some .int), 5)
theorem j_X8_mid : JV i_X8_mid 2 := ⟨⟨by decide +kernel, by decide +kernel, by decide +kernel⟩, TT_2 (TT_t2 (List.mem_of_getElem? (i := 229) (by decide +kernel)) (by decide +kernel)) (TT_2 (TT_t2 (List.mem_of_getElem? (i := 230) (by decide +kernel)) (by decide +kernel)) (TT_2 in_X8 (TT_2 (TT_t2 (List.mem_of_getElem? (i := 231) (by decide +kernel)) (by decide +kernel)) TT_0)))⟩
abbrev i_X8_lots : Ym := (yX8_lots, cX8_lots, 6, (some .int), 4)
theorem j_X8_lots : JV i_X8_lots 2 := ⟨⟨by decide +kernel, by decide +kernel, by decide +kernel⟩, TT_2 (TT_t2 (List.mem_of_getElem? (i := 234) (by decide +kernel)) (by decide +kernel)) (TT_2 (TT_t2 (List.mem_of_getElem? (i := 235) (by decide +kernel)) (by decide +kernel)) (TT_2 in_X8 (TT_2 (TT_t2 (List.mem_of_getElem? (i := 236) (by decide +kernel)) (by decide +kernel)) TT_0)))⟩
abbrev i_X8_asked : Ym := (yX8_asked, cX8_asked, 1, (some .int), 0)
theorem j_X8_asked : JV i_X8_asked 0 := ⟨⟨by decide +kernel, by decide +kernel, by decide +kernel⟩, TT_2 (TT_t3 (List.mem_of_getElem? (i := 13) (by decide +kernel)) (by decide +kernel)) (TT_2 (TT_t3 (List.mem_of_getElem? (i := 14) (by decide +kernel)) (by decide +kernel)) (TT_2 in_X8 (TT_2 (TT_t3 (List.mem_of_getElem? (i := 15) (by decide +kernel)) (by decide +kernel)) TT_0)))⟩
abbrev i_X8_upper : Ym := (yX8_upper, cX8_upper, 1, (some .long), 0)
theorem j_X8_upper : JV i_X8_upper 0 := ⟨⟨by decide +kernel, by decide +kernel, by decide +kernel⟩, TT_2 (TT_t3 (List.mem_of_getElem? (i := 17) (by decide +kernel)) (by decide +kernel)) (TT_2 (TT_t3 (List.mem_of_getElem? (i := 18) (by decide +kernel)) (by decide +kernel)) (TT_2 in_X8 (TT_2 (TT_t3 (List.mem_of_getElem? (i := 19) (by decide +kernel)) (by decide +kernel)) TT_0)))⟩
abbrev i_X8_lower : Ym := (yX8_lower, cX8_lower, 1, (some .long), 0)
theorem j_X8_lower : JV i_X8_lower 0 := ⟨⟨by decide +kernel, by decide +kernel, by decide +kernel⟩, TT_2 (TT_t3 (List.mem_of_getElem? (i := 21) (by decide +kernel)) (by decide +kernel)) (TT_2 (TT_t3 (List.mem_of_getElem? (i := 22) (by decide +kernel)) (by decide +kernel)) (TT_2 in_X8 (TT_2 (TT_t3 (List.mem_of_getElem? (i := 23) (by decide +kernel)) (by decide +kernel)) TT_0)))⟩
abbrev i_X8_count : Ym := (yX8_count, cX8_count, 2, (some .int), 4)
theorem j_X8_count : JV i_X8_count 1 := ⟨⟨by decide +kernel, by decide +kernel, by decide +kernel⟩, TT_2 (TT_t3 (List.mem_of_getElem? (i := 25) (by decide +kernel)) (by decide +kernel)) (TT_2 (TT_t3 (List.mem_of_getElem? (i := 26) (by decide +kernel)) (by decide +kernel)) (TT_2 in_X8 (TT_2 (TT_t3 (List.mem_of_getElem? (i := 27) (by decide +kernel)) (by decide +kernel)) TT_0)))⟩
abbrev i_X8_finding : Ym := (yX8_finding, cX8_finding, 1, (some .int), 0)
theorem j_X8_finding : JV i_X8_finding 0 := ⟨⟨by decide +kernel, by decide +kernel, by decide +kernel⟩, TT_2 (TT_t3 (List.mem_of_getElem? (i := 40) (by decide +kernel)) (by decide +kernel)) (TT_2 (TT_t3 (List.mem_of_getElem? (i := 41) (by decide +kernel)) (by decide +kernel)) (TT_2 in_X8 (TT_2 (TT_t3 (List.mem_of_getElem? (i := 42) (by decide +kernel)) (by decide +kernel)) TT_0)))⟩
abbrev i_X8_findings : Ym := (yX8_findings, cX8_findings, 2, (some .int), 0)
theorem j_X8_findings : JV i_X8_findings 1 := ⟨⟨by decide +kernel, by decide +kernel, by decide +kernel⟩, TT_2 (TT_t3 (List.mem_of_getElem? (i := 44) (by decide +kernel)) (by decide +kernel)) (TT_2 (TT_t3 (List.mem_of_getElem? (i := 45) (by decide +kernel)) (by decide +kernel)) (TT_2 in_X8 (TT_2 (TT_t3 (List.mem_of_getElem? (i := 46) (by decide +kernel)) (by decide +kernel)) TT_0)))⟩
abbrev i_X8_digest : Ym := (yX8_digest, cX8_digest, 5, (some .long), 5)
theorem j_X8_digest : JV i_X8_digest 0 := ⟨⟨by decide +kernel, by decide +kernel, by decide +kernel⟩, TT_2 (TT_t3 (List.mem_of_getElem? (i := 48) (by decide +kernel)) (by decide +kernel)) (TT_2 (TT_t3 (List.mem_of_getElem? (i := 49) (by decide +kernel)) (by decide +kernel)) (TT_2 in_X8 (TT_2 (TT_t3 (List.mem_of_getElem? (i := 50) (by decide +kernel)) (by decide +kernel)) TT_0)))⟩
abbrev i_X8_isPlace : Ym := (yX8_isPlace, cX8_isPlace, 1, (some .boolean), 0)
theorem j_X8_isPlace : JS i_X8_isPlace 1 := ⟨⟨by decide +kernel, by decide +kernel, by decide +kernel⟩, TT_2 (TT_t1 (List.mem_of_getElem? (i := 163) (by decide +kernel)) (by decide +kernel)) (TT_2 in_X8 (TT_2 (TT_t1 (List.mem_of_getElem? (i := 164) (by decide +kernel)) (by decide +kernel)) TT_0))⟩
abbrev i_X8_isPerson : Ym := (yX8_isPerson, cX8_isPerson, 1, (some .boolean), 0)
theorem j_X8_isPerson : JS i_X8_isPerson 1 := ⟨⟨by decide +kernel, by decide +kernel, by decide +kernel⟩, TT_2 (TT_t2 (List.mem_of_getElem? (i := 23) (by decide +kernel)) (by decide +kernel)) (TT_2 in_X8 (TT_2 (TT_t2 (List.mem_of_getElem? (i := 24) (by decide +kernel)) (by decide +kernel)) TT_0))⟩
abbrev i_X8_isStretch : Ym := (yX8_isStretch, cX8_isStretch, 2, (some .boolean), 1)
theorem j_X8_isStretch : JS i_X8_isStretch 2 := ⟨⟨by decide +kernel, by decide +kernel, by decide +kernel⟩, TT_2 (TT_t1 (List.mem_of_getElem? (i := 219) (by decide +kernel)) (by decide +kernel)) (TT_2 in_X8 (TT_2 (TT_t1 (List.mem_of_getElem? (i := 220) (by decide +kernel)) (by decide +kernel)) TT_0))⟩
abbrev i_X8_rowOf : Ym := (yX8_rowOf, cX8_rowOf, 2, (some (.object "GlowDebts$Strip")), 0)
theorem j_X8_rowOf : JV i_X8_rowOf 1 := ⟨⟨by decide +kernel, by decide +kernel, by decide +kernel⟩, TT_2 (TT_t0 (List.mem_of_getElem? (i := 141) (by decide +kernel)) (by decide +kernel)) (TT_2 (TT_pv (List.mem_of_getElem? (i := 0) (by decide +kernel)) (by decide +kernel)) (TT_2 in_X8 (TT_2 (TT_t0 (List.mem_of_getElem? (i := 142) (by decide +kernel)) (by decide +kernel)) TT_0)))⟩
abbrev i_X8_textOf : Ym := (yX8_textOf, cX8_textOf, 2, (some (.object "GlowDebts$Strip")), 0)
theorem j_X8_textOf : JV i_X8_textOf 1 := ⟨⟨by decide +kernel, by decide +kernel, by decide +kernel⟩, TT_2 (TT_t0 (List.mem_of_getElem? (i := 237) (by decide +kernel)) (by decide +kernel)) (TT_2 (TT_pv (List.mem_of_getElem? (i := 5) (by decide +kernel)) (by decide +kernel)) (TT_2 in_X8 (TT_2 (TT_t0 (List.mem_of_getElem? (i := 238) (by decide +kernel)) (by decide +kernel)) TT_0)))⟩
abbrev i_X8_keepOf : Ym := (yX8_keepOf, cX8_keepOf, 2, (some (.object "GlowDebts$Bank")), 0)
theorem j_X8_keepOf : JV i_X8_keepOf 1 := ⟨⟨by decide +kernel, by decide +kernel, by decide +kernel⟩, TT_2 (TT_t1 (List.mem_of_getElem? (i := 43) (by decide +kernel)) (by decide +kernel)) (TT_2 (TT_pv (List.mem_of_getElem? (i := 6) (by decide +kernel)) (by decide +kernel)) (TT_2 in_X8 (TT_2 (TT_t1 (List.mem_of_getElem? (i := 44) (by decide +kernel)) (by decide +kernel)) TT_0)))⟩
abbrev i_X8_refuse : Ym := (yX8_refuse, cX8_refuse, 2, (some .int), 0)
theorem j_X8_refuse : JV i_X8_refuse 1 := ⟨⟨by decide +kernel, by decide +kernel, by decide +kernel⟩, TT_2 (TT_t0 (List.mem_of_getElem? (i := 153) (by decide +kernel)) (by decide +kernel)) (TT_2 (TT_pv (List.mem_of_getElem? (i := 2) (by decide +kernel)) (by decide +kernel)) (TT_2 in_X8 (TT_2 (TT_t0 (List.mem_of_getElem? (i := 154) (by decide +kernel)) (by decide +kernel)) TT_0)))⟩
abbrev i_X8_refusedMissing : Ym := (yX8_refusedMissing, cX8_refusedMissing, 2, (some .int), 1)
theorem j_X8_refusedMissing : JV i_X8_refusedMissing 1 := ⟨⟨by decide +kernel, by decide +kernel, by decide +kernel⟩, TT_2 (TT_t0 (List.mem_of_getElem? (i := 172) (by decide +kernel)) (by decide +kernel)) (TT_2 (TT_pv (List.mem_of_getElem? (i := 4) (by decide +kernel)) (by decide +kernel)) (TT_2 in_X8 (TT_2 (TT_t0 (List.mem_of_getElem? (i := 173) (by decide +kernel)) (by decide +kernel)) TT_0)))⟩
abbrev i_X8_refusedAt : Ym := (yX8_refusedAt, cX8_refusedAt, 4, (some .int), 2)
theorem j_X8_refusedAt : JV i_X8_refusedAt 2 := ⟨⟨by decide +kernel, by decide +kernel, by decide +kernel⟩, TT_2 (TT_t0 (List.mem_of_getElem? (i := 168) (by decide +kernel)) (by decide +kernel)) (TT_2 (TT_pv (List.mem_of_getElem? (i := 3) (by decide +kernel)) (by decide +kernel)) (TT_2 in_X8 (TT_2 (TT_t0 (List.mem_of_getElem? (i := 169) (by decide +kernel)) (by decide +kernel)) TT_0)))⟩
abbrev i_X8_refusedLooks : Ym := (yX8_refusedLooks, cX8_refusedLooks, 3, (some .int), 3)
theorem j_X8_refusedLooks : JV i_X8_refusedLooks 2 := ⟨⟨by decide +kernel, by decide +kernel, by decide +kernel⟩, TT_2 (TT_t2 (List.mem_of_getElem? (i := 138) (by decide +kernel)) (by decide +kernel)) (TT_2 (TT_pv (List.mem_of_getElem? (i := 14) (by decide +kernel)) (by decide +kernel)) (TT_2 in_X8 (TT_2 (TT_t2 (List.mem_of_getElem? (i := 139) (by decide +kernel)) (by decide +kernel)) TT_0)))⟩
abbrev i_X8_makeAnew : Ym := (yX8_makeAnew, cX8_makeAnew, 4, (some .int), 2)
theorem j_X8_makeAnew : JV i_X8_makeAnew 3 := ⟨⟨by decide +kernel, by decide +kernel, by decide +kernel⟩, TT_2 (TT_t0 (List.mem_of_getElem? (i := 145) (by decide +kernel)) (by decide +kernel)) (TT_2 (TT_pv (List.mem_of_getElem? (i := 1) (by decide +kernel)) (by decide +kernel)) (TT_2 in_X8 (TT_2 (TT_t0 (List.mem_of_getElem? (i := 146) (by decide +kernel)) (by decide +kernel)) TT_0)))⟩
abbrev i_X8_tellInLowestTerms : Ym := (yX8_tellInLowestTerms, cX8_tellInLowestTerms, 7, none, 1)
theorem j_X8_tellInLowestTerms : JV i_X8_tellInLowestTerms 2 := ⟨⟨by decide +kernel, by decide +kernel, by decide +kernel⟩, TT_2 (TT_t2 (List.mem_of_getElem? (i := 223) (by decide +kernel)) (by decide +kernel)) (TT_2 (TT_pv (List.mem_of_getElem? (i := 17) (by decide +kernel)) (by decide +kernel)) (TT_2 in_X8 (TT_2 (TT_t2 (List.mem_of_getElem? (i := 224) (by decide +kernel)) (by decide +kernel)) TT_0)))⟩
abbrev i_X8_greatestDivisor : Ym := (yX8_greatestDivisor, cX8_greatestDivisor, 11, (some .long), 0)
theorem j_X8_greatestDivisor : JS i_X8_greatestDivisor 2 := ⟨⟨by decide +kernel, by decide +kernel, by decide +kernel⟩, TT_2 (TT_t2 (List.mem_of_getElem? (i := 226) (by decide +kernel)) (by decide +kernel)) (TT_2 in_X8 (TT_2 (TT_t2 (List.mem_of_getElem? (i := 227) (by decide +kernel)) (by decide +kernel)) TT_0))⟩
abbrev i_X8_howManyThere : Ym := (yX8_howManyThere, cX8_howManyThere, 6, (some .int), 1)
theorem j_X8_howManyThere : JS i_X8_howManyThere 1 := ⟨⟨by decide +kernel, by decide +kernel, by decide +kernel⟩, TT_2 (TT_t3 (List.mem_of_getElem? (i := 33) (by decide +kernel)) (by decide +kernel)) (TT_2 in_X8 (TT_2 (TT_t3 (List.mem_of_getElem? (i := 34) (by decide +kernel)) (by decide +kernel)) TT_0))⟩
abbrev i_X8_howManyKept : Ym := (yX8_howManyKept, cX8_howManyKept, 6, (some .int), 1)
theorem j_X8_howManyKept : JV i_X8_howManyKept 0 := ⟨⟨by decide +kernel, by decide +kernel, by decide +kernel⟩, TT_2 (TT_t3 (List.mem_of_getElem? (i := 37) (by decide +kernel)) (by decide +kernel)) (TT_2 (TT_pv (List.mem_of_getElem? (i := 18) (by decide +kernel)) (by decide +kernel)) (TT_2 in_X8 (TT_2 (TT_t3 (List.mem_of_getElem? (i := 38) (by decide +kernel)) (by decide +kernel)) TT_0)))⟩
abbrev i_X8_digestOf : Ym := (yX8_digestOf, cX8_digestOf, 10, (some .long), 2)
theorem j_X8_digestOf : JS i_X8_digestOf 2 := ⟨⟨by decide +kernel, by decide +kernel, by decide +kernel⟩, TT_2 (TT_t3 (List.mem_of_getElem? (i := 55) (by decide +kernel)) (by decide +kernel)) (TT_2 in_X8 (TT_2 (TT_t3 (List.mem_of_getElem? (i := 56) (by decide +kernel)) (by decide +kernel)) TT_0))⟩
abbrev i_X9_in : Ym := (yX9_in, cX9_in, 6, (some .boolean), 0)
theorem j_X9_in : JS i_X9_in 3 := ⟨⟨by decide +kernel, by decide +kernel, by decide +kernel⟩, TT_2 (TT_t3 (List.mem_of_getElem? (i := 142) (by decide +kernel)) (by decide +kernel)) (TT_2 in_X9 (TT_2 (TT_t3 (List.mem_of_getElem? (i := 143) (by decide +kernel)) (by decide +kernel)) TT_0))⟩
abbrev i_X9_has : Ym := (yX9_has, cX9_has, 2, (some .boolean), 0)
theorem j_X9_has : JS i_X9_has 2 := ⟨⟨by decide +kernel, by decide +kernel, by decide +kernel⟩, TT_2 (TT_t4 (List.mem_of_getElem? (i := 22) (by decide +kernel)) (by decide +kernel)) (TT_2 in_X9 (TT_2 (TT_t4 (List.mem_of_getElem? (i := 23) (by decide +kernel)) (by decide +kernel)) TT_0))⟩
abbrev i_X9_ones : Ym := (yX9_ones, cX9_ones, 3, (some .int), 0)
theorem j_X9_ones : JS i_X9_ones 1 := ⟨⟨by decide +kernel, by decide +kernel, by decide +kernel⟩, TT_2 (TT_t4 (List.mem_of_getElem? (i := 132) (by decide +kernel)) (by decide +kernel)) (TT_2 in_X9 (TT_2 (TT_t4 (List.mem_of_getElem? (i := 133) (by decide +kernel)) (by decide +kernel)) TT_0))⟩
abbrev i_X9_finds : Ym := (yX9_finds, cX9_finds, 2, (some .int), 0)
theorem j_X9_finds : JV i_X9_finds 1 := ⟨⟨by decide +kernel, by decide +kernel, by decide +kernel⟩, TT_2 (TT_t3 (List.mem_of_getElem? (i := 146) (by decide +kernel)) (by decide +kernel)) (TT_2 (TT_pv (List.mem_of_getElem? (i := 19) (by decide +kernel)) (by decide +kernel)) (TT_2 in_X9 (TT_2 (TT_t3 (List.mem_of_getElem? (i := 147) (by decide +kernel)) (by decide +kernel)) TT_0)))⟩
abbrev i_X9_tells : Ym := (yX9_tells, cX9_tells, 2, (some .int), 0)
theorem j_X9_tells : JV i_X9_tells 1 := ⟨⟨by decide +kernel, by decide +kernel, by decide +kernel⟩, TT_2 (TT_t3 (List.mem_of_getElem? (i := 154) (by decide +kernel)) (by decide +kernel)) (TT_2 (TT_pv (List.mem_of_getElem? (i := 20) (by decide +kernel)) (by decide +kernel)) (TT_2 in_X9 (TT_2 (TT_t3 (List.mem_of_getElem? (i := 155) (by decide +kernel)) (by decide +kernel)) TT_0)))⟩
abbrev i_X9_bring : Ym := (yX9_bring, cX9_bring, 4, none, 0)
theorem j_X9_bring : JV i_X9_bring 2 := ⟨⟨by decide +kernel, by decide +kernel, by decide +kernel⟩, TT_2 (TT_t4 (List.mem_of_getElem? (i := 55) (by decide +kernel)) (by decide +kernel)) (TT_2 (TT_pv (List.mem_of_getElem? (i := 31) (by decide +kernel)) (by decide +kernel)) (TT_2 in_X9 (TT_2 (TT_t4 (List.mem_of_getElem? (i := 56) (by decide +kernel)) (by decide +kernel)) TT_0)))⟩
abbrev i_X9_isRow : Ym := (yX9_isRow, cX9_isRow, 1, (some .boolean), 1)
theorem j_X9_isRow : JS i_X9_isRow 1 := ⟨⟨by decide +kernel, by decide +kernel, by decide +kernel⟩, TT_2 (TT_t3 (List.mem_of_getElem? (i := 138) (by decide +kernel)) (by decide +kernel)) (TT_2 in_X9 (TT_2 (TT_t3 (List.mem_of_getElem? (i := 139) (by decide +kernel)) (by decide +kernel)) TT_0))⟩
abbrev i_X9_isText : Ym := (yX9_isText, cX9_isText, 1, (some .boolean), 1)
theorem j_X9_isText : JS i_X9_isText 1 := ⟨⟨by decide +kernel, by decide +kernel, by decide +kernel⟩, TT_2 (TT_t3 (List.mem_of_getElem? (i := 177) (by decide +kernel)) (by decide +kernel)) (TT_2 in_X9 (TT_2 (TT_t3 (List.mem_of_getElem? (i := 178) (by decide +kernel)) (by decide +kernel)) TT_0))⟩
abbrev i_X9_isLight : Ym := (yX9_isLight, cX9_isLight, 2, (some .boolean), 1)
theorem j_X9_isLight : JV i_X9_isLight 1 := ⟨⟨by decide +kernel, by decide +kernel, by decide +kernel⟩, TT_2 (TT_t3 (List.mem_of_getElem? (i := 217) (by decide +kernel)) (by decide +kernel)) (TT_2 (TT_pv (List.mem_of_getElem? (i := 25) (by decide +kernel)) (by decide +kernel)) (TT_2 in_X9 (TT_2 (TT_t3 (List.mem_of_getElem? (i := 218) (by decide +kernel)) (by decide +kernel)) TT_0)))⟩
abbrev i_X9_isPlace : Ym := (yX9_isPlace, cX9_isPlace, 1, (some .boolean), 1)
theorem j_X9_isPlace : JS i_X9_isPlace 1 := ⟨⟨by decide +kernel, by decide +kernel, by decide +kernel⟩, TT_2 (TT_t4 (List.mem_of_getElem? (i := 41) (by decide +kernel)) (by decide +kernel)) (TT_2 in_X9 (TT_2 (TT_t4 (List.mem_of_getElem? (i := 42) (by decide +kernel)) (by decide +kernel)) TT_0))⟩
abbrev i_X9_row : Ym := (yX9_row, cX9_row, 4, (some .int), 2)
theorem j_X9_row : JV i_X9_row 2 := ⟨⟨by decide +kernel, by decide +kernel, by decide +kernel⟩, TT_2 (TT_t3 (List.mem_of_getElem? (i := 134) (by decide +kernel)) (by decide +kernel)) (TT_2 (TT_t3 (List.mem_of_getElem? (i := 135) (by decide +kernel)) (by decide +kernel)) (TT_2 in_X9 (TT_2 (TT_t3 (List.mem_of_getElem? (i := 136) (by decide +kernel)) (by decide +kernel)) TT_0)))⟩
abbrev i_X9_lay : Ym := (yX9_lay, cX9_lay, 5, (some .int), 2)
theorem j_X9_lay : JV i_X9_lay 3 := ⟨⟨by decide +kernel, by decide +kernel, by decide +kernel⟩, TT_2 (TT_t3 (List.mem_of_getElem? (i := 149) (by decide +kernel)) (by decide +kernel)) (TT_2 (TT_t3 (List.mem_of_getElem? (i := 150) (by decide +kernel)) (by decide +kernel)) (TT_2 in_X9 (TT_2 (TT_t3 (List.mem_of_getElem? (i := 151) (by decide +kernel)) (by decide +kernel)) TT_0)))⟩
abbrev i_X9_at : Ym := (yX9_at, cX9_at, 3, (some .int), 2)
theorem j_X9_at : JV i_X9_at 2 := ⟨⟨by decide +kernel, by decide +kernel, by decide +kernel⟩, TT_2 (TT_t3 (List.mem_of_getElem? (i := 157) (by decide +kernel)) (by decide +kernel)) (TT_2 (TT_t3 (List.mem_of_getElem? (i := 158) (by decide +kernel)) (by decide +kernel)) (TT_2 in_X9 (TT_2 (TT_t3 (List.mem_of_getElem? (i := 159) (by decide +kernel)) (by decide +kernel)) TT_0)))⟩
abbrev i_X9_tear : Ym := (yX9_tear, cX9_tear, 2, (some .int), 2)
theorem j_X9_tear : JV i_X9_tear 1 := ⟨⟨by decide +kernel, by decide +kernel, by decide +kernel⟩, TT_2 (TT_t3 (List.mem_of_getElem? (i := 161) (by decide +kernel)) (by decide +kernel)) (TT_2 (TT_t3 (List.mem_of_getElem? (i := 162) (by decide +kernel)) (by decide +kernel)) (TT_2 in_X9 (TT_2 (TT_t3 (List.mem_of_getElem? (i := 163) (by decide +kernel)) (by decide +kernel)) TT_0)))⟩
abbrev i_X9_copy : Ym := (yX9_copy, cX9_copy, 7, (some .int), 2)
theorem j_X9_copy : JV i_X9_copy 5 := ⟨⟨by decide +kernel, by decide +kernel, by decide +kernel⟩, TT_2 (TT_t3 (List.mem_of_getElem? (i := 165) (by decide +kernel)) (by decide +kernel)) (TT_2 (TT_t3 (List.mem_of_getElem? (i := 166) (by decide +kernel)) (by decide +kernel)) (TT_2 in_X9 (TT_2 (TT_t3 (List.mem_of_getElem? (i := 167) (by decide +kernel)) (by decide +kernel)) TT_0)))⟩
abbrev i_X9_mean : Ym := (yX9_mean, cX9_mean, 5, (some .int), 2)
theorem j_X9_mean : JV i_X9_mean 1 := ⟨⟨by decide +kernel, by decide +kernel, by decide +kernel⟩, TT_2 (TT_t3 (List.mem_of_getElem? (i := 169) (by decide +kernel)) (by decide +kernel)) (TT_2 (TT_t3 (List.mem_of_getElem? (i := 170) (by decide +kernel)) (by decide +kernel)) (TT_2 in_X9 (TT_2 (TT_t3 (List.mem_of_getElem? (i := 171) (by decide +kernel)) (by decide +kernel)) TT_0)))⟩
abbrev i_X9_text : Ym := (yX9_text, cX9_text, 4, (some .int), 2)
theorem j_X9_text : JV i_X9_text 2 := ⟨⟨by decide +kernel, by decide +kernel, by decide +kernel⟩, TT_2 (TT_t3 (List.mem_of_getElem? (i := 173) (by decide +kernel)) (by decide +kernel)) (TT_2 (TT_t3 (List.mem_of_getElem? (i := 174) (by decide +kernel)) (by decide +kernel)) (TT_2 in_X9 (TT_2 (TT_t3 (List.mem_of_getElem? (i := 175) (by decide +kernel)) (by decide +kernel)) TT_0)))⟩
abbrev i_X9_put : Ym := (yX9_put, cX9_put, 5, (some .int), 2)
theorem j_X9_put : JV i_X9_put 3 := ⟨⟨by decide +kernel, by decide +kernel, by decide +kernel⟩, TT_2 (TT_t3 (List.mem_of_getElem? (i := 181) (by decide +kernel)) (by decide +kernel)) (TT_2 (TT_t3 (List.mem_of_getElem? (i := 182) (by decide +kernel)) (by decide +kernel)) (TT_2 in_X9 (TT_2 (TT_t3 (List.mem_of_getElem? (i := 183) (by decide +kernel)) (by decide +kernel)) TT_0)))⟩
abbrev i_X9_here : Ym := (yX9_here, cX9_here, 1, (some .int), 0)
theorem j_X9_here : JV i_X9_here 0 := ⟨⟨by decide +kernel, by decide +kernel, by decide +kernel⟩, TT_2 (TT_t3 (List.mem_of_getElem? (i := 194) (by decide +kernel)) (by decide +kernel)) (TT_2 (TT_pv (List.mem_of_getElem? (i := 22) (by decide +kernel)) (by decide +kernel)) (TT_2 in_X9 (TT_2 (TT_t3 (List.mem_of_getElem? (i := 195) (by decide +kernel)) (by decide +kernel)) TT_0)))⟩
abbrev i_X9_kindOf : Ym := (yX9_kindOf, cX9_kindOf, 1, (some .int), 0)
theorem j_X9_kindOf : JS i_X9_kindOf 1 := ⟨⟨by decide +kernel, by decide +kernel, by decide +kernel⟩, TT_2 (TT_t3 (List.mem_of_getElem? (i := 201) (by decide +kernel)) (by decide +kernel)) (TT_2 in_X9 (TT_2 (TT_t3 (List.mem_of_getElem? (i := 202) (by decide +kernel)) (by decide +kernel)) TT_0))⟩
abbrev i_X9_takes : Ym := (yX9_takes, cX9_takes, 4, (some .boolean), 1)
theorem j_X9_takes : JV i_X9_takes 2 := ⟨⟨by decide +kernel, by decide +kernel, by decide +kernel⟩, TT_2 (TT_t3 (List.mem_of_getElem? (i := 205) (by decide +kernel)) (by decide +kernel)) (TT_2 (TT_pv (List.mem_of_getElem? (i := 24) (by decide +kernel)) (by decide +kernel)) (TT_2 in_X9 (TT_2 (TT_t3 (List.mem_of_getElem? (i := 206) (by decide +kernel)) (by decide +kernel)) TT_0)))⟩
abbrev i_X9_takesLight : Ym := (yX9_takesLight, cX9_takesLight, 4, (some .boolean), 2)
theorem j_X9_takesLight : JV i_X9_takesLight 0 := ⟨⟨by decide +kernel, by decide +kernel, by decide +kernel⟩, TT_2 (TT_t3 (List.mem_of_getElem? (i := 198) (by decide +kernel)) (by decide +kernel)) (TT_2 (TT_pv (List.mem_of_getElem? (i := 23) (by decide +kernel)) (by decide +kernel)) (TT_2 in_X9 (TT_2 (TT_t3 (List.mem_of_getElem? (i := 199) (by decide +kernel)) (by decide +kernel)) TT_0)))⟩
abbrev i_X9_faultOf : Ym := (yX9_faultOf, cX9_faultOf, 3, (some .int), 3)
theorem j_X9_faultOf : JV i_X9_faultOf 1 := ⟨⟨by decide +kernel, by decide +kernel, by decide +kernel⟩, TT_2 (TT_t3 (List.mem_of_getElem? (i := 190) (by decide +kernel)) (by decide +kernel)) (TT_2 (TT_pv (List.mem_of_getElem? (i := 21) (by decide +kernel)) (by decide +kernel)) (TT_2 in_X9 (TT_2 (TT_t3 (List.mem_of_getElem? (i := 191) (by decide +kernel)) (by decide +kernel)) TT_0)))⟩
abbrev i_X9_fault : Ym := (yX9_fault, cX9_fault, 2, (some .int), 4)
theorem j_X9_fault : JV i_X9_fault 1 := ⟨⟨by decide +kernel, by decide +kernel, by decide +kernel⟩, TT_2 (TT_t3 (List.mem_of_getElem? (i := 185) (by decide +kernel)) (by decide +kernel)) (TT_2 (TT_t3 (List.mem_of_getElem? (i := 186) (by decide +kernel)) (by decide +kernel)) (TT_2 in_X9 (TT_2 (TT_t3 (List.mem_of_getElem? (i := 187) (by decide +kernel)) (by decide +kernel)) TT_0)))⟩
abbrev i_X9_bank : Ym := (yX9_bank, cX9_bank, 3, (some .int), 4)
theorem j_X9_bank : JV i_X9_bank 1 := ⟨⟨by decide +kernel, by decide +kernel, by decide +kernel⟩, TT_2 (TT_t3 (List.mem_of_getElem? (i := 208) (by decide +kernel)) (by decide +kernel)) (TT_2 (TT_t3 (List.mem_of_getElem? (i := 209) (by decide +kernel)) (by decide +kernel)) (TT_2 in_X9 (TT_2 (TT_t3 (List.mem_of_getElem? (i := 210) (by decide +kernel)) (by decide +kernel)) TT_0)))⟩
abbrev i_X9_dew : Ym := (yX9_dew, cX9_dew, 2, (some .int), 0)
theorem j_X9_dew : JS i_X9_dew 2 := ⟨⟨by decide +kernel, by decide +kernel, by decide +kernel⟩, TT_2 (TT_t3 (List.mem_of_getElem? (i := 232) (by decide +kernel)) (by decide +kernel)) (TT_2 in_X9 (TT_2 (TT_t3 (List.mem_of_getElem? (i := 233) (by decide +kernel)) (by decide +kernel)) TT_0))⟩
abbrev i_X9_forged : Ym := (yX9_forged, cX9_forged, 2, (some .int), 0)
theorem j_X9_forged : JS i_X9_forged 2 := ⟨⟨by decide +kernel, by decide +kernel, by decide +kernel⟩, TT_2 (TT_t3 (List.mem_of_getElem? (i := 235) (by decide +kernel)) (by decide +kernel)) (TT_2 in_X9 (TT_2 (TT_t3 (List.mem_of_getElem? (i := 236) (by decide +kernel)) (by decide +kernel)) TT_0))⟩
abbrev i_X9_glowBy : Ym := (yX9_glowBy, cX9_glowBy, 3, (some .int), 1)
theorem j_X9_glowBy : JS i_X9_glowBy 3 := ⟨⟨by decide +kernel, by decide +kernel, by decide +kernel⟩, TT_2 (TT_t3 (List.mem_of_getElem? (i := 229) (by decide +kernel)) (by decide +kernel)) (TT_2 in_X9 (TT_2 (TT_t3 (List.mem_of_getElem? (i := 230) (by decide +kernel)) (by decide +kernel)) TT_0))⟩
abbrev i_X9_glowOf : Ym := (yX9_glowOf, cX9_glowOf, 3, (some .int), 2)
theorem j_X9_glowOf : JV i_X9_glowOf 2 := ⟨⟨by decide +kernel, by decide +kernel, by decide +kernel⟩, TT_2 (TT_t3 (List.mem_of_getElem? (i := 226) (by decide +kernel)) (by decide +kernel)) (TT_2 (TT_pv (List.mem_of_getElem? (i := 27) (by decide +kernel)) (by decide +kernel)) (TT_2 in_X9 (TT_2 (TT_t3 (List.mem_of_getElem? (i := 227) (by decide +kernel)) (by decide +kernel)) TT_0)))⟩
abbrev i_X9_light : Ym := (yX9_light, cX9_light, 3, (some .int), 4)
theorem j_X9_light : JV i_X9_light 2 := ⟨⟨by decide +kernel, by decide +kernel, by decide +kernel⟩, TT_2 (TT_t3 (List.mem_of_getElem? (i := 212) (by decide +kernel)) (by decide +kernel)) (TT_2 (TT_t3 (List.mem_of_getElem? (i := 213) (by decide +kernel)) (by decide +kernel)) (TT_2 in_X9 (TT_2 (TT_t3 (List.mem_of_getElem? (i := 214) (by decide +kernel)) (by decide +kernel)) TT_0)))⟩
abbrev i_X9_lightOf : Ym := (yX9_lightOf, cX9_lightOf, 3, (some .int), 3)
theorem j_X9_lightOf : JV i_X9_lightOf 2 := ⟨⟨by decide +kernel, by decide +kernel, by decide +kernel⟩, TT_2 (TT_t3 (List.mem_of_getElem? (i := 222) (by decide +kernel)) (by decide +kernel)) (TT_2 (TT_pv (List.mem_of_getElem? (i := 26) (by decide +kernel)) (by decide +kernel)) (TT_2 in_X9 (TT_2 (TT_t3 (List.mem_of_getElem? (i := 223) (by decide +kernel)) (by decide +kernel)) TT_0)))⟩
abbrev i_X9_isA : Ym := (yX9_isA, cX9_isA, 2, (some .boolean), 0)
theorem j_X9_isA : JS i_X9_isA 2 := ⟨⟨by decide +kernel, by decide +kernel, by decide +kernel⟩, TT_2 (TT_t4 (List.mem_of_getElem? (i := 2) (by decide +kernel)) (by decide +kernel)) (TT_2 in_X9 (TT_2 (TT_t4 (List.mem_of_getElem? (i := 3) (by decide +kernel)) (by decide +kernel)) TT_0))⟩
abbrev i_X9_mark : Ym := (yX9_mark, cX9_mark, 5, (some .int), 3)
theorem j_X9_mark : JV i_X9_mark 2 := ⟨⟨by decide +kernel, by decide +kernel, by decide +kernel⟩, TT_2 (TT_t3 (List.mem_of_getElem? (i := 238) (by decide +kernel)) (by decide +kernel)) (TT_2 (TT_t3 (List.mem_of_getElem? (i := 239) (by decide +kernel)) (by decide +kernel)) (TT_2 in_X9 (TT_2 (TT_t4 (List.mem_of_getElem? (i := 0) (by decide +kernel)) (by decide +kernel)) TT_0)))⟩
abbrev i_X9_glows : Ym := (yX9_glows, cX9_glows, 3, (some .int), 3)
theorem j_X9_glows : JV i_X9_glows 2 := ⟨⟨by decide +kernel, by decide +kernel, by decide +kernel⟩, TT_2 (TT_t4 (List.mem_of_getElem? (i := 5) (by decide +kernel)) (by decide +kernel)) (TT_2 (TT_t4 (List.mem_of_getElem? (i := 6) (by decide +kernel)) (by decide +kernel)) (TT_2 in_X9 (TT_2 (TT_t4 (List.mem_of_getElem? (i := 7) (by decide +kernel)) (by decide +kernel)) TT_0)))⟩
abbrev i_X9_minds : Ym := (yX9_minds, cX9_minds, 3, none, 0)
theorem j_X9_minds : JV i_X9_minds 0 := ⟨⟨by decide +kernel, by decide +kernel, by decide +kernel⟩, TT_2 (TT_t4 (List.mem_of_getElem? (i := 15) (by decide +kernel)) (by decide +kernel)) (TT_2 (TT_pv (List.mem_of_getElem? (i := 28) (by decide +kernel)) (by decide +kernel)) (TT_2 in_X9 (TT_2 (TT_t4 (List.mem_of_getElem? (i := 16) (by decide +kernel)) (by decide +kernel)) TT_0)))⟩
abbrev i_X9_glowAll : Ym := (yX9_glowAll, cX9_glowAll, 3, (some .int), 3)
theorem j_X9_glowAll : JV i_X9_glowAll 0 := ⟨⟨by decide +kernel, by decide +kernel, by decide +kernel⟩, TT_2 (TT_t4 (List.mem_of_getElem? (i := 19) (by decide +kernel)) (by decide +kernel)) (TT_2 (TT_pv (List.mem_of_getElem? (i := 29) (by decide +kernel)) (by decide +kernel)) (TT_2 in_X9 (TT_2 (TT_t4 (List.mem_of_getElem? (i := 20) (by decide +kernel)) (by decide +kernel)) TT_0)))⟩
abbrev i_X9_night : Ym := (yX9_night, cX9_night, 1, (some .int), 4)
theorem j_X9_night : JV i_X9_night 0 := ⟨⟨by decide +kernel, by decide +kernel, by decide +kernel⟩, TT_2 (TT_t4 (List.mem_of_getElem? (i := 10) (by decide +kernel)) (by decide +kernel)) (TT_2 (TT_t4 (List.mem_of_getElem? (i := 11) (by decide +kernel)) (by decide +kernel)) (TT_2 in_X9 (TT_2 (TT_t4 (List.mem_of_getElem? (i := 12) (by decide +kernel)) (by decide +kernel)) TT_0)))⟩
abbrev i_X9_lights : Ym := (yX9_lights, cX9_lights, 3, (some .int), 3)
theorem j_X9_lights : JV i_X9_lights 2 := ⟨⟨by decide +kernel, by decide +kernel, by decide +kernel⟩, TT_2 (TT_t4 (List.mem_of_getElem? (i := 30) (by decide +kernel)) (by decide +kernel)) (TT_2 (TT_pv (List.mem_of_getElem? (i := 30) (by decide +kernel)) (by decide +kernel)) (TT_2 in_X9 (TT_2 (TT_t4 (List.mem_of_getElem? (i := 31) (by decide +kernel)) (by decide +kernel)) TT_0)))⟩
abbrev i_X9_answer : Ym := (yX9_answer, cX9_answer, 2, (some .int), 4)
theorem j_X9_answer : JV i_X9_answer 1 := ⟨⟨by decide +kernel, by decide +kernel, by decide +kernel⟩, TT_2 (TT_t4 (List.mem_of_getElem? (i := 25) (by decide +kernel)) (by decide +kernel)) (TT_2 (TT_t4 (List.mem_of_getElem? (i := 26) (by decide +kernel)) (by decide +kernel)) (TT_2 in_X9 (TT_2 (TT_t4 (List.mem_of_getElem? (i := 27) (by decide +kernel)) (by decide +kernel)) TT_0)))⟩
abbrev i_X9_relight : Ym := (yX9_relight, cX9_relight, 2, (some .int), 4)
theorem j_X9_relight : JV i_X9_relight 1 := ⟨⟨by decide +kernel, by decide +kernel, by decide +kernel⟩, TT_2 (TT_t4 (List.mem_of_getElem? (i := 33) (by decide +kernel)) (by decide +kernel)) (TT_2 (TT_t4 (List.mem_of_getElem? (i := 34) (by decide +kernel)) (by decide +kernel)) (TT_2 in_X9 (TT_2 (TT_t4 (List.mem_of_getElem? (i := 35) (by decide +kernel)) (by decide +kernel)) TT_0)))⟩
abbrev i_X9_carry : Ym := (yX9_carry, cX9_carry, 4, (some .int), 2)
theorem j_X9_carry : JV i_X9_carry 2 := ⟨⟨by decide +kernel, by decide +kernel, by decide +kernel⟩, TT_2 (TT_t4 (List.mem_of_getElem? (i := 37) (by decide +kernel)) (by decide +kernel)) (TT_2 (TT_t4 (List.mem_of_getElem? (i := 38) (by decide +kernel)) (by decide +kernel)) (TT_2 in_X9 (TT_2 (TT_t4 (List.mem_of_getElem? (i := 39) (by decide +kernel)) (by decide +kernel)) TT_0)))⟩
abbrev i_X9_undo : Ym := (yX9_undo, cX9_undo, 5, (some .int), 1)
theorem j_X9_undo : JV i_X9_undo 1 := ⟨⟨by decide +kernel, by decide +kernel, by decide +kernel⟩, TT_2 (TT_t4 (List.mem_of_getElem? (i := 45) (by decide +kernel)) (by decide +kernel)) (TT_2 (TT_t4 (List.mem_of_getElem? (i := 46) (by decide +kernel)) (by decide +kernel)) (TT_2 in_X9 (TT_2 (TT_t4 (List.mem_of_getElem? (i := 47) (by decide +kernel)) (by decide +kernel)) TT_0)))⟩
abbrev i_X9_keep : Ym := (yX9_keep, cX9_keep, 2, (some .int), 1)
theorem j_X9_keep : JV i_X9_keep 1 := ⟨⟨by decide +kernel, by decide +kernel, by decide +kernel⟩, TT_2 (TT_t4 (List.mem_of_getElem? (i := 49) (by decide +kernel)) (by decide +kernel)) (TT_2 (TT_t4 (List.mem_of_getElem? (i := 50) (by decide +kernel)) (by decide +kernel)) (TT_2 in_X9 (TT_2 (TT_t4 (List.mem_of_getElem? (i := 51) (by decide +kernel)) (by decide +kernel)) TT_0)))⟩
abbrev i_X9_on : Ym := (yX9_on, cX9_on, 2, (some .int), 1)
theorem j_X9_on : JV i_X9_on 1 := ⟨⟨by decide +kernel, by decide +kernel, by decide +kernel⟩, TT_2 (TT_t4 (List.mem_of_getElem? (i := 58) (by decide +kernel)) (by decide +kernel)) (TT_2 (TT_t4 (List.mem_of_getElem? (i := 59) (by decide +kernel)) (by decide +kernel)) (TT_2 in_X9 (TT_2 (TT_t4 (List.mem_of_getElem? (i := 60) (by decide +kernel)) (by decide +kernel)) TT_0)))⟩
abbrev i_X9_size : Ym := (yX9_size, cX9_size, 1, (some .int), 0)
theorem j_X9_size : JS i_X9_size 1 := ⟨⟨by decide +kernel, by decide +kernel, by decide +kernel⟩, TT_2 (TT_t4 (List.mem_of_getElem? (i := 78) (by decide +kernel)) (by decide +kernel)) (TT_2 in_X9 (TT_2 (TT_t4 (List.mem_of_getElem? (i := 79) (by decide +kernel)) (by decide +kernel)) TT_0))⟩
abbrev i_X9_gives : Ym := (yX9_gives, cX9_gives, 6, (some .int), 3)
theorem j_X9_gives : JV i_X9_gives 4 := ⟨⟨by decide +kernel, by decide +kernel, by decide +kernel⟩, TT_2 (TT_t4 (List.mem_of_getElem? (i := 75) (by decide +kernel)) (by decide +kernel)) (TT_2 (TT_pv (List.mem_of_getElem? (i := 34) (by decide +kernel)) (by decide +kernel)) (TT_2 in_X9 (TT_2 (TT_t4 (List.mem_of_getElem? (i := 76) (by decide +kernel)) (by decide +kernel)) TT_0)))⟩
abbrev i_X9_brightBy : Ym := (yX9_brightBy, cX9_brightBy, 6, (some .int), 4)
theorem j_X9_brightBy : JV i_X9_brightBy 3 := ⟨⟨by decide +kernel, by decide +kernel, by decide +kernel⟩, TT_2 (TT_t4 (List.mem_of_getElem? (i := 71) (by decide +kernel)) (by decide +kernel)) (TT_2 (TT_pv (List.mem_of_getElem? (i := 33) (by decide +kernel)) (by decide +kernel)) (TT_2 in_X9 (TT_2 (TT_t4 (List.mem_of_getElem? (i := 72) (by decide +kernel)) (by decide +kernel)) TT_0)))⟩
abbrev i_X9_brightNow : Ym := (yX9_brightNow, cX9_brightNow, 2, (some .int), 5)
theorem j_X9_brightNow : JV i_X9_brightNow 1 := ⟨⟨by decide +kernel, by decide +kernel, by decide +kernel⟩, TT_2 (TT_t4 (List.mem_of_getElem? (i := 67) (by decide +kernel)) (by decide +kernel)) (TT_2 (TT_pv (List.mem_of_getElem? (i := 32) (by decide +kernel)) (by decide +kernel)) (TT_2 in_X9 (TT_2 (TT_t4 (List.mem_of_getElem? (i := 68) (by decide +kernel)) (by decide +kernel)) TT_0)))⟩
abbrev i_X9_alongNow : Ym := (yX9_alongNow, cX9_alongNow, 5, (some .int), 6)
theorem j_X9_alongNow : JV i_X9_alongNow 2 := ⟨⟨by decide +kernel, by decide +kernel, by decide +kernel⟩, TT_2 (TT_t4 (List.mem_of_getElem? (i := 86) (by decide +kernel)) (by decide +kernel)) (TT_2 (TT_pv (List.mem_of_getElem? (i := 35) (by decide +kernel)) (by decide +kernel)) (TT_2 in_X9 (TT_2 (TT_t4 (List.mem_of_getElem? (i := 87) (by decide +kernel)) (by decide +kernel)) TT_0)))⟩
abbrev i_X9_bright : Ym := (yX9_bright, cX9_bright, 2, (some .int), 6)
theorem j_X9_bright : JV i_X9_bright 1 := ⟨⟨by decide +kernel, by decide +kernel, by decide +kernel⟩, TT_2 (TT_t4 (List.mem_of_getElem? (i := 62) (by decide +kernel)) (by decide +kernel)) (TT_2 (TT_t4 (List.mem_of_getElem? (i := 63) (by decide +kernel)) (by decide +kernel)) (TT_2 in_X9 (TT_2 (TT_t4 (List.mem_of_getElem? (i := 64) (by decide +kernel)) (by decide +kernel)) TT_0)))⟩
abbrev i_X9_along : Ym := (yX9_along, cX9_along, 3, (some .int), 7)
theorem j_X9_along : JV i_X9_along 2 := ⟨⟨by decide +kernel, by decide +kernel, by decide +kernel⟩, TT_2 (TT_t4 (List.mem_of_getElem? (i := 81) (by decide +kernel)) (by decide +kernel)) (TT_2 (TT_t4 (List.mem_of_getElem? (i := 82) (by decide +kernel)) (by decide +kernel)) (TT_2 in_X9 (TT_2 (TT_t4 (List.mem_of_getElem? (i := 83) (by decide +kernel)) (by decide +kernel)) TT_0)))⟩
abbrev i_X9_when : Ym := (yX9_when, cX9_when, 5, (some .int), 5)
theorem j_X9_when : JV i_X9_when 2 := ⟨⟨by decide +kernel, by decide +kernel, by decide +kernel⟩, TT_2 (TT_t4 (List.mem_of_getElem? (i := 89) (by decide +kernel)) (by decide +kernel)) (TT_2 (TT_t4 (List.mem_of_getElem? (i := 90) (by decide +kernel)) (by decide +kernel)) (TT_2 in_X9 (TT_2 (TT_t4 (List.mem_of_getElem? (i := 91) (by decide +kernel)) (by decide +kernel)) TT_0)))⟩
abbrev i_X9_stow : Ym := (yX9_stow, cX9_stow, 9, (some .int), 7)
theorem j_X9_stow : JV i_X9_stow 3 := ⟨⟨by decide +kernel, by decide +kernel, by decide +kernel⟩, TT_2 (TT_t4 (List.mem_of_getElem? (i := 94) (by decide +kernel)) (by decide +kernel)) (TT_2 (TT_t4 (List.mem_of_getElem? (i := 95) (by decide +kernel)) (by decide +kernel)) (TT_2 in_X9 (TT_2 (TT_t4 (List.mem_of_getElem? (i := 96) (by decide +kernel)) (by decide +kernel)) TT_0)))⟩
abbrev i_X9_dark : Ym := (yX9_dark, cX9_dark, 6, (some .int), 7)
theorem j_X9_dark : JV i_X9_dark 1 := ⟨⟨by decide +kernel, by decide +kernel, by decide +kernel⟩, TT_2 (TT_t4 (List.mem_of_getElem? (i := 99) (by decide +kernel)) (by decide +kernel)) (TT_2 (TT_t4 (List.mem_of_getElem? (i := 100) (by decide +kernel)) (by decide +kernel)) (TT_2 in_X9 (TT_2 (TT_t4 (List.mem_of_getElem? (i := 101) (by decide +kernel)) (by decide +kernel)) TT_0)))⟩
abbrev i_X9_road : Ym := (yX9_road, cX9_road, 6, (some .int), 6)
theorem j_X9_road : JV i_X9_road 0 := ⟨⟨by decide +kernel, by decide +kernel, by decide +kernel⟩, TT_2 (TT_t4 (List.mem_of_getElem? (i := 104) (by decide +kernel)) (by decide +kernel)) (TT_2 (TT_t4 (List.mem_of_getElem? (i := 105) (by decide +kernel)) (by decide +kernel)) (TT_2 in_X9 (TT_2 (TT_t4 (List.mem_of_getElem? (i := 106) (by decide +kernel)) (by decide +kernel)) TT_0)))⟩
abbrev i_X9_isForged : Ym := (yX9_isForged, cX9_isForged, 2, (some .boolean), 0)
theorem j_X9_isForged : JV i_X9_isForged 1 := ⟨⟨by decide +kernel, by decide +kernel, by decide +kernel⟩, TT_2 (TT_t4 (List.mem_of_getElem? (i := 117) (by decide +kernel)) (by decide +kernel)) (TT_2 (TT_pv (List.mem_of_getElem? (i := 37) (by decide +kernel)) (by decide +kernel)) (TT_2 in_X9 (TT_2 (TT_t4 (List.mem_of_getElem? (i := 118) (by decide +kernel)) (by decide +kernel)) TT_0)))⟩
abbrev i_X9_debts : Ym := (yX9_debts, cX9_debts, 3, (some .int), 1)
theorem j_X9_debts : JV i_X9_debts 0 := ⟨⟨by decide +kernel, by decide +kernel, by decide +kernel⟩, TT_2 (TT_t4 (List.mem_of_getElem? (i := 113) (by decide +kernel)) (by decide +kernel)) (TT_2 (TT_pv (List.mem_of_getElem? (i := 36) (by decide +kernel)) (by decide +kernel)) (TT_2 in_X9 (TT_2 (TT_t4 (List.mem_of_getElem? (i := 114) (by decide +kernel)) (by decide +kernel)) TT_0)))⟩
abbrev i_X9_owesBy : Ym := (yX9_owesBy, cX9_owesBy, 5, (some .int), 1)
theorem j_X9_owesBy : JV i_X9_owesBy 2 := ⟨⟨by decide +kernel, by decide +kernel, by decide +kernel⟩, TT_2 (TT_t4 (List.mem_of_getElem? (i := 121) (by decide +kernel)) (by decide +kernel)) (TT_2 (TT_pv (List.mem_of_getElem? (i := 38) (by decide +kernel)) (by decide +kernel)) (TT_2 in_X9 (TT_2 (TT_t4 (List.mem_of_getElem? (i := 122) (by decide +kernel)) (by decide +kernel)) TT_0)))⟩
abbrev i_X9_isRing : Ym := (yX9_isRing, cX9_isRing, 4, (some .boolean), 2)
theorem j_X9_isRing : JV i_X9_isRing 1 := ⟨⟨by decide +kernel, by decide +kernel, by decide +kernel⟩, TT_2 (TT_t4 (List.mem_of_getElem? (i := 129) (by decide +kernel)) (by decide +kernel)) (TT_2 (TT_pv (List.mem_of_getElem? (i := 39) (by decide +kernel)) (by decide +kernel)) (TT_2 in_X9 (TT_2 (TT_t4 (List.mem_of_getElem? (i := 130) (by decide +kernel)) (by decide +kernel)) TT_0)))⟩
abbrev i_X9_owes : Ym := (yX9_owes, cX9_owes, 2, (some .int), 2)
theorem j_X9_owes : JV i_X9_owes 1 := ⟨⟨by decide +kernel, by decide +kernel, by decide +kernel⟩, TT_2 (TT_t4 (List.mem_of_getElem? (i := 108) (by decide +kernel)) (by decide +kernel)) (TT_2 (TT_t4 (List.mem_of_getElem? (i := 109) (by decide +kernel)) (by decide +kernel)) (TT_2 in_X9 (TT_2 (TT_t4 (List.mem_of_getElem? (i := 110) (by decide +kernel)) (by decide +kernel)) TT_0)))⟩
abbrev i_X9_ring : Ym := (yX9_ring, cX9_ring, 3, (some .int), 3)
theorem j_X9_ring : JV i_X9_ring 0 := ⟨⟨by decide +kernel, by decide +kernel, by decide +kernel⟩, TT_2 (TT_t4 (List.mem_of_getElem? (i := 124) (by decide +kernel)) (by decide +kernel)) (TT_2 (TT_t4 (List.mem_of_getElem? (i := 125) (by decide +kernel)) (by decide +kernel)) (TT_2 in_X9 (TT_2 (TT_t4 (List.mem_of_getElem? (i := 126) (by decide +kernel)) (by decide +kernel)) TT_0)))⟩
abbrev i_X9_rings : Ym := (yX9_rings, cX9_rings, 4, (some .int), 3)
theorem j_X9_rings : JV i_X9_rings 1 := ⟨⟨by decide +kernel, by decide +kernel, by decide +kernel⟩, TT_2 (TT_t4 (List.mem_of_getElem? (i := 135) (by decide +kernel)) (by decide +kernel)) (TT_2 (TT_t4 (List.mem_of_getElem? (i := 136) (by decide +kernel)) (by decide +kernel)) (TT_2 in_X9 (TT_2 (TT_t4 (List.mem_of_getElem? (i := 137) (by decide +kernel)) (by decide +kernel)) TT_0)))⟩
abbrev i_X9_least : Ym := (yX9_least, cX9_least, 4, (some .int), 3)
theorem j_X9_least : JV i_X9_least 1 := ⟨⟨by decide +kernel, by decide +kernel, by decide +kernel⟩, TT_2 (TT_t4 (List.mem_of_getElem? (i := 139) (by decide +kernel)) (by decide +kernel)) (TT_2 (TT_t4 (List.mem_of_getElem? (i := 140) (by decide +kernel)) (by decide +kernel)) (TT_2 in_X9 (TT_2 (TT_t4 (List.mem_of_getElem? (i := 141) (by decide +kernel)) (by decide +kernel)) TT_0)))⟩
abbrev i_X9_chain : Ym := (yX9_chain, cX9_chain, 9, (some .int), 3)
theorem j_X9_chain : JV i_X9_chain 3 := ⟨⟨by decide +kernel, by decide +kernel, by decide +kernel⟩, TT_2 (TT_t4 (List.mem_of_getElem? (i := 143) (by decide +kernel)) (by decide +kernel)) (TT_2 (TT_t4 (List.mem_of_getElem? (i := 144) (by decide +kernel)) (by decide +kernel)) (TT_2 in_X9 (TT_2 (TT_t4 (List.mem_of_getElem? (i := 145) (by decide +kernel)) (by decide +kernel)) TT_0)))⟩
abbrev i_X9_dim : Ym := (yX9_dim, cX9_dim, 6, (some .int), 5)
theorem j_X9_dim : JV i_X9_dim 2 := ⟨⟨by decide +kernel, by decide +kernel, by decide +kernel⟩, TT_2 (TT_t4 (List.mem_of_getElem? (i := 148) (by decide +kernel)) (by decide +kernel)) (TT_2 (TT_t4 (List.mem_of_getElem? (i := 149) (by decide +kernel)) (by decide +kernel)) (TT_2 in_X9 (TT_2 (TT_t4 (List.mem_of_getElem? (i := 150) (by decide +kernel)) (by decide +kernel)) TT_0)))⟩
abbrev i_X9_against : Ym := (yX9_against, cX9_against, 4, (some .int), 1)
theorem j_X9_against : JV i_X9_against 1 := ⟨⟨by decide +kernel, by decide +kernel, by decide +kernel⟩, TT_2 (TT_t4 (List.mem_of_getElem? (i := 157) (by decide +kernel)) (by decide +kernel)) (TT_2 (TT_pv (List.mem_of_getElem? (i := 40) (by decide +kernel)) (by decide +kernel)) (TT_2 in_X9 (TT_2 (TT_t4 (List.mem_of_getElem? (i := 158) (by decide +kernel)) (by decide +kernel)) TT_0)))⟩
abbrev i_X9_fits : Ym := (yX9_fits, cX9_fits, 6, (some .boolean), 2)
theorem j_X9_fits : JV i_X9_fits 3 := ⟨⟨by decide +kernel, by decide +kernel, by decide +kernel⟩, TT_2 (TT_t4 (List.mem_of_getElem? (i := 161) (by decide +kernel)) (by decide +kernel)) (TT_2 (TT_pv (List.mem_of_getElem? (i := 41) (by decide +kernel)) (by decide +kernel)) (TT_2 in_X9 (TT_2 (TT_t4 (List.mem_of_getElem? (i := 162) (by decide +kernel)) (by decide +kernel)) TT_0)))⟩
abbrev i_X9_firsts : Ym := (yX9_firsts, cX9_firsts, 6, (some .int), 3)
theorem j_X9_firsts : JV i_X9_firsts 2 := ⟨⟨by decide +kernel, by decide +kernel, by decide +kernel⟩, TT_2 (TT_t4 (List.mem_of_getElem? (i := 152) (by decide +kernel)) (by decide +kernel)) (TT_2 (TT_t4 (List.mem_of_getElem? (i := 153) (by decide +kernel)) (by decide +kernel)) (TT_2 in_X9 (TT_2 (TT_t4 (List.mem_of_getElem? (i := 154) (by decide +kernel)) (by decide +kernel)) TT_0)))⟩
abbrev i_X9_kindsOf : Ym := (yX9_kindsOf, cX9_kindsOf, 5, (some .int), 3)
theorem j_X9_kindsOf : JV i_X9_kindsOf 2 := ⟨⟨by decide +kernel, by decide +kernel, by decide +kernel⟩, TT_2 (TT_t4 (List.mem_of_getElem? (i := 169) (by decide +kernel)) (by decide +kernel)) (TT_2 (TT_pv (List.mem_of_getElem? (i := 42) (by decide +kernel)) (by decide +kernel)) (TT_2 in_X9 (TT_2 (TT_t4 (List.mem_of_getElem? (i := 170) (by decide +kernel)) (by decide +kernel)) TT_0)))⟩
abbrev i_X9_kinds : Ym := (yX9_kinds, cX9_kinds, 4, (some .int), 4)
theorem j_X9_kinds : JV i_X9_kinds 2 := ⟨⟨by decide +kernel, by decide +kernel, by decide +kernel⟩, TT_2 (TT_t4 (List.mem_of_getElem? (i := 164) (by decide +kernel)) (by decide +kernel)) (TT_2 (TT_t4 (List.mem_of_getElem? (i := 165) (by decide +kernel)) (by decide +kernel)) (TT_2 in_X9 (TT_2 (TT_t4 (List.mem_of_getElem? (i := 166) (by decide +kernel)) (by decide +kernel)) TT_0)))⟩
abbrev i_X9_greatestPart : Ym := (yX9_greatestPart, cX9_greatestPart, 8, (some .int), 2)
theorem j_X9_greatestPart : JV i_X9_greatestPart 3 := ⟨⟨by decide +kernel, by decide +kernel, by decide +kernel⟩, TT_2 (TT_t4 (List.mem_of_getElem? (i := 177) (by decide +kernel)) (by decide +kernel)) (TT_2 (TT_pv (List.mem_of_getElem? (i := 43) (by decide +kernel)) (by decide +kernel)) (TT_2 in_X9 (TT_2 (TT_t4 (List.mem_of_getElem? (i := 178) (by decide +kernel)) (by decide +kernel)) TT_0)))⟩
abbrev i_X9_test : Ym := (yX9_test, cX9_test, 9, (some .int), 4)
theorem j_X9_test : JV i_X9_test 2 := ⟨⟨by decide +kernel, by decide +kernel, by decide +kernel⟩, TT_2 (TT_t4 (List.mem_of_getElem? (i := 172) (by decide +kernel)) (by decide +kernel)) (TT_2 (TT_t4 (List.mem_of_getElem? (i := 173) (by decide +kernel)) (by decide +kernel)) (TT_2 in_X9 (TT_2 (TT_t4 (List.mem_of_getElem? (i := 174) (by decide +kernel)) (by decide +kernel)) TT_0)))⟩
abbrev i_X9_whose : Ym := (yX9_whose, cX9_whose, 9, (some .int), 2)
theorem j_X9_whose : JV i_X9_whose 2 := ⟨⟨by decide +kernel, by decide +kernel, by decide +kernel⟩, TT_2 (TT_t4 (List.mem_of_getElem? (i := 180) (by decide +kernel)) (by decide +kernel)) (TT_2 (TT_t4 (List.mem_of_getElem? (i := 181) (by decide +kernel)) (by decide +kernel)) (TT_2 in_X9 (TT_2 (TT_t4 (List.mem_of_getElem? (i := 182) (by decide +kernel)) (by decide +kernel)) TT_0)))⟩
abbrev i_X9_duel : Ym := (yX9_duel, cX9_duel, 6, (some .int), 5)
theorem j_X9_duel : JV i_X9_duel 2 := ⟨⟨by decide +kernel, by decide +kernel, by decide +kernel⟩, TT_2 (TT_t4 (List.mem_of_getElem? (i := 184) (by decide +kernel)) (by decide +kernel)) (TT_2 (TT_t4 (List.mem_of_getElem? (i := 185) (by decide +kernel)) (by decide +kernel)) (TT_2 in_X9 (TT_2 (TT_t4 (List.mem_of_getElem? (i := 186) (by decide +kernel)) (by decide +kernel)) TT_0)))⟩
abbrev i_X9_betters : Ym := (yX9_betters, cX9_betters, 4, none, 0)
theorem j_X9_betters : JV i_X9_betters 1 := ⟨⟨by decide +kernel, by decide +kernel, by decide +kernel⟩, TT_2 (TT_t4 (List.mem_of_getElem? (i := 190) (by decide +kernel)) (by decide +kernel)) (TT_2 (TT_pv (List.mem_of_getElem? (i := 44) (by decide +kernel)) (by decide +kernel)) (TT_2 in_X9 (TT_2 (TT_t4 (List.mem_of_getElem? (i := 191) (by decide +kernel)) (by decide +kernel)) TT_0)))⟩
abbrev i_X9_tellsPart : Ym := (yX9_tellsPart, cX9_tellsPart, 11, (some .int), 0)
theorem j_X9_tellsPart : JV i_X9_tellsPart 2 := ⟨⟨by decide +kernel, by decide +kernel, by decide +kernel⟩, TT_2 (TT_t4 (List.mem_of_getElem? (i := 203) (by decide +kernel)) (by decide +kernel)) (TT_2 (TT_pv (List.mem_of_getElem? (i := 46) (by decide +kernel)) (by decide +kernel)) (TT_2 in_X9 (TT_2 (TT_t4 (List.mem_of_getElem? (i := 204) (by decide +kernel)) (by decide +kernel)) TT_0)))⟩
abbrev i_X9_chances : Ym := (yX9_chances, cX9_chances, 12, (some .int), 5)
theorem j_X9_chances : JV i_X9_chances 3 := ⟨⟨by decide +kernel, by decide +kernel, by decide +kernel⟩, TT_2 (TT_t4 (List.mem_of_getElem? (i := 199) (by decide +kernel)) (by decide +kernel)) (TT_2 (TT_pv (List.mem_of_getElem? (i := 45) (by decide +kernel)) (by decide +kernel)) (TT_2 in_X9 (TT_2 (TT_t4 (List.mem_of_getElem? (i := 200) (by decide +kernel)) (by decide +kernel)) TT_0)))⟩
abbrev i_X9_odds : Ym := (yX9_odds, cX9_odds, 4, (some .int), 6)
theorem j_X9_odds : JV i_X9_odds 3 := ⟨⟨by decide +kernel, by decide +kernel, by decide +kernel⟩, TT_2 (TT_t4 (List.mem_of_getElem? (i := 193) (by decide +kernel)) (by decide +kernel)) (TT_2 (TT_t4 (List.mem_of_getElem? (i := 194) (by decide +kernel)) (by decide +kernel)) (TT_2 in_X9 (TT_2 (TT_t4 (List.mem_of_getElem? (i := 195) (by decide +kernel)) (by decide +kernel)) TT_0)))⟩
abbrev i_X9_mid : Ym := (yX9_mid, cX9_mid, 3, (some .int), 6)
theorem j_X9_mid : JV i_X9_mid 2 := ⟨⟨by decide +kernel, by decide +kernel, by decide +kernel⟩, TT_2 (TT_t4 (List.mem_of_getElem? (i := 206) (by decide +kernel)) (by decide +kernel)) (TT_2 (TT_t4 (List.mem_of_getElem? (i := 207) (by decide +kernel)) (by decide +kernel)) (TT_2 in_X9 (TT_2 (TT_t4 (List.mem_of_getElem? (i := 208) (by decide +kernel)) (by decide +kernel)) TT_0)))⟩
abbrev i_X9_lots : Ym := (yX9_lots, cX9_lots, 7, (some .int), 4)
theorem j_X9_lots : JV i_X9_lots 2 := ⟨⟨by decide +kernel, by decide +kernel, by decide +kernel⟩, TT_2 (TT_t4 (List.mem_of_getElem? (i := 210) (by decide +kernel)) (by decide +kernel)) (TT_2 (TT_t4 (List.mem_of_getElem? (i := 211) (by decide +kernel)) (by decide +kernel)) (TT_2 in_X9 (TT_2 (TT_t4 (List.mem_of_getElem? (i := 212) (by decide +kernel)) (by decide +kernel)) TT_0)))⟩
abbrev i_X9_asked : Ym := (yX9_asked, cX9_asked, 1, (some .int), 0)
theorem j_X9_asked : JV i_X9_asked 0 := ⟨⟨by decide +kernel, by decide +kernel, by decide +kernel⟩, TT_2 (TT_t4 (List.mem_of_getElem? (i := 220) (by decide +kernel)) (by decide +kernel)) (TT_2 (TT_t4 (List.mem_of_getElem? (i := 221) (by decide +kernel)) (by decide +kernel)) (TT_2 in_X9 (TT_2 (TT_t4 (List.mem_of_getElem? (i := 222) (by decide +kernel)) (by decide +kernel)) TT_0)))⟩
abbrev i_X9_upper : Ym := (yX9_upper, cX9_upper, 1, (some .long), 0)
theorem j_X9_upper : JV i_X9_upper 0 := ⟨⟨by decide +kernel, by decide +kernel, by decide +kernel⟩, TT_2 (TT_t4 (List.mem_of_getElem? (i := 224) (by decide +kernel)) (by decide +kernel)) (TT_2 (TT_t4 (List.mem_of_getElem? (i := 225) (by decide +kernel)) (by decide +kernel)) (TT_2 in_X9 (TT_2 (TT_t4 (List.mem_of_getElem? (i := 226) (by decide +kernel)) (by decide +kernel)) TT_0)))⟩
abbrev i_X9_lower : Ym := (yX9_lower, cX9_lower, 1, (some .long), 0)
theorem j_X9_lower : JV i_X9_lower 0 := ⟨⟨by decide +kernel, by decide +kernel, by decide +kernel⟩, TT_2 (TT_t4 (List.mem_of_getElem? (i := 228) (by decide +kernel)) (by decide +kernel)) (TT_2 (TT_t4 (List.mem_of_getElem? (i := 229) (by decide +kernel)) (by decide +kernel)) (TT_2 in_X9 (TT_2 (TT_t4 (List.mem_of_getElem? (i := 230) (by decide +kernel)) (by decide +kernel)) TT_0)))⟩
abbrev i_X9_manyOf : Ym := (yX9_manyOf, cX9_manyOf, 5, (some .int), 0)
theorem j_X9_manyOf : JV i_X9_manyOf 2 := ⟨⟨by decide +kernel, by decide +kernel, by decide +kernel⟩, TT_2 (TT_t4 (List.mem_of_getElem? (i := 237) (by decide +kernel)) (by decide +kernel)) (TT_2 (TT_pv (List.mem_of_getElem? (i := 47) (by decide +kernel)) (by decide +kernel)) (TT_2 in_X9 (TT_2 (TT_t4 (List.mem_of_getElem? (i := 238) (by decide +kernel)) (by decide +kernel)) TT_0)))⟩
abbrev i_X9_rowsThere : Ym := (yX9_rowsThere, cX9_rowsThere, 3, (some .int), 0)
theorem j_X9_rowsThere : JV i_X9_rowsThere 0 := ⟨⟨by decide +kernel, by decide +kernel, by decide +kernel⟩, TT_2 (TT_t5 (List.mem_of_getElem? (i := 1) (by decide +kernel)) (by decide +kernel)) (TT_2 (TT_pv (List.mem_of_getElem? (i := 48) (by decide +kernel)) (by decide +kernel)) (TT_2 in_X9 (TT_2 (TT_t5 (List.mem_of_getElem? (i := 2) (by decide +kernel)) (by decide +kernel)) TT_0)))⟩
abbrev i_X9_textsThere : Ym := (yX9_textsThere, cX9_textsThere, 3, (some .int), 0)
theorem j_X9_textsThere : JV i_X9_textsThere 0 := ⟨⟨by decide +kernel, by decide +kernel, by decide +kernel⟩, TT_2 (TT_t5 (List.mem_of_getElem? (i := 5) (by decide +kernel)) (by decide +kernel)) (TT_2 (TT_pv (List.mem_of_getElem? (i := 49) (by decide +kernel)) (by decide +kernel)) (TT_2 in_X9 (TT_2 (TT_t5 (List.mem_of_getElem? (i := 6) (by decide +kernel)) (by decide +kernel)) TT_0)))⟩
abbrev i_X9_banksKept : Ym := (yX9_banksKept, cX9_banksKept, 3, (some .int), 0)
theorem j_X9_banksKept : JV i_X9_banksKept 0 := ⟨⟨by decide +kernel, by decide +kernel, by decide +kernel⟩, TT_2 (TT_t5 (List.mem_of_getElem? (i := 9) (by decide +kernel)) (by decide +kernel)) (TT_2 (TT_pv (List.mem_of_getElem? (i := 50) (by decide +kernel)) (by decide +kernel)) (TT_2 in_X9 (TT_2 (TT_t5 (List.mem_of_getElem? (i := 10) (by decide +kernel)) (by decide +kernel)) TT_0)))⟩
abbrev i_X9_count : Ym := (yX9_count, cX9_count, 2, (some .int), 4)
theorem j_X9_count : JV i_X9_count 1 := ⟨⟨by decide +kernel, by decide +kernel, by decide +kernel⟩, TT_2 (TT_t4 (List.mem_of_getElem? (i := 232) (by decide +kernel)) (by decide +kernel)) (TT_2 (TT_t4 (List.mem_of_getElem? (i := 233) (by decide +kernel)) (by decide +kernel)) (TT_2 in_X9 (TT_2 (TT_t4 (List.mem_of_getElem? (i := 234) (by decide +kernel)) (by decide +kernel)) TT_0)))⟩
abbrev i_X9_finding : Ym := (yX9_finding, cX9_finding, 1, (some .int), 0)
theorem j_X9_finding : JV i_X9_finding 0 := ⟨⟨by decide +kernel, by decide +kernel, by decide +kernel⟩, TT_2 (TT_t5 (List.mem_of_getElem? (i := 12) (by decide +kernel)) (by decide +kernel)) (TT_2 (TT_t5 (List.mem_of_getElem? (i := 13) (by decide +kernel)) (by decide +kernel)) (TT_2 in_X9 (TT_2 (TT_t5 (List.mem_of_getElem? (i := 14) (by decide +kernel)) (by decide +kernel)) TT_0)))⟩
abbrev i_X9_findings : Ym := (yX9_findings, cX9_findings, 2, (some .int), 1)
theorem j_X9_findings : JV i_X9_findings 1 := ⟨⟨by decide +kernel, by decide +kernel, by decide +kernel⟩, TT_2 (TT_t5 (List.mem_of_getElem? (i := 16) (by decide +kernel)) (by decide +kernel)) (TT_2 (TT_t5 (List.mem_of_getElem? (i := 17) (by decide +kernel)) (by decide +kernel)) (TT_2 in_X9 (TT_2 (TT_t5 (List.mem_of_getElem? (i := 18) (by decide +kernel)) (by decide +kernel)) TT_0)))⟩
abbrev i_X9_mix : Ym := (yX9_mix, cX9_mix, 3, none, 0)
theorem j_X9_mix : JV i_X9_mix 1 := ⟨⟨by decide +kernel, by decide +kernel, by decide +kernel⟩, TT_2 (TT_t5 (List.mem_of_getElem? (i := 27) (by decide +kernel)) (by decide +kernel)) (TT_2 (TT_pv (List.mem_of_getElem? (i := 51) (by decide +kernel)) (by decide +kernel)) (TT_2 in_X9 (TT_2 (TT_t5 (List.mem_of_getElem? (i := 28) (by decide +kernel)) (by decide +kernel)) TT_0)))⟩
abbrev i_X9_digest : Ym := (yX9_digest, cX9_digest, 3, (some .long), 5)
theorem j_X9_digest : JV i_X9_digest 0 := ⟨⟨by decide +kernel, by decide +kernel, by decide +kernel⟩, TT_2 (TT_t5 (List.mem_of_getElem? (i := 20) (by decide +kernel)) (by decide +kernel)) (TT_2 (TT_t5 (List.mem_of_getElem? (i := 21) (by decide +kernel)) (by decide +kernel)) (TT_2 in_X9 (TT_2 (TT_t5 (List.mem_of_getElem? (i := 22) (by decide +kernel)) (by decide +kernel)) TT_0)))⟩
abbrev i_X0_clear : Ym := (yX0_clear, cX0_clear, 1, none, 0)
theorem j_X0_clear : JV i_X0_clear 0 := ⟨⟨by decide +kernel, by decide +kernel, by decide +kernel⟩, TT_2 (TT_t1 (List.mem_of_getElem? (i := 34) (by decide +kernel)) (by decide +kernel)) (TT_2 (TT_t1 (List.mem_of_getElem? (i := 35) (by decide +kernel)) (by decide +kernel)) (TT_2 in_X0 (TT_2 (TT_t1 (List.mem_of_getElem? (i := 36) (by decide +kernel)) (by decide +kernel)) TT_0)))⟩
abbrev i_X0_add : Ym := (yX0_add, cX0_add, 6, none, 0)
theorem j_X0_add : JV i_X0_add 5 := ⟨⟨by decide +kernel, by decide +kernel, by decide +kernel⟩, TT_2 (TT_t1 (List.mem_of_getElem? (i := 38) (by decide +kernel)) (by decide +kernel)) (TT_2 (TT_t1 (List.mem_of_getElem? (i := 39) (by decide +kernel)) (by decide +kernel)) (TT_2 in_X0 (TT_2 (TT_t1 (List.mem_of_getElem? (i := 40) (by decide +kernel)) (by decide +kernel)) TT_0)))⟩
abbrev i_X0_become : Ym := (yX0_become, cX0_become, 2, none, 1)
theorem j_X0_become : JV i_X0_become 1 := ⟨⟨by decide +kernel, by decide +kernel, by decide +kernel⟩, TT_2 (TT_t1 (List.mem_of_getElem? (i := 187) (by decide +kernel)) (by decide +kernel)) (TT_2 (TT_t1 (List.mem_of_getElem? (i := 188) (by decide +kernel)) (by decide +kernel)) (TT_2 in_X0 (TT_2 (TT_t1 (List.mem_of_getElem? (i := 189) (by decide +kernel)) (by decide +kernel)) TT_0)))⟩
abbrev i_X0_size : Ym := (yX0_size, cX0_size, 1, (some .int), 0)
theorem j_X0_size : JV i_X0_size 0 := ⟨⟨by decide +kernel, by decide +kernel, by decide +kernel⟩, TT_2 (TT_t1 (List.mem_of_getElem? (i := 47) (by decide +kernel)) (by decide +kernel)) (TT_2 (TT_t1 (List.mem_of_getElem? (i := 48) (by decide +kernel)) (by decide +kernel)) (TT_2 in_X0 (TT_2 (TT_t1 (List.mem_of_getElem? (i := 49) (by decide +kernel)) (by decide +kernel)) TT_0)))⟩
abbrev i_X0_thisNight : Ym := (yX0_thisNight, cX0_thisNight, 1, (some .int), 0)
theorem j_X0_thisNight : JV i_X0_thisNight 0 := ⟨⟨by decide +kernel, by decide +kernel, by decide +kernel⟩, TT_2 (TT_t1 (List.mem_of_getElem? (i := 109) (by decide +kernel)) (by decide +kernel)) (TT_2 (TT_t1 (List.mem_of_getElem? (i := 110) (by decide +kernel)) (by decide +kernel)) (TT_2 in_X0 (TT_2 (TT_t1 (List.mem_of_getElem? (i := 111) (by decide +kernel)) (by decide +kernel)) TT_0)))⟩
abbrev i_X0_deedsDone : Ym := (yX0_deedsDone, cX0_deedsDone, 1, (some .int), 0)
theorem j_X0_deedsDone : JV i_X0_deedsDone 0 := ⟨⟨by decide +kernel, by decide +kernel, by decide +kernel⟩, TT_2 (TT_t1 (List.mem_of_getElem? (i := 126) (by decide +kernel)) (by decide +kernel)) (TT_2 (TT_t1 (List.mem_of_getElem? (i := 127) (by decide +kernel)) (by decide +kernel)) (TT_2 in_X0 (TT_2 (TT_t1 (List.mem_of_getElem? (i := 128) (by decide +kernel)) (by decide +kernel)) TT_0)))⟩
abbrev i_X0_litSet : Ym := (yX0_litSet, cX0_litSet, 1, (some .int), 0)
theorem j_X0_litSet : JV i_X0_litSet 0 := ⟨⟨by decide +kernel, by decide +kernel, by decide +kernel⟩, TT_2 (TT_t2 (List.mem_of_getElem? (i := 128) (by decide +kernel)) (by decide +kernel)) (TT_2 (TT_t2 (List.mem_of_getElem? (i := 129) (by decide +kernel)) (by decide +kernel)) (TT_2 in_X0 (TT_2 (TT_t2 (List.mem_of_getElem? (i := 130) (by decide +kernel)) (by decide +kernel)) TT_0)))⟩
abbrev i_X0_has : Ym := (yX0_has, cX0_has, 2, (some .boolean), 0)
theorem j_X0_has : JV i_X0_has 1 := ⟨⟨by decide +kernel, by decide +kernel, by decide +kernel⟩, TT_2 (TT_t1 (List.mem_of_getElem? (i := 55) (by decide +kernel)) (by decide +kernel)) (TT_2 (TT_t1 (List.mem_of_getElem? (i := 56) (by decide +kernel)) (by decide +kernel)) (TT_2 in_X0 (TT_2 (TT_t1 (List.mem_of_getElem? (i := 57) (by decide +kernel)) (by decide +kernel)) TT_0)))⟩
abbrev i_X0_isLit : Ym := (yX0_isLit, cX0_isLit, 2, (some .boolean), 1)
theorem j_X0_isLit : JV i_X0_isLit 1 := ⟨⟨by decide +kernel, by decide +kernel, by decide +kernel⟩, TT_2 (TT_t1 (List.mem_of_getElem? (i := 84) (by decide +kernel)) (by decide +kernel)) (TT_2 (TT_t1 (List.mem_of_getElem? (i := 85) (by decide +kernel)) (by decide +kernel)) (TT_2 in_X0 (TT_2 (TT_t1 (List.mem_of_getElem? (i := 86) (by decide +kernel)) (by decide +kernel)) TT_0)))⟩
abbrev i_X0_isOwing : Ym := (yX0_isOwing, cX0_isOwing, 2, (some .boolean), 2)
theorem j_X0_isOwing : JV i_X0_isOwing 1 := ⟨⟨by decide +kernel, by decide +kernel, by decide +kernel⟩, TT_2 (TT_t2 (List.mem_of_getElem? (i := 30) (by decide +kernel)) (by decide +kernel)) (TT_2 (TT_t2 (List.mem_of_getElem? (i := 31) (by decide +kernel)) (by decide +kernel)) (TT_2 in_X0 (TT_2 (TT_t2 (List.mem_of_getElem? (i := 32) (by decide +kernel)) (by decide +kernel)) TT_0)))⟩
abbrev i_X0_kindOf : Ym := (yX0_kindOf, cX0_kindOf, 2, (some .int), 1)
theorem j_X0_kindOf : JV i_X0_kindOf 1 := ⟨⟨by decide +kernel, by decide +kernel, by decide +kernel⟩, TT_2 (TT_t1 (List.mem_of_getElem? (i := 63) (by decide +kernel)) (by decide +kernel)) (TT_2 (TT_t1 (List.mem_of_getElem? (i := 64) (by decide +kernel)) (by decide +kernel)) (TT_2 in_X0 (TT_2 (TT_t1 (List.mem_of_getElem? (i := 65) (by decide +kernel)) (by decide +kernel)) TT_0)))⟩
abbrev i_X0_owerOf : Ym := (yX0_owerOf, cX0_owerOf, 2, (some .int), 1)
theorem j_X0_owerOf : JV i_X0_owerOf 1 := ⟨⟨by decide +kernel, by decide +kernel, by decide +kernel⟩, TT_2 (TT_t1 (List.mem_of_getElem? (i := 68) (by decide +kernel)) (by decide +kernel)) (TT_2 (TT_t1 (List.mem_of_getElem? (i := 69) (by decide +kernel)) (by decide +kernel)) (TT_2 in_X0 (TT_2 (TT_t1 (List.mem_of_getElem? (i := 70) (by decide +kernel)) (by decide +kernel)) TT_0)))⟩
abbrev i_X0_creditorOf : Ym := (yX0_creditorOf, cX0_creditorOf, 2, (some .int), 1)
theorem j_X0_creditorOf : JV i_X0_creditorOf 1 := ⟨⟨by decide +kernel, by decide +kernel, by decide +kernel⟩, TT_2 (TT_t1 (List.mem_of_getElem? (i := 72) (by decide +kernel)) (by decide +kernel)) (TT_2 (TT_t1 (List.mem_of_getElem? (i := 73) (by decide +kernel)) (by decide +kernel)) (TT_2 in_X0 (TT_2 (TT_t1 (List.mem_of_getElem? (i := 74) (by decide +kernel)) (by decide +kernel)) TT_0)))⟩
abbrev i_X0_placeOf : Ym := (yX0_placeOf, cX0_placeOf, 2, (some .int), 1)
theorem j_X0_placeOf : JV i_X0_placeOf 1 := ⟨⟨by decide +kernel, by decide +kernel, by decide +kernel⟩, TT_2 (TT_t1 (List.mem_of_getElem? (i := 76) (by decide +kernel)) (by decide +kernel)) (TT_2 (TT_t1 (List.mem_of_getElem? (i := 77) (by decide +kernel)) (by decide +kernel)) (TT_2 in_X0 (TT_2 (TT_t1 (List.mem_of_getElem? (i := 78) (by decide +kernel)) (by decide +kernel)) TT_0)))⟩
abbrev i_X0_firstOf : Ym := (yX0_firstOf, cX0_firstOf, 2, (some .int), 1)
theorem j_X0_firstOf : JV i_X0_firstOf 1 := ⟨⟨by decide +kernel, by decide +kernel, by decide +kernel⟩, TT_2 (TT_t1 (List.mem_of_getElem? (i := 80) (by decide +kernel)) (by decide +kernel)) (TT_2 (TT_t1 (List.mem_of_getElem? (i := 81) (by decide +kernel)) (by decide +kernel)) (TT_2 in_X0 (TT_2 (TT_t1 (List.mem_of_getElem? (i := 82) (by decide +kernel)) (by decide +kernel)) TT_0)))⟩
abbrev i_X0_partOf : Ym := (yX0_partOf, cX0_partOf, 3, (some .int), 3)
theorem j_X0_partOf : JV i_X0_partOf 2 := ⟨⟨by decide +kernel, by decide +kernel, by decide +kernel⟩, TT_2 (TT_t1 (List.mem_of_getElem? (i := 59) (by decide +kernel)) (by decide +kernel)) (TT_2 (TT_t1 (List.mem_of_getElem? (i := 60) (by decide +kernel)) (by decide +kernel)) (TT_2 in_X0 (TT_2 (TT_t1 (List.mem_of_getElem? (i := 61) (by decide +kernel)) (by decide +kernel)) TT_0)))⟩
abbrev i_X0_howManyOf : Ym := (yX0_howManyOf, cX0_howManyOf, 4, (some .int), 2)
theorem j_X0_howManyOf : JV i_X0_howManyOf 1 := ⟨⟨by decide +kernel, by decide +kernel, by decide +kernel⟩, TT_2 (TT_t3 (List.mem_of_getElem? (i := 29) (by decide +kernel)) (by decide +kernel)) (TT_2 (TT_t3 (List.mem_of_getElem? (i := 30) (by decide +kernel)) (by decide +kernel)) (TT_2 in_X0 (TT_2 (TT_t3 (List.mem_of_getElem? (i := 31) (by decide +kernel)) (by decide +kernel)) TT_0)))⟩
abbrev i_X0_glowOf : Ym := (yX0_glowOf, cX0_glowOf, 3, (some .int), 2)
theorem j_X0_glowOf : JV i_X0_glowOf 2 := ⟨⟨by decide +kernel, by decide +kernel, by decide +kernel⟩, TT_2 (TT_t1 (List.mem_of_getElem? (i := 88) (by decide +kernel)) (by decide +kernel)) (TT_2 (TT_t1 (List.mem_of_getElem? (i := 89) (by decide +kernel)) (by decide +kernel)) (TT_2 in_X0 (TT_2 (TT_t1 (List.mem_of_getElem? (i := 90) (by decide +kernel)) (by decide +kernel)) TT_0)))⟩
abbrev i_X0_litGlow : Ym := (yX0_litGlow, cX0_litGlow, 3, (some .int), 3)
theorem j_X0_litGlow : JV i_X0_litGlow 0 := ⟨⟨by decide +kernel, by decide +kernel, by decide +kernel⟩, TT_2 (TT_t1 (List.mem_of_getElem? (i := 138) (by decide +kernel)) (by decide +kernel)) (TT_2 (TT_t1 (List.mem_of_getElem? (i := 139) (by decide +kernel)) (by decide +kernel)) (TT_2 in_X0 (TT_2 (TT_t1 (List.mem_of_getElem? (i := 140) (by decide +kernel)) (by decide +kernel)) TT_0)))⟩
abbrev i_X0_faded : Ym := (yX0_faded, cX0_faded, 3, (some .int), 1)
theorem j_X0_faded : JS i_X0_faded 3 := ⟨⟨by decide +kernel, by decide +kernel, by decide +kernel⟩, TT_2 (TT_t1 (List.mem_of_getElem? (i := 208) (by decide +kernel)) (by decide +kernel)) (TT_2 in_X0 (TT_2 (TT_t1 (List.mem_of_getElem? (i := 209) (by decide +kernel)) (by decide +kernel)) TT_0))⟩
abbrev i_X0_glowAt : Ym := (yX0_glowAt, cX0_glowAt, 4, (some .int), 3)
theorem j_X0_glowAt : JV i_X0_glowAt 3 := ⟨⟨by decide +kernel, by decide +kernel, by decide +kernel⟩, TT_2 (TT_t1 (List.mem_of_getElem? (i := 204) (by decide +kernel)) (by decide +kernel)) (TT_2 (TT_t1 (List.mem_of_getElem? (i := 205) (by decide +kernel)) (by decide +kernel)) (TT_2 in_X0 (TT_2 (TT_t1 (List.mem_of_getElem? (i := 206) (by decide +kernel)) (by decide +kernel)) TT_0)))⟩
abbrev i_X0_brightAt : Ym := (yX0_brightAt, cX0_brightAt, 5, (some .int), 4)
theorem j_X0_brightAt : JV i_X0_brightAt 2 := ⟨⟨by decide +kernel, by decide +kernel, by decide +kernel⟩, TT_2 (TT_t1 (List.mem_of_getElem? (i := 200) (by decide +kernel)) (by decide +kernel)) (TT_2 (TT_t1 (List.mem_of_getElem? (i := 201) (by decide +kernel)) (by decide +kernel)) (TT_2 in_X0 (TT_2 (TT_t1 (List.mem_of_getElem? (i := 202) (by decide +kernel)) (by decide +kernel)) TT_0)))⟩
abbrev i_X0_brightAlong : Ym := (yX0_brightAlong, cX0_brightAlong, 5, (some .int), 5)
theorem j_X0_brightAlong : JV i_X0_brightAlong 2 := ⟨⟨by decide +kernel, by decide +kernel, by decide +kernel⟩, TT_2 (TT_t1 (List.mem_of_getElem? (i := 222) (by decide +kernel)) (by decide +kernel)) (TT_2 (TT_t1 (List.mem_of_getElem? (i := 223) (by decide +kernel)) (by decide +kernel)) (TT_2 in_X0 (TT_2 (TT_t1 (List.mem_of_getElem? (i := 224) (by decide +kernel)) (by decide +kernel)) TT_0)))⟩
abbrev i_X0_shareAlong : Ym := (yX0_shareAlong, cX0_shareAlong, 8, (some .int), 3)
theorem j_X0_shareAlong : JV i_X0_shareAlong 4 := ⟨⟨by decide +kernel, by decide +kernel, by decide +kernel⟩, TT_2 (TT_t1 (List.mem_of_getElem? (i := 235) (by decide +kernel)) (by decide +kernel)) (TT_2 (TT_t1 (List.mem_of_getElem? (i := 236) (by decide +kernel)) (by decide +kernel)) (TT_2 in_X0 (TT_2 (TT_t1 (List.mem_of_getElem? (i := 237) (by decide +kernel)) (by decide +kernel)) TT_0)))⟩
abbrev i_X0_balanceOf : Ym := (yX0_balanceOf, cX0_balanceOf, 4, (some .int), 3)
theorem j_X0_balanceOf : JV i_X0_balanceOf 1 := ⟨⟨by decide +kernel, by decide +kernel, by decide +kernel⟩, TT_2 (TT_t2 (List.mem_of_getElem? (i := 26) (by decide +kernel)) (by decide +kernel)) (TT_2 (TT_t2 (List.mem_of_getElem? (i := 27) (by decide +kernel)) (by decide +kernel)) (TT_2 in_X0 (TT_2 (TT_t2 (List.mem_of_getElem? (i := 28) (by decide +kernel)) (by decide +kernel)) TT_0)))⟩
abbrev i_X0_passNight : Ym := (yX0_passNight, cX0_passNight, 1, none, 1)
theorem j_X0_passNight : JV i_X0_passNight 0 := ⟨⟨by decide +kernel, by decide +kernel, by decide +kernel⟩, TT_2 (TT_t1 (List.mem_of_getElem? (i := 130) (by decide +kernel)) (by decide +kernel)) (TT_2 (TT_t1 (List.mem_of_getElem? (i := 131) (by decide +kernel)) (by decide +kernel)) (TT_2 in_X0 (TT_2 (TT_t1 (List.mem_of_getElem? (i := 132) (by decide +kernel)) (by decide +kernel)) TT_0)))⟩
abbrev i_X0_putOut : Ym := (yX0_putOut, cX0_putOut, 2, none, 1)
theorem j_X0_putOut : JV i_X0_putOut 1 := ⟨⟨by decide +kernel, by decide +kernel, by decide +kernel⟩, TT_2 (TT_t1 (List.mem_of_getElem? (i := 147) (by decide +kernel)) (by decide +kernel)) (TT_2 (TT_t1 (List.mem_of_getElem? (i := 148) (by decide +kernel)) (by decide +kernel)) (TT_2 in_X0 (TT_2 (TT_t1 (List.mem_of_getElem? (i := 149) (by decide +kernel)) (by decide +kernel)) TT_0)))⟩
abbrev i_X0_lightAgain : Ym := (yX0_lightAgain, cX0_lightAgain, 2, none, 1)
theorem j_X0_lightAgain : JV i_X0_lightAgain 1 := ⟨⟨by decide +kernel, by decide +kernel, by decide +kernel⟩, TT_2 (TT_t1 (List.mem_of_getElem? (i := 155) (by decide +kernel)) (by decide +kernel)) (TT_2 (TT_t1 (List.mem_of_getElem? (i := 156) (by decide +kernel)) (by decide +kernel)) (TT_2 in_X0 (TT_2 (TT_t1 (List.mem_of_getElem? (i := 157) (by decide +kernel)) (by decide +kernel)) TT_0)))⟩
abbrev i_X0_carryTo : Ym := (yX0_carryTo, cX0_carryTo, 3, none, 1)
theorem j_X0_carryTo : JV i_X0_carryTo 2 := ⟨⟨by decide +kernel, by decide +kernel, by decide +kernel⟩, TT_2 (TT_t1 (List.mem_of_getElem? (i := 167) (by decide +kernel)) (by decide +kernel)) (TT_2 (TT_t1 (List.mem_of_getElem? (i := 168) (by decide +kernel)) (by decide +kernel)) (TT_2 in_X0 (TT_2 (TT_t1 (List.mem_of_getElem? (i := 169) (by decide +kernel)) (by decide +kernel)) TT_0)))⟩
abbrev i_X0_doByLot : Ym := (yX0_doByLot, cX0_doByLot, 4, none, 2)
theorem j_X0_doByLot : JV i_X0_doByLot 1 := ⟨⟨by decide +kernel, by decide +kernel, by decide +kernel⟩, TT_2 (TT_t3 (List.mem_of_getElem? (i := 1) (by decide +kernel)) (by decide +kernel)) (TT_2 (TT_t3 (List.mem_of_getElem? (i := 2) (by decide +kernel)) (by decide +kernel)) (TT_2 in_X0 (TT_2 (TT_t3 (List.mem_of_getElem? (i := 3) (by decide +kernel)) (by decide +kernel)) TT_0)))⟩
abbrev i_X0_write : Ym := (yX0_write, cX0_write, 4, none, 0)
theorem j_X0_write : JV i_X0_write 3 := ⟨⟨by decide +kernel, by decide +kernel, by decide +kernel⟩, TT_2 (TT_t1 (List.mem_of_getElem? (i := 135) (by decide +kernel)) (by decide +kernel)) (TT_2 (TT_pv (List.mem_of_getElem? (i := 7) (by decide +kernel)) (by decide +kernel)) (TT_2 in_X0 (TT_2 (TT_t1 (List.mem_of_getElem? (i := 136) (by decide +kernel)) (by decide +kernel)) TT_0)))⟩
abbrev i_X0_takeBackFrom : Ym := (yX0_takeBackFrom, cX0_takeBackFrom, 2, none, 2)
theorem j_X0_takeBackFrom : JV i_X0_takeBackFrom 1 := ⟨⟨by decide +kernel, by decide +kernel, by decide +kernel⟩, TT_2 (TT_t1 (List.mem_of_getElem? (i := 175) (by decide +kernel)) (by decide +kernel)) (TT_2 (TT_t1 (List.mem_of_getElem? (i := 176) (by decide +kernel)) (by decide +kernel)) (TT_2 in_X0 (TT_2 (TT_t1 (List.mem_of_getElem? (i := 177) (by decide +kernel)) (by decide +kernel)) TT_0)))⟩
abbrev i_X0_takeBack : Ym := (yX0_takeBack, cX0_takeBack, 3, none, 1)
theorem j_X0_takeBack : JV i_X0_takeBack 1 := ⟨⟨by decide +kernel, by decide +kernel, by decide +kernel⟩, TT_2 (TT_t1 (List.mem_of_getElem? (i := 180) (by decide +kernel)) (by decide +kernel)) (TT_2 (TT_pv (List.mem_of_getElem? (i := 8) (by decide +kernel)) (by decide +kernel)) (TT_2 in_X0 (TT_2 (TT_t1 (List.mem_of_getElem? (i := 181) (by decide +kernel)) (by decide +kernel)) TT_0)))⟩
abbrev i_X1_shortest : Ym := (yX1_shortest, cX1_shortest, 7, (some .int), 3)
theorem j_X1_shortest : JV i_X1_shortest 3 := ⟨⟨by decide +kernel, by decide +kernel, by decide +kernel⟩, TT_2 (TT_t2 (List.mem_of_getElem? (i := 89) (by decide +kernel)) (by decide +kernel)) (TT_2 (TT_t2 (List.mem_of_getElem? (i := 90) (by decide +kernel)) (by decide +kernel)) (TT_2 in_X1 (TT_2 (TT_t2 (List.mem_of_getElem? (i := 91) (by decide +kernel)) (by decide +kernel)) TT_0)))⟩
abbrev i_X1_stepsOf : Ym := (yX1_stepsOf, cX1_stepsOf, 2, (some .int), 1)
theorem j_X1_stepsOf : JV i_X1_stepsOf 1 := ⟨⟨by decide +kernel, by decide +kernel, by decide +kernel⟩, TT_2 (TT_t2 (List.mem_of_getElem? (i := 99) (by decide +kernel)) (by decide +kernel)) (TT_2 (TT_pv (List.mem_of_getElem? (i := 11) (by decide +kernel)) (by decide +kernel)) (TT_2 in_X1 (TT_2 (TT_t2 (List.mem_of_getElem? (i := 100) (by decide +kernel)) (by decide +kernel)) TT_0)))⟩
abbrev i_X1_write : Ym := (yX1_write, cX1_write, 7, none, 4)
theorem j_X1_write : JV i_X1_write 3 := ⟨⟨by decide +kernel, by decide +kernel, by decide +kernel⟩, TT_2 (TT_t2 (List.mem_of_getElem? (i := 102) (by decide +kernel)) (by decide +kernel)) (TT_2 (TT_t2 (List.mem_of_getElem? (i := 103) (by decide +kernel)) (by decide +kernel)) (TT_2 in_X1 (TT_2 (TT_t2 (List.mem_of_getElem? (i := 104) (by decide +kernel)) (by decide +kernel)) TT_0)))⟩
abbrev i_X1_lowestNearer : Ym := (yX1_lowestNearer, cX1_lowestNearer, 4, (some .int), 3)
theorem j_X1_lowestNearer : JV i_X1_lowestNearer 2 := ⟨⟨by decide +kernel, by decide +kernel, by decide +kernel⟩, TT_2 (TT_t2 (List.mem_of_getElem? (i := 109) (by decide +kernel)) (by decide +kernel)) (TT_2 (TT_pv (List.mem_of_getElem? (i := 12) (by decide +kernel)) (by decide +kernel)) (TT_2 in_X1 (TT_2 (TT_t2 (List.mem_of_getElem? (i := 110) (by decide +kernel)) (by decide +kernel)) TT_0)))⟩
abbrev i_X2_ofLetter : Ym := (yX2_ofLetter, cX2_ofLetter, 2, (some .int), 0)
theorem j_X2_ofLetter : JS i_X2_ofLetter 1 := ⟨⟨by decide +kernel, by decide +kernel, by decide +kernel⟩, TT_2 (TT_t1 (List.mem_of_getElem? (i := 16) (by decide +kernel)) (by decide +kernel)) (TT_2 in_X2 (TT_2 (TT_t1 (List.mem_of_getElem? (i := 17) (by decide +kernel)) (by decide +kernel)) TT_0))⟩
abbrev i_X2_parentOf : Ym := (yX2_parentOf, cX2_parentOf, 1, (some .int), 0)
theorem j_X2_parentOf : JS i_X2_parentOf 1 := ⟨⟨by decide +kernel, by decide +kernel, by decide +kernel⟩, TT_2 (TT_t1 (List.mem_of_getElem? (i := 105) (by decide +kernel)) (by decide +kernel)) (TT_2 in_X2 (TT_2 (TT_t1 (List.mem_of_getElem? (i := 106) (by decide +kernel)) (by decide +kernel)) TT_0))⟩
abbrev i_X2_isOf : Ym := (yX2_isOf, cX2_isOf, 2, (some .boolean), 1)
theorem j_X2_isOf : JS i_X2_isOf 2 := ⟨⟨by decide +kernel, by decide +kernel, by decide +kernel⟩, TT_2 (TT_t1 (List.mem_of_getElem? (i := 102) (by decide +kernel)) (by decide +kernel)) (TT_2 in_X2 (TT_2 (TT_t1 (List.mem_of_getElem? (i := 103) (by decide +kernel)) (by decide +kernel)) TT_0))⟩
abbrev i_X2_glow : Ym := (yX2_glow, cX2_glow, 5, (some .int), 1)
theorem j_X2_glow : JS i_X2_glow 3 := ⟨⟨by decide +kernel, by decide +kernel, by decide +kernel⟩, TT_2 (TT_t1 (List.mem_of_getElem? (i := 92) (by decide +kernel)) (by decide +kernel)) (TT_2 in_X2 (TT_2 (TT_t1 (List.mem_of_getElem? (i := 93) (by decide +kernel)) (by decide +kernel)) TT_0))⟩
abbrev i_X2_signOf : Ym := (yX2_signOf, cX2_signOf, 5, (some .int), 2)
theorem j_X2_signOf : JS i_X2_signOf 4 := ⟨⟨by decide +kernel, by decide +kernel, by decide +kernel⟩, TT_2 (TT_t1 (List.mem_of_getElem? (i := 113) (by decide +kernel)) (by decide +kernel)) (TT_2 in_X2 (TT_2 (TT_t1 (List.mem_of_getElem? (i := 114) (by decide +kernel)) (by decide +kernel)) TT_0))⟩
abbrev i_X3_arePairs : Ym := (yX3_arePairs, cX3_arePairs, 2, (some .boolean), 2)
theorem j_X3_arePairs : JS i_X3_arePairs 1 := ⟨⟨by decide +kernel, by decide +kernel, by decide +kernel⟩, TT_2 (TT_t2 (List.mem_of_getElem? (i := 141) (by decide +kernel)) (by decide +kernel)) (TT_2 in_X3 (TT_2 (TT_t2 (List.mem_of_getElem? (i := 142) (by decide +kernel)) (by decide +kernel)) TT_0))⟩
abbrev i_X3_areTold : Ym := (yX3_areTold, cX3_areTold, 2, (some .boolean), 2)
theorem j_X3_areTold : JS i_X3_areTold 1 := ⟨⟨by decide +kernel, by decide +kernel, by decide +kernel⟩, TT_2 (TT_t2 (List.mem_of_getElem? (i := 179) (by decide +kernel)) (by decide +kernel)) (TT_2 in_X3 (TT_2 (TT_t2 (List.mem_of_getElem? (i := 180) (by decide +kernel)) (by decide +kernel)) TT_0))⟩
abbrev i_X3_fit : Ym := (yX3_fit, cX3_fit, 4, (some .boolean), 2)
theorem j_X3_fit : JS i_X3_fit 3 := ⟨⟨by decide +kernel, by decide +kernel, by decide +kernel⟩, TT_2 (TT_t2 (List.mem_of_getElem? (i := 149) (by decide +kernel)) (by decide +kernel)) (TT_2 in_X3 (TT_2 (TT_t2 (List.mem_of_getElem? (i := 150) (by decide +kernel)) (by decide +kernel)) TT_0))⟩
abbrev i_X3_fittingFirsts : Ym := (yX3_fittingFirsts, cX3_fittingFirsts, 4, (some .int), 3)
theorem j_X3_fittingFirsts : JS i_X3_fittingFirsts 2 := ⟨⟨by decide +kernel, by decide +kernel, by decide +kernel⟩, TT_2 (TT_t2 (List.mem_of_getElem? (i := 146) (by decide +kernel)) (by decide +kernel)) (TT_2 in_X3 (TT_2 (TT_t2 (List.mem_of_getElem? (i := 147) (by decide +kernel)) (by decide +kernel)) TT_0))⟩
abbrev i_X3_fittingKinds : Ym := (yX3_fittingKinds, cX3_fittingKinds, 4, (some .int), 3)
theorem j_X3_fittingKinds : JS i_X3_fittingKinds 2 := ⟨⟨by decide +kernel, by decide +kernel, by decide +kernel⟩, TT_2 (TT_t2 (List.mem_of_getElem? (i := 157) (by decide +kernel)) (by decide +kernel)) (TT_2 in_X3 (TT_2 (TT_t2 (List.mem_of_getElem? (i := 158) (by decide +kernel)) (by decide +kernel)) TT_0))⟩
abbrev i_X3_tellingNight : Ym := (yX3_tellingNight, cX3_tellingNight, 6, (some .int), 4)
theorem j_X3_tellingNight : JS i_X3_tellingNight 2 := ⟨⟨by decide +kernel, by decide +kernel, by decide +kernel⟩, TT_2 (TT_t2 (List.mem_of_getElem? (i := 164) (by decide +kernel)) (by decide +kernel)) (TT_2 in_X3 (TT_2 (TT_t2 (List.mem_of_getElem? (i := 165) (by decide +kernel)) (by decide +kernel)) TT_0))⟩
abbrev i_X3_largestPart : Ym := (yX3_largestPart, cX3_largestPart, 5, (some .int), 3)
theorem j_X3_largestPart : JS i_X3_largestPart 3 := ⟨⟨by decide +kernel, by decide +kernel, by decide +kernel⟩, TT_2 (TT_t2 (List.mem_of_getElem? (i := 167) (by decide +kernel)) (by decide +kernel)) (TT_2 in_X3 (TT_2 (TT_t2 (List.mem_of_getElem? (i := 168) (by decide +kernel)) (by decide +kernel)) TT_0))⟩
abbrev i_X3_howManyGlow : Ym := (yX3_howManyGlow, cX3_howManyGlow, 6, (some .int), 2)
theorem j_X3_howManyGlow : JS i_X3_howManyGlow 4 := ⟨⟨by decide +kernel, by decide +kernel, by decide +kernel⟩, TT_2 (TT_t2 (List.mem_of_getElem? (i := 170) (by decide +kernel)) (by decide +kernel)) (TT_2 in_X3 (TT_2 (TT_t2 (List.mem_of_getElem? (i := 171) (by decide +kernel)) (by decide +kernel)) TT_0))⟩
abbrev i_X3_fittingOwers : Ym := (yX3_fittingOwers, cX3_fittingOwers, 5, (some .int), 5)
theorem j_X3_fittingOwers : JS i_X3_fittingOwers 3 := ⟨⟨by decide +kernel, by decide +kernel, by decide +kernel⟩, TT_2 (TT_t2 (List.mem_of_getElem? (i := 182) (by decide +kernel)) (by decide +kernel)) (TT_2 in_X3 (TT_2 (TT_t2 (List.mem_of_getElem? (i := 183) (by decide +kernel)) (by decide +kernel)) TT_0))⟩
abbrev i_X3_fitsOwer : Ym := (yX3_fitsOwer, cX3_fitsOwer, 7, (some .boolean), 4)
theorem j_X3_fitsOwer : JS i_X3_fitsOwer 4 := ⟨⟨by decide +kernel, by decide +kernel, by decide +kernel⟩, TT_2 (TT_t2 (List.mem_of_getElem? (i := 186) (by decide +kernel)) (by decide +kernel)) (TT_2 in_X3 (TT_2 (TT_t2 (List.mem_of_getElem? (i := 187) (by decide +kernel)) (by decide +kernel)) TT_0))⟩
abbrev i_X4_setsOf : Ym := (yX4_setsOf, cX4_setsOf, 1, (some .int), 1)
theorem j_X4_setsOf : JS i_X4_setsOf 1 := ⟨⟨by decide +kernel, by decide +kernel, by decide +kernel⟩, TT_2 (TT_t2 (List.mem_of_getElem? (i := 54) (by decide +kernel)) (by decide +kernel)) (TT_2 in_X4 (TT_2 (TT_t2 (List.mem_of_getElem? (i := 55) (by decide +kernel)) (by decide +kernel)) TT_0))⟩
abbrev i_X4_isWithin : Ym := (yX4_isWithin, cX4_isWithin, 2, (some .boolean), 0)
theorem j_X4_isWithin : JS i_X4_isWithin 2 := ⟨⟨by decide +kernel, by decide +kernel, by decide +kernel⟩, TT_2 (TT_t2 (List.mem_of_getElem? (i := 59) (by decide +kernel)) (by decide +kernel)) (TT_2 in_X4 (TT_2 (TT_t2 (List.mem_of_getElem? (i := 60) (by decide +kernel)) (by decide +kernel)) TT_0))⟩
abbrev i_X4_sumUp : Ym := (yX4_sumUp, cX4_sumUp, 4, none, 0)
theorem j_X4_sumUp : JV i_X4_sumUp 0 := ⟨⟨by decide +kernel, by decide +kernel, by decide +kernel⟩, TT_2 (TT_t2 (List.mem_of_getElem? (i := 51) (by decide +kernel)) (by decide +kernel)) (TT_2 (TT_pv (List.mem_of_getElem? (i := 10) (by decide +kernel)) (by decide +kernel)) (TT_2 in_X4 (TT_2 (TT_t2 (List.mem_of_getElem? (i := 52) (by decide +kernel)) (by decide +kernel)) TT_0)))⟩
abbrev i_X4_sumGlow : Ym := (yX4_sumGlow, cX4_sumGlow, 4, none, 4)
theorem j_X4_sumGlow : JV i_X4_sumGlow 2 := ⟨⟨by decide +kernel, by decide +kernel, by decide +kernel⟩, TT_2 (TT_t2 (List.mem_of_getElem? (i := 122) (by decide +kernel)) (by decide +kernel)) (TT_2 (TT_pv (List.mem_of_getElem? (i := 13) (by decide +kernel)) (by decide +kernel)) (TT_2 in_X4 (TT_2 (TT_t2 (List.mem_of_getElem? (i := 123) (by decide +kernel)) (by decide +kernel)) TT_0)))⟩
abbrev i_X4_sumDebts : Ym := (yX4_sumDebts, cX4_sumDebts, 4, (some .int), 3)
theorem j_X4_sumDebts : JV i_X4_sumDebts 1 := ⟨⟨by decide +kernel, by decide +kernel, by decide +kernel⟩, TT_2 (TT_t2 (List.mem_of_getElem? (i := 44) (by decide +kernel)) (by decide +kernel)) (TT_2 (TT_pv (List.mem_of_getElem? (i := 9) (by decide +kernel)) (by decide +kernel)) (TT_2 in_X4 (TT_2 (TT_t2 (List.mem_of_getElem? (i := 45) (by decide +kernel)) (by decide +kernel)) TT_0)))⟩
abbrev i_X4_largestRing : Ym := (yX4_largestRing, cX4_largestRing, 5, (some .int), 4)
theorem j_X4_largestRing : JV i_X4_largestRing 1 := ⟨⟨by decide +kernel, by decide +kernel, by decide +kernel⟩, TT_2 (TT_t2 (List.mem_of_getElem? (i := 39) (by decide +kernel)) (by decide +kernel)) (TT_2 (TT_t2 (List.mem_of_getElem? (i := 40) (by decide +kernel)) (by decide +kernel)) (TT_2 in_X4 (TT_2 (TT_t2 (List.mem_of_getElem? (i := 41) (by decide +kernel)) (by decide +kernel)) TT_0)))⟩
abbrev i_X4_ringsWith : Ym := (yX4_ringsWith, cX4_ringsWith, 6, (some .int), 4)
theorem j_X4_ringsWith : JV i_X4_ringsWith 2 := ⟨⟨by decide +kernel, by decide +kernel, by decide +kernel⟩, TT_2 (TT_t2 (List.mem_of_getElem? (i := 73) (by decide +kernel)) (by decide +kernel)) (TT_2 (TT_t2 (List.mem_of_getElem? (i := 74) (by decide +kernel)) (by decide +kernel)) (TT_2 in_X4 (TT_2 (TT_t2 (List.mem_of_getElem? (i := 75) (by decide +kernel)) (by decide +kernel)) TT_0)))⟩
abbrev i_X4_smallestRingWith : Ym := (yX4_smallestRingWith, cX4_smallestRingWith, 7, (some .int), 4)
theorem j_X4_smallestRingWith : JV i_X4_smallestRingWith 2 := ⟨⟨by decide +kernel, by decide +kernel, by decide +kernel⟩, TT_2 (TT_t2 (List.mem_of_getElem? (i := 81) (by decide +kernel)) (by decide +kernel)) (TT_2 (TT_t2 (List.mem_of_getElem? (i := 82) (by decide +kernel)) (by decide +kernel)) (TT_2 in_X4 (TT_2 (TT_t2 (List.mem_of_getElem? (i := 83) (by decide +kernel)) (by decide +kernel)) TT_0)))⟩
abbrev i_X4_fewestToAnswer : Ym := (yX4_fewestToAnswer, cX4_fewestToAnswer, 9, (some .int), 5)
theorem j_X4_fewestToAnswer : JV i_X4_fewestToAnswer 3 := ⟨⟨by decide +kernel, by decide +kernel, by decide +kernel⟩, TT_2 (TT_t2 (List.mem_of_getElem? (i := 117) (by decide +kernel)) (by decide +kernel)) (TT_2 (TT_t2 (List.mem_of_getElem? (i := 118) (by decide +kernel)) (by decide +kernel)) (TT_2 in_X4 (TT_2 (TT_t2 (List.mem_of_getElem? (i := 119) (by decide +kernel)) (by decide +kernel)) TT_0)))⟩
abbrev i_X4_afterTurns : Ym := (yX4_afterTurns, cX4_afterTurns, 7, (some .int), 5)
theorem j_X4_afterTurns : JV i_X4_afterTurns 3 := ⟨⟨by decide +kernel, by decide +kernel, by decide +kernel⟩, TT_2 (TT_t2 (List.mem_of_getElem? (i := 196) (by decide +kernel)) (by decide +kernel)) (TT_2 (TT_t2 (List.mem_of_getElem? (i := 197) (by decide +kernel)) (by decide +kernel)) (TT_2 in_X4 (TT_2 (TT_t2 (List.mem_of_getElem? (i := 198) (by decide +kernel)) (by decide +kernel)) TT_0)))⟩
abbrev i_X4_letOneAnswer : Ym := (yX4_letOneAnswer, cX4_letOneAnswer, 6, none, 1)
theorem j_X4_letOneAnswer : JV i_X4_letOneAnswer 3 := ⟨⟨by decide +kernel, by decide +kernel, by decide +kernel⟩, TT_2 (TT_t2 (List.mem_of_getElem? (i := 201) (by decide +kernel)) (by decide +kernel)) (TT_2 (TT_pv (List.mem_of_getElem? (i := 15) (by decide +kernel)) (by decide +kernel)) (TT_2 in_X4 (TT_2 (TT_t2 (List.mem_of_getElem? (i := 202) (by decide +kernel)) (by decide +kernel)) TT_0)))⟩
abbrev i_X4_letOneLight : Ym := (yX4_letOneLight, cX4_letOneLight, 6, none, 1)
theorem j_X4_letOneLight : JV i_X4_letOneLight 3 := ⟨⟨by decide +kernel, by decide +kernel, by decide +kernel⟩, TT_2 (TT_t2 (List.mem_of_getElem? (i := 205) (by decide +kernel)) (by decide +kernel)) (TT_2 (TT_pv (List.mem_of_getElem? (i := 16) (by decide +kernel)) (by decide +kernel)) (TT_2 in_X4 (TT_2 (TT_t2 (List.mem_of_getElem? (i := 206) (by decide +kernel)) (by decide +kernel)) TT_0)))⟩
abbrev i_X4_waysToBeDark : Ym := (yX4_waysToBeDark, cX4_waysToBeDark, 10, (some .long), 5)
theorem j_X4_waysToBeDark : JV i_X4_waysToBeDark 4 := ⟨⟨by decide +kernel, by decide +kernel, by decide +kernel⟩, TT_2 (TT_t2 (List.mem_of_getElem? (i := 213) (by decide +kernel)) (by decide +kernel)) (TT_2 (TT_t2 (List.mem_of_getElem? (i := 214) (by decide +kernel)) (by decide +kernel)) (TT_2 in_X4 (TT_2 (TT_t2 (List.mem_of_getElem? (i := 215) (by decide +kernel)) (by decide +kernel)) TT_0)))⟩
abbrev i_X4_power : Ym := (yX4_power, cX4_power, 5, (some .long), 0)
theorem j_X4_power : JS i_X4_power 2 := ⟨⟨by decide +kernel, by decide +kernel, by decide +kernel⟩, TT_2 (TT_t2 (List.mem_of_getElem? (i := 217) (by decide +kernel)) (by decide +kernel)) (TT_2 in_X4 (TT_2 (TT_t2 (List.mem_of_getElem? (i := 218) (by decide +kernel)) (by decide +kernel)) TT_0))⟩
abbrev i_X5_room : Ym := (yX5_room, cX5_room, 1, (some .int), 0)
theorem j_X5_room : JV i_X5_room 0 := ⟨⟨by decide +kernel, by decide +kernel, by decide +kernel⟩, TT_2 (TT_t0 (List.mem_of_getElem? (i := 148) (by decide +kernel)) (by decide +kernel)) (TT_2 (TT_t0 (List.mem_of_getElem? (i := 149) (by decide +kernel)) (by decide +kernel)) (TT_2 in_X5 (TT_2 (TT_t0 (List.mem_of_getElem? (i := 150) (by decide +kernel)) (by decide +kernel)) TT_0)))⟩
abbrev i_X5_size : Ym := (yX5_size, cX5_size, 1, (some .int), 0)
theorem j_X5_size : JV i_X5_size 0 := ⟨⟨by decide +kernel, by decide +kernel, by decide +kernel⟩, TT_2 (TT_t0 (List.mem_of_getElem? (i := 224) (by decide +kernel)) (by decide +kernel)) (TT_2 (TT_t0 (List.mem_of_getElem? (i := 225) (by decide +kernel)) (by decide +kernel)) (TT_2 in_X5 (TT_2 (TT_t0 (List.mem_of_getElem? (i := 226) (by decide +kernel)) (by decide +kernel)) TT_0)))⟩
abbrev i_X5_isMissing : Ym := (yX5_isMissing, cX5_isMissing, 1, (some .boolean), 0)
theorem j_X5_isMissing : JV i_X5_isMissing 0 := ⟨⟨by decide +kernel, by decide +kernel, by decide +kernel⟩, TT_2 (TT_t0 (List.mem_of_getElem? (i := 175) (by decide +kernel)) (by decide +kernel)) (TT_2 (TT_t0 (List.mem_of_getElem? (i := 176) (by decide +kernel)) (by decide +kernel)) (TT_2 in_X5 (TT_2 (TT_t0 (List.mem_of_getElem? (i := 177) (by decide +kernel)) (by decide +kernel)) TT_0)))⟩
abbrev i_X5_remove : Ym := (yX5_remove, cX5_remove, 1, none, 0)
theorem j_X5_remove : JV i_X5_remove 0 := ⟨⟨by decide +kernel, by decide +kernel, by decide +kernel⟩, TT_2 (TT_t0 (List.mem_of_getElem? (i := 200) (by decide +kernel)) (by decide +kernel)) (TT_2 (TT_t0 (List.mem_of_getElem? (i := 201) (by decide +kernel)) (by decide +kernel)) (TT_2 in_X5 (TT_2 (TT_t0 (List.mem_of_getElem? (i := 202) (by decide +kernel)) (by decide +kernel)) TT_0)))⟩
abbrev i_X5_renew : Ym := (yX5_renew, cX5_renew, 4, none, 1)
theorem j_X5_renew : JV i_X5_renew 2 := ⟨⟨by decide +kernel, by decide +kernel, by decide +kernel⟩, TT_2 (TT_t0 (List.mem_of_getElem? (i := 156) (by decide +kernel)) (by decide +kernel)) (TT_2 (TT_t0 (List.mem_of_getElem? (i := 157) (by decide +kernel)) (by decide +kernel)) (TT_2 in_X5 (TT_2 (TT_t0 (List.mem_of_getElem? (i := 158) (by decide +kernel)) (by decide +kernel)) TT_0)))⟩
abbrev i_X5_holds : Ym := (yX5_holds, cX5_holds, 2, (some .boolean), 0)
theorem j_X5_holds : JV i_X5_holds 1 := ⟨⟨by decide +kernel, by decide +kernel, by decide +kernel⟩, TT_2 (TT_t0 (List.mem_of_getElem? (i := 179) (by decide +kernel)) (by decide +kernel)) (TT_2 (TT_t0 (List.mem_of_getElem? (i := 180) (by decide +kernel)) (by decide +kernel)) (TT_2 in_X5 (TT_2 (TT_t0 (List.mem_of_getElem? (i := 181) (by decide +kernel)) (by decide +kernel)) TT_0)))⟩
abbrev i_X5_get : Ym := (yX5_get, cX5_get, 2, (some .int), 1)
theorem j_X5_get : JV i_X5_get 1 := ⟨⟨by decide +kernel, by decide +kernel, by decide +kernel⟩, TT_2 (TT_t0 (List.mem_of_getElem? (i := 183) (by decide +kernel)) (by decide +kernel)) (TT_2 (TT_t0 (List.mem_of_getElem? (i := 184) (by decide +kernel)) (by decide +kernel)) (TT_2 in_X5 (TT_2 (TT_t0 (List.mem_of_getElem? (i := 185) (by decide +kernel)) (by decide +kernel)) TT_0)))⟩
abbrev i_X5_set : Ym := (yX5_set, cX5_set, 3, none, 1)
theorem j_X5_set : JV i_X5_set 2 := ⟨⟨by decide +kernel, by decide +kernel, by decide +kernel⟩, TT_2 (TT_t0 (List.mem_of_getElem? (i := 188) (by decide +kernel)) (by decide +kernel)) (TT_2 (TT_t0 (List.mem_of_getElem? (i := 189) (by decide +kernel)) (by decide +kernel)) (TT_2 in_X5 (TT_2 (TT_t0 (List.mem_of_getElem? (i := 190) (by decide +kernel)) (by decide +kernel)) TT_0)))⟩
abbrev i_X5_holdsRun : Ym := (yX5_holdsRun, cX5_holdsRun, 3, (some .boolean), 0)
theorem j_X5_holdsRun : JV i_X5_holdsRun 2 := ⟨⟨by decide +kernel, by decide +kernel, by decide +kernel⟩, TT_2 (TT_t0 (List.mem_of_getElem? (i := 208) (by decide +kernel)) (by decide +kernel)) (TT_2 (TT_t0 (List.mem_of_getElem? (i := 209) (by decide +kernel)) (by decide +kernel)) (TT_2 in_X5 (TT_2 (TT_t0 (List.mem_of_getElem? (i := 210) (by decide +kernel)) (by decide +kernel)) TT_0)))⟩
abbrev i_X5_takeRun : Ym := (yX5_takeRun, cX5_takeRun, 5, none, 1)
theorem j_X5_takeRun : JV i_X5_takeRun 4 := ⟨⟨by decide +kernel, by decide +kernel, by decide +kernel⟩, TT_2 (TT_t0 (List.mem_of_getElem? (i := 212) (by decide +kernel)) (by decide +kernel)) (TT_2 (TT_t0 (List.mem_of_getElem? (i := 213) (by decide +kernel)) (by decide +kernel)) (TT_2 in_X5 (TT_2 (TT_t0 (List.mem_of_getElem? (i := 214) (by decide +kernel)) (by decide +kernel)) TT_0)))⟩
abbrev i_X5_total : Ym := (yX5_total, cX5_total, 4, (some .long), 0)
theorem j_X5_total : JV i_X5_total 0 := ⟨⟨by decide +kernel, by decide +kernel, by decide +kernel⟩, TT_2 (TT_t0 (List.mem_of_getElem? (i := 228) (by decide +kernel)) (by decide +kernel)) (TT_2 (TT_t0 (List.mem_of_getElem? (i := 229) (by decide +kernel)) (by decide +kernel)) (TT_2 in_X5 (TT_2 (TT_t0 (List.mem_of_getElem? (i := 230) (by decide +kernel)) (by decide +kernel)) TT_0)))⟩
abbrev i_X6_darkest : Ym := (yX6_darkest, cX6_darkest, 7, (some .int), 5)
theorem j_X6_darkest : JS i_X6_darkest 1 := ⟨⟨by decide +kernel, by decide +kernel, by decide +kernel⟩, TT_2 (TT_t2 (List.mem_of_getElem? (i := 7) (by decide +kernel)) (by decide +kernel)) (TT_2 in_X6 (TT_2 (TT_t2 (List.mem_of_getElem? (i := 8) (by decide +kernel)) (by decide +kernel)) TT_0))⟩
abbrev i_X6_brightness : Ym := (yX6_brightness, cX6_brightness, 1, (some .int), 0)
theorem j_X6_brightness : JS i_X6_brightness 1 := ⟨⟨by decide +kernel, by decide +kernel, by decide +kernel⟩, TT_2 (TT_t2 (List.mem_of_getElem? (i := 16) (by decide +kernel)) (by decide +kernel)) (TT_2 in_X6 (TT_2 (TT_t2 (List.mem_of_getElem? (i := 17) (by decide +kernel)) (by decide +kernel)) TT_0))⟩
abbrev i_X6_placesOnRoad : Ym := (yX6_placesOnRoad, cX6_placesOnRoad, 1, (some .int), 0)
theorem j_X6_placesOnRoad : JS i_X6_placesOnRoad 1 := ⟨⟨by decide +kernel, by decide +kernel, by decide +kernel⟩, TT_2 (TT_t2 (List.mem_of_getElem? (i := 13) (by decide +kernel)) (by decide +kernel)) (TT_2 in_X6 (TT_2 (TT_t2 (List.mem_of_getElem? (i := 14) (by decide +kernel)) (by decide +kernel)) TT_0))⟩
abbrev i_X7_firstFault : Ym := (yX7_firstFault, cX7_firstFault, 4, (some .int), 5)
theorem j_X7_firstFault : JS i_X7_firstFault 1 := ⟨⟨by decide +kernel, by decide +kernel, by decide +kernel⟩, TT_2 (TT_t1 (List.mem_of_getElem? (i := 8) (by decide +kernel)) (by decide +kernel)) (TT_2 in_X7 (TT_2 (TT_t1 (List.mem_of_getElem? (i := 9) (by decide +kernel)) (by decide +kernel)) TT_0))⟩
abbrev i_X7_itemFault : Ym := (yX7_itemFault, cX7_itemFault, 3, (some .int), 4)
theorem j_X7_itemFault : JS i_X7_itemFault 2 := ⟨⟨by decide +kernel, by decide +kernel, by decide +kernel⟩, TT_2 (TT_t1 (List.mem_of_getElem? (i := 13) (by decide +kernel)) (by decide +kernel)) (TT_2 in_X7 (TT_2 (TT_t1 (List.mem_of_getElem? (i := 14) (by decide +kernel)) (by decide +kernel)) TT_0))⟩
abbrev i_X7_isFigureOf : Ym := (yX7_isFigureOf, cX7_isFigureOf, 6, (some .boolean), 3)
theorem j_X7_isFigureOf : JS i_X7_isFigureOf 3 := ⟨⟨by decide +kernel, by decide +kernel, by decide +kernel⟩, TT_2 (TT_t1 (List.mem_of_getElem? (i := 21) (by decide +kernel)) (by decide +kernel)) (TT_2 in_X7 (TT_2 (TT_t1 (List.mem_of_getElem? (i := 22) (by decide +kernel)) (by decide +kernel)) TT_0))⟩
abbrev i_X7_figureAt : Ym := (yX7_figureAt, cX7_figureAt, 2, (some .int), 2)
theorem j_X7_figureAt : JS i_X7_figureAt 2 := ⟨⟨by decide +kernel, by decide +kernel, by decide +kernel⟩, TT_2 (TT_t1 (List.mem_of_getElem? (i := 24) (by decide +kernel)) (by decide +kernel)) (TT_2 in_X7 (TT_2 (TT_t1 (List.mem_of_getElem? (i := 25) (by decide +kernel)) (by decide +kernel)) TT_0))⟩
abbrev i_X7_readInto : Ym := (yX7_readInto, cX7_readInto, 3, none, 3)
theorem j_X7_readInto : JS i_X7_readInto 2 := ⟨⟨by decide +kernel, by decide +kernel, by decide +kernel⟩, TT_2 (TT_t1 (List.mem_of_getElem? (i := 31) (by decide +kernel)) (by decide +kernel)) (TT_2 in_X7 (TT_2 (TT_t1 (List.mem_of_getElem? (i := 32) (by decide +kernel)) (by decide +kernel)) TT_0))⟩
abbrev i_J6_bitCount : Ym := (yJ6_bitCount_0f7a4, cJ6_bitCount_0f7a4, 1, some .int, 0)
theorem j_J6_bitCount : JS i_J6_bitCount 1 := ⟨⟨by decide +kernel, by decide +kernel, by decide +kernel⟩, TT_2 (TT_t2 (List.mem_of_getElem? (i := 62) (by decide +kernel)) (by decide +kernel)) (TT_2 in_J6 (TT_2 (TT_t2 (List.mem_of_getElem? (i := 63) (by decide +kernel)) (by decide +kernel)) TT_0))⟩
theorem lw_max_s : Cond.static Lib.Math.max.name ∈ TT := TT_t0 (List.mem_of_getElem? (i := 92) (by decide +kernel)) (by decide +kernel)
theorem lw_max_c : Cond.code Lib.Math.max.name Lib.Math.max.code 2 (some .int) ∈ TT := TT_t0 (List.mem_of_getElem? (i := 93) (by decide +kernel)) (by decide +kernel)
theorem lw_min_s : Cond.static Lib.Math.min.name ∈ TT := TT_t0 (List.mem_of_getElem? (i := 160) (by decide +kernel)) (by decide +kernel)
theorem lw_min_c : Cond.code Lib.Math.min.name Lib.Math.min.code 2 (some .int) ∈ TT := TT_t0 (List.mem_of_getElem? (i := 161) (by decide +kernel)) (by decide +kernel)
theorem lw_abs_s : Cond.static Lib.Math.abs.name ∈ TT := TT_t1 (List.mem_of_getElem? (i := 211) (by decide +kernel)) (by decide +kernel)
theorem lw_abs_c : Cond.code Lib.Math.abs.name Lib.Math.abs.code 1 (some .int) ∈ TT := TT_t1 (List.mem_of_getElem? (i := 212) (by decide +kernel)) (by decide +kernel)
theorem lw_copy_n : Cond.native arraycopyName ∈ TT := TT_t0 (List.mem_of_getElem? (i := 218) (by decide +kernel)) (by decide +kernel)
theorem lw_copy_s : Cond.static arraycopyName ∈ TT := TT_t0 (List.mem_of_getElem? (i := 217) (by decide +kernel)) (by decide +kernel)
