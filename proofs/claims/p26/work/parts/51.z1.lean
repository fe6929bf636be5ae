theorem zw_63 : (Cond.initialized "MarshCourt$Land") ∈ q_gw q_T0 := q_wd_ok (w := 63) (by decide +kernel)
theorem zw_64 : (Cond.initialized "MarshCourt$Sales") ∈ q_gw q_T0 := q_wd_ok (w := 64) (by decide +kernel)
theorem zw_65 : (Cond.initialized "MarshCourt$Shares") ∈ q_gw q_T0 := q_wd_ok (w := 65) (by decide +kernel)
theorem zw_66 : (Cond.initialized "MarshCourt$Bank") ∈ q_gw q_T0 := q_wd_ok (w := 66) (by decide +kernel)
theorem zw_67 : (Cond.initialized "MarshCourt$Herds") ∈ q_gw q_T0 := q_wd_ok (w := 67) (by decide +kernel)
theorem zw_68 : (Cond.initialized "MarshCourt$Ways") ∈ q_gw q_T0 := q_wd_ok (w := 68) (by decide +kernel)
theorem zw_69 : (Cond.initialized "MarshCourt$Tape") ∈ q_gw q_T0 := q_wd_ok (w := 69) (by decide +kernel)
theorem zw_70 : (Cond.initialized "MarshCourt$Courts") ∈ q_gw q_T0 := q_wd_ok (w := 70) (by decide +kernel)
theorem zw_71 : (Cond.initialized "MarshCourt$Custom") ∈ q_gw q_T0 := q_wd_ok (w := 71) (by decide +kernel)
theorem zw_72 : (Cond.initialized "MarshCourt$Faults") ∈ q_gw q_T0 := q_wd_ok (w := 72) (by decide +kernel)
theorem zw_73 : (Cond.initialized "java/util/Arrays") ∈ q_gw q_T0 := q_wd_ok (w := 73) (by decide +kernel)
theorem zw_74 : (Cond.initialized "MarshCourt$Plan") ∈ q_gw q_T0 := q_wd_ok (w := 74) (by decide +kernel)
theorem zw_86 : (Cond.methodLink "MarshCourt" 1 ⟨"java/lang/Object", "<init>", "()V"⟩) ∈ q_gw q_T0 := q_wd_ok (w := 86) (by decide +kernel)
theorem zw_87 : (Cond.instanceMethod ⟨"java/lang/Object", "<init>", "()V"⟩) ∈ q_gw q_T0 := q_wd_ok (w := 87) (by decide +kernel)
theorem zw_88 : (Cond.code Lib.objectInit ⟨#[0xb1]⟩ 1 none) ∈ q_gw q_T0 := q_wd_ok (w := 88) (by decide +kernel)
theorem zw_89 : (Cond.classLink "MarshCourt" 7 "MarshCourt$Land") ∈ q_gw q_T0 := q_wd_ok (w := 89) (by decide +kernel)
theorem zw_90 : (Cond.instantiable "MarshCourt$Land" 8) ∈ q_gw q_T0 := q_wd_ok (w := 90) (by decide +kernel)
theorem zw_92 : (Cond.instanceMethod ⟨"MarshCourt$Land", "<init>", "()V"⟩) ∈ q_gw q_T0 := q_wd_ok (w := 92) (by decide +kernel)
theorem zw_93 : (Cond.code ⟨"MarshCourt$Land", "<init>", "()V"⟩ prog_7_method_1_code 1 none) ∈ q_gw q_T0 := q_wd_ok (w := 93) (by decide +kernel)
theorem zw_94 : (Cond.methodLink "MarshCourt$Land" 3 ⟨"java/lang/Object", "<init>", "()V"⟩) ∈ q_gw q_T0 := q_wd_ok (w := 94) (by decide +kernel)
theorem zw_95 : (Cond.fieldLink "MarshCourt$Land" 9 "MarshCourt$Land" "levels" "[I") ∈ q_gw q_T0 := q_wd_ok (w := 95) (by decide +kernel)
theorem zw_99 : (Cond.fieldLink "MarshCourt$Land" 15 "MarshCourt$Land" "waters" "[I") ∈ q_gw q_T0 := q_wd_ok (w := 99) (by decide +kernel)
theorem zw_102 : (Cond.fieldLink "MarshCourt$Land" 18 "MarshCourt$Land" "peaks" "[I") ∈ q_gw q_T0 := q_wd_ok (w := 102) (by decide +kernel)
theorem zw_104 : (Cond.fieldLink "MarshCourt$Land" 21 "MarshCourt$Land" "salts" "[I") ∈ q_gw q_T0 := q_wd_ok (w := 104) (by decide +kernel)
theorem zw_106 : (Cond.fieldLink "MarshCourt$Land" 24 "MarshCourt$Land" "shut" "[Z") ∈ q_gw q_T0 := q_wd_ok (w := 106) (by decide +kernel)
theorem zw_130 : (Cond.arrayClass .int) ∈ q_gw q_T0 := q_wd_ok (w := 130) (by decide +kernel)
theorem zw_131 : (Cond.arrayClass .boolean) ∈ q_gw q_T0 := q_wd_ok (w := 131) (by decide +kernel)
theorem zw_132 : (Cond.classLink "MarshCourt" 16 "MarshCourt$Sales") ∈ q_gw q_T0 := q_wd_ok (w := 132) (by decide +kernel)
theorem zw_133 : (Cond.instantiable "MarshCourt$Sales" 6) ∈ q_gw q_T0 := q_wd_ok (w := 133) (by decide +kernel)
theorem zw_135 : (Cond.instanceMethod ⟨"MarshCourt$Sales", "<init>", "()V"⟩) ∈ q_gw q_T0 := q_wd_ok (w := 135) (by decide +kernel)
theorem zw_136 : (Cond.code ⟨"MarshCourt$Sales", "<init>", "()V"⟩ prog_9_method_1_code 1 none) ∈ q_gw q_T0 := q_wd_ok (w := 136) (by decide +kernel)
theorem zw_137 : (Cond.methodLink "MarshCourt$Sales" 3 ⟨"java/lang/Object", "<init>", "()V"⟩) ∈ q_gw q_T0 := q_wd_ok (w := 137) (by decide +kernel)
theorem zw_138 : (Cond.fieldLink "MarshCourt$Sales" 9 "MarshCourt$Sales" "cells" "[I") ∈ q_gw q_T0 := q_wd_ok (w := 138) (by decide +kernel)
theorem zw_139 : (Cond.fieldLink "MarshCourt$Sales" 15 "MarshCourt$Sales" "sellers" "[I") ∈ q_gw q_T0 := q_wd_ok (w := 139) (by decide +kernel)
theorem zw_140 : (Cond.fieldLink "MarshCourt$Sales" 18 "MarshCourt$Sales" "buyers" "[I") ∈ q_gw q_T0 := q_wd_ok (w := 140) (by decide +kernel)
theorem zw_141 : (Cond.fieldLink "MarshCourt$Sales" 21 "MarshCourt$Sales" "parts" "[I") ∈ q_gw q_T0 := q_wd_ok (w := 141) (by decide +kernel)
theorem zw_142 : (Cond.fieldLink "MarshCourt$Sales" 24 "MarshCourt$Sales" "days" "[I") ∈ q_gw q_T0 := q_wd_ok (w := 142) (by decide +kernel)
theorem zw_158 : (Cond.classLink "MarshCourt" 23 "MarshCourt$Shares") ∈ q_gw q_T0 := q_wd_ok (w := 158) (by decide +kernel)
theorem zw_159 : (Cond.instantiable "MarshCourt$Shares" 3) ∈ q_gw q_T0 := q_wd_ok (w := 159) (by decide +kernel)
theorem zw_161 : (Cond.instanceMethod ⟨"MarshCourt$Shares", "<init>", "()V"⟩) ∈ q_gw q_T0 := q_wd_ok (w := 161) (by decide +kernel)
theorem zw_162 : (Cond.code ⟨"MarshCourt$Shares", "<init>", "()V"⟩ prog_10_method_1_code 1 none) ∈ q_gw q_T0 := q_wd_ok (w := 162) (by decide +kernel)
theorem zw_163 : (Cond.methodLink "MarshCourt$Shares" 3 ⟨"java/lang/Object", "<init>", "()V"⟩) ∈ q_gw q_T0 := q_wd_ok (w := 163) (by decide +kernel)
theorem zw_164 : (Cond.fieldLink "MarshCourt$Shares" 9 "MarshCourt$Shares" "parts" "[I") ∈ q_gw q_T0 := q_wd_ok (w := 164) (by decide +kernel)
theorem zw_166 : (Cond.fieldLink "MarshCourt$Shares" 15 "MarshCourt$Shares" "dealt" "[I") ∈ q_gw q_T0 := q_wd_ok (w := 166) (by decide +kernel)
theorem zw_168 : (Cond.fieldLink "MarshCourt$Shares" 18 "MarshCourt$Shares" "rests" "[I") ∈ q_gw q_T0 := q_wd_ok (w := 168) (by decide +kernel)
theorem zw_176 : (Cond.classLink "MarshCourt" 30 "MarshCourt$Bank") ∈ q_gw q_T0 := q_wd_ok (w := 176) (by decide +kernel)
theorem zw_177 : (Cond.instantiable "MarshCourt$Bank" 10) ∈ q_gw q_T0 := q_wd_ok (w := 177) (by decide +kernel)
theorem zw_179 : (Cond.instanceMethod ⟨"MarshCourt$Bank", "<init>", "()V"⟩) ∈ q_gw q_T0 := q_wd_ok (w := 179) (by decide +kernel)
theorem zw_180 : (Cond.code ⟨"MarshCourt$Bank", "<init>", "()V"⟩ prog_2_method_1_code 1 none) ∈ q_gw q_T0 := q_wd_ok (w := 180) (by decide +kernel)
theorem zw_181 : (Cond.methodLink "MarshCourt$Bank" 3 ⟨"java/lang/Object", "<init>", "()V"⟩) ∈ q_gw q_T0 := q_wd_ok (w := 181) (by decide +kernel)
theorem zw_182 : (Cond.fieldLink "MarshCourt$Bank" 9 "MarshCourt$Bank" "cells" "[I") ∈ q_gw q_T0 := q_wd_ok (w := 182) (by decide +kernel)
theorem zw_185 : (Cond.fieldLink "MarshCourt$Bank" 15 "MarshCourt$Bank" "kinds" "[I") ∈ q_gw q_T0 := q_wd_ok (w := 185) (by decide +kernel)
theorem zw_187 : (Cond.fieldLink "MarshCourt$Bank" 18 "MarshCourt$Bank" "heights" "[I") ∈ q_gw q_T0 := q_wd_ok (w := 187) (by decide +kernel)
theorem zw_190 : (Cond.fieldLink "MarshCourt$Bank" 21 "MarshCourt$Bank" "sluices" "[I") ∈ q_gw q_T0 := q_wd_ok (w := 190) (by decide +kernel)
theorem zw_192 : (Cond.fieldLink "MarshCourt$Bank" 24 "MarshCourt$Bank" "breaks" "[I") ∈ q_gw q_T0 := q_wd_ok (w := 192) (by decide +kernel)
theorem zw_194 : (Cond.fieldLink "MarshCourt$Bank" 27 "MarshCourt$Bank" "worn" "[I") ∈ q_gw q_T0 := q_wd_ok (w := 194) (by decide +kernel)
theorem zw_196 : (Cond.fieldLink "MarshCourt$Bank" 30 "MarshCourt$Bank" "viewed" "[I") ∈ q_gw q_T0 := q_wd_ok (w := 196) (by decide +kernel)
theorem zw_198 : (Cond.fieldLink "MarshCourt$Bank" 33 "MarshCourt$Bank" "brokeNow" "[I") ∈ q_gw q_T0 := q_wd_ok (w := 198) (by decide +kernel)
theorem zw_199 : (Cond.fieldLink "MarshCourt$Bank" 36 "MarshCourt$Bank" "mended" "[I") ∈ q_gw q_T0 := q_wd_ok (w := 199) (by decide +kernel)
theorem zw_225 : (Cond.classLink "MarshCourt" 37 "MarshCourt$Herds") ∈ q_gw q_T0 := q_wd_ok (w := 225) (by decide +kernel)
theorem zw_226 : (Cond.instantiable "MarshCourt$Herds" 3) ∈ q_gw q_T0 := q_wd_ok (w := 226) (by decide +kernel)
theorem zw_228 : (Cond.instanceMethod ⟨"MarshCourt$Herds", "<init>", "()V"⟩) ∈ q_gw q_T0 := q_wd_ok (w := 228) (by decide +kernel)
theorem zw_229 : (Cond.code ⟨"MarshCourt$Herds", "<init>", "()V"⟩ prog_6_method_1_code 1 none) ∈ q_gw q_T0 := q_wd_ok (w := 229) (by decide +kernel)
theorem zw_230 : (Cond.methodLink "MarshCourt$Herds" 3 ⟨"java/lang/Object", "<init>", "()V"⟩) ∈ q_gw q_T0 := q_wd_ok (w := 230) (by decide +kernel)
theorem zw_231 : (Cond.fieldLink "MarshCourt$Herds" 9 "MarshCourt$Herds" "places" "[I") ∈ q_gw q_T0 := q_wd_ok (w := 231) (by decide +kernel)
theorem zw_233 : (Cond.fieldLink "MarshCourt$Herds" 15 "MarshCourt$Herds" "drowned" "[Z") ∈ q_gw q_T0 := q_wd_ok (w := 233) (by decide +kernel)
theorem zw_244 : (Cond.classLink "MarshCourt" 44 "MarshCourt$Ways") ∈ q_gw q_T0 := q_wd_ok (w := 244) (by decide +kernel)
theorem zw_245 : (Cond.instantiable "MarshCourt$Ways" 5) ∈ q_gw q_T0 := q_wd_ok (w := 245) (by decide +kernel)
theorem zw_247 : (Cond.instanceMethod ⟨"MarshCourt$Ways", "<init>", "()V"⟩) ∈ q_gw q_T0 := q_wd_ok (w := 247) (by decide +kernel)
theorem zw_248 : (Cond.code ⟨"MarshCourt$Ways", "<init>", "()V"⟩ prog_12_method_1_code 1 none) ∈ q_gw q_T0 := q_wd_ok (w := 248) (by decide +kernel)
theorem zw_249 : (Cond.methodLink "MarshCourt$Ways" 3 ⟨"java/lang/Object", "<init>", "()V"⟩) ∈ q_gw q_T0 := q_wd_ok (w := 249) (by decide +kernel)
theorem zw_250 : (Cond.fieldLink "MarshCourt$Ways" 9 "MarshCourt$Ways" "costs" "[I") ∈ q_gw q_T0 := q_wd_ok (w := 250) (by decide +kernel)
theorem zw_270 : (Cond.classLink "MarshCourt" 51 "MarshCourt$Tape") ∈ q_gw q_T0 := q_wd_ok (w := 270) (by decide +kernel)
theorem zw_271 : (Cond.instantiable "MarshCourt$Tape" 3) ∈ q_gw q_T0 := q_wd_ok (w := 271) (by decide +kernel)
theorem zw_273 : (Cond.instanceMethod ⟨"MarshCourt$Tape", "<init>", "()V"⟩) ∈ q_gw q_T0 := q_wd_ok (w := 273) (by decide +kernel)
theorem zw_274 : (Cond.code ⟨"MarshCourt$Tape", "<init>", "()V"⟩ prog_11_method_1_code 1 none) ∈ q_gw q_T0 := q_wd_ok (w := 274) (by decide +kernel)
theorem zw_275 : (Cond.methodLink "MarshCourt$Tape" 3 ⟨"java/lang/Object", "<init>", "()V"⟩) ∈ q_gw q_T0 := q_wd_ok (w := 275) (by decide +kernel)
theorem zw_276 : (Cond.fieldLink "MarshCourt$Tape" 9 "MarshCourt$Tape" "bytes" "[I") ∈ q_gw q_T0 := q_wd_ok (w := 276) (by decide +kernel)
theorem zw_288 : (Cond.classLink "MarshCourt" 58 "MarshCourt$Courts") ∈ q_gw q_T0 := q_wd_ok (w := 288) (by decide +kernel)
theorem zw_289 : (Cond.instantiable "MarshCourt$Courts" 3) ∈ q_gw q_T0 := q_wd_ok (w := 289) (by decide +kernel)
theorem zw_290 : (Cond.methodLink "MarshCourt" 60 ⟨"MarshCourt$Courts", "<init>", "()V"⟩) ∈ q_gw q_T0 := q_wd_ok (w := 290) (by decide +kernel)
theorem zw_291 : (Cond.instanceMethod ⟨"MarshCourt$Courts", "<init>", "()V"⟩) ∈ q_gw q_T0 := q_wd_ok (w := 291) (by decide +kernel)
theorem zw_292 : (Cond.code ⟨"MarshCourt$Courts", "<init>", "()V"⟩ prog_3_method_1_code 2 none) ∈ q_gw q_T0 := q_wd_ok (w := 292) (by decide +kernel)
theorem zw_293 : (Cond.methodLink "MarshCourt$Courts" 3 ⟨"java/lang/Object", "<init>", "()V"⟩) ∈ q_gw q_T0 := q_wd_ok (w := 293) (by decide +kernel)
theorem zw_294 : (Cond.classLink "MarshCourt$Courts" 9 "MarshCourt$Custom") ∈ q_gw q_T0 := q_wd_ok (w := 294) (by decide +kernel)
theorem zw_296 : (Cond.instantiable "MarshCourt$Custom" 9) ∈ q_gw q_T0 := q_wd_ok (w := 296) (by decide +kernel)
theorem zw_297 : (Cond.methodLink "MarshCourt$Courts" 17 ⟨"MarshCourt$Custom", "<init>", "()V"⟩) ∈ q_gw q_T0 := q_wd_ok (w := 297) (by decide +kernel)
theorem zw_298 : (Cond.instanceMethod ⟨"MarshCourt$Custom", "<init>", "()V"⟩) ∈ q_gw q_T0 := q_wd_ok (w := 298) (by decide +kernel)
theorem zw_299 : (Cond.code ⟨"MarshCourt$Custom", "<init>", "()V"⟩ prog_4_method_1_code 1 none) ∈ q_gw q_T0 := q_wd_ok (w := 299) (by decide +kernel)
theorem zw_300 : (Cond.methodLink "MarshCourt$Custom" 3 ⟨"java/lang/Object", "<init>", "()V"⟩) ∈ q_gw q_T0 := q_wd_ok (w := 300) (by decide +kernel)
theorem zw_310 : (Cond.fieldLink "MarshCourt$Custom" 21 "MarshCourt$Custom" "views" "I") ∈ q_gw q_T0 := q_wd_ok (w := 310) (by decide +kernel)
theorem zw_315 : (Cond.fieldLink "MarshCourt$Custom" 9 "MarshCourt$Custom" "firsts" "[I") ∈ q_gw q_T0 := q_wd_ok (w := 315) (by decide +kernel)
theorem zw_317 : (Cond.fieldLink "MarshCourt$Custom" 15 "MarshCourt$Custom" "lasts" "[I") ∈ q_gw q_T0 := q_wd_ok (w := 317) (by decide +kernel)
theorem zw_319 : (Cond.fieldLink "MarshCourt$Custom" 18 "MarshCourt$Custom" "hows" "[I") ∈ q_gw q_T0 := q_wd_ok (w := 319) (by decide +kernel)
theorem zw_341 : (Cond.fieldLink "MarshCourt$Courts" 11 "MarshCourt$Courts" "entered" "[LMarshCourt$Custom;") ∈ q_gw q_T0 := q_wd_ok (w := 341) (by decide +kernel)
theorem zw_343 : (Cond.fieldLink "MarshCourt$Courts" 18 "MarshCourt$Courts" "empty" "LMarshCourt$Custom;") ∈ q_gw q_T0 := q_wd_ok (w := 343) (by decide +kernel)
theorem zw_353 : (Cond.classLink "MarshCourt" 65 "MarshCourt$Faults") ∈ q_gw q_T0 := q_wd_ok (w := 353) (by decide +kernel)
theorem zw_354 : (Cond.instantiable "MarshCourt$Faults" 8) ∈ q_gw q_T0 := q_wd_ok (w := 354) (by decide +kernel)
theorem zw_355 : (Cond.methodLink "MarshCourt" 67 ⟨"MarshCourt$Faults", "<init>", "()V"⟩) ∈ q_gw q_T0 := q_wd_ok (w := 355) (by decide +kernel)
theorem zw_356 : (Cond.instanceMethod ⟨"MarshCourt$Faults", "<init>", "()V"⟩) ∈ q_gw q_T0 := q_wd_ok (w := 356) (by decide +kernel)
theorem zw_357 : (Cond.code ⟨"MarshCourt$Faults", "<init>", "()V"⟩ prog_5_method_1_code 1 none) ∈ q_gw q_T0 := q_wd_ok (w := 357) (by decide +kernel)
theorem zw_358 : (Cond.methodLink "MarshCourt$Faults" 3 ⟨"java/lang/Object", "<init>", "()V"⟩) ∈ q_gw q_T0 := q_wd_ok (w := 358) (by decide +kernel)
theorem zw_359 : (Cond.methodLink "MarshCourt$Faults" 33 ⟨"java/util/Arrays", "fill", "([II)V"⟩) ∈ q_gw q_T0 := q_wd_ok (w := 359) (by decide +kernel)
theorem zw_360 : (Cond.static ⟨"java/util/Arrays", "fill", "([II)V"⟩) ∈ q_gw q_T0 := q_wd_ok (w := 360) (by decide +kernel)
theorem zw_361 : (Cond.code ⟨"java/util/Arrays", "fill", "([II)V"⟩ prog_19_method_103_code 4 none) ∈ q_gw q_T0 := q_wd_ok (w := 361) (by decide +kernel)
theorem zw_362 : (Cond.fieldLink "MarshCourt$Faults" 9 "MarshCourt$Faults" "owners" "[I") ∈ q_gw q_T0 := q_wd_ok (w := 362) (by decide +kernel)
theorem zw_364 : (Cond.fieldLink "MarshCourt$Faults" 15 "MarshCourt$Faults" "begun" "[I") ∈ q_gw q_T0 := q_wd_ok (w := 364) (by decide +kernel)
theorem zw_366 : (Cond.fieldLink "MarshCourt$Faults" 18 "MarshCourt$Faults" "ended" "[I") ∈ q_gw q_T0 := q_wd_ok (w := 366) (by decide +kernel)
theorem zw_367 : (Cond.fieldLink "MarshCourt$Faults" 21 "MarshCourt$Faults" "missing" "[I") ∈ q_gw q_T0 := q_wd_ok (w := 367) (by decide +kernel)
theorem zw_369 : (Cond.fieldLink "MarshCourt$Faults" 24 "MarshCourt$Faults" "daily" "[I") ∈ q_gw q_T0 := q_wd_ok (w := 369) (by decide +kernel)
theorem zw_370 : (Cond.fieldLink "MarshCourt$Faults" 27 "MarshCourt$Faults" "heights" "[I") ∈ q_gw q_T0 := q_wd_ok (w := 370) (by decide +kernel)
theorem zw_371 : (Cond.fieldLink "MarshCourt$Faults" 30 "MarshCourt$Faults" "open" "[I") ∈ q_gw q_T0 := q_wd_ok (w := 371) (by decide +kernel)
theorem zw_392 : (Cond.classLink "MarshCourt" 72 "MarshCourt$Plan") ∈ q_gw q_T0 := q_wd_ok (w := 392) (by decide +kernel)
theorem zw_393 : (Cond.instantiable "MarshCourt$Plan" 6) ∈ q_gw q_T0 := q_wd_ok (w := 393) (by decide +kernel)
theorem zw_395 : (Cond.instanceMethod ⟨"MarshCourt$Plan", "<init>", "()V"⟩) ∈ q_gw q_T0 := q_wd_ok (w := 395) (by decide +kernel)
theorem zw_396 : (Cond.code ⟨"MarshCourt$Plan", "<init>", "()V"⟩ prog_8_method_1_code 1 none) ∈ q_gw q_T0 := q_wd_ok (w := 396) (by decide +kernel)
theorem zw_397 : (Cond.methodLink "MarshCourt$Plan" 5 ⟨"java/lang/Object", "<init>", "()V"⟩) ∈ q_gw q_T0 := q_wd_ok (w := 397) (by decide +kernel)
theorem zw_398 : (Cond.fieldLink "MarshCourt$Plan" 11 "MarshCourt$Plan" "out" "[J") ∈ q_gw q_T0 := q_wd_ok (w := 398) (by decide +kernel)
theorem zw_399 : (Cond.fieldLink "MarshCourt$Plan" 15 "MarshCourt$Plan" "single" "[J") ∈ q_gw q_T0 := q_wd_ok (w := 399) (by decide +kernel)
theorem zw_400 : (Cond.fieldLink "MarshCourt$Plan" 18 "MarshCourt$Plan" "pair" "[J") ∈ q_gw q_T0 := q_wd_ok (w := 400) (by decide +kernel)
theorem zw_420 : (Cond.arrayClass .long) ∈ q_gw q_T0 := q_wd_ok (w := 420) (by decide +kernel)
theorem zw_421 : (Cond.fieldLink "MarshCourt" 10 "MarshCourt" "land" "LMarshCourt$Land;") ∈ q_gw q_T0 := q_wd_ok (w := 421) (by decide +kernel)
theorem zw_422 : (Cond.fieldLink "MarshCourt" 19 "MarshCourt" "sales" "LMarshCourt$Sales;") ∈ q_gw q_T0 := q_wd_ok (w := 422) (by decide +kernel)
theorem zw_423 : (Cond.fieldLink "MarshCourt" 26 "MarshCourt" "shares" "LMarshCourt$Shares;") ∈ q_gw q_T0 := q_wd_ok (w := 423) (by decide +kernel)
theorem zw_424 : (Cond.fieldLink "MarshCourt" 33 "MarshCourt" "bank" "LMarshCourt$Bank;") ∈ q_gw q_T0 := q_wd_ok (w := 424) (by decide +kernel)
theorem zw_425 : (Cond.fieldLink "MarshCourt" 40 "MarshCourt" "herds" "LMarshCourt$Herds;") ∈ q_gw q_T0 := q_wd_ok (w := 425) (by decide +kernel)
theorem zw_426 : (Cond.fieldLink "MarshCourt" 47 "MarshCourt" "ways" "LMarshCourt$Ways;") ∈ q_gw q_T0 := q_wd_ok (w := 426) (by decide +kernel)
theorem zw_427 : (Cond.fieldLink "MarshCourt" 54 "MarshCourt" "tape" "LMarshCourt$Tape;") ∈ q_gw q_T0 := q_wd_ok (w := 427) (by decide +kernel)
theorem zw_428 : (Cond.fieldLink "MarshCourt" 61 "MarshCourt" "courts" "LMarshCourt$Courts;") ∈ q_gw q_T0 := q_wd_ok (w := 428) (by decide +kernel)
theorem zw_429 : (Cond.fieldLink "MarshCourt" 68 "MarshCourt" "faults" "LMarshCourt$Faults;") ∈ q_gw q_T0 := q_wd_ok (w := 429) (by decide +kernel)
theorem zw_430 : (Cond.fieldLink "MarshCourt" 75 "MarshCourt" "plan" "LMarshCourt$Plan;") ∈ q_gw q_T0 := q_wd_ok (w := 430) (by decide +kernel)
theorem zw_979 : (Cond.methodLink "MarshCourtModel" 1 ⟨"java/lang/Object", "<init>", "()V"⟩) ∈ q_gw q_T0 := q_wd_ok (w := 979) (by decide +kernel)
theorem zw_980 : (Cond.fieldLink "MarshCourtModel" 7 "MarshCourtModel" "level" "[I") ∈ q_gw q_T0 := q_wd_ok (w := 980) (by decide +kernel)
theorem zw_981 : (Cond.fieldLink "MarshCourtModel" 13 "MarshCourtModel" "water" "[I") ∈ q_gw q_T0 := q_wd_ok (w := 981) (by decide +kernel)
theorem zw_982 : (Cond.fieldLink "MarshCourtModel" 16 "MarshCourtModel" "peak" "[I") ∈ q_gw q_T0 := q_wd_ok (w := 982) (by decide +kernel)
theorem zw_983 : (Cond.fieldLink "MarshCourtModel" 19 "MarshCourtModel" "salt" "[I") ∈ q_gw q_T0 := q_wd_ok (w := 983) (by decide +kernel)
theorem zw_984 : (Cond.fieldLink "MarshCourtModel" 22 "MarshCourtModel" "isShutRight" "[Z") ∈ q_gw q_T0 := q_wd_ok (w := 984) (by decide +kernel)
theorem zw_985 : (Cond.fieldLink "MarshCourtModel" 26 "MarshCourtModel" "isShutBelow" "[Z") ∈ q_gw q_T0 := q_wd_ok (w := 985) (by decide +kernel)
theorem zw_987 : (Cond.fieldLink "MarshCourtModel" 29 "MarshCourtModel" "saleCell" "[I") ∈ q_gw q_T0 := q_wd_ok (w := 987) (by decide +kernel)
theorem zw_988 : (Cond.fieldLink "MarshCourtModel" 32 "MarshCourtModel" "saleFrom" "[I") ∈ q_gw q_T0 := q_wd_ok (w := 988) (by decide +kernel)
theorem zw_989 : (Cond.fieldLink "MarshCourtModel" 35 "MarshCourtModel" "saleTo" "[I") ∈ q_gw q_T0 := q_wd_ok (w := 989) (by decide +kernel)
theorem zw_990 : (Cond.fieldLink "MarshCourtModel" 38 "MarshCourtModel" "saleParts" "[I") ∈ q_gw q_T0 := q_wd_ok (w := 990) (by decide +kernel)
theorem zw_991 : (Cond.fieldLink "MarshCourtModel" 41 "MarshCourtModel" "saleDay" "[I") ∈ q_gw q_T0 := q_wd_ok (w := 991) (by decide +kernel)
theorem zw_993 : (Cond.fieldLink "MarshCourtModel" 44 "MarshCourtModel" "rodCell" "[I") ∈ q_gw q_T0 := q_wd_ok (w := 993) (by decide +kernel)
theorem zw_994 : (Cond.fieldLink "MarshCourtModel" 47 "MarshCourtModel" "kind" "[I") ∈ q_gw q_T0 := q_wd_ok (w := 994) (by decide +kernel)
theorem zw_995 : (Cond.fieldLink "MarshCourtModel" 50 "MarshCourtModel" "height" "[I") ∈ q_gw q_T0 := q_wd_ok (w := 995) (by decide +kernel)
theorem zw_996 : (Cond.fieldLink "MarshCourtModel" 53 "MarshCourtModel" "sluice" "[I") ∈ q_gw q_T0 := q_wd_ok (w := 996) (by decide +kernel)
theorem zw_997 : (Cond.fieldLink "MarshCourtModel" 56 "MarshCourtModel" "broke" "[I") ∈ q_gw q_T0 := q_wd_ok (w := 997) (by decide +kernel)
theorem zw_998 : (Cond.fieldLink "MarshCourtModel" 59 "MarshCourtModel" "wore" "[I") ∈ q_gw q_T0 := q_wd_ok (w := 998) (by decide +kernel)
theorem zw_999 : (Cond.fieldLink "MarshCourtModel" 62 "MarshCourtModel" "viewed" "[I") ∈ q_gw q_T0 := q_wd_ok (w := 999) (by decide +kernel)
theorem zw_1000 : (Cond.fieldLink "MarshCourtModel" 65 "MarshCourtModel" "faultOf" "[I") ∈ q_gw q_T0 := q_wd_ok (w := 1000) (by decide +kernel)
theorem zw_1002 : (Cond.fieldLink "MarshCourtModel" 68 "MarshCourtModel" "herdAt" "[I") ∈ q_gw q_T0 := q_wd_ok (w := 1002) (by decide +kernel)
theorem zw_1003 : (Cond.fieldLink "MarshCourtModel" 71 "MarshCourtModel" "isDrowned" "[Z") ∈ q_gw q_T0 := q_wd_ok (w := 1003) (by decide +kernel)
theorem zw_1008 : (Cond.fieldLink "MarshCourtModel" 74 "MarshCourtModel" "tape" "[I") ∈ q_gw q_T0 := q_wd_ok (w := 1008) (by decide +kernel)
theorem zw_1011 : (Cond.fieldLink "MarshCourtModel" 77 "MarshCourtModel" "courtDay" "[I") ∈ q_gw q_T0 := q_wd_ok (w := 1011) (by decide +kernel)
theorem zw_1012 : (Cond.fieldLink "MarshCourtModel" 80 "MarshCourtModel" "h" "[I") ∈ q_gw q_T0 := q_wd_ok (w := 1012) (by decide +kernel)
theorem zw_1013 : (Cond.fieldLink "MarshCourtModel" 83 "MarshCourtModel" "f" "[I") ∈ q_gw q_T0 := q_wd_ok (w := 1013) (by decide +kernel)
theorem zw_1014 : (Cond.fieldLink "MarshCourtModel" 86 "MarshCourtModel" "v" "[I") ∈ q_gw q_T0 := q_wd_ok (w := 1014) (by decide +kernel)
theorem zw_1015 : (Cond.fieldLink "MarshCourtModel" 89 "MarshCourtModel" "s" "[I") ∈ q_gw q_T0 := q_wd_ok (w := 1015) (by decide +kernel)
theorem zw_1016 : (Cond.fieldLink "MarshCourtModel" 92 "MarshCourtModel" "clauses" "[I") ∈ q_gw q_T0 := q_wd_ok (w := 1016) (by decide +kernel)
theorem zw_1017 : (Cond.fieldLink "MarshCourtModel" 95 "MarshCourtModel" "clauseA" "[I") ∈ q_gw q_T0 := q_wd_ok (w := 1017) (by decide +kernel)
theorem zw_1018 : (Cond.fieldLink "MarshCourtModel" 98 "MarshCourtModel" "clauseB" "[I") ∈ q_gw q_T0 := q_wd_ok (w := 1018) (by decide +kernel)
theorem zw_1019 : (Cond.fieldLink "MarshCourtModel" 101 "MarshCourtModel" "clauseHow" "[I") ∈ q_gw q_T0 := q_wd_ok (w := 1019) (by decide +kernel)
theorem zw_1020 : (Cond.fieldLink "MarshCourtModel" 104 "MarshCourtModel" "clauseOwner" "[I") ∈ q_gw q_T0 := q_wd_ok (w := 1020) (by decide +kernel)
theorem zw_1022 : (Cond.fieldLink "MarshCourtModel" 107 "MarshCourtModel" "faultOwner" "[I") ∈ q_gw q_T0 := q_wd_ok (w := 1022) (by decide +kernel)
theorem zw_1023 : (Cond.fieldLink "MarshCourtModel" 110 "MarshCourtModel" "faultDay" "[I") ∈ q_gw q_T0 := q_wd_ok (w := 1023) (by decide +kernel)
theorem zw_1024 : (Cond.fieldLink "MarshCourtModel" 113 "MarshCourtModel" "faultEnd" "[I") ∈ q_gw q_T0 := q_wd_ok (w := 1024) (by decide +kernel)
theorem zw_1025 : (Cond.fieldLink "MarshCourtModel" 116 "MarshCourtModel" "missing" "[I") ∈ q_gw q_T0 := q_wd_ok (w := 1025) (by decide +kernel)
theorem zw_1026 : (Cond.fieldLink "MarshCourtModel" 119 "MarshCourtModel" "faultH" "[I") ∈ q_gw q_T0 := q_wd_ok (w := 1026) (by decide +kernel)
theorem zw_1027 : (Cond.fieldLink "MarshCourtModel" 122 "MarshCourtModel" "faultF" "[I") ∈ q_gw q_T0 := q_wd_ok (w := 1027) (by decide +kernel)
theorem zw_1028 : (Cond.fieldLink "MarshCourtModel" 125 "MarshCourtModel" "mended" "[I") ∈ q_gw q_T0 := q_wd_ok (w := 1028) (by decide +kernel)
theorem zw_1029 : (Cond.fieldLink "MarshCourtModel" 128 "MarshCourtModel" "far" "[I") ∈ q_gw q_T0 := q_wd_ok (w := 1029) (by decide +kernel)
theorem zw_1031 : (Cond.fieldLink "MarshCourtModel" 131 "MarshCourtModel" "hasBroken" "[Z") ∈ q_gw q_T0 := q_wd_ok (w := 1031) (by decide +kernel)
theorem zw_1034 : (Cond.fieldLink "MarshCourtModel" 134 "MarshCourtModel" "wordFront" "[I") ∈ q_gw q_T0 := q_wd_ok (w := 1034) (by decide +kernel)
theorem zw_1035 : (Cond.fieldLink "MarshCourtModel" 137 "MarshCourtModel" "wordOwn" "[I") ∈ q_gw q_T0 := q_wd_ok (w := 1035) (by decide +kernel)
theorem zw_1036 : (Cond.fieldLink "MarshCourtModel" 140 "MarshCourtModel" "wordAcres" "[I") ∈ q_gw q_T0 := q_wd_ok (w := 1036) (by decide +kernel)
theorem zw_1037 : (Cond.fieldLink "MarshCourtModel" 143 "MarshCourtModel" "dealt" "[I") ∈ q_gw q_T0 := q_wd_ok (w := 1037) (by decide +kernel)
theorem zw_1038 : (Cond.fieldLink "MarshCourtModel" 146 "MarshCourtModel" "rest" "[I") ∈ q_gw q_T0 := q_wd_ok (w := 1038) (by decide +kernel)
theorem zw_1039 : (Cond.fieldLink "MarshCourtModel" 149 "MarshCourtModel" "most" "[I") ∈ q_gw q_T0 := q_wd_ok (w := 1039) (by decide +kernel)
theorem zw_1040 : (Cond.fieldLink "MarshCourtModel" 152 "MarshCourtModel" "set" "[I") ∈ q_gw q_T0 := q_wd_ok (w := 1040) (by decide +kernel)
theorem zw_1041 : (Cond.fieldLink "MarshCourtModel" 155 "MarshCourtModel" "nextMost" "[I") ∈ q_gw q_T0 := q_wd_ok (w := 1041) (by decide +kernel)
theorem zw_1042 : (Cond.fieldLink "MarshCourtModel" 158 "MarshCourtModel" "nextSet" "[I") ∈ q_gw q_T0 := q_wd_ok (w := 1042) (by decide +kernel)
theorem zn_A_9 : (("MarshCourt", 9, ⟨"MarshCourt$Land", "<init>", "()V"⟩, "MarshCourt") : String × Nat × MethodName × String) ∈ q_tn q_T0 := by decide +kernel
theorem zn_A_18 : (("MarshCourt", 18, ⟨"MarshCourt$Sales", "<init>", "()V"⟩, "MarshCourt") : String × Nat × MethodName × String) ∈ q_tn q_T0 := by decide +kernel
theorem zn_A_25 : (("MarshCourt", 25, ⟨"MarshCourt$Shares", "<init>", "()V"⟩, "MarshCourt") : String × Nat × MethodName × String) ∈ q_tn q_T0 := by decide +kernel
theorem zn_A_32 : (("MarshCourt", 32, ⟨"MarshCourt$Bank", "<init>", "()V"⟩, "MarshCourt") : String × Nat × MethodName × String) ∈ q_tn q_T0 := by decide +kernel
theorem zn_A_39 : (("MarshCourt", 39, ⟨"MarshCourt$Herds", "<init>", "()V"⟩, "MarshCourt") : String × Nat × MethodName × String) ∈ q_tn q_T0 := by decide +kernel
theorem zn_A_46 : (("MarshCourt", 46, ⟨"MarshCourt$Ways", "<init>", "()V"⟩, "MarshCourt") : String × Nat × MethodName × String) ∈ q_tn q_T0 := by decide +kernel
theorem zn_A_53 : (("MarshCourt", 53, ⟨"MarshCourt$Tape", "<init>", "()V"⟩, "MarshCourt") : String × Nat × MethodName × String) ∈ q_tn q_T0 := by decide +kernel
theorem zn_A_74 : (("MarshCourt", 74, ⟨"MarshCourt$Plan", "<init>", "()V"⟩, "MarshCourt") : String × Nat × MethodName × String) ∈ q_tn q_T0 := by decide +kernel
theorem e_Land_0 : decode prog_7_method_1_code 0 = .ok (.aload_n 0, 1) := by decide +kernel
theorem e_Land_1 : decode prog_7_method_1_code 1 = .ok (.invokespecial 3, 3) := by decide +kernel
theorem e_Land_4 : decode prog_7_method_1_code 4 = .ok (.aload_n 0, 1) := by decide +kernel
theorem e_Land_5 : decode prog_7_method_1_code 5 = .ok (.bipush 30, 2) := by decide +kernel
theorem e_Land_7 : decode prog_7_method_1_code 7 = .ok (.newarray .int, 2) := by decide +kernel
theorem e_Land_9 : decode prog_7_method_1_code 9 = .ok (.putfield 9, 3) := by decide +kernel
theorem e_Land_12 : decode prog_7_method_1_code 12 = .ok (.aload_n 0, 1) := by decide +kernel
theorem e_Land_13 : decode prog_7_method_1_code 13 = .ok (.bipush 30, 2) := by decide +kernel
theorem e_Land_15 : decode prog_7_method_1_code 15 = .ok (.newarray .int, 2) := by decide +kernel
theorem e_Land_17 : decode prog_7_method_1_code 17 = .ok (.putfield 15, 3) := by decide +kernel
theorem e_Land_20 : decode prog_7_method_1_code 20 = .ok (.aload_n 0, 1) := by decide +kernel
theorem e_Land_21 : decode prog_7_method_1_code 21 = .ok (.bipush 30, 2) := by decide +kernel
theorem e_Land_23 : decode prog_7_method_1_code 23 = .ok (.newarray .int, 2) := by decide +kernel
theorem e_Land_25 : decode prog_7_method_1_code 25 = .ok (.putfield 18, 3) := by decide +kernel
theorem e_Land_28 : decode prog_7_method_1_code 28 = .ok (.aload_n 0, 1) := by decide +kernel
theorem e_Land_29 : decode prog_7_method_1_code 29 = .ok (.bipush 30, 2) := by decide +kernel
theorem e_Land_31 : decode prog_7_method_1_code 31 = .ok (.newarray .int, 2) := by decide +kernel
theorem e_Land_33 : decode prog_7_method_1_code 33 = .ok (.putfield 21, 3) := by decide +kernel
theorem e_Land_36 : decode prog_7_method_1_code 36 = .ok (.aload_n 0, 1) := by decide +kernel
theorem e_Land_37 : decode prog_7_method_1_code 37 = .ok (.bipush 60, 2) := by decide +kernel
theorem e_Land_39 : decode prog_7_method_1_code 39 = .ok (.newarray .boolean, 2) := by decide +kernel
theorem e_Land_41 : decode prog_7_method_1_code 41 = .ok (.putfield 24, 3) := by decide +kernel
theorem e_Land_44 : decode prog_7_method_1_code 44 = .ok (.return_, 1) := by decide +kernel
theorem e_Sales_0 : decode prog_9_method_1_code 0 = .ok (.aload_n 0, 1) := by decide +kernel
theorem e_Sales_1 : decode prog_9_method_1_code 1 = .ok (.invokespecial 3, 3) := by decide +kernel
theorem e_Sales_4 : decode prog_9_method_1_code 4 = .ok (.aload_n 0, 1) := by decide +kernel
theorem e_Sales_5 : decode prog_9_method_1_code 5 = .ok (.bipush 120, 2) := by decide +kernel
theorem e_Sales_7 : decode prog_9_method_1_code 7 = .ok (.newarray .int, 2) := by decide +kernel
theorem e_Sales_9 : decode prog_9_method_1_code 9 = .ok (.putfield 9, 3) := by decide +kernel
theorem e_Sales_12 : decode prog_9_method_1_code 12 = .ok (.aload_n 0, 1) := by decide +kernel
theorem e_Sales_13 : decode prog_9_method_1_code 13 = .ok (.bipush 120, 2) := by decide +kernel
theorem e_Sales_15 : decode prog_9_method_1_code 15 = .ok (.newarray .int, 2) := by decide +kernel
theorem e_Sales_17 : decode prog_9_method_1_code 17 = .ok (.putfield 15, 3) := by decide +kernel
theorem e_Sales_20 : decode prog_9_method_1_code 20 = .ok (.aload_n 0, 1) := by decide +kernel
theorem e_Sales_21 : decode prog_9_method_1_code 21 = .ok (.bipush 120, 2) := by decide +kernel
theorem e_Sales_23 : decode prog_9_method_1_code 23 = .ok (.newarray .int, 2) := by decide +kernel
theorem e_Sales_25 : decode prog_9_method_1_code 25 = .ok (.putfield 18, 3) := by decide +kernel
theorem e_Sales_28 : decode prog_9_method_1_code 28 = .ok (.aload_n 0, 1) := by decide +kernel
theorem e_Sales_29 : decode prog_9_method_1_code 29 = .ok (.bipush 120, 2) := by decide +kernel
theorem e_Sales_31 : decode prog_9_method_1_code 31 = .ok (.newarray .int, 2) := by decide +kernel
theorem e_Sales_33 : decode prog_9_method_1_code 33 = .ok (.putfield 21, 3) := by decide +kernel
theorem e_Sales_36 : decode prog_9_method_1_code 36 = .ok (.aload_n 0, 1) := by decide +kernel
theorem e_Sales_37 : decode prog_9_method_1_code 37 = .ok (.bipush 120, 2) := by decide +kernel
theorem e_Sales_39 : decode prog_9_method_1_code 39 = .ok (.newarray .int, 2) := by decide +kernel
theorem e_Sales_41 : decode prog_9_method_1_code 41 = .ok (.putfield 24, 3) := by decide +kernel
theorem e_Sales_44 : decode prog_9_method_1_code 44 = .ok (.return_, 1) := by decide +kernel
theorem e_Shares_0 : decode prog_10_method_1_code 0 = .ok (.aload_n 0, 1) := by decide +kernel
theorem e_Shares_1 : decode prog_10_method_1_code 1 = .ok (.invokespecial 3, 3) := by decide +kernel
theorem e_Shares_4 : decode prog_10_method_1_code 4 = .ok (.aload_n 0, 1) := by decide +kernel
theorem e_Shares_5 : decode prog_10_method_1_code 5 = .ok (.bipush 8, 2) := by decide +kernel
theorem e_Shares_7 : decode prog_10_method_1_code 7 = .ok (.newarray .int, 2) := by decide +kernel
theorem e_Shares_9 : decode prog_10_method_1_code 9 = .ok (.putfield 9, 3) := by decide +kernel
theorem e_Shares_12 : decode prog_10_method_1_code 12 = .ok (.aload_n 0, 1) := by decide +kernel
theorem e_Shares_13 : decode prog_10_method_1_code 13 = .ok (.bipush 8, 2) := by decide +kernel
theorem e_Shares_15 : decode prog_10_method_1_code 15 = .ok (.newarray .int, 2) := by decide +kernel
theorem e_Shares_17 : decode prog_10_method_1_code 17 = .ok (.putfield 15, 3) := by decide +kernel
theorem e_Shares_20 : decode prog_10_method_1_code 20 = .ok (.aload_n 0, 1) := by decide +kernel
theorem e_Shares_21 : decode prog_10_method_1_code 21 = .ok (.bipush 8, 2) := by decide +kernel
theorem e_Shares_23 : decode prog_10_method_1_code 23 = .ok (.newarray .int, 2) := by decide +kernel
theorem e_Shares_25 : decode prog_10_method_1_code 25 = .ok (.putfield 18, 3) := by decide +kernel
theorem e_Shares_28 : decode prog_10_method_1_code 28 = .ok (.return_, 1) := by decide +kernel
theorem e_Bank_0 : decode prog_2_method_1_code 0 = .ok (.aload_n 0, 1) := by decide +kernel
theorem e_Bank_1 : decode prog_2_method_1_code 1 = .ok (.invokespecial 3, 3) := by decide +kernel
theorem e_Bank_4 : decode prog_2_method_1_code 4 = .ok (.aload_n 0, 1) := by decide +kernel
theorem e_Bank_5 : decode prog_2_method_1_code 5 = .ok (.bipush 24, 2) := by decide +kernel
theorem e_Bank_7 : decode prog_2_method_1_code 7 = .ok (.newarray .int, 2) := by decide +kernel
theorem e_Bank_9 : decode prog_2_method_1_code 9 = .ok (.putfield 9, 3) := by decide +kernel
theorem e_Bank_12 : decode prog_2_method_1_code 12 = .ok (.aload_n 0, 1) := by decide +kernel
theorem e_Bank_13 : decode prog_2_method_1_code 13 = .ok (.bipush 24, 2) := by decide +kernel
theorem e_Bank_15 : decode prog_2_method_1_code 15 = .ok (.newarray .int, 2) := by decide +kernel
theorem e_Bank_17 : decode prog_2_method_1_code 17 = .ok (.putfield 15, 3) := by decide +kernel
theorem e_Bank_20 : decode prog_2_method_1_code 20 = .ok (.aload_n 0, 1) := by decide +kernel
theorem e_Bank_21 : decode prog_2_method_1_code 21 = .ok (.bipush 24, 2) := by decide +kernel
theorem e_Bank_23 : decode prog_2_method_1_code 23 = .ok (.newarray .int, 2) := by decide +kernel
theorem e_Bank_25 : decode prog_2_method_1_code 25 = .ok (.putfield 18, 3) := by decide +kernel
theorem e_Bank_28 : decode prog_2_method_1_code 28 = .ok (.aload_n 0, 1) := by decide +kernel
theorem e_Bank_29 : decode prog_2_method_1_code 29 = .ok (.bipush 24, 2) := by decide +kernel
theorem e_Bank_31 : decode prog_2_method_1_code 31 = .ok (.newarray .int, 2) := by decide +kernel
theorem e_Bank_33 : decode prog_2_method_1_code 33 = .ok (.putfield 21, 3) := by decide +kernel
theorem e_Bank_36 : decode prog_2_method_1_code 36 = .ok (.aload_n 0, 1) := by decide +kernel
theorem e_Bank_37 : decode prog_2_method_1_code 37 = .ok (.bipush 24, 2) := by decide +kernel
theorem e_Bank_39 : decode prog_2_method_1_code 39 = .ok (.newarray .int, 2) := by decide +kernel
theorem e_Bank_41 : decode prog_2_method_1_code 41 = .ok (.putfield 24, 3) := by decide +kernel
theorem e_Bank_44 : decode prog_2_method_1_code 44 = .ok (.aload_n 0, 1) := by decide +kernel
theorem e_Bank_45 : decode prog_2_method_1_code 45 = .ok (.bipush 24, 2) := by decide +kernel
theorem e_Bank_47 : decode prog_2_method_1_code 47 = .ok (.newarray .int, 2) := by decide +kernel
theorem e_Bank_49 : decode prog_2_method_1_code 49 = .ok (.putfield 27, 3) := by decide +kernel
theorem e_Bank_52 : decode prog_2_method_1_code 52 = .ok (.aload_n 0, 1) := by decide +kernel
theorem e_Bank_53 : decode prog_2_method_1_code 53 = .ok (.bipush 24, 2) := by decide +kernel
theorem e_Bank_55 : decode prog_2_method_1_code 55 = .ok (.newarray .int, 2) := by decide +kernel
theorem e_Bank_57 : decode prog_2_method_1_code 57 = .ok (.putfield 30, 3) := by decide +kernel
theorem e_Bank_60 : decode prog_2_method_1_code 60 = .ok (.aload_n 0, 1) := by decide +kernel
theorem e_Bank_61 : decode prog_2_method_1_code 61 = .ok (.bipush 24, 2) := by decide +kernel
theorem e_Bank_63 : decode prog_2_method_1_code 63 = .ok (.newarray .int, 2) := by decide +kernel
theorem e_Bank_65 : decode prog_2_method_1_code 65 = .ok (.putfield 33, 3) := by decide +kernel
theorem e_Bank_68 : decode prog_2_method_1_code 68 = .ok (.aload_n 0, 1) := by decide +kernel
theorem e_Bank_69 : decode prog_2_method_1_code 69 = .ok (.bipush 8, 2) := by decide +kernel
theorem e_Bank_71 : decode prog_2_method_1_code 71 = .ok (.newarray .int, 2) := by decide +kernel
theorem e_Bank_73 : decode prog_2_method_1_code 73 = .ok (.putfield 36, 3) := by decide +kernel
theorem e_Bank_76 : decode prog_2_method_1_code 76 = .ok (.return_, 1) := by decide +kernel
theorem e_Herds_0 : decode prog_6_method_1_code 0 = .ok (.aload_n 0, 1) := by decide +kernel
theorem e_Herds_1 : decode prog_6_method_1_code 1 = .ok (.invokespecial 3, 3) := by decide +kernel
theorem e_Herds_4 : decode prog_6_method_1_code 4 = .ok (.aload_n 0, 1) := by decide +kernel
theorem e_Herds_5 : decode prog_6_method_1_code 5 = .ok (.bipush 6, 2) := by decide +kernel
theorem e_Herds_7 : decode prog_6_method_1_code 7 = .ok (.newarray .int, 2) := by decide +kernel
theorem e_Herds_9 : decode prog_6_method_1_code 9 = .ok (.putfield 9, 3) := by decide +kernel
theorem e_Herds_12 : decode prog_6_method_1_code 12 = .ok (.aload_n 0, 1) := by decide +kernel
theorem e_Herds_13 : decode prog_6_method_1_code 13 = .ok (.bipush 6, 2) := by decide +kernel
theorem e_Herds_15 : decode prog_6_method_1_code 15 = .ok (.newarray .boolean, 2) := by decide +kernel
theorem e_Herds_17 : decode prog_6_method_1_code 17 = .ok (.putfield 15, 3) := by decide +kernel
theorem e_Herds_20 : decode prog_6_method_1_code 20 = .ok (.return_, 1) := by decide +kernel
theorem e_Ways_0 : decode prog_12_method_1_code 0 = .ok (.aload_n 0, 1) := by decide +kernel
theorem e_Ways_1 : decode prog_12_method_1_code 1 = .ok (.invokespecial 3, 3) := by decide +kernel
theorem e_Ways_4 : decode prog_12_method_1_code 4 = .ok (.aload_n 0, 1) := by decide +kernel
theorem e_Ways_5 : decode prog_12_method_1_code 5 = .ok (.bipush 30, 2) := by decide +kernel
theorem e_Ways_7 : decode prog_12_method_1_code 7 = .ok (.newarray .int, 2) := by decide +kernel
theorem e_Ways_9 : decode prog_12_method_1_code 9 = .ok (.putfield 9, 3) := by decide +kernel
theorem e_Ways_12 : decode prog_12_method_1_code 12 = .ok (.return_, 1) := by decide +kernel
theorem e_Tape_0 : decode prog_11_method_1_code 0 = .ok (.aload_n 0, 1) := by decide +kernel
theorem e_Tape_1 : decode prog_11_method_1_code 1 = .ok (.invokespecial 3, 3) := by decide +kernel
theorem e_Tape_4 : decode prog_11_method_1_code 4 = .ok (.aload_n 0, 1) := by decide +kernel
theorem e_Tape_5 : decode prog_11_method_1_code 5 = .ok (.sipush 160, 3) := by decide +kernel
theorem e_Tape_8 : decode prog_11_method_1_code 8 = .ok (.newarray .int, 2) := by decide +kernel
theorem e_Tape_10 : decode prog_11_method_1_code 10 = .ok (.putfield 9, 3) := by decide +kernel
theorem e_Tape_13 : decode prog_11_method_1_code 13 = .ok (.return_, 1) := by decide +kernel
theorem e_Custom_0 : decode prog_4_method_1_code 0 = .ok (.aload_n 0, 1) := by decide +kernel
theorem e_Custom_1 : decode prog_4_method_1_code 1 = .ok (.invokespecial 3, 3) := by decide +kernel
theorem e_Custom_4 : decode prog_4_method_1_code 4 = .ok (.aload_n 0, 1) := by decide +kernel
theorem e_Custom_5 : decode prog_4_method_1_code 5 = .ok (.bipush 10, 2) := by decide +kernel
theorem e_Custom_7 : decode prog_4_method_1_code 7 = .ok (.newarray .int, 2) := by decide +kernel
theorem e_Custom_9 : decode prog_4_method_1_code 9 = .ok (.putfield 9, 3) := by decide +kernel
theorem e_Custom_12 : decode prog_4_method_1_code 12 = .ok (.aload_n 0, 1) := by decide +kernel
theorem e_Custom_13 : decode prog_4_method_1_code 13 = .ok (.bipush 10, 2) := by decide +kernel
theorem e_Custom_15 : decode prog_4_method_1_code 15 = .ok (.newarray .int, 2) := by decide +kernel
theorem e_Custom_17 : decode prog_4_method_1_code 17 = .ok (.putfield 15, 3) := by decide +kernel
theorem e_Custom_20 : decode prog_4_method_1_code 20 = .ok (.aload_n 0, 1) := by decide +kernel
theorem e_Custom_21 : decode prog_4_method_1_code 21 = .ok (.bipush 10, 2) := by decide +kernel
theorem e_Custom_23 : decode prog_4_method_1_code 23 = .ok (.newarray .int, 2) := by decide +kernel
theorem e_Custom_25 : decode prog_4_method_1_code 25 = .ok (.putfield 18, 3) := by decide +kernel
theorem e_Custom_28 : decode prog_4_method_1_code 28 = .ok (.aload_n 0, 1) := by decide +kernel
theorem e_Custom_29 : decode prog_4_method_1_code 29 = .ok (.bipush 99, 2) := by decide +kernel
theorem e_Custom_31 : decode prog_4_method_1_code 31 = .ok (.putfield 21, 3) := by decide +kernel
theorem e_Custom_34 : decode prog_4_method_1_code 34 = .ok (.return_, 1) := by decide +kernel
theorem e_Plan_0 : decode prog_8_method_1_code 0 = .ok (.aload_n 0, 1) := by decide +kernel
theorem e_Plan_1 : decode prog_8_method_1_code 1 = .ok (.invokespecial 5, 3) := by decide +kernel
theorem e_Plan_4 : decode prog_8_method_1_code 4 = .ok (.aload_n 0, 1) := by decide +kernel
theorem e_Plan_5 : decode prog_8_method_1_code 5 = .ok (.sipush 201, 3) := by decide +kernel
theorem e_Plan_8 : decode prog_8_method_1_code 8 = .ok (.newarray .long, 2) := by decide +kernel
theorem e_Plan_10 : decode prog_8_method_1_code 10 = .ok (.putfield 11, 3) := by decide +kernel
theorem e_Plan_13 : decode prog_8_method_1_code 13 = .ok (.aload_n 0, 1) := by decide +kernel
theorem e_Plan_14 : decode prog_8_method_1_code 14 = .ok (.sipush 201, 3) := by decide +kernel
theorem e_Plan_17 : decode prog_8_method_1_code 17 = .ok (.newarray .long, 2) := by decide +kernel
theorem e_Plan_19 : decode prog_8_method_1_code 19 = .ok (.putfield 15, 3) := by decide +kernel
theorem e_Plan_22 : decode prog_8_method_1_code 22 = .ok (.aload_n 0, 1) := by decide +kernel
theorem e_Plan_23 : decode prog_8_method_1_code 23 = .ok (.sipush 201, 3) := by decide +kernel
theorem e_Plan_26 : decode prog_8_method_1_code 26 = .ok (.newarray .long, 2) := by decide +kernel
theorem e_Plan_28 : decode prog_8_method_1_code 28 = .ok (.putfield 18, 3) := by decide +kernel
theorem e_Plan_31 : decode prog_8_method_1_code 31 = .ok (.return_, 1) := by decide +kernel
theorem e_fill_0 : decode prog_19_method_103_code 0 = .ok (.iconst 0, 1) := by decide +kernel
theorem e_fill_1 : decode prog_19_method_103_code 1 = .ok (.istore_n 2, 1) := by decide +kernel
theorem e_fill_2 : decode prog_19_method_103_code 2 = .ok (.aload_n 0, 1) := by decide +kernel
theorem e_fill_3 : decode prog_19_method_103_code 3 = .ok (.arraylength, 1) := by decide +kernel
theorem e_fill_4 : decode prog_19_method_103_code 4 = .ok (.istore_n 3, 1) := by decide +kernel
theorem e_fill_5 : decode prog_19_method_103_code 5 = .ok (.iload_n 2, 1) := by decide +kernel
theorem e_fill_6 : decode prog_19_method_103_code 6 = .ok (.iload_n 3, 1) := by decide +kernel
theorem e_fill_7 : decode prog_19_method_103_code 7 = .ok (.if_icmp .ge 13, 3) := by decide +kernel
theorem e_fill_10 : decode prog_19_method_103_code 10 = .ok (.aload_n 0, 1) := by decide +kernel
theorem e_fill_11 : decode prog_19_method_103_code 11 = .ok (.iload_n 2, 1) := by decide +kernel
theorem e_fill_12 : decode prog_19_method_103_code 12 = .ok (.iload_n 1, 1) := by decide +kernel
theorem e_fill_13 : decode prog_19_method_103_code 13 = .ok (.iastore, 1) := by decide +kernel
theorem e_fill_14 : decode prog_19_method_103_code 14 = .ok (.iinc 2 1, 3) := by decide +kernel
theorem e_fill_17 : decode prog_19_method_103_code 17 = .ok (.goto (-12), 3) := by decide +kernel
theorem e_fill_20 : decode prog_19_method_103_code 20 = .ok (.return_, 1) := by decide +kernel
theorem e_Faults_0 : decode prog_5_method_1_code 0 = .ok (.aload_n 0, 1) := by decide +kernel
theorem e_Faults_1 : decode prog_5_method_1_code 1 = .ok (.invokespecial 3, 3) := by decide +kernel
theorem e_Faults_4 : decode prog_5_method_1_code 4 = .ok (.aload_n 0, 1) := by decide +kernel
theorem e_Faults_5 : decode prog_5_method_1_code 5 = .ok (.bipush 60, 2) := by decide +kernel
theorem e_Faults_7 : decode prog_5_method_1_code 7 = .ok (.newarray .int, 2) := by decide +kernel
theorem e_Faults_9 : decode prog_5_method_1_code 9 = .ok (.putfield 9, 3) := by decide +kernel
theorem e_Faults_12 : decode prog_5_method_1_code 12 = .ok (.aload_n 0, 1) := by decide +kernel
theorem e_Faults_13 : decode prog_5_method_1_code 13 = .ok (.bipush 60, 2) := by decide +kernel
theorem e_Faults_15 : decode prog_5_method_1_code 15 = .ok (.newarray .int, 2) := by decide +kernel
theorem e_Faults_17 : decode prog_5_method_1_code 17 = .ok (.putfield 15, 3) := by decide +kernel
theorem e_Faults_20 : decode prog_5_method_1_code 20 = .ok (.aload_n 0, 1) := by decide +kernel
theorem e_Faults_21 : decode prog_5_method_1_code 21 = .ok (.bipush 60, 2) := by decide +kernel
theorem e_Faults_23 : decode prog_5_method_1_code 23 = .ok (.newarray .int, 2) := by decide +kernel
theorem e_Faults_25 : decode prog_5_method_1_code 25 = .ok (.putfield 18, 3) := by decide +kernel
theorem e_Faults_28 : decode prog_5_method_1_code 28 = .ok (.aload_n 0, 1) := by decide +kernel
theorem e_Faults_29 : decode prog_5_method_1_code 29 = .ok (.bipush 60, 2) := by decide +kernel
theorem e_Faults_31 : decode prog_5_method_1_code 31 = .ok (.newarray .int, 2) := by decide +kernel
theorem e_Faults_33 : decode prog_5_method_1_code 33 = .ok (.putfield 21, 3) := by decide +kernel
theorem e_Faults_36 : decode prog_5_method_1_code 36 = .ok (.aload_n 0, 1) := by decide +kernel
theorem e_Faults_37 : decode prog_5_method_1_code 37 = .ok (.bipush 60, 2) := by decide +kernel
theorem e_Faults_39 : decode prog_5_method_1_code 39 = .ok (.newarray .int, 2) := by decide +kernel
theorem e_Faults_41 : decode prog_5_method_1_code 41 = .ok (.putfield 24, 3) := by decide +kernel
theorem e_Faults_44 : decode prog_5_method_1_code 44 = .ok (.aload_n 0, 1) := by decide +kernel
theorem e_Faults_45 : decode prog_5_method_1_code 45 = .ok (.bipush 60, 2) := by decide +kernel
theorem e_Faults_47 : decode prog_5_method_1_code 47 = .ok (.newarray .int, 2) := by decide +kernel
theorem e_Faults_49 : decode prog_5_method_1_code 49 = .ok (.putfield 27, 3) := by decide +kernel
theorem e_Faults_52 : decode prog_5_method_1_code 52 = .ok (.aload_n 0, 1) := by decide +kernel
theorem e_Faults_53 : decode prog_5_method_1_code 53 = .ok (.bipush 24, 2) := by decide +kernel
theorem e_Faults_55 : decode prog_5_method_1_code 55 = .ok (.newarray .int, 2) := by decide +kernel
theorem e_Faults_57 : decode prog_5_method_1_code 57 = .ok (.putfield 30, 3) := by decide +kernel
theorem e_Faults_60 : decode prog_5_method_1_code 60 = .ok (.aload_n 0, 1) := by decide +kernel
theorem e_Faults_61 : decode prog_5_method_1_code 61 = .ok (.getfield 30, 3) := by decide +kernel
theorem e_Faults_64 : decode prog_5_method_1_code 64 = .ok (.iconst (-1), 1) := by decide +kernel
theorem e_Faults_65 : decode prog_5_method_1_code 65 = .ok (.invokestatic 33, 3) := by decide +kernel
theorem e_Faults_68 : decode prog_5_method_1_code 68 = .ok (.return_, 1) := by decide +kernel
theorem e_Courts_0 : decode prog_3_method_1_code 0 = .ok (.aload_n 0, 1) := by decide +kernel
theorem e_Courts_1 : decode prog_3_method_1_code 1 = .ok (.invokespecial 3, 3) := by decide +kernel
theorem e_Courts_4 : decode prog_3_method_1_code 4 = .ok (.aload_n 0, 1) := by decide +kernel
theorem e_Courts_5 : decode prog_3_method_1_code 5 = .ok (.bipush 12, 2) := by decide +kernel
theorem e_Courts_7 : decode prog_3_method_1_code 7 = .ok (.anewarray 9, 3) := by decide +kernel
theorem e_Courts_10 : decode prog_3_method_1_code 10 = .ok (.putfield 11, 3) := by decide +kernel
theorem e_Courts_13 : decode prog_3_method_1_code 13 = .ok (.aload_n 0, 1) := by decide +kernel
theorem e_Courts_14 : decode prog_3_method_1_code 14 = .ok (.new 9, 3) := by decide +kernel
theorem e_Courts_17 : decode prog_3_method_1_code 17 = .ok (.dup, 1) := by decide +kernel
theorem e_Courts_18 : decode prog_3_method_1_code 18 = .ok (.invokespecial 17, 3) := by decide +kernel
theorem e_Courts_21 : decode prog_3_method_1_code 21 = .ok (.putfield 18, 3) := by decide +kernel
theorem e_Courts_24 : decode prog_3_method_1_code 24 = .ok (.iconst 0, 1) := by decide +kernel
theorem e_Courts_25 : decode prog_3_method_1_code 25 = .ok (.istore_n 1, 1) := by decide +kernel
theorem e_Courts_26 : decode prog_3_method_1_code 26 = .ok (.iload_n 1, 1) := by decide +kernel
theorem e_Courts_27 : decode prog_3_method_1_code 27 = .ok (.bipush 12, 2) := by decide +kernel
theorem e_Courts_29 : decode prog_3_method_1_code 29 = .ok (.if_icmp .ge 22, 3) := by decide +kernel
theorem e_Courts_32 : decode prog_3_method_1_code 32 = .ok (.aload_n 0, 1) := by decide +kernel
theorem e_Courts_33 : decode prog_3_method_1_code 33 = .ok (.getfield 11, 3) := by decide +kernel
theorem e_Courts_36 : decode prog_3_method_1_code 36 = .ok (.iload_n 1, 1) := by decide +kernel
theorem e_Courts_37 : decode prog_3_method_1_code 37 = .ok (.new 9, 3) := by decide +kernel
theorem e_Courts_40 : decode prog_3_method_1_code 40 = .ok (.dup, 1) := by decide +kernel
theorem e_Courts_41 : decode prog_3_method_1_code 41 = .ok (.invokespecial 17, 3) := by decide +kernel
theorem e_Courts_44 : decode prog_3_method_1_code 44 = .ok (.aastore, 1) := by decide +kernel
theorem e_Courts_45 : decode prog_3_method_1_code 45 = .ok (.iinc 1 1, 3) := by decide +kernel
theorem e_Courts_48 : decode prog_3_method_1_code 48 = .ok (.goto (-22), 3) := by decide +kernel
theorem e_Courts_51 : decode prog_3_method_1_code 51 = .ok (.return_, 1) := by decide +kernel
theorem e_A_0 : decode prog_1_method_1_code 0 = .ok (.aload_n 0, 1) := by decide +kernel
theorem e_A_1 : decode prog_1_method_1_code 1 = .ok (.invokespecial 1, 3) := by decide +kernel
theorem e_A_4 : decode prog_1_method_1_code 4 = .ok (.aload_n 0, 1) := by decide +kernel
theorem e_A_5 : decode prog_1_method_1_code 5 = .ok (.new 7, 3) := by decide +kernel
theorem e_A_8 : decode prog_1_method_1_code 8 = .ok (.dup, 1) := by decide +kernel
theorem e_A_9 : decode prog_1_method_1_code 9 = .ok (.invokespecial 9, 3) := by decide +kernel
theorem e_A_12 : decode prog_1_method_1_code 12 = .ok (.putfield 10, 3) := by decide +kernel
theorem e_A_15 : decode prog_1_method_1_code 15 = .ok (.aload_n 0, 1) := by decide +kernel
theorem e_A_16 : decode prog_1_method_1_code 16 = .ok (.new 16, 3) := by decide +kernel
theorem e_A_19 : decode prog_1_method_1_code 19 = .ok (.dup, 1) := by decide +kernel
theorem e_A_20 : decode prog_1_method_1_code 20 = .ok (.invokespecial 18, 3) := by decide +kernel
theorem e_A_23 : decode prog_1_method_1_code 23 = .ok (.putfield 19, 3) := by decide +kernel
theorem e_A_26 : decode prog_1_method_1_code 26 = .ok (.aload_n 0, 1) := by decide +kernel
theorem e_A_27 : decode prog_1_method_1_code 27 = .ok (.new 23, 3) := by decide +kernel
theorem e_A_30 : decode prog_1_method_1_code 30 = .ok (.dup, 1) := by decide +kernel
theorem e_A_31 : decode prog_1_method_1_code 31 = .ok (.invokespecial 25, 3) := by decide +kernel
theorem e_A_34 : decode prog_1_method_1_code 34 = .ok (.putfield 26, 3) := by decide +kernel
theorem e_A_37 : decode prog_1_method_1_code 37 = .ok (.aload_n 0, 1) := by decide +kernel
theorem e_A_38 : decode prog_1_method_1_code 38 = .ok (.new 30, 3) := by decide +kernel
theorem e_A_41 : decode prog_1_method_1_code 41 = .ok (.dup, 1) := by decide +kernel
theorem e_A_42 : decode prog_1_method_1_code 42 = .ok (.invokespecial 32, 3) := by decide +kernel
theorem e_A_45 : decode prog_1_method_1_code 45 = .ok (.putfield 33, 3) := by decide +kernel
theorem e_A_48 : decode prog_1_method_1_code 48 = .ok (.aload_n 0, 1) := by decide +kernel
theorem e_A_49 : decode prog_1_method_1_code 49 = .ok (.new 37, 3) := by decide +kernel
theorem e_A_52 : decode prog_1_method_1_code 52 = .ok (.dup, 1) := by decide +kernel
theorem e_A_53 : decode prog_1_method_1_code 53 = .ok (.invokespecial 39, 3) := by decide +kernel
theorem e_A_56 : decode prog_1_method_1_code 56 = .ok (.putfield 40, 3) := by decide +kernel
theorem e_A_59 : decode prog_1_method_1_code 59 = .ok (.aload_n 0, 1) := by decide +kernel
theorem e_A_60 : decode prog_1_method_1_code 60 = .ok (.new 44, 3) := by decide +kernel
theorem e_A_63 : decode prog_1_method_1_code 63 = .ok (.dup, 1) := by decide +kernel
theorem e_A_64 : decode prog_1_method_1_code 64 = .ok (.invokespecial 46, 3) := by decide +kernel
theorem e_A_67 : decode prog_1_method_1_code 67 = .ok (.putfield 47, 3) := by decide +kernel
theorem e_A_70 : decode prog_1_method_1_code 70 = .ok (.aload_n 0, 1) := by decide +kernel
theorem e_A_71 : decode prog_1_method_1_code 71 = .ok (.new 51, 3) := by decide +kernel
theorem e_A_74 : decode prog_1_method_1_code 74 = .ok (.dup, 1) := by decide +kernel
theorem e_A_75 : decode prog_1_method_1_code 75 = .ok (.invokespecial 53, 3) := by decide +kernel
theorem e_A_78 : decode prog_1_method_1_code 78 = .ok (.putfield 54, 3) := by decide +kernel
theorem e_A_81 : decode prog_1_method_1_code 81 = .ok (.aload_n 0, 1) := by decide +kernel
theorem e_A_82 : decode prog_1_method_1_code 82 = .ok (.new 58, 3) := by decide +kernel
theorem e_A_85 : decode prog_1_method_1_code 85 = .ok (.dup, 1) := by decide +kernel
theorem e_A_86 : decode prog_1_method_1_code 86 = .ok (.invokespecial 60, 3) := by decide +kernel
theorem e_A_89 : decode prog_1_method_1_code 89 = .ok (.putfield 61, 3) := by decide +kernel
theorem e_A_92 : decode prog_1_method_1_code 92 = .ok (.aload_n 0, 1) := by decide +kernel
theorem e_A_93 : decode prog_1_method_1_code 93 = .ok (.new 65, 3) := by decide +kernel
theorem e_A_96 : decode prog_1_method_1_code 96 = .ok (.dup, 1) := by decide +kernel
theorem e_A_97 : decode prog_1_method_1_code 97 = .ok (.invokespecial 67, 3) := by decide +kernel
theorem e_A_100 : decode prog_1_method_1_code 100 = .ok (.putfield 68, 3) := by decide +kernel
theorem e_A_103 : decode prog_1_method_1_code 103 = .ok (.aload_n 0, 1) := by decide +kernel
theorem e_A_104 : decode prog_1_method_1_code 104 = .ok (.new 72, 3) := by decide +kernel
theorem e_A_107 : decode prog_1_method_1_code 107 = .ok (.dup, 1) := by decide +kernel
theorem e_A_108 : decode prog_1_method_1_code 108 = .ok (.invokespecial 74, 3) := by decide +kernel
theorem e_A_111 : decode prog_1_method_1_code 111 = .ok (.putfield 75, 3) := by decide +kernel
theorem e_A_114 : decode prog_1_method_1_code 114 = .ok (.return_, 1) := by decide +kernel
theorem e_M_0 : decode prog_14_method_1_code 0 = .ok (.aload_n 0, 1) := by decide +kernel
theorem e_M_1 : decode prog_14_method_1_code 1 = .ok (.invokespecial 1, 3) := by decide +kernel
theorem e_M_4 : decode prog_14_method_1_code 4 = .ok (.aload_n 0, 1) := by decide +kernel
theorem e_M_5 : decode prog_14_method_1_code 5 = .ok (.bipush 30, 2) := by decide +kernel
theorem e_M_7 : decode prog_14_method_1_code 7 = .ok (.newarray .int, 2) := by decide +kernel
theorem e_M_9 : decode prog_14_method_1_code 9 = .ok (.putfield 7, 3) := by decide +kernel
theorem e_M_12 : decode prog_14_method_1_code 12 = .ok (.aload_n 0, 1) := by decide +kernel
theorem e_M_13 : decode prog_14_method_1_code 13 = .ok (.bipush 30, 2) := by decide +kernel
theorem e_M_15 : decode prog_14_method_1_code 15 = .ok (.newarray .int, 2) := by decide +kernel
theorem e_M_17 : decode prog_14_method_1_code 17 = .ok (.putfield 13, 3) := by decide +kernel
theorem e_M_20 : decode prog_14_method_1_code 20 = .ok (.aload_n 0, 1) := by decide +kernel
theorem e_M_21 : decode prog_14_method_1_code 21 = .ok (.bipush 30, 2) := by decide +kernel
theorem e_M_23 : decode prog_14_method_1_code 23 = .ok (.newarray .int, 2) := by decide +kernel
theorem e_M_25 : decode prog_14_method_1_code 25 = .ok (.putfield 16, 3) := by decide +kernel
theorem e_M_28 : decode prog_14_method_1_code 28 = .ok (.aload_n 0, 1) := by decide +kernel
theorem e_M_29 : decode prog_14_method_1_code 29 = .ok (.bipush 30, 2) := by decide +kernel
theorem e_M_31 : decode prog_14_method_1_code 31 = .ok (.newarray .int, 2) := by decide +kernel
theorem e_M_33 : decode prog_14_method_1_code 33 = .ok (.putfield 19, 3) := by decide +kernel
theorem e_M_36 : decode prog_14_method_1_code 36 = .ok (.aload_n 0, 1) := by decide +kernel
theorem e_M_37 : decode prog_14_method_1_code 37 = .ok (.bipush 30, 2) := by decide +kernel
theorem e_M_39 : decode prog_14_method_1_code 39 = .ok (.newarray .boolean, 2) := by decide +kernel
theorem e_M_41 : decode prog_14_method_1_code 41 = .ok (.putfield 22, 3) := by decide +kernel
theorem e_M_44 : decode prog_14_method_1_code 44 = .ok (.aload_n 0, 1) := by decide +kernel
theorem e_M_45 : decode prog_14_method_1_code 45 = .ok (.bipush 30, 2) := by decide +kernel
theorem e_M_47 : decode prog_14_method_1_code 47 = .ok (.newarray .boolean, 2) := by decide +kernel
theorem e_M_49 : decode prog_14_method_1_code 49 = .ok (.putfield 26, 3) := by decide +kernel
theorem e_M_52 : decode prog_14_method_1_code 52 = .ok (.aload_n 0, 1) := by decide +kernel
theorem e_M_53 : decode prog_14_method_1_code 53 = .ok (.bipush 120, 2) := by decide +kernel
theorem e_M_55 : decode prog_14_method_1_code 55 = .ok (.newarray .int, 2) := by decide +kernel
theorem e_M_57 : decode prog_14_method_1_code 57 = .ok (.putfield 29, 3) := by decide +kernel
theorem e_M_60 : decode prog_14_method_1_code 60 = .ok (.aload_n 0, 1) := by decide +kernel
theorem e_M_61 : decode prog_14_method_1_code 61 = .ok (.bipush 120, 2) := by decide +kernel
theorem e_M_63 : decode prog_14_method_1_code 63 = .ok (.newarray .int, 2) := by decide +kernel
theorem e_M_65 : decode prog_14_method_1_code 65 = .ok (.putfield 32, 3) := by decide +kernel
theorem e_M_68 : decode prog_14_method_1_code 68 = .ok (.aload_n 0, 1) := by decide +kernel
theorem e_M_69 : decode prog_14_method_1_code 69 = .ok (.bipush 120, 2) := by decide +kernel
theorem e_M_71 : decode prog_14_method_1_code 71 = .ok (.newarray .int, 2) := by decide +kernel
theorem e_M_73 : decode prog_14_method_1_code 73 = .ok (.putfield 35, 3) := by decide +kernel
theorem e_M_76 : decode prog_14_method_1_code 76 = .ok (.aload_n 0, 1) := by decide +kernel
theorem e_M_77 : decode prog_14_method_1_code 77 = .ok (.bipush 120, 2) := by decide +kernel
theorem e_M_79 : decode prog_14_method_1_code 79 = .ok (.newarray .int, 2) := by decide +kernel
theorem e_M_81 : decode prog_14_method_1_code 81 = .ok (.putfield 38, 3) := by decide +kernel
theorem e_M_84 : decode prog_14_method_1_code 84 = .ok (.aload_n 0, 1) := by decide +kernel
theorem e_M_85 : decode prog_14_method_1_code 85 = .ok (.bipush 120, 2) := by decide +kernel
theorem e_M_87 : decode prog_14_method_1_code 87 = .ok (.newarray .int, 2) := by decide +kernel
theorem e_M_89 : decode prog_14_method_1_code 89 = .ok (.putfield 41, 3) := by decide +kernel
theorem e_M_92 : decode prog_14_method_1_code 92 = .ok (.aload_n 0, 1) := by decide +kernel
theorem e_M_93 : decode prog_14_method_1_code 93 = .ok (.bipush 24, 2) := by decide +kernel
theorem e_M_95 : decode prog_14_method_1_code 95 = .ok (.newarray .int, 2) := by decide +kernel
theorem e_M_97 : decode prog_14_method_1_code 97 = .ok (.putfield 44, 3) := by decide +kernel
theorem e_M_100 : decode prog_14_method_1_code 100 = .ok (.aload_n 0, 1) := by decide +kernel
theorem e_M_101 : decode prog_14_method_1_code 101 = .ok (.bipush 24, 2) := by decide +kernel
theorem e_M_103 : decode prog_14_method_1_code 103 = .ok (.newarray .int, 2) := by decide +kernel
theorem e_M_105 : decode prog_14_method_1_code 105 = .ok (.putfield 47, 3) := by decide +kernel
theorem e_M_108 : decode prog_14_method_1_code 108 = .ok (.aload_n 0, 1) := by decide +kernel
theorem e_M_109 : decode prog_14_method_1_code 109 = .ok (.bipush 24, 2) := by decide +kernel
theorem e_M_111 : decode prog_14_method_1_code 111 = .ok (.newarray .int, 2) := by decide +kernel
theorem e_M_113 : decode prog_14_method_1_code 113 = .ok (.putfield 50, 3) := by decide +kernel
theorem e_M_116 : decode prog_14_method_1_code 116 = .ok (.aload_n 0, 1) := by decide +kernel
theorem e_M_117 : decode prog_14_method_1_code 117 = .ok (.bipush 24, 2) := by decide +kernel
theorem e_M_119 : decode prog_14_method_1_code 119 = .ok (.newarray .int, 2) := by decide +kernel
theorem e_M_121 : decode prog_14_method_1_code 121 = .ok (.putfield 53, 3) := by decide +kernel
theorem e_M_124 : decode prog_14_method_1_code 124 = .ok (.aload_n 0, 1) := by decide +kernel
theorem e_M_125 : decode prog_14_method_1_code 125 = .ok (.bipush 24, 2) := by decide +kernel
theorem e_M_127 : decode prog_14_method_1_code 127 = .ok (.newarray .int, 2) := by decide +kernel
theorem e_M_129 : decode prog_14_method_1_code 129 = .ok (.putfield 56, 3) := by decide +kernel
theorem e_M_132 : decode prog_14_method_1_code 132 = .ok (.aload_n 0, 1) := by decide +kernel
theorem e_M_133 : decode prog_14_method_1_code 133 = .ok (.bipush 24, 2) := by decide +kernel
theorem e_M_135 : decode prog_14_method_1_code 135 = .ok (.newarray .int, 2) := by decide +kernel
theorem e_M_137 : decode prog_14_method_1_code 137 = .ok (.putfield 59, 3) := by decide +kernel
theorem e_M_140 : decode prog_14_method_1_code 140 = .ok (.aload_n 0, 1) := by decide +kernel
theorem e_M_141 : decode prog_14_method_1_code 141 = .ok (.bipush 24, 2) := by decide +kernel
theorem e_M_143 : decode prog_14_method_1_code 143 = .ok (.newarray .int, 2) := by decide +kernel
theorem e_M_145 : decode prog_14_method_1_code 145 = .ok (.putfield 62, 3) := by decide +kernel
theorem e_M_148 : decode prog_14_method_1_code 148 = .ok (.aload_n 0, 1) := by decide +kernel
theorem e_M_149 : decode prog_14_method_1_code 149 = .ok (.bipush 24, 2) := by decide +kernel
theorem e_M_151 : decode prog_14_method_1_code 151 = .ok (.newarray .int, 2) := by decide +kernel
theorem e_M_153 : decode prog_14_method_1_code 153 = .ok (.putfield 65, 3) := by decide +kernel
theorem e_M_156 : decode prog_14_method_1_code 156 = .ok (.aload_n 0, 1) := by decide +kernel
theorem e_M_157 : decode prog_14_method_1_code 157 = .ok (.bipush 6, 2) := by decide +kernel
theorem e_M_159 : decode prog_14_method_1_code 159 = .ok (.newarray .int, 2) := by decide +kernel
theorem e_M_161 : decode prog_14_method_1_code 161 = .ok (.putfield 68, 3) := by decide +kernel
theorem e_M_164 : decode prog_14_method_1_code 164 = .ok (.aload_n 0, 1) := by decide +kernel
theorem e_M_165 : decode prog_14_method_1_code 165 = .ok (.bipush 6, 2) := by decide +kernel
theorem e_M_167 : decode prog_14_method_1_code 167 = .ok (.newarray .boolean, 2) := by decide +kernel
theorem e_M_169 : decode prog_14_method_1_code 169 = .ok (.putfield 71, 3) := by decide +kernel
theorem e_M_172 : decode prog_14_method_1_code 172 = .ok (.aload_n 0, 1) := by decide +kernel
theorem e_M_173 : decode prog_14_method_1_code 173 = .ok (.sipush 160, 3) := by decide +kernel
theorem e_M_176 : decode prog_14_method_1_code 176 = .ok (.newarray .int, 2) := by decide +kernel
theorem e_M_178 : decode prog_14_method_1_code 178 = .ok (.putfield 74, 3) := by decide +kernel
theorem e_M_181 : decode prog_14_method_1_code 181 = .ok (.aload_n 0, 1) := by decide +kernel
theorem e_M_182 : decode prog_14_method_1_code 182 = .ok (.bipush 12, 2) := by decide +kernel
theorem e_M_184 : decode prog_14_method_1_code 184 = .ok (.newarray .int, 2) := by decide +kernel
theorem e_M_186 : decode prog_14_method_1_code 186 = .ok (.putfield 77, 3) := by decide +kernel
theorem e_M_189 : decode prog_14_method_1_code 189 = .ok (.aload_n 0, 1) := by decide +kernel
theorem e_M_190 : decode prog_14_method_1_code 190 = .ok (.bipush 12, 2) := by decide +kernel
theorem e_M_192 : decode prog_14_method_1_code 192 = .ok (.newarray .int, 2) := by decide +kernel
theorem e_M_194 : decode prog_14_method_1_code 194 = .ok (.putfield 80, 3) := by decide +kernel
theorem e_M_197 : decode prog_14_method_1_code 197 = .ok (.aload_n 0, 1) := by decide +kernel
theorem e_M_198 : decode prog_14_method_1_code 198 = .ok (.bipush 12, 2) := by decide +kernel
theorem e_M_200 : decode prog_14_method_1_code 200 = .ok (.newarray .int, 2) := by decide +kernel
theorem e_M_202 : decode prog_14_method_1_code 202 = .ok (.putfield 83, 3) := by decide +kernel
theorem e_M_205 : decode prog_14_method_1_code 205 = .ok (.aload_n 0, 1) := by decide +kernel
theorem e_M_206 : decode prog_14_method_1_code 206 = .ok (.bipush 12, 2) := by decide +kernel
theorem e_M_208 : decode prog_14_method_1_code 208 = .ok (.newarray .int, 2) := by decide +kernel
theorem e_M_210 : decode prog_14_method_1_code 210 = .ok (.putfield 86, 3) := by decide +kernel
theorem e_M_213 : decode prog_14_method_1_code 213 = .ok (.aload_n 0, 1) := by decide +kernel
theorem e_M_214 : decode prog_14_method_1_code 214 = .ok (.bipush 12, 2) := by decide +kernel
theorem e_M_216 : decode prog_14_method_1_code 216 = .ok (.newarray .int, 2) := by decide +kernel
theorem e_M_218 : decode prog_14_method_1_code 218 = .ok (.putfield 89, 3) := by decide +kernel
theorem e_M_221 : decode prog_14_method_1_code 221 = .ok (.aload_n 0, 1) := by decide +kernel
theorem e_M_222 : decode prog_14_method_1_code 222 = .ok (.bipush 12, 2) := by decide +kernel
theorem e_M_224 : decode prog_14_method_1_code 224 = .ok (.newarray .int, 2) := by decide +kernel
theorem e_M_226 : decode prog_14_method_1_code 226 = .ok (.putfield 92, 3) := by decide +kernel
theorem e_M_229 : decode prog_14_method_1_code 229 = .ok (.aload_n 0, 1) := by decide +kernel
theorem e_M_230 : decode prog_14_method_1_code 230 = .ok (.bipush 120, 2) := by decide +kernel
theorem e_M_232 : decode prog_14_method_1_code 232 = .ok (.newarray .int, 2) := by decide +kernel
theorem e_M_234 : decode prog_14_method_1_code 234 = .ok (.putfield 95, 3) := by decide +kernel
theorem e_M_237 : decode prog_14_method_1_code 237 = .ok (.aload_n 0, 1) := by decide +kernel
theorem e_M_238 : decode prog_14_method_1_code 238 = .ok (.bipush 120, 2) := by decide +kernel
theorem e_M_240 : decode prog_14_method_1_code 240 = .ok (.newarray .int, 2) := by decide +kernel
theorem e_M_242 : decode prog_14_method_1_code 242 = .ok (.putfield 98, 3) := by decide +kernel
theorem e_M_245 : decode prog_14_method_1_code 245 = .ok (.aload_n 0, 1) := by decide +kernel
theorem e_M_246 : decode prog_14_method_1_code 246 = .ok (.bipush 120, 2) := by decide +kernel
theorem e_M_248 : decode prog_14_method_1_code 248 = .ok (.newarray .int, 2) := by decide +kernel
theorem e_M_250 : decode prog_14_method_1_code 250 = .ok (.putfield 101, 3) := by decide +kernel
theorem e_M_253 : decode prog_14_method_1_code 253 = .ok (.aload_n 0, 1) := by decide +kernel
theorem e_M_254 : decode prog_14_method_1_code 254 = .ok (.bipush 120, 2) := by decide +kernel
theorem e_M_256 : decode prog_14_method_1_code 256 = .ok (.newarray .int, 2) := by decide +kernel
theorem e_M_258 : decode prog_14_method_1_code 258 = .ok (.putfield 104, 3) := by decide +kernel
theorem e_M_261 : decode prog_14_method_1_code 261 = .ok (.aload_n 0, 1) := by decide +kernel
theorem e_M_262 : decode prog_14_method_1_code 262 = .ok (.bipush 60, 2) := by decide +kernel
theorem e_M_264 : decode prog_14_method_1_code 264 = .ok (.newarray .int, 2) := by decide +kernel
theorem e_M_266 : decode prog_14_method_1_code 266 = .ok (.putfield 107, 3) := by decide +kernel
theorem e_M_269 : decode prog_14_method_1_code 269 = .ok (.aload_n 0, 1) := by decide +kernel
theorem e_M_270 : decode prog_14_method_1_code 270 = .ok (.bipush 60, 2) := by decide +kernel
theorem e_M_272 : decode prog_14_method_1_code 272 = .ok (.newarray .int, 2) := by decide +kernel
theorem e_M_274 : decode prog_14_method_1_code 274 = .ok (.putfield 110, 3) := by decide +kernel
theorem e_M_277 : decode prog_14_method_1_code 277 = .ok (.aload_n 0, 1) := by decide +kernel
theorem e_M_278 : decode prog_14_method_1_code 278 = .ok (.bipush 60, 2) := by decide +kernel
theorem e_M_280 : decode prog_14_method_1_code 280 = .ok (.newarray .int, 2) := by decide +kernel
theorem e_M_282 : decode prog_14_method_1_code 282 = .ok (.putfield 113, 3) := by decide +kernel
theorem e_M_285 : decode prog_14_method_1_code 285 = .ok (.aload_n 0, 1) := by decide +kernel
theorem e_M_286 : decode prog_14_method_1_code 286 = .ok (.bipush 60, 2) := by decide +kernel
theorem e_M_288 : decode prog_14_method_1_code 288 = .ok (.newarray .int, 2) := by decide +kernel
theorem e_M_290 : decode prog_14_method_1_code 290 = .ok (.putfield 116, 3) := by decide +kernel
theorem e_M_293 : decode prog_14_method_1_code 293 = .ok (.aload_n 0, 1) := by decide +kernel
theorem e_M_294 : decode prog_14_method_1_code 294 = .ok (.bipush 60, 2) := by decide +kernel
theorem e_M_296 : decode prog_14_method_1_code 296 = .ok (.newarray .int, 2) := by decide +kernel
theorem e_M_298 : decode prog_14_method_1_code 298 = .ok (.putfield 119, 3) := by decide +kernel
theorem e_M_301 : decode prog_14_method_1_code 301 = .ok (.aload_n 0, 1) := by decide +kernel
theorem e_M_302 : decode prog_14_method_1_code 302 = .ok (.bipush 60, 2) := by decide +kernel
theorem e_M_304 : decode prog_14_method_1_code 304 = .ok (.newarray .int, 2) := by decide +kernel
theorem e_M_306 : decode prog_14_method_1_code 306 = .ok (.putfield 122, 3) := by decide +kernel
theorem e_M_309 : decode prog_14_method_1_code 309 = .ok (.aload_n 0, 1) := by decide +kernel
theorem e_M_310 : decode prog_14_method_1_code 310 = .ok (.bipush 8, 2) := by decide +kernel
theorem e_M_312 : decode prog_14_method_1_code 312 = .ok (.newarray .int, 2) := by decide +kernel
theorem e_M_314 : decode prog_14_method_1_code 314 = .ok (.putfield 125, 3) := by decide +kernel
theorem e_M_317 : decode prog_14_method_1_code 317 = .ok (.aload_n 0, 1) := by decide +kernel
theorem e_M_318 : decode prog_14_method_1_code 318 = .ok (.bipush 30, 2) := by decide +kernel
theorem e_M_320 : decode prog_14_method_1_code 320 = .ok (.newarray .int, 2) := by decide +kernel
theorem e_M_322 : decode prog_14_method_1_code 322 = .ok (.putfield 128, 3) := by decide +kernel
theorem e_M_325 : decode prog_14_method_1_code 325 = .ok (.aload_n 0, 1) := by decide +kernel
theorem e_M_326 : decode prog_14_method_1_code 326 = .ok (.bipush 24, 2) := by decide +kernel
theorem e_M_328 : decode prog_14_method_1_code 328 = .ok (.newarray .boolean, 2) := by decide +kernel
theorem e_M_330 : decode prog_14_method_1_code 330 = .ok (.putfield 131, 3) := by decide +kernel
theorem e_M_333 : decode prog_14_method_1_code 333 = .ok (.aload_n 0, 1) := by decide +kernel
theorem e_M_334 : decode prog_14_method_1_code 334 = .ok (.iconst 5, 1) := by decide +kernel
theorem e_M_335 : decode prog_14_method_1_code 335 = .ok (.newarray .int, 2) := by decide +kernel
theorem e_M_337 : decode prog_14_method_1_code 337 = .ok (.dup, 1) := by decide +kernel
theorem e_M_338 : decode prog_14_method_1_code 338 = .ok (.iconst 0, 1) := by decide +kernel
theorem e_M_339 : decode prog_14_method_1_code 339 = .ok (.bipush 102, 2) := by decide +kernel
theorem e_M_341 : decode prog_14_method_1_code 341 = .ok (.iastore, 1) := by decide +kernel
theorem e_M_342 : decode prog_14_method_1_code 342 = .ok (.dup, 1) := by decide +kernel
theorem e_M_343 : decode prog_14_method_1_code 343 = .ok (.iconst 1, 1) := by decide +kernel
theorem e_M_344 : decode prog_14_method_1_code 344 = .ok (.bipush 114, 2) := by decide +kernel
theorem e_M_346 : decode prog_14_method_1_code 346 = .ok (.iastore, 1) := by decide +kernel
theorem e_M_347 : decode prog_14_method_1_code 347 = .ok (.dup, 1) := by decide +kernel
theorem e_M_348 : decode prog_14_method_1_code 348 = .ok (.iconst 2, 1) := by decide +kernel
theorem e_M_349 : decode prog_14_method_1_code 349 = .ok (.bipush 111, 2) := by decide +kernel
theorem e_M_351 : decode prog_14_method_1_code 351 = .ok (.iastore, 1) := by decide +kernel
theorem e_M_352 : decode prog_14_method_1_code 352 = .ok (.dup, 1) := by decide +kernel
theorem e_M_353 : decode prog_14_method_1_code 353 = .ok (.iconst 3, 1) := by decide +kernel
theorem e_M_354 : decode prog_14_method_1_code 354 = .ok (.bipush 110, 2) := by decide +kernel
theorem e_M_356 : decode prog_14_method_1_code 356 = .ok (.iastore, 1) := by decide +kernel
theorem e_M_357 : decode prog_14_method_1_code 357 = .ok (.dup, 1) := by decide +kernel
theorem e_M_358 : decode prog_14_method_1_code 358 = .ok (.iconst 4, 1) := by decide +kernel
theorem e_M_359 : decode prog_14_method_1_code 359 = .ok (.bipush 116, 2) := by decide +kernel
theorem e_M_361 : decode prog_14_method_1_code 361 = .ok (.iastore, 1) := by decide +kernel
theorem e_M_362 : decode prog_14_method_1_code 362 = .ok (.putfield 134, 3) := by decide +kernel
theorem e_M_365 : decode prog_14_method_1_code 365 = .ok (.aload_n 0, 1) := by decide +kernel
theorem e_M_366 : decode prog_14_method_1_code 366 = .ok (.iconst 4, 1) := by decide +kernel
theorem e_M_367 : decode prog_14_method_1_code 367 = .ok (.newarray .int, 2) := by decide +kernel
theorem e_M_369 : decode prog_14_method_1_code 369 = .ok (.dup, 1) := by decide +kernel
theorem e_M_370 : decode prog_14_method_1_code 370 = .ok (.iconst 0, 1) := by decide +kernel
theorem e_M_371 : decode prog_14_method_1_code 371 = .ok (.bipush 111, 2) := by decide +kernel
theorem e_M_373 : decode prog_14_method_1_code 373 = .ok (.iastore, 1) := by decide +kernel
theorem e_M_374 : decode prog_14_method_1_code 374 = .ok (.dup, 1) := by decide +kernel
theorem e_M_375 : decode prog_14_method_1_code 375 = .ok (.iconst 1, 1) := by decide +kernel
theorem e_M_376 : decode prog_14_method_1_code 376 = .ok (.bipush 119, 2) := by decide +kernel
theorem e_M_378 : decode prog_14_method_1_code 378 = .ok (.iastore, 1) := by decide +kernel
theorem e_M_379 : decode prog_14_method_1_code 379 = .ok (.dup, 1) := by decide +kernel
theorem e_M_380 : decode prog_14_method_1_code 380 = .ok (.iconst 2, 1) := by decide +kernel
theorem e_M_381 : decode prog_14_method_1_code 381 = .ok (.bipush 110, 2) := by decide +kernel
theorem e_M_383 : decode prog_14_method_1_code 383 = .ok (.iastore, 1) := by decide +kernel
theorem e_M_384 : decode prog_14_method_1_code 384 = .ok (.dup, 1) := by decide +kernel
theorem e_M_385 : decode prog_14_method_1_code 385 = .ok (.iconst 3, 1) := by decide +kernel
theorem e_M_386 : decode prog_14_method_1_code 386 = .ok (.bipush 32, 2) := by decide +kernel
theorem e_M_388 : decode prog_14_method_1_code 388 = .ok (.iastore, 1) := by decide +kernel
theorem e_M_389 : decode prog_14_method_1_code 389 = .ok (.putfield 137, 3) := by decide +kernel
theorem e_M_392 : decode prog_14_method_1_code 392 = .ok (.aload_n 0, 1) := by decide +kernel
theorem e_M_393 : decode prog_14_method_1_code 393 = .ok (.iconst 5, 1) := by decide +kernel
theorem e_M_394 : decode prog_14_method_1_code 394 = .ok (.newarray .int, 2) := by decide +kernel
theorem e_M_396 : decode prog_14_method_1_code 396 = .ok (.dup, 1) := by decide +kernel
theorem e_M_397 : decode prog_14_method_1_code 397 = .ok (.iconst 0, 1) := by decide +kernel
theorem e_M_398 : decode prog_14_method_1_code 398 = .ok (.bipush 97, 2) := by decide +kernel
theorem e_M_400 : decode prog_14_method_1_code 400 = .ok (.iastore, 1) := by decide +kernel
theorem e_M_401 : decode prog_14_method_1_code 401 = .ok (.dup, 1) := by decide +kernel
theorem e_M_402 : decode prog_14_method_1_code 402 = .ok (.iconst 1, 1) := by decide +kernel
theorem e_M_403 : decode prog_14_method_1_code 403 = .ok (.bipush 99, 2) := by decide +kernel
theorem e_M_405 : decode prog_14_method_1_code 405 = .ok (.iastore, 1) := by decide +kernel
theorem e_M_406 : decode prog_14_method_1_code 406 = .ok (.dup, 1) := by decide +kernel
theorem e_M_407 : decode prog_14_method_1_code 407 = .ok (.iconst 2, 1) := by decide +kernel
theorem e_M_408 : decode prog_14_method_1_code 408 = .ok (.bipush 114, 2) := by decide +kernel
theorem e_M_410 : decode prog_14_method_1_code 410 = .ok (.iastore, 1) := by decide +kernel
theorem e_M_411 : decode prog_14_method_1_code 411 = .ok (.dup, 1) := by decide +kernel
theorem e_M_412 : decode prog_14_method_1_code 412 = .ok (.iconst 3, 1) := by decide +kernel
theorem e_M_413 : decode prog_14_method_1_code 413 = .ok (.bipush 101, 2) := by decide +kernel
theorem e_M_415 : decode prog_14_method_1_code 415 = .ok (.iastore, 1) := by decide +kernel
theorem e_M_416 : decode prog_14_method_1_code 416 = .ok (.dup, 1) := by decide +kernel
theorem e_M_417 : decode prog_14_method_1_code 417 = .ok (.iconst 4, 1) := by decide +kernel
theorem e_M_418 : decode prog_14_method_1_code 418 = .ok (.bipush 115, 2) := by decide +kernel
theorem e_M_420 : decode prog_14_method_1_code 420 = .ok (.iastore, 1) := by decide +kernel
theorem e_M_421 : decode prog_14_method_1_code 421 = .ok (.putfield 140, 3) := by decide +kernel
theorem e_M_424 : decode prog_14_method_1_code 424 = .ok (.aload_n 0, 1) := by decide +kernel
theorem e_M_425 : decode prog_14_method_1_code 425 = .ok (.bipush 8, 2) := by decide +kernel
theorem e_M_427 : decode prog_14_method_1_code 427 = .ok (.newarray .int, 2) := by decide +kernel
theorem e_M_429 : decode prog_14_method_1_code 429 = .ok (.putfield 143, 3) := by decide +kernel
theorem e_M_432 : decode prog_14_method_1_code 432 = .ok (.aload_n 0, 1) := by decide +kernel
theorem e_M_433 : decode prog_14_method_1_code 433 = .ok (.bipush 8, 2) := by decide +kernel
theorem e_M_435 : decode prog_14_method_1_code 435 = .ok (.newarray .int, 2) := by decide +kernel
theorem e_M_437 : decode prog_14_method_1_code 437 = .ok (.putfield 146, 3) := by decide +kernel
theorem e_M_440 : decode prog_14_method_1_code 440 = .ok (.aload_n 0, 1) := by decide +kernel
theorem e_M_441 : decode prog_14_method_1_code 441 = .ok (.sipush 603, 3) := by decide +kernel
theorem e_M_444 : decode prog_14_method_1_code 444 = .ok (.newarray .int, 2) := by decide +kernel
theorem e_M_446 : decode prog_14_method_1_code 446 = .ok (.putfield 149, 3) := by decide +kernel
theorem e_M_449 : decode prog_14_method_1_code 449 = .ok (.aload_n 0, 1) := by decide +kernel
theorem e_M_450 : decode prog_14_method_1_code 450 = .ok (.sipush 603, 3) := by decide +kernel
theorem e_M_453 : decode prog_14_method_1_code 453 = .ok (.newarray .int, 2) := by decide +kernel
theorem e_M_455 : decode prog_14_method_1_code 455 = .ok (.putfield 152, 3) := by decide +kernel
theorem e_M_458 : decode prog_14_method_1_code 458 = .ok (.aload_n 0, 1) := by decide +kernel
theorem e_M_459 : decode prog_14_method_1_code 459 = .ok (.sipush 603, 3) := by decide +kernel
theorem e_M_462 : decode prog_14_method_1_code 462 = .ok (.newarray .int, 2) := by decide +kernel
theorem e_M_464 : decode prog_14_method_1_code 464 = .ok (.putfield 155, 3) := by decide +kernel
theorem e_M_467 : decode prog_14_method_1_code 467 = .ok (.aload_n 0, 1) := by decide +kernel
theorem e_M_468 : decode prog_14_method_1_code 468 = .ok (.sipush 603, 3) := by decide +kernel
theorem e_M_471 : decode prog_14_method_1_code 471 = .ok (.newarray .int, 2) := by decide +kernel
theorem e_M_473 : decode prog_14_method_1_code 473 = .ok (.putfield 158, 3) := by decide +kernel
theorem e_M_476 : decode prog_14_method_1_code 476 = .ok (.return_, 1) := by decide +kernel
