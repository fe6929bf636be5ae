theorem q_wd_mk {T : q_T} {w : Int} {c : Cond} (h : (q_tw T)[w.toNat]? = some c) (g : goodWord c = true) : q_wd T w c = true := by
  unfold q_wd
  rw [decide_eq_true h, g]
  rfl
theorem q_yc_mk {T : q_T} {y : q_Y} {wc wi wk ws np sta : Int} (h : q_wd T wc (.code y.1 y.2.1 y.2.2.1 y.2.2.2.1) = true) (h2 : (q_wd T wi (.initialized y.1.cls) && decide (y.1.cls ≠ "java/lang/invoke/MethodHandle") && decide (y.1.cls ≠ "java/lang/invoke/VarHandle") && decide ((parseMethodDescriptor y.1.desc).map (fun d => d.parameters.length) = some np.toNat) && plainName y.1.cls &&
    (bif sta == 1 then q_wd T wk (.static y.1) else (q_wd T wk (.instanceMethod y.1) && q_wd T ws (.selects y.1.cls y.1 y.1)))) = true) : q_yc T y [wc, wi, wk, ws, np, sta] = true := by
  unfold q_yc
  dsimp only
  simp only [Bool.and_eq_true] at h2 ⊢
  exact ⟨⟨⟨⟨⟨⟨h, h2.1.1.1.1.1⟩, h2.1.1.1.1.2⟩, h2.1.1.1.2⟩, h2.1.1.2⟩, h2.1.2⟩, h2.2⟩
set_option maxRecDepth 100000 in
theorem u_Bank_add : q_yc q_T0 (⟨"MarshCourt$Bank", "add", "(III)I"⟩, prog_2_method_2_code, 4, (Option.some Jvm.ClassFile.FieldType.int), 0, 0) [513, 66, 511, 512, 3, 0] = true := q_yc_mk (q_wd_mk rfl rfl) (by decide +kernel)
set_option maxRecDepth 100000 in
theorem u_Bank_beginTide : q_yc q_T0 (⟨"MarshCourt$Bank", "beginTide", "()V"⟩, prog_2_method_3_code, 1, (Option.none : Option Jvm.ClassFile.FieldType), 1, 23) [630, 66, 628, 629, 0, 0] = true := q_yc_mk (q_wd_mk rfl rfl) (by decide +kernel)
set_option maxRecDepth 100000 in
theorem u_Bank_brokenInTide : q_yc q_T0 (⟨"MarshCourt$Bank", "brokenInTide", "()I"⟩, prog_2_method_4_code, 6, (Option.some Jvm.ClassFile.FieldType.int), 0, 0) [704, 66, 702, 703, 0, 0] = true := q_yc_mk (q_wd_mk rfl rfl) (by decide +kernel)
set_option maxRecDepth 100000 in
theorem u_Bank_meetSea : q_yc q_T0 (⟨"MarshCourt$Bank", "meetSea", "(IIILMarshCourt$Land;)V"⟩, prog_2_method_5_code, 6, (Option.none : Option Jvm.ClassFile.FieldType), 3, 69) [646, 66, 644, 645, 4, 0] = true := q_yc_mk (q_wd_mk rfl rfl) (by decide +kernel)
set_option maxRecDepth 100000 in
theorem u_Bank_wearOf : q_yc q_T0 (⟨"MarshCourt$Bank", "wearOf", "(III)I"⟩, prog_2_method_6_code, 4, (Option.some Jvm.ClassFile.FieldType.int), 0, 0) [662, 66, 661, 0, 3, 1] = true := q_yc_mk (q_wd_mk rfl rfl) (by decide +kernel)
set_option maxRecDepth 100000 in
theorem u_Bank_breakDown : q_yc q_T0 (⟨"MarshCourt$Bank", "breakDown", "(I)V"⟩, prog_2_method_7_code, 4, (Option.none : Option Jvm.ClassFile.FieldType), 2, 46) [654, 66, 653, 10, 1, 0] = true := q_yc_mk (q_wd_mk rfl rfl) (by decide +kernel)
set_option maxRecDepth 100000 in
theorem u_Bank_wearDown : q_yc q_T0 (⟨"MarshCourt$Bank", "wearDown", "(II)V"⟩, prog_2_method_8_code, 4, (Option.none : Option Jvm.ClassFile.FieldType), 1, 23) [658, 66, 657, 11, 2, 0] = true := q_yc_mk (q_wd_mk rfl rfl) (by decide +kernel)
set_option maxRecDepth 100000 in
theorem u_Bank_runSluice : q_yc q_T0 (⟨"MarshCourt$Bank", "runSluice", "(IILMarshCourt$Land;)V"⟩, prog_2_method_9_code, 7, (Option.none : Option Jvm.ClassFile.FieldType), 2, 46) [666, 66, 664, 665, 3, 0] = true := q_yc_mk (q_wd_mk rfl rfl) (by decide +kernel)
set_option maxRecDepth 100000 in
theorem u_Courts_inForce : q_yc q_T0 (⟨"MarshCourt$Courts", "inForce", "(II)I"⟩, prog_3_method_2_code, 7, (Option.some Jvm.ClassFile.FieldType.int), 1, 23) [537, 70, 535, 536, 2, 0] = true := q_yc_mk (q_wd_mk rfl rfl) (by decide +kernel)
set_option maxRecDepth 100000 in
theorem u_Courts_customOf : q_yc q_T0 (⟨"MarshCourt$Courts", "customOf", "(I)LMarshCourt$Custom;"⟩, prog_3_method_3_code, 2, (Option.some (Jvm.ClassFile.FieldType.object "MarshCourt$Custom")), 1, 22) [542, 70, 540, 541, 1, 0] = true := q_yc_mk (q_wd_mk rfl rfl) (by decide +kernel)
set_option maxRecDepth 100000 in
theorem u_Custom_clear : q_yc q_T0 (⟨"MarshCourt$Custom", "clear", "()V"⟩, prog_4_method_2_code, 1, (Option.none : Option Jvm.ClassFile.FieldType), 0, 0) [736, 71, 734, 735, 0, 0] = true := q_yc_mk (q_wd_mk rfl rfl) (by decide +kernel)
set_option maxRecDepth 100000 in
theorem u_Custom_addRule : q_yc q_T0 (⟨"MarshCourt$Custom", "addRule", "(III)V"⟩, prog_4_method_3_code, 4, (Option.none : Option Jvm.ClassFile.FieldType), 0, 0) [822, 71, 820, 821, 3, 0] = true := q_yc_mk (q_wd_mk rfl rfl) (by decide +kernel)
set_option maxRecDepth 100000 in
theorem u_Custom_ruleOf : q_yc q_T0 (⟨"MarshCourt$Custom", "ruleOf", "(I)I"⟩, prog_4_method_4_code, 3, (Option.some Jvm.ClassFile.FieldType.int), 1, 22) [851, 71, 849, 850, 1, 0] = true := q_yc_mk (q_wd_mk rfl rfl) (by decide +kernel)
set_option maxRecDepth 100000 in
theorem u_Custom_value : q_yc q_T0 (⟨"MarshCourt$Custom", "value", "(I)I"⟩, prog_4_method_5_code, 2, (Option.some Jvm.ClassFile.FieldType.int), 0, 0) [839, 71, 837, 838, 1, 0] = true := q_yc_mk (q_wd_mk rfl rfl) (by decide +kernel)
set_option maxRecDepth 100000 in
theorem u_Faults_begin : q_yc q_T0 (⟨"MarshCourt$Faults", "begin", "(IIIILMarshCourt$Custom;)V"⟩, prog_5_method_2_code, 6, (Option.none : Option Jvm.ClassFile.FieldType), 0, 0) [885, 72, 883, 884, 5, 0] = true := q_yc_mk (q_wd_mk rfl rfl) (by decide +kernel)
set_option maxRecDepth 100000 in
theorem u_Faults_end : q_yc q_T0 (⟨"MarshCourt$Faults", "end", "(II)V"⟩, prog_5_method_3_code, 3, (Option.none : Option Jvm.ClassFile.FieldType), 0, 0) [881, 72, 879, 880, 2, 0] = true := q_yc_mk (q_wd_mk rfl rfl) (by decide +kernel)
set_option maxRecDepth 100000 in
theorem u_Faults_endIfMended : q_yc q_T0 (⟨"MarshCourt$Faults", "endIfMended", "(III)V"⟩, prog_5_method_4_code, 4, (Option.none : Option Jvm.ClassFile.FieldType), 1, 22) [893, 72, 891, 892, 3, 0] = true := q_yc_mk (q_wd_mk rfl rfl) (by decide +kernel)
set_option maxRecDepth 100000 in
theorem u_Faults_fineSoFar : q_yc q_T0 (⟨"MarshCourt$Faults", "fineSoFar", "(II)I"⟩, prog_5_method_5_code, 4, (Option.some Jvm.ClassFile.FieldType.int), 0, 0) [902, 72, 900, 901, 2, 0] = true := q_yc_mk (q_wd_mk rfl rfl) (by decide +kernel)
set_option maxRecDepth 100000 in
theorem u_Faults_owedBy : q_yc q_T0 (⟨"MarshCourt$Faults", "owedBy", "(II)I"⟩, prog_5_method_6_code, 5, (Option.some Jvm.ClassFile.FieldType.int), 1, 23) [910, 72, 908, 909, 2, 0] = true := q_yc_mk (q_wd_mk rfl rfl) (by decide +kernel)
set_option maxRecDepth 100000 in
theorem u_Faults_openOnes : q_yc q_T0 (⟨"MarshCourt$Faults", "openOnes", "()I"⟩, prog_5_method_7_code, 6, (Option.some Jvm.ClassFile.FieldType.int), 0, 0) [969, 72, 967, 968, 0, 0] = true := q_yc_mk (q_wd_mk rfl rfl) (by decide +kernel)
set_option maxRecDepth 100000 in
theorem u_Herds_add : q_yc q_T0 (⟨"MarshCourt$Herds", "add", "(I)I"⟩, prog_6_method_2_code, 2, (Option.some Jvm.ClassFile.FieldType.int), 0, 0) [565, 67, 563, 564, 1, 0] = true := q_yc_mk (q_wd_mk rfl rfl) (by decide +kernel)
set_option maxRecDepth 100000 in
theorem u_Herds_alive : q_yc q_T0 (⟨"MarshCourt$Herds", "alive", "()I"⟩, prog_6_method_3_code, 3, (Option.some Jvm.ClassFile.FieldType.int), 0, 0) [965, 67, 963, 964, 0, 0] = true := q_yc_mk (q_wd_mk rfl rfl) (by decide +kernel)
set_option maxRecDepth 100000 in
theorem u_Herds_flee : q_yc q_T0 (⟨"MarshCourt$Herds", "flee", "(LMarshCourt$Land;)V"⟩, prog_6_method_4_code, 3, (Option.none : Option Jvm.ClassFile.FieldType), 4, 93) [691, 67, 689, 690, 1, 0] = true := q_yc_mk (q_wd_mk rfl rfl) (by decide +kernel)
set_option maxRecDepth 100000 in
theorem u_Land_neighbour : q_yc q_T0 (⟨"MarshCourt$Land", "neighbour", "(II)I"⟩, prog_7_method_2_code, 3, (Option.some Jvm.ClassFile.FieldType.int), 0, 0) [557, 63, 556, 0, 2, 1] = true := q_yc_mk (q_wd_mk rfl rfl) (by decide +kernel)
set_option maxRecDepth 100000 in
theorem u_Land_gateBetween : q_yc q_T0 (⟨"MarshCourt$Land", "gateBetween", "(II)I"⟩, prog_7_method_3_code, 4, (Option.some Jvm.ClassFile.FieldType.int), 1, 23) [550, 63, 549, 0, 2, 1] = true := q_yc_mk (q_wd_mk rfl rfl) (by decide +kernel)
set_option maxRecDepth 100000 in
theorem u_Land_isShut : q_yc q_T0 (⟨"MarshCourt$Land", "isShut", "(II)Z"⟩, prog_7_method_4_code, 4, (Option.some Jvm.ClassFile.FieldType.boolean), 2, 46) [603, 63, 601, 602, 2, 0] = true := q_yc_mk (q_wd_mk rfl rfl) (by decide +kernel)
set_option maxRecDepth 100000 in
theorem u_Land_surface : q_yc q_T0 (⟨"MarshCourt$Land", "surface", "(I)I"⟩, prog_7_method_5_code, 2, (Option.some Jvm.ClassFile.FieldType.int), 0, 0) [475, 63, 473, 474, 1, 0] = true := q_yc_mk (q_wd_mk rfl rfl) (by decide +kernel)
set_option maxRecDepth 100000 in
theorem u_Land_beginTide : q_yc q_T0 (⟨"MarshCourt$Land", "beginTide", "()V"⟩, prog_7_method_6_code, 1, (Option.none : Option Jvm.ClassFile.FieldType), 1, 23) [625, 63, 623, 624, 0, 0] = true := q_yc_mk (q_wd_mk rfl rfl) (by decide +kernel)
set_option maxRecDepth 100000 in
theorem u_Land_rainOnAll : q_yc q_T0 (⟨"MarshCourt$Land", "rainOnAll", "(I)V"⟩, prog_7_method_7_code, 3, (Option.none : Option Jvm.ClassFile.FieldType), 0, 0) [641, 63, 639, 640, 1, 0] = true := q_yc_mk (q_wd_mk rfl rfl) (by decide +kernel)
set_option maxRecDepth 100000 in
theorem u_Land_letSeaIn : q_yc q_T0 (⟨"MarshCourt$Land", "letSeaIn", "(II)V"⟩, prog_7_method_8_code, 3, (Option.none : Option Jvm.ClassFile.FieldType), 0, 0) [650, 63, 648, 649, 2, 0] = true := q_yc_mk (q_wd_mk rfl rfl) (by decide +kernel)
set_option maxRecDepth 100000 in
theorem u_Land_letOut : q_yc q_T0 (⟨"MarshCourt$Land", "letOut", "(II)V"⟩, prog_7_method_9_code, 4, (Option.none : Option Jvm.ClassFile.FieldType), 1, 23) [671, 63, 669, 670, 2, 0] = true := q_yc_mk (q_wd_mk rfl rfl) (by decide +kernel)
set_option maxRecDepth 100000 in
theorem u_Land_spread : q_yc q_T0 (⟨"MarshCourt$Land", "spread", "()V"⟩, prog_7_method_10_code, 2, (Option.none : Option Jvm.ClassFile.FieldType), 3, 70) [675, 63, 673, 674, 0, 0] = true := q_yc_mk (q_wd_mk rfl rfl) (by decide +kernel)
set_option maxRecDepth 100000 in
theorem u_Land_settle : q_yc q_T0 (⟨"MarshCourt$Land", "settle", "(II)V"⟩, prog_7_method_11_code, 4, (Option.none : Option Jvm.ClassFile.FieldType), 2, 47) [679, 63, 678, 12, 2, 0] = true := q_yc_mk (q_wd_mk rfl rfl) (by decide +kernel)
set_option maxRecDepth 100000 in
theorem u_Land_flow : q_yc q_T0 (⟨"MarshCourt$Land", "flow", "(III)V"⟩, prog_7_method_12_code, 5, (Option.none : Option Jvm.ClassFile.FieldType), 1, 23) [683, 63, 682, 13, 3, 0] = true := q_yc_mk (q_wd_mk rfl rfl) (by decide +kernel)
set_option maxRecDepth 100000 in
theorem u_Land_notePeaks : q_yc q_T0 (⟨"MarshCourt$Land", "notePeaks", "()V"⟩, prog_7_method_13_code, 2, (Option.none : Option Jvm.ClassFile.FieldType), 1, 23) [687, 63, 685, 686, 0, 0] = true := q_yc_mk (q_wd_mk rfl rfl) (by decide +kernel)
set_option maxRecDepth 100000 in
theorem u_Land_endTide : q_yc q_T0 (⟨"MarshCourt$Land", "endTide", "()V"⟩, prog_7_method_14_code, 2, (Option.none : Option Jvm.ClassFile.FieldType), 1, 23) [700, 63, 698, 699, 0, 0] = true := q_yc_mk (q_wd_mk rfl rfl) (by decide +kernel)
set_option maxRecDepth 100000 in
theorem u_Land_passYear : q_yc q_T0 (⟨"MarshCourt$Land", "passYear", "()I"⟩, prog_7_method_15_code, 3, (Option.some Jvm.ClassFile.FieldType.int), 1, 23) [716, 63, 714, 715, 0, 0] = true := q_yc_mk (q_wd_mk rfl rfl) (by decide +kernel)
set_option maxRecDepth 100000 in
theorem u_Land_allWater : q_yc q_T0 (⟨"MarshCourt$Land", "allWater", "()I"⟩, prog_7_method_16_code, 6, (Option.some Jvm.ClassFile.FieldType.int), 0, 0) [973, 63, 971, 972, 0, 0] = true := q_yc_mk (q_wd_mk rfl rfl) (by decide +kernel)
set_option maxRecDepth 100000 in
theorem u_Land_refuge : q_yc q_T0 (⟨"MarshCourt$Land", "refuge", "(I)I"⟩, prog_7_method_17_code, 5, (Option.some Jvm.ClassFile.FieldType.int), 3, 69) [695, 63, 693, 694, 1, 0] = true := q_yc_mk (q_wd_mk rfl rfl) (by decide +kernel)
set_option maxRecDepth 100000 in
theorem u_Plan_draw : q_yc q_T0 (⟨"MarshCourt$Plan", "draw", "(LMarshCourt$Bank;LMarshCourt$Land;II)V"⟩, prog_8_method_2_code, 9, (Option.none : Option Jvm.ClassFile.FieldType), 3, 72) [924, 74, 922, 923, 4, 0] = true := q_yc_mk (q_wd_mk rfl rfl) (by decide +kernel)
set_option maxRecDepth 100000 in
theorem u_Plan_allNeeds : q_yc q_T0 (⟨"MarshCourt$Plan", "allNeeds", "(LMarshCourt$Bank;I)I"⟩, prog_8_method_3_code, 4, (Option.some Jvm.ClassFile.FieldType.int), 1, 23) [932, 74, 931, 0, 2, 1] = true := q_yc_mk (q_wd_mk rfl rfl) (by decide +kernel)
set_option maxRecDepth 100000 in
theorem u_Plan_bestFor : q_yc q_T0 (⟨"MarshCourt$Plan", "bestFor", "(I)J"⟩, prog_8_method_4_code, 2, (Option.some Jvm.ClassFile.FieldType.long), 1, 23) [945, 74, 944, 25, 1, 0] = true := q_yc_mk (q_wd_mk rfl rfl) (by decide +kernel)
set_option maxRecDepth 100000 in
theorem u_Plan_consider : q_yc q_T0 (⟨"MarshCourt$Plan", "consider", "(IJI)V"⟩, prog_8_method_5_code, 9, (Option.none : Option Jvm.ClassFile.FieldType), 2, 44) [941, 74, 940, 24, 3, 0] = true := q_yc_mk (q_wd_mk rfl rfl) (by decide +kernel)
set_option maxRecDepth 100000 in
theorem u_Plan_worthOf : q_yc q_T0 (⟨"MarshCourt$Plan", "worthOf", "(ILMarshCourt$Land;I)J"⟩, prog_8_method_6_code, 7, (Option.some Jvm.ClassFile.FieldType.long), 1, 23) [937, 74, 936, 0, 3, 1] = true := q_yc_mk (q_wd_mk rfl rfl) (by decide +kernel)
set_option maxRecDepth 100000 in
theorem u_Plan_handsFor : q_yc q_T0 (⟨"MarshCourt$Plan", "handsFor", "(LMarshCourt$Bank;I)I"⟩, prog_8_method_7_code, 5, (Option.some Jvm.ClassFile.FieldType.int), 0, 0) [952, 74, 951, 26, 2, 0] = true := q_yc_mk (q_wd_mk rfl rfl) (by decide +kernel)
set_option maxRecDepth 100000 in
theorem u_Sales_enter : q_yc q_T0 (⟨"MarshCourt$Sales", "enter", "(IIIII)V"⟩, prog_9_method_2_code, 6, (Option.none : Option Jvm.ClassFile.FieldType), 0, 0) [500, 64, 498, 499, 5, 0] = true := q_yc_mk (q_wd_mk rfl rfl) (by decide +kernel)
set_option maxRecDepth 100000 in
theorem u_Sales_partsOf : q_yc q_T0 (⟨"MarshCourt$Sales", "partsOf", "(IIII)I"⟩, prog_9_method_3_code, 8, (Option.some Jvm.ClassFile.FieldType.int), 1, 23) [493, 64, 491, 492, 4, 0] = true := q_yc_mk (q_wd_mk rfl rfl) (by decide +kernel)
set_option maxRecDepth 100000 in
theorem u_Sales_sumParts : q_yc q_T0 (⟨"MarshCourt$Sales", "sumParts", "([III)V"⟩, prog_9_method_4_code, 5, (Option.none : Option Jvm.ClassFile.FieldType), 2, 50) [860, 64, 858, 859, 3, 0] = true := q_yc_mk (q_wd_mk rfl rfl) (by decide +kernel)
set_option maxRecDepth 100000 in
theorem u_Sales_greatestOwner : q_yc q_T0 (⟨"MarshCourt$Sales", "greatestOwner", "(III)I"⟩, prog_9_method_5_code, 8, (Option.some Jvm.ClassFile.FieldType.int), 2, 50) [856, 64, 854, 855, 3, 0] = true := q_yc_mk (q_wd_mk rfl rfl) (by decide +kernel)
set_option maxRecDepth 100000 in
theorem u_Sales_wouldOwe : q_yc q_T0 (⟨"MarshCourt$Sales", "wouldOwe", "(IIII)Z"⟩, prog_9_method_6_code, 7, (Option.some Jvm.ClassFile.FieldType.boolean), 2, 50) [489, 64, 487, 488, 4, 0] = true := q_yc_mk (q_wd_mk rfl rfl) (by decide +kernel)
set_option maxRecDepth 100000 in
theorem u_Shares_lay : q_yc q_T0 (⟨"MarshCourt$Shares", "lay", "(I)V"⟩, prog_10_method_2_code, 5, (Option.none : Option Jvm.ClassFile.FieldType), 1, 22) [864, 65, 862, 863, 1, 0] = true := q_yc_mk (q_wd_mk rfl rfl) (by decide +kernel)
set_option maxRecDepth 100000 in
theorem u_Shares_greatestRest : q_yc q_T0 (⟨"MarshCourt$Shares", "greatestRest", "()I"⟩, prog_10_method_3_code, 3, (Option.some Jvm.ClassFile.FieldType.int), 0, 0) [868, 65, 867, 23, 0, 0] = true := q_yc_mk (q_wd_mk rfl rfl) (by decide +kernel)
set_option maxRecDepth 100000 in
theorem u_Shares_ownerAt : q_yc q_T0 (⟨"MarshCourt$Shares", "ownerAt", "(I)I"⟩, prog_10_method_4_code, 4, (Option.some Jvm.ClassFile.FieldType.int), 0, 0) [872, 65, 870, 871, 1, 0] = true := q_yc_mk (q_wd_mk rfl rfl) (by decide +kernel)
set_option maxRecDepth 100000 in
theorem u_Tape_append : q_yc q_T0 (⟨"MarshCourt$Tape", "append", "(JI)V"⟩, prog_11_method_2_code, 5, (Option.none : Option Jvm.ClassFile.FieldType), 0, 0) [724, 69, 722, 723, 2, 0] = true := q_yc_mk (q_wd_mk rfl rfl) (by decide +kernel)
set_option maxRecDepth 100000 in
theorem u_Tape_read : q_yc q_T0 (⟨"MarshCourt$Tape", "read", "(LMarshCourt$Custom;)Z"⟩, prog_11_method_3_code, 3, (Option.some Jvm.ClassFile.FieldType.boolean), 9, 193) [732, 69, 730, 731, 1, 0] = true := q_yc_mk (q_wd_mk rfl rfl) (by decide +kernel)
set_option maxRecDepth 100000 in
theorem u_Tape_peek : q_yc q_T0 (⟨"MarshCourt$Tape", "peek", "()I"⟩, prog_11_method_4_code, 1, (Option.some Jvm.ClassFile.FieldType.int), 0, 0) [744, 69, 743, 15, 0, 0] = true := q_yc_mk (q_wd_mk rfl rfl) (by decide +kernel)
set_option maxRecDepth 100000 in
theorem u_Tape_take : q_yc q_T0 (⟨"MarshCourt$Tape", "take", "(C)Z"⟩, prog_11_method_5_code, 2, (Option.some Jvm.ClassFile.FieldType.boolean), 1, 20) [740, 69, 739, 14, 1, 0] = true := q_yc_mk (q_wd_mk rfl rfl) (by decide +kernel)
set_option maxRecDepth 100000 in
theorem u_Tape_takeAll : q_yc q_T0 (⟨"MarshCourt$Tape", "takeAll", "(Ljava/lang/String;)Z"⟩, prog_11_method_6_code, 3, (Option.some Jvm.ClassFile.FieldType.boolean), 5, 106) [753, 69, 752, 17, 1, 0] = true := q_yc_mk (q_wd_mk rfl rfl) (by decide +kernel)
set_option maxRecDepth 100000 in
theorem u_Tape_takeNumber : q_yc q_T0 (⟨"MarshCourt$Tape", "takeNumber", "(II)I"⟩, prog_11_method_7_code, 5, (Option.some Jvm.ClassFile.FieldType.int), 1, 23) [809, 69, 808, 19, 2, 0] = true := q_yc_mk (q_wd_mk rfl rfl) (by decide +kernel)
set_option maxRecDepth 100000 in
theorem u_Tape_takeClause : q_yc q_T0 (⟨"MarshCourt$Tape", "takeClause", "(LMarshCourt$Custom;)Z"⟩, prog_11_method_8_code, 2, (Option.some Jvm.ClassFile.FieldType.boolean), 8, 172) [748, 69, 747, 16, 1, 0] = true := q_yc_mk (q_wd_mk rfl rfl) (by decide +kernel)
set_option maxRecDepth 100000 in
theorem u_Tape_takeValue : q_yc q_T0 (⟨"MarshCourt$Tape", "takeValue", "(Ljava/lang/String;II)I"⟩, prog_11_method_9_code, 4, (Option.some Jvm.ClassFile.FieldType.int), 6, 128) [827, 69, 826, 21, 3, 0] = true := q_yc_mk (q_wd_mk rfl rfl) (by decide +kernel)
set_option maxRecDepth 100000 in
theorem u_Tape_takeRule : q_yc q_T0 (⟨"MarshCourt$Tape", "takeRule", "(LMarshCourt$Custom;)Z"⟩, prog_11_method_10_code, 5, (Option.some Jvm.ClassFile.FieldType.boolean), 7, 148) [805, 69, 804, 18, 1, 0] = true := q_yc_mk (q_wd_mk rfl rfl) (by decide +kernel)
set_option maxRecDepth 100000 in
theorem u_Tape_takeHow : q_yc q_T0 (⟨"MarshCourt$Tape", "takeHow", "()I"⟩, prog_11_method_11_code, 1, (Option.some Jvm.ClassFile.FieldType.int), 6, 128) [815, 69, 814, 20, 0, 0] = true := q_yc_mk (q_wd_mk rfl rfl) (by decide +kernel)
set_option maxRecDepth 100000 in
theorem u_Ways_seek : q_yc q_T0 (⟨"MarshCourt$Ways", "seek", "(LMarshCourt$Land;II)V"⟩, prog_12_method_2_code, 4, (Option.none : Option Jvm.ClassFile.FieldType), 6, 141) [585, 68, 583, 584, 3, 0] = true := q_yc_mk (q_wd_mk rfl rfl) (by decide +kernel)
set_option maxRecDepth 100000 in
theorem u_Ways_moveCost : q_yc q_T0 (⟨"MarshCourt$Ways", "moveCost", "(LMarshCourt$Land;II)I"⟩, prog_12_method_3_code, 3, (Option.some Jvm.ClassFile.FieldType.int), 3, 69) [599, 68, 598, 0, 3, 1] = true := q_yc_mk (q_wd_mk rfl rfl) (by decide +kernel)
set_option maxRecDepth 100000 in
theorem u_Ways_measure : q_yc q_T0 (⟨"MarshCourt$Ways", "measure", "(LMarshCourt$Land;I)V"⟩, prog_12_method_4_code, 6, (Option.none : Option Jvm.ClassFile.FieldType), 5, 116) [589, 68, 588, 4, 2, 0] = true := q_yc_mk (q_wd_mk rfl rfl) (by decide +kernel)
set_option maxRecDepth 100000 in
theorem u_Ways_improve : q_yc q_T0 (⟨"MarshCourt$Ways", "improve", "(LMarshCourt$Land;I)Z"⟩, prog_12_method_5_code, 6, (Option.some Jvm.ClassFile.FieldType.boolean), 4, 91) [595, 68, 594, 5, 2, 0] = true := q_yc_mk (q_wd_mk rfl rfl) (by decide +kernel)
set_option maxRecDepth 100000 in
theorem u_Ways_nearest : q_yc q_T0 (⟨"MarshCourt$Ways", "nearest", "(LMarshCourt$Land;I)I"⟩, prog_12_method_6_code, 6, (Option.some Jvm.ClassFile.FieldType.int), 0, 0) [609, 68, 608, 6, 2, 0] = true := q_yc_mk (q_wd_mk rfl rfl) (by decide +kernel)
set_option maxRecDepth 100000 in
theorem u_Ways_walkToGate : q_yc q_T0 (⟨"MarshCourt$Ways", "walkToGate", "(LMarshCourt$Land;I)V"⟩, prog_12_method_7_code, 6, (Option.none : Option Jvm.ClassFile.FieldType), 5, 115) [613, 68, 612, 7, 2, 0] = true := q_yc_mk (q_wd_mk rfl rfl) (by decide +kernel)
set_option maxRecDepth 100000 in
theorem u_Ways_onward : q_yc q_T0 (⟨"MarshCourt$Ways", "onward", "(LMarshCourt$Land;I)I"⟩, prog_12_method_8_code, 5, (Option.some Jvm.ClassFile.FieldType.int), 4, 91) [617, 68, 616, 8, 2, 0] = true := q_yc_mk (q_wd_mk rfl rfl) (by decide +kernel)
set_option maxRecDepth 100000 in
theorem u_A_level : q_yc q_T0 (⟨"MarshCourt", "level", "(II)I"⟩, prog_1_method_2_code, 4, (Option.some Jvm.ClassFile.FieldType.int), 2, 42) [461, 62, 459, 460, 2, 0] = true := q_yc_mk (q_wd_mk rfl rfl) (by decide +kernel)
set_option maxRecDepth 100000 in
theorem u_A_cell : q_yc q_T0 (⟨"MarshCourt", "cell", "(II)I"⟩, prog_1_method_3_code, 3, (Option.some Jvm.ClassFile.FieldType.int), 2, 42) [471, 62, 469, 470, 2, 0] = true := q_yc_mk (q_wd_mk rfl rfl) (by decide +kernel)
set_option maxRecDepth 100000 in
theorem u_A_sell : q_yc q_T0 (⟨"MarshCourt", "sell", "(IIIII)I"⟩, prog_1_method_4_code, 6, (Option.some Jvm.ClassFile.FieldType.int), 3, 76) [479, 62, 477, 478, 5, 0] = true := q_yc_mk (q_wd_mk rfl rfl) (by decide +kernel)
set_option maxRecDepth 100000 in
theorem u_A_held : q_yc q_T0 (⟨"MarshCourt", "held", "(IIII)I"⟩, prog_1_method_5_code, 6, (Option.some Jvm.ClassFile.FieldType.int), 2, 50) [504, 62, 502, 503, 4, 0] = true := q_yc_mk (q_wd_mk rfl rfl) (by decide +kernel)
set_option maxRecDepth 100000 in
theorem u_A_rod : q_yc q_T0 (⟨"MarshCourt", "rod", "(III)I"⟩, prog_1_method_6_code, 4, (Option.some Jvm.ClassFile.FieldType.int), 2, 42) [509, 62, 507, 508, 3, 0] = true := q_yc_mk (q_wd_mk rfl rfl) (by decide +kernel)
set_option maxRecDepth 100000 in
theorem u_A_sluice : q_yc q_T0 (⟨"MarshCourt", "sluice", "(II)I"⟩, prog_1_method_7_code, 4, (Option.some Jvm.ClassFile.FieldType.int), 2, 43) [517, 62, 515, 516, 2, 0] = true := q_yc_mk (q_wd_mk rfl rfl) (by decide +kernel)
set_option maxRecDepth 100000 in
theorem u_A_about : q_yc q_T0 (⟨"MarshCourt", "about", "(II)I"⟩, prog_1_method_8_code, 3, (Option.some Jvm.ClassFile.FieldType.int), 4, 91) [525, 62, 523, 524, 2, 0] = true := q_yc_mk (q_wd_mk rfl rfl) (by decide +kernel)
set_option maxRecDepth 100000 in
theorem u_A_gate : q_yc q_T0 (⟨"MarshCourt", "gate", "(III)I"⟩, prog_1_method_9_code, 6, (Option.some Jvm.ClassFile.FieldType.int), 2, 46) [547, 62, 545, 546, 3, 0] = true := q_yc_mk (q_wd_mk rfl rfl) (by decide +kernel)
set_option maxRecDepth 100000 in
theorem u_A_herd : q_yc q_T0 (⟨"MarshCourt", "herd", "(I)I"⟩, prog_1_method_10_code, 2, (Option.some Jvm.ClassFile.FieldType.int), 2, 42) [561, 62, 559, 560, 1, 0] = true := q_yc_mk (q_wd_mk rfl rfl) (by decide +kernel)
set_option maxRecDepth 100000 in
theorem u_A_drive : q_yc q_T0 (⟨"MarshCourt", "drive", "(II)I"⟩, prog_1_method_11_code, 5, (Option.some Jvm.ClassFile.FieldType.int), 2, 46) [569, 62, 567, 568, 2, 0] = true := q_yc_mk (q_wd_mk rfl rfl) (by decide +kernel)
set_option maxRecDepth 100000 in
theorem u_A_where : q_yc q_T0 (⟨"MarshCourt", "where", "(I)I"⟩, prog_1_method_12_code, 2, (Option.some Jvm.ClassFile.FieldType.int), 2, 43) [577, 62, 575, 576, 1, 0] = true := q_yc_mk (q_wd_mk rfl rfl) (by decide +kernel)
set_option maxRecDepth 100000 in
theorem u_A_way : q_yc q_T0 (⟨"MarshCourt", "way", "(III)I"⟩, prog_1_method_13_code, 4, (Option.some Jvm.ClassFile.FieldType.int), 7, 164) [581, 62, 579, 580, 3, 0] = true := q_yc_mk (q_wd_mk rfl rfl) (by decide +kernel)
set_option maxRecDepth 100000 in
theorem u_A_tide : q_yc q_T0 (⟨"MarshCourt", "tide", "(III)I"⟩, prog_1_method_14_code, 8, (Option.some Jvm.ClassFile.FieldType.int), 6, 139) [621, 62, 619, 620, 3, 0] = true := q_yc_mk (q_wd_mk rfl rfl) (by decide +kernel)
set_option maxRecDepth 100000 in
theorem u_A_pass : q_yc q_T0 (⟨"MarshCourt", "pass", "(I)I"⟩, prog_1_method_15_code, 2, (Option.some Jvm.ClassFile.FieldType.int), 1, 22) [708, 62, 706, 707, 1, 0] = true := q_yc_mk (q_wd_mk rfl rfl) (by decide +kernel)
set_option maxRecDepth 100000 in
theorem u_A_year : q_yc q_T0 (⟨"MarshCourt", "year", "()I"⟩, prog_1_method_16_code, 1, (Option.some Jvm.ClassFile.FieldType.int), 2, 45) [712, 62, 710, 711, 0, 0] = true := q_yc_mk (q_wd_mk rfl rfl) (by decide +kernel)
set_option maxRecDepth 100000 in
theorem u_A_feed : q_yc q_T0 (⟨"MarshCourt", "feed", "(JI)I"⟩, prog_1_method_17_code, 4, (Option.some Jvm.ClassFile.FieldType.int), 1, 24) [720, 62, 718, 719, 2, 0] = true := q_yc_mk (q_wd_mk rfl rfl) (by decide +kernel)
set_option maxRecDepth 100000 in
theorem u_A_court : q_yc q_T0 (⟨"MarshCourt", "court", "(I)I"⟩, prog_1_method_18_code, 4, (Option.some Jvm.ClassFile.FieldType.int), 10, 215) [728, 62, 726, 727, 1, 0] = true := q_yc_mk (q_wd_mk rfl rfl) (by decide +kernel)
set_option maxRecDepth 100000 in
theorem u_A_custom : q_yc q_T0 (⟨"MarshCourt", "custom", "(III)I"⟩, prog_1_method_19_code, 5, (Option.some Jvm.ClassFile.FieldType.int), 2, 49) [835, 62, 833, 834, 3, 0] = true := q_yc_mk (q_wd_mk rfl rfl) (by decide +kernel)
set_option maxRecDepth 100000 in
theorem u_A_mender : q_yc q_T0 (⟨"MarshCourt", "mender", "(IIII)I"⟩, prog_1_method_20_code, 5, (Option.some Jvm.ClassFile.FieldType.int), 4, 105) [843, 62, 841, 842, 4, 0] = true := q_yc_mk (q_wd_mk rfl rfl) (by decide +kernel)
set_option maxRecDepth 100000 in
theorem u_A_view : q_yc q_T0 (⟨"MarshCourt", "view", "(I)I"⟩, prog_1_method_21_code, 5, (Option.some Jvm.ClassFile.FieldType.int), 4, 105) [876, 62, 874, 875, 1, 0] = true := q_yc_mk (q_wd_mk rfl rfl) (by decide +kernel)
set_option maxRecDepth 100000 in
theorem u_A_mend : q_yc q_T0 (⟨"MarshCourt", "mend", "(III)I"⟩, prog_1_method_22_code, 4, (Option.some Jvm.ClassFile.FieldType.int), 2, 45) [889, 62, 887, 888, 3, 0] = true := q_yc_mk (q_wd_mk rfl rfl) (by decide +kernel)
set_option maxRecDepth 100000 in
theorem u_A_fault : q_yc q_T0 (⟨"MarshCourt", "fault", "(II)I"⟩, prog_1_method_23_code, 4, (Option.some Jvm.ClassFile.FieldType.int), 2, 43) [898, 62, 896, 897, 2, 0] = true := q_yc_mk (q_wd_mk rfl rfl) (by decide +kernel)
set_option maxRecDepth 100000 in
theorem u_A_fines : q_yc q_T0 (⟨"MarshCourt", "fines", "(I)I"⟩, prog_1_method_24_code, 2, (Option.some Jvm.ClassFile.FieldType.int), 2, 47) [906, 62, 904, 905, 1, 0] = true := q_yc_mk (q_wd_mk rfl rfl) (by decide +kernel)
set_option maxRecDepth 100000 in
theorem u_A_mended : q_yc q_T0 (⟨"MarshCourt", "mended", "(I)I"⟩, prog_1_method_25_code, 2, (Option.some Jvm.ClassFile.FieldType.int), 2, 42) [916, 62, 914, 915, 1, 0] = true := q_yc_mk (q_wd_mk rfl rfl) (by decide +kernel)
set_option maxRecDepth 100000 in
theorem u_A_works : q_yc q_T0 (⟨"MarshCourt", "works", "(II)I"⟩, prog_1_method_26_code, 3, (Option.some Jvm.ClassFile.FieldType.int), 4, 100) [920, 62, 918, 919, 2, 0] = true := q_yc_mk (q_wd_mk rfl rfl) (by decide +kernel)
set_option maxRecDepth 100000 in
theorem u_A_scot : q_yc q_T0 (⟨"MarshCourt", "scot", "(II)I"⟩, prog_1_method_27_code, 3, (Option.some Jvm.ClassFile.FieldType.int), 3, 74) [956, 62, 954, 955, 2, 0] = true := q_yc_mk (q_wd_mk rfl rfl) (by decide +kernel)
set_option maxRecDepth 100000 in
theorem u_A_count : q_yc q_T0 (⟨"MarshCourt", "count", "(I)I"⟩, prog_1_method_28_code, 2, (Option.some Jvm.ClassFile.FieldType.int), 1, 25) [961, 62, 959, 960, 1, 0] = true := q_yc_mk (q_wd_mk rfl rfl) (by decide +kernel)
set_option maxRecDepth 100000 in
theorem u_A_within : q_yc q_T0 (⟨"MarshCourt", "within", "(III)Z"⟩, prog_1_method_29_code, 3, (Option.some Jvm.ClassFile.FieldType.boolean), 0, 0) [467, 62, 466, 0, 3, 1] = true := q_yc_mk (q_wd_mk rfl rfl) (by decide +kernel)
set_option maxRecDepth 100000 in
theorem u_A_isCell : q_yc q_T0 (⟨"MarshCourt", "isCell", "(I)Z"⟩, prog_1_method_30_code, 1, (Option.some Jvm.ClassFile.FieldType.boolean), 1, 22) [464, 62, 463, 0, 1, 1] = true := q_yc_mk (q_wd_mk rfl rfl) (by decide +kernel)
set_option maxRecDepth 100000 in
theorem u_A_isOwner : q_yc q_T0 (⟨"MarshCourt", "isOwner", "(I)Z"⟩, prog_1_method_31_code, 1, (Option.some Jvm.ClassFile.FieldType.boolean), 1, 22) [482, 62, 481, 0, 1, 1] = true := q_yc_mk (q_wd_mk rfl rfl) (by decide +kernel)
set_option maxRecDepth 100000 in
theorem u_A_isDay : q_yc q_T0 (⟨"MarshCourt", "isDay", "(I)Z"⟩, prog_1_method_32_code, 1, (Option.some Jvm.ClassFile.FieldType.boolean), 1, 22) [485, 62, 484, 0, 1, 1] = true := q_yc_mk (q_wd_mk rfl rfl) (by decide +kernel)
set_option maxRecDepth 100000 in
theorem u_A_isRod : q_yc q_T0 (⟨"MarshCourt", "isRod", "(I)Z"⟩, prog_1_method_33_code, 2, (Option.some Jvm.ClassFile.FieldType.boolean), 1, 22) [521, 62, 520, 0, 1, 0] = true := q_yc_mk (q_wd_mk rfl rfl) (by decide +kernel)
set_option maxRecDepth 100000 in
theorem u_A_isHerd : q_yc q_T0 (⟨"MarshCourt", "isHerd", "(I)Z"⟩, prog_1_method_34_code, 2, (Option.some Jvm.ClassFile.FieldType.boolean), 1, 22) [573, 62, 572, 3, 1, 0] = true := q_yc_mk (q_wd_mk rfl rfl) (by decide +kernel)
set_option maxRecDepth 100000 in
theorem u_A_customNow : q_yc q_T0 (⟨"MarshCourt", "customNow", "()LMarshCourt$Custom;"⟩, prog_1_method_35_code, 1, (Option.some (Jvm.ClassFile.FieldType.object "MarshCourt$Custom")), 2, 49) [533, 62, 532, 2, 0, 0] = true := q_yc_mk (q_wd_mk rfl rfl) (by decide +kernel)
set_option maxRecDepth 100000 in
theorem u_A_isDue : q_yc q_T0 (⟨"MarshCourt", "isDue", "(I)Z"⟩, prog_1_method_36_code, 3, (Option.some Jvm.ClassFile.FieldType.boolean), 3, 69) [529, 62, 528, 1, 1, 0] = true := q_yc_mk (q_wd_mk rfl rfl) (by decide +kernel)
set_option maxRecDepth 100000 in
theorem u_A_runHour : q_yc q_T0 (⟨"MarshCourt", "runHour", "(III)V"⟩, prog_1_method_37_code, 5, (Option.none : Option Jvm.ClassFile.FieldType), 5, 115) [637, 62, 636, 9, 3, 0] = true := q_yc_mk (q_wd_mk rfl rfl) (by decide +kernel)
set_option maxRecDepth 100000 in
theorem u_A_whoMends : q_yc q_T0 (⟨"MarshCourt", "whoMends", "(IIII)I"⟩, prog_1_method_38_code, 9, (Option.some Jvm.ClassFile.FieldType.int), 3, 77) [847, 62, 846, 22, 4, 0] = true := q_yc_mk (q_wd_mk rfl rfl) (by decide +kernel)
set_option maxRecDepth 100000 in
theorem u_M_in : q_yc q_T0 (⟨"MarshCourtModel", "in", "(III)Z"⟩, prog_14_method_3_code, 3, (Option.some Jvm.ClassFile.FieldType.boolean), 0, 0) [1181, 75, 1180, 0, 3, 1] = true := q_yc_mk (q_wd_mk rfl rfl) (by decide +kernel)
set_option maxRecDepth 100000 in
theorem u_M_isCell : q_yc q_T0 (⟨"MarshCourtModel", "isCell", "(I)Z"⟩, prog_14_method_4_code, 1, (Option.some Jvm.ClassFile.FieldType.boolean), 1, 22) [1178, 75, 1177, 0, 1, 1] = true := q_yc_mk (q_wd_mk rfl rfl) (by decide +kernel)
set_option maxRecDepth 100000 in
theorem u_M_isOwner : q_yc q_T0 (⟨"MarshCourtModel", "isOwner", "(I)Z"⟩, prog_14_method_5_code, 1, (Option.some Jvm.ClassFile.FieldType.boolean), 1, 22) [1196, 75, 1195, 0, 1, 1] = true := q_yc_mk (q_wd_mk rfl rfl) (by decide +kernel)
set_option maxRecDepth 100000 in
theorem u_M_isRod : q_yc q_T0 (⟨"MarshCourtModel", "isRod", "(I)Z"⟩, prog_14_method_6_code, 2, (Option.some Jvm.ClassFile.FieldType.boolean), 1, 22) [1220, 75, 1219, 30, 1, 0] = true := q_yc_mk (q_wd_mk rfl rfl) (by decide +kernel)
set_option maxRecDepth 100000 in
theorem u_M_level : q_yc q_T0 (⟨"MarshCourtModel", "level", "(II)I"⟩, prog_14_method_7_code, 4, (Option.some Jvm.ClassFile.FieldType.int), 2, 42) [1175, 75, 1173, 1174, 2, 0] = true := q_yc_mk (q_wd_mk rfl rfl) (by decide +kernel)
set_option maxRecDepth 100000 in
theorem u_M_surface : q_yc q_T0 (⟨"MarshCourtModel", "surface", "(I)I"⟩, prog_14_method_8_code, 2, (Option.some Jvm.ClassFile.FieldType.int), 0, 0) [1189, 75, 1188, 27, 1, 0] = true := q_yc_mk (q_wd_mk rfl rfl) (by decide +kernel)
set_option maxRecDepth 100000 in
theorem u_M_cell : q_yc q_T0 (⟨"MarshCourtModel", "cell", "(II)I"⟩, prog_14_method_9_code, 3, (Option.some Jvm.ClassFile.FieldType.int), 2, 42) [1185, 75, 1183, 1184, 2, 0] = true := q_yc_mk (q_wd_mk rfl rfl) (by decide +kernel)
set_option maxRecDepth 100000 in
theorem u_M_heldOf : q_yc q_T0 (⟨"MarshCourtModel", "heldOf", "(IIII)I"⟩, prog_14_method_10_code, 7, (Option.some Jvm.ClassFile.FieldType.int), 0, 0) [1200, 75, 1199, 28, 4, 0] = true := q_yc_mk (q_wd_mk rfl rfl) (by decide +kernel)
set_option maxRecDepth 100000 in
theorem u_M_heldAll : q_yc q_T0 (⟨"MarshCourtModel", "heldAll", "(III)I"⟩, prog_14_method_11_code, 6, (Option.some Jvm.ClassFile.FieldType.int), 1, 26) [1208, 75, 1207, 29, 3, 0] = true := q_yc_mk (q_wd_mk rfl rfl) (by decide +kernel)
set_option maxRecDepth 100000 in
theorem u_M_sell : q_yc q_T0 (⟨"MarshCourtModel", "sell", "(IIIII)I"⟩, prog_14_method_12_code, 7, (Option.some Jvm.ClassFile.FieldType.int), 2, 42) [1193, 75, 1191, 1192, 5, 0] = true := q_yc_mk (q_wd_mk rfl rfl) (by decide +kernel)
set_option maxRecDepth 100000 in
theorem u_M_held : q_yc q_T0 (⟨"MarshCourtModel", "held", "(IIII)I"⟩, prog_14_method_13_code, 5, (Option.some Jvm.ClassFile.FieldType.int), 2, 51) [1204, 75, 1202, 1203, 4, 0] = true := q_yc_mk (q_wd_mk rfl rfl) (by decide +kernel)
set_option maxRecDepth 100000 in
theorem u_M_rod : q_yc q_T0 (⟨"MarshCourtModel", "rod", "(III)I"⟩, prog_14_method_14_code, 4, (Option.some Jvm.ClassFile.FieldType.int), 2, 42) [1212, 75, 1210, 1211, 3, 0] = true := q_yc_mk (q_wd_mk rfl rfl) (by decide +kernel)
set_option maxRecDepth 100000 in
theorem u_M_sluice : q_yc q_T0 (⟨"MarshCourtModel", "sluice", "(II)I"⟩, prog_14_method_15_code, 4, (Option.some Jvm.ClassFile.FieldType.int), 2, 43) [1216, 75, 1214, 1215, 2, 0] = true := q_yc_mk (q_wd_mk rfl rfl) (by decide +kernel)
set_option maxRecDepth 100000 in
theorem u_M_isDue : q_yc q_T0 (⟨"MarshCourtModel", "isDue", "(I)Z"⟩, prog_14_method_16_code, 3, (Option.some Jvm.ClassFile.FieldType.boolean), 1, 24) [1228, 75, 1227, 31, 1, 0] = true := q_yc_mk (q_wd_mk rfl rfl) (by decide +kernel)
set_option maxRecDepth 100000 in
theorem u_M_about : q_yc q_T0 (⟨"MarshCourtModel", "about", "(II)I"⟩, prog_14_method_17_code, 3, (Option.some Jvm.ClassFile.FieldType.int), 2, 46) [1224, 75, 1222, 1223, 2, 0] = true := q_yc_mk (q_wd_mk rfl rfl) (by decide +kernel)
set_option maxRecDepth 100000 in
theorem u_M_beside : q_yc q_T0 (⟨"MarshCourtModel", "beside", "(II)I"⟩, prog_14_method_18_code, 2, (Option.some Jvm.ClassFile.FieldType.int), 0, 0) [1246, 75, 1245, 0, 2, 1] = true := q_yc_mk (q_wd_mk rfl rfl) (by decide +kernel)
set_option maxRecDepth 100000 in
theorem u_M_isOpen : q_yc q_T0 (⟨"MarshCourtModel", "isOpen", "(II)Z"⟩, prog_14_method_19_code, 3, (Option.some Jvm.ClassFile.FieldType.boolean), 0, 0) [1250, 75, 1249, 34, 2, 0] = true := q_yc_mk (q_wd_mk rfl rfl) (by decide +kernel)
set_option maxRecDepth 100000 in
theorem u_M_wayTo : q_yc q_T0 (⟨"MarshCourtModel", "wayTo", "(II)I"⟩, prog_14_method_20_code, 3, (Option.some Jvm.ClassFile.FieldType.int), 1, 21) [1243, 75, 1242, 0, 2, 1] = true := q_yc_mk (q_wd_mk rfl rfl) (by decide +kernel)
set_option maxRecDepth 100000 in
theorem u_M_gate : q_yc q_T0 (⟨"MarshCourtModel", "gate", "(III)I"⟩, prog_14_method_21_code, 7, (Option.some Jvm.ClassFile.FieldType.int), 2, 43) [1240, 75, 1238, 1239, 3, 0] = true := q_yc_mk (q_wd_mk rfl rfl) (by decide +kernel)
set_option maxRecDepth 100000 in
theorem u_M_herd : q_yc q_T0 (⟨"MarshCourtModel", "herd", "(I)I"⟩, prog_14_method_22_code, 2, (Option.some Jvm.ClassFile.FieldType.int), 2, 42) [1254, 75, 1252, 1253, 1, 0] = true := q_yc_mk (q_wd_mk rfl rfl) (by decide +kernel)
set_option maxRecDepth 100000 in
theorem u_M_isHerd : q_yc q_T0 (⟨"MarshCourtModel", "isHerd", "(I)Z"⟩, prog_14_method_23_code, 2, (Option.some Jvm.ClassFile.FieldType.boolean), 1, 22) [1262, 75, 1261, 35, 1, 0] = true := q_yc_mk (q_wd_mk rfl rfl) (by decide +kernel)
set_option maxRecDepth 100000 in
theorem u_M_drive : q_yc q_T0 (⟨"MarshCourtModel", "drive", "(II)I"⟩, prog_14_method_24_code, 5, (Option.some Jvm.ClassFile.FieldType.int), 2, 43) [1258, 75, 1256, 1257, 2, 0] = true := q_yc_mk (q_wd_mk rfl rfl) (by decide +kernel)
set_option maxRecDepth 100000 in
theorem u_M_where : q_yc q_T0 (⟨"MarshCourtModel", "where", "(I)I"⟩, prog_14_method_25_code, 2, (Option.some Jvm.ClassFile.FieldType.int), 2, 43) [1266, 75, 1264, 1265, 1, 0] = true := q_yc_mk (q_wd_mk rfl rfl) (by decide +kernel)
set_option maxRecDepth 100000 in
theorem u_M_reckons : q_yc q_T0 (⟨"MarshCourtModel", "reckons", "(IZ)V"⟩, prog_14_method_26_code, 8, (Option.none : Option Jvm.ClassFile.FieldType), 1, 22) [1278, 75, 1277, 37, 2, 0] = true := q_yc_mk (q_wd_mk rfl rfl) (by decide +kernel)
set_option maxRecDepth 100000 in
theorem u_M_nearest : q_yc q_T0 (⟨"MarshCourtModel", "nearest", "(IIZ)I"⟩, prog_14_method_27_code, 7, (Option.some Jvm.ClassFile.FieldType.int), 2, 49) [1274, 75, 1273, 36, 3, 0] = true := q_yc_mk (q_wd_mk rfl rfl) (by decide +kernel)
set_option maxRecDepth 100000 in
theorem u_M_way : q_yc q_T0 (⟨"MarshCourtModel", "way", "(III)I"⟩, prog_14_method_28_code, 8, (Option.some Jvm.ClassFile.FieldType.int), 3, 75) [1270, 75, 1268, 1269, 3, 0] = true := q_yc_mk (q_wd_mk rfl rfl) (by decide +kernel)
set_option maxRecDepth 100000 in
theorem u_M_comes : q_yc q_T0 (⟨"MarshCourtModel", "comes", "(II)V"⟩, prog_14_method_29_code, 3, (Option.none : Option Jvm.ClassFile.FieldType), 0, 0) [1293, 75, 1292, 39, 2, 0] = true := q_yc_mk (q_wd_mk rfl rfl) (by decide +kernel)
set_option maxRecDepth 100000 in
theorem u_M_wears : q_yc q_T0 (⟨"MarshCourtModel", "wears", "(III)I"⟩, prog_14_method_30_code, 5, (Option.some Jvm.ClassFile.FieldType.int), 0, 0) [1302, 75, 1301, 41, 3, 0] = true := q_yc_mk (q_wd_mk rfl rfl) (by decide +kernel)
set_option maxRecDepth 100000 in
theorem u_M_stands : q_yc q_T0 (⟨"MarshCourtModel", "stands", "(III)Z"⟩, prog_14_method_31_code, 6, (Option.some Jvm.ClassFile.FieldType.boolean), 1, 24) [1298, 75, 1297, 40, 3, 0] = true := q_yc_mk (q_wd_mk rfl rfl) (by decide +kernel)
set_option maxRecDepth 100000 in
theorem u_M_opens : q_yc q_T0 (⟨"MarshCourtModel", "opens", "(II)V"⟩, prog_14_method_32_code, 6, (Option.none : Option Jvm.ClassFile.FieldType), 1, 22) [1306, 75, 1305, 42, 2, 0] = true := q_yc_mk (q_wd_mk rfl rfl) (by decide +kernel)
set_option maxRecDepth 100000 in
theorem u_M_levels : q_yc q_T0 (⟨"MarshCourtModel", "levels", "(II)V"⟩, prog_14_method_33_code, 7, (Option.none : Option Jvm.ClassFile.FieldType), 0, 0) [1310, 75, 1309, 43, 2, 0] = true := q_yc_mk (q_wd_mk rfl rfl) (by decide +kernel)
set_option maxRecDepth 100000 in
theorem u_M_flees : q_yc q_T0 (⟨"MarshCourtModel", "flees", "(I)V"⟩, prog_14_method_34_code, 6, (Option.none : Option Jvm.ClassFile.FieldType), 1, 22) [1314, 75, 1313, 44, 1, 0] = true := q_yc_mk (q_wd_mk rfl rfl) (by decide +kernel)
set_option maxRecDepth 100000 in
theorem u_M_hour : q_yc q_T0 (⟨"MarshCourtModel", "hour", "(III)V"⟩, prog_14_method_35_code, 5, (Option.none : Option Jvm.ClassFile.FieldType), 2, 49) [1289, 75, 1288, 38, 3, 0] = true := q_yc_mk (q_wd_mk rfl rfl) (by decide +kernel)
set_option maxRecDepth 100000 in
theorem u_M_quarters : q_yc q_T0 (⟨"MarshCourtModel", "quarters", "(I)I"⟩, prog_14_method_36_code, 1, (Option.some Jvm.ClassFile.FieldType.int), 0, 0) [1285, 75, 1284, 0, 1, 1] = true := q_yc_mk (q_wd_mk rfl rfl) (by decide +kernel)
set_option maxRecDepth 100000 in
theorem u_M_tide : q_yc q_T0 (⟨"MarshCourtModel", "tide", "(III)I"⟩, prog_14_method_37_code, 6, (Option.some Jvm.ClassFile.FieldType.int), 3, 73) [1282, 75, 1280, 1281, 3, 0] = true := q_yc_mk (q_wd_mk rfl rfl) (by decide +kernel)
set_option maxRecDepth 100000 in
theorem u_M_pass : q_yc q_T0 (⟨"MarshCourtModel", "pass", "(I)I"⟩, prog_14_method_38_code, 2, (Option.some Jvm.ClassFile.FieldType.int), 1, 22) [1318, 75, 1316, 1317, 1, 0] = true := q_yc_mk (q_wd_mk rfl rfl) (by decide +kernel)
set_option maxRecDepth 100000 in
theorem u_M_year : q_yc q_T0 (⟨"MarshCourtModel", "year", "()I"⟩, prog_14_method_39_code, 3, (Option.some Jvm.ClassFile.FieldType.int), 0, 0) [1322, 75, 1320, 1321, 0, 0] = true := q_yc_mk (q_wd_mk rfl rfl) (by decide +kernel)
set_option maxRecDepth 100000 in
theorem u_M_feed : q_yc q_T0 (⟨"MarshCourtModel", "feed", "(JI)I"⟩, prog_14_method_40_code, 5, (Option.some Jvm.ClassFile.FieldType.int), 1, 22) [1326, 75, 1324, 1325, 2, 0] = true := q_yc_mk (q_wd_mk rfl rfl) (by decide +kernel)
set_option maxRecDepth 100000 in
theorem u_M_byteAt : q_yc q_T0 (⟨"MarshCourtModel", "byteAt", "()I"⟩, prog_14_method_41_code, 1, (Option.some Jvm.ClassFile.FieldType.int), 0, 0) [1343, 75, 1342, 47, 0, 0] = true := q_yc_mk (q_wd_mk rfl rfl) (by decide +kernel)
set_option maxRecDepth 100000 in
theorem u_M_must : q_yc q_T0 (⟨"MarshCourtModel", "must", "(I)V"⟩, prog_14_method_42_code, 2, (Option.none : Option Jvm.ClassFile.FieldType), 1, 20) [1347, 75, 1346, 48, 1, 0] = true := q_yc_mk (q_wd_mk rfl rfl) (by decide +kernel)
set_option maxRecDepth 100000 in
theorem u_M_isDigit : q_yc q_T0 (⟨"MarshCourtModel", "isDigit", "()Z"⟩, prog_14_method_43_code, 1, (Option.some Jvm.ClassFile.FieldType.boolean), 1, 22) [1359, 75, 1358, 51, 0, 0] = true := q_yc_mk (q_wd_mk rfl rfl) (by decide +kernel)
set_option maxRecDepth 100000 in
theorem u_M_number : q_yc q_T0 (⟨"MarshCourtModel", "number", "(II)I"⟩, prog_14_method_44_code, 5, (Option.some Jvm.ClassFile.FieldType.int), 2, 42) [1355, 75, 1354, 50, 2, 0] = true := q_yc_mk (q_wd_mk rfl rfl) (by decide +kernel)
set_option maxRecDepth 100000 in
theorem u_M_word : q_yc q_T0 (⟨"MarshCourtModel", "word", "([I)V"⟩, prog_14_method_45_code, 3, (Option.none : Option Jvm.ClassFile.FieldType), 2, 41) [1363, 75, 1362, 52, 1, 0] = true := q_yc_mk (q_wd_mk rfl rfl) (by decide +kernel)
set_option maxRecDepth 100000 in
theorem u_M_readsRods : q_yc q_T0 (⟨"MarshCourtModel", "readsRods", "()V"⟩, prog_14_method_46_code, 2, (Option.none : Option Jvm.ClassFile.FieldType), 3, 66) [1351, 75, 1350, 49, 0, 0] = true := q_yc_mk (q_wd_mk rfl rfl) (by decide +kernel)
set_option maxRecDepth 100000 in
theorem u_M_readsClause : q_yc q_T0 (⟨"MarshCourtModel", "readsClause", "()V"⟩, prog_14_method_47_code, 3, (Option.none : Option Jvm.ClassFile.FieldType), 4, 87) [1339, 75, 1338, 46, 0, 0] = true := q_yc_mk (q_wd_mk rfl rfl) (by decide +kernel)
set_option maxRecDepth 100000 in
theorem u_M_readsCustom : q_yc q_T0 (⟨"MarshCourtModel", "readsCustom", "()V"⟩, prog_14_method_48_code, 3, (Option.none : Option Jvm.ClassFile.FieldType), 5, 109) [1335, 75, 1334, 45, 0, 0] = true := q_yc_mk (q_wd_mk rfl rfl) (by decide +kernel)
set_option maxRecDepth 100000 in
theorem u_M_court : q_yc q_T0 (⟨"MarshCourtModel", "court", "(I)I"⟩, prog_14_method_49_code, 2, (Option.some Jvm.ClassFile.FieldType.int), 6, 131) [1331, 75, 1329, 1330, 1, 0] = true := q_yc_mk (q_wd_mk rfl rfl) (by decide +kernel)
set_option maxRecDepth 100000 in
theorem u_M_customOf : q_yc q_T0 (⟨"MarshCourtModel", "customOf", "(II)I"⟩, prog_14_method_50_code, 5, (Option.some Jvm.ClassFile.FieldType.int), 0, 0) [1232, 75, 1231, 32, 2, 0] = true := q_yc_mk (q_wd_mk rfl rfl) (by decide +kernel)
set_option maxRecDepth 100000 in
theorem u_M_hOf : q_yc q_T0 (⟨"MarshCourtModel", "hOf", "(I)I"⟩, prog_14_method_51_code, 2, (Option.some Jvm.ClassFile.FieldType.int), 0, 0) [1388, 75, 1387, 55, 1, 0] = true := q_yc_mk (q_wd_mk rfl rfl) (by decide +kernel)
set_option maxRecDepth 100000 in
theorem u_M_vOf : q_yc q_T0 (⟨"MarshCourtModel", "vOf", "(I)I"⟩, prog_14_method_52_code, 2, (Option.some Jvm.ClassFile.FieldType.int), 0, 0) [1236, 75, 1235, 33, 1, 0] = true := q_yc_mk (q_wd_mk rfl rfl) (by decide +kernel)
set_option maxRecDepth 100000 in
theorem u_M_custom : q_yc q_T0 (⟨"MarshCourtModel", "custom", "(III)I"⟩, prog_14_method_53_code, 5, (Option.some Jvm.ClassFile.FieldType.int), 1, 24) [1367, 75, 1365, 1366, 3, 0] = true := q_yc_mk (q_wd_mk rfl rfl) (by decide +kernel)
set_option maxRecDepth 100000 in
theorem u_M_deals : q_yc q_T0 (⟨"MarshCourtModel", "deals", "(III)V"⟩, prog_14_method_54_code, 8, (Option.none : Option Jvm.ClassFile.FieldType), 2, 51) [1379, 75, 1378, 54, 3, 0] = true := q_yc_mk (q_wd_mk rfl rfl) (by decide +kernel)
set_option maxRecDepth 100000 in
theorem u_M_menderOf : q_yc q_T0 (⟨"MarshCourtModel", "menderOf", "(IIII)I"⟩, prog_14_method_55_code, 9, (Option.some Jvm.ClassFile.FieldType.int), 3, 78) [1375, 75, 1374, 53, 4, 0] = true := q_yc_mk (q_wd_mk rfl rfl) (by decide +kernel)
set_option maxRecDepth 100000 in
theorem u_M_mender : q_yc q_T0 (⟨"MarshCourtModel", "mender", "(IIII)I"⟩, prog_14_method_56_code, 5, (Option.some Jvm.ClassFile.FieldType.int), 4, 106) [1371, 75, 1369, 1370, 4, 0] = true := q_yc_mk (q_wd_mk rfl rfl) (by decide +kernel)
set_option maxRecDepth 100000 in
theorem u_M_endsFault : q_yc q_T0 (⟨"MarshCourtModel", "endsFault", "(I)V"⟩, prog_14_method_57_code, 2, (Option.none : Option Jvm.ClassFile.FieldType), 0, 0) [1392, 75, 1391, 56, 1, 0] = true := q_yc_mk (q_wd_mk rfl rfl) (by decide +kernel)
set_option maxRecDepth 100000 in
theorem u_M_view : q_yc q_T0 (⟨"MarshCourtModel", "view", "(I)I"⟩, prog_14_method_58_code, 4, (Option.some Jvm.ClassFile.FieldType.int), 4, 106) [1384, 75, 1382, 1383, 1, 0] = true := q_yc_mk (q_wd_mk rfl rfl) (by decide +kernel)
set_option maxRecDepth 100000 in
theorem u_M_mend : q_yc q_T0 (⟨"MarshCourtModel", "mend", "(III)I"⟩, prog_14_method_59_code, 4, (Option.some Jvm.ClassFile.FieldType.int), 2, 43) [1396, 75, 1394, 1395, 3, 0] = true := q_yc_mk (q_wd_mk rfl rfl) (by decide +kernel)
set_option maxRecDepth 100000 in
theorem u_M_fineOf : q_yc q_T0 (⟨"MarshCourtModel", "fineOf", "(I)I"⟩, prog_14_method_60_code, 2, (Option.some Jvm.ClassFile.FieldType.int), 0, 0) [1404, 75, 1403, 57, 1, 0] = true := q_yc_mk (q_wd_mk rfl rfl) (by decide +kernel)
set_option maxRecDepth 100000 in
theorem u_M_fault : q_yc q_T0 (⟨"MarshCourtModel", "fault", "(II)I"⟩, prog_14_method_61_code, 4, (Option.some Jvm.ClassFile.FieldType.int), 2, 43) [1400, 75, 1398, 1399, 2, 0] = true := q_yc_mk (q_wd_mk rfl rfl) (by decide +kernel)
set_option maxRecDepth 100000 in
theorem u_M_fines : q_yc q_T0 (⟨"MarshCourtModel", "fines", "(I)I"⟩, prog_14_method_62_code, 5, (Option.some Jvm.ClassFile.FieldType.int), 2, 42) [1408, 75, 1406, 1407, 1, 0] = true := q_yc_mk (q_wd_mk rfl rfl) (by decide +kernel)
set_option maxRecDepth 100000 in
theorem u_M_mended : q_yc q_T0 (⟨"MarshCourtModel", "mended", "(I)I"⟩, prog_14_method_63_code, 2, (Option.some Jvm.ClassFile.FieldType.int), 2, 42) [1413, 75, 1411, 1412, 1, 0] = true := q_yc_mk (q_wd_mk rfl rfl) (by decide +kernel)
set_option maxRecDepth 100000 in
theorem u_M_worthOf : q_yc q_T0 (⟨"MarshCourtModel", "worthOf", "(II)I"⟩, prog_14_method_64_code, 6, (Option.some Jvm.ClassFile.FieldType.int), 0, 0) [1425, 75, 1424, 59, 2, 0] = true := q_yc_mk (q_wd_mk rfl rfl) (by decide +kernel)
set_option maxRecDepth 100000 in
theorem u_M_betters : q_yc q_T0 (⟨"MarshCourtModel", "betters", "(III)V"⟩, prog_14_method_65_code, 4, (Option.none : Option Jvm.ClassFile.FieldType), 0, 0) [1429, 75, 1428, 60, 3, 0] = true := q_yc_mk (q_wd_mk rfl rfl) (by decide +kernel)
set_option maxRecDepth 100000 in
theorem u_M_chooses : q_yc q_T0 (⟨"MarshCourtModel", "chooses", "(I)V"⟩, prog_14_method_66_code, 8, (Option.none : Option Jvm.ClassFile.FieldType), 1, 25) [1421, 75, 1420, 58, 1, 0] = true := q_yc_mk (q_wd_mk rfl rfl) (by decide +kernel)
set_option maxRecDepth 100000 in
theorem u_M_works : q_yc q_T0 (⟨"MarshCourtModel", "works", "(II)I"⟩, prog_14_method_67_code, 7, (Option.some Jvm.ClassFile.FieldType.int), 2, 52) [1417, 75, 1415, 1416, 2, 0] = true := q_yc_mk (q_wd_mk rfl rfl) (by decide +kernel)
set_option maxRecDepth 100000 in
theorem u_M_scot : q_yc q_T0 (⟨"MarshCourtModel", "scot", "(II)I"⟩, prog_14_method_68_code, 3, (Option.some Jvm.ClassFile.FieldType.int), 3, 78) [1433, 75, 1431, 1432, 2, 0] = true := q_yc_mk (q_wd_mk rfl rfl) (by decide +kernel)
set_option maxRecDepth 100000 in
theorem u_M_count : q_yc q_T0 (⟨"MarshCourtModel", "count", "(I)I"⟩, prog_14_method_69_code, 4, (Option.some Jvm.ClassFile.FieldType.int), 0, 0) [1438, 75, 1436, 1437, 1, 0] = true := q_yc_mk (q_wd_mk rfl rfl) (by decide +kernel)
set_option maxRecDepth 100000 in
theorem u_String_length : q_yc q_T0 (⟨"java/lang/String", "length", "()I"⟩, prog_16_method_54_code, 1, (Option.some Jvm.ClassFile.FieldType.int), 1, 20) [757, 77, 755, 756, 0, 0] = true := q_yc_mk (q_wd_mk rfl rfl) (by decide +kernel)
set_option maxRecDepth 100000 in
theorem u_String_charAt : q_yc q_T0 (⟨"java/lang/String", "charAt", "(I)C"⟩, prog_16_method_56_code, 2, (Option.some Jvm.ClassFile.FieldType.char), 4, 85) [767, 77, 765, 766, 1, 0] = true := q_yc_mk (q_wd_mk rfl rfl) (by decide +kernel)
set_option maxRecDepth 100000 in
theorem u_String_coder : q_yc q_T0 (⟨"java/lang/String", "coder", "()B"⟩, prog_16_method_152_code, 1, (Option.some Jvm.ClassFile.FieldType.byte), 0, 0) [761, 77, 759, 760, 0, 0] = true := q_yc_mk (q_wd_mk rfl rfl) (by decide +kernel)
set_option maxRecDepth 100000 in
theorem u_String_isLatin1 : q_yc q_T0 (⟨"java/lang/String", "isLatin1", "()Z"⟩, prog_16_method_154_code, 1, (Option.some Jvm.ClassFile.FieldType.boolean), 0, 0) [771, 77, 769, 770, 0, 0] = true := q_yc_mk (q_wd_mk rfl rfl) (by decide +kernel)
set_option maxRecDepth 100000 in
theorem u_String_checkIndex : q_yc q_T0 (⟨"java/lang/String", "checkIndex", "(II)V"⟩, prog_16_method_155_code, 2, (Option.none : Option Jvm.ClassFile.FieldType), 1, 22) [777, 77, 776, 0, 2, 1] = true := q_yc_mk (q_wd_mk rfl rfl) (by decide +kernel)
set_option maxRecDepth 100000 in
theorem u_Latin_charAt : q_yc q_T0 (⟨"java/lang/StringLatin1", "charAt", "([BI)C"⟩, prog_17_method_2_code, 2, (Option.some Jvm.ClassFile.FieldType.char), 2, 43) [774, 78, 773, 0, 2, 1] = true := q_yc_mk (q_wd_mk rfl rfl) (by decide +kernel)
set_option maxRecDepth 100000 in
theorem u_Utf_getChar : q_yc q_T0 (⟨"java/lang/StringUTF16", "getChar", "([BI)C"⟩, prog_18_method_5_code, 2, (Option.some Jvm.ClassFile.FieldType.char), 1, 20) [795, 80, 794, 0, 2, 1] = true := q_yc_mk (q_wd_mk rfl rfl) (by decide +kernel)
set_option maxRecDepth 100000 in
theorem u_Utf_length : q_yc q_T0 (⟨"java/lang/StringUTF16", "length", "([B)I"⟩, prog_18_method_6_code, 1, (Option.some Jvm.ClassFile.FieldType.int), 0, 0) [791, 80, 790, 0, 1, 1] = true := q_yc_mk (q_wd_mk rfl rfl) (by decide +kernel)
set_option maxRecDepth 100000 in
theorem u_Utf_charAt : q_yc q_T0 (⟨"java/lang/StringUTF16", "charAt", "([BI)C"⟩, prog_18_method_83_code, 2, (Option.some Jvm.ClassFile.FieldType.char), 3, 64) [785, 80, 784, 0, 2, 1] = true := q_yc_mk (q_wd_mk rfl rfl) (by decide +kernel)
set_option maxRecDepth 100000 in
theorem u_Utf_checkIndex : q_yc q_T0 (⟨"java/lang/StringUTF16", "checkIndex", "(I[B)V"⟩, prog_18_method_91_code, 2, (Option.none : Option Jvm.ClassFile.FieldType), 2, 43) [788, 80, 787, 0, 2, 1] = true := q_yc_mk (q_wd_mk rfl rfl) (by decide +kernel)
set_option maxRecDepth 100000 in
theorem u_Arrays_fill : q_yc q_T0 (⟨"java/util/Arrays", "fill", "([JJ)V"⟩, prog_19_method_101_code, 5, (Option.none : Option Jvm.ClassFile.FieldType), 0, 0) [928, 73, 927, 0, 2, 1] = true := q_yc_mk (q_wd_mk rfl rfl) (by decide +kernel)
set_option maxRecDepth 100000 in
theorem u_Arrays_fillx : q_yc q_T0 (⟨"java/util/Arrays", "fill", "([II)V"⟩, prog_19_method_103_code, 4, (Option.none : Option Jvm.ClassFile.FieldType), 0, 0) [361, 73, 360, 0, 2, 1] = true := q_yc_mk (q_wd_mk rfl rfl) (by decide +kernel)
set_option maxRecDepth 100000 in
theorem u_Prec_checkIndex : q_yc q_T0 (⟨"jdk/internal/util/Preconditions", "checkIndex", "(IILjava/util/function/BiFunction;)I"⟩, prog_20_method_11_code, 3, (Option.some Jvm.ClassFile.FieldType.int), 0, 0) [782, 79, 781, 0, 3, 1] = true := q_yc_mk (q_wd_mk rfl rfl) (by decide +kernel)
