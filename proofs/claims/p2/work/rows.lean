section
-- ===== PART A: goes FIRST, ahead of the names: the tables' words, and 'selects' of the private methods out of them =====
/-- a private method of a class that the tables say can be made, by its rows of tables_1 -/
def lw_okq (q : MethodName × Nat) : Prop := (q.1.cls ≠ "java/lang/invoke/MethodHandle" ∧ q.1.cls ≠ "java/lang/invoke/VarHandle") ∧ Cond.instantiable q.1.cls q.2 ∈ tables_1 ∧ Cond.privateMethod q.1 ∈ tables_1 ∧ Cond.instanceMethod q.1 ∈ tables_1
theorem lw_p0 : lw_okq (⟨"MarshCourt", "isRod", "(I)Z"⟩, 12) := ⟨⟨by decide +kernel, by decide +kernel⟩, List.mem_of_getElem? (i := 21) (by decide +kernel), List.mem_of_getElem? (i := 458) (by decide +kernel), List.mem_of_getElem? (i := 459) (by decide +kernel)⟩
theorem lw_p1 : lw_okq (⟨"MarshCourt", "isDue", "(I)Z"⟩, 12) := ⟨⟨by decide +kernel, by decide +kernel⟩, List.mem_of_getElem? (i := 21) (by decide +kernel), List.mem_of_getElem? (i := 466) (by decide +kernel), List.mem_of_getElem? (i := 467) (by decide +kernel)⟩
theorem lw_p2 : lw_okq (⟨"MarshCourt", "customNow", "()LMarshCourt$Custom;"⟩, 12) := ⟨⟨by decide +kernel, by decide +kernel⟩, List.mem_of_getElem? (i := 21) (by decide +kernel), List.mem_of_getElem? (i := 470) (by decide +kernel), List.mem_of_getElem? (i := 471) (by decide +kernel)⟩
theorem lw_p3 : lw_okq (⟨"MarshCourt", "isHerd", "(I)Z"⟩, 12) := ⟨⟨by decide +kernel, by decide +kernel⟩, List.mem_of_getElem? (i := 21) (by decide +kernel), List.mem_of_getElem? (i := 510) (by decide +kernel), List.mem_of_getElem? (i := 511) (by decide +kernel)⟩
theorem lw_p4 : lw_okq (⟨"MarshCourt$Ways", "measure", "(LMarshCourt$Land;I)V"⟩, 5) := ⟨⟨by decide +kernel, by decide +kernel⟩, List.mem_of_getElem? (i := 184) (by decide +kernel), List.mem_of_getElem? (i := 526) (by decide +kernel), List.mem_of_getElem? (i := 527) (by decide +kernel)⟩
theorem lw_p5 : lw_okq (⟨"MarshCourt$Ways", "improve", "(LMarshCourt$Land;I)Z"⟩, 5) := ⟨⟨by decide +kernel, by decide +kernel⟩, List.mem_of_getElem? (i := 184) (by decide +kernel), List.mem_of_getElem? (i := 532) (by decide +kernel), List.mem_of_getElem? (i := 533) (by decide +kernel)⟩
theorem lw_p6 : lw_okq (⟨"MarshCourt$Ways", "nearest", "(LMarshCourt$Land;I)I"⟩, 5) := ⟨⟨by decide +kernel, by decide +kernel⟩, List.mem_of_getElem? (i := 184) (by decide +kernel), List.mem_of_getElem? (i := 546) (by decide +kernel), List.mem_of_getElem? (i := 547) (by decide +kernel)⟩
theorem lw_p7 : lw_okq (⟨"MarshCourt$Ways", "walkToGate", "(LMarshCourt$Land;I)V"⟩, 5) := ⟨⟨by decide +kernel, by decide +kernel⟩, List.mem_of_getElem? (i := 184) (by decide +kernel), List.mem_of_getElem? (i := 550) (by decide +kernel), List.mem_of_getElem? (i := 551) (by decide +kernel)⟩
theorem lw_p8 : lw_okq (⟨"MarshCourt$Ways", "onward", "(LMarshCourt$Land;I)I"⟩, 5) := ⟨⟨by decide +kernel, by decide +kernel⟩, List.mem_of_getElem? (i := 184) (by decide +kernel), List.mem_of_getElem? (i := 554) (by decide +kernel), List.mem_of_getElem? (i := 555) (by decide +kernel)⟩
theorem lw_p9 : lw_okq (⟨"MarshCourt", "runHour", "(III)V"⟩, 12) := ⟨⟨by decide +kernel, by decide +kernel⟩, List.mem_of_getElem? (i := 21) (by decide +kernel), List.mem_of_getElem? (i := 574) (by decide +kernel), List.mem_of_getElem? (i := 575) (by decide +kernel)⟩
theorem lw_p10 : lw_okq (⟨"MarshCourt$Bank", "breakDown", "(I)V"⟩, 10) := ⟨⟨by decide +kernel, by decide +kernel⟩, List.mem_of_getElem? (i := 116) (by decide +kernel), List.mem_of_getElem? (i := 591) (by decide +kernel), List.mem_of_getElem? (i := 592) (by decide +kernel)⟩
theorem lw_p11 : lw_okq (⟨"MarshCourt$Bank", "wearDown", "(II)V"⟩, 10) := ⟨⟨by decide +kernel, by decide +kernel⟩, List.mem_of_getElem? (i := 116) (by decide +kernel), List.mem_of_getElem? (i := 595) (by decide +kernel), List.mem_of_getElem? (i := 596) (by decide +kernel)⟩
theorem lw_p12 : lw_okq (⟨"MarshCourt$Land", "settle", "(II)V"⟩, 8) := ⟨⟨by decide +kernel, by decide +kernel⟩, List.mem_of_getElem? (i := 29) (by decide +kernel), List.mem_of_getElem? (i := 616) (by decide +kernel), List.mem_of_getElem? (i := 617) (by decide +kernel)⟩
theorem lw_p13 : lw_okq (⟨"MarshCourt$Land", "flow", "(III)V"⟩, 8) := ⟨⟨by decide +kernel, by decide +kernel⟩, List.mem_of_getElem? (i := 29) (by decide +kernel), List.mem_of_getElem? (i := 620) (by decide +kernel), List.mem_of_getElem? (i := 621) (by decide +kernel)⟩
theorem lw_p14 : lw_okq (⟨"MarshCourt$Tape", "take", "(C)Z"⟩, 3) := ⟨⟨by decide +kernel, by decide +kernel⟩, List.mem_of_getElem? (i := 210) (by decide +kernel), List.mem_of_getElem? (i := 677) (by decide +kernel), List.mem_of_getElem? (i := 678) (by decide +kernel)⟩
theorem lw_p15 : lw_okq (⟨"MarshCourt$Tape", "peek", "()I"⟩, 3) := ⟨⟨by decide +kernel, by decide +kernel⟩, List.mem_of_getElem? (i := 210) (by decide +kernel), List.mem_of_getElem? (i := 681) (by decide +kernel), List.mem_of_getElem? (i := 682) (by decide +kernel)⟩
def lw_privs_1 : List (MethodName × Nat) := [(⟨"MarshCourt", "isRod", "(I)Z"⟩, 12), (⟨"MarshCourt", "isDue", "(I)Z"⟩, 12), (⟨"MarshCourt", "customNow", "()LMarshCourt$Custom;"⟩, 12), (⟨"MarshCourt", "isHerd", "(I)Z"⟩, 12), (⟨"MarshCourt$Ways", "measure", "(LMarshCourt$Land;I)V"⟩, 5), (⟨"MarshCourt$Ways", "improve", "(LMarshCourt$Land;I)Z"⟩, 5), (⟨"MarshCourt$Ways", "nearest", "(LMarshCourt$Land;I)I"⟩, 5), (⟨"MarshCourt$Ways", "walkToGate", "(LMarshCourt$Land;I)V"⟩, 5), (⟨"MarshCourt$Ways", "onward", "(LMarshCourt$Land;I)I"⟩, 5), (⟨"MarshCourt", "runHour", "(III)V"⟩, 12), (⟨"MarshCourt$Bank", "breakDown", "(I)V"⟩, 10), (⟨"MarshCourt$Bank", "wearDown", "(II)V"⟩, 10), (⟨"MarshCourt$Land", "settle", "(II)V"⟩, 8), (⟨"MarshCourt$Land", "flow", "(III)V"⟩, 8), (⟨"MarshCourt$Tape", "take", "(C)Z"⟩, 3), (⟨"MarshCourt$Tape", "peek", "()I"⟩, 3)]
theorem lw_r1 : ∀ q ∈ lw_privs_1, lw_okq q := List.forall_mem_cons.mpr ⟨lw_p0, List.forall_mem_cons.mpr ⟨lw_p1, List.forall_mem_cons.mpr ⟨lw_p2, List.forall_mem_cons.mpr ⟨lw_p3, List.forall_mem_cons.mpr ⟨lw_p4, List.forall_mem_cons.mpr ⟨lw_p5, List.forall_mem_cons.mpr ⟨lw_p6, List.forall_mem_cons.mpr ⟨lw_p7, List.forall_mem_cons.mpr ⟨lw_p8, List.forall_mem_cons.mpr ⟨lw_p9, List.forall_mem_cons.mpr ⟨lw_p10, List.forall_mem_cons.mpr ⟨lw_p11, List.forall_mem_cons.mpr ⟨lw_p12, List.forall_mem_cons.mpr ⟨lw_p13, List.forall_mem_cons.mpr ⟨lw_p14, List.forall_mem_cons.mpr ⟨lw_p15, fun _ h => absurd h List.not_mem_nil⟩⟩⟩⟩⟩⟩⟩⟩⟩⟩⟩⟩⟩⟩⟩⟩
theorem lw_p16 : lw_okq (⟨"MarshCourt$Tape", "takeClause", "(LMarshCourt$Custom;)Z"⟩, 3) := ⟨⟨by decide +kernel, by decide +kernel⟩, List.mem_of_getElem? (i := 210) (by decide +kernel), List.mem_of_getElem? (i := 685) (by decide +kernel), List.mem_of_getElem? (i := 686) (by decide +kernel)⟩
theorem lw_p17 : lw_okq (⟨"MarshCourt$Tape", "takeAll", "(Ljava/lang/String;)Z"⟩, 3) := ⟨⟨by decide +kernel, by decide +kernel⟩, List.mem_of_getElem? (i := 210) (by decide +kernel), List.mem_of_getElem? (i := 690) (by decide +kernel), List.mem_of_getElem? (i := 691) (by decide +kernel)⟩
theorem lw_p18 : lw_okq (⟨"MarshCourt$Tape", "takeRule", "(LMarshCourt$Custom;)Z"⟩, 3) := ⟨⟨by decide +kernel, by decide +kernel⟩, List.mem_of_getElem? (i := 210) (by decide +kernel), List.mem_of_getElem? (i := 742) (by decide +kernel), List.mem_of_getElem? (i := 743) (by decide +kernel)⟩
theorem lw_p19 : lw_okq (⟨"MarshCourt$Tape", "takeNumber", "(II)I"⟩, 3) := ⟨⟨by decide +kernel, by decide +kernel⟩, List.mem_of_getElem? (i := 210) (by decide +kernel), List.mem_of_getElem? (i := 746) (by decide +kernel), List.mem_of_getElem? (i := 747) (by decide +kernel)⟩
theorem lw_p20 : lw_okq (⟨"MarshCourt$Tape", "takeHow", "()I"⟩, 3) := ⟨⟨by decide +kernel, by decide +kernel⟩, List.mem_of_getElem? (i := 210) (by decide +kernel), List.mem_of_getElem? (i := 752) (by decide +kernel), List.mem_of_getElem? (i := 753) (by decide +kernel)⟩
theorem lw_p21 : lw_okq (⟨"MarshCourt$Tape", "takeValue", "(Ljava/lang/String;II)I"⟩, 3) := ⟨⟨by decide +kernel, by decide +kernel⟩, List.mem_of_getElem? (i := 210) (by decide +kernel), List.mem_of_getElem? (i := 764) (by decide +kernel), List.mem_of_getElem? (i := 765) (by decide +kernel)⟩
theorem lw_p22 : lw_okq (⟨"MarshCourt", "whoMends", "(IIII)I"⟩, 12) := ⟨⟨by decide +kernel, by decide +kernel⟩, List.mem_of_getElem? (i := 21) (by decide +kernel), List.mem_of_getElem? (i := 784) (by decide +kernel), List.mem_of_getElem? (i := 785) (by decide +kernel)⟩
theorem lw_p23 : lw_okq (⟨"MarshCourt$Shares", "greatestRest", "()I"⟩, 3) := ⟨⟨by decide +kernel, by decide +kernel⟩, List.mem_of_getElem? (i := 98) (by decide +kernel), List.mem_of_getElem? (i := 805) (by decide +kernel), List.mem_of_getElem? (i := 806) (by decide +kernel)⟩
theorem lw_p24 : lw_okq (⟨"MarshCourt$Plan", "consider", "(IJI)V"⟩, 6) := ⟨⟨by decide +kernel, by decide +kernel⟩, List.mem_of_getElem? (i := 332) (by decide +kernel), List.mem_of_getElem? (i := 878) (by decide +kernel), List.mem_of_getElem? (i := 879) (by decide +kernel)⟩
theorem lw_p25 : lw_okq (⟨"MarshCourt$Plan", "bestFor", "(I)J"⟩, 6) := ⟨⟨by decide +kernel, by decide +kernel⟩, List.mem_of_getElem? (i := 332) (by decide +kernel), List.mem_of_getElem? (i := 882) (by decide +kernel), List.mem_of_getElem? (i := 883) (by decide +kernel)⟩
theorem lw_p26 : lw_okq (⟨"MarshCourt$Plan", "handsFor", "(LMarshCourt$Bank;I)I"⟩, 6) := ⟨⟨by decide +kernel, by decide +kernel⟩, List.mem_of_getElem? (i := 332) (by decide +kernel), List.mem_of_getElem? (i := 889) (by decide +kernel), List.mem_of_getElem? (i := 890) (by decide +kernel)⟩
theorem lw_p27 : lw_okq (⟨"MarshCourtModel", "surface", "(I)I"⟩, 64) := ⟨⟨by decide +kernel, by decide +kernel⟩, List.mem_of_getElem? (i := 914) (by decide +kernel), List.mem_of_getElem? (i := 1126) (by decide +kernel), List.mem_of_getElem? (i := 1127) (by decide +kernel)⟩
theorem lw_p28 : lw_okq (⟨"MarshCourtModel", "heldOf", "(IIII)I"⟩, 64) := ⟨⟨by decide +kernel, by decide +kernel⟩, List.mem_of_getElem? (i := 914) (by decide +kernel), List.mem_of_getElem? (i := 1137) (by decide +kernel), List.mem_of_getElem? (i := 1138) (by decide +kernel)⟩
theorem lw_p29 : lw_okq (⟨"MarshCourtModel", "heldAll", "(III)I"⟩, 64) := ⟨⟨by decide +kernel, by decide +kernel⟩, List.mem_of_getElem? (i := 914) (by decide +kernel), List.mem_of_getElem? (i := 1145) (by decide +kernel), List.mem_of_getElem? (i := 1146) (by decide +kernel)⟩
theorem lw_p30 : lw_okq (⟨"MarshCourtModel", "isRod", "(I)Z"⟩, 64) := ⟨⟨by decide +kernel, by decide +kernel⟩, List.mem_of_getElem? (i := 914) (by decide +kernel), List.mem_of_getElem? (i := 1157) (by decide +kernel), List.mem_of_getElem? (i := 1158) (by decide +kernel)⟩
theorem lw_p31 : lw_okq (⟨"MarshCourtModel", "isDue", "(I)Z"⟩, 64) := ⟨⟨by decide +kernel, by decide +kernel⟩, List.mem_of_getElem? (i := 914) (by decide +kernel), List.mem_of_getElem? (i := 1165) (by decide +kernel), List.mem_of_getElem? (i := 1166) (by decide +kernel)⟩
def lw_privs_2 : List (MethodName × Nat) := [(⟨"MarshCourt$Tape", "takeClause", "(LMarshCourt$Custom;)Z"⟩, 3), (⟨"MarshCourt$Tape", "takeAll", "(Ljava/lang/String;)Z"⟩, 3), (⟨"MarshCourt$Tape", "takeRule", "(LMarshCourt$Custom;)Z"⟩, 3), (⟨"MarshCourt$Tape", "takeNumber", "(II)I"⟩, 3), (⟨"MarshCourt$Tape", "takeHow", "()I"⟩, 3), (⟨"MarshCourt$Tape", "takeValue", "(Ljava/lang/String;II)I"⟩, 3), (⟨"MarshCourt", "whoMends", "(IIII)I"⟩, 12), (⟨"MarshCourt$Shares", "greatestRest", "()I"⟩, 3), (⟨"MarshCourt$Plan", "consider", "(IJI)V"⟩, 6), (⟨"MarshCourt$Plan", "bestFor", "(I)J"⟩, 6), (⟨"MarshCourt$Plan", "handsFor", "(LMarshCourt$Bank;I)I"⟩, 6), (⟨"MarshCourtModel", "surface", "(I)I"⟩, 64), (⟨"MarshCourtModel", "heldOf", "(IIII)I"⟩, 64), (⟨"MarshCourtModel", "heldAll", "(III)I"⟩, 64), (⟨"MarshCourtModel", "isRod", "(I)Z"⟩, 64), (⟨"MarshCourtModel", "isDue", "(I)Z"⟩, 64)]
theorem lw_r2 : ∀ q ∈ lw_privs_2, lw_okq q := List.forall_mem_cons.mpr ⟨lw_p16, List.forall_mem_cons.mpr ⟨lw_p17, List.forall_mem_cons.mpr ⟨lw_p18, List.forall_mem_cons.mpr ⟨lw_p19, List.forall_mem_cons.mpr ⟨lw_p20, List.forall_mem_cons.mpr ⟨lw_p21, List.forall_mem_cons.mpr ⟨lw_p22, List.forall_mem_cons.mpr ⟨lw_p23, List.forall_mem_cons.mpr ⟨lw_p24, List.forall_mem_cons.mpr ⟨lw_p25, List.forall_mem_cons.mpr ⟨lw_p26, List.forall_mem_cons.mpr ⟨lw_p27, List.forall_mem_cons.mpr ⟨lw_p28, List.forall_mem_cons.mpr ⟨lw_p29, List.forall_mem_cons.mpr ⟨lw_p30, List.forall_mem_cons.mpr ⟨lw_p31, fun _ h => absurd h List.not_mem_nil⟩⟩⟩⟩⟩⟩⟩⟩⟩⟩⟩⟩⟩⟩⟩⟩
theorem lw_p32 : lw_okq (⟨"MarshCourtModel", "customOf", "(II)I"⟩, 64) := ⟨⟨by decide +kernel, by decide +kernel⟩, List.mem_of_getElem? (i := 914) (by decide +kernel), List.mem_of_getElem? (i := 1169) (by decide +kernel), List.mem_of_getElem? (i := 1170) (by decide +kernel)⟩
theorem lw_p33 : lw_okq (⟨"MarshCourtModel", "vOf", "(I)I"⟩, 64) := ⟨⟨by decide +kernel, by decide +kernel⟩, List.mem_of_getElem? (i := 914) (by decide +kernel), List.mem_of_getElem? (i := 1173) (by decide +kernel), List.mem_of_getElem? (i := 1174) (by decide +kernel)⟩
theorem lw_p34 : lw_okq (⟨"MarshCourtModel", "isOpen", "(II)Z"⟩, 64) := ⟨⟨by decide +kernel, by decide +kernel⟩, List.mem_of_getElem? (i := 914) (by decide +kernel), List.mem_of_getElem? (i := 1187) (by decide +kernel), List.mem_of_getElem? (i := 1188) (by decide +kernel)⟩
theorem lw_p35 : lw_okq (⟨"MarshCourtModel", "isHerd", "(I)Z"⟩, 64) := ⟨⟨by decide +kernel, by decide +kernel⟩, List.mem_of_getElem? (i := 914) (by decide +kernel), List.mem_of_getElem? (i := 1199) (by decide +kernel), List.mem_of_getElem? (i := 1200) (by decide +kernel)⟩
theorem lw_p36 : lw_okq (⟨"MarshCourtModel", "nearest", "(IIZ)I"⟩, 64) := ⟨⟨by decide +kernel, by decide +kernel⟩, List.mem_of_getElem? (i := 914) (by decide +kernel), List.mem_of_getElem? (i := 1211) (by decide +kernel), List.mem_of_getElem? (i := 1212) (by decide +kernel)⟩
theorem lw_p37 : lw_okq (⟨"MarshCourtModel", "reckons", "(IZ)V"⟩, 64) := ⟨⟨by decide +kernel, by decide +kernel⟩, List.mem_of_getElem? (i := 914) (by decide +kernel), List.mem_of_getElem? (i := 1215) (by decide +kernel), List.mem_of_getElem? (i := 1216) (by decide +kernel)⟩
theorem lw_p38 : lw_okq (⟨"MarshCourtModel", "hour", "(III)V"⟩, 64) := ⟨⟨by decide +kernel, by decide +kernel⟩, List.mem_of_getElem? (i := 914) (by decide +kernel), List.mem_of_getElem? (i := 1226) (by decide +kernel), List.mem_of_getElem? (i := 1227) (by decide +kernel)⟩
theorem lw_p39 : lw_okq (⟨"MarshCourtModel", "comes", "(II)V"⟩, 64) := ⟨⟨by decide +kernel, by decide +kernel⟩, List.mem_of_getElem? (i := 914) (by decide +kernel), List.mem_of_getElem? (i := 1230) (by decide +kernel), List.mem_of_getElem? (i := 1231) (by decide +kernel)⟩
theorem lw_p40 : lw_okq (⟨"MarshCourtModel", "stands", "(III)Z"⟩, 64) := ⟨⟨by decide +kernel, by decide +kernel⟩, List.mem_of_getElem? (i := 914) (by decide +kernel), List.mem_of_getElem? (i := 1235) (by decide +kernel), List.mem_of_getElem? (i := 1236) (by decide +kernel)⟩
theorem lw_p41 : lw_okq (⟨"MarshCourtModel", "wears", "(III)I"⟩, 64) := ⟨⟨by decide +kernel, by decide +kernel⟩, List.mem_of_getElem? (i := 914) (by decide +kernel), List.mem_of_getElem? (i := 1239) (by decide +kernel), List.mem_of_getElem? (i := 1240) (by decide +kernel)⟩
theorem lw_p42 : lw_okq (⟨"MarshCourtModel", "opens", "(II)V"⟩, 64) := ⟨⟨by decide +kernel, by decide +kernel⟩, List.mem_of_getElem? (i := 914) (by decide +kernel), List.mem_of_getElem? (i := 1243) (by decide +kernel), List.mem_of_getElem? (i := 1244) (by decide +kernel)⟩
theorem lw_p43 : lw_okq (⟨"MarshCourtModel", "levels", "(II)V"⟩, 64) := ⟨⟨by decide +kernel, by decide +kernel⟩, List.mem_of_getElem? (i := 914) (by decide +kernel), List.mem_of_getElem? (i := 1247) (by decide +kernel), List.mem_of_getElem? (i := 1248) (by decide +kernel)⟩
theorem lw_p44 : lw_okq (⟨"MarshCourtModel", "flees", "(I)V"⟩, 64) := ⟨⟨by decide +kernel, by decide +kernel⟩, List.mem_of_getElem? (i := 914) (by decide +kernel), List.mem_of_getElem? (i := 1251) (by decide +kernel), List.mem_of_getElem? (i := 1252) (by decide +kernel)⟩
theorem lw_p45 : lw_okq (⟨"MarshCourtModel", "readsCustom", "()V"⟩, 64) := ⟨⟨by decide +kernel, by decide +kernel⟩, List.mem_of_getElem? (i := 914) (by decide +kernel), List.mem_of_getElem? (i := 1272) (by decide +kernel), List.mem_of_getElem? (i := 1273) (by decide +kernel)⟩
theorem lw_p46 : lw_okq (⟨"MarshCourtModel", "readsClause", "()V"⟩, 64) := ⟨⟨by decide +kernel, by decide +kernel⟩, List.mem_of_getElem? (i := 914) (by decide +kernel), List.mem_of_getElem? (i := 1276) (by decide +kernel), List.mem_of_getElem? (i := 1277) (by decide +kernel)⟩
theorem lw_p47 : lw_okq (⟨"MarshCourtModel", "byteAt", "()I"⟩, 64) := ⟨⟨by decide +kernel, by decide +kernel⟩, List.mem_of_getElem? (i := 914) (by decide +kernel), List.mem_of_getElem? (i := 1280) (by decide +kernel), List.mem_of_getElem? (i := 1281) (by decide +kernel)⟩
def lw_privs_3 : List (MethodName × Nat) := [(⟨"MarshCourtModel", "customOf", "(II)I"⟩, 64), (⟨"MarshCourtModel", "vOf", "(I)I"⟩, 64), (⟨"MarshCourtModel", "isOpen", "(II)Z"⟩, 64), (⟨"MarshCourtModel", "isHerd", "(I)Z"⟩, 64), (⟨"MarshCourtModel", "nearest", "(IIZ)I"⟩, 64), (⟨"MarshCourtModel", "reckons", "(IZ)V"⟩, 64), (⟨"MarshCourtModel", "hour", "(III)V"⟩, 64), (⟨"MarshCourtModel", "comes", "(II)V"⟩, 64), (⟨"MarshCourtModel", "stands", "(III)Z"⟩, 64), (⟨"MarshCourtModel", "wears", "(III)I"⟩, 64), (⟨"MarshCourtModel", "opens", "(II)V"⟩, 64), (⟨"MarshCourtModel", "levels", "(II)V"⟩, 64), (⟨"MarshCourtModel", "flees", "(I)V"⟩, 64), (⟨"MarshCourtModel", "readsCustom", "()V"⟩, 64), (⟨"MarshCourtModel", "readsClause", "()V"⟩, 64), (⟨"MarshCourtModel", "byteAt", "()I"⟩, 64)]
theorem lw_r3 : ∀ q ∈ lw_privs_3, lw_okq q := List.forall_mem_cons.mpr ⟨lw_p32, List.forall_mem_cons.mpr ⟨lw_p33, List.forall_mem_cons.mpr ⟨lw_p34, List.forall_mem_cons.mpr ⟨lw_p35, List.forall_mem_cons.mpr ⟨lw_p36, List.forall_mem_cons.mpr ⟨lw_p37, List.forall_mem_cons.mpr ⟨lw_p38, List.forall_mem_cons.mpr ⟨lw_p39, List.forall_mem_cons.mpr ⟨lw_p40, List.forall_mem_cons.mpr ⟨lw_p41, List.forall_mem_cons.mpr ⟨lw_p42, List.forall_mem_cons.mpr ⟨lw_p43, List.forall_mem_cons.mpr ⟨lw_p44, List.forall_mem_cons.mpr ⟨lw_p45, List.forall_mem_cons.mpr ⟨lw_p46, List.forall_mem_cons.mpr ⟨lw_p47, fun _ h => absurd h List.not_mem_nil⟩⟩⟩⟩⟩⟩⟩⟩⟩⟩⟩⟩⟩⟩⟩⟩
theorem lw_p48 : lw_okq (⟨"MarshCourtModel", "must", "(I)V"⟩, 64) := ⟨⟨by decide +kernel, by decide +kernel⟩, List.mem_of_getElem? (i := 914) (by decide +kernel), List.mem_of_getElem? (i := 1284) (by decide +kernel), List.mem_of_getElem? (i := 1285) (by decide +kernel)⟩
theorem lw_p49 : lw_okq (⟨"MarshCourtModel", "readsRods", "()V"⟩, 64) := ⟨⟨by decide +kernel, by decide +kernel⟩, List.mem_of_getElem? (i := 914) (by decide +kernel), List.mem_of_getElem? (i := 1288) (by decide +kernel), List.mem_of_getElem? (i := 1289) (by decide +kernel)⟩
theorem lw_p50 : lw_okq (⟨"MarshCourtModel", "number", "(II)I"⟩, 64) := ⟨⟨by decide +kernel, by decide +kernel⟩, List.mem_of_getElem? (i := 914) (by decide +kernel), List.mem_of_getElem? (i := 1292) (by decide +kernel), List.mem_of_getElem? (i := 1293) (by decide +kernel)⟩
theorem lw_p51 : lw_okq (⟨"MarshCourtModel", "isDigit", "()Z"⟩, 64) := ⟨⟨by decide +kernel, by decide +kernel⟩, List.mem_of_getElem? (i := 914) (by decide +kernel), List.mem_of_getElem? (i := 1296) (by decide +kernel), List.mem_of_getElem? (i := 1297) (by decide +kernel)⟩
theorem lw_p52 : lw_okq (⟨"MarshCourtModel", "word", "([I)V"⟩, 64) := ⟨⟨by decide +kernel, by decide +kernel⟩, List.mem_of_getElem? (i := 914) (by decide +kernel), List.mem_of_getElem? (i := 1300) (by decide +kernel), List.mem_of_getElem? (i := 1301) (by decide +kernel)⟩
theorem lw_p53 : lw_okq (⟨"MarshCourtModel", "menderOf", "(IIII)I"⟩, 64) := ⟨⟨by decide +kernel, by decide +kernel⟩, List.mem_of_getElem? (i := 914) (by decide +kernel), List.mem_of_getElem? (i := 1312) (by decide +kernel), List.mem_of_getElem? (i := 1313) (by decide +kernel)⟩
theorem lw_p54 : lw_okq (⟨"MarshCourtModel", "deals", "(III)V"⟩, 64) := ⟨⟨by decide +kernel, by decide +kernel⟩, List.mem_of_getElem? (i := 914) (by decide +kernel), List.mem_of_getElem? (i := 1316) (by decide +kernel), List.mem_of_getElem? (i := 1317) (by decide +kernel)⟩
theorem lw_p55 : lw_okq (⟨"MarshCourtModel", "hOf", "(I)I"⟩, 64) := ⟨⟨by decide +kernel, by decide +kernel⟩, List.mem_of_getElem? (i := 914) (by decide +kernel), List.mem_of_getElem? (i := 1325) (by decide +kernel), List.mem_of_getElem? (i := 1326) (by decide +kernel)⟩
theorem lw_p56 : lw_okq (⟨"MarshCourtModel", "endsFault", "(I)V"⟩, 64) := ⟨⟨by decide +kernel, by decide +kernel⟩, List.mem_of_getElem? (i := 914) (by decide +kernel), List.mem_of_getElem? (i := 1329) (by decide +kernel), List.mem_of_getElem? (i := 1330) (by decide +kernel)⟩
theorem lw_p57 : lw_okq (⟨"MarshCourtModel", "fineOf", "(I)I"⟩, 64) := ⟨⟨by decide +kernel, by decide +kernel⟩, List.mem_of_getElem? (i := 914) (by decide +kernel), List.mem_of_getElem? (i := 1341) (by decide +kernel), List.mem_of_getElem? (i := 1342) (by decide +kernel)⟩
theorem lw_p58 : lw_okq (⟨"MarshCourtModel", "chooses", "(I)V"⟩, 64) := ⟨⟨by decide +kernel, by decide +kernel⟩, List.mem_of_getElem? (i := 914) (by decide +kernel), List.mem_of_getElem? (i := 1358) (by decide +kernel), List.mem_of_getElem? (i := 1359) (by decide +kernel)⟩
theorem lw_p59 : lw_okq (⟨"MarshCourtModel", "worthOf", "(II)I"⟩, 64) := ⟨⟨by decide +kernel, by decide +kernel⟩, List.mem_of_getElem? (i := 914) (by decide +kernel), List.mem_of_getElem? (i := 1362) (by decide +kernel), List.mem_of_getElem? (i := 1363) (by decide +kernel)⟩
theorem lw_p60 : lw_okq (⟨"MarshCourtModel", "betters", "(III)V"⟩, 64) := ⟨⟨by decide +kernel, by decide +kernel⟩, List.mem_of_getElem? (i := 914) (by decide +kernel), List.mem_of_getElem? (i := 1366) (by decide +kernel), List.mem_of_getElem? (i := 1367) (by decide +kernel)⟩
def lw_privs_4 : List (MethodName × Nat) := [(⟨"MarshCourtModel", "must", "(I)V"⟩, 64), (⟨"MarshCourtModel", "readsRods", "()V"⟩, 64), (⟨"MarshCourtModel", "number", "(II)I"⟩, 64), (⟨"MarshCourtModel", "isDigit", "()Z"⟩, 64), (⟨"MarshCourtModel", "word", "([I)V"⟩, 64), (⟨"MarshCourtModel", "menderOf", "(IIII)I"⟩, 64), (⟨"MarshCourtModel", "deals", "(III)V"⟩, 64), (⟨"MarshCourtModel", "hOf", "(I)I"⟩, 64), (⟨"MarshCourtModel", "endsFault", "(I)V"⟩, 64), (⟨"MarshCourtModel", "fineOf", "(I)I"⟩, 64), (⟨"MarshCourtModel", "chooses", "(I)V"⟩, 64), (⟨"MarshCourtModel", "worthOf", "(II)I"⟩, 64), (⟨"MarshCourtModel", "betters", "(III)V"⟩, 64)]
theorem lw_r4 : ∀ q ∈ lw_privs_4, lw_okq q := List.forall_mem_cons.mpr ⟨lw_p48, List.forall_mem_cons.mpr ⟨lw_p49, List.forall_mem_cons.mpr ⟨lw_p50, List.forall_mem_cons.mpr ⟨lw_p51, List.forall_mem_cons.mpr ⟨lw_p52, List.forall_mem_cons.mpr ⟨lw_p53, List.forall_mem_cons.mpr ⟨lw_p54, List.forall_mem_cons.mpr ⟨lw_p55, List.forall_mem_cons.mpr ⟨lw_p56, List.forall_mem_cons.mpr ⟨lw_p57, List.forall_mem_cons.mpr ⟨lw_p58, List.forall_mem_cons.mpr ⟨lw_p59, List.forall_mem_cons.mpr ⟨lw_p60, fun _ h => absurd h List.not_mem_nil⟩⟩⟩⟩⟩⟩⟩⟩⟩⟩⟩⟩⟩
def lw_privs : List (MethodName × Nat) := lw_privs_1 ++ (lw_privs_2 ++ (lw_privs_3 ++ (lw_privs_4)))
def lw_tbl : List Cond := k2_sels lw_privs ++ tables_1
theorem lw_privs_ok : ∀ q ∈ lw_privs, lw_okq q := by
  show ∀ q ∈ lw_privs_1 ++ (lw_privs_2 ++ (lw_privs_3 ++ (lw_privs_4))), lw_okq q
  exact List.forall_mem_append.mpr ⟨lw_r1, List.forall_mem_append.mpr ⟨lw_r2, List.forall_mem_append.mpr ⟨lw_r3, lw_r4⟩⟩⟩
end
section
/-! THE LAYOUT MACHINE: a small machine over whole numbers, for methods that make no cells. A value is a tag and a number (0 int, 1 long, 2 a cell of the world, 3 null, 4 a cell outside, read only); the world is a layout and one function. -/
abbrev q_V : Type := Nat × Int
abbrev q_S : Type := Int → Int → Int
/-- index, pc, instruction, what it is resolved to -/
abbrev q_I : Type := Nat × Nat × Instr × List Int
abbrev q_N : Type := Nat × List q_V × List q_V × q_S
/-- kind (0 object, 1 int array, 2 boolean array, 3 long array, 4 array of references), class or length, slots -/
abbrev q_C : Type := Nat × Nat × List q_V
/-- outside: kind (0 text, 1 int array, 6 byte array), length or the text's row, contents -/
abbrev q_X : Type := Nat × Nat × (Int → Int)
abbrev q_R : Type := Option q_V
abbrev q_D : Type := q_N ⊕ (Prop × q_N) ⊕ (List (Prop × q_N) × q_N) ⊕ (Nat × List q_V × q_N) ⊕ Option (q_R × q_S) ⊕ (Prop × q_R × q_S)
def q_w32 (x : Int) : Int := (x + 2147483648) % 4294967296 - 2147483648
def q_w64 (x : Int) : Int := (x + 9223372036854775808) % 18446744073709551616 - 9223372036854775808
def q_up (σ : q_S) (k i v : Int) : q_S := fun k' i' => if k' = k then (if i' = i then v else σ k' i') else σ k' i'
def q_and32 (x y : Int) : Int := (BitVec.ofInt 32 x &&& BitVec.ofInt 32 y).toInt
def q_or32 (x y : Int) : Int := (BitVec.ofInt 32 x ||| BitVec.ofInt 32 y).toInt
def q_and64 (x y : Int) : Int := (BitVec.ofInt 64 x &&& BitVec.ofInt 64 y).toInt
def q_or64 (x y : Int) : Int := (BitVec.ofInt 64 x ||| BitVec.ofInt 64 y).toInt
def q_go (i : Nat) (ls st : List q_V) (σ : q_S) : q_D := .inl (i, ls, st, σ)
def q_gd (g : Prop) (i : Nat) (ls st : List q_V) (σ : q_S) : q_D := .inr (.inl (g, i, ls, st, σ))
def q_al (l : List (Prop × q_N)) (d : q_N) : q_D := .inr (.inr (.inl (l, d)))
def q_ca (mi : Nat) (as : List q_V) (i : Nat) (ls st : List q_V) (σ : q_S) : q_D := .inr (.inr (.inr (.inl (mi, as, i, ls, st, σ))))
def q_re (r : q_R) (σ : q_S) : q_D := .inr (.inr (.inr (.inr (.inl (some (r, σ))))))
def q_rg (g : Prop) (r : q_R) (σ : q_S) : q_D := .inr (.inr (.inr (.inr (.inr (g, r, σ)))))
def q_no : q_D := .inr (.inr (.inr (.inr (.inl none))))
def q_if (c : Prop) (i : Nat) (inf : List Int) (ls st : List q_V) (σ : q_S) : q_D :=
  match inf with
  | .ofNat t :: _ => q_al [(c, (t, ls, st, σ))] (i + 1, ls, st, σ)
  | _ => q_no
def q_ld (i : Nat) (t : Nat) (k : Nat) (ls st : List q_V) (σ : q_S) : q_D :=
  match ls.getD k (9, 0) with
  | (u, x) => bif u == t then q_go (i + 1) ls ((u, x) :: st) σ else q_no
def q_ldA (i : Nat) (k : Nat) (ls st : List q_V) (σ : q_S) : q_D :=
  match ls.getD k (9, 0) with
  | (u, x) => bif u == 2 || (u == 4 && !(x == 2)) then q_go (i + 1) ls ((u, x) :: st) σ else q_no
/-- a store of one word: not over the second half of a long -/
def q_st (i : Nat) (t : Nat) (k : Nat) (ls st : List q_V) (σ : q_S) : q_D :=
  match st with
  | (u, x) :: st => bif (u == t) && (k < ls.length) && !((ls.getD (k - 1) (9, 0)).1 == 1 && 0 < k) then q_go (i + 1) (ls.set k (u, x)) st σ else q_no
  | [] => q_no
def q_stA (i : Nat) (k : Nat) (ls st : List q_V) (σ : q_S) : q_D :=
  match st with
  | (u, x) :: st => bif (u == 2 || u == 4) && (k < ls.length) && !((ls.getD (k - 1) (9, 0)).1 == 1 && 0 < k) then q_go (i + 1) (ls.set k (u, x)) st σ else q_no
  | [] => q_no
def q_stL (i : Nat) (k : Nat) (ls st : List q_V) (σ : q_S) : q_D :=
  match st with
  | (u, x) :: st => bif (u == 1) && (k + 1 < ls.length) && !((ls.getD (k - 1) (9, 0)).1 == 1 && 0 < k) then q_go (i + 1) ((ls.set k (u, x)).set (k + 1) (9, 0)) st σ else q_no
  | [] => q_no
/-- a switch: a place for each value, then the rest -/
def q_sw (x : Int) (ls st : List q_V) (σ : q_S) : List Int → List (Prop × q_N)
  | v :: .ofNat t :: l => (x = v, (t, ls, st, σ)) :: q_sw x ls st σ l
  | _ => []
def q_swi (x : Int) (ls st : List q_V) (σ : q_S) (inf : List Int) : q_D :=
  match inf with
  | .ofNat d :: l => q_al (q_sw x ls st σ l) (d, ls, st, σ)
  | _ => q_no
/-- the cell of a number -/
def q_at (lay : List q_C) (r : Int) : q_C :=
  match r with
  | .ofNat n => lay.getD n (9, 0, [])
  | .negSucc _ => (9, 0, [])
def q_ax (xt : List q_X) (r : Int) : q_X :=
  match r with
  | .ofNat n => xt.getD n (9, 0, fun _ => 0)
  | .negSucc _ => (9, 0, fun _ => 0)
def q_rd (i : Nat) (kind t : Nat) (lay : List q_C) (ls st : List q_V) (σ : q_S) : q_D :=
  match st with
  | (0, j) :: (2, r) :: st => match q_at lay r with
    | (k, n, _) => bif k == kind then q_gd (0 ≤ j ∧ j < n) (i + 1) ls ((t, σ r j) :: st) σ else q_no
  | _ => q_no
def q_rdX (i : Nat) (kind : Nat) (xt : List q_X) (ls st : List q_V) (σ : q_S) : q_D :=
  match st with
  | (0, j) :: (4, r) :: st => match q_ax xt r with
    | (k, n, f) => bif k == kind then q_gd (0 ≤ j ∧ j < n) (i + 1) ls ((0, f j) :: st) σ else q_no
  | _ => q_no
def q_wr (i : Nat) (kind t : Nat) (lay : List q_C) (ls st : List q_V) (σ : q_S) : q_D :=
  match st with
  | (u, v) :: (0, j) :: (2, r) :: st => match q_at lay r with
    | (k, n, _) => bif (k == kind) && (u == t) then q_gd (0 ≤ j ∧ j < n) (i + 1) ls st (q_up σ r j v) else q_no
  | _ => q_no
def q_wrZ (i : Nat) (lay : List q_C) (ls st : List q_V) (σ : q_S) : q_D :=
  match st with
  | (0, v) :: (0, j) :: (2, r) :: st => match q_at lay r with
    | (k, n, _) => bif k == 2 then q_gd ((0 ≤ j ∧ j < n) ∧ (v = 0 ∨ v = 1)) (i + 1) ls st (q_up σ r j v) else q_no
  | _ => q_no
def q_get (i : Nat) (inf : List Int) (lay : List q_C) (xt : List q_X) (ls st : List q_V) (σ : q_S) : q_D :=
  match inf with
  | f :: .ofNat c :: _ => match st with
    | (2, r) :: st => match q_at lay r with
      | (k, ci, fs) => bif (k == 0) && (ci == c) then match fs.getD f.toNat (9, 0) with
        | (0, _) => q_go (i + 1) ls ((0, σ r f) :: st) σ
        | (5, _) => q_go (i + 1) ls ((0, σ r f) :: st) σ
        | (2, z) => q_go (i + 1) ls ((2, z) :: st) σ
        | _ => q_no
        else q_no
    | (4, r) :: st => match q_ax xt r with
      | (k, n, _) => bif (k == 0) && (c == 99) then (bif f.toNat == 100 then q_go (i + 1) ls ((4, (n : Int)) :: st) σ else bif f.toNat == 101 then q_go (i + 1) ls ((0, 0) :: st) σ else q_no) else q_no
    | _ => q_no
  | _ => q_no
def q_put (i : Nat) (inf : List Int) (lay : List q_C) (ls st : List q_V) (σ : q_S) : q_D :=
  match inf with
  | f :: .ofNat c :: _ => match st with
    | (0, v) :: (2, r) :: st => match q_at lay r with
      | (k, ci, fs) => bif (k == 0) && (ci == c) then match fs.getD f.toNat (9, 0) with
        | (0, _) => q_go (i + 1) ls st (q_up σ r f v)
        | (5, _) => q_gd (v = 0 ∨ v = 1) (i + 1) ls st (q_up σ r f v)
        | _ => q_no
        else q_no
    | _ => q_no
  | _ => q_no
def q_len (i : Nat) (lay : List q_C) (xt : List q_X) (ls st : List q_V) (σ : q_S) : q_D :=
  match st with
  | (2, r) :: st => match q_at lay r with
    | (k, n, _) => bif k == 1 || k == 2 || k == 3 then q_go (i + 1) ls ((0, (n : Int)) :: st) σ else q_no
  | (4, r) :: st => match q_ax xt r with
    | (k, n, _) => bif k == 1 || k == 6 then q_go (i + 1) ls ((0, (n : Int)) :: st) σ else q_no
  | _ => q_no
/-- the receiver is an object of the class that is meant (99: a text) -/
def q_rcv (lay : List q_C) (xt : List q_X) (v : q_V) (c : Nat) : Bool :=
  match v with
  | (2, r) => match q_at lay r with
    | (k, ci, _) => (k == 0) && (ci == c)
  | (4, r) => match q_ax xt r with
    | (k, _, _) => (k == 0) && (c == 99)
  | _ => false
/-- a call: resolved to the method's number, how many values it takes, the receiver's class (98: static) -/
def q_inv (i : Nat) (inf : List Int) (lay : List q_C) (xt : List q_X) (ls st : List q_V) (σ : q_S) : q_D :=
  match inf with
  | .ofNat mi :: .ofNat n :: .ofNat c :: _ => bif (Nat.ble n st.length) && (Nat.ble st.length (n + 4)) && ((c == 98) || ((0 < n) && q_rcv lay xt (st.getD (n - 1) (9, 0)) c)) then
      q_ca mi (st.take n).reverse (i + 1) ls (st.drop n) σ else q_no
  | _ => q_no
/-- what an instruction does -/
def q_des (lay : List q_C) (xt : List q_X) (ins : q_I) (ls st : List q_V) (σ : q_S) : q_D :=
  match ins with
  | (i, _, op, inf) =>
    match op with
    | .iconst v => q_go (i + 1) ls ((0, v) :: st) σ
    | .bipush v => q_go (i + 1) ls ((0, v) :: st) σ
    | .sipush v => q_go (i + 1) ls ((0, v) :: st) σ
    | .lconst v => q_go (i + 1) ls ((1, (v.val : Int)) :: st) σ
    | .ldc _ => match inf with
      | .ofNat t :: v :: _ => q_go (i + 1) ls ((t, v) :: st) σ
      | _ => q_no
    | .ldc_w _ => match inf with
      | .ofNat t :: v :: _ => q_go (i + 1) ls ((t, v) :: st) σ
      | _ => q_no
    | .ldc2_w _ => match inf with
      | v :: _ => q_go (i + 1) ls ((1, v) :: st) σ
      | _ => q_no
    | .iload k => q_ld i 0 k ls st σ
    | .iload_n k => q_ld i 0 k.val ls st σ
    | .lload k => q_ld i 1 k ls st σ
    | .lload_n k => q_ld i 1 k.val ls st σ
    | .aload k => q_ldA i k ls st σ
    | .aload_n k => q_ldA i k.val ls st σ
    | .istore k => q_st i 0 k ls st σ
    | .istore_n k => q_st i 0 k.val ls st σ
    | .astore k => q_stA i k ls st σ
    | .astore_n k => q_stA i k.val ls st σ
    | .lstore k => q_stL i k ls st σ
    | .lstore_n k => q_stL i k.val ls st σ
    | .iinc k n => match ls.getD k (9, 0) with
      | (0, x) => q_go (i + 1) (ls.set k (0, q_w32 (x + n))) st σ
      | _ => q_no
    | .dup => match st with
      | (u, x) :: st => bif u == 1 then q_no else q_go (i + 1) ls ((u, x) :: (u, x) :: st) σ
      | _ => q_no
    | .dup2 => match st with
      | (u, x) :: (w, y) :: st => bif u == 1 || w == 1 then q_no else q_go (i + 1) ls ((u, x) :: (w, y) :: (u, x) :: (w, y) :: st) σ
      | _ => q_no
    | .pop => match st with
      | (u, _) :: st => bif u == 1 then q_no else q_go (i + 1) ls st σ
      | _ => q_no
    | .iadd => match st with
      | (0, y) :: (0, x) :: st => q_go (i + 1) ls ((0, q_w32 (x + y)) :: st) σ
      | _ => q_no
    | .isub => match st with
      | (0, y) :: (0, x) :: st => q_go (i + 1) ls ((0, q_w32 (x - y)) :: st) σ
      | _ => q_no
    | .imul => match st with
      | (0, y) :: (0, x) :: st => q_go (i + 1) ls ((0, q_w32 (x * y)) :: st) σ
      | _ => q_no
    | .iand => match st with
      | (0, y) :: (0, x) :: st => q_go (i + 1) ls ((0, q_and32 x y) :: st) σ
      | _ => q_no
    | .ior => match st with
      | (0, y) :: (0, x) :: st => q_go (i + 1) ls ((0, q_or32 x y) :: st) σ
      | _ => q_no
    | .ishl => match st with
      | (0, y) :: (0, x) :: st => q_go (i + 1) ls ((0, q_w32 (x * 2 ^ (y % 32).toNat)) :: st) σ
      | _ => q_no
    | .ishr => match st with
      | (0, y) :: (0, x) :: st => q_go (i + 1) ls ((0, x / 2 ^ (y % 32).toNat) :: st) σ
      | _ => q_no
    | .idiv => match st with
      | (0, y) :: (0, x) :: st => q_gd (y ≠ 0) (i + 1) ls ((0, q_w32 (x.tdiv y)) :: st) σ
      | _ => q_no
    | .irem => match st with
      | (0, y) :: (0, x) :: st => q_gd (y ≠ 0) (i + 1) ls ((0, x.tmod y) :: st) σ
      | _ => q_no
    | .ineg => match st with
      | (0, x) :: st => q_go (i + 1) ls ((0, q_w32 (-x)) :: st) σ
      | _ => q_no
    | .i2l => match st with
      | (0, x) :: st => q_go (i + 1) ls ((1, x) :: st) σ
      | _ => q_no
    | .l2i => match st with
      | (1, x) :: st => q_go (i + 1) ls ((0, q_w32 x) :: st) σ
      | _ => q_no
    | .i2c => match st with
      | (0, x) :: st => q_go (i + 1) ls ((0, x % 65536) :: st) σ
      | _ => q_no
    | .ladd => match st with
      | (1, y) :: (1, x) :: st => q_go (i + 1) ls ((1, q_w64 (x + y)) :: st) σ
      | _ => q_no
    | .lsub => match st with
      | (1, y) :: (1, x) :: st => q_go (i + 1) ls ((1, q_w64 (x - y)) :: st) σ
      | _ => q_no
    | .lmul => match st with
      | (1, y) :: (1, x) :: st => q_go (i + 1) ls ((1, q_w64 (x * y)) :: st) σ
      | _ => q_no
    | .land => match st with
      | (1, y) :: (1, x) :: st => q_go (i + 1) ls ((1, q_and64 x y) :: st) σ
      | _ => q_no
    | .lor => match st with
      | (1, y) :: (1, x) :: st => q_go (i + 1) ls ((1, q_or64 x y) :: st) σ
      | _ => q_no
    | .lshl => match st with
      | (0, y) :: (1, x) :: st => q_go (i + 1) ls ((1, q_w64 (x * 2 ^ (y % 64).toNat)) :: st) σ
      | _ => q_no
    | .lshr => match st with
      | (0, y) :: (1, x) :: st => q_go (i + 1) ls ((1, x / 2 ^ (y % 64).toNat) :: st) σ
      | _ => q_no
    | .lushr => match st with
      | (0, y) :: (1, x) :: st => q_go (i + 1) ls ((1, q_w64 (x % 18446744073709551616 / 2 ^ (y % 64).toNat)) :: st) σ
      | _ => q_no
    | .ldiv => match st with
      | (1, y) :: (1, x) :: st => q_gd (y ≠ 0) (i + 1) ls ((1, q_w64 (x.tdiv y)) :: st) σ
      | _ => q_no
    | .lrem => match st with
      | (1, y) :: (1, x) :: st => q_gd (y ≠ 0) (i + 1) ls ((1, x.tmod y) :: st) σ
      | _ => q_no
    | .lcmp => match st with
      | (1, y) :: (1, x) :: st => q_go (i + 1) ls ((0, if x < y then -1 else if x = y then 0 else 1) :: st) σ
      | _ => q_no
    | .if_icmp .eq _ => match st with
      | (0, y) :: (0, x) :: st => q_if (x = y) i inf ls st σ
      | _ => q_no
    | .if_icmp .ne _ => match st with
      | (0, y) :: (0, x) :: st => q_if (x ≠ y) i inf ls st σ
      | _ => q_no
    | .if_icmp .lt _ => match st with
      | (0, y) :: (0, x) :: st => q_if (x < y) i inf ls st σ
      | _ => q_no
    | .if_icmp .ge _ => match st with
      | (0, y) :: (0, x) :: st => q_if (y ≤ x) i inf ls st σ
      | _ => q_no
    | .if_icmp .gt _ => match st with
      | (0, y) :: (0, x) :: st => q_if (y < x) i inf ls st σ
      | _ => q_no
    | .if_icmp .le _ => match st with
      | (0, y) :: (0, x) :: st => q_if (x ≤ y) i inf ls st σ
      | _ => q_no
    | .ifCond .eq _ => match st with
      | (0, x) :: st => q_if (x = 0) i inf ls st σ
      | _ => q_no
    | .ifCond .ne _ => match st with
      | (0, x) :: st => q_if (x ≠ 0) i inf ls st σ
      | _ => q_no
    | .ifCond .lt _ => match st with
      | (0, x) :: st => q_if (x < 0) i inf ls st σ
      | _ => q_no
    | .ifCond .ge _ => match st with
      | (0, x) :: st => q_if (0 ≤ x) i inf ls st σ
      | _ => q_no
    | .ifCond .gt _ => match st with
      | (0, x) :: st => q_if (0 < x) i inf ls st σ
      | _ => q_no
    | .ifCond .le _ => match st with
      | (0, x) :: st => q_if (x ≤ 0) i inf ls st σ
      | _ => q_no
    | .goto _ => match inf with
      | .ofNat t :: _ => q_go t ls st σ
      | _ => q_no
    | .tableswitch _ _ _ _ => match st with
      | (0, x) :: st => q_swi x ls st σ inf
      | _ => q_no
    | .lookupswitch _ _ => match st with
      | (0, x) :: st => q_swi x ls st σ inf
      | _ => q_no
    | .ireturn => match st with
      | [(0, x)] => match inf with
        | .ofNat 0 :: _ => q_re (some (0, x)) σ
        | .ofNat 1 :: _ => bif (x == 0) || (x == 1) then q_re (some (0, x)) σ else q_no
        | .ofNat 2 :: _ => q_rg (0 ≤ x ∧ x < 65536) (some (0, x)) σ
        | .ofNat 3 :: _ => q_rg (-128 ≤ x ∧ x < 128) (some (0, x)) σ
        | _ => q_no
      | _ => q_no
    | .lreturn => match st with
      | [(1, x)] => q_re (some (1, x)) σ
      | _ => q_no
    | .areturn => match st with
      | [(2, x)] => q_re (some (2, x)) σ
      | _ => q_no
    | .return_ => match st with
      | [] => q_re none σ
      | _ => q_no
    | .getfield _ => q_get i inf lay xt ls st σ
    | .putfield _ => q_put i inf lay ls st σ
    | .getstatic _ => match inf with
      | .ofNat t :: v :: _ => q_go (i + 1) ls ((t, v) :: st) σ
      | _ => q_no
    | .arraylength => q_len i lay xt ls st σ
    | .iaload => match st with
      | _ :: (4, _) :: _ => q_rdX i 1 xt ls st σ
      | _ => q_rd i 1 0 lay ls st σ
    | .baload => match st with
      | _ :: (4, _) :: _ => q_rdX i 6 xt ls st σ
      | _ => q_rd i 2 0 lay ls st σ
    | .laload => q_rd i 3 1 lay ls st σ
    | .aaload => match st with
      | (0, j) :: (2, r) :: st => match q_at lay r with
        | (k, n, fs) => bif k == 4 then q_gd (0 ≤ j ∧ j < n) (i + 1) ls (fs.getD j.toNat (9, 0) :: st) σ else q_no
      | _ => q_no
    | .iastore => q_wr i 1 0 lay ls st σ
    | .lastore => q_wr i 3 1 lay ls st σ
    | .bastore => q_wrZ i lay ls st σ
    | .invokevirtual _ => q_inv i inf lay xt ls st σ
    | .invokestatic _ => q_inv i inf lay xt ls st σ
    | .invokespecial _ => q_inv i inf lay xt ls st σ
    | _ => q_no
/-- a method: its code, the number of its locals -/
abbrev q_M : Type := List q_I × Nat
def q_sl : List q_V → List q_V
  | (1, x) :: l => (1, x) :: (9, 0) :: q_sl l
  | v :: l => v :: q_sl l
  | [] => []
def q_ent (n : Nat) (as : List q_V) (σ : q_S) : q_N := (0, q_sl as ++ List.replicate (n - (q_sl as).length) (9, 0), [], σ)
def q_psh (r : q_R) (st : List q_V) : List q_V :=
  match r with
  | some v => v :: st
  | none => st
noncomputable def q_pick (d : q_N) : List (Prop × q_N) → q_N
  | (c, n) :: l => @ite _ c (Classical.propDecidable c) n (q_pick d l)
  | [] => d
noncomputable def q_run (lay : List q_C) (xt : List q_X) (mt : List q_M) : Nat → List q_I → q_N → Option (q_R × q_S)
  | 0, _, _ => none
  | n + 1, code, (i, ls, st, σ) =>
    match code[i]? with
    | none => none
    | some ins => match q_des lay xt ins ls st σ with
      | .inl a => q_run lay xt mt n code a
      | .inr (.inl (g, a)) => @ite _ g (Classical.propDecidable g) (q_run lay xt mt n code a) none
      | .inr (.inr (.inl (l, d))) => q_run lay xt mt n code (q_pick d l)
      | .inr (.inr (.inr (.inl (mi, as, i', ls', st', σ')))) => match mt[mi]? with
        | none => none
        | some m => match q_run lay xt mt n m.1 (q_ent m.2 as σ') with
          | some (r, σ2) => q_run lay xt mt n code (i', ls', q_psh r st', σ2)
          | none => none
      | .inr (.inr (.inr (.inr (.inl r)))) => r
      | .inr (.inr (.inr (.inr (.inr (g, r, σ'))))) => @ite _ g (Classical.propDecidable g) (some (r, σ')) none
def q_Ev (lay : List q_C) (xt : List q_X) (mt : List q_M) (code : List q_I) (a : q_N) (Q : q_R → q_S → Prop) : Prop := ∃ n r σ', q_run lay xt mt n code a = some (r, σ') ∧ Q r σ'
def q_Cl (lay : List q_C) (xt : List q_X) (mt : List q_M) (mi : Nat) (as : List q_V) (σ : q_S) (Q : q_R → q_S → Prop) : Prop := ∃ m, mt[mi]? = some m ∧ q_Ev lay xt mt m.1 (q_ent m.2 as σ) Q
/-- the list itself, its cells laid open -/
def q_frc (l : List q_V) (K : List q_V → Prop) : Prop :=
  match l with
  | [] => K []
  | (u, x) :: l => q_frc l (fun l' => K ((u, x) :: l'))
abbrev q_KT : Type := Nat → List q_V → List q_V → q_S → Prop
def q_frK (K : q_KT) (i : Nat) (ls st : List q_V) (σ : q_S) : Prop := q_frc ls (fun ls => q_frc st (fun st => K i ls st σ))
def q_vA (K : q_KT) (d : q_N) : List (Prop × q_N) → Prop
  | [] => match d with
    | (i, ls, st, σ) => K i ls st σ
  | (c, (i, ls, st, σ)) :: l => (c → K i ls st σ) ∧ (¬ c → q_vA K d l)
def q_vS (cl : Nat → List q_V → q_S → (q_R → q_S → Prop) → Prop) (Q : q_R → q_S → Prop) (K : q_KT) (d : q_D) : Prop :=
  match d with
  | .inl (i, ls, st, σ) => q_frK K i ls st σ
  | .inr (.inl (g, (i, ls, st, σ))) => g ∧ q_frK K i ls st σ
  | .inr (.inr (.inl (l, d))) => q_vA K d l
  | .inr (.inr (.inr (.inl (mi, as, i, ls, st, σ)))) => q_frc as (fun as => cl mi as σ (fun r σ' => q_frK K i ls (q_psh r st) σ'))
  | .inr (.inr (.inr (.inr (.inl (some (r, σ)))))) => Q r σ
  | .inr (.inr (.inr (.inr (.inl none)))) => False
  | .inr (.inr (.inr (.inr (.inr (g, r, σ))))) => g ∧ Q r σ
/-- what must hold so that the code from here on returns with Q; it stops at the cuts -/
def q_vc (lay : List q_C) (xt : List q_X) (code : List q_I) (cuts : List Nat) (cl : Nat → List q_V → q_S → (q_R → q_S → Prop) → Prop) (ev : q_N → Prop) (Q : q_R → q_S → Prop) : Nat → Nat → List q_I → List q_V → List q_V → q_S → Prop
  | 0, i, _, ls, st, σ => ev (i, ls, st, σ)
  | n + 1, i, rest, ls, st, σ =>
    bif cuts.elem i then ev (i, ls, st, σ) else
      match rest with
      | [] => False
      | ins :: tl => q_vS cl Q (fun i' ls' st' σ' => q_vc lay xt code cuts cl ev Q n i' (bif Nat.beq i' (i + 1) then tl else code.drop i') ls' st' σ') (q_des lay xt ins ls st σ)
/-- the same, over its first instruction, cut or not -/
def q_v1 (lay : List q_C) (xt : List q_X) (code : List q_I) (cuts : List Nat) (cl : Nat → List q_V → q_S → (q_R → q_S → Prop) → Prop) (ev : q_N → Prop) (Q : q_R → q_S → Prop) (n i : Nat) (rest : List q_I) (ls st : List q_V) (σ : q_S) : Prop :=
  match rest with
  | [] => False
  | ins :: tl => q_vS cl Q (fun i' ls' st' σ' => q_vc lay xt code cuts cl ev Q n i' (bif Nat.beq i' (i + 1) then tl else code.drop i') ls' st' σ') (q_des lay xt ins ls st σ)
end
section
def q_i32 (x : Int) : Prop := -2147483648 ≤ x ∧ x ≤ 2147483647
def q_i64 (x : Int) : Prop := -9223372036854775808 ≤ x ∧ x ≤ 9223372036854775807
theorem q_w32_in (x : Int) : q_i32 (q_w32 x) := by unfold q_i32 q_w32; omega
theorem q_w64_in (x : Int) : q_i64 (q_w64 x) := by unfold q_i64 q_w64; omega
theorem q_w32_id {x : Int} (h1 : -2147483648 ≤ x) (h2 : x ≤ 2147483647) : q_w32 x = x := by unfold q_w32; omega
theorem q_w64_id {x : Int} (h1 : -9223372036854775808 ≤ x) (h2 : x ≤ 9223372036854775807) : q_w64 x = x := by unfold q_w64; omega
theorem q_bm32 (x : Int) : x.bmod (2 ^ 32) = q_w32 x := by unfold Int.bmod q_w32; simp only [Nat.reducePow, Int.cast_ofNat_Int]; split <;> omega
theorem q_bm64 (x : Int) : x.bmod (2 ^ 64) = q_w64 x := by unfold Int.bmod q_w64; simp only [Nat.reducePow, Int.cast_ofNat_Int]; split <;> omega
theorem q_t32 (x : Int) : (Int32.ofInt x).toInt = q_w32 x := by rw [Int32.toInt_ofInt]; exact q_bm32 x
theorem q_t64 (x : Int) : (Int64.ofInt x).toInt = q_w64 x := by rw [Int64.toInt_ofInt]; exact q_bm64 x
theorem q_t32i {x : Int} (h : q_i32 x) : (Int32.ofInt x).toInt = x := by rw [q_t32]; exact q_w32_id h.1 h.2
theorem q_t64i {x : Int} (h : q_i64 x) : (Int64.ofInt x).toInt = x := by rw [q_t64]; exact q_w64_id h.1 h.2
theorem q_o32 (v : Int32) : Int32.ofInt v.toInt = v := Int32.ofInt_toInt v
theorem q_ow (x : Int) : Int32.ofInt (q_w32 x) = Int32.ofInt x := by
  apply Int32.toInt_inj.mp
  rw [q_t32, q_t32]
  exact q_w32_id (q_w32_in x).1 (q_w32_in x).2
theorem q_owl (x : Int) : Int64.ofInt (q_w64 x) = Int64.ofInt x := by
  apply Int64.toInt_inj.mp
  rw [q_t64, q_t64]
  exact q_w64_id (q_w64_in x).1 (q_w64_in x).2
theorem q_add (x y : Int) : Int32.ofInt (q_w32 (x + y)) = Int32.ofInt x + Int32.ofInt y := by rw [q_ow, Int32.ofInt_add]
theorem q_sub (x y : Int) : Int32.ofInt (q_w32 (x - y)) = Int32.ofInt x - Int32.ofInt y := by rw [q_ow, Int32.ofInt_sub]
theorem q_mul (x y : Int) : Int32.ofInt (q_w32 (x * y)) = Int32.ofInt x * Int32.ofInt y := by rw [q_ow, Int32.ofInt_mul]
theorem q_neg (x : Int) : Int32.ofInt (q_w32 (-x)) = -Int32.ofInt x := by rw [q_ow, Int32.ofInt_neg]
theorem q_addl (x y : Int) : Int64.ofInt (q_w64 (x + y)) = Int64.ofInt x + Int64.ofInt y := by rw [q_owl, Int64.ofInt_add]
theorem q_subl (x y : Int) : Int64.ofInt (q_w64 (x - y)) = Int64.ofInt x - Int64.ofInt y := by rw [q_owl, Int64.ofInt_sub]
theorem q_mull (x y : Int) : Int64.ofInt (q_w64 (x * y)) = Int64.ofInt x * Int64.ofInt y := by rw [q_owl, Int64.ofInt_mul]
theorem q_div {x y : Int} (hx : q_i32 x) (hy : q_i32 y) : Int32.ofInt (q_w32 (x.tdiv y)) = Int32.ofInt x / Int32.ofInt y := by
  apply Int32.toInt_inj.mp
  rw [q_t32, Int32.toInt_div, q_t32i hx, q_t32i hy, q_bm32]
  exact q_w32_id (q_w32_in _).1 (q_w32_in _).2
theorem q_rem {x y : Int} (hx : q_i32 x) (hy : q_i32 y) : Int32.ofInt (x.tmod y) = Int32.ofInt x - Int32.ofInt x / Int32.ofInt y * Int32.ofInt y := by
  rw [← q_div hx hy, q_ow, ← Int32.ofInt_mul, ← Int32.ofInt_sub, Int.tmod_def, Int.mul_comm]
theorem q_divl {x y : Int} (hx : q_i64 x) (hy : q_i64 y) : Int64.ofInt (q_w64 (x.tdiv y)) = Int64.ofInt x / Int64.ofInt y := by
  apply Int64.toInt_inj.mp
  rw [q_t64, Int64.toInt_div, q_t64i hx, q_t64i hy, q_bm64]
  exact q_w64_id (q_w64_in _).1 (q_w64_in _).2
theorem q_reml {x y : Int} (hx : q_i64 x) (hy : q_i64 y) : Int64.ofInt (x.tmod y) = Int64.ofInt x - Int64.ofInt x / Int64.ofInt y * Int64.ofInt y := by
  rw [← q_divl hx hy, q_owl, ← Int64.ofInt_mul, ← Int64.ofInt_sub, Int.tmod_def, Int.mul_comm]
theorem q_tmod_in {x y : Int} (hx : q_i32 x) : q_i32 (x.tmod y) := by
  have h1 := Int.natAbs_tmod x y
  have h2 : x.natAbs % y.natAbs ≤ x.natAbs := Nat.mod_le _ _
  unfold q_i32 at *
  by_cases h : 0 ≤ x
  · have := Int.tmod_nonneg y h
    omega
  · have : x.tmod y = -((-x).tmod y) := by rw [Int.neg_tmod]; simp
    have := Int.tmod_nonneg y (show 0 ≤ -x by omega)
    omega
theorem q_tmod_inl {x y : Int} (hx : q_i64 x) : q_i64 (x.tmod y) := by
  have h1 := Int.natAbs_tmod x y
  have h2 : x.natAbs % y.natAbs ≤ x.natAbs := Nat.mod_le _ _
  unfold q_i64 at *
  by_cases h : 0 ≤ x
  · have := Int.tmod_nonneg y h
    omega
  · have : x.tmod y = -((-x).tmod y) := by rw [Int.neg_tmod]; simp
    have := Int.tmod_nonneg y (show 0 ≤ -x by omega)
    omega
theorem q_lt {x y : Int} (hx : q_i32 x) (hy : q_i32 y) : Int32.ofInt x < Int32.ofInt y ↔ x < y := by rw [Int32.lt_iff_toInt_lt, q_t32i hx, q_t32i hy]
theorem q_le {x y : Int} (hx : q_i32 x) (hy : q_i32 y) : Int32.ofInt x ≤ Int32.ofInt y ↔ x ≤ y := by rw [Int32.le_iff_toInt_le, q_t32i hx, q_t32i hy]
theorem q_eq {x y : Int} (hx : q_i32 x) (hy : q_i32 y) : Int32.ofInt x = Int32.ofInt y ↔ x = y := by rw [← Int32.toInt_inj, q_t32i hx, q_t32i hy]
theorem q_ltl {x y : Int} (hx : q_i64 x) (hy : q_i64 y) : Int64.ofInt x < Int64.ofInt y ↔ x < y := by rw [Int64.lt_iff_toInt_lt, q_t64i hx, q_t64i hy]
theorem q_eql {x y : Int} (hx : q_i64 x) (hy : q_i64 y) : Int64.ofInt x = Int64.ofInt y ↔ x = y := by rw [← Int64.toInt_inj, q_t64i hx, q_t64i hy]
theorem q_bv32 (x : Int) : (Int32.ofInt x).toBitVec = BitVec.ofInt 32 x := rfl
theorem q_bv64 (x : Int) : (Int64.ofInt x).toBitVec = BitVec.ofInt 64 x := rfl
theorem q_and (x y : Int) : Int32.ofInt (q_and32 x y) = Int32.ofInt x &&& Int32.ofInt y := by
  apply Int32.toBitVec_inj.mp
  rw [q_bv32, Int32.toBitVec_and, q_bv32, q_bv32, q_and32, BitVec.ofInt_toInt]
theorem q_or (x y : Int) : Int32.ofInt (q_or32 x y) = Int32.ofInt x ||| Int32.ofInt y := by
  apply Int32.toBitVec_inj.mp
  rw [q_bv32, Int32.toBitVec_or, q_bv32, q_bv32, q_or32, BitVec.ofInt_toInt]
theorem q_andl (x y : Int) : Int64.ofInt (q_and64 x y) = Int64.ofInt x &&& Int64.ofInt y := by
  apply Int64.toBitVec_inj.mp
  rw [q_bv64, Int64.toBitVec_and, q_bv64, q_bv64, q_and64, BitVec.ofInt_toInt]
theorem q_orl (x y : Int) : Int64.ofInt (q_or64 x y) = Int64.ofInt x ||| Int64.ofInt y := by
  apply Int64.toBitVec_inj.mp
  rw [q_bv64, Int64.toBitVec_or, q_bv64, q_bv64, q_or64, BitVec.ofInt_toInt]
theorem q_bvin32 (b : BitVec 32) : q_i32 b.toInt := by
  have h1 := BitVec.toInt_lt (x := b)
  have h2 := BitVec.le_toInt (x := b)
  unfold q_i32
  simp at h1 h2
  omega
theorem q_bvin64 (b : BitVec 64) : q_i64 b.toInt := by
  have h1 := BitVec.toInt_lt (x := b)
  have h2 := BitVec.le_toInt (x := b)
  unfold q_i64
  simp at h1 h2
  omega
theorem q_i2l {x : Int} (hx : q_i32 x) : (Int32.ofInt x).toInt64 = Int64.ofInt x := by
  apply Int64.toInt_inj.mp
  rw [Int32.toInt_toInt64, q_t32i hx, q_t64i]
  unfold q_i32 at hx; unfold q_i64; omega
theorem q_l2i {x : Int} (hx : q_i64 x) : (Int64.ofInt x).toInt32 = Int32.ofInt (q_w32 x) := by
  apply Int32.toInt_inj.mp
  rw [Int64.toInt_toInt32, q_t64i hx, q_bm32, q_t32]
  exact (q_w32_id (q_w32_in x).1 (q_w32_in x).2).symm
theorem q_s32 : ∀ k : Nat, k < 32 → ((nI k).toBitVec.smod 32).toNat = k := by decide +kernel
theorem q_sm (y : Int) : ((Int32.ofInt y &&& 31).toBitVec.smod 32).toNat = (y % 32).toNat := by
  rw [pk_and (Int32.ofInt y) (m := 31) 5 (by decide), q_bv32, BitVec.toNat_ofInt]
  rw [q_s32 _ (by omega)]
  omega
theorem q_shl (x y : Int) : Int32.ofInt (q_w32 (x * 2 ^ (y % 32).toNat)) = Int32.ofInt x <<< (Int32.ofInt y &&& 31) := by
  apply Int32.toBitVec_inj.mp
  apply BitVec.eq_of_toNat_eq
  rw [pk_shl _ _ _ (q_sm y), q_ow, q_bv32, q_bv32, BitVec.toNat_ofInt, BitVec.toNat_ofInt]
  have e : ∀ p : Nat, (x * (p : Int) % 4294967296).toNat = (x % 4294967296).toNat * p % 4294967296 := by
    intro p
    have h1 : x * (p : Int) % 4294967296 = (x % 4294967296) * p % 4294967296 := by rw [Int.mul_emod x p, Int.mul_emod (x % 4294967296) p, Int.emod_emod]
    have h2 : 0 ≤ x % 4294967296 := by omega
    obtain ⟨n, hn⟩ := Int.eq_ofNat_of_zero_le h2
    rw [h1, hn]
    have : ((n : Int) * (p : Int) % 4294967296) = ((n * p % 4294967296 : Nat) : Int) := by simp
    rw [this, Int.toNat_natCast, Int.toNat_natCast]
  have := e (2 ^ (y % 32).toNat)
  simpa using this
theorem q_shr {x : Int} (hx : q_i32 x) (y : Int) : Int32.ofInt (x / 2 ^ (y % 32).toNat) = Int32.ofInt x >>> (Int32.ofInt y &&& 31) := by
  apply Int32.toInt_inj.mp
  rw [pk_shr _ _ _ (q_sm y), q_t32i hx, Int.shiftRight_eq_div_pow]
  have hb : q_i32 (x / 2 ^ (y % 32).toNat) := by
    unfold q_i32 at *
    have hp : (0 : Int) < 2 ^ (y % 32).toNat := Int.pow_pos (by decide)
    constructor
    · apply (Int.le_ediv_iff_mul_le hp).mpr
      generalize (2 : Int) ^ (y % 32).toNat = p at hp
      omega
    · have h1 : x / 2 ^ (y % 32).toNat ≤ 2147483647 / 2 ^ (y % 32).toNat := Int.ediv_le_ediv hp hx.2
      have h2 : (2147483647 : Int) / 2 ^ (y % 32).toNat ≤ 2147483647 := Int.ediv_le_self _ (by decide)
      omega
  rw [q_t32i hb]
  norm_cast
theorem q_s64 : ∀ k : Nat, k < 64 → ((Int64.ofNat k).toBitVec.smod 64).toNat = k := by decide +kernel
theorem q_a63 (y : Int) : Int64.ofInt y &&& 63 = Int64.ofNat (y % 64).toNat := by
  apply Int64.toBitVec_inj.mp
  apply BitVec.eq_of_toNat_eq
  rw [Int64.toBitVec_and, q_bv64, BitVec.toNat_and, BitVec.toNat_ofInt]
  have h : (63 : Int64).toBitVec.toNat = 2 ^ 6 - 1 := by decide
  rw [h, Nat.and_two_pow_sub_one_eq_mod]
  show _ = (BitVec.ofNat 64 (y % 64).toNat).toNat
  rw [BitVec.toNat_ofNat]
  omega
theorem q_sml {y : Int} (hy : q_i32 y) : (((Int32.ofInt y).toInt64 &&& 63).toBitVec.smod 64).toNat = (y % 64).toNat := by
  rw [q_i2l hy, q_a63]
  exact q_s64 _ (by omega)
theorem q_shll (x : Int) {y : Int} (hy : q_i32 y) : Int64.ofInt x <<< ((Int32.ofInt y).toInt64 &&& 63) = Int64.ofInt (q_w64 (x * 2 ^ (y % 64).toNat)) := by
  apply Int64.toBitVec_inj.mp
  apply BitVec.eq_of_toNat_eq
  rw [Int64.toBitVec_shiftLeft, BitVec.shiftLeft_eq', q_sml hy, BitVec.toNat_shiftLeft, Nat.shiftLeft_eq, q_owl, q_bv64, q_bv64, BitVec.toNat_ofInt, BitVec.toNat_ofInt]
  have e : ∀ p : Nat, (x * (p : Int) % 18446744073709551616).toNat = (x % 18446744073709551616).toNat * p % 18446744073709551616 := by
    intro p
    have h1 : x * (p : Int) % 18446744073709551616 = (x % 18446744073709551616) * p % 18446744073709551616 := by rw [Int.mul_emod x p, Int.mul_emod (x % 18446744073709551616) p, Int.emod_emod]
    have h2 : 0 ≤ x % 18446744073709551616 := by omega
    obtain ⟨n, hn⟩ := Int.eq_ofNat_of_zero_le h2
    rw [h1, hn]
    have : ((n : Int) * (p : Int) % 18446744073709551616) = ((n * p % 18446744073709551616 : Nat) : Int) := by simp
    rw [this, Int.toNat_natCast, Int.toNat_natCast]
  have := e (2 ^ (y % 64).toNat)
  simpa using this.symm
theorem q_ediv_in64 {x : Int} (hx : q_i64 x) (k : Nat) : q_i64 (x / 2 ^ k) := by
  unfold q_i64 at *
  have hp : (0 : Int) < 2 ^ k := Int.pow_pos (by decide)
  constructor
  · apply (Int.le_ediv_iff_mul_le hp).mpr
    generalize (2 : Int) ^ k = p at hp
    omega
  · have h1 : x / 2 ^ k ≤ 9223372036854775807 / 2 ^ k := Int.ediv_le_ediv hp hx.2
    have h2 : (9223372036854775807 : Int) / 2 ^ k ≤ 9223372036854775807 := Int.ediv_le_self _ (by decide)
    omega
theorem q_ediv_in32 {x : Int} (hx : q_i32 x) (k : Nat) : q_i32 (x / 2 ^ k) := by
  unfold q_i32 at *
  have hp : (0 : Int) < 2 ^ k := Int.pow_pos (by decide)
  constructor
  · apply (Int.le_ediv_iff_mul_le hp).mpr
    generalize (2 : Int) ^ k = p at hp
    omega
  · have h1 : x / 2 ^ k ≤ 2147483647 / 2 ^ k := Int.ediv_le_ediv hp hx.2
    have h2 : (2147483647 : Int) / 2 ^ k ≤ 2147483647 := Int.ediv_le_self _ (by decide)
    omega
theorem q_shrl {x y : Int} (hx : q_i64 x) (hy : q_i32 y) : Int64.ofInt x >>> ((Int32.ofInt y).toInt64 &&& 63) = Int64.ofInt (x / 2 ^ (y % 64).toNat) := by
  apply Int64.toInt_inj.mp
  have h : ∀ a b : Int64, (a >>> b).toInt = a.toInt >>> (b.toBitVec.smod 64).toNat := by
    intro a b
    show (a >>> b).toBitVec.toInt = _
    rw [Int64.toBitVec_shiftRight, BitVec.sshiftRight_eq', BitVec.toInt_sshiftRight]
    rfl
  rw [h, q_sml hy, q_t64i hx, q_t64i (q_ediv_in64 hx _), Int.shiftRight_eq_div_pow]
  norm_cast
theorem q_ushrl {x y : Int} (hy : q_i32 y) : ((Int64.ofInt x).toUInt64 >>> ((Int32.ofInt y).toInt64.toUInt64 &&& Int64.toUInt64 63)).toInt64 = Int64.ofInt (q_w64 (x % 18446744073709551616 / 2 ^ (y % 64).toNat)) := by
  apply Int64.toBitVec_inj.mp
  apply BitVec.eq_of_toNat_eq
  have e1 : ((Int32.ofInt y).toInt64.toUInt64 &&& Int64.toUInt64 63) = ((Int32.ofInt y).toInt64 &&& 63).toUInt64 := rfl
  rw [e1, q_i2l hy, q_a63]
  have hs : ∀ k : Nat, k < 64 → ((Int64.ofNat k).toUInt64.toBitVec % 64).toNat = k := by decide +kernel
  show ((Int64.ofInt x).toUInt64 >>> (Int64.ofNat (y % 64).toNat).toUInt64).toBitVec.toNat = _
  rw [UInt64.toBitVec_shiftRight, BitVec.ushiftRight_eq', hs _ (by omega), BitVec.toNat_ushiftRight, q_owl, q_bv64, BitVec.toNat_ofInt]
  show (BitVec.ofInt 64 x).toNat >>> (y % 64).toNat = _
  rw [BitVec.toNat_ofInt, Nat.shiftRight_eq_div_pow]
  have h2 : 0 ≤ x % 18446744073709551616 := by omega
  obtain ⟨n, hn⟩ := Int.eq_ofNat_of_zero_le h2
  have hlt : n < 18446744073709551616 := by omega
  have h3 : n / 2 ^ (y % 64).toNat ≤ n := Nat.div_le_self _ _
  have h4 : ((n : Int) / 2 ^ (y % 64).toNat) = ((n / 2 ^ (y % 64).toNat : Nat) : Int) := by simp
  simp only [Nat.reducePow, Int.cast_ofNat_Int]
  rw [hn, h4, Int.toNat_natCast]
  generalize n / 2 ^ (y % 64).toNat = z at h3 ⊢
  omega
theorem q_i2c {x : Int} : ((Int32.ofInt x).toUInt32 % 65536).toInt32 = Int32.ofInt (x % 65536) := by
  rw [pk_char]
  apply Int32.toBitVec_inj.mp
  apply BitVec.eq_of_toNat_eq
  rw [q_bv32, BitVec.toNat_ofInt, q_bv32]
  show (BitVec.ofNat 32 _).toNat = _
  rw [BitVec.toNat_ofNat, BitVec.toNat_ofInt]
  omega
end
section
/-! the world that a layout and a function stand for -/
abbrev q_G : Type := va_G × (ClassId × ClassId × ClassId × ClassId) × (Nat → Nat) × (Nat → Value)
def q_cv (G : q_G) (v : q_V) : Value :=
  match v with
  | (0, x) => .int (Int32.ofInt x)
  | (1, x) => .long (Int64.ofInt x)
  | (2, x) => .ref (G.2.2.1 x.toNat)
  | (4, x) => G.2.2.2 x.toNat
  | _ => .null
def q_sv (G : q_G) (σ : q_S) (k j : Nat) (s : q_V) : Value :=
  match s with
  | (2, x) => .ref (G.2.2.1 x.toNat)
  | _ => .int (Int32.ofInt (σ k j))
def q_ce (G : q_G) (σ : q_S) (k : Nat) (c : q_C) : va_E :=
  match c with
  | (0, ci, fs) => .inr (ci, fs.mapIdx (fun j s => q_sv G σ k j s))
  | (1, n, _) => .inl (G.2.1.1, n, .inl (fun j => Int32.ofInt (σ k j)))
  | (2, n, _) => .inl (G.2.1.2.1, n, .inl (fun j => Int32.ofInt (σ k j)))
  | (3, n, _) => .inl (G.2.1.2.2.1, n, .inr (.inl (fun j => Int64.ofInt (σ k j))))
  | (_, n, fs) => .inl (G.2.1.2.2.2, n, .inr (.inr (.inr (.inr (fun j => some (G.2.2.1 (fs.getD j (9, 0)).2.toNat))))))
def q_ws (G : q_G) (lay : List q_C) (σ : q_S) : va_W := lay.mapIdx (fun k c => (G.2.2.1 k, q_ce G σ k c))
theorem q_ws_get {G : q_G} {lay : List q_C} {σ : q_S} {k : Nat} {c : q_C} (h : lay[k]? = some c) : (q_ws G lay σ)[k]? = some (G.2.2.1 k, q_ce G σ k c) := by
  unfold q_ws
  rw [List.getElem?_mapIdx, h]
  rfl
theorem q_at_some {lay : List q_C} {r : Int} {c : q_C} (h : q_at lay r = c) (h9 : c.1 ≠ 9) : ∃ m : Nat, r = (m : Int) ∧ lay[m]? = some c := by
  cases r with
  | ofNat m =>
    refine ⟨m, rfl, ?_⟩
    have h : lay.getD m (9, 0, []) = c := h
    rw [List.getD_eq_getElem?_getD] at h
    cases hm : lay[m]? with
    | none => rw [hm] at h; subst h; exact absurd rfl h9
    | some d => rw [hm] at h; exact congrArg some h
  | negSucc m =>
    have h : ((9, 0, []) : q_C) = c := h
    subst h
    exact absurd rfl h9
theorem q_ax_some {xt : List q_X} {r : Int} {c : q_X} (h : q_ax xt r = c) (h9 : c.1 ≠ 9) : ∃ m : Nat, r = (m : Int) ∧ xt[m]? = some c := by
  cases r with
  | ofNat m =>
    refine ⟨m, rfl, ?_⟩
    have h : xt.getD m (9, 0, fun _ => 0) = c := h
    rw [List.getD_eq_getElem?_getD] at h
    cases hm : xt[m]? with
    | none => rw [hm] at h; subst h; exact absurd rfl h9
    | some d => rw [hm] at h; exact congrArg some h
  | negSucc m =>
    have h : ((9, 0, fun _ => 0) : q_X) = c := h
    subst h
    exact absurd rfl h9
/-- a write at a cell: the other cells stay -/
theorem q_ce_ne {G : q_G} {σ : q_S} {k m : Nat} {i v : Int} (h : k ≠ m) (c : q_C) : q_ce G (q_up σ m i v) k c = q_ce G σ k c := by
  have e : ∀ j : Int, q_up σ m i v k j = σ k j := fun j => by unfold q_up; rw [if_neg (by omega)]
  have e2 : ∀ (j : Nat) (s : q_V), q_sv G (q_up σ m i v) k j s = q_sv G σ k j s := by
    intro j s
    unfold q_sv
    split
    · rfl
    · rw [e]
  unfold q_ce
  split
  · simp only [e2]
  · simp only [e]
  · simp only [e]
  · simp only [e]
  · rfl
theorem q_ws_up {G : q_G} {lay : List q_C} {σ : q_S} {m : Nat} {c : q_C} {i v : Int} (h : lay[m]? = some c) : q_ws G lay (q_up σ m i v) = (q_ws G lay σ).set m (G.2.2.1 m, q_ce G (q_up σ m i v) m c) := by
  apply List.ext_getElem?
  intro k
  rw [List.getElem?_set]
  unfold q_ws
  simp only [List.getElem?_mapIdx, List.length_mapIdx]
  by_cases hk : m = k
  · subst hk
    rw [if_pos rfl, if_pos (List.getElem?_eq_some_iff.mp h).1, h]
    rfl
  · rw [if_neg hk]
    cases hl : lay[k]? with
    | none => rfl
    | some d =>
      simp only [Option.map_some]
      rw [q_ce_ne (fun e => hk e.symm)]
/-- values that are what they say -/
def q_c1 (v : q_V) : Prop := (v.1 = 0 → q_i32 v.2) ∧ (v.1 = 1 → q_i64 v.2)
def q_cs (l : List q_V) : Prop := ∀ v ∈ l, q_c1 v
def q_cm (lay : List q_C) (σ : q_S) : Prop := ∀ (k : Nat) (c : q_C) (j : Int), lay[k]? = some c → (c.1 = 3 → q_i64 (σ k j)) ∧ (c.1 ≠ 3 → q_i32 (σ k j))
def q_cx (xt : List q_X) : Prop := ∀ (k : Nat) (c : q_X) (j : Int), xt[k]? = some c → q_i32 (c.2.2 j)
theorem q_cs_cons {v : q_V} {l : List q_V} : q_cs (v :: l) ↔ q_c1 v ∧ q_cs l := by unfold q_cs; simp
theorem q_cs_nil : q_cs [] := fun v h => by cases h
theorem q_c1_0 {x : Int} (h : q_i32 x) : q_c1 (0, x) := ⟨fun _ => h, fun e => by cases e⟩
theorem q_c1_1 {x : Int} (h : q_i64 x) : q_c1 (1, x) := ⟨fun e => (by cases e), fun _ => h⟩
theorem q_c1_o {n : Nat} {x : Int} (h : 2 ≤ n) : q_c1 (n, x) := ⟨fun e => by simp only at e; omega, fun e => by simp only at e; omega⟩
theorem q_cs_set {l : List q_V} {k : Nat} {v : q_V} (hl : q_cs l) (hv : q_c1 v) : q_cs (l.set k v) := fun w hw => by
  rcases List.mem_or_eq_of_mem_set hw with h | h
  · exact hl w h
  · rw [h]; exact hv
theorem q_cm_up {lay : List q_C} {σ : q_S} {m : Nat} {c : q_C} {i v : Int} (h : q_cm lay σ) (hm : lay[m]? = some c) (hv : (c.1 = 3 → q_i64 v) ∧ (c.1 ≠ 3 → q_i32 v)) : q_cm lay (q_up σ m i v) := by
  intro k d j hk
  have hs := h k d j hk
  unfold q_up
  by_cases e : (k : Int) = m
  · have e2 : k = m := by omega
    subst e2
    rw [hk] at hm
    cases hm
    rw [if_pos rfl]
    split
    · exact hv
    · exact hs
  · rw [if_neg e]; exact hs
/-- the locals -/
def q_HL (G : q_G) (sl : Array Slot) (nL : Nat) (ls : List q_V) : Prop := ls.length = nL ∧ sl.size = nL ∧ lv_wf sl ∧ ∀ (k : Nat) (v : q_V), ls[k]? = some v → v.1 ≤ 4 → sl[k]? = some (.val (q_cv G v))
def q_lv (G : q_G) (ls : List q_V) : List (Nat × Value) := ((ls.mapIdx (fun k v => (k, v))).filter (fun q => q.2.1 ≤ 4)).map (fun q => (q.1, q_cv G q.2))
theorem q_lv_mem {G : q_G} {ls : List q_V} {k : Nat} {w : Value} : (k, w) ∈ q_lv G ls ↔ ∃ v, ls[k]? = some v ∧ v.1 ≤ 4 ∧ w = q_cv G v := by
  unfold q_lv
  constructor
  · intro h
    obtain ⟨q, hq, he⟩ := List.mem_map.mp h
    obtain ⟨h1, h2⟩ := List.mem_filter.mp hq
    obtain ⟨i, hi, e⟩ := List.mem_mapIdx.mp h1
    cases he
    rw [← e] at h2 ⊢
    exact ⟨ls[i], List.getElem?_eq_getElem hi, by simpa using h2, rfl⟩
  · rintro ⟨v, h1, h2, h3⟩
    obtain ⟨hk, e⟩ := List.getElem?_eq_some_iff.mp h1
    refine List.mem_map.mpr ⟨(k, v), List.mem_filter.mpr ⟨List.mem_mapIdx.mpr ⟨k, hk, by rw [e]⟩, by simpa using h2⟩, by rw [h3]⟩
theorem q_HL_has {G : q_G} {sl : Array Slot} {nL : Nat} {ls : List q_V} (h : q_HL G sl nL ls) : lv_has sl nL (q_lv G ls) := by
  refine ⟨h.2.1, h.2.2.1, ?_⟩
  rintro ⟨k, w⟩ hq
  obtain ⟨v, h1, h2, h3⟩ := q_lv_mem.mp hq
  rw [h3]
  exact h.2.2.2 k v h1 h2
/-- what the things outside are: each a reference or null -/
def q_xr (G : q_G) : Prop := ∀ r : Nat, (∃ t, G.2.2.2 r = .ref t) ∨ (r = 2 ∧ G.2.2.2 r = .null)
theorem q_cat1 {G : q_G} (hx : q_xr G) {v : q_V} (h : v.1 ≠ 1) : (q_cv G v).category = 1 := by
  obtain ⟨n, x⟩ := v
  unfold q_cv
  split
  · rfl
  · rename_i e; cases e; exact absurd rfl h
  · rfl
  · rename_i y e
    rcases hx y.toNat with ⟨t, e⟩ | ⟨-, e⟩ <;> rw [e] <;> rfl
  · rfl
theorem q_cat2 {G : q_G} {x : Int} : (q_cv G (1, x)).category = 2 := rfl
theorem q_HL_st1 {G : q_G} (hx : q_xr G) {sl sl' : Array Slot} {nL : Nat} {ls : List q_V} {i : Nat} {v : q_V} (h : q_HL G sl nL ls) (hp : ¬ ((ls.getD (i - 1) (9, 0)).1 = 1 ∧ 0 < i))
    (h' : lv_has sl' nL ((i, q_cv G v) :: (q_lv G ls).filter (fun q => !(q.1 == i) && !(q.1 + 1 == i && q.2.category == 2)))) : q_HL G sl' nL (ls.set i v) := by
  refine ⟨by rw [List.length_set]; exact h.1, h'.1, h'.2.1, ?_⟩
  intro k w hk hw
  by_cases e : i = k
  · subst e
    rw [List.getElem?_set] at hk
    rw [if_pos rfl] at hk
    split at hk
    · cases hk
      exact h'.2.2 (i, q_cv G v) List.mem_cons_self
    · cases hk
  · rw [List.getElem?_set_ne e] at hk
    refine h'.2.2 (k, q_cv G w) (List.mem_cons_of_mem _ (List.mem_filter.mpr ⟨q_lv_mem.mpr ⟨w, hk, hw, rfl⟩, ?_⟩))
    have e1 : (k == i) = false := by simp; omega
    by_cases e2 : k + 1 = i
    · have hc : (q_cv G w).category = 1 := q_cat1 hx (fun hw1 => hp ⟨by
        rw [show i - 1 = k by omega, List.getD_eq_getElem?_getD, hk]; exact hw1, by omega⟩)
      simp [e1, hc]
    · simp [e1, e2]
theorem q_HL_st2 {G : q_G} (hx : q_xr G) {sl sl' : Array Slot} {nL : Nat} {ls : List q_V} {i : Nat} {v : q_V} (h : q_HL G sl nL ls) (hp : ¬ ((ls.getD (i - 1) (9, 0)).1 = 1 ∧ 0 < i))
    (h' : lv_has sl' nL ((i, q_cv G v) :: (q_lv G ls).filter (fun q => !(q.1 == i) && (!(q.1 == i + 1) && !(q.1 + 1 == i && q.2.category == 2))))) : q_HL G sl' nL ((ls.set i v).set (i + 1) (9, 0)) := by
  refine ⟨by rw [List.length_set, List.length_set]; exact h.1, h'.1, h'.2.1, ?_⟩
  intro k w hk hw
  by_cases e3 : i + 1 = k
  · subst e3
    rw [List.getElem?_set] at hk
    rw [if_pos rfl] at hk
    split at hk
    · cases hk
      exact absurd hw (by decide)
    · cases hk
  · rw [List.getElem?_set_ne e3] at hk
    by_cases e : i = k
    · subst e
      rw [List.getElem?_set] at hk
      rw [if_pos rfl] at hk
      split at hk
      · cases hk
        exact h'.2.2 (i, q_cv G v) List.mem_cons_self
      · cases hk
    · rw [List.getElem?_set_ne e] at hk
      refine h'.2.2 (k, q_cv G w) (List.mem_cons_of_mem _ (List.mem_filter.mpr ⟨q_lv_mem.mpr ⟨w, hk, hw, rfl⟩, ?_⟩))
      have e1 : (k == i) = false := by simp; omega
      have e4 : (k == i + 1) = false := by simp; omega
      by_cases e2 : k + 1 = i
      · have hc : (q_cv G w).category = 1 := q_cat1 hx (fun hw1 => hp ⟨by
          rw [show i - 1 = k by omega, List.getD_eq_getElem?_getD, hk]; exact hw1, by omega⟩)
        simp [e1, e4, hc]
      · simp [e1, e4, e2]
/-- the entry -/
theorem q_ent_args {G : q_G} (hx : q_xr G) : ∀ (as : List q_V) (o : Nat) (tl : List q_V) (k : Nat) (w : q_V), (∀ w ∈ tl, 4 < w.1) → (q_sl as ++ tl)[k]? = some w → w.1 ≤ 4 → (o + k, q_cv G w) ∈ lv_args o (as.map (q_cv G)) := by
  intro as
  induction as with
  | nil =>
    intro o tl k w ht hk hw
    have : w ∈ tl := List.mem_of_getElem? hk
    exact absurd hw (by have := ht w this; omega)
  | cons v as ih =>
    intro o tl k w ht hk hw
    obtain ⟨n, x⟩ := v
    by_cases hn : n = 1
    · subst hn
      have e : q_sl ((1, x) :: as) = (1, x) :: (9, 0) :: q_sl as := rfl
      rw [e] at hk
      simp only [List.map_cons, lv_args, q_cat2, if_true]
      match k, hk with
      | 0, hk => cases hk; exact List.mem_cons_self
      | 1, hk => cases hk; exact absurd hw (by decide)
      | k + 2, hk =>
        have h := ih (o + 2) tl k w ht hk hw
        rw [show o + (k + 2) = o + 2 + k by omega]
        exact List.mem_cons_of_mem _ h
    · have e : q_sl ((n, x) :: as) = (n, x) :: q_sl as := by
        rw [q_sl.eq_def]
        split
        · rename_i h; cases h; exact absurd rfl hn
        · rename_i h; cases h; rfl
        · rename_i h; cases h
      rw [e] at hk
      have hc : (q_cv G (n, x)).category = 1 := q_cat1 hx hn
      simp only [List.map_cons, lv_args, hc]
      match k, hk with
      | 0, hk => cases hk; exact List.mem_cons_self
      | k + 1, hk =>
        have h := ih (o + 1) tl k w ht hk hw
        rw [show o + (k + 1) = o + 1 + k by omega]
        exact List.mem_cons_of_mem _ h
theorem q_sl_len {G : q_G} (hx : q_xr G) : ∀ as : List q_V, (lg_sl (as.map (q_cv G))).length = (q_sl as).length := by
  intro as
  induction as with
  | nil => rfl
  | cons v as ih =>
    obtain ⟨n, x⟩ := v
    have e0 : lg_sl ((q_cv G (n, x)) :: as.map (q_cv G)) = (if (q_cv G (n, x)).category = 2 then [.val (q_cv G (n, x)), .second] else [.val (q_cv G (n, x))]) ++ lg_sl (as.map (q_cv G)) := by unfold lg_sl; rw [List.flatMap_cons]
    rw [List.map_cons, e0]
    by_cases hn : n = 1
    · subst hn
      rw [q_cat2, if_pos rfl, show q_sl ((1, x) :: as) = (1, x) :: (9, 0) :: q_sl as from rfl]
      simp [ih]
    · have e : q_sl ((n, x) :: as) = (n, x) :: q_sl as := by
        rw [q_sl.eq_def]
        split
        · rename_i h; cases h; exact absurd rfl hn
        · rename_i h; cases h; rfl
        · rename_i h; cases h
      rw [q_cat1 hx (v := (n, x)) hn, if_neg (by decide), e]
      simp [ih]
theorem q_HL_ent {G : q_G} (hx : q_xr G) {as : List q_V} {n : Nat} (h : (q_sl as).length ≤ n) :
    q_HL G ((lg_sl (as.map (q_cv G)) ++ List.replicate (n - (lg_sl (as.map (q_cv G))).length) Slot.unset).toArray) n (q_sl as ++ List.replicate (n - (q_sl as).length) (9, 0)) := by
  obtain ⟨h1, h2, h3⟩ := lv_entry (as.map (q_cv G)) (n := n) (by rw [q_sl_len hx]; exact h)
  refine ⟨by simp; omega, h1, h2, ?_⟩
  intro k w hk hw
  have := q_ent_args hx as 0 _ k w (fun w hw => by rw [(List.mem_replicate.mp hw).2]; decide) hk hw
  rw [Nat.zero_add] at this
  exact h3 _ this
end
