def q_vf (i : Nat) : Bool := match q_yt[i]? with
  | some y => (match q_mt[i]? with
    | some m => q_mK q_T0 q_zs y m
    | none => false)
  | none => false
def q_fa (f : Nat → Bool) : Nat → Nat → Prop
  | _, 0 => True
  | i, n + 1 => f i = true ∧ q_fa f (i + 1) n
theorem q_fa_ok {f : Nat → Bool} : ∀ (n i : Nat), q_fa f i n → ∀ j, i ≤ j → j < i + n → f j = true
  | 0, i, _, j, h1, h2 => by omega
  | n + 1, i, h, j, h1, h2 => by
    by_cases e : j = i
    · subst e; exact h.1
    · exact q_fa_ok n (i + 1) h.2 j (by omega) (by omega)
theorem q_va0 : q_fa q_vf 0 19 := ⟨v_Bank_add, v_Bank_beginTide, v_Bank_brokenInTide, v_Bank_meetSea, v_Bank_wearOf, v_Bank_breakDown, v_Bank_wearDown, v_Bank_runSluice, v_Courts_inForce, v_Courts_customOf, v_Custom_clear, v_Custom_addRule, v_Custom_ruleOf, v_Custom_value, v_Faults_begin, v_Faults_end, v_Faults_endIfMended, v_Faults_fineSoFar, v_Faults_owedBy, trivial⟩
theorem q_va1 : q_fa q_vf 19 19 := ⟨v_Faults_openOnes, v_Herds_add, v_Herds_alive, v_Herds_flee, v_Land_neighbour, v_Land_gateBetween, v_Land_isShut, v_Land_surface, v_Land_beginTide, v_Land_rainOnAll, v_Land_letSeaIn, v_Land_letOut, v_Land_spread, v_Land_settle, v_Land_flow, v_Land_notePeaks, v_Land_endTide, v_Land_passYear, v_Land_allWater, trivial⟩
theorem q_va2 : q_fa q_vf 38 19 := ⟨v_Land_refuge, v_Plan_draw, v_Plan_allNeeds, v_Plan_bestFor, v_Plan_consider, v_Plan_worthOf, v_Plan_handsFor, v_Sales_enter, v_Sales_partsOf, v_Sales_sumParts, v_Sales_greatestOwner, v_Sales_wouldOwe, v_Shares_lay, v_Shares_greatestRest, v_Shares_ownerAt, v_Tape_append, v_Tape_read, v_Tape_peek, v_Tape_take, trivial⟩
theorem q_va3 : q_fa q_vf 57 19 := ⟨v_Tape_takeAll, v_Tape_takeNumber, v_Tape_takeClause, v_Tape_takeValue, v_Tape_takeRule, v_Tape_takeHow, v_Ways_seek, v_Ways_moveCost, v_Ways_measure, v_Ways_improve, v_Ways_nearest, v_Ways_walkToGate, v_Ways_onward, v_A_level, v_A_cell, v_A_sell, v_A_held, v_A_rod, v_A_sluice, trivial⟩
theorem q_va4 : q_fa q_vf 76 19 := ⟨v_A_about, v_A_gate, v_A_herd, v_A_drive, v_A_where, v_A_way, v_A_tide, v_A_pass, v_A_year, v_A_feed, v_A_court, v_A_custom, v_A_mender, v_A_view, v_A_mend, v_A_fault, v_A_fines, v_A_mended, v_A_works, trivial⟩
theorem q_va5 : q_fa q_vf 95 19 := ⟨v_A_scot, v_A_count, v_A_within, v_A_isCell, v_A_isOwner, v_A_isDay, v_A_isRod, v_A_isHerd, v_A_customNow, v_A_isDue, v_A_runHour, v_A_whoMends, v_M_in, v_M_isCell, v_M_isOwner, v_M_isRod, v_M_level, v_M_surface, v_M_cell, trivial⟩
theorem q_va6 : q_fa q_vf 114 19 := ⟨v_M_heldOf, v_M_heldAll, v_M_sell, v_M_held, v_M_rod, v_M_sluice, v_M_isDue, v_M_about, v_M_beside, v_M_isOpen, v_M_wayTo, v_M_gate, v_M_herd, v_M_isHerd, v_M_drive, v_M_where, v_M_reckons, v_M_nearest, v_M_way, trivial⟩
theorem q_va7 : q_fa q_vf 133 19 := ⟨v_M_comes, v_M_wears, v_M_stands, v_M_opens, v_M_levels, v_M_flees, v_M_hour, v_M_quarters, v_M_tide, v_M_pass, v_M_year, v_M_feed, v_M_byteAt, v_M_must, v_M_isDigit, v_M_number, v_M_word, v_M_readsRods, v_M_readsClause, trivial⟩
theorem q_va8 : q_fa q_vf 152 19 := ⟨v_M_readsCustom, v_M_court, v_M_customOf, v_M_hOf, v_M_vOf, v_M_custom, v_M_deals, v_M_menderOf, v_M_mender, v_M_endsFault, v_M_view, v_M_mend, v_M_fineOf, v_M_fault, v_M_fines, v_M_mended, v_M_worthOf, v_M_betters, v_M_chooses, trivial⟩
theorem q_va9 : q_fa q_vf 171 16 := ⟨v_M_works, v_M_scot, v_M_count, v_String_length, v_String_charAt, v_String_coder, v_String_isLatin1, v_String_checkIndex, v_Latin_charAt, v_Utf_getChar, v_Utf_length, v_Utf_charAt, v_Utf_checkIndex, v_Arrays_fill, v_Arrays_fillx, v_Prec_checkIndex, trivial⟩
theorem q_vlen : q_mt.length = 187 := by decide +kernel
theorem q_vall : ∀ j, j < 187 → q_vf j = true := by
  intro j hj
  by_cases h0 : j < 19
  · exact q_fa_ok 19 0 q_va0 j (by omega) (by omega)
  by_cases h1 : j < 38
  · exact q_fa_ok 19 19 q_va1 j (by omega) (by omega)
  by_cases h2 : j < 57
  · exact q_fa_ok 19 38 q_va2 j (by omega) (by omega)
  by_cases h3 : j < 76
  · exact q_fa_ok 19 57 q_va3 j (by omega) (by omega)
  by_cases h4 : j < 95
  · exact q_fa_ok 19 76 q_va4 j (by omega) (by omega)
  by_cases h5 : j < 114
  · exact q_fa_ok 19 95 q_va5 j (by omega) (by omega)
  by_cases h6 : j < 133
  · exact q_fa_ok 19 114 q_va6 j (by omega) (by omega)
  by_cases h7 : j < 152
  · exact q_fa_ok 19 133 q_va7 j (by omega) (by omega)
  by_cases h8 : j < 171
  · exact q_fa_ok 19 152 q_va8 j (by omega) (by omega)
  by_cases h9 : j < 187
  · exact q_fa_ok 16 171 q_va9 j (by omega) (by omega)
  exact absurd hj (by omega)
def q_uf (i : Nat) : Bool := match q_yt[i]? with
  | some y => (match q_zs[i]? with
    | some z => q_yc q_T0 y z
    | none => false)
  | none => false
theorem q_ua0 : q_fa q_uf 0 19 := ⟨u_Bank_add, u_Bank_beginTide, u_Bank_brokenInTide, u_Bank_meetSea, u_Bank_wearOf, u_Bank_breakDown, u_Bank_wearDown, u_Bank_runSluice, u_Courts_inForce, u_Courts_customOf, u_Custom_clear, u_Custom_addRule, u_Custom_ruleOf, u_Custom_value, u_Faults_begin, u_Faults_end, u_Faults_endIfMended, u_Faults_fineSoFar, u_Faults_owedBy, trivial⟩
theorem q_ua1 : q_fa q_uf 19 19 := ⟨u_Faults_openOnes, u_Herds_add, u_Herds_alive, u_Herds_flee, u_Land_neighbour, u_Land_gateBetween, u_Land_isShut, u_Land_surface, u_Land_beginTide, u_Land_rainOnAll, u_Land_letSeaIn, u_Land_letOut, u_Land_spread, u_Land_settle, u_Land_flow, u_Land_notePeaks, u_Land_endTide, u_Land_passYear, u_Land_allWater, trivial⟩
theorem q_ua2 : q_fa q_uf 38 19 := ⟨u_Land_refuge, u_Plan_draw, u_Plan_allNeeds, u_Plan_bestFor, u_Plan_consider, u_Plan_worthOf, u_Plan_handsFor, u_Sales_enter, u_Sales_partsOf, u_Sales_sumParts, u_Sales_greatestOwner, u_Sales_wouldOwe, u_Shares_lay, u_Shares_greatestRest, u_Shares_ownerAt, u_Tape_append, u_Tape_read, u_Tape_peek, u_Tape_take, trivial⟩
theorem q_ua3 : q_fa q_uf 57 19 := ⟨u_Tape_takeAll, u_Tape_takeNumber, u_Tape_takeClause, u_Tape_takeValue, u_Tape_takeRule, u_Tape_takeHow, u_Ways_seek, u_Ways_moveCost, u_Ways_measure, u_Ways_improve, u_Ways_nearest, u_Ways_walkToGate, u_Ways_onward, u_A_level, u_A_cell, u_A_sell, u_A_held, u_A_rod, u_A_sluice, trivial⟩
theorem q_ua4 : q_fa q_uf 76 19 := ⟨u_A_about, u_A_gate, u_A_herd, u_A_drive, u_A_where, u_A_way, u_A_tide, u_A_pass, u_A_year, u_A_feed, u_A_court, u_A_custom, u_A_mender, u_A_view, u_A_mend, u_A_fault, u_A_fines, u_A_mended, u_A_works, trivial⟩
theorem q_ua5 : q_fa q_uf 95 19 := ⟨u_A_scot, u_A_count, u_A_within, u_A_isCell, u_A_isOwner, u_A_isDay, u_A_isRod, u_A_isHerd, u_A_customNow, u_A_isDue, u_A_runHour, u_A_whoMends, u_M_in, u_M_isCell, u_M_isOwner, u_M_isRod, u_M_level, u_M_surface, u_M_cell, trivial⟩
theorem q_ua6 : q_fa q_uf 114 19 := ⟨u_M_heldOf, u_M_heldAll, u_M_sell, u_M_held, u_M_rod, u_M_sluice, u_M_isDue, u_M_about, u_M_beside, u_M_isOpen, u_M_wayTo, u_M_gate, u_M_herd, u_M_isHerd, u_M_drive, u_M_where, u_M_reckons, u_M_nearest, u_M_way, trivial⟩
theorem q_ua7 : q_fa q_uf 133 19 := ⟨u_M_comes, u_M_wears, u_M_stands, u_M_opens, u_M_levels, u_M_flees, u_M_hour, u_M_quarters, u_M_tide, u_M_pass, u_M_year, u_M_feed, u_M_byteAt, u_M_must, u_M_isDigit, u_M_number, u_M_word, u_M_readsRods, u_M_readsClause, trivial⟩
theorem q_ua8 : q_fa q_uf 152 19 := ⟨u_M_readsCustom, u_M_court, u_M_customOf, u_M_hOf, u_M_vOf, u_M_custom, u_M_deals, u_M_menderOf, u_M_mender, u_M_endsFault, u_M_view, u_M_mend, u_M_fineOf, u_M_fault, u_M_fines, u_M_mended, u_M_worthOf, u_M_betters, u_M_chooses, trivial⟩
theorem q_ua9 : q_fa q_uf 171 16 := ⟨u_M_works, u_M_scot, u_M_count, u_String_length, u_String_charAt, u_String_coder, u_String_isLatin1, u_String_checkIndex, u_Latin_charAt, u_Utf_getChar, u_Utf_length, u_Utf_charAt, u_Utf_checkIndex, u_Arrays_fill, u_Arrays_fillx, u_Prec_checkIndex, trivial⟩
theorem q_ulen : q_yt.length = 187 := by decide +kernel
theorem q_uall : ∀ j, j < 187 → q_uf j = true := by
  intro j hj
  by_cases h0 : j < 19
  · exact q_fa_ok 19 0 q_ua0 j (by omega) (by omega)
  by_cases h1 : j < 38
  · exact q_fa_ok 19 19 q_ua1 j (by omega) (by omega)
  by_cases h2 : j < 57
  · exact q_fa_ok 19 38 q_ua2 j (by omega) (by omega)
  by_cases h3 : j < 76
  · exact q_fa_ok 19 57 q_ua3 j (by omega) (by omega)
  by_cases h4 : j < 95
  · exact q_fa_ok 19 76 q_ua4 j (by omega) (by omega)
  by_cases h5 : j < 114
  · exact q_fa_ok 19 95 q_ua5 j (by omega) (by omega)
  by_cases h6 : j < 133
  · exact q_fa_ok 19 114 q_ua6 j (by omega) (by omega)
  by_cases h7 : j < 152
  · exact q_fa_ok 19 133 q_ua7 j (by omega) (by omega)
  by_cases h8 : j < 171
  · exact q_fa_ok 19 152 q_ua8 j (by omega) (by omega)
  by_cases h9 : j < 187
  · exact q_fa_ok 16 171 q_ua9 j (by omega) (by omega)
  exact absurd hj (by omega)
theorem q_yOK0 : q_yOK q_T0 q_zs := by
  intro mi y hy
  have hlt : mi < 187 := by
    have := (List.getElem?_eq_some_iff.mp hy).1
    rw [show (q_ty q_T0).length = q_yt.length from rfl, q_ulen] at this
    exact this
  have hv := q_uall mi hlt
  unfold q_uf at hv
  rw [show q_yt[mi]? = some y from hy] at hv
  dsimp only at hv
  split at hv
  · rename_i z hz; exact ⟨z, hz, hv⟩
  · cases hv
theorem q_clw0 : (List.range 10).all (fun k => q_wd q_T0 (([204, 206, 208, 210, 212, 214, 216, 218, 220, 222] : List Int).getD k 0) (u_lay "MarshCourt$Bank" q_F0 k)) = true := by decide +kernel
theorem q_clt0 : ∀ k, k < 10 → parseFieldDescriptor (q_F0 k).2.2.1 = some (q_H0 k) := by decide +kernel
theorem q_cln0 : ∀ a, a < 10 → ∀ b, b < 10 → a ≠ b → (q_F0 a).2.1 ≠ (q_F0 b).2.1 := by decide +kernel
theorem q_clw1 : (List.range 3).all (fun k => q_wd q_T0 (([346, 348, 350] : List Int).getD k 0) (u_lay "MarshCourt$Courts" q_F1 k)) = true := by decide +kernel
theorem q_clt1 : ∀ k, k < 3 → parseFieldDescriptor (q_F1 k).2.2.1 = some (q_H1 k) := by decide +kernel
theorem q_cln1 : ∀ a, a < 3 → ∀ b, b < 3 → a ≠ b → (q_F1 a).2.1 ≠ (q_F1 b).2.1 := by decide +kernel
theorem q_clw2 : (List.range 9).all (fun k => q_wd q_T0 (([322, 324, 326, 328, 330, 332, 334, 336, 338] : List Int).getD k 0) (u_lay "MarshCourt$Custom" q_F2 k)) = true := by decide +kernel
theorem q_clt2 : ∀ k, k < 9 → parseFieldDescriptor (q_F2 k).2.2.1 = some (q_H2 k) := by decide +kernel
theorem q_cln2 : ∀ a, a < 9 → ∀ b, b < 9 → a ≠ b → (q_F2 a).2.1 ≠ (q_F2 b).2.1 := by decide +kernel
theorem q_clw3 : (List.range 8).all (fun k => q_wd q_T0 (([375, 377, 379, 381, 383, 385, 387, 389] : List Int).getD k 0) (u_lay "MarshCourt$Faults" q_F3 k)) = true := by decide +kernel
theorem q_clt3 : ∀ k, k < 8 → parseFieldDescriptor (q_F3 k).2.2.1 = some (q_H3 k) := by decide +kernel
theorem q_cln3 : ∀ a, a < 8 → ∀ b, b < 8 → a ≠ b → (q_F3 a).2.1 ≠ (q_F3 b).2.1 := by decide +kernel
theorem q_clw4 : (List.range 3).all (fun k => q_wd q_T0 (([237, 239, 241] : List Int).getD k 0) (u_lay "MarshCourt$Herds" q_F4 k)) = true := by decide +kernel
theorem q_clt4 : ∀ k, k < 3 → parseFieldDescriptor (q_F4 k).2.2.1 = some (q_H4 k) := by decide +kernel
theorem q_cln4 : ∀ a, a < 3 → ∀ b, b < 3 → a ≠ b → (q_F4 a).2.1 ≠ (q_F4 b).2.1 := by decide +kernel
theorem q_clw5 : (List.range 8).all (fun k => q_wd q_T0 (([113, 115, 117, 119, 121, 123, 125, 127] : List Int).getD k 0) (u_lay "MarshCourt$Land" q_F5 k)) = true := by decide +kernel
theorem q_clt5 : ∀ k, k < 8 → parseFieldDescriptor (q_F5 k).2.2.1 = some (q_H5 k) := by decide +kernel
theorem q_cln5 : ∀ a, a < 8 → ∀ b, b < 8 → a ≠ b → (q_F5 a).2.1 ≠ (q_F5 b).2.1 := by decide +kernel
theorem q_clw6 : (List.range 6).all (fun k => q_wd q_T0 (([407, 409, 411, 413, 415, 417] : List Int).getD k 0) (u_lay "MarshCourt$Plan" q_F6 k)) = true := by decide +kernel
theorem q_clt6 : ∀ k, k < 6 → parseFieldDescriptor (q_F6 k).2.2.1 = some (q_H6 k) := by decide +kernel
theorem q_cln6 : ∀ a, a < 6 → ∀ b, b < 6 → a ≠ b → (q_F6 a).2.1 ≠ (q_F6 b).2.1 := by decide +kernel
theorem q_clw7 : (List.range 6).all (fun k => q_wd q_T0 (([145, 147, 149, 151, 153, 155] : List Int).getD k 0) (u_lay "MarshCourt$Sales" q_F7 k)) = true := by decide +kernel
theorem q_clt7 : ∀ k, k < 6 → parseFieldDescriptor (q_F7 k).2.2.1 = some (q_H7 k) := by decide +kernel
theorem q_cln7 : ∀ a, a < 6 → ∀ b, b < 6 → a ≠ b → (q_F7 a).2.1 ≠ (q_F7 b).2.1 := by decide +kernel
theorem q_clw8 : (List.range 3).all (fun k => q_wd q_T0 (([169, 171, 173] : List Int).getD k 0) (u_lay "MarshCourt$Shares" q_F8 k)) = true := by decide +kernel
theorem q_clt8 : ∀ k, k < 3 → parseFieldDescriptor (q_F8 k).2.2.1 = some (q_H8 k) := by decide +kernel
theorem q_cln8 : ∀ a, a < 3 → ∀ b, b < 3 → a ≠ b → (q_F8 a).2.1 ≠ (q_F8 b).2.1 := by decide +kernel
theorem q_clw9 : (List.range 3).all (fun k => q_wd q_T0 (([281, 283, 285] : List Int).getD k 0) (u_lay "MarshCourt$Tape" q_F9 k)) = true := by decide +kernel
theorem q_clt9 : ∀ k, k < 3 → parseFieldDescriptor (q_F9 k).2.2.1 = some (q_H9 k) := by decide +kernel
theorem q_cln9 : ∀ a, a < 3 → ∀ b, b < 3 → a ≠ b → (q_F9 a).2.1 ≠ (q_F9 b).2.1 := by decide +kernel
theorem q_clw10 : (List.range 5).all (fun k => q_wd q_T0 (([259, 261, 263, 265, 267] : List Int).getD k 0) (u_lay "MarshCourt$Ways" q_F10 k)) = true := by decide +kernel
theorem q_clt10 : ∀ k, k < 5 → parseFieldDescriptor (q_F10 k).2.2.1 = some (q_H10 k) := by decide +kernel
theorem q_cln10 : ∀ a, a < 5 → ∀ b, b < 5 → a ≠ b → (q_F10 a).2.1 ≠ (q_F10 b).2.1 := by decide +kernel
theorem q_clw11 : (List.range 12).all (fun k => q_wd q_T0 (([433, 435, 437, 439, 441, 443, 445, 447, 449, 451, 453, 455] : List Int).getD k 0) (u_lay "MarshCourt" q_F11 k)) = true := by decide +kernel
theorem q_clt11 : ∀ k, k < 12 → parseFieldDescriptor (q_F11 k).2.2.1 = some (q_H11 k) := by decide +kernel
theorem q_cln11 : ∀ a, a < 12 → ∀ b, b < 12 → a ≠ b → (q_F11 a).2.1 ≠ (q_F11 b).2.1 := by decide +kernel
theorem q_clw12 : (List.range 64).all (fun k => q_wd q_T0 (([1043, 1045, 1047, 1049, 1051, 1053, 1055, 1057, 1059, 1061, 1063, 1065, 1067, 1069, 1071, 1073, 1075, 1077, 1079, 1081, 1083, 1085, 1087, 1089, 1091, 1093, 1095, 1097, 1099, 1101, 1103, 1105, 1107, 1109, 1111, 1113, 1115, 1117, 1119, 1121, 1123, 1125, 1127, 1129, 1131, 1133, 1135, 1137, 1139, 1141, 1143, 1145, 1147, 1149, 1151, 1153, 1155, 1157, 1159, 1161, 1163, 1165, 1167, 1169] : List Int).getD k 0) (u_lay "MarshCourtModel" q_F12 k)) = true := by decide +kernel
theorem q_clt12 : ∀ k, k < 64 → parseFieldDescriptor (q_F12 k).2.2.1 = some (q_H12 k) := by decide +kernel
theorem q_cln12 : ∀ a, a < 64 → ∀ b, b < 64 → a ≠ b → (q_F12 a).2.1 ≠ (q_F12 b).2.1 := by decide +kernel
theorem q_clX {C : String} {F : u_T} {H : Nat → FieldType} {N : Nat} {ps : List Int} (h1 : (List.range N).all (fun k => q_wd q_T0 (ps.getD k 0) (u_lay C F k)) = true) (h2 : ∀ k, k < N → parseFieldDescriptor (F k).2.2.1 = some (H k)) (h3 : ∀ a, a < N → ∀ b, b < N → a ≠ b → (F a).2.1 ≠ (F b).2.1) :
    (∀ w ∈ u_ws C F N, w ∈ q_gw q_T0) ∧ (∃ ty : Nat → FieldType, ∀ k, k < N → parseFieldDescriptor (F k).2.2.1 = some (ty k)) ∧ (∀ a, a < N → ∀ b, b < N → a ≠ b → (F a).2.1 ≠ (F b).2.1) := by
  refine ⟨fun w hw => ?_, ⟨H, h2⟩, h3⟩
  obtain ⟨k, hk, rfl⟩ := List.mem_map.mp hw
  exact q_wd_ok (List.all_eq_true.mp h1 k hk)
theorem q_clOK0 : q_clOK q_T0 := by
  intro ci q hq
  match ci, hq with
  | 0, hq => cases hq; exact q_clX q_clw0 q_clt0 q_cln0
  | 1, hq => cases hq; exact q_clX q_clw1 q_clt1 q_cln1
  | 2, hq => cases hq; exact q_clX q_clw2 q_clt2 q_cln2
  | 3, hq => cases hq; exact q_clX q_clw3 q_clt3 q_cln3
  | 4, hq => cases hq; exact q_clX q_clw4 q_clt4 q_cln4
  | 5, hq => cases hq; exact q_clX q_clw5 q_clt5 q_cln5
  | 6, hq => cases hq; exact q_clX q_clw6 q_clt6 q_cln6
  | 7, hq => cases hq; exact q_clX q_clw7 q_clt7 q_cln7
  | 8, hq => cases hq; exact q_clX q_clw8 q_clt8 q_cln8
  | 9, hq => cases hq; exact q_clX q_clw9 q_clt9 q_cln9
  | 10, hq => cases hq; exact q_clX q_clw10 q_clt10 q_cln10
  | 11, hq => cases hq; exact q_clX q_clw11 q_clt11 q_cln11
  | 12, hq => cases hq; exact q_clX q_clw12 q_clt12 q_cln12
  | k + 13, hq => exact absurd hq (by simp [q_tc, q_T0, q_cl])
/-- the layout, checked -/
def q_lv1 (d : q_C) : Bool := bif d.1 == 0 then (match q_cl[d.2.1]? with
  | some q => (d.2.2.length == q.2.2) && (List.range d.2.2.length).all (fun j => match d.2.2[j]? with
    | some v => (!(v.1 == 0) || decide ((q.2.1 j).2.2 = ("I", false))) && (!(v.1 == 5) || decide ((q.2.1 j).2.2 = ("Z", false)))
    | none => true)
  | none => false) else decide ((d.2.1 : Int) ≤ 2147483647) && (bif d.1 == 4 then (List.range d.2.1).all (fun j => match d.2.2[j]? with
    | some (2, _) => true
    | _ => false) else true)
theorem q_lv_v : q_lay.all q_lv1 = true := by decide +kernel
theorem q_lv_at {k : Nat} {d : q_C} (h : q_lay[k]? = some d) : q_lv1 d = true := List.all_eq_true.mp q_lv_v d (List.mem_of_getElem? h)
theorem q_lyOK0 : q_lyOK q_T0 := by
  intro k d hk h0
  have h := q_lv_at hk
  unfold q_lv1 at h
  rw [h0] at h
  change (match q_cl[d.2.1]? with
    | some q => (d.2.2.length == q.2.2) && (List.range d.2.2.length).all (fun j => match d.2.2[j]? with
      | some v => (!(v.1 == 0) || decide ((q.2.1 j).2.2 = ("I", false))) && (!(v.1 == 5) || decide ((q.2.1 j).2.2 = ("Z", false)))
      | none => true)
    | none => false) = true at h
  split at h
  · rename_i q hq
    obtain ⟨h1, h2⟩ := Bool.and_eq_true_iff.mp h
    refine ⟨q, hq, eq_of_beq h1, fun j v hj => ?_⟩
    have h3 := List.all_eq_true.mp h2 j (List.mem_range.mpr (List.getElem?_eq_some_iff.mp hj).1)
    rw [hj] at h3
    obtain ⟨h4, h5⟩ := Bool.and_eq_true_iff.mp h3
    refine ⟨fun z => ?_, fun z => ?_⟩
    · rw [z] at h4; exact of_decide_eq_true h4
    · rw [z] at h5; exact of_decide_eq_true h5
  · cases h
theorem q_lz1 {k : Nat} {d : q_C} (hk : q_lay[k]? = some d) (h4 : d.1 = 4) : ∀ j : Nat, j < d.2.1 → ∃ z, d.2.2[j]? = some (2, z) := by
  intro j hj
  have h := q_lv_at hk
  unfold q_lv1 at h
  rw [h4] at h
  obtain ⟨-, h2⟩ := Bool.and_eq_true_iff.mp (show (decide ((d.2.1 : Int) ≤ 2147483647) && (List.range d.2.1).all (fun j => match d.2.2[j]? with
    | some (2, _) => true
    | _ => false)) = true from h)
  have h3 := List.all_eq_true.mp h2 j (List.mem_range.mpr hj)
  split at h3
  · rename_i z hz; exact ⟨z, hz⟩
  · cases h3
theorem q_lz2 {k : Nat} {d : q_C} (hk : q_lay[k]? = some d) (h0 : d.1 ≠ 0) : q_i32 (d.2.1 : Int) := by
  have h := q_lv_at hk
  unfold q_lv1 at h
  rw [show (d.1 == 0) = false by simpa using h0] at h
  obtain ⟨h1, -⟩ := Bool.and_eq_true_iff.mp (show (decide ((d.2.1 : Int) ≤ 2147483647) && _) = true from h)
  have := of_decide_eq_true h1
  unfold q_i32
  omega

theorem q_cxOK {L : Nat} {xs : Int → Int} (hx : ∀ j, q_i32 (xs j)) : q_cx (q_xt L xs) := by
  intro k c j hk
  match k, hk with
  | 0, hk => cases hk; exact hx j
  | 1, hk =>
    cases hk
    dsimp only
    unfold q_i32
    repeat' split
    all_goals omega
  | 2, hk =>
    cases hk
    dsimp only
    unfold q_i32
    repeat' split
    all_goals omega
  | 3, hk =>
    cases hk
    dsimp only
    unfold q_i32
    repeat' split
    all_goals omega
  | 4, hk =>
    cases hk
    dsimp only
    unfold q_i32
    repeat' split
    all_goals omega
  | 5, hk =>
    cases hk
    dsimp only
    unfold q_i32
    repeat' split
    all_goals omega
  | 6, hk =>
    cases hk
    dsimp only
    unfold q_i32
    repeat' split
    all_goals omega
  | 7, hk =>
    cases hk
    dsimp only
    unfold q_i32
    repeat' split
    all_goals omega
  | 8, hk =>
    cases hk
    dsimp only
    unfold q_i32
    repeat' split
    all_goals omega
  | 9, hk =>
    cases hk
    dsimp only
    unfold q_i32
    repeat' split
    all_goals omega
  | 10, hk =>
    cases hk
    dsimp only
    unfold q_i32
    repeat' split
    all_goals omega
  | 11, hk =>
    cases hk
    dsimp only
    unfold q_i32
    repeat' split
    all_goals omega
  | 12, hk =>
    cases hk
    dsimp only
    unfold q_i32
    repeat' split
    all_goals omega
  | 13, hk =>
    cases hk
    dsimp only
    unfold q_i32
    repeat' split
    all_goals omega
  | 14, hk =>
    cases hk
    dsimp only
    unfold q_i32
    repeat' split
    all_goals omega
  | 15, hk =>
    cases hk
    dsimp only
    unfold q_i32
    repeat' split
    all_goals omega
  | 16, hk =>
    cases hk
    dsimp only
    unfold q_i32
    repeat' split
    all_goals omega
  | 17, hk =>
    cases hk
    dsimp only
    unfold q_i32
    repeat' split
    all_goals omega
  | 18, hk =>
    cases hk
    dsimp only
    unfold q_i32
    repeat' split
    all_goals omega
  | k + 19, hk => exact absurd hk (by simp [q_xt])
theorem q_lz3 {L : Nat} {xs : Int → Int} (hL : L ≤ 2147483647) {k : Nat} {d : q_X} (hk : (q_xt L xs)[k]? = some d) : q_i32 (d.2.1 : Int) := by
  match k, hk with
  | 0, hk => cases hk; unfold q_i32; dsimp only; omega
  | 1, hk => cases hk; unfold q_i32; dsimp only; omega
  | 2, hk => cases hk; unfold q_i32; dsimp only; omega
  | 3, hk => cases hk; unfold q_i32; dsimp only; omega
  | 4, hk => cases hk; unfold q_i32; dsimp only; omega
  | 5, hk => cases hk; unfold q_i32; dsimp only; omega
  | 6, hk => cases hk; unfold q_i32; dsimp only; omega
  | 7, hk => cases hk; unfold q_i32; dsimp only; omega
  | 8, hk => cases hk; unfold q_i32; dsimp only; omega
  | 9, hk => cases hk; unfold q_i32; dsimp only; omega
  | 10, hk => cases hk; unfold q_i32; dsimp only; omega
  | 11, hk => cases hk; unfold q_i32; dsimp only; omega
  | 12, hk => cases hk; unfold q_i32; dsimp only; omega
  | 13, hk => cases hk; unfold q_i32; dsimp only; omega
  | 14, hk => cases hk; unfold q_i32; dsimp only; omega
  | 15, hk => cases hk; unfold q_i32; dsimp only; omega
  | 16, hk => cases hk; unfold q_i32; dsimp only; omega
  | 17, hk => cases hk; unfold q_i32; dsimp only; omega
  | 18, hk => cases hk; unfold q_i32; dsimp only; omega
  | k + 19, hk => exact absurd hk (by simp [q_xt])
theorem q_all {L : Nat} {xs : Int → Int} (hL : L ≤ 2147483647) (hx : ∀ j, q_i32 (xs j)) : q_allOK (q_Tm L xs) q_zs q_mt := by
  refine ⟨q_yOK0, ⟨fun k d h h4 => q_lz1 h h4, fun k d h h0 => q_lz2 h h0, fun k d h _ => q_lz3 hL h, rfl⟩, q_clOK0, q_lyOK0, q_cxOK hx, fun mi m0 hm => ?_⟩
  have hlt : mi < 187 := by
    have := (List.getElem?_eq_some_iff.mp hm).1
    rw [q_vlen] at this
    exact this
  have hv := q_vall mi hlt
  unfold q_vf at hv
  split at hv
  · rename_i y hy
    rw [hm] at hv
    exact ⟨y, hy, q_mK_ok (T := q_T0) hv⟩
  · cases hv
