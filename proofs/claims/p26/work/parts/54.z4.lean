def z_A (tI tZ tJ tQ : ClassId) (h0 : Nat) (u : List Nat × List (List Nat)) : va_W := [(h0, .inr (11, [.ref (u.1.getD 0 0), .ref (u.1.getD 1 0), .ref (u.1.getD 2 0), .ref (u.1.getD 3 0), .ref (u.1.getD 4 0), .ref (u.1.getD 5 0), .ref (u.1.getD 6 0), .ref (u.1.getD 7 0), .ref (u.1.getD 8 0), .ref (u.1.getD 9 0), .int 0, .int 0]))] ++ z_Land tI tZ tJ tQ (u.1.getD 0 0) (u.2.getD 0 []) ++ z_Sales tI tZ tJ tQ (u.1.getD 1 0) (u.2.getD 1 []) ++ z_Shares tI tZ tJ tQ (u.1.getD 2 0) (u.2.getD 2 []) ++ z_Bank tI tZ tJ tQ (u.1.getD 3 0) (u.2.getD 3 []) ++ z_Herds tI tZ tJ tQ (u.1.getD 4 0) (u.2.getD 4 []) ++ z_Ways tI tZ tJ tQ (u.1.getD 5 0) (u.2.getD 5 []) ++ z_Tape tI tZ tJ tQ (u.1.getD 6 0) (u.2.getD 6 []) ++ z_Courts tI tZ tJ tQ (u.1.getD 7 0) (u.2.getD 7 []) ++ z_Faults tI tZ tJ tQ (u.1.getD 8 0) (u.2.getD 8 []) ++ z_Plan tI tZ tJ tQ (u.1.getD 9 0) (u.2.getD 9 [])
set_option maxHeartbeats 8000000 in
set_option maxRecDepth 100000 in
theorem c_A_init (l : Launch) (D : va_G) (tI tZ tJ tQ : ClassId) (h0 sz : Nat) : Met l ⟨"MarshCourt", "<init>", "()V"⟩ (z_w ⟨"MarshCourt", "<init>", "()V"⟩ prog_1_method_1_code 1) ({ frames := 3, cells := 99, slots := 2767, locals := 53 }) (va_Pc [.ref h0] (z_B D (z_t tI tZ tJ tQ) [(h0, .inr (11, [.null, .null, .null, .null, .null, .null, .null, .null, .null, .null, .int 0, .int 0]))] sz)) (va_Qv (fun _ : List Nat × List (List Nat) => True) (fun u t => z_E D (z_t tI tZ tJ tQ) (va_A [(h0, .inr (11, [.null, .null, .null, .null, .null, .null, .null, .null, .null, .null, .int 0, .int 0]))] sz) (z_A tI tZ tJ tQ h0 u) t) (va_A [(h0, .inr (11, [.null, .null, .null, .null, .null, .null, .null, .null, .null, .null, .int 0, .int 0]))] sz)) 99 2767 (va_A [(h0, .inr (11, [.null, .null, .null, .null, .null, .null, .null, .null, .null, .null, .int 0, .int 0]))] sz) := by
  refine Met.ofW (cc := prog_1_method_1_code) (maxL := 1) (ret := none) (by decide) rfl ?_
  intro p e s m args below meth c s₁ B hml hv
  obtain ⟨rfl, hsz, hP, hK, hD0, hN, hO⟩ := hv
  have hx := B.exec
  have hb := B.bytes
  have hr := B.returns
  have hts0 := atoms_spec (ws := z_w ⟨"MarshCourt", "<init>", "()V"⟩ prog_1_method_1_code 1) B.pre
  have hts : ∀ w ∈ q_gw q_T0, w.before _ s = true := fun w hw => hts0 w (List.mem_cons_of_mem _ hw)
  have hown : s.vm.findClass "MarshCourt" = some m.cls := findClass_of_methodNamed B.named
  have hlocks := B.notSynchronized
  have hin : meth.name = "<init>" := (name_of_methodNamed B.named B.method).1
  subst hsz
  have hD := hD0.self (sz := s.heap.size)
  generalize hAe : va_A [(h0, .inr (11, [.null, .null, .null, .null, .null, .null, .null, .null, .null, .null, .int 0, .int 0]))] s.heap.size = A at hD ⊢
  have hA : ∀ q : Nat, s.heap.size ≤ q → A q := fun q h => by rw [← hAe]; exact Or.inr h
  have hS : va_S A s.heap s.heap [] := va_S.rf
  have hl := lv_entry ([.ref h0]) (n := 1) (Nat.le_of_ble_eq_true rfl)
  rw [lg_entry_eq]
  generalize (lg_sl ([.ref h0]) ++ List.replicate (1 - (lg_sl ([.ref h0])).length) Slot.unset).toArray = ls at hl ⊢
  have hl : lv_has ls 1 [(0, .ref h0)] := hl
  refine lv_aload_n hx hb e_A_0 rfl (lv_at hl 0 rfl) ?_
  refine W.objInit hx hb hown (hts _ zw_86) (hts _ zw_87) (hts _ zw_88) rfl (by rw [hml]; exact hl.1) rfl e_A_1 (Nat.le_of_ble_eq_true rfl) (Nat.le_of_ble_eq_true rfl) ?_
  refine W.eq (g2 := F0 m 4 ls []) rfl ?_
  refine lv_aload_n hx hb e_A_4 rfl (lv_at hl 0 rfl) ?_
  refine va_new (ci := 5) (fs := [.null, .null, .null, .null, .null, .int 0, .int 0, .int 0]) (C := "MarshCourt$Land") (T := q_F5) (N := 8) hx hb hts ((q_clOK0 5 _ rfl).1) q_H5 q_clt5 hown (hts _ zw_89) (hts _ zw_90) (hts _ zw_63) hK hP hD hS hA rfl (by decide) (Nat.le_of_ble_eq_true rfl) (Nat.le_of_ble_eq_true rfl) e_A_5 (fun q5_0 H hP hD hS => ?_)
  refine W.widen (k := 1) (n := 8) (Nat.le_of_ble_eq_true rfl) (Nat.le_of_ble_eq_true rfl) ?_
  refine lv_dup hx hb e_A_8 rfl ?_
  have hFc := z_last hD hS hA
  refine va_callv (va_runIN (As := []) (rest := [.ref q5_0, .ref h0]) ⟨hx, hb, hml, hown, hts⟩ (c_Land_init l D tI tZ tJ tQ q5_0 H.size) ⟨va_cnB 0 hts (z_good zw_93) rfl rfl rfl (hN _ zn_A_9) (hts _ zw_63) (by decide +kernel) ⟨Nat.le_of_ble_eq_true rfl, Nat.le_of_ble_eq_true rfl⟩, rfl, hts _ zw_92⟩ (z_pre hP hK hD hN hO) rfl rfl hl.1 rfl (lv_room (Nat.le_of_ble_eq_true rfl)) e_A_9 ⟨Nat.le_of_ble_eq_true rfl, Nat.le_of_ble_eq_true rfl⟩) hS (fun q _ h => hFc q h) hFc (fun u5_0 t H1 locs ht hvm hw hB hz1 hk1 hS => ?_)
  obtain ⟨hP1, hK1, hD1⟩ := hB
  rw [ht] at hP1
  obtain ⟨hP, hD⟩ := z_join hP hD hk1 hFc hP1 hD1
  refine W.widen (k := 6) (n := 188) (Nat.le_of_ble_eq_true rfl) (Nat.le_of_ble_eq_true rfl) ?_
  clear hP1 hK1 hD1 hFc hk1 hz1 hw ht hvm
  generalize H1 = H at hP hS ⊢
  have hP : va_P D q_cl ([(h0, .inr (11, [.null, .null, .null, .null, .null, .null, .null, .null, .null, .null, .int 0, .int 0]))] ++ z_Land tI tZ tJ tQ q5_0 u5_0) H := hP
  have hD : va_D A ([(h0, .inr (11, [.null, .null, .null, .null, .null, .null, .null, .null, .null, .null, .int 0, .int 0]))] ++ z_Land tI tZ tJ tQ q5_0 u5_0) := hD
  refine va_putF (D := D) (ci := 11) (v := .ref q5_0) (C := "MarshCourt") (T := q_F11) (N := 12) hx hb hts ((q_clOK0 11 _ rfl).1) q_H11 q_clt11 q_cln11 hown hK hP hD hS 0 rfl rfl 0 (by decide) (hts _ zw_421) (fun _ h9 => h9) rfl hin rfl (q_clt11 0 (by decide)) rfl rfl (Nat.le_of_ble_eq_true rfl) e_A_12 (fun H locs hP hD hS => ?_)
  have hP : va_P D q_cl ([(h0, .inr (11, [.ref q5_0, .null, .null, .null, .null, .null, .null, .null, .null, .null, .int 0, .int 0]))] ++ z_Land tI tZ tJ tQ q5_0 u5_0) H := hP
  have hD : va_D A ([(h0, .inr (11, [.ref q5_0, .null, .null, .null, .null, .null, .null, .null, .null, .null, .int 0, .int 0]))] ++ z_Land tI tZ tJ tQ q5_0 u5_0) := hD
  refine lv_aload_n hx hb e_A_15 rfl (lv_at hl 0 rfl) ?_
  refine va_new (ci := 7) (fs := [.null, .null, .null, .null, .null, .int 0]) (C := "MarshCourt$Sales") (T := q_F7) (N := 6) hx hb hts ((q_clOK0 7 _ rfl).1) q_H7 q_clt7 hown (hts _ zw_132) (hts _ zw_133) (hts _ zw_64) hK hP hD hS hA rfl (by decide) (Nat.le_of_ble_eq_true rfl) (Nat.le_of_ble_eq_true rfl) e_A_16 (fun q16_6 H hP hD hS => ?_)
  refine W.widen (k := 7) (n := 194) (Nat.le_of_ble_eq_true rfl) (Nat.le_of_ble_eq_true rfl) ?_
  refine lv_dup hx hb e_A_19 rfl ?_
  have hFc := z_last hD hS hA
  refine va_callv (va_runIN (As := []) (rest := [.ref q16_6, .ref h0]) ⟨hx, hb, hml, hown, hts⟩ (c_Sales_init l D tI tZ tJ tQ q16_6 H.size) ⟨va_cnB 0 hts (z_good zw_136) rfl rfl rfl (hN _ zn_A_18) (hts _ zw_64) (by decide +kernel) ⟨Nat.le_of_ble_eq_true rfl, Nat.le_of_ble_eq_true rfl⟩, rfl, hts _ zw_135⟩ (z_pre hP hK hD hN hO) rfl rfl hl.1 rfl (lv_room (Nat.le_of_ble_eq_true rfl)) e_A_20 ⟨Nat.le_of_ble_eq_true rfl, Nat.le_of_ble_eq_true rfl⟩) hS (fun q _ h => hFc q h) hFc (fun u16_6 t H1 locs ht hvm hw hB hz1 hk1 hS => ?_)
  obtain ⟨hP1, hK1, hD1⟩ := hB
  rw [ht] at hP1
  obtain ⟨hP, hD⟩ := z_join hP hD hk1 hFc hP1 hD1
  refine W.widen (k := 12) (n := 794) (Nat.le_of_ble_eq_true rfl) (Nat.le_of_ble_eq_true rfl) ?_
  clear hP1 hK1 hD1 hFc hk1 hz1 hw ht hvm
  generalize H1 = H at hP hS ⊢
  have hP : va_P D q_cl ([(h0, .inr (11, [.ref q5_0, .null, .null, .null, .null, .null, .null, .null, .null, .null, .int 0, .int 0]))] ++ z_Land tI tZ tJ tQ q5_0 u5_0 ++ z_Sales tI tZ tJ tQ q16_6 u16_6) H := hP
  have hD : va_D A ([(h0, .inr (11, [.ref q5_0, .null, .null, .null, .null, .null, .null, .null, .null, .null, .int 0, .int 0]))] ++ z_Land tI tZ tJ tQ q5_0 u5_0 ++ z_Sales tI tZ tJ tQ q16_6 u16_6) := hD
  refine va_putF (D := D) (ci := 11) (v := .ref q16_6) (C := "MarshCourt") (T := q_F11) (N := 12) hx hb hts ((q_clOK0 11 _ rfl).1) q_H11 q_clt11 q_cln11 hown hK hP hD hS 0 rfl rfl 1 (by decide) (hts _ zw_422) (fun _ h9 => h9) rfl hin rfl (q_clt11 1 (by decide)) rfl rfl (Nat.le_of_ble_eq_true rfl) e_A_23 (fun H locs hP hD hS => ?_)
  have hP : va_P D q_cl ([(h0, .inr (11, [.ref q5_0, .ref q16_6, .null, .null, .null, .null, .null, .null, .null, .null, .int 0, .int 0]))] ++ z_Land tI tZ tJ tQ q5_0 u5_0 ++ z_Sales tI tZ tJ tQ q16_6 u16_6) H := hP
  have hD : va_D A ([(h0, .inr (11, [.ref q5_0, .ref q16_6, .null, .null, .null, .null, .null, .null, .null, .null, .int 0, .int 0]))] ++ z_Land tI tZ tJ tQ q5_0 u5_0 ++ z_Sales tI tZ tJ tQ q16_6 u16_6) := hD
  refine lv_aload_n hx hb e_A_26 rfl (lv_at hl 0 rfl) ?_
  refine va_new (ci := 8) (fs := [.null, .null, .null]) (C := "MarshCourt$Shares") (T := q_F8) (N := 3) hx hb hts ((q_clOK0 8 _ rfl).1) q_H8 q_clt8 hown (hts _ zw_158) (hts _ zw_159) (hts _ zw_65) hK hP hD hS hA rfl (by decide) (Nat.le_of_ble_eq_true rfl) (Nat.le_of_ble_eq_true rfl) e_A_27 (fun q27_12 H hP hD hS => ?_)
  refine W.widen (k := 13) (n := 797) (Nat.le_of_ble_eq_true rfl) (Nat.le_of_ble_eq_true rfl) ?_
  refine lv_dup hx hb e_A_30 rfl ?_
  have hFc := z_last hD hS hA
  refine va_callv (va_runIN (As := []) (rest := [.ref q27_12, .ref h0]) ⟨hx, hb, hml, hown, hts⟩ (c_Shares_init l D tI tZ tJ tQ q27_12 H.size) ⟨va_cnB 0 hts (z_good zw_162) rfl rfl rfl (hN _ zn_A_25) (hts _ zw_65) (by decide +kernel) ⟨Nat.le_of_ble_eq_true rfl, Nat.le_of_ble_eq_true rfl⟩, rfl, hts _ zw_161⟩ (z_pre hP hK hD hN hO) rfl rfl hl.1 rfl (lv_room (Nat.le_of_ble_eq_true rfl)) e_A_31 ⟨Nat.le_of_ble_eq_true rfl, Nat.le_of_ble_eq_true rfl⟩) hS (fun q _ h => hFc q h) hFc (fun u27_12 t H1 locs ht hvm hw hB hz1 hk1 hS => ?_)
  obtain ⟨hP1, hK1, hD1⟩ := hB
  rw [ht] at hP1
  obtain ⟨hP, hD⟩ := z_join hP hD hk1 hFc hP1 hD1
  refine W.widen (k := 16) (n := 821) (Nat.le_of_ble_eq_true rfl) (Nat.le_of_ble_eq_true rfl) ?_
  clear hP1 hK1 hD1 hFc hk1 hz1 hw ht hvm
  generalize H1 = H at hP hS ⊢
  have hP : va_P D q_cl ([(h0, .inr (11, [.ref q5_0, .ref q16_6, .null, .null, .null, .null, .null, .null, .null, .null, .int 0, .int 0]))] ++ z_Land tI tZ tJ tQ q5_0 u5_0 ++ z_Sales tI tZ tJ tQ q16_6 u16_6 ++ z_Shares tI tZ tJ tQ q27_12 u27_12) H := hP
  have hD : va_D A ([(h0, .inr (11, [.ref q5_0, .ref q16_6, .null, .null, .null, .null, .null, .null, .null, .null, .int 0, .int 0]))] ++ z_Land tI tZ tJ tQ q5_0 u5_0 ++ z_Sales tI tZ tJ tQ q16_6 u16_6 ++ z_Shares tI tZ tJ tQ q27_12 u27_12) := hD
  refine va_putF (D := D) (ci := 11) (v := .ref q27_12) (C := "MarshCourt") (T := q_F11) (N := 12) hx hb hts ((q_clOK0 11 _ rfl).1) q_H11 q_clt11 q_cln11 hown hK hP hD hS 0 rfl rfl 2 (by decide) (hts _ zw_423) (fun _ h9 => h9) rfl hin rfl (q_clt11 2 (by decide)) rfl rfl (Nat.le_of_ble_eq_true rfl) e_A_34 (fun H locs hP hD hS => ?_)
  have hP : va_P D q_cl ([(h0, .inr (11, [.ref q5_0, .ref q16_6, .ref q27_12, .null, .null, .null, .null, .null, .null, .null, .int 0, .int 0]))] ++ z_Land tI tZ tJ tQ q5_0 u5_0 ++ z_Sales tI tZ tJ tQ q16_6 u16_6 ++ z_Shares tI tZ tJ tQ q27_12 u27_12) H := hP
  have hD : va_D A ([(h0, .inr (11, [.ref q5_0, .ref q16_6, .ref q27_12, .null, .null, .null, .null, .null, .null, .null, .int 0, .int 0]))] ++ z_Land tI tZ tJ tQ q5_0 u5_0 ++ z_Sales tI tZ tJ tQ q16_6 u16_6 ++ z_Shares tI tZ tJ tQ q27_12 u27_12) := hD
  refine lv_aload_n hx hb e_A_37 rfl (lv_at hl 0 rfl) ?_
  refine va_new (ci := 0) (fs := [.null, .null, .null, .null, .null, .null, .null, .null, .null, .int 0]) (C := "MarshCourt$Bank") (T := q_F0) (N := 10) hx hb hts ((q_clOK0 0 _ rfl).1) q_H0 q_clt0 hown (hts _ zw_176) (hts _ zw_177) (hts _ zw_66) hK hP hD hS hA rfl (by decide) (Nat.le_of_ble_eq_true rfl) (Nat.le_of_ble_eq_true rfl) e_A_38 (fun q38_16 H hP hD hS => ?_)
  refine W.widen (k := 17) (n := 831) (Nat.le_of_ble_eq_true rfl) (Nat.le_of_ble_eq_true rfl) ?_
  refine lv_dup hx hb e_A_41 rfl ?_
  have hFc := z_last hD hS hA
  refine va_callv (va_runIN (As := []) (rest := [.ref q38_16, .ref h0]) ⟨hx, hb, hml, hown, hts⟩ (c_Bank_init l D tI tZ tJ tQ q38_16 H.size) ⟨va_cnB 0 hts (z_good zw_180) rfl rfl rfl (hN _ zn_A_32) (hts _ zw_66) (by decide +kernel) ⟨Nat.le_of_ble_eq_true rfl, Nat.le_of_ble_eq_true rfl⟩, rfl, hts _ zw_179⟩ (z_pre hP hK hD hN hO) rfl rfl hl.1 rfl (lv_room (Nat.le_of_ble_eq_true rfl)) e_A_42 ⟨Nat.le_of_ble_eq_true rfl, Nat.le_of_ble_eq_true rfl⟩) hS (fun q _ h => hFc q h) hFc (fun u38_16 t H1 locs ht hvm hw hB hz1 hk1 hS => ?_)
  obtain ⟨hP1, hK1, hD1⟩ := hB
  rw [ht] at hP1
  obtain ⟨hP, hD⟩ := z_join hP hD hk1 hFc hP1 hD1
  refine W.widen (k := 26) (n := 1031) (Nat.le_of_ble_eq_true rfl) (Nat.le_of_ble_eq_true rfl) ?_
  clear hP1 hK1 hD1 hFc hk1 hz1 hw ht hvm
  generalize H1 = H at hP hS ⊢
  have hP : va_P D q_cl ([(h0, .inr (11, [.ref q5_0, .ref q16_6, .ref q27_12, .null, .null, .null, .null, .null, .null, .null, .int 0, .int 0]))] ++ z_Land tI tZ tJ tQ q5_0 u5_0 ++ z_Sales tI tZ tJ tQ q16_6 u16_6 ++ z_Shares tI tZ tJ tQ q27_12 u27_12 ++ z_Bank tI tZ tJ tQ q38_16 u38_16) H := hP
  have hD : va_D A ([(h0, .inr (11, [.ref q5_0, .ref q16_6, .ref q27_12, .null, .null, .null, .null, .null, .null, .null, .int 0, .int 0]))] ++ z_Land tI tZ tJ tQ q5_0 u5_0 ++ z_Sales tI tZ tJ tQ q16_6 u16_6 ++ z_Shares tI tZ tJ tQ q27_12 u27_12 ++ z_Bank tI tZ tJ tQ q38_16 u38_16) := hD
  refine va_putF (D := D) (ci := 11) (v := .ref q38_16) (C := "MarshCourt") (T := q_F11) (N := 12) hx hb hts ((q_clOK0 11 _ rfl).1) q_H11 q_clt11 q_cln11 hown hK hP hD hS 0 rfl rfl 3 (by decide) (hts _ zw_424) (fun _ h9 => h9) rfl hin rfl (q_clt11 3 (by decide)) rfl rfl (Nat.le_of_ble_eq_true rfl) e_A_45 (fun H locs hP hD hS => ?_)
  have hP : va_P D q_cl ([(h0, .inr (11, [.ref q5_0, .ref q16_6, .ref q27_12, .ref q38_16, .null, .null, .null, .null, .null, .null, .int 0, .int 0]))] ++ z_Land tI tZ tJ tQ q5_0 u5_0 ++ z_Sales tI tZ tJ tQ q16_6 u16_6 ++ z_Shares tI tZ tJ tQ q27_12 u27_12 ++ z_Bank tI tZ tJ tQ q38_16 u38_16) H := hP
  have hD : va_D A ([(h0, .inr (11, [.ref q5_0, .ref q16_6, .ref q27_12, .ref q38_16, .null, .null, .null, .null, .null, .null, .int 0, .int 0]))] ++ z_Land tI tZ tJ tQ q5_0 u5_0 ++ z_Sales tI tZ tJ tQ q16_6 u16_6 ++ z_Shares tI tZ tJ tQ q27_12 u27_12 ++ z_Bank tI tZ tJ tQ q38_16 u38_16) := hD
  refine lv_aload_n hx hb e_A_48 rfl (lv_at hl 0 rfl) ?_
  refine va_new (ci := 4) (fs := [.null, .null, .int 0]) (C := "MarshCourt$Herds") (T := q_F4) (N := 3) hx hb hts ((q_clOK0 4 _ rfl).1) q_H4 q_clt4 hown (hts _ zw_225) (hts _ zw_226) (hts _ zw_67) hK hP hD hS hA rfl (by decide) (Nat.le_of_ble_eq_true rfl) (Nat.le_of_ble_eq_true rfl) e_A_49 (fun q49_26 H hP hD hS => ?_)
  refine W.widen (k := 27) (n := 1034) (Nat.le_of_ble_eq_true rfl) (Nat.le_of_ble_eq_true rfl) ?_
  refine lv_dup hx hb e_A_52 rfl ?_
  have hFc := z_last hD hS hA
  refine va_callv (va_runIN (As := []) (rest := [.ref q49_26, .ref h0]) ⟨hx, hb, hml, hown, hts⟩ (c_Herds_init l D tI tZ tJ tQ q49_26 H.size) ⟨va_cnB 0 hts (z_good zw_229) rfl rfl rfl (hN _ zn_A_39) (hts _ zw_67) (by decide +kernel) ⟨Nat.le_of_ble_eq_true rfl, Nat.le_of_ble_eq_true rfl⟩, rfl, hts _ zw_228⟩ (z_pre hP hK hD hN hO) rfl rfl hl.1 rfl (lv_room (Nat.le_of_ble_eq_true rfl)) e_A_53 ⟨Nat.le_of_ble_eq_true rfl, Nat.le_of_ble_eq_true rfl⟩) hS (fun q _ h => hFc q h) hFc (fun u49_26 t H1 locs ht hvm hw hB hz1 hk1 hS => ?_)
  obtain ⟨hP1, hK1, hD1⟩ := hB
  rw [ht] at hP1
  obtain ⟨hP, hD⟩ := z_join hP hD hk1 hFc hP1 hD1
  refine W.widen (k := 29) (n := 1046) (Nat.le_of_ble_eq_true rfl) (Nat.le_of_ble_eq_true rfl) ?_
  clear hP1 hK1 hD1 hFc hk1 hz1 hw ht hvm
  generalize H1 = H at hP hS ⊢
  have hP : va_P D q_cl ([(h0, .inr (11, [.ref q5_0, .ref q16_6, .ref q27_12, .ref q38_16, .null, .null, .null, .null, .null, .null, .int 0, .int 0]))] ++ z_Land tI tZ tJ tQ q5_0 u5_0 ++ z_Sales tI tZ tJ tQ q16_6 u16_6 ++ z_Shares tI tZ tJ tQ q27_12 u27_12 ++ z_Bank tI tZ tJ tQ q38_16 u38_16 ++ z_Herds tI tZ tJ tQ q49_26 u49_26) H := hP
  have hD : va_D A ([(h0, .inr (11, [.ref q5_0, .ref q16_6, .ref q27_12, .ref q38_16, .null, .null, .null, .null, .null, .null, .int 0, .int 0]))] ++ z_Land tI tZ tJ tQ q5_0 u5_0 ++ z_Sales tI tZ tJ tQ q16_6 u16_6 ++ z_Shares tI tZ tJ tQ q27_12 u27_12 ++ z_Bank tI tZ tJ tQ q38_16 u38_16 ++ z_Herds tI tZ tJ tQ q49_26 u49_26) := hD
  refine va_putF (D := D) (ci := 11) (v := .ref q49_26) (C := "MarshCourt") (T := q_F11) (N := 12) hx hb hts ((q_clOK0 11 _ rfl).1) q_H11 q_clt11 q_cln11 hown hK hP hD hS 0 rfl rfl 4 (by decide) (hts _ zw_425) (fun _ h9 => h9) rfl hin rfl (q_clt11 4 (by decide)) rfl rfl (Nat.le_of_ble_eq_true rfl) e_A_56 (fun H locs hP hD hS => ?_)
  have hP : va_P D q_cl ([(h0, .inr (11, [.ref q5_0, .ref q16_6, .ref q27_12, .ref q38_16, .ref q49_26, .null, .null, .null, .null, .null, .int 0, .int 0]))] ++ z_Land tI tZ tJ tQ q5_0 u5_0 ++ z_Sales tI tZ tJ tQ q16_6 u16_6 ++ z_Shares tI tZ tJ tQ q27_12 u27_12 ++ z_Bank tI tZ tJ tQ q38_16 u38_16 ++ z_Herds tI tZ tJ tQ q49_26 u49_26) H := hP
  have hD : va_D A ([(h0, .inr (11, [.ref q5_0, .ref q16_6, .ref q27_12, .ref q38_16, .ref q49_26, .null, .null, .null, .null, .null, .int 0, .int 0]))] ++ z_Land tI tZ tJ tQ q5_0 u5_0 ++ z_Sales tI tZ tJ tQ q16_6 u16_6 ++ z_Shares tI tZ tJ tQ q27_12 u27_12 ++ z_Bank tI tZ tJ tQ q38_16 u38_16 ++ z_Herds tI tZ tJ tQ q49_26 u49_26) := hD
  refine lv_aload_n hx hb e_A_59 rfl (lv_at hl 0 rfl) ?_
  refine va_new (ci := 10) (fs := [.null, .int 0, .int 0, .int 0, .int 0]) (C := "MarshCourt$Ways") (T := q_F10) (N := 5) hx hb hts ((q_clOK0 10 _ rfl).1) q_H10 q_clt10 hown (hts _ zw_244) (hts _ zw_245) (hts _ zw_68) hK hP hD hS hA rfl (by decide) (Nat.le_of_ble_eq_true rfl) (Nat.le_of_ble_eq_true rfl) e_A_60 (fun q60_29 H hP hD hS => ?_)
  refine W.widen (k := 30) (n := 1051) (Nat.le_of_ble_eq_true rfl) (Nat.le_of_ble_eq_true rfl) ?_
  refine lv_dup hx hb e_A_63 rfl ?_
  have hFc := z_last hD hS hA
  refine va_callv (va_runIN (As := []) (rest := [.ref q60_29, .ref h0]) ⟨hx, hb, hml, hown, hts⟩ (c_Ways_init l D tI tZ tJ tQ q60_29 H.size) ⟨va_cnB 0 hts (z_good zw_248) rfl rfl rfl (hN _ zn_A_46) (hts _ zw_68) (by decide +kernel) ⟨Nat.le_of_ble_eq_true rfl, Nat.le_of_ble_eq_true rfl⟩, rfl, hts _ zw_247⟩ (z_pre hP hK hD hN hO) rfl rfl hl.1 rfl (lv_room (Nat.le_of_ble_eq_true rfl)) e_A_64 ⟨Nat.le_of_ble_eq_true rfl, Nat.le_of_ble_eq_true rfl⟩) hS (fun q _ h => hFc q h) hFc (fun u60_29 t H1 locs ht hvm hw hB hz1 hk1 hS => ?_)
  obtain ⟨hP1, hK1, hD1⟩ := hB
  rw [ht] at hP1
  obtain ⟨hP, hD⟩ := z_join hP hD hk1 hFc hP1 hD1
  refine W.widen (k := 31) (n := 1081) (Nat.le_of_ble_eq_true rfl) (Nat.le_of_ble_eq_true rfl) ?_
  clear hP1 hK1 hD1 hFc hk1 hz1 hw ht hvm
  generalize H1 = H at hP hS ⊢
  have hP : va_P D q_cl ([(h0, .inr (11, [.ref q5_0, .ref q16_6, .ref q27_12, .ref q38_16, .ref q49_26, .null, .null, .null, .null, .null, .int 0, .int 0]))] ++ z_Land tI tZ tJ tQ q5_0 u5_0 ++ z_Sales tI tZ tJ tQ q16_6 u16_6 ++ z_Shares tI tZ tJ tQ q27_12 u27_12 ++ z_Bank tI tZ tJ tQ q38_16 u38_16 ++ z_Herds tI tZ tJ tQ q49_26 u49_26 ++ z_Ways tI tZ tJ tQ q60_29 u60_29) H := hP
  have hD : va_D A ([(h0, .inr (11, [.ref q5_0, .ref q16_6, .ref q27_12, .ref q38_16, .ref q49_26, .null, .null, .null, .null, .null, .int 0, .int 0]))] ++ z_Land tI tZ tJ tQ q5_0 u5_0 ++ z_Sales tI tZ tJ tQ q16_6 u16_6 ++ z_Shares tI tZ tJ tQ q27_12 u27_12 ++ z_Bank tI tZ tJ tQ q38_16 u38_16 ++ z_Herds tI tZ tJ tQ q49_26 u49_26 ++ z_Ways tI tZ tJ tQ q60_29 u60_29) := hD
  refine va_putF (D := D) (ci := 11) (v := .ref q60_29) (C := "MarshCourt") (T := q_F11) (N := 12) hx hb hts ((q_clOK0 11 _ rfl).1) q_H11 q_clt11 q_cln11 hown hK hP hD hS 0 rfl rfl 5 (by decide) (hts _ zw_426) (fun _ h9 => h9) rfl hin rfl (q_clt11 5 (by decide)) rfl rfl (Nat.le_of_ble_eq_true rfl) e_A_67 (fun H locs hP hD hS => ?_)
  have hP : va_P D q_cl ([(h0, .inr (11, [.ref q5_0, .ref q16_6, .ref q27_12, .ref q38_16, .ref q49_26, .ref q60_29, .null, .null, .null, .null, .int 0, .int 0]))] ++ z_Land tI tZ tJ tQ q5_0 u5_0 ++ z_Sales tI tZ tJ tQ q16_6 u16_6 ++ z_Shares tI tZ tJ tQ q27_12 u27_12 ++ z_Bank tI tZ tJ tQ q38_16 u38_16 ++ z_Herds tI tZ tJ tQ q49_26 u49_26 ++ z_Ways tI tZ tJ tQ q60_29 u60_29) H := hP
  have hD : va_D A ([(h0, .inr (11, [.ref q5_0, .ref q16_6, .ref q27_12, .ref q38_16, .ref q49_26, .ref q60_29, .null, .null, .null, .null, .int 0, .int 0]))] ++ z_Land tI tZ tJ tQ q5_0 u5_0 ++ z_Sales tI tZ tJ tQ q16_6 u16_6 ++ z_Shares tI tZ tJ tQ q27_12 u27_12 ++ z_Bank tI tZ tJ tQ q38_16 u38_16 ++ z_Herds tI tZ tJ tQ q49_26 u49_26 ++ z_Ways tI tZ tJ tQ q60_29 u60_29) := hD
  refine lv_aload_n hx hb e_A_70 rfl (lv_at hl 0 rfl) ?_
  refine va_new (ci := 9) (fs := [.null, .int 0, .int 0]) (C := "MarshCourt$Tape") (T := q_F9) (N := 3) hx hb hts ((q_clOK0 9 _ rfl).1) q_H9 q_clt9 hown (hts _ zw_270) (hts _ zw_271) (hts _ zw_69) hK hP hD hS hA rfl (by decide) (Nat.le_of_ble_eq_true rfl) (Nat.le_of_ble_eq_true rfl) e_A_71 (fun q71_31 H hP hD hS => ?_)
  refine W.widen (k := 32) (n := 1084) (Nat.le_of_ble_eq_true rfl) (Nat.le_of_ble_eq_true rfl) ?_
  refine lv_dup hx hb e_A_74 rfl ?_
  have hFc := z_last hD hS hA
  refine va_callv (va_runIN (As := []) (rest := [.ref q71_31, .ref h0]) ⟨hx, hb, hml, hown, hts⟩ (c_Tape_init l D tI tZ tJ tQ q71_31 H.size) ⟨va_cnB 0 hts (z_good zw_274) rfl rfl rfl (hN _ zn_A_53) (hts _ zw_69) (by decide +kernel) ⟨Nat.le_of_ble_eq_true rfl, Nat.le_of_ble_eq_true rfl⟩, rfl, hts _ zw_273⟩ (z_pre hP hK hD hN hO) rfl rfl hl.1 rfl (lv_room (Nat.le_of_ble_eq_true rfl)) e_A_75 ⟨Nat.le_of_ble_eq_true rfl, Nat.le_of_ble_eq_true rfl⟩) hS (fun q _ h => hFc q h) hFc (fun u71_31 t H1 locs ht hvm hw hB hz1 hk1 hS => ?_)
  obtain ⟨hP1, hK1, hD1⟩ := hB
  rw [ht] at hP1
  obtain ⟨hP, hD⟩ := z_join hP hD hk1 hFc hP1 hD1
  refine W.widen (k := 33) (n := 1244) (Nat.le_of_ble_eq_true rfl) (Nat.le_of_ble_eq_true rfl) ?_
  clear hP1 hK1 hD1 hFc hk1 hz1 hw ht hvm
  generalize H1 = H at hP hS ⊢
  have hP : va_P D q_cl ([(h0, .inr (11, [.ref q5_0, .ref q16_6, .ref q27_12, .ref q38_16, .ref q49_26, .ref q60_29, .null, .null, .null, .null, .int 0, .int 0]))] ++ z_Land tI tZ tJ tQ q5_0 u5_0 ++ z_Sales tI tZ tJ tQ q16_6 u16_6 ++ z_Shares tI tZ tJ tQ q27_12 u27_12 ++ z_Bank tI tZ tJ tQ q38_16 u38_16 ++ z_Herds tI tZ tJ tQ q49_26 u49_26 ++ z_Ways tI tZ tJ tQ q60_29 u60_29 ++ z_Tape tI tZ tJ tQ q71_31 u71_31) H := hP
  have hD : va_D A ([(h0, .inr (11, [.ref q5_0, .ref q16_6, .ref q27_12, .ref q38_16, .ref q49_26, .ref q60_29, .null, .null, .null, .null, .int 0, .int 0]))] ++ z_Land tI tZ tJ tQ q5_0 u5_0 ++ z_Sales tI tZ tJ tQ q16_6 u16_6 ++ z_Shares tI tZ tJ tQ q27_12 u27_12 ++ z_Bank tI tZ tJ tQ q38_16 u38_16 ++ z_Herds tI tZ tJ tQ q49_26 u49_26 ++ z_Ways tI tZ tJ tQ q60_29 u60_29 ++ z_Tape tI tZ tJ tQ q71_31 u71_31) := hD
  refine va_putF (D := D) (ci := 11) (v := .ref q71_31) (C := "MarshCourt") (T := q_F11) (N := 12) hx hb hts ((q_clOK0 11 _ rfl).1) q_H11 q_clt11 q_cln11 hown hK hP hD hS 0 rfl rfl 6 (by decide) (hts _ zw_427) (fun _ h9 => h9) rfl hin rfl (q_clt11 6 (by decide)) rfl rfl (Nat.le_of_ble_eq_true rfl) e_A_78 (fun H locs hP hD hS => ?_)
  have hP : va_P D q_cl ([(h0, .inr (11, [.ref q5_0, .ref q16_6, .ref q27_12, .ref q38_16, .ref q49_26, .ref q60_29, .ref q71_31, .null, .null, .null, .int 0, .int 0]))] ++ z_Land tI tZ tJ tQ q5_0 u5_0 ++ z_Sales tI tZ tJ tQ q16_6 u16_6 ++ z_Shares tI tZ tJ tQ q27_12 u27_12 ++ z_Bank tI tZ tJ tQ q38_16 u38_16 ++ z_Herds tI tZ tJ tQ q49_26 u49_26 ++ z_Ways tI tZ tJ tQ q60_29 u60_29 ++ z_Tape tI tZ tJ tQ q71_31 u71_31) H := hP
  have hD : va_D A ([(h0, .inr (11, [.ref q5_0, .ref q16_6, .ref q27_12, .ref q38_16, .ref q49_26, .ref q60_29, .ref q71_31, .null, .null, .null, .int 0, .int 0]))] ++ z_Land tI tZ tJ tQ q5_0 u5_0 ++ z_Sales tI tZ tJ tQ q16_6 u16_6 ++ z_Shares tI tZ tJ tQ q27_12 u27_12 ++ z_Bank tI tZ tJ tQ q38_16 u38_16 ++ z_Herds tI tZ tJ tQ q49_26 u49_26 ++ z_Ways tI tZ tJ tQ q60_29 u60_29 ++ z_Tape tI tZ tJ tQ q71_31 u71_31) := hD
  refine lv_aload_n hx hb e_A_81 rfl (lv_at hl 0 rfl) ?_
  refine va_new (ci := 1) (fs := [.null, .null, .int 0]) (C := "MarshCourt$Courts") (T := q_F1) (N := 3) hx hb hts ((q_clOK0 1 _ rfl).1) q_H1 q_clt1 hown (hts _ zw_288) (hts _ zw_289) (hts _ zw_70) hK hP hD hS hA rfl (by decide) (Nat.le_of_ble_eq_true rfl) (Nat.le_of_ble_eq_true rfl) e_A_82 (fun q82_33 H hP hD hS => ?_)
  refine W.widen (k := 34) (n := 1247) (Nat.le_of_ble_eq_true rfl) (Nat.le_of_ble_eq_true rfl) ?_
  refine lv_dup hx hb e_A_85 rfl ?_
  have hFc := z_last hD hS hA
  refine va_callv (va_runI (As := []) (rest := [.ref q82_33, .ref h0]) ⟨hx, hb, hml, hown, hts⟩ (c_Courts_init l D tI tZ tJ tQ q82_33 H.size) (cwI 0 hts (z_good zw_292) rfl rfl rfl (hts _ zw_70) (hts _ zw_290) (hts _ zw_291) rfl (by decide +kernel) ⟨Nat.le_of_ble_eq_true rfl, Nat.le_of_ble_eq_true rfl⟩) (z_pre hP hK hD hN hO) rfl rfl hl.1 rfl (lv_room (Nat.le_of_ble_eq_true rfl)) e_A_86 ⟨Nat.le_of_ble_eq_true rfl, Nat.le_of_ble_eq_true rfl⟩) hS (fun q _ h => hFc q h) hFc (fun u82_33 t H1 locs ht hvm hw hB hz1 hk1 hS => ?_)
  obtain ⟨hP1, hK1, hD1⟩ := hB
  rw [ht] at hP1
  obtain ⟨hP, hD⟩ := z_join hP hD hk1 hFc hP1 hD1
  refine W.widen (k := 87) (n := 1766) (Nat.le_of_ble_eq_true rfl) (Nat.le_of_ble_eq_true rfl) ?_
  clear hP1 hK1 hD1 hFc hk1 hz1 hw ht hvm
  generalize H1 = H at hP hS ⊢
  have hP : va_P D q_cl ([(h0, .inr (11, [.ref q5_0, .ref q16_6, .ref q27_12, .ref q38_16, .ref q49_26, .ref q60_29, .ref q71_31, .null, .null, .null, .int 0, .int 0]))] ++ z_Land tI tZ tJ tQ q5_0 u5_0 ++ z_Sales tI tZ tJ tQ q16_6 u16_6 ++ z_Shares tI tZ tJ tQ q27_12 u27_12 ++ z_Bank tI tZ tJ tQ q38_16 u38_16 ++ z_Herds tI tZ tJ tQ q49_26 u49_26 ++ z_Ways tI tZ tJ tQ q60_29 u60_29 ++ z_Tape tI tZ tJ tQ q71_31 u71_31 ++ z_Courts tI tZ tJ tQ q82_33 u82_33) H := hP
  have hD : va_D A ([(h0, .inr (11, [.ref q5_0, .ref q16_6, .ref q27_12, .ref q38_16, .ref q49_26, .ref q60_29, .ref q71_31, .null, .null, .null, .int 0, .int 0]))] ++ z_Land tI tZ tJ tQ q5_0 u5_0 ++ z_Sales tI tZ tJ tQ q16_6 u16_6 ++ z_Shares tI tZ tJ tQ q27_12 u27_12 ++ z_Bank tI tZ tJ tQ q38_16 u38_16 ++ z_Herds tI tZ tJ tQ q49_26 u49_26 ++ z_Ways tI tZ tJ tQ q60_29 u60_29 ++ z_Tape tI tZ tJ tQ q71_31 u71_31 ++ z_Courts tI tZ tJ tQ q82_33 u82_33) := hD
  refine va_putF (D := D) (ci := 11) (v := .ref q82_33) (C := "MarshCourt") (T := q_F11) (N := 12) hx hb hts ((q_clOK0 11 _ rfl).1) q_H11 q_clt11 q_cln11 hown hK hP hD hS 0 rfl rfl 7 (by decide) (hts _ zw_428) (fun _ h9 => h9) rfl hin rfl (q_clt11 7 (by decide)) rfl rfl (Nat.le_of_ble_eq_true rfl) e_A_89 (fun H locs hP hD hS => ?_)
  have hP : va_P D q_cl ([(h0, .inr (11, [.ref q5_0, .ref q16_6, .ref q27_12, .ref q38_16, .ref q49_26, .ref q60_29, .ref q71_31, .ref q82_33, .null, .null, .int 0, .int 0]))] ++ z_Land tI tZ tJ tQ q5_0 u5_0 ++ z_Sales tI tZ tJ tQ q16_6 u16_6 ++ z_Shares tI tZ tJ tQ q27_12 u27_12 ++ z_Bank tI tZ tJ tQ q38_16 u38_16 ++ z_Herds tI tZ tJ tQ q49_26 u49_26 ++ z_Ways tI tZ tJ tQ q60_29 u60_29 ++ z_Tape tI tZ tJ tQ q71_31 u71_31 ++ z_Courts tI tZ tJ tQ q82_33 u82_33) H := hP
  have hD : va_D A ([(h0, .inr (11, [.ref q5_0, .ref q16_6, .ref q27_12, .ref q38_16, .ref q49_26, .ref q60_29, .ref q71_31, .ref q82_33, .null, .null, .int 0, .int 0]))] ++ z_Land tI tZ tJ tQ q5_0 u5_0 ++ z_Sales tI tZ tJ tQ q16_6 u16_6 ++ z_Shares tI tZ tJ tQ q27_12 u27_12 ++ z_Bank tI tZ tJ tQ q38_16 u38_16 ++ z_Herds tI tZ tJ tQ q49_26 u49_26 ++ z_Ways tI tZ tJ tQ q60_29 u60_29 ++ z_Tape tI tZ tJ tQ q71_31 u71_31 ++ z_Courts tI tZ tJ tQ q82_33 u82_33) := hD
  refine lv_aload_n hx hb e_A_92 rfl (lv_at hl 0 rfl) ?_
  refine va_new (ci := 3) (fs := [.null, .null, .null, .null, .null, .null, .null, .int 0]) (C := "MarshCourt$Faults") (T := q_F3) (N := 8) hx hb hts ((q_clOK0 3 _ rfl).1) q_H3 q_clt3 hown (hts _ zw_353) (hts _ zw_354) (hts _ zw_72) hK hP hD hS hA rfl (by decide) (Nat.le_of_ble_eq_true rfl) (Nat.le_of_ble_eq_true rfl) e_A_93 (fun q93_87 H hP hD hS => ?_)
  refine W.widen (k := 88) (n := 1774) (Nat.le_of_ble_eq_true rfl) (Nat.le_of_ble_eq_true rfl) ?_
  refine lv_dup hx hb e_A_96 rfl ?_
  have hFc := z_last hD hS hA
  refine va_callv (va_runI (As := []) (rest := [.ref q93_87, .ref h0]) ⟨hx, hb, hml, hown, hts⟩ (c_Faults_init l D tI tZ tJ tQ q93_87 H.size) (cwI 0 hts (z_good zw_357) rfl rfl rfl (hts _ zw_72) (hts _ zw_355) (hts _ zw_356) rfl (by decide +kernel) ⟨Nat.le_of_ble_eq_true rfl, Nat.le_of_ble_eq_true rfl⟩) (z_pre hP hK hD hN hO) rfl rfl hl.1 rfl (lv_room (Nat.le_of_ble_eq_true rfl)) e_A_97 ⟨Nat.le_of_ble_eq_true rfl, Nat.le_of_ble_eq_true rfl⟩) hS (fun q _ h => hFc q h) hFc (fun u93_87 t H1 locs ht hvm hw hB hz1 hk1 hS => ?_)
  obtain ⟨hP1, hK1, hD1⟩ := hB
  rw [ht] at hP1
  obtain ⟨hP, hD⟩ := z_join hP hD hk1 hFc hP1 hD1
  refine W.widen (k := 95) (n := 2158) (Nat.le_of_ble_eq_true rfl) (Nat.le_of_ble_eq_true rfl) ?_
  clear hP1 hK1 hD1 hFc hk1 hz1 hw ht hvm
  generalize H1 = H at hP hS ⊢
  have hP : va_P D q_cl ([(h0, .inr (11, [.ref q5_0, .ref q16_6, .ref q27_12, .ref q38_16, .ref q49_26, .ref q60_29, .ref q71_31, .ref q82_33, .null, .null, .int 0, .int 0]))] ++ z_Land tI tZ tJ tQ q5_0 u5_0 ++ z_Sales tI tZ tJ tQ q16_6 u16_6 ++ z_Shares tI tZ tJ tQ q27_12 u27_12 ++ z_Bank tI tZ tJ tQ q38_16 u38_16 ++ z_Herds tI tZ tJ tQ q49_26 u49_26 ++ z_Ways tI tZ tJ tQ q60_29 u60_29 ++ z_Tape tI tZ tJ tQ q71_31 u71_31 ++ z_Courts tI tZ tJ tQ q82_33 u82_33 ++ z_Faults tI tZ tJ tQ q93_87 u93_87) H := hP
  have hD : va_D A ([(h0, .inr (11, [.ref q5_0, .ref q16_6, .ref q27_12, .ref q38_16, .ref q49_26, .ref q60_29, .ref q71_31, .ref q82_33, .null, .null, .int 0, .int 0]))] ++ z_Land tI tZ tJ tQ q5_0 u5_0 ++ z_Sales tI tZ tJ tQ q16_6 u16_6 ++ z_Shares tI tZ tJ tQ q27_12 u27_12 ++ z_Bank tI tZ tJ tQ q38_16 u38_16 ++ z_Herds tI tZ tJ tQ q49_26 u49_26 ++ z_Ways tI tZ tJ tQ q60_29 u60_29 ++ z_Tape tI tZ tJ tQ q71_31 u71_31 ++ z_Courts tI tZ tJ tQ q82_33 u82_33 ++ z_Faults tI tZ tJ tQ q93_87 u93_87) := hD
  refine va_putF (D := D) (ci := 11) (v := .ref q93_87) (C := "MarshCourt") (T := q_F11) (N := 12) hx hb hts ((q_clOK0 11 _ rfl).1) q_H11 q_clt11 q_cln11 hown hK hP hD hS 0 rfl rfl 8 (by decide) (hts _ zw_429) (fun _ h9 => h9) rfl hin rfl (q_clt11 8 (by decide)) rfl rfl (Nat.le_of_ble_eq_true rfl) e_A_100 (fun H locs hP hD hS => ?_)
  have hP : va_P D q_cl ([(h0, .inr (11, [.ref q5_0, .ref q16_6, .ref q27_12, .ref q38_16, .ref q49_26, .ref q60_29, .ref q71_31, .ref q82_33, .ref q93_87, .null, .int 0, .int 0]))] ++ z_Land tI tZ tJ tQ q5_0 u5_0 ++ z_Sales tI tZ tJ tQ q16_6 u16_6 ++ z_Shares tI tZ tJ tQ q27_12 u27_12 ++ z_Bank tI tZ tJ tQ q38_16 u38_16 ++ z_Herds tI tZ tJ tQ q49_26 u49_26 ++ z_Ways tI tZ tJ tQ q60_29 u60_29 ++ z_Tape tI tZ tJ tQ q71_31 u71_31 ++ z_Courts tI tZ tJ tQ q82_33 u82_33 ++ z_Faults tI tZ tJ tQ q93_87 u93_87) H := hP
  have hD : va_D A ([(h0, .inr (11, [.ref q5_0, .ref q16_6, .ref q27_12, .ref q38_16, .ref q49_26, .ref q60_29, .ref q71_31, .ref q82_33, .ref q93_87, .null, .int 0, .int 0]))] ++ z_Land tI tZ tJ tQ q5_0 u5_0 ++ z_Sales tI tZ tJ tQ q16_6 u16_6 ++ z_Shares tI tZ tJ tQ q27_12 u27_12 ++ z_Bank tI tZ tJ tQ q38_16 u38_16 ++ z_Herds tI tZ tJ tQ q49_26 u49_26 ++ z_Ways tI tZ tJ tQ q60_29 u60_29 ++ z_Tape tI tZ tJ tQ q71_31 u71_31 ++ z_Courts tI tZ tJ tQ q82_33 u82_33 ++ z_Faults tI tZ tJ tQ q93_87 u93_87) := hD
  refine lv_aload_n hx hb e_A_103 rfl (lv_at hl 0 rfl) ?_
  refine va_new (ci := 6) (fs := [.null, .null, .null, .int 0, .int 0, .int 0]) (C := "MarshCourt$Plan") (T := q_F6) (N := 6) hx hb hts ((q_clOK0 6 _ rfl).1) q_H6 q_clt6 hown (hts _ zw_392) (hts _ zw_393) (hts _ zw_74) hK hP hD hS hA rfl (by decide) (Nat.le_of_ble_eq_true rfl) (Nat.le_of_ble_eq_true rfl) e_A_104 (fun q104_95 H hP hD hS => ?_)
  refine W.widen (k := 96) (n := 2164) (Nat.le_of_ble_eq_true rfl) (Nat.le_of_ble_eq_true rfl) ?_
  refine lv_dup hx hb e_A_107 rfl ?_
  have hFc := z_last hD hS hA
  refine va_callv (va_runIN (As := []) (rest := [.ref q104_95, .ref h0]) ⟨hx, hb, hml, hown, hts⟩ (c_Plan_init l D tI tZ tJ tQ q104_95 H.size) ⟨va_cnB 0 hts (z_good zw_396) rfl rfl rfl (hN _ zn_A_74) (hts _ zw_74) (by decide +kernel) ⟨Nat.le_of_ble_eq_true rfl, Nat.le_of_ble_eq_true rfl⟩, rfl, hts _ zw_395⟩ (z_pre hP hK hD hN hO) rfl rfl hl.1 rfl (lv_room (Nat.le_of_ble_eq_true rfl)) e_A_108 ⟨Nat.le_of_ble_eq_true rfl, Nat.le_of_ble_eq_true rfl⟩) hS (fun q _ h => hFc q h) hFc (fun u104_95 t H1 locs ht hvm hw hB hz1 hk1 hS => ?_)
  obtain ⟨hP1, hK1, hD1⟩ := hB
  rw [ht] at hP1
  obtain ⟨hP, hD⟩ := z_join hP hD hk1 hFc hP1 hD1
  refine W.widen (k := 99) (n := 2767) (Nat.le_of_ble_eq_true rfl) (Nat.le_of_ble_eq_true rfl) ?_
  clear hP1 hK1 hD1 hFc hk1 hz1 hw ht hvm
  generalize H1 = H at hP hS ⊢
  have hP : va_P D q_cl ([(h0, .inr (11, [.ref q5_0, .ref q16_6, .ref q27_12, .ref q38_16, .ref q49_26, .ref q60_29, .ref q71_31, .ref q82_33, .ref q93_87, .null, .int 0, .int 0]))] ++ z_Land tI tZ tJ tQ q5_0 u5_0 ++ z_Sales tI tZ tJ tQ q16_6 u16_6 ++ z_Shares tI tZ tJ tQ q27_12 u27_12 ++ z_Bank tI tZ tJ tQ q38_16 u38_16 ++ z_Herds tI tZ tJ tQ q49_26 u49_26 ++ z_Ways tI tZ tJ tQ q60_29 u60_29 ++ z_Tape tI tZ tJ tQ q71_31 u71_31 ++ z_Courts tI tZ tJ tQ q82_33 u82_33 ++ z_Faults tI tZ tJ tQ q93_87 u93_87 ++ z_Plan tI tZ tJ tQ q104_95 u104_95) H := hP
  have hD : va_D A ([(h0, .inr (11, [.ref q5_0, .ref q16_6, .ref q27_12, .ref q38_16, .ref q49_26, .ref q60_29, .ref q71_31, .ref q82_33, .ref q93_87, .null, .int 0, .int 0]))] ++ z_Land tI tZ tJ tQ q5_0 u5_0 ++ z_Sales tI tZ tJ tQ q16_6 u16_6 ++ z_Shares tI tZ tJ tQ q27_12 u27_12 ++ z_Bank tI tZ tJ tQ q38_16 u38_16 ++ z_Herds tI tZ tJ tQ q49_26 u49_26 ++ z_Ways tI tZ tJ tQ q60_29 u60_29 ++ z_Tape tI tZ tJ tQ q71_31 u71_31 ++ z_Courts tI tZ tJ tQ q82_33 u82_33 ++ z_Faults tI tZ tJ tQ q93_87 u93_87 ++ z_Plan tI tZ tJ tQ q104_95 u104_95) := hD
  refine va_putF (D := D) (ci := 11) (v := .ref q104_95) (C := "MarshCourt") (T := q_F11) (N := 12) hx hb hts ((q_clOK0 11 _ rfl).1) q_H11 q_clt11 q_cln11 hown hK hP hD hS 0 rfl rfl 9 (by decide) (hts _ zw_430) (fun _ h9 => h9) rfl hin rfl (q_clt11 9 (by decide)) rfl rfl (Nat.le_of_ble_eq_true rfl) e_A_111 (fun H locs hP hD hS => ?_)
  have hP : va_P D q_cl ([(h0, .inr (11, [.ref q5_0, .ref q16_6, .ref q27_12, .ref q38_16, .ref q49_26, .ref q60_29, .ref q71_31, .ref q82_33, .ref q93_87, .ref q104_95, .int 0, .int 0]))] ++ z_Land tI tZ tJ tQ q5_0 u5_0 ++ z_Sales tI tZ tJ tQ q16_6 u16_6 ++ z_Shares tI tZ tJ tQ q27_12 u27_12 ++ z_Bank tI tZ tJ tQ q38_16 u38_16 ++ z_Herds tI tZ tJ tQ q49_26 u49_26 ++ z_Ways tI tZ tJ tQ q60_29 u60_29 ++ z_Tape tI tZ tJ tQ q71_31 u71_31 ++ z_Courts tI tZ tJ tQ q82_33 u82_33 ++ z_Faults tI tZ tJ tQ q93_87 u93_87 ++ z_Plan tI tZ tJ tQ q104_95 u104_95) H := hP
  have hD : va_D A ([(h0, .inr (11, [.ref q5_0, .ref q16_6, .ref q27_12, .ref q38_16, .ref q49_26, .ref q60_29, .ref q71_31, .ref q82_33, .ref q93_87, .ref q104_95, .int 0, .int 0]))] ++ z_Land tI tZ tJ tQ q5_0 u5_0 ++ z_Sales tI tZ tJ tQ q16_6 u16_6 ++ z_Shares tI tZ tJ tQ q27_12 u27_12 ++ z_Bank tI tZ tJ tQ q38_16 u38_16 ++ z_Herds tI tZ tJ tQ q49_26 u49_26 ++ z_Ways tI tZ tJ tQ q60_29 u60_29 ++ z_Tape tI tZ tJ tQ q71_31 u71_31 ++ z_Courts tI tZ tJ tQ q82_33 u82_33 ++ z_Faults tI tZ tJ tQ q93_87 u93_87 ++ z_Plan tI tZ tJ tQ q104_95 u104_95) := hD
  refine W.widen (k := 99) (n := 2767) (Nat.le_of_ble_eq_true rfl) (Nat.le_of_ble_eq_true rfl) ?_
  exact W.vret hx hb hr (fun t ht hW => ⟨⟨([q5_0, q16_6, q27_12, q38_16, q49_26, q60_29, q71_31, q82_33, q93_87, q104_95], [u5_0, u16_6, u27_12, u38_16, u49_26, u60_29, u71_31, u82_33, u93_87, u104_95]), rfl, trivial, by rw [ht]; exact hP, va_K.moved hW.alike hK, hD⟩, hS.F ht⟩) hS.2.2 e_A_114
