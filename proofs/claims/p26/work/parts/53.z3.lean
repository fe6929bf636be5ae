def z_Courts (tI tZ tJ tQ : ClassId) (h0 : Nat) (u : List Nat) : va_W := [(h0, .inr (1, [.ref (u.getD 0 0), .ref (u.getD 1 0), .int 0])), ((u.getD 0 0), .inl (tQ, 12, .inr (.inr (.inr (.inr (va_up (va_up (va_up (va_up (va_up (va_up (va_up (va_up (va_up (va_up (va_up (va_up (fun _ => none) 0 (some (u.getD 5 0))) 1 (some (u.getD 9 0))) 2 (some (u.getD 13 0))) 3 (some (u.getD 17 0))) 4 (some (u.getD 21 0))) 5 (some (u.getD 25 0))) 6 (some (u.getD 29 0))) 7 (some (u.getD 33 0))) 8 (some (u.getD 37 0))) 9 (some (u.getD 41 0))) 10 (some (u.getD 45 0))) 11 (some (u.getD 49 0))))))))] ++ z_Custom tI tZ tJ tQ (u.getD 1 0) (u.drop 2) ++ z_Custom tI tZ tJ tQ (u.getD 5 0) (u.drop 6) ++ z_Custom tI tZ tJ tQ (u.getD 9 0) (u.drop 10) ++ z_Custom tI tZ tJ tQ (u.getD 13 0) (u.drop 14) ++ z_Custom tI tZ tJ tQ (u.getD 17 0) (u.drop 18) ++ z_Custom tI tZ tJ tQ (u.getD 21 0) (u.drop 22) ++ z_Custom tI tZ tJ tQ (u.getD 25 0) (u.drop 26) ++ z_Custom tI tZ tJ tQ (u.getD 29 0) (u.drop 30) ++ z_Custom tI tZ tJ tQ (u.getD 33 0) (u.drop 34) ++ z_Custom tI tZ tJ tQ (u.getD 37 0) (u.drop 38) ++ z_Custom tI tZ tJ tQ (u.getD 41 0) (u.drop 42) ++ z_Custom tI tZ tJ tQ (u.getD 45 0) (u.drop 46) ++ z_Custom tI tZ tJ tQ (u.getD 49 0) (u.drop 50)
set_option maxHeartbeats 8000000 in
set_option maxRecDepth 100000 in
theorem c_Courts_init (l : Launch) (D : va_G) (tI tZ tJ tQ : ClassId) (h0 sz : Nat) : Met l ⟨"MarshCourt$Courts", "<init>", "()V"⟩ (z_w ⟨"MarshCourt$Courts", "<init>", "()V"⟩ prog_3_method_1_code 2) ({ frames := 2, cells := 53, slots := 519, locals := 32 }) (va_Pc [.ref h0] (z_B D (z_t tI tZ tJ tQ) [(h0, .inr (1, [.null, .null, .int 0]))] sz)) (va_Qv (fun _ : List Nat => True) (fun u t => z_E D (z_t tI tZ tJ tQ) (va_A [(h0, .inr (1, [.null, .null, .int 0]))] sz) (z_Courts tI tZ tJ tQ h0 u) t) (va_A [(h0, .inr (1, [.null, .null, .int 0]))] sz)) 53 519 (va_A [(h0, .inr (1, [.null, .null, .int 0]))] sz) := by
  refine Met.ofW (cc := prog_3_method_1_code) (maxL := 2) (ret := none) (by decide) rfl ?_
  intro p e s m args below meth c s₁ B hml hv
  obtain ⟨rfl, hsz, hP, hK, hD0, hN, hO⟩ := hv
  have hx := B.exec
  have hb := B.bytes
  have hr := B.returns
  have hts0 := atoms_spec (ws := z_w ⟨"MarshCourt$Courts", "<init>", "()V"⟩ prog_3_method_1_code 2) B.pre
  have hts : ∀ w ∈ q_gw q_T0, w.before _ s = true := fun w hw => hts0 w (List.mem_cons_of_mem _ hw)
  have hown : s.vm.findClass "MarshCourt$Courts" = some m.cls := findClass_of_methodNamed B.named
  have hlocks := B.notSynchronized
  have hin : meth.name = "<init>" := (name_of_methodNamed B.named B.method).1
  subst hsz
  have hD := hD0.self (sz := s.heap.size)
  generalize hAe : va_A [(h0, .inr (1, [.null, .null, .int 0]))] s.heap.size = A at hD ⊢
  have hA : ∀ q : Nat, s.heap.size ≤ q → A q := fun q h => by rw [← hAe]; exact Or.inr h
  have hS : va_S A s.heap s.heap [] := va_S.rf
  have hl := lv_entry ([.ref h0]) (n := 2) (Nat.le_of_ble_eq_true rfl)
  rw [lg_entry_eq]
  generalize (lg_sl ([.ref h0]) ++ List.replicate (2 - (lg_sl ([.ref h0])).length) Slot.unset).toArray = ls at hl ⊢
  have hl : lv_has ls 2 [(0, .ref h0)] := hl
  refine lv_aload_n hx hb e_Courts_0 rfl (lv_at hl 0 rfl) ?_
  refine W.objInit hx hb hown (hts _ zw_293) (hts _ zw_87) (hts _ zw_88) rfl (by rw [hml]; exact hl.1) rfl e_Courts_1 (Nat.le_of_ble_eq_true rfl) (Nat.le_of_ble_eq_true rfl) ?_
  refine W.eq (g2 := F0 m 4 ls []) rfl ?_
  refine lv_aload_n hx hb e_Courts_4 rfl (lv_at hl 0 rfl) ?_
  refine lv_bipush (v := 12) hx hb e_Courts_5 (by decide) ?_
  refine z_newq (N' := 12) hx hb hown (hts _ zw_294) hO hK 3 rfl hP hD hS hA (by decide) (by decide) (by decide) (Nat.le_of_ble_eq_true rfl) (Nat.le_of_ble_eq_true rfl) e_Courts_7 (fun q7 H hP hD hS => ?_)
  refine W.widen (k := 1) (n := 12) (Nat.le_of_ble_eq_true rfl) (Nat.le_of_ble_eq_true rfl) ?_
  refine va_putF (D := D) (ci := 1) (v := .ref q7) (C := "MarshCourt$Courts") (T := q_F1) (N := 3) hx hb hts ((q_clOK0 1 _ rfl).1) q_H1 q_clt1 q_cln1 hown hK hP hD hS 0 rfl rfl 0 (by decide) (hts _ zw_341) (fun _ h9 => h9) rfl hin rfl (q_clt1 0 (by decide)) rfl rfl (Nat.le_of_ble_eq_true rfl) e_Courts_10 (fun H locs hP hD hS => ?_)
  have hP : va_P D q_cl ([(h0, .inr (1, [.ref q7, .null, .int 0])), (q7, .inl (tQ, 12, .inr (.inr (.inr (.inr (fun _ => none))))))]) H := hP
  have hD : va_D A ([(h0, .inr (1, [.ref q7, .null, .int 0])), (q7, .inl (tQ, 12, .inr (.inr (.inr (.inr (fun _ => none))))))]) := hD
  refine lv_aload_n hx hb e_Courts_13 rfl (lv_at hl 0 rfl) ?_
  refine va_new (ci := 2) (fs := [.int 0, .int 0, .int 0, .int 0, .int 0, .null, .null, .null, .int 0]) (C := "MarshCourt$Custom") (T := q_F2) (N := 9) hx hb hts ((q_clOK0 2 _ rfl).1) q_H2 q_clt2 hown (hts _ zw_294) (hts _ zw_296) (hts _ zw_71) hK hP hD hS hA rfl (by decide) (Nat.le_of_ble_eq_true rfl) (Nat.le_of_ble_eq_true rfl) e_Courts_14 (fun q14_1 H hP hD hS => ?_)
  refine W.widen (k := 2) (n := 21) (Nat.le_of_ble_eq_true rfl) (Nat.le_of_ble_eq_true rfl) ?_
  refine lv_dup hx hb e_Courts_17 rfl ?_
  have hFc := z_last hD hS hA
  refine va_callv (va_runI (As := []) (rest := [.ref q14_1, .ref h0]) ⟨hx, hb, hml, hown, hts⟩ (c_Custom_init l D tI tZ tJ tQ q14_1 H.size) (cwI 0 hts (z_good zw_299) rfl rfl rfl (hts _ zw_71) (hts _ zw_297) (hts _ zw_298) rfl (by decide +kernel) ⟨Nat.le_of_ble_eq_true rfl, Nat.le_of_ble_eq_true rfl⟩) (z_pre hP hK hD hN hO) rfl rfl hl.1 rfl (lv_room (Nat.le_of_ble_eq_true rfl)) e_Courts_18 ⟨Nat.le_of_ble_eq_true rfl, Nat.le_of_ble_eq_true rfl⟩) hS (fun q _ h => hFc q h) hFc (fun u14_1 t H1 locs ht hvm hw hB hz1 hk1 hS => ?_)
  obtain ⟨hP1, hK1, hD1⟩ := hB
  rw [ht] at hP1
  obtain ⟨hP, hD⟩ := z_join hP hD hk1 hFc hP1 hD1
  refine W.widen (k := 5) (n := 51) (Nat.le_of_ble_eq_true rfl) (Nat.le_of_ble_eq_true rfl) ?_
  clear hP1 hK1 hD1 hFc hk1 hz1 hw ht hvm
  generalize H1 = H at hP hS ⊢
  have hP : va_P D q_cl ([(h0, .inr (1, [.ref q7, .null, .int 0])), (q7, .inl (tQ, 12, .inr (.inr (.inr (.inr (fun _ => none))))))] ++ z_Custom tI tZ tJ tQ q14_1 u14_1) H := hP
  have hD : va_D A ([(h0, .inr (1, [.ref q7, .null, .int 0])), (q7, .inl (tQ, 12, .inr (.inr (.inr (.inr (fun _ => none))))))] ++ z_Custom tI tZ tJ tQ q14_1 u14_1) := hD
  refine va_putF (D := D) (ci := 1) (v := .ref q14_1) (C := "MarshCourt$Courts") (T := q_F1) (N := 3) hx hb hts ((q_clOK0 1 _ rfl).1) q_H1 q_clt1 q_cln1 hown hK hP hD hS 0 rfl rfl 1 (by decide) (hts _ zw_343) (fun _ h9 => h9) rfl hin rfl (q_clt1 1 (by decide)) rfl rfl (Nat.le_of_ble_eq_true rfl) e_Courts_21 (fun H locs hP hD hS => ?_)
  have hP : va_P D q_cl ([(h0, .inr (1, [.ref q7, .ref q14_1, .int 0])), (q7, .inl (tQ, 12, .inr (.inr (.inr (.inr (fun _ => none))))))] ++ z_Custom tI tZ tJ tQ q14_1 u14_1) H := hP
  have hD : va_D A ([(h0, .inr (1, [.ref q7, .ref q14_1, .int 0])), (q7, .inl (tQ, 12, .inr (.inr (.inr (.inr (fun _ => none))))))] ++ z_Custom tI tZ tJ tQ q14_1 u14_1) := hD
  refine lv_iconst (v := 0) hx hb e_Courts_24 (by decide) ?_
  refine lv_istore_n (lv' := [(1, .int 0), (0, .ref h0)]) hx hb e_Courts_25 rfl hl (by decide) rfl (fun ls hl => ?_)
  refine lv_iload_n hx hb e_Courts_26 rfl (lv_at hl 0 rfl) ?_
  refine lv_bipush (v := 12) hx hb e_Courts_27 (by decide) ?_
  refine lv_icmp_ge (tgt := 51) hx hb e_Courts_29 rfl (fun h => absurd h (by decide)) (fun _ => ?_)
  refine lv_aload_n hx hb e_Courts_32 rfl (lv_at hl 1 rfl) ?_
  refine va_get (D := D) (ci := 1) (v := .ref q7) (C := "MarshCourt$Courts") (T := q_F1) (N := 3) hx hb hts ((q_clOK0 1 _ rfl).1) hown hK hP 0 rfl rfl 0 (by decide) (hts _ zw_341) (fun _ h9 => h9) rfl e_Courts_33 ?_
  refine lv_iload_n hx hb e_Courts_36 rfl (lv_at hl 0 rfl) ?_
  refine va_new (ci := 2) (fs := [.int 0, .int 0, .int 0, .int 0, .int 0, .null, .null, .null, .int 0]) (C := "MarshCourt$Custom") (T := q_F2) (N := 9) hx hb hts ((q_clOK0 2 _ rfl).1) q_H2 q_clt2 hown (hts _ zw_294) (hts _ zw_296) (hts _ zw_71) hK hP hD hS hA rfl (by decide) (Nat.le_of_ble_eq_true rfl) (Nat.le_of_ble_eq_true rfl) e_Courts_37 (fun q37_5 H hP hD hS => ?_)
  refine W.widen (k := 6) (n := 60) (Nat.le_of_ble_eq_true rfl) (Nat.le_of_ble_eq_true rfl) ?_
  refine lv_dup hx hb e_Courts_40 rfl ?_
  have hFc := z_last hD hS hA
  refine va_callv (va_runI (As := []) (rest := [.ref q37_5, .int 0, .ref q7]) ⟨hx, hb, hml, hown, hts⟩ (c_Custom_init l D tI tZ tJ tQ q37_5 H.size) (cwI 0 hts (z_good zw_299) rfl rfl rfl (hts _ zw_71) (hts _ zw_297) (hts _ zw_298) rfl (by decide +kernel) ⟨Nat.le_of_ble_eq_true rfl, Nat.le_of_ble_eq_true rfl⟩) (z_pre hP hK hD hN hO) rfl rfl hl.1 rfl (lv_room (Nat.le_of_ble_eq_true rfl)) e_Courts_41 ⟨Nat.le_of_ble_eq_true rfl, Nat.le_of_ble_eq_true rfl⟩) hS (fun q _ h => hFc q h) hFc (fun u37_5 t H1 locs ht hvm hw hB hz1 hk1 hS => ?_)
  obtain ⟨hP1, hK1, hD1⟩ := hB
  rw [ht] at hP1
  obtain ⟨hP, hD⟩ := z_join hP hD hk1 hFc hP1 hD1
  refine W.widen (k := 9) (n := 90) (Nat.le_of_ble_eq_true rfl) (Nat.le_of_ble_eq_true rfl) ?_
  clear hP1 hK1 hD1 hFc hk1 hz1 hw ht hvm
  generalize H1 = H at hP hS ⊢
  have hP : va_P D q_cl ([(h0, .inr (1, [.ref q7, .ref q14_1, .int 0])), (q7, .inl (tQ, 12, .inr (.inr (.inr (.inr (fun _ => none))))))] ++ z_Custom tI tZ tJ tQ q14_1 u14_1 ++ z_Custom tI tZ tJ tQ q37_5 u37_5) H := hP
  have hD : va_D A ([(h0, .inr (1, [.ref q7, .ref q14_1, .int 0])), (q7, .inl (tQ, 12, .inr (.inr (.inr (.inr (fun _ => none))))))] ++ z_Custom tI tZ tJ tQ q14_1 u14_1 ++ z_Custom tI tZ tJ tQ q37_5 u37_5) := hD
  refine va_astq (D := D) (r := ("MarshCourt$Custom", q_F2, 9)) hx hb hK hP hD hS 1 3 6 2 rfl rfl rfl rfl (by unfold vp_in; decide) e_Courts_44 (fun H locs hP hD hS => ?_)
  have hP : va_P D q_cl ([(h0, .inr (1, [.ref q7, .ref q14_1, .int 0])), (q7, .inl (tQ, 12, .inr (.inr (.inr (.inr (va_up (fun _ => none) 0 (some q37_5)))))))] ++ z_Custom tI tZ tJ tQ q14_1 u14_1 ++ z_Custom tI tZ tJ tQ q37_5 u37_5) H := hP
  have hD : va_D A ([(h0, .inr (1, [.ref q7, .ref q14_1, .int 0])), (q7, .inl (tQ, 12, .inr (.inr (.inr (.inr (va_up (fun _ => none) 0 (some q37_5)))))))] ++ z_Custom tI tZ tJ tQ q14_1 u14_1 ++ z_Custom tI tZ tJ tQ q37_5 u37_5) := hD
  refine lv_iinc (v := 1) (k := 0) (lv' := [(1, .int 1), (0, .ref h0)]) hx hb e_Courts_45 hl rfl (by decide) (by decide) rfl (fun ls hl => ?_)
  refine lv_goto (tgt := 26) hx hb e_Courts_48 rfl ?_
  refine lv_iload_n hx hb e_Courts_26 rfl (lv_at hl 0 rfl) ?_
  refine lv_bipush (v := 12) hx hb e_Courts_27 (by decide) ?_
  refine lv_icmp_ge (tgt := 51) hx hb e_Courts_29 rfl (fun h => absurd h (by decide)) (fun _ => ?_)
  refine lv_aload_n hx hb e_Courts_32 rfl (lv_at hl 1 rfl) ?_
  refine va_get (D := D) (ci := 1) (v := .ref q7) (C := "MarshCourt$Courts") (T := q_F1) (N := 3) hx hb hts ((q_clOK0 1 _ rfl).1) hown hK hP 0 rfl rfl 0 (by decide) (hts _ zw_341) (fun _ h9 => h9) rfl e_Courts_33 ?_
  refine lv_iload_n hx hb e_Courts_36 rfl (lv_at hl 0 rfl) ?_
  refine va_new (ci := 2) (fs := [.int 0, .int 0, .int 0, .int 0, .int 0, .null, .null, .null, .int 0]) (C := "MarshCourt$Custom") (T := q_F2) (N := 9) hx hb hts ((q_clOK0 2 _ rfl).1) q_H2 q_clt2 hown (hts _ zw_294) (hts _ zw_296) (hts _ zw_71) hK hP hD hS hA rfl (by decide) (Nat.le_of_ble_eq_true rfl) (Nat.le_of_ble_eq_true rfl) e_Courts_37 (fun q37_9 H hP hD hS => ?_)
  refine W.widen (k := 10) (n := 99) (Nat.le_of_ble_eq_true rfl) (Nat.le_of_ble_eq_true rfl) ?_
  refine lv_dup hx hb e_Courts_40 rfl ?_
  have hFc := z_last hD hS hA
  refine va_callv (va_runI (As := []) (rest := [.ref q37_9, .int 1, .ref q7]) ⟨hx, hb, hml, hown, hts⟩ (c_Custom_init l D tI tZ tJ tQ q37_9 H.size) (cwI 0 hts (z_good zw_299) rfl rfl rfl (hts _ zw_71) (hts _ zw_297) (hts _ zw_298) rfl (by decide +kernel) ⟨Nat.le_of_ble_eq_true rfl, Nat.le_of_ble_eq_true rfl⟩) (z_pre hP hK hD hN hO) rfl rfl hl.1 rfl (lv_room (Nat.le_of_ble_eq_true rfl)) e_Courts_41 ⟨Nat.le_of_ble_eq_true rfl, Nat.le_of_ble_eq_true rfl⟩) hS (fun q _ h => hFc q h) hFc (fun u37_9 t H1 locs ht hvm hw hB hz1 hk1 hS => ?_)
  obtain ⟨hP1, hK1, hD1⟩ := hB
  rw [ht] at hP1
  obtain ⟨hP, hD⟩ := z_join hP hD hk1 hFc hP1 hD1
  refine W.widen (k := 13) (n := 129) (Nat.le_of_ble_eq_true rfl) (Nat.le_of_ble_eq_true rfl) ?_
  clear hP1 hK1 hD1 hFc hk1 hz1 hw ht hvm
  generalize H1 = H at hP hS ⊢
  have hP : va_P D q_cl ([(h0, .inr (1, [.ref q7, .ref q14_1, .int 0])), (q7, .inl (tQ, 12, .inr (.inr (.inr (.inr (va_up (fun _ => none) 0 (some q37_5)))))))] ++ z_Custom tI tZ tJ tQ q14_1 u14_1 ++ z_Custom tI tZ tJ tQ q37_5 u37_5 ++ z_Custom tI tZ tJ tQ q37_9 u37_9) H := hP
  have hD : va_D A ([(h0, .inr (1, [.ref q7, .ref q14_1, .int 0])), (q7, .inl (tQ, 12, .inr (.inr (.inr (.inr (va_up (fun _ => none) 0 (some q37_5)))))))] ++ z_Custom tI tZ tJ tQ q14_1 u14_1 ++ z_Custom tI tZ tJ tQ q37_5 u37_5 ++ z_Custom tI tZ tJ tQ q37_9 u37_9) := hD
  refine va_astq (D := D) (r := ("MarshCourt$Custom", q_F2, 9)) hx hb hK hP hD hS 1 3 10 2 rfl rfl rfl rfl (by unfold vp_in; decide) e_Courts_44 (fun H locs hP hD hS => ?_)
  have hP : va_P D q_cl ([(h0, .inr (1, [.ref q7, .ref q14_1, .int 0])), (q7, .inl (tQ, 12, .inr (.inr (.inr (.inr (va_up (va_up (fun _ => none) 0 (some q37_5)) 1 (some q37_9)))))))] ++ z_Custom tI tZ tJ tQ q14_1 u14_1 ++ z_Custom tI tZ tJ tQ q37_5 u37_5 ++ z_Custom tI tZ tJ tQ q37_9 u37_9) H := hP
  have hD : va_D A ([(h0, .inr (1, [.ref q7, .ref q14_1, .int 0])), (q7, .inl (tQ, 12, .inr (.inr (.inr (.inr (va_up (va_up (fun _ => none) 0 (some q37_5)) 1 (some q37_9)))))))] ++ z_Custom tI tZ tJ tQ q14_1 u14_1 ++ z_Custom tI tZ tJ tQ q37_5 u37_5 ++ z_Custom tI tZ tJ tQ q37_9 u37_9) := hD
  refine lv_iinc (v := 2) (k := 0) (lv' := [(1, .int 2), (0, .ref h0)]) hx hb e_Courts_45 hl rfl (by decide) (by decide) rfl (fun ls hl => ?_)
  refine lv_goto (tgt := 26) hx hb e_Courts_48 rfl ?_
  refine lv_iload_n hx hb e_Courts_26 rfl (lv_at hl 0 rfl) ?_
  refine lv_bipush (v := 12) hx hb e_Courts_27 (by decide) ?_
  refine lv_icmp_ge (tgt := 51) hx hb e_Courts_29 rfl (fun h => absurd h (by decide)) (fun _ => ?_)
  refine lv_aload_n hx hb e_Courts_32 rfl (lv_at hl 1 rfl) ?_
  refine va_get (D := D) (ci := 1) (v := .ref q7) (C := "MarshCourt$Courts") (T := q_F1) (N := 3) hx hb hts ((q_clOK0 1 _ rfl).1) hown hK hP 0 rfl rfl 0 (by decide) (hts _ zw_341) (fun _ h9 => h9) rfl e_Courts_33 ?_
  refine lv_iload_n hx hb e_Courts_36 rfl (lv_at hl 0 rfl) ?_
  refine va_new (ci := 2) (fs := [.int 0, .int 0, .int 0, .int 0, .int 0, .null, .null, .null, .int 0]) (C := "MarshCourt$Custom") (T := q_F2) (N := 9) hx hb hts ((q_clOK0 2 _ rfl).1) q_H2 q_clt2 hown (hts _ zw_294) (hts _ zw_296) (hts _ zw_71) hK hP hD hS hA rfl (by decide) (Nat.le_of_ble_eq_true rfl) (Nat.le_of_ble_eq_true rfl) e_Courts_37 (fun q37_13 H hP hD hS => ?_)
  refine W.widen (k := 14) (n := 138) (Nat.le_of_ble_eq_true rfl) (Nat.le_of_ble_eq_true rfl) ?_
  refine lv_dup hx hb e_Courts_40 rfl ?_
  have hFc := z_last hD hS hA
  refine va_callv (va_runI (As := []) (rest := [.ref q37_13, .int 2, .ref q7]) ⟨hx, hb, hml, hown, hts⟩ (c_Custom_init l D tI tZ tJ tQ q37_13 H.size) (cwI 0 hts (z_good zw_299) rfl rfl rfl (hts _ zw_71) (hts _ zw_297) (hts _ zw_298) rfl (by decide +kernel) ⟨Nat.le_of_ble_eq_true rfl, Nat.le_of_ble_eq_true rfl⟩) (z_pre hP hK hD hN hO) rfl rfl hl.1 rfl (lv_room (Nat.le_of_ble_eq_true rfl)) e_Courts_41 ⟨Nat.le_of_ble_eq_true rfl, Nat.le_of_ble_eq_true rfl⟩) hS (fun q _ h => hFc q h) hFc (fun u37_13 t H1 locs ht hvm hw hB hz1 hk1 hS => ?_)
  obtain ⟨hP1, hK1, hD1⟩ := hB
  rw [ht] at hP1
  obtain ⟨hP, hD⟩ := z_join hP hD hk1 hFc hP1 hD1
  refine W.widen (k := 17) (n := 168) (Nat.le_of_ble_eq_true rfl) (Nat.le_of_ble_eq_true rfl) ?_
  clear hP1 hK1 hD1 hFc hk1 hz1 hw ht hvm
  generalize H1 = H at hP hS ⊢
  have hP : va_P D q_cl ([(h0, .inr (1, [.ref q7, .ref q14_1, .int 0])), (q7, .inl (tQ, 12, .inr (.inr (.inr (.inr (va_up (va_up (fun _ => none) 0 (some q37_5)) 1 (some q37_9)))))))] ++ z_Custom tI tZ tJ tQ q14_1 u14_1 ++ z_Custom tI tZ tJ tQ q37_5 u37_5 ++ z_Custom tI tZ tJ tQ q37_9 u37_9 ++ z_Custom tI tZ tJ tQ q37_13 u37_13) H := hP
  have hD : va_D A ([(h0, .inr (1, [.ref q7, .ref q14_1, .int 0])), (q7, .inl (tQ, 12, .inr (.inr (.inr (.inr (va_up (va_up (fun _ => none) 0 (some q37_5)) 1 (some q37_9)))))))] ++ z_Custom tI tZ tJ tQ q14_1 u14_1 ++ z_Custom tI tZ tJ tQ q37_5 u37_5 ++ z_Custom tI tZ tJ tQ q37_9 u37_9 ++ z_Custom tI tZ tJ tQ q37_13 u37_13) := hD
  refine va_astq (D := D) (r := ("MarshCourt$Custom", q_F2, 9)) hx hb hK hP hD hS 1 3 14 2 rfl rfl rfl rfl (by unfold vp_in; decide) e_Courts_44 (fun H locs hP hD hS => ?_)
  have hP : va_P D q_cl ([(h0, .inr (1, [.ref q7, .ref q14_1, .int 0])), (q7, .inl (tQ, 12, .inr (.inr (.inr (.inr (va_up (va_up (va_up (fun _ => none) 0 (some q37_5)) 1 (some q37_9)) 2 (some q37_13)))))))] ++ z_Custom tI tZ tJ tQ q14_1 u14_1 ++ z_Custom tI tZ tJ tQ q37_5 u37_5 ++ z_Custom tI tZ tJ tQ q37_9 u37_9 ++ z_Custom tI tZ tJ tQ q37_13 u37_13) H := hP
  have hD : va_D A ([(h0, .inr (1, [.ref q7, .ref q14_1, .int 0])), (q7, .inl (tQ, 12, .inr (.inr (.inr (.inr (va_up (va_up (va_up (fun _ => none) 0 (some q37_5)) 1 (some q37_9)) 2 (some q37_13)))))))] ++ z_Custom tI tZ tJ tQ q14_1 u14_1 ++ z_Custom tI tZ tJ tQ q37_5 u37_5 ++ z_Custom tI tZ tJ tQ q37_9 u37_9 ++ z_Custom tI tZ tJ tQ q37_13 u37_13) := hD
  refine lv_iinc (v := 3) (k := 0) (lv' := [(1, .int 3), (0, .ref h0)]) hx hb e_Courts_45 hl rfl (by decide) (by decide) rfl (fun ls hl => ?_)
  refine lv_goto (tgt := 26) hx hb e_Courts_48 rfl ?_
  refine lv_iload_n hx hb e_Courts_26 rfl (lv_at hl 0 rfl) ?_
  refine lv_bipush (v := 12) hx hb e_Courts_27 (by decide) ?_
  refine lv_icmp_ge (tgt := 51) hx hb e_Courts_29 rfl (fun h => absurd h (by decide)) (fun _ => ?_)
  refine lv_aload_n hx hb e_Courts_32 rfl (lv_at hl 1 rfl) ?_
  refine va_get (D := D) (ci := 1) (v := .ref q7) (C := "MarshCourt$Courts") (T := q_F1) (N := 3) hx hb hts ((q_clOK0 1 _ rfl).1) hown hK hP 0 rfl rfl 0 (by decide) (hts _ zw_341) (fun _ h9 => h9) rfl e_Courts_33 ?_
  refine lv_iload_n hx hb e_Courts_36 rfl (lv_at hl 0 rfl) ?_
  refine va_new (ci := 2) (fs := [.int 0, .int 0, .int 0, .int 0, .int 0, .null, .null, .null, .int 0]) (C := "MarshCourt$Custom") (T := q_F2) (N := 9) hx hb hts ((q_clOK0 2 _ rfl).1) q_H2 q_clt2 hown (hts _ zw_294) (hts _ zw_296) (hts _ zw_71) hK hP hD hS hA rfl (by decide) (Nat.le_of_ble_eq_true rfl) (Nat.le_of_ble_eq_true rfl) e_Courts_37 (fun q37_17 H hP hD hS => ?_)
  refine W.widen (k := 18) (n := 177) (Nat.le_of_ble_eq_true rfl) (Nat.le_of_ble_eq_true rfl) ?_
  refine lv_dup hx hb e_Courts_40 rfl ?_
  have hFc := z_last hD hS hA
  refine va_callv (va_runI (As := []) (rest := [.ref q37_17, .int 3, .ref q7]) ⟨hx, hb, hml, hown, hts⟩ (c_Custom_init l D tI tZ tJ tQ q37_17 H.size) (cwI 0 hts (z_good zw_299) rfl rfl rfl (hts _ zw_71) (hts _ zw_297) (hts _ zw_298) rfl (by decide +kernel) ⟨Nat.le_of_ble_eq_true rfl, Nat.le_of_ble_eq_true rfl⟩) (z_pre hP hK hD hN hO) rfl rfl hl.1 rfl (lv_room (Nat.le_of_ble_eq_true rfl)) e_Courts_41 ⟨Nat.le_of_ble_eq_true rfl, Nat.le_of_ble_eq_true rfl⟩) hS (fun q _ h => hFc q h) hFc (fun u37_17 t H1 locs ht hvm hw hB hz1 hk1 hS => ?_)
  obtain ⟨hP1, hK1, hD1⟩ := hB
  rw [ht] at hP1
  obtain ⟨hP, hD⟩ := z_join hP hD hk1 hFc hP1 hD1
  refine W.widen (k := 21) (n := 207) (Nat.le_of_ble_eq_true rfl) (Nat.le_of_ble_eq_true rfl) ?_
  clear hP1 hK1 hD1 hFc hk1 hz1 hw ht hvm
  generalize H1 = H at hP hS ⊢
  have hP : va_P D q_cl ([(h0, .inr (1, [.ref q7, .ref q14_1, .int 0])), (q7, .inl (tQ, 12, .inr (.inr (.inr (.inr (va_up (va_up (va_up (fun _ => none) 0 (some q37_5)) 1 (some q37_9)) 2 (some q37_13)))))))] ++ z_Custom tI tZ tJ tQ q14_1 u14_1 ++ z_Custom tI tZ tJ tQ q37_5 u37_5 ++ z_Custom tI tZ tJ tQ q37_9 u37_9 ++ z_Custom tI tZ tJ tQ q37_13 u37_13 ++ z_Custom tI tZ tJ tQ q37_17 u37_17) H := hP
  have hD : va_D A ([(h0, .inr (1, [.ref q7, .ref q14_1, .int 0])), (q7, .inl (tQ, 12, .inr (.inr (.inr (.inr (va_up (va_up (va_up (fun _ => none) 0 (some q37_5)) 1 (some q37_9)) 2 (some q37_13)))))))] ++ z_Custom tI tZ tJ tQ q14_1 u14_1 ++ z_Custom tI tZ tJ tQ q37_5 u37_5 ++ z_Custom tI tZ tJ tQ q37_9 u37_9 ++ z_Custom tI tZ tJ tQ q37_13 u37_13 ++ z_Custom tI tZ tJ tQ q37_17 u37_17) := hD
  refine va_astq (D := D) (r := ("MarshCourt$Custom", q_F2, 9)) hx hb hK hP hD hS 1 3 18 2 rfl rfl rfl rfl (by unfold vp_in; decide) e_Courts_44 (fun H locs hP hD hS => ?_)
  have hP : va_P D q_cl ([(h0, .inr (1, [.ref q7, .ref q14_1, .int 0])), (q7, .inl (tQ, 12, .inr (.inr (.inr (.inr (va_up (va_up (va_up (va_up (fun _ => none) 0 (some q37_5)) 1 (some q37_9)) 2 (some q37_13)) 3 (some q37_17)))))))] ++ z_Custom tI tZ tJ tQ q14_1 u14_1 ++ z_Custom tI tZ tJ tQ q37_5 u37_5 ++ z_Custom tI tZ tJ tQ q37_9 u37_9 ++ z_Custom tI tZ tJ tQ q37_13 u37_13 ++ z_Custom tI tZ tJ tQ q37_17 u37_17) H := hP
  have hD : va_D A ([(h0, .inr (1, [.ref q7, .ref q14_1, .int 0])), (q7, .inl (tQ, 12, .inr (.inr (.inr (.inr (va_up (va_up (va_up (va_up (fun _ => none) 0 (some q37_5)) 1 (some q37_9)) 2 (some q37_13)) 3 (some q37_17)))))))] ++ z_Custom tI tZ tJ tQ q14_1 u14_1 ++ z_Custom tI tZ tJ tQ q37_5 u37_5 ++ z_Custom tI tZ tJ tQ q37_9 u37_9 ++ z_Custom tI tZ tJ tQ q37_13 u37_13 ++ z_Custom tI tZ tJ tQ q37_17 u37_17) := hD
  refine lv_iinc (v := 4) (k := 0) (lv' := [(1, .int 4), (0, .ref h0)]) hx hb e_Courts_45 hl rfl (by decide) (by decide) rfl (fun ls hl => ?_)
  refine lv_goto (tgt := 26) hx hb e_Courts_48 rfl ?_
  refine lv_iload_n hx hb e_Courts_26 rfl (lv_at hl 0 rfl) ?_
  refine lv_bipush (v := 12) hx hb e_Courts_27 (by decide) ?_
  refine lv_icmp_ge (tgt := 51) hx hb e_Courts_29 rfl (fun h => absurd h (by decide)) (fun _ => ?_)
  refine lv_aload_n hx hb e_Courts_32 rfl (lv_at hl 1 rfl) ?_
  refine va_get (D := D) (ci := 1) (v := .ref q7) (C := "MarshCourt$Courts") (T := q_F1) (N := 3) hx hb hts ((q_clOK0 1 _ rfl).1) hown hK hP 0 rfl rfl 0 (by decide) (hts _ zw_341) (fun _ h9 => h9) rfl e_Courts_33 ?_
  refine lv_iload_n hx hb e_Courts_36 rfl (lv_at hl 0 rfl) ?_
  refine va_new (ci := 2) (fs := [.int 0, .int 0, .int 0, .int 0, .int 0, .null, .null, .null, .int 0]) (C := "MarshCourt$Custom") (T := q_F2) (N := 9) hx hb hts ((q_clOK0 2 _ rfl).1) q_H2 q_clt2 hown (hts _ zw_294) (hts _ zw_296) (hts _ zw_71) hK hP hD hS hA rfl (by decide) (Nat.le_of_ble_eq_true rfl) (Nat.le_of_ble_eq_true rfl) e_Courts_37 (fun q37_21 H hP hD hS => ?_)
  refine W.widen (k := 22) (n := 216) (Nat.le_of_ble_eq_true rfl) (Nat.le_of_ble_eq_true rfl) ?_
  refine lv_dup hx hb e_Courts_40 rfl ?_
  have hFc := z_last hD hS hA
  refine va_callv (va_runI (As := []) (rest := [.ref q37_21, .int 4, .ref q7]) ⟨hx, hb, hml, hown, hts⟩ (c_Custom_init l D tI tZ tJ tQ q37_21 H.size) (cwI 0 hts (z_good zw_299) rfl rfl rfl (hts _ zw_71) (hts _ zw_297) (hts _ zw_298) rfl (by decide +kernel) ⟨Nat.le_of_ble_eq_true rfl, Nat.le_of_ble_eq_true rfl⟩) (z_pre hP hK hD hN hO) rfl rfl hl.1 rfl (lv_room (Nat.le_of_ble_eq_true rfl)) e_Courts_41 ⟨Nat.le_of_ble_eq_true rfl, Nat.le_of_ble_eq_true rfl⟩) hS (fun q _ h => hFc q h) hFc (fun u37_21 t H1 locs ht hvm hw hB hz1 hk1 hS => ?_)
  obtain ⟨hP1, hK1, hD1⟩ := hB
  rw [ht] at hP1
  obtain ⟨hP, hD⟩ := z_join hP hD hk1 hFc hP1 hD1
  refine W.widen (k := 25) (n := 246) (Nat.le_of_ble_eq_true rfl) (Nat.le_of_ble_eq_true rfl) ?_
  clear hP1 hK1 hD1 hFc hk1 hz1 hw ht hvm
  generalize H1 = H at hP hS ⊢
  have hP : va_P D q_cl ([(h0, .inr (1, [.ref q7, .ref q14_1, .int 0])), (q7, .inl (tQ, 12, .inr (.inr (.inr (.inr (va_up (va_up (va_up (va_up (fun _ => none) 0 (some q37_5)) 1 (some q37_9)) 2 (some q37_13)) 3 (some q37_17)))))))] ++ z_Custom tI tZ tJ tQ q14_1 u14_1 ++ z_Custom tI tZ tJ tQ q37_5 u37_5 ++ z_Custom tI tZ tJ tQ q37_9 u37_9 ++ z_Custom tI tZ tJ tQ q37_13 u37_13 ++ z_Custom tI tZ tJ tQ q37_17 u37_17 ++ z_Custom tI tZ tJ tQ q37_21 u37_21) H := hP
  have hD : va_D A ([(h0, .inr (1, [.ref q7, .ref q14_1, .int 0])), (q7, .inl (tQ, 12, .inr (.inr (.inr (.inr (va_up (va_up (va_up (va_up (fun _ => none) 0 (some q37_5)) 1 (some q37_9)) 2 (some q37_13)) 3 (some q37_17)))))))] ++ z_Custom tI tZ tJ tQ q14_1 u14_1 ++ z_Custom tI tZ tJ tQ q37_5 u37_5 ++ z_Custom tI tZ tJ tQ q37_9 u37_9 ++ z_Custom tI tZ tJ tQ q37_13 u37_13 ++ z_Custom tI tZ tJ tQ q37_17 u37_17 ++ z_Custom tI tZ tJ tQ q37_21 u37_21) := hD
  refine va_astq (D := D) (r := ("MarshCourt$Custom", q_F2, 9)) hx hb hK hP hD hS 1 3 22 2 rfl rfl rfl rfl (by unfold vp_in; decide) e_Courts_44 (fun H locs hP hD hS => ?_)
  have hP : va_P D q_cl ([(h0, .inr (1, [.ref q7, .ref q14_1, .int 0])), (q7, .inl (tQ, 12, .inr (.inr (.inr (.inr (va_up (va_up (va_up (va_up (va_up (fun _ => none) 0 (some q37_5)) 1 (some q37_9)) 2 (some q37_13)) 3 (some q37_17)) 4 (some q37_21)))))))] ++ z_Custom tI tZ tJ tQ q14_1 u14_1 ++ z_Custom tI tZ tJ tQ q37_5 u37_5 ++ z_Custom tI tZ tJ tQ q37_9 u37_9 ++ z_Custom tI tZ tJ tQ q37_13 u37_13 ++ z_Custom tI tZ tJ tQ q37_17 u37_17 ++ z_Custom tI tZ tJ tQ q37_21 u37_21) H := hP
  have hD : va_D A ([(h0, .inr (1, [.ref q7, .ref q14_1, .int 0])), (q7, .inl (tQ, 12, .inr (.inr (.inr (.inr (va_up (va_up (va_up (va_up (va_up (fun _ => none) 0 (some q37_5)) 1 (some q37_9)) 2 (some q37_13)) 3 (some q37_17)) 4 (some q37_21)))))))] ++ z_Custom tI tZ tJ tQ q14_1 u14_1 ++ z_Custom tI tZ tJ tQ q37_5 u37_5 ++ z_Custom tI tZ tJ tQ q37_9 u37_9 ++ z_Custom tI tZ tJ tQ q37_13 u37_13 ++ z_Custom tI tZ tJ tQ q37_17 u37_17 ++ z_Custom tI tZ tJ tQ q37_21 u37_21) := hD
  refine lv_iinc (v := 5) (k := 0) (lv' := [(1, .int 5), (0, .ref h0)]) hx hb e_Courts_45 hl rfl (by decide) (by decide) rfl (fun ls hl => ?_)
  refine lv_goto (tgt := 26) hx hb e_Courts_48 rfl ?_
  refine lv_iload_n hx hb e_Courts_26 rfl (lv_at hl 0 rfl) ?_
  refine lv_bipush (v := 12) hx hb e_Courts_27 (by decide) ?_
  refine lv_icmp_ge (tgt := 51) hx hb e_Courts_29 rfl (fun h => absurd h (by decide)) (fun _ => ?_)
  refine lv_aload_n hx hb e_Courts_32 rfl (lv_at hl 1 rfl) ?_
  refine va_get (D := D) (ci := 1) (v := .ref q7) (C := "MarshCourt$Courts") (T := q_F1) (N := 3) hx hb hts ((q_clOK0 1 _ rfl).1) hown hK hP 0 rfl rfl 0 (by decide) (hts _ zw_341) (fun _ h9 => h9) rfl e_Courts_33 ?_
  refine lv_iload_n hx hb e_Courts_36 rfl (lv_at hl 0 rfl) ?_
  refine va_new (ci := 2) (fs := [.int 0, .int 0, .int 0, .int 0, .int 0, .null, .null, .null, .int 0]) (C := "MarshCourt$Custom") (T := q_F2) (N := 9) hx hb hts ((q_clOK0 2 _ rfl).1) q_H2 q_clt2 hown (hts _ zw_294) (hts _ zw_296) (hts _ zw_71) hK hP hD hS hA rfl (by decide) (Nat.le_of_ble_eq_true rfl) (Nat.le_of_ble_eq_true rfl) e_Courts_37 (fun q37_25 H hP hD hS => ?_)
  refine W.widen (k := 26) (n := 255) (Nat.le_of_ble_eq_true rfl) (Nat.le_of_ble_eq_true rfl) ?_
  refine lv_dup hx hb e_Courts_40 rfl ?_
  have hFc := z_last hD hS hA
  refine va_callv (va_runI (As := []) (rest := [.ref q37_25, .int 5, .ref q7]) ⟨hx, hb, hml, hown, hts⟩ (c_Custom_init l D tI tZ tJ tQ q37_25 H.size) (cwI 0 hts (z_good zw_299) rfl rfl rfl (hts _ zw_71) (hts _ zw_297) (hts _ zw_298) rfl (by decide +kernel) ⟨Nat.le_of_ble_eq_true rfl, Nat.le_of_ble_eq_true rfl⟩) (z_pre hP hK hD hN hO) rfl rfl hl.1 rfl (lv_room (Nat.le_of_ble_eq_true rfl)) e_Courts_41 ⟨Nat.le_of_ble_eq_true rfl, Nat.le_of_ble_eq_true rfl⟩) hS (fun q _ h => hFc q h) hFc (fun u37_25 t H1 locs ht hvm hw hB hz1 hk1 hS => ?_)
  obtain ⟨hP1, hK1, hD1⟩ := hB
  rw [ht] at hP1
  obtain ⟨hP, hD⟩ := z_join hP hD hk1 hFc hP1 hD1
  refine W.widen (k := 29) (n := 285) (Nat.le_of_ble_eq_true rfl) (Nat.le_of_ble_eq_true rfl) ?_
  clear hP1 hK1 hD1 hFc hk1 hz1 hw ht hvm
  generalize H1 = H at hP hS ⊢
  have hP : va_P D q_cl ([(h0, .inr (1, [.ref q7, .ref q14_1, .int 0])), (q7, .inl (tQ, 12, .inr (.inr (.inr (.inr (va_up (va_up (va_up (va_up (va_up (fun _ => none) 0 (some q37_5)) 1 (some q37_9)) 2 (some q37_13)) 3 (some q37_17)) 4 (some q37_21)))))))] ++ z_Custom tI tZ tJ tQ q14_1 u14_1 ++ z_Custom tI tZ tJ tQ q37_5 u37_5 ++ z_Custom tI tZ tJ tQ q37_9 u37_9 ++ z_Custom tI tZ tJ tQ q37_13 u37_13 ++ z_Custom tI tZ tJ tQ q37_17 u37_17 ++ z_Custom tI tZ tJ tQ q37_21 u37_21 ++ z_Custom tI tZ tJ tQ q37_25 u37_25) H := hP
  have hD : va_D A ([(h0, .inr (1, [.ref q7, .ref q14_1, .int 0])), (q7, .inl (tQ, 12, .inr (.inr (.inr (.inr (va_up (va_up (va_up (va_up (va_up (fun _ => none) 0 (some q37_5)) 1 (some q37_9)) 2 (some q37_13)) 3 (some q37_17)) 4 (some q37_21)))))))] ++ z_Custom tI tZ tJ tQ q14_1 u14_1 ++ z_Custom tI tZ tJ tQ q37_5 u37_5 ++ z_Custom tI tZ tJ tQ q37_9 u37_9 ++ z_Custom tI tZ tJ tQ q37_13 u37_13 ++ z_Custom tI tZ tJ tQ q37_17 u37_17 ++ z_Custom tI tZ tJ tQ q37_21 u37_21 ++ z_Custom tI tZ tJ tQ q37_25 u37_25) := hD
  refine va_astq (D := D) (r := ("MarshCourt$Custom", q_F2, 9)) hx hb hK hP hD hS 1 3 26 2 rfl rfl rfl rfl (by unfold vp_in; decide) e_Courts_44 (fun H locs hP hD hS => ?_)
  have hP : va_P D q_cl ([(h0, .inr (1, [.ref q7, .ref q14_1, .int 0])), (q7, .inl (tQ, 12, .inr (.inr (.inr (.inr (va_up (va_up (va_up (va_up (va_up (va_up (fun _ => none) 0 (some q37_5)) 1 (some q37_9)) 2 (some q37_13)) 3 (some q37_17)) 4 (some q37_21)) 5 (some q37_25)))))))] ++ z_Custom tI tZ tJ tQ q14_1 u14_1 ++ z_Custom tI tZ tJ tQ q37_5 u37_5 ++ z_Custom tI tZ tJ tQ q37_9 u37_9 ++ z_Custom tI tZ tJ tQ q37_13 u37_13 ++ z_Custom tI tZ tJ tQ q37_17 u37_17 ++ z_Custom tI tZ tJ tQ q37_21 u37_21 ++ z_Custom tI tZ tJ tQ q37_25 u37_25) H := hP
  have hD : va_D A ([(h0, .inr (1, [.ref q7, .ref q14_1, .int 0])), (q7, .inl (tQ, 12, .inr (.inr (.inr (.inr (va_up (va_up (va_up (va_up (va_up (va_up (fun _ => none) 0 (some q37_5)) 1 (some q37_9)) 2 (some q37_13)) 3 (some q37_17)) 4 (some q37_21)) 5 (some q37_25)))))))] ++ z_Custom tI tZ tJ tQ q14_1 u14_1 ++ z_Custom tI tZ tJ tQ q37_5 u37_5 ++ z_Custom tI tZ tJ tQ q37_9 u37_9 ++ z_Custom tI tZ tJ tQ q37_13 u37_13 ++ z_Custom tI tZ tJ tQ q37_17 u37_17 ++ z_Custom tI tZ tJ tQ q37_21 u37_21 ++ z_Custom tI tZ tJ tQ q37_25 u37_25) := hD
  refine lv_iinc (v := 6) (k := 0) (lv' := [(1, .int 6), (0, .ref h0)]) hx hb e_Courts_45 hl rfl (by decide) (by decide) rfl (fun ls hl => ?_)
  refine lv_goto (tgt := 26) hx hb e_Courts_48 rfl ?_
  refine lv_iload_n hx hb e_Courts_26 rfl (lv_at hl 0 rfl) ?_
  refine lv_bipush (v := 12) hx hb e_Courts_27 (by decide) ?_
  refine lv_icmp_ge (tgt := 51) hx hb e_Courts_29 rfl (fun h => absurd h (by decide)) (fun _ => ?_)
  refine lv_aload_n hx hb e_Courts_32 rfl (lv_at hl 1 rfl) ?_
  refine va_get (D := D) (ci := 1) (v := .ref q7) (C := "MarshCourt$Courts") (T := q_F1) (N := 3) hx hb hts ((q_clOK0 1 _ rfl).1) hown hK hP 0 rfl rfl 0 (by decide) (hts _ zw_341) (fun _ h9 => h9) rfl e_Courts_33 ?_
  refine lv_iload_n hx hb e_Courts_36 rfl (lv_at hl 0 rfl) ?_
  refine va_new (ci := 2) (fs := [.int 0, .int 0, .int 0, .int 0, .int 0, .null, .null, .null, .int 0]) (C := "MarshCourt$Custom") (T := q_F2) (N := 9) hx hb hts ((q_clOK0 2 _ rfl).1) q_H2 q_clt2 hown (hts _ zw_294) (hts _ zw_296) (hts _ zw_71) hK hP hD hS hA rfl (by decide) (Nat.le_of_ble_eq_true rfl) (Nat.le_of_ble_eq_true rfl) e_Courts_37 (fun q37_29 H hP hD hS => ?_)
  refine W.widen (k := 30) (n := 294) (Nat.le_of_ble_eq_true rfl) (Nat.le_of_ble_eq_true rfl) ?_
  refine lv_dup hx hb e_Courts_40 rfl ?_
  have hFc := z_last hD hS hA
  refine va_callv (va_runI (As := []) (rest := [.ref q37_29, .int 6, .ref q7]) ⟨hx, hb, hml, hown, hts⟩ (c_Custom_init l D tI tZ tJ tQ q37_29 H.size) (cwI 0 hts (z_good zw_299) rfl rfl rfl (hts _ zw_71) (hts _ zw_297) (hts _ zw_298) rfl (by decide +kernel) ⟨Nat.le_of_ble_eq_true rfl, Nat.le_of_ble_eq_true rfl⟩) (z_pre hP hK hD hN hO) rfl rfl hl.1 rfl (lv_room (Nat.le_of_ble_eq_true rfl)) e_Courts_41 ⟨Nat.le_of_ble_eq_true rfl, Nat.le_of_ble_eq_true rfl⟩) hS (fun q _ h => hFc q h) hFc (fun u37_29 t H1 locs ht hvm hw hB hz1 hk1 hS => ?_)
  obtain ⟨hP1, hK1, hD1⟩ := hB
  rw [ht] at hP1
  obtain ⟨hP, hD⟩ := z_join hP hD hk1 hFc hP1 hD1
  refine W.widen (k := 33) (n := 324) (Nat.le_of_ble_eq_true rfl) (Nat.le_of_ble_eq_true rfl) ?_
  clear hP1 hK1 hD1 hFc hk1 hz1 hw ht hvm
  generalize H1 = H at hP hS ⊢
  have hP : va_P D q_cl ([(h0, .inr (1, [.ref q7, .ref q14_1, .int 0])), (q7, .inl (tQ, 12, .inr (.inr (.inr (.inr (va_up (va_up (va_up (va_up (va_up (va_up (fun _ => none) 0 (some q37_5)) 1 (some q37_9)) 2 (some q37_13)) 3 (some q37_17)) 4 (some q37_21)) 5 (some q37_25)))))))] ++ z_Custom tI tZ tJ tQ q14_1 u14_1 ++ z_Custom tI tZ tJ tQ q37_5 u37_5 ++ z_Custom tI tZ tJ tQ q37_9 u37_9 ++ z_Custom tI tZ tJ tQ q37_13 u37_13 ++ z_Custom tI tZ tJ tQ q37_17 u37_17 ++ z_Custom tI tZ tJ tQ q37_21 u37_21 ++ z_Custom tI tZ tJ tQ q37_25 u37_25 ++ z_Custom tI tZ tJ tQ q37_29 u37_29) H := hP
  have hD : va_D A ([(h0, .inr (1, [.ref q7, .ref q14_1, .int 0])), (q7, .inl (tQ, 12, .inr (.inr (.inr (.inr (va_up (va_up (va_up (va_up (va_up (va_up (fun _ => none) 0 (some q37_5)) 1 (some q37_9)) 2 (some q37_13)) 3 (some q37_17)) 4 (some q37_21)) 5 (some q37_25)))))))] ++ z_Custom tI tZ tJ tQ q14_1 u14_1 ++ z_Custom tI tZ tJ tQ q37_5 u37_5 ++ z_Custom tI tZ tJ tQ q37_9 u37_9 ++ z_Custom tI tZ tJ tQ q37_13 u37_13 ++ z_Custom tI tZ tJ tQ q37_17 u37_17 ++ z_Custom tI tZ tJ tQ q37_21 u37_21 ++ z_Custom tI tZ tJ tQ q37_25 u37_25 ++ z_Custom tI tZ tJ tQ q37_29 u37_29) := hD
  refine va_astq (D := D) (r := ("MarshCourt$Custom", q_F2, 9)) hx hb hK hP hD hS 1 3 30 2 rfl rfl rfl rfl (by unfold vp_in; decide) e_Courts_44 (fun H locs hP hD hS => ?_)
  have hP : va_P D q_cl ([(h0, .inr (1, [.ref q7, .ref q14_1, .int 0])), (q7, .inl (tQ, 12, .inr (.inr (.inr (.inr (va_up (va_up (va_up (va_up (va_up (va_up (va_up (fun _ => none) 0 (some q37_5)) 1 (some q37_9)) 2 (some q37_13)) 3 (some q37_17)) 4 (some q37_21)) 5 (some q37_25)) 6 (some q37_29)))))))] ++ z_Custom tI tZ tJ tQ q14_1 u14_1 ++ z_Custom tI tZ tJ tQ q37_5 u37_5 ++ z_Custom tI tZ tJ tQ q37_9 u37_9 ++ z_Custom tI tZ tJ tQ q37_13 u37_13 ++ z_Custom tI tZ tJ tQ q37_17 u37_17 ++ z_Custom tI tZ tJ tQ q37_21 u37_21 ++ z_Custom tI tZ tJ tQ q37_25 u37_25 ++ z_Custom tI tZ tJ tQ q37_29 u37_29) H := hP
  have hD : va_D A ([(h0, .inr (1, [.ref q7, .ref q14_1, .int 0])), (q7, .inl (tQ, 12, .inr (.inr (.inr (.inr (va_up (va_up (va_up (va_up (va_up (va_up (va_up (fun _ => none) 0 (some q37_5)) 1 (some q37_9)) 2 (some q37_13)) 3 (some q37_17)) 4 (some q37_21)) 5 (some q37_25)) 6 (some q37_29)))))))] ++ z_Custom tI tZ tJ tQ q14_1 u14_1 ++ z_Custom tI tZ tJ tQ q37_5 u37_5 ++ z_Custom tI tZ tJ tQ q37_9 u37_9 ++ z_Custom tI tZ tJ tQ q37_13 u37_13 ++ z_Custom tI tZ tJ tQ q37_17 u37_17 ++ z_Custom tI tZ tJ tQ q37_21 u37_21 ++ z_Custom tI tZ tJ tQ q37_25 u37_25 ++ z_Custom tI tZ tJ tQ q37_29 u37_29) := hD
  refine lv_iinc (v := 7) (k := 0) (lv' := [(1, .int 7), (0, .ref h0)]) hx hb e_Courts_45 hl rfl (by decide) (by decide) rfl (fun ls hl => ?_)
  refine lv_goto (tgt := 26) hx hb e_Courts_48 rfl ?_
  refine lv_iload_n hx hb e_Courts_26 rfl (lv_at hl 0 rfl) ?_
  refine lv_bipush (v := 12) hx hb e_Courts_27 (by decide) ?_
  refine lv_icmp_ge (tgt := 51) hx hb e_Courts_29 rfl (fun h => absurd h (by decide)) (fun _ => ?_)
  refine lv_aload_n hx hb e_Courts_32 rfl (lv_at hl 1 rfl) ?_
  refine va_get (D := D) (ci := 1) (v := .ref q7) (C := "MarshCourt$Courts") (T := q_F1) (N := 3) hx hb hts ((q_clOK0 1 _ rfl).1) hown hK hP 0 rfl rfl 0 (by decide) (hts _ zw_341) (fun _ h9 => h9) rfl e_Courts_33 ?_
  refine lv_iload_n hx hb e_Courts_36 rfl (lv_at hl 0 rfl) ?_
  refine va_new (ci := 2) (fs := [.int 0, .int 0, .int 0, .int 0, .int 0, .null, .null, .null, .int 0]) (C := "MarshCourt$Custom") (T := q_F2) (N := 9) hx hb hts ((q_clOK0 2 _ rfl).1) q_H2 q_clt2 hown (hts _ zw_294) (hts _ zw_296) (hts _ zw_71) hK hP hD hS hA rfl (by decide) (Nat.le_of_ble_eq_true rfl) (Nat.le_of_ble_eq_true rfl) e_Courts_37 (fun q37_33 H hP hD hS => ?_)
  refine W.widen (k := 34) (n := 333) (Nat.le_of_ble_eq_true rfl) (Nat.le_of_ble_eq_true rfl) ?_
  refine lv_dup hx hb e_Courts_40 rfl ?_
  have hFc := z_last hD hS hA
  refine va_callv (va_runI (As := []) (rest := [.ref q37_33, .int 7, .ref q7]) ⟨hx, hb, hml, hown, hts⟩ (c_Custom_init l D tI tZ tJ tQ q37_33 H.size) (cwI 0 hts (z_good zw_299) rfl rfl rfl (hts _ zw_71) (hts _ zw_297) (hts _ zw_298) rfl (by decide +kernel) ⟨Nat.le_of_ble_eq_true rfl, Nat.le_of_ble_eq_true rfl⟩) (z_pre hP hK hD hN hO) rfl rfl hl.1 rfl (lv_room (Nat.le_of_ble_eq_true rfl)) e_Courts_41 ⟨Nat.le_of_ble_eq_true rfl, Nat.le_of_ble_eq_true rfl⟩) hS (fun q _ h => hFc q h) hFc (fun u37_33 t H1 locs ht hvm hw hB hz1 hk1 hS => ?_)
  obtain ⟨hP1, hK1, hD1⟩ := hB
  rw [ht] at hP1
  obtain ⟨hP, hD⟩ := z_join hP hD hk1 hFc hP1 hD1
  refine W.widen (k := 37) (n := 363) (Nat.le_of_ble_eq_true rfl) (Nat.le_of_ble_eq_true rfl) ?_
  clear hP1 hK1 hD1 hFc hk1 hz1 hw ht hvm
  generalize H1 = H at hP hS ⊢
  have hP : va_P D q_cl ([(h0, .inr (1, [.ref q7, .ref q14_1, .int 0])), (q7, .inl (tQ, 12, .inr (.inr (.inr (.inr (va_up (va_up (va_up (va_up (va_up (va_up (va_up (fun _ => none) 0 (some q37_5)) 1 (some q37_9)) 2 (some q37_13)) 3 (some q37_17)) 4 (some q37_21)) 5 (some q37_25)) 6 (some q37_29)))))))] ++ z_Custom tI tZ tJ tQ q14_1 u14_1 ++ z_Custom tI tZ tJ tQ q37_5 u37_5 ++ z_Custom tI tZ tJ tQ q37_9 u37_9 ++ z_Custom tI tZ tJ tQ q37_13 u37_13 ++ z_Custom tI tZ tJ tQ q37_17 u37_17 ++ z_Custom tI tZ tJ tQ q37_21 u37_21 ++ z_Custom tI tZ tJ tQ q37_25 u37_25 ++ z_Custom tI tZ tJ tQ q37_29 u37_29 ++ z_Custom tI tZ tJ tQ q37_33 u37_33) H := hP
  have hD : va_D A ([(h0, .inr (1, [.ref q7, .ref q14_1, .int 0])), (q7, .inl (tQ, 12, .inr (.inr (.inr (.inr (va_up (va_up (va_up (va_up (va_up (va_up (va_up (fun _ => none) 0 (some q37_5)) 1 (some q37_9)) 2 (some q37_13)) 3 (some q37_17)) 4 (some q37_21)) 5 (some q37_25)) 6 (some q37_29)))))))] ++ z_Custom tI tZ tJ tQ q14_1 u14_1 ++ z_Custom tI tZ tJ tQ q37_5 u37_5 ++ z_Custom tI tZ tJ tQ q37_9 u37_9 ++ z_Custom tI tZ tJ tQ q37_13 u37_13 ++ z_Custom tI tZ tJ tQ q37_17 u37_17 ++ z_Custom tI tZ tJ tQ q37_21 u37_21 ++ z_Custom tI tZ tJ tQ q37_25 u37_25 ++ z_Custom tI tZ tJ tQ q37_29 u37_29 ++ z_Custom tI tZ tJ tQ q37_33 u37_33) := hD
  refine va_astq (D := D) (r := ("MarshCourt$Custom", q_F2, 9)) hx hb hK hP hD hS 1 3 34 2 rfl rfl rfl rfl (by unfold vp_in; decide) e_Courts_44 (fun H locs hP hD hS => ?_)
  have hP : va_P D q_cl ([(h0, .inr (1, [.ref q7, .ref q14_1, .int 0])), (q7, .inl (tQ, 12, .inr (.inr (.inr (.inr (va_up (va_up (va_up (va_up (va_up (va_up (va_up (va_up (fun _ => none) 0 (some q37_5)) 1 (some q37_9)) 2 (some q37_13)) 3 (some q37_17)) 4 (some q37_21)) 5 (some q37_25)) 6 (some q37_29)) 7 (some q37_33)))))))] ++ z_Custom tI tZ tJ tQ q14_1 u14_1 ++ z_Custom tI tZ tJ tQ q37_5 u37_5 ++ z_Custom tI tZ tJ tQ q37_9 u37_9 ++ z_Custom tI tZ tJ tQ q37_13 u37_13 ++ z_Custom tI tZ tJ tQ q37_17 u37_17 ++ z_Custom tI tZ tJ tQ q37_21 u37_21 ++ z_Custom tI tZ tJ tQ q37_25 u37_25 ++ z_Custom tI tZ tJ tQ q37_29 u37_29 ++ z_Custom tI tZ tJ tQ q37_33 u37_33) H := hP
  have hD : va_D A ([(h0, .inr (1, [.ref q7, .ref q14_1, .int 0])), (q7, .inl (tQ, 12, .inr (.inr (.inr (.inr (va_up (va_up (va_up (va_up (va_up (va_up (va_up (va_up (fun _ => none) 0 (some q37_5)) 1 (some q37_9)) 2 (some q37_13)) 3 (some q37_17)) 4 (some q37_21)) 5 (some q37_25)) 6 (some q37_29)) 7 (some q37_33)))))))] ++ z_Custom tI tZ tJ tQ q14_1 u14_1 ++ z_Custom tI tZ tJ tQ q37_5 u37_5 ++ z_Custom tI tZ tJ tQ q37_9 u37_9 ++ z_Custom tI tZ tJ tQ q37_13 u37_13 ++ z_Custom tI tZ tJ tQ q37_17 u37_17 ++ z_Custom tI tZ tJ tQ q37_21 u37_21 ++ z_Custom tI tZ tJ tQ q37_25 u37_25 ++ z_Custom tI tZ tJ tQ q37_29 u37_29 ++ z_Custom tI tZ tJ tQ q37_33 u37_33) := hD
  refine lv_iinc (v := 8) (k := 0) (lv' := [(1, .int 8), (0, .ref h0)]) hx hb e_Courts_45 hl rfl (by decide) (by decide) rfl (fun ls hl => ?_)
  refine lv_goto (tgt := 26) hx hb e_Courts_48 rfl ?_
  refine lv_iload_n hx hb e_Courts_26 rfl (lv_at hl 0 rfl) ?_
  refine lv_bipush (v := 12) hx hb e_Courts_27 (by decide) ?_
  refine lv_icmp_ge (tgt := 51) hx hb e_Courts_29 rfl (fun h => absurd h (by decide)) (fun _ => ?_)
  refine lv_aload_n hx hb e_Courts_32 rfl (lv_at hl 1 rfl) ?_
  refine va_get (D := D) (ci := 1) (v := .ref q7) (C := "MarshCourt$Courts") (T := q_F1) (N := 3) hx hb hts ((q_clOK0 1 _ rfl).1) hown hK hP 0 rfl rfl 0 (by decide) (hts _ zw_341) (fun _ h9 => h9) rfl e_Courts_33 ?_
  refine lv_iload_n hx hb e_Courts_36 rfl (lv_at hl 0 rfl) ?_
  refine va_new (ci := 2) (fs := [.int 0, .int 0, .int 0, .int 0, .int 0, .null, .null, .null, .int 0]) (C := "MarshCourt$Custom") (T := q_F2) (N := 9) hx hb hts ((q_clOK0 2 _ rfl).1) q_H2 q_clt2 hown (hts _ zw_294) (hts _ zw_296) (hts _ zw_71) hK hP hD hS hA rfl (by decide) (Nat.le_of_ble_eq_true rfl) (Nat.le_of_ble_eq_true rfl) e_Courts_37 (fun q37_37 H hP hD hS => ?_)
  refine W.widen (k := 38) (n := 372) (Nat.le_of_ble_eq_true rfl) (Nat.le_of_ble_eq_true rfl) ?_
  refine lv_dup hx hb e_Courts_40 rfl ?_
  have hFc := z_last hD hS hA
  refine va_callv (va_runI (As := []) (rest := [.ref q37_37, .int 8, .ref q7]) ⟨hx, hb, hml, hown, hts⟩ (c_Custom_init l D tI tZ tJ tQ q37_37 H.size) (cwI 0 hts (z_good zw_299) rfl rfl rfl (hts _ zw_71) (hts _ zw_297) (hts _ zw_298) rfl (by decide +kernel) ⟨Nat.le_of_ble_eq_true rfl, Nat.le_of_ble_eq_true rfl⟩) (z_pre hP hK hD hN hO) rfl rfl hl.1 rfl (lv_room (Nat.le_of_ble_eq_true rfl)) e_Courts_41 ⟨Nat.le_of_ble_eq_true rfl, Nat.le_of_ble_eq_true rfl⟩) hS (fun q _ h => hFc q h) hFc (fun u37_37 t H1 locs ht hvm hw hB hz1 hk1 hS => ?_)
  obtain ⟨hP1, hK1, hD1⟩ := hB
  rw [ht] at hP1
  obtain ⟨hP, hD⟩ := z_join hP hD hk1 hFc hP1 hD1
  refine W.widen (k := 41) (n := 402) (Nat.le_of_ble_eq_true rfl) (Nat.le_of_ble_eq_true rfl) ?_
  clear hP1 hK1 hD1 hFc hk1 hz1 hw ht hvm
  generalize H1 = H at hP hS ⊢
  have hP : va_P D q_cl ([(h0, .inr (1, [.ref q7, .ref q14_1, .int 0])), (q7, .inl (tQ, 12, .inr (.inr (.inr (.inr (va_up (va_up (va_up (va_up (va_up (va_up (va_up (va_up (fun _ => none) 0 (some q37_5)) 1 (some q37_9)) 2 (some q37_13)) 3 (some q37_17)) 4 (some q37_21)) 5 (some q37_25)) 6 (some q37_29)) 7 (some q37_33)))))))] ++ z_Custom tI tZ tJ tQ q14_1 u14_1 ++ z_Custom tI tZ tJ tQ q37_5 u37_5 ++ z_Custom tI tZ tJ tQ q37_9 u37_9 ++ z_Custom tI tZ tJ tQ q37_13 u37_13 ++ z_Custom tI tZ tJ tQ q37_17 u37_17 ++ z_Custom tI tZ tJ tQ q37_21 u37_21 ++ z_Custom tI tZ tJ tQ q37_25 u37_25 ++ z_Custom tI tZ tJ tQ q37_29 u37_29 ++ z_Custom tI tZ tJ tQ q37_33 u37_33 ++ z_Custom tI tZ tJ tQ q37_37 u37_37) H := hP
  have hD : va_D A ([(h0, .inr (1, [.ref q7, .ref q14_1, .int 0])), (q7, .inl (tQ, 12, .inr (.inr (.inr (.inr (va_up (va_up (va_up (va_up (va_up (va_up (va_up (va_up (fun _ => none) 0 (some q37_5)) 1 (some q37_9)) 2 (some q37_13)) 3 (some q37_17)) 4 (some q37_21)) 5 (some q37_25)) 6 (some q37_29)) 7 (some q37_33)))))))] ++ z_Custom tI tZ tJ tQ q14_1 u14_1 ++ z_Custom tI tZ tJ tQ q37_5 u37_5 ++ z_Custom tI tZ tJ tQ q37_9 u37_9 ++ z_Custom tI tZ tJ tQ q37_13 u37_13 ++ z_Custom tI tZ tJ tQ q37_17 u37_17 ++ z_Custom tI tZ tJ tQ q37_21 u37_21 ++ z_Custom tI tZ tJ tQ q37_25 u37_25 ++ z_Custom tI tZ tJ tQ q37_29 u37_29 ++ z_Custom tI tZ tJ tQ q37_33 u37_33 ++ z_Custom tI tZ tJ tQ q37_37 u37_37) := hD
  refine va_astq (D := D) (r := ("MarshCourt$Custom", q_F2, 9)) hx hb hK hP hD hS 1 3 38 2 rfl rfl rfl rfl (by unfold vp_in; decide) e_Courts_44 (fun H locs hP hD hS => ?_)
  have hP : va_P D q_cl ([(h0, .inr (1, [.ref q7, .ref q14_1, .int 0])), (q7, .inl (tQ, 12, .inr (.inr (.inr (.inr (va_up (va_up (va_up (va_up (va_up (va_up (va_up (va_up (va_up (fun _ => none) 0 (some q37_5)) 1 (some q37_9)) 2 (some q37_13)) 3 (some q37_17)) 4 (some q37_21)) 5 (some q37_25)) 6 (some q37_29)) 7 (some q37_33)) 8 (some q37_37)))))))] ++ z_Custom tI tZ tJ tQ q14_1 u14_1 ++ z_Custom tI tZ tJ tQ q37_5 u37_5 ++ z_Custom tI tZ tJ tQ q37_9 u37_9 ++ z_Custom tI tZ tJ tQ q37_13 u37_13 ++ z_Custom tI tZ tJ tQ q37_17 u37_17 ++ z_Custom tI tZ tJ tQ q37_21 u37_21 ++ z_Custom tI tZ tJ tQ q37_25 u37_25 ++ z_Custom tI tZ tJ tQ q37_29 u37_29 ++ z_Custom tI tZ tJ tQ q37_33 u37_33 ++ z_Custom tI tZ tJ tQ q37_37 u37_37) H := hP
  have hD : va_D A ([(h0, .inr (1, [.ref q7, .ref q14_1, .int 0])), (q7, .inl (tQ, 12, .inr (.inr (.inr (.inr (va_up (va_up (va_up (va_up (va_up (va_up (va_up (va_up (va_up (fun _ => none) 0 (some q37_5)) 1 (some q37_9)) 2 (some q37_13)) 3 (some q37_17)) 4 (some q37_21)) 5 (some q37_25)) 6 (some q37_29)) 7 (some q37_33)) 8 (some q37_37)))))))] ++ z_Custom tI tZ tJ tQ q14_1 u14_1 ++ z_Custom tI tZ tJ tQ q37_5 u37_5 ++ z_Custom tI tZ tJ tQ q37_9 u37_9 ++ z_Custom tI tZ tJ tQ q37_13 u37_13 ++ z_Custom tI tZ tJ tQ q37_17 u37_17 ++ z_Custom tI tZ tJ tQ q37_21 u37_21 ++ z_Custom tI tZ tJ tQ q37_25 u37_25 ++ z_Custom tI tZ tJ tQ q37_29 u37_29 ++ z_Custom tI tZ tJ tQ q37_33 u37_33 ++ z_Custom tI tZ tJ tQ q37_37 u37_37) := hD
  refine lv_iinc (v := 9) (k := 0) (lv' := [(1, .int 9), (0, .ref h0)]) hx hb e_Courts_45 hl rfl (by decide) (by decide) rfl (fun ls hl => ?_)
  refine lv_goto (tgt := 26) hx hb e_Courts_48 rfl ?_
  refine lv_iload_n hx hb e_Courts_26 rfl (lv_at hl 0 rfl) ?_
  refine lv_bipush (v := 12) hx hb e_Courts_27 (by decide) ?_
  refine lv_icmp_ge (tgt := 51) hx hb e_Courts_29 rfl (fun h => absurd h (by decide)) (fun _ => ?_)
  refine lv_aload_n hx hb e_Courts_32 rfl (lv_at hl 1 rfl) ?_
  refine va_get (D := D) (ci := 1) (v := .ref q7) (C := "MarshCourt$Courts") (T := q_F1) (N := 3) hx hb hts ((q_clOK0 1 _ rfl).1) hown hK hP 0 rfl rfl 0 (by decide) (hts _ zw_341) (fun _ h9 => h9) rfl e_Courts_33 ?_
  refine lv_iload_n hx hb e_Courts_36 rfl (lv_at hl 0 rfl) ?_
  refine va_new (ci := 2) (fs := [.int 0, .int 0, .int 0, .int 0, .int 0, .null, .null, .null, .int 0]) (C := "MarshCourt$Custom") (T := q_F2) (N := 9) hx hb hts ((q_clOK0 2 _ rfl).1) q_H2 q_clt2 hown (hts _ zw_294) (hts _ zw_296) (hts _ zw_71) hK hP hD hS hA rfl (by decide) (Nat.le_of_ble_eq_true rfl) (Nat.le_of_ble_eq_true rfl) e_Courts_37 (fun q37_41 H hP hD hS => ?_)
  refine W.widen (k := 42) (n := 411) (Nat.le_of_ble_eq_true rfl) (Nat.le_of_ble_eq_true rfl) ?_
  refine lv_dup hx hb e_Courts_40 rfl ?_
  have hFc := z_last hD hS hA
  refine va_callv (va_runI (As := []) (rest := [.ref q37_41, .int 9, .ref q7]) ⟨hx, hb, hml, hown, hts⟩ (c_Custom_init l D tI tZ tJ tQ q37_41 H.size) (cwI 0 hts (z_good zw_299) rfl rfl rfl (hts _ zw_71) (hts _ zw_297) (hts _ zw_298) rfl (by decide +kernel) ⟨Nat.le_of_ble_eq_true rfl, Nat.le_of_ble_eq_true rfl⟩) (z_pre hP hK hD hN hO) rfl rfl hl.1 rfl (lv_room (Nat.le_of_ble_eq_true rfl)) e_Courts_41 ⟨Nat.le_of_ble_eq_true rfl, Nat.le_of_ble_eq_true rfl⟩) hS (fun q _ h => hFc q h) hFc (fun u37_41 t H1 locs ht hvm hw hB hz1 hk1 hS => ?_)
  obtain ⟨hP1, hK1, hD1⟩ := hB
  rw [ht] at hP1
  obtain ⟨hP, hD⟩ := z_join hP hD hk1 hFc hP1 hD1
  refine W.widen (k := 45) (n := 441) (Nat.le_of_ble_eq_true rfl) (Nat.le_of_ble_eq_true rfl) ?_
  clear hP1 hK1 hD1 hFc hk1 hz1 hw ht hvm
  generalize H1 = H at hP hS ⊢
  have hP : va_P D q_cl ([(h0, .inr (1, [.ref q7, .ref q14_1, .int 0])), (q7, .inl (tQ, 12, .inr (.inr (.inr (.inr (va_up (va_up (va_up (va_up (va_up (va_up (va_up (va_up (va_up (fun _ => none) 0 (some q37_5)) 1 (some q37_9)) 2 (some q37_13)) 3 (some q37_17)) 4 (some q37_21)) 5 (some q37_25)) 6 (some q37_29)) 7 (some q37_33)) 8 (some q37_37)))))))] ++ z_Custom tI tZ tJ tQ q14_1 u14_1 ++ z_Custom tI tZ tJ tQ q37_5 u37_5 ++ z_Custom tI tZ tJ tQ q37_9 u37_9 ++ z_Custom tI tZ tJ tQ q37_13 u37_13 ++ z_Custom tI tZ tJ tQ q37_17 u37_17 ++ z_Custom tI tZ tJ tQ q37_21 u37_21 ++ z_Custom tI tZ tJ tQ q37_25 u37_25 ++ z_Custom tI tZ tJ tQ q37_29 u37_29 ++ z_Custom tI tZ tJ tQ q37_33 u37_33 ++ z_Custom tI tZ tJ tQ q37_37 u37_37 ++ z_Custom tI tZ tJ tQ q37_41 u37_41) H := hP
  have hD : va_D A ([(h0, .inr (1, [.ref q7, .ref q14_1, .int 0])), (q7, .inl (tQ, 12, .inr (.inr (.inr (.inr (va_up (va_up (va_up (va_up (va_up (va_up (va_up (va_up (va_up (fun _ => none) 0 (some q37_5)) 1 (some q37_9)) 2 (some q37_13)) 3 (some q37_17)) 4 (some q37_21)) 5 (some q37_25)) 6 (some q37_29)) 7 (some q37_33)) 8 (some q37_37)))))))] ++ z_Custom tI tZ tJ tQ q14_1 u14_1 ++ z_Custom tI tZ tJ tQ q37_5 u37_5 ++ z_Custom tI tZ tJ tQ q37_9 u37_9 ++ z_Custom tI tZ tJ tQ q37_13 u37_13 ++ z_Custom tI tZ tJ tQ q37_17 u37_17 ++ z_Custom tI tZ tJ tQ q37_21 u37_21 ++ z_Custom tI tZ tJ tQ q37_25 u37_25 ++ z_Custom tI tZ tJ tQ q37_29 u37_29 ++ z_Custom tI tZ tJ tQ q37_33 u37_33 ++ z_Custom tI tZ tJ tQ q37_37 u37_37 ++ z_Custom tI tZ tJ tQ q37_41 u37_41) := hD
  refine va_astq (D := D) (r := ("MarshCourt$Custom", q_F2, 9)) hx hb hK hP hD hS 1 3 42 2 rfl rfl rfl rfl (by unfold vp_in; decide) e_Courts_44 (fun H locs hP hD hS => ?_)
  have hP : va_P D q_cl ([(h0, .inr (1, [.ref q7, .ref q14_1, .int 0])), (q7, .inl (tQ, 12, .inr (.inr (.inr (.inr (va_up (va_up (va_up (va_up (va_up (va_up (va_up (va_up (va_up (va_up (fun _ => none) 0 (some q37_5)) 1 (some q37_9)) 2 (some q37_13)) 3 (some q37_17)) 4 (some q37_21)) 5 (some q37_25)) 6 (some q37_29)) 7 (some q37_33)) 8 (some q37_37)) 9 (some q37_41)))))))] ++ z_Custom tI tZ tJ tQ q14_1 u14_1 ++ z_Custom tI tZ tJ tQ q37_5 u37_5 ++ z_Custom tI tZ tJ tQ q37_9 u37_9 ++ z_Custom tI tZ tJ tQ q37_13 u37_13 ++ z_Custom tI tZ tJ tQ q37_17 u37_17 ++ z_Custom tI tZ tJ tQ q37_21 u37_21 ++ z_Custom tI tZ tJ tQ q37_25 u37_25 ++ z_Custom tI tZ tJ tQ q37_29 u37_29 ++ z_Custom tI tZ tJ tQ q37_33 u37_33 ++ z_Custom tI tZ tJ tQ q37_37 u37_37 ++ z_Custom tI tZ tJ tQ q37_41 u37_41) H := hP
  have hD : va_D A ([(h0, .inr (1, [.ref q7, .ref q14_1, .int 0])), (q7, .inl (tQ, 12, .inr (.inr (.inr (.inr (va_up (va_up (va_up (va_up (va_up (va_up (va_up (va_up (va_up (va_up (fun _ => none) 0 (some q37_5)) 1 (some q37_9)) 2 (some q37_13)) 3 (some q37_17)) 4 (some q37_21)) 5 (some q37_25)) 6 (some q37_29)) 7 (some q37_33)) 8 (some q37_37)) 9 (some q37_41)))))))] ++ z_Custom tI tZ tJ tQ q14_1 u14_1 ++ z_Custom tI tZ tJ tQ q37_5 u37_5 ++ z_Custom tI tZ tJ tQ q37_9 u37_9 ++ z_Custom tI tZ tJ tQ q37_13 u37_13 ++ z_Custom tI tZ tJ tQ q37_17 u37_17 ++ z_Custom tI tZ tJ tQ q37_21 u37_21 ++ z_Custom tI tZ tJ tQ q37_25 u37_25 ++ z_Custom tI tZ tJ tQ q37_29 u37_29 ++ z_Custom tI tZ tJ tQ q37_33 u37_33 ++ z_Custom tI tZ tJ tQ q37_37 u37_37 ++ z_Custom tI tZ tJ tQ q37_41 u37_41) := hD
  refine lv_iinc (v := 10) (k := 0) (lv' := [(1, .int 10), (0, .ref h0)]) hx hb e_Courts_45 hl rfl (by decide) (by decide) rfl (fun ls hl => ?_)
  refine lv_goto (tgt := 26) hx hb e_Courts_48 rfl ?_
  refine lv_iload_n hx hb e_Courts_26 rfl (lv_at hl 0 rfl) ?_
  refine lv_bipush (v := 12) hx hb e_Courts_27 (by decide) ?_
  refine lv_icmp_ge (tgt := 51) hx hb e_Courts_29 rfl (fun h => absurd h (by decide)) (fun _ => ?_)
  refine lv_aload_n hx hb e_Courts_32 rfl (lv_at hl 1 rfl) ?_
  refine va_get (D := D) (ci := 1) (v := .ref q7) (C := "MarshCourt$Courts") (T := q_F1) (N := 3) hx hb hts ((q_clOK0 1 _ rfl).1) hown hK hP 0 rfl rfl 0 (by decide) (hts _ zw_341) (fun _ h9 => h9) rfl e_Courts_33 ?_
  refine lv_iload_n hx hb e_Courts_36 rfl (lv_at hl 0 rfl) ?_
  refine va_new (ci := 2) (fs := [.int 0, .int 0, .int 0, .int 0, .int 0, .null, .null, .null, .int 0]) (C := "MarshCourt$Custom") (T := q_F2) (N := 9) hx hb hts ((q_clOK0 2 _ rfl).1) q_H2 q_clt2 hown (hts _ zw_294) (hts _ zw_296) (hts _ zw_71) hK hP hD hS hA rfl (by decide) (Nat.le_of_ble_eq_true rfl) (Nat.le_of_ble_eq_true rfl) e_Courts_37 (fun q37_45 H hP hD hS => ?_)
  refine W.widen (k := 46) (n := 450) (Nat.le_of_ble_eq_true rfl) (Nat.le_of_ble_eq_true rfl) ?_
  refine lv_dup hx hb e_Courts_40 rfl ?_
  have hFc := z_last hD hS hA
  refine va_callv (va_runI (As := []) (rest := [.ref q37_45, .int 10, .ref q7]) ⟨hx, hb, hml, hown, hts⟩ (c_Custom_init l D tI tZ tJ tQ q37_45 H.size) (cwI 0 hts (z_good zw_299) rfl rfl rfl (hts _ zw_71) (hts _ zw_297) (hts _ zw_298) rfl (by decide +kernel) ⟨Nat.le_of_ble_eq_true rfl, Nat.le_of_ble_eq_true rfl⟩) (z_pre hP hK hD hN hO) rfl rfl hl.1 rfl (lv_room (Nat.le_of_ble_eq_true rfl)) e_Courts_41 ⟨Nat.le_of_ble_eq_true rfl, Nat.le_of_ble_eq_true rfl⟩) hS (fun q _ h => hFc q h) hFc (fun u37_45 t H1 locs ht hvm hw hB hz1 hk1 hS => ?_)
  obtain ⟨hP1, hK1, hD1⟩ := hB
  rw [ht] at hP1
  obtain ⟨hP, hD⟩ := z_join hP hD hk1 hFc hP1 hD1
  refine W.widen (k := 49) (n := 480) (Nat.le_of_ble_eq_true rfl) (Nat.le_of_ble_eq_true rfl) ?_
  clear hP1 hK1 hD1 hFc hk1 hz1 hw ht hvm
  generalize H1 = H at hP hS ⊢
  have hP : va_P D q_cl ([(h0, .inr (1, [.ref q7, .ref q14_1, .int 0])), (q7, .inl (tQ, 12, .inr (.inr (.inr (.inr (va_up (va_up (va_up (va_up (va_up (va_up (va_up (va_up (va_up (va_up (fun _ => none) 0 (some q37_5)) 1 (some q37_9)) 2 (some q37_13)) 3 (some q37_17)) 4 (some q37_21)) 5 (some q37_25)) 6 (some q37_29)) 7 (some q37_33)) 8 (some q37_37)) 9 (some q37_41)))))))] ++ z_Custom tI tZ tJ tQ q14_1 u14_1 ++ z_Custom tI tZ tJ tQ q37_5 u37_5 ++ z_Custom tI tZ tJ tQ q37_9 u37_9 ++ z_Custom tI tZ tJ tQ q37_13 u37_13 ++ z_Custom tI tZ tJ tQ q37_17 u37_17 ++ z_Custom tI tZ tJ tQ q37_21 u37_21 ++ z_Custom tI tZ tJ tQ q37_25 u37_25 ++ z_Custom tI tZ tJ tQ q37_29 u37_29 ++ z_Custom tI tZ tJ tQ q37_33 u37_33 ++ z_Custom tI tZ tJ tQ q37_37 u37_37 ++ z_Custom tI tZ tJ tQ q37_41 u37_41 ++ z_Custom tI tZ tJ tQ q37_45 u37_45) H := hP
  have hD : va_D A ([(h0, .inr (1, [.ref q7, .ref q14_1, .int 0])), (q7, .inl (tQ, 12, .inr (.inr (.inr (.inr (va_up (va_up (va_up (va_up (va_up (va_up (va_up (va_up (va_up (va_up (fun _ => none) 0 (some q37_5)) 1 (some q37_9)) 2 (some q37_13)) 3 (some q37_17)) 4 (some q37_21)) 5 (some q37_25)) 6 (some q37_29)) 7 (some q37_33)) 8 (some q37_37)) 9 (some q37_41)))))))] ++ z_Custom tI tZ tJ tQ q14_1 u14_1 ++ z_Custom tI tZ tJ tQ q37_5 u37_5 ++ z_Custom tI tZ tJ tQ q37_9 u37_9 ++ z_Custom tI tZ tJ tQ q37_13 u37_13 ++ z_Custom tI tZ tJ tQ q37_17 u37_17 ++ z_Custom tI tZ tJ tQ q37_21 u37_21 ++ z_Custom tI tZ tJ tQ q37_25 u37_25 ++ z_Custom tI tZ tJ tQ q37_29 u37_29 ++ z_Custom tI tZ tJ tQ q37_33 u37_33 ++ z_Custom tI tZ tJ tQ q37_37 u37_37 ++ z_Custom tI tZ tJ tQ q37_41 u37_41 ++ z_Custom tI tZ tJ tQ q37_45 u37_45) := hD
  refine va_astq (D := D) (r := ("MarshCourt$Custom", q_F2, 9)) hx hb hK hP hD hS 1 3 46 2 rfl rfl rfl rfl (by unfold vp_in; decide) e_Courts_44 (fun H locs hP hD hS => ?_)
  have hP : va_P D q_cl ([(h0, .inr (1, [.ref q7, .ref q14_1, .int 0])), (q7, .inl (tQ, 12, .inr (.inr (.inr (.inr (va_up (va_up (va_up (va_up (va_up (va_up (va_up (va_up (va_up (va_up (va_up (fun _ => none) 0 (some q37_5)) 1 (some q37_9)) 2 (some q37_13)) 3 (some q37_17)) 4 (some q37_21)) 5 (some q37_25)) 6 (some q37_29)) 7 (some q37_33)) 8 (some q37_37)) 9 (some q37_41)) 10 (some q37_45)))))))] ++ z_Custom tI tZ tJ tQ q14_1 u14_1 ++ z_Custom tI tZ tJ tQ q37_5 u37_5 ++ z_Custom tI tZ tJ tQ q37_9 u37_9 ++ z_Custom tI tZ tJ tQ q37_13 u37_13 ++ z_Custom tI tZ tJ tQ q37_17 u37_17 ++ z_Custom tI tZ tJ tQ q37_21 u37_21 ++ z_Custom tI tZ tJ tQ q37_25 u37_25 ++ z_Custom tI tZ tJ tQ q37_29 u37_29 ++ z_Custom tI tZ tJ tQ q37_33 u37_33 ++ z_Custom tI tZ tJ tQ q37_37 u37_37 ++ z_Custom tI tZ tJ tQ q37_41 u37_41 ++ z_Custom tI tZ tJ tQ q37_45 u37_45) H := hP
  have hD : va_D A ([(h0, .inr (1, [.ref q7, .ref q14_1, .int 0])), (q7, .inl (tQ, 12, .inr (.inr (.inr (.inr (va_up (va_up (va_up (va_up (va_up (va_up (va_up (va_up (va_up (va_up (va_up (fun _ => none) 0 (some q37_5)) 1 (some q37_9)) 2 (some q37_13)) 3 (some q37_17)) 4 (some q37_21)) 5 (some q37_25)) 6 (some q37_29)) 7 (some q37_33)) 8 (some q37_37)) 9 (some q37_41)) 10 (some q37_45)))))))] ++ z_Custom tI tZ tJ tQ q14_1 u14_1 ++ z_Custom tI tZ tJ tQ q37_5 u37_5 ++ z_Custom tI tZ tJ tQ q37_9 u37_9 ++ z_Custom tI tZ tJ tQ q37_13 u37_13 ++ z_Custom tI tZ tJ tQ q37_17 u37_17 ++ z_Custom tI tZ tJ tQ q37_21 u37_21 ++ z_Custom tI tZ tJ tQ q37_25 u37_25 ++ z_Custom tI tZ tJ tQ q37_29 u37_29 ++ z_Custom tI tZ tJ tQ q37_33 u37_33 ++ z_Custom tI tZ tJ tQ q37_37 u37_37 ++ z_Custom tI tZ tJ tQ q37_41 u37_41 ++ z_Custom tI tZ tJ tQ q37_45 u37_45) := hD
  refine lv_iinc (v := 11) (k := 0) (lv' := [(1, .int 11), (0, .ref h0)]) hx hb e_Courts_45 hl rfl (by decide) (by decide) rfl (fun ls hl => ?_)
  refine lv_goto (tgt := 26) hx hb e_Courts_48 rfl ?_
  refine lv_iload_n hx hb e_Courts_26 rfl (lv_at hl 0 rfl) ?_
  refine lv_bipush (v := 12) hx hb e_Courts_27 (by decide) ?_
  refine lv_icmp_ge (tgt := 51) hx hb e_Courts_29 rfl (fun h => absurd h (by decide)) (fun _ => ?_)
  refine lv_aload_n hx hb e_Courts_32 rfl (lv_at hl 1 rfl) ?_
  refine va_get (D := D) (ci := 1) (v := .ref q7) (C := "MarshCourt$Courts") (T := q_F1) (N := 3) hx hb hts ((q_clOK0 1 _ rfl).1) hown hK hP 0 rfl rfl 0 (by decide) (hts _ zw_341) (fun _ h9 => h9) rfl e_Courts_33 ?_
  refine lv_iload_n hx hb e_Courts_36 rfl (lv_at hl 0 rfl) ?_
  refine va_new (ci := 2) (fs := [.int 0, .int 0, .int 0, .int 0, .int 0, .null, .null, .null, .int 0]) (C := "MarshCourt$Custom") (T := q_F2) (N := 9) hx hb hts ((q_clOK0 2 _ rfl).1) q_H2 q_clt2 hown (hts _ zw_294) (hts _ zw_296) (hts _ zw_71) hK hP hD hS hA rfl (by decide) (Nat.le_of_ble_eq_true rfl) (Nat.le_of_ble_eq_true rfl) e_Courts_37 (fun q37_49 H hP hD hS => ?_)
  refine W.widen (k := 50) (n := 489) (Nat.le_of_ble_eq_true rfl) (Nat.le_of_ble_eq_true rfl) ?_
  refine lv_dup hx hb e_Courts_40 rfl ?_
  have hFc := z_last hD hS hA
  refine va_callv (va_runI (As := []) (rest := [.ref q37_49, .int 11, .ref q7]) ⟨hx, hb, hml, hown, hts⟩ (c_Custom_init l D tI tZ tJ tQ q37_49 H.size) (cwI 0 hts (z_good zw_299) rfl rfl rfl (hts _ zw_71) (hts _ zw_297) (hts _ zw_298) rfl (by decide +kernel) ⟨Nat.le_of_ble_eq_true rfl, Nat.le_of_ble_eq_true rfl⟩) (z_pre hP hK hD hN hO) rfl rfl hl.1 rfl (lv_room (Nat.le_of_ble_eq_true rfl)) e_Courts_41 ⟨Nat.le_of_ble_eq_true rfl, Nat.le_of_ble_eq_true rfl⟩) hS (fun q _ h => hFc q h) hFc (fun u37_49 t H1 locs ht hvm hw hB hz1 hk1 hS => ?_)
  obtain ⟨hP1, hK1, hD1⟩ := hB
  rw [ht] at hP1
  obtain ⟨hP, hD⟩ := z_join hP hD hk1 hFc hP1 hD1
  refine W.widen (k := 53) (n := 519) (Nat.le_of_ble_eq_true rfl) (Nat.le_of_ble_eq_true rfl) ?_
  clear hP1 hK1 hD1 hFc hk1 hz1 hw ht hvm
  generalize H1 = H at hP hS ⊢
  have hP : va_P D q_cl ([(h0, .inr (1, [.ref q7, .ref q14_1, .int 0])), (q7, .inl (tQ, 12, .inr (.inr (.inr (.inr (va_up (va_up (va_up (va_up (va_up (va_up (va_up (va_up (va_up (va_up (va_up (fun _ => none) 0 (some q37_5)) 1 (some q37_9)) 2 (some q37_13)) 3 (some q37_17)) 4 (some q37_21)) 5 (some q37_25)) 6 (some q37_29)) 7 (some q37_33)) 8 (some q37_37)) 9 (some q37_41)) 10 (some q37_45)))))))] ++ z_Custom tI tZ tJ tQ q14_1 u14_1 ++ z_Custom tI tZ tJ tQ q37_5 u37_5 ++ z_Custom tI tZ tJ tQ q37_9 u37_9 ++ z_Custom tI tZ tJ tQ q37_13 u37_13 ++ z_Custom tI tZ tJ tQ q37_17 u37_17 ++ z_Custom tI tZ tJ tQ q37_21 u37_21 ++ z_Custom tI tZ tJ tQ q37_25 u37_25 ++ z_Custom tI tZ tJ tQ q37_29 u37_29 ++ z_Custom tI tZ tJ tQ q37_33 u37_33 ++ z_Custom tI tZ tJ tQ q37_37 u37_37 ++ z_Custom tI tZ tJ tQ q37_41 u37_41 ++ z_Custom tI tZ tJ tQ q37_45 u37_45 ++ z_Custom tI tZ tJ tQ q37_49 u37_49) H := hP
  have hD : va_D A ([(h0, .inr (1, [.ref q7, .ref q14_1, .int 0])), (q7, .inl (tQ, 12, .inr (.inr (.inr (.inr (va_up (va_up (va_up (va_up (va_up (va_up (va_up (va_up (va_up (va_up (va_up (fun _ => none) 0 (some q37_5)) 1 (some q37_9)) 2 (some q37_13)) 3 (some q37_17)) 4 (some q37_21)) 5 (some q37_25)) 6 (some q37_29)) 7 (some q37_33)) 8 (some q37_37)) 9 (some q37_41)) 10 (some q37_45)))))))] ++ z_Custom tI tZ tJ tQ q14_1 u14_1 ++ z_Custom tI tZ tJ tQ q37_5 u37_5 ++ z_Custom tI tZ tJ tQ q37_9 u37_9 ++ z_Custom tI tZ tJ tQ q37_13 u37_13 ++ z_Custom tI tZ tJ tQ q37_17 u37_17 ++ z_Custom tI tZ tJ tQ q37_21 u37_21 ++ z_Custom tI tZ tJ tQ q37_25 u37_25 ++ z_Custom tI tZ tJ tQ q37_29 u37_29 ++ z_Custom tI tZ tJ tQ q37_33 u37_33 ++ z_Custom tI tZ tJ tQ q37_37 u37_37 ++ z_Custom tI tZ tJ tQ q37_41 u37_41 ++ z_Custom tI tZ tJ tQ q37_45 u37_45 ++ z_Custom tI tZ tJ tQ q37_49 u37_49) := hD
  refine va_astq (D := D) (r := ("MarshCourt$Custom", q_F2, 9)) hx hb hK hP hD hS 1 3 50 2 rfl rfl rfl rfl (by unfold vp_in; decide) e_Courts_44 (fun H locs hP hD hS => ?_)
  have hP : va_P D q_cl ([(h0, .inr (1, [.ref q7, .ref q14_1, .int 0])), (q7, .inl (tQ, 12, .inr (.inr (.inr (.inr (va_up (va_up (va_up (va_up (va_up (va_up (va_up (va_up (va_up (va_up (va_up (va_up (fun _ => none) 0 (some q37_5)) 1 (some q37_9)) 2 (some q37_13)) 3 (some q37_17)) 4 (some q37_21)) 5 (some q37_25)) 6 (some q37_29)) 7 (some q37_33)) 8 (some q37_37)) 9 (some q37_41)) 10 (some q37_45)) 11 (some q37_49)))))))] ++ z_Custom tI tZ tJ tQ q14_1 u14_1 ++ z_Custom tI tZ tJ tQ q37_5 u37_5 ++ z_Custom tI tZ tJ tQ q37_9 u37_9 ++ z_Custom tI tZ tJ tQ q37_13 u37_13 ++ z_Custom tI tZ tJ tQ q37_17 u37_17 ++ z_Custom tI tZ tJ tQ q37_21 u37_21 ++ z_Custom tI tZ tJ tQ q37_25 u37_25 ++ z_Custom tI tZ tJ tQ q37_29 u37_29 ++ z_Custom tI tZ tJ tQ q37_33 u37_33 ++ z_Custom tI tZ tJ tQ q37_37 u37_37 ++ z_Custom tI tZ tJ tQ q37_41 u37_41 ++ z_Custom tI tZ tJ tQ q37_45 u37_45 ++ z_Custom tI tZ tJ tQ q37_49 u37_49) H := hP
  have hD : va_D A ([(h0, .inr (1, [.ref q7, .ref q14_1, .int 0])), (q7, .inl (tQ, 12, .inr (.inr (.inr (.inr (va_up (va_up (va_up (va_up (va_up (va_up (va_up (va_up (va_up (va_up (va_up (va_up (fun _ => none) 0 (some q37_5)) 1 (some q37_9)) 2 (some q37_13)) 3 (some q37_17)) 4 (some q37_21)) 5 (some q37_25)) 6 (some q37_29)) 7 (some q37_33)) 8 (some q37_37)) 9 (some q37_41)) 10 (some q37_45)) 11 (some q37_49)))))))] ++ z_Custom tI tZ tJ tQ q14_1 u14_1 ++ z_Custom tI tZ tJ tQ q37_5 u37_5 ++ z_Custom tI tZ tJ tQ q37_9 u37_9 ++ z_Custom tI tZ tJ tQ q37_13 u37_13 ++ z_Custom tI tZ tJ tQ q37_17 u37_17 ++ z_Custom tI tZ tJ tQ q37_21 u37_21 ++ z_Custom tI tZ tJ tQ q37_25 u37_25 ++ z_Custom tI tZ tJ tQ q37_29 u37_29 ++ z_Custom tI tZ tJ tQ q37_33 u37_33 ++ z_Custom tI tZ tJ tQ q37_37 u37_37 ++ z_Custom tI tZ tJ tQ q37_41 u37_41 ++ z_Custom tI tZ tJ tQ q37_45 u37_45 ++ z_Custom tI tZ tJ tQ q37_49 u37_49) := hD
  refine lv_iinc (v := 12) (k := 0) (lv' := [(1, .int 12), (0, .ref h0)]) hx hb e_Courts_45 hl rfl (by decide) (by decide) rfl (fun ls hl => ?_)
  refine lv_goto (tgt := 26) hx hb e_Courts_48 rfl ?_
  refine lv_iload_n hx hb e_Courts_26 rfl (lv_at hl 0 rfl) ?_
  refine lv_bipush (v := 12) hx hb e_Courts_27 (by decide) ?_
  refine lv_icmp_ge (tgt := 51) hx hb e_Courts_29 rfl (fun _ => ?_) (fun h => absurd (by decide) h)
  refine W.widen (k := 53) (n := 519) (Nat.le_of_ble_eq_true rfl) (Nat.le_of_ble_eq_true rfl) ?_
  exact W.vret hx hb hr (fun t ht hW => ⟨⟨[q7, q14_1, u14_1.getD 0 0, u14_1.getD 1 0, u14_1.getD 2 0, q37_5, u37_5.getD 0 0, u37_5.getD 1 0, u37_5.getD 2 0, q37_9, u37_9.getD 0 0, u37_9.getD 1 0, u37_9.getD 2 0, q37_13, u37_13.getD 0 0, u37_13.getD 1 0, u37_13.getD 2 0, q37_17, u37_17.getD 0 0, u37_17.getD 1 0, u37_17.getD 2 0, q37_21, u37_21.getD 0 0, u37_21.getD 1 0, u37_21.getD 2 0, q37_25, u37_25.getD 0 0, u37_25.getD 1 0, u37_25.getD 2 0, q37_29, u37_29.getD 0 0, u37_29.getD 1 0, u37_29.getD 2 0, q37_33, u37_33.getD 0 0, u37_33.getD 1 0, u37_33.getD 2 0, q37_37, u37_37.getD 0 0, u37_37.getD 1 0, u37_37.getD 2 0, q37_41, u37_41.getD 0 0, u37_41.getD 1 0, u37_41.getD 2 0, q37_45, u37_45.getD 0 0, u37_45.getD 1 0, u37_45.getD 2 0, q37_49, u37_49.getD 0 0, u37_49.getD 1 0, u37_49.getD 2 0], rfl, trivial, by rw [ht]; exact hP, va_K.moved hW.alike hK, hD⟩, hS.F ht⟩) hS.2.2 e_Courts_51
