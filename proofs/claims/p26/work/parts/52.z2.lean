def z_Land (tI tZ _tJ _tQ : ClassId) (h0 : Nat) (u : List Nat) : va_W := [(h0, .inr (5, [.ref (u.getD 0 0), .ref (u.getD 1 0), .ref (u.getD 2 0), .ref (u.getD 3 0), .ref (u.getD 4 0), .int 0, .int 0, .int 0])), ((u.getD 0 0), z_ia tI 30), ((u.getD 1 0), z_ia tI 30), ((u.getD 2 0), z_ia tI 30), ((u.getD 3 0), z_ia tI 30), ((u.getD 4 0), z_ia tZ 60)]
set_option maxHeartbeats 8000000 in
set_option maxRecDepth 100000 in
theorem c_Land_init (l : Launch) (D : va_G) (tI tZ tJ tQ : ClassId) (h0 sz : Nat) : Met l ⟨"MarshCourt$Land", "<init>", "()V"⟩ (z_w ⟨"MarshCourt$Land", "<init>", "()V"⟩ prog_7_method_1_code 1) ({ frames := 1, cells := 5, slots := 180, locals := 12 }) (va_Pc [.ref h0] (z_B D (z_t tI tZ tJ tQ) [(h0, .inr (5, [.null, .null, .null, .null, .null, .int 0, .int 0, .int 0]))] sz)) (va_Qv (fun _ : List Nat => True) (fun u t => z_E D (z_t tI tZ tJ tQ) (va_A [(h0, .inr (5, [.null, .null, .null, .null, .null, .int 0, .int 0, .int 0]))] sz) (z_Land tI tZ tJ tQ h0 u) t) (va_A [(h0, .inr (5, [.null, .null, .null, .null, .null, .int 0, .int 0, .int 0]))] sz)) 5 180 (va_A [(h0, .inr (5, [.null, .null, .null, .null, .null, .int 0, .int 0, .int 0]))] sz) := by
  refine Met.ofW (cc := prog_7_method_1_code) (maxL := 1) (ret := none) (by decide) rfl ?_
  intro p e s m args below meth c s₁ B hml hv
  obtain ⟨rfl, hsz, hP, hK, hD0, hN, hO⟩ := hv
  have hx := B.exec
  have hb := B.bytes
  have hr := B.returns
  have hts0 := atoms_spec (ws := z_w ⟨"MarshCourt$Land", "<init>", "()V"⟩ prog_7_method_1_code 1) B.pre
  have hts : ∀ w ∈ q_gw q_T0, w.before _ s = true := fun w hw => hts0 w (List.mem_cons_of_mem _ hw)
  have hown : s.vm.findClass "MarshCourt$Land" = some m.cls := findClass_of_methodNamed B.named
  have hlocks := B.notSynchronized
  have hin : meth.name = "<init>" := (name_of_methodNamed B.named B.method).1
  subst hsz
  have hD := hD0.self (sz := s.heap.size)
  generalize hAe : va_A [(h0, .inr (5, [.null, .null, .null, .null, .null, .int 0, .int 0, .int 0]))] s.heap.size = A at hD ⊢
  have hA : ∀ q : Nat, s.heap.size ≤ q → A q := fun q h => by rw [← hAe]; exact Or.inr h
  have hS : va_S A s.heap s.heap [] := va_S.rf
  have hl := lv_entry ([.ref h0]) (n := 1) (Nat.le_of_ble_eq_true rfl)
  rw [lg_entry_eq]
  generalize (lg_sl ([.ref h0]) ++ List.replicate (1 - (lg_sl ([.ref h0])).length) Slot.unset).toArray = ls at hl ⊢
  have hl : lv_has ls 1 [(0, .ref h0)] := hl
  refine lv_aload_n hx hb e_Land_0 rfl (lv_at hl 0 rfl) ?_
  refine W.objInit hx hb hown (hts _ zw_94) (hts _ zw_87) (hts _ zw_88) rfl (by rw [hml]; exact hl.1) rfl e_Land_1 (Nat.le_of_ble_eq_true rfl) (Nat.le_of_ble_eq_true rfl) ?_
  refine W.eq (g2 := F0 m 4 ls []) rfl ?_
  refine lv_aload_n hx hb e_Land_4 rfl (lv_at hl 0 rfl) ?_
  refine lv_bipush (v := 30) hx hb e_Land_5 (by decide) ?_
  refine z_newa (atype := .int) (N' := 30) hx hb (hts _ zw_130) rfl (fun _ h => by cases h) hK 0 rfl hP hD hS hA (fun cA => z_hia cA 30) (by decide) (by decide) (by decide) (Nat.le_of_ble_eq_true rfl) (Nat.le_of_ble_eq_true rfl) e_Land_7 (fun q7 H hP hD hS => ?_)
  refine W.widen (k := 1) (n := 30) (Nat.le_of_ble_eq_true rfl) (Nat.le_of_ble_eq_true rfl) ?_
  refine va_putF (D := D) (ci := 5) (v := .ref q7) (C := "MarshCourt$Land") (T := q_F5) (N := 8) hx hb hts ((q_clOK0 5 _ rfl).1) q_H5 q_clt5 q_cln5 hown hK hP hD hS 0 rfl rfl 0 (by decide) (hts _ zw_95) (fun _ h9 => h9) rfl hin rfl (q_clt5 0 (by decide)) rfl rfl (Nat.le_of_ble_eq_true rfl) e_Land_9 (fun H locs hP hD hS => ?_)
  have hP : va_P D q_cl ([(h0, .inr (5, [.ref q7, .null, .null, .null, .null, .int 0, .int 0, .int 0])), (q7, z_ia tI 30)]) H := hP
  have hD : va_D A ([(h0, .inr (5, [.ref q7, .null, .null, .null, .null, .int 0, .int 0, .int 0])), (q7, z_ia tI 30)]) := hD
  refine lv_aload_n hx hb e_Land_12 rfl (lv_at hl 0 rfl) ?_
  refine lv_bipush (v := 30) hx hb e_Land_13 (by decide) ?_
  refine z_newa (atype := .int) (N' := 30) hx hb (hts _ zw_130) rfl (fun _ h => by cases h) hK 0 rfl hP hD hS hA (fun cA => z_hia cA 30) (by decide) (by decide) (by decide) (Nat.le_of_ble_eq_true rfl) (Nat.le_of_ble_eq_true rfl) e_Land_15 (fun q15 H hP hD hS => ?_)
  refine W.widen (k := 2) (n := 60) (Nat.le_of_ble_eq_true rfl) (Nat.le_of_ble_eq_true rfl) ?_
  refine va_putF (D := D) (ci := 5) (v := .ref q15) (C := "MarshCourt$Land") (T := q_F5) (N := 8) hx hb hts ((q_clOK0 5 _ rfl).1) q_H5 q_clt5 q_cln5 hown hK hP hD hS 0 rfl rfl 1 (by decide) (hts _ zw_99) (fun _ h9 => h9) rfl hin rfl (q_clt5 1 (by decide)) rfl rfl (Nat.le_of_ble_eq_true rfl) e_Land_17 (fun H locs hP hD hS => ?_)
  have hP : va_P D q_cl ([(h0, .inr (5, [.ref q7, .ref q15, .null, .null, .null, .int 0, .int 0, .int 0])), (q7, z_ia tI 30), (q15, z_ia tI 30)]) H := hP
  have hD : va_D A ([(h0, .inr (5, [.ref q7, .ref q15, .null, .null, .null, .int 0, .int 0, .int 0])), (q7, z_ia tI 30), (q15, z_ia tI 30)]) := hD
  refine lv_aload_n hx hb e_Land_20 rfl (lv_at hl 0 rfl) ?_
  refine lv_bipush (v := 30) hx hb e_Land_21 (by decide) ?_
  refine z_newa (atype := .int) (N' := 30) hx hb (hts _ zw_130) rfl (fun _ h => by cases h) hK 0 rfl hP hD hS hA (fun cA => z_hia cA 30) (by decide) (by decide) (by decide) (Nat.le_of_ble_eq_true rfl) (Nat.le_of_ble_eq_true rfl) e_Land_23 (fun q23 H hP hD hS => ?_)
  refine W.widen (k := 3) (n := 90) (Nat.le_of_ble_eq_true rfl) (Nat.le_of_ble_eq_true rfl) ?_
  refine va_putF (D := D) (ci := 5) (v := .ref q23) (C := "MarshCourt$Land") (T := q_F5) (N := 8) hx hb hts ((q_clOK0 5 _ rfl).1) q_H5 q_clt5 q_cln5 hown hK hP hD hS 0 rfl rfl 2 (by decide) (hts _ zw_102) (fun _ h9 => h9) rfl hin rfl (q_clt5 2 (by decide)) rfl rfl (Nat.le_of_ble_eq_true rfl) e_Land_25 (fun H locs hP hD hS => ?_)
  have hP : va_P D q_cl ([(h0, .inr (5, [.ref q7, .ref q15, .ref q23, .null, .null, .int 0, .int 0, .int 0])), (q7, z_ia tI 30), (q15, z_ia tI 30), (q23, z_ia tI 30)]) H := hP
  have hD : va_D A ([(h0, .inr (5, [.ref q7, .ref q15, .ref q23, .null, .null, .int 0, .int 0, .int 0])), (q7, z_ia tI 30), (q15, z_ia tI 30), (q23, z_ia tI 30)]) := hD
  refine lv_aload_n hx hb e_Land_28 rfl (lv_at hl 0 rfl) ?_
  refine lv_bipush (v := 30) hx hb e_Land_29 (by decide) ?_
  refine z_newa (atype := .int) (N' := 30) hx hb (hts _ zw_130) rfl (fun _ h => by cases h) hK 0 rfl hP hD hS hA (fun cA => z_hia cA 30) (by decide) (by decide) (by decide) (Nat.le_of_ble_eq_true rfl) (Nat.le_of_ble_eq_true rfl) e_Land_31 (fun q31 H hP hD hS => ?_)
  refine W.widen (k := 4) (n := 120) (Nat.le_of_ble_eq_true rfl) (Nat.le_of_ble_eq_true rfl) ?_
  refine va_putF (D := D) (ci := 5) (v := .ref q31) (C := "MarshCourt$Land") (T := q_F5) (N := 8) hx hb hts ((q_clOK0 5 _ rfl).1) q_H5 q_clt5 q_cln5 hown hK hP hD hS 0 rfl rfl 3 (by decide) (hts _ zw_104) (fun _ h9 => h9) rfl hin rfl (q_clt5 3 (by decide)) rfl rfl (Nat.le_of_ble_eq_true rfl) e_Land_33 (fun H locs hP hD hS => ?_)
  have hP : va_P D q_cl ([(h0, .inr (5, [.ref q7, .ref q15, .ref q23, .ref q31, .null, .int 0, .int 0, .int 0])), (q7, z_ia tI 30), (q15, z_ia tI 30), (q23, z_ia tI 30), (q31, z_ia tI 30)]) H := hP
  have hD : va_D A ([(h0, .inr (5, [.ref q7, .ref q15, .ref q23, .ref q31, .null, .int 0, .int 0, .int 0])), (q7, z_ia tI 30), (q15, z_ia tI 30), (q23, z_ia tI 30), (q31, z_ia tI 30)]) := hD
  refine lv_aload_n hx hb e_Land_36 rfl (lv_at hl 0 rfl) ?_
  refine lv_bipush (v := 60) hx hb e_Land_37 (by decide) ?_
  refine z_newa (atype := .boolean) (N' := 60) hx hb (hts _ zw_131) rfl (fun _ h => by cases h) hK 1 rfl hP hD hS hA (fun cA => z_hza cA 60) (by decide) (by decide) (by decide) (Nat.le_of_ble_eq_true rfl) (Nat.le_of_ble_eq_true rfl) e_Land_39 (fun q39 H hP hD hS => ?_)
  refine W.widen (k := 5) (n := 180) (Nat.le_of_ble_eq_true rfl) (Nat.le_of_ble_eq_true rfl) ?_
  refine va_putF (D := D) (ci := 5) (v := .ref q39) (C := "MarshCourt$Land") (T := q_F5) (N := 8) hx hb hts ((q_clOK0 5 _ rfl).1) q_H5 q_clt5 q_cln5 hown hK hP hD hS 0 rfl rfl 4 (by decide) (hts _ zw_106) (fun _ h9 => h9) rfl hin rfl (q_clt5 4 (by decide)) rfl rfl (Nat.le_of_ble_eq_true rfl) e_Land_41 (fun H locs hP hD hS => ?_)
  have hP : va_P D q_cl ([(h0, .inr (5, [.ref q7, .ref q15, .ref q23, .ref q31, .ref q39, .int 0, .int 0, .int 0])), (q7, z_ia tI 30), (q15, z_ia tI 30), (q23, z_ia tI 30), (q31, z_ia tI 30), (q39, z_ia tZ 60)]) H := hP
  have hD : va_D A ([(h0, .inr (5, [.ref q7, .ref q15, .ref q23, .ref q31, .ref q39, .int 0, .int 0, .int 0])), (q7, z_ia tI 30), (q15, z_ia tI 30), (q23, z_ia tI 30), (q31, z_ia tI 30), (q39, z_ia tZ 60)]) := hD
  refine W.widen (k := 5) (n := 180) (Nat.le_of_ble_eq_true rfl) (Nat.le_of_ble_eq_true rfl) ?_
  exact W.vret hx hb hr (fun t ht hW => ⟨⟨[q7, q15, q23, q31, q39], rfl, trivial, by rw [ht]; exact hP, va_K.moved hW.alike hK, hD⟩, hS.F ht⟩) hS.2.2 e_Land_44

def z_Sales (tI _tZ _tJ _tQ : ClassId) (h0 : Nat) (u : List Nat) : va_W := [(h0, .inr (7, [.ref (u.getD 0 0), .ref (u.getD 1 0), .ref (u.getD 2 0), .ref (u.getD 3 0), .ref (u.getD 4 0), .int 0])), ((u.getD 0 0), z_ia tI 120), ((u.getD 1 0), z_ia tI 120), ((u.getD 2 0), z_ia tI 120), ((u.getD 3 0), z_ia tI 120), ((u.getD 4 0), z_ia tI 120)]
set_option maxHeartbeats 8000000 in
set_option maxRecDepth 100000 in
theorem c_Sales_init (l : Launch) (D : va_G) (tI tZ tJ tQ : ClassId) (h0 sz : Nat) : Met l ⟨"MarshCourt$Sales", "<init>", "()V"⟩ (z_w ⟨"MarshCourt$Sales", "<init>", "()V"⟩ prog_9_method_1_code 1) ({ frames := 1, cells := 5, slots := 600, locals := 12 }) (va_Pc [.ref h0] (z_B D (z_t tI tZ tJ tQ) [(h0, .inr (7, [.null, .null, .null, .null, .null, .int 0]))] sz)) (va_Qv (fun _ : List Nat => True) (fun u t => z_E D (z_t tI tZ tJ tQ) (va_A [(h0, .inr (7, [.null, .null, .null, .null, .null, .int 0]))] sz) (z_Sales tI tZ tJ tQ h0 u) t) (va_A [(h0, .inr (7, [.null, .null, .null, .null, .null, .int 0]))] sz)) 5 600 (va_A [(h0, .inr (7, [.null, .null, .null, .null, .null, .int 0]))] sz) := by
  refine Met.ofW (cc := prog_9_method_1_code) (maxL := 1) (ret := none) (by decide) rfl ?_
  intro p e s m args below meth c s₁ B hml hv
  obtain ⟨rfl, hsz, hP, hK, hD0, hN, hO⟩ := hv
  have hx := B.exec
  have hb := B.bytes
  have hr := B.returns
  have hts0 := atoms_spec (ws := z_w ⟨"MarshCourt$Sales", "<init>", "()V"⟩ prog_9_method_1_code 1) B.pre
  have hts : ∀ w ∈ q_gw q_T0, w.before _ s = true := fun w hw => hts0 w (List.mem_cons_of_mem _ hw)
  have hown : s.vm.findClass "MarshCourt$Sales" = some m.cls := findClass_of_methodNamed B.named
  have hlocks := B.notSynchronized
  have hin : meth.name = "<init>" := (name_of_methodNamed B.named B.method).1
  subst hsz
  have hD := hD0.self (sz := s.heap.size)
  generalize hAe : va_A [(h0, .inr (7, [.null, .null, .null, .null, .null, .int 0]))] s.heap.size = A at hD ⊢
  have hA : ∀ q : Nat, s.heap.size ≤ q → A q := fun q h => by rw [← hAe]; exact Or.inr h
  have hS : va_S A s.heap s.heap [] := va_S.rf
  have hl := lv_entry ([.ref h0]) (n := 1) (Nat.le_of_ble_eq_true rfl)
  rw [lg_entry_eq]
  generalize (lg_sl ([.ref h0]) ++ List.replicate (1 - (lg_sl ([.ref h0])).length) Slot.unset).toArray = ls at hl ⊢
  have hl : lv_has ls 1 [(0, .ref h0)] := hl
  refine lv_aload_n hx hb e_Sales_0 rfl (lv_at hl 0 rfl) ?_
  refine W.objInit hx hb hown (hts _ zw_137) (hts _ zw_87) (hts _ zw_88) rfl (by rw [hml]; exact hl.1) rfl e_Sales_1 (Nat.le_of_ble_eq_true rfl) (Nat.le_of_ble_eq_true rfl) ?_
  refine W.eq (g2 := F0 m 4 ls []) rfl ?_
  refine lv_aload_n hx hb e_Sales_4 rfl (lv_at hl 0 rfl) ?_
  refine lv_bipush (v := 120) hx hb e_Sales_5 (by decide) ?_
  refine z_newa (atype := .int) (N' := 120) hx hb (hts _ zw_130) rfl (fun _ h => by cases h) hK 0 rfl hP hD hS hA (fun cA => z_hia cA 120) (by decide) (by decide) (by decide) (Nat.le_of_ble_eq_true rfl) (Nat.le_of_ble_eq_true rfl) e_Sales_7 (fun q7 H hP hD hS => ?_)
  refine W.widen (k := 1) (n := 120) (Nat.le_of_ble_eq_true rfl) (Nat.le_of_ble_eq_true rfl) ?_
  refine va_putF (D := D) (ci := 7) (v := .ref q7) (C := "MarshCourt$Sales") (T := q_F7) (N := 6) hx hb hts ((q_clOK0 7 _ rfl).1) q_H7 q_clt7 q_cln7 hown hK hP hD hS 0 rfl rfl 0 (by decide) (hts _ zw_138) (fun _ h9 => h9) rfl hin rfl (q_clt7 0 (by decide)) rfl rfl (Nat.le_of_ble_eq_true rfl) e_Sales_9 (fun H locs hP hD hS => ?_)
  have hP : va_P D q_cl ([(h0, .inr (7, [.ref q7, .null, .null, .null, .null, .int 0])), (q7, z_ia tI 120)]) H := hP
  have hD : va_D A ([(h0, .inr (7, [.ref q7, .null, .null, .null, .null, .int 0])), (q7, z_ia tI 120)]) := hD
  refine lv_aload_n hx hb e_Sales_12 rfl (lv_at hl 0 rfl) ?_
  refine lv_bipush (v := 120) hx hb e_Sales_13 (by decide) ?_
  refine z_newa (atype := .int) (N' := 120) hx hb (hts _ zw_130) rfl (fun _ h => by cases h) hK 0 rfl hP hD hS hA (fun cA => z_hia cA 120) (by decide) (by decide) (by decide) (Nat.le_of_ble_eq_true rfl) (Nat.le_of_ble_eq_true rfl) e_Sales_15 (fun q15 H hP hD hS => ?_)
  refine W.widen (k := 2) (n := 240) (Nat.le_of_ble_eq_true rfl) (Nat.le_of_ble_eq_true rfl) ?_
  refine va_putF (D := D) (ci := 7) (v := .ref q15) (C := "MarshCourt$Sales") (T := q_F7) (N := 6) hx hb hts ((q_clOK0 7 _ rfl).1) q_H7 q_clt7 q_cln7 hown hK hP hD hS 0 rfl rfl 1 (by decide) (hts _ zw_139) (fun _ h9 => h9) rfl hin rfl (q_clt7 1 (by decide)) rfl rfl (Nat.le_of_ble_eq_true rfl) e_Sales_17 (fun H locs hP hD hS => ?_)
  have hP : va_P D q_cl ([(h0, .inr (7, [.ref q7, .ref q15, .null, .null, .null, .int 0])), (q7, z_ia tI 120), (q15, z_ia tI 120)]) H := hP
  have hD : va_D A ([(h0, .inr (7, [.ref q7, .ref q15, .null, .null, .null, .int 0])), (q7, z_ia tI 120), (q15, z_ia tI 120)]) := hD
  refine lv_aload_n hx hb e_Sales_20 rfl (lv_at hl 0 rfl) ?_
  refine lv_bipush (v := 120) hx hb e_Sales_21 (by decide) ?_
  refine z_newa (atype := .int) (N' := 120) hx hb (hts _ zw_130) rfl (fun _ h => by cases h) hK 0 rfl hP hD hS hA (fun cA => z_hia cA 120) (by decide) (by decide) (by decide) (Nat.le_of_ble_eq_true rfl) (Nat.le_of_ble_eq_true rfl) e_Sales_23 (fun q23 H hP hD hS => ?_)
  refine W.widen (k := 3) (n := 360) (Nat.le_of_ble_eq_true rfl) (Nat.le_of_ble_eq_true rfl) ?_
  refine va_putF (D := D) (ci := 7) (v := .ref q23) (C := "MarshCourt$Sales") (T := q_F7) (N := 6) hx hb hts ((q_clOK0 7 _ rfl).1) q_H7 q_clt7 q_cln7 hown hK hP hD hS 0 rfl rfl 2 (by decide) (hts _ zw_140) (fun _ h9 => h9) rfl hin rfl (q_clt7 2 (by decide)) rfl rfl (Nat.le_of_ble_eq_true rfl) e_Sales_25 (fun H locs hP hD hS => ?_)
  have hP : va_P D q_cl ([(h0, .inr (7, [.ref q7, .ref q15, .ref q23, .null, .null, .int 0])), (q7, z_ia tI 120), (q15, z_ia tI 120), (q23, z_ia tI 120)]) H := hP
  have hD : va_D A ([(h0, .inr (7, [.ref q7, .ref q15, .ref q23, .null, .null, .int 0])), (q7, z_ia tI 120), (q15, z_ia tI 120), (q23, z_ia tI 120)]) := hD
  refine lv_aload_n hx hb e_Sales_28 rfl (lv_at hl 0 rfl) ?_
  refine lv_bipush (v := 120) hx hb e_Sales_29 (by decide) ?_
  refine z_newa (atype := .int) (N' := 120) hx hb (hts _ zw_130) rfl (fun _ h => by cases h) hK 0 rfl hP hD hS hA (fun cA => z_hia cA 120) (by decide) (by decide) (by decide) (Nat.le_of_ble_eq_true rfl) (Nat.le_of_ble_eq_true rfl) e_Sales_31 (fun q31 H hP hD hS => ?_)
  refine W.widen (k := 4) (n := 480) (Nat.le_of_ble_eq_true rfl) (Nat.le_of_ble_eq_true rfl) ?_
  refine va_putF (D := D) (ci := 7) (v := .ref q31) (C := "MarshCourt$Sales") (T := q_F7) (N := 6) hx hb hts ((q_clOK0 7 _ rfl).1) q_H7 q_clt7 q_cln7 hown hK hP hD hS 0 rfl rfl 3 (by decide) (hts _ zw_141) (fun _ h9 => h9) rfl hin rfl (q_clt7 3 (by decide)) rfl rfl (Nat.le_of_ble_eq_true rfl) e_Sales_33 (fun H locs hP hD hS => ?_)
  have hP : va_P D q_cl ([(h0, .inr (7, [.ref q7, .ref q15, .ref q23, .ref q31, .null, .int 0])), (q7, z_ia tI 120), (q15, z_ia tI 120), (q23, z_ia tI 120), (q31, z_ia tI 120)]) H := hP
  have hD : va_D A ([(h0, .inr (7, [.ref q7, .ref q15, .ref q23, .ref q31, .null, .int 0])), (q7, z_ia tI 120), (q15, z_ia tI 120), (q23, z_ia tI 120), (q31, z_ia tI 120)]) := hD
  refine lv_aload_n hx hb e_Sales_36 rfl (lv_at hl 0 rfl) ?_
  refine lv_bipush (v := 120) hx hb e_Sales_37 (by decide) ?_
  refine z_newa (atype := .int) (N' := 120) hx hb (hts _ zw_130) rfl (fun _ h => by cases h) hK 0 rfl hP hD hS hA (fun cA => z_hia cA 120) (by decide) (by decide) (by decide) (Nat.le_of_ble_eq_true rfl) (Nat.le_of_ble_eq_true rfl) e_Sales_39 (fun q39 H hP hD hS => ?_)
  refine W.widen (k := 5) (n := 600) (Nat.le_of_ble_eq_true rfl) (Nat.le_of_ble_eq_true rfl) ?_
  refine va_putF (D := D) (ci := 7) (v := .ref q39) (C := "MarshCourt$Sales") (T := q_F7) (N := 6) hx hb hts ((q_clOK0 7 _ rfl).1) q_H7 q_clt7 q_cln7 hown hK hP hD hS 0 rfl rfl 4 (by decide) (hts _ zw_142) (fun _ h9 => h9) rfl hin rfl (q_clt7 4 (by decide)) rfl rfl (Nat.le_of_ble_eq_true rfl) e_Sales_41 (fun H locs hP hD hS => ?_)
  have hP : va_P D q_cl ([(h0, .inr (7, [.ref q7, .ref q15, .ref q23, .ref q31, .ref q39, .int 0])), (q7, z_ia tI 120), (q15, z_ia tI 120), (q23, z_ia tI 120), (q31, z_ia tI 120), (q39, z_ia tI 120)]) H := hP
  have hD : va_D A ([(h0, .inr (7, [.ref q7, .ref q15, .ref q23, .ref q31, .ref q39, .int 0])), (q7, z_ia tI 120), (q15, z_ia tI 120), (q23, z_ia tI 120), (q31, z_ia tI 120), (q39, z_ia tI 120)]) := hD
  refine W.widen (k := 5) (n := 600) (Nat.le_of_ble_eq_true rfl) (Nat.le_of_ble_eq_true rfl) ?_
  exact W.vret hx hb hr (fun t ht hW => ⟨⟨[q7, q15, q23, q31, q39], rfl, trivial, by rw [ht]; exact hP, va_K.moved hW.alike hK, hD⟩, hS.F ht⟩) hS.2.2 e_Sales_44

def z_Shares (tI _tZ _tJ _tQ : ClassId) (h0 : Nat) (u : List Nat) : va_W := [(h0, .inr (8, [.ref (u.getD 0 0), .ref (u.getD 1 0), .ref (u.getD 2 0)])), ((u.getD 0 0), z_ia tI 8), ((u.getD 1 0), z_ia tI 8), ((u.getD 2 0), z_ia tI 8)]
set_option maxHeartbeats 8000000 in
set_option maxRecDepth 100000 in
theorem c_Shares_init (l : Launch) (D : va_G) (tI tZ tJ tQ : ClassId) (h0 sz : Nat) : Met l ⟨"MarshCourt$Shares", "<init>", "()V"⟩ (z_w ⟨"MarshCourt$Shares", "<init>", "()V"⟩ prog_10_method_1_code 1) ({ frames := 1, cells := 3, slots := 24, locals := 12 }) (va_Pc [.ref h0] (z_B D (z_t tI tZ tJ tQ) [(h0, .inr (8, [.null, .null, .null]))] sz)) (va_Qv (fun _ : List Nat => True) (fun u t => z_E D (z_t tI tZ tJ tQ) (va_A [(h0, .inr (8, [.null, .null, .null]))] sz) (z_Shares tI tZ tJ tQ h0 u) t) (va_A [(h0, .inr (8, [.null, .null, .null]))] sz)) 3 24 (va_A [(h0, .inr (8, [.null, .null, .null]))] sz) := by
  refine Met.ofW (cc := prog_10_method_1_code) (maxL := 1) (ret := none) (by decide) rfl ?_
  intro p e s m args below meth c s₁ B hml hv
  obtain ⟨rfl, hsz, hP, hK, hD0, hN, hO⟩ := hv
  have hx := B.exec
  have hb := B.bytes
  have hr := B.returns
  have hts0 := atoms_spec (ws := z_w ⟨"MarshCourt$Shares", "<init>", "()V"⟩ prog_10_method_1_code 1) B.pre
  have hts : ∀ w ∈ q_gw q_T0, w.before _ s = true := fun w hw => hts0 w (List.mem_cons_of_mem _ hw)
  have hown : s.vm.findClass "MarshCourt$Shares" = some m.cls := findClass_of_methodNamed B.named
  have hlocks := B.notSynchronized
  have hin : meth.name = "<init>" := (name_of_methodNamed B.named B.method).1
  subst hsz
  have hD := hD0.self (sz := s.heap.size)
  generalize hAe : va_A [(h0, .inr (8, [.null, .null, .null]))] s.heap.size = A at hD ⊢
  have hA : ∀ q : Nat, s.heap.size ≤ q → A q := fun q h => by rw [← hAe]; exact Or.inr h
  have hS : va_S A s.heap s.heap [] := va_S.rf
  have hl := lv_entry ([.ref h0]) (n := 1) (Nat.le_of_ble_eq_true rfl)
  rw [lg_entry_eq]
  generalize (lg_sl ([.ref h0]) ++ List.replicate (1 - (lg_sl ([.ref h0])).length) Slot.unset).toArray = ls at hl ⊢
  have hl : lv_has ls 1 [(0, .ref h0)] := hl
  refine lv_aload_n hx hb e_Shares_0 rfl (lv_at hl 0 rfl) ?_
  refine W.objInit hx hb hown (hts _ zw_163) (hts _ zw_87) (hts _ zw_88) rfl (by rw [hml]; exact hl.1) rfl e_Shares_1 (Nat.le_of_ble_eq_true rfl) (Nat.le_of_ble_eq_true rfl) ?_
  refine W.eq (g2 := F0 m 4 ls []) rfl ?_
  refine lv_aload_n hx hb e_Shares_4 rfl (lv_at hl 0 rfl) ?_
  refine lv_bipush (v := 8) hx hb e_Shares_5 (by decide) ?_
  refine z_newa (atype := .int) (N' := 8) hx hb (hts _ zw_130) rfl (fun _ h => by cases h) hK 0 rfl hP hD hS hA (fun cA => z_hia cA 8) (by decide) (by decide) (by decide) (Nat.le_of_ble_eq_true rfl) (Nat.le_of_ble_eq_true rfl) e_Shares_7 (fun q7 H hP hD hS => ?_)
  refine W.widen (k := 1) (n := 8) (Nat.le_of_ble_eq_true rfl) (Nat.le_of_ble_eq_true rfl) ?_
  refine va_putF (D := D) (ci := 8) (v := .ref q7) (C := "MarshCourt$Shares") (T := q_F8) (N := 3) hx hb hts ((q_clOK0 8 _ rfl).1) q_H8 q_clt8 q_cln8 hown hK hP hD hS 0 rfl rfl 0 (by decide) (hts _ zw_164) (fun _ h9 => h9) rfl hin rfl (q_clt8 0 (by decide)) rfl rfl (Nat.le_of_ble_eq_true rfl) e_Shares_9 (fun H locs hP hD hS => ?_)
  have hP : va_P D q_cl ([(h0, .inr (8, [.ref q7, .null, .null])), (q7, z_ia tI 8)]) H := hP
  have hD : va_D A ([(h0, .inr (8, [.ref q7, .null, .null])), (q7, z_ia tI 8)]) := hD
  refine lv_aload_n hx hb e_Shares_12 rfl (lv_at hl 0 rfl) ?_
  refine lv_bipush (v := 8) hx hb e_Shares_13 (by decide) ?_
  refine z_newa (atype := .int) (N' := 8) hx hb (hts _ zw_130) rfl (fun _ h => by cases h) hK 0 rfl hP hD hS hA (fun cA => z_hia cA 8) (by decide) (by decide) (by decide) (Nat.le_of_ble_eq_true rfl) (Nat.le_of_ble_eq_true rfl) e_Shares_15 (fun q15 H hP hD hS => ?_)
  refine W.widen (k := 2) (n := 16) (Nat.le_of_ble_eq_true rfl) (Nat.le_of_ble_eq_true rfl) ?_
  refine va_putF (D := D) (ci := 8) (v := .ref q15) (C := "MarshCourt$Shares") (T := q_F8) (N := 3) hx hb hts ((q_clOK0 8 _ rfl).1) q_H8 q_clt8 q_cln8 hown hK hP hD hS 0 rfl rfl 1 (by decide) (hts _ zw_166) (fun _ h9 => h9) rfl hin rfl (q_clt8 1 (by decide)) rfl rfl (Nat.le_of_ble_eq_true rfl) e_Shares_17 (fun H locs hP hD hS => ?_)
  have hP : va_P D q_cl ([(h0, .inr (8, [.ref q7, .ref q15, .null])), (q7, z_ia tI 8), (q15, z_ia tI 8)]) H := hP
  have hD : va_D A ([(h0, .inr (8, [.ref q7, .ref q15, .null])), (q7, z_ia tI 8), (q15, z_ia tI 8)]) := hD
  refine lv_aload_n hx hb e_Shares_20 rfl (lv_at hl 0 rfl) ?_
  refine lv_bipush (v := 8) hx hb e_Shares_21 (by decide) ?_
  refine z_newa (atype := .int) (N' := 8) hx hb (hts _ zw_130) rfl (fun _ h => by cases h) hK 0 rfl hP hD hS hA (fun cA => z_hia cA 8) (by decide) (by decide) (by decide) (Nat.le_of_ble_eq_true rfl) (Nat.le_of_ble_eq_true rfl) e_Shares_23 (fun q23 H hP hD hS => ?_)
  refine W.widen (k := 3) (n := 24) (Nat.le_of_ble_eq_true rfl) (Nat.le_of_ble_eq_true rfl) ?_
  refine va_putF (D := D) (ci := 8) (v := .ref q23) (C := "MarshCourt$Shares") (T := q_F8) (N := 3) hx hb hts ((q_clOK0 8 _ rfl).1) q_H8 q_clt8 q_cln8 hown hK hP hD hS 0 rfl rfl 2 (by decide) (hts _ zw_168) (fun _ h9 => h9) rfl hin rfl (q_clt8 2 (by decide)) rfl rfl (Nat.le_of_ble_eq_true rfl) e_Shares_25 (fun H locs hP hD hS => ?_)
  have hP : va_P D q_cl ([(h0, .inr (8, [.ref q7, .ref q15, .ref q23])), (q7, z_ia tI 8), (q15, z_ia tI 8), (q23, z_ia tI 8)]) H := hP
  have hD : va_D A ([(h0, .inr (8, [.ref q7, .ref q15, .ref q23])), (q7, z_ia tI 8), (q15, z_ia tI 8), (q23, z_ia tI 8)]) := hD
  refine W.widen (k := 3) (n := 24) (Nat.le_of_ble_eq_true rfl) (Nat.le_of_ble_eq_true rfl) ?_
  exact W.vret hx hb hr (fun t ht hW => ⟨⟨[q7, q15, q23], rfl, trivial, by rw [ht]; exact hP, va_K.moved hW.alike hK, hD⟩, hS.F ht⟩) hS.2.2 e_Shares_28

def z_Bank (tI _tZ _tJ _tQ : ClassId) (h0 : Nat) (u : List Nat) : va_W := [(h0, .inr (0, [.ref (u.getD 0 0), .ref (u.getD 1 0), .ref (u.getD 2 0), .ref (u.getD 3 0), .ref (u.getD 4 0), .ref (u.getD 5 0), .ref (u.getD 6 0), .ref (u.getD 7 0), .ref (u.getD 8 0), .int 0])), ((u.getD 0 0), z_ia tI 24), ((u.getD 1 0), z_ia tI 24), ((u.getD 2 0), z_ia tI 24), ((u.getD 3 0), z_ia tI 24), ((u.getD 4 0), z_ia tI 24), ((u.getD 5 0), z_ia tI 24), ((u.getD 6 0), z_ia tI 24), ((u.getD 7 0), z_ia tI 24), ((u.getD 8 0), z_ia tI 8)]
set_option maxHeartbeats 8000000 in
set_option maxRecDepth 100000 in
theorem c_Bank_init (l : Launch) (D : va_G) (tI tZ tJ tQ : ClassId) (h0 sz : Nat) : Met l ⟨"MarshCourt$Bank", "<init>", "()V"⟩ (z_w ⟨"MarshCourt$Bank", "<init>", "()V"⟩ prog_2_method_1_code 1) ({ frames := 1, cells := 9, slots := 200, locals := 12 }) (va_Pc [.ref h0] (z_B D (z_t tI tZ tJ tQ) [(h0, .inr (0, [.null, .null, .null, .null, .null, .null, .null, .null, .null, .int 0]))] sz)) (va_Qv (fun _ : List Nat => True) (fun u t => z_E D (z_t tI tZ tJ tQ) (va_A [(h0, .inr (0, [.null, .null, .null, .null, .null, .null, .null, .null, .null, .int 0]))] sz) (z_Bank tI tZ tJ tQ h0 u) t) (va_A [(h0, .inr (0, [.null, .null, .null, .null, .null, .null, .null, .null, .null, .int 0]))] sz)) 9 200 (va_A [(h0, .inr (0, [.null, .null, .null, .null, .null, .null, .null, .null, .null, .int 0]))] sz) := by
  refine Met.ofW (cc := prog_2_method_1_code) (maxL := 1) (ret := none) (by decide) rfl ?_
  intro p e s m args below meth c s₁ B hml hv
  obtain ⟨rfl, hsz, hP, hK, hD0, hN, hO⟩ := hv
  have hx := B.exec
  have hb := B.bytes
  have hr := B.returns
  have hts0 := atoms_spec (ws := z_w ⟨"MarshCourt$Bank", "<init>", "()V"⟩ prog_2_method_1_code 1) B.pre
  have hts : ∀ w ∈ q_gw q_T0, w.before _ s = true := fun w hw => hts0 w (List.mem_cons_of_mem _ hw)
  have hown : s.vm.findClass "MarshCourt$Bank" = some m.cls := findClass_of_methodNamed B.named
  have hlocks := B.notSynchronized
  have hin : meth.name = "<init>" := (name_of_methodNamed B.named B.method).1
  subst hsz
  have hD := hD0.self (sz := s.heap.size)
  generalize hAe : va_A [(h0, .inr (0, [.null, .null, .null, .null, .null, .null, .null, .null, .null, .int 0]))] s.heap.size = A at hD ⊢
  have hA : ∀ q : Nat, s.heap.size ≤ q → A q := fun q h => by rw [← hAe]; exact Or.inr h
  have hS : va_S A s.heap s.heap [] := va_S.rf
  have hl := lv_entry ([.ref h0]) (n := 1) (Nat.le_of_ble_eq_true rfl)
  rw [lg_entry_eq]
  generalize (lg_sl ([.ref h0]) ++ List.replicate (1 - (lg_sl ([.ref h0])).length) Slot.unset).toArray = ls at hl ⊢
  have hl : lv_has ls 1 [(0, .ref h0)] := hl
  refine lv_aload_n hx hb e_Bank_0 rfl (lv_at hl 0 rfl) ?_
  refine W.objInit hx hb hown (hts _ zw_181) (hts _ zw_87) (hts _ zw_88) rfl (by rw [hml]; exact hl.1) rfl e_Bank_1 (Nat.le_of_ble_eq_true rfl) (Nat.le_of_ble_eq_true rfl) ?_
  refine W.eq (g2 := F0 m 4 ls []) rfl ?_
  refine lv_aload_n hx hb e_Bank_4 rfl (lv_at hl 0 rfl) ?_
  refine lv_bipush (v := 24) hx hb e_Bank_5 (by decide) ?_
  refine z_newa (atype := .int) (N' := 24) hx hb (hts _ zw_130) rfl (fun _ h => by cases h) hK 0 rfl hP hD hS hA (fun cA => z_hia cA 24) (by decide) (by decide) (by decide) (Nat.le_of_ble_eq_true rfl) (Nat.le_of_ble_eq_true rfl) e_Bank_7 (fun q7 H hP hD hS => ?_)
  refine W.widen (k := 1) (n := 24) (Nat.le_of_ble_eq_true rfl) (Nat.le_of_ble_eq_true rfl) ?_
  refine va_putF (D := D) (ci := 0) (v := .ref q7) (C := "MarshCourt$Bank") (T := q_F0) (N := 10) hx hb hts ((q_clOK0 0 _ rfl).1) q_H0 q_clt0 q_cln0 hown hK hP hD hS 0 rfl rfl 0 (by decide) (hts _ zw_182) (fun _ h9 => h9) rfl hin rfl (q_clt0 0 (by decide)) rfl rfl (Nat.le_of_ble_eq_true rfl) e_Bank_9 (fun H locs hP hD hS => ?_)
  have hP : va_P D q_cl ([(h0, .inr (0, [.ref q7, .null, .null, .null, .null, .null, .null, .null, .null, .int 0])), (q7, z_ia tI 24)]) H := hP
  have hD : va_D A ([(h0, .inr (0, [.ref q7, .null, .null, .null, .null, .null, .null, .null, .null, .int 0])), (q7, z_ia tI 24)]) := hD
  refine lv_aload_n hx hb e_Bank_12 rfl (lv_at hl 0 rfl) ?_
  refine lv_bipush (v := 24) hx hb e_Bank_13 (by decide) ?_
  refine z_newa (atype := .int) (N' := 24) hx hb (hts _ zw_130) rfl (fun _ h => by cases h) hK 0 rfl hP hD hS hA (fun cA => z_hia cA 24) (by decide) (by decide) (by decide) (Nat.le_of_ble_eq_true rfl) (Nat.le_of_ble_eq_true rfl) e_Bank_15 (fun q15 H hP hD hS => ?_)
  refine W.widen (k := 2) (n := 48) (Nat.le_of_ble_eq_true rfl) (Nat.le_of_ble_eq_true rfl) ?_
  refine va_putF (D := D) (ci := 0) (v := .ref q15) (C := "MarshCourt$Bank") (T := q_F0) (N := 10) hx hb hts ((q_clOK0 0 _ rfl).1) q_H0 q_clt0 q_cln0 hown hK hP hD hS 0 rfl rfl 1 (by decide) (hts _ zw_185) (fun _ h9 => h9) rfl hin rfl (q_clt0 1 (by decide)) rfl rfl (Nat.le_of_ble_eq_true rfl) e_Bank_17 (fun H locs hP hD hS => ?_)
  have hP : va_P D q_cl ([(h0, .inr (0, [.ref q7, .ref q15, .null, .null, .null, .null, .null, .null, .null, .int 0])), (q7, z_ia tI 24), (q15, z_ia tI 24)]) H := hP
  have hD : va_D A ([(h0, .inr (0, [.ref q7, .ref q15, .null, .null, .null, .null, .null, .null, .null, .int 0])), (q7, z_ia tI 24), (q15, z_ia tI 24)]) := hD
  refine lv_aload_n hx hb e_Bank_20 rfl (lv_at hl 0 rfl) ?_
  refine lv_bipush (v := 24) hx hb e_Bank_21 (by decide) ?_
  refine z_newa (atype := .int) (N' := 24) hx hb (hts _ zw_130) rfl (fun _ h => by cases h) hK 0 rfl hP hD hS hA (fun cA => z_hia cA 24) (by decide) (by decide) (by decide) (Nat.le_of_ble_eq_true rfl) (Nat.le_of_ble_eq_true rfl) e_Bank_23 (fun q23 H hP hD hS => ?_)
  refine W.widen (k := 3) (n := 72) (Nat.le_of_ble_eq_true rfl) (Nat.le_of_ble_eq_true rfl) ?_
  refine va_putF (D := D) (ci := 0) (v := .ref q23) (C := "MarshCourt$Bank") (T := q_F0) (N := 10) hx hb hts ((q_clOK0 0 _ rfl).1) q_H0 q_clt0 q_cln0 hown hK hP hD hS 0 rfl rfl 2 (by decide) (hts _ zw_187) (fun _ h9 => h9) rfl hin rfl (q_clt0 2 (by decide)) rfl rfl (Nat.le_of_ble_eq_true rfl) e_Bank_25 (fun H locs hP hD hS => ?_)
  have hP : va_P D q_cl ([(h0, .inr (0, [.ref q7, .ref q15, .ref q23, .null, .null, .null, .null, .null, .null, .int 0])), (q7, z_ia tI 24), (q15, z_ia tI 24), (q23, z_ia tI 24)]) H := hP
  have hD : va_D A ([(h0, .inr (0, [.ref q7, .ref q15, .ref q23, .null, .null, .null, .null, .null, .null, .int 0])), (q7, z_ia tI 24), (q15, z_ia tI 24), (q23, z_ia tI 24)]) := hD
  refine lv_aload_n hx hb e_Bank_28 rfl (lv_at hl 0 rfl) ?_
  refine lv_bipush (v := 24) hx hb e_Bank_29 (by decide) ?_
  refine z_newa (atype := .int) (N' := 24) hx hb (hts _ zw_130) rfl (fun _ h => by cases h) hK 0 rfl hP hD hS hA (fun cA => z_hia cA 24) (by decide) (by decide) (by decide) (Nat.le_of_ble_eq_true rfl) (Nat.le_of_ble_eq_true rfl) e_Bank_31 (fun q31 H hP hD hS => ?_)
  refine W.widen (k := 4) (n := 96) (Nat.le_of_ble_eq_true rfl) (Nat.le_of_ble_eq_true rfl) ?_
  refine va_putF (D := D) (ci := 0) (v := .ref q31) (C := "MarshCourt$Bank") (T := q_F0) (N := 10) hx hb hts ((q_clOK0 0 _ rfl).1) q_H0 q_clt0 q_cln0 hown hK hP hD hS 0 rfl rfl 3 (by decide) (hts _ zw_190) (fun _ h9 => h9) rfl hin rfl (q_clt0 3 (by decide)) rfl rfl (Nat.le_of_ble_eq_true rfl) e_Bank_33 (fun H locs hP hD hS => ?_)
  have hP : va_P D q_cl ([(h0, .inr (0, [.ref q7, .ref q15, .ref q23, .ref q31, .null, .null, .null, .null, .null, .int 0])), (q7, z_ia tI 24), (q15, z_ia tI 24), (q23, z_ia tI 24), (q31, z_ia tI 24)]) H := hP
  have hD : va_D A ([(h0, .inr (0, [.ref q7, .ref q15, .ref q23, .ref q31, .null, .null, .null, .null, .null, .int 0])), (q7, z_ia tI 24), (q15, z_ia tI 24), (q23, z_ia tI 24), (q31, z_ia tI 24)]) := hD
  refine lv_aload_n hx hb e_Bank_36 rfl (lv_at hl 0 rfl) ?_
  refine lv_bipush (v := 24) hx hb e_Bank_37 (by decide) ?_
  refine z_newa (atype := .int) (N' := 24) hx hb (hts _ zw_130) rfl (fun _ h => by cases h) hK 0 rfl hP hD hS hA (fun cA => z_hia cA 24) (by decide) (by decide) (by decide) (Nat.le_of_ble_eq_true rfl) (Nat.le_of_ble_eq_true rfl) e_Bank_39 (fun q39 H hP hD hS => ?_)
  refine W.widen (k := 5) (n := 120) (Nat.le_of_ble_eq_true rfl) (Nat.le_of_ble_eq_true rfl) ?_
  refine va_putF (D := D) (ci := 0) (v := .ref q39) (C := "MarshCourt$Bank") (T := q_F0) (N := 10) hx hb hts ((q_clOK0 0 _ rfl).1) q_H0 q_clt0 q_cln0 hown hK hP hD hS 0 rfl rfl 4 (by decide) (hts _ zw_192) (fun _ h9 => h9) rfl hin rfl (q_clt0 4 (by decide)) rfl rfl (Nat.le_of_ble_eq_true rfl) e_Bank_41 (fun H locs hP hD hS => ?_)
  have hP : va_P D q_cl ([(h0, .inr (0, [.ref q7, .ref q15, .ref q23, .ref q31, .ref q39, .null, .null, .null, .null, .int 0])), (q7, z_ia tI 24), (q15, z_ia tI 24), (q23, z_ia tI 24), (q31, z_ia tI 24), (q39, z_ia tI 24)]) H := hP
  have hD : va_D A ([(h0, .inr (0, [.ref q7, .ref q15, .ref q23, .ref q31, .ref q39, .null, .null, .null, .null, .int 0])), (q7, z_ia tI 24), (q15, z_ia tI 24), (q23, z_ia tI 24), (q31, z_ia tI 24), (q39, z_ia tI 24)]) := hD
  refine lv_aload_n hx hb e_Bank_44 rfl (lv_at hl 0 rfl) ?_
  refine lv_bipush (v := 24) hx hb e_Bank_45 (by decide) ?_
  refine z_newa (atype := .int) (N' := 24) hx hb (hts _ zw_130) rfl (fun _ h => by cases h) hK 0 rfl hP hD hS hA (fun cA => z_hia cA 24) (by decide) (by decide) (by decide) (Nat.le_of_ble_eq_true rfl) (Nat.le_of_ble_eq_true rfl) e_Bank_47 (fun q47 H hP hD hS => ?_)
  refine W.widen (k := 6) (n := 144) (Nat.le_of_ble_eq_true rfl) (Nat.le_of_ble_eq_true rfl) ?_
  refine va_putF (D := D) (ci := 0) (v := .ref q47) (C := "MarshCourt$Bank") (T := q_F0) (N := 10) hx hb hts ((q_clOK0 0 _ rfl).1) q_H0 q_clt0 q_cln0 hown hK hP hD hS 0 rfl rfl 5 (by decide) (hts _ zw_194) (fun _ h9 => h9) rfl hin rfl (q_clt0 5 (by decide)) rfl rfl (Nat.le_of_ble_eq_true rfl) e_Bank_49 (fun H locs hP hD hS => ?_)
  have hP : va_P D q_cl ([(h0, .inr (0, [.ref q7, .ref q15, .ref q23, .ref q31, .ref q39, .ref q47, .null, .null, .null, .int 0])), (q7, z_ia tI 24), (q15, z_ia tI 24), (q23, z_ia tI 24), (q31, z_ia tI 24), (q39, z_ia tI 24), (q47, z_ia tI 24)]) H := hP
  have hD : va_D A ([(h0, .inr (0, [.ref q7, .ref q15, .ref q23, .ref q31, .ref q39, .ref q47, .null, .null, .null, .int 0])), (q7, z_ia tI 24), (q15, z_ia tI 24), (q23, z_ia tI 24), (q31, z_ia tI 24), (q39, z_ia tI 24), (q47, z_ia tI 24)]) := hD
  refine lv_aload_n hx hb e_Bank_52 rfl (lv_at hl 0 rfl) ?_
  refine lv_bipush (v := 24) hx hb e_Bank_53 (by decide) ?_
  refine z_newa (atype := .int) (N' := 24) hx hb (hts _ zw_130) rfl (fun _ h => by cases h) hK 0 rfl hP hD hS hA (fun cA => z_hia cA 24) (by decide) (by decide) (by decide) (Nat.le_of_ble_eq_true rfl) (Nat.le_of_ble_eq_true rfl) e_Bank_55 (fun q55 H hP hD hS => ?_)
  refine W.widen (k := 7) (n := 168) (Nat.le_of_ble_eq_true rfl) (Nat.le_of_ble_eq_true rfl) ?_
  refine va_putF (D := D) (ci := 0) (v := .ref q55) (C := "MarshCourt$Bank") (T := q_F0) (N := 10) hx hb hts ((q_clOK0 0 _ rfl).1) q_H0 q_clt0 q_cln0 hown hK hP hD hS 0 rfl rfl 6 (by decide) (hts _ zw_196) (fun _ h9 => h9) rfl hin rfl (q_clt0 6 (by decide)) rfl rfl (Nat.le_of_ble_eq_true rfl) e_Bank_57 (fun H locs hP hD hS => ?_)
  have hP : va_P D q_cl ([(h0, .inr (0, [.ref q7, .ref q15, .ref q23, .ref q31, .ref q39, .ref q47, .ref q55, .null, .null, .int 0])), (q7, z_ia tI 24), (q15, z_ia tI 24), (q23, z_ia tI 24), (q31, z_ia tI 24), (q39, z_ia tI 24), (q47, z_ia tI 24), (q55, z_ia tI 24)]) H := hP
  have hD : va_D A ([(h0, .inr (0, [.ref q7, .ref q15, .ref q23, .ref q31, .ref q39, .ref q47, .ref q55, .null, .null, .int 0])), (q7, z_ia tI 24), (q15, z_ia tI 24), (q23, z_ia tI 24), (q31, z_ia tI 24), (q39, z_ia tI 24), (q47, z_ia tI 24), (q55, z_ia tI 24)]) := hD
  refine lv_aload_n hx hb e_Bank_60 rfl (lv_at hl 0 rfl) ?_
  refine lv_bipush (v := 24) hx hb e_Bank_61 (by decide) ?_
  refine z_newa (atype := .int) (N' := 24) hx hb (hts _ zw_130) rfl (fun _ h => by cases h) hK 0 rfl hP hD hS hA (fun cA => z_hia cA 24) (by decide) (by decide) (by decide) (Nat.le_of_ble_eq_true rfl) (Nat.le_of_ble_eq_true rfl) e_Bank_63 (fun q63 H hP hD hS => ?_)
  refine W.widen (k := 8) (n := 192) (Nat.le_of_ble_eq_true rfl) (Nat.le_of_ble_eq_true rfl) ?_
  refine va_putF (D := D) (ci := 0) (v := .ref q63) (C := "MarshCourt$Bank") (T := q_F0) (N := 10) hx hb hts ((q_clOK0 0 _ rfl).1) q_H0 q_clt0 q_cln0 hown hK hP hD hS 0 rfl rfl 7 (by decide) (hts _ zw_198) (fun _ h9 => h9) rfl hin rfl (q_clt0 7 (by decide)) rfl rfl (Nat.le_of_ble_eq_true rfl) e_Bank_65 (fun H locs hP hD hS => ?_)
  have hP : va_P D q_cl ([(h0, .inr (0, [.ref q7, .ref q15, .ref q23, .ref q31, .ref q39, .ref q47, .ref q55, .ref q63, .null, .int 0])), (q7, z_ia tI 24), (q15, z_ia tI 24), (q23, z_ia tI 24), (q31, z_ia tI 24), (q39, z_ia tI 24), (q47, z_ia tI 24), (q55, z_ia tI 24), (q63, z_ia tI 24)]) H := hP
  have hD : va_D A ([(h0, .inr (0, [.ref q7, .ref q15, .ref q23, .ref q31, .ref q39, .ref q47, .ref q55, .ref q63, .null, .int 0])), (q7, z_ia tI 24), (q15, z_ia tI 24), (q23, z_ia tI 24), (q31, z_ia tI 24), (q39, z_ia tI 24), (q47, z_ia tI 24), (q55, z_ia tI 24), (q63, z_ia tI 24)]) := hD
  refine lv_aload_n hx hb e_Bank_68 rfl (lv_at hl 0 rfl) ?_
  refine lv_bipush (v := 8) hx hb e_Bank_69 (by decide) ?_
  refine z_newa (atype := .int) (N' := 8) hx hb (hts _ zw_130) rfl (fun _ h => by cases h) hK 0 rfl hP hD hS hA (fun cA => z_hia cA 8) (by decide) (by decide) (by decide) (Nat.le_of_ble_eq_true rfl) (Nat.le_of_ble_eq_true rfl) e_Bank_71 (fun q71 H hP hD hS => ?_)
  refine W.widen (k := 9) (n := 200) (Nat.le_of_ble_eq_true rfl) (Nat.le_of_ble_eq_true rfl) ?_
  refine va_putF (D := D) (ci := 0) (v := .ref q71) (C := "MarshCourt$Bank") (T := q_F0) (N := 10) hx hb hts ((q_clOK0 0 _ rfl).1) q_H0 q_clt0 q_cln0 hown hK hP hD hS 0 rfl rfl 8 (by decide) (hts _ zw_199) (fun _ h9 => h9) rfl hin rfl (q_clt0 8 (by decide)) rfl rfl (Nat.le_of_ble_eq_true rfl) e_Bank_73 (fun H locs hP hD hS => ?_)
  have hP : va_P D q_cl ([(h0, .inr (0, [.ref q7, .ref q15, .ref q23, .ref q31, .ref q39, .ref q47, .ref q55, .ref q63, .ref q71, .int 0])), (q7, z_ia tI 24), (q15, z_ia tI 24), (q23, z_ia tI 24), (q31, z_ia tI 24), (q39, z_ia tI 24), (q47, z_ia tI 24), (q55, z_ia tI 24), (q63, z_ia tI 24), (q71, z_ia tI 8)]) H := hP
  have hD : va_D A ([(h0, .inr (0, [.ref q7, .ref q15, .ref q23, .ref q31, .ref q39, .ref q47, .ref q55, .ref q63, .ref q71, .int 0])), (q7, z_ia tI 24), (q15, z_ia tI 24), (q23, z_ia tI 24), (q31, z_ia tI 24), (q39, z_ia tI 24), (q47, z_ia tI 24), (q55, z_ia tI 24), (q63, z_ia tI 24), (q71, z_ia tI 8)]) := hD
  refine W.widen (k := 9) (n := 200) (Nat.le_of_ble_eq_true rfl) (Nat.le_of_ble_eq_true rfl) ?_
  exact W.vret hx hb hr (fun t ht hW => ⟨⟨[q7, q15, q23, q31, q39, q47, q55, q63, q71], rfl, trivial, by rw [ht]; exact hP, va_K.moved hW.alike hK, hD⟩, hS.F ht⟩) hS.2.2 e_Bank_76

def z_Herds (tI tZ _tJ _tQ : ClassId) (h0 : Nat) (u : List Nat) : va_W := [(h0, .inr (4, [.ref (u.getD 0 0), .ref (u.getD 1 0), .int 0])), ((u.getD 0 0), z_ia tI 6), ((u.getD 1 0), z_ia tZ 6)]
set_option maxHeartbeats 8000000 in
set_option maxRecDepth 100000 in
theorem c_Herds_init (l : Launch) (D : va_G) (tI tZ tJ tQ : ClassId) (h0 sz : Nat) : Met l ⟨"MarshCourt$Herds", "<init>", "()V"⟩ (z_w ⟨"MarshCourt$Herds", "<init>", "()V"⟩ prog_6_method_1_code 1) ({ frames := 1, cells := 2, slots := 12, locals := 12 }) (va_Pc [.ref h0] (z_B D (z_t tI tZ tJ tQ) [(h0, .inr (4, [.null, .null, .int 0]))] sz)) (va_Qv (fun _ : List Nat => True) (fun u t => z_E D (z_t tI tZ tJ tQ) (va_A [(h0, .inr (4, [.null, .null, .int 0]))] sz) (z_Herds tI tZ tJ tQ h0 u) t) (va_A [(h0, .inr (4, [.null, .null, .int 0]))] sz)) 2 12 (va_A [(h0, .inr (4, [.null, .null, .int 0]))] sz) := by
  refine Met.ofW (cc := prog_6_method_1_code) (maxL := 1) (ret := none) (by decide) rfl ?_
  intro p e s m args below meth c s₁ B hml hv
  obtain ⟨rfl, hsz, hP, hK, hD0, hN, hO⟩ := hv
  have hx := B.exec
  have hb := B.bytes
  have hr := B.returns
  have hts0 := atoms_spec (ws := z_w ⟨"MarshCourt$Herds", "<init>", "()V"⟩ prog_6_method_1_code 1) B.pre
  have hts : ∀ w ∈ q_gw q_T0, w.before _ s = true := fun w hw => hts0 w (List.mem_cons_of_mem _ hw)
  have hown : s.vm.findClass "MarshCourt$Herds" = some m.cls := findClass_of_methodNamed B.named
  have hlocks := B.notSynchronized
  have hin : meth.name = "<init>" := (name_of_methodNamed B.named B.method).1
  subst hsz
  have hD := hD0.self (sz := s.heap.size)
  generalize hAe : va_A [(h0, .inr (4, [.null, .null, .int 0]))] s.heap.size = A at hD ⊢
  have hA : ∀ q : Nat, s.heap.size ≤ q → A q := fun q h => by rw [← hAe]; exact Or.inr h
  have hS : va_S A s.heap s.heap [] := va_S.rf
  have hl := lv_entry ([.ref h0]) (n := 1) (Nat.le_of_ble_eq_true rfl)
  rw [lg_entry_eq]
  generalize (lg_sl ([.ref h0]) ++ List.replicate (1 - (lg_sl ([.ref h0])).length) Slot.unset).toArray = ls at hl ⊢
  have hl : lv_has ls 1 [(0, .ref h0)] := hl
  refine lv_aload_n hx hb e_Herds_0 rfl (lv_at hl 0 rfl) ?_
  refine W.objInit hx hb hown (hts _ zw_230) (hts _ zw_87) (hts _ zw_88) rfl (by rw [hml]; exact hl.1) rfl e_Herds_1 (Nat.le_of_ble_eq_true rfl) (Nat.le_of_ble_eq_true rfl) ?_
  refine W.eq (g2 := F0 m 4 ls []) rfl ?_
  refine lv_aload_n hx hb e_Herds_4 rfl (lv_at hl 0 rfl) ?_
  refine lv_bipush (v := 6) hx hb e_Herds_5 (by decide) ?_
  refine z_newa (atype := .int) (N' := 6) hx hb (hts _ zw_130) rfl (fun _ h => by cases h) hK 0 rfl hP hD hS hA (fun cA => z_hia cA 6) (by decide) (by decide) (by decide) (Nat.le_of_ble_eq_true rfl) (Nat.le_of_ble_eq_true rfl) e_Herds_7 (fun q7 H hP hD hS => ?_)
  refine W.widen (k := 1) (n := 6) (Nat.le_of_ble_eq_true rfl) (Nat.le_of_ble_eq_true rfl) ?_
  refine va_putF (D := D) (ci := 4) (v := .ref q7) (C := "MarshCourt$Herds") (T := q_F4) (N := 3) hx hb hts ((q_clOK0 4 _ rfl).1) q_H4 q_clt4 q_cln4 hown hK hP hD hS 0 rfl rfl 0 (by decide) (hts _ zw_231) (fun _ h9 => h9) rfl hin rfl (q_clt4 0 (by decide)) rfl rfl (Nat.le_of_ble_eq_true rfl) e_Herds_9 (fun H locs hP hD hS => ?_)
  have hP : va_P D q_cl ([(h0, .inr (4, [.ref q7, .null, .int 0])), (q7, z_ia tI 6)]) H := hP
  have hD : va_D A ([(h0, .inr (4, [.ref q7, .null, .int 0])), (q7, z_ia tI 6)]) := hD
  refine lv_aload_n hx hb e_Herds_12 rfl (lv_at hl 0 rfl) ?_
  refine lv_bipush (v := 6) hx hb e_Herds_13 (by decide) ?_
  refine z_newa (atype := .boolean) (N' := 6) hx hb (hts _ zw_131) rfl (fun _ h => by cases h) hK 1 rfl hP hD hS hA (fun cA => z_hza cA 6) (by decide) (by decide) (by decide) (Nat.le_of_ble_eq_true rfl) (Nat.le_of_ble_eq_true rfl) e_Herds_15 (fun q15 H hP hD hS => ?_)
  refine W.widen (k := 2) (n := 12) (Nat.le_of_ble_eq_true rfl) (Nat.le_of_ble_eq_true rfl) ?_
  refine va_putF (D := D) (ci := 4) (v := .ref q15) (C := "MarshCourt$Herds") (T := q_F4) (N := 3) hx hb hts ((q_clOK0 4 _ rfl).1) q_H4 q_clt4 q_cln4 hown hK hP hD hS 0 rfl rfl 1 (by decide) (hts _ zw_233) (fun _ h9 => h9) rfl hin rfl (q_clt4 1 (by decide)) rfl rfl (Nat.le_of_ble_eq_true rfl) e_Herds_17 (fun H locs hP hD hS => ?_)
  have hP : va_P D q_cl ([(h0, .inr (4, [.ref q7, .ref q15, .int 0])), (q7, z_ia tI 6), (q15, z_ia tZ 6)]) H := hP
  have hD : va_D A ([(h0, .inr (4, [.ref q7, .ref q15, .int 0])), (q7, z_ia tI 6), (q15, z_ia tZ 6)]) := hD
  refine W.widen (k := 2) (n := 12) (Nat.le_of_ble_eq_true rfl) (Nat.le_of_ble_eq_true rfl) ?_
  exact W.vret hx hb hr (fun t ht hW => ⟨⟨[q7, q15], rfl, trivial, by rw [ht]; exact hP, va_K.moved hW.alike hK, hD⟩, hS.F ht⟩) hS.2.2 e_Herds_20

def z_Ways (tI _tZ _tJ _tQ : ClassId) (h0 : Nat) (u : List Nat) : va_W := [(h0, .inr (10, [.ref (u.getD 0 0), .int 0, .int 0, .int 0, .int 0])), ((u.getD 0 0), z_ia tI 30)]
set_option maxHeartbeats 8000000 in
set_option maxRecDepth 100000 in
theorem c_Ways_init (l : Launch) (D : va_G) (tI tZ tJ tQ : ClassId) (h0 sz : Nat) : Met l ⟨"MarshCourt$Ways", "<init>", "()V"⟩ (z_w ⟨"MarshCourt$Ways", "<init>", "()V"⟩ prog_12_method_1_code 1) ({ frames := 1, cells := 1, slots := 30, locals := 12 }) (va_Pc [.ref h0] (z_B D (z_t tI tZ tJ tQ) [(h0, .inr (10, [.null, .int 0, .int 0, .int 0, .int 0]))] sz)) (va_Qv (fun _ : List Nat => True) (fun u t => z_E D (z_t tI tZ tJ tQ) (va_A [(h0, .inr (10, [.null, .int 0, .int 0, .int 0, .int 0]))] sz) (z_Ways tI tZ tJ tQ h0 u) t) (va_A [(h0, .inr (10, [.null, .int 0, .int 0, .int 0, .int 0]))] sz)) 1 30 (va_A [(h0, .inr (10, [.null, .int 0, .int 0, .int 0, .int 0]))] sz) := by
  refine Met.ofW (cc := prog_12_method_1_code) (maxL := 1) (ret := none) (by decide) rfl ?_
  intro p e s m args below meth c s₁ B hml hv
  obtain ⟨rfl, hsz, hP, hK, hD0, hN, hO⟩ := hv
  have hx := B.exec
  have hb := B.bytes
  have hr := B.returns
  have hts0 := atoms_spec (ws := z_w ⟨"MarshCourt$Ways", "<init>", "()V"⟩ prog_12_method_1_code 1) B.pre
  have hts : ∀ w ∈ q_gw q_T0, w.before _ s = true := fun w hw => hts0 w (List.mem_cons_of_mem _ hw)
  have hown : s.vm.findClass "MarshCourt$Ways" = some m.cls := findClass_of_methodNamed B.named
  have hlocks := B.notSynchronized
  have hin : meth.name = "<init>" := (name_of_methodNamed B.named B.method).1
  subst hsz
  have hD := hD0.self (sz := s.heap.size)
  generalize hAe : va_A [(h0, .inr (10, [.null, .int 0, .int 0, .int 0, .int 0]))] s.heap.size = A at hD ⊢
  have hA : ∀ q : Nat, s.heap.size ≤ q → A q := fun q h => by rw [← hAe]; exact Or.inr h
  have hS : va_S A s.heap s.heap [] := va_S.rf
  have hl := lv_entry ([.ref h0]) (n := 1) (Nat.le_of_ble_eq_true rfl)
  rw [lg_entry_eq]
  generalize (lg_sl ([.ref h0]) ++ List.replicate (1 - (lg_sl ([.ref h0])).length) Slot.unset).toArray = ls at hl ⊢
  have hl : lv_has ls 1 [(0, .ref h0)] := hl
  refine lv_aload_n hx hb e_Ways_0 rfl (lv_at hl 0 rfl) ?_
  refine W.objInit hx hb hown (hts _ zw_249) (hts _ zw_87) (hts _ zw_88) rfl (by rw [hml]; exact hl.1) rfl e_Ways_1 (Nat.le_of_ble_eq_true rfl) (Nat.le_of_ble_eq_true rfl) ?_
  refine W.eq (g2 := F0 m 4 ls []) rfl ?_
  refine lv_aload_n hx hb e_Ways_4 rfl (lv_at hl 0 rfl) ?_
  refine lv_bipush (v := 30) hx hb e_Ways_5 (by decide) ?_
  refine z_newa (atype := .int) (N' := 30) hx hb (hts _ zw_130) rfl (fun _ h => by cases h) hK 0 rfl hP hD hS hA (fun cA => z_hia cA 30) (by decide) (by decide) (by decide) (Nat.le_of_ble_eq_true rfl) (Nat.le_of_ble_eq_true rfl) e_Ways_7 (fun q7 H hP hD hS => ?_)
  refine W.widen (k := 1) (n := 30) (Nat.le_of_ble_eq_true rfl) (Nat.le_of_ble_eq_true rfl) ?_
  refine va_putF (D := D) (ci := 10) (v := .ref q7) (C := "MarshCourt$Ways") (T := q_F10) (N := 5) hx hb hts ((q_clOK0 10 _ rfl).1) q_H10 q_clt10 q_cln10 hown hK hP hD hS 0 rfl rfl 0 (by decide) (hts _ zw_250) (fun _ h9 => h9) rfl hin rfl (q_clt10 0 (by decide)) rfl rfl (Nat.le_of_ble_eq_true rfl) e_Ways_9 (fun H locs hP hD hS => ?_)
  have hP : va_P D q_cl ([(h0, .inr (10, [.ref q7, .int 0, .int 0, .int 0, .int 0])), (q7, z_ia tI 30)]) H := hP
  have hD : va_D A ([(h0, .inr (10, [.ref q7, .int 0, .int 0, .int 0, .int 0])), (q7, z_ia tI 30)]) := hD
  refine W.widen (k := 1) (n := 30) (Nat.le_of_ble_eq_true rfl) (Nat.le_of_ble_eq_true rfl) ?_
  exact W.vret hx hb hr (fun t ht hW => ⟨⟨[q7], rfl, trivial, by rw [ht]; exact hP, va_K.moved hW.alike hK, hD⟩, hS.F ht⟩) hS.2.2 e_Ways_12

def z_Tape (tI _tZ _tJ _tQ : ClassId) (h0 : Nat) (u : List Nat) : va_W := [(h0, .inr (9, [.ref (u.getD 0 0), .int 0, .int 0])), ((u.getD 0 0), z_ia tI 160)]
set_option maxHeartbeats 8000000 in
set_option maxRecDepth 100000 in
theorem c_Tape_init (l : Launch) (D : va_G) (tI tZ tJ tQ : ClassId) (h0 sz : Nat) : Met l ⟨"MarshCourt$Tape", "<init>", "()V"⟩ (z_w ⟨"MarshCourt$Tape", "<init>", "()V"⟩ prog_11_method_1_code 1) ({ frames := 1, cells := 1, slots := 160, locals := 12 }) (va_Pc [.ref h0] (z_B D (z_t tI tZ tJ tQ) [(h0, .inr (9, [.null, .int 0, .int 0]))] sz)) (va_Qv (fun _ : List Nat => True) (fun u t => z_E D (z_t tI tZ tJ tQ) (va_A [(h0, .inr (9, [.null, .int 0, .int 0]))] sz) (z_Tape tI tZ tJ tQ h0 u) t) (va_A [(h0, .inr (9, [.null, .int 0, .int 0]))] sz)) 1 160 (va_A [(h0, .inr (9, [.null, .int 0, .int 0]))] sz) := by
  refine Met.ofW (cc := prog_11_method_1_code) (maxL := 1) (ret := none) (by decide) rfl ?_
  intro p e s m args below meth c s₁ B hml hv
  obtain ⟨rfl, hsz, hP, hK, hD0, hN, hO⟩ := hv
  have hx := B.exec
  have hb := B.bytes
  have hr := B.returns
  have hts0 := atoms_spec (ws := z_w ⟨"MarshCourt$Tape", "<init>", "()V"⟩ prog_11_method_1_code 1) B.pre
  have hts : ∀ w ∈ q_gw q_T0, w.before _ s = true := fun w hw => hts0 w (List.mem_cons_of_mem _ hw)
  have hown : s.vm.findClass "MarshCourt$Tape" = some m.cls := findClass_of_methodNamed B.named
  have hlocks := B.notSynchronized
  have hin : meth.name = "<init>" := (name_of_methodNamed B.named B.method).1
  subst hsz
  have hD := hD0.self (sz := s.heap.size)
  generalize hAe : va_A [(h0, .inr (9, [.null, .int 0, .int 0]))] s.heap.size = A at hD ⊢
  have hA : ∀ q : Nat, s.heap.size ≤ q → A q := fun q h => by rw [← hAe]; exact Or.inr h
  have hS : va_S A s.heap s.heap [] := va_S.rf
  have hl := lv_entry ([.ref h0]) (n := 1) (Nat.le_of_ble_eq_true rfl)
  rw [lg_entry_eq]
  generalize (lg_sl ([.ref h0]) ++ List.replicate (1 - (lg_sl ([.ref h0])).length) Slot.unset).toArray = ls at hl ⊢
  have hl : lv_has ls 1 [(0, .ref h0)] := hl
  refine lv_aload_n hx hb e_Tape_0 rfl (lv_at hl 0 rfl) ?_
  refine W.objInit hx hb hown (hts _ zw_275) (hts _ zw_87) (hts _ zw_88) rfl (by rw [hml]; exact hl.1) rfl e_Tape_1 (Nat.le_of_ble_eq_true rfl) (Nat.le_of_ble_eq_true rfl) ?_
  refine W.eq (g2 := F0 m 4 ls []) rfl ?_
  refine lv_aload_n hx hb e_Tape_4 rfl (lv_at hl 0 rfl) ?_
  refine lv_sipush (v := 160) hx hb e_Tape_5 (by decide) ?_
  refine z_newa (atype := .int) (N' := 160) hx hb (hts _ zw_130) rfl (fun _ h => by cases h) hK 0 rfl hP hD hS hA (fun cA => z_hia cA 160) (by decide) (by decide) (by decide) (Nat.le_of_ble_eq_true rfl) (Nat.le_of_ble_eq_true rfl) e_Tape_8 (fun q8 H hP hD hS => ?_)
  refine W.widen (k := 1) (n := 160) (Nat.le_of_ble_eq_true rfl) (Nat.le_of_ble_eq_true rfl) ?_
  refine va_putF (D := D) (ci := 9) (v := .ref q8) (C := "MarshCourt$Tape") (T := q_F9) (N := 3) hx hb hts ((q_clOK0 9 _ rfl).1) q_H9 q_clt9 q_cln9 hown hK hP hD hS 0 rfl rfl 0 (by decide) (hts _ zw_276) (fun _ h9 => h9) rfl hin rfl (q_clt9 0 (by decide)) rfl rfl (Nat.le_of_ble_eq_true rfl) e_Tape_10 (fun H locs hP hD hS => ?_)
  have hP : va_P D q_cl ([(h0, .inr (9, [.ref q8, .int 0, .int 0])), (q8, z_ia tI 160)]) H := hP
  have hD : va_D A ([(h0, .inr (9, [.ref q8, .int 0, .int 0])), (q8, z_ia tI 160)]) := hD
  refine W.widen (k := 1) (n := 160) (Nat.le_of_ble_eq_true rfl) (Nat.le_of_ble_eq_true rfl) ?_
  exact W.vret hx hb hr (fun t ht hW => ⟨⟨[q8], rfl, trivial, by rw [ht]; exact hP, va_K.moved hW.alike hK, hD⟩, hS.F ht⟩) hS.2.2 e_Tape_13

def z_Custom (tI _tZ _tJ _tQ : ClassId) (h0 : Nat) (u : List Nat) : va_W := [(h0, .inr (2, [.int 0, .int 0, .int 0, .int 99, .int 0, .ref (u.getD 0 0), .ref (u.getD 1 0), .ref (u.getD 2 0), .int 0])), ((u.getD 0 0), z_ia tI 10), ((u.getD 1 0), z_ia tI 10), ((u.getD 2 0), z_ia tI 10)]
set_option maxHeartbeats 8000000 in
set_option maxRecDepth 100000 in
theorem c_Custom_init (l : Launch) (D : va_G) (tI tZ tJ tQ : ClassId) (h0 sz : Nat) : Met l ⟨"MarshCourt$Custom", "<init>", "()V"⟩ (z_w ⟨"MarshCourt$Custom", "<init>", "()V"⟩ prog_4_method_1_code 1) ({ frames := 1, cells := 3, slots := 30, locals := 12 }) (va_Pc [.ref h0] (z_B D (z_t tI tZ tJ tQ) [(h0, .inr (2, [.int 0, .int 0, .int 0, .int 0, .int 0, .null, .null, .null, .int 0]))] sz)) (va_Qv (fun _ : List Nat => True) (fun u t => z_E D (z_t tI tZ tJ tQ) (va_A [(h0, .inr (2, [.int 0, .int 0, .int 0, .int 0, .int 0, .null, .null, .null, .int 0]))] sz) (z_Custom tI tZ tJ tQ h0 u) t) (va_A [(h0, .inr (2, [.int 0, .int 0, .int 0, .int 0, .int 0, .null, .null, .null, .int 0]))] sz)) 3 30 (va_A [(h0, .inr (2, [.int 0, .int 0, .int 0, .int 0, .int 0, .null, .null, .null, .int 0]))] sz) := by
  refine Met.ofW (cc := prog_4_method_1_code) (maxL := 1) (ret := none) (by decide) rfl ?_
  intro p e s m args below meth c s₁ B hml hv
  obtain ⟨rfl, hsz, hP, hK, hD0, hN, hO⟩ := hv
  have hx := B.exec
  have hb := B.bytes
  have hr := B.returns
  have hts0 := atoms_spec (ws := z_w ⟨"MarshCourt$Custom", "<init>", "()V"⟩ prog_4_method_1_code 1) B.pre
  have hts : ∀ w ∈ q_gw q_T0, w.before _ s = true := fun w hw => hts0 w (List.mem_cons_of_mem _ hw)
  have hown : s.vm.findClass "MarshCourt$Custom" = some m.cls := findClass_of_methodNamed B.named
  have hlocks := B.notSynchronized
  have hin : meth.name = "<init>" := (name_of_methodNamed B.named B.method).1
  subst hsz
  have hD := hD0.self (sz := s.heap.size)
  generalize hAe : va_A [(h0, .inr (2, [.int 0, .int 0, .int 0, .int 0, .int 0, .null, .null, .null, .int 0]))] s.heap.size = A at hD ⊢
  have hA : ∀ q : Nat, s.heap.size ≤ q → A q := fun q h => by rw [← hAe]; exact Or.inr h
  have hS : va_S A s.heap s.heap [] := va_S.rf
  have hl := lv_entry ([.ref h0]) (n := 1) (Nat.le_of_ble_eq_true rfl)
  rw [lg_entry_eq]
  generalize (lg_sl ([.ref h0]) ++ List.replicate (1 - (lg_sl ([.ref h0])).length) Slot.unset).toArray = ls at hl ⊢
  have hl : lv_has ls 1 [(0, .ref h0)] := hl
  refine lv_aload_n hx hb e_Custom_0 rfl (lv_at hl 0 rfl) ?_
  refine W.objInit hx hb hown (hts _ zw_300) (hts _ zw_87) (hts _ zw_88) rfl (by rw [hml]; exact hl.1) rfl e_Custom_1 (Nat.le_of_ble_eq_true rfl) (Nat.le_of_ble_eq_true rfl) ?_
  refine W.eq (g2 := F0 m 4 ls []) rfl ?_
  refine lv_aload_n hx hb e_Custom_4 rfl (lv_at hl 0 rfl) ?_
  refine lv_bipush (v := 10) hx hb e_Custom_5 (by decide) ?_
  refine z_newa (atype := .int) (N' := 10) hx hb (hts _ zw_130) rfl (fun _ h => by cases h) hK 0 rfl hP hD hS hA (fun cA => z_hia cA 10) (by decide) (by decide) (by decide) (Nat.le_of_ble_eq_true rfl) (Nat.le_of_ble_eq_true rfl) e_Custom_7 (fun q7 H hP hD hS => ?_)
  refine W.widen (k := 1) (n := 10) (Nat.le_of_ble_eq_true rfl) (Nat.le_of_ble_eq_true rfl) ?_
  refine va_putF (D := D) (ci := 2) (v := .ref q7) (C := "MarshCourt$Custom") (T := q_F2) (N := 9) hx hb hts ((q_clOK0 2 _ rfl).1) q_H2 q_clt2 q_cln2 hown hK hP hD hS 0 rfl rfl 5 (by decide) (hts _ zw_315) (fun _ h9 => h9) rfl hin rfl (q_clt2 5 (by decide)) rfl rfl (Nat.le_of_ble_eq_true rfl) e_Custom_9 (fun H locs hP hD hS => ?_)
  have hP : va_P D q_cl ([(h0, .inr (2, [.int 0, .int 0, .int 0, .int 0, .int 0, .ref q7, .null, .null, .int 0])), (q7, z_ia tI 10)]) H := hP
  have hD : va_D A ([(h0, .inr (2, [.int 0, .int 0, .int 0, .int 0, .int 0, .ref q7, .null, .null, .int 0])), (q7, z_ia tI 10)]) := hD
  refine lv_aload_n hx hb e_Custom_12 rfl (lv_at hl 0 rfl) ?_
  refine lv_bipush (v := 10) hx hb e_Custom_13 (by decide) ?_
  refine z_newa (atype := .int) (N' := 10) hx hb (hts _ zw_130) rfl (fun _ h => by cases h) hK 0 rfl hP hD hS hA (fun cA => z_hia cA 10) (by decide) (by decide) (by decide) (Nat.le_of_ble_eq_true rfl) (Nat.le_of_ble_eq_true rfl) e_Custom_15 (fun q15 H hP hD hS => ?_)
  refine W.widen (k := 2) (n := 20) (Nat.le_of_ble_eq_true rfl) (Nat.le_of_ble_eq_true rfl) ?_
  refine va_putF (D := D) (ci := 2) (v := .ref q15) (C := "MarshCourt$Custom") (T := q_F2) (N := 9) hx hb hts ((q_clOK0 2 _ rfl).1) q_H2 q_clt2 q_cln2 hown hK hP hD hS 0 rfl rfl 6 (by decide) (hts _ zw_317) (fun _ h9 => h9) rfl hin rfl (q_clt2 6 (by decide)) rfl rfl (Nat.le_of_ble_eq_true rfl) e_Custom_17 (fun H locs hP hD hS => ?_)
  have hP : va_P D q_cl ([(h0, .inr (2, [.int 0, .int 0, .int 0, .int 0, .int 0, .ref q7, .ref q15, .null, .int 0])), (q7, z_ia tI 10), (q15, z_ia tI 10)]) H := hP
  have hD : va_D A ([(h0, .inr (2, [.int 0, .int 0, .int 0, .int 0, .int 0, .ref q7, .ref q15, .null, .int 0])), (q7, z_ia tI 10), (q15, z_ia tI 10)]) := hD
  refine lv_aload_n hx hb e_Custom_20 rfl (lv_at hl 0 rfl) ?_
  refine lv_bipush (v := 10) hx hb e_Custom_21 (by decide) ?_
  refine z_newa (atype := .int) (N' := 10) hx hb (hts _ zw_130) rfl (fun _ h => by cases h) hK 0 rfl hP hD hS hA (fun cA => z_hia cA 10) (by decide) (by decide) (by decide) (Nat.le_of_ble_eq_true rfl) (Nat.le_of_ble_eq_true rfl) e_Custom_23 (fun q23 H hP hD hS => ?_)
  refine W.widen (k := 3) (n := 30) (Nat.le_of_ble_eq_true rfl) (Nat.le_of_ble_eq_true rfl) ?_
  refine va_putF (D := D) (ci := 2) (v := .ref q23) (C := "MarshCourt$Custom") (T := q_F2) (N := 9) hx hb hts ((q_clOK0 2 _ rfl).1) q_H2 q_clt2 q_cln2 hown hK hP hD hS 0 rfl rfl 7 (by decide) (hts _ zw_319) (fun _ h9 => h9) rfl hin rfl (q_clt2 7 (by decide)) rfl rfl (Nat.le_of_ble_eq_true rfl) e_Custom_25 (fun H locs hP hD hS => ?_)
  have hP : va_P D q_cl ([(h0, .inr (2, [.int 0, .int 0, .int 0, .int 0, .int 0, .ref q7, .ref q15, .ref q23, .int 0])), (q7, z_ia tI 10), (q15, z_ia tI 10), (q23, z_ia tI 10)]) H := hP
  have hD : va_D A ([(h0, .inr (2, [.int 0, .int 0, .int 0, .int 0, .int 0, .ref q7, .ref q15, .ref q23, .int 0])), (q7, z_ia tI 10), (q15, z_ia tI 10), (q23, z_ia tI 10)]) := hD
  refine lv_aload_n hx hb e_Custom_28 rfl (lv_at hl 0 rfl) ?_
  refine lv_bipush (v := 99) hx hb e_Custom_29 (by decide) ?_
  refine va_put (D := D) (ci := 2) (v := .int 99) (C := "MarshCourt$Custom") (T := q_F2) (N := 9) hx hb hts ((q_clOK0 2 _ rfl).1) q_H2 q_clt2 q_cln2 hown hK hP hD hS 0 rfl rfl 3 (by decide) (hts _ zw_310) (fun _ h9 => h9) rfl (q_clt2 3 (by decide)) rfl rfl (Nat.le_of_ble_eq_true rfl) e_Custom_31 (fun H locs hP hD hS => ?_)
  have hP : va_P D q_cl ([(h0, .inr (2, [.int 0, .int 0, .int 0, .int 99, .int 0, .ref q7, .ref q15, .ref q23, .int 0])), (q7, z_ia tI 10), (q15, z_ia tI 10), (q23, z_ia tI 10)]) H := hP
  have hD : va_D A ([(h0, .inr (2, [.int 0, .int 0, .int 0, .int 99, .int 0, .ref q7, .ref q15, .ref q23, .int 0])), (q7, z_ia tI 10), (q15, z_ia tI 10), (q23, z_ia tI 10)]) := hD
  refine W.widen (k := 3) (n := 30) (Nat.le_of_ble_eq_true rfl) (Nat.le_of_ble_eq_true rfl) ?_
  exact W.vret hx hb hr (fun t ht hW => ⟨⟨[q7, q15, q23], rfl, trivial, by rw [ht]; exact hP, va_K.moved hW.alike hK, hD⟩, hS.F ht⟩) hS.2.2 e_Custom_34

def z_Plan (_tI _tZ tJ _tQ : ClassId) (h0 : Nat) (u : List Nat) : va_W := [(h0, .inr (6, [.ref (u.getD 0 0), .ref (u.getD 1 0), .ref (u.getD 2 0), .int 0, .int 0, .int 0])), ((u.getD 0 0), z_la tJ 201), ((u.getD 1 0), z_la tJ 201), ((u.getD 2 0), z_la tJ 201)]
set_option maxHeartbeats 8000000 in
set_option maxRecDepth 100000 in
theorem c_Plan_init (l : Launch) (D : va_G) (tI tZ tJ tQ : ClassId) (h0 sz : Nat) : Met l ⟨"MarshCourt$Plan", "<init>", "()V"⟩ (z_w ⟨"MarshCourt$Plan", "<init>", "()V"⟩ prog_8_method_1_code 1) ({ frames := 1, cells := 3, slots := 603, locals := 12 }) (va_Pc [.ref h0] (z_B D (z_t tI tZ tJ tQ) [(h0, .inr (6, [.null, .null, .null, .int 0, .int 0, .int 0]))] sz)) (va_Qv (fun _ : List Nat => True) (fun u t => z_E D (z_t tI tZ tJ tQ) (va_A [(h0, .inr (6, [.null, .null, .null, .int 0, .int 0, .int 0]))] sz) (z_Plan tI tZ tJ tQ h0 u) t) (va_A [(h0, .inr (6, [.null, .null, .null, .int 0, .int 0, .int 0]))] sz)) 3 603 (va_A [(h0, .inr (6, [.null, .null, .null, .int 0, .int 0, .int 0]))] sz) := by
  refine Met.ofW (cc := prog_8_method_1_code) (maxL := 1) (ret := none) (by decide) rfl ?_
  intro p e s m args below meth c s₁ B hml hv
  obtain ⟨rfl, hsz, hP, hK, hD0, hN, hO⟩ := hv
  have hx := B.exec
  have hb := B.bytes
  have hr := B.returns
  have hts0 := atoms_spec (ws := z_w ⟨"MarshCourt$Plan", "<init>", "()V"⟩ prog_8_method_1_code 1) B.pre
  have hts : ∀ w ∈ q_gw q_T0, w.before _ s = true := fun w hw => hts0 w (List.mem_cons_of_mem _ hw)
  have hown : s.vm.findClass "MarshCourt$Plan" = some m.cls := findClass_of_methodNamed B.named
  have hlocks := B.notSynchronized
  have hin : meth.name = "<init>" := (name_of_methodNamed B.named B.method).1
  subst hsz
  have hD := hD0.self (sz := s.heap.size)
  generalize hAe : va_A [(h0, .inr (6, [.null, .null, .null, .int 0, .int 0, .int 0]))] s.heap.size = A at hD ⊢
  have hA : ∀ q : Nat, s.heap.size ≤ q → A q := fun q h => by rw [← hAe]; exact Or.inr h
  have hS : va_S A s.heap s.heap [] := va_S.rf
  have hl := lv_entry ([.ref h0]) (n := 1) (Nat.le_of_ble_eq_true rfl)
  rw [lg_entry_eq]
  generalize (lg_sl ([.ref h0]) ++ List.replicate (1 - (lg_sl ([.ref h0])).length) Slot.unset).toArray = ls at hl ⊢
  have hl : lv_has ls 1 [(0, .ref h0)] := hl
  refine lv_aload_n hx hb e_Plan_0 rfl (lv_at hl 0 rfl) ?_
  refine W.objInit hx hb hown (hts _ zw_397) (hts _ zw_87) (hts _ zw_88) rfl (by rw [hml]; exact hl.1) rfl e_Plan_1 (Nat.le_of_ble_eq_true rfl) (Nat.le_of_ble_eq_true rfl) ?_
  refine W.eq (g2 := F0 m 4 ls []) rfl ?_
  refine lv_aload_n hx hb e_Plan_4 rfl (lv_at hl 0 rfl) ?_
  refine lv_sipush (v := 201) hx hb e_Plan_5 (by decide) ?_
  refine z_newa (atype := .long) (N' := 201) hx hb (hts _ zw_420) rfl (fun _ h => by cases h) hK 2 rfl hP hD hS hA (fun cA => z_hla cA 201) (by decide) (by decide) (by decide) (Nat.le_of_ble_eq_true rfl) (Nat.le_of_ble_eq_true rfl) e_Plan_8 (fun q8 H hP hD hS => ?_)
  refine W.widen (k := 1) (n := 201) (Nat.le_of_ble_eq_true rfl) (Nat.le_of_ble_eq_true rfl) ?_
  refine va_putF (D := D) (ci := 6) (v := .ref q8) (C := "MarshCourt$Plan") (T := q_F6) (N := 6) hx hb hts ((q_clOK0 6 _ rfl).1) q_H6 q_clt6 q_cln6 hown hK hP hD hS 0 rfl rfl 0 (by decide) (hts _ zw_398) (fun _ h9 => h9) rfl hin rfl (q_clt6 0 (by decide)) rfl rfl (Nat.le_of_ble_eq_true rfl) e_Plan_10 (fun H locs hP hD hS => ?_)
  have hP : va_P D q_cl ([(h0, .inr (6, [.ref q8, .null, .null, .int 0, .int 0, .int 0])), (q8, z_la tJ 201)]) H := hP
  have hD : va_D A ([(h0, .inr (6, [.ref q8, .null, .null, .int 0, .int 0, .int 0])), (q8, z_la tJ 201)]) := hD
  refine lv_aload_n hx hb e_Plan_13 rfl (lv_at hl 0 rfl) ?_
  refine lv_sipush (v := 201) hx hb e_Plan_14 (by decide) ?_
  refine z_newa (atype := .long) (N' := 201) hx hb (hts _ zw_420) rfl (fun _ h => by cases h) hK 2 rfl hP hD hS hA (fun cA => z_hla cA 201) (by decide) (by decide) (by decide) (Nat.le_of_ble_eq_true rfl) (Nat.le_of_ble_eq_true rfl) e_Plan_17 (fun q17 H hP hD hS => ?_)
  refine W.widen (k := 2) (n := 402) (Nat.le_of_ble_eq_true rfl) (Nat.le_of_ble_eq_true rfl) ?_
  refine va_putF (D := D) (ci := 6) (v := .ref q17) (C := "MarshCourt$Plan") (T := q_F6) (N := 6) hx hb hts ((q_clOK0 6 _ rfl).1) q_H6 q_clt6 q_cln6 hown hK hP hD hS 0 rfl rfl 1 (by decide) (hts _ zw_399) (fun _ h9 => h9) rfl hin rfl (q_clt6 1 (by decide)) rfl rfl (Nat.le_of_ble_eq_true rfl) e_Plan_19 (fun H locs hP hD hS => ?_)
  have hP : va_P D q_cl ([(h0, .inr (6, [.ref q8, .ref q17, .null, .int 0, .int 0, .int 0])), (q8, z_la tJ 201), (q17, z_la tJ 201)]) H := hP
  have hD : va_D A ([(h0, .inr (6, [.ref q8, .ref q17, .null, .int 0, .int 0, .int 0])), (q8, z_la tJ 201), (q17, z_la tJ 201)]) := hD
  refine lv_aload_n hx hb e_Plan_22 rfl (lv_at hl 0 rfl) ?_
  refine lv_sipush (v := 201) hx hb e_Plan_23 (by decide) ?_
  refine z_newa (atype := .long) (N' := 201) hx hb (hts _ zw_420) rfl (fun _ h => by cases h) hK 2 rfl hP hD hS hA (fun cA => z_hla cA 201) (by decide) (by decide) (by decide) (Nat.le_of_ble_eq_true rfl) (Nat.le_of_ble_eq_true rfl) e_Plan_26 (fun q26 H hP hD hS => ?_)
  refine W.widen (k := 3) (n := 603) (Nat.le_of_ble_eq_true rfl) (Nat.le_of_ble_eq_true rfl) ?_
  refine va_putF (D := D) (ci := 6) (v := .ref q26) (C := "MarshCourt$Plan") (T := q_F6) (N := 6) hx hb hts ((q_clOK0 6 _ rfl).1) q_H6 q_clt6 q_cln6 hown hK hP hD hS 0 rfl rfl 2 (by decide) (hts _ zw_400) (fun _ h9 => h9) rfl hin rfl (q_clt6 2 (by decide)) rfl rfl (Nat.le_of_ble_eq_true rfl) e_Plan_28 (fun H locs hP hD hS => ?_)
  have hP : va_P D q_cl ([(h0, .inr (6, [.ref q8, .ref q17, .ref q26, .int 0, .int 0, .int 0])), (q8, z_la tJ 201), (q17, z_la tJ 201), (q26, z_la tJ 201)]) H := hP
  have hD : va_D A ([(h0, .inr (6, [.ref q8, .ref q17, .ref q26, .int 0, .int 0, .int 0])), (q8, z_la tJ 201), (q17, z_la tJ 201), (q26, z_la tJ 201)]) := hD
  refine W.widen (k := 3) (n := 603) (Nat.le_of_ble_eq_true rfl) (Nat.le_of_ble_eq_true rfl) ?_
  exact W.vret hx hb hr (fun t ht hW => ⟨⟨[q8, q17, q26], rfl, trivial, by rw [ht]; exact hP, va_K.moved hW.alike hK, hD⟩, hS.F ht⟩) hS.2.2 e_Plan_31

def z_fl : Nat → Nat → Int32
  | 0 => fun _ => Int32.ofInt 0
  | n + 1 => upd (z_fl n) n (-1)
abbrev z_f24 : Nat → Int32 := z_fl 24
set_option maxHeartbeats 8000000 in
set_option maxRecDepth 100000 in
theorem c_fill_init (l : Launch) (D : va_G) (tI tZ tJ tQ : ClassId) (h0 sz : Nat) : Met l ⟨"java/util/Arrays", "fill", "([II)V"⟩ (z_w ⟨"java/util/Arrays", "fill", "([II)V"⟩ prog_19_method_103_code 4) ({ frames := 0, cells := 0, slots := 0, locals := 0 }) (va_Pc [.ref h0, .int (-1)] (z_B D (z_t tI tZ tJ tQ) [(h0, z_ia tI 24)] sz)) (va_Qv (fun _ : Unit => True) (fun _ t => z_E D (z_t tI tZ tJ tQ) (va_A [(h0, z_ia tI 24)] sz) [(h0, .inl (tI, 24, .inl z_f24))] t) (va_A [(h0, z_ia tI 24)] sz)) 0 0 (va_A [(h0, z_ia tI 24)] sz) := by
  refine Met.ofW (cc := prog_19_method_103_code) (maxL := 4) (ret := none) (by decide) rfl ?_
  intro p e s m args below meth c s₁ B hml hv
  obtain ⟨rfl, hsz, hP, hK, hD0, hN, hO⟩ := hv
  have hx := B.exec
  have hb := B.bytes
  have hr := B.returns
  have hlocks := B.notSynchronized
  subst hsz
  have hD := hD0.self (sz := s.heap.size)
  generalize hAe : va_A [(h0, z_ia tI 24)] s.heap.size = A at hD ⊢
  have hA : ∀ q : Nat, s.heap.size ≤ q → A q := fun q h => by rw [← hAe]; exact Or.inr h
  have hS : va_S A s.heap s.heap [] := va_S.rf
  have hP : va_P D q_cl [(h0, .inl (tI, 24, .inl (z_fl 0)))] s.heap := hP
  have hD : va_D A [(h0, .inl (tI, 24, .inl (z_fl 0)))] := hD
  have hl := lv_entry ([.ref h0, .int (-1)]) (n := 4) (Nat.le_of_ble_eq_true rfl)
  rw [lg_entry_eq]
  generalize (lg_sl ([.ref h0, .int (-1)]) ++ List.replicate (4 - (lg_sl ([.ref h0, .int (-1)])).length) Slot.unset).toArray = ls at hl ⊢
  have hl : lv_has ls 4 [(0, .ref h0), (1, .int (-1))] := hl
  refine lv_iconst (v := 0) hx hb e_fill_0 (by decide) ?_
  refine lv_istore_n (lv' := [(2, .int 0), (0, .ref h0), (1, .int (-1))]) hx hb e_fill_1 rfl hl (by decide) rfl (fun ls hl => ?_)
  refine lv_aload_n hx hb e_fill_2 rfl (lv_at hl 1 rfl) ?_
  refine va_alen (D := D) (v := 24) hx hb hK hP 0 0 rfl rfl rfl e_fill_3 ?_
  refine lv_istore_n (lv' := [(3, .int 24), (2, .int 0), (0, .ref h0), (1, .int (-1))]) hx hb e_fill_4 rfl hl (by decide) rfl (fun ls hl => ?_)
  refine lv_iload_n hx hb e_fill_5 rfl (lv_at hl 1 rfl) ?_
  refine lv_iload_n hx hb e_fill_6 rfl (lv_at hl 0 rfl) ?_
  refine lv_icmp_ge (tgt := 20) hx hb e_fill_7 rfl (fun h => absurd h (by decide)) (fun _ => ?_)
  refine lv_aload_n hx hb e_fill_10 rfl (lv_at hl 2 rfl) ?_
  refine lv_iload_n hx hb e_fill_11 rfl (lv_at hl 1 rfl) ?_
  refine lv_iload_n hx hb e_fill_12 rfl (lv_at hl 3 rfl) ?_
  refine va_iast (D := D) hx hb hK hP hD hS 0 0 rfl rfl (by unfold vp_in; decide) e_fill_13 (fun H locs hP hD hS => ?_)
  have hP : va_P D q_cl [(h0, .inl (tI, 24, .inl (z_fl 1)))] H := hP
  have hD : va_D A [(h0, .inl (tI, 24, .inl (z_fl 1)))] := hD
  refine lv_iinc (v := 1) (k := 1) (lv' := [(2, .int 1), (3, .int 24), (0, .ref h0), (1, .int (-1))]) hx hb e_fill_14 hl rfl (by decide) (by decide) rfl (fun ls hl => ?_)
  refine lv_goto (tgt := 5) hx hb e_fill_17 rfl ?_
  refine lv_iload_n hx hb e_fill_5 rfl (lv_at hl 0 rfl) ?_
  refine lv_iload_n hx hb e_fill_6 rfl (lv_at hl 1 rfl) ?_
  refine lv_icmp_ge (tgt := 20) hx hb e_fill_7 rfl (fun h => absurd h (by decide)) (fun _ => ?_)
  refine lv_aload_n hx hb e_fill_10 rfl (lv_at hl 2 rfl) ?_
  refine lv_iload_n hx hb e_fill_11 rfl (lv_at hl 0 rfl) ?_
  refine lv_iload_n hx hb e_fill_12 rfl (lv_at hl 3 rfl) ?_
  refine va_iast (D := D) hx hb hK hP hD hS 0 0 rfl rfl (by unfold vp_in; decide) e_fill_13 (fun H locs hP hD hS => ?_)
  have hP : va_P D q_cl [(h0, .inl (tI, 24, .inl (z_fl 2)))] H := hP
  have hD : va_D A [(h0, .inl (tI, 24, .inl (z_fl 2)))] := hD
  refine lv_iinc (v := 2) (k := 0) (lv' := [(2, .int 2), (3, .int 24), (0, .ref h0), (1, .int (-1))]) hx hb e_fill_14 hl rfl (by decide) (by decide) rfl (fun ls hl => ?_)
  refine lv_goto (tgt := 5) hx hb e_fill_17 rfl ?_
  refine lv_iload_n hx hb e_fill_5 rfl (lv_at hl 0 rfl) ?_
  refine lv_iload_n hx hb e_fill_6 rfl (lv_at hl 1 rfl) ?_
  refine lv_icmp_ge (tgt := 20) hx hb e_fill_7 rfl (fun h => absurd h (by decide)) (fun _ => ?_)
  refine lv_aload_n hx hb e_fill_10 rfl (lv_at hl 2 rfl) ?_
  refine lv_iload_n hx hb e_fill_11 rfl (lv_at hl 0 rfl) ?_
  refine lv_iload_n hx hb e_fill_12 rfl (lv_at hl 3 rfl) ?_
  refine va_iast (D := D) hx hb hK hP hD hS 0 0 rfl rfl (by unfold vp_in; decide) e_fill_13 (fun H locs hP hD hS => ?_)
  have hP : va_P D q_cl [(h0, .inl (tI, 24, .inl (z_fl 3)))] H := hP
  have hD : va_D A [(h0, .inl (tI, 24, .inl (z_fl 3)))] := hD
  refine lv_iinc (v := 3) (k := 0) (lv' := [(2, .int 3), (3, .int 24), (0, .ref h0), (1, .int (-1))]) hx hb e_fill_14 hl rfl (by decide) (by decide) rfl (fun ls hl => ?_)
  refine lv_goto (tgt := 5) hx hb e_fill_17 rfl ?_
  refine lv_iload_n hx hb e_fill_5 rfl (lv_at hl 0 rfl) ?_
  refine lv_iload_n hx hb e_fill_6 rfl (lv_at hl 1 rfl) ?_
  refine lv_icmp_ge (tgt := 20) hx hb e_fill_7 rfl (fun h => absurd h (by decide)) (fun _ => ?_)
  refine lv_aload_n hx hb e_fill_10 rfl (lv_at hl 2 rfl) ?_
  refine lv_iload_n hx hb e_fill_11 rfl (lv_at hl 0 rfl) ?_
  refine lv_iload_n hx hb e_fill_12 rfl (lv_at hl 3 rfl) ?_
  refine va_iast (D := D) hx hb hK hP hD hS 0 0 rfl rfl (by unfold vp_in; decide) e_fill_13 (fun H locs hP hD hS => ?_)
  have hP : va_P D q_cl [(h0, .inl (tI, 24, .inl (z_fl 4)))] H := hP
  have hD : va_D A [(h0, .inl (tI, 24, .inl (z_fl 4)))] := hD
  refine lv_iinc (v := 4) (k := 0) (lv' := [(2, .int 4), (3, .int 24), (0, .ref h0), (1, .int (-1))]) hx hb e_fill_14 hl rfl (by decide) (by decide) rfl (fun ls hl => ?_)
  refine lv_goto (tgt := 5) hx hb e_fill_17 rfl ?_
  refine lv_iload_n hx hb e_fill_5 rfl (lv_at hl 0 rfl) ?_
  refine lv_iload_n hx hb e_fill_6 rfl (lv_at hl 1 rfl) ?_
  refine lv_icmp_ge (tgt := 20) hx hb e_fill_7 rfl (fun h => absurd h (by decide)) (fun _ => ?_)
  refine lv_aload_n hx hb e_fill_10 rfl (lv_at hl 2 rfl) ?_
  refine lv_iload_n hx hb e_fill_11 rfl (lv_at hl 0 rfl) ?_
  refine lv_iload_n hx hb e_fill_12 rfl (lv_at hl 3 rfl) ?_
  refine va_iast (D := D) hx hb hK hP hD hS 0 0 rfl rfl (by unfold vp_in; decide) e_fill_13 (fun H locs hP hD hS => ?_)
  have hP : va_P D q_cl [(h0, .inl (tI, 24, .inl (z_fl 5)))] H := hP
  have hD : va_D A [(h0, .inl (tI, 24, .inl (z_fl 5)))] := hD
  refine lv_iinc (v := 5) (k := 0) (lv' := [(2, .int 5), (3, .int 24), (0, .ref h0), (1, .int (-1))]) hx hb e_fill_14 hl rfl (by decide) (by decide) rfl (fun ls hl => ?_)
  refine lv_goto (tgt := 5) hx hb e_fill_17 rfl ?_
  refine lv_iload_n hx hb e_fill_5 rfl (lv_at hl 0 rfl) ?_
  refine lv_iload_n hx hb e_fill_6 rfl (lv_at hl 1 rfl) ?_
  refine lv_icmp_ge (tgt := 20) hx hb e_fill_7 rfl (fun h => absurd h (by decide)) (fun _ => ?_)
  refine lv_aload_n hx hb e_fill_10 rfl (lv_at hl 2 rfl) ?_
  refine lv_iload_n hx hb e_fill_11 rfl (lv_at hl 0 rfl) ?_
  refine lv_iload_n hx hb e_fill_12 rfl (lv_at hl 3 rfl) ?_
  refine va_iast (D := D) hx hb hK hP hD hS 0 0 rfl rfl (by unfold vp_in; decide) e_fill_13 (fun H locs hP hD hS => ?_)
  have hP : va_P D q_cl [(h0, .inl (tI, 24, .inl (z_fl 6)))] H := hP
  have hD : va_D A [(h0, .inl (tI, 24, .inl (z_fl 6)))] := hD
  refine lv_iinc (v := 6) (k := 0) (lv' := [(2, .int 6), (3, .int 24), (0, .ref h0), (1, .int (-1))]) hx hb e_fill_14 hl rfl (by decide) (by decide) rfl (fun ls hl => ?_)
  refine lv_goto (tgt := 5) hx hb e_fill_17 rfl ?_
  refine lv_iload_n hx hb e_fill_5 rfl (lv_at hl 0 rfl) ?_
  refine lv_iload_n hx hb e_fill_6 rfl (lv_at hl 1 rfl) ?_
  refine lv_icmp_ge (tgt := 20) hx hb e_fill_7 rfl (fun h => absurd h (by decide)) (fun _ => ?_)
  refine lv_aload_n hx hb e_fill_10 rfl (lv_at hl 2 rfl) ?_
  refine lv_iload_n hx hb e_fill_11 rfl (lv_at hl 0 rfl) ?_
  refine lv_iload_n hx hb e_fill_12 rfl (lv_at hl 3 rfl) ?_
  refine va_iast (D := D) hx hb hK hP hD hS 0 0 rfl rfl (by unfold vp_in; decide) e_fill_13 (fun H locs hP hD hS => ?_)
  have hP : va_P D q_cl [(h0, .inl (tI, 24, .inl (z_fl 7)))] H := hP
  have hD : va_D A [(h0, .inl (tI, 24, .inl (z_fl 7)))] := hD
  refine lv_iinc (v := 7) (k := 0) (lv' := [(2, .int 7), (3, .int 24), (0, .ref h0), (1, .int (-1))]) hx hb e_fill_14 hl rfl (by decide) (by decide) rfl (fun ls hl => ?_)
  refine lv_goto (tgt := 5) hx hb e_fill_17 rfl ?_
  refine lv_iload_n hx hb e_fill_5 rfl (lv_at hl 0 rfl) ?_
  refine lv_iload_n hx hb e_fill_6 rfl (lv_at hl 1 rfl) ?_
  refine lv_icmp_ge (tgt := 20) hx hb e_fill_7 rfl (fun h => absurd h (by decide)) (fun _ => ?_)
  refine lv_aload_n hx hb e_fill_10 rfl (lv_at hl 2 rfl) ?_
  refine lv_iload_n hx hb e_fill_11 rfl (lv_at hl 0 rfl) ?_
  refine lv_iload_n hx hb e_fill_12 rfl (lv_at hl 3 rfl) ?_
  refine va_iast (D := D) hx hb hK hP hD hS 0 0 rfl rfl (by unfold vp_in; decide) e_fill_13 (fun H locs hP hD hS => ?_)
  have hP : va_P D q_cl [(h0, .inl (tI, 24, .inl (z_fl 8)))] H := hP
  have hD : va_D A [(h0, .inl (tI, 24, .inl (z_fl 8)))] := hD
  refine lv_iinc (v := 8) (k := 0) (lv' := [(2, .int 8), (3, .int 24), (0, .ref h0), (1, .int (-1))]) hx hb e_fill_14 hl rfl (by decide) (by decide) rfl (fun ls hl => ?_)
  refine lv_goto (tgt := 5) hx hb e_fill_17 rfl ?_
  refine lv_iload_n hx hb e_fill_5 rfl (lv_at hl 0 rfl) ?_
  refine lv_iload_n hx hb e_fill_6 rfl (lv_at hl 1 rfl) ?_
  refine lv_icmp_ge (tgt := 20) hx hb e_fill_7 rfl (fun h => absurd h (by decide)) (fun _ => ?_)
  refine lv_aload_n hx hb e_fill_10 rfl (lv_at hl 2 rfl) ?_
  refine lv_iload_n hx hb e_fill_11 rfl (lv_at hl 0 rfl) ?_
  refine lv_iload_n hx hb e_fill_12 rfl (lv_at hl 3 rfl) ?_
  refine va_iast (D := D) hx hb hK hP hD hS 0 0 rfl rfl (by unfold vp_in; decide) e_fill_13 (fun H locs hP hD hS => ?_)
  have hP : va_P D q_cl [(h0, .inl (tI, 24, .inl (z_fl 9)))] H := hP
  have hD : va_D A [(h0, .inl (tI, 24, .inl (z_fl 9)))] := hD
  refine lv_iinc (v := 9) (k := 0) (lv' := [(2, .int 9), (3, .int 24), (0, .ref h0), (1, .int (-1))]) hx hb e_fill_14 hl rfl (by decide) (by decide) rfl (fun ls hl => ?_)
  refine lv_goto (tgt := 5) hx hb e_fill_17 rfl ?_
  refine lv_iload_n hx hb e_fill_5 rfl (lv_at hl 0 rfl) ?_
  refine lv_iload_n hx hb e_fill_6 rfl (lv_at hl 1 rfl) ?_
  refine lv_icmp_ge (tgt := 20) hx hb e_fill_7 rfl (fun h => absurd h (by decide)) (fun _ => ?_)
  refine lv_aload_n hx hb e_fill_10 rfl (lv_at hl 2 rfl) ?_
  refine lv_iload_n hx hb e_fill_11 rfl (lv_at hl 0 rfl) ?_
  refine lv_iload_n hx hb e_fill_12 rfl (lv_at hl 3 rfl) ?_
  refine va_iast (D := D) hx hb hK hP hD hS 0 0 rfl rfl (by unfold vp_in; decide) e_fill_13 (fun H locs hP hD hS => ?_)
  have hP : va_P D q_cl [(h0, .inl (tI, 24, .inl (z_fl 10)))] H := hP
  have hD : va_D A [(h0, .inl (tI, 24, .inl (z_fl 10)))] := hD
  refine lv_iinc (v := 10) (k := 0) (lv' := [(2, .int 10), (3, .int 24), (0, .ref h0), (1, .int (-1))]) hx hb e_fill_14 hl rfl (by decide) (by decide) rfl (fun ls hl => ?_)
  refine lv_goto (tgt := 5) hx hb e_fill_17 rfl ?_
  refine lv_iload_n hx hb e_fill_5 rfl (lv_at hl 0 rfl) ?_
  refine lv_iload_n hx hb e_fill_6 rfl (lv_at hl 1 rfl) ?_
  refine lv_icmp_ge (tgt := 20) hx hb e_fill_7 rfl (fun h => absurd h (by decide)) (fun _ => ?_)
  refine lv_aload_n hx hb e_fill_10 rfl (lv_at hl 2 rfl) ?_
  refine lv_iload_n hx hb e_fill_11 rfl (lv_at hl 0 rfl) ?_
  refine lv_iload_n hx hb e_fill_12 rfl (lv_at hl 3 rfl) ?_
  refine va_iast (D := D) hx hb hK hP hD hS 0 0 rfl rfl (by unfold vp_in; decide) e_fill_13 (fun H locs hP hD hS => ?_)
  have hP : va_P D q_cl [(h0, .inl (tI, 24, .inl (z_fl 11)))] H := hP
  have hD : va_D A [(h0, .inl (tI, 24, .inl (z_fl 11)))] := hD
  refine lv_iinc (v := 11) (k := 0) (lv' := [(2, .int 11), (3, .int 24), (0, .ref h0), (1, .int (-1))]) hx hb e_fill_14 hl rfl (by decide) (by decide) rfl (fun ls hl => ?_)
  refine lv_goto (tgt := 5) hx hb e_fill_17 rfl ?_
  refine lv_iload_n hx hb e_fill_5 rfl (lv_at hl 0 rfl) ?_
  refine lv_iload_n hx hb e_fill_6 rfl (lv_at hl 1 rfl) ?_
  refine lv_icmp_ge (tgt := 20) hx hb e_fill_7 rfl (fun h => absurd h (by decide)) (fun _ => ?_)
  refine lv_aload_n hx hb e_fill_10 rfl (lv_at hl 2 rfl) ?_
  refine lv_iload_n hx hb e_fill_11 rfl (lv_at hl 0 rfl) ?_
  refine lv_iload_n hx hb e_fill_12 rfl (lv_at hl 3 rfl) ?_
  refine va_iast (D := D) hx hb hK hP hD hS 0 0 rfl rfl (by unfold vp_in; decide) e_fill_13 (fun H locs hP hD hS => ?_)
  have hP : va_P D q_cl [(h0, .inl (tI, 24, .inl (z_fl 12)))] H := hP
  have hD : va_D A [(h0, .inl (tI, 24, .inl (z_fl 12)))] := hD
  refine lv_iinc (v := 12) (k := 0) (lv' := [(2, .int 12), (3, .int 24), (0, .ref h0), (1, .int (-1))]) hx hb e_fill_14 hl rfl (by decide) (by decide) rfl (fun ls hl => ?_)
  refine lv_goto (tgt := 5) hx hb e_fill_17 rfl ?_
  refine lv_iload_n hx hb e_fill_5 rfl (lv_at hl 0 rfl) ?_
  refine lv_iload_n hx hb e_fill_6 rfl (lv_at hl 1 rfl) ?_
  refine lv_icmp_ge (tgt := 20) hx hb e_fill_7 rfl (fun h => absurd h (by decide)) (fun _ => ?_)
  refine lv_aload_n hx hb e_fill_10 rfl (lv_at hl 2 rfl) ?_
  refine lv_iload_n hx hb e_fill_11 rfl (lv_at hl 0 rfl) ?_
  refine lv_iload_n hx hb e_fill_12 rfl (lv_at hl 3 rfl) ?_
  refine va_iast (D := D) hx hb hK hP hD hS 0 0 rfl rfl (by unfold vp_in; decide) e_fill_13 (fun H locs hP hD hS => ?_)
  have hP : va_P D q_cl [(h0, .inl (tI, 24, .inl (z_fl 13)))] H := hP
  have hD : va_D A [(h0, .inl (tI, 24, .inl (z_fl 13)))] := hD
  refine lv_iinc (v := 13) (k := 0) (lv' := [(2, .int 13), (3, .int 24), (0, .ref h0), (1, .int (-1))]) hx hb e_fill_14 hl rfl (by decide) (by decide) rfl (fun ls hl => ?_)
  refine lv_goto (tgt := 5) hx hb e_fill_17 rfl ?_
  refine lv_iload_n hx hb e_fill_5 rfl (lv_at hl 0 rfl) ?_
  refine lv_iload_n hx hb e_fill_6 rfl (lv_at hl 1 rfl) ?_
  refine lv_icmp_ge (tgt := 20) hx hb e_fill_7 rfl (fun h => absurd h (by decide)) (fun _ => ?_)
  refine lv_aload_n hx hb e_fill_10 rfl (lv_at hl 2 rfl) ?_
  refine lv_iload_n hx hb e_fill_11 rfl (lv_at hl 0 rfl) ?_
  refine lv_iload_n hx hb e_fill_12 rfl (lv_at hl 3 rfl) ?_
  refine va_iast (D := D) hx hb hK hP hD hS 0 0 rfl rfl (by unfold vp_in; decide) e_fill_13 (fun H locs hP hD hS => ?_)
  have hP : va_P D q_cl [(h0, .inl (tI, 24, .inl (z_fl 14)))] H := hP
  have hD : va_D A [(h0, .inl (tI, 24, .inl (z_fl 14)))] := hD
  refine lv_iinc (v := 14) (k := 0) (lv' := [(2, .int 14), (3, .int 24), (0, .ref h0), (1, .int (-1))]) hx hb e_fill_14 hl rfl (by decide) (by decide) rfl (fun ls hl => ?_)
  refine lv_goto (tgt := 5) hx hb e_fill_17 rfl ?_
  refine lv_iload_n hx hb e_fill_5 rfl (lv_at hl 0 rfl) ?_
  refine lv_iload_n hx hb e_fill_6 rfl (lv_at hl 1 rfl) ?_
  refine lv_icmp_ge (tgt := 20) hx hb e_fill_7 rfl (fun h => absurd h (by decide)) (fun _ => ?_)
  refine lv_aload_n hx hb e_fill_10 rfl (lv_at hl 2 rfl) ?_
  refine lv_iload_n hx hb e_fill_11 rfl (lv_at hl 0 rfl) ?_
  refine lv_iload_n hx hb e_fill_12 rfl (lv_at hl 3 rfl) ?_
  refine va_iast (D := D) hx hb hK hP hD hS 0 0 rfl rfl (by unfold vp_in; decide) e_fill_13 (fun H locs hP hD hS => ?_)
  have hP : va_P D q_cl [(h0, .inl (tI, 24, .inl (z_fl 15)))] H := hP
  have hD : va_D A [(h0, .inl (tI, 24, .inl (z_fl 15)))] := hD
  refine lv_iinc (v := 15) (k := 0) (lv' := [(2, .int 15), (3, .int 24), (0, .ref h0), (1, .int (-1))]) hx hb e_fill_14 hl rfl (by decide) (by decide) rfl (fun ls hl => ?_)
  refine lv_goto (tgt := 5) hx hb e_fill_17 rfl ?_
  refine lv_iload_n hx hb e_fill_5 rfl (lv_at hl 0 rfl) ?_
  refine lv_iload_n hx hb e_fill_6 rfl (lv_at hl 1 rfl) ?_
  refine lv_icmp_ge (tgt := 20) hx hb e_fill_7 rfl (fun h => absurd h (by decide)) (fun _ => ?_)
  refine lv_aload_n hx hb e_fill_10 rfl (lv_at hl 2 rfl) ?_
  refine lv_iload_n hx hb e_fill_11 rfl (lv_at hl 0 rfl) ?_
  refine lv_iload_n hx hb e_fill_12 rfl (lv_at hl 3 rfl) ?_
  refine va_iast (D := D) hx hb hK hP hD hS 0 0 rfl rfl (by unfold vp_in; decide) e_fill_13 (fun H locs hP hD hS => ?_)
  have hP : va_P D q_cl [(h0, .inl (tI, 24, .inl (z_fl 16)))] H := hP
  have hD : va_D A [(h0, .inl (tI, 24, .inl (z_fl 16)))] := hD
  refine lv_iinc (v := 16) (k := 0) (lv' := [(2, .int 16), (3, .int 24), (0, .ref h0), (1, .int (-1))]) hx hb e_fill_14 hl rfl (by decide) (by decide) rfl (fun ls hl => ?_)
  refine lv_goto (tgt := 5) hx hb e_fill_17 rfl ?_
  refine lv_iload_n hx hb e_fill_5 rfl (lv_at hl 0 rfl) ?_
  refine lv_iload_n hx hb e_fill_6 rfl (lv_at hl 1 rfl) ?_
  refine lv_icmp_ge (tgt := 20) hx hb e_fill_7 rfl (fun h => absurd h (by decide)) (fun _ => ?_)
  refine lv_aload_n hx hb e_fill_10 rfl (lv_at hl 2 rfl) ?_
  refine lv_iload_n hx hb e_fill_11 rfl (lv_at hl 0 rfl) ?_
  refine lv_iload_n hx hb e_fill_12 rfl (lv_at hl 3 rfl) ?_
  refine va_iast (D := D) hx hb hK hP hD hS 0 0 rfl rfl (by unfold vp_in; decide) e_fill_13 (fun H locs hP hD hS => ?_)
  have hP : va_P D q_cl [(h0, .inl (tI, 24, .inl (z_fl 17)))] H := hP
  have hD : va_D A [(h0, .inl (tI, 24, .inl (z_fl 17)))] := hD
  refine lv_iinc (v := 17) (k := 0) (lv' := [(2, .int 17), (3, .int 24), (0, .ref h0), (1, .int (-1))]) hx hb e_fill_14 hl rfl (by decide) (by decide) rfl (fun ls hl => ?_)
  refine lv_goto (tgt := 5) hx hb e_fill_17 rfl ?_
  refine lv_iload_n hx hb e_fill_5 rfl (lv_at hl 0 rfl) ?_
  refine lv_iload_n hx hb e_fill_6 rfl (lv_at hl 1 rfl) ?_
  refine lv_icmp_ge (tgt := 20) hx hb e_fill_7 rfl (fun h => absurd h (by decide)) (fun _ => ?_)
  refine lv_aload_n hx hb e_fill_10 rfl (lv_at hl 2 rfl) ?_
  refine lv_iload_n hx hb e_fill_11 rfl (lv_at hl 0 rfl) ?_
  refine lv_iload_n hx hb e_fill_12 rfl (lv_at hl 3 rfl) ?_
  refine va_iast (D := D) hx hb hK hP hD hS 0 0 rfl rfl (by unfold vp_in; decide) e_fill_13 (fun H locs hP hD hS => ?_)
  have hP : va_P D q_cl [(h0, .inl (tI, 24, .inl (z_fl 18)))] H := hP
  have hD : va_D A [(h0, .inl (tI, 24, .inl (z_fl 18)))] := hD
  refine lv_iinc (v := 18) (k := 0) (lv' := [(2, .int 18), (3, .int 24), (0, .ref h0), (1, .int (-1))]) hx hb e_fill_14 hl rfl (by decide) (by decide) rfl (fun ls hl => ?_)
  refine lv_goto (tgt := 5) hx hb e_fill_17 rfl ?_
  refine lv_iload_n hx hb e_fill_5 rfl (lv_at hl 0 rfl) ?_
  refine lv_iload_n hx hb e_fill_6 rfl (lv_at hl 1 rfl) ?_
  refine lv_icmp_ge (tgt := 20) hx hb e_fill_7 rfl (fun h => absurd h (by decide)) (fun _ => ?_)
  refine lv_aload_n hx hb e_fill_10 rfl (lv_at hl 2 rfl) ?_
  refine lv_iload_n hx hb e_fill_11 rfl (lv_at hl 0 rfl) ?_
  refine lv_iload_n hx hb e_fill_12 rfl (lv_at hl 3 rfl) ?_
  refine va_iast (D := D) hx hb hK hP hD hS 0 0 rfl rfl (by unfold vp_in; decide) e_fill_13 (fun H locs hP hD hS => ?_)
  have hP : va_P D q_cl [(h0, .inl (tI, 24, .inl (z_fl 19)))] H := hP
  have hD : va_D A [(h0, .inl (tI, 24, .inl (z_fl 19)))] := hD
  refine lv_iinc (v := 19) (k := 0) (lv' := [(2, .int 19), (3, .int 24), (0, .ref h0), (1, .int (-1))]) hx hb e_fill_14 hl rfl (by decide) (by decide) rfl (fun ls hl => ?_)
  refine lv_goto (tgt := 5) hx hb e_fill_17 rfl ?_
  refine lv_iload_n hx hb e_fill_5 rfl (lv_at hl 0 rfl) ?_
  refine lv_iload_n hx hb e_fill_6 rfl (lv_at hl 1 rfl) ?_
  refine lv_icmp_ge (tgt := 20) hx hb e_fill_7 rfl (fun h => absurd h (by decide)) (fun _ => ?_)
  refine lv_aload_n hx hb e_fill_10 rfl (lv_at hl 2 rfl) ?_
  refine lv_iload_n hx hb e_fill_11 rfl (lv_at hl 0 rfl) ?_
  refine lv_iload_n hx hb e_fill_12 rfl (lv_at hl 3 rfl) ?_
  refine va_iast (D := D) hx hb hK hP hD hS 0 0 rfl rfl (by unfold vp_in; decide) e_fill_13 (fun H locs hP hD hS => ?_)
  have hP : va_P D q_cl [(h0, .inl (tI, 24, .inl (z_fl 20)))] H := hP
  have hD : va_D A [(h0, .inl (tI, 24, .inl (z_fl 20)))] := hD
  refine lv_iinc (v := 20) (k := 0) (lv' := [(2, .int 20), (3, .int 24), (0, .ref h0), (1, .int (-1))]) hx hb e_fill_14 hl rfl (by decide) (by decide) rfl (fun ls hl => ?_)
  refine lv_goto (tgt := 5) hx hb e_fill_17 rfl ?_
  refine lv_iload_n hx hb e_fill_5 rfl (lv_at hl 0 rfl) ?_
  refine lv_iload_n hx hb e_fill_6 rfl (lv_at hl 1 rfl) ?_
  refine lv_icmp_ge (tgt := 20) hx hb e_fill_7 rfl (fun h => absurd h (by decide)) (fun _ => ?_)
  refine lv_aload_n hx hb e_fill_10 rfl (lv_at hl 2 rfl) ?_
  refine lv_iload_n hx hb e_fill_11 rfl (lv_at hl 0 rfl) ?_
  refine lv_iload_n hx hb e_fill_12 rfl (lv_at hl 3 rfl) ?_
  refine va_iast (D := D) hx hb hK hP hD hS 0 0 rfl rfl (by unfold vp_in; decide) e_fill_13 (fun H locs hP hD hS => ?_)
  have hP : va_P D q_cl [(h0, .inl (tI, 24, .inl (z_fl 21)))] H := hP
  have hD : va_D A [(h0, .inl (tI, 24, .inl (z_fl 21)))] := hD
  refine lv_iinc (v := 21) (k := 0) (lv' := [(2, .int 21), (3, .int 24), (0, .ref h0), (1, .int (-1))]) hx hb e_fill_14 hl rfl (by decide) (by decide) rfl (fun ls hl => ?_)
  refine lv_goto (tgt := 5) hx hb e_fill_17 rfl ?_
  refine lv_iload_n hx hb e_fill_5 rfl (lv_at hl 0 rfl) ?_
  refine lv_iload_n hx hb e_fill_6 rfl (lv_at hl 1 rfl) ?_
  refine lv_icmp_ge (tgt := 20) hx hb e_fill_7 rfl (fun h => absurd h (by decide)) (fun _ => ?_)
  refine lv_aload_n hx hb e_fill_10 rfl (lv_at hl 2 rfl) ?_
  refine lv_iload_n hx hb e_fill_11 rfl (lv_at hl 0 rfl) ?_
  refine lv_iload_n hx hb e_fill_12 rfl (lv_at hl 3 rfl) ?_
  refine va_iast (D := D) hx hb hK hP hD hS 0 0 rfl rfl (by unfold vp_in; decide) e_fill_13 (fun H locs hP hD hS => ?_)
  have hP : va_P D q_cl [(h0, .inl (tI, 24, .inl (z_fl 22)))] H := hP
  have hD : va_D A [(h0, .inl (tI, 24, .inl (z_fl 22)))] := hD
  refine lv_iinc (v := 22) (k := 0) (lv' := [(2, .int 22), (3, .int 24), (0, .ref h0), (1, .int (-1))]) hx hb e_fill_14 hl rfl (by decide) (by decide) rfl (fun ls hl => ?_)
  refine lv_goto (tgt := 5) hx hb e_fill_17 rfl ?_
  refine lv_iload_n hx hb e_fill_5 rfl (lv_at hl 0 rfl) ?_
  refine lv_iload_n hx hb e_fill_6 rfl (lv_at hl 1 rfl) ?_
  refine lv_icmp_ge (tgt := 20) hx hb e_fill_7 rfl (fun h => absurd h (by decide)) (fun _ => ?_)
  refine lv_aload_n hx hb e_fill_10 rfl (lv_at hl 2 rfl) ?_
  refine lv_iload_n hx hb e_fill_11 rfl (lv_at hl 0 rfl) ?_
  refine lv_iload_n hx hb e_fill_12 rfl (lv_at hl 3 rfl) ?_
  refine va_iast (D := D) hx hb hK hP hD hS 0 0 rfl rfl (by unfold vp_in; decide) e_fill_13 (fun H locs hP hD hS => ?_)
  have hP : va_P D q_cl [(h0, .inl (tI, 24, .inl (z_fl 23)))] H := hP
  have hD : va_D A [(h0, .inl (tI, 24, .inl (z_fl 23)))] := hD
  refine lv_iinc (v := 23) (k := 0) (lv' := [(2, .int 23), (3, .int 24), (0, .ref h0), (1, .int (-1))]) hx hb e_fill_14 hl rfl (by decide) (by decide) rfl (fun ls hl => ?_)
  refine lv_goto (tgt := 5) hx hb e_fill_17 rfl ?_
  refine lv_iload_n hx hb e_fill_5 rfl (lv_at hl 0 rfl) ?_
  refine lv_iload_n hx hb e_fill_6 rfl (lv_at hl 1 rfl) ?_
  refine lv_icmp_ge (tgt := 20) hx hb e_fill_7 rfl (fun h => absurd h (by decide)) (fun _ => ?_)
  refine lv_aload_n hx hb e_fill_10 rfl (lv_at hl 2 rfl) ?_
  refine lv_iload_n hx hb e_fill_11 rfl (lv_at hl 0 rfl) ?_
  refine lv_iload_n hx hb e_fill_12 rfl (lv_at hl 3 rfl) ?_
  refine va_iast (D := D) hx hb hK hP hD hS 0 0 rfl rfl (by unfold vp_in; decide) e_fill_13 (fun H locs hP hD hS => ?_)
  have hP : va_P D q_cl [(h0, .inl (tI, 24, .inl (z_fl 24)))] H := hP
  have hD : va_D A [(h0, .inl (tI, 24, .inl (z_fl 24)))] := hD
  refine lv_iinc (v := 24) (k := 0) (lv' := [(2, .int 24), (3, .int 24), (0, .ref h0), (1, .int (-1))]) hx hb e_fill_14 hl rfl (by decide) (by decide) rfl (fun ls hl => ?_)
  refine lv_goto (tgt := 5) hx hb e_fill_17 rfl ?_
  refine lv_iload_n hx hb e_fill_5 rfl (lv_at hl 0 rfl) ?_
  refine lv_iload_n hx hb e_fill_6 rfl (lv_at hl 1 rfl) ?_
  refine lv_icmp_ge (tgt := 20) hx hb e_fill_7 rfl (fun _ => ?_) (fun h => absurd (by decide) h)
  exact W.vret hx hb hr (fun t ht hW => ⟨⟨(), rfl, trivial, by rw [ht]; exact hP, va_K.moved hW.alike hK, hD⟩, hS.F ht⟩) hS.2.2 e_fill_20

def z_Faults (tI _tZ _tJ _tQ : ClassId) (h0 : Nat) (u : List Nat) : va_W := [(h0, .inr (3, [.ref (u.getD 0 0), .ref (u.getD 1 0), .ref (u.getD 2 0), .ref (u.getD 3 0), .ref (u.getD 4 0), .ref (u.getD 5 0), .ref (u.getD 6 0), .int 0])), ((u.getD 0 0), z_ia tI 60), ((u.getD 1 0), z_ia tI 60), ((u.getD 2 0), z_ia tI 60), ((u.getD 3 0), z_ia tI 60), ((u.getD 4 0), z_ia tI 60), ((u.getD 5 0), z_ia tI 60), ((u.getD 6 0), .inl (tI, 24, .inl z_f24))]
set_option maxHeartbeats 8000000 in
set_option maxRecDepth 100000 in
theorem c_Faults_init (l : Launch) (D : va_G) (tI tZ tJ tQ : ClassId) (h0 sz : Nat) : Met l ⟨"MarshCourt$Faults", "<init>", "()V"⟩ (z_w ⟨"MarshCourt$Faults", "<init>", "()V"⟩ prog_5_method_1_code 1) ({ frames := 1, cells := 7, slots := 384, locals := 23 }) (va_Pc [.ref h0] (z_B D (z_t tI tZ tJ tQ) [(h0, .inr (3, [.null, .null, .null, .null, .null, .null, .null, .int 0]))] sz)) (va_Qv (fun _ : List Nat => True) (fun u t => z_E D (z_t tI tZ tJ tQ) (va_A [(h0, .inr (3, [.null, .null, .null, .null, .null, .null, .null, .int 0]))] sz) (z_Faults tI tZ tJ tQ h0 u) t) (va_A [(h0, .inr (3, [.null, .null, .null, .null, .null, .null, .null, .int 0]))] sz)) 7 384 (va_A [(h0, .inr (3, [.null, .null, .null, .null, .null, .null, .null, .int 0]))] sz) := by
  refine Met.ofW (cc := prog_5_method_1_code) (maxL := 1) (ret := none) (by decide) rfl ?_
  intro p e s m args below meth c s₁ B hml hv
  obtain ⟨rfl, hsz, hP, hK, hD0, hN, hO⟩ := hv
  have hx := B.exec
  have hb := B.bytes
  have hr := B.returns
  have hts0 := atoms_spec (ws := z_w ⟨"MarshCourt$Faults", "<init>", "()V"⟩ prog_5_method_1_code 1) B.pre
  have hts : ∀ w ∈ q_gw q_T0, w.before _ s = true := fun w hw => hts0 w (List.mem_cons_of_mem _ hw)
  have hown : s.vm.findClass "MarshCourt$Faults" = some m.cls := findClass_of_methodNamed B.named
  have hlocks := B.notSynchronized
  have hin : meth.name = "<init>" := (name_of_methodNamed B.named B.method).1
  subst hsz
  have hD := hD0.self (sz := s.heap.size)
  generalize hAe : va_A [(h0, .inr (3, [.null, .null, .null, .null, .null, .null, .null, .int 0]))] s.heap.size = A at hD ⊢
  have hA : ∀ q : Nat, s.heap.size ≤ q → A q := fun q h => by rw [← hAe]; exact Or.inr h
  have hS : va_S A s.heap s.heap [] := va_S.rf
  have hl := lv_entry ([.ref h0]) (n := 1) (Nat.le_of_ble_eq_true rfl)
  rw [lg_entry_eq]
  generalize (lg_sl ([.ref h0]) ++ List.replicate (1 - (lg_sl ([.ref h0])).length) Slot.unset).toArray = ls at hl ⊢
  have hl : lv_has ls 1 [(0, .ref h0)] := hl
  refine lv_aload_n hx hb e_Faults_0 rfl (lv_at hl 0 rfl) ?_
  refine W.objInit hx hb hown (hts _ zw_358) (hts _ zw_87) (hts _ zw_88) rfl (by rw [hml]; exact hl.1) rfl e_Faults_1 (Nat.le_of_ble_eq_true rfl) (Nat.le_of_ble_eq_true rfl) ?_
  refine W.eq (g2 := F0 m 4 ls []) rfl ?_
  refine lv_aload_n hx hb e_Faults_4 rfl (lv_at hl 0 rfl) ?_
  refine lv_bipush (v := 60) hx hb e_Faults_5 (by decide) ?_
  refine z_newa (atype := .int) (N' := 60) hx hb (hts _ zw_130) rfl (fun _ h => by cases h) hK 0 rfl hP hD hS hA (fun cA => z_hia cA 60) (by decide) (by decide) (by decide) (Nat.le_of_ble_eq_true rfl) (Nat.le_of_ble_eq_true rfl) e_Faults_7 (fun q7 H hP hD hS => ?_)
  refine W.widen (k := 1) (n := 60) (Nat.le_of_ble_eq_true rfl) (Nat.le_of_ble_eq_true rfl) ?_
  refine va_putF (D := D) (ci := 3) (v := .ref q7) (C := "MarshCourt$Faults") (T := q_F3) (N := 8) hx hb hts ((q_clOK0 3 _ rfl).1) q_H3 q_clt3 q_cln3 hown hK hP hD hS 0 rfl rfl 0 (by decide) (hts _ zw_362) (fun _ h9 => h9) rfl hin rfl (q_clt3 0 (by decide)) rfl rfl (Nat.le_of_ble_eq_true rfl) e_Faults_9 (fun H locs hP hD hS => ?_)
  have hP : va_P D q_cl ([(h0, .inr (3, [.ref q7, .null, .null, .null, .null, .null, .null, .int 0])), (q7, z_ia tI 60)]) H := hP
  have hD : va_D A ([(h0, .inr (3, [.ref q7, .null, .null, .null, .null, .null, .null, .int 0])), (q7, z_ia tI 60)]) := hD
  refine lv_aload_n hx hb e_Faults_12 rfl (lv_at hl 0 rfl) ?_
  refine lv_bipush (v := 60) hx hb e_Faults_13 (by decide) ?_
  refine z_newa (atype := .int) (N' := 60) hx hb (hts _ zw_130) rfl (fun _ h => by cases h) hK 0 rfl hP hD hS hA (fun cA => z_hia cA 60) (by decide) (by decide) (by decide) (Nat.le_of_ble_eq_true rfl) (Nat.le_of_ble_eq_true rfl) e_Faults_15 (fun q15 H hP hD hS => ?_)
  refine W.widen (k := 2) (n := 120) (Nat.le_of_ble_eq_true rfl) (Nat.le_of_ble_eq_true rfl) ?_
  refine va_putF (D := D) (ci := 3) (v := .ref q15) (C := "MarshCourt$Faults") (T := q_F3) (N := 8) hx hb hts ((q_clOK0 3 _ rfl).1) q_H3 q_clt3 q_cln3 hown hK hP hD hS 0 rfl rfl 1 (by decide) (hts _ zw_364) (fun _ h9 => h9) rfl hin rfl (q_clt3 1 (by decide)) rfl rfl (Nat.le_of_ble_eq_true rfl) e_Faults_17 (fun H locs hP hD hS => ?_)
  have hP : va_P D q_cl ([(h0, .inr (3, [.ref q7, .ref q15, .null, .null, .null, .null, .null, .int 0])), (q7, z_ia tI 60), (q15, z_ia tI 60)]) H := hP
  have hD : va_D A ([(h0, .inr (3, [.ref q7, .ref q15, .null, .null, .null, .null, .null, .int 0])), (q7, z_ia tI 60), (q15, z_ia tI 60)]) := hD
  refine lv_aload_n hx hb e_Faults_20 rfl (lv_at hl 0 rfl) ?_
  refine lv_bipush (v := 60) hx hb e_Faults_21 (by decide) ?_
  refine z_newa (atype := .int) (N' := 60) hx hb (hts _ zw_130) rfl (fun _ h => by cases h) hK 0 rfl hP hD hS hA (fun cA => z_hia cA 60) (by decide) (by decide) (by decide) (Nat.le_of_ble_eq_true rfl) (Nat.le_of_ble_eq_true rfl) e_Faults_23 (fun q23 H hP hD hS => ?_)
  refine W.widen (k := 3) (n := 180) (Nat.le_of_ble_eq_true rfl) (Nat.le_of_ble_eq_true rfl) ?_
  refine va_putF (D := D) (ci := 3) (v := .ref q23) (C := "MarshCourt$Faults") (T := q_F3) (N := 8) hx hb hts ((q_clOK0 3 _ rfl).1) q_H3 q_clt3 q_cln3 hown hK hP hD hS 0 rfl rfl 2 (by decide) (hts _ zw_366) (fun _ h9 => h9) rfl hin rfl (q_clt3 2 (by decide)) rfl rfl (Nat.le_of_ble_eq_true rfl) e_Faults_25 (fun H locs hP hD hS => ?_)
  have hP : va_P D q_cl ([(h0, .inr (3, [.ref q7, .ref q15, .ref q23, .null, .null, .null, .null, .int 0])), (q7, z_ia tI 60), (q15, z_ia tI 60), (q23, z_ia tI 60)]) H := hP
  have hD : va_D A ([(h0, .inr (3, [.ref q7, .ref q15, .ref q23, .null, .null, .null, .null, .int 0])), (q7, z_ia tI 60), (q15, z_ia tI 60), (q23, z_ia tI 60)]) := hD
  refine lv_aload_n hx hb e_Faults_28 rfl (lv_at hl 0 rfl) ?_
  refine lv_bipush (v := 60) hx hb e_Faults_29 (by decide) ?_
  refine z_newa (atype := .int) (N' := 60) hx hb (hts _ zw_130) rfl (fun _ h => by cases h) hK 0 rfl hP hD hS hA (fun cA => z_hia cA 60) (by decide) (by decide) (by decide) (Nat.le_of_ble_eq_true rfl) (Nat.le_of_ble_eq_true rfl) e_Faults_31 (fun q31 H hP hD hS => ?_)
  refine W.widen (k := 4) (n := 240) (Nat.le_of_ble_eq_true rfl) (Nat.le_of_ble_eq_true rfl) ?_
  refine va_putF (D := D) (ci := 3) (v := .ref q31) (C := "MarshCourt$Faults") (T := q_F3) (N := 8) hx hb hts ((q_clOK0 3 _ rfl).1) q_H3 q_clt3 q_cln3 hown hK hP hD hS 0 rfl rfl 3 (by decide) (hts _ zw_367) (fun _ h9 => h9) rfl hin rfl (q_clt3 3 (by decide)) rfl rfl (Nat.le_of_ble_eq_true rfl) e_Faults_33 (fun H locs hP hD hS => ?_)
  have hP : va_P D q_cl ([(h0, .inr (3, [.ref q7, .ref q15, .ref q23, .ref q31, .null, .null, .null, .int 0])), (q7, z_ia tI 60), (q15, z_ia tI 60), (q23, z_ia tI 60), (q31, z_ia tI 60)]) H := hP
  have hD : va_D A ([(h0, .inr (3, [.ref q7, .ref q15, .ref q23, .ref q31, .null, .null, .null, .int 0])), (q7, z_ia tI 60), (q15, z_ia tI 60), (q23, z_ia tI 60), (q31, z_ia tI 60)]) := hD
  refine lv_aload_n hx hb e_Faults_36 rfl (lv_at hl 0 rfl) ?_
  refine lv_bipush (v := 60) hx hb e_Faults_37 (by decide) ?_
  refine z_newa (atype := .int) (N' := 60) hx hb (hts _ zw_130) rfl (fun _ h => by cases h) hK 0 rfl hP hD hS hA (fun cA => z_hia cA 60) (by decide) (by decide) (by decide) (Nat.le_of_ble_eq_true rfl) (Nat.le_of_ble_eq_true rfl) e_Faults_39 (fun q39 H hP hD hS => ?_)
  refine W.widen (k := 5) (n := 300) (Nat.le_of_ble_eq_true rfl) (Nat.le_of_ble_eq_true rfl) ?_
  refine va_putF (D := D) (ci := 3) (v := .ref q39) (C := "MarshCourt$Faults") (T := q_F3) (N := 8) hx hb hts ((q_clOK0 3 _ rfl).1) q_H3 q_clt3 q_cln3 hown hK hP hD hS 0 rfl rfl 4 (by decide) (hts _ zw_369) (fun _ h9 => h9) rfl hin rfl (q_clt3 4 (by decide)) rfl rfl (Nat.le_of_ble_eq_true rfl) e_Faults_41 (fun H locs hP hD hS => ?_)
  have hP : va_P D q_cl ([(h0, .inr (3, [.ref q7, .ref q15, .ref q23, .ref q31, .ref q39, .null, .null, .int 0])), (q7, z_ia tI 60), (q15, z_ia tI 60), (q23, z_ia tI 60), (q31, z_ia tI 60), (q39, z_ia tI 60)]) H := hP
  have hD : va_D A ([(h0, .inr (3, [.ref q7, .ref q15, .ref q23, .ref q31, .ref q39, .null, .null, .int 0])), (q7, z_ia tI 60), (q15, z_ia tI 60), (q23, z_ia tI 60), (q31, z_ia tI 60), (q39, z_ia tI 60)]) := hD
  refine lv_aload_n hx hb e_Faults_44 rfl (lv_at hl 0 rfl) ?_
  refine lv_bipush (v := 60) hx hb e_Faults_45 (by decide) ?_
  refine z_newa (atype := .int) (N' := 60) hx hb (hts _ zw_130) rfl (fun _ h => by cases h) hK 0 rfl hP hD hS hA (fun cA => z_hia cA 60) (by decide) (by decide) (by decide) (Nat.le_of_ble_eq_true rfl) (Nat.le_of_ble_eq_true rfl) e_Faults_47 (fun q47 H hP hD hS => ?_)
  refine W.widen (k := 6) (n := 360) (Nat.le_of_ble_eq_true rfl) (Nat.le_of_ble_eq_true rfl) ?_
  refine va_putF (D := D) (ci := 3) (v := .ref q47) (C := "MarshCourt$Faults") (T := q_F3) (N := 8) hx hb hts ((q_clOK0 3 _ rfl).1) q_H3 q_clt3 q_cln3 hown hK hP hD hS 0 rfl rfl 5 (by decide) (hts _ zw_370) (fun _ h9 => h9) rfl hin rfl (q_clt3 5 (by decide)) rfl rfl (Nat.le_of_ble_eq_true rfl) e_Faults_49 (fun H locs hP hD hS => ?_)
  have hP : va_P D q_cl ([(h0, .inr (3, [.ref q7, .ref q15, .ref q23, .ref q31, .ref q39, .ref q47, .null, .int 0])), (q7, z_ia tI 60), (q15, z_ia tI 60), (q23, z_ia tI 60), (q31, z_ia tI 60), (q39, z_ia tI 60), (q47, z_ia tI 60)]) H := hP
  have hD : va_D A ([(h0, .inr (3, [.ref q7, .ref q15, .ref q23, .ref q31, .ref q39, .ref q47, .null, .int 0])), (q7, z_ia tI 60), (q15, z_ia tI 60), (q23, z_ia tI 60), (q31, z_ia tI 60), (q39, z_ia tI 60), (q47, z_ia tI 60)]) := hD
  refine lv_aload_n hx hb e_Faults_52 rfl (lv_at hl 0 rfl) ?_
  refine lv_bipush (v := 24) hx hb e_Faults_53 (by decide) ?_
  refine z_newa (atype := .int) (N' := 24) hx hb (hts _ zw_130) rfl (fun _ h => by cases h) hK 0 rfl hP hD hS hA (fun cA => z_hia cA 24) (by decide) (by decide) (by decide) (Nat.le_of_ble_eq_true rfl) (Nat.le_of_ble_eq_true rfl) e_Faults_55 (fun q55 H hP hD hS => ?_)
  refine W.widen (k := 7) (n := 384) (Nat.le_of_ble_eq_true rfl) (Nat.le_of_ble_eq_true rfl) ?_
  refine va_putF (D := D) (ci := 3) (v := .ref q55) (C := "MarshCourt$Faults") (T := q_F3) (N := 8) hx hb hts ((q_clOK0 3 _ rfl).1) q_H3 q_clt3 q_cln3 hown hK hP hD hS 0 rfl rfl 6 (by decide) (hts _ zw_371) (fun _ h9 => h9) rfl hin rfl (q_clt3 6 (by decide)) rfl rfl (Nat.le_of_ble_eq_true rfl) e_Faults_57 (fun H locs hP hD hS => ?_)
  have hP : va_P D q_cl ([(h0, .inr (3, [.ref q7, .ref q15, .ref q23, .ref q31, .ref q39, .ref q47, .ref q55, .int 0])), (q7, z_ia tI 60), (q15, z_ia tI 60), (q23, z_ia tI 60), (q31, z_ia tI 60), (q39, z_ia tI 60), (q47, z_ia tI 60), (q55, z_ia tI 24)]) H := hP
  have hD : va_D A ([(h0, .inr (3, [.ref q7, .ref q15, .ref q23, .ref q31, .ref q39, .ref q47, .ref q55, .int 0])), (q7, z_ia tI 60), (q15, z_ia tI 60), (q23, z_ia tI 60), (q31, z_ia tI 60), (q39, z_ia tI 60), (q47, z_ia tI 60), (q55, z_ia tI 24)]) := hD
  refine lv_aload_n hx hb e_Faults_60 rfl (lv_at hl 0 rfl) ?_
  refine va_get (D := D) (ci := 3) (v := .ref q55) (C := "MarshCourt$Faults") (T := q_F3) (N := 8) hx hb hts ((q_clOK0 3 _ rfl).1) hown hK hP 0 rfl rfl 6 (by decide) (hts _ zw_371) (fun _ h9 => h9) rfl e_Faults_61 ?_
  refine lv_iconst (v := -1) hx hb e_Faults_64 (by decide) ?_
  have hP : va_P D q_cl ([(h0, .inr (3, [.ref q7, .ref q15, .ref q23, .ref q31, .ref q39, .ref q47, .ref q55, .int 0])), (q7, z_ia tI 60), (q15, z_ia tI 60), (q23, z_ia tI 60), (q31, z_ia tI 60), (q39, z_ia tI 60), (q47, z_ia tI 60)] ++ [(q55, z_ia tI 24)]) H := hP
  have hD : va_D A ([(h0, .inr (3, [.ref q7, .ref q15, .ref q23, .ref q31, .ref q39, .ref q47, .ref q55, .int 0])), (q7, z_ia tI 60), (q15, z_ia tI 60), (q23, z_ia tI 60), (q31, z_ia tI 60), (q39, z_ia tI 60), (q47, z_ia tI 60)] ++ [(q55, z_ia tI 24)]) := hD
  have hFc := z_last hD hS hA
  refine va_callv (va_runS (As := [.ref q55, .int (-1)]) (rest := []) ⟨hx, hb, hml, hown, hts⟩ (c_fill_init l D tI tZ tJ tQ q55 H.size) ⟨callB_of 2 hts (z_good zw_361) rfl rfl rfl (hts _ zw_73) (hts _ zw_359) (by decide +kernel) ⟨Nat.le_of_ble_eq_true rfl, Nat.le_of_ble_eq_true rfl⟩, hts _ zw_360⟩ (z_pre2 hP hK hD hN hO) rfl rfl hl.1 rfl (lv_room (Nat.le_of_ble_eq_true rfl)) e_Faults_65 ⟨Nat.le_of_ble_eq_true rfl, Nat.le_of_ble_eq_true rfl⟩) hS (fun q _ h => hFc q h) hFc (fun u t H1 locs ht hvm hw hB hz1 hk1 hS => ?_)
  obtain ⟨hP1, hK1, hD1⟩ := hB
  rw [ht] at hP1
  obtain ⟨hP, hD⟩ := z_join hP hD hk1 hFc hP1 hD1
  refine W.widen (k := 7) (n := 384) (Nat.le_of_ble_eq_true rfl) (Nat.le_of_ble_eq_true rfl) ?_
  clear hP1 hK1 hD1 hFc hk1 hz1 hw ht hvm
  generalize H1 = H at hP hS ⊢
  have hP : va_P D q_cl ([(h0, .inr (3, [.ref q7, .ref q15, .ref q23, .ref q31, .ref q39, .ref q47, .ref q55, .int 0])), (q7, z_ia tI 60), (q15, z_ia tI 60), (q23, z_ia tI 60), (q31, z_ia tI 60), (q39, z_ia tI 60), (q47, z_ia tI 60), (q55, .inl (tI, 24, .inl z_f24))]) H := hP
  have hD : va_D A ([(h0, .inr (3, [.ref q7, .ref q15, .ref q23, .ref q31, .ref q39, .ref q47, .ref q55, .int 0])), (q7, z_ia tI 60), (q15, z_ia tI 60), (q23, z_ia tI 60), (q31, z_ia tI 60), (q39, z_ia tI 60), (q47, z_ia tI 60), (q55, .inl (tI, 24, .inl z_f24))]) := hD
  refine W.widen (k := 7) (n := 384) (Nat.le_of_ble_eq_true rfl) (Nat.le_of_ble_eq_true rfl) ?_
  exact W.vret hx hb hr (fun t ht hW => ⟨⟨[q7, q15, q23, q31, q39, q47, q55], rfl, trivial, by rw [ht]; exact hP, va_K.moved hW.alike hK, hD⟩, hS.F ht⟩) hS.2.2 e_Faults_68
