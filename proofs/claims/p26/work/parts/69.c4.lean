theorem zw_62 : (Cond.initialized "MarshCourt") ∈ q_gw q_T0 := q_wd_ok (w := 62) (by decide +kernel)
theorem zw_75 : (Cond.initialized "MarshCourtModel") ∈ q_gw q_T0 := q_wd_ok (w := 75) (by decide +kernel)
theorem zw_81 : (Cond.classLink "MarshCourtLaw" 7 "MarshCourt") ∈ q_gw q_T0 := q_wd_ok (w := 81) (by decide +kernel)
theorem zw_82 : (Cond.instantiable "MarshCourt" 12) ∈ q_gw q_T0 := q_wd_ok (w := 82) (by decide +kernel)
theorem zw_83 : (Cond.methodLink "MarshCourtLaw" 9 ⟨"MarshCourt", "<init>", "()V"⟩) ∈ q_gw q_T0 := q_wd_ok (w := 83) (by decide +kernel)
theorem zw_84 : (Cond.instanceMethod ⟨"MarshCourt", "<init>", "()V"⟩) ∈ q_gw q_T0 := q_wd_ok (w := 84) (by decide +kernel)
theorem zw_85 : (Cond.code ⟨"MarshCourt", "<init>", "()V"⟩ prog_1_method_1_code 1 none) ∈ q_gw q_T0 := q_wd_ok (w := 85) (by decide +kernel)
theorem zw_974 : (Cond.classLink "MarshCourtLaw" 10 "MarshCourtModel") ∈ q_gw q_T0 := q_wd_ok (w := 974) (by decide +kernel)
theorem zw_975 : (Cond.instantiable "MarshCourtModel" 64) ∈ q_gw q_T0 := q_wd_ok (w := 975) (by decide +kernel)
theorem zw_976 : (Cond.methodLink "MarshCourtLaw" 12 ⟨"MarshCourtModel", "<init>", "()V"⟩) ∈ q_gw q_T0 := q_wd_ok (w := 976) (by decide +kernel)
theorem zw_977 : (Cond.instanceMethod ⟨"MarshCourtModel", "<init>", "()V"⟩) ∈ q_gw q_T0 := q_wd_ok (w := 977) (by decide +kernel)
theorem zw_978 : (Cond.code ⟨"MarshCourtModel", "<init>", "()V"⟩ prog_14_method_1_code 1 none) ∈ q_gw q_T0 := q_wd_ok (w := 978) (by decide +kernel)
theorem e_law_0 : decode code 0 = .ok (.new 7, 3) := by decide +kernel
theorem e_law_3 : decode code 3 = .ok (.dup, 1) := by decide +kernel
theorem e_law_4 : decode code 4 = .ok (.invokespecial 9, 3) := by decide +kernel
theorem e_law_7 : decode code 7 = .ok (.astore_n 1, 1) := by decide +kernel
theorem e_law_8 : decode code 8 = .ok (.new 10, 3) := by decide +kernel
theorem e_law_11 : decode code 11 = .ok (.dup, 1) := by decide +kernel
theorem e_law_12 : decode code 12 = .ok (.invokespecial 12, 3) := by decide +kernel
theorem e_law_15 : decode code 15 = .ok (.astore_n 2, 1) := by decide +kernel
theorem e_law_16 : decode code 16 = .ok (.iconst 0, 1) := by decide +kernel
theorem e_law_17 : decode code 17 = .ok (.istore_n 3, 1) := by decide +kernel
set_option maxHeartbeats 8000000 in
set_option maxRecDepth 100000 in
theorem z_start {p : Program} {e : Env} {s : State} {m : MethodId} {below : List Frame} {meth : Method} {c : Code} (l : Launch) {b L : Nat} {xs : Nat → Int32} (C0 : lw_At p s m meth c b L xs) {Q : State → Prop}
    (kk : ∀ (D : va_G) (tI tZ tJ tQ : ClassId) (qA : Nat) (uA : List Nat × List (List Nat)) (qM : Nat) (uM : List Nat) (H : Heap) (locs : List Loc) (ls : Array Slot), va_K D q_cl (z_t tI tZ tJ tQ) s → va_P D q_cl (z_A tI tZ tJ tQ qA uA ++ z_M tI tZ tJ tQ qM uM) H → va_D (fun q : Nat => s.heap.size ≤ q) (z_A tI tZ tJ tQ qA uA ++ z_M tI tZ tJ tQ qM uM) → va_S (fun q : Nat => s.heap.size ≤ q) s.heap H locs → lv_has ls 4 [(3, .int 0), (2, .ref qM), (1, .ref qA), (0, .ref b)] →
      W p l e room_1 s m #[Value.ref b] below meth c H locs 600000 7302250 Q (F0 m 18 ls [])) : W p l e room_1 s m #[Value.ref b] below meth c s.heap [] 0 0 Q (entryFrame m ([Value.ref b] : List Value).toArray 4) := by
  obtain ⟨hx, hb, hr, hml, hown, hts, hX, hbl, hlocks, hgv⟩ := id C0
  have hts' : ∀ w ∈ q_gw q_T0, w.before #[Value.ref b] s = true := fun w hw => hts w (List.mem_filter.mp hw).1
  have hA : ∀ q : Nat, s.heap.size ≤ q → (fun q : Nat => s.heap.size ≤ q) q := fun _ h => h
  obtain ⟨c0, i0, k0⟩ := u_known (C := "MarshCourt$Bank") (T := q_F0) (N := 10) (n := 10) hts (fun w hw => (List.mem_filter.mp ((q_clOK0 0 _ rfl).1 w hw)).1) (hts' _ zw_177 |> fun h => h)
  obtain ⟨c1, i1, k1⟩ := u_known (C := "MarshCourt$Courts") (T := q_F1) (N := 3) (n := 3) hts (fun w hw => (List.mem_filter.mp ((q_clOK0 1 _ rfl).1 w hw)).1) (hts' _ zw_289 |> fun h => h)
  obtain ⟨c2, i2, k2⟩ := u_known (C := "MarshCourt$Custom") (T := q_F2) (N := 9) (n := 9) hts (fun w hw => (List.mem_filter.mp ((q_clOK0 2 _ rfl).1 w hw)).1) (hts' _ zw_296 |> fun h => h)
  obtain ⟨c3, i3, k3⟩ := u_known (C := "MarshCourt$Faults") (T := q_F3) (N := 8) (n := 8) hts (fun w hw => (List.mem_filter.mp ((q_clOK0 3 _ rfl).1 w hw)).1) (hts' _ zw_354 |> fun h => h)
  obtain ⟨c4, i4, k4⟩ := u_known (C := "MarshCourt$Herds") (T := q_F4) (N := 3) (n := 3) hts (fun w hw => (List.mem_filter.mp ((q_clOK0 4 _ rfl).1 w hw)).1) (hts' _ zw_226 |> fun h => h)
  obtain ⟨c5, i5, k5⟩ := u_known (C := "MarshCourt$Land") (T := q_F5) (N := 8) (n := 8) hts (fun w hw => (List.mem_filter.mp ((q_clOK0 5 _ rfl).1 w hw)).1) (hts' _ zw_90 |> fun h => h)
  obtain ⟨c6, i6, k6⟩ := u_known (C := "MarshCourt$Plan") (T := q_F6) (N := 6) (n := 6) hts (fun w hw => (List.mem_filter.mp ((q_clOK0 6 _ rfl).1 w hw)).1) (hts' _ zw_393 |> fun h => h)
  obtain ⟨c7, i7, k7⟩ := u_known (C := "MarshCourt$Sales") (T := q_F7) (N := 6) (n := 6) hts (fun w hw => (List.mem_filter.mp ((q_clOK0 7 _ rfl).1 w hw)).1) (hts' _ zw_133 |> fun h => h)
  obtain ⟨c8, i8, k8⟩ := u_known (C := "MarshCourt$Shares") (T := q_F8) (N := 3) (n := 3) hts (fun w hw => (List.mem_filter.mp ((q_clOK0 8 _ rfl).1 w hw)).1) (hts' _ zw_159 |> fun h => h)
  obtain ⟨c9, i9, k9⟩ := u_known (C := "MarshCourt$Tape") (T := q_F9) (N := 3) (n := 3) hts (fun w hw => (List.mem_filter.mp ((q_clOK0 9 _ rfl).1 w hw)).1) (hts' _ zw_271 |> fun h => h)
  obtain ⟨c10, i10, k10⟩ := u_known (C := "MarshCourt$Ways") (T := q_F10) (N := 5) (n := 5) hts (fun w hw => (List.mem_filter.mp ((q_clOK0 10 _ rfl).1 w hw)).1) (hts' _ zw_245 |> fun h => h)
  obtain ⟨c11, i11, k11⟩ := u_known (C := "MarshCourt") (T := q_F11) (N := 12) (n := 12) hts (fun w hw => (List.mem_filter.mp ((q_clOK0 11 _ rfl).1 w hw)).1) (hts' _ zw_82 |> fun h => h)
  obtain ⟨c12, i12, k12⟩ := u_known (C := "MarshCourtModel") (T := q_F12) (N := 64) (n := 64) hts (fun w hw => (List.mem_filter.mp ((q_clOK0 12 _ rfl).1 w hw)).1) (hts' _ zw_975 |> fun h => h)
  obtain ⟨D, hKc⟩ : ∃ D : va_G, ∀ (k : Nat) (q : vw_C), q_cl[k]? = some q → u_Kn s q.1 q.2.1 q.2.2 (D.1 k) (D.2 k) := by
    refine ⟨(fun k => [c0, c1, c2, c3, c4, c5, c6, c7, c8, c9, c10, c11, c12].getD k c0, fun k => [i0, i1, i2, i3, i4, i5, i6, i7, i8, i9, i10, i11, i12].getD k i0), fun k q hq => ?_⟩
    match k, hq with
    | 0, hq => cases hq; exact k0
    | 1, hq => cases hq; exact k1
    | 2, hq => cases hq; exact k2
    | 3, hq => cases hq; exact k3
    | 4, hq => cases hq; exact k4
    | 5, hq => cases hq; exact k5
    | 6, hq => cases hq; exact k6
    | 7, hq => cases hq; exact k7
    | 8, hq => cases hq; exact k8
    | 9, hq => cases hq; exact k9
    | 10, hq => cases hq; exact k10
    | 11, hq => cases hq; exact k11
    | 12, hq => cases hq; exact k12
    | k + 13, hq => cases hq
  obtain ⟨tI, I1, I2⟩ := z_ty (ty := .int) (fun C h => by cases h) (hts' _ zw_130)
  obtain ⟨tZ, Z1, Z2⟩ := z_ty (ty := .boolean) (fun C h => by cases h) (hts' _ zw_131)
  obtain ⟨tJ, J1, J2⟩ := z_ty (ty := .long) (fun C h => by cases h) (hts' _ zw_420)
  have hO1 : (Cond.arrayOver (.object "MarshCourt$Custom")).before #[Value.ref b] s = true := hts _ (by decide +kernel)
  obtain ⟨tQ, Q1, Q2⟩ := z_tq hO1
  have hO : va_AO "MarshCourt$Custom" s := va_AO.of hO1
  have hN : q_xn q_T0 s := fun e he => va_Nw.of rfl (hts _ (zn_all e he))
  have hK : va_K D q_cl (z_t tI tZ tJ tQ) s := by
    refine ⟨hKc, fun k q hk => ?_⟩
    match k, hk with
    | 0, hk => cases hk; exact ⟨I1, I2⟩
    | 1, hk => cases hk; exact ⟨Z1, Z2⟩
    | 2, hk => cases hk; exact ⟨J1, J2⟩
    | 3, hk => cases hk; exact ⟨Q1, Q2⟩
    | k + 4, hk => cases hk
  have hS : va_S (fun q : Nat => s.heap.size ≤ q) s.heap s.heap [] := va_S.rf
  have hP : va_P D q_cl [] s.heap := fun k q h => by simp at h
  have hD : va_D (fun q : Nat => s.heap.size ≤ q) [] := ⟨fun i j p q h => by simp at h, fun k q h => by simp at h⟩
  have hl := lv_entry ([.ref b]) (n := 4) (Nat.le_of_ble_eq_true rfl)
  rw [lg_entry_eq]
  generalize (lg_sl ([.ref b]) ++ List.replicate (4 - (lg_sl ([.ref b])).length) Slot.unset).toArray = ls at hl ⊢
  have hl : lv_has ls 4 [(0, .ref b)] := hl
  refine va_new (ci := 11) (fs := [.null, .null, .null, .null, .null, .null, .null, .null, .null, .null, .int 0, .int 0]) (C := "MarshCourt") (T := q_F11) (N := 12) hx hb hts' ((q_clOK0 11 _ rfl).1) q_H11 q_clt11 hown (hts' _ zw_81) (hts' _ zw_82) (hts' _ zw_62) hK hP hD hS hA rfl (by decide) (Nat.le_of_ble_eq_true rfl) (Nat.le_of_ble_eq_true rfl) e_law_0 (fun qA H hP hD hS => ?_)
  refine W.widen (k := 1) (n := 12) (Nat.le_of_ble_eq_true rfl) (Nat.le_of_ble_eq_true rfl) ?_
  refine lv_dup hx hb e_law_3 rfl ?_
  have hFc := z_last (wr := []) hD hS hA
  refine va_callv (va_runI (As := []) (rest := [.ref qA]) ⟨hx, hb, hml, hown, hts'⟩ (c_A_init l D tI tZ tJ tQ qA H.size) (cwI 0 hts' (z_good zw_85) rfl rfl rfl (hts' _ zw_62) (hts' _ zw_83) (hts' _ zw_84) rfl (by decide +kernel) ⟨Nat.le_of_ble_eq_true rfl, Nat.le_of_ble_eq_true rfl⟩) (z_pre (wr := []) hP hK hD hN hO) rfl rfl hl.1 rfl (lv_room (Nat.le_of_ble_eq_true rfl)) e_law_4 ⟨Nat.le_of_ble_eq_true rfl, Nat.le_of_ble_eq_true rfl⟩) hS (fun q _ h => hFc q h) hFc (fun uA t H1 locs ht hvm hw hB hz1 hk1 hS => ?_)
  obtain ⟨hP1, hK1, hD1⟩ := hB
  rw [ht] at hP1
  obtain ⟨hP, hD⟩ := z_join (wr := []) hP hD hk1 hFc hP1 hD1
  refine W.widen (k := 1000) (n := 5000) (Nat.le_of_ble_eq_true rfl) (Nat.le_of_ble_eq_true rfl) ?_
  clear hP1 hK1 hD1 hFc hk1 hz1 hw ht hvm
  generalize H1 = H at hP hS ⊢
  have hP : va_P D q_cl (z_A tI tZ tJ tQ qA uA) H := hP
  have hD : va_D (fun q : Nat => s.heap.size ≤ q) (z_A tI tZ tJ tQ qA uA) := hD
  refine lv_astore_n (lv' := [(1, .ref qA), (0, .ref b)]) hx hb e_law_7 rfl hl (by decide) rfl (fun ls hl => ?_)
  refine va_new (ci := 12) (fs := [.int 0, .null, .null, .null, .null, .null, .null, .int 0, .null, .null, .null, .null, .null, .int 0, .null, .null, .null, .null, .null, .null, .null, .null, .int 0, .null, .null, .int 0, .int 0, .int 0, .int 0, .null, .int 0, .int 0, .null, .null, .null, .null, .null, .null, .null, .null, .null, .null, .int 0, .null, .null, .null, .null, .null, .null, .null, .null, .int 0, .null, .int 0, .int 0, .null, .null, .null, .null, .null, .null, .null, .null, .null]) (C := "MarshCourtModel") (T := q_F12) (N := 64) hx hb hts' ((q_clOK0 12 _ rfl).1) q_H12 q_clt12 hown (hts' _ zw_974) (hts' _ zw_975) (hts' _ zw_75) hK hP hD hS hA rfl (by decide) (Nat.le_of_ble_eq_true rfl) (Nat.le_of_ble_eq_true rfl) e_law_8 (fun qM H hP hD hS => ?_)
  refine W.widen (k := 1001) (n := 5064) (Nat.le_of_ble_eq_true rfl) (Nat.le_of_ble_eq_true rfl) ?_
  refine lv_dup hx hb e_law_11 rfl ?_
  have hFc := z_last (wr := z_A tI tZ tJ tQ qA uA) hD hS hA
  refine va_callv (va_runI (As := []) (rest := [.ref qM]) ⟨hx, hb, hml, hown, hts'⟩ (c_M_init l D tI tZ tJ tQ qM H.size) (cwI 0 hts' (z_good zw_978) rfl rfl rfl (hts' _ zw_75) (hts' _ zw_976) (hts' _ zw_977) rfl (by decide +kernel) ⟨Nat.le_of_ble_eq_true rfl, Nat.le_of_ble_eq_true rfl⟩) (z_pre (wr := z_A tI tZ tJ tQ qA uA) hP hK hD hN hO) rfl rfl hl.1 rfl (lv_room (Nat.le_of_ble_eq_true rfl)) e_law_12 ⟨Nat.le_of_ble_eq_true rfl, Nat.le_of_ble_eq_true rfl⟩) hS (fun q _ h => hFc q h) hFc (fun uM t H1 locs ht hvm hw hB hz1 hk1 hS => ?_)
  obtain ⟨hP1, hK1, hD1⟩ := hB
  rw [ht] at hP1
  obtain ⟨hP, hD⟩ := z_join (wr := z_A tI tZ tJ tQ qA uA) hP hD hk1 hFc hP1 hD1
  clear hP1 hK1 hD1 hFc hk1 hz1 hw ht hvm
  generalize H1 = H at hP hS ⊢
  refine W.widen (k := 600000) (n := 7302250) (Nat.le_of_ble_eq_true rfl) (Nat.le_of_ble_eq_true rfl) ?_
  refine lv_astore_n (lv' := [(2, .ref qM), (1, .ref qA), (0, .ref b)]) hx hb e_law_15 rfl hl (by decide) rfl (fun ls hl => ?_)
  refine lv_iconst (v := 0) hx hb e_law_16 (by decide) ?_
  refine lv_istore_n (lv' := [(3, .int 0), (2, .ref qM), (1, .ref qA), (0, .ref b)]) hx hb e_law_17 rfl hl (by decide) rfl (fun ls hl => ?_)
  exact kk D tI tZ tJ tQ qA uA qM uM H _ ls hK hP hD hS hl
