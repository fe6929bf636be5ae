theorem z_lawck {L : Nat} {xs : Int → Int} : ∀ (i : Nat) (ins : q_I), k_law_law[i]? = some ins → ins.1 = i ∧ q_ck (q_Tm L xs) R_law code ret q_zs 11 238 k_law_law ins = true := fun i ins hi => by
  have hlen : k_law_law.length = 809 := by decide +kernel
  have hlt : i < 809 := by have := (List.getElem?_eq_some_iff.mp hi).1; omega
  rcases (show (0 ≤ i ∧ i < 50) ∨ (50 ≤ i ∧ i < 100) ∨ (100 ≤ i ∧ i < 150) ∨ (150 ≤ i ∧ i < 200) ∨ (200 ≤ i ∧ i < 250) ∨ (250 ≤ i ∧ i < 300) ∨ (300 ≤ i ∧ i < 350) ∨ (350 ≤ i ∧ i < 400) ∨ (400 ≤ i ∧ i < 450) ∨ (450 ≤ i ∧ i < 500) ∨ (500 ≤ i ∧ i < 550) ∨ (550 ≤ i ∧ i < 600) ∨ (600 ≤ i ∧ i < 650) ∨ (650 ≤ i ∧ i < 700) ∨ (700 ≤ i ∧ i < 750) ∨ (750 ≤ i ∧ i < 800) ∨ (800 ≤ i ∧ i < 850) by omega) with h | h | h | h | h | h | h | h | h | h | h | h | h | h | h | h | h
  · exact q_mc_ch v_law_0 h.1 h.2 hi
  · exact q_mc_ch v_law_50 h.1 h.2 hi
  · exact q_mc_ch v_law_100 h.1 h.2 hi
  · exact q_mc_ch v_law_150 h.1 h.2 hi
  · exact q_mc_ch v_law_200 h.1 h.2 hi
  · exact q_mc_ch v_law_250 h.1 h.2 hi
  · exact q_mc_ch v_law_300 h.1 h.2 hi
  · exact q_mc_ch v_law_350 h.1 h.2 hi
  · exact q_mc_ch v_law_400 h.1 h.2 hi
  · exact q_mc_ch v_law_450 h.1 h.2 hi
  · exact q_mc_ch v_law_500 h.1 h.2 hi
  · exact q_mc_ch v_law_550 h.1 h.2 hi
  · exact q_mc_ch v_law_600 h.1 h.2 hi
  · exact q_mc_ch v_law_650 h.1 h.2 hi
  · exact q_mc_ch v_law_700 h.1 h.2 hi
  · exact q_mc_ch v_law_750 h.1 h.2 hi
  · exact q_mc_ch v_law_800 h.1 h.2 hi
set_option maxHeartbeats 4000000 in
set_option maxRecDepth 100000 in
/-- from the entry, for every script, the law comes to its end with true -/
theorem whole_start {p : Program} {e : Env} {s : State} {m : MethodId} {below : List Frame} {meth : Method} {c : Code} (l : Launch) {b L : Nat} {xs : Nat → Int32} (hL : L ≤ 3072) (C0 : lw_At p s m meth c b L xs) : W p l e room_1 s m #[Value.ref b] below meth c s.heap [] 0 0 (lw_Z below #[Value.ref b] s) (entryFrame m ([Value.ref b] : List Value).toArray 4) := by
  refine z_start l C0 (fun D tI tZ tJ tQ qA uA qM uM H locs ls hK hP hD hS hl => ?_)
  obtain ⟨X, hXr, hX0, hXe⟩ := z_out C0
  obtain ⟨hx, hb, hr, hml, hown, hts, hX, hbl, hlocks, hgv⟩ := id C0
  have hx32 : ∀ j : Int, q_i32 ((fun z : Int => (xs z.toNat).toInt) j) := fun j => q_bvin32 (xs j.toNat).toBitVec
  have hAll : q_allOK (q_Tm L (fun z => (xs z.toNat).toInt)) q_zs q_mt := q_all (by omega) hx32
  obtain ⟨G, hP1, hD1, hK1, hGX, g1, g2⟩ := z_fin (X := X) hK hP hD
  have hXr1 : q_xr G := fun r => by rw [hGX]; exact hXr r
  have hE1 : q_ext (q_Tm L (fun z => (xs z.toNat).toInt)) G (fun q => s.heap.size ≤ q) s s.heap := hXe G hGX
  have g0 : q_cv G (4, 0) = .ref b := by show G.2.2.2 0 = .ref b; rw [hGX]; exact hX0
  have hAA : ∀ q, q_A (q_Tm L (fun z => (xs z.toNat).toInt)) G s.heap.size q → s.heap.size ≤ q := by
    intro q hq
    rcases hq with ⟨k, hk, rfl⟩ | hq
    · have hk : k < q_lay.length := hk
      exact (hD1 q_s0).2 k (G.2.2.1 k, _) (q_ws_get (List.getElem?_eq_getElem hk))
    · exact hq
  have XC : q_Cx p s m #[Value.ref b] c (q_Tm L (fun z => (xs z.toNat).toInt)) G (fun q => s.heap.size ≤ q) code R_law 4 :=
    ⟨hx, hb, hml, hown, fun w hw => hts w (List.mem_filter.mp hw).1, hK1, hD1, hXr1, hE1, hAA, hAll.2.2.1, hAll.2.2.2.1, hAll.2.2.2.2.1⟩
  obtain ⟨n, r, σ', hrun, hr1⟩ := l_law (L := L) (xs := fun z => (xs z.toNat).toInt) (K := fun r _ => r = some (0, 1)) hL (fun _ _ => rfl) (L + 7) 0 q_s0 (by omega) (by omega) (by omega) q_J0
  have hHL : q_HL G ls 4 [(4, 0), (2, 0), (2, 100), (0, 0)] := by
    refine ⟨rfl, hl.1, hl.2.1, fun k v hk _ => ?_⟩
    match k, hk with
    | 0, hk => cases hk; rw [g0]; exact lv_at hl 3 rfl
    | 1, hk => cases hk; rw [g1]; exact lv_at hl 2 rfl
    | 2, hk => cases hk; rw [g2]; exact lv_at hl 1 rfl
    | 3, hk => cases hk; exact lv_at hl 0 rfl
    | k + 4, hk => cases hk
  have hcan : q_can (q_Tm L (fun z => (xs z.toNat).toInt)) [(4, 0), (2, 0), (2, 100), (0, 0)] [] q_s0 :=
    ⟨q_cs_cons.mpr ⟨q_c1_o (by decide), q_cs_cons.mpr ⟨q_c1_o (by decide), q_cs_cons.mpr ⟨q_c1_o (by decide), q_cs_cons.mpr ⟨q_c1_0 q_i32_0, q_cs_nil⟩⟩⟩⟩, q_cs_nil, q_cm0⟩
  have E : q_End p l e room_1 s m #[Value.ref b] below meth c 600000 7302250 (lw_Z below #[Value.ref b] s) (q_Tm L (fun z => (xs z.toNat).toInt)) G (fun q => s.heap.size ≤ q) code ret r σ' := by
    intro hcr hcm pc hRT H1 locs1 sl hP2 hS2
    subst hr1
    rcases hRT with ⟨y, e1, hd, -⟩ | ⟨y, e1, -⟩ | ⟨y, e1, -⟩ | ⟨e1, -⟩
    · exact va_forget (fun q hq => hS2.2.2 q hq) (lw_ret hx hb hr hlocks hd)
    · cases e1
    · cases e1
    · cases e1
  have W0 := q_body (R := room_1) (below := below) (meth := meth) (e := e) (l := l) (cells := 600000) (slots := 7302250) (Q := lw_Z below #[Value.ref b] s) XC hAll.1 hAll.2.1 ⟨Nat.le_of_ble_eq_true rfl, Nat.le_of_ble_eq_true rfl⟩ ⟨Nat.le_of_ble_eq_true rfl, Nat.le_of_ble_eq_true rfl⟩ z_lawck n (fun k _ => q_sound hAll hXr1 k) n (Nat.le_refl _) 10 _ _ _ r σ' hrun hcan E H locs ls hP1 hS hHL
  rw [show q_pc k_law_law 10 = 18 from rfl] at W0
  exact W0
