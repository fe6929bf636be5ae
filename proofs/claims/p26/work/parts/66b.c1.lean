theorem q_s0_z {k : Nat} (h : ¬ (142 ≤ k ∧ k ≤ 144)) (h1 : k ≠ 95) (h2 : ¬ (36 ≤ k ∧ k ≤ 84 ∧ k % 4 = 0)) (i : Int) : q_s0 k i = 0 := by
  unfold q_s0
  rw [if_neg (by omega), if_neg (by omega), if_neg (by omega), if_neg (by omega), if_neg (by omega)]
theorem z_arI {G : q_G} {k n a : Nat} (e : G.2.2.1 k = a) (hz : ∀ i, q_s0 k i = 0) (D : va_G) (cl : List vw_C) (H : Heap) (h : va_at D cl (a, z_ia G.2.1.1 n) H) : va_at D cl (G.2.2.1 k, q_ce G q_s0 k (1, n, [])) H := by
  rw [e]
  exact z_exti (g := fun j => Int32.ofInt (q_s0 k j)) (fun j _ => by rw [hz]) D cl H h
theorem z_arZ {G : q_G} {k n a : Nat} (e : G.2.2.1 k = a) (hz : ∀ i, q_s0 k i = 0) (D : va_G) (cl : List vw_C) (H : Heap) (h : va_at D cl (a, z_ia G.2.1.2.1 n) H) : va_at D cl (G.2.2.1 k, q_ce G q_s0 k (2, n, [])) H := by
  rw [e]
  exact z_exti (g := fun j => Int32.ofInt (q_s0 k j)) (fun j _ => by rw [hz]) D cl H h
theorem z_extl {a : Nat} {cI : ClassId} {n : Nat} {f g : Nat → Int64} (h : ∀ j, j < n → f j = g j) (D : va_G) (cl : List vw_C) (H : Heap) (h1 : va_at D cl (a, .inl (cI, n, .inr (.inl f))) H) : va_at D cl (a, .inl (cI, n, .inr (.inl g))) H := by
  have e : vp_cell cI (n, .inr (.inl f)) = vp_cell cI (n, .inr (.inl g)) := by rw [vp_cell_l, vp_cell_l]; exact z_arrV (fun j hj => by rw [h j hj])
  show H[a]? = some (vp_cell cI (n, .inr (.inl g)))
  rw [← e]
  exact h1
theorem z_arJ {G : q_G} {k n a : Nat} (e : G.2.2.1 k = a) (hz : ∀ i, q_s0 k i = 0) (D : va_G) (cl : List vw_C) (H : Heap) (h : va_at D cl (a, z_la G.2.1.2.2.1 n) H) : va_at D cl (G.2.2.1 k, q_ce G q_s0 k (3, n, [])) H := by
  rw [e]
  exact z_extl (g := fun j => Int64.ofInt (q_s0 k j)) (fun j _ => by rw [hz]) D cl H h
def q_mi (f : Nat → q_V → Value) : Nat → List q_V → List Value
  | _, [] => []
  | k, c :: l => f k c :: q_mi f (k + 1) l
theorem q_mi_get {f : Nat → q_V → Value} : ∀ (l : List q_V) (k i : Nat), (q_mi f k l)[i]? = (l[i]?).map (fun c => f (k + i) c)
  | [], k, i => by simp [q_mi]
  | c :: l, k, 0 => rfl
  | c :: l, k, i + 1 => by
    have := q_mi_get (f := f) l (k + 1) i
    rw [show k + 1 + i = k + (i + 1) by omega] at this
    exact this
theorem q_mi_eq {f : Nat → q_V → Value} {l : List q_V} : l.mapIdx f = q_mi f 0 l := by
  apply List.ext_getElem?
  intro i
  rw [List.getElem?_mapIdx, q_mi_get, Nat.zero_add]
theorem z_obj {G : q_G} {k ci a : Nat} {fs : List q_V} {vs : List Value} (e : G.2.2.1 k = a) (hv : q_mi (fun j s => q_sv G q_s0 k j s) 0 fs = vs) (D : va_G) (cl : List vw_C) (H : Heap) (h : va_at D cl (a, .inr (ci, vs)) H) : va_at D cl (G.2.2.1 k, q_ce G q_s0 k (0, ci, fs)) H := by
  rw [e]
  show va_at D cl (a, .inr (ci, fs.mapIdx (fun j s => q_sv G q_s0 k j s))) H
  rw [q_mi_eq, hv]
  exact h
theorem z_sim_app : ∀ {w1 w1' w2 w2' : va_W}, z_sim w1 w1' → z_sim w2 w2' → z_sim (w1 ++ w2) (w1' ++ w2')
  | [], [], _, _, _, h => h
  | _ :: w, _ :: w', _, _, h1, h2 => ⟨h1.1, z_sim_app h1.2 h2⟩
theorem q_wsr_app {G : q_G} {σ : q_S} : ∀ (l1 l2 : List q_C) (k : Nat), q_wsr G σ k (l1 ++ l2) = q_wsr G σ k l1 ++ q_wsr G σ (k + l1.length) l2
  | [], l2, k => rfl
  | c :: l1, l2, k => by
    show _ :: q_wsr G σ (k + 1) (l1 ++ l2) = _ :: (q_wsr G σ (k + 1) l1 ++ _)
    rw [q_wsr_app l1 l2 (k + 1), show k + 1 + l1.length = k + (c :: l1).length by simp; omega]

set_option maxRecDepth 20000 in
theorem z_s_Land {G : q_G} {h : Nat} {u : List Nat} (e1 : G.2.2.1 1 = h) (e2 : G.2.2.1 2 = u.getD 0 0) (e3 : G.2.2.1 3 = u.getD 1 0) (e4 : G.2.2.1 4 = u.getD 2 0) (e5 : G.2.2.1 5 = u.getD 3 0) (e6 : G.2.2.1 6 = u.getD 4 0) : z_sim (z_Land G.2.1.1 G.2.1.2.1 G.2.1.2.2.1 G.2.1.2.2.2 h u) (q_wsr G q_s0 1 [(0, 5, [(2, 2), (2, 3), (2, 4), (2, 5), (2, 6), (0, 0), (0, 0), (5, 0)]), (1, 30, []), (1, 30, []), (1, 30, []), (1, 30, []), (2, 60, [])]) := by
  refine And.intro (z_obj (k := 1) e1 (show [Value.ref (G.2.2.1 2), Value.ref (G.2.2.1 3), Value.ref (G.2.2.1 4), Value.ref (G.2.2.1 5), Value.ref (G.2.2.1 6), Value.int (Int32.ofInt (q_s0 1 5)), Value.int (Int32.ofInt (q_s0 1 6)), Value.int (Int32.ofInt (q_s0 1 7))] = _ from ?_)) ?_
  · rw [e2, e3, e4, e5, e6]; try rfl
  refine And.intro (z_arI (k := 2) e2 (fun i => q_s0_z (by omega) (by omega) (by omega) i)) ?_
  refine And.intro (z_arI (k := 3) e3 (fun i => q_s0_z (by omega) (by omega) (by omega) i)) ?_
  refine And.intro (z_arI (k := 4) e4 (fun i => q_s0_z (by omega) (by omega) (by omega) i)) ?_
  refine And.intro (z_arI (k := 5) e5 (fun i => q_s0_z (by omega) (by omega) (by omega) i)) ?_
  refine And.intro (z_arZ (k := 6) e6 (fun i => q_s0_z (by omega) (by omega) (by omega) i)) ?_
  trivial

set_option maxRecDepth 20000 in
theorem z_s_Sales {G : q_G} {h : Nat} {u : List Nat} (e7 : G.2.2.1 7 = h) (e8 : G.2.2.1 8 = u.getD 0 0) (e9 : G.2.2.1 9 = u.getD 1 0) (e10 : G.2.2.1 10 = u.getD 2 0) (e11 : G.2.2.1 11 = u.getD 3 0) (e12 : G.2.2.1 12 = u.getD 4 0) : z_sim (z_Sales G.2.1.1 G.2.1.2.1 G.2.1.2.2.1 G.2.1.2.2.2 h u) (q_wsr G q_s0 7 [(0, 7, [(2, 8), (2, 9), (2, 10), (2, 11), (2, 12), (0, 0)]), (1, 120, []), (1, 120, []), (1, 120, []), (1, 120, []), (1, 120, [])]) := by
  refine And.intro (z_obj (k := 7) e7 (show [Value.ref (G.2.2.1 8), Value.ref (G.2.2.1 9), Value.ref (G.2.2.1 10), Value.ref (G.2.2.1 11), Value.ref (G.2.2.1 12), Value.int (Int32.ofInt (q_s0 7 5))] = _ from ?_)) ?_
  · rw [e8, e9, e10, e11, e12]; try rfl
  refine And.intro (z_arI (k := 8) e8 (fun i => q_s0_z (by omega) (by omega) (by omega) i)) ?_
  refine And.intro (z_arI (k := 9) e9 (fun i => q_s0_z (by omega) (by omega) (by omega) i)) ?_
  refine And.intro (z_arI (k := 10) e10 (fun i => q_s0_z (by omega) (by omega) (by omega) i)) ?_
  refine And.intro (z_arI (k := 11) e11 (fun i => q_s0_z (by omega) (by omega) (by omega) i)) ?_
  refine And.intro (z_arI (k := 12) e12 (fun i => q_s0_z (by omega) (by omega) (by omega) i)) ?_
  trivial

set_option maxRecDepth 20000 in
theorem z_s_Shares {G : q_G} {h : Nat} {u : List Nat} (e13 : G.2.2.1 13 = h) (e14 : G.2.2.1 14 = u.getD 0 0) (e15 : G.2.2.1 15 = u.getD 1 0) (e16 : G.2.2.1 16 = u.getD 2 0) : z_sim (z_Shares G.2.1.1 G.2.1.2.1 G.2.1.2.2.1 G.2.1.2.2.2 h u) (q_wsr G q_s0 13 [(0, 8, [(2, 14), (2, 15), (2, 16)]), (1, 8, []), (1, 8, []), (1, 8, [])]) := by
  refine And.intro (z_obj (k := 13) e13 (show [Value.ref (G.2.2.1 14), Value.ref (G.2.2.1 15), Value.ref (G.2.2.1 16)] = _ from ?_)) ?_
  · rw [e14, e15, e16]; try rfl
  refine And.intro (z_arI (k := 14) e14 (fun i => q_s0_z (by omega) (by omega) (by omega) i)) ?_
  refine And.intro (z_arI (k := 15) e15 (fun i => q_s0_z (by omega) (by omega) (by omega) i)) ?_
  refine And.intro (z_arI (k := 16) e16 (fun i => q_s0_z (by omega) (by omega) (by omega) i)) ?_
  trivial

set_option maxRecDepth 20000 in
theorem z_s_Bank {G : q_G} {h : Nat} {u : List Nat} (e17 : G.2.2.1 17 = h) (e18 : G.2.2.1 18 = u.getD 0 0) (e19 : G.2.2.1 19 = u.getD 1 0) (e20 : G.2.2.1 20 = u.getD 2 0) (e21 : G.2.2.1 21 = u.getD 3 0) (e22 : G.2.2.1 22 = u.getD 4 0) (e23 : G.2.2.1 23 = u.getD 5 0) (e24 : G.2.2.1 24 = u.getD 6 0) (e25 : G.2.2.1 25 = u.getD 7 0) (e26 : G.2.2.1 26 = u.getD 8 0) : z_sim (z_Bank G.2.1.1 G.2.1.2.1 G.2.1.2.2.1 G.2.1.2.2.2 h u) (q_wsr G q_s0 17 [(0, 0, [(2, 18), (2, 19), (2, 20), (2, 21), (2, 22), (2, 23), (2, 24), (2, 25), (2, 26), (0, 0)]), (1, 24, []), (1, 24, []), (1, 24, []), (1, 24, []), (1, 24, []), (1, 24, []), (1, 24, []), (1, 24, []), (1, 8, [])]) := by
  refine And.intro (z_obj (k := 17) e17 (show [Value.ref (G.2.2.1 18), Value.ref (G.2.2.1 19), Value.ref (G.2.2.1 20), Value.ref (G.2.2.1 21), Value.ref (G.2.2.1 22), Value.ref (G.2.2.1 23), Value.ref (G.2.2.1 24), Value.ref (G.2.2.1 25), Value.ref (G.2.2.1 26), Value.int (Int32.ofInt (q_s0 17 9))] = _ from ?_)) ?_
  · rw [e18, e19, e20, e21, e22, e23, e24, e25, e26]; try rfl
  refine And.intro (z_arI (k := 18) e18 (fun i => q_s0_z (by omega) (by omega) (by omega) i)) ?_
  refine And.intro (z_arI (k := 19) e19 (fun i => q_s0_z (by omega) (by omega) (by omega) i)) ?_
  refine And.intro (z_arI (k := 20) e20 (fun i => q_s0_z (by omega) (by omega) (by omega) i)) ?_
  refine And.intro (z_arI (k := 21) e21 (fun i => q_s0_z (by omega) (by omega) (by omega) i)) ?_
  refine And.intro (z_arI (k := 22) e22 (fun i => q_s0_z (by omega) (by omega) (by omega) i)) ?_
  refine And.intro (z_arI (k := 23) e23 (fun i => q_s0_z (by omega) (by omega) (by omega) i)) ?_
  refine And.intro (z_arI (k := 24) e24 (fun i => q_s0_z (by omega) (by omega) (by omega) i)) ?_
  refine And.intro (z_arI (k := 25) e25 (fun i => q_s0_z (by omega) (by omega) (by omega) i)) ?_
  refine And.intro (z_arI (k := 26) e26 (fun i => q_s0_z (by omega) (by omega) (by omega) i)) ?_
  trivial

set_option maxRecDepth 20000 in
theorem z_s_Herds {G : q_G} {h : Nat} {u : List Nat} (e27 : G.2.2.1 27 = h) (e28 : G.2.2.1 28 = u.getD 0 0) (e29 : G.2.2.1 29 = u.getD 1 0) : z_sim (z_Herds G.2.1.1 G.2.1.2.1 G.2.1.2.2.1 G.2.1.2.2.2 h u) (q_wsr G q_s0 27 [(0, 4, [(2, 28), (2, 29), (0, 0)]), (1, 6, []), (2, 6, [])]) := by
  refine And.intro (z_obj (k := 27) e27 (show [Value.ref (G.2.2.1 28), Value.ref (G.2.2.1 29), Value.int (Int32.ofInt (q_s0 27 2))] = _ from ?_)) ?_
  · rw [e28, e29]; try rfl
  refine And.intro (z_arI (k := 28) e28 (fun i => q_s0_z (by omega) (by omega) (by omega) i)) ?_
  refine And.intro (z_arZ (k := 29) e29 (fun i => q_s0_z (by omega) (by omega) (by omega) i)) ?_
  trivial

set_option maxRecDepth 20000 in
theorem z_s_Ways {G : q_G} {h : Nat} {u : List Nat} (e30 : G.2.2.1 30 = h) (e31 : G.2.2.1 31 = u.getD 0 0) : z_sim (z_Ways G.2.1.1 G.2.1.2.1 G.2.1.2.2.1 G.2.1.2.2.2 h u) (q_wsr G q_s0 30 [(0, 10, [(2, 31), (0, 0), (0, 0), (0, 0), (0, 0)]), (1, 30, [])]) := by
  refine And.intro (z_obj (k := 30) e30 (show [Value.ref (G.2.2.1 31), Value.int (Int32.ofInt (q_s0 30 1)), Value.int (Int32.ofInt (q_s0 30 2)), Value.int (Int32.ofInt (q_s0 30 3)), Value.int (Int32.ofInt (q_s0 30 4))] = _ from ?_)) ?_
  · rw [e31]; try rfl
  refine And.intro (z_arI (k := 31) e31 (fun i => q_s0_z (by omega) (by omega) (by omega) i)) ?_
  trivial

set_option maxRecDepth 20000 in
theorem z_s_Tape {G : q_G} {h : Nat} {u : List Nat} (e32 : G.2.2.1 32 = h) (e33 : G.2.2.1 33 = u.getD 0 0) : z_sim (z_Tape G.2.1.1 G.2.1.2.1 G.2.1.2.2.1 G.2.1.2.2.2 h u) (q_wsr G q_s0 32 [(0, 9, [(2, 33), (0, 0), (0, 0)]), (1, 160, [])]) := by
  refine And.intro (z_obj (k := 32) e32 (show [Value.ref (G.2.2.1 33), Value.int (Int32.ofInt (q_s0 32 1)), Value.int (Int32.ofInt (q_s0 32 2))] = _ from ?_)) ?_
  · rw [e33]; try rfl
  refine And.intro (z_arI (k := 33) e33 (fun i => q_s0_z (by omega) (by omega) (by omega) i)) ?_
  trivial

theorem z_q35 {G : q_G} {u : List Nat} {a : Nat} (e35 : G.2.2.1 35 = a) (e40 : G.2.2.1 40 = u.getD 5 0) (e44 : G.2.2.1 44 = u.getD 9 0) (e48 : G.2.2.1 48 = u.getD 13 0) (e52 : G.2.2.1 52 = u.getD 17 0) (e56 : G.2.2.1 56 = u.getD 21 0) (e60 : G.2.2.1 60 = u.getD 25 0) (e64 : G.2.2.1 64 = u.getD 29 0) (e68 : G.2.2.1 68 = u.getD 33 0) (e72 : G.2.2.1 72 = u.getD 37 0) (e76 : G.2.2.1 76 = u.getD 41 0) (e80 : G.2.2.1 80 = u.getD 45 0) (e84 : G.2.2.1 84 = u.getD 49 0) (D : va_G) (cl : List vw_C) (H : Heap) (hh : va_at D cl (a, .inl (G.2.1.2.2.2, 12, .inr (.inr (.inr (.inr (va_up (va_up (va_up (va_up (va_up (va_up (va_up (va_up (va_up (va_up (va_up (va_up (fun _ => none) 0 (some (u.getD 5 0))) 1 (some (u.getD 9 0))) 2 (some (u.getD 13 0))) 3 (some (u.getD 17 0))) 4 (some (u.getD 21 0))) 5 (some (u.getD 25 0))) 6 (some (u.getD 29 0))) 7 (some (u.getD 33 0))) 8 (some (u.getD 37 0))) 9 (some (u.getD 41 0))) 10 (some (u.getD 45 0))) 11 (some (u.getD 49 0)))))))) H) : va_at D cl (G.2.2.1 35, q_ce G q_s0 35 (4, 12, [(2, 40), (2, 44), (2, 48), (2, 52), (2, 56), (2, 60), (2, 64), (2, 68), (2, 72), (2, 76), (2, 80), (2, 84)])) H := by
  rw [e35]
  refine z_extq (g := fun j => some (G.2.2.1 (([(2, 40), (2, 44), (2, 48), (2, 52), (2, 56), (2, 60), (2, 64), (2, 68), (2, 72), (2, 76), (2, 80), (2, 84)] : List q_V).getD j (9, 0)).2.toNat)) (fun j hj => ?_) D cl H hh
  rcases (show j = 0 ∨ j = 1 ∨ j = 2 ∨ j = 3 ∨ j = 4 ∨ j = 5 ∨ j = 6 ∨ j = 7 ∨ j = 8 ∨ j = 9 ∨ j = 10 ∨ j = 11 by omega) with rfl | rfl | rfl | rfl | rfl | rfl | rfl | rfl | rfl | rfl | rfl | rfl
  · exact congrArg some e40.symm
  · exact congrArg some e44.symm
  · exact congrArg some e48.symm
  · exact congrArg some e52.symm
  · exact congrArg some e56.symm
  · exact congrArg some e60.symm
  · exact congrArg some e64.symm
  · exact congrArg some e68.symm
  · exact congrArg some e72.symm
  · exact congrArg some e76.symm
  · exact congrArg some e80.symm
  · exact congrArg some e84.symm

set_option maxRecDepth 20000 in
theorem z_s_34 {G : q_G} {h : Nat} {u : List Nat} (e34 : G.2.2.1 34 = h) (e35 : G.2.2.1 35 = u.getD 0 0) (e36 : G.2.2.1 36 = u.getD 1 0) (e40 : G.2.2.1 40 = u.getD 5 0) (e44 : G.2.2.1 44 = u.getD 9 0) (e48 : G.2.2.1 48 = u.getD 13 0) (e52 : G.2.2.1 52 = u.getD 17 0) (e56 : G.2.2.1 56 = u.getD 21 0) (e60 : G.2.2.1 60 = u.getD 25 0) (e64 : G.2.2.1 64 = u.getD 29 0) (e68 : G.2.2.1 68 = u.getD 33 0) (e72 : G.2.2.1 72 = u.getD 37 0) (e76 : G.2.2.1 76 = u.getD 41 0) (e80 : G.2.2.1 80 = u.getD 45 0) (e84 : G.2.2.1 84 = u.getD 49 0) : z_sim ([(h, .inr (1, [.ref (u.getD 0 0), .ref (u.getD 1 0), .int 0])), ((u.getD 0 0), .inl (G.2.1.2.2.2, 12, .inr (.inr (.inr (.inr (va_up (va_up (va_up (va_up (va_up (va_up (va_up (va_up (va_up (va_up (va_up (va_up (fun _ => none) 0 (some (u.getD 5 0))) 1 (some (u.getD 9 0))) 2 (some (u.getD 13 0))) 3 (some (u.getD 17 0))) 4 (some (u.getD 21 0))) 5 (some (u.getD 25 0))) 6 (some (u.getD 29 0))) 7 (some (u.getD 33 0))) 8 (some (u.getD 37 0))) 9 (some (u.getD 41 0))) 10 (some (u.getD 45 0))) 11 (some (u.getD 49 0))))))))]) (q_wsr G q_s0 34 [(0, 1, [(2, 35), (2, 36), (0, 0)]), (4, 12, [(2, 40), (2, 44), (2, 48), (2, 52), (2, 56), (2, 60), (2, 64), (2, 68), (2, 72), (2, 76), (2, 80), (2, 84)])]) := by
  refine And.intro (z_obj (k := 34) e34 (show [Value.ref (G.2.2.1 35), Value.ref (G.2.2.1 36), Value.int (Int32.ofInt (q_s0 34 2))] = _ from ?_)) ?_
  · rw [e35, e36]; try rfl
  refine And.intro (z_q35 e35 e40 e44 e48 e52 e56 e60 e64 e68 e72 e76 e80 e84) ?_
  trivial

set_option maxRecDepth 20000 in
theorem z_s_36 {G : q_G} {h : Nat} {u : List Nat} (e36 : G.2.2.1 36 = h) (e37 : G.2.2.1 37 = u.getD 0 0) (e38 : G.2.2.1 38 = u.getD 1 0) (e39 : G.2.2.1 39 = u.getD 2 0) : z_sim (z_Custom G.2.1.1 G.2.1.2.1 G.2.1.2.2.1 G.2.1.2.2.2 h u) (q_wsr G q_s0 36 [(0, 2, [(0, 0), (0, 0), (0, 0), (0, 0), (0, 0), (2, 37), (2, 38), (2, 39), (0, 0)]), (1, 10, []), (1, 10, []), (1, 10, [])]) := by
  refine And.intro (z_obj (k := 36) e36 (show [Value.int (Int32.ofInt (q_s0 36 0)), Value.int (Int32.ofInt (q_s0 36 1)), Value.int (Int32.ofInt (q_s0 36 2)), Value.int (Int32.ofInt (q_s0 36 3)), Value.int (Int32.ofInt (q_s0 36 4)), Value.ref (G.2.2.1 37), Value.ref (G.2.2.1 38), Value.ref (G.2.2.1 39), Value.int (Int32.ofInt (q_s0 36 8))] = _ from ?_)) ?_
  · rw [e37, e38, e39]; try rfl
  refine And.intro (z_arI (k := 37) e37 (fun i => q_s0_z (by omega) (by omega) (by omega) i)) ?_
  refine And.intro (z_arI (k := 38) e38 (fun i => q_s0_z (by omega) (by omega) (by omega) i)) ?_
  refine And.intro (z_arI (k := 39) e39 (fun i => q_s0_z (by omega) (by omega) (by omega) i)) ?_
  trivial

set_option maxRecDepth 20000 in
theorem z_s_40 {G : q_G} {h : Nat} {u : List Nat} (e40 : G.2.2.1 40 = h) (e41 : G.2.2.1 41 = u.getD 0 0) (e42 : G.2.2.1 42 = u.getD 1 0) (e43 : G.2.2.1 43 = u.getD 2 0) : z_sim (z_Custom G.2.1.1 G.2.1.2.1 G.2.1.2.2.1 G.2.1.2.2.2 h u) (q_wsr G q_s0 40 [(0, 2, [(0, 0), (0, 0), (0, 0), (0, 0), (0, 0), (2, 41), (2, 42), (2, 43), (0, 0)]), (1, 10, []), (1, 10, []), (1, 10, [])]) := by
  refine And.intro (z_obj (k := 40) e40 (show [Value.int (Int32.ofInt (q_s0 40 0)), Value.int (Int32.ofInt (q_s0 40 1)), Value.int (Int32.ofInt (q_s0 40 2)), Value.int (Int32.ofInt (q_s0 40 3)), Value.int (Int32.ofInt (q_s0 40 4)), Value.ref (G.2.2.1 41), Value.ref (G.2.2.1 42), Value.ref (G.2.2.1 43), Value.int (Int32.ofInt (q_s0 40 8))] = _ from ?_)) ?_
  · rw [e41, e42, e43]; try rfl
  refine And.intro (z_arI (k := 41) e41 (fun i => q_s0_z (by omega) (by omega) (by omega) i)) ?_
  refine And.intro (z_arI (k := 42) e42 (fun i => q_s0_z (by omega) (by omega) (by omega) i)) ?_
  refine And.intro (z_arI (k := 43) e43 (fun i => q_s0_z (by omega) (by omega) (by omega) i)) ?_
  trivial

set_option maxRecDepth 20000 in
theorem z_s_44 {G : q_G} {h : Nat} {u : List Nat} (e44 : G.2.2.1 44 = h) (e45 : G.2.2.1 45 = u.getD 0 0) (e46 : G.2.2.1 46 = u.getD 1 0) (e47 : G.2.2.1 47 = u.getD 2 0) : z_sim (z_Custom G.2.1.1 G.2.1.2.1 G.2.1.2.2.1 G.2.1.2.2.2 h u) (q_wsr G q_s0 44 [(0, 2, [(0, 0), (0, 0), (0, 0), (0, 0), (0, 0), (2, 45), (2, 46), (2, 47), (0, 0)]), (1, 10, []), (1, 10, []), (1, 10, [])]) := by
  refine And.intro (z_obj (k := 44) e44 (show [Value.int (Int32.ofInt (q_s0 44 0)), Value.int (Int32.ofInt (q_s0 44 1)), Value.int (Int32.ofInt (q_s0 44 2)), Value.int (Int32.ofInt (q_s0 44 3)), Value.int (Int32.ofInt (q_s0 44 4)), Value.ref (G.2.2.1 45), Value.ref (G.2.2.1 46), Value.ref (G.2.2.1 47), Value.int (Int32.ofInt (q_s0 44 8))] = _ from ?_)) ?_
  · rw [e45, e46, e47]; try rfl
  refine And.intro (z_arI (k := 45) e45 (fun i => q_s0_z (by omega) (by omega) (by omega) i)) ?_
  refine And.intro (z_arI (k := 46) e46 (fun i => q_s0_z (by omega) (by omega) (by omega) i)) ?_
  refine And.intro (z_arI (k := 47) e47 (fun i => q_s0_z (by omega) (by omega) (by omega) i)) ?_
  trivial

set_option maxRecDepth 20000 in
theorem z_s_48 {G : q_G} {h : Nat} {u : List Nat} (e48 : G.2.2.1 48 = h) (e49 : G.2.2.1 49 = u.getD 0 0) (e50 : G.2.2.1 50 = u.getD 1 0) (e51 : G.2.2.1 51 = u.getD 2 0) : z_sim (z_Custom G.2.1.1 G.2.1.2.1 G.2.1.2.2.1 G.2.1.2.2.2 h u) (q_wsr G q_s0 48 [(0, 2, [(0, 0), (0, 0), (0, 0), (0, 0), (0, 0), (2, 49), (2, 50), (2, 51), (0, 0)]), (1, 10, []), (1, 10, []), (1, 10, [])]) := by
  refine And.intro (z_obj (k := 48) e48 (show [Value.int (Int32.ofInt (q_s0 48 0)), Value.int (Int32.ofInt (q_s0 48 1)), Value.int (Int32.ofInt (q_s0 48 2)), Value.int (Int32.ofInt (q_s0 48 3)), Value.int (Int32.ofInt (q_s0 48 4)), Value.ref (G.2.2.1 49), Value.ref (G.2.2.1 50), Value.ref (G.2.2.1 51), Value.int (Int32.ofInt (q_s0 48 8))] = _ from ?_)) ?_
  · rw [e49, e50, e51]; try rfl
  refine And.intro (z_arI (k := 49) e49 (fun i => q_s0_z (by omega) (by omega) (by omega) i)) ?_
  refine And.intro (z_arI (k := 50) e50 (fun i => q_s0_z (by omega) (by omega) (by omega) i)) ?_
  refine And.intro (z_arI (k := 51) e51 (fun i => q_s0_z (by omega) (by omega) (by omega) i)) ?_
  trivial

set_option maxRecDepth 20000 in
theorem z_s_52 {G : q_G} {h : Nat} {u : List Nat} (e52 : G.2.2.1 52 = h) (e53 : G.2.2.1 53 = u.getD 0 0) (e54 : G.2.2.1 54 = u.getD 1 0) (e55 : G.2.2.1 55 = u.getD 2 0) : z_sim (z_Custom G.2.1.1 G.2.1.2.1 G.2.1.2.2.1 G.2.1.2.2.2 h u) (q_wsr G q_s0 52 [(0, 2, [(0, 0), (0, 0), (0, 0), (0, 0), (0, 0), (2, 53), (2, 54), (2, 55), (0, 0)]), (1, 10, []), (1, 10, []), (1, 10, [])]) := by
  refine And.intro (z_obj (k := 52) e52 (show [Value.int (Int32.ofInt (q_s0 52 0)), Value.int (Int32.ofInt (q_s0 52 1)), Value.int (Int32.ofInt (q_s0 52 2)), Value.int (Int32.ofInt (q_s0 52 3)), Value.int (Int32.ofInt (q_s0 52 4)), Value.ref (G.2.2.1 53), Value.ref (G.2.2.1 54), Value.ref (G.2.2.1 55), Value.int (Int32.ofInt (q_s0 52 8))] = _ from ?_)) ?_
  · rw [e53, e54, e55]; try rfl
  refine And.intro (z_arI (k := 53) e53 (fun i => q_s0_z (by omega) (by omega) (by omega) i)) ?_
  refine And.intro (z_arI (k := 54) e54 (fun i => q_s0_z (by omega) (by omega) (by omega) i)) ?_
  refine And.intro (z_arI (k := 55) e55 (fun i => q_s0_z (by omega) (by omega) (by omega) i)) ?_
  trivial

set_option maxRecDepth 20000 in
theorem z_s_56 {G : q_G} {h : Nat} {u : List Nat} (e56 : G.2.2.1 56 = h) (e57 : G.2.2.1 57 = u.getD 0 0) (e58 : G.2.2.1 58 = u.getD 1 0) (e59 : G.2.2.1 59 = u.getD 2 0) : z_sim (z_Custom G.2.1.1 G.2.1.2.1 G.2.1.2.2.1 G.2.1.2.2.2 h u) (q_wsr G q_s0 56 [(0, 2, [(0, 0), (0, 0), (0, 0), (0, 0), (0, 0), (2, 57), (2, 58), (2, 59), (0, 0)]), (1, 10, []), (1, 10, []), (1, 10, [])]) := by
  refine And.intro (z_obj (k := 56) e56 (show [Value.int (Int32.ofInt (q_s0 56 0)), Value.int (Int32.ofInt (q_s0 56 1)), Value.int (Int32.ofInt (q_s0 56 2)), Value.int (Int32.ofInt (q_s0 56 3)), Value.int (Int32.ofInt (q_s0 56 4)), Value.ref (G.2.2.1 57), Value.ref (G.2.2.1 58), Value.ref (G.2.2.1 59), Value.int (Int32.ofInt (q_s0 56 8))] = _ from ?_)) ?_
  · rw [e57, e58, e59]; try rfl
  refine And.intro (z_arI (k := 57) e57 (fun i => q_s0_z (by omega) (by omega) (by omega) i)) ?_
  refine And.intro (z_arI (k := 58) e58 (fun i => q_s0_z (by omega) (by omega) (by omega) i)) ?_
  refine And.intro (z_arI (k := 59) e59 (fun i => q_s0_z (by omega) (by omega) (by omega) i)) ?_
  trivial

set_option maxRecDepth 20000 in
theorem z_s_60 {G : q_G} {h : Nat} {u : List Nat} (e60 : G.2.2.1 60 = h) (e61 : G.2.2.1 61 = u.getD 0 0) (e62 : G.2.2.1 62 = u.getD 1 0) (e63 : G.2.2.1 63 = u.getD 2 0) : z_sim (z_Custom G.2.1.1 G.2.1.2.1 G.2.1.2.2.1 G.2.1.2.2.2 h u) (q_wsr G q_s0 60 [(0, 2, [(0, 0), (0, 0), (0, 0), (0, 0), (0, 0), (2, 61), (2, 62), (2, 63), (0, 0)]), (1, 10, []), (1, 10, []), (1, 10, [])]) := by
  refine And.intro (z_obj (k := 60) e60 (show [Value.int (Int32.ofInt (q_s0 60 0)), Value.int (Int32.ofInt (q_s0 60 1)), Value.int (Int32.ofInt (q_s0 60 2)), Value.int (Int32.ofInt (q_s0 60 3)), Value.int (Int32.ofInt (q_s0 60 4)), Value.ref (G.2.2.1 61), Value.ref (G.2.2.1 62), Value.ref (G.2.2.1 63), Value.int (Int32.ofInt (q_s0 60 8))] = _ from ?_)) ?_
  · rw [e61, e62, e63]; try rfl
  refine And.intro (z_arI (k := 61) e61 (fun i => q_s0_z (by omega) (by omega) (by omega) i)) ?_
  refine And.intro (z_arI (k := 62) e62 (fun i => q_s0_z (by omega) (by omega) (by omega) i)) ?_
  refine And.intro (z_arI (k := 63) e63 (fun i => q_s0_z (by omega) (by omega) (by omega) i)) ?_
  trivial

set_option maxRecDepth 20000 in
theorem z_s_64 {G : q_G} {h : Nat} {u : List Nat} (e64 : G.2.2.1 64 = h) (e65 : G.2.2.1 65 = u.getD 0 0) (e66 : G.2.2.1 66 = u.getD 1 0) (e67 : G.2.2.1 67 = u.getD 2 0) : z_sim (z_Custom G.2.1.1 G.2.1.2.1 G.2.1.2.2.1 G.2.1.2.2.2 h u) (q_wsr G q_s0 64 [(0, 2, [(0, 0), (0, 0), (0, 0), (0, 0), (0, 0), (2, 65), (2, 66), (2, 67), (0, 0)]), (1, 10, []), (1, 10, []), (1, 10, [])]) := by
  refine And.intro (z_obj (k := 64) e64 (show [Value.int (Int32.ofInt (q_s0 64 0)), Value.int (Int32.ofInt (q_s0 64 1)), Value.int (Int32.ofInt (q_s0 64 2)), Value.int (Int32.ofInt (q_s0 64 3)), Value.int (Int32.ofInt (q_s0 64 4)), Value.ref (G.2.2.1 65), Value.ref (G.2.2.1 66), Value.ref (G.2.2.1 67), Value.int (Int32.ofInt (q_s0 64 8))] = _ from ?_)) ?_
  · rw [e65, e66, e67]; try rfl
  refine And.intro (z_arI (k := 65) e65 (fun i => q_s0_z (by omega) (by omega) (by omega) i)) ?_
  refine And.intro (z_arI (k := 66) e66 (fun i => q_s0_z (by omega) (by omega) (by omega) i)) ?_
  refine And.intro (z_arI (k := 67) e67 (fun i => q_s0_z (by omega) (by omega) (by omega) i)) ?_
  trivial

set_option maxRecDepth 20000 in
theorem z_s_68 {G : q_G} {h : Nat} {u : List Nat} (e68 : G.2.2.1 68 = h) (e69 : G.2.2.1 69 = u.getD 0 0) (e70 : G.2.2.1 70 = u.getD 1 0) (e71 : G.2.2.1 71 = u.getD 2 0) : z_sim (z_Custom G.2.1.1 G.2.1.2.1 G.2.1.2.2.1 G.2.1.2.2.2 h u) (q_wsr G q_s0 68 [(0, 2, [(0, 0), (0, 0), (0, 0), (0, 0), (0, 0), (2, 69), (2, 70), (2, 71), (0, 0)]), (1, 10, []), (1, 10, []), (1, 10, [])]) := by
  refine And.intro (z_obj (k := 68) e68 (show [Value.int (Int32.ofInt (q_s0 68 0)), Value.int (Int32.ofInt (q_s0 68 1)), Value.int (Int32.ofInt (q_s0 68 2)), Value.int (Int32.ofInt (q_s0 68 3)), Value.int (Int32.ofInt (q_s0 68 4)), Value.ref (G.2.2.1 69), Value.ref (G.2.2.1 70), Value.ref (G.2.2.1 71), Value.int (Int32.ofInt (q_s0 68 8))] = _ from ?_)) ?_
  · rw [e69, e70, e71]; try rfl
  refine And.intro (z_arI (k := 69) e69 (fun i => q_s0_z (by omega) (by omega) (by omega) i)) ?_
  refine And.intro (z_arI (k := 70) e70 (fun i => q_s0_z (by omega) (by omega) (by omega) i)) ?_
  refine And.intro (z_arI (k := 71) e71 (fun i => q_s0_z (by omega) (by omega) (by omega) i)) ?_
  trivial

set_option maxRecDepth 20000 in
theorem z_s_72 {G : q_G} {h : Nat} {u : List Nat} (e72 : G.2.2.1 72 = h) (e73 : G.2.2.1 73 = u.getD 0 0) (e74 : G.2.2.1 74 = u.getD 1 0) (e75 : G.2.2.1 75 = u.getD 2 0) : z_sim (z_Custom G.2.1.1 G.2.1.2.1 G.2.1.2.2.1 G.2.1.2.2.2 h u) (q_wsr G q_s0 72 [(0, 2, [(0, 0), (0, 0), (0, 0), (0, 0), (0, 0), (2, 73), (2, 74), (2, 75), (0, 0)]), (1, 10, []), (1, 10, []), (1, 10, [])]) := by
  refine And.intro (z_obj (k := 72) e72 (show [Value.int (Int32.ofInt (q_s0 72 0)), Value.int (Int32.ofInt (q_s0 72 1)), Value.int (Int32.ofInt (q_s0 72 2)), Value.int (Int32.ofInt (q_s0 72 3)), Value.int (Int32.ofInt (q_s0 72 4)), Value.ref (G.2.2.1 73), Value.ref (G.2.2.1 74), Value.ref (G.2.2.1 75), Value.int (Int32.ofInt (q_s0 72 8))] = _ from ?_)) ?_
  · rw [e73, e74, e75]; try rfl
  refine And.intro (z_arI (k := 73) e73 (fun i => q_s0_z (by omega) (by omega) (by omega) i)) ?_
  refine And.intro (z_arI (k := 74) e74 (fun i => q_s0_z (by omega) (by omega) (by omega) i)) ?_
  refine And.intro (z_arI (k := 75) e75 (fun i => q_s0_z (by omega) (by omega) (by omega) i)) ?_
  trivial

set_option maxRecDepth 20000 in
theorem z_s_76 {G : q_G} {h : Nat} {u : List Nat} (e76 : G.2.2.1 76 = h) (e77 : G.2.2.1 77 = u.getD 0 0) (e78 : G.2.2.1 78 = u.getD 1 0) (e79 : G.2.2.1 79 = u.getD 2 0) : z_sim (z_Custom G.2.1.1 G.2.1.2.1 G.2.1.2.2.1 G.2.1.2.2.2 h u) (q_wsr G q_s0 76 [(0, 2, [(0, 0), (0, 0), (0, 0), (0, 0), (0, 0), (2, 77), (2, 78), (2, 79), (0, 0)]), (1, 10, []), (1, 10, []), (1, 10, [])]) := by
  refine And.intro (z_obj (k := 76) e76 (show [Value.int (Int32.ofInt (q_s0 76 0)), Value.int (Int32.ofInt (q_s0 76 1)), Value.int (Int32.ofInt (q_s0 76 2)), Value.int (Int32.ofInt (q_s0 76 3)), Value.int (Int32.ofInt (q_s0 76 4)), Value.ref (G.2.2.1 77), Value.ref (G.2.2.1 78), Value.ref (G.2.2.1 79), Value.int (Int32.ofInt (q_s0 76 8))] = _ from ?_)) ?_
  · rw [e77, e78, e79]; try rfl
  refine And.intro (z_arI (k := 77) e77 (fun i => q_s0_z (by omega) (by omega) (by omega) i)) ?_
  refine And.intro (z_arI (k := 78) e78 (fun i => q_s0_z (by omega) (by omega) (by omega) i)) ?_
  refine And.intro (z_arI (k := 79) e79 (fun i => q_s0_z (by omega) (by omega) (by omega) i)) ?_
  trivial

set_option maxRecDepth 20000 in
theorem z_s_80 {G : q_G} {h : Nat} {u : List Nat} (e80 : G.2.2.1 80 = h) (e81 : G.2.2.1 81 = u.getD 0 0) (e82 : G.2.2.1 82 = u.getD 1 0) (e83 : G.2.2.1 83 = u.getD 2 0) : z_sim (z_Custom G.2.1.1 G.2.1.2.1 G.2.1.2.2.1 G.2.1.2.2.2 h u) (q_wsr G q_s0 80 [(0, 2, [(0, 0), (0, 0), (0, 0), (0, 0), (0, 0), (2, 81), (2, 82), (2, 83), (0, 0)]), (1, 10, []), (1, 10, []), (1, 10, [])]) := by
  refine And.intro (z_obj (k := 80) e80 (show [Value.int (Int32.ofInt (q_s0 80 0)), Value.int (Int32.ofInt (q_s0 80 1)), Value.int (Int32.ofInt (q_s0 80 2)), Value.int (Int32.ofInt (q_s0 80 3)), Value.int (Int32.ofInt (q_s0 80 4)), Value.ref (G.2.2.1 81), Value.ref (G.2.2.1 82), Value.ref (G.2.2.1 83), Value.int (Int32.ofInt (q_s0 80 8))] = _ from ?_)) ?_
  · rw [e81, e82, e83]; try rfl
  refine And.intro (z_arI (k := 81) e81 (fun i => q_s0_z (by omega) (by omega) (by omega) i)) ?_
  refine And.intro (z_arI (k := 82) e82 (fun i => q_s0_z (by omega) (by omega) (by omega) i)) ?_
  refine And.intro (z_arI (k := 83) e83 (fun i => q_s0_z (by omega) (by omega) (by omega) i)) ?_
  trivial

set_option maxRecDepth 20000 in
theorem z_s_84 {G : q_G} {h : Nat} {u : List Nat} (e84 : G.2.2.1 84 = h) (e85 : G.2.2.1 85 = u.getD 0 0) (e86 : G.2.2.1 86 = u.getD 1 0) (e87 : G.2.2.1 87 = u.getD 2 0) : z_sim (z_Custom G.2.1.1 G.2.1.2.1 G.2.1.2.2.1 G.2.1.2.2.2 h u) (q_wsr G q_s0 84 [(0, 2, [(0, 0), (0, 0), (0, 0), (0, 0), (0, 0), (2, 85), (2, 86), (2, 87), (0, 0)]), (1, 10, []), (1, 10, []), (1, 10, [])]) := by
  refine And.intro (z_obj (k := 84) e84 (show [Value.int (Int32.ofInt (q_s0 84 0)), Value.int (Int32.ofInt (q_s0 84 1)), Value.int (Int32.ofInt (q_s0 84 2)), Value.int (Int32.ofInt (q_s0 84 3)), Value.int (Int32.ofInt (q_s0 84 4)), Value.ref (G.2.2.1 85), Value.ref (G.2.2.1 86), Value.ref (G.2.2.1 87), Value.int (Int32.ofInt (q_s0 84 8))] = _ from ?_)) ?_
  · rw [e85, e86, e87]; try rfl
  refine And.intro (z_arI (k := 85) e85 (fun i => q_s0_z (by omega) (by omega) (by omega) i)) ?_
  refine And.intro (z_arI (k := 86) e86 (fun i => q_s0_z (by omega) (by omega) (by omega) i)) ?_
  refine And.intro (z_arI (k := 87) e87 (fun i => q_s0_z (by omega) (by omega) (by omega) i)) ?_
  trivial

set_option maxRecDepth 20000 in
theorem z_s_Faults {G : q_G} {h : Nat} {u : List Nat} (e88 : G.2.2.1 88 = h) (e89 : G.2.2.1 89 = u.getD 0 0) (e90 : G.2.2.1 90 = u.getD 1 0) (e91 : G.2.2.1 91 = u.getD 2 0) (e92 : G.2.2.1 92 = u.getD 3 0) (e93 : G.2.2.1 93 = u.getD 4 0) (e94 : G.2.2.1 94 = u.getD 5 0) (e95 : G.2.2.1 95 = u.getD 6 0) : z_sim (z_Faults G.2.1.1 G.2.1.2.1 G.2.1.2.2.1 G.2.1.2.2.2 h u) (q_wsr G q_s0 88 [(0, 3, [(2, 89), (2, 90), (2, 91), (2, 92), (2, 93), (2, 94), (2, 95), (0, 0)]), (1, 60, []), (1, 60, []), (1, 60, []), (1, 60, []), (1, 60, []), (1, 60, []), (1, 24, [])]) := by
  refine And.intro (z_obj (k := 88) e88 (show [Value.ref (G.2.2.1 89), Value.ref (G.2.2.1 90), Value.ref (G.2.2.1 91), Value.ref (G.2.2.1 92), Value.ref (G.2.2.1 93), Value.ref (G.2.2.1 94), Value.ref (G.2.2.1 95), Value.int (Int32.ofInt (q_s0 88 7))] = _ from ?_)) ?_
  · rw [e89, e90, e91, e92, e93, e94, e95]; try rfl
  refine And.intro (z_arI (k := 89) e89 (fun i => q_s0_z (by omega) (by omega) (by omega) i)) ?_
  refine And.intro (z_arI (k := 90) e90 (fun i => q_s0_z (by omega) (by omega) (by omega) i)) ?_
  refine And.intro (z_arI (k := 91) e91 (fun i => q_s0_z (by omega) (by omega) (by omega) i)) ?_
  refine And.intro (z_arI (k := 92) e92 (fun i => q_s0_z (by omega) (by omega) (by omega) i)) ?_
  refine And.intro (z_arI (k := 93) e93 (fun i => q_s0_z (by omega) (by omega) (by omega) i)) ?_
  refine And.intro (z_arI (k := 94) e94 (fun i => q_s0_z (by omega) (by omega) (by omega) i)) ?_
  refine And.intro (fun D cl H hh => (by rw [show G.2.2.1 (88 + 1 + 1 + 1 + 1 + 1 + 1 + 1) = _ from e95]; exact z_exti (g := fun j => Int32.ofInt (q_s0 95 j)) (fun j hj => z_fl_v 24 j hj) D cl H hh)) ?_
  trivial

set_option maxRecDepth 20000 in
theorem z_s_Plan {G : q_G} {h : Nat} {u : List Nat} (e96 : G.2.2.1 96 = h) (e97 : G.2.2.1 97 = u.getD 0 0) (e98 : G.2.2.1 98 = u.getD 1 0) (e99 : G.2.2.1 99 = u.getD 2 0) : z_sim (z_Plan G.2.1.1 G.2.1.2.1 G.2.1.2.2.1 G.2.1.2.2.2 h u) (q_wsr G q_s0 96 [(0, 6, [(2, 97), (2, 98), (2, 99), (0, 0), (0, 0), (0, 0)]), (3, 201, []), (3, 201, []), (3, 201, [])]) := by
  refine And.intro (z_obj (k := 96) e96 (show [Value.ref (G.2.2.1 97), Value.ref (G.2.2.1 98), Value.ref (G.2.2.1 99), Value.int (Int32.ofInt (q_s0 96 3)), Value.int (Int32.ofInt (q_s0 96 4)), Value.int (Int32.ofInt (q_s0 96 5))] = _ from ?_)) ?_
  · rw [e97, e98, e99]; try rfl
  refine And.intro (z_arJ (k := 97) e97 (fun i => q_s0_z (by omega) (by omega) (by omega) i)) ?_
  refine And.intro (z_arJ (k := 98) e98 (fun i => q_s0_z (by omega) (by omega) (by omega) i)) ?_
  refine And.intro (z_arJ (k := 99) e99 (fun i => q_s0_z (by omega) (by omega) (by omega) i)) ?_
  trivial

theorem z_w142 {G : q_G} {a : Nat} (e : G.2.2.1 142 = a) (D : va_G) (cl : List vw_C) (H : Heap) (hh : va_at D cl (a, .inl (G.2.1.1, 5, .inl (upd (upd (upd (upd (upd (fun _ => Int32.ofInt 0) 0 102) 1 114) 2 111) 3 110) 4 116))) H) : va_at D cl (G.2.2.1 142, q_ce G q_s0 142 (1, 5, [])) H := by
  rw [e]
  refine z_exti (g := fun j => Int32.ofInt (q_s0 142 j)) (fun j hj => ?_) D cl H hh
  rcases (show j = 0 ∨ j = 1 ∨ j = 2 ∨ j = 3 ∨ j = 4 by omega) with rfl | rfl | rfl | rfl | rfl <;> rfl

theorem z_w143 {G : q_G} {a : Nat} (e : G.2.2.1 143 = a) (D : va_G) (cl : List vw_C) (H : Heap) (hh : va_at D cl (a, .inl (G.2.1.1, 4, .inl (upd (upd (upd (upd (fun _ => Int32.ofInt 0) 0 111) 1 119) 2 110) 3 32))) H) : va_at D cl (G.2.2.1 143, q_ce G q_s0 143 (1, 4, [])) H := by
  rw [e]
  refine z_exti (g := fun j => Int32.ofInt (q_s0 143 j)) (fun j hj => ?_) D cl H hh
  rcases (show j = 0 ∨ j = 1 ∨ j = 2 ∨ j = 3 by omega) with rfl | rfl | rfl | rfl <;> rfl

theorem z_w144 {G : q_G} {a : Nat} (e : G.2.2.1 144 = a) (D : va_G) (cl : List vw_C) (H : Heap) (hh : va_at D cl (a, .inl (G.2.1.1, 5, .inl (upd (upd (upd (upd (upd (fun _ => Int32.ofInt 0) 0 97) 1 99) 2 114) 3 101) 4 115))) H) : va_at D cl (G.2.2.1 144, q_ce G q_s0 144 (1, 5, [])) H := by
  rw [e]
  refine z_exti (g := fun j => Int32.ofInt (q_s0 144 j)) (fun j hj => ?_) D cl H hh
  rcases (show j = 0 ∨ j = 1 ∨ j = 2 ∨ j = 3 ∨ j = 4 by omega) with rfl | rfl | rfl | rfl | rfl <;> rfl

set_option maxRecDepth 20000 in
theorem z_s_M {G : q_G} {h : Nat} {u : List Nat} (e100 : G.2.2.1 100 = h) (e101 : G.2.2.1 101 = u.getD 0 0) (e102 : G.2.2.1 102 = u.getD 1 0) (e103 : G.2.2.1 103 = u.getD 2 0) (e104 : G.2.2.1 104 = u.getD 3 0) (e105 : G.2.2.1 105 = u.getD 4 0) (e106 : G.2.2.1 106 = u.getD 5 0) (e107 : G.2.2.1 107 = u.getD 6 0) (e108 : G.2.2.1 108 = u.getD 7 0) (e109 : G.2.2.1 109 = u.getD 8 0) (e110 : G.2.2.1 110 = u.getD 9 0) (e111 : G.2.2.1 111 = u.getD 10 0) (e112 : G.2.2.1 112 = u.getD 11 0) (e113 : G.2.2.1 113 = u.getD 12 0) (e114 : G.2.2.1 114 = u.getD 13 0) (e115 : G.2.2.1 115 = u.getD 14 0) (e116 : G.2.2.1 116 = u.getD 15 0) (e117 : G.2.2.1 117 = u.getD 16 0) (e118 : G.2.2.1 118 = u.getD 17 0) (e119 : G.2.2.1 119 = u.getD 18 0) (e120 : G.2.2.1 120 = u.getD 19 0) (e121 : G.2.2.1 121 = u.getD 20 0) (e122 : G.2.2.1 122 = u.getD 21 0) (e123 : G.2.2.1 123 = u.getD 22 0) (e124 : G.2.2.1 124 = u.getD 23 0) (e125 : G.2.2.1 125 = u.getD 24 0) (e126 : G.2.2.1 126 = u.getD 25 0) (e127 : G.2.2.1 127 = u.getD 26 0) (e128 : G.2.2.1 128 = u.getD 27 0) (e129 : G.2.2.1 129 = u.getD 28 0) (e130 : G.2.2.1 130 = u.getD 29 0) (e131 : G.2.2.1 131 = u.getD 30 0) (e132 : G.2.2.1 132 = u.getD 31 0) (e133 : G.2.2.1 133 = u.getD 32 0) (e134 : G.2.2.1 134 = u.getD 33 0) (e135 : G.2.2.1 135 = u.getD 34 0) (e136 : G.2.2.1 136 = u.getD 35 0) (e137 : G.2.2.1 137 = u.getD 36 0) (e138 : G.2.2.1 138 = u.getD 37 0) (e139 : G.2.2.1 139 = u.getD 38 0) (e140 : G.2.2.1 140 = u.getD 39 0) (e141 : G.2.2.1 141 = u.getD 40 0) (e142 : G.2.2.1 142 = u.getD 41 0) (e143 : G.2.2.1 143 = u.getD 42 0) (e144 : G.2.2.1 144 = u.getD 43 0) (e145 : G.2.2.1 145 = u.getD 44 0) (e146 : G.2.2.1 146 = u.getD 45 0) (e147 : G.2.2.1 147 = u.getD 46 0) (e148 : G.2.2.1 148 = u.getD 47 0) (e149 : G.2.2.1 149 = u.getD 48 0) (e150 : G.2.2.1 150 = u.getD 49 0) : z_sim (z_M G.2.1.1 G.2.1.2.1 G.2.1.2.2.1 G.2.1.2.2.2 h u) (q_wsr G q_s0 100 [(0, 12, [(0, 0), (2, 101), (2, 102), (2, 103), (2, 104), (2, 105), (2, 106), (0, 0), (2, 107), (2, 108), (2, 109), (2, 110), (2, 111), (0, 0), (2, 112), (2, 113), (2, 114), (2, 115), (2, 116), (2, 117), (2, 118), (2, 119), (0, 0), (2, 120), (2, 121), (0, 0), (0, 0), (0, 0), (0, 0), (2, 122), (0, 0), (0, 0), (2, 123), (2, 124), (2, 125), (2, 126), (2, 127), (2, 128), (2, 129), (2, 130), (2, 131), (2, 132), (0, 0), (2, 133), (2, 134), (2, 135), (2, 136), (2, 137), (2, 138), (2, 139), (2, 140), (5, 0), (2, 141), (0, 0), (5, 0), (2, 142), (2, 143), (2, 144), (2, 145), (2, 146), (2, 147), (2, 148), (2, 149), (2, 150)]), (1, 30, []), (1, 30, []), (1, 30, []), (1, 30, []), (2, 30, []), (2, 30, []), (1, 120, []), (1, 120, []), (1, 120, []), (1, 120, []), (1, 120, []), (1, 24, []), (1, 24, []), (1, 24, []), (1, 24, []), (1, 24, []), (1, 24, []), (1, 24, []), (1, 24, []), (1, 6, []), (2, 6, []), (1, 160, []), (1, 12, []), (1, 12, []), (1, 12, []), (1, 12, []), (1, 12, []), (1, 12, []), (1, 120, []), (1, 120, []), (1, 120, []), (1, 120, []), (1, 60, []), (1, 60, []), (1, 60, []), (1, 60, []), (1, 60, []), (1, 60, []), (1, 8, []), (1, 30, []), (2, 24, []), (1, 5, []), (1, 4, []), (1, 5, []), (1, 8, []), (1, 8, []), (1, 603, []), (1, 603, []), (1, 603, []), (1, 603, [])]) := by
  refine And.intro (z_obj (k := 100) e100 (show [Value.int (Int32.ofInt (q_s0 100 0)), Value.ref (G.2.2.1 101), Value.ref (G.2.2.1 102), Value.ref (G.2.2.1 103), Value.ref (G.2.2.1 104), Value.ref (G.2.2.1 105), Value.ref (G.2.2.1 106), Value.int (Int32.ofInt (q_s0 100 7)), Value.ref (G.2.2.1 107), Value.ref (G.2.2.1 108), Value.ref (G.2.2.1 109), Value.ref (G.2.2.1 110), Value.ref (G.2.2.1 111), Value.int (Int32.ofInt (q_s0 100 13)), Value.ref (G.2.2.1 112), Value.ref (G.2.2.1 113), Value.ref (G.2.2.1 114), Value.ref (G.2.2.1 115), Value.ref (G.2.2.1 116), Value.ref (G.2.2.1 117), Value.ref (G.2.2.1 118), Value.ref (G.2.2.1 119), Value.int (Int32.ofInt (q_s0 100 22)), Value.ref (G.2.2.1 120), Value.ref (G.2.2.1 121), Value.int (Int32.ofInt (q_s0 100 25)), Value.int (Int32.ofInt (q_s0 100 26)), Value.int (Int32.ofInt (q_s0 100 27)), Value.int (Int32.ofInt (q_s0 100 28)), Value.ref (G.2.2.1 122), Value.int (Int32.ofInt (q_s0 100 30)), Value.int (Int32.ofInt (q_s0 100 31)), Value.ref (G.2.2.1 123), Value.ref (G.2.2.1 124), Value.ref (G.2.2.1 125), Value.ref (G.2.2.1 126), Value.ref (G.2.2.1 127), Value.ref (G.2.2.1 128), Value.ref (G.2.2.1 129), Value.ref (G.2.2.1 130), Value.ref (G.2.2.1 131), Value.ref (G.2.2.1 132), Value.int (Int32.ofInt (q_s0 100 42)), Value.ref (G.2.2.1 133), Value.ref (G.2.2.1 134), Value.ref (G.2.2.1 135), Value.ref (G.2.2.1 136), Value.ref (G.2.2.1 137), Value.ref (G.2.2.1 138), Value.ref (G.2.2.1 139), Value.ref (G.2.2.1 140), Value.int (Int32.ofInt (q_s0 100 51)), Value.ref (G.2.2.1 141), Value.int (Int32.ofInt (q_s0 100 53)), Value.int (Int32.ofInt (q_s0 100 54)), Value.ref (G.2.2.1 142), Value.ref (G.2.2.1 143), Value.ref (G.2.2.1 144), Value.ref (G.2.2.1 145), Value.ref (G.2.2.1 146), Value.ref (G.2.2.1 147), Value.ref (G.2.2.1 148), Value.ref (G.2.2.1 149), Value.ref (G.2.2.1 150)] = _ from ?_)) ?_
  · rw [e101, e102, e103, e104, e105, e106, e107, e108, e109, e110, e111, e112, e113, e114, e115, e116, e117, e118, e119, e120, e121, e122, e123, e124, e125, e126, e127, e128, e129, e130, e131, e132, e133, e134, e135, e136, e137, e138, e139, e140, e141, e142, e143, e144, e145, e146, e147, e148, e149, e150]; try rfl
  refine And.intro (z_arI (k := 101) e101 (fun i => q_s0_z (by omega) (by omega) (by omega) i)) ?_
  refine And.intro (z_arI (k := 102) e102 (fun i => q_s0_z (by omega) (by omega) (by omega) i)) ?_
  refine And.intro (z_arI (k := 103) e103 (fun i => q_s0_z (by omega) (by omega) (by omega) i)) ?_
  refine And.intro (z_arI (k := 104) e104 (fun i => q_s0_z (by omega) (by omega) (by omega) i)) ?_
  refine And.intro (z_arZ (k := 105) e105 (fun i => q_s0_z (by omega) (by omega) (by omega) i)) ?_
  refine And.intro (z_arZ (k := 106) e106 (fun i => q_s0_z (by omega) (by omega) (by omega) i)) ?_
  refine And.intro (z_arI (k := 107) e107 (fun i => q_s0_z (by omega) (by omega) (by omega) i)) ?_
  refine And.intro (z_arI (k := 108) e108 (fun i => q_s0_z (by omega) (by omega) (by omega) i)) ?_
  refine And.intro (z_arI (k := 109) e109 (fun i => q_s0_z (by omega) (by omega) (by omega) i)) ?_
  refine And.intro (z_arI (k := 110) e110 (fun i => q_s0_z (by omega) (by omega) (by omega) i)) ?_
  refine And.intro (z_arI (k := 111) e111 (fun i => q_s0_z (by omega) (by omega) (by omega) i)) ?_
  refine And.intro (z_arI (k := 112) e112 (fun i => q_s0_z (by omega) (by omega) (by omega) i)) ?_
  refine And.intro (z_arI (k := 113) e113 (fun i => q_s0_z (by omega) (by omega) (by omega) i)) ?_
  refine And.intro (z_arI (k := 114) e114 (fun i => q_s0_z (by omega) (by omega) (by omega) i)) ?_
  refine And.intro (z_arI (k := 115) e115 (fun i => q_s0_z (by omega) (by omega) (by omega) i)) ?_
  refine And.intro (z_arI (k := 116) e116 (fun i => q_s0_z (by omega) (by omega) (by omega) i)) ?_
  refine And.intro (z_arI (k := 117) e117 (fun i => q_s0_z (by omega) (by omega) (by omega) i)) ?_
  refine And.intro (z_arI (k := 118) e118 (fun i => q_s0_z (by omega) (by omega) (by omega) i)) ?_
  refine And.intro (z_arI (k := 119) e119 (fun i => q_s0_z (by omega) (by omega) (by omega) i)) ?_
  refine And.intro (z_arI (k := 120) e120 (fun i => q_s0_z (by omega) (by omega) (by omega) i)) ?_
  refine And.intro (z_arZ (k := 121) e121 (fun i => q_s0_z (by omega) (by omega) (by omega) i)) ?_
  refine And.intro (z_arI (k := 122) e122 (fun i => q_s0_z (by omega) (by omega) (by omega) i)) ?_
  refine And.intro (z_arI (k := 123) e123 (fun i => q_s0_z (by omega) (by omega) (by omega) i)) ?_
  refine And.intro (z_arI (k := 124) e124 (fun i => q_s0_z (by omega) (by omega) (by omega) i)) ?_
  refine And.intro (z_arI (k := 125) e125 (fun i => q_s0_z (by omega) (by omega) (by omega) i)) ?_
  refine And.intro (z_arI (k := 126) e126 (fun i => q_s0_z (by omega) (by omega) (by omega) i)) ?_
  refine And.intro (z_arI (k := 127) e127 (fun i => q_s0_z (by omega) (by omega) (by omega) i)) ?_
  refine And.intro (z_arI (k := 128) e128 (fun i => q_s0_z (by omega) (by omega) (by omega) i)) ?_
  refine And.intro (z_arI (k := 129) e129 (fun i => q_s0_z (by omega) (by omega) (by omega) i)) ?_
  refine And.intro (z_arI (k := 130) e130 (fun i => q_s0_z (by omega) (by omega) (by omega) i)) ?_
  refine And.intro (z_arI (k := 131) e131 (fun i => q_s0_z (by omega) (by omega) (by omega) i)) ?_
  refine And.intro (z_arI (k := 132) e132 (fun i => q_s0_z (by omega) (by omega) (by omega) i)) ?_
  refine And.intro (z_arI (k := 133) e133 (fun i => q_s0_z (by omega) (by omega) (by omega) i)) ?_
  refine And.intro (z_arI (k := 134) e134 (fun i => q_s0_z (by omega) (by omega) (by omega) i)) ?_
  refine And.intro (z_arI (k := 135) e135 (fun i => q_s0_z (by omega) (by omega) (by omega) i)) ?_
  refine And.intro (z_arI (k := 136) e136 (fun i => q_s0_z (by omega) (by omega) (by omega) i)) ?_
  refine And.intro (z_arI (k := 137) e137 (fun i => q_s0_z (by omega) (by omega) (by omega) i)) ?_
  refine And.intro (z_arI (k := 138) e138 (fun i => q_s0_z (by omega) (by omega) (by omega) i)) ?_
  refine And.intro (z_arI (k := 139) e139 (fun i => q_s0_z (by omega) (by omega) (by omega) i)) ?_
  refine And.intro (z_arI (k := 140) e140 (fun i => q_s0_z (by omega) (by omega) (by omega) i)) ?_
  refine And.intro (z_arZ (k := 141) e141 (fun i => q_s0_z (by omega) (by omega) (by omega) i)) ?_
  refine And.intro (z_w142 e142) ?_
  refine And.intro (z_w143 e143) ?_
  refine And.intro (z_w144 e144) ?_
  refine And.intro (z_arI (k := 145) e145 (fun i => q_s0_z (by omega) (by omega) (by omega) i)) ?_
  refine And.intro (z_arI (k := 146) e146 (fun i => q_s0_z (by omega) (by omega) (by omega) i)) ?_
  refine And.intro (z_arI (k := 147) e147 (fun i => q_s0_z (by omega) (by omega) (by omega) i)) ?_
  refine And.intro (z_arI (k := 148) e148 (fun i => q_s0_z (by omega) (by omega) (by omega) i)) ?_
  refine And.intro (z_arI (k := 149) e149 (fun i => q_s0_z (by omega) (by omega) (by omega) i)) ?_
  refine And.intro (z_arI (k := 150) e150 (fun i => q_s0_z (by omega) (by omega) (by omega) i)) ?_
  trivial

