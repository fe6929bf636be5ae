/-- the start -/
def q_s0 (k i : Int) : Int := if k = 95 then -1 else if k = 142 then ([102, 114, 111, 110, 116] : List Int).getD i.toNat 0 else if k = 143 then ([111, 119, 110, 32] : List Int).getD i.toNat 0 else if k = 144 then ([97, 99, 114, 101, 115] : List Int).getD i.toNat 0 else if (36 ≤ k ∧ k ≤ 84 ∧ k % 4 = 0) ∧ i = 3 then 99 else 0
theorem q_s0_w {l : List Int} (h : ∀ x ∈ l, 0 ≤ x ∧ x ≤ 119) (n : Nat) : 0 ≤ l.getD n 0 ∧ l.getD n 0 ≤ 119 := by
  rw [List.getD_eq_getElem?_getD]
  cases hn : l[n]? with
  | none => simp
  | some x => exact h x (List.mem_of_getElem? hn)
theorem q_s0_in (k i : Int) : -1 ≤ q_s0 k i ∧ q_s0 k i ≤ 119 := by
  have w1 := q_s0_w (l := [102, 114, 111, 110, 116]) (by decide) i.toNat
  have w2 := q_s0_w (l := [111, 119, 110, 32]) (by decide) i.toNat
  have w3 := q_s0_w (l := [97, 99, 114, 101, 115]) (by decide) i.toNat
  unfold q_s0
  repeat' split
  all_goals omega
theorem q_s0_m {k : Int} (i : Int) (h : 96 ≤ k) (h1 : ¬ (142 ≤ k ∧ k ≤ 144)) : q_s0 k i = 0 := by
  unfold q_s0
  rw [if_neg (by omega), if_neg (by omega), if_neg (by omega), if_neg (by omega), if_neg (by omega)]
theorem q_s0_n {k : Int} (i : Int) (h : ¬ (142 ≤ k ∧ k ≤ 144)) (h1 : k ≠ 95) (h2 : ¬ (36 ≤ k ∧ k ≤ 84)) : q_s0 k i = 0 := by
  unfold q_s0
  rw [if_neg (by omega), if_neg (by omega), if_neg (by omega), if_neg (by omega), if_neg (by omega)]
theorem q_IN0 : q_IN q_s0 := by
  refine ⟨fun k i => ?_, ⟨?_, ?_, ?_, ⟨?_, fun j hj => ?_, fun k hk c o d => ?_⟩, ⟨?_, fun c _ _ => ?_, fun j => ?_, fun c _ _ => ?_⟩, ⟨?_, fun i h0 h1 => ?_⟩, fun i _ _ => ?_, fun i _ _ => ?_, fun i _ _ => ?_, fun j _ _ => ?_, fun j _ _ => ?_, fun j _ _ => ?_⟩, fun i _ _ => ?_, ?_, fun i _ _ => ?_, ?_⟩
  · unfold q_s0
    repeat' split
    all_goals (unfold q_ok; omega)
  · rw [q_s0_m 13 (by omega) (by omega)]; omega
  · rw [q_s0_m 22 (by omega) (by omega)]; omega
  · rw [q_s0_m 30 (by omega) (by omega)]; omega
  · rw [q_s0_m 7 (by omega) (by omega)]; omega
  · rw [q_s0_m 7 (by omega) (by omega)] at hj; omega
  · rw [q_s0_m 7 (by omega) (by omega)] at hk
    have e : k = 0 := by omega
    subst e
    unfold q_hof
    split <;> omega
  · rw [q_s0_m 31 (by omega) (by omega)]; omega
  · rw [q_s0_m c (by omega) (by omega)]; omega
  · rw [q_s0_m j (by omega) (by omega), q_s0_m j (by omega) (by omega)]; omega
  · rw [q_s0_m c (by omega) (by omega)]; omega
  · rw [q_s0_m 42 (by omega) (by omega)]; omega
  · rw [q_s0_m 13 (by omega) (by omega)] at h1; omega
  · rw [q_s0_m i (by omega) (by omega)]; omega
  · rw [q_s0_m i (by omega) (by omega)]; omega
  · rw [q_s0_m i (by omega) (by omega)]; omega
  · exact (q_s0_w (l := [102, 114, 111, 110, 116]) (by decide) j.toNat).1
  · exact (q_s0_w (l := [111, 119, 110, 32]) (by decide) j.toNat).1
  · exact (q_s0_w (l := [97, 99, 114, 101, 115]) (by decide) j.toNat).1
  · rw [q_s0_n i (by omega) (by omega) (by omega), q_s0_m i (by omega) (by omega)]
  · rw [q_s0_n 9 (by omega) (by omega) (by omega), q_s0_m 13 (by omega) (by omega)]
  · rw [q_s0_n i (by omega) (by omega) (by omega), q_s0_m i (by omega) (by omega)]
  · rw [q_s0_n 2 (by omega) (by omega) (by omega), q_s0_m 22 (by omega) (by omega)]
theorem q_cm0 : q_cm q_lay q_s0 := fun k c j _ => by
  have := q_s0_in k j
  constructor
  · intro _; unfold q_i64; omega
  · intro _; unfold q_i32; omega
/-- the addresses -/
def z_adr (hA : Nat) (uA : List Nat × List (List Nat)) (hM : Nat) (uM : List Nat) (k : Nat) : Nat := ([hA, uA.1.getD 0 0, (uA.2.getD 0 []).getD 0 0, (uA.2.getD 0 []).getD 1 0, (uA.2.getD 0 []).getD 2 0, (uA.2.getD 0 []).getD 3 0, (uA.2.getD 0 []).getD 4 0, uA.1.getD 1 0, (uA.2.getD 1 []).getD 0 0, (uA.2.getD 1 []).getD 1 0, (uA.2.getD 1 []).getD 2 0, (uA.2.getD 1 []).getD 3 0, (uA.2.getD 1 []).getD 4 0, uA.1.getD 2 0, (uA.2.getD 2 []).getD 0 0, (uA.2.getD 2 []).getD 1 0, (uA.2.getD 2 []).getD 2 0, uA.1.getD 3 0, (uA.2.getD 3 []).getD 0 0, (uA.2.getD 3 []).getD 1 0, (uA.2.getD 3 []).getD 2 0, (uA.2.getD 3 []).getD 3 0, (uA.2.getD 3 []).getD 4 0, (uA.2.getD 3 []).getD 5 0, (uA.2.getD 3 []).getD 6 0, (uA.2.getD 3 []).getD 7 0, (uA.2.getD 3 []).getD 8 0, uA.1.getD 4 0, (uA.2.getD 4 []).getD 0 0, (uA.2.getD 4 []).getD 1 0, uA.1.getD 5 0, (uA.2.getD 5 []).getD 0 0, uA.1.getD 6 0, (uA.2.getD 6 []).getD 0 0, uA.1.getD 7 0, (uA.2.getD 7 []).getD 0 0, (uA.2.getD 7 []).getD 1 0, ((uA.2.getD 7 []).drop 2).getD 0 0, ((uA.2.getD 7 []).drop 2).getD 1 0, ((uA.2.getD 7 []).drop 2).getD 2 0, (uA.2.getD 7 []).getD 5 0, ((uA.2.getD 7 []).drop 6).getD 0 0, ((uA.2.getD 7 []).drop 6).getD 1 0, ((uA.2.getD 7 []).drop 6).getD 2 0, (uA.2.getD 7 []).getD 9 0, ((uA.2.getD 7 []).drop 10).getD 0 0, ((uA.2.getD 7 []).drop 10).getD 1 0, ((uA.2.getD 7 []).drop 10).getD 2 0, (uA.2.getD 7 []).getD 13 0, ((uA.2.getD 7 []).drop 14).getD 0 0, ((uA.2.getD 7 []).drop 14).getD 1 0, ((uA.2.getD 7 []).drop 14).getD 2 0, (uA.2.getD 7 []).getD 17 0, ((uA.2.getD 7 []).drop 18).getD 0 0, ((uA.2.getD 7 []).drop 18).getD 1 0, ((uA.2.getD 7 []).drop 18).getD 2 0, (uA.2.getD 7 []).getD 21 0, ((uA.2.getD 7 []).drop 22).getD 0 0, ((uA.2.getD 7 []).drop 22).getD 1 0, ((uA.2.getD 7 []).drop 22).getD 2 0, (uA.2.getD 7 []).getD 25 0, ((uA.2.getD 7 []).drop 26).getD 0 0, ((uA.2.getD 7 []).drop 26).getD 1 0, ((uA.2.getD 7 []).drop 26).getD 2 0, (uA.2.getD 7 []).getD 29 0, ((uA.2.getD 7 []).drop 30).getD 0 0, ((uA.2.getD 7 []).drop 30).getD 1 0, ((uA.2.getD 7 []).drop 30).getD 2 0, (uA.2.getD 7 []).getD 33 0, ((uA.2.getD 7 []).drop 34).getD 0 0, ((uA.2.getD 7 []).drop 34).getD 1 0, ((uA.2.getD 7 []).drop 34).getD 2 0, (uA.2.getD 7 []).getD 37 0, ((uA.2.getD 7 []).drop 38).getD 0 0, ((uA.2.getD 7 []).drop 38).getD 1 0, ((uA.2.getD 7 []).drop 38).getD 2 0, (uA.2.getD 7 []).getD 41 0, ((uA.2.getD 7 []).drop 42).getD 0 0, ((uA.2.getD 7 []).drop 42).getD 1 0, ((uA.2.getD 7 []).drop 42).getD 2 0, (uA.2.getD 7 []).getD 45 0, ((uA.2.getD 7 []).drop 46).getD 0 0, ((uA.2.getD 7 []).drop 46).getD 1 0, ((uA.2.getD 7 []).drop 46).getD 2 0, (uA.2.getD 7 []).getD 49 0, ((uA.2.getD 7 []).drop 50).getD 0 0, ((uA.2.getD 7 []).drop 50).getD 1 0, ((uA.2.getD 7 []).drop 50).getD 2 0, uA.1.getD 8 0, (uA.2.getD 8 []).getD 0 0, (uA.2.getD 8 []).getD 1 0, (uA.2.getD 8 []).getD 2 0, (uA.2.getD 8 []).getD 3 0, (uA.2.getD 8 []).getD 4 0, (uA.2.getD 8 []).getD 5 0, (uA.2.getD 8 []).getD 6 0, uA.1.getD 9 0, (uA.2.getD 9 []).getD 0 0, (uA.2.getD 9 []).getD 1 0, (uA.2.getD 9 []).getD 2 0, hM, uM.getD 0 0, uM.getD 1 0, uM.getD 2 0, uM.getD 3 0, uM.getD 4 0, uM.getD 5 0, uM.getD 6 0, uM.getD 7 0, uM.getD 8 0, uM.getD 9 0, uM.getD 10 0, uM.getD 11 0, uM.getD 12 0, uM.getD 13 0, uM.getD 14 0, uM.getD 15 0, uM.getD 16 0, uM.getD 17 0, uM.getD 18 0, uM.getD 19 0, uM.getD 20 0, uM.getD 21 0, uM.getD 22 0, uM.getD 23 0, uM.getD 24 0, uM.getD 25 0, uM.getD 26 0, uM.getD 27 0, uM.getD 28 0, uM.getD 29 0, uM.getD 30 0, uM.getD 31 0, uM.getD 32 0, uM.getD 33 0, uM.getD 34 0, uM.getD 35 0, uM.getD 36 0, uM.getD 37 0, uM.getD 38 0, uM.getD 39 0, uM.getD 40 0, uM.getD 41 0, uM.getD 42 0, uM.getD 43 0, uM.getD 44 0, uM.getD 45 0, uM.getD 46 0, uM.getD 47 0, uM.getD 48 0, uM.getD 49 0] : List Nat).getD k 0
def z_G (D : va_G) (tI tZ tJ tQ : ClassId) (hA : Nat) (uA : List Nat × List (List Nat)) (hM : Nat) (uM : List Nat) (X : Nat → Value) : q_G := (D, (tI, tZ, tJ, tQ), z_adr hA uA hM uM, X)
def q_wsr (G : q_G) (σ : q_S) : Nat → List q_C → va_W
  | _, [] => []
  | k, c :: l => (G.2.2.1 k, q_ce G σ k c) :: q_wsr G σ (k + 1) l
theorem q_wsr_get {G : q_G} {σ : q_S} : ∀ (l : List q_C) (k i : Nat), (q_wsr G σ k l)[i]? = (l[i]?).map (fun c => (G.2.2.1 (k + i), q_ce G σ (k + i) c))
  | [], k, i => by simp [q_wsr]
  | c :: l, k, 0 => rfl
  | c :: l, k, i + 1 => by
    have := q_wsr_get (G := G) (σ := σ) l (k + 1) i
    rw [show k + 1 + i = k + (i + 1) by omega] at this
    exact this
theorem q_ws_eq {G : q_G} {σ : q_S} {lay : List q_C} : q_ws G lay σ = q_wsr G σ 0 lay := by
  apply List.ext_getElem?
  intro i
  unfold q_ws
  rw [List.getElem?_mapIdx, q_wsr_get, Nat.zero_add]
/-- two worlds, cell by cell -/
def z_sim : va_W → va_W → Prop
  | [], [] => True
  | p :: w, q :: w' => (∀ (D : va_G) (cl : List vw_C) (H : Heap), va_at D cl p H → va_at D cl q H) ∧ z_sim w w'
  | _, _ => False
theorem z_sim_ok {D : va_G} {cl : List vw_C} {H : Heap} : ∀ {w w' : va_W}, z_sim w w' → va_P D cl w H → va_P D cl w' H
  | [], [], _, h => h
  | p :: w, q :: w', hs, h => by
    intro k x hk
    cases k with
    | zero => cases hk; exact hs.1 D cl H (h 0 p rfl)
    | succ k => exact z_sim_ok hs.2 (fun j y hj => h (j + 1) y hj) k x hk
theorem z_arrV {cI : ClassId} {n : Nat} {f g : Nat → Value} (h : ∀ j, j < n → f j = g j) : arrV cI n f = arrV cI n g := by
  unfold arrV
  congr 1
  apply congrArg
  funext j
  exact h j.val j.isLt
theorem z_exti {a : Nat} {cI : ClassId} {n : Nat} {f g : Nat → Int32} (h : ∀ j, j < n → f j = g j) (D : va_G) (cl : List vw_C) (H : Heap) (h1 : va_at D cl (a, .inl (cI, n, .inl f)) H) : va_at D cl (a, .inl (cI, n, .inl g)) H := by
  have e : vp_cell cI (n, .inl f) = vp_cell cI (n, .inl g) := by rw [vp_cell_i, vp_cell_i]; exact z_arrV (fun j hj => by rw [h j hj])
  show H[a]? = some (vp_cell cI (n, .inl g))
  rw [← e]
  exact h1
theorem z_extq {a : Nat} {cI : ClassId} {n : Nat} {f g : Nat → Option Nat} (h : ∀ j, j < n → f j = g j) (D : va_G) (cl : List vw_C) (H : Heap) (h1 : va_at D cl (a, .inl (cI, n, .inr (.inr (.inr (.inr f))))) H) : va_at D cl (a, .inl (cI, n, .inr (.inr (.inr (.inr g))))) H := by
  have e : vp_cell cI (n, .inr (.inr (.inr (.inr f)))) = vp_cell cI (n, .inr (.inr (.inr (.inr g)))) := by rw [vp_cell_q, vp_cell_q]; exact z_arrV (fun j hj => by rw [h j hj])
  show H[a]? = some (vp_cell cI (n, .inr (.inr (.inr (.inr g)))))
  rw [← e]
  exact h1
theorem z_fl_v : ∀ (n j : Nat), j < n → z_fl n j = Int32.ofInt (-1)
  | 0, j, h => by omega
  | n + 1, j, h => by
    show upd (z_fl n) n (-1) j = Int32.ofInt (-1)
    unfold upd
    split
    · rfl
    · exact z_fl_v n j (by omega)
theorem z_dd {A : Nat → Prop} {w w' : va_W} (h : w.map Prod.fst = w'.map Prod.fst) (hD : va_D A w) : va_D A w' := by
  have key : ∀ (k : Nat) (q : Nat × va_E), w'[k]? = some q → ∃ p, w[k]? = some p ∧ p.1 = q.1 := by
    intro k q hk
    have h1 : (w.map Prod.fst)[k]? = some q.1 := by rw [h, List.getElem?_map, hk]; rfl
    rw [List.getElem?_map] at h1
    cases hw : w[k]? with
    | none => rw [hw] at h1; cases h1
    | some p => rw [hw] at h1; exact ⟨p, rfl, Option.some.inj h1⟩
  refine ⟨fun i j p q hi hj e => ?_, fun k q hk => ?_⟩
  · obtain ⟨p', h1, h2⟩ := key i p hi
    obtain ⟨q', h3, h4⟩ := key j q hj
    exact hD.1 i j p' q' h1 h3 (h2.trans (e.trans h4.symm))
  · obtain ⟨p, h1, h2⟩ := key k q hk
    rw [← h2]
    exact hD.2 k p h1

