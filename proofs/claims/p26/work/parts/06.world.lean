/-! the world that a layout and a function stand for -/
abbrev q_G : Type := va_G × (ClassId × ClassId × ClassId × ClassId) × (Nat → Nat) × (Nat → Value)
def q_cv (G : q_G) (v : q_V) : Value :=
  match v with
  | (0, x) => .int (Int32.ofInt x)
  | (1, x) => .long (Int64.ofInt x)
  | (2, x) => .ref (G.2.2.1 x.toNat)
  | (4, x) => G.2.2.2 x.toNat
  | _ => .null
def q_sv (G : q_G) (σ : q_S) (k j : Nat) (s : q_V) : Value :=
  match s with
  | (2, x) => .ref (G.2.2.1 x.toNat)
  | _ => .int (Int32.ofInt (σ k j))
def q_ce (G : q_G) (σ : q_S) (k : Nat) (c : q_C) : va_E :=
  match c with
  | (0, ci, fs) => .inr (ci, fs.mapIdx (fun j s => q_sv G σ k j s))
  | (1, n, _) => .inl (G.2.1.1, n, .inl (fun j => Int32.ofInt (σ k j)))
  | (2, n, _) => .inl (G.2.1.2.1, n, .inl (fun j => Int32.ofInt (σ k j)))
  | (3, n, _) => .inl (G.2.1.2.2.1, n, .inr (.inl (fun j => Int64.ofInt (σ k j))))
  | (_, n, fs) => .inl (G.2.1.2.2.2, n, .inr (.inr (.inr (.inr (fun j => some (G.2.2.1 (fs.getD j (9, 0)).2.toNat))))))
def q_ws (G : q_G) (lay : List q_C) (σ : q_S) : va_W := lay.mapIdx (fun k c => (G.2.2.1 k, q_ce G σ k c))
theorem q_ws_get {G : q_G} {lay : List q_C} {σ : q_S} {k : Nat} {c : q_C} (h : lay[k]? = some c) : (q_ws G lay σ)[k]? = some (G.2.2.1 k, q_ce G σ k c) := by
  unfold q_ws
  rw [List.getElem?_mapIdx, h]
  rfl
theorem q_at_some {lay : List q_C} {r : Int} {c : q_C} (h : q_at lay r = c) (h9 : c.1 ≠ 9) : ∃ m : Nat, r = (m : Int) ∧ lay[m]? = some c := by
  cases r with
  | ofNat m =>
    refine ⟨m, rfl, ?_⟩
    have h : lay.getD m (9, 0, []) = c := h
    rw [List.getD_eq_getElem?_getD] at h
    cases hm : lay[m]? with
    | none => rw [hm] at h; subst h; exact absurd rfl h9
    | some d => rw [hm] at h; exact congrArg some h
  | negSucc m =>
    have h : ((9, 0, []) : q_C) = c := h
    subst h
    exact absurd rfl h9
theorem q_ax_some {xt : List q_X} {r : Int} {c : q_X} (h : q_ax xt r = c) (h9 : c.1 ≠ 9) : ∃ m : Nat, r = (m : Int) ∧ xt[m]? = some c := by
  cases r with
  | ofNat m =>
    refine ⟨m, rfl, ?_⟩
    have h : xt.getD m (9, 0, fun _ => 0) = c := h
    rw [List.getD_eq_getElem?_getD] at h
    cases hm : xt[m]? with
    | none => rw [hm] at h; subst h; exact absurd rfl h9
    | some d => rw [hm] at h; exact congrArg some h
  | negSucc m =>
    have h : ((9, 0, fun _ => 0) : q_X) = c := h
    subst h
    exact absurd rfl h9
/-- a write at a cell: the other cells stay -/
theorem q_ce_ne {G : q_G} {σ : q_S} {k m : Nat} {i v : Int} (h : k ≠ m) (c : q_C) : q_ce G (q_up σ m i v) k c = q_ce G σ k c := by
  have e : ∀ j : Int, q_up σ m i v k j = σ k j := fun j => by unfold q_up; rw [if_neg (by omega)]
  have e2 : ∀ (j : Nat) (s : q_V), q_sv G (q_up σ m i v) k j s = q_sv G σ k j s := by
    intro j s
    unfold q_sv
    split
    · rfl
    · rw [e]
  unfold q_ce
  split
  · simp only [e2]
  · simp only [e]
  · simp only [e]
  · simp only [e]
  · rfl
theorem q_ws_up {G : q_G} {lay : List q_C} {σ : q_S} {m : Nat} {c : q_C} {i v : Int} (h : lay[m]? = some c) : q_ws G lay (q_up σ m i v) = (q_ws G lay σ).set m (G.2.2.1 m, q_ce G (q_up σ m i v) m c) := by
  apply List.ext_getElem?
  intro k
  rw [List.getElem?_set]
  unfold q_ws
  simp only [List.getElem?_mapIdx, List.length_mapIdx]
  by_cases hk : m = k
  · subst hk
    rw [if_pos rfl, if_pos (List.getElem?_eq_some_iff.mp h).1, h]
    rfl
  · rw [if_neg hk]
    cases hl : lay[k]? with
    | none => rfl
    | some d =>
      simp only [Option.map_some]
      rw [q_ce_ne (fun e => hk e.symm)]
/-- values that are what they say -/
def q_c1 (v : q_V) : Prop := (v.1 = 0 → q_i32 v.2) ∧ (v.1 = 1 → q_i64 v.2)
def q_cr (r : q_R) : Prop := match r with
  | some v => q_c1 v
  | none => True
def q_cs (l : List q_V) : Prop := ∀ v ∈ l, q_c1 v
def q_cm (lay : List q_C) (σ : q_S) : Prop := ∀ (k : Nat) (c : q_C) (j : Int), lay[k]? = some c → (c.1 = 3 → q_i64 (σ k j)) ∧ (c.1 ≠ 3 → q_i32 (σ k j))
def q_cx (xt : List q_X) : Prop := ∀ (k : Nat) (c : q_X) (j : Int), xt[k]? = some c → q_i32 (c.2.2 j)
theorem q_cs_cons {v : q_V} {l : List q_V} : q_cs (v :: l) ↔ q_c1 v ∧ q_cs l := by unfold q_cs; simp
theorem q_cs_nil : q_cs [] := fun v h => by cases h
theorem q_c1_0 {x : Int} (h : q_i32 x) : q_c1 (0, x) := ⟨fun _ => h, fun e => by cases e⟩
theorem q_c1_1 {x : Int} (h : q_i64 x) : q_c1 (1, x) := ⟨fun e => (by cases e), fun _ => h⟩
theorem q_c1_o {n : Nat} {x : Int} (h : 2 ≤ n) : q_c1 (n, x) := ⟨fun e => by simp only at e; omega, fun e => by simp only at e; omega⟩
theorem q_cs_set {l : List q_V} {k : Nat} {v : q_V} (hl : q_cs l) (hv : q_c1 v) : q_cs (l.set k v) := fun w hw => by
  rcases List.mem_or_eq_of_mem_set hw with h | h
  · exact hl w h
  · rw [h]; exact hv
theorem q_cm_up {lay : List q_C} {σ : q_S} {m : Nat} {c : q_C} {i v : Int} (h : q_cm lay σ) (hm : lay[m]? = some c) (hv : (c.1 = 3 → q_i64 v) ∧ (c.1 ≠ 3 → q_i32 v)) : q_cm lay (q_up σ m i v) := by
  intro k d j hk
  have hs := h k d j hk
  unfold q_up
  by_cases e : (k : Int) = m
  · have e2 : k = m := by omega
    subst e2
    rw [hk] at hm
    cases hm
    rw [if_pos rfl]
    split
    · exact hv
    · exact hs
  · rw [if_neg e]; exact hs
/-- the locals -/
def q_HL (G : q_G) (sl : Array Slot) (nL : Nat) (ls : List q_V) : Prop := ls.length = nL ∧ sl.size = nL ∧ lv_wf sl ∧ ∀ (k : Nat) (v : q_V), ls[k]? = some v → v.1 ≤ 4 → sl[k]? = some (.val (q_cv G v))
def q_lv (G : q_G) (ls : List q_V) : List (Nat × Value) := ((ls.mapIdx (fun k v => (k, v))).filter (fun q => q.2.1 ≤ 4)).map (fun q => (q.1, q_cv G q.2))
theorem q_lv_mem {G : q_G} {ls : List q_V} {k : Nat} {w : Value} : (k, w) ∈ q_lv G ls ↔ ∃ v, ls[k]? = some v ∧ v.1 ≤ 4 ∧ w = q_cv G v := by
  unfold q_lv
  constructor
  · intro h
    obtain ⟨q, hq, he⟩ := List.mem_map.mp h
    obtain ⟨h1, h2⟩ := List.mem_filter.mp hq
    obtain ⟨i, hi, e⟩ := List.mem_mapIdx.mp h1
    cases he
    rw [← e] at h2 ⊢
    exact ⟨ls[i], List.getElem?_eq_getElem hi, by simpa using h2, rfl⟩
  · rintro ⟨v, h1, h2, h3⟩
    obtain ⟨hk, e⟩ := List.getElem?_eq_some_iff.mp h1
    refine List.mem_map.mpr ⟨(k, v), List.mem_filter.mpr ⟨List.mem_mapIdx.mpr ⟨k, hk, by rw [e]⟩, by simpa using h2⟩, by rw [h3]⟩
theorem q_HL_has {G : q_G} {sl : Array Slot} {nL : Nat} {ls : List q_V} (h : q_HL G sl nL ls) : lv_has sl nL (q_lv G ls) := by
  refine ⟨h.2.1, h.2.2.1, ?_⟩
  rintro ⟨k, w⟩ hq
  obtain ⟨v, h1, h2, h3⟩ := q_lv_mem.mp hq
  rw [h3]
  exact h.2.2.2 k v h1 h2
/-- what the things outside are: each a reference or null -/
def q_xr (G : q_G) : Prop := ∀ r : Nat, (∃ t, G.2.2.2 r = .ref t) ∨ (r = 2 ∧ G.2.2.2 r = .null)
theorem q_cat1 {G : q_G} (hx : q_xr G) {v : q_V} (h : v.1 ≠ 1) : (q_cv G v).category = 1 := by
  obtain ⟨n, x⟩ := v
  unfold q_cv
  split
  · rfl
  · rename_i e; cases e; exact absurd rfl h
  · rfl
  · rename_i y e
    rcases hx y.toNat with ⟨t, e⟩ | ⟨-, e⟩ <;> rw [e] <;> rfl
  · rfl
theorem q_cat2 {G : q_G} {x : Int} : (q_cv G (1, x)).category = 2 := rfl
theorem q_HL_st1 {G : q_G} (hx : q_xr G) {sl sl' : Array Slot} {nL : Nat} {ls : List q_V} {i : Nat} {v : q_V} (h : q_HL G sl nL ls) (hp : ¬ ((ls.getD (i - 1) (9, 0)).1 = 1 ∧ 0 < i))
    (h' : lv_has sl' nL ((i, q_cv G v) :: (q_lv G ls).filter (fun q => !(q.1 == i) && !(q.1 + 1 == i && q.2.category == 2)))) : q_HL G sl' nL (ls.set i v) := by
  refine ⟨by rw [List.length_set]; exact h.1, h'.1, h'.2.1, ?_⟩
  intro k w hk hw
  by_cases e : i = k
  · subst e
    rw [List.getElem?_set] at hk
    rw [if_pos rfl] at hk
    split at hk
    · cases hk
      exact h'.2.2 (i, q_cv G v) List.mem_cons_self
    · cases hk
  · rw [List.getElem?_set_ne e] at hk
    refine h'.2.2 (k, q_cv G w) (List.mem_cons_of_mem _ (List.mem_filter.mpr ⟨q_lv_mem.mpr ⟨w, hk, hw, rfl⟩, ?_⟩))
    have e1 : (k == i) = false := by simp; omega
    by_cases e2 : k + 1 = i
    · have hc : (q_cv G w).category = 1 := q_cat1 hx (fun hw1 => hp ⟨by
        rw [show i - 1 = k by omega, List.getD_eq_getElem?_getD, hk]; exact hw1, by omega⟩)
      simp [e1, hc]
    · simp [e1, e2]
theorem q_HL_st2 {G : q_G} (hx : q_xr G) {sl sl' : Array Slot} {nL : Nat} {ls : List q_V} {i : Nat} {v : q_V} (h : q_HL G sl nL ls) (hp : ¬ ((ls.getD (i - 1) (9, 0)).1 = 1 ∧ 0 < i))
    (h' : lv_has sl' nL ((i, q_cv G v) :: (q_lv G ls).filter (fun q => !(q.1 == i) && (!(q.1 == i + 1) && !(q.1 + 1 == i && q.2.category == 2))))) : q_HL G sl' nL ((ls.set i v).set (i + 1) (9, 0)) := by
  refine ⟨by rw [List.length_set, List.length_set]; exact h.1, h'.1, h'.2.1, ?_⟩
  intro k w hk hw
  by_cases e3 : i + 1 = k
  · subst e3
    rw [List.getElem?_set] at hk
    rw [if_pos rfl] at hk
    split at hk
    · cases hk
      exact absurd hw (by decide)
    · cases hk
  · rw [List.getElem?_set_ne e3] at hk
    by_cases e : i = k
    · subst e
      rw [List.getElem?_set] at hk
      rw [if_pos rfl] at hk
      split at hk
      · cases hk
        exact h'.2.2 (i, q_cv G v) List.mem_cons_self
      · cases hk
    · rw [List.getElem?_set_ne e] at hk
      refine h'.2.2 (k, q_cv G w) (List.mem_cons_of_mem _ (List.mem_filter.mpr ⟨q_lv_mem.mpr ⟨w, hk, hw, rfl⟩, ?_⟩))
      have e1 : (k == i) = false := by simp; omega
      have e4 : (k == i + 1) = false := by simp; omega
      by_cases e2 : k + 1 = i
      · have hc : (q_cv G w).category = 1 := q_cat1 hx (fun hw1 => hp ⟨by
          rw [show i - 1 = k by omega, List.getD_eq_getElem?_getD, hk]; exact hw1, by omega⟩)
        simp [e1, e4, hc]
      · simp [e1, e4, e2]
/-- the entry -/
theorem q_ent_args {G : q_G} (hx : q_xr G) : ∀ (as : List q_V) (o : Nat) (tl : List q_V) (k : Nat) (w : q_V), (∀ w ∈ tl, 4 < w.1) → (q_sl as ++ tl)[k]? = some w → w.1 ≤ 4 → (o + k, q_cv G w) ∈ lv_args o (as.map (q_cv G)) := by
  intro as
  induction as with
  | nil =>
    intro o tl k w ht hk hw
    have : w ∈ tl := List.mem_of_getElem? hk
    exact absurd hw (by have := ht w this; omega)
  | cons v as ih =>
    intro o tl k w ht hk hw
    obtain ⟨n, x⟩ := v
    by_cases hn : n = 1
    · subst hn
      have e : q_sl ((1, x) :: as) = (1, x) :: (9, 0) :: q_sl as := rfl
      rw [e] at hk
      simp only [List.map_cons, lv_args, q_cat2, if_true]
      match k, hk with
      | 0, hk => cases hk; exact List.mem_cons_self
      | 1, hk => cases hk; exact absurd hw (by decide)
      | k + 2, hk =>
        have h := ih (o + 2) tl k w ht hk hw
        rw [show o + (k + 2) = o + 2 + k by omega]
        exact List.mem_cons_of_mem _ h
    · have e : q_sl ((n, x) :: as) = (n, x) :: q_sl as := by
        rw [q_sl.eq_def]
        split
        · rename_i h; cases h; exact absurd rfl hn
        · rename_i h; cases h; rfl
        · rename_i h; cases h
      rw [e] at hk
      have hc : (q_cv G (n, x)).category = 1 := q_cat1 hx hn
      simp only [List.map_cons, lv_args, hc]
      match k, hk with
      | 0, hk => cases hk; exact List.mem_cons_self
      | k + 1, hk =>
        have h := ih (o + 1) tl k w ht hk hw
        rw [show o + (k + 1) = o + 1 + k by omega]
        exact List.mem_cons_of_mem _ h
theorem q_sl_len {G : q_G} (hx : q_xr G) : ∀ as : List q_V, (lg_sl (as.map (q_cv G))).length = (q_sl as).length := by
  intro as
  induction as with
  | nil => rfl
  | cons v as ih =>
    obtain ⟨n, x⟩ := v
    have e0 : lg_sl ((q_cv G (n, x)) :: as.map (q_cv G)) = (if (q_cv G (n, x)).category = 2 then [.val (q_cv G (n, x)), .second] else [.val (q_cv G (n, x))]) ++ lg_sl (as.map (q_cv G)) := by unfold lg_sl; rw [List.flatMap_cons]
    rw [List.map_cons, e0]
    by_cases hn : n = 1
    · subst hn
      rw [q_cat2, if_pos rfl, show q_sl ((1, x) :: as) = (1, x) :: (9, 0) :: q_sl as from rfl]
      simp [ih]
    · have e : q_sl ((n, x) :: as) = (n, x) :: q_sl as := by
        rw [q_sl.eq_def]
        split
        · rename_i h; cases h; exact absurd rfl hn
        · rename_i h; cases h; rfl
        · rename_i h; cases h
      rw [q_cat1 hx (v := (n, x)) hn, if_neg (by decide), e]
      simp [ih]
theorem q_HL_ent {G : q_G} (hx : q_xr G) {as : List q_V} {n : Nat} (h : (q_sl as).length ≤ n) :
    q_HL G ((lg_sl (as.map (q_cv G)) ++ List.replicate (n - (lg_sl (as.map (q_cv G))).length) Slot.unset).toArray) n (q_sl as ++ List.replicate (n - (q_sl as).length) (9, 0)) := by
  obtain ⟨h1, h2, h3⟩ := lv_entry (as.map (q_cv G)) (n := n) (by rw [q_sl_len hx]; exact h)
  refine ⟨by simp; omega, h1, h2, ?_⟩
  intro k w hk hw
  have := q_ent_args hx as 0 _ k w (fun w hw => by rw [(List.mem_replicate.mp hw).2]; decide) hk hw
  rw [Nat.zero_add] at this
  exact h3 _ this
