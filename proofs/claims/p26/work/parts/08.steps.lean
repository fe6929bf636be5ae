/-- the pc of a place -/
def q_pc (code : List q_I) (i : Nat) : Nat := match code[i]? with
  | some (_, pc, _, _) => pc
  | none => 0
def q_can (T : q_T) (ls st : List q_V) (σ : q_S) : Prop := q_cs ls ∧ q_cs st ∧ q_cm (q_tl T) σ
/-- the classes' words, their fields' types, their names apart -/
def q_clOK (T : q_T) : Prop := ∀ (ci : Nat) (q : vw_C), (q_tc T)[ci]? = some q → (∀ w ∈ u_ws q.1 q.2.1 q.2.2, w ∈ q_gw T) ∧ (∃ ty : Nat → FieldType, ∀ k, k < q.2.2 → parseFieldDescriptor (q.2.1 k).2.2.1 = some (ty k)) ∧ (∀ a, a < q.2.2 → ∀ b, b < q.2.2 → a ≠ b → (q.2.1 a).2.1 ≠ (q.2.1 b).2.1)
/-- the layout is the classes' -/
def q_lyOK (T : q_T) : Prop := ∀ (k : Nat) (d : q_C), (q_tl T)[k]? = some d → d.1 = 0 → ∃ q, (q_tc T)[d.2.1]? = some q ∧ d.2.2.length = q.2.2 ∧ ∀ (j : Nat) (v : q_V), d.2.2[j]? = some v → (v.1 = 0 → (q.2.1 j).2.2 = ("I", false)) ∧ (v.1 = 5 → (q.2.1 j).2.2 = ("Z", false))
def q_Cx (p : Program) (s : State) (m : MethodId) (args : Array Value) (c : Code) (T : q_T) (G : q_G) (A : Nat → Prop) (bytes : ByteArray) (own : String) (nL : Nat) : Prop :=
  p.tables.exec = Jvm.exec ∧ c.code = bytes ∧ c.maxLocals = nL ∧ s.vm.findClass own = some m.cls ∧ (∀ w ∈ q_gw T, w.before args s = true) ∧ va_K G.1 (q_tc T) (q_tys G) s ∧ (∀ σ, va_D A (q_ws G (q_tl T) σ)) ∧ q_xr G ∧ q_ext T G A s s.heap ∧ (∀ q, q_A T G s.heap.size q → A q) ∧ q_clOK T ∧ q_lyOK T ∧ q_cx (q_tx T)
def q_WP (p : Program) (l : Launch) (e : Env) (R : Room) (s : State) (m : MethodId) (args : Array Value) (below : List Frame) (meth : Method) (c : Code) (cells slots : Nat) (Q : State → Prop) (T : q_T) (G : q_G) (A : Nat → Prop) (nL pc : Nat) (ls st : List q_V) (σ : q_S) : Prop :=
  ∀ (H : Heap) (locs : List Loc) (sl : Array Slot), va_P G.1 (q_tc T) (q_ws G (q_tl T) σ) H → va_S A s.heap H locs → q_HL G sl nL ls → W p l e R s m args below meth c H locs cells slots Q (F0 m pc sl (st.map (q_cv G)))
def q_SA (T : q_T) (WG : q_KT) (WP : Prop) (d : q_N) : List (Prop × q_N) → Prop
  | [] => match d with
    | (i, ls, st, σ) => q_can T ls st σ ∧ (WG i ls st σ → WP)
  | (c, (i, ls, st, σ)) :: l => (c → q_can T ls st σ ∧ (WG i ls st σ → WP)) ∧ (¬ c → q_SA T WG WP d l)
def q_RT (bytes : ByteArray) (ret : Option FieldType) (pc : Nat) (r : q_R) : Prop :=
  (∃ x, r = some (0, x) ∧ decode bytes pc = .ok (.ireturn, 1) ∧ ∃ ty, ret = some ty ∧ narrow ty (.int (Int32.ofInt x)) = .int (Int32.ofInt x)) ∨
  (∃ x, r = some (1, x) ∧ decode bytes pc = .ok (.lreturn, 1) ∧ ret = some .long) ∨
  (∃ x, r = some (2, x) ∧ decode bytes pc = .ok (.areturn, 1) ∧ ∃ n, ret = some (.object n)) ∨
  (r = none ∧ decode bytes pc = .ok (.return_, 1) ∧ ret = none)
def q_RF (T : q_T) (bytes : ByteArray) (ret : Option FieldType) (pc : Nat) (st : List q_V) (σ : q_S) (r : q_R) (σ' : q_S) : Prop := q_cr r ∧ σ' = σ ∧ st = r.toList ∧ q_RT bytes ret pc r
def q_SD (l : Launch) (T : q_T) (G : q_G) (bytes : ByteArray) (ret : Option FieldType) (pc : Nat) (st : List q_V) (σ : q_S) (WG : q_KT) (WP : Prop) (d : q_D) : Prop :=
  match d with
  | .inl (i, ls', st', σ') => q_can T ls' st' σ' ∧ (WG i ls' st' σ' → WP)
  | .inr (.inl (g, (i, ls', st', σ'))) => g → q_can T ls' st' σ' ∧ (WG i ls' st' σ' → WP)
  | .inr (.inr (.inl (al, d))) => q_SA T WG WP d al
  | .inr (.inr (.inr (.inl (mi, as, i, ls', st', σ')))) => ∃ y, (q_ty T)[mi]? = some y ∧ q_cs as ∧ q_can T ls' st' σ' ∧ (q_sl as).length ≤ y.2.2.1 ∧ ∀ r σ2, q_CM l T G y as σ' r σ2 → (q_cr r → q_cm (q_tl T) σ2 → WG i ls' (q_psh r st') σ2) → WP
  | .inr (.inr (.inr (.inr (.inl (some (r, σ')))))) => q_RF T bytes ret pc st σ r σ'
  | .inr (.inr (.inr (.inr (.inl none)))) => True
  | .inr (.inr (.inr (.inr (.inr (g, r, σ'))))) => g → q_RF T bytes ret pc st σ r σ'
/-- how long an instruction is -/
def q_fl : Instr → Nat
  | .bipush _ => 2
  | .iload _ => 2
  | .lload _ => 2
  | .aload _ => 2
  | .istore _ => 2
  | .astore _ => 2
  | .lstore _ => 2
  | .ldc _ => 2
  | .sipush _ => 3
  | .iinc _ _ => 3
  | .ldc_w _ => 3
  | .ldc2_w _ => 3
  | .getfield _ => 3
  | .putfield _ => 3
  | .getstatic _ => 3
  | .invokevirtual _ => 3
  | .invokestatic _ => 3
  | .invokespecial _ => 3
  | .if_icmp _ _ => 3
  | .ifCond _ _ => 3
  | .goto _ => 3
  | _ => 1
def q_dc (bytes : ByteArray) (pc : Nat) (op : Instr) : Bool := decide (decode bytes pc = .ok (op, q_fl op))
def q_ck0 (bytes : ByteArray) (code : List q_I) (i pc : Nat) (op : Instr) : Bool := q_dc bytes pc op && (q_pc code (i + 1) == pc + q_fl op)
theorem q_ck0_ok {bytes : ByteArray} {code : List q_I} {i pc : Nat} {op : Instr} (h : q_ck0 bytes code i pc op = true) : decode bytes pc = .ok (op, q_fl op) ∧ q_pc code (i + 1) = pc + q_fl op := by
  unfold q_ck0 q_dc at h
  rw [Bool.and_eq_true] at h
  exact ⟨of_decide_eq_true h.1, by simpa using h.2⟩
def q_wd (T : q_T) (w : Int) (c : Cond) : Bool := decide ((q_tw T)[w.toNat]? = some c) && goodWord c
theorem q_wd_ok {T : q_T} {w : Int} {c : Cond} (h : q_wd T w c = true) : c ∈ q_gw T := by
  unfold q_wd at h
  rw [Bool.and_eq_true] at h
  exact List.mem_filter.mpr ⟨List.mem_of_getElem? (of_decide_eq_true h.1), h.2⟩
theorem q_i32_0 : q_i32 0 := by unfold q_i32; omega
theorem q_i64_0 : q_i64 0 := by unfold q_i64; omega
theorem q_bif {P : q_D → Prop} {b : Bool} {x y : q_D} (h1 : b = true → P x) (h2 : P y) : P (bif b then x else y) := by
  cases b
  · exact h2
  · exact h1 rfl
theorem q_getD {ls : List q_V} {k u : Nat} {x : Int} (hu : u ≠ 9) (h : ls.getD k (9, 0) = (u, x)) : ls[k]? = some (u, x) := by
  rw [List.getD_eq_getElem?_getD] at h
  cases hk : ls[k]? with
  | none => rw [hk] at h; cases h; exact absurd rfl hu
  | some d => rw [hk] at h; exact congrArg some h
theorem q_ref {G : q_G} (hx : q_xr G) {u : Nat} {x : Int} (h : u = 2 ∨ (u = 4 ∧ x ≠ 2)) : ∃ t, q_cv G (u, x) = .ref t := by
  rcases h with h | ⟨h, h2⟩
  · subst h; exact ⟨_, rfl⟩
  · subst h
    rcases hx x.toNat with ⟨t, e⟩ | ⟨e, -⟩
    · exact ⟨t, e⟩
    · omega
theorem q_hp {ls : List q_V} {k : Nat} (h : (!((ls.getD (k - 1) (9, 0)).1 == 1 && decide (0 < k))) = true) : ¬ ((ls.getD (k - 1) (9, 0)).1 = 1 ∧ 0 < k) := fun ⟨z1, z2⟩ => by
  rw [z1, decide_eq_true z2] at h
  exact absurd h (by decide)
/-- behind a long there stands its second half -/
theorem q_no2 {G : q_G} {sl : Array Slot} {nL : Nat} {ls : List q_V} {k : Nat} {x : Int} (hL : q_HL G sl nL ls) (hv : ls[k]? = some (0, x)) (z1 : (ls.getD (k - 1) (9, 0)).1 = 1) (z2 : 0 < k) : False := by
  generalize hg : ls.getD (k - 1) (9, 0) = v0 at z1
  obtain ⟨u, y⟩ := v0
  dsimp only at z1
  subst z1
  have h1 := hL.2.2.2 _ _ (q_getD (by decide) hg) (Nat.le_of_ble_eq_true rfl)
  have h2 := hL.2.2.1.1 _ _ h1 rfl
  rw [show k - 1 + 1 = k by omega, hL.2.2.2 _ _ hv (Nat.le_of_ble_eq_true rfl)] at h2
  cases h2
section QST
variable {p : Program} {l : Launch} {e : Env} {R : Room} {s : State} {m : MethodId} {args : Array Value} {below : List Frame} {meth : Method} {c : Code} {cells slots : Nat} {Q : State → Prop}
variable {T : q_T} {G : q_G} {A : Nat → Prop} {bytes : ByteArray} {own : String} {nL : Nat} {code : List q_I} {ret : Option FieldType} {i pc : Nat} {inf : List Int} {ls st : List q_V} {σ : q_S}

theorem q_s_iconst (X : q_Cx p s m args c T G A bytes own nL) {v : Int} (hk : q_ck0 bytes code i pc (.iconst v) = true) (hv : q_i32 v) (hc : q_can T ls st σ) : q_SD l T G bytes ret pc st σ (fun i ls st σ => q_WP p l e R s m args below meth c cells slots Q T G A nL (q_pc code i) ls st σ) (q_WP p l e R s m args below meth c cells slots Q T G A nL (pc) (ls) (st) (σ)) (q_des (q_tl T) (q_tx T) (i, pc, .iconst v, inf) ls st σ) := by
  obtain ⟨hd, hn⟩ := q_ck0_ok hk
  obtain ⟨h0, hs, hm⟩ := hc
  refine ⟨⟨h0, q_cs_cons.mpr ⟨q_c1_0 hv, hs⟩, hm⟩, fun k H locs sl hP hS hL => lv_iconst (v := Int32.ofInt v) X.1 X.2.1 hd rfl ?_⟩
  have k := k H locs sl hP hS hL
  rw [hn] at k
  exact k

theorem q_s_bipush (X : q_Cx p s m args c T G A bytes own nL) {v : Int} (hk : q_ck0 bytes code i pc (.bipush v) = true) (hv : q_i32 v) (he : (Int8.ofInt v).toInt32 = Int32.ofInt v) (hc : q_can T ls st σ) : q_SD l T G bytes ret pc st σ (fun i ls st σ => q_WP p l e R s m args below meth c cells slots Q T G A nL (q_pc code i) ls st σ) (q_WP p l e R s m args below meth c cells slots Q T G A nL (pc) (ls) (st) (σ)) (q_des (q_tl T) (q_tx T) (i, pc, .bipush v, inf) ls st σ) := by
  obtain ⟨hd, hn⟩ := q_ck0_ok hk
  obtain ⟨h0, hs, hm⟩ := hc
  refine ⟨⟨h0, q_cs_cons.mpr ⟨q_c1_0 hv, hs⟩, hm⟩, fun k H locs sl hP hS hL => lv_bipush X.1 X.2.1 hd he ?_⟩
  have k := k H locs sl hP hS hL
  rw [hn] at k
  exact k

theorem q_s_sipush (X : q_Cx p s m args c T G A bytes own nL) {v : Int} (hk : q_ck0 bytes code i pc (.sipush v) = true) (hv : q_i32 v) (he : (Int16.ofInt v).toInt32 = Int32.ofInt v) (hc : q_can T ls st σ) : q_SD l T G bytes ret pc st σ (fun i ls st σ => q_WP p l e R s m args below meth c cells slots Q T G A nL (q_pc code i) ls st σ) (q_WP p l e R s m args below meth c cells slots Q T G A nL (pc) (ls) (st) (σ)) (q_des (q_tl T) (q_tx T) (i, pc, .sipush v, inf) ls st σ) := by
  obtain ⟨hd, hn⟩ := q_ck0_ok hk
  obtain ⟨h0, hs, hm⟩ := hc
  refine ⟨⟨h0, q_cs_cons.mpr ⟨q_c1_0 hv, hs⟩, hm⟩, fun k H locs sl hP hS hL => lv_sipush X.1 X.2.1 hd he ?_⟩
  have k := k H locs sl hP hS hL
  rw [hn] at k
  exact k

theorem q_s_lconst (X : q_Cx p s m args c T G A bytes own nL) {v : Fin 2} (hk : q_ck0 bytes code i pc (.lconst v) = true) (hc : q_can T ls st σ) : q_SD l T G bytes ret pc st σ (fun i ls st σ => q_WP p l e R s m args below meth c cells slots Q T G A nL (q_pc code i) ls st σ) (q_WP p l e R s m args below meth c cells slots Q T G A nL (pc) (ls) (st) (σ)) (q_des (q_tl T) (q_tx T) (i, pc, .lconst v, inf) ls st σ) := by
  obtain ⟨hd, hn⟩ := q_ck0_ok hk
  obtain ⟨h0, hs, hm⟩ := hc
  refine ⟨⟨h0, q_cs_cons.mpr ⟨q_c1_1 (by have := v.isLt; unfold q_i64; omega), hs⟩, hm⟩, fun k H locs sl hP hS hL => lv_lconst (v := Int64.ofInt ((v.val : Nat) : Int)) X.1 X.2.1 hd (by match v with | 0 => rfl | 1 => rfl) ?_⟩
  have k := k H locs sl hP hS hL
  rw [hn] at k
  exact k

theorem q_s_iadd (X : q_Cx p s m args c T G A bytes own nL) (hk : q_ck0 bytes code i pc (.iadd) = true) (hc : q_can T ls st σ) : q_SD l T G bytes ret pc st σ (fun i ls st σ => q_WP p l e R s m args below meth c cells slots Q T G A nL (q_pc code i) ls st σ) (q_WP p l e R s m args below meth c cells slots Q T G A nL (pc) (ls) (st) (σ)) (q_des (q_tl T) (q_tx T) (i, pc, .iadd, inf) ls st σ) := by
  obtain ⟨hd, hn⟩ := q_ck0_ok hk
  obtain ⟨h0, hs, hm⟩ := hc
  simp only [q_des]
  split
  · rename_i y x st'
    obtain ⟨hy, hs⟩ := q_cs_cons.mp hs
    obtain ⟨hx, hs⟩ := q_cs_cons.mp hs
    refine ⟨⟨h0, q_cs_cons.mpr ⟨q_c1_0 (q_w32_in _), hs⟩, hm⟩, fun k H locs sl hP hS hL => lv_iadd X.1 X.2.1 hd ?_⟩
    have k := k H locs sl hP hS hL
    rw [hn] at k
    rw [← q_add]
    exact k
  · trivial

theorem q_s_isub (X : q_Cx p s m args c T G A bytes own nL) (hk : q_ck0 bytes code i pc (.isub) = true) (hc : q_can T ls st σ) : q_SD l T G bytes ret pc st σ (fun i ls st σ => q_WP p l e R s m args below meth c cells slots Q T G A nL (q_pc code i) ls st σ) (q_WP p l e R s m args below meth c cells slots Q T G A nL (pc) (ls) (st) (σ)) (q_des (q_tl T) (q_tx T) (i, pc, .isub, inf) ls st σ) := by
  obtain ⟨hd, hn⟩ := q_ck0_ok hk
  obtain ⟨h0, hs, hm⟩ := hc
  simp only [q_des]
  split
  · rename_i y x st'
    obtain ⟨hy, hs⟩ := q_cs_cons.mp hs
    obtain ⟨hx, hs⟩ := q_cs_cons.mp hs
    refine ⟨⟨h0, q_cs_cons.mpr ⟨q_c1_0 (q_w32_in _), hs⟩, hm⟩, fun k H locs sl hP hS hL => lv_isub X.1 X.2.1 hd ?_⟩
    have k := k H locs sl hP hS hL
    rw [hn] at k
    rw [← q_sub]
    exact k
  · trivial

theorem q_s_imul (X : q_Cx p s m args c T G A bytes own nL) (hk : q_ck0 bytes code i pc (.imul) = true) (hc : q_can T ls st σ) : q_SD l T G bytes ret pc st σ (fun i ls st σ => q_WP p l e R s m args below meth c cells slots Q T G A nL (q_pc code i) ls st σ) (q_WP p l e R s m args below meth c cells slots Q T G A nL (pc) (ls) (st) (σ)) (q_des (q_tl T) (q_tx T) (i, pc, .imul, inf) ls st σ) := by
  obtain ⟨hd, hn⟩ := q_ck0_ok hk
  obtain ⟨h0, hs, hm⟩ := hc
  simp only [q_des]
  split
  · rename_i y x st'
    obtain ⟨hy, hs⟩ := q_cs_cons.mp hs
    obtain ⟨hx, hs⟩ := q_cs_cons.mp hs
    refine ⟨⟨h0, q_cs_cons.mpr ⟨q_c1_0 (q_w32_in _), hs⟩, hm⟩, fun k H locs sl hP hS hL => lv_imul X.1 X.2.1 hd ?_⟩
    have k := k H locs sl hP hS hL
    rw [hn] at k
    rw [← q_mul]
    exact k
  · trivial

theorem q_s_iand (X : q_Cx p s m args c T G A bytes own nL) (hk : q_ck0 bytes code i pc (.iand) = true) (hc : q_can T ls st σ) : q_SD l T G bytes ret pc st σ (fun i ls st σ => q_WP p l e R s m args below meth c cells slots Q T G A nL (q_pc code i) ls st σ) (q_WP p l e R s m args below meth c cells slots Q T G A nL (pc) (ls) (st) (σ)) (q_des (q_tl T) (q_tx T) (i, pc, .iand, inf) ls st σ) := by
  obtain ⟨hd, hn⟩ := q_ck0_ok hk
  obtain ⟨h0, hs, hm⟩ := hc
  simp only [q_des]
  split
  · rename_i y x st'
    obtain ⟨hy, hs⟩ := q_cs_cons.mp hs
    obtain ⟨hx, hs⟩ := q_cs_cons.mp hs
    refine ⟨⟨h0, q_cs_cons.mpr ⟨q_c1_0 (q_bvin32 _), hs⟩, hm⟩, fun k H locs sl hP hS hL => lv_iand X.1 X.2.1 hd ?_⟩
    have k := k H locs sl hP hS hL
    rw [hn] at k
    rw [← q_and]
    exact k
  · trivial

theorem q_s_ior (X : q_Cx p s m args c T G A bytes own nL) (hk : q_ck0 bytes code i pc (.ior) = true) (hc : q_can T ls st σ) : q_SD l T G bytes ret pc st σ (fun i ls st σ => q_WP p l e R s m args below meth c cells slots Q T G A nL (q_pc code i) ls st σ) (q_WP p l e R s m args below meth c cells slots Q T G A nL (pc) (ls) (st) (σ)) (q_des (q_tl T) (q_tx T) (i, pc, .ior, inf) ls st σ) := by
  obtain ⟨hd, hn⟩ := q_ck0_ok hk
  obtain ⟨h0, hs, hm⟩ := hc
  simp only [q_des]
  split
  · rename_i y x st'
    obtain ⟨hy, hs⟩ := q_cs_cons.mp hs
    obtain ⟨hx, hs⟩ := q_cs_cons.mp hs
    refine ⟨⟨h0, q_cs_cons.mpr ⟨q_c1_0 (q_bvin32 _), hs⟩, hm⟩, fun k H locs sl hP hS hL => lv_ior X.1 X.2.1 hd ?_⟩
    have k := k H locs sl hP hS hL
    rw [hn] at k
    rw [← q_or]
    exact k
  · trivial

theorem q_s_ishl (X : q_Cx p s m args c T G A bytes own nL) (hk : q_ck0 bytes code i pc (.ishl) = true) (hc : q_can T ls st σ) : q_SD l T G bytes ret pc st σ (fun i ls st σ => q_WP p l e R s m args below meth c cells slots Q T G A nL (q_pc code i) ls st σ) (q_WP p l e R s m args below meth c cells slots Q T G A nL (pc) (ls) (st) (σ)) (q_des (q_tl T) (q_tx T) (i, pc, .ishl, inf) ls st σ) := by
  obtain ⟨hd, hn⟩ := q_ck0_ok hk
  obtain ⟨h0, hs, hm⟩ := hc
  simp only [q_des]
  split
  · rename_i y x st'
    obtain ⟨hy, hs⟩ := q_cs_cons.mp hs
    obtain ⟨hx, hs⟩ := q_cs_cons.mp hs
    refine ⟨⟨h0, q_cs_cons.mpr ⟨q_c1_0 (q_w32_in _), hs⟩, hm⟩, fun k H locs sl hP hS hL => lv_ishl X.1 X.2.1 hd ?_⟩
    have k := k H locs sl hP hS hL
    rw [hn] at k
    rw [← q_shl]
    exact k
  · trivial

theorem q_s_ishr (X : q_Cx p s m args c T G A bytes own nL) (hk : q_ck0 bytes code i pc (.ishr) = true) (hc : q_can T ls st σ) : q_SD l T G bytes ret pc st σ (fun i ls st σ => q_WP p l e R s m args below meth c cells slots Q T G A nL (q_pc code i) ls st σ) (q_WP p l e R s m args below meth c cells slots Q T G A nL (pc) (ls) (st) (σ)) (q_des (q_tl T) (q_tx T) (i, pc, .ishr, inf) ls st σ) := by
  obtain ⟨hd, hn⟩ := q_ck0_ok hk
  obtain ⟨h0, hs, hm⟩ := hc
  simp only [q_des]
  split
  · rename_i y x st'
    obtain ⟨hy, hs⟩ := q_cs_cons.mp hs
    obtain ⟨hx, hs⟩ := q_cs_cons.mp hs
    refine ⟨⟨h0, q_cs_cons.mpr ⟨q_c1_0 (q_ediv_in32 (hx.1 rfl) _), hs⟩, hm⟩, fun k H locs sl hP hS hL => lv_ishr X.1 X.2.1 hd ?_⟩
    have k := k H locs sl hP hS hL
    rw [hn] at k
    rw [← q_shr (hx.1 rfl)]
    exact k
  · trivial

theorem q_s_ladd (X : q_Cx p s m args c T G A bytes own nL) (hk : q_ck0 bytes code i pc (.ladd) = true) (hc : q_can T ls st σ) : q_SD l T G bytes ret pc st σ (fun i ls st σ => q_WP p l e R s m args below meth c cells slots Q T G A nL (q_pc code i) ls st σ) (q_WP p l e R s m args below meth c cells slots Q T G A nL (pc) (ls) (st) (σ)) (q_des (q_tl T) (q_tx T) (i, pc, .ladd, inf) ls st σ) := by
  obtain ⟨hd, hn⟩ := q_ck0_ok hk
  obtain ⟨h0, hs, hm⟩ := hc
  simp only [q_des]
  split
  · rename_i y x st'
    obtain ⟨hy, hs⟩ := q_cs_cons.mp hs
    obtain ⟨hx, hs⟩ := q_cs_cons.mp hs
    refine ⟨⟨h0, q_cs_cons.mpr ⟨q_c1_1 (q_w64_in _), hs⟩, hm⟩, fun k H locs sl hP hS hL => lv_ladd X.1 X.2.1 hd ?_⟩
    have k := k H locs sl hP hS hL
    rw [hn] at k
    rw [← q_addl]
    exact k
  · trivial

theorem q_s_lsub (X : q_Cx p s m args c T G A bytes own nL) (hk : q_ck0 bytes code i pc (.lsub) = true) (hc : q_can T ls st σ) : q_SD l T G bytes ret pc st σ (fun i ls st σ => q_WP p l e R s m args below meth c cells slots Q T G A nL (q_pc code i) ls st σ) (q_WP p l e R s m args below meth c cells slots Q T G A nL (pc) (ls) (st) (σ)) (q_des (q_tl T) (q_tx T) (i, pc, .lsub, inf) ls st σ) := by
  obtain ⟨hd, hn⟩ := q_ck0_ok hk
  obtain ⟨h0, hs, hm⟩ := hc
  simp only [q_des]
  split
  · rename_i y x st'
    obtain ⟨hy, hs⟩ := q_cs_cons.mp hs
    obtain ⟨hx, hs⟩ := q_cs_cons.mp hs
    refine ⟨⟨h0, q_cs_cons.mpr ⟨q_c1_1 (q_w64_in _), hs⟩, hm⟩, fun k H locs sl hP hS hL => lv_lsub X.1 X.2.1 hd ?_⟩
    have k := k H locs sl hP hS hL
    rw [hn] at k
    rw [← q_subl]
    exact k
  · trivial

theorem q_s_lmul (X : q_Cx p s m args c T G A bytes own nL) (hk : q_ck0 bytes code i pc (.lmul) = true) (hc : q_can T ls st σ) : q_SD l T G bytes ret pc st σ (fun i ls st σ => q_WP p l e R s m args below meth c cells slots Q T G A nL (q_pc code i) ls st σ) (q_WP p l e R s m args below meth c cells slots Q T G A nL (pc) (ls) (st) (σ)) (q_des (q_tl T) (q_tx T) (i, pc, .lmul, inf) ls st σ) := by
  obtain ⟨hd, hn⟩ := q_ck0_ok hk
  obtain ⟨h0, hs, hm⟩ := hc
  simp only [q_des]
  split
  · rename_i y x st'
    obtain ⟨hy, hs⟩ := q_cs_cons.mp hs
    obtain ⟨hx, hs⟩ := q_cs_cons.mp hs
    refine ⟨⟨h0, q_cs_cons.mpr ⟨q_c1_1 (q_w64_in _), hs⟩, hm⟩, fun k H locs sl hP hS hL => lv_lmul X.1 X.2.1 hd ?_⟩
    have k := k H locs sl hP hS hL
    rw [hn] at k
    rw [← q_mull]
    exact k
  · trivial

theorem q_s_land (X : q_Cx p s m args c T G A bytes own nL) (hk : q_ck0 bytes code i pc (.land) = true) (hc : q_can T ls st σ) : q_SD l T G bytes ret pc st σ (fun i ls st σ => q_WP p l e R s m args below meth c cells slots Q T G A nL (q_pc code i) ls st σ) (q_WP p l e R s m args below meth c cells slots Q T G A nL (pc) (ls) (st) (σ)) (q_des (q_tl T) (q_tx T) (i, pc, .land, inf) ls st σ) := by
  obtain ⟨hd, hn⟩ := q_ck0_ok hk
  obtain ⟨h0, hs, hm⟩ := hc
  simp only [q_des]
  split
  · rename_i y x st'
    obtain ⟨hy, hs⟩ := q_cs_cons.mp hs
    obtain ⟨hx, hs⟩ := q_cs_cons.mp hs
    refine ⟨⟨h0, q_cs_cons.mpr ⟨q_c1_1 (q_bvin64 _), hs⟩, hm⟩, fun k H locs sl hP hS hL => lv_land X.1 X.2.1 hd ?_⟩
    have k := k H locs sl hP hS hL
    rw [hn] at k
    rw [← q_andl]
    exact k
  · trivial

theorem q_s_lor (X : q_Cx p s m args c T G A bytes own nL) (hk : q_ck0 bytes code i pc (.lor) = true) (hc : q_can T ls st σ) : q_SD l T G bytes ret pc st σ (fun i ls st σ => q_WP p l e R s m args below meth c cells slots Q T G A nL (q_pc code i) ls st σ) (q_WP p l e R s m args below meth c cells slots Q T G A nL (pc) (ls) (st) (σ)) (q_des (q_tl T) (q_tx T) (i, pc, .lor, inf) ls st σ) := by
  obtain ⟨hd, hn⟩ := q_ck0_ok hk
  obtain ⟨h0, hs, hm⟩ := hc
  simp only [q_des]
  split
  · rename_i y x st'
    obtain ⟨hy, hs⟩ := q_cs_cons.mp hs
    obtain ⟨hx, hs⟩ := q_cs_cons.mp hs
    refine ⟨⟨h0, q_cs_cons.mpr ⟨q_c1_1 (q_bvin64 _), hs⟩, hm⟩, fun k H locs sl hP hS hL => lv_lor X.1 X.2.1 hd ?_⟩
    have k := k H locs sl hP hS hL
    rw [hn] at k
    rw [← q_orl]
    exact k
  · trivial

theorem q_s_lshl (X : q_Cx p s m args c T G A bytes own nL) (hk : q_ck0 bytes code i pc (.lshl) = true) (hc : q_can T ls st σ) : q_SD l T G bytes ret pc st σ (fun i ls st σ => q_WP p l e R s m args below meth c cells slots Q T G A nL (q_pc code i) ls st σ) (q_WP p l e R s m args below meth c cells slots Q T G A nL (pc) (ls) (st) (σ)) (q_des (q_tl T) (q_tx T) (i, pc, .lshl, inf) ls st σ) := by
  obtain ⟨hd, hn⟩ := q_ck0_ok hk
  obtain ⟨h0, hs, hm⟩ := hc
  simp only [q_des]
  split
  · rename_i y x st'
    obtain ⟨hy, hs⟩ := q_cs_cons.mp hs
    obtain ⟨hx, hs⟩ := q_cs_cons.mp hs
    refine ⟨⟨h0, q_cs_cons.mpr ⟨q_c1_1 (q_w64_in _), hs⟩, hm⟩, fun k H locs sl hP hS hL => lv_lshl X.1 X.2.1 hd (q_shll x (hy.1 rfl)) ?_⟩
    have k := k H locs sl hP hS hL
    rw [hn] at k
    exact k
  · trivial

theorem q_s_lshr (X : q_Cx p s m args c T G A bytes own nL) (hk : q_ck0 bytes code i pc (.lshr) = true) (hc : q_can T ls st σ) : q_SD l T G bytes ret pc st σ (fun i ls st σ => q_WP p l e R s m args below meth c cells slots Q T G A nL (q_pc code i) ls st σ) (q_WP p l e R s m args below meth c cells slots Q T G A nL (pc) (ls) (st) (σ)) (q_des (q_tl T) (q_tx T) (i, pc, .lshr, inf) ls st σ) := by
  obtain ⟨hd, hn⟩ := q_ck0_ok hk
  obtain ⟨h0, hs, hm⟩ := hc
  simp only [q_des]
  split
  · rename_i y x st'
    obtain ⟨hy, hs⟩ := q_cs_cons.mp hs
    obtain ⟨hx, hs⟩ := q_cs_cons.mp hs
    refine ⟨⟨h0, q_cs_cons.mpr ⟨q_c1_1 (q_ediv_in64 (hx.2 rfl) _), hs⟩, hm⟩, fun k H locs sl hP hS hL => lv_lshr X.1 X.2.1 hd (q_shrl (hx.2 rfl) (hy.1 rfl)) ?_⟩
    have k := k H locs sl hP hS hL
    rw [hn] at k
    exact k
  · trivial

theorem q_s_lushr (X : q_Cx p s m args c T G A bytes own nL) (hk : q_ck0 bytes code i pc (.lushr) = true) (hc : q_can T ls st σ) : q_SD l T G bytes ret pc st σ (fun i ls st σ => q_WP p l e R s m args below meth c cells slots Q T G A nL (q_pc code i) ls st σ) (q_WP p l e R s m args below meth c cells slots Q T G A nL (pc) (ls) (st) (σ)) (q_des (q_tl T) (q_tx T) (i, pc, .lushr, inf) ls st σ) := by
  obtain ⟨hd, hn⟩ := q_ck0_ok hk
  obtain ⟨h0, hs, hm⟩ := hc
  simp only [q_des]
  split
  · rename_i y x st'
    obtain ⟨hy, hs⟩ := q_cs_cons.mp hs
    obtain ⟨hx, hs⟩ := q_cs_cons.mp hs
    refine ⟨⟨h0, q_cs_cons.mpr ⟨q_c1_1 (q_w64_in _), hs⟩, hm⟩, fun k H locs sl hP hS hL => lv_lushr X.1 X.2.1 hd (q_ushrl (hy.1 rfl)) ?_⟩
    have k := k H locs sl hP hS hL
    rw [hn] at k
    exact k
  · trivial

theorem q_s_idiv (X : q_Cx p s m args c T G A bytes own nL) (hk : q_ck0 bytes code i pc (.idiv) = true) (hc : q_can T ls st σ) : q_SD l T G bytes ret pc st σ (fun i ls st σ => q_WP p l e R s m args below meth c cells slots Q T G A nL (q_pc code i) ls st σ) (q_WP p l e R s m args below meth c cells slots Q T G A nL (pc) (ls) (st) (σ)) (q_des (q_tl T) (q_tx T) (i, pc, .idiv, inf) ls st σ) := by
  obtain ⟨hd, hn⟩ := q_ck0_ok hk
  obtain ⟨h0, hs, hm⟩ := hc
  simp only [q_des]
  split
  · rename_i y x st'
    obtain ⟨hy, hs⟩ := q_cs_cons.mp hs
    obtain ⟨hx, hs⟩ := q_cs_cons.mp hs
    intro hg
    refine ⟨⟨h0, q_cs_cons.mpr ⟨q_c1_0 (q_w32_in _), hs⟩, hm⟩, fun k H locs sl hP hS hL => lv_idiv X.1 X.2.1 hd (fun z => hg ((q_eq (hy.1 rfl) q_i32_0).mp z)) ?_⟩
    have k := k H locs sl hP hS hL
    rw [hn] at k
    rw [← q_div (hx.1 rfl) (hy.1 rfl)]
    exact k
  · trivial

theorem q_s_irem (X : q_Cx p s m args c T G A bytes own nL) (hk : q_ck0 bytes code i pc (.irem) = true) (hc : q_can T ls st σ) : q_SD l T G bytes ret pc st σ (fun i ls st σ => q_WP p l e R s m args below meth c cells slots Q T G A nL (q_pc code i) ls st σ) (q_WP p l e R s m args below meth c cells slots Q T G A nL (pc) (ls) (st) (σ)) (q_des (q_tl T) (q_tx T) (i, pc, .irem, inf) ls st σ) := by
  obtain ⟨hd, hn⟩ := q_ck0_ok hk
  obtain ⟨h0, hs, hm⟩ := hc
  simp only [q_des]
  split
  · rename_i y x st'
    obtain ⟨hy, hs⟩ := q_cs_cons.mp hs
    obtain ⟨hx, hs⟩ := q_cs_cons.mp hs
    intro hg
    refine ⟨⟨h0, q_cs_cons.mpr ⟨q_c1_0 (q_tmod_in (hx.1 rfl)), hs⟩, hm⟩, fun k H locs sl hP hS hL => lv_irem X.1 X.2.1 hd (fun z => hg ((q_eq (hy.1 rfl) q_i32_0).mp z)) ?_⟩
    have k := k H locs sl hP hS hL
    rw [hn] at k
    rw [← q_rem (hx.1 rfl) (hy.1 rfl)]
    exact k
  · trivial

theorem q_s_ldiv (X : q_Cx p s m args c T G A bytes own nL) (hk : q_ck0 bytes code i pc (.ldiv) = true) (hc : q_can T ls st σ) : q_SD l T G bytes ret pc st σ (fun i ls st σ => q_WP p l e R s m args below meth c cells slots Q T G A nL (q_pc code i) ls st σ) (q_WP p l e R s m args below meth c cells slots Q T G A nL (pc) (ls) (st) (σ)) (q_des (q_tl T) (q_tx T) (i, pc, .ldiv, inf) ls st σ) := by
  obtain ⟨hd, hn⟩ := q_ck0_ok hk
  obtain ⟨h0, hs, hm⟩ := hc
  simp only [q_des]
  split
  · rename_i y x st'
    obtain ⟨hy, hs⟩ := q_cs_cons.mp hs
    obtain ⟨hx, hs⟩ := q_cs_cons.mp hs
    intro hg
    refine ⟨⟨h0, q_cs_cons.mpr ⟨q_c1_1 (q_w64_in _), hs⟩, hm⟩, fun k H locs sl hP hS hL => lv_ldiv X.1 X.2.1 hd (fun z => hg ((q_eql (hy.2 rfl) q_i64_0).mp z)) ?_⟩
    have k := k H locs sl hP hS hL
    rw [hn] at k
    rw [← q_divl (hx.2 rfl) (hy.2 rfl)]
    exact k
  · trivial

theorem q_s_lrem (X : q_Cx p s m args c T G A bytes own nL) (hk : q_ck0 bytes code i pc (.lrem) = true) (hc : q_can T ls st σ) : q_SD l T G bytes ret pc st σ (fun i ls st σ => q_WP p l e R s m args below meth c cells slots Q T G A nL (q_pc code i) ls st σ) (q_WP p l e R s m args below meth c cells slots Q T G A nL (pc) (ls) (st) (σ)) (q_des (q_tl T) (q_tx T) (i, pc, .lrem, inf) ls st σ) := by
  obtain ⟨hd, hn⟩ := q_ck0_ok hk
  obtain ⟨h0, hs, hm⟩ := hc
  simp only [q_des]
  split
  · rename_i y x st'
    obtain ⟨hy, hs⟩ := q_cs_cons.mp hs
    obtain ⟨hx, hs⟩ := q_cs_cons.mp hs
    intro hg
    refine ⟨⟨h0, q_cs_cons.mpr ⟨q_c1_1 (q_tmod_inl (hx.2 rfl)), hs⟩, hm⟩, fun k H locs sl hP hS hL => lv_lrem X.1 X.2.1 hd (fun z => hg ((q_eql (hy.2 rfl) q_i64_0).mp z)) ?_⟩
    have k := k H locs sl hP hS hL
    rw [hn] at k
    rw [← q_reml (hx.2 rfl) (hy.2 rfl)]
    exact k
  · trivial

theorem q_s_ineg (X : q_Cx p s m args c T G A bytes own nL) (hk : q_ck0 bytes code i pc (.ineg) = true) (hc : q_can T ls st σ) : q_SD l T G bytes ret pc st σ (fun i ls st σ => q_WP p l e R s m args below meth c cells slots Q T G A nL (q_pc code i) ls st σ) (q_WP p l e R s m args below meth c cells slots Q T G A nL (pc) (ls) (st) (σ)) (q_des (q_tl T) (q_tx T) (i, pc, .ineg, inf) ls st σ) := by
  obtain ⟨hd, hn⟩ := q_ck0_ok hk
  obtain ⟨h0, hs, hm⟩ := hc
  simp only [q_des]
  split
  · rename_i x st'
    obtain ⟨hx, hs⟩ := q_cs_cons.mp hs
    refine ⟨⟨h0, q_cs_cons.mpr ⟨q_c1_0 (q_w32_in _), hs⟩, hm⟩, fun k H locs sl hP hS hL => lv_ineg X.1 X.2.1 hd ?_⟩
    have k := k H locs sl hP hS hL
    rw [hn] at k
    rw [← q_neg]
    exact k
  · trivial

theorem q_s_i2l (X : q_Cx p s m args c T G A bytes own nL) (hk : q_ck0 bytes code i pc (.i2l) = true) (hc : q_can T ls st σ) : q_SD l T G bytes ret pc st σ (fun i ls st σ => q_WP p l e R s m args below meth c cells slots Q T G A nL (q_pc code i) ls st σ) (q_WP p l e R s m args below meth c cells slots Q T G A nL (pc) (ls) (st) (σ)) (q_des (q_tl T) (q_tx T) (i, pc, .i2l, inf) ls st σ) := by
  obtain ⟨hd, hn⟩ := q_ck0_ok hk
  obtain ⟨h0, hs, hm⟩ := hc
  simp only [q_des]
  split
  · rename_i x st'
    obtain ⟨hx, hs⟩ := q_cs_cons.mp hs
    refine ⟨⟨h0, q_cs_cons.mpr ⟨q_c1_1 (by have := hx.1 rfl; unfold q_i32 at this; unfold q_i64; omega), hs⟩, hm⟩, fun k H locs sl hP hS hL => lv_i2l X.1 X.2.1 hd (q_i2l (hx.1 rfl)) ?_⟩
    have k := k H locs sl hP hS hL
    rw [hn] at k
    exact k
  · trivial

theorem q_s_l2i (X : q_Cx p s m args c T G A bytes own nL) (hk : q_ck0 bytes code i pc (.l2i) = true) (hc : q_can T ls st σ) : q_SD l T G bytes ret pc st σ (fun i ls st σ => q_WP p l e R s m args below meth c cells slots Q T G A nL (q_pc code i) ls st σ) (q_WP p l e R s m args below meth c cells slots Q T G A nL (pc) (ls) (st) (σ)) (q_des (q_tl T) (q_tx T) (i, pc, .l2i, inf) ls st σ) := by
  obtain ⟨hd, hn⟩ := q_ck0_ok hk
  obtain ⟨h0, hs, hm⟩ := hc
  simp only [q_des]
  split
  · rename_i x st'
    obtain ⟨hx, hs⟩ := q_cs_cons.mp hs
    refine ⟨⟨h0, q_cs_cons.mpr ⟨q_c1_0 (q_w32_in _), hs⟩, hm⟩, fun k H locs sl hP hS hL => lv_l2i X.1 X.2.1 hd (q_l2i (hx.2 rfl)) ?_⟩
    have k := k H locs sl hP hS hL
    rw [hn] at k
    exact k
  · trivial

theorem q_s_i2c (X : q_Cx p s m args c T G A bytes own nL) (hk : q_ck0 bytes code i pc (.i2c) = true) (hc : q_can T ls st σ) : q_SD l T G bytes ret pc st σ (fun i ls st σ => q_WP p l e R s m args below meth c cells slots Q T G A nL (q_pc code i) ls st σ) (q_WP p l e R s m args below meth c cells slots Q T G A nL (pc) (ls) (st) (σ)) (q_des (q_tl T) (q_tx T) (i, pc, .i2c, inf) ls st σ) := by
  obtain ⟨hd, hn⟩ := q_ck0_ok hk
  obtain ⟨h0, hs, hm⟩ := hc
  simp only [q_des]
  split
  · rename_i x st'
    obtain ⟨hx, hs⟩ := q_cs_cons.mp hs
    refine ⟨⟨h0, q_cs_cons.mpr ⟨q_c1_0 (by unfold q_i32; omega), hs⟩, hm⟩, fun k H locs sl hP hS hL => lv_i2c X.1 X.2.1 hd q_i2c ?_⟩
    have k := k H locs sl hP hS hL
    rw [hn] at k
    exact k
  · trivial

theorem q_lcmp {x y : Int} (hx : q_i64 x) (hy : q_i64 y) : lg_cmp (Int64.ofInt x) (Int64.ofInt y) = Int32.ofInt (if x < y then -1 else if x = y then 0 else 1) := by
  unfold lg_cmp
  have e1 := q_ltl hy hx
  have e2 := q_eql hx hy
  simp only [gt_iff_lt, e1, e2]
  by_cases h1 : x < y
  · rw [if_pos h1, if_neg (by omega), if_neg (by omega)]; rfl
  · by_cases h2 : x = y
    · rw [if_neg (by omega), if_pos h2, if_neg h1, if_pos h2]; rfl
    · rw [if_pos (by omega), if_neg h1, if_neg h2]; rfl

theorem q_s_lcmp (X : q_Cx p s m args c T G A bytes own nL) (hk : q_ck0 bytes code i pc (.lcmp) = true) (hc : q_can T ls st σ) : q_SD l T G bytes ret pc st σ (fun i ls st σ => q_WP p l e R s m args below meth c cells slots Q T G A nL (q_pc code i) ls st σ) (q_WP p l e R s m args below meth c cells slots Q T G A nL (pc) (ls) (st) (σ)) (q_des (q_tl T) (q_tx T) (i, pc, .lcmp, inf) ls st σ) := by
  obtain ⟨hd, hn⟩ := q_ck0_ok hk
  obtain ⟨h0, hs, hm⟩ := hc
  simp only [q_des]
  split
  · rename_i y x st'
    obtain ⟨hy, hs⟩ := q_cs_cons.mp hs
    obtain ⟨hx, hs⟩ := q_cs_cons.mp hs
    refine ⟨⟨h0, q_cs_cons.mpr ⟨q_c1_0 (by unfold q_i32; split <;> (try split) <;> omega), hs⟩, hm⟩, fun k H locs sl hP hS hL => W.lcmp X.1 X.2.1 hd ?_⟩
    have k := k H locs sl hP hS hL
    rw [hn] at k
    rw [q_lcmp (hx.2 rfl) (hy.2 rfl)]
    exact k
  · trivial

theorem q_s_iload (X : q_Cx p s m args c T G A bytes own nL) {k : Nat} (hk : q_ck0 bytes code i pc (.iload k) = true) (hc : q_can T ls st σ) : q_SD l T G bytes ret pc st σ (fun i ls st σ => q_WP p l e R s m args below meth c cells slots Q T G A nL (q_pc code i) ls st σ) (q_WP p l e R s m args below meth c cells slots Q T G A nL (pc) (ls) (st) (σ)) (q_des (q_tl T) (q_tx T) (i, pc, .iload k, inf) ls st σ) := by
  obtain ⟨hd, hn⟩ := q_ck0_ok hk
  obtain ⟨h0, hs, hm⟩ := hc
  simp only [q_des, q_ld]
  generalize hg : ls.getD k (9, 0) = v0
  obtain ⟨u, x⟩ := v0
  dsimp only
  · refine q_bif (fun hu => ?_) trivial
    · have hu := eq_of_beq hu
      subst hu
      have hv : ls[k]? = some (0, x) := q_getD (by decide) hg
      refine ⟨⟨h0, q_cs_cons.mpr ⟨h0 _ (List.mem_of_getElem? hv), hs⟩, hm⟩, fun k H locs sl hP hS hL => lv_iload X.1 X.2.1 hd (hL.2.2.2 _ _ hv (Nat.le_of_ble_eq_true rfl)) ?_⟩
      have k := k H locs sl hP hS hL
      rw [hn] at k
      exact k

theorem q_s_iload_n (X : q_Cx p s m args c T G A bytes own nL) {k : Fin 4} (hk : q_ck0 bytes code i pc (.iload_n k) = true) (hc : q_can T ls st σ) : q_SD l T G bytes ret pc st σ (fun i ls st σ => q_WP p l e R s m args below meth c cells slots Q T G A nL (q_pc code i) ls st σ) (q_WP p l e R s m args below meth c cells slots Q T G A nL (pc) (ls) (st) (σ)) (q_des (q_tl T) (q_tx T) (i, pc, .iload_n k, inf) ls st σ) := by
  obtain ⟨hd, hn⟩ := q_ck0_ok hk
  obtain ⟨h0, hs, hm⟩ := hc
  simp only [q_des, q_ld]
  generalize hg : ls.getD k.val (9, 0) = v0
  obtain ⟨u, x⟩ := v0
  dsimp only
  · refine q_bif (fun hu => ?_) trivial
    · have hu := eq_of_beq hu
      subst hu
      have hv : ls[k.val]? = some (0, x) := q_getD (by decide) hg
      refine ⟨⟨h0, q_cs_cons.mpr ⟨h0 _ (List.mem_of_getElem? hv), hs⟩, hm⟩, fun k H locs sl hP hS hL => lv_iload_n X.1 X.2.1 hd rfl (hL.2.2.2 _ _ hv (Nat.le_of_ble_eq_true rfl)) ?_⟩
      have k := k H locs sl hP hS hL
      rw [hn] at k
      exact k

theorem q_s_lload (X : q_Cx p s m args c T G A bytes own nL) {k : Nat} (hk : q_ck0 bytes code i pc (.lload k) = true) (hc : q_can T ls st σ) : q_SD l T G bytes ret pc st σ (fun i ls st σ => q_WP p l e R s m args below meth c cells slots Q T G A nL (q_pc code i) ls st σ) (q_WP p l e R s m args below meth c cells slots Q T G A nL (pc) (ls) (st) (σ)) (q_des (q_tl T) (q_tx T) (i, pc, .lload k, inf) ls st σ) := by
  obtain ⟨hd, hn⟩ := q_ck0_ok hk
  obtain ⟨h0, hs, hm⟩ := hc
  simp only [q_des, q_ld]
  generalize hg : ls.getD k (9, 0) = v0
  obtain ⟨u, x⟩ := v0
  dsimp only
  · refine q_bif (fun hu => ?_) trivial
    · have hu := eq_of_beq hu
      subst hu
      have hv : ls[k]? = some (1, x) := q_getD (by decide) hg
      refine ⟨⟨h0, q_cs_cons.mpr ⟨h0 _ (List.mem_of_getElem? hv), hs⟩, hm⟩, fun k H locs sl hP hS hL => lv_lload X.1 X.2.1 hd (hL.2.2.2 _ _ hv (Nat.le_of_ble_eq_true rfl)) ?_⟩
      have k := k H locs sl hP hS hL
      rw [hn] at k
      exact k

theorem q_s_lload_n (X : q_Cx p s m args c T G A bytes own nL) {k : Fin 4} (hk : q_ck0 bytes code i pc (.lload_n k) = true) (hc : q_can T ls st σ) : q_SD l T G bytes ret pc st σ (fun i ls st σ => q_WP p l e R s m args below meth c cells slots Q T G A nL (q_pc code i) ls st σ) (q_WP p l e R s m args below meth c cells slots Q T G A nL (pc) (ls) (st) (σ)) (q_des (q_tl T) (q_tx T) (i, pc, .lload_n k, inf) ls st σ) := by
  obtain ⟨hd, hn⟩ := q_ck0_ok hk
  obtain ⟨h0, hs, hm⟩ := hc
  simp only [q_des, q_ld]
  generalize hg : ls.getD k.val (9, 0) = v0
  obtain ⟨u, x⟩ := v0
  dsimp only
  · refine q_bif (fun hu => ?_) trivial
    · have hu := eq_of_beq hu
      subst hu
      have hv : ls[k.val]? = some (1, x) := q_getD (by decide) hg
      refine ⟨⟨h0, q_cs_cons.mpr ⟨h0 _ (List.mem_of_getElem? hv), hs⟩, hm⟩, fun k H locs sl hP hS hL => lv_lload_n X.1 X.2.1 hd rfl (hL.2.2.2 _ _ hv (Nat.le_of_ble_eq_true rfl)) ?_⟩
      have k := k H locs sl hP hS hL
      rw [hn] at k
      exact k

theorem q_s_aload (X : q_Cx p s m args c T G A bytes own nL) {k : Nat} (hk : q_ck0 bytes code i pc (.aload k) = true) (hc : q_can T ls st σ) : q_SD l T G bytes ret pc st σ (fun i ls st σ => q_WP p l e R s m args below meth c cells slots Q T G A nL (q_pc code i) ls st σ) (q_WP p l e R s m args below meth c cells slots Q T G A nL (pc) (ls) (st) (σ)) (q_des (q_tl T) (q_tx T) (i, pc, .aload k, inf) ls st σ) := by
  obtain ⟨hd, hn⟩ := q_ck0_ok hk
  obtain ⟨h0, hs, hm⟩ := hc
  simp only [q_des, q_ldA]
  generalize hg : ls.getD k (9, 0) = v0
  obtain ⟨u, x⟩ := v0
  dsimp only
  · refine q_bif (fun hu => ?_) trivial
    · have hu4 : u = 2 ∨ (u = 4 ∧ x ≠ 2) := by simpa using hu
      have hv : ls[k]? = some (u, x) := q_getD (by rcases hu4 with h | h <;> omega) hg
      have hr : ∃ t, q_cv G (u, x) = .ref t := q_ref X.2.2.2.2.2.2.2.1 hu4
      obtain ⟨t, ht⟩ := hr
      refine ⟨⟨h0, q_cs_cons.mpr ⟨h0 _ (List.mem_of_getElem? hv), hs⟩, hm⟩, fun k H locs sl hP hS hL => lv_aload X.1 X.2.1 hd (x := t) (by rw [hL.2.2.2 _ _ hv (by rcases hu4 with h | h <;> omega), ht]) ?_⟩
      have k := k H locs sl hP hS hL
      rw [hn, List.map_cons, ht] at k
      exact k

theorem q_s_aload_n (X : q_Cx p s m args c T G A bytes own nL) {k : Fin 4} (hk : q_ck0 bytes code i pc (.aload_n k) = true) (hc : q_can T ls st σ) : q_SD l T G bytes ret pc st σ (fun i ls st σ => q_WP p l e R s m args below meth c cells slots Q T G A nL (q_pc code i) ls st σ) (q_WP p l e R s m args below meth c cells slots Q T G A nL (pc) (ls) (st) (σ)) (q_des (q_tl T) (q_tx T) (i, pc, .aload_n k, inf) ls st σ) := by
  obtain ⟨hd, hn⟩ := q_ck0_ok hk
  obtain ⟨h0, hs, hm⟩ := hc
  simp only [q_des, q_ldA]
  generalize hg : ls.getD k.val (9, 0) = v0
  obtain ⟨u, x⟩ := v0
  dsimp only
  · refine q_bif (fun hu => ?_) trivial
    · have hu4 : u = 2 ∨ (u = 4 ∧ x ≠ 2) := by simpa using hu
      have hv : ls[k.val]? = some (u, x) := q_getD (by rcases hu4 with h | h <;> omega) hg
      have hr : ∃ t, q_cv G (u, x) = .ref t := q_ref X.2.2.2.2.2.2.2.1 hu4
      obtain ⟨t, ht⟩ := hr
      refine ⟨⟨h0, q_cs_cons.mpr ⟨h0 _ (List.mem_of_getElem? hv), hs⟩, hm⟩, fun k H locs sl hP hS hL => lv_aload_n X.1 X.2.1 hd rfl (x := t) (by rw [hL.2.2.2 _ _ hv (by rcases hu4 with h | h <;> omega), ht]) ?_⟩
      have k := k H locs sl hP hS hL
      rw [hn, List.map_cons, ht] at k
      exact k

theorem q_s_istore (X : q_Cx p s m args c T G A bytes own nL) {k : Nat} (hk : q_ck0 bytes code i pc (.istore k) = true) (hc : q_can T ls st σ) : q_SD l T G bytes ret pc st σ (fun i ls st σ => q_WP p l e R s m args below meth c cells slots Q T G A nL (q_pc code i) ls st σ) (q_WP p l e R s m args below meth c cells slots Q T G A nL (pc) (ls) (st) (σ)) (q_des (q_tl T) (q_tx T) (i, pc, .istore k, inf) ls st σ) := by
  obtain ⟨hd, hn⟩ := q_ck0_ok hk
  obtain ⟨h0, hs, hm⟩ := hc
  simp only [q_des, q_st]
  split
  · rename_i u x st'
    obtain ⟨hx, hs2⟩ := q_cs_cons.mp hs
    refine q_bif (fun hu => ?_) trivial
    obtain ⟨hu1, hp1⟩ := Bool.and_eq_true_iff.mp hu
    obtain ⟨hu1, hu2⟩ := Bool.and_eq_true_iff.mp hu1
    have hu1 := eq_of_beq hu1
    subst hu1
    have hkl : k < ls.length := of_decide_eq_true hu2
    have hp : ¬ ((ls.getD (k - 1) (9, 0)).1 = 1 ∧ 0 < k) := q_hp hp1
    refine ⟨⟨q_cs_set h0 hx, hs2, hm⟩, fun k2 H locs sl hP hS hL => lv_istore X.1 X.2.1 hd (q_HL_has hL) (by rw [← hL.1]; exact hkl) rfl (fun sl' h' => ?_)⟩
    have k2 := k2 H locs sl' hP hS (q_HL_st1 X.2.2.2.2.2.2.2.1 hL hp h')
    rw [hn] at k2
    exact k2
  · trivial

theorem q_s_istore_n (X : q_Cx p s m args c T G A bytes own nL) {k : Fin 4} (hk : q_ck0 bytes code i pc (.istore_n k) = true) (hc : q_can T ls st σ) : q_SD l T G bytes ret pc st σ (fun i ls st σ => q_WP p l e R s m args below meth c cells slots Q T G A nL (q_pc code i) ls st σ) (q_WP p l e R s m args below meth c cells slots Q T G A nL (pc) (ls) (st) (σ)) (q_des (q_tl T) (q_tx T) (i, pc, .istore_n k, inf) ls st σ) := by
  obtain ⟨hd, hn⟩ := q_ck0_ok hk
  obtain ⟨h0, hs, hm⟩ := hc
  simp only [q_des, q_st]
  split
  · rename_i u x st'
    obtain ⟨hx, hs2⟩ := q_cs_cons.mp hs
    refine q_bif (fun hu => ?_) trivial
    obtain ⟨hu1, hp1⟩ := Bool.and_eq_true_iff.mp hu
    obtain ⟨hu1, hu2⟩ := Bool.and_eq_true_iff.mp hu1
    have hu1 := eq_of_beq hu1
    subst hu1
    have hkl : k.val < ls.length := of_decide_eq_true hu2
    have hp : ¬ ((ls.getD (k.val - 1) (9, 0)).1 = 1 ∧ 0 < k.val) := q_hp hp1
    refine ⟨⟨q_cs_set h0 hx, hs2, hm⟩, fun k2 H locs sl hP hS hL => lv_istore_n X.1 X.2.1 hd rfl (q_HL_has hL) (by rw [← hL.1]; exact hkl) rfl (fun sl' h' => ?_)⟩
    have k2 := k2 H locs sl' hP hS (q_HL_st1 X.2.2.2.2.2.2.2.1 hL hp h')
    rw [hn] at k2
    exact k2
  · trivial

theorem q_s_lstore (X : q_Cx p s m args c T G A bytes own nL) {k : Nat} (hk : q_ck0 bytes code i pc (.lstore k) = true) (hc : q_can T ls st σ) : q_SD l T G bytes ret pc st σ (fun i ls st σ => q_WP p l e R s m args below meth c cells slots Q T G A nL (q_pc code i) ls st σ) (q_WP p l e R s m args below meth c cells slots Q T G A nL (pc) (ls) (st) (σ)) (q_des (q_tl T) (q_tx T) (i, pc, .lstore k, inf) ls st σ) := by
  obtain ⟨hd, hn⟩ := q_ck0_ok hk
  obtain ⟨h0, hs, hm⟩ := hc
  simp only [q_des, q_stL]
  split
  · rename_i u x st'
    obtain ⟨hx, hs2⟩ := q_cs_cons.mp hs
    refine q_bif (fun hu => ?_) trivial
    obtain ⟨hu1, hp1⟩ := Bool.and_eq_true_iff.mp hu
    obtain ⟨hu1, hu2⟩ := Bool.and_eq_true_iff.mp hu1
    have hu1 := eq_of_beq hu1
    subst hu1
    have hkl : k + 1 < ls.length := of_decide_eq_true hu2
    have hp : ¬ ((ls.getD (k - 1) (9, 0)).1 = 1 ∧ 0 < k) := q_hp hp1
    refine ⟨⟨q_cs_set (q_cs_set h0 hx) (q_c1_o (by decide)), hs2, hm⟩, fun k2 H locs sl hP hS hL => lv_lstore X.1 X.2.1 hd (q_HL_has hL) (by rw [← hL.1]; exact hkl) rfl (fun sl' h' => ?_)⟩
    have k2 := k2 H locs sl' hP hS (q_HL_st2 X.2.2.2.2.2.2.2.1 hL hp h')
    rw [hn] at k2
    exact k2
  · trivial

theorem q_s_lstore_n (X : q_Cx p s m args c T G A bytes own nL) {k : Fin 4} (hk : q_ck0 bytes code i pc (.lstore_n k) = true) (hc : q_can T ls st σ) : q_SD l T G bytes ret pc st σ (fun i ls st σ => q_WP p l e R s m args below meth c cells slots Q T G A nL (q_pc code i) ls st σ) (q_WP p l e R s m args below meth c cells slots Q T G A nL (pc) (ls) (st) (σ)) (q_des (q_tl T) (q_tx T) (i, pc, .lstore_n k, inf) ls st σ) := by
  obtain ⟨hd, hn⟩ := q_ck0_ok hk
  obtain ⟨h0, hs, hm⟩ := hc
  simp only [q_des, q_stL]
  split
  · rename_i u x st'
    obtain ⟨hx, hs2⟩ := q_cs_cons.mp hs
    refine q_bif (fun hu => ?_) trivial
    obtain ⟨hu1, hp1⟩ := Bool.and_eq_true_iff.mp hu
    obtain ⟨hu1, hu2⟩ := Bool.and_eq_true_iff.mp hu1
    have hu1 := eq_of_beq hu1
    subst hu1
    have hkl : k.val + 1 < ls.length := of_decide_eq_true hu2
    have hp : ¬ ((ls.getD (k.val - 1) (9, 0)).1 = 1 ∧ 0 < k.val) := q_hp hp1
    refine ⟨⟨q_cs_set (q_cs_set h0 hx) (q_c1_o (by decide)), hs2, hm⟩, fun k2 H locs sl hP hS hL => lv_lstore_n X.1 X.2.1 hd rfl (q_HL_has hL) (by rw [← hL.1]; exact hkl) rfl (fun sl' h' => ?_)⟩
    have k2 := k2 H locs sl' hP hS (q_HL_st2 X.2.2.2.2.2.2.2.1 hL hp h')
    rw [hn] at k2
    exact k2
  · trivial

theorem q_s_astore (X : q_Cx p s m args c T G A bytes own nL) {k : Nat} (hk : q_ck0 bytes code i pc (.astore k) = true) (hc : q_can T ls st σ) : q_SD l T G bytes ret pc st σ (fun i ls st σ => q_WP p l e R s m args below meth c cells slots Q T G A nL (q_pc code i) ls st σ) (q_WP p l e R s m args below meth c cells slots Q T G A nL (pc) (ls) (st) (σ)) (q_des (q_tl T) (q_tx T) (i, pc, .astore k, inf) ls st σ) := by
  obtain ⟨hd, hn⟩ := q_ck0_ok hk
  obtain ⟨h0, hs, hm⟩ := hc
  simp only [q_des, q_stA]
  split
  · rename_i u x st'
    obtain ⟨hx, hs2⟩ := q_cs_cons.mp hs
    refine q_bif (fun hu => ?_) trivial
    obtain ⟨hu1, hp1⟩ := Bool.and_eq_true_iff.mp hu
    obtain ⟨hu1, hu2⟩ := Bool.and_eq_true_iff.mp hu1
    have hu4 : u = 2 ∨ (u = 4 ∧ x ≠ 2) := by simpa using hu1
    have hkl : k < ls.length := of_decide_eq_true hu2
    have hp : ¬ ((ls.getD (k - 1) (9, 0)).1 = 1 ∧ 0 < k) := q_hp hp1
    obtain ⟨t, ht⟩ := q_ref X.2.2.2.2.2.2.2.1 hu4
    refine ⟨⟨q_cs_set h0 hx, hs2, hm⟩, fun k2 H locs sl hP hS hL => ?_⟩
    rw [List.map_cons, ht]
    refine lv_astore X.1 X.2.1 hd (q_HL_has hL) (by rw [← hL.1]; exact hkl) rfl (fun sl' h' => ?_)
    have k2 := k2 H locs sl' hP hS (q_HL_st1 X.2.2.2.2.2.2.2.1 hL hp (by rw [ht]; exact h'))
    rw [hn] at k2
    exact k2
  · trivial

theorem q_s_astore_n (X : q_Cx p s m args c T G A bytes own nL) {k : Fin 4} (hk : q_ck0 bytes code i pc (.astore_n k) = true) (hc : q_can T ls st σ) : q_SD l T G bytes ret pc st σ (fun i ls st σ => q_WP p l e R s m args below meth c cells slots Q T G A nL (q_pc code i) ls st σ) (q_WP p l e R s m args below meth c cells slots Q T G A nL (pc) (ls) (st) (σ)) (q_des (q_tl T) (q_tx T) (i, pc, .astore_n k, inf) ls st σ) := by
  obtain ⟨hd, hn⟩ := q_ck0_ok hk
  obtain ⟨h0, hs, hm⟩ := hc
  simp only [q_des, q_stA]
  split
  · rename_i u x st'
    obtain ⟨hx, hs2⟩ := q_cs_cons.mp hs
    refine q_bif (fun hu => ?_) trivial
    obtain ⟨hu1, hp1⟩ := Bool.and_eq_true_iff.mp hu
    obtain ⟨hu1, hu2⟩ := Bool.and_eq_true_iff.mp hu1
    have hu4 : u = 2 ∨ (u = 4 ∧ x ≠ 2) := by simpa using hu1
    have hkl : k.val < ls.length := of_decide_eq_true hu2
    have hp : ¬ ((ls.getD (k.val - 1) (9, 0)).1 = 1 ∧ 0 < k.val) := q_hp hp1
    obtain ⟨t, ht⟩ := q_ref X.2.2.2.2.2.2.2.1 hu4
    refine ⟨⟨q_cs_set h0 hx, hs2, hm⟩, fun k2 H locs sl hP hS hL => ?_⟩
    rw [List.map_cons, ht]
    refine lv_astore_n X.1 X.2.1 hd rfl (q_HL_has hL) (by rw [← hL.1]; exact hkl) rfl (fun sl' h' => ?_)
    have k2 := k2 H locs sl' hP hS (q_HL_st1 X.2.2.2.2.2.2.2.1 hL hp (by rw [ht]; exact h'))
    rw [hn] at k2
    exact k2
  · trivial

theorem q_s_iinc (X : q_Cx p s m args c T G A bytes own nL) {k : Nat} {n : Int} (hk : q_ck0 bytes code i pc (.iinc k n) = true) (hc : q_can T ls st σ) : q_SD l T G bytes ret pc st σ (fun i ls st σ => q_WP p l e R s m args below meth c cells slots Q T G A nL (q_pc code i) ls st σ) (q_WP p l e R s m args below meth c cells slots Q T G A nL (pc) (ls) (st) (σ)) (q_des (q_tl T) (q_tx T) (i, pc, .iinc k n, inf) ls st σ) := by
  obtain ⟨hd, hn⟩ := q_ck0_ok hk
  obtain ⟨h0, hs, hm⟩ := hc
  simp only [q_des]
  split
  · rename_i x hg
    have hv : ls[k]? = some (0, x) := q_getD (by decide) hg
    have hkl : k < ls.length := (List.getElem?_eq_some_iff.mp hv).1
    refine ⟨⟨q_cs_set h0 (q_c1_0 (q_w32_in _)), hs, hm⟩, fun k2 H locs sl hP hS hL => ?_⟩
    obtain ⟨j, hj⟩ := List.getElem?_of_mem (q_lv_mem.mpr ⟨(0, x), hv, Nat.le_of_ble_eq_true rfl, rfl⟩ : (k, q_cv G (0, x)) ∈ q_lv G ls)
    refine lv_iinc (v := Int32.ofInt (q_w32 (x + n))) X.1 X.2.1 hd (q_HL_has hL) hj (q_add x n).symm (by rw [← hL.1]; exact hkl) rfl (fun sl' h' => ?_)
    have hp : ¬ ((ls.getD (k - 1) (9, 0)).1 = 1 ∧ 0 < k) := fun ⟨z1, z2⟩ => q_no2 hL hv z1 z2
    have k2 := k2 H locs sl' hP hS (q_HL_st1 X.2.2.2.2.2.2.2.1 hL hp h')
    rw [hn] at k2
    exact k2
  · trivial

theorem q_s_dup (X : q_Cx p s m args c T G A bytes own nL) (hk : q_ck0 bytes code i pc (.dup) = true) (hc : q_can T ls st σ) : q_SD l T G bytes ret pc st σ (fun i ls st σ => q_WP p l e R s m args below meth c cells slots Q T G A nL (q_pc code i) ls st σ) (q_WP p l e R s m args below meth c cells slots Q T G A nL (pc) (ls) (st) (σ)) (q_des (q_tl T) (q_tx T) (i, pc, .dup, inf) ls st σ) := by
  obtain ⟨hd, hn⟩ := q_ck0_ok hk
  obtain ⟨h0, hs, hm⟩ := hc
  simp only [q_des]
  split
  · rename_i u x st'
    obtain ⟨hx, hs2⟩ := q_cs_cons.mp hs
    cases hu : u == 1 with
    | true => trivial
    | false =>
      have h1 : u ≠ 1 := by simpa using hu
      refine ⟨⟨h0, q_cs_cons.mpr ⟨hx, q_cs_cons.mpr ⟨hx, hs2⟩⟩, hm⟩, fun k H locs sl hP hS hL => lv_dup X.1 X.2.1 hd (q_cat1 X.2.2.2.2.2.2.2.1 (v := (u, x)) h1) ?_⟩
      have k := k H locs sl hP hS hL
      rw [hn] at k
      exact k
  · trivial

theorem q_s_pop (X : q_Cx p s m args c T G A bytes own nL) (hk : q_ck0 bytes code i pc (.pop) = true) (hc : q_can T ls st σ) : q_SD l T G bytes ret pc st σ (fun i ls st σ => q_WP p l e R s m args below meth c cells slots Q T G A nL (q_pc code i) ls st σ) (q_WP p l e R s m args below meth c cells slots Q T G A nL (pc) (ls) (st) (σ)) (q_des (q_tl T) (q_tx T) (i, pc, .pop, inf) ls st σ) := by
  obtain ⟨hd, hn⟩ := q_ck0_ok hk
  obtain ⟨h0, hs, hm⟩ := hc
  simp only [q_des]
  split
  · rename_i u x st'
    obtain ⟨hx, hs2⟩ := q_cs_cons.mp hs
    cases hu : u == 1 with
    | true => trivial
    | false =>
      have h1 : u ≠ 1 := by simpa using hu
      refine ⟨⟨h0, hs2, hm⟩, fun k H locs sl hP hS hL => lv_pop X.1 X.2.1 hd (q_cat1 X.2.2.2.2.2.2.2.1 (v := (u, x)) h1) ?_⟩
      have k := k H locs sl hP hS hL
      rw [hn] at k
      exact k
  · trivial

theorem q_s_dup2 (X : q_Cx p s m args c T G A bytes own nL) (hk : q_ck0 bytes code i pc (.dup2) = true) (hc : q_can T ls st σ) : q_SD l T G bytes ret pc st σ (fun i ls st σ => q_WP p l e R s m args below meth c cells slots Q T G A nL (q_pc code i) ls st σ) (q_WP p l e R s m args below meth c cells slots Q T G A nL (pc) (ls) (st) (σ)) (q_des (q_tl T) (q_tx T) (i, pc, .dup2, inf) ls st σ) := by
  obtain ⟨hd, hn⟩ := q_ck0_ok hk
  obtain ⟨h0, hs, hm⟩ := hc
  simp only [q_des]
  split
  · rename_i u x w y st'
    obtain ⟨hx, hs2⟩ := q_cs_cons.mp hs
    obtain ⟨hy, hs3⟩ := q_cs_cons.mp hs2
    cases hu : (u == 1 || w == 1) with
    | true => trivial
    | false =>
      have h1 : u ≠ 1 ∧ w ≠ 1 := by simpa using hu
      refine ⟨⟨h0, q_cs_cons.mpr ⟨hx, q_cs_cons.mpr ⟨hy, q_cs_cons.mpr ⟨hx, q_cs_cons.mpr ⟨hy, hs3⟩⟩⟩⟩, hm⟩, fun k H locs sl hP hS hL => lv_dup2_11 X.1 X.2.1 hd (q_cat1 X.2.2.2.2.2.2.2.1 (v := (u, x)) h1.1) (q_cat1 X.2.2.2.2.2.2.2.1 (v := (w, y)) h1.2) ?_⟩
      have k := k H locs sl hP hS hL
      rw [hn] at k
      exact k
  · trivial

theorem q_s_icmp_eq (X : q_Cx p s m args c T G A bytes own nL) {off : Int} (hk : q_ck0 bytes code i pc (.if_icmp .eq off) = true) (ht : ∀ (t : Nat) (r : List Int), inf = (.ofNat t) :: r → (pc : Int) + off = (q_pc code t : Int)) (hc : q_can T ls st σ) : q_SD l T G bytes ret pc st σ (fun i ls st σ => q_WP p l e R s m args below meth c cells slots Q T G A nL (q_pc code i) ls st σ) (q_WP p l e R s m args below meth c cells slots Q T G A nL (pc) (ls) (st) (σ)) (q_des (q_tl T) (q_tx T) (i, pc, .if_icmp .eq off, inf) ls st σ) := by
  obtain ⟨hd, hn⟩ := q_ck0_ok hk
  obtain ⟨h0, hs, hm⟩ := hc
  simp only [q_des]
  split
  · rename_i y x st'
    obtain ⟨hy, hs2⟩ := q_cs_cons.mp hs
    obtain ⟨hx, hs3⟩ := q_cs_cons.mp hs2
    unfold q_if
    split
    · refine ⟨fun hcn => ⟨⟨h0, hs3, hm⟩, fun k H locs sl hP hS hL => lv_icmp_eq X.1 X.2.1 hd (ht _ _ rfl) (fun _ => k H locs sl hP hS hL) (fun z => absurd ((q_eq (hx.1 rfl) (hy.1 rfl)).mpr hcn) z)⟩, fun hcn => ⟨⟨h0, hs3, hm⟩, fun k H locs sl hP hS hL => lv_icmp_eq X.1 X.2.1 hd (ht _ _ rfl) (fun z => absurd ((q_eq (hx.1 rfl) (hy.1 rfl)).mp z) hcn) (fun _ => ?_)⟩⟩
      have k := k H locs sl hP hS hL
      rw [hn] at k
      exact k
    · trivial
  · trivial

theorem q_s_if_eq (X : q_Cx p s m args c T G A bytes own nL) {off : Int} (hk : q_ck0 bytes code i pc (.ifCond .eq off) = true) (ht : ∀ (t : Nat) (r : List Int), inf = (.ofNat t) :: r → (pc : Int) + off = (q_pc code t : Int)) (hc : q_can T ls st σ) : q_SD l T G bytes ret pc st σ (fun i ls st σ => q_WP p l e R s m args below meth c cells slots Q T G A nL (q_pc code i) ls st σ) (q_WP p l e R s m args below meth c cells slots Q T G A nL (pc) (ls) (st) (σ)) (q_des (q_tl T) (q_tx T) (i, pc, .ifCond .eq off, inf) ls st σ) := by
  obtain ⟨hd, hn⟩ := q_ck0_ok hk
  obtain ⟨h0, hs, hm⟩ := hc
  simp only [q_des]
  split
  · rename_i x st'
    obtain ⟨hx, hs3⟩ := q_cs_cons.mp hs
    unfold q_if
    split
    · refine ⟨fun hcn => ⟨⟨h0, hs3, hm⟩, fun k H locs sl hP hS hL => lv_if_eq X.1 X.2.1 hd (ht _ _ rfl) (fun _ => k H locs sl hP hS hL) (fun z => absurd ((q_eq (hx.1 rfl) q_i32_0).mpr hcn) z)⟩, fun hcn => ⟨⟨h0, hs3, hm⟩, fun k H locs sl hP hS hL => lv_if_eq X.1 X.2.1 hd (ht _ _ rfl) (fun z => absurd ((q_eq (hx.1 rfl) q_i32_0).mp z) hcn) (fun _ => ?_)⟩⟩
      have k := k H locs sl hP hS hL
      rw [hn] at k
      exact k
    · trivial
  · trivial

theorem q_s_icmp_ne (X : q_Cx p s m args c T G A bytes own nL) {off : Int} (hk : q_ck0 bytes code i pc (.if_icmp .ne off) = true) (ht : ∀ (t : Nat) (r : List Int), inf = (.ofNat t) :: r → (pc : Int) + off = (q_pc code t : Int)) (hc : q_can T ls st σ) : q_SD l T G bytes ret pc st σ (fun i ls st σ => q_WP p l e R s m args below meth c cells slots Q T G A nL (q_pc code i) ls st σ) (q_WP p l e R s m args below meth c cells slots Q T G A nL (pc) (ls) (st) (σ)) (q_des (q_tl T) (q_tx T) (i, pc, .if_icmp .ne off, inf) ls st σ) := by
  obtain ⟨hd, hn⟩ := q_ck0_ok hk
  obtain ⟨h0, hs, hm⟩ := hc
  simp only [q_des]
  split
  · rename_i y x st'
    obtain ⟨hy, hs2⟩ := q_cs_cons.mp hs
    obtain ⟨hx, hs3⟩ := q_cs_cons.mp hs2
    unfold q_if
    split
    · refine ⟨fun hcn => ⟨⟨h0, hs3, hm⟩, fun k H locs sl hP hS hL => lv_icmp_ne X.1 X.2.1 hd (ht _ _ rfl) (fun _ => k H locs sl hP hS hL) (fun z => absurd ((q_eq (hx.1 rfl) (hy.1 rfl)).mp z) hcn)⟩, fun hcn => ⟨⟨h0, hs3, hm⟩, fun k H locs sl hP hS hL => lv_icmp_ne X.1 X.2.1 hd (ht _ _ rfl) (fun z => absurd ((q_eq (hx.1 rfl) (hy.1 rfl)).mpr (Classical.not_not.mp hcn)) z) (fun _ => ?_)⟩⟩
      have k := k H locs sl hP hS hL
      rw [hn] at k
      exact k
    · trivial
  · trivial

theorem q_s_if_ne (X : q_Cx p s m args c T G A bytes own nL) {off : Int} (hk : q_ck0 bytes code i pc (.ifCond .ne off) = true) (ht : ∀ (t : Nat) (r : List Int), inf = (.ofNat t) :: r → (pc : Int) + off = (q_pc code t : Int)) (hc : q_can T ls st σ) : q_SD l T G bytes ret pc st σ (fun i ls st σ => q_WP p l e R s m args below meth c cells slots Q T G A nL (q_pc code i) ls st σ) (q_WP p l e R s m args below meth c cells slots Q T G A nL (pc) (ls) (st) (σ)) (q_des (q_tl T) (q_tx T) (i, pc, .ifCond .ne off, inf) ls st σ) := by
  obtain ⟨hd, hn⟩ := q_ck0_ok hk
  obtain ⟨h0, hs, hm⟩ := hc
  simp only [q_des]
  split
  · rename_i x st'
    obtain ⟨hx, hs3⟩ := q_cs_cons.mp hs
    unfold q_if
    split
    · refine ⟨fun hcn => ⟨⟨h0, hs3, hm⟩, fun k H locs sl hP hS hL => lv_if_ne X.1 X.2.1 hd (ht _ _ rfl) (fun _ => k H locs sl hP hS hL) (fun z => absurd ((q_eq (hx.1 rfl) q_i32_0).mp z) hcn)⟩, fun hcn => ⟨⟨h0, hs3, hm⟩, fun k H locs sl hP hS hL => lv_if_ne X.1 X.2.1 hd (ht _ _ rfl) (fun z => absurd ((q_eq (hx.1 rfl) q_i32_0).mpr (Classical.not_not.mp hcn)) z) (fun _ => ?_)⟩⟩
      have k := k H locs sl hP hS hL
      rw [hn] at k
      exact k
    · trivial
  · trivial

theorem q_s_icmp_lt (X : q_Cx p s m args c T G A bytes own nL) {off : Int} (hk : q_ck0 bytes code i pc (.if_icmp .lt off) = true) (ht : ∀ (t : Nat) (r : List Int), inf = (.ofNat t) :: r → (pc : Int) + off = (q_pc code t : Int)) (hc : q_can T ls st σ) : q_SD l T G bytes ret pc st σ (fun i ls st σ => q_WP p l e R s m args below meth c cells slots Q T G A nL (q_pc code i) ls st σ) (q_WP p l e R s m args below meth c cells slots Q T G A nL (pc) (ls) (st) (σ)) (q_des (q_tl T) (q_tx T) (i, pc, .if_icmp .lt off, inf) ls st σ) := by
  obtain ⟨hd, hn⟩ := q_ck0_ok hk
  obtain ⟨h0, hs, hm⟩ := hc
  simp only [q_des]
  split
  · rename_i y x st'
    obtain ⟨hy, hs2⟩ := q_cs_cons.mp hs
    obtain ⟨hx, hs3⟩ := q_cs_cons.mp hs2
    unfold q_if
    split
    · refine ⟨fun hcn => ⟨⟨h0, hs3, hm⟩, fun k H locs sl hP hS hL => lv_icmp_lt X.1 X.2.1 hd (ht _ _ rfl) (fun _ => k H locs sl hP hS hL) (fun z => absurd ((q_lt (hx.1 rfl) (hy.1 rfl)).mpr hcn) z)⟩, fun hcn => ⟨⟨h0, hs3, hm⟩, fun k H locs sl hP hS hL => lv_icmp_lt X.1 X.2.1 hd (ht _ _ rfl) (fun z => absurd ((q_lt (hx.1 rfl) (hy.1 rfl)).mp z) hcn) (fun _ => ?_)⟩⟩
      have k := k H locs sl hP hS hL
      rw [hn] at k
      exact k
    · trivial
  · trivial

theorem q_s_if_lt (X : q_Cx p s m args c T G A bytes own nL) {off : Int} (hk : q_ck0 bytes code i pc (.ifCond .lt off) = true) (ht : ∀ (t : Nat) (r : List Int), inf = (.ofNat t) :: r → (pc : Int) + off = (q_pc code t : Int)) (hc : q_can T ls st σ) : q_SD l T G bytes ret pc st σ (fun i ls st σ => q_WP p l e R s m args below meth c cells slots Q T G A nL (q_pc code i) ls st σ) (q_WP p l e R s m args below meth c cells slots Q T G A nL (pc) (ls) (st) (σ)) (q_des (q_tl T) (q_tx T) (i, pc, .ifCond .lt off, inf) ls st σ) := by
  obtain ⟨hd, hn⟩ := q_ck0_ok hk
  obtain ⟨h0, hs, hm⟩ := hc
  simp only [q_des]
  split
  · rename_i x st'
    obtain ⟨hx, hs3⟩ := q_cs_cons.mp hs
    unfold q_if
    split
    · refine ⟨fun hcn => ⟨⟨h0, hs3, hm⟩, fun k H locs sl hP hS hL => lv_if_lt X.1 X.2.1 hd (ht _ _ rfl) (fun _ => k H locs sl hP hS hL) (fun z => absurd ((q_lt (hx.1 rfl) q_i32_0).mpr hcn) z)⟩, fun hcn => ⟨⟨h0, hs3, hm⟩, fun k H locs sl hP hS hL => lv_if_lt X.1 X.2.1 hd (ht _ _ rfl) (fun z => absurd ((q_lt (hx.1 rfl) q_i32_0).mp z) hcn) (fun _ => ?_)⟩⟩
      have k := k H locs sl hP hS hL
      rw [hn] at k
      exact k
    · trivial
  · trivial

theorem q_s_icmp_ge (X : q_Cx p s m args c T G A bytes own nL) {off : Int} (hk : q_ck0 bytes code i pc (.if_icmp .ge off) = true) (ht : ∀ (t : Nat) (r : List Int), inf = (.ofNat t) :: r → (pc : Int) + off = (q_pc code t : Int)) (hc : q_can T ls st σ) : q_SD l T G bytes ret pc st σ (fun i ls st σ => q_WP p l e R s m args below meth c cells slots Q T G A nL (q_pc code i) ls st σ) (q_WP p l e R s m args below meth c cells slots Q T G A nL (pc) (ls) (st) (σ)) (q_des (q_tl T) (q_tx T) (i, pc, .if_icmp .ge off, inf) ls st σ) := by
  obtain ⟨hd, hn⟩ := q_ck0_ok hk
  obtain ⟨h0, hs, hm⟩ := hc
  simp only [q_des]
  split
  · rename_i y x st'
    obtain ⟨hy, hs2⟩ := q_cs_cons.mp hs
    obtain ⟨hx, hs3⟩ := q_cs_cons.mp hs2
    unfold q_if
    split
    · refine ⟨fun hcn => ⟨⟨h0, hs3, hm⟩, fun k H locs sl hP hS hL => lv_icmp_ge X.1 X.2.1 hd (ht _ _ rfl) (fun _ => k H locs sl hP hS hL) (fun z => absurd ((q_le (hy.1 rfl) (hx.1 rfl)).mpr hcn) z)⟩, fun hcn => ⟨⟨h0, hs3, hm⟩, fun k H locs sl hP hS hL => lv_icmp_ge X.1 X.2.1 hd (ht _ _ rfl) (fun z => absurd ((q_le (hy.1 rfl) (hx.1 rfl)).mp z) hcn) (fun _ => ?_)⟩⟩
      have k := k H locs sl hP hS hL
      rw [hn] at k
      exact k
    · trivial
  · trivial

theorem q_s_if_ge (X : q_Cx p s m args c T G A bytes own nL) {off : Int} (hk : q_ck0 bytes code i pc (.ifCond .ge off) = true) (ht : ∀ (t : Nat) (r : List Int), inf = (.ofNat t) :: r → (pc : Int) + off = (q_pc code t : Int)) (hc : q_can T ls st σ) : q_SD l T G bytes ret pc st σ (fun i ls st σ => q_WP p l e R s m args below meth c cells slots Q T G A nL (q_pc code i) ls st σ) (q_WP p l e R s m args below meth c cells slots Q T G A nL (pc) (ls) (st) (σ)) (q_des (q_tl T) (q_tx T) (i, pc, .ifCond .ge off, inf) ls st σ) := by
  obtain ⟨hd, hn⟩ := q_ck0_ok hk
  obtain ⟨h0, hs, hm⟩ := hc
  simp only [q_des]
  split
  · rename_i x st'
    obtain ⟨hx, hs3⟩ := q_cs_cons.mp hs
    unfold q_if
    split
    · refine ⟨fun hcn => ⟨⟨h0, hs3, hm⟩, fun k H locs sl hP hS hL => lv_if_ge X.1 X.2.1 hd (ht _ _ rfl) (fun _ => k H locs sl hP hS hL) (fun z => absurd ((q_le q_i32_0 (hx.1 rfl)).mpr hcn) z)⟩, fun hcn => ⟨⟨h0, hs3, hm⟩, fun k H locs sl hP hS hL => lv_if_ge X.1 X.2.1 hd (ht _ _ rfl) (fun z => absurd ((q_le q_i32_0 (hx.1 rfl)).mp z) hcn) (fun _ => ?_)⟩⟩
      have k := k H locs sl hP hS hL
      rw [hn] at k
      exact k
    · trivial
  · trivial

theorem q_s_icmp_gt (X : q_Cx p s m args c T G A bytes own nL) {off : Int} (hk : q_ck0 bytes code i pc (.if_icmp .gt off) = true) (ht : ∀ (t : Nat) (r : List Int), inf = (.ofNat t) :: r → (pc : Int) + off = (q_pc code t : Int)) (hc : q_can T ls st σ) : q_SD l T G bytes ret pc st σ (fun i ls st σ => q_WP p l e R s m args below meth c cells slots Q T G A nL (q_pc code i) ls st σ) (q_WP p l e R s m args below meth c cells slots Q T G A nL (pc) (ls) (st) (σ)) (q_des (q_tl T) (q_tx T) (i, pc, .if_icmp .gt off, inf) ls st σ) := by
  obtain ⟨hd, hn⟩ := q_ck0_ok hk
  obtain ⟨h0, hs, hm⟩ := hc
  simp only [q_des]
  split
  · rename_i y x st'
    obtain ⟨hy, hs2⟩ := q_cs_cons.mp hs
    obtain ⟨hx, hs3⟩ := q_cs_cons.mp hs2
    unfold q_if
    split
    · refine ⟨fun hcn => ⟨⟨h0, hs3, hm⟩, fun k H locs sl hP hS hL => lv_icmp_gt X.1 X.2.1 hd (ht _ _ rfl) (fun _ => k H locs sl hP hS hL) (fun z => absurd ((q_lt (hy.1 rfl) (hx.1 rfl)).mpr hcn) z)⟩, fun hcn => ⟨⟨h0, hs3, hm⟩, fun k H locs sl hP hS hL => lv_icmp_gt X.1 X.2.1 hd (ht _ _ rfl) (fun z => absurd ((q_lt (hy.1 rfl) (hx.1 rfl)).mp z) hcn) (fun _ => ?_)⟩⟩
      have k := k H locs sl hP hS hL
      rw [hn] at k
      exact k
    · trivial
  · trivial

theorem q_s_if_gt (X : q_Cx p s m args c T G A bytes own nL) {off : Int} (hk : q_ck0 bytes code i pc (.ifCond .gt off) = true) (ht : ∀ (t : Nat) (r : List Int), inf = (.ofNat t) :: r → (pc : Int) + off = (q_pc code t : Int)) (hc : q_can T ls st σ) : q_SD l T G bytes ret pc st σ (fun i ls st σ => q_WP p l e R s m args below meth c cells slots Q T G A nL (q_pc code i) ls st σ) (q_WP p l e R s m args below meth c cells slots Q T G A nL (pc) (ls) (st) (σ)) (q_des (q_tl T) (q_tx T) (i, pc, .ifCond .gt off, inf) ls st σ) := by
  obtain ⟨hd, hn⟩ := q_ck0_ok hk
  obtain ⟨h0, hs, hm⟩ := hc
  simp only [q_des]
  split
  · rename_i x st'
    obtain ⟨hx, hs3⟩ := q_cs_cons.mp hs
    unfold q_if
    split
    · refine ⟨fun hcn => ⟨⟨h0, hs3, hm⟩, fun k H locs sl hP hS hL => lv_if_gt X.1 X.2.1 hd (ht _ _ rfl) (fun _ => k H locs sl hP hS hL) (fun z => absurd ((q_lt q_i32_0 (hx.1 rfl)).mpr hcn) z)⟩, fun hcn => ⟨⟨h0, hs3, hm⟩, fun k H locs sl hP hS hL => lv_if_gt X.1 X.2.1 hd (ht _ _ rfl) (fun z => absurd ((q_lt q_i32_0 (hx.1 rfl)).mp z) hcn) (fun _ => ?_)⟩⟩
      have k := k H locs sl hP hS hL
      rw [hn] at k
      exact k
    · trivial
  · trivial

theorem q_s_icmp_le (X : q_Cx p s m args c T G A bytes own nL) {off : Int} (hk : q_ck0 bytes code i pc (.if_icmp .le off) = true) (ht : ∀ (t : Nat) (r : List Int), inf = (.ofNat t) :: r → (pc : Int) + off = (q_pc code t : Int)) (hc : q_can T ls st σ) : q_SD l T G bytes ret pc st σ (fun i ls st σ => q_WP p l e R s m args below meth c cells slots Q T G A nL (q_pc code i) ls st σ) (q_WP p l e R s m args below meth c cells slots Q T G A nL (pc) (ls) (st) (σ)) (q_des (q_tl T) (q_tx T) (i, pc, .if_icmp .le off, inf) ls st σ) := by
  obtain ⟨hd, hn⟩ := q_ck0_ok hk
  obtain ⟨h0, hs, hm⟩ := hc
  simp only [q_des]
  split
  · rename_i y x st'
    obtain ⟨hy, hs2⟩ := q_cs_cons.mp hs
    obtain ⟨hx, hs3⟩ := q_cs_cons.mp hs2
    unfold q_if
    split
    · refine ⟨fun hcn => ⟨⟨h0, hs3, hm⟩, fun k H locs sl hP hS hL => lv_icmp_le X.1 X.2.1 hd (ht _ _ rfl) (fun _ => k H locs sl hP hS hL) (fun z => absurd ((q_le (hx.1 rfl) (hy.1 rfl)).mpr hcn) z)⟩, fun hcn => ⟨⟨h0, hs3, hm⟩, fun k H locs sl hP hS hL => lv_icmp_le X.1 X.2.1 hd (ht _ _ rfl) (fun z => absurd ((q_le (hx.1 rfl) (hy.1 rfl)).mp z) hcn) (fun _ => ?_)⟩⟩
      have k := k H locs sl hP hS hL
      rw [hn] at k
      exact k
    · trivial
  · trivial

theorem q_s_if_le (X : q_Cx p s m args c T G A bytes own nL) {off : Int} (hk : q_ck0 bytes code i pc (.ifCond .le off) = true) (ht : ∀ (t : Nat) (r : List Int), inf = (.ofNat t) :: r → (pc : Int) + off = (q_pc code t : Int)) (hc : q_can T ls st σ) : q_SD l T G bytes ret pc st σ (fun i ls st σ => q_WP p l e R s m args below meth c cells slots Q T G A nL (q_pc code i) ls st σ) (q_WP p l e R s m args below meth c cells slots Q T G A nL (pc) (ls) (st) (σ)) (q_des (q_tl T) (q_tx T) (i, pc, .ifCond .le off, inf) ls st σ) := by
  obtain ⟨hd, hn⟩ := q_ck0_ok hk
  obtain ⟨h0, hs, hm⟩ := hc
  simp only [q_des]
  split
  · rename_i x st'
    obtain ⟨hx, hs3⟩ := q_cs_cons.mp hs
    unfold q_if
    split
    · refine ⟨fun hcn => ⟨⟨h0, hs3, hm⟩, fun k H locs sl hP hS hL => lv_if_le X.1 X.2.1 hd (ht _ _ rfl) (fun _ => k H locs sl hP hS hL) (fun z => absurd ((q_le (hx.1 rfl) q_i32_0).mpr hcn) z)⟩, fun hcn => ⟨⟨h0, hs3, hm⟩, fun k H locs sl hP hS hL => lv_if_le X.1 X.2.1 hd (ht _ _ rfl) (fun z => absurd ((q_le (hx.1 rfl) q_i32_0).mp z) hcn) (fun _ => ?_)⟩⟩
      have k := k H locs sl hP hS hL
      rw [hn] at k
      exact k
    · trivial
  · trivial

theorem q_s_goto (X : q_Cx p s m args c T G A bytes own nL) {off : Int} (hd : decode bytes pc = .ok (.goto off, 3)) (ht : ∀ (t : Nat) (r : List Int), inf = (.ofNat t) :: r → (pc : Int) + off = (q_pc code t : Int)) (hc : q_can T ls st σ) : q_SD l T G bytes ret pc st σ (fun i ls st σ => q_WP p l e R s m args below meth c cells slots Q T G A nL (q_pc code i) ls st σ) (q_WP p l e R s m args below meth c cells slots Q T G A nL (pc) (ls) (st) (σ)) (q_des (q_tl T) (q_tx T) (i, pc, .goto off, inf) ls st σ) := by
  simp only [q_des]
  split
  · exact ⟨hc, fun k H locs sl hP hS hL => lv_goto X.1 X.2.1 hd (ht _ _ rfl) (k H locs sl hP hS hL)⟩
  · trivial

theorem q_s_ldc (X : q_Cx p s m args c T G A bytes own nL) {ix : Nat} (hk : q_ck0 bytes code i pc (.ldc ix) = true) (hw : ∀ (t : Nat) (v : Int) (r : List Int), inf = (.ofNat t) :: v :: r → (t = 0 ∧ q_i32 v ∧ Cond.constant own ix (Int32.ofInt v) ∈ q_gw T) ∨ (t = 4 ∧ ∃ e ∈ q_tt T, e.1 = own ∧ e.2.1 = ix ∧ v = (e.2.2.2 : Int))) (hc : q_can T ls st σ) : q_SD l T G bytes ret pc st σ (fun i ls st σ => q_WP p l e R s m args below meth c cells slots Q T G A nL (q_pc code i) ls st σ) (q_WP p l e R s m args below meth c cells slots Q T G A nL (pc) (ls) (st) (σ)) (q_des (q_tl T) (q_tx T) (i, pc, .ldc ix, inf) ls st σ) := by
  obtain ⟨hd, hn⟩ := q_ck0_ok hk
  obtain ⟨h0, hs, hm⟩ := hc
  simp only [q_des]
  split
  · rename_i t v r
    rcases hw _ _ _ rfl with ⟨rfl, hv, hm1⟩ | ⟨rfl, x, hx, rfl, rfl, rfl⟩
    · refine ⟨⟨h0, q_cs_cons.mpr ⟨q_c1_0 hv, hs⟩, hm⟩, fun k H locs sl hP hS hL => lv_ldc X.1 X.2.1 X.2.2.2.1 (X.2.2.2.2.1 _ hm1) hd ?_⟩
      have k := k H locs sl hP hS hL
      rw [hn] at k
      exact k
    · obtain ⟨t, ht, hR⟩ := X.2.2.2.2.2.2.2.2.1.2.2.1 x hx
      refine ⟨⟨h0, q_cs_cons.mpr ⟨q_c1_o (by decide), hs⟩, hm⟩, fun k H locs sl hP hS hL => va_ldcS X.1 X.2.1 X.2.2.2.1 hR hd ?_⟩
      have k := k H locs sl hP hS hL
      rw [hn, List.map_cons, show q_cv G (4, (x.2.2.2 : Int)) = .ref t from ht] at k
      exact k
  · trivial

theorem q_s_ldc_w (X : q_Cx p s m args c T G A bytes own nL) {ix : Nat} (hk : q_ck0 bytes code i pc (.ldc_w ix) = true) (hw : ∀ (t : Nat) (v : Int) (r : List Int), inf = (.ofNat t) :: v :: r → t = 0 ∧ q_i32 v ∧ Cond.constant own ix (Int32.ofInt v) ∈ q_gw T) (hc : q_can T ls st σ) : q_SD l T G bytes ret pc st σ (fun i ls st σ => q_WP p l e R s m args below meth c cells slots Q T G A nL (q_pc code i) ls st σ) (q_WP p l e R s m args below meth c cells slots Q T G A nL (pc) (ls) (st) (σ)) (q_des (q_tl T) (q_tx T) (i, pc, .ldc_w ix, inf) ls st σ) := by
  obtain ⟨hd, hn⟩ := q_ck0_ok hk
  obtain ⟨h0, hs, hm⟩ := hc
  simp only [q_des]
  split
  · rename_i t v r
    obtain ⟨rfl, hv, hm1⟩ := hw _ _ _ rfl
    refine ⟨⟨h0, q_cs_cons.mpr ⟨q_c1_0 hv, hs⟩, hm⟩, fun k H locs sl hP hS hL => lv_ldcw X.1 X.2.1 X.2.2.2.1 (X.2.2.2.2.1 _ hm1) hd ?_⟩
    have k := k H locs sl hP hS hL
    rw [hn] at k
    exact k
  · trivial

theorem q_s_ldc2_w (X : q_Cx p s m args c T G A bytes own nL) {ix : Nat} (hk : q_ck0 bytes code i pc (.ldc2_w ix) = true) (hw : ∀ (v : Int) (r : List Int), inf = v :: r → q_i64 v ∧ Cond.constantLong own ix (Int64.ofInt v) ∈ q_gw T) (hc : q_can T ls st σ) : q_SD l T G bytes ret pc st σ (fun i ls st σ => q_WP p l e R s m args below meth c cells slots Q T G A nL (q_pc code i) ls st σ) (q_WP p l e R s m args below meth c cells slots Q T G A nL (pc) (ls) (st) (σ)) (q_des (q_tl T) (q_tx T) (i, pc, .ldc2_w ix, inf) ls st σ) := by
  obtain ⟨hd, hn⟩ := q_ck0_ok hk
  obtain ⟨h0, hs, hm⟩ := hc
  simp only [q_des]
  split
  · rename_i v r
    obtain ⟨hv, hm1⟩ := hw _ _ rfl
    refine ⟨⟨h0, q_cs_cons.mpr ⟨q_c1_1 hv, hs⟩, hm⟩, fun k H locs sl hP hS hL => lv_ldc2 X.1 X.2.1 X.2.2.2.1 (X.2.2.2.2.1 _ hm1) hd ?_⟩
    have k := k H locs sl hP hS hL
    rw [hn] at k
    exact k
  · trivial

theorem q_s_getstatic (X : q_Cx p s m args c T G A bytes own nL) {ix : Nat} (hk : q_ck0 bytes code i pc (.getstatic ix) = true) (hw : ∀ (t : Nat) (v : Int) (r : List Int), inf = (.ofNat t) :: v :: r → q_c1 (t, v) ∧ ∃ e ∈ q_ts T, e.2.2.2 = (t, v) ∧ Cond.fieldLink own ix e.1 e.2.1 e.2.2.1 ∈ q_gw T) (hc : q_can T ls st σ) : q_SD l T G bytes ret pc st σ (fun i ls st σ => q_WP p l e R s m args below meth c cells slots Q T G A nL (q_pc code i) ls st σ) (q_WP p l e R s m args below meth c cells slots Q T G A nL (pc) (ls) (st) (σ)) (q_des (q_tl T) (q_tx T) (i, pc, .getstatic ix, inf) ls st σ) := by
  obtain ⟨hd, hn⟩ := q_ck0_ok hk
  obtain ⟨h0, hs, hm⟩ := hc
  simp only [q_des]
  split
  · rename_i t v r
    obtain ⟨hv, x, hx, hxe, hm1⟩ := hw _ _ _ rfl
    have hZ := X.2.2.2.2.2.2.2.2.1.2.1 x hx
    rw [hxe] at hZ
    refine ⟨⟨h0, q_cs_cons.mpr ⟨hv, hs⟩, hm⟩, fun k H locs sl hP hS hL => va_gets X.1 X.2.1 hZ hS X.2.2.2.1 (X.2.2.2.2.1 _ hm1) (fun _ h9 => h9) hd ?_⟩
    have k := k H locs sl hP hS hL
    rw [hn] at k
    exact k
  · trivial

theorem q_s_getfield (X : q_Cx p s m args c T G A bytes own nL) {ix : Nat} (hk : q_ck0 bytes code i pc (.getfield ix) = true) (hw : ∀ (f : Int) (cc : Nat) (r : List Int), inf = f :: (.ofNat cc) :: r → 0 ≤ f ∧ (∀ q, (q_tc T)[cc]? = some q → cc ≠ 99 → Cond.fieldLink own ix (q.2.1 f.toNat).1 (q.2.1 f.toNat).2.1 (q.2.1 f.toNat).2.2.1 ∈ q_gw T) ∧ (cc = 99 → f.toNat = 100 → Cond.fieldLink own ix "java/lang/String" "value" "[B" ∈ q_gw T) ∧ (cc = 99 → f.toNat = 101 → Cond.fieldLink own ix "java/lang/String" "coder" "B" ∈ q_gw T)) (h99 : (q_tc T)[99]? = none) (hc : q_can T ls st σ) : q_SD l T G bytes ret pc st σ (fun i ls st σ => q_WP p l e R s m args below meth c cells slots Q T G A nL (q_pc code i) ls st σ) (q_WP p l e R s m args below meth c cells slots Q T G A nL (pc) (ls) (st) (σ)) (q_des (q_tl T) (q_tx T) (i, pc, .getfield ix, inf) ls st σ) := by
  obtain ⟨hd, hn⟩ := q_ck0_ok hk
  obtain ⟨h0, hs, hm⟩ := hc
  simp only [q_des]
  unfold q_get
  split
  · rename_i f cc r
    obtain ⟨hf0, hw1, hw2, hw3⟩ := hw _ _ _ rfl
    split
    · rename_i rr st'
      obtain ⟨hx, hs2⟩ := q_cs_cons.mp hs
      generalize hg : q_at (q_tl T) rr = d
      obtain ⟨kd, ci, fs⟩ := d
      dsimp only
      refine q_bif (fun hu => ?_) trivial
      obtain ⟨hu1, hu2⟩ := Bool.and_eq_true_iff.mp hu
      have hu1 := eq_of_beq hu1
      have hu2 := eq_of_beq hu2
      subst hu1
      subst hu2
      obtain ⟨mm, rfl, hl⟩ := q_at_some hg (show (0 : Nat) ≠ 9 by decide)
      obtain ⟨q, hq, hlen, hty⟩ := X.2.2.2.2.2.2.2.2.2.2.2.1 mm _ hl rfl
      dsimp only at hq hlen hty
      obtain ⟨C, TT, N⟩ := q
      have h9 : ci ≠ 99 := fun z => by subst z; rw [h99] at hq; cases hq
      have hlk := hw1 _ hq h9
      dsimp only at hlk hlen hty
      have key : ∀ (v : q_V), fs[f.toNat]? = some v → ∀ (st2 : List q_V), q_WP p l e R s m args below meth c cells slots Q T G A nL (pc + 3) (ls) (st2) (σ) → (∃ w : q_V, q_cv G w = q_sv G σ mm f.toNat v ∧ st2 = w :: st') → q_WP p l e R s m args below meth c cells slots Q T G A nL (pc) (ls) ((2, (mm : Int)) :: st') (σ) := by
        intro v hv st2 k ⟨w, hw, e⟩ H locs sl hP hS hL
        subst e
        have k := k H locs sl hP hS hL
        rw [List.map_cons, hw] at k
        refine va_get (ci := ci) (C := C) (T := TT) (N := N) X.1 X.2.1 X.2.2.2.2.1 ((X.2.2.2.2.2.2.2.2.2.2.1 ci _ hq).1) X.2.2.2.1 X.2.2.2.2.2.1 hP mm (q_ws_get hl) hq f.toNat (by rw [← hlen]; exact (List.getElem?_eq_some_iff.mp hv).1) (X.2.2.2.2.1 _ hlk) (fun _ h9 => h9) (v := q_sv G σ mm f.toNat v) (by rw [List.getElem?_mapIdx, hv]; rfl) hd k
      have hfi : ((f.toNat : Nat) : Int) = f := Int.toNat_of_nonneg hf0
      split
      · rename_i z hz
        have hv := q_getD (by decide) hz
        refine ⟨⟨h0, q_cs_cons.mpr ⟨q_c1_0 ((hm mm _ f hl).2 (show (0 : Nat) ≠ 3 by decide)), hs2⟩, hm⟩, fun k => key _ hv _ (by dsimp only at k; rw [hn] at k; exact k) ⟨(0, σ mm f), ?_, rfl⟩⟩
        show Value.int (Int32.ofInt (σ mm f)) = Value.int (Int32.ofInt (σ mm (f.toNat : Nat)))
        rw [hfi]
      · rename_i z hz
        have hv := q_getD (by decide) hz
        refine ⟨⟨h0, q_cs_cons.mpr ⟨q_c1_0 ((hm mm _ f hl).2 (show (0 : Nat) ≠ 3 by decide)), hs2⟩, hm⟩, fun k => key _ hv _ (by dsimp only at k; rw [hn] at k; exact k) ⟨(0, σ mm f), ?_, rfl⟩⟩
        show Value.int (Int32.ofInt (σ mm f)) = Value.int (Int32.ofInt (σ mm (f.toNat : Nat)))
        rw [hfi]
      · rename_i z hz
        have hv := q_getD (by decide) hz
        exact ⟨⟨h0, q_cs_cons.mpr ⟨q_c1_o (by decide), hs2⟩, hm⟩, fun k => key _ hv _ (by dsimp only at k; rw [hn] at k; exact k) ⟨(2, z), rfl, rfl⟩⟩
      · trivial
    · rename_i rr st'
      obtain ⟨hx, hs2⟩ := q_cs_cons.mp hs
      generalize hg : q_ax (q_tx T) rr = d
      obtain ⟨kd, n, f0⟩ := d
      dsimp only
      refine q_bif (fun hu => ?_) trivial
      obtain ⟨hu1, hu2⟩ := Bool.and_eq_true_iff.mp hu
      have hu1 := eq_of_beq hu1
      have hu2 := eq_of_beq hu2
      subst hu1
      subst hu2
      obtain ⟨mm, rfl, hl⟩ := q_ax_some hg (show (0 : Nat) ≠ 9 by decide)
      obtain ⟨t, ht, hO, hOc, hOv⟩ := (X.2.2.2.2.2.2.2.2.1.1 mm _ hl).2.2 rfl
      refine q_bif (fun hu => ?_) (q_bif (fun hu => ?_) trivial)
      · have hlk := hw2 rfl (eq_of_beq hu)
        refine ⟨⟨h0, q_cs_cons.mpr ⟨q_c1_o (by decide), hs2⟩, hm⟩, fun k H locs sl hP hS hL => ?_⟩
        have k := k H locs sl hP hS hL
        rw [hn] at k
        rw [List.map_cons, show q_cv G (4, (mm : Int)) = .ref t from ht]
        exact vk_getf X.1 X.2.1 hOv hS X.2.2.2.1 (X.2.2.2.2.1 _ hlk) (fun _ h9 => h9) hd k
      · have hlk := hw3 rfl (eq_of_beq hu)
        refine ⟨⟨h0, q_cs_cons.mpr ⟨q_c1_0 q_i32_0, hs2⟩, hm⟩, fun k H locs sl hP hS hL => ?_⟩
        have k := k H locs sl hP hS hL
        rw [hn] at k
        rw [List.map_cons, show q_cv G (4, (mm : Int)) = .ref t from ht]
        exact vk_getf X.1 X.2.1 hOc hS X.2.2.2.1 (X.2.2.2.2.1 _ hlk) (fun _ h9 => h9) hd k
    · trivial
  · trivial

theorem q_s_putfield (X : q_Cx p s m args c T G A bytes own nL) {ix : Nat} (hk : q_ck0 bytes code i pc (.putfield ix) = true) (hw : ∀ (f : Int) (cc : Nat) (r : List Int), inf = f :: (.ofNat cc) :: r → 0 ≤ f ∧ (∀ q, (q_tc T)[cc]? = some q → Cond.fieldLink own ix (q.2.1 f.toNat).1 (q.2.1 f.toNat).2.1 (q.2.1 f.toNat).2.2.1 ∈ q_gw T)) (hc : q_can T ls st σ) : q_SD l T G bytes ret pc st σ (fun i ls st σ => q_WP p l e R s m args below meth c cells slots Q T G A nL (q_pc code i) ls st σ) (q_WP p l e R s m args below meth c cells slots Q T G A nL (pc) (ls) (st) (σ)) (q_des (q_tl T) (q_tx T) (i, pc, .putfield ix, inf) ls st σ) := by
  obtain ⟨hd, hn⟩ := q_ck0_ok hk
  obtain ⟨h0, hs, hm⟩ := hc
  simp only [q_des]
  unfold q_put
  split
  · rename_i f cc r
    obtain ⟨hf0, hw1⟩ := hw _ _ _ rfl
    split
    · rename_i v rr st'
      obtain ⟨hx, hs2⟩ := q_cs_cons.mp hs
      obtain ⟨hr, hs3⟩ := q_cs_cons.mp hs2
      generalize hg : q_at (q_tl T) rr = d
      obtain ⟨kd, ci, fs⟩ := d
      dsimp only
      refine q_bif (fun hu => ?_) trivial
      obtain ⟨hu1, hu2⟩ := Bool.and_eq_true_iff.mp hu
      have hu1 := eq_of_beq hu1
      have hu2 := eq_of_beq hu2
      subst hu1
      subst hu2
      obtain ⟨mm, rfl, hl⟩ := q_at_some hg (show (0 : Nat) ≠ 9 by decide)
      obtain ⟨q, hq, hlen, hty⟩ := X.2.2.2.2.2.2.2.2.2.2.2.1 mm _ hl rfl
      dsimp only at hq hlen hty
      obtain ⟨C, TT, N⟩ := q
      have hlk := hw1 _ hq
      dsimp only at hlk hlen hty
      have hfi : ((f.toNat : Nat) : Int) = f := Int.toNat_of_nonneg hf0
      have hv32 := hx.1 rfl
      obtain ⟨hcw, ⟨ty0, hty0⟩, hnm⟩ := X.2.2.2.2.2.2.2.2.2.2.1 ci _ hq
      have key : ∀ (w : q_V) (ty : FieldType), fs[f.toNat]? = some w → w.1 ≠ 2 → (TT f.toNat).2.2.2 = false → parseFieldDescriptor (TT f.toNat).2.2.1 = some ty → narrow ty (.int (Int32.ofInt v)) = .int (Int32.ofInt v) → fits ty (.int (Int32.ofInt v)) = true →
          q_WP p l e R s m args below meth c cells slots Q T G A nL (pc + 3) (ls) (st') (q_up σ mm f v) → q_WP p l e R s m args below meth c cells slots Q T G A nL (pc) (ls) ((0, v) :: (2, (mm : Int)) :: st') (σ) := by
        intro w ty hv hw2 hfin hpd hna hfit k H locs sl hP hS hL
        have hkN : f.toNat < N := by rw [← hlen]; exact (List.getElem?_eq_some_iff.mp hv).1
        refine va_put (ci := ci) (C := C) (T := TT) (N := N) X.1 X.2.1 X.2.2.2.2.1 hcw ty0 hty0 hnm X.2.2.2.1 X.2.2.2.2.2.1 hP (X.2.2.2.2.2.2.1 σ) hS mm (q_ws_get hl) hq f.toNat hkN (X.2.2.2.2.1 _ hlk) (fun _ h9 => h9) hfin hpd hna hfit (by rw [List.length_mapIdx]; exact (List.getElem?_eq_some_iff.mp hv).1) hd (fun H1 locs1 hP1 hD1 hS1 => ?_)
        refine k H1 locs1 sl ?_ hS1 hL
        rw [q_ws_up hl]
        have e : q_ce G (q_up σ mm f v) mm (0, ci, fs) = .inr (ci, (fs.mapIdx (fun j s => q_sv G σ mm j s)).set f.toNat (.int (Int32.ofInt v))) := by
          show Sum.inr (ci, fs.mapIdx (fun j s => q_sv G (q_up σ mm f v) mm j s)) = _
          refine congrArg Sum.inr (congrArg (Prod.mk ci) ?_)
          apply List.ext_getElem?
          intro j
          rw [List.getElem?_set, List.length_mapIdx, List.getElem?_mapIdx, List.getElem?_mapIdx]
          by_cases hj : f.toNat = j
          · subst hj
            rw [if_pos rfl, if_pos (List.getElem?_eq_some_iff.mp hv).1, hv]
            refine congrArg some ?_
            obtain ⟨w1, w2⟩ := w
            unfold q_sv
            dsimp only
            split
            · rename_i e; cases e; exact absurd rfl hw2
            · unfold q_up
              rw [if_pos rfl, hfi, if_pos rfl]
          · rw [if_neg hj]
            cases hfj : fs[j]? with
            | none => rfl
            | some d =>
              refine congrArg some ?_
              unfold q_sv
              dsimp only
              split
              · rfl
              · unfold q_up
                rw [if_pos rfl, if_neg (by omega)]
        rw [e]
        exact hP1
      split
      · rename_i z hz
        have hv := q_getD (by decide) hz
        have hI := (hty _ _ hv).1 rfl
        refine ⟨⟨h0, hs3, q_cm_up hm hl ⟨fun z => absurd z (show (0 : Nat) ≠ 3 by decide), fun _ => hv32⟩⟩, fun k => key _ .int hv (show (0 : Nat) ≠ 2 by decide) (by rw [hI]) (by rw [hI]; rfl) rfl rfl (by dsimp only at k; rw [hn] at k; exact k)⟩
      · rename_i z hz
        have hv := q_getD (by decide) hz
        have hI := (hty _ _ hv).2 rfl
        intro hg01
        refine ⟨⟨h0, hs3, q_cm_up hm hl ⟨fun z => absurd z (show (0 : Nat) ≠ 3 by decide), fun _ => hv32⟩⟩, fun k => key _ .boolean hv (show (5 : Nat) ≠ 2 by decide) (by rw [hI]) (by rw [hI]; rfl) (by rcases hg01 with rfl | rfl <;> rfl) (by rcases hg01 with rfl | rfl <;> rfl) (by dsimp only at k; rw [hn] at k; exact k)⟩
      · trivial
    · trivial
  · trivial

theorem q_tnc {j : Int} (h0 : 0 ≤ j) (h : q_i32 j) : (Int32.ofInt j).toNatClampNeg = j.toNat := by
  obtain ⟨n, rfl⟩ := Int.eq_ofNat_of_zero_le h0
  have e : Int32.ofInt (n : Int) = nI n := by
    apply Int32.toInt_inj.mp
    rw [q_t32i h, nI_toInt (by unfold q_i32 at h; omega)]
  rw [e, nI_clamp (by unfold q_i32 at h; omega)]
  rfl
theorem q_vin {j : Int} {n : Nat} (h : q_i32 j) (hj : 0 ≤ j ∧ j < n) : vp_in (Int32.ofInt j) n := by
  rw [vp_in_iff, q_t32i h]
  exact hj

theorem q_s_rdI (X : q_Cx p s m args c T G A bytes own nL) (hd : decode bytes pc = .ok (.iaload, 1)) (hn : q_pc code (i + 1) = pc + 1) (hc : q_can T ls st σ) : q_SD l T G bytes ret pc st σ (fun i ls st σ => q_WP p l e R s m args below meth c cells slots Q T G A nL (q_pc code i) ls st σ) (q_WP p l e R s m args below meth c cells slots Q T G A nL (pc) (ls) (st) (σ)) (q_rd i 1 0 (q_tl T) ls st σ) := by
  obtain ⟨h0, hs, hm⟩ := hc
  unfold q_rd
  split
  · rename_i j r st'
    obtain ⟨hj32, hs2⟩ := q_cs_cons.mp hs
    obtain ⟨hr, hs3⟩ := q_cs_cons.mp hs2
    generalize hg : q_at (q_tl T) r = d
    obtain ⟨kd, n, fs⟩ := d
    dsimp only
    refine q_bif (fun hu => ?_) trivial
    have hu := eq_of_beq hu
    subst hu
    obtain ⟨mm, rfl, hl⟩ := q_at_some hg (show (1 : Nat) ≠ 9 by decide)
    intro hj
    refine ⟨⟨h0, q_cs_cons.mpr ⟨q_c1_0 ((hm mm _ j hl).2 (show (1 : Nat) ≠ 3 by decide)), hs3⟩, hm⟩, fun k H locs sl hP hS hL => ?_⟩
    have k := k H locs sl hP hS hL
    rw [hn] at k
    refine va_iald (cA := G.2.1.1) (n := n) (f := fun j => Int32.ofInt (σ mm j)) X.1 X.2.1 X.2.2.2.2.2.1 hP mm 0 (q_ws_get hl) rfl (q_vin (hj32.1 rfl) hj) hd ?_
    rw [q_tnc hj.1 (hj32.1 rfl), Int.toNat_of_nonneg hj.1]
    exact k
  · trivial

theorem q_s_rdZ (X : q_Cx p s m args c T G A bytes own nL) (hd : decode bytes pc = .ok (.baload, 1)) (hn : q_pc code (i + 1) = pc + 1) (hc : q_can T ls st σ) : q_SD l T G bytes ret pc st σ (fun i ls st σ => q_WP p l e R s m args below meth c cells slots Q T G A nL (q_pc code i) ls st σ) (q_WP p l e R s m args below meth c cells slots Q T G A nL (pc) (ls) (st) (σ)) (q_rd i 2 0 (q_tl T) ls st σ) := by
  obtain ⟨h0, hs, hm⟩ := hc
  unfold q_rd
  split
  · rename_i j r st'
    obtain ⟨hj32, hs2⟩ := q_cs_cons.mp hs
    obtain ⟨hr, hs3⟩ := q_cs_cons.mp hs2
    generalize hg : q_at (q_tl T) r = d
    obtain ⟨kd, n, fs⟩ := d
    dsimp only
    refine q_bif (fun hu => ?_) trivial
    have hu := eq_of_beq hu
    subst hu
    obtain ⟨mm, rfl, hl⟩ := q_at_some hg (show (2 : Nat) ≠ 9 by decide)
    intro hj
    refine ⟨⟨h0, q_cs_cons.mpr ⟨q_c1_0 ((hm mm _ j hl).2 (show (2 : Nat) ≠ 3 by decide)), hs3⟩, hm⟩, fun k H locs sl hP hS hL => ?_⟩
    have k := k H locs sl hP hS hL
    rw [hn] at k
    refine va_zald (cA := G.2.1.2.1) (n := n) (f := fun j => Int32.ofInt (σ mm j)) X.1 X.2.1 X.2.2.2.2.2.1 hP mm 1 (q_ws_get hl) rfl (q_vin (hj32.1 rfl) hj) hd ?_
    rw [q_tnc hj.1 (hj32.1 rfl), Int.toNat_of_nonneg hj.1]
    exact k
  · trivial

theorem q_s_rdL (X : q_Cx p s m args c T G A bytes own nL) (hd : decode bytes pc = .ok (.laload, 1)) (hn : q_pc code (i + 1) = pc + 1) (hc : q_can T ls st σ) : q_SD l T G bytes ret pc st σ (fun i ls st σ => q_WP p l e R s m args below meth c cells slots Q T G A nL (q_pc code i) ls st σ) (q_WP p l e R s m args below meth c cells slots Q T G A nL (pc) (ls) (st) (σ)) (q_rd i 3 1 (q_tl T) ls st σ) := by
  obtain ⟨h0, hs, hm⟩ := hc
  unfold q_rd
  split
  · rename_i j r st'
    obtain ⟨hj32, hs2⟩ := q_cs_cons.mp hs
    obtain ⟨hr, hs3⟩ := q_cs_cons.mp hs2
    generalize hg : q_at (q_tl T) r = d
    obtain ⟨kd, n, fs⟩ := d
    dsimp only
    refine q_bif (fun hu => ?_) trivial
    have hu := eq_of_beq hu
    subst hu
    obtain ⟨mm, rfl, hl⟩ := q_at_some hg (show (3 : Nat) ≠ 9 by decide)
    intro hj
    refine ⟨⟨h0, q_cs_cons.mpr ⟨q_c1_1 ((hm mm _ j hl).1 rfl), hs3⟩, hm⟩, fun k H locs sl hP hS hL => ?_⟩
    have k := k H locs sl hP hS hL
    rw [hn] at k
    refine va_lald (cA := G.2.1.2.2.1) (n := n) (f := fun j => Int64.ofInt (σ mm j)) X.1 X.2.1 X.2.2.2.2.2.1 hP mm 2 (q_ws_get hl) rfl (q_vin (hj32.1 rfl) hj) hd ?_
    rw [q_tnc hj.1 (hj32.1 rfl), Int.toNat_of_nonneg hj.1]
    exact k
  · trivial

theorem q_s_rdXI (X : q_Cx p s m args c T G A bytes own nL) (hd : decode bytes pc = .ok (.iaload, 1)) (hn : q_pc code (i + 1) = pc + 1) (hc : q_can T ls st σ) : q_SD l T G bytes ret pc st σ (fun i ls st σ => q_WP p l e R s m args below meth c cells slots Q T G A nL (q_pc code i) ls st σ) (q_WP p l e R s m args below meth c cells slots Q T G A nL (pc) (ls) (st) (σ)) (q_rdX i 1 (q_tx T) ls st σ) := by
  obtain ⟨h0, hs, hm⟩ := hc
  unfold q_rdX
  split
  · rename_i j r st'
    obtain ⟨hj32, hs2⟩ := q_cs_cons.mp hs
    obtain ⟨hr, hs3⟩ := q_cs_cons.mp hs2
    generalize hg : q_ax (q_tx T) r = d
    obtain ⟨kd, n, f⟩ := d
    dsimp only
    refine q_bif (fun hu => ?_) trivial
    have hu := eq_of_beq hu
    subst hu
    obtain ⟨mm, rfl, hl⟩ := q_ax_some hg (show (1 : Nat) ≠ 9 by decide)
    intro hj
    obtain ⟨t, ht, hT⟩ := (X.2.2.2.2.2.2.2.2.1.1 mm _ hl).1 rfl
    refine ⟨⟨h0, q_cs_cons.mpr ⟨q_c1_0 (X.2.2.2.2.2.2.2.2.2.2.2.2 mm _ j hl), hs3⟩, hm⟩, fun k H locs sl hP hS hL => ?_⟩
    have k := k H locs sl hP hS hL
    rw [hn] at k
    rw [List.map_cons, List.map_cons, show q_cv G (4, (mm : Int)) = .ref t from ht]
    refine va_ti X.1 X.2.1 hT hS (q_vin (hj32.1 rfl) hj) rfl hd ?_
    rw [q_tnc hj.1 (hj32.1 rfl), Int.toNat_of_nonneg hj.1]
    exact k
  · trivial

theorem q_s_rdXB (X : q_Cx p s m args c T G A bytes own nL) (hd : decode bytes pc = .ok (.baload, 1)) (hn : q_pc code (i + 1) = pc + 1) (hc : q_can T ls st σ) : q_SD l T G bytes ret pc st σ (fun i ls st σ => q_WP p l e R s m args below meth c cells slots Q T G A nL (q_pc code i) ls st σ) (q_WP p l e R s m args below meth c cells slots Q T G A nL (pc) (ls) (st) (σ)) (q_rdX i 6 (q_tx T) ls st σ) := by
  obtain ⟨h0, hs, hm⟩ := hc
  unfold q_rdX
  split
  · rename_i j r st'
    obtain ⟨hj32, hs2⟩ := q_cs_cons.mp hs
    obtain ⟨hr, hs3⟩ := q_cs_cons.mp hs2
    generalize hg : q_ax (q_tx T) r = d
    obtain ⟨kd, n, f⟩ := d
    dsimp only
    refine q_bif (fun hu => ?_) trivial
    have hu := eq_of_beq hu
    subst hu
    obtain ⟨mm, rfl, hl⟩ := q_ax_some hg (show (6 : Nat) ≠ 9 by decide)
    intro hj
    obtain ⟨t, ht, hT⟩ := (X.2.2.2.2.2.2.2.2.1.1 mm _ hl).2.1 rfl
    refine ⟨⟨h0, q_cs_cons.mpr ⟨q_c1_0 (X.2.2.2.2.2.2.2.2.2.2.2.2 mm _ j hl), hs3⟩, hm⟩, fun k H locs sl hP hS hL => ?_⟩
    have k := k H locs sl hP hS hL
    rw [hn] at k
    rw [List.map_cons, List.map_cons, show q_cv G (4, (mm : Int)) = .ref t from ht]
    refine va_tb X.1 X.2.1 hT hS (q_vin (hj32.1 rfl) hj) rfl hd ?_
    rw [q_tnc hj.1 (hj32.1 rfl), Int.toNat_of_nonneg hj.1]
    exact k
  · trivial

theorem q_s_iaload (X : q_Cx p s m args c T G A bytes own nL) (hk : q_ck0 bytes code i pc (.iaload) = true) (hc : q_can T ls st σ) : q_SD l T G bytes ret pc st σ (fun i ls st σ => q_WP p l e R s m args below meth c cells slots Q T G A nL (q_pc code i) ls st σ) (q_WP p l e R s m args below meth c cells slots Q T G A nL (pc) (ls) (st) (σ)) (q_des (q_tl T) (q_tx T) (i, pc, .iaload, inf) ls st σ) := by
  obtain ⟨hd, hn⟩ := q_ck0_ok hk
  obtain ⟨h0, hs, hm⟩ := hc
  simp only [q_des]
  split
  · exact q_s_rdXI X hd hn ⟨h0, hs, hm⟩
  · exact q_s_rdI X hd hn ⟨h0, hs, hm⟩

theorem q_s_baload (X : q_Cx p s m args c T G A bytes own nL) (hk : q_ck0 bytes code i pc (.baload) = true) (hc : q_can T ls st σ) : q_SD l T G bytes ret pc st σ (fun i ls st σ => q_WP p l e R s m args below meth c cells slots Q T G A nL (q_pc code i) ls st σ) (q_WP p l e R s m args below meth c cells slots Q T G A nL (pc) (ls) (st) (σ)) (q_des (q_tl T) (q_tx T) (i, pc, .baload, inf) ls st σ) := by
  obtain ⟨hd, hn⟩ := q_ck0_ok hk
  obtain ⟨h0, hs, hm⟩ := hc
  simp only [q_des]
  split
  · exact q_s_rdXB X hd hn ⟨h0, hs, hm⟩
  · exact q_s_rdZ X hd hn ⟨h0, hs, hm⟩

theorem q_s_laload (X : q_Cx p s m args c T G A bytes own nL) (hk : q_ck0 bytes code i pc (.laload) = true) (hc : q_can T ls st σ) : q_SD l T G bytes ret pc st σ (fun i ls st σ => q_WP p l e R s m args below meth c cells slots Q T G A nL (q_pc code i) ls st σ) (q_WP p l e R s m args below meth c cells slots Q T G A nL (pc) (ls) (st) (σ)) (q_des (q_tl T) (q_tx T) (i, pc, .laload, inf) ls st σ) := by
  obtain ⟨hd, hn⟩ := q_ck0_ok hk
  obtain ⟨h0, hs, hm⟩ := hc
  simp only [q_des]
  exact q_s_rdL X hd hn ⟨h0, hs, hm⟩

theorem q_s_aaload (X : q_Cx p s m args c T G A bytes own nL) (hk : q_ck0 bytes code i pc (.aaload) = true) (hw : ∀ (k : Nat) (d : q_C), (q_tl T)[k]? = some d → d.1 = 4 → ∀ j : Nat, j < d.2.1 → ∃ z, d.2.2[j]? = some (2, z)) (hc : q_can T ls st σ) : q_SD l T G bytes ret pc st σ (fun i ls st σ => q_WP p l e R s m args below meth c cells slots Q T G A nL (q_pc code i) ls st σ) (q_WP p l e R s m args below meth c cells slots Q T G A nL (pc) (ls) (st) (σ)) (q_des (q_tl T) (q_tx T) (i, pc, .aaload, inf) ls st σ) := by
  obtain ⟨hd, hn⟩ := q_ck0_ok hk
  obtain ⟨h0, hs, hm⟩ := hc
  simp only [q_des]
  split
  · rename_i j r st'
    obtain ⟨hj32, hs2⟩ := q_cs_cons.mp hs
    obtain ⟨hr, hs3⟩ := q_cs_cons.mp hs2
    generalize hg : q_at (q_tl T) r = d
    obtain ⟨kd, n, fs⟩ := d
    dsimp only
    refine q_bif (fun hu => ?_) trivial
    have hu := eq_of_beq hu
    subst hu
    obtain ⟨mm, rfl, hl⟩ := q_at_some hg (show (4 : Nat) ≠ 9 by decide)
    intro hj
    obtain ⟨z, hz⟩ := hw mm _ hl rfl j.toNat (by dsimp only; omega)
    have hz2 : fs.getD j.toNat (9, 0) = (2, z) := by rw [List.getD_eq_getElem?_getD, hz]; rfl
    refine ⟨⟨h0, q_cs_cons.mpr ⟨by rw [hz2]; exact q_c1_o (by decide), hs3⟩, hm⟩, fun k H locs sl hP hS hL => ?_⟩
    have k := k H locs sl hP hS hL
    rw [hn, hz2] at k
    refine va_aldq (cA := G.2.1.2.2.2) (n := n) (C := "MarshCourt$Custom") (f := fun j => some (G.2.2.1 (fs.getD j (9, 0)).2.toNat)) X.1 X.2.1 X.2.2.2.2.2.1 hP mm 3 (q_ws_get hl) rfl (q_vin (hj32.1 rfl) hj) hd ?_
    rw [q_tnc hj.1 (hj32.1 rfl), hz2]
    exact k
  · trivial

theorem q_s_iastore (X : q_Cx p s m args c T G A bytes own nL) (hk : q_ck0 bytes code i pc (.iastore) = true) (hc : q_can T ls st σ) : q_SD l T G bytes ret pc st σ (fun i ls st σ => q_WP p l e R s m args below meth c cells slots Q T G A nL (q_pc code i) ls st σ) (q_WP p l e R s m args below meth c cells slots Q T G A nL (pc) (ls) (st) (σ)) (q_des (q_tl T) (q_tx T) (i, pc, .iastore, inf) ls st σ) := by
  obtain ⟨hd, hn⟩ := q_ck0_ok hk
  obtain ⟨h0, hs, hm⟩ := hc
  simp only [q_des]
  unfold q_wr
  split
  · rename_i u v j r st'
    obtain ⟨hv, hs1⟩ := q_cs_cons.mp hs
    obtain ⟨hj32, hs2⟩ := q_cs_cons.mp hs1
    obtain ⟨hr, hs3⟩ := q_cs_cons.mp hs2
    generalize hg : q_at (q_tl T) r = d
    obtain ⟨kd, n, fs⟩ := d
    dsimp only
    refine q_bif (fun hu => ?_) trivial
    obtain ⟨hu1, hu2⟩ := Bool.and_eq_true_iff.mp hu
    have hu1 := eq_of_beq hu1
    have hu2 := eq_of_beq hu2
    subst hu1
    subst hu2
    obtain ⟨mm, rfl, hl⟩ := q_at_some hg (show (1 : Nat) ≠ 9 by decide)
    intro hj
    refine ⟨⟨h0, hs3, q_cm_up hm hl ⟨fun z => absurd z (show (1 : Nat) ≠ 3 by decide), fun _ => hv.1 rfl⟩⟩, fun k H locs sl hP hS hL => ?_⟩
    refine va_iast (cA := G.2.1.1) (n := n) (f := fun j => Int32.ofInt (σ mm j)) X.1 X.2.1 X.2.2.2.2.2.1 hP (X.2.2.2.2.2.2.1 σ) hS mm 0 (q_ws_get hl) rfl (q_vin (hj32.1 rfl) hj) hd (fun H1 locs1 hP1 hD1 hS1 => ?_)
    have k := k H1 locs1 sl ?_ hS1 hL
    · rw [hn] at k
      exact k
    · rw [q_ws_up hl]
      rw [q_tnc hj.1 (hj32.1 rfl)] at hP1
      refine Eq.mp (congrArg (fun z => va_P G.1 (q_tc T) ((q_ws G (q_tl T) σ).set mm (G.2.2.1 mm, .inl (G.2.1.1, n, (fun z => .inl z) z))) H1) ?_) hP1
      funext j2
      unfold upd q_up
      rw [if_pos rfl]
      by_cases e : j2 = j.toNat
      · rw [if_pos e, if_pos (by omega)]
      · rw [if_neg e, if_neg (by omega)]
  · trivial

theorem q_s_lastore (X : q_Cx p s m args c T G A bytes own nL) (hk : q_ck0 bytes code i pc (.lastore) = true) (hc : q_can T ls st σ) : q_SD l T G bytes ret pc st σ (fun i ls st σ => q_WP p l e R s m args below meth c cells slots Q T G A nL (q_pc code i) ls st σ) (q_WP p l e R s m args below meth c cells slots Q T G A nL (pc) (ls) (st) (σ)) (q_des (q_tl T) (q_tx T) (i, pc, .lastore, inf) ls st σ) := by
  obtain ⟨hd, hn⟩ := q_ck0_ok hk
  obtain ⟨h0, hs, hm⟩ := hc
  simp only [q_des]
  unfold q_wr
  split
  · rename_i u v j r st'
    obtain ⟨hv, hs1⟩ := q_cs_cons.mp hs
    obtain ⟨hj32, hs2⟩ := q_cs_cons.mp hs1
    obtain ⟨hr, hs3⟩ := q_cs_cons.mp hs2
    generalize hg : q_at (q_tl T) r = d
    obtain ⟨kd, n, fs⟩ := d
    dsimp only
    refine q_bif (fun hu => ?_) trivial
    obtain ⟨hu1, hu2⟩ := Bool.and_eq_true_iff.mp hu
    have hu1 := eq_of_beq hu1
    have hu2 := eq_of_beq hu2
    subst hu1
    subst hu2
    obtain ⟨mm, rfl, hl⟩ := q_at_some hg (show (3 : Nat) ≠ 9 by decide)
    intro hj
    refine ⟨⟨h0, hs3, q_cm_up hm hl ⟨fun _ => hv.2 rfl, fun z => absurd rfl z⟩⟩, fun k H locs sl hP hS hL => ?_⟩
    refine va_last (cA := G.2.1.2.2.1) (n := n) (f := fun j => Int64.ofInt (σ mm j)) X.1 X.2.1 X.2.2.2.2.2.1 hP (X.2.2.2.2.2.2.1 σ) hS mm 2 (q_ws_get hl) rfl (q_vin (hj32.1 rfl) hj) hd (fun H1 locs1 hP1 hD1 hS1 => ?_)
    have k := k H1 locs1 sl ?_ hS1 hL
    · rw [hn] at k
      exact k
    · rw [q_ws_up hl]
      rw [q_tnc hj.1 (hj32.1 rfl)] at hP1
      refine Eq.mp (congrArg (fun z => va_P G.1 (q_tc T) ((q_ws G (q_tl T) σ).set mm (G.2.2.1 mm, .inl (G.2.1.2.2.1, n, (fun z => .inr (.inl z)) z))) H1) ?_) hP1
      funext j2
      unfold vp_updL q_up
      rw [if_pos rfl]
      by_cases e : j2 = j.toNat
      · rw [if_pos e, if_pos (by omega)]
      · rw [if_neg e, if_neg (by omega)]
  · trivial

theorem q_s_bastore (X : q_Cx p s m args c T G A bytes own nL) (hk : q_ck0 bytes code i pc (.bastore) = true) (hc : q_can T ls st σ) : q_SD l T G bytes ret pc st σ (fun i ls st σ => q_WP p l e R s m args below meth c cells slots Q T G A nL (q_pc code i) ls st σ) (q_WP p l e R s m args below meth c cells slots Q T G A nL (pc) (ls) (st) (σ)) (q_des (q_tl T) (q_tx T) (i, pc, .bastore, inf) ls st σ) := by
  obtain ⟨hd, hn⟩ := q_ck0_ok hk
  obtain ⟨h0, hs, hm⟩ := hc
  simp only [q_des]
  unfold q_wrZ
  split
  · rename_i v j r st'
    obtain ⟨hv, hs1⟩ := q_cs_cons.mp hs
    obtain ⟨hj32, hs2⟩ := q_cs_cons.mp hs1
    obtain ⟨hr, hs3⟩ := q_cs_cons.mp hs2
    generalize hg : q_at (q_tl T) r = d
    obtain ⟨kd, n, fs⟩ := d
    dsimp only
    refine q_bif (fun hu => ?_) trivial
    have hu := eq_of_beq hu
    subst hu
    obtain ⟨mm, rfl, hl⟩ := q_at_some hg (show (2 : Nat) ≠ 9 by decide)
    intro ⟨hj, h01⟩
    refine ⟨⟨h0, hs3, q_cm_up hm hl ⟨fun z => absurd z (show (2 : Nat) ≠ 3 by decide), fun _ => hv.1 rfl⟩⟩, fun k H locs sl hP hS hL => ?_⟩
    refine va_zast (cA := G.2.1.2.1) (n := n) (f := fun j => Int32.ofInt (σ mm j)) X.1 X.2.1 X.2.2.2.2.2.1 hP (X.2.2.2.2.2.2.1 σ) hS mm 1 (q_ws_get hl) rfl (q_vin (hj32.1 rfl) hj) hd (fun H1 locs1 hP1 hD1 hS1 => ?_)
    have k := k H1 locs1 sl ?_ hS1 hL
    · rw [hn] at k
      exact k
    · rw [q_ws_up hl]
      rw [q_tnc hj.1 (hj32.1 rfl), show vp_nar .boolean (Int32.ofInt v) = Int32.ofInt v by rcases h01 with rfl | rfl <;> rfl] at hP1
      refine Eq.mp (congrArg (fun z => va_P G.1 (q_tc T) ((q_ws G (q_tl T) σ).set mm (G.2.2.1 mm, .inl (G.2.1.2.1, n, .inl z))) H1) ?_) hP1
      funext j2
      unfold upd q_up
      rw [if_pos rfl]
      by_cases e : j2 = j.toNat
      · rw [if_pos e, if_pos (by omega)]
      · rw [if_neg e, if_neg (by omega)]
  · trivial

theorem q_ofn (n : Nat) : Int32.ofNat n = Int32.ofInt ((n : Nat) : Int) := by
  apply Int32.toBitVec_inj.mp
  apply BitVec.eq_of_toNat_eq
  rw [q_bv32, BitVec.toNat_ofInt]
  show (BitVec.ofNat 32 n).toNat = _
  rw [BitVec.toNat_ofNat]
  omega

theorem q_s_arraylength (X : q_Cx p s m args c T G A bytes own nL) (hk : q_ck0 bytes code i pc (.arraylength) = true) (hw : (∀ (k : Nat) (d : q_C), (q_tl T)[k]? = some d → d.1 ≠ 0 → q_i32 (d.2.1 : Int)) ∧ ∀ (k : Nat) (d : q_X), (q_tx T)[k]? = some d → d.1 ≠ 0 → q_i32 (d.2.1 : Int)) (hc : q_can T ls st σ) : q_SD l T G bytes ret pc st σ (fun i ls st σ => q_WP p l e R s m args below meth c cells slots Q T G A nL (q_pc code i) ls st σ) (q_WP p l e R s m args below meth c cells slots Q T G A nL (pc) (ls) (st) (σ)) (q_des (q_tl T) (q_tx T) (i, pc, .arraylength, inf) ls st σ) := by
  obtain ⟨hd, hn⟩ := q_ck0_ok hk
  obtain ⟨h0, hs, hm⟩ := hc
  simp only [q_des]
  unfold q_len
  split
  · rename_i r st'
    obtain ⟨hr, hs2⟩ := q_cs_cons.mp hs
    generalize hg : q_at (q_tl T) r = d
    obtain ⟨kd, n, fs⟩ := d
    dsimp only
    refine q_bif (fun hu => ?_) trivial
    have hu3 : (kd = 1 ∨ kd = 2) ∨ kd = 3 := by simpa using hu
    obtain ⟨mm, rfl, hl⟩ := q_at_some hg (show kd ≠ 9 by omega)
    refine ⟨⟨h0, q_cs_cons.mpr ⟨q_c1_0 (hw.1 mm _ hl (show kd ≠ 0 by omega)), hs2⟩, hm⟩, fun k H locs sl hP hS hL => ?_⟩
    have k := k H locs sl hP hS hL
    rw [hn] at k
    rcases hu3 with (rfl | rfl) | rfl
    · exact va_alen (cA := G.2.1.1) (x := (n, .inl (fun j => Int32.ofInt (σ mm j)))) X.1 X.2.1 X.2.2.2.2.2.1 hP mm 0 (q_ws_get hl) rfl (q_ofn n) hd k
    · exact va_alen (cA := G.2.1.2.1) (x := (n, .inl (fun j => Int32.ofInt (σ mm j)))) X.1 X.2.1 X.2.2.2.2.2.1 hP mm 1 (q_ws_get hl) rfl (q_ofn n) hd k
    · exact va_alen (cA := G.2.1.2.2.1) (x := (n, .inr (.inl (fun j => Int64.ofInt (σ mm j))))) X.1 X.2.1 X.2.2.2.2.2.1 hP mm 2 (q_ws_get hl) rfl (q_ofn n) hd k
  · rename_i r st'
    obtain ⟨hr, hs2⟩ := q_cs_cons.mp hs
    generalize hg : q_ax (q_tx T) r = d
    obtain ⟨kd, n, f⟩ := d
    dsimp only
    refine q_bif (fun hu => ?_) trivial
    have hu3 : kd = 1 ∨ kd = 6 := by simpa using hu
    obtain ⟨mm, rfl, hl⟩ := q_ax_some hg (show kd ≠ 9 by omega)
    refine ⟨⟨h0, q_cs_cons.mpr ⟨q_c1_0 (hw.2 mm _ hl (show kd ≠ 0 by omega)), hs2⟩, hm⟩, fun k H locs sl hP hS hL => ?_⟩
    have k := k H locs sl hP hS hL
    rw [hn] at k
    rcases hu3 with rfl | rfl
    · obtain ⟨t, ht, hT⟩ := (X.2.2.2.2.2.2.2.2.1.1 mm _ hl).1 rfl
      rw [List.map_cons, show q_cv G (4, (mm : Int)) = .ref t from ht]
      exact va_tlen X.1 X.2.1 hT hS (q_ofn n) hd k
    · obtain ⟨t, ht, hT⟩ := (X.2.2.2.2.2.2.2.2.1.1 mm _ hl).2.1 rfl
      rw [List.map_cons, show q_cv G (4, (mm : Int)) = .ref t from ht]
      exact va_tlen X.1 X.2.1 hT hS (q_ofn n) hd k
  · trivial

theorem q_by {x : Int} (h : -128 ≤ x ∧ x < 128) : narrow .byte (.int (Int32.ofInt x)) = .int (Int32.ofInt x) := by
  have e : (Int32.ofInt x).toInt8.toInt32 = Int32.ofInt x := by
    apply Int32.toInt_inj.mp
    rw [Int8.toInt_toInt32, Int32.toInt_toInt8, q_t32i (by unfold q_i32; omega)]
    unfold Int.bmod
    simp only [Nat.reducePow, Int.cast_ofNat_Int]
    split <;> omega
  show Value.int (Int32.ofInt x).toInt8.toInt32 = _
  rw [e]
theorem q_ch {x : Int} (h : 0 ≤ x ∧ x < 65536) : narrow .char (.int (Int32.ofInt x)) = .int (Int32.ofInt x) := by
  obtain ⟨n, rfl⟩ := Int.eq_ofNat_of_zero_le h.1
  have := (pk_charN (q := n) (by omega)).1
  rw [← q_ofn]
  exact this

theorem q_s_ireturn (hd : decode bytes pc = .ok (.ireturn, 1)) (hw : ∀ (t : Nat) (r : List Int), inf = (.ofNat t) :: r → (t = 0 → ret = some .int) ∧ (t = 1 → ret = some .boolean) ∧ (t = 2 → ret = some .char) ∧ (t = 3 → ret = some .byte)) (hc : q_can T ls st σ) : q_SD l T G bytes ret pc st σ (fun i ls st σ => q_WP p l e R s m args below meth c cells slots Q T G A nL (q_pc code i) ls st σ) (q_WP p l e R s m args below meth c cells slots Q T G A nL (pc) (ls) (st) (σ)) (q_des (q_tl T) (q_tx T) (i, pc, .ireturn, inf) ls st σ) := by
  obtain ⟨h0, hs, hm⟩ := hc
  simp only [q_des]
  split
  · rename_i x
    have hx := (q_cs_cons.mp hs).1
    split
    · obtain ⟨h1, -⟩ := hw _ _ rfl
      exact ⟨hx, rfl, rfl, Or.inl ⟨x, rfl, hd, .int, h1 rfl, rfl⟩⟩
    · obtain ⟨-, h1, -⟩ := hw _ _ rfl
      refine q_bif (fun hu => ?_) trivial
      have hu : x = 0 ∨ x = 1 := by simpa using hu
      exact ⟨hx, rfl, rfl, Or.inl ⟨x, rfl, hd, .boolean, h1 rfl, by rcases hu with rfl | rfl <;> rfl⟩⟩
    · obtain ⟨-, -, h1, -⟩ := hw _ _ rfl
      intro hg
      exact ⟨hx, rfl, rfl, Or.inl ⟨x, rfl, hd, .char, h1 rfl, q_ch hg⟩⟩
    · obtain ⟨-, -, -, h1⟩ := hw _ _ rfl
      intro hg
      exact ⟨hx, rfl, rfl, Or.inl ⟨x, rfl, hd, .byte, h1 rfl, q_by hg⟩⟩
    · trivial
  · trivial
theorem q_s_lreturn (hd : decode bytes pc = .ok (.lreturn, 1)) (hw : ret = some .long) (hc : q_can T ls st σ) : q_SD l T G bytes ret pc st σ (fun i ls st σ => q_WP p l e R s m args below meth c cells slots Q T G A nL (q_pc code i) ls st σ) (q_WP p l e R s m args below meth c cells slots Q T G A nL (pc) (ls) (st) (σ)) (q_des (q_tl T) (q_tx T) (i, pc, .lreturn, inf) ls st σ) := by
  obtain ⟨h0, hs, hm⟩ := hc
  simp only [q_des]
  split
  · rename_i x
    exact ⟨(q_cs_cons.mp hs).1, rfl, rfl, Or.inr (Or.inl ⟨x, rfl, hd, hw⟩)⟩
  · trivial
theorem q_s_areturn (hd : decode bytes pc = .ok (.areturn, 1)) (hw : ∃ n, ret = some (.object n)) (hc : q_can T ls st σ) : q_SD l T G bytes ret pc st σ (fun i ls st σ => q_WP p l e R s m args below meth c cells slots Q T G A nL (q_pc code i) ls st σ) (q_WP p l e R s m args below meth c cells slots Q T G A nL (pc) (ls) (st) (σ)) (q_des (q_tl T) (q_tx T) (i, pc, .areturn, inf) ls st σ) := by
  obtain ⟨h0, hs, hm⟩ := hc
  simp only [q_des]
  split
  · rename_i x
    exact ⟨(q_cs_cons.mp hs).1, rfl, rfl, Or.inr (Or.inr (Or.inl ⟨x, rfl, hd, hw⟩))⟩
  · trivial
theorem q_s_return (hd : decode bytes pc = .ok (.return_, 1)) (hw : ret = none) (hc : q_can T ls st σ) : q_SD l T G bytes ret pc st σ (fun i ls st σ => q_WP p l e R s m args below meth c cells slots Q T G A nL (q_pc code i) ls st σ) (q_WP p l e R s m args below meth c cells slots Q T G A nL (pc) (ls) (st) (σ)) (q_des (q_tl T) (q_tx T) (i, pc, .return_, inf) ls st σ) := by
  simp only [q_des]
  split
  · exact ⟨trivial, rfl, rfl, Or.inr (Or.inr (Or.inr ⟨rfl, hd, hw⟩))⟩
  · trivial

/-- what the tables say of a method -/
def q_yok (T : q_T) (y : q_Y) (n : Nat) : Prop := Cond.code y.1 y.2.1 y.2.2.1 y.2.2.2.1 ∈ q_gw T ∧ Cond.initialized y.1.cls ∈ q_gw T ∧ (y.1.cls ≠ "java/lang/invoke/MethodHandle" ∧ y.1.cls ≠ "java/lang/invoke/VarHandle" ∧ (parseMethodDescriptor y.1.desc).map (fun d => d.parameters.length) = some n)
theorem q_good {T : q_T} {y : q_Y} (h : Cond.code y.1 y.2.1 y.2.2.1 y.2.2.2.1 ∈ q_gw T) : GoodIn (q_gw T) (q_wy T y) := by
  intro w hw
  rcases List.mem_cons.mp hw with e | hw
  · subst e
    exact ⟨h, good_of_word (List.mem_filter.mp h).2⟩
  · exact ⟨hw, good_of_word (List.mem_filter.mp hw).2⟩
theorem q_cats : ∀ l : List Value, (l.map fun v => v.category).sum ≤ 2 * l.length := by
  intro l
  induction l with
  | nil => exact Nat.le_refl _
  | cons v l ih =>
    have : v.category ≤ 2 := by cases v <;> exact Nat.le_of_ble_eq_true rfl
    simp only [List.map_cons, List.sum_cons, List.length_cons]
    omega
theorem q_pushv {G : q_G} {r : q_R} {st : List q_V} : (q_psh r st).map (q_cv G) = (r.map (q_cv G)).toList ++ st.map (q_cv G) := by cases r <;> rfl
theorem q_takes {st : List q_V} {n : Nat} (h0 : 0 < n) (h : n ≤ st.length) : (st.take n).reverse = st.getD (n - 1) (9, 0) :: (st.take (n - 1)).reverse := by
  obtain ⟨k, rfl⟩ : ∃ k, n = k + 1 := ⟨n - 1, by omega⟩
  have hk : k < st.length := by omega
  rw [Nat.add_sub_cancel, List.take_succ, List.getElem?_eq_getElem hk]
  simp [List.getD_eq_getElem?_getD, List.getElem?_eq_getElem hk]
/-- the callee's start -/
theorem q_preS (X : q_Cx p s m args c T G A bytes own nL) {as : List q_V} {H : Heap} {locs : List Loc} (hP : va_P G.1 (q_tc T) (q_ws G (q_tl T) σ) H) (hS : va_S A s.heap H locs) {U : State} (hU : U.heap = H) (hW : s.WarmedH U.vm) : q_Pc T G as σ H.size (as.map (q_cv G)).toArray U := by
  refine ⟨rfl, by rw [hU], by rw [hU]; exact hP, va_K.moved hW.alike X.2.2.2.2.2.1, fun σ => (X.2.2.2.2.2.2.1 σ).weaken (fun _ _ _ _ => trivial), ?_⟩
  rw [hU]
  refine q_ext_to X.2.2.2.2.2.2.2.2.1 hS.2.1 hW (fun q hq => X.2.2.2.2.2.2.2.2.2.1 q ?_)
  rcases hq with hq | hq
  · exact Or.inl hq
  · exact Or.inr (Nat.le_trans hS.1 hq)
theorem q_subA (X : q_Cx p s m args c T G A bytes own nL) {H : Heap} {locs : List Loc} (hS : va_S A s.heap H locs) : ∀ q, q_A T G H.size q → A q := fun q hq => X.2.2.2.2.2.2.2.2.2.1 q (by
  rcases hq with hq | hq
  · exact Or.inl hq
  · exact Or.inr (Nat.le_trans hS.1 hq))

def q_pw (own : String) (ix : Nat) (k : Nat) (T : q_T) : Prop := match k with
  | 0 => Cond.methodLink own ix Lib.Math.max.name ∈ q_gw T ∧ Cond.static Lib.Math.max.name ∈ q_gw T ∧ Cond.initialized "java/lang/Math" ∈ q_gw T ∧ Cond.code Lib.Math.max.name Lib.Math.max.code 2 (some .int) ∈ q_gw T
  | 1 => Cond.methodLink own ix Lib.Math.min.name ∈ q_gw T ∧ Cond.static Lib.Math.min.name ∈ q_gw T ∧ Cond.initialized "java/lang/Math" ∈ q_gw T ∧ Cond.code Lib.Math.min.name Lib.Math.min.code 2 (some .int) ∈ q_gw T
  | 2 => Cond.methodLink own ix Lib.MathLoose.max_long.x ∈ q_gw T ∧ Cond.static Lib.MathLoose.max_long.x ∈ q_gw T ∧ Cond.initialized "java/lang/Math" ∈ q_gw T ∧ Cond.code Lib.MathLoose.max_long.x Lib.MathLoose.max_long.code 4 (some .long) ∈ q_gw T
  | _ => True
theorem q_max32 {x y : Int} (hx : q_i32 x) (hy : q_i32 y) : (if Int32.ofInt x < Int32.ofInt y then Int32.ofInt y else Int32.ofInt x) = Int32.ofInt (max x y) := by
  by_cases h : x < y
  · rw [if_pos ((q_lt hx hy).mpr h), show max x y = y by omega]
  · rw [if_neg (fun z => h ((q_lt hx hy).mp z)), show max x y = x by omega]
theorem q_min32 {x y : Int} (hx : q_i32 x) (hy : q_i32 y) : (if Int32.ofInt y < Int32.ofInt x then Int32.ofInt y else Int32.ofInt x) = Int32.ofInt (min x y) := by
  by_cases h : y < x
  · rw [if_pos ((q_lt hy hx).mpr h), show min x y = y by omega]
  · rw [if_neg (fun z => h ((q_lt hy hx).mp z)), show min x y = x by omega]
theorem q_max64 {x y : Int} (hx : q_i64 x) (hy : q_i64 y) : (if Int64.ofInt y < Int64.ofInt x then Int64.ofInt x else Int64.ofInt y) = Int64.ofInt (max x y) := by
  by_cases h : y < x
  · rw [if_pos ((q_ltl hy hx).mpr h), show max x y = x by omega]
  · rw [if_neg (fun z => h ((q_ltl hy hx).mp z)), show max x y = y by omega]

theorem q_s_prm (X : q_Cx p s m args c T G A bytes own nL) {ix k : Nat} (hk : q_ck0 bytes code i pc (.invokestatic ix) = true) (hroom : cells ≤ R.cells ∧ slots ≤ R.slots) (hR : 1 ≤ R.frames ∧ 23 ≤ R.locals) (hw : q_pw own ix k T) (hc : q_can T ls st σ) : q_SD l T G bytes ret pc st σ (fun i ls st σ => q_WP p l e R s m args below meth c cells slots Q T G A nL (q_pc code i) ls st σ) (q_WP p l e R s m args below meth c cells slots Q T G A nL (pc) (ls) (st) (σ)) (q_prm k i ls st σ) := by
  obtain ⟨hd, hn⟩ := q_ck0_ok hk
  obtain ⟨h0, hs, hm⟩ := hc
  unfold q_prm
  refine q_bif (fun hu => ?_) trivial
  have hl6 : st.length ≤ 6 := Nat.le_of_ble_eq_true hu
  have hwords := X.2.2.2.2.1
  split
  · split
    · rename_i y x st'
      obtain ⟨hy, hs1⟩ := q_cs_cons.mp hs
      obtain ⟨hx, hs2⟩ := q_cs_cons.mp hs1
      refine ⟨⟨h0, q_cs_cons.mpr ⟨q_c1_0 (by have := hx.1 rfl; have := hy.1 rfl; unfold q_i32 at *; omega), hs2⟩, hm⟩, fun k H locs sl hP hS hL => ?_⟩
      have k := k H locs sl hP hS hL
      rw [hn] at k
      have hcs := q_cats (st'.map (q_cv G))
      rw [List.length_map] at hcs
      simp only [List.length_cons] at hl6
      refine va_mmax X.1 X.2.1 (by rw [X.2.2.1]; exact hL.2.1.symm) X.2.2.2.1 (hwords _ hw.1) (hwords _ hw.2.1) (hwords _ hw.2.2.1) (hwords _ hw.2.2.2) hR.1 (by omega) hroom.1 hroom.2 hd ?_
      rw [q_max32 (hx.1 rfl) (hy.1 rfl)]
      exact k
    · trivial
  · split
    · rename_i y x st'
      obtain ⟨hy, hs1⟩ := q_cs_cons.mp hs
      obtain ⟨hx, hs2⟩ := q_cs_cons.mp hs1
      refine ⟨⟨h0, q_cs_cons.mpr ⟨q_c1_0 (by have := hx.1 rfl; have := hy.1 rfl; unfold q_i32 at *; omega), hs2⟩, hm⟩, fun k H locs sl hP hS hL => ?_⟩
      have k := k H locs sl hP hS hL
      rw [hn] at k
      have hcs := q_cats (st'.map (q_cv G))
      rw [List.length_map] at hcs
      simp only [List.length_cons] at hl6
      refine va_mmin X.1 X.2.1 (by rw [X.2.2.1]; exact hL.2.1.symm) X.2.2.2.1 (hwords _ hw.1) (hwords _ hw.2.1) (hwords _ hw.2.2.1) (hwords _ hw.2.2.2) hR.1 (by omega) hroom.1 hroom.2 hd ?_
      rw [q_min32 (hx.1 rfl) (hy.1 rfl)]
      exact k
    · trivial
  · split
    · rename_i y x st'
      obtain ⟨hy, hs1⟩ := q_cs_cons.mp hs
      obtain ⟨hx, hs2⟩ := q_cs_cons.mp hs1
      refine ⟨⟨h0, q_cs_cons.mpr ⟨q_c1_1 (by have := hx.2 rfl; have := hy.2 rfl; unfold q_i64 at *; omega), hs2⟩, hm⟩, fun k H locs sl hP hS hL => ?_⟩
      have k := k H locs sl hP hS hL
      rw [hn] at k
      have hcs := q_cats (st'.map (q_cv G))
      rw [List.length_map] at hcs
      simp only [List.length_cons] at hl6
      refine va_mmax_long X.1 X.2.1 (by rw [X.2.2.1]; exact hL.2.1.symm) X.2.2.2.1 (hwords _ hw.1) (hwords _ hw.2.1) (hwords _ hw.2.2.1) (hwords _ hw.2.2.2) hR.1 (by omega) hroom.1 hroom.2 hd ?_
      rw [q_max64 (hx.2 rfl) (hy.2 rfl)]
      exact k
    · trivial
  · trivial

theorem q_s_invokestatic (X : q_Cx p s m args c T G A bytes own nL) {ix : Nat} (hk : q_ck0 bytes code i pc (.invokestatic ix) = true) (hroom : cells ≤ R.cells ∧ slots ≤ R.slots) (hw : ∀ (mi n cc ml : Nat) (r : List Int), inf = (.ofNat mi) :: (.ofNat n) :: (.ofNat cc) :: (.ofNat ml) :: r → ∃ y, (q_ty T)[mi]? = some y ∧ y.2.2.1 = ml ∧ q_yok T y n ∧ Cond.static y.1 ∈ q_gw T ∧ (q_rm y).frames + 1 ≤ R.frames ∧ 8 + (y.2.2.1 + 11) + (q_rm y).locals ≤ R.locals ∧ (Cond.methodLink own ix y.1 ∈ q_gw T ∨ ∃ e ∈ q_tn T, e.1 = own ∧ e.2.1 = ix ∧ e.2.2.1 = y.1)) (hc : q_can T ls st σ) : q_SD l T G bytes ret pc st σ (fun i ls st σ => q_WP p l e R s m args below meth c cells slots Q T G A nL (q_pc code i) ls st σ) (q_WP p l e R s m args below meth c cells slots Q T G A nL (pc) (ls) (st) (σ)) (q_inv i inf (q_tl T) (q_tx T) ls st σ) := by
  obtain ⟨hd, hn⟩ := q_ck0_ok hk
  obtain ⟨h0, hs, hm⟩ := hc
  unfold q_inv
  split
  · rename_i mi n cc ml r
    obtain ⟨y, hy, hml, hok, hst, hfr, hlo, hlk⟩ := hw _ _ _ _ _ rfl
    refine q_bif (fun hu => ?_) trivial
    obtain ⟨hu1, -⟩ := Bool.and_eq_true_iff.mp hu
    obtain ⟨hu1, hu2⟩ := Bool.and_eq_true_iff.mp hu1
    obtain ⟨hu3, hu4⟩ := Bool.and_eq_true_iff.mp hu1
    have h1 : n ≤ st.length := Nat.le_of_ble_eq_true hu3
    have h4 : st.length ≤ n + 4 := Nat.le_of_ble_eq_true hu4
    have h2 : (q_sl (st.take n).reverse).length ≤ ml := Nat.le_of_ble_eq_true hu2
    refine ⟨y, hy, fun v hv => hs v (List.mem_of_mem_take (List.mem_reverse.mp hv)), ⟨h0, fun v hv => hs v (List.mem_of_mem_drop hv), hm⟩, by rw [hml]; exact h2, fun r σ2 hM k H locs sl hP hS hL => ?_⟩
    have hstk : st.map (q_cv G) = (((st.take n).reverse).map (q_cv G)).reverse ++ (st.drop n).map (q_cv G) := by
      rw [List.map_reverse, List.reverse_reverse, ← List.map_append, List.take_append_drop]
    have hrest : 2 * (F0 m pc sl (st.map (q_cv G))).monitorRoom + (((st.drop n).map (q_cv G)).map fun v => v.category).sum ≤ 8 := by
      have := q_cats ((st.drop n).map (q_cv G))
      rw [List.length_map, List.length_drop] at this
      exact lv_room (by omega)
    have hlen : (((st.take n).reverse).map (q_cv G)).length = n := by rw [List.length_map, List.length_reverse, List.length_take]; omega
    have hini := X.2.2.2.2.1 _ hok.2.1
    have hwords := X.2.2.2.2.1
    have kk : ∀ (H1 : Heap) (locs1 : List Loc), q_cr r → q_cm (q_tl T) σ2 → va_P G.1 (q_tc T) (q_ws G (q_tl T) σ2) H1 → va_S A s.heap H1 locs1 → W p l e R s m args below meth c H1 locs1 cells slots Q (F0 m (pc + 3) sl ((r.map (q_cv G)).toList ++ (st.drop n).map (q_cv G))) := by
      intro H1 locs1 hcr hcm hP1 hS1
      have k := k hcr hcm H1 locs1 sl hP1 hS1 hL
      rw [hn, q_pushv] at k
      exact k
    rcases hlk with hlk | ⟨x, hx, hx1, hx2, hx3⟩
    · exact q_callK (va_runS (As := ((st.take n).reverse).map (q_cv G)) (rest := (st.drop n).map (q_cv G)) ⟨X.1, X.2.1, X.2.2.1, X.2.2.2.1, hwords⟩ (hM H.size) ⟨callB_of n hwords (q_good hok.1) rfl rfl rfl hini (hwords _ hlk) hok.2.2 ⟨hfr, hlo⟩, hwords _ hst⟩ ⟨q_blind, fun U hU hW => q_preS X hP hS hU hW⟩ rfl hlen hL.2.1 hstk hrest hd ⟨hroom.1, hroom.2⟩) hS (q_subA X hS) kk
    · have hnw := X.2.2.2.2.2.2.2.2.1.2.2.2 x hx
      rw [hx1, hx2, hx3] at hnw
      exact q_callK (va_runSN (As := ((st.take n).reverse).map (q_cv G)) (rest := (st.drop n).map (q_cv G)) ⟨X.1, X.2.1, X.2.2.1, X.2.2.2.1, hwords⟩ (hM H.size) ⟨va_cnB n hwords (q_good hok.1) rfl rfl rfl hnw hini hok.2.2 ⟨hfr, hlo⟩, hwords _ hst, trivial⟩ ⟨q_blind, fun U hU hW => q_preS X hP hS hU hW⟩ rfl hlen hL.2.1 hstk hrest hd ⟨hroom.1, hroom.2⟩) hS (q_subA X hS) kk
  · trivial

theorem q_s_invokevirtual (X : q_Cx p s m args c T G A bytes own nL) {ix : Nat} (hk : q_ck0 bytes code i pc (.invokevirtual ix) = true) (hroom : cells ≤ R.cells ∧ slots ≤ R.slots) (hw : ∀ (mi n cc ml : Nat) (r : List Int), inf = (.ofNat mi) :: (.ofNat n) :: (.ofNat cc) :: (.ofNat ml) :: r → ∃ y, (q_ty T)[mi]? = some y ∧ y.2.2.1 = ml ∧ cc ≠ 98 ∧ q_yok T y (n - 1) ∧ Cond.instanceMethod y.1 ∈ q_gw T ∧ Cond.selects y.1.cls y.1 y.1 ∈ q_gw T ∧ (∀ q, (q_tc T)[cc]? = some q → q.1 = y.1.cls) ∧ (cc = 99 → y.1.cls = "java/lang/String") ∧ (q_rm y).frames + 1 ≤ R.frames ∧ 8 + (y.2.2.1 + 11) + (q_rm y).locals ≤ R.locals ∧ Cond.methodLink own ix y.1 ∈ q_gw T) (hc : q_can T ls st σ) : q_SD l T G bytes ret pc st σ (fun i ls st σ => q_WP p l e R s m args below meth c cells slots Q T G A nL (q_pc code i) ls st σ) (q_WP p l e R s m args below meth c cells slots Q T G A nL (pc) (ls) (st) (σ)) (q_des (q_tl T) (q_tx T) (i, pc, .invokevirtual ix, inf) ls st σ) := by
  obtain ⟨hd, hn⟩ := q_ck0_ok hk
  obtain ⟨h0, hs, hm⟩ := hc
  simp only [q_des]
  unfold q_inv
  split
  · rename_i mi n cc ml r
    obtain ⟨y, hy, hml, h98, hok, hst, hse, hcls, hstr, hfr, hlo, hlk⟩ := hw _ _ _ _ _ rfl
    refine q_bif (fun hu => ?_) trivial
    obtain ⟨hu1, hu5⟩ := Bool.and_eq_true_iff.mp hu
    obtain ⟨hu1, hu2⟩ := Bool.and_eq_true_iff.mp hu1
    obtain ⟨hu3, hu4⟩ := Bool.and_eq_true_iff.mp hu1
    have h1 : n ≤ st.length := Nat.le_of_ble_eq_true hu3
    have h4 : st.length ≤ n + 4 := Nat.le_of_ble_eq_true hu4
    have h2 : (q_sl (st.take n).reverse).length ≤ ml := Nat.le_of_ble_eq_true hu2
    rw [show (cc == 98) = false by simpa using h98, Bool.false_or] at hu5
    obtain ⟨hn0, hrc⟩ := Bool.and_eq_true_iff.mp hu5
    have hn0 : 0 < n := of_decide_eq_true hn0
    refine ⟨y, hy, fun v hv => hs v (List.mem_of_mem_take (List.mem_reverse.mp hv)), ⟨h0, fun v hv => hs v (List.mem_of_mem_drop hv), hm⟩, by rw [hml]; exact h2, fun r σ2 hM k H locs sl hP hS hL => ?_⟩
    have htk := q_takes hn0 h1
    have hstk0 : st.map (q_cv G) = (((st.take n).reverse).map (q_cv G)).reverse ++ (st.drop n).map (q_cv G) := by
      rw [List.map_reverse, List.reverse_reverse, ← List.map_append, List.take_append_drop]
    have hrest : 2 * (F0 m pc sl (st.map (q_cv G))).monitorRoom + (((st.drop n).map (q_cv G)).map fun v => v.category).sum ≤ 8 := by
      have := q_cats ((st.drop n).map (q_cv G))
      rw [List.length_map, List.length_drop] at this
      exact lv_room (by omega)
    have hlen : (((st.take (n - 1)).reverse).map (q_cv G)).length = n - 1 := by rw [List.length_map, List.length_reverse, List.length_take]; omega
    have hini := X.2.2.2.2.1 _ hok.2.1
    have hwords := X.2.2.2.2.1
    have kk : ∀ (H1 : Heap) (locs1 : List Loc), q_cr r → q_cm (q_tl T) σ2 → va_P G.1 (q_tc T) (q_ws G (q_tl T) σ2) H1 → va_S A s.heap H1 locs1 → W p l e R s m args below meth c H1 locs1 cells slots Q (F0 m (pc + 3) sl ((r.map (q_cv G)).toList ++ (st.drop n).map (q_cv G))) := by
      intro H1 locs1 hcr hcm hP1 hS1
      have k := k hcr hcm H1 locs1 sl hP1 hS1 hL
      rw [hn, q_pushv] at k
      exact k
    have hrecv : ∃ b, q_cv G (st.getD (n - 1) (9, 0)) = .ref b ∧ ∃ cellB : Cell, H[b]? = some cellB ∧ cellB.vm.isStatics = false ∧ s.vm.findClass y.1.cls = some cellB.cls := by
      generalize hg : st.getD (n - 1) (9, 0) = v0 at hrc
      unfold q_rcv at hrc
      split at hrc
      · rename_i rr
        generalize hg2 : q_at (q_tl T) rr = d at hrc
        obtain ⟨kd, ci, fs⟩ := d
        dsimp only at hrc
        obtain ⟨e1, e2⟩ := Bool.and_eq_true_iff.mp hrc
        have e1 := eq_of_beq e1
        have e2 := eq_of_beq e2
        subst e1
        subst e2
        obtain ⟨mm, rfl, hl⟩ := q_at_some hg2 (show (0 : Nat) ≠ 9 by decide)
        obtain ⟨q, hq, -⟩ := X.2.2.2.2.2.2.2.2.2.2.2.1 mm _ hl rfl
        dsimp only at hq
        refine ⟨G.2.2.1 mm, rfl, ?_⟩
        rw [← hcls q hq]
        exact va_recv X.2.2.2.2.2.1 hP hq (q_ws_get hl)
      · rename_i rr
        generalize hg2 : q_ax (q_tx T) rr = d at hrc
        obtain ⟨kd, ci, fs⟩ := d
        dsimp only at hrc
        obtain ⟨e1, e2⟩ := Bool.and_eq_true_iff.mp hrc
        have e1 := eq_of_beq e1
        have e2 := eq_of_beq e2
        subst e1
        obtain ⟨mm, rfl, hl⟩ := q_ax_some hg2 (show (0 : Nat) ≠ 9 by decide)
        obtain ⟨t, ht, hO, -⟩ := (X.2.2.2.2.2.2.2.2.1.1 mm _ hl).2.2 rfl
        obtain ⟨cell, c1, c2, c3, -⟩ := hO.kept hS.2.1
        exact ⟨t, ht, cell, c1, c2, by rw [hstr e2]; exact c3⟩
      · cases hrc
    obtain ⟨b, hb, hcell⟩ := hrecv
    have has : ((st.take n).reverse).map (q_cv G) = .ref b :: ((st.take (n - 1)).reverse).map (q_cv G) := by rw [htk, List.map_cons, hb]
    have hstk : st.map (q_cv G) = (((st.take (n - 1)).reverse).map (q_cv G)).reverse ++ .ref b :: (st.drop n).map (q_cv G) := by
      rw [hstk0, has, List.reverse_cons, List.append_assoc]
      rfl
    exact q_callK (va_runV (C := y.1.cls) (b := b) (As := ((st.take (n - 1)).reverse).map (q_cv G)) (rest := (st.drop n).map (q_cv G)) ⟨X.1, X.2.1, X.2.2.1, X.2.2.2.1, hwords⟩ (hM H.size) ⟨callB_of (n - 1) hwords (q_good hok.1) rfl rfl rfl hini (hwords _ hlk) hok.2.2 ⟨hfr, hlo⟩, hwords _ hst, hwords _ hse⟩ ⟨q_blind, hcell, fun U hU hW => by rw [← has]; exact q_preS X hP hS hU hW⟩ rfl hlen hL.2.1 hstk hrest hd ⟨hroom.1, hroom.2⟩) hS (q_subA X hS) kk
  · trivial

/-- a table's places -/
def q_tb (code : List q_I) (pc : Nat) (lo : Int) (offs : Array Int) : Nat → List Int → Bool
  | j, v :: .ofNat t :: r => decide (v = lo + j) && (match offs[j]? with
    | some off => decide ((pc : Int) + off = (q_pc code t : Int))
    | none => false) && q_tb code pc lo offs (j + 1) r
  | j, [] => decide (j = offs.size)
  | _, _ => false
theorem q_SAt (X : q_Cx p s m args c T G A bytes own nL) {dflt lo hi : Int} {offs : Array Int} {len d : Nat} {x : Int} (hd : decode bytes pc = .ok (.tableswitch dflt lo hi offs, len)) (hsz : lo + offs.size = hi + 1) (hdf : (pc : Int) + dflt = (q_pc code d : Int)) (hx : q_i32 x) (hc : q_can T ls st σ) :
    ∀ (r : List Int) (j : Nat), q_tb code pc lo offs j r = true → j ≤ offs.size → (x < lo ∨ lo + j ≤ x) → q_SA T (fun i ls st σ => q_WP p l e R s m args below meth c cells slots Q T G A nL (q_pc code i) ls st σ) (q_WP p l e R s m args below meth c cells slots Q T G A nL (pc) (ls) ((0, x) :: st) (σ)) (d, ls, st, σ) (q_sw x ls st σ r)
  | v :: .ofNat t :: r, j, h, hj, hxj => by
    unfold q_tb at h
    obtain ⟨h1, h3⟩ := Bool.and_eq_true_iff.mp h
    obtain ⟨h1, h2⟩ := Bool.and_eq_true_iff.mp h1
    have h1 := of_decide_eq_true h1
    cases ho : offs[j]? with
    | none => rw [ho] at h2; cases h2
    | some off =>
      rw [ho] at h2
      have h2 := of_decide_eq_true h2
      have hjl : j < offs.size := (Array.getElem?_eq_some_iff.mp ho).1
      refine ⟨fun e => ⟨hc, fun k H locs sl hP hS hL => ?_⟩, fun e => q_SAt X hd hsz hdf hx hc r (j + 1) h3 hjl (by omega)⟩
      refine lv_tableIn X.1 X.2.1 hd (by rw [q_t32i hx]; omega) (by rw [q_t32i hx]; omega) (off := off) ?_ h2 (k H locs sl hP hS hL)
      rw [q_t32i hx, show (x - lo).toNat = j by omega]
      exact ho
  | [], j, h, hj, hxj => by
    have h : j = offs.size := by unfold q_tb at h; exact of_decide_eq_true h
    exact ⟨hc, fun k H locs sl hP hS hL => lv_tableOut X.1 X.2.1 hd (by rw [q_t32i hx]; omega) hdf (k H locs sl hP hS hL)⟩
  | [v], j, h, hj, hxj => by unfold q_tb at h; cases h
  | v :: .negSucc t :: r, j, h, hj, hxj => by unfold q_tb at h; cases h
def q_lk (code : List q_I) (pc : Nat) : List (Int × Int) → List Int → Bool
  | (a, o) :: ps, v :: .ofNat t :: r => decide (v = a) && decide ((pc : Int) + o = (q_pc code t : Int)) && q_lk code pc ps r
  | [], [] => true
  | _, _ => false
theorem q_SAl (X : q_Cx p s m args c T G A bytes own nL) {dflt : Int} {ps : Array (Int × Int)} {len d : Nat} {x : Int} (hd : decode bytes pc = .ok (.lookupswitch dflt ps, len)) (hp : (ps.toList.zip (ps.toList.drop 1)).all (fun (a, next) => a.1 < next.1) = true) (hdf : (pc : Int) + dflt = (q_pc code d : Int)) (hx : q_i32 x) (hc : q_can T ls st σ) :
    ∀ (qs : List (Int × Int)) (r : List Int), q_lk code pc qs r = true → Op.lookupswitch.offset ps.toList dflt x = Op.lookupswitch.offset qs dflt x → q_SA T (fun i ls st σ => q_WP p l e R s m args below meth c cells slots Q T G A nL (q_pc code i) ls st σ) (q_WP p l e R s m args below meth c cells slots Q T G A nL (pc) (ls) ((0, x) :: st) (σ)) (d, ls, st, σ) (q_sw x ls st σ r)
  | (a, o) :: qs, v :: .ofNat t :: r, h, he => by
    unfold q_lk at h
    obtain ⟨h1, h3⟩ := Bool.and_eq_true_iff.mp h
    obtain ⟨h1, h2⟩ := Bool.and_eq_true_iff.mp h1
    have h1 := of_decide_eq_true h1
    have h2 := of_decide_eq_true h2
    rw [Op.lookupswitch.offset_cons] at he
    refine ⟨fun e => ⟨hc, fun k H locs sl hP hS hL => ?_⟩, fun e => q_SAl X hd hp hdf hx hc qs r h3 (by rw [he, if_neg (by omega)])⟩
    refine lv_lookup X.1 X.2.1 hd hp (off := o) ?_ h2 (k H locs sl hP hS hL)
    rw [q_t32i hx, he, if_pos (by omega)]
  | [], [], h, he => by
    refine ⟨hc, fun k H locs sl hP hS hL => lv_lookup X.1 X.2.1 hd hp (off := dflt) ?_ hdf (k H locs sl hP hS hL)⟩
    rw [q_t32i hx, he]
    rfl
  | [], v :: r, h, he => by unfold q_lk at h; cases h
  | (a, o) :: qs, [], h, he => by unfold q_lk at h; cases h
  | (a, o) :: qs, [v], h, he => by unfold q_lk at h; cases h
  | (a, o) :: qs, v :: .negSucc t :: r, h, he => by unfold q_lk at h; cases h
theorem q_s_tableswitch (X : q_Cx p s m args c T G A bytes own nL) {dflt lo hi : Int} {offs : Array Int} {len : Nat} (hd : decode bytes pc = .ok (.tableswitch dflt lo hi offs, len)) (hw : ∀ (d : Nat) (r : List Int), inf = (.ofNat d) :: r → lo + offs.size = hi + 1 ∧ (pc : Int) + dflt = (q_pc code d : Int) ∧ q_tb code pc lo offs 0 r = true) (hc : q_can T ls st σ) : q_SD l T G bytes ret pc st σ (fun i ls st σ => q_WP p l e R s m args below meth c cells slots Q T G A nL (q_pc code i) ls st σ) (q_WP p l e R s m args below meth c cells slots Q T G A nL (pc) (ls) (st) (σ)) (q_des (q_tl T) (q_tx T) (i, pc, .tableswitch dflt lo hi offs, inf) ls st σ) := by
  obtain ⟨h0, hs, hm⟩ := hc
  simp only [q_des]
  split
  · rename_i x st'
    obtain ⟨hx, hs2⟩ := q_cs_cons.mp hs
    unfold q_swi
    split
    · obtain ⟨e1, e2, e3⟩ := hw _ _ rfl
      exact q_SAt X hd e1 e2 (hx.1 rfl) ⟨h0, hs2, hm⟩ _ 0 e3 (Nat.zero_le _) (by omega)
    · trivial
  · trivial
theorem q_s_lookupswitch (X : q_Cx p s m args c T G A bytes own nL) {dflt : Int} {ps : Array (Int × Int)} {len : Nat} (hd : decode bytes pc = .ok (.lookupswitch dflt ps, len)) (hw : ∀ (d : Nat) (r : List Int), inf = (.ofNat d) :: r → (ps.toList.zip (ps.toList.drop 1)).all (fun (a, next) => a.1 < next.1) = true ∧ (pc : Int) + dflt = (q_pc code d : Int) ∧ q_lk code pc ps.toList r = true) (hc : q_can T ls st σ) : q_SD l T G bytes ret pc st σ (fun i ls st σ => q_WP p l e R s m args below meth c cells slots Q T G A nL (q_pc code i) ls st σ) (q_WP p l e R s m args below meth c cells slots Q T G A nL (pc) (ls) (st) (σ)) (q_des (q_tl T) (q_tx T) (i, pc, .lookupswitch dflt ps, inf) ls st σ) := by
  obtain ⟨h0, hs, hm⟩ := hc
  simp only [q_des]
  split
  · rename_i x st'
    obtain ⟨hx, hs2⟩ := q_cs_cons.mp hs
    unfold q_swi
    split
    · obtain ⟨e1, e2, e3⟩ := hw _ _ rfl
      exact q_SAl X hd e1 e2 (hx.1 rfl) ⟨h0, hs2, hm⟩ _ _ e3 rfl
    · trivial
  · trivial
end QST
