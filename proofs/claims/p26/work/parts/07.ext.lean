/-- a method: name, bytes, locals, answer, room of frames and of locals -/
abbrev q_Y : Type := MethodName × ByteArray × Nat × Option FieldType × Nat × Nat
/-- the tables: layout, things outside, classes, words, statics, texts, calls of nest mates, methods -/
abbrev q_T : Type := List q_C × List q_X × List vw_C × List Cond × List (String × String × String × q_V) × List (String × Nat × String × Nat) × List (String × Nat × MethodName × String) × List q_Y
abbrev q_tl (T : q_T) : List q_C := T.1
abbrev q_tx (T : q_T) : List q_X := T.2.1
abbrev q_tc (T : q_T) : List vw_C := T.2.2.1
abbrev q_tw (T : q_T) : List Cond := T.2.2.2.1
abbrev q_ts (T : q_T) : List (String × String × String × q_V) := T.2.2.2.2.1
abbrev q_tt (T : q_T) : List (String × Nat × String × Nat) := T.2.2.2.2.2.1
abbrev q_tn (T : q_T) : List (String × Nat × MethodName × String) := T.2.2.2.2.2.2.1
abbrev q_ty (T : q_T) : List q_Y := T.2.2.2.2.2.2.2
def q_gw (T : q_T) : List Cond := (q_tw T).filter goodWord
/-- what lies outside the world -/
def q_xa (T : q_T) (G : q_G) (A : Nat → Prop) (U : State) (H : Heap) : Prop := ∀ (r : Nat) (c : q_X), (q_tx T)[r]? = some c →
  (c.1 = 1 → ∃ t, G.2.2.2 r = .ref t ∧ va_T .int t c.2.1 (fun j => .int (Int32.ofInt (c.2.2 j))) A U H) ∧
  (c.1 = 6 → ∃ t, G.2.2.2 r = .ref t ∧ va_T .byte t c.2.1 (fun j => .int (Int32.ofInt (c.2.2 j))) A U H) ∧
  (c.1 = 0 → ∃ t, G.2.2.2 r = .ref t ∧ va_O "java/lang/String" t A U H ∧ va_OF "java/lang/String" "coder" "B" (.int 0) t A U H ∧ va_OF "java/lang/String" "value" "[B" (G.2.2.2 c.2.1) t A U H)
def q_xs (T : q_T) (G : q_G) (A : Nat → Prop) (U : State) (H : Heap) : Prop := ∀ e ∈ q_ts T, va_Z e.1 e.2.1 e.2.2.1 (q_cv G e.2.2.2) A U H
def q_xt' (T : q_T) (G : q_G) (U : State) : Prop := ∀ e ∈ q_tt T, ∃ t, G.2.2.2 e.2.2.2 = .ref t ∧ vk_R e.1 e.2.1 e.2.2.1 t U
def q_xn (T : q_T) (U : State) : Prop := ∀ e ∈ q_tn T, va_Nw (.methodLinkNest e.1 e.2.1 e.2.2.1 e.2.2.2) U
def q_ext (T : q_T) (G : q_G) (A : Nat → Prop) (U : State) (H : Heap) : Prop := q_xa T G A U H ∧ q_xs T G A U H ∧ q_xt' T G U ∧ q_xn T U
theorem q_ext_to {T : q_T} {G : q_G} {A A' : Nat → Prop} {s U : State} {H0 H : Heap} (h : q_ext T G A s H0) (hq : ∀ a : Nat, a < H0.size → ¬ A a → H[a]? = H0[a]?) (hW : s.WarmedH U.vm) (hA : ∀ q, A' q → A q) : q_ext T G A' U H := by
  obtain ⟨h1, h2, h3, h4⟩ := h
  refine ⟨fun r c hr => ?_, fun e he => ?_, fun e he => ?_, fun e he => ?_⟩
  · obtain ⟨a1, a2, a3⟩ := h1 r c hr
    refine ⟨fun e => ?_, fun e => ?_, fun e => ?_⟩
    · obtain ⟨t, b1, b2⟩ := a1 e
      exact ⟨t, b1, ((b2.kept hq).moved hW.alike).narrow hA⟩
    · obtain ⟨t, b1, b2⟩ := a2 e
      exact ⟨t, b1, ((b2.kept hq).moved hW.alike).narrow hA⟩
    · obtain ⟨t, b1, b2, b3, b4⟩ := a3 e
      exact ⟨t, b1, ((b2.kept hq).moved hW.alike).narrow hA, ((b3.kept hq).moved hW.alike).narrow hA, ((b4.kept hq).moved hW.alike).narrow hA⟩
  · exact (((h2 e he).kept hq).moved hW.alike).narrow hA
  · obtain ⟨t, b1, b2⟩ := h3 e he
    exact ⟨t, b1, b2.warm hW⟩
  · exact (h4 e he).warmM hW
def q_tys (G : q_G) : List (ClassId × FieldType) := [(G.2.1.1, .int), (G.2.1.2.1, .boolean), (G.2.1.2.2.1, .long), (G.2.1.2.2.2, .object "MarshCourt$Custom")]
def q_A (T : q_T) (G : q_G) (sz : Nat) : Nat → Prop := fun q => (∃ k : Nat, k < (q_tl T).length ∧ q = G.2.2.1 k) ∨ sz ≤ q
/-- a method's start -/
def q_B (T : q_T) (G : q_G) (σ : q_S) (sz : Nat) (U : State) : Prop := U.heap.size = sz ∧ va_P G.1 (q_tc T) (q_ws G (q_tl T) σ) U.heap ∧ va_K G.1 (q_tc T) (q_tys G) U ∧ (∀ σ, va_D (fun _ => True) (q_ws G (q_tl T) σ)) ∧ q_ext T G (q_A T G sz) U U.heap
def q_Pc (T : q_T) (G : q_G) (as : List q_V) (σ : q_S) (sz : Nat) : Array Value → State → Prop := va_Pc (as.map (q_cv G)) (q_B T G σ sz)
/-- its end -/
def q_Qc (T : q_T) (G : q_G) (r : q_R) (σ : q_S) (sz : Nat) : Array Value → State → Outcome → State → Prop := fun _ st oc t => oc = .returned (r.map (q_cv G)) ∧ va_P G.1 (q_tc T) (q_ws G (q_tl T) σ) t.heap ∧ va_F (q_A T G sz) st t ∧ q_cr r ∧ q_cm (q_tl T) σ
def q_rm (y : q_Y) : Room := { frames := y.2.2.2.2.1, cells := 0, slots := 0, locals := y.2.2.2.2.2 }
def q_wy (T : q_T) (y : q_Y) : List Cond := .code y.1 y.2.1 y.2.2.1 y.2.2.2.1 :: q_gw T
/-- a method's contract at one run -/
def q_CM (l : Launch) (T : q_T) (G : q_G) (y : q_Y) (as : List q_V) (σ : q_S) (r : q_R) (σ' : q_S) : Prop := ∀ sz, Met l y.1 (q_wy T y) (q_rm y) (q_Pc T G as σ sz) (q_Qc T G r σ' sz) 0 0 (q_A T G sz)
theorem q_blind {T : q_T} {G : q_G} {as : List q_V} {σ : q_S} {sz : Nat} : FrameBlind (q_Pc T G as σ sz) := by
  intro a U g mk q
  obtain ⟨q0, q1, qP, qK, qD, qE⟩ := q
  exact ⟨q0, q1, qP, va_K.moved (u := U) (U := U.calling g mk a) (Vm.Alike.refl U.vm) qK, qD, q_ext_to qE (fun _ _ _ => rfl) (State.WarmedH.refl U) (fun _ h => h)⟩
theorem q_A_D {T : q_T} {G : q_G} {σ : q_S} {sz : Nat} {A : Nat → Prop} (h : va_D A (q_ws G (q_tl T) σ)) : va_D (q_A T G sz) (q_ws G (q_tl T) σ) := by
  refine ⟨h.1, fun k q hk => Or.inl ?_⟩
  unfold q_ws at hk
  rw [List.getElem?_mapIdx] at hk
  cases hl : (q_tl T)[k]? with
  | none => rw [hl] at hk; cases hk
  | some c =>
    rw [hl] at hk
    cases hk
    exact ⟨k, (List.getElem?_eq_some_iff.mp hl).1, rfl⟩
section QW
variable {p : Program} {l : Launch} {e : Env} {R : Room} {s : State} {m : MethodId} {args : Array Value} {below : List Frame} {meth : Method} {c : Code} {H : Heap} {locs : List Loc} {cells slots : Nat} {Q : State → Prop}
/-- behind a call -/
theorem q_callK {T : q_T} {G : q_G} {r : q_R} {σ : q_S} {sz : Nat} {a : Array Value} {A : Nat → Prop} {pc : Nat} {ls : Array Slot} {st0 rest : List Value}
    (hr : va_Run p l e R s m args below meth c H locs cells slots 0 0 (F0 m pc ls st0) rest (q_Qc T G r σ sz a) (q_A T G sz)) (hS : va_S A s.heap H locs) (hA : ∀ q, q_A T G sz q → A q)
    (kk : ∀ (H1 : Heap) (locs1 : List Loc), q_cr r → q_cm (q_tl T) σ → va_P G.1 (q_tc T) (q_ws G (q_tl T) σ) H1 → va_S A s.heap H1 locs1 → W p l e R s m args below meth c H1 locs1 cells slots Q (F0 m (pc + 3) ls ((r.map (q_cv G)).toList ++ rest))) : W p l e R s m args below meth c H locs cells slots Q (F0 m pc ls st0) := by
  intro T0 hT X
  obtain ⟨v, st₀, t, T', L, h0, X', hL, e1, e2, ⟨hv, hP, ⟨hz, hk⟩, hcr, hcm⟩, st⟩ := hr T0 hT X
  cases hv
  rw [h0] at hz hk
  obtain ⟨t2, a1, b1⟩ := kk T'.heap (locs ++ L) hcr hcm (by rw [e1]; exact hP) ⟨Nat.le_trans hS.1 (by rw [e1]; exact hz), fun q h1 h2 => by rw [e1, hk q (Nat.lt_of_lt_of_le h1 hS.1) (fun z => h2 (hA q z))]; exact hS.2.1 q h1 h2, fun q hq => by
      rcases List.mem_append.mp hq with h | h
      · exact hS.2.2 q h
      · exact hA _ (hL q h)⟩ T' rfl X'
  exact ⟨t2, st t2 a1, b1⟩
end QW
