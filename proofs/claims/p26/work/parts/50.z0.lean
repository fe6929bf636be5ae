/-! constructors: what they share -/
abbrev z_ia (cI : ClassId) (n : Nat) : va_E := .inl (cI, n, .inl (fun _ => Int32.ofInt 0))
abbrev z_la (cJ : ClassId) (n : Nat) : va_E := .inl (cJ, n, .inr (.inl (fun _ => Int64.ofInt 0)))
abbrev z_t (tI tZ tJ tQ : ClassId) : List (ClassId × FieldType) := [(tI, .int), (tZ, .boolean), (tJ, .long), (tQ, .object "MarshCourt$Custom")]
def z_w (y : MethodName) (b : ByteArray) (n : Nat) : List Cond := Cond.code y b n none :: q_gw q_T0
def z_B (D : va_G) (tys : List (ClassId × FieldType)) (ws : va_W) (sz : Nat) (U : State) : Prop := U.heap.size = sz ∧ va_P D q_cl ws U.heap ∧ va_K D q_cl tys U ∧ va_D (fun _ => True) ws ∧ q_xn q_T0 U ∧ va_AO "MarshCourt$Custom" U
def z_E (D : va_G) (tys : List (ClassId × FieldType)) (A : Nat → Prop) (ws : va_W) (t : State) : Prop := va_P D q_cl ws t.heap ∧ va_K D q_cl tys t ∧ va_D A ws
theorem z_good {y : MethodName} {b : ByteArray} {n : Nat} (h : Cond.code y b n none ∈ q_gw q_T0) : GoodIn (q_gw q_T0) (z_w y b n) := by
  intro w hw
  rcases List.mem_cons.mp hw with e | hw
  · subst e
    exact ⟨h, good_of_word (List.mem_filter.mp h).2⟩
  · exact ⟨hw, good_of_word (List.mem_filter.mp hw).2⟩
theorem z_nd : ∀ n : Nat, va_nd (List.range n) = true := by
  have key : ∀ (n k : Nat), va_nd (List.range' k n) = true := by
    intro n
    induction n with
    | zero => intro k; rfl
    | succ n ih =>
      intro k
      rw [List.range'_succ]
      simp only [va_nd, Bool.and_eq_true, decide_eq_true_eq]
      refine ⟨fun h => ?_, ih _⟩
      have := List.mem_range'_1.mp h
      omega
  intro n
  rw [List.range_eq_range']
  exact key n 0
/-- behind the making of an object: it is the last one -/
theorem z_join {A0 : Nat → Prop} {D : va_G} {cl : List vw_C} {wr w1 : va_W} {x : Nat × va_E} {H H1 : Heap} (hP : va_P D cl (wr ++ [x]) H) (hD : va_D A0 (wr ++ [x]))
    (hk : ∀ q : Nat, q < H.size → ¬ va_A [x] H.size q → H1[q]? = H[q]?) (hF : ∀ q, va_A [x] H.size q → A0 q) (hP1 : va_P D cl w1 H1) (hD1 : va_D (va_A [x] H.size) w1) : va_P D cl (wr ++ w1) H1 ∧ va_D A0 (wr ++ w1) := by
  refine va_join (wc := [x]) hP hD [wr.length] (List.range wr.length) (by simp) ?_ (z_nd _) ?_ hk hF hP1 hD1
  · apply List.ext_getElem?
    intro i
    rw [List.getElem?_map, List.getElem?_map]
    by_cases hi : i < wr.length
    · rw [List.getElem?_range hi, List.getElem?_eq_getElem hi]
      simp [List.getElem?_append_left hi]
    · rw [List.getElem?_eq_none (by simp; omega), List.getElem?_eq_none (by omega)]
      rfl
  · intro i hi h
    have h1 := List.mem_range.mp hi
    have h2 := List.mem_singleton.mp h
    omega
theorem z_last {A0 : Nat → Prop} {wr : va_W} {x : Nat × va_E} {H0 H : Heap} {locs : List Loc} (hD : va_D A0 (wr ++ [x])) (hS : va_S A0 H0 H locs) (hA : ∀ q, H0.size ≤ q → A0 q) : ∀ q, va_A [x] H.size q → A0 q :=
  va_free (wc := [x]) hD hS hA [wr.length] (by simp)
theorem z_lastP {D : va_G} {cl : List vw_C} {wr : va_W} {x : Nat × va_E} {H : Heap} (h : va_P D cl (wr ++ [x]) H) : va_P D cl [x] H := h.sub [wr.length] (by simp)
theorem z_lastD {A : Nat → Prop} {wr : va_W} {x : Nat × va_E} (h : va_D A (wr ++ [x])) : va_D (fun _ => True) [x] := (h.sub [wr.length] rfl (by simp)).weaken (fun _ _ _ _ => trivial)
section ZM
variable {p : Program} {l : Launch} {e : Env} {R : Room} {s : State} {m : MethodId} {args : Array Value} {below : List Frame} {meth : Method} {c : Code} {H : Heap} {locs : List Loc} {cells slots : Nat} {Q : State → Prop} {cc : ByteArray} {pc : Nat} {ls : Array Slot} {rest : List Value} {D : va_G} {tys : List (ClassId × FieldType)} {ws : va_W} {A : Nat → Prop} {H0 : Heap}
theorem z_newa (hexec : p.tables.exec = Jvm.exec) (hb : c.code = cc) {atype : ArrayType} (harr : (Cond.arrayClass (newarray.typeOf atype)).before args s = true) {ty : FieldType} (hty : newarray.typeOf atype = ty) (hno : ∀ C, ty ≠ .object C) (hK : va_K D q_cl tys s) (t0 : Nat) {cA : ClassId} (ht : tys[t0]? = some (cA, ty)) (hP : va_P D q_cl ws H) (hD : va_D A ws) (hS : va_S A H0 H locs) (hA : ∀ q, H0.size ≤ q → A q)
    {n : Int32} {N' : Nat} {a0 : vp_A} (ha : ∀ cA : ClassId, vp_cell cA a0 = arrV cA N' (fun _ => defaultValue ty)) (hn : ¬ n < 0) (hN : n.toNatClampNeg = N') (hbytes : N' * componentBytes ty ≤ 536870912) (hcells : cells + 1 ≤ R.cells) (hslots : slots + N' ≤ R.slots) (hdg : decode cc pc = .ok (.newarray atype, 2))
    (kk : ∀ (q : Nat) (H1 : Heap), va_P D q_cl (ws ++ [(q, .inl (cA, a0))]) H1 → va_D A (ws ++ [(q, .inl (cA, a0))]) → va_S A H0 H1 locs →
      W p l e R s m args below meth c H1 locs (cells + 1) (slots + N') Q (F0 m (pc + 2) ls (.ref q :: rest))) : W p l e R s m args below meth c H locs cells slots Q (F0 m pc ls (.int n :: rest)) := by
  refine va_newa hexec hb harr hty hK hP hD hS hA ha hn hN hbytes hcells hslots hdg (fun q cB H1 hK1 hP1 hD1 hS1 => ?_)
  have h1 := (hK1.2 tys.length (cB, ty) (by simp)).2
  have h2 := (hK.2 t0 _ ht).2
  have e : cB = cA := by
    cases ty with
    | object C => exact absurd rfl (hno C)
    | _ => exact Option.some.inj (h1.symm.trans h2)
  subst e
  exact kk q H1 hP1 hD1 hS1
theorem z_newq (hexec : p.tables.exec = Jvm.exec) (hb : c.code = cc) {own C : String} {index : Nat} (hown : s.vm.findClass own = some m.cls) (hclink : (Cond.classLink own index C).before args s = true) (hover : va_AO C s) (hK : va_K D q_cl tys s) (t0 : Nat) {cA : ClassId} (ht : tys[t0]? = some (cA, .object C)) (hP : va_P D q_cl ws H) (hD : va_D A ws) (hS : va_S A H0 H locs) (hA : ∀ q, H0.size ≤ q → A q)
    {n : Int32} {N' : Nat} (hn : ¬ n < 0) (hN : n.toNatClampNeg = N') (hbytes : N' * 4 ≤ 536870912) (hcells : cells + 1 ≤ R.cells) (hslots : slots + N' ≤ R.slots) (hdg : decode cc pc = .ok (.anewarray index, 3))
    (kk : ∀ (q : Nat) (H1 : Heap), va_P D q_cl (ws ++ [(q, .inl (cA, N', .inr (.inr (.inr (.inr (fun _ => none))))))]) H1 → va_D A (ws ++ [(q, .inl (cA, N', .inr (.inr (.inr (.inr (fun _ => none))))))]) → va_S A H0 H1 locs →
      W p l e R s m args below meth c H1 locs (cells + 1) (slots + N') Q (F0 m (pc + 3) ls (.ref q :: rest))) : W p l e R s m args below meth c H locs cells slots Q (F0 m pc ls (.int n :: rest)) := by
  refine va_newq hexec hb hown hclink hover hK hP hD hS hA hn hN hbytes hcells hslots hdg (fun q cB H1 hK1 hP1 hD1 hS1 => ?_)
  obtain ⟨_, _, _, _, _, h1⟩ := (hK1.2 tys.length (cB, .object C) (by simp)).2
  obtain ⟨_, _, _, _, _, h2⟩ := (hK.2 t0 _ ht).2
  have e : cB = cA := Option.some.inj (h1.symm.trans h2)
  subst e
  exact kk q H1 hP1 hD1 hS1
end ZM
theorem z_hia (cI : ClassId) (n : Nat) : vp_cell cI (n, .inl (fun _ => Int32.ofInt 0)) = arrV cI n (fun _ => defaultValue .int) := rfl
theorem z_hza (cI : ClassId) (n : Nat) : vp_cell cI (n, .inl (fun _ => Int32.ofInt 0)) = arrV cI n (fun _ => defaultValue .boolean) := rfl
theorem z_hla (cI : ClassId) (n : Nat) : vp_cell cI (n, .inr (.inl (fun _ => Int64.ofInt 0))) = arrV cI n (fun _ => defaultValue .long) := rfl
/-- the classes of the arrays -/
theorem z_ty {args : Array Value} {s : State} {ty : FieldType} (hno : ∀ C, ty ≠ .object C) (h : (Cond.arrayClass ty).before args s = true) : ∃ cA, ArrOfT s cA ty ∧ va_RA s cA ty := by
  obtain ⟨cA, kA, comp, h1, h2, h3⟩ := Cond.arrayClass_spec h
  refine ⟨cA, fun n z => ⟨fun k h => (by cases h), kA, h2, comp, h3⟩, ?_⟩
  cases ty with
  | object C => exact absurd rfl (hno C)
  | _ => exact h1
theorem z_tq {args : Array Value} {s : State} {C : String} (h : (Cond.arrayOver (.object C)).before args s = true) : ∃ cA, ArrOfT s cA (.object C) ∧ va_RA s cA (.object C) := by
  obtain ⟨comp, cA, kA, hcomp, hidx, hkA, hkindA, hnameA⟩ := Cond.arrayOver_spec h
  exact ⟨cA, fun n z => ⟨fun k h => (by cases h), kA, hkA, comp, hkindA⟩, kA, comp, hkA, hkindA, hcomp, hnameA⟩
theorem z_blind {D : va_G} {tys : List (ClassId × FieldType)} {ws : va_W} {sz : Nat} {av : List Value} : FrameBlind (va_Pc av (z_B D tys ws sz)) := by
  intro a U g mk q
  obtain ⟨q0, q1, qP, qK, qD, qN, qO⟩ := q
  exact ⟨q0, q1, qP, va_K.moved (u := U) (U := U.calling g mk a) (Vm.Alike.refl U.vm) qK, qD, fun e he => (qN e he).warmM (State.WarmedH.refl U), va_AO.moved (u := U) (U := U.calling g mk a) (Vm.Alike.refl U.vm) qO⟩
theorem z_pre {s : State} {D : va_G} {tys : List (ClassId × FieldType)} {wr : va_W} {q : Nat} {x : va_E} {A : Nat → Prop} {H : Heap} (hP : va_P D q_cl (wr ++ [(q, x)]) H) (hK : va_K D q_cl tys s) (hD : va_D A (wr ++ [(q, x)])) (hN : q_xn q_T0 s) (hO : va_AO "MarshCourt$Custom" s) : PreS s H (va_Pc [.ref q] (z_B D tys [(q, x)] H.size)) [.ref q] :=
  ⟨z_blind, fun U hU hW => ⟨rfl, by rw [hU], by rw [hU]; exact z_lastP hP, va_K.moved hW.alike hK, z_lastD hD, fun e he => (hN e he).warmM hW, va_AO.moved hW.alike hO⟩⟩
theorem z_pre2 {s : State} {D : va_G} {tys : List (ClassId × FieldType)} {wr : va_W} {q : Nat} {v : Value} {x : va_E} {A : Nat → Prop} {H : Heap} (hP : va_P D q_cl (wr ++ [(q, x)]) H) (hK : va_K D q_cl tys s) (hD : va_D A (wr ++ [(q, x)])) (hN : q_xn q_T0 s) (hO : va_AO "MarshCourt$Custom" s) : PreS s H (va_Pc [.ref q, v] (z_B D tys [(q, x)] H.size)) [.ref q, v] :=
  ⟨z_blind, fun U hU hW => ⟨rfl, by rw [hU], by rw [hU]; exact z_lastP hP, va_K.moved hW.alike hK, z_lastD hD, fun e he => (hN e he).warmM hW, va_AO.moved hW.alike hO⟩⟩
