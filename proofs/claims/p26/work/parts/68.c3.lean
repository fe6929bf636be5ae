/-- a text of the class's own: its bytes -/
theorem z_text {args : Array Value} {s : State} {A : Nat → Prop} {own tx : String} {k N : Nat} {f : Int → Int} (hN : N < 2 ^ 31) (hst : (Cond.stringRef own k tx).before args s = true) (hex : (Cond.exactly (.string own k) "java/lang/String").before args s = true) (hco : (Cond.eq (.field (.string own k) "java/lang/String" "coder" "B") (.int 0)).before args s = true)
    (har : (Cond.arrayOf (.field (.string own k) "java/lang/String" "value" "[B") .byte).before args s = true) (hle : (Cond.eq (.length (.field (.string own k) "java/lang/String" "value" "[B")) (.int (Int32.ofNat N))).before args s = true)
    (hel : ∀ j : Nat, j < N → (Cond.eq (.elem (.field (.string own k) "java/lang/String" "value" "[B") (.int (Int32.ofNat j))) (.int (Int32.ofInt (f j)))).before args s = true) (hA : ∀ a : Nat, a < s.heap.size → ¬ A a) :
    ∃ a t : Nat, vk_R own k tx a s ∧ va_O "java/lang/String" a A s s.heap ∧ va_OF "java/lang/String" "coder" "B" (.int 0) a A s s.heap ∧ va_OF "java/lang/String" "value" "[B" (.ref t) a A s s.heap ∧ va_T .byte t N (fun j => .int (Int32.ofInt (f j))) A s s.heap := by
  obtain ⟨a, c, cA, kA, q1, q2, q3, q4, q5, q6, -⟩ := Cond.exactly_spec (args := args) (first := s) (o := none) (s := s) (idx := []) (t := .string own k) (cls := "java/lang/String") hex
  obtain ⟨t, ht, hT⟩ := va_Tof (f := fun j => .int (Int32.ofInt (f j))) (A := A) hN har (va_eqt hle) (fun j hj => va_eqt (hel j hj)) hA
  exact ⟨a, t, vk_R.of hst q1, va_Oof hex q1 hA, vk_OFof q1 (va_eqt hco) hA, vk_OFof q1 ht hA, hT⟩
theorem z_script {b L : Nat} {xs : Nat → Int32} {s : State} {A : Nat → Prop} (h : va_X b L xs s s.heap) (hA : ¬ A b) : va_T .int b L (fun j => .int (Int32.ofInt ((fun z : Int => (xs z.toNat).toInt) j))) A s s.heap := by
  obtain ⟨scr, h1, h2, h3, h4, h5⟩ := h
  refine ⟨scr, h1, h2, h3, by omega, by rw [h4], fun j hj => ?_, hA⟩
  rw [h5 j hj]
  show _ = some (Value.int (Int32.ofInt ((xs ((j : Int)).toNat).toInt)))
  rw [Int.toNat_natCast, q_o32]
def z_X (b tH : Nat) (vS : Value) (a : Nat → Nat) (t : Nat → Nat) (r : Nat) : Value := ([Value.ref b, Value.ref tH, vS, Value.ref (a 0), Value.ref (t 0), Value.ref (a 1), Value.ref (t 1), Value.ref (a 2), Value.ref (t 2), Value.ref (a 3), Value.ref (t 3), Value.ref (a 4), Value.ref (t 4), Value.ref (a 5), Value.ref (t 5), Value.ref (a 6), Value.ref (t 6), Value.ref (a 7), Value.ref (t 7)] : List Value).getD r (.ref 0)
theorem z_Xr {b tH : Nat} {vS : Value} {a t : Nat → Nat} (h : (∃ q, vS = .ref q) ∨ vS = .null) (r : Nat) : (∃ q, z_X b tH vS a t r = .ref q) ∨ (r = 2 ∧ z_X b tH vS a t r = .null) := by
  match r with
  | 0 => exact Or.inl ⟨_, rfl⟩
  | 1 => exact Or.inl ⟨_, rfl⟩
  | 2 => exact h.elim (fun ⟨q, e⟩ => Or.inl ⟨q, e⟩) (fun e => Or.inr ⟨rfl, e⟩)
  | 3 => exact Or.inl ⟨_, rfl⟩
  | 4 => exact Or.inl ⟨_, rfl⟩
  | 5 => exact Or.inl ⟨_, rfl⟩
  | 6 => exact Or.inl ⟨_, rfl⟩
  | 7 => exact Or.inl ⟨_, rfl⟩
  | 8 => exact Or.inl ⟨_, rfl⟩
  | 9 => exact Or.inl ⟨_, rfl⟩
  | 10 => exact Or.inl ⟨_, rfl⟩
  | 11 => exact Or.inl ⟨_, rfl⟩
  | 12 => exact Or.inl ⟨_, rfl⟩
  | 13 => exact Or.inl ⟨_, rfl⟩
  | 14 => exact Or.inl ⟨_, rfl⟩
  | 15 => exact Or.inl ⟨_, rfl⟩
  | 16 => exact Or.inl ⟨_, rfl⟩
  | 17 => exact Or.inl ⟨_, rfl⟩
  | 18 => exact Or.inl ⟨_, rfl⟩
  | r + 19 => exact Or.inl ⟨0, rfl⟩

set_option maxHeartbeats 4000000 in
set_option maxRecDepth 100000 in
theorem z_out {p : Program} {s : State} {m : MethodId} {meth : Method} {c : Code} {b L : Nat} {xs : Nat → Int32} (C0 : lw_At p s m meth c b L xs) :
    ∃ X : Nat → Value, (∀ r, (∃ t, X r = .ref t) ∨ (r = 2 ∧ X r = .null)) ∧ X 0 = .ref b ∧ ∀ (G : q_G), G.2.2.2 = X → q_ext (q_Tm L (fun z => (xs z.toNat).toInt)) G (fun q => s.heap.size ≤ q) s s.heap := by
  obtain ⟨hx, hb, hr, hml, hown, hts, hX, hbl, hlocks, hgv⟩ := id C0
  have hg := flat_of_before _ hgv
  have hA : ∀ a : Nat, a < s.heap.size → ¬ (fun q : Nat => s.heap.size ≤ q) a := fun a h => Nat.not_le.mpr h
  have hSc := z_script hX (A := fun q => s.heap.size ≤ q) (Nat.not_le.mpr hbl)
  obtain ⟨tH, hH, TH⟩ := va_Tof (tm := .static "MarshCourt" "HOURS" "[I") (ty := .int) (N := 6) (f := fun j => .int (Int32.ofInt ((fun j : Int => if j = 0 then 2 else if j = 1 then 3 else if j = 2 then 4 else if j = 3 then 3 else if j = 4 then 2 else if j = 5 then 1 else 0) j))) (A := fun q => s.heap.size ≤ q) (by decide) (hg _ (by decide +kernel)) (va_eqt (hg _ (by decide +kernel))) (fun j hj => va_eqt (by
    rcases (show j = 0 ∨ j = 1 ∨ j = 2 ∨ j = 3 ∨ j = 4 ∨ j = 5 by omega) with rfl | rfl | rfl | rfl | rfl | rfl <;> exact hg _ (by decide +kernel))) hA
  have ZH := va_Zof (A := fun q => s.heap.size ≤ q) (hts (.laysStatic "MarshCourt" "HOURS" "[I") (by decide +kernel)) (hts (.initialized "MarshCourt") (by decide +kernel)) hH hA
  have Z1 := va_Zof (A := fun q => s.heap.size ≤ q) (v := .int 1) (hts (.laysStatic "java/lang/String" "COMPACT_STRINGS" "Z") (by decide +kernel)) (hts (.initialized "java/lang/String") (by decide +kernel)) (va_eqt (hg _ (by decide +kernel))) hA
  have Z3 := va_Zof (A := fun q => s.heap.size ≤ q) (v := .int 1) (hts (.laysStatic "java/lang/StringUTF16" "$assertionsDisabled" "Z") (by decide +kernel)) (hts (.initialized "java/lang/StringUTF16") (by decide +kernel)) (va_eqt (hg _ (by decide +kernel))) hA
  have Z4 := va_Zof (A := fun q => s.heap.size ≤ q) (v := .int 0) (hts (.laysStatic "java/lang/StringUTF16" "HI_BYTE_SHIFT" "I") (by decide +kernel)) (hts (.initialized "java/lang/StringUTF16") (by decide +kernel)) (va_eqt (hg _ (by decide +kernel))) hA
  have Z5 := va_Zof (A := fun q => s.heap.size ≤ q) (v := .int 8) (hts (.laysStatic "java/lang/StringUTF16" "LO_BYTE_SHIFT" "I") (by decide +kernel)) (hts (.initialized "java/lang/StringUTF16") (by decide +kernel)) (va_eqt (hg _ (by decide +kernel))) hA
  have Z2 : ∃ vS : Value, ((∃ q, vS = .ref q) ∨ vS = .null) ∧ va_Z "jdk/internal/util/Preconditions" "SIOOBE_FORMATTER" "Ljava/util/function/BiFunction;" vS (fun q => s.heap.size ≤ q) s s.heap := by
    rcases va_Zqof (A := fun q => s.heap.size ≤ q) (hts (.laysStatic "jdk/internal/util/Preconditions" "SIOOBE_FORMATTER" "Ljava/util/function/BiFunction;") (by decide +kernel)) (hts (.initialized "jdk/internal/util/Preconditions") (by decide +kernel)) (hg _ (by decide +kernel)) hA with h | ⟨t, h⟩
    · exact ⟨.null, Or.inr rfl, h⟩
    · exact ⟨.ref t, Or.inl ⟨t, rfl⟩, h⟩
  obtain ⟨vS, hvS, Z2⟩ := Z2
  obtain ⟨a0, t0, r0, o0, c0, v0, T0⟩ := z_text (A := fun q => s.heap.size ≤ q) (own := "MarshCourt$Tape") (tx := "r ") (k := 58) (N := 2) (f := fun j : Int => if j = 0 then 114 else if j = 1 then 32 else 0) (by decide) (hts _ (by decide +kernel)) (hg _ (by decide +kernel)) (hg _ (by decide +kernel)) (hg _ (by decide +kernel)) (hg _ (by decide +kernel)) (fun j hj => by
    rcases (show j = 0 ∨ j = 1 by omega) with rfl | rfl <;> exact hg _ (by decide +kernel)) hA
  obtain ⟨a1, t1, r1, o1, c1, v1, T1⟩ := z_text (A := fun q => s.heap.size ≤ q) (own := "MarshCourt$Tape") (tx := "h ") (k := 67) (N := 2) (f := fun j : Int => if j = 0 then 104 else if j = 1 then 32 else 0) (by decide) (hts _ (by decide +kernel)) (hg _ (by decide +kernel)) (hg _ (by decide +kernel)) (hg _ (by decide +kernel)) (hg _ (by decide +kernel)) (fun j hj => by
    rcases (show j = 0 ∨ j = 1 by omega) with rfl | rfl <;> exact hg _ (by decide +kernel)) hA
  obtain ⟨a2, t2, r2, o2, c2, v2, T2⟩ := z_text (A := fun q => s.heap.size ≤ q) (own := "MarshCourt$Tape") (tx := "f ") (k := 76) (N := 2) (f := fun j : Int => if j = 0 then 102 else if j = 1 then 32 else 0) (by decide) (hts _ (by decide +kernel)) (hg _ (by decide +kernel)) (hg _ (by decide +kernel)) (hg _ (by decide +kernel)) (hg _ (by decide +kernel)) (fun j hj => by
    rcases (show j = 0 ∨ j = 1 by omega) with rfl | rfl <;> exact hg _ (by decide +kernel)) hA
  obtain ⟨a3, t3, r3, o3, c3, v3, T3⟩ := z_text (A := fun q => s.heap.size ≤ q) (own := "MarshCourt$Tape") (tx := "v ") (k := 81) (N := 2) (f := fun j : Int => if j = 0 then 118 else if j = 1 then 32 else 0) (by decide) (hts _ (by decide +kernel)) (hg _ (by decide +kernel)) (hg _ (by decide +kernel)) (hg _ (by decide +kernel)) (hg _ (by decide +kernel)) (fun j hj => by
    rcases (show j = 0 ∨ j = 1 by omega) with rfl | rfl <;> exact hg _ (by decide +kernel)) hA
  obtain ⟨a4, t4, r4, o4, c4, v4, T4⟩ := z_text (A := fun q => s.heap.size ≤ q) (own := "MarshCourt$Tape") (tx := "s ") (k := 86) (N := 2) (f := fun j : Int => if j = 0 then 115 else if j = 1 then 32 else 0) (by decide) (hts _ (by decide +kernel)) (hg _ (by decide +kernel)) (hg _ (by decide +kernel)) (hg _ (by decide +kernel)) (hg _ (by decide +kernel)) (fun j hj => by
    rcases (show j = 0 ∨ j = 1 by omega) with rfl | rfl <;> exact hg _ (by decide +kernel)) hA
  obtain ⟨a5, t5, r5, o5, c5, v5, T5⟩ := z_text (A := fun q => s.heap.size ≤ q) (own := "MarshCourt$Tape") (tx := "front") (k := 101) (N := 5) (f := fun j : Int => if j = 0 then 102 else if j = 1 then 114 else if j = 2 then 111 else if j = 3 then 110 else if j = 4 then 116 else 0) (by decide) (hts _ (by decide +kernel)) (hg _ (by decide +kernel)) (hg _ (by decide +kernel)) (hg _ (by decide +kernel)) (hg _ (by decide +kernel)) (fun j hj => by
    rcases (show j = 0 ∨ j = 1 ∨ j = 2 ∨ j = 3 ∨ j = 4 by omega) with rfl | rfl | rfl | rfl | rfl <;> exact hg _ (by decide +kernel)) hA
  obtain ⟨a6, t6, r6, o6, c6, v6, T6⟩ := z_text (A := fun q => s.heap.size ≤ q) (own := "MarshCourt$Tape") (tx := "acres") (k := 103) (N := 5) (f := fun j : Int => if j = 0 then 97 else if j = 1 then 99 else if j = 2 then 114 else if j = 3 then 101 else if j = 4 then 115 else 0) (by decide) (hts _ (by decide +kernel)) (hg _ (by decide +kernel)) (hg _ (by decide +kernel)) (hg _ (by decide +kernel)) (hg _ (by decide +kernel)) (fun j hj => by
    rcases (show j = 0 ∨ j = 1 ∨ j = 2 ∨ j = 3 ∨ j = 4 by omega) with rfl | rfl | rfl | rfl | rfl <;> exact hg _ (by decide +kernel)) hA
  obtain ⟨a7, t7, r7, o7, c7, v7, T7⟩ := z_text (A := fun q => s.heap.size ≤ q) (own := "MarshCourt$Tape") (tx := "own ") (k := 105) (N := 4) (f := fun j : Int => if j = 0 then 111 else if j = 1 then 119 else if j = 2 then 110 else if j = 3 then 32 else 0) (by decide) (hts _ (by decide +kernel)) (hg _ (by decide +kernel)) (hg _ (by decide +kernel)) (hg _ (by decide +kernel)) (hg _ (by decide +kernel)) (fun j hj => by
    rcases (show j = 0 ∨ j = 1 ∨ j = 2 ∨ j = 3 by omega) with rfl | rfl | rfl | rfl <;> exact hg _ (by decide +kernel)) hA
  refine ⟨z_X b tH vS (fun j => [a0, a1, a2, a3, a4, a5, a6, a7].getD j 0) (fun j => [t0, t1, t2, t3, t4, t5, t6, t7].getD j 0), fun r => z_Xr hvS r, rfl, fun G hG => ⟨fun r c hr => ?_, fun e he => ?_, fun e he => ?_, fun e he => va_Nw.of rfl (hts _ (zn_all e he))⟩⟩
  · rw [hG]
    match r, hr with
    | 0, hr => cases hr; exact ⟨fun _ => ⟨b, rfl, hSc⟩, fun h => absurd h (show ¬ (1 : Nat) = 6 by decide), fun h => absurd h (show ¬ (1 : Nat) = 0 by decide)⟩
    | 1, hr => cases hr; exact ⟨fun _ => ⟨tH, rfl, TH⟩, fun h => absurd h (show ¬ (1 : Nat) = 6 by decide), fun h => absurd h (show ¬ (1 : Nat) = 0 by decide)⟩
    | 2, hr => cases hr; exact ⟨fun h => absurd h (show ¬ (9 : Nat) = 1 by decide), fun h => absurd h (show ¬ (9 : Nat) = 6 by decide), fun h => absurd h (show ¬ (9 : Nat) = 0 by decide)⟩
    | 3, hr => cases hr; exact ⟨fun h => absurd h (show ¬ (0 : Nat) = 1 by decide), fun h => absurd h (show ¬ (0 : Nat) = 6 by decide), fun _ => ⟨a0, rfl, o0, c0, v0⟩⟩
    | 4, hr => cases hr; exact ⟨fun h => absurd h (show ¬ (6 : Nat) = 1 by decide), fun _ => ⟨t0, rfl, T0⟩, fun h => absurd h (show ¬ (6 : Nat) = 0 by decide)⟩
    | 5, hr => cases hr; exact ⟨fun h => absurd h (show ¬ (0 : Nat) = 1 by decide), fun h => absurd h (show ¬ (0 : Nat) = 6 by decide), fun _ => ⟨a1, rfl, o1, c1, v1⟩⟩
    | 6, hr => cases hr; exact ⟨fun h => absurd h (show ¬ (6 : Nat) = 1 by decide), fun _ => ⟨t1, rfl, T1⟩, fun h => absurd h (show ¬ (6 : Nat) = 0 by decide)⟩
    | 7, hr => cases hr; exact ⟨fun h => absurd h (show ¬ (0 : Nat) = 1 by decide), fun h => absurd h (show ¬ (0 : Nat) = 6 by decide), fun _ => ⟨a2, rfl, o2, c2, v2⟩⟩
    | 8, hr => cases hr; exact ⟨fun h => absurd h (show ¬ (6 : Nat) = 1 by decide), fun _ => ⟨t2, rfl, T2⟩, fun h => absurd h (show ¬ (6 : Nat) = 0 by decide)⟩
    | 9, hr => cases hr; exact ⟨fun h => absurd h (show ¬ (0 : Nat) = 1 by decide), fun h => absurd h (show ¬ (0 : Nat) = 6 by decide), fun _ => ⟨a3, rfl, o3, c3, v3⟩⟩
    | 10, hr => cases hr; exact ⟨fun h => absurd h (show ¬ (6 : Nat) = 1 by decide), fun _ => ⟨t3, rfl, T3⟩, fun h => absurd h (show ¬ (6 : Nat) = 0 by decide)⟩
    | 11, hr => cases hr; exact ⟨fun h => absurd h (show ¬ (0 : Nat) = 1 by decide), fun h => absurd h (show ¬ (0 : Nat) = 6 by decide), fun _ => ⟨a4, rfl, o4, c4, v4⟩⟩
    | 12, hr => cases hr; exact ⟨fun h => absurd h (show ¬ (6 : Nat) = 1 by decide), fun _ => ⟨t4, rfl, T4⟩, fun h => absurd h (show ¬ (6 : Nat) = 0 by decide)⟩
    | 13, hr => cases hr; exact ⟨fun h => absurd h (show ¬ (0 : Nat) = 1 by decide), fun h => absurd h (show ¬ (0 : Nat) = 6 by decide), fun _ => ⟨a5, rfl, o5, c5, v5⟩⟩
    | 14, hr => cases hr; exact ⟨fun h => absurd h (show ¬ (6 : Nat) = 1 by decide), fun _ => ⟨t5, rfl, T5⟩, fun h => absurd h (show ¬ (6 : Nat) = 0 by decide)⟩
    | 15, hr => cases hr; exact ⟨fun h => absurd h (show ¬ (0 : Nat) = 1 by decide), fun h => absurd h (show ¬ (0 : Nat) = 6 by decide), fun _ => ⟨a6, rfl, o6, c6, v6⟩⟩
    | 16, hr => cases hr; exact ⟨fun h => absurd h (show ¬ (6 : Nat) = 1 by decide), fun _ => ⟨t6, rfl, T6⟩, fun h => absurd h (show ¬ (6 : Nat) = 0 by decide)⟩
    | 17, hr => cases hr; exact ⟨fun h => absurd h (show ¬ (0 : Nat) = 1 by decide), fun h => absurd h (show ¬ (0 : Nat) = 6 by decide), fun _ => ⟨a7, rfl, o7, c7, v7⟩⟩
    | 18, hr => cases hr; exact ⟨fun h => absurd h (show ¬ (6 : Nat) = 1 by decide), fun _ => ⟨t7, rfl, T7⟩, fun h => absurd h (show ¬ (6 : Nat) = 0 by decide)⟩
    | r + 19, hr => cases hr
  · obtain ⟨i, hi⟩ := List.getElem?_of_mem (show e ∈ q_stt from he)
    match i, hi with
    | 0, hi => cases hi; show va_Z _ _ _ (G.2.2.2 1) _ _ _; rw [hG]; exact ZH
    | 1, hi => cases hi; exact Z1
    | 2, hi => cases hi; show va_Z _ _ _ (G.2.2.2 2) _ _ _; rw [hG]; exact Z2
    | 3, hi => cases hi; exact Z3
    | 4, hi => cases hi; exact Z4
    | 5, hi => cases hi; exact Z5
    | i + 6, hi => cases hi
  · obtain ⟨i, hi⟩ := List.getElem?_of_mem (show e ∈ q_sts from he)
    rw [hG]
    match i, hi with
    | 0, hi => cases hi; exact ⟨a0, rfl, r0⟩
    | 1, hi => cases hi; exact ⟨a1, rfl, r1⟩
    | 2, hi => cases hi; exact ⟨a2, rfl, r2⟩
    | 3, hi => cases hi; exact ⟨a3, rfl, r3⟩
    | 4, hi => cases hi; exact ⟨a4, rfl, r4⟩
    | 5, hi => cases hi; exact ⟨a5, rfl, r5⟩
    | 6, hi => cases hi; exact ⟨a6, rfl, r6⟩
    | 7, hi => cases hi; exact ⟨a7, rfl, r7⟩
    | i + 8, hi => cases hi
