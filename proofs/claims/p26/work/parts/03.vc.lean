section QV
variable {lay : List q_C} {xt : List q_X} {mt : List q_M}
theorem q_mono1 : ∀ (n : Nat) (code : List q_I) (a : q_N) (x : q_R × q_S), q_run lay xt mt n code a = some x → q_run lay xt mt (n + 1) code a = some x := by
  intro n
  induction n with
  | zero => intro code a x h; simp [q_run] at h
  | succ n ih =>
    intro code a x h
    obtain ⟨i, ls, st, σ⟩ := a
    rw [q_run] at h ⊢
    cases hc : code[i]? with
    | none => rw [hc] at h; simp at h
    | some ins =>
      rw [hc] at h
      dsimp only at h ⊢
      cases hd : q_des lay xt ins ls st σ with
      | inl a => rw [hd] at h; exact ih _ _ _ h
      | inr d =>
        cases d with
        | inl g =>
          obtain ⟨g, a⟩ := g
          rw [hd] at h
          dsimp only at h ⊢
          by_cases hg : g
          · rw [if_pos hg] at h ⊢; exact ih _ _ _ h
          · rw [if_neg hg] at h; cases h
        | inr d =>
          cases d with
          | inl l =>
            obtain ⟨l, d⟩ := l
            rw [hd] at h
            exact ih _ _ _ h
          | inr d =>
            cases d with
            | inl c =>
              obtain ⟨mi, as, i', ls', st', σ'⟩ := c
              rw [hd] at h
              dsimp only at h ⊢
              cases hm : mt[mi]? with
              | none => rw [hm] at h; cases h
              | some m =>
                rw [hm] at h
                dsimp only at h ⊢
                cases hr : q_run lay xt mt n m.1 (q_ent m.2 as σ') with
                | none => rw [hr] at h; cases h
                | some y =>
                  obtain ⟨r, σ2⟩ := y
                  rw [hr] at h
                  rw [ih _ _ _ hr]
                  exact ih _ _ _ h
            | inr r =>
              cases r with
              | inl r => rw [hd] at h; exact h
              | inr r => obtain ⟨g, r, σ'⟩ := r; rw [hd] at h; exact h
theorem q_mono {n m : Nat} (hnm : n ≤ m) {code : List q_I} {a : q_N} {x : q_R × q_S} (h : q_run lay xt mt n code a = some x) : q_run lay xt mt m code a = some x := by
  induction hnm with
  | refl => exact h
  | step _ ih => exact q_mono1 _ _ _ _ ih
theorem q_frc_ok {K : List q_V → Prop} : ∀ {l : List q_V}, q_frc l K → K l := by
  intro l
  induction l generalizing K with
  | nil => exact fun h => h
  | cons v l ih => exact fun h => ih (K := fun l' => K (v :: l')) h
theorem q_frK_ok {K : q_KT} {i : Nat} {ls st : List q_V} {σ : q_S} (h : q_frK K i ls st σ) : K i ls st σ := q_frc_ok (K := fun st => K i ls st σ) (q_frc_ok (K := fun ls => q_frc st (fun st => K i ls st σ)) h)
theorem q_vA_pick {K : q_KT} {d : q_N} : ∀ {l : List (Prop × q_N)}, q_vA K d l → K (q_pick d l).1 (q_pick d l).2.1 (q_pick d l).2.2.1 (q_pick d l).2.2.2
  | [], h => h
  | (c, a) :: l, h => by
    unfold q_pick
    by_cases hc : c
    · rw [if_pos hc]; exact h.1 hc
    · rw [if_neg hc]; exact q_vA_pick (h.2 hc)
theorem q_vS_ok {code : List q_I} {Q : q_R → q_S → Prop} {K : q_KT} (hK : ∀ i ls st σ, K i ls st σ → q_Ev lay xt mt code (i, ls, st, σ) Q) {i : Nat} {ins : q_I} (hi : code[i]? = some ins) {ls st : List q_V} {σ : q_S}
    (h : q_vS (q_Cl lay xt mt) Q K (q_des lay xt ins ls st σ)) : q_Ev lay xt mt code (i, ls, st, σ) Q := by
  have hrun : ∀ n, q_run lay xt mt (n + 1) code (i, ls, st, σ) = _ := fun n => by rw [q_run]
  simp only [hi] at hrun
  cases hd : q_des lay xt ins ls st σ with
  | inl a =>
    obtain ⟨i1, ls1, st1, σ1⟩ := a
    rw [hd] at h hrun
    obtain ⟨n, r, σ', h1, h2⟩ := hK _ _ _ _ (q_frK_ok h)
    exact ⟨n + 1, r, σ', by rw [hrun]; exact h1, h2⟩
  | inr d =>
    cases d with
    | inl g =>
      obtain ⟨g, i1, ls1, st1, σ1⟩ := g
      rw [hd] at h hrun
      obtain ⟨n, r, σ', h1, h2⟩ := hK _ _ _ _ (q_frK_ok h.2)
      exact ⟨n + 1, r, σ', by rw [hrun]; dsimp only; rw [if_pos h.1]; exact h1, h2⟩
    | inr d =>
      cases d with
      | inl l =>
        obtain ⟨l, d⟩ := l
        rw [hd] at h hrun
        obtain ⟨n, r, σ', h1, h2⟩ := hK _ _ _ _ (q_vA_pick h)
        exact ⟨n + 1, r, σ', by rw [hrun]; exact h1, h2⟩
      | inr d =>
        cases d with
        | inl c =>
          obtain ⟨mi, as, i0, ls0, st0, σ0⟩ := c
          rw [hd] at h hrun
          have h : q_Cl lay xt mt mi as σ0 (fun r σ' => q_frK K i0 ls0 (q_psh r st0) σ') := q_frc_ok (K := fun as => q_Cl lay xt mt mi as σ0 (fun r σ' => q_frK K i0 ls0 (q_psh r st0) σ')) h
          obtain ⟨m, hm, n1, r1, σ1, h1, h2⟩ := h
          obtain ⟨n2, r, σ', h3, h4⟩ := hK _ _ _ _ (q_frK_ok h2)
          refine ⟨max n1 n2 + 1, r, σ', ?_, h4⟩
          rw [hrun]
          dsimp only
          rw [hm]
          dsimp only
          rw [q_mono (Nat.le_max_left n1 n2) h1]
          exact q_mono (Nat.le_max_right n1 n2) h3
        | inr r =>
          cases r with
          | inl r =>
            rw [hd] at h hrun
            cases r with
            | none => exact absurd h (fun h => h)
            | some x =>
              obtain ⟨r, σ'⟩ := x
              exact ⟨1, r, σ', by rw [hrun], h⟩
          | inr r =>
            obtain ⟨g, r, σ'⟩ := r
            rw [hd] at h hrun
            exact ⟨1, r, σ', by rw [hrun]; dsimp only; rw [if_pos h.1], h.2⟩
theorem q_drop {code : List q_I} {i : Nat} {ins : q_I} {tl : List q_I} (h : code.drop i = ins :: tl) : code[i]? = some ins ∧ code.drop (i + 1) = tl := by
  constructor
  · have := congrArg List.head? h
    rw [List.head?_drop] at this
    exact this
  · have := congrArg List.tail h
    rw [List.tail_drop] at this
    exact this
theorem q_next {code : List q_I} {i : Nat} {ins : q_I} {tl : List q_I} (h : code.drop i = ins :: tl) (j : Nat) : (bif Nat.beq j (i + 1) then tl else code.drop j) = code.drop j := by
  cases hj : Nat.beq j (i + 1) with
  | false => rfl
  | true =>
    have := Nat.eq_of_beq_eq_true hj
    subst this
    exact (q_drop h).2.symm
theorem q_vc_ok {code : List q_I} {cuts : List Nat} {Q : q_R → q_S → Prop} : ∀ (n i : Nat) (rest : List q_I) (ls st : List q_V) (σ : q_S), rest = code.drop i →
    q_vc lay xt code cuts (q_Cl lay xt mt) (fun a => q_Ev lay xt mt code a Q) Q n i rest ls st σ → q_Ev lay xt mt code (i, ls, st, σ) Q := by
  intro n
  induction n with
  | zero => intro i rest ls st σ _ h; exact h
  | succ n ih =>
    intro i rest ls st σ hr h
    have h : (bif cuts.elem i then q_Ev lay xt mt code (i, ls, st, σ) Q else q_v1 lay xt code cuts (q_Cl lay xt mt) (fun a => q_Ev lay xt mt code a Q) Q n i rest ls st σ) := h
    cases hc : cuts.elem i with
    | true => rw [hc] at h; exact h
    | false =>
      rw [hc] at h
      cases rest with
      | nil => exact absurd h (fun h => h)
      | cons ins tl =>
        refine q_vS_ok (fun i1 ls1 st1 σ1 ha => ?_) (q_drop hr.symm).1 h
        exact ih i1 _ _ _ _ (q_next hr.symm i1) ha
/-- how a method's body is walked: the calls and the cuts are names of which only this is known -/
theorem q_start {code : List q_I} {Q : q_R → q_S → Prop} (n i : Nat) (cuts : List Nat) {ls st : List q_V} {σ : q_S}
    (h : ∀ (cl : Nat → List q_V → q_S → (q_R → q_S → Prop) → Prop) (ev : q_N → Prop), (∀ mi as σ K, q_Cl lay xt mt mi as σ K → cl mi as σ K) → (∀ a, q_Ev lay xt mt code a Q → ev a) →
      q_v1 lay xt code cuts cl ev Q n i (code.drop i) ls st σ) : q_Ev lay xt mt code (i, ls, st, σ) Q := by
  have h := h (q_Cl lay xt mt) (fun a => q_Ev lay xt mt code a Q) (fun _ _ _ _ h => h) (fun _ h => h)
  generalize hr : code.drop i = rest at h
  cases rest with
  | nil => exact absurd h (fun h => h)
  | cons ins tl =>
    refine q_vS_ok (fun i1 ls1 st1 σ1 ha => ?_) (q_drop hr).1 h
    exact q_vc_ok n i1 _ _ _ _ (q_next hr i1) ha
end QV
def q_E (L : Nat) (xs : Int → Int) (code : List q_I) (a : q_N) (Q : q_R → q_S → Prop) : Prop := q_Ev q_lay (q_xt L xs) q_mt code a Q
def q_K (L : Nat) (xs : Int → Int) (mi : Nat) (as : List q_V) (σ : q_S) (Q : q_R → q_S → Prop) : Prop := q_Cl q_lay (q_xt L xs) q_mt mi as σ Q
theorem q_call {L : Nat} {xs : Int → Int} {mi : Nat} {as : List q_V} {σ : q_S} {Q : q_R → q_S → Prop} (code : List q_I) (nl : Nat) (hm : q_mt[mi]? = some (code, nl)) (h : q_E L xs code (q_ent nl as σ) Q) : q_K L xs mi as σ Q := ⟨(code, nl), hm, h⟩
theorem q_go1 {L : Nat} {xs : Int → Int} {code : List q_I} {Q : q_R → q_S → Prop} (n i : Nat) (cuts : List Nat) {ls st : List q_V} {σ : q_S}
    (h : ∀ (cl : Nat → List q_V → q_S → (q_R → q_S → Prop) → Prop) (ev : q_N → Prop), (∀ mi as σ K, q_K L xs mi as σ K → cl mi as σ K) → (∀ a, q_E L xs code a Q → ev a) →
      q_v1 q_lay (q_xt L xs) code cuts cl ev Q n i (code.drop i) ls st σ) : q_E L xs code (i, ls, st, σ) Q := q_start n i cuts h
