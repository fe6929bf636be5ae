section V4a
variable {B : Int → Int} {n q p k i : Int} {ρ : q_S}
theorem u_add_fr {f l h : Int} (hk : ¬ (q ≤ k ∧ k ≤ q + 3)) : u_add ρ q f l h k i = ρ k i := by
  unfold u_add
  split
  · rfl
  · rw [q_un (by omega), q_un (by omega), q_un (by omega), q_un (by omega)]
theorem u_rule_fr (hk : ¬ (q ≤ k ∧ k ≤ q + 3)) : (u_rule B n q p ρ).2.2 k i = ρ k i := by
  unfold u_rule
  repeat' split
  all_goals first | rfl | exact u_add_fr hk
theorem u_cl_fr (hk : ¬ (q ≤ k ∧ k ≤ q + 3)) : (u_cl B n q p ρ).2.2 k i = ρ k i := by
  unfold u_cl u_v
  repeat' split
  all_goals first | rfl | exact u_rule_fr hk | exact q_un (by omega)
theorem u_rule_8 {m : Int} (h : 0 ≤ ρ q 8 ∧ ρ q 8 ≤ m) : 0 ≤ (u_rule B n q p ρ).2.2 q 8 ∧ (u_rule B n q p ρ).2.2 q 8 ≤ m + 1 := by
  unfold u_rule
  repeat' split
  all_goals first
    | exact ⟨h.1, Int.le_trans h.2 (by omega)⟩
    | (show 0 ≤ u_add _ _ _ _ _ q 8 ∧ u_add _ _ _ _ _ q 8 ≤ m + 1
       unfold u_add
       split
       · omega
       · rw [q_ue]; omega)
theorem u_cl_8 {m : Int} (h : 0 ≤ ρ q 8 ∧ ρ q 8 ≤ m) : 0 ≤ (u_cl B n q p ρ).2.2 q 8 ∧ (u_cl B n q p ρ).2.2 q 8 ≤ m + 1 := by
  unfold u_cl u_v
  repeat' split
  all_goals first
    | exact u_rule_8 h
    | exact ⟨h.1, Int.le_trans h.2 (by omega)⟩
    | (show 0 ≤ q_up ρ q _ _ q 8 ∧ q_up ρ q _ _ q 8 ≤ m + 1
       rw [q_ui (by decide)]
       omega)
theorem u_cl_01 : (u_cl B n q p ρ).1 = 0 ∨ (u_cl B n q p ρ).1 = 1 := by
  unfold u_cl u_v
  repeat' split
  all_goals first | exact Or.inl rfl | exact Or.inr rfl | exact u_rule_01
theorem u_val_in {l : List Int} {lo hi : Int} (hl : ∀ c ∈ l, 0 ≤ c) (h0 : 0 ≤ lo) (h1 : 0 ≤ hi) (h2 : 0 ≤ p) (h3 : p ≤ n) : p ≤ (u_val B n l lo hi p).2 ∧ (u_val B n l lo hi p).2 ≤ n := by
  have hw := u_ws_in (B := B) l p hl h2 h3
  unfold u_val
  split
  · have := u_num_in (B := B) (n := n) (lo := lo) (hi := hi) (p := (u_wrd B n l p).2) h0 h1 (by omega) hw.2
    omega
  · exact hw
theorem u_how_in (h2 : 0 ≤ p) (h3 : p ≤ n) : p ≤ (u_how B n p).2 ∧ (u_how B n p).2 ≤ n := by
  unfold u_how
  split
  · exact u_ws_in (B := B) _ p (by decide) h2 h3
  · split
    · exact u_ws_in (B := B) _ p (by decide) h2 h3
    · split
      · exact u_val_in (by decide) (by decide) (by decide) h2 h3
      · exact ⟨Int.le_refl _, h3⟩
theorem u_rule_in (h2 : 0 ≤ p) (h3 : p ≤ n) : p ≤ (u_rule B n q p ρ).2.1 ∧ (u_rule B n q p ρ).2.1 ≤ n := by
  have r1 := u_num_in (B := B) (n := n) (lo := 0) (hi := 23) (p := p) (by decide) (by decide) h2 h3
  unfold u_rule
  split
  · exact ⟨r1.1, r1.2.1⟩
  · split
    · exact ⟨r1.1, r1.2.1⟩
    · rename_i e1
      have g1 := u_pks (B := B) (n := n) (c := 45) (by decide) (Decidable.not_not.mp e1)
      have r2 := u_num_in (B := B) (n := n) (lo := 0) (hi := 23) (p := (u_num B n 0 23 p).2 + 1) (by decide) (by decide) (by omega) (by omega)
      split
      · exact ⟨by show p ≤ (u_num B n 0 23 ((u_num B n 0 23 p).2 + 1)).2; omega, r2.2.1⟩
      · split
        · exact ⟨by show p ≤ (u_num B n 0 23 ((u_num B n 0 23 p).2 + 1)).2; omega, r2.2.1⟩
        · rename_i e2
          have g2 := u_pks (B := B) (n := n) (c := 32) (by decide) (Decidable.not_not.mp e2)
          have r3 := u_how_in (B := B) (n := n) (p := (u_num B n 0 23 ((u_num B n 0 23 p).2 + 1)).2 + 1) (by omega) (by omega)
          split
          · exact ⟨by show p ≤ (u_how B n ((u_num B n 0 23 ((u_num B n 0 23 p).2 + 1)).2 + 1)).2; omega, r3.2⟩
          · exact ⟨by show p ≤ (u_how B n ((u_num B n 0 23 ((u_num B n 0 23 p).2 + 1)).2 + 1)).2; omega, r3.2⟩
theorem u_cl_in (h2 : 0 ≤ p) (h3 : p ≤ n) : p ≤ (u_cl B n q p ρ).2.1 ∧ (u_cl B n q p ρ).2.1 ≤ n := by
  have hw := u_ws_in (B := B) [114, 32] p (by decide) h2 h3
  unfold u_cl u_v
  split
  · split
    · have := u_rule_in (B := B) (n := n) (q := q) (p := (u_wrd B n [114, 32] p).2) (ρ := ρ) (by omega) hw.2
      omega
    · exact hw
  · split
    · exact u_val_in (by decide) (by decide) (by decide) h2 h3
    · split
      · exact u_val_in (by decide) (by decide) (by decide) h2 h3
      · split
        · exact u_val_in (by decide) (by decide) (by decide) h2 h3
        · split
          · exact u_val_in (by decide) (by decide) (by decide) h2 h3
          · exact ⟨Int.le_refl _, h3⟩
theorem u_tp_c {ρ' : q_S} (t : u_tp ρ B n) (h : ∀ k i, k < 36 → ρ' k i = ρ k i) : u_tp ρ' B n := ⟨fun i => (h 33 i (by decide)).trans (t.1 i), (h 32 1 (by decide)).trans t.2.1, t.2.2⟩
end V4a
section V4
variable {L : Nat} {xs : Int → Int}
theorem ul_rd {B : Int → Int} {n q : Int} {K : q_R → q_S → Prop} (hq : q_cu q) : ∀ (k : Nat) (i p : Int) (ρ : q_S), i = 9 - k → 0 ≤ i → u_tp ρ B n → (0 ≤ p ∧ p ≤ n) → (0 ≤ ρ q 8 ∧ ρ q 8 ≤ i) → K (some (0, (u_rd B n q (k + 1) p ρ).1)) (q_up (u_rd B n q (k + 1) p ρ).2.2 32 2 (u_rd B n q (k + 1) p ρ).2.1) →
    q_E L xs k_Tape_read (18, [(2, 32), (2, q), (0, i)], [], q_up ρ 32 2 p) K := by
  intro k
  induction k with
  | zero =>
    intro i p ρ hi i0 t hp hr hK
    have er : u_rd B n q (0 + 1) p ρ = if (u_cl B n q p ρ).1 = 0 then (0, (u_cl B n q p ρ).2.1, (u_cl B n q p ρ).2.2) else if n ≤ (u_cl B n q p ρ).2.1 then (1, (u_cl B n q p ρ).2.1, (u_cl B n q p ρ).2.2) else if (0 : Nat) = 0 ∨ B (u_cl B n q p ρ).2.1 ≠ 59 then (0, (u_cl B n q p ρ).2.1, (u_cl B n q p ρ).2.2) else u_rd B n q 0 ((u_cl B n q p ρ).2.1 + 1) (u_cl B n q p ρ).2.2 := rfl
    rw [er] at hK
    have hqi := q_cu_in hq
    have t' : u_tp (u_cl B n q p ρ).2.2 B n := u_tp_c t (fun k i hk => u_cl_fr (by omega))
    have ci := u_cl_in (B := B) (q := q) (ρ := ρ) hp.1 hp.2
    have e2 : q_up (u_cl B n q p ρ).2.2 32 2 (u_cl B n q p ρ).2.1 32 2 = (u_cl B n q p ρ).2.1 := q_ue
    have e1 : q_up (u_cl B n q p ρ).2.2 32 2 (u_cl B n q p ρ).2.1 32 1 = n := (q_ui (by decide)).trans t'.2.1
    have e : q_w32 (i + 1) = 10 := by rw [q_w32_id] <;> omega
    refine q_go1 200 18 [7] (fun cl ev hcl hev => ?_)
    show cl _ _ _ _
    refine hcl _ _ _ _ (u_clause t hp hq (by omega) ?_)
    rcases u_cl_01 (B := B) (n := n) (q := q) (p := p) (ρ := ρ) with c | c
    · rw [if_pos c] at hK
      rw [c]
      exact And.intro (fun z => absurd rfl z) (fun _ => by first | exact hK | first | exact hK | exact And.intro (by omega) hK)
    · rw [if_neg (by rw [c]; decide)] at hK
      rw [c]
      refine And.intro (fun _ => ?_) (fun z => absurd (show (1 : Int) ≠ 0 by decide) z)
      refine And.intro (fun g => ?_) (fun g => ?_)
      · rw [if_neg (by omega), if_pos (Or.inl rfl)] at hK
        refine hev _ ?_
        rw [e]
        refine q_go1 200 7 [18] (fun cl ev hcl hev => ?_)
        exact And.intro (fun _ => by first | exact hK | first | exact hK | exact And.intro (by omega) hK) (fun z => absurd (show (10 : Int) ≥ 10 by decide) z)
      · rw [if_pos (by omega)] at hK
        first | exact hK | exact And.intro (by omega) hK
  | succ k ih =>
    intro i p ρ hi i0 t hp hr hK
    have er : u_rd B n q (k + 1 + 1) p ρ = if (u_cl B n q p ρ).1 = 0 then (0, (u_cl B n q p ρ).2.1, (u_cl B n q p ρ).2.2) else if n ≤ (u_cl B n q p ρ).2.1 then (1, (u_cl B n q p ρ).2.1, (u_cl B n q p ρ).2.2) else if k + 1 = 0 ∨ B (u_cl B n q p ρ).2.1 ≠ 59 then (0, (u_cl B n q p ρ).2.1, (u_cl B n q p ρ).2.2) else u_rd B n q (k + 1) ((u_cl B n q p ρ).2.1 + 1) (u_cl B n q p ρ).2.2 := rfl
    rw [er] at hK
    have hqi := q_cu_in hq
    have t' : u_tp (u_cl B n q p ρ).2.2 B n := u_tp_c t (fun k i hk => u_cl_fr (by omega))
    have ci := u_cl_in (B := B) (q := q) (ρ := ρ) hp.1 hp.2
    have c8 := u_cl_8 (B := B) (n := n) (p := p) hr
    have e2 : q_up (u_cl B n q p ρ).2.2 32 2 (u_cl B n q p ρ).2.1 32 2 = (u_cl B n q p ρ).2.1 := q_ue
    have e1 : q_up (u_cl B n q p ρ).2.2 32 2 (u_cl B n q p ρ).2.1 32 1 = n := (q_ui (by decide)).trans t'.2.1
    have e : q_w32 (i + 1) = i + 1 := by rw [q_w32_id] <;> omega
    refine q_go1 200 18 [7] (fun cl ev hcl hev => ?_)
    show cl _ _ _ _
    refine hcl _ _ _ _ (u_clause t hp hq (by omega) ?_)
    rcases u_cl_01 (B := B) (n := n) (q := q) (p := p) (ρ := ρ) with c | c
    · rw [if_pos c] at hK
      rw [c]
      exact And.intro (fun z => absurd rfl z) (fun _ => by first | exact hK | first | exact hK | exact And.intro (by omega) hK)
    · rw [if_neg (by rw [c]; decide)] at hK
      rw [c]
      refine And.intro (fun _ => ?_) (fun z => absurd (show (1 : Int) ≠ 0 by decide) z)
      refine And.intro (fun g => ?_) (fun g => ?_)
      · rw [if_neg (by omega)] at hK
        have epk : u_pk B n (u_cl B n q p ρ).2.1 = B (u_cl B n q p ρ).2.1 := by unfold u_pk; rw [if_pos (by omega)]
        refine hev _ ?_
        rw [e]
        refine q_go1 200 7 [18] (fun cl ev hcl hev => ?_)
        refine And.intro (fun z => by exfalso; omega) (fun _ => ?_)
        refine And.intro (fun z => by exfalso; omega) (fun _ => ?_)
        show cl _ _ _ _
        refine hcl _ _ _ _ (u_take t' ⟨by omega, ci.2⟩ (fun e5 => ?_) (fun e5 => ?_))
        · refine And.intro (fun _ => ?_) (fun z => absurd (show (1 : Int) ≠ 0 by decide) z)
          rw [if_neg (by omega)] at hK
          exact hev _ (ih (i + 1) _ _ (by omega) (by omega) t' ⟨by omega, by omega⟩ c8 hK)
        · refine And.intro (fun z => absurd rfl z) (fun _ => ?_)
          rw [if_pos (Or.inr (by omega))] at hK
          first | exact hK | exact And.intro (by omega) hK
      · rw [if_pos (by omega)] at hK
        first | exact hK | exact And.intro (by omega) hK
theorem u_reads {q : Int} {B : Int → Int} {n : Int} {σ : q_S} {K : q_R → q_S → Prop} (hq : q_cu q) (t : u_tp σ B n) (hK : K (some (0, (u_rd B n q 10 0 (u_clr σ q)).1)) (q_up (u_rd B n q 10 0 (u_clr σ q)).2.2 32 2 (u_rd B n q 10 0 (u_clr σ q)).2.1)) : q_K L xs i_Tape_read [(2, 32), (2, q)] σ K := by
  have hqi := q_cu_in hq
  have es : q_up σ 32 2 (σ 32 2) = σ := q_self
  have t' : u_tp (u_clr σ q) B n := u_tp_c t (fun k i hk => by unfold u_clr; rw [q_un (by omega), q_un (by omega), q_un (by omega), q_un (by omega), q_un (by omega)])
  have e8 : u_clr σ q q 8 = 0 := by unfold u_clr; rw [q_ue]
  have t3 : 0 ≤ n := t.2.2.1
  have go := ul_rd (L := L) (xs := xs) (K := K) hq 9 0 0 (u_clr σ q) (by decide) (by decide) t' ⟨by decide, t3⟩ (by omega) hK
  rw [← es]
  refine q_call k_Tape_read 3 rfl ?_
  show q_E L xs k_Tape_read (0, [(2, 32), (2, q), (9, 0)], [], q_up σ 32 2 (σ 32 2)) K
  refine q_go1 200 0 [18] (fun cl ev hcl hev => ?_)
  unfold q_cu at hq
  rcases hq with rfl | rfl | rfl | rfl | rfl | rfl | rfl | rfl | rfl | rfl | rfl | rfl | rfl
  · show cl _ _ _ _
    refine hcl _ _ _ _ (u_cr36 ?_)
    refine And.intro (fun z => absurd z (by decide)) (fun _ => And.intro (fun _ => hev _ ?_) (fun z => absurd (show (0 : Int) ≤ 0 by decide) z))
    rw [q_uu]
    exact go
  · show cl _ _ _ _
    refine hcl _ _ _ _ (u_cr40 ?_)
    refine And.intro (fun z => absurd z (by decide)) (fun _ => And.intro (fun _ => hev _ ?_) (fun z => absurd (show (0 : Int) ≤ 0 by decide) z))
    rw [q_uu]
    exact go
  · show cl _ _ _ _
    refine hcl _ _ _ _ (u_cr44 ?_)
    refine And.intro (fun z => absurd z (by decide)) (fun _ => And.intro (fun _ => hev _ ?_) (fun z => absurd (show (0 : Int) ≤ 0 by decide) z))
    rw [q_uu]
    exact go
  · show cl _ _ _ _
    refine hcl _ _ _ _ (u_cr48 ?_)
    refine And.intro (fun z => absurd z (by decide)) (fun _ => And.intro (fun _ => hev _ ?_) (fun z => absurd (show (0 : Int) ≤ 0 by decide) z))
    rw [q_uu]
    exact go
  · show cl _ _ _ _
    refine hcl _ _ _ _ (u_cr52 ?_)
    refine And.intro (fun z => absurd z (by decide)) (fun _ => And.intro (fun _ => hev _ ?_) (fun z => absurd (show (0 : Int) ≤ 0 by decide) z))
    rw [q_uu]
    exact go
  · show cl _ _ _ _
    refine hcl _ _ _ _ (u_cr56 ?_)
    refine And.intro (fun z => absurd z (by decide)) (fun _ => And.intro (fun _ => hev _ ?_) (fun z => absurd (show (0 : Int) ≤ 0 by decide) z))
    rw [q_uu]
    exact go
  · show cl _ _ _ _
    refine hcl _ _ _ _ (u_cr60 ?_)
    refine And.intro (fun z => absurd z (by decide)) (fun _ => And.intro (fun _ => hev _ ?_) (fun z => absurd (show (0 : Int) ≤ 0 by decide) z))
    rw [q_uu]
    exact go
  · show cl _ _ _ _
    refine hcl _ _ _ _ (u_cr64 ?_)
    refine And.intro (fun z => absurd z (by decide)) (fun _ => And.intro (fun _ => hev _ ?_) (fun z => absurd (show (0 : Int) ≤ 0 by decide) z))
    rw [q_uu]
    exact go
  · show cl _ _ _ _
    refine hcl _ _ _ _ (u_cr68 ?_)
    refine And.intro (fun z => absurd z (by decide)) (fun _ => And.intro (fun _ => hev _ ?_) (fun z => absurd (show (0 : Int) ≤ 0 by decide) z))
    rw [q_uu]
    exact go
  · show cl _ _ _ _
    refine hcl _ _ _ _ (u_cr72 ?_)
    refine And.intro (fun z => absurd z (by decide)) (fun _ => And.intro (fun _ => hev _ ?_) (fun z => absurd (show (0 : Int) ≤ 0 by decide) z))
    rw [q_uu]
    exact go
  · show cl _ _ _ _
    refine hcl _ _ _ _ (u_cr76 ?_)
    refine And.intro (fun z => absurd z (by decide)) (fun _ => And.intro (fun _ => hev _ ?_) (fun z => absurd (show (0 : Int) ≤ 0 by decide) z))
    rw [q_uu]
    exact go
  · show cl _ _ _ _
    refine hcl _ _ _ _ (u_cr80 ?_)
    refine And.intro (fun z => absurd z (by decide)) (fun _ => And.intro (fun _ => hev _ ?_) (fun z => absurd (show (0 : Int) ≤ 0 by decide) z))
    rw [q_uu]
    exact go
  · show cl _ _ _ _
    refine hcl _ _ _ _ (u_cr84 ?_)
    refine And.intro (fun z => absurd z (by decide)) (fun _ => And.intro (fun _ => hev _ ?_) (fun z => absurd (show (0 : Int) ≤ 0 by decide) z))
    rw [q_uu]
    exact go
end V4
