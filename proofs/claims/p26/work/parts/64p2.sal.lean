section P75
variable {L : Nat} {xs : Int → Int}

theorem l_M_sellX {c f t p d : Int} {s : Nat} {σ : q_S} {K : q_R → q_S → Prop} (hs : σ 100 7 = s) (hs2 : s < 120) (hp : ∀ j : Nat, (j : Int) < (s : Int) + 1 → 0 ≤ σ 110 j ∧ σ 110 j ≤ 12) (h3 : (∃ i : Nat, i < s + 1 ∧ σ 107 i = c ∧ q_hof σ c f (σ 111 i) (s + 1) < 0) → K (some (0, -3)) σ) (h1 : (∀ i : Nat, i < s + 1 → σ 107 i = c → 0 ≤ q_hof σ c f (σ 111 i) (s + 1)) → K (some (0, (s : Int) + 1)) (q_up σ 100 7 ((s : Int) + 1))) :
    ∀ (m : Nat) (i : Nat), (s : Int) + 1 - i < m → i ≤ s + 1 → (∀ j : Nat, j < i → σ 107 j = c → 0 ≤ q_hof σ c f (σ 111 j) (s + 1)) → q_E L xs k_M_sell (64, [(2, 100), (0, c), (0, f), (0, t), (0, p), (0, d), (0, (i : Int))], [], σ) K := by
  intro m
  induction m with
  | zero => intro i; omega
  | succ m ih =>
    intro i hm hi hj
    have e : q_w32 ((i : Int) + 1) = ((i + 1 : Nat) : Int) := by rw [q_w32_id] <;> omega
    have e1 : q_w32 (σ 100 7 + 1) = (s : Int) + 1 := by rw [hs, q_w32_id] <;> omega
    have hpk : ∀ j : Nat, (j : Int) < q_w32 (σ 100 7 + 1) → 0 ≤ σ 110 j ∧ σ 110 j ≤ 12 := by rw [e1]; exact hp
    have hkk : 0 ≤ q_w32 (σ 100 7 + 1) ∧ q_w32 (σ 100 7 + 1) ≤ 120 := by omega
    have et : (q_w32 (σ 100 7 + 1)).toNat = s + 1 := by omega
    refine q_go1 100 64 [64] (fun cl ev hcl hev => ?_)
    refine And.intro (fun hq => ?_) (fun hq => ?_)
    · show K (some (0, q_up σ 100 7 (q_w32 (σ 100 7 + 1)) 100 7)) (q_up σ 100 7 (q_w32 (σ 100 7 + 1)))
      rw [q_ue, e1]
      exact h1 (fun j hj2 => hj j (by omega))
    · refine And.intro (by omega) ?_
      refine And.intro (fun hq2 => ?_) (fun hq2 => ?_)
      · refine hev _ ?_
        rw [e]
        refine ih (i + 1) (by omega) (by omega) (fun j hj2 hc2 => ?_)
        by_cases ej : j = i
        · subst ej; exact absurd hc2 hq2
        · exact hj j (by omega) hc2
      · refine And.intro (by omega) ?_
        refine hcl _ _ _ _ (c_M_heldOf hpk hkk ?_)
        rw [et]
        refine And.intro (fun hq3 => ?_) (fun hq3 => ?_)
        · refine hev _ ?_
          rw [e]
          refine ih (i + 1) (by omega) (by omega) (fun j hj2 hc2 => ?_)
          by_cases ej : j = i
          · subst ej; exact hq3
          · exact hj j (by omega) hc2
        · exact h3 ⟨i, by omega, by omega, by omega⟩


theorem c_M_sellX {c f t p d : Int} {σ : q_S} {K : q_R → q_S → Prop} (hI : q_IS σ) (h0 : ¬ (0 ≤ c ∧ c ≤ 29 ∧ 0 ≤ f ∧ f ≤ 7 ∧ 0 ≤ t ∧ t ≤ 7) → K (some (0, -1)) σ) (h2 : (0 ≤ c ∧ c ≤ 29 ∧ 0 ≤ f ∧ f ≤ 7 ∧ 0 ≤ t ∧ t ≤ 7 ∧ ¬ (1 ≤ p ∧ p ≤ 12 ∧ 0 ≤ d ∧ d ≤ 9999 ∧ f ≠ t)) → K (some (0, -2)) σ) (h4 : (0 ≤ c ∧ c ≤ 29 ∧ 0 ≤ f ∧ f ≤ 7 ∧ 0 ≤ t ∧ t ≤ 7 ∧ 1 ≤ p ∧ p ≤ 12 ∧ 0 ≤ d ∧ d ≤ 9999 ∧ f ≠ t ∧ σ 100 7 = 120) → K (some (0, -4)) σ)
    (h3 : (0 ≤ c ∧ c ≤ 29 ∧ 0 ≤ f ∧ f ≤ 7 ∧ 0 ≤ t ∧ t ≤ 7 ∧ 1 ≤ p ∧ p ≤ 12 ∧ 0 ≤ d ∧ d ≤ 9999 ∧ f ≠ t ∧ σ 100 7 < 120) → (∃ i : Nat, (i : Int) < σ 100 7 + 1 ∧ q_srow σ c f t p d 107 i = c ∧ q_hof (q_srow σ c f t p d) c f (q_srow σ c f t p d 111 i) ((σ 100 7).toNat + 1) < 0) → K (some (0, -3)) (q_srow σ c f t p d))
    (h1 : (0 ≤ c ∧ c ≤ 29 ∧ 0 ≤ f ∧ f ≤ 7 ∧ 0 ≤ t ∧ t ≤ 7 ∧ 1 ≤ p ∧ p ≤ 12 ∧ 0 ≤ d ∧ d ≤ 9999 ∧ f ≠ t ∧ σ 100 7 < 120) → (∀ i : Nat, (i : Int) < σ 100 7 + 1 → q_srow σ c f t p d 107 i = c → 0 ≤ q_hof (q_srow σ c f t p d) c f (q_srow σ c f t p d 111 i) ((σ 100 7).toNat + 1)) → K (some (0, σ 100 7 + 1)) (q_up (q_srow σ c f t p d) 100 7 (σ 100 7 + 1))) : q_K L xs i_M_sell [(2, 100), (0, c), (0, f), (0, t), (0, p), (0, d)] σ K := by
  obtain ⟨hs, hrow, hpos⟩ := hI
  have main : (0 ≤ c ∧ c ≤ 29 ∧ 0 ≤ f ∧ f ≤ 7 ∧ 0 ≤ t ∧ t ≤ 7 ∧ 1 ≤ p ∧ p ≤ 12 ∧ 0 ≤ d ∧ d ≤ 9999 ∧ f ≠ t ∧ σ 100 7 < 120) → q_E L xs k_M_sell (64, [(2, 100), (0, c), (0, f), (0, t), (0, p), (0, d), (0, 0)], [], q_srow σ c f t p d) K := by
    intro hh
    obtain ⟨s, hs'⟩ : ∃ s : Nat, σ 100 7 = s := ⟨(σ 100 7).toNat, by omega⟩
    have h3 := h3 hh
    have h1 := h1 hh
    refine l_M_sellX (s := s) (by exact hs') (by omega) (fun j hj => ?_) (fun ⟨i, hi, hc, hb⟩ => h3 ⟨i, by omega, hc, by rw [show (σ 100 7).toNat = s by omega]; exact hb⟩) (fun hck => ?_) 200 0 (by omega) (by omega) (fun j hj => by omega)
    · by_cases ej : (j : Int) = σ 100 7
      · rw [ej]
        show 0 ≤ q_srow σ c f t p d 110 (σ 100 7) ∧ q_srow σ c f t p d 110 (σ 100 7) ≤ 12
        unfold q_srow
        simp (disch := decide) only [q_un, q_ue]
        omega
      · have := (hrow j (by omega)).2.2
        unfold q_srow
        simp (disch := decide) only [q_un]
        rw [q_un2 ej]
        simp (disch := decide) only [q_un]
        omega
    · have := h1 (fun i hi hc => by
        have z := hck i (by omega) hc
        rw [show (σ 100 7).toNat = s by omega]
        exact z)
      rw [hs'] at this
      exact this
  refine q_call k_M_sell 7 rfl ?_
  show q_E L xs k_M_sell (0, [(2, 100), (0, c), (0, f), (0, t), (0, p), (0, d), (9, 0)], [], σ) K
  refine q_go1 200 0 [64] (fun cl ev hcl hev => ?_)
  repeat' (first | refine And.intro ?_ ?_ | (intro hq; first | exact absurd hq (by decide) | exact absurd rfl hq | exact absurd hq (show ¬ (1 : Int) = 0 by decide) | exact absurd (show (1 : Int) ≠ 0 by decide) hq | skip) | refine hcl _ _ _ _ (c_M_in ?_ ?_) | refine hcl _ _ _ _ (c_M_isCell ?_ ?_) | refine hcl _ _ _ _ (c_M_isOwner ?_ ?_))
  all_goals first | omega | exact h0 (by omega) | exact h2 (by omega) | exact h4 (by omega) | (simp (disch := decide) only [q_un, q_ue] at *; omega) | exact hev _ (main (by omega))


/-- the class's look over the sales -/
def q_dbt (σ : q_S) (c f n d : Int) : Prop := q_pof σ c f d (σ 7 5).toNat < n ∨ ∃ i : Nat, (i : Int) < σ 7 5 ∧ σ 8 i = c ∧ σ 9 i = f ∧ d < σ 12 i ∧ q_pof σ c f (σ 12 i) (σ 7 5).toNat < n
theorem l_owX {c f n d : Int} {σ : q_S} {K : q_R → q_S → Prop} (hb : 0 ≤ σ 7 5 ∧ σ 7 5 ≤ 120) (hp : ∀ j : Nat, (j : Int) < σ 7 5 → 0 ≤ σ 11 j ∧ σ 11 j ≤ 12) (h1 : (∃ i : Nat, (i : Int) < σ 7 5 ∧ σ 8 i = c ∧ σ 9 i = f ∧ d < σ 12 i ∧ q_pof σ c f (σ 12 i) (σ 7 5).toNat < n) → K (some (0, 1)) σ) (h0 : (¬ ∃ i : Nat, (i : Int) < σ 7 5 ∧ σ 8 i = c ∧ σ 9 i = f ∧ d < σ 12 i ∧ q_pof σ c f (σ 12 i) (σ 7 5).toNat < n) → K (some (0, 0)) σ) :
    ∀ (m : Nat) (i : Nat) (y : Int) (u : Nat), σ 7 5 - i < m → (i : Int) ≤ σ 7 5 → (∀ j : Nat, j < i → ¬ (σ 8 j = c ∧ σ 9 j = f ∧ d < σ 12 j ∧ q_pof σ c f (σ 12 j) (σ 7 5).toNat < n)) → q_E L xs k_Sales_wouldOwe (13, [(2, 7), (0, c), (0, f), (0, n), (0, d), (0, (i : Int)), (u, y)], [], σ) K := by
  intro m
  induction m with
  | zero => intro i; omega
  | succ m ih =>
    intro i y u hm hi hj
    have e : q_w32 ((i : Int) + 1) = ((i + 1 : Nat) : Int) := by rw [q_w32_id] <;> omega
    have em : min (σ 7 5) (σ 7 5) = σ 7 5 := by omega
    have go : ∀ (y : Int) (u : Nat), (i : Int) < σ 7 5 → ¬ (σ 8 i = c ∧ σ 9 i = f ∧ d < σ 12 i ∧ q_pof σ c f (σ 12 i) (σ 7 5).toNat < n) → q_E L xs k_Sales_wouldOwe (13, [(2, 7), (0, c), (0, f), (0, n), (0, d), (0, q_w32 ((i : Int) + 1)), (u, y)], [], σ) K := by
      intro y u hlt hn
      rw [e]
      refine ih (i + 1) y u (by omega) (by omega) (fun j hj2 => ?_)
      by_cases ej : j = i
      · subst ej; exact hn
      · exact hj j (by omega)
    refine q_go1 200 13 [13] (fun cl ev hcl hev => ?_)
    repeat' (first | refine And.intro ?_ ?_ | (intro hq; first | exact absurd hq (by decide) | exact absurd rfl hq | exact absurd hq (show ¬ (1 : Int) = 0 by decide) | exact absurd (show (1 : Int) ≠ 0 by decide) hq | skip) | (show cl _ _ _ _; refine hcl _ _ _ _ (c_partsX hb hb.1 hp ?_); rw [em]))
    all_goals first
      | omega
      | exact h0 (fun ⟨j, a1, a2⟩ => hj j (by omega) a2)
      | exact h1 ⟨i, by omega, by omega, by omega, by omega, by omega⟩
      | exact hev _ (go _ _ (by omega) (by omega))
theorem c_owX {c f n d : Int} {σ : q_S} {K : q_R → q_S → Prop} (hb : 0 ≤ σ 7 5 ∧ σ 7 5 ≤ 120) (hp : ∀ j : Nat, (j : Int) < σ 7 5 → 0 ≤ σ 11 j ∧ σ 11 j ≤ 12) (h1 : q_dbt σ c f n d → K (some (0, 1)) σ) (h0 : ¬ q_dbt σ c f n d → K (some (0, 0)) σ) : q_K L xs i_Sales_wouldOwe [(2, 7), (0, c), (0, f), (0, n), (0, d)] σ K := by
  have em : min (σ 7 5) (σ 7 5) = σ 7 5 := by omega
  refine q_call k_Sales_wouldOwe 7 rfl ?_
  show q_E L xs k_Sales_wouldOwe (0, [(2, 7), (0, c), (0, f), (0, n), (0, d), (9, 0), (9, 0)], [], σ) K
  refine q_go1 200 0 [13] (fun cl ev hcl hev => ?_)
  show cl _ _ _ _
  refine hcl _ _ _ _ (c_partsX hb hb.1 hp ?_)
  rw [em]
  refine And.intro (fun hq => ?_) (fun hq => ?_)
  · exact hev _ (l_owX hb hp (fun h => h1 (Or.inr h)) (fun h => h0 (fun z => z.elim (fun z => by omega) h)) 200 0 _ _ (by omega) (by omega) (fun j hj => by omega))
  · exact h1 (Or.inl (by omega))
def q_arow (σ : q_S) (c f t n d : Int) : q_S := q_up (q_up (q_up (q_up (q_up (q_up σ 8 (σ 7 5) c) 9 (σ 7 5) f) 10 (σ 7 5) t) 11 (σ 7 5) n) 12 (σ 7 5) d) 7 5 (σ 7 5 + 1)
theorem c_enterX {c f t n d : Int} {σ : q_S} {K : q_R → q_S → Prop} (hb : 0 ≤ σ 7 5 ∧ σ 7 5 < 120) (hK : K none (q_arow σ c f t n d)) : q_K L xs i_Sales_enter [(2, 7), (0, c), (0, f), (0, t), (0, n), (0, d)] σ K := by
  have e1 : q_w32 (σ 7 5 + 1) = σ 7 5 + 1 := by rw [q_w32_id] <;> omega
  refine q_call k_Sales_enter 6 rfl ?_
  show q_E L xs k_Sales_enter (0, [(2, 7), (0, c), (0, f), (0, t), (0, n), (0, d)], [], σ) K
  refine q_go1 200 0 [] (fun cl ev hcl hev => ?_)
  have hk : ∀ σ', σ' = q_arow σ c f t n d → K none σ' := fun σ' e => by rw [e]; exact hK
  repeat' (first | refine And.intro ?_ ?_ | (intro hq; first | exact absurd hq (by decide) | exact absurd rfl hq | exact absurd hq (show ¬ (1 : Int) = 0 by decide) | exact absurd (show (1 : Int) ≠ 0 by decide) hq | skip))
  all_goals first
    | omega
    | (simp (disch := decide) only [q_un, q_ue]; omega)
    | (refine hk _ ?_; unfold q_arow; simp (disch := decide) only [q_un, q_ue, e1])
theorem c_sellX {c f t p d : Int} {σ : q_S} {K : q_R → q_S → Prop} (hb : 0 ≤ σ 7 5 ∧ σ 7 5 ≤ 120) (hp : ∀ j : Nat, (j : Int) < σ 7 5 → 0 ≤ σ 11 j ∧ σ 11 j ≤ 12) (h0 : ¬ (0 ≤ c ∧ c ≤ 29 ∧ 0 ≤ f ∧ f ≤ 7 ∧ 0 ≤ t ∧ t ≤ 7) → K (some (0, -1)) σ) (h2 : (0 ≤ c ∧ c ≤ 29 ∧ 0 ≤ f ∧ f ≤ 7 ∧ 0 ≤ t ∧ t ≤ 7 ∧ ¬ (1 ≤ p ∧ p ≤ 12 ∧ 0 ≤ d ∧ d ≤ 9999 ∧ f ≠ t)) → K (some (0, -2)) σ) (h4 : (0 ≤ c ∧ c ≤ 29 ∧ 0 ≤ f ∧ f ≤ 7 ∧ 0 ≤ t ∧ t ≤ 7 ∧ 1 ≤ p ∧ p ≤ 12 ∧ 0 ≤ d ∧ d ≤ 9999 ∧ f ≠ t ∧ σ 7 5 = 120) → K (some (0, -4)) σ)
    (h3 : (0 ≤ c ∧ c ≤ 29 ∧ 0 ≤ f ∧ f ≤ 7 ∧ 0 ≤ t ∧ t ≤ 7 ∧ 1 ≤ p ∧ p ≤ 12 ∧ 0 ≤ d ∧ d ≤ 9999 ∧ f ≠ t ∧ σ 7 5 < 120) → q_dbt σ c f p d → K (some (0, -3)) σ) (h1 : (0 ≤ c ∧ c ≤ 29 ∧ 0 ≤ f ∧ f ≤ 7 ∧ 0 ≤ t ∧ t ≤ 7 ∧ 1 ≤ p ∧ p ≤ 12 ∧ 0 ≤ d ∧ d ≤ 9999 ∧ f ≠ t ∧ σ 7 5 < 120) → ¬ q_dbt σ c f p d → K (some (0, σ 7 5 + 1)) (q_arow σ c f t p d)) : q_K L xs i_A_sell [(2, 0), (0, c), (0, f), (0, t), (0, p), (0, d)] σ K := by
  refine q_call k_A_sell 6 rfl ?_
  show q_E L xs k_A_sell (0, [(2, 0), (0, c), (0, f), (0, t), (0, p), (0, d)], [], σ) K
  refine q_go1 200 0 [] (fun cl ev hcl hev => ?_)
  have ez : q_arow σ c f t p d 7 5 = σ 7 5 + 1 := by unfold q_arow; rw [q_ue]
  repeat' (first | refine And.intro ?_ ?_ | (intro hq; first | exact absurd hq (by decide) | exact absurd rfl hq | exact absurd hq (show ¬ (1 : Int) = 0 by decide) | exact absurd (show (1 : Int) ≠ 0 by decide) hq | skip) | (show cl _ _ _ _; first | refine hcl _ _ _ _ (c_A_isCell ?_ ?_) | refine hcl _ _ _ _ (c_A_isOwner ?_ ?_) | refine hcl _ _ _ _ (c_A_isDay ?_ ?_) | refine hcl _ _ _ _ (c_A_within ?_ ?_) | refine hcl _ _ _ _ (c_owX hb hp ?_ ?_) | refine hcl _ _ _ _ (c_enterX (by omega) ?_)))
  all_goals first
    | omega
    | exact h0 (by omega)
    | exact h2 (by omega)
    | exact h4 (by omega)
    | exact h3 (by omega) (by assumption)
    | exact q_kvs (h1 (by omega) (by assumption)) ez rfl
end P75
