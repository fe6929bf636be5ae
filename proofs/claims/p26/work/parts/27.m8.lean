/-- the sales are sound: nobody ever has less than nothing -/
def q_IS (σ : q_S) : Prop := (0 ≤ σ 100 7 ∧ σ 100 7 ≤ 120) ∧ (∀ j : Nat, (j : Int) < σ 100 7 → (0 ≤ σ 108 j ∧ σ 108 j ≤ 7) ∧ (0 ≤ σ 109 j ∧ σ 109 j ≤ 7) ∧ (1 ≤ σ 110 j ∧ σ 110 j ≤ 12)) ∧ (∀ k : Nat, (k : Int) ≤ σ 100 7 → ∀ c o d, 0 ≤ q_hof σ c o d k)
theorem q_hof_cong {σ σ' : q_S} {c o d d' : Int} : ∀ k : Nat, (∀ j : Nat, j < k → σ' 107 j = σ 107 j ∧ σ' 108 j = σ 108 j ∧ σ' 109 j = σ 109 j ∧ σ' 110 j = σ 110 j ∧ (σ 107 j = c → (σ' 111 j ≤ d' ↔ σ 111 j ≤ d))) → q_hof σ' c o d' k = q_hof σ c o d k
  | 0, _ => rfl
  | k + 1, h => by
    have ih := q_hof_cong (o := o) k (fun j hj => h j (by omega))
    obtain ⟨a1, a2, a3, a4, a5⟩ := h k (by omega)
    unfold q_hof
    rw [ih, a1, a2, a3, a4]
    by_cases hc : σ 107 k = c
    · have a5 := a5 hc
      by_cases hd : σ 111 k ≤ d
      · rw [if_pos (show σ 107 k = c ∧ σ' 111 k ≤ d' from ⟨hc, a5.mpr hd⟩), if_pos (show σ 107 k = c ∧ σ 111 k ≤ d from ⟨hc, hd⟩)]
      · rw [if_neg (fun z => hd (a5.mp z.2)), if_neg (fun z => hd z.2)]
    · rw [if_neg (fun z => hc z.1), if_neg (fun z => hc z.1)]
theorem q_maxd {P : Nat → Prop} {f : Nat → Int} : ∀ k : Nat, (∃ j, j < k ∧ P j) → ∃ i, i < k ∧ P i ∧ ∀ j, j < k → P j → f j ≤ f i
  | 0, ⟨j, hj, _⟩ => by omega
  | k + 1, ⟨j, hj, hPj⟩ => by
    by_cases he : ∃ j, j < k ∧ P j
    · obtain ⟨i, hi, hPi, hm⟩ := q_maxd (f := f) k he
      by_cases hk : P k ∧ f i < f k
      · refine ⟨k, by omega, hk.1, fun j hj hP => ?_⟩
        by_cases e : j = k
        · subst e; omega
        · have := hm j (by omega) hP; omega
      · refine ⟨i, by omega, hPi, fun j hj hP => ?_⟩
        by_cases e : j = k
        · subst e
          have : ¬ f i < f j := fun z => hk ⟨hP, z⟩
          omega
        · exact hm j (by omega) hP
    · have e : j = k := by
        by_cases e : j = k
        · exact e
        · exact absurd ⟨j, by omega, hPj⟩ he
      subst e
      refine ⟨j, by omega, hPj, fun i hi hP => ?_⟩
      by_cases e : i = j
      · subst e; omega
      · exact absurd ⟨i, by omega, hP⟩ he
/-- what is looked at when a sale is entered is enough -/
theorem q_sellOK {σ : q_S} {s : Nat} {from_ : Int} (hpos : ∀ c o d, 0 ≤ q_hof σ c o d s) (hp : 1 ≤ σ 110 s) (hfrom : σ 108 s = from_) (hck : ∀ i : Nat, i < s + 1 → σ 107 i = σ 107 s → 0 ≤ q_hof σ (σ 107 s) from_ (σ 111 i) (s + 1)) : ∀ c o d, 0 ≤ q_hof σ c o d (s + 1) := by
  intro c o d
  have h0 := hpos c o d
  by_cases h1 : σ 107 s = c ∧ σ 111 s ≤ d
  · by_cases ho : from_ = o
    · obtain ⟨hc, hd⟩ := h1
      obtain ⟨i, hi, hPi, hm⟩ := q_maxd (P := fun j => σ 107 j = c ∧ σ 111 j ≤ d) (f := fun j => σ 111 j) (s + 1) ⟨s, by omega, hc, hd⟩
      have e : q_hof σ c o d (s + 1) = q_hof σ c o (σ 111 i) (s + 1) := by
        refine (q_hof_cong (s + 1) (fun j hj => ⟨rfl, rfl, rfl, rfl, fun hcj => ?_⟩)).symm
        constructor
        · intro z; have := hPi.2; omega
        · intro z; exact hm j hj ⟨hcj, z⟩
      rw [e]
      have := hck i hi (by rw [hPi.1, hc])
      rw [hc, ho] at this
      exact this
    · unfold q_hof
      rw [if_pos h1, if_neg (show ¬ σ 108 s = o by omega)]
      split <;> omega
  · unfold q_hof
    rw [if_neg h1]
    exact h0
section P27
variable {L : Nat} {xs : Int → Int}
/-- the look over all sales of the cell -/
theorem l_M_sell {c f t p d : Int} {s : Nat} {σ : q_S} {K : q_R → q_S → Prop} (hs : σ 100 7 = s) (hs2 : s < 120) (hp : ∀ j : Nat, (j : Int) < (s : Int) + 1 → 0 ≤ σ 110 j ∧ σ 110 j ≤ 12) (h3 : K (some (0, -3)) σ) (h1 : (∀ i : Nat, i < s + 1 → σ 107 i = c → 0 ≤ q_hof σ c f (σ 111 i) (s + 1)) → K (some (0, (s : Int) + 1)) (q_up σ 100 7 ((s : Int) + 1))) :
    ∀ (m : Nat) (i : Nat), (s : Int) + 1 - i < m → i ≤ s + 1 → (∀ j : Nat, j < i → σ 107 j = c → 0 ≤ q_hof σ c f (σ 111 j) (s + 1)) → q_E L xs k_M_sell (64, [(2, 100), (0, c), (0, f), (0, t), (0, p), (0, d), (0, (i : Int))], [], σ) K := by
  intro m
  induction m with
  | zero => intro i; omega
  | succ m ih =>
    intro i hm hi hj
    have e : q_w32 ((i : Int) + 1) = ((i + 1 : Nat) : Int) := by rw [q_w32_id] <;> omega
    have e1 : q_w32 (σ 100 7 + 1) = (s : Int) + 1 := by rw [hs, q_w32_id] <;> omega
    have hpk : ∀ j : Nat, (j : Int) < q_w32 (σ 100 7 + 1) → 0 ≤ σ 110 j ∧ σ 110 j ≤ 12 := by rw [e1]; exact hp
    have hkk : 0 ≤ q_w32 (σ 100 7 + 1) ∧ q_w32 (σ 100 7 + 1) ≤ 120 := by omega
    have et : (q_w32 (σ 100 7 + 1)).toNat = s + 1 := by omega
    refine q_go1 100 64 [64] (fun cl ev hcl hev => ?_)
    refine And.intro (fun hq => ?_) (fun hq => ?_)
    · show K (some (0, q_up σ 100 7 (q_w32 (σ 100 7 + 1)) 100 7)) (q_up σ 100 7 (q_w32 (σ 100 7 + 1)))
      rw [q_ue, e1]
      exact h1 (fun j hj2 => hj j (by omega))
    · refine And.intro (by omega) ?_
      refine And.intro (fun hq2 => ?_) (fun hq2 => ?_)
      · refine hev _ ?_
        rw [e]
        refine ih (i + 1) (by omega) (by omega) (fun j hj2 hc2 => ?_)
        by_cases ej : j = i
        · subst ej; exact absurd hc2 hq2
        · exact hj j (by omega) hc2
      · refine And.intro (by omega) ?_
        refine hcl _ _ _ _ (c_M_heldOf hpk hkk ?_)
        rw [et]
        refine And.intro (fun hq3 => ?_) (fun hq3 => ?_)
        · refine hev _ ?_
          rw [e]
          refine ih (i + 1) (by omega) (by omega) (fun j hj2 hc2 => ?_)
          by_cases ej : j = i
          · subst ej; exact hq3
          · exact hj j (by omega) hc2
        · exact h3

/-- the row of a sale that is looked at -/
def q_srow (σ : q_S) (c f t p d : Int) : q_S := q_up (q_up (q_up (q_up (q_up σ 107 (σ 100 7) c) 108 (σ 100 7) f) 109 (σ 100 7) t) 110 (σ 100 7) p) 111 (σ 100 7) d
theorem c_M_sell {c f t p d : Int} {σ : q_S} {K : q_R → q_S → Prop} (hI : q_IS σ) (h0 : ¬ (0 ≤ c ∧ c ≤ 29 ∧ 0 ≤ f ∧ f ≤ 7 ∧ 0 ≤ t ∧ t ≤ 7) → K (some (0, -1)) σ) (h2 : (0 ≤ c ∧ c ≤ 29 ∧ 0 ≤ f ∧ f ≤ 7 ∧ 0 ≤ t ∧ t ≤ 7 ∧ ¬ (1 ≤ p ∧ p ≤ 12 ∧ 0 ≤ d ∧ d ≤ 9999 ∧ f ≠ t)) → K (some (0, -2)) σ) (h4 : (0 ≤ c ∧ c ≤ 29 ∧ 0 ≤ f ∧ f ≤ 7 ∧ 0 ≤ t ∧ t ≤ 7 ∧ 1 ≤ p ∧ p ≤ 12 ∧ 0 ≤ d ∧ d ≤ 9999 ∧ f ≠ t ∧ σ 100 7 = 120) → K (some (0, -4)) σ)
    (h3 : (0 ≤ c ∧ c ≤ 29 ∧ 0 ≤ f ∧ f ≤ 7 ∧ 0 ≤ t ∧ t ≤ 7 ∧ 1 ≤ p ∧ p ≤ 12 ∧ 0 ≤ d ∧ d ≤ 9999 ∧ f ≠ t ∧ σ 100 7 < 120) → K (some (0, -3)) (q_srow σ c f t p d))
    (h1 : (0 ≤ c ∧ c ≤ 29 ∧ 0 ≤ f ∧ f ≤ 7 ∧ 0 ≤ t ∧ t ≤ 7 ∧ 1 ≤ p ∧ p ≤ 12 ∧ 0 ≤ d ∧ d ≤ 9999 ∧ f ≠ t ∧ σ 100 7 < 120) → (∀ i : Nat, (i : Int) < σ 100 7 + 1 → q_srow σ c f t p d 107 i = c → 0 ≤ q_hof (q_srow σ c f t p d) c f (q_srow σ c f t p d 111 i) ((σ 100 7).toNat + 1)) → K (some (0, σ 100 7 + 1)) (q_up (q_srow σ c f t p d) 100 7 (σ 100 7 + 1))) : q_K L xs i_M_sell [(2, 100), (0, c), (0, f), (0, t), (0, p), (0, d)] σ K := by
  obtain ⟨hs, hrow, hpos⟩ := hI
  have main : (0 ≤ c ∧ c ≤ 29 ∧ 0 ≤ f ∧ f ≤ 7 ∧ 0 ≤ t ∧ t ≤ 7 ∧ 1 ≤ p ∧ p ≤ 12 ∧ 0 ≤ d ∧ d ≤ 9999 ∧ f ≠ t ∧ σ 100 7 < 120) → q_E L xs k_M_sell (64, [(2, 100), (0, c), (0, f), (0, t), (0, p), (0, d), (0, 0)], [], q_srow σ c f t p d) K := by
    intro hh
    obtain ⟨s, hs'⟩ : ∃ s : Nat, σ 100 7 = s := ⟨(σ 100 7).toNat, by omega⟩
    have h3 := h3 hh
    have h1 := h1 hh
    refine l_M_sell (s := s) (by exact hs') (by omega) (fun j hj => ?_) h3 (fun hck => ?_) 200 0 (by omega) (by omega) (fun j hj => by omega)
    · by_cases ej : (j : Int) = σ 100 7
      · rw [ej]
        show 0 ≤ q_srow σ c f t p d 110 (σ 100 7) ∧ q_srow σ c f t p d 110 (σ 100 7) ≤ 12
        unfold q_srow
        simp (disch := decide) only [q_un, q_ue]
        omega
      · have := (hrow j (by omega)).2.2
        unfold q_srow
        simp (disch := decide) only [q_un]
        rw [q_un2 ej]
        simp (disch := decide) only [q_un]
        omega
    · have := h1 (fun i hi hc => by
        have z := hck i (by omega) hc
        rw [show (σ 100 7).toNat = s by omega]
        exact z)
      rw [hs'] at this
      exact this
  refine q_call k_M_sell 7 rfl ?_
  show q_E L xs k_M_sell (0, [(2, 100), (0, c), (0, f), (0, t), (0, p), (0, d), (9, 0)], [], σ) K
  refine q_go1 200 0 [64] (fun cl ev hcl hev => ?_)
  repeat' (first | refine And.intro ?_ ?_ | (intro hq; first | exact absurd hq (by decide) | exact absurd rfl hq | exact absurd hq (show ¬ (1 : Int) = 0 by decide) | exact absurd (show (1 : Int) ≠ 0 by decide) hq | skip) | refine hcl _ _ _ _ (c_M_in ?_ ?_) | refine hcl _ _ _ _ (c_M_isCell ?_ ?_) | refine hcl _ _ _ _ (c_M_isOwner ?_ ?_))
  all_goals first | omega | exact h0 (by omega) | exact h2 (by omega) | exact h4 (by omega) | (simp (disch := decide) only [q_un, q_ue] at *; omega) | exact hev _ (main (by omega))

end P27
