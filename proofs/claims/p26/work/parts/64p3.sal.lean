theorem q_srow_n {σ : q_S} {c f t p d D : Int} {s : Nat} (hs : σ 100 7 = s) (hft : f ≠ t) : q_hof (q_srow σ c f t p d) c f D (s + 1) = if d ≤ D then q_hof σ c f D s - p else q_hof σ c f D s := by
  have v7 : q_srow σ c f t p d 107 (s : Int) = c := by rw [← hs]; unfold q_srow; rw [q_un (by decide), q_un (by decide), q_un (by decide), q_un (by decide), q_ue]
  have v8 : q_srow σ c f t p d 108 (s : Int) = f := by rw [← hs]; unfold q_srow; rw [q_un (by decide), q_un (by decide), q_un (by decide), q_ue]
  have v9 : q_srow σ c f t p d 109 (s : Int) = t := by rw [← hs]; unfold q_srow; rw [q_un (by decide), q_un (by decide), q_ue]
  have v10 : q_srow σ c f t p d 110 (s : Int) = p := by rw [← hs]; unfold q_srow; rw [q_un (by decide), q_ue]
  have v11 : q_srow σ c f t p d 111 (s : Int) = d := by rw [← hs]; unfold q_srow; rw [q_ue]
  have ih : q_hof (q_srow σ c f t p d) c f D s = q_hof σ c f D s := q_srow_hof (by omega) s (by omega)
  have e : q_hof (q_srow σ c f t p d) c f D (s + 1) = if q_srow σ c f t p d 107 s = c ∧ q_srow σ c f t p d 111 s ≤ D then q_hof (q_srow σ c f t p d) c f D s + (if q_srow σ c f t p d 109 s = f then q_srow σ c f t p d 110 s else 0) - (if q_srow σ c f t p d 108 s = f then q_srow σ c f t p d 110 s else 0) else q_hof (q_srow σ c f t p d) c f D s := rfl
  rw [e, v7, v8, v9, v10, v11, ih, if_neg (show ¬ t = f by omega), if_pos (rfl : f = f)]
  by_cases h : d ≤ D
  · rw [if_pos ⟨rfl, h⟩, if_pos h]; omega
  · rw [if_neg (fun z => h z.2), if_neg h]
/-- the model's look -/
def q_bad (σ : q_S) (c f t p d : Int) : Prop := ∃ i : Nat, (i : Int) < σ 100 7 + 1 ∧ q_srow σ c f t p d 107 i = c ∧ q_hof (q_srow σ c f t p d) c f (q_srow σ c f t p d 111 i) ((σ 100 7).toNat + 1) < 0
theorem q_dbt_bad {σ : q_S} {c f t p d : Int} (hI : q_IS σ) (hS : q_SC σ) (hc : c ≠ -1) (hft : f ≠ t) : q_dbt σ c f p d ↔ q_bad σ c f t p d := by
  obtain ⟨s, hs⟩ : ∃ s : Nat, σ 100 7 = s := ⟨(σ 100 7).toNat, by have := hI.1; omega⟩
  have h5 : σ 7 5 = s := by rw [hS.1, hs]
  have et : (σ 7 5).toNat = s := by omega
  have et2 : (σ 100 7).toNat = s := by omega
  have al : ∀ j : Nat, j < s → σ 8 j = σ 107 j ∧ σ 9 j = σ 108 j ∧ σ 10 j = σ 109 j ∧ σ 11 j = σ 110 j ∧ σ 12 j = σ 111 j := fun j hj => by have := hS.2 j (by omega); omega
  have ph : ∀ D, q_pof σ c f D s = q_hof σ c f D s := fun D => q_pof_hof hc s al
  have v7 : q_srow σ c f t p d 107 (s : Int) = c := by rw [← hs]; unfold q_srow; rw [q_un (by decide), q_un (by decide), q_un (by decide), q_un (by decide), q_ue]
  have v11 : q_srow σ c f t p d 111 (s : Int) = d := by rw [← hs]; unfold q_srow; rw [q_ue]
  have lo : ∀ (j : Nat), j < s → ∀ k : Int, q_srow σ c f t p d k j = σ k j := fun j hj k => q_srow_b (by omega)
  unfold q_dbt q_bad
  rw [et, et2]
  constructor
  · intro h
    rcases h with h | ⟨i, hi, h8, h9, hd, hb⟩
    · refine ⟨s, by omega, v7, ?_⟩
      rw [v11, q_srow_n hs hft, if_pos (Int.le_refl d)]
      rw [ph] at h
      omega
    · have hi2 : i < s := by omega
      have a := al i hi2
      refine ⟨i, by omega, by rw [lo i hi2]; omega, ?_⟩
      rw [lo i hi2, q_srow_n hs hft, if_pos (by omega)]
      rw [ph, a.2.2.2.2] at hb
      omega
  · rintro ⟨i, hi, h7, hb⟩
    by_cases e : i = s
    · subst e
      rw [v11, q_srow_n hs hft, if_pos (Int.le_refl d)] at hb
      left
      rw [ph]
      omega
    · have hi2 : i < s := by omega
      have a := al i hi2
      rw [lo i hi2] at h7
      rw [lo i hi2, q_srow_n hs hft] at hb
      have h0 := hI.2.2 s (by omega) c f (σ 111 i)
      by_cases hd : d ≤ σ 111 i
      · rw [if_pos hd] at hb
        by_cases hn : q_hof σ c f d s < p
        · left; rw [ph]; exact hn
        · right
          obtain ⟨j, j1, j2, j3, j4, j5⟩ := q_owes (σ := σ) (c := c) (f := f) (n := p) (d := d) (s := s) (fun j hj => by have := (hI.2.1 j (by omega)).2.2; omega) (by omega) hi2 hd (by omega)
          have b := al j j1
          refine ⟨j, by omega, by omega, by omega, by omega, ?_⟩
          rw [ph, b.2.2.2.2]
          exact j5
      · rw [if_neg hd] at hb
        omega

section P78
variable {L : Nat} {xs : Int → Int}

theorem c_heldX {c w d n : Int} {σ : q_S} {K : q_R → q_S → Prop} (hb : 0 ≤ σ 7 5 ∧ σ 7 5 ≤ 120) (hp : ∀ j : Nat, (j : Int) < σ 7 5 → 0 ≤ σ 11 j ∧ σ 11 j ≤ 12) (h0 : ¬ (-1 ≤ c ∧ c ≤ 29 ∧ 0 ≤ w ∧ w ≤ 7 ∧ 0 ≤ n ∧ n ≤ σ 7 5) → K (some (0, -1)) σ) (h2 : (-1 ≤ c ∧ c ≤ 29 ∧ 0 ≤ w ∧ w ≤ 7 ∧ 0 ≤ n ∧ n ≤ σ 7 5 ∧ ¬ (0 ≤ d ∧ d ≤ 9999)) → K (some (0, -2)) σ) (h1 : (-1 ≤ c ∧ c ≤ 29 ∧ 0 ≤ w ∧ w ≤ 7 ∧ 0 ≤ n ∧ n ≤ σ 7 5 ∧ 0 ≤ d ∧ d ≤ 9999) → K (some (0, q_pof σ c w d n.toNat)) σ) : q_K L xs i_A_held [(2, 0), (0, c), (0, w), (0, d), (0, n)] σ K := by
  refine q_call k_A_held 6 rfl ?_
  show q_E L xs k_A_held (0, [(2, 0), (0, c), (0, w), (0, d), (0, n), (9, 0)], [], σ) K
  refine q_go1 200 0 [] (fun cl ev hcl hev => ?_)
  repeat' (first | refine And.intro ?_ ?_ | (intro hq; first | exact absurd hq (by decide) | exact absurd rfl hq | exact absurd hq (show ¬ (1 : Int) = 0 by decide) | exact absurd (show (1 : Int) ≠ 0 by decide) hq | skip) | (show cl _ _ _ _; first | refine hcl _ _ _ _ (c_A_isCell ?_ ?_) | refine hcl _ _ _ _ (c_A_isOwner ?_ ?_) | refine hcl _ _ _ _ (c_A_isDay ?_ ?_) | refine hcl _ _ _ _ (c_A_within ?_ ?_) | refine hcl _ _ _ _ (c_partsX hb (by omega) hp ?_)))
  all_goals first
    | omega
    | exact h0 (by omega)
    | exact h2 (by omega)
    | (rw [show min n (σ 7 5) = n by omega]; exact h1 (by omega))
end P78
