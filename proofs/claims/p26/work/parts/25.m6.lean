/-- the custom in force now, what it asks -/
def q_cnow (σ : q_S) : Int := q_cof σ (σ 100 25) (σ 100 31).toNat
def q_hnow (σ : q_S) : Int := if q_cnow σ = -1 then 0 else σ 124 (q_cnow σ)
def q_vnow (σ : q_S) : Int := if q_cnow σ = -1 then 99 else σ 126 (q_cnow σ)
theorem q_cnow_in {σ : q_S} (hc : 0 ≤ σ 100 31 ∧ σ 100 31 ≤ 12) : -1 ≤ q_cnow σ ∧ q_cnow σ < 12 := by
  have := q_cof_in (σ := σ) (d := σ 100 25) (σ 100 31).toNat
  unfold q_cnow
  omega
def q_since (σ : q_S) (r : Int) : Int := if σ 118 r = -1 then 0 else σ 118 r
section P25
variable {L : Nat} {xs : Int → Int}
theorem c_M_isDue {r : Int} {σ : q_S} {K : q_R → q_S → Prop} (hr : 0 ≤ r ∧ r < 24) (hc : 0 ≤ σ 100 31 ∧ σ 100 31 ≤ 12) (h1 : K (some (0, 1)) σ) (h0 : K (some (0, 0)) σ) : q_K L xs i_M_isDue [(2, 100), (0, r)] σ K := by
  have hcn := q_cnow_in hc
  refine q_call k_M_isDue 3 rfl ?_
  show q_E L xs k_M_isDue (0, [(2, 100), (0, r), (9, 0)], [], σ) K
  refine q_go1 200 0 [] (fun cl ev hcl hev => ?_)
  repeat' (first | refine And.intro ?_ ?_ | (intro hq; first | exact absurd hq (by decide) | exact absurd rfl hq | exact absurd hq (show ¬ (1 : Int) = 0 by decide) | exact absurd (show (1 : Int) ≠ 0 by decide) hq | skip) | refine hcl _ _ _ _ (c_M_customOf hc ?_) | refine hcl _ _ _ _ (c_M_vOf hcn ?_ ?_))
  all_goals first | omega | exact h1 | exact h0

theorem c_M_about {r w : Int} {σ : q_S} {K : q_R → q_S → Prop} (hb : 0 ≤ σ 100 13 ∧ σ 100 13 ≤ 24) (hc : 0 ≤ σ 100 31 ∧ σ 100 31 ≤ 12) (hK : ∀ r, K (some (0, r)) σ) : q_K L xs i_M_about [(2, 100), (0, r), (0, w)] σ K := by
  refine q_call k_M_about 3 rfl ?_
  show q_E L xs k_M_about (0, [(2, 100), (0, r), (0, w)], [], σ) K
  refine q_go1 200 0 [] (fun cl ev hcl hev => ?_)
  repeat' (first | refine And.intro ?_ ?_ | (intro hq; first | exact absurd hq (by decide) | exact absurd rfl hq | exact absurd hq (show ¬ (1 : Int) = 0 by decide) | exact absurd (show (1 : Int) ≠ 0 by decide) hq | skip) | refine hcl _ _ _ _ (c_M_isRod hb ?_ ?_) | refine hcl _ _ _ _ (c_M_isDue (by omega) hc ?_ ?_))
  all_goals first | omega | exact hK _

theorem c_M_custom {d k w : Int} {σ : q_S} {K : q_R → q_S → Prop} (hc : 0 ≤ σ 100 31 ∧ σ 100 31 ≤ 12) (hK : ∀ r, K (some (0, r)) σ) : q_K L xs i_M_custom [(2, 100), (0, d), (0, k), (0, w)] σ K := by
  have hcn := q_cof_in (σ := σ) (d := d) k.toNat
  refine q_call k_M_custom 5 rfl ?_
  show q_E L xs k_M_custom (0, [(2, 100), (0, d), (0, k), (0, w), (9, 0)], [], σ) K
  refine q_go1 200 0 [] (fun cl ev hcl hev => ?_)
  repeat' (first | refine And.intro ?_ ?_ | (intro hq; first | exact absurd hq (by decide) | exact absurd rfl hq | exact absurd hq (show ¬ (1 : Int) = 0 by decide) | exact absurd (show (1 : Int) ≠ 0 by decide) hq | skip) | refine hcl _ _ _ _ (c_M_in ?_ ?_) | refine hcl _ _ _ _ (c_M_customOf (by omega) ?_))
  all_goals first | omega | exact hK _

theorem c_M_fault {r w : Int} {σ : q_S} {K : q_R → q_S → Prop} (hb : 0 ≤ σ 100 13 ∧ σ 100 13 ≤ 24) (hf : ∀ i, 0 ≤ i → i < σ 100 13 → -1 ≤ σ 119 i ∧ σ 119 i < 60) (hK : ∀ r, K (some (0, r)) σ) : q_K L xs i_M_fault [(2, 100), (0, r), (0, w)] σ K := by
  have hf := hf r
  refine q_call k_M_fault 4 rfl ?_
  show q_E L xs k_M_fault (0, [(2, 100), (0, r), (0, w), (9, 0)], [], σ) K
  refine q_go1 200 0 [] (fun cl ev hcl hev => ?_)
  repeat' (first | refine And.intro ?_ ?_ | (intro hq; first | exact absurd hq (by decide) | exact absurd rfl hq | exact absurd hq (show ¬ (1 : Int) = 0 by decide) | exact absurd (show (1 : Int) ≠ 0 by decide) hq | skip) | refine hcl _ _ _ _ (c_M_isRod hb ?_ ?_) | refine hcl _ _ _ _ (c_M_fineOf (by omega) ?_))
  all_goals first | omega | exact hK _

theorem c_M_rod {c kd hh : Int} {σ : q_S} {K : q_R → q_S → Prop} (hb : 0 ≤ σ 100 13 ∧ σ 100 13 ≤ 24) (h0 : ¬ (0 ≤ c ∧ c ≤ 29) → K (some (0, -1)) σ) (h2 : (0 ≤ c ∧ c ≤ 29 ∧ ¬ (0 ≤ kd ∧ kd ≤ 2 ∧ 0 ≤ hh ∧ hh ≤ 99)) → K (some (0, -2)) σ) (h4 : (0 ≤ c ∧ c ≤ 29 ∧ 0 ≤ kd ∧ kd ≤ 2 ∧ 0 ≤ hh ∧ hh ≤ 99 ∧ σ 100 13 = 24) → K (some (0, -4)) σ)
    (h1 : (0 ≤ c ∧ c ≤ 29 ∧ 0 ≤ kd ∧ kd ≤ 2 ∧ 0 ≤ hh ∧ hh ≤ 99 ∧ σ 100 13 < 24) → K (some (0, σ 100 13)) (q_up (q_up (q_up (q_up (q_up (q_up σ 112 (σ 100 13) c) 113 (σ 100 13) kd) 114 (σ 100 13) hh) 118 (σ 100 13) (-1)) 119 (σ 100 13) (-1)) 100 13 (σ 100 13 + 1))) : q_K L xs i_M_rod [(2, 100), (0, c), (0, kd), (0, hh)] σ K := by
  have e1 : q_w32 (σ 100 13 + 1) = σ 100 13 + 1 := by rw [q_w32_id] <;> omega
  have e2 : q_w32 (σ 100 13 + 1 - 1) = σ 100 13 := by rw [q_w32_id] <;> omega
  refine q_call k_M_rod 4 rfl ?_
  show q_E L xs k_M_rod (0, [(2, 100), (0, c), (0, kd), (0, hh)], [], σ) K
  refine q_go1 200 0 [] (fun cl ev hcl hev => ?_)
  repeat' (first | refine And.intro ?_ ?_ | (intro hq; first | exact absurd hq (by decide) | exact absurd rfl hq | exact absurd hq (show ¬ (1 : Int) = 0 by decide) | exact absurd (show (1 : Int) ≠ 0 by decide) hq | skip) | refine hcl _ _ _ _ (c_M_in ?_ ?_) | refine hcl _ _ _ _ (c_M_isCell ?_ ?_))
  all_goals first | omega | exact h0 (by omega) | exact h2 (by omega) | exact h4 (by omega) | (simp (disch := decide) only [q_un, q_ue] at *; omega) | (have h1 := h1 (by omega); show K (some (0, _)) _; simp (disch := decide) only [q_un, q_ue, e1, e2]; exact h1)

theorem c_M_mend {r w n : Int} {σ : q_S} {K : q_R → q_S → Prop} (hb : 0 ≤ σ 100 13 ∧ σ 100 13 ≤ 24) (hh : ∀ i, 0 ≤ i → i < 24 → 0 ≤ σ 114 i ∧ σ 114 i ≤ 99) (hf : ∀ i, 0 ≤ i → i < σ 100 13 → -1 ≤ σ 119 i ∧ σ 119 i < 60) (h0 : ¬ (0 ≤ r ∧ r < σ 100 13 ∧ 0 ≤ w ∧ w ≤ 7) → K (some (0, -1)) σ) (h2 : (0 ≤ r ∧ r < σ 100 13 ∧ 0 ≤ w ∧ w ≤ 7 ∧ ¬ (1 ≤ n ∧ n ≤ 99 ∧ σ 114 r + n ≤ 99)) → K (some (0, -2)) σ)
    (h1 : (0 ≤ r ∧ r < σ 100 13 ∧ 0 ≤ w ∧ w ≤ 7 ∧ 1 ≤ n ∧ n ≤ 99 ∧ σ 114 r + n ≤ 99) → (σ 119 r = -1 ∨ σ 114 r + n < σ 137 (σ 119 r)) → K (some (0, σ 114 r + n)) (q_up (q_up σ 114 r (σ 114 r + n)) 139 w (q_w32 (σ 139 w + n))))
    (h3 : (0 ≤ r ∧ r < σ 100 13 ∧ 0 ≤ w ∧ w ≤ 7 ∧ 1 ≤ n ∧ n ≤ 99 ∧ σ 114 r + n ≤ 99) → (σ 119 r ≠ -1 ∧ σ 137 (σ 119 r) ≤ σ 114 r + n) → K (some (0, σ 114 r + n)) (q_up (q_up (q_up (q_up σ 114 r (σ 114 r + n)) 139 w (q_w32 (σ 139 w + n))) 135 (σ 119 r) (σ 100 25)) 119 r (-1))) : q_K L xs i_M_mend [(2, 100), (0, r), (0, w), (0, n)] σ K := by
  have hh := hh r
  have hf := hf r
  have e1 : (0 ≤ r ∧ r < σ 100 13 ∧ 1 ≤ n ∧ n ≤ 99) → q_w32 (σ 114 r + n) = σ 114 r + n := fun _ => by rw [q_w32_id] <;> omega
  refine q_call k_M_mend 4 rfl ?_
  show q_E L xs k_M_mend (0, [(2, 100), (0, r), (0, w), (0, n)], [], σ) K
  refine q_go1 200 0 [] (fun cl ev hcl hev => ?_)
  repeat' (first | refine And.intro ?_ ?_ | (intro hq; first | exact absurd hq (by decide) | exact absurd rfl hq | exact absurd hq (show ¬ (1 : Int) = 0 by decide) | exact absurd (show (1 : Int) ≠ 0 by decide) hq | skip) | refine hcl _ _ _ _ (c_M_in ?_ ?_) | refine hcl _ _ _ _ (c_M_isOwner ?_ ?_) | refine hcl _ _ _ _ (c_M_isRod hb ?_ ?_) | refine hcl _ _ _ _ (c_M_endsFault (by omega) (by show -1 ≤ σ 119 r ∧ σ 119 r < 60; omega) ?_ ?_))
  all_goals first | omega | exact h0 (by omega) | exact h2 (by omega) | exact h2 (by have := e1 (by omega); omega) | (simp (disch := decide) only [q_un, q_ue] at *; omega) | (have e1 := e1 (by omega); simp (disch := decide) only [q_un, q_ue, e1] at *; first | omega | exact h1 (by omega) (by omega) | exact h3 (by omega) (by omega))

end P25
