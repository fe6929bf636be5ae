section P20
variable {L : Nat} {xs : Int → Int}
theorem c_M_in {v lo hi : Int} {σ : q_S} {K : q_R → q_S → Prop} (h1 : (lo ≤ v ∧ v ≤ hi) → K (some (0, 1)) σ) (h0 : ¬ (lo ≤ v ∧ v ≤ hi) → K (some (0, 0)) σ) : q_K L xs i_M_in [(0, v), (0, lo), (0, hi)] σ K := by
  refine q_call k_M_in 3 rfl ?_
  show q_E L xs k_M_in (0, [(0, v), (0, lo), (0, hi)], [], σ) K
  refine q_go1 200 0 [] (fun cl ev hcl hev => ?_)
  repeat' (first | refine And.intro ?_ ?_ | (intro hq; first | exact absurd hq (by decide) | skip))
  all_goals first | omega | exact h1 (by omega) | exact h0 (by omega)

theorem c_M_isCell {v : Int} {σ : q_S} {K : q_R → q_S → Prop} (h1 : (0 ≤ v ∧ v ≤ 29) → K (some (0, 1)) σ) (h0 : ¬ (0 ≤ v ∧ v ≤ 29) → K (some (0, 0)) σ) : q_K L xs i_M_isCell [(0, v)] σ K := by
  refine q_call k_M_isCell 1 rfl ?_
  show q_E L xs k_M_isCell (0, [(0, v)], [], σ) K
  refine q_go1 200 0 [] (fun cl ev hcl hev => ?_)
  repeat' (first | refine And.intro ?_ ?_ | (intro hq; first | exact absurd hq (by decide) | skip) | refine hcl _ _ _ _ (c_M_in ?_ ?_))
  all_goals first | omega | exact h1 (by omega) | exact h0 (by omega)

theorem c_M_isOwner {v : Int} {σ : q_S} {K : q_R → q_S → Prop} (h1 : (0 ≤ v ∧ v ≤ 7) → K (some (0, 1)) σ) (h0 : ¬ (0 ≤ v ∧ v ≤ 7) → K (some (0, 0)) σ) : q_K L xs i_M_isOwner [(0, v)] σ K := by
  refine q_call k_M_isOwner 1 rfl ?_
  show q_E L xs k_M_isOwner (0, [(0, v)], [], σ) K
  refine q_go1 200 0 [] (fun cl ev hcl hev => ?_)
  repeat' (first | refine And.intro ?_ ?_ | (intro hq; first | exact absurd hq (by decide) | skip) | refine hcl _ _ _ _ (c_M_in ?_ ?_))
  all_goals first | omega | exact h1 (by omega) | exact h0 (by omega)

theorem c_M_isRod {v : Int} {σ : q_S} {K : q_R → q_S → Prop} (hb : 0 ≤ σ 100 13 ∧ σ 100 13 ≤ 24) (h1 : (0 ≤ v ∧ v < σ 100 13) → K (some (0, 1)) σ) (h0 : ¬ (0 ≤ v ∧ v < σ 100 13) → K (some (0, 0)) σ) : q_K L xs i_M_isRod [(2, 100), (0, v)] σ K := by
  refine q_call k_M_isRod 2 rfl ?_
  show q_E L xs k_M_isRod (0, [(2, 100), (0, v)], [], σ) K
  refine q_go1 200 0 [] (fun cl ev hcl hev => ?_)
  repeat' (first | refine And.intro ?_ ?_ | (intro hq; first | exact absurd hq (by decide) | skip) | refine hcl _ _ _ _ (c_M_in ?_ ?_))
  all_goals first | omega | exact h1 (by have := @q_w32_id (σ 100 13 - 1); omega) | exact h0 (by have := @q_w32_id (σ 100 13 - 1); omega)

theorem c_M_isHerd {v : Int} {σ : q_S} {K : q_R → q_S → Prop} (hb : 0 ≤ σ 100 22 ∧ σ 100 22 ≤ 6) (h1 : (0 ≤ v ∧ v < σ 100 22) → K (some (0, 1)) σ) (h0 : ¬ (0 ≤ v ∧ v < σ 100 22) → K (some (0, 0)) σ) : q_K L xs i_M_isHerd [(2, 100), (0, v)] σ K := by
  refine q_call k_M_isHerd 2 rfl ?_
  show q_E L xs k_M_isHerd (0, [(2, 100), (0, v)], [], σ) K
  refine q_go1 200 0 [] (fun cl ev hcl hev => ?_)
  repeat' (first | refine And.intro ?_ ?_ | (intro hq; first | exact absurd hq (by decide) | skip) | refine hcl _ _ _ _ (c_M_in ?_ ?_))
  all_goals first | omega | exact h1 (by have := @q_w32_id (σ 100 22 - 1); omega) | exact h0 (by have := @q_w32_id (σ 100 22 - 1); omega)

theorem c_M_level {c n : Int} {σ : q_S} {K : q_R → q_S → Prop} (h0 : ¬ (0 ≤ c ∧ c ≤ 29) → K (some (0, -1)) σ) (h2 : (0 ≤ c ∧ c ≤ 29 ∧ ¬ (0 ≤ n ∧ n ≤ 60)) → K (some (0, -2)) σ) (h1 : (0 ≤ c ∧ c ≤ 29 ∧ 0 ≤ n ∧ n ≤ 60) → K (some (0, σ 101 c)) (q_up σ 101 c n)) : q_K L xs i_M_level [(2, 100), (0, c), (0, n)] σ K := by
  refine q_call k_M_level 4 rfl ?_
  show q_E L xs k_M_level (0, [(2, 100), (0, c), (0, n), (9, 0)], [], σ) K
  refine q_go1 200 0 [] (fun cl ev hcl hev => ?_)
  repeat' (first | refine And.intro ?_ ?_ | (intro hq; first | exact absurd hq (by decide) | skip) | refine hcl _ _ _ _ (c_M_in ?_ ?_) | refine hcl _ _ _ _ (c_M_isCell ?_ ?_))
  all_goals first | omega | exact h0 (by omega) | exact h2 (by omega) | exact h1 (by omega)

theorem c_M_surface {c : Int} {σ : q_S} {K : q_R → q_S → Prop} (hc : 0 ≤ c ∧ c < 30) (h1 : K (some (0, q_w32 (σ 101 c + q_w32 ((σ 102 c).tdiv 100)))) σ) : q_K L xs i_M_surface [(2, 100), (0, c)] σ K := by
  refine q_call k_M_surface 2 rfl ?_
  show q_E L xs k_M_surface (0, [(2, 100), (0, c)], [], σ) K
  refine q_go1 200 0 [] (fun cl ev hcl hev => ?_)
  repeat' (first | refine And.intro ?_ ?_ | (intro hq; first | exact absurd hq (by decide) | skip))
  all_goals first | omega | exact h1

end P20
