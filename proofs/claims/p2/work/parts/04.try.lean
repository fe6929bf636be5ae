section T4
variable {L : Nat} {xs : Int → Int}
theorem c_M_in {v lo hi : Int} {σ : q_S} {K : q_R → q_S → Prop} (h1 : lo ≤ v → v ≤ hi → K (some (0, 1)) σ) (h0 : ¬ (lo ≤ v ∧ v ≤ hi) → K (some (0, 0)) σ) : q_K L xs i_M_in [(0, v), (0, lo), (0, hi)] σ K := by
  refine q_call k_M_in 3 rfl ?_
  show q_E L xs k_M_in (0, [(0, v), (0, lo), (0, hi)], [], σ) K
  refine q_go1 60 0 [] (fun cl ev hcl hev => ?_)
  refine And.intro (fun c => ?_) (fun c => ?_)
  · exact h0 (by omega)
  · refine And.intro (fun c2 => ?_) (fun c2 => ?_)
    · exact h0 (by omega)
    · exact h1 (by omega) (by omega)
theorem c_M_isCell {v : Int} {σ : q_S} {K : q_R → q_S → Prop} (h1 : 0 ≤ v → v ≤ 29 → K (some (0, 1)) σ) (h0 : ¬ (0 ≤ v ∧ v ≤ 29) → K (some (0, 0)) σ) : q_K L xs i_M_isCell [(0, v)] σ K := by
  refine q_call k_M_isCell 1 rfl ?_
  show q_E L xs k_M_isCell (0, [(0, v)], [], σ) K
  refine q_go1 60 0 [] (fun cl ev hcl hev => ?_)
  refine hcl _ _ _ _ (c_M_in (fun c1 c2 => ?_) (fun c => ?_))
  · exact h1 c1 c2
  · exact h0 c
theorem c_M_level {c n : Int} {σ : q_S} {K : q_R → q_S → Prop} (h1 : 0 ≤ c → c ≤ 29 → 0 ≤ n → n ≤ 60 → K (some (0, σ 101 c)) (q_up σ 101 c n)) (h0 : ¬ (0 ≤ c ∧ c ≤ 29) → K (some (0, -1)) σ) (h2 : 0 ≤ c → c ≤ 29 → ¬ (0 ≤ n ∧ n ≤ 60) → K (some (0, -2)) σ) : q_K L xs i_M_level [(2, 100), (0, c), (0, n)] σ K := by
  refine q_call k_M_level 4 rfl ?_
  show q_E L xs k_M_level (0, [(2, 100), (0, c), (0, n), (9, 0)], [], σ) K
  refine q_go1 60 0 [] (fun cl ev hcl hev => ?_)
  refine hcl _ _ _ _ (c_M_isCell (fun c1 c2 => ?_) (fun c => ?_))
  · refine And.intro (fun c => ?_) (fun c => absurd c (by decide))
    refine hcl _ _ _ _ (c_M_in (fun d1 d2 => ?_) (fun d => ?_))
    · refine And.intro (fun c => ?_) (fun c => absurd c (by decide))
      refine And.intro ⟨c1, by omega⟩ ?_
      refine And.intro ⟨c1, by omega⟩ ?_
      exact h1 c1 c2 d1 d2
    · refine And.intro (fun c => absurd rfl c) (fun c => ?_)
      exact h2 c1 c2 d
  · refine And.intro (fun c => absurd rfl c) (fun c' => ?_)
    conv => whnf
    trace_state
    exact h0 c
end T4
