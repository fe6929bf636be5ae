section P35
variable {L : Nat} {xs : Int → Int}
theorem l_M_wayTo {a b : Int} {σ : q_S} {K : q_R → q_S → Prop} (ha : 0 ≤ a ∧ a < 30) (hK : ∀ w, (w = -1 ∨ (0 ≤ w ∧ w < 4 ∧ q_bes a w = b)) → K (some (0, w)) σ) :
    ∀ (m : Nat) (w : Int), 4 - w < m → 0 ≤ w → w ≤ 4 → q_E L xs k_M_wayTo (2, [(0, a), (0, b), (0, w)], [], σ) K := by
  intro m
  induction m with
  | zero => intro w; omega
  | succ m ih =>
    intro w hm hw hw2
    have e : q_w32 (w + 1) = w + 1 := by rw [q_w32_id] <;> omega
    refine q_go1 120 2 [2] (fun cl ev hcl hev => ?_)
    repeat' (first | refine And.intro ?_ ?_ | (intro hq; first | exact absurd hq (by decide) | exact absurd rfl hq | exact absurd hq (show ¬ (1 : Int) = 0 by decide) | exact absurd (show (1 : Int) ≠ 0 by decide) hq | skip) | refine hcl _ _ _ _ (c_M_beside ha ?_))
    all_goals first
      | omega
      | exact hK _ (Or.inl rfl)
      | exact hK _ (Or.inr ⟨by omega, by omega, by omega⟩)
      | (refine hev _ ?_; rw [e]; exact ih (w + 1) (by omega) (by omega) (by omega))
theorem c_M_wayTo {a b : Int} {σ : q_S} {K : q_R → q_S → Prop} (ha : 0 ≤ a ∧ a < 30) (hK : ∀ w, (w = -1 ∨ (0 ≤ w ∧ w < 4 ∧ q_bes a w = b)) → K (some (0, w)) σ) : q_K L xs i_M_wayTo [(0, a), (0, b)] σ K := by
  refine q_call k_M_wayTo 3 rfl ?_
  show q_E L xs k_M_wayTo (0, [(0, a), (0, b), (9, 0)], [], σ) K
  refine q_go1 120 0 [2] (fun cl ev hcl hev => ?_)
  exact hev _ (l_M_wayTo ha hK 5 0 (by omega) (by omega) (by omega))
theorem c_M_gate {a b p : Int} {σ : q_S} {K : q_R → q_S → Prop} (hK : ∀ x, K (some (0, x)) σ) (hK1 : ∀ x k i v, (k = 105 ∨ k = 106) → K (some (0, x)) (q_up σ k i v)) : q_K L xs i_M_gate [(2, 100), (0, a), (0, b), (0, p)] σ K := by
  refine q_call k_M_gate 7 rfl ?_
  show q_E L xs k_M_gate (0, [(2, 100), (0, a), (0, b), (0, p), (9, 0), (9, 0), (9, 0)], [], σ) K
  refine q_go1 200 0 [] (fun cl ev hcl hev => ?_)
  repeat' (first | refine And.intro ?_ ?_ | (intro hq; first | exact absurd hq (by decide) | exact absurd rfl hq | exact absurd hq (show ¬ (1 : Int) = 0 by decide) | exact absurd (show (1 : Int) ≠ 0 by decide) hq | skip) | refine hcl _ _ _ _ (c_M_in ?_ ?_) | refine hcl _ _ _ _ (c_M_isCell ?_ ?_) | refine hcl _ _ _ _ (c_M_wayTo (by omega) (fun w hw => ?_)) | refine hcl _ _ _ _ (c_M_isOpen (by omega) (by omega) ?_ ?_))
  all_goals first | omega | exact hK _ | exact hK1 _ _ _ _ (Or.inl rfl) | exact hK1 _ _ _ _ (Or.inr rfl)
theorem c_M_drive {i c : Int} {σ : q_S} {K : q_R → q_S → Prop} (hb : 0 ≤ σ 100 22 ∧ σ 100 22 ≤ 6) (hh : ∀ j, 0 ≤ j → j < 6 → 0 ≤ σ 120 j ∧ σ 120 j < 30) (hK : ∀ x, K (some (0, x)) σ) (hK1 : ∀ x, 0 ≤ c → c < 30 → K (some (0, x)) (q_up σ 120 i c)) : q_K L xs i_M_drive [(2, 100), (0, i), (0, c)] σ K := by
  have hi := hh i
  refine q_call k_M_drive 5 rfl ?_
  show q_E L xs k_M_drive (0, [(2, 100), (0, i), (0, c), (9, 0), (9, 0)], [], σ) K
  refine q_go1 200 0 [] (fun cl ev hcl hev => ?_)
  repeat' (first | refine And.intro ?_ ?_ | (intro hq; first | exact absurd hq (by decide) | exact absurd rfl hq | exact absurd hq (show ¬ (1 : Int) = 0 by decide) | exact absurd (show (1 : Int) ≠ 0 by decide) hq | skip) | refine hcl _ _ _ _ (c_M_isHerd hb ?_ ?_) | refine hcl _ _ _ _ (c_M_isCell ?_ ?_) | refine hcl _ _ _ _ (c_M_wayTo (hi (by omega) (by omega)) (fun w hw => ?_)) | refine hcl _ _ _ _ (c_M_isOpen (hi (by omega) (by omega)) (by omega) ?_ ?_))
  all_goals first | omega | exact hK _ | exact hK1 _ (by omega) (by omega)
end P35
