/-- the court in force on a day, of the first k -/
def q_cof (σ : q_S) (d : Int) : Nat → Int
  | 0 => -1
  | k + 1 => if σ 123 k ≤ d ∧ (q_cof σ d k = -1 ∨ σ 123 (q_cof σ d k) ≤ σ 123 k) then (k : Int) else q_cof σ d k
theorem q_cof_in {σ : q_S} {d : Int} : ∀ k : Nat, -1 ≤ q_cof σ d k ∧ q_cof σ d k < k
  | 0 => by unfold q_cof; omega
  | k + 1 => by
    have := q_cof_in (σ := σ) (d := d) k
    unfold q_cof
    split <;> omega
section P24
variable {L : Nat} {xs : Int → Int}
theorem l_M_customOf {d kn : Int} {σ : q_S} {K : q_R → q_S → Prop} (hk : 0 ≤ kn ∧ kn ≤ 12) (hK : K (some (0, q_cof σ d kn.toNat)) σ) :
    ∀ (m : Nat) (c : Nat), kn - c < m → (c : Int) ≤ kn → q_E L xs k_M_customOf (4, [(2, 100), (0, d), (0, kn), (0, q_cof σ d c), (0, (c : Int))], [], σ) K := by
  intro m
  induction m with
  | zero => intro c; omega
  | succ m ih =>
    intro c hm hc
    have e1 : q_w32 ((c : Int) + 1) = ((c + 1 : Nat) : Int) := by rw [q_w32_id] <;> omega
    have hin := q_cof_in (σ := σ) (d := d) c
    have step : ∀ b, (c : Int) < kn → b = q_cof σ d (c + 1) → q_E L xs k_M_customOf (4, [(2, 100), (0, d), (0, kn), (0, b), (0, q_w32 ((c : Int) + 1))], [], σ) K := by
      intro b hlt hb
      rw [e1, hb]
      exact ih (c + 1) (by omega) (by omega)
    refine q_go1 80 4 [4] (fun cl ev hcl hev => ?_)
    repeat' (first | refine And.intro ?_ ?_ | (intro hq; first | exact absurd hq (by decide) | exact absurd rfl hq | exact absurd hq (show ¬ (1 : Int) = 0 by decide) | exact absurd (show (1 : Int) ≠ 0 by decide) hq | skip))
    all_goals first
      | omega
      | (rw [show kn.toNat = c by omega] at hK; exact hK)
      | (refine hev _ (step _ (by omega) ?_); unfold q_cof; rw [if_pos (by omega)])
      | (refine hev _ (step _ (by omega) ?_); show q_cof σ d c = q_cof σ d (c + 1); conv => rhs; unfold q_cof
         rw [if_neg (by omega)])

theorem c_M_customOf {d kn : Int} {σ : q_S} {K : q_R → q_S → Prop} (hk : 0 ≤ kn ∧ kn ≤ 12) (hK : K (some (0, q_cof σ d kn.toNat)) σ) : q_K L xs i_M_customOf [(2, 100), (0, d), (0, kn)] σ K := by
  refine q_call k_M_customOf 5 rfl ?_
  show q_E L xs k_M_customOf (0, [(2, 100), (0, d), (0, kn), (9, 0), (9, 0)], [], σ) K
  refine q_go1 80 0 [4] (fun cl ev hcl hev => ?_)
  exact hev _ (l_M_customOf hk hK 20 0 (by omega) (by omega))

end P24
