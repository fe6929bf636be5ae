section U0
variable {σ : q_S}
theorem q_cmm {k i v k' i' v' : Int} (h : ¬ (k = k' ∧ i = i')) : q_up (q_up σ k i v) k' i' v' = q_up (q_up σ k' i' v') k i v := by
  funext a j
  unfold q_up
  repeat' split
  all_goals first
    | rfl
    | (exfalso; omega)
theorem q_uu {k i v v' : Int} : q_up (q_up σ k i v) k i v' = q_up σ k i v' := by
  funext a j
  unfold q_up
  repeat' split
  all_goals rfl
end U0
