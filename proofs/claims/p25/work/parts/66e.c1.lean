theorem q_J0 : q_J 0 q_s0 := ⟨q_IN0, (by
  refine ⟨fun k j => ?_, fun k j k' j' hr => ?_, ?_⟩
  · by_cases hk : k = 95 ∨ (142 ≤ k ∧ k ≤ 144) ∨ (36 ≤ k ∧ k ≤ 84)
    · unfold y_ok; omega
    · rw [q_s0_n (k := k) j (by omega) (by omega) (by omega)]; unfold y_ok; omega
  · rw [q_s0_n (k := k) j (by unfold y_rel at hr; omega) (by unfold y_rel at hr; omega) (by unfold y_rel at hr; omega), q_s0_n (k := k') j' (by unfold y_rel at hr; omega) (by unfold y_rel at hr; omega) (by unfold y_rel at hr; omega)]
  · rw [q_s0_n (k := 0) _ (by omega) (by omega) (by omega)]; omega)⟩
