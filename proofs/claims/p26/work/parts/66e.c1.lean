theorem q_J0 : q_J 0 q_s0 := ⟨q_IN0, ⟨by rw [q_s0_n (k := 7) _ (by omega) (by omega) (by omega), q_s0_n (k := 100) _ (by omega) (by omega) (by omega)], fun j hj => absurd hj (by rw [q_s0_n (k := 7) _ (by omega) (by omega) (by omega)]; omega)⟩, (by
  refine ⟨fun k j => ?_, fun k j k' j' hr => ?_, ?_⟩
  · by_cases hk : k = 95 ∨ (142 ≤ k ∧ k ≤ 144) ∨ (36 ≤ k ∧ k ≤ 84)
    · unfold y_ok; omega
    · rw [q_s0_n (k := k) j (by omega) (by omega) (by omega)]; unfold y_ok; omega
  · rw [q_s0_n (k := k) j (by unfold y_rel at hr; omega) (by unfold y_rel at hr; omega) (by unfold y_rel at hr; omega), q_s0_n (k := k') j' (by unfold y_rel at hr; omega) (by unfold y_rel at hr; omega) (by unfold y_rel at hr; omega)]
  · rw [q_s0_n (k := 0) _ (by omega) (by omega) (by omega)]; omega), (by
  have z : ∀ k i, ¬ (142 ≤ k ∧ k ≤ 144) → k ≠ 95 → ¬ (36 ≤ k ∧ k ≤ 84) → q_s0 k i = 0 := fun k i h0 h1 h2 => q_s0_n i h0 h1 h2
  refine ⟨⟨fun i => by rw [z 122 i (by omega) (by omega) (by omega), z 33 i (by omega) (by omega) (by omega)], by rw [z 100 30 (by omega) (by omega) (by omega), z 32 1 (by omega) (by omega) (by omega)], by rw [z 32 1 (by omega) (by omega) (by omega)]; omega, fun i => by rw [z 33 i (by omega) (by omega) (by omega)]; omega⟩, ⟨by rw [z 100 31 (by omega) (by omega) (by omega), z 34 2 (by omega) (by omega) (by omega)], by rw [z 34 2 (by omega) (by omega) (by omega)]; omega⟩, fun j j0 j1 => ?_, ⟨rfl, rfl, rfl, rfl, rfl, rfl, rfl, rfl, rfl, rfl, rfl, rfl, rfl, rfl⟩, ⟨rfl, rfl, rfl, rfl, rfl⟩⟩
  rw [z 34 2 (by omega) (by omega) (by omega)] at j1
  omega), (by
  have z : ∀ k i, ¬ (142 ≤ k ∧ k ≤ 144) → k ≠ 95 → ¬ (36 ≤ k ∧ k ≤ 84) → q_s0 k i = 0 := fun k i h0 h1 h2 => q_s0_n i h0 h1 h2
  refine ⟨by rw [z 100 42 (by omega) (by omega) (by omega), z 88 7 (by omega) (by omega) (by omega)], by rw [z 88 7 (by omega) (by omega) (by omega)]; omega, fun i i0 i1 => ?_, fun s s0 s1 => ?_, fun s _ _ => rfl⟩
  · rw [z 88 7 (by omega) (by omega) (by omega)] at i1; omega
  · rw [z 17 9 (by omega) (by omega) (by omega)] at s1; omega)⟩
