section P64
variable {L : Nat} {xs : Int → Int}

theorem n_gate {a b p : Int} {W : Int → Int → Prop} {σ0 σ : q_S} {K : q_R → q_S → Prop} (hW : ∀ i, W 6 i) (h : q_AW W σ0 σ) (hK : ∀ x σ', q_AW W σ0 σ' → K (some (0, x)) σ') : q_K L xs i_A_gate [(2, 0), (0, a), (0, b), (0, p)] σ K :=
  c_A_gate (fun _ => hK _ _ h) (fun _ => hK _ _ h) (fun _ => hK _ _ (q_AWf h (hW _) (by unfold q_fre; omega)))
theorem n_tide {hi wi ra : Int} {W : Int → Int → Prop} {σ0 σ : q_S} {K : q_R → q_S → Prop} (hW : ∀ k i, w_tide k i → W k i) (hW0 : W 0 10 ∧ W 0 11) (h : q_AW W σ0 σ) (hK : ∀ x σ', q_AW W σ0 σ' → K (some (0, x)) σ') : q_K L xs i_A_tide [(2, 0), (0, hi), (0, wi), (0, ra)] σ K :=
  c_A_tide hW (fun _ => hK _ _ h) (fun _ _ => hK _ _ h) h (fun _ _ x σ' h' => hK _ _ (q_AWf (q_AWf h' hW0.1 (by unfold q_fre; omega)) hW0.2 (by unfold q_fre; omega)))
theorem n_pass {n : Int} {W : Int → Int → Prop} {σ0 σ : q_S} {K : q_R → q_S → Prop} (hW0 : W 0 10) (h : q_AW W σ0 σ) (hK : ∀ x σ', q_AW W σ0 σ' → K (some (0, x)) σ') : q_K L xs i_A_pass [(2, 0), (0, n)] σ K :=
  c_A_pass (fun _ => hK _ _ h) (fun _ => hK _ _ h) (fun _ => hK _ _ (q_AWf h hW0 (by unfold q_fre; omega)))
/-- the coupled calls: what both may change, and what both then hold -/
def q_W1 (k i : Int) : Prop := q_W0 k i ∨ (k = 17 ∧ i = 9)
def q_W2 (k i : Int) : Prop := q_W0 k i ∨ (k = 27 ∧ i = 2)
theorem n_rod {c k n : Int} {σ : q_S} {K : q_R → q_S → Prop} (h : q_IN σ) (h0 : ¬ (0 ≤ c ∧ c ≤ 29) → K (some (0, -1)) σ) (h2 : (0 ≤ c ∧ c ≤ 29 ∧ ¬ (0 ≤ k ∧ k ≤ 2 ∧ 0 ≤ n ∧ n ≤ 99)) → K (some (0, -2)) σ) (h4 : (0 ≤ c ∧ c ≤ 29 ∧ 0 ≤ k ∧ k ≤ 2 ∧ 0 ≤ n ∧ n ≤ 99 ∧ σ 17 9 = 24) → K (some (0, -4)) σ) (h1 : (0 ≤ c ∧ c ≤ 29 ∧ 0 ≤ k ∧ k ≤ 2 ∧ 0 ≤ n ∧ n ≤ 99 ∧ σ 17 9 < 24) → ∀ σ', q_AW q_W1 σ σ' → σ' 17 9 = σ 17 9 + 1 → K (some (0, σ 17 9)) σ') : q_K L xs i_A_rod [(2, 0), (0, c), (0, k), (0, n)] σ K := by
  have hA : q_AW q_W1 σ σ := q_AW0 h
  have hb := q_oBank hA
  refine c_A_rod hb h0 h2 h4 (fun hh => h1 hh _ ?_ q_ue)
  refine q_AWu (q_AWu (q_AWu (q_AWu (q_AWu hA ?_ ?_) ?_ ?_) ?_ ?_) ?_ ?_) ?_ ?_
  all_goals first
    | (unfold q_W1 q_W0 q_cp; omega)
    | (unfold q_ok; omega)
theorem n_herd {c : Int} {σ : q_S} {K : q_R → q_S → Prop} (h : q_IN σ) (h0 : ¬ (0 ≤ c ∧ c ≤ 29) → K (some (0, -1)) σ) (h4 : (0 ≤ c ∧ c ≤ 29 ∧ σ 27 2 = 6) → K (some (0, -4)) σ) (h1 : (0 ≤ c ∧ c ≤ 29 ∧ σ 27 2 < 6) → ∀ σ', q_AW q_W2 σ σ' → σ' 27 2 = σ 27 2 + 1 → K (some (0, σ 27 2)) σ') : q_K L xs i_A_herd [(2, 0), (0, c)] σ K := by
  have hA : q_AW q_W2 σ σ := q_AW0 h
  have hb := q_oHerds hA
  refine c_A_herd hb h0 h4 (fun hh => h1 hh _ ?_ q_ue)
  refine q_AWu (q_AWu hA ?_ ?_) ?_ ?_
  all_goals first
    | (unfold q_W2 q_W0 q_cp; omega)
    | (unfold q_ok; omega)
def q_V1 (k i : Int) : Prop := q_V0 k i ∨ (k = 100 ∧ i = 13)
def q_V2 (k i : Int) : Prop := q_V0 k i ∨ (k = 100 ∧ i = 22)

theorem m_rod {c kd n : Int} {σ : q_S} {K : q_R → q_S → Prop} (hI : q_MI σ) (h0 : ¬ (0 ≤ c ∧ c ≤ 29) → K (some (0, -1)) σ) (h2 : (0 ≤ c ∧ c ≤ 29 ∧ ¬ (0 ≤ kd ∧ kd ≤ 2 ∧ 0 ≤ n ∧ n ≤ 99)) → K (some (0, -2)) σ) (h4 : (0 ≤ c ∧ c ≤ 29 ∧ 0 ≤ kd ∧ kd ≤ 2 ∧ 0 ≤ n ∧ n ≤ 99 ∧ σ 100 13 = 24) → K (some (0, -4)) σ) (h1 : (0 ≤ c ∧ c ≤ 29 ∧ 0 ≤ kd ∧ kd ≤ 2 ∧ 0 ≤ n ∧ n ≤ 99 ∧ σ 100 13 < 24) → ∀ σ', q_MI σ' → q_MF q_V1 σ σ' → σ' 100 13 = σ 100 13 + 1 → K (some (0, σ 100 13)) σ') : q_K L xs i_M_rod [(2, 100), (0, c), (0, kd), (0, n)] σ K := by
  obtain ⟨a1, a2, a3, a4, a5, a6, a7, a8, a9, a10⟩ := id hI
  refine c_M_rod a1 h0 h2 h4 (fun hh => h1 hh _ ?_ ?_ q_ue)
  · have g : ∀ k i, q_rel k i → (k ≠ 112 ∧ k ≠ 114 ∧ k ≠ 119 ∧ ¬ (k = 100 ∧ i = 13)) → q_up (q_up (q_up (q_up (q_up (q_up σ 112 (σ 100 13) c) 113 (σ 100 13) kd) 114 (σ 100 13) n) 118 (σ 100 13) (-1)) 119 (σ 100 13) (-1)) 100 13 (σ 100 13 + 1) k i = σ k i := fun k i hk h9 => (q_unn h9.2.2.2).trans ((q_un h9.2.2.1).trans ((q_un (by unfold q_rel at hk; omega)).trans ((q_un h9.2.1).trans ((q_un (by unfold q_rel at hk; omega)).trans (q_un h9.1)))))
    refine ⟨(by rw [q_ue]; omega), (by rw [g 100 22 (by unfold q_rel; omega) (by omega)]; exact a2), (by rw [g 100 30 (by unfold q_rel; omega) (by omega)]; exact a3), (q_IS_c (fun k j hk => g k j (by unfold q_rel; omega) (by omega)) (g 100 7 (by unfold q_rel; omega) (by omega)) a4), (q_IC_c (fun k j hk => g k j (by unfold q_rel; omega) (by omega)) (g 100 31 (by unfold q_rel; omega) (by omega)) a5), ⟨by rw [g 100 42 (by unfold q_rel; omega) (by omega)]; exact a6.1, fun i h0 h1 => ?_⟩, (fun i h0 h1 => ?_), (fun i h0 h1 => ?_), (fun i h0 h1 => by rw [g 120 i (by unfold q_rel; omega) (by omega)]; exact a9 i h0 h1), ⟨(fun i h0 h1 => by rw [g 142 i (by unfold q_rel; omega) (by omega)]; exact a10.1 i h0 h1), (fun i h0 h1 => by rw [g 143 i (by unfold q_rel; omega) (by omega)]; exact a10.2.1 i h0 h1), (fun i h0 h1 => by rw [g 144 i (by unfold q_rel; omega) (by omega)]; exact a10.2.2 i h0 h1)⟩⟩
    · rw [q_ue] at h1
      rw [g 100 42 (by unfold q_rel; omega) (by omega), q_un (by decide)]
      by_cases e : i = σ 100 13
      · rw [e, q_ue]; have := a6.1; omega
      · rw [q_ui e, q_un (by decide), q_un (by decide), q_un (by decide), q_un (by decide)]; exact a6.2 i h0 (by omega)
    · rw [q_un (by decide), q_un (by decide), q_un (by decide)]
      by_cases e : i = σ 100 13
      · rw [e, q_ue]; omega
      · rw [q_ui e, q_un (by decide), q_un (by decide)]; exact a7 i h0 h1
    · rw [q_un (by decide), q_un (by decide), q_un (by decide), q_un (by decide), q_un (by decide)]
      by_cases e : i = σ 100 13
      · rw [e, q_ue]; omega
      · rw [q_ui e]; exact a8 i h0 h1
  · intro k i hk
    unfold q_V1 q_V0 q_cp at hk
    rw [q_unn (by omega), q_un (by omega), q_un (by omega), q_un (by omega), q_un (by omega), q_un (by omega)]
theorem m_herd {c : Int} {σ : q_S} {K : q_R → q_S → Prop} (hI : q_MI σ) (h0 : ¬ (0 ≤ c ∧ c ≤ 29) → K (some (0, -1)) σ) (h4 : (0 ≤ c ∧ c ≤ 29 ∧ σ 100 22 = 6) → K (some (0, -4)) σ) (h1 : (0 ≤ c ∧ c ≤ 29 ∧ σ 100 22 < 6) → ∀ σ', q_MI σ' → q_MF q_V2 σ σ' → σ' 100 22 = σ 100 22 + 1 → K (some (0, σ 100 22)) σ') : q_K L xs i_M_herd [(2, 100), (0, c)] σ K := by
  obtain ⟨a1, a2, a3, a4, a5, a6, a7, a8, a9, a10⟩ := id hI
  refine c_M_herd a2 h0 h4 (fun hh => h1 hh _ ?_ ?_ q_ue)
  · have g : ∀ k i, q_rel k i → (k ≠ 120 ∧ ¬ (k = 100 ∧ i = 22)) → q_up (q_up σ 120 (σ 100 22) c) 100 22 (σ 100 22 + 1) k i = σ k i := fun k i hk h9 => (q_unn h9.2).trans (q_un h9.1)
    refine ⟨(by rw [g 100 13 (by unfold q_rel; omega) (by omega)]; exact a1), (by rw [q_ue]; omega), (by rw [g 100 30 (by unfold q_rel; omega) (by omega)]; exact a3), (q_IS_c (fun k j hk => g k j (by unfold q_rel; omega) (by omega)) (g 100 7 (by unfold q_rel; omega) (by omega)) a4), (q_IC_c (fun k j hk => g k j (by unfold q_rel; omega) (by omega)) (g 100 31 (by unfold q_rel; omega) (by omega)) a5), (q_IF_c (fun j => g 119 j (by unfold q_rel; omega) (by omega)) (g 100 42 (by unfold q_rel; omega) (by omega)) (g 100 13 (by unfold q_rel; omega) (by omega)) a6), (fun i h0 h1 => by rw [g 114 i (by unfold q_rel; omega) (by omega)]; exact a7 i h0 h1), (fun i h0 h1 => by rw [g 112 i (by unfold q_rel; omega) (by omega)]; exact a8 i h0 h1), (fun i h0 h1 => ?_), ⟨(fun i h0 h1 => by rw [g 142 i (by unfold q_rel; omega) (by omega)]; exact a10.1 i h0 h1), (fun i h0 h1 => by rw [g 143 i (by unfold q_rel; omega) (by omega)]; exact a10.2.1 i h0 h1), (fun i h0 h1 => by rw [g 144 i (by unfold q_rel; omega) (by omega)]; exact a10.2.2 i h0 h1)⟩⟩
    rw [q_un (by decide)]
    by_cases e : i = σ 100 22
    · rw [e, q_ue]; omega
    · rw [q_ui e]; exact a9 i h0 h1
  · intro k i hk
    unfold q_V2 q_V0 q_cp at hk
    rw [q_unn (by omega), q_un (by omega)]

theorem q_INr {σ σ1 σ2 : q_S} (h : q_IN σ) (hA : q_AW q_W1 σ σ1) (h9 : σ1 17 9 = σ 17 9 + 1) (hM : q_MI σ2) (hF : q_MF q_V1 σ1 σ2) (h13 : σ2 100 13 = σ1 100 13 + 1) : q_IN σ2 := by
  obtain ⟨r1, r2, r3, r4⟩ := h.2.2
  have g : ∀ k i, q_cp k i → ¬ (k = 17 ∧ i = 9) → ¬ (k = 100 ∧ i = 13) → σ2 k i = σ k i := fun k i hc h1 h2 => (hF k i (fun e => e.elim (fun e => e.2 hc) h2)).trans (hA.1 k i (fun e => e.elim (fun e => e.2 hc) h1))
  refine ⟨fun k i => ?_, hM, fun i h0 h1 => ?_, ?_, fun i h0 h1 => ?_, ?_⟩
  · by_cases hk : 100 ≤ k
    · exact q_ok_m hk
    · rw [hF k i (fun e => e.elim (fun e => hk e.1) (fun e => hk (by omega)))]; exact hA.2 k i
  · rw [g 2 i (by unfold q_cp; omega) (by omega) (by omega), g 101 i (by unfold q_cp; omega) (by omega) (by omega)]; exact r1 i h0 h1
  · rw [h13, hF 17 9 (by unfold q_V1 q_V0; omega), h9, hA.1 100 13 (by unfold q_W1 q_W0; omega), r2]
  · rw [g 21 i (by unfold q_cp; omega) (by omega) (by omega), g 115 i (by unfold q_cp; omega) (by omega) (by omega)]; exact r3 i h0 h1
  · rw [g 27 2 (by unfold q_cp; omega) (by omega) (by omega), g 100 22 (by unfold q_cp; omega) (by omega) (by omega)]; exact r4
theorem q_INh {σ σ1 σ2 : q_S} (h : q_IN σ) (hA : q_AW q_W2 σ σ1) (h9 : σ1 27 2 = σ 27 2 + 1) (hM : q_MI σ2) (hF : q_MF q_V2 σ1 σ2) (h13 : σ2 100 22 = σ1 100 22 + 1) : q_IN σ2 := by
  obtain ⟨r1, r2, r3, r4⟩ := h.2.2
  have g : ∀ k i, q_cp k i → ¬ (k = 27 ∧ i = 2) → ¬ (k = 100 ∧ i = 22) → σ2 k i = σ k i := fun k i hc h1 h2 => (hF k i (fun e => e.elim (fun e => e.2 hc) h2)).trans (hA.1 k i (fun e => e.elim (fun e => e.2 hc) h1))
  refine ⟨fun k i => ?_, hM, fun i h0 h1 => ?_, ?_, fun i h0 h1 => ?_, ?_⟩
  · by_cases hk : 100 ≤ k
    · exact q_ok_m hk
    · rw [hF k i (fun e => e.elim (fun e => hk e.1) (fun e => hk (by omega)))]; exact hA.2 k i
  · rw [g 2 i (by unfold q_cp; omega) (by omega) (by omega), g 101 i (by unfold q_cp; omega) (by omega) (by omega)]; exact r1 i h0 h1
  · rw [g 17 9 (by unfold q_cp; omega) (by omega) (by omega), g 100 13 (by unfold q_cp; omega) (by omega) (by omega)]; exact r2
  · rw [g 21 i (by unfold q_cp; omega) (by omega) (by omega), g 115 i (by unfold q_cp; omega) (by omega) (by omega)]; exact r3 i h0 h1
  · rw [h13, hF 27 2 (by unfold q_V2 q_V0; omega), h9, hA.1 100 22 (by unfold q_W2 q_W0; omega), r4]
theorem q_INl {σ : q_S} {c n : Int} (h : q_IN σ) : q_IN (q_up (q_up σ 2 c n) 101 c n) := by
  obtain ⟨r1, r2, r3, r4⟩ := h.2.2
  refine ⟨(q_AWu (q_AWu (q_AW0 (W := fun _ _ => True) h) trivial (by unfold q_ok; omega)) trivial (q_ok_m (by decide))).2, q_MIc (fun k i hk => (q_un (by unfold q_rel at hk; omega)).trans (q_un (by unfold q_rel at hk; omega))) h.2.1, fun i h0 h1 => ?_, r2, r3, r4⟩
  rw [q_un (by decide)]
  by_cases e : i = c
  · rw [e, q_ue, q_ue]
  · rw [q_ui e, q_ui e, q_un (by decide)]; exact r1 i h0 h1
theorem q_INs {σ : q_S} {r n : Int} (h : q_IN σ) : q_IN (q_up (q_up σ 21 r n) 115 r n) := by
  obtain ⟨r1, r2, r3, r4⟩ := h.2.2
  refine ⟨(q_AWu (q_AWu (q_AW0 (W := fun _ _ => True) h) trivial (by unfold q_ok; omega)) trivial (q_ok_m (by decide))).2, q_MIc (fun k i hk => (q_un (by unfold q_rel at hk; omega)).trans (q_un (by unfold q_rel at hk; omega))) h.2.1, r1, r2, fun i h0 h1 => ?_, r4⟩
  rw [q_un (by decide)]
  by_cases e : i = r
  · rw [e, q_ue, q_ue]
  · rw [q_ui e, q_ui e, q_un (by decide)]; exact r3 i h0 h1
theorem q_INa1 {σ σ1 : q_S} (h : q_IN σ) (hA : q_AW q_W1 σ σ1) : q_MI σ1 := q_MIc (fun k i hk => hA.1 k i (by unfold q_W1 q_W0; unfold q_rel at hk; omega)) h.2.1
theorem q_INa2 {σ σ1 : q_S} (h : q_IN σ) (hA : q_AW q_W2 σ σ1) : q_MI σ1 := q_MIc (fun k i hk => hA.1 k i (by unfold q_W2 q_W0; unfold q_rel at hk; omega)) h.2.1
end P64
