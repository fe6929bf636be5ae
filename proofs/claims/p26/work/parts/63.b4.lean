theorem q_unn {σ : q_S} {k i v k' i' : Int} (h : ¬ (k' = k ∧ i' = i)) : q_up σ k i v k' i' = σ k' i' := by
  unfold q_up
  split
  · rename_i e
    rw [if_neg (fun e2 => h ⟨e, e2⟩)]
  · rfl
theorem q_srow_o {σ : q_S} {c f t p d k i : Int} (h : ¬ (107 ≤ k ∧ k ≤ 111)) : q_srow σ c f t p d k i = σ k i := by
  unfold q_srow
  rw [q_un (by omega), q_un (by omega), q_un (by omega), q_un (by omega), q_un (by omega)]
theorem q_srow_b {σ : q_S} {c f t p d k i : Int} (h : i ≠ σ 100 7) : q_srow σ c f t p d k i = σ k i := by
  unfold q_srow
  rw [q_ui h, q_ui h, q_ui h, q_ui h, q_ui h]
theorem q_srow_hof {σ : q_S} {c f t p d c1 o1 d1 : Int} (hs : 0 ≤ σ 100 7) : ∀ k : Nat, (k : Int) ≤ σ 100 7 → q_hof (q_srow σ c f t p d) c1 o1 d1 k = q_hof σ c1 o1 d1 k := fun k hk =>
  q_hof_cong k (fun j hj => ⟨q_srow_b (by omega), q_srow_b (by omega), q_srow_b (by omega), q_srow_b (by omega), fun _ => by rw [q_srow_b (by omega)]⟩)
theorem q_ISrow {σ : q_S} {c f t p d : Int} (hI : q_IS σ) : q_IS (q_srow σ c f t p d) := by
  obtain ⟨a, b, g⟩ := hI
  have e7 : q_srow σ c f t p d 100 7 = σ 100 7 := q_srow_o (by omega)
  refine ⟨by omega, fun j hj => ?_, fun k hk c1 o1 d1 => ?_⟩
  · rw [q_srow_b (k := 108) (by omega), q_srow_b (k := 109) (by omega), q_srow_b (k := 110) (by omega)]
    exact b j (by omega)
  · rw [q_srow_hof a.1 k (by omega)]
    exact g k (by omega) c1 o1 d1
theorem q_ISsell {σ : q_S} {c f t p d : Int} (hI : q_IS σ) (hf : 0 ≤ f ∧ f ≤ 7) (ht : 0 ≤ t ∧ t ≤ 7) (hp : 1 ≤ p ∧ p ≤ 12) (hs : σ 100 7 < 120)
    (hck : ∀ i : Nat, (i : Int) < σ 100 7 + 1 → q_srow σ c f t p d 107 i = c → 0 ≤ q_hof (q_srow σ c f t p d) c f (q_srow σ c f t p d 111 i) ((σ 100 7).toNat + 1)) : q_IS (q_up (q_srow σ c f t p d) 100 7 (σ 100 7 + 1)) := by
  obtain ⟨a, b, g⟩ := hI
  have v7 : q_srow σ c f t p d 107 (σ 100 7) = c := by unfold q_srow; rw [q_un (by decide), q_un (by decide), q_un (by decide), q_un (by decide), q_ue]
  have v8 : q_srow σ c f t p d 108 (σ 100 7) = f := by unfold q_srow; rw [q_un (by decide), q_un (by decide), q_un (by decide), q_ue]
  have v9 : q_srow σ c f t p d 109 (σ 100 7) = t := by unfold q_srow; rw [q_un (by decide), q_un (by decide), q_ue]
  have v10 : q_srow σ c f t p d 110 (σ 100 7) = p := by unfold q_srow; rw [q_un (by decide), q_ue]
  have en : (((σ 100 7).toNat : Nat) : Int) = σ 100 7 := by omega
  have e7 : q_up (q_srow σ c f t p d) 100 7 (σ 100 7 + 1) 100 7 = σ 100 7 + 1 := q_ue
  have hc : ∀ k i, 107 ≤ k ∧ k ≤ 111 → q_up (q_srow σ c f t p d) 100 7 (σ 100 7 + 1) k i = q_srow σ c f t p d k i := fun k i hk => q_un (by omega)
  refine ⟨by omega, fun j hj => ?_, fun k hk c1 o1 d1 => ?_⟩
  · rw [hc 108 _ (by omega), hc 109 _ (by omega), hc 110 _ (by omega)]
    by_cases e : (j : Int) = σ 100 7
    · rw [e, v8, v9, v10]; omega
    · rw [q_srow_b (k := 108) e, q_srow_b (k := 109) e, q_srow_b (k := 110) e]
      exact b j (by omega)
  · rw [q_hof_c hc]
    by_cases e : (k : Int) ≤ σ 100 7
    · rw [q_srow_hof a.1 k e]; exact g k e c1 o1 d1
    · have ek : k = (σ 100 7).toNat + 1 := by omega
      rw [ek]
      refine q_sellOK (from_ := f) (fun c2 o2 d2 => ?_) (by rw [en, v10]; omega) (by rw [en, v8]) (fun i hi h7 => ?_) c1 o1 d1
      · rw [q_srow_hof a.1 _ (by omega)]; exact g _ (by omega) c2 o2 d2
      · rw [en, v7] at h7 ⊢
        exact hck i (by omega) h7
section P63
variable {L : Nat} {xs : Int → Int}

theorem m_sell {c f t p d : Int} {σ : q_S} {K : q_R → q_S → Prop} (hI : q_MI σ) (hK : ∀ x σ', q_MI σ' → q_MF q_V0 σ σ' → K (some (0, x)) σ') : q_K L xs i_M_sell [(2, 100), (0, c), (0, f), (0, t), (0, p), (0, d)] σ K := by
  obtain ⟨a1, a2, a3, a4, a5, a6, a7, a8, a9, a10⟩ := id hI
  have hR : ∀ x, K (some (0, x)) σ := fun x => hK x σ hI (fun _ _ _ => rfl)
  refine c_M_sell a4 (fun _ => hR _) (fun _ => hR _) (fun _ => hR _) (fun hh => ?_) (fun hh hck => ?_)
  · have g : ∀ k i, q_rel k i → ¬ (107 ≤ k ∧ k ≤ 111) → q_srow σ c f t p d k i = σ k i := fun k i _ hk => q_srow_o hk
    exact hK _ _ ⟨(by rw [g 100 13 (by unfold q_rel; omega) (by omega)]; exact a1), (by rw [g 100 22 (by unfold q_rel; omega) (by omega)]; exact a2), (by rw [g 100 30 (by unfold q_rel; omega) (by omega)]; exact a3), (q_ISrow a4), (q_IC_c (fun k j hk => g k j (by unfold q_rel; omega) (by omega)) (g 100 31 (by unfold q_rel; omega) (by omega)) a5), (q_IF_c (fun j => g 119 j (by unfold q_rel; omega) (by omega)) (g 100 42 (by unfold q_rel; omega) (by omega)) (g 100 13 (by unfold q_rel; omega) (by omega)) a6), (fun i h0 h1 => by rw [g 114 i (by unfold q_rel; omega) (by omega)]; exact a7 i h0 h1), (fun i h0 h1 => by rw [g 112 i (by unfold q_rel; omega) (by omega)]; exact a8 i h0 h1), (fun i h0 h1 => by rw [g 120 i (by unfold q_rel; omega) (by omega)]; exact a9 i h0 h1), ⟨(fun i h0 h1 => by rw [g 142 i (by unfold q_rel; omega) (by omega)]; exact a10.1 i h0 h1), (fun i h0 h1 => by rw [g 143 i (by unfold q_rel; omega) (by omega)]; exact a10.2.1 i h0 h1), (fun i h0 h1 => by rw [g 144 i (by unfold q_rel; omega) (by omega)]; exact a10.2.2 i h0 h1)⟩⟩ (fun k i hk => q_srow_o (fun e => hk (by unfold q_V0 q_cp; omega)))
  · have g : ∀ k i, q_rel k i → (¬ (107 ≤ k ∧ k ≤ 111) ∧ ¬ (k = 100 ∧ i = 7)) → q_up (q_srow σ c f t p d) 100 7 (σ 100 7 + 1) k i = σ k i := fun k i _ hk => (q_unn hk.2).trans (q_srow_o hk.1)
    exact hK _ _ ⟨(by rw [g 100 13 (by unfold q_rel; omega) (by omega)]; exact a1), (by rw [g 100 22 (by unfold q_rel; omega) (by omega)]; exact a2), (by rw [g 100 30 (by unfold q_rel; omega) (by omega)]; exact a3), (q_ISsell a4 (by omega) (by omega) (by omega) (by omega) hck), (q_IC_c (fun k j hk => g k j (by unfold q_rel; omega) (by omega)) (g 100 31 (by unfold q_rel; omega) (by omega)) a5), (q_IF_c (fun j => g 119 j (by unfold q_rel; omega) (by omega)) (g 100 42 (by unfold q_rel; omega) (by omega)) (g 100 13 (by unfold q_rel; omega) (by omega)) a6), (fun i h0 h1 => by rw [g 114 i (by unfold q_rel; omega) (by omega)]; exact a7 i h0 h1), (fun i h0 h1 => by rw [g 112 i (by unfold q_rel; omega) (by omega)]; exact a8 i h0 h1), (fun i h0 h1 => by rw [g 120 i (by unfold q_rel; omega) (by omega)]; exact a9 i h0 h1), ⟨(fun i h0 h1 => by rw [g 142 i (by unfold q_rel; omega) (by omega)]; exact a10.1 i h0 h1), (fun i h0 h1 => by rw [g 143 i (by unfold q_rel; omega) (by omega)]; exact a10.2.1 i h0 h1), (fun i h0 h1 => by rw [g 144 i (by unfold q_rel; omega) (by omega)]; exact a10.2.2 i h0 h1)⟩⟩ (fun k i hk => (q_unn (fun e => hk (by unfold q_V0 q_cp; omega))).trans (q_srow_o (fun e => hk (by unfold q_V0 q_cp; omega))))

theorem m_gate {b c p : Int} {σ : q_S} {K : q_R → q_S → Prop} (hI : q_MI σ) (hK : ∀ x σ', q_MI σ' → q_MF q_V0 σ σ' → K (some (0, x)) σ') : q_K L xs i_M_gate [(2, 100), (0, b), (0, c), (0, p)] σ K := by
  obtain ⟨a1, a2, a3, a4, a5, a6, a7, a8, a9, a10⟩ := id hI
  have hR : ∀ x, K (some (0, x)) σ := fun x => hK x σ hI (fun _ _ _ => rfl)
  refine c_M_gate (fun x => hR x) (fun x k i v hk => hK _ _ (q_MIc (fun k' i' hk' => q_un (by unfold q_rel at hk'; omega)) hI) (fun k' i' hk' => q_un (fun e => hk' (by subst e; unfold q_V0 q_cp; omega))))

theorem m_pass {n : Int} {σ : q_S} {K : q_R → q_S → Prop} (hI : q_MI σ) (hK : ∀ x σ', q_MI σ' → q_MF q_V0 σ σ' → K (some (0, x)) σ') : q_K L xs i_M_pass [(2, 100), (0, n)] σ K := by
  obtain ⟨a1, a2, a3, a4, a5, a6, a7, a8, a9, a10⟩ := id hI
  have hR : ∀ x, K (some (0, x)) σ := fun x => hK x σ hI (fun _ _ _ => rfl)
  refine c_M_pass (fun _ => hR _) (fun _ => hR _) (fun _ => hK _ _ (q_MIc (fun k' i' hk' => q_unn (by unfold q_rel at hk'; omega)) hI) (fun k' i' hk' => q_unn (fun e => hk' (by unfold q_V0 q_cp; omega))))

theorem m_tide {h w r : Int} {σ : q_S} {K : q_R → q_S → Prop} (hI : q_MI σ) (hK : ∀ x σ', q_MI σ' → q_MF q_V0 σ σ' → K (some (0, x)) σ') : q_K L xs i_M_tide [(2, 100), (0, h), (0, w), (0, r)] σ K := by
  obtain ⟨a1, a2, a3, a4, a5, a6, a7, a8, a9, a10⟩ := id hI
  have hR : ∀ x, K (some (0, x)) σ := fun x => hK x σ hI (fun _ _ _ => rfl)
  refine c_M_tide ⟨a1, a2, a8⟩ ⟨fun _ _ _ => rfl, a7, a9⟩ (fun x σ' hT => ?_)
  have g : ∀ k i, q_rel k i → (k ≠ 114 ∧ k ≠ 120) → σ' k i = σ k i := fun k i hk h2 => hT.1 k i (by unfold q_rel at hk; unfold q_okT; omega)
  exact hK _ _ ⟨(by rw [g 100 13 (by unfold q_rel; omega) (by omega)]; exact a1), (by rw [g 100 22 (by unfold q_rel; omega) (by omega)]; exact a2), (by rw [g 100 30 (by unfold q_rel; omega) (by omega)]; exact a3), (q_IS_c (fun k j hk => g k j (by unfold q_rel; omega) (by omega)) (g 100 7 (by unfold q_rel; omega) (by omega)) a4), (q_IC_c (fun k j hk => g k j (by unfold q_rel; omega) (by omega)) (g 100 31 (by unfold q_rel; omega) (by omega)) a5), (q_IF_c (fun j => g 119 j (by unfold q_rel; omega) (by omega)) (g 100 42 (by unfold q_rel; omega) (by omega)) (g 100 13 (by unfold q_rel; omega) (by omega)) a6), hT.2.1, (fun i h0 h1 => by rw [g 112 i (by unfold q_rel; omega) (by omega)]; exact a8 i h0 h1), hT.2.2, ⟨(fun i h0 h1 => by rw [g 142 i (by unfold q_rel; omega) (by omega)]; exact a10.1 i h0 h1), (fun i h0 h1 => by rw [g 143 i (by unfold q_rel; omega) (by omega)]; exact a10.2.1 i h0 h1), (fun i h0 h1 => by rw [g 144 i (by unfold q_rel; omega) (by omega)]; exact a10.2.2 i h0 h1)⟩⟩ (fun k i hk => hT.1 k i (fun e => hk (by unfold q_okT at e; unfold q_V0 q_cp; omega)))

theorem m_mend {r w n : Int} {σ : q_S} {K : q_R → q_S → Prop} (hI : q_MI σ) (hK : ∀ x σ', q_MI σ' → q_MF q_V0 σ σ' → K (some (0, x)) σ') : q_K L xs i_M_mend [(2, 100), (0, r), (0, w), (0, n)] σ K := by
  obtain ⟨a1, a2, a3, a4, a5, a6, a7, a8, a9, a10⟩ := id hI
  have hR : ∀ x, K (some (0, x)) σ := fun x => hK x σ hI (fun _ _ _ => rfl)
  refine c_M_mend a1 a7 (fun i h0 h1 => by have := a6.2 i h0 h1; have := a6.1; omega) (fun _ => hR _) (fun _ => hR _) (fun hh h9 => ?_) (fun hh h9 => ?_)
  · have g : ∀ k i, q_rel k i → k ≠ 114 → q_up (q_up σ 114 r (σ 114 r + n)) 139 w (q_w32 (σ 139 w + n)) k i = σ k i := fun k i hk h2 => (q_un (by unfold q_rel at hk; omega)).trans (q_un h2)
    refine hK _ _ ⟨(by rw [g 100 13 (by unfold q_rel; omega) (by omega)]; exact a1), (by rw [g 100 22 (by unfold q_rel; omega) (by omega)]; exact a2), (by rw [g 100 30 (by unfold q_rel; omega) (by omega)]; exact a3), (q_IS_c (fun k j hk => g k j (by unfold q_rel; omega) (by omega)) (g 100 7 (by unfold q_rel; omega) (by omega)) a4), (q_IC_c (fun k j hk => g k j (by unfold q_rel; omega) (by omega)) (g 100 31 (by unfold q_rel; omega) (by omega)) a5), (q_IF_c (fun j => g 119 j (by unfold q_rel; omega) (by omega)) (g 100 42 (by unfold q_rel; omega) (by omega)) (g 100 13 (by unfold q_rel; omega) (by omega)) a6), (fun i h0 h1 => ?_), (fun i h0 h1 => by rw [g 112 i (by unfold q_rel; omega) (by omega)]; exact a8 i h0 h1), (fun i h0 h1 => by rw [g 120 i (by unfold q_rel; omega) (by omega)]; exact a9 i h0 h1), ⟨(fun i h0 h1 => by rw [g 142 i (by unfold q_rel; omega) (by omega)]; exact a10.1 i h0 h1), (fun i h0 h1 => by rw [g 143 i (by unfold q_rel; omega) (by omega)]; exact a10.2.1 i h0 h1), (fun i h0 h1 => by rw [g 144 i (by unfold q_rel; omega) (by omega)]; exact a10.2.2 i h0 h1)⟩⟩ (fun k i hk => (q_un (fun e => hk (by unfold q_V0 q_cp; omega))).trans (q_un (fun e => hk (by unfold q_V0 q_cp; omega))))
    rw [q_un (by decide)]
    unfold q_up
    rw [if_pos rfl]
    split
    · have := a7 r (by omega) (by omega); omega
    · exact a7 i h0 h1
  · have g : ∀ k i, q_rel k i → (k ≠ 114 ∧ k ≠ 119) → q_up (q_up (q_up (q_up σ 114 r (σ 114 r + n)) 139 w (q_w32 (σ 139 w + n))) 135 (σ 119 r) (σ 100 25)) 119 r (-1) k i = σ k i := fun k i hk h2 => (q_un h2.2).trans ((q_un (by unfold q_rel at hk; omega)).trans ((q_un (by unfold q_rel at hk; omega)).trans (q_un h2.1)))
    refine hK _ _ ⟨(by rw [g 100 13 (by unfold q_rel; omega) (by omega)]; exact a1), (by rw [g 100 22 (by unfold q_rel; omega) (by omega)]; exact a2), (by rw [g 100 30 (by unfold q_rel; omega) (by omega)]; exact a3), (q_IS_c (fun k j hk => g k j (by unfold q_rel; omega) (by omega)) (g 100 7 (by unfold q_rel; omega) (by omega)) a4), (q_IC_c (fun k j hk => g k j (by unfold q_rel; omega) (by omega)) (g 100 31 (by unfold q_rel; omega) (by omega)) a5), ⟨by rw [g 100 42 (by unfold q_rel; omega) (by omega)]; exact a6.1, fun i h0 h1 => ?_⟩, (fun i h0 h1 => ?_), (fun i h0 h1 => by rw [g 112 i (by unfold q_rel; omega) (by omega)]; exact a8 i h0 h1), (fun i h0 h1 => by rw [g 120 i (by unfold q_rel; omega) (by omega)]; exact a9 i h0 h1), ⟨(fun i h0 h1 => by rw [g 142 i (by unfold q_rel; omega) (by omega)]; exact a10.1 i h0 h1), (fun i h0 h1 => by rw [g 143 i (by unfold q_rel; omega) (by omega)]; exact a10.2.1 i h0 h1), (fun i h0 h1 => by rw [g 144 i (by unfold q_rel; omega) (by omega)]; exact a10.2.2 i h0 h1)⟩⟩ (fun k i hk => (q_un (fun e => hk (by unfold q_V0 q_cp; omega))).trans ((q_un (fun e => hk (by unfold q_V0 q_cp; omega))).trans ((q_un (fun e => hk (by unfold q_V0 q_cp; omega))).trans (q_un (fun e => hk (by unfold q_V0 q_cp; omega))))))
    · rw [g 100 13 (by unfold q_rel; omega) (by omega)] at h1
      rw [g 100 42 (by unfold q_rel; omega) (by omega)]
      have := a6.2 i h0 h1
      have := a6.1
      unfold q_up
      rw [if_pos rfl]
      split
      · omega
      · rw [if_neg (by decide), if_neg (by decide), if_neg (by decide)]; exact a6.2 i h0 h1
    · rw [q_un (by decide), q_un (by decide), q_un (by decide)]
      unfold q_up
      rw [if_pos rfl]
      split
      · have := a7 r (by omega) (by omega); omega
      · exact a7 i h0 h1

theorem m_court {d : Int} {σ : q_S} {K : q_R → q_S → Prop} (hI : q_MI σ) (hK : ∀ x σ', q_MI σ' → q_MF q_V0 σ σ' → K (some (0, x)) σ') : q_K L xs i_M_court [(2, 100), (0, d)] σ K := by
  obtain ⟨a1, a2, a3, a4, a5, a6, a7, a8, a9, a10⟩ := id hI
  have hR : ∀ x, K (some (0, x)) σ := fun x => hK x σ hI (fun _ _ _ => rfl)
  refine c_M_court a5.1 a10 a3 a5.2.2.2 a5.2.2.1 (fun _ => hR _) (fun _ => hR _) (fun hh σ' n' hS hn hw => ?_) (fun hh σ' n' hS hn hw => ?_)
  · obtain ⟨s1, s2, s3, s4, s5, s6, s7⟩ := hS
    have g : ∀ k i, q_rel k i → (k ≠ 124 ∧ ¬ (128 ≤ k ∧ k ≤ 130) ∧ ¬ (k = 100 ∧ i = 30)) → q_up σ' 100 30 0 k i = σ k i := fun k i hk h2 => (q_unn h2.2.2).trans (s1 k i (by unfold q_rel at hk; omega) (by unfold q_rel at hk; omega))
    refine hK _ _ ⟨(by rw [g 100 13 (by unfold q_rel; omega) (by omega)]; exact a1), (by rw [g 100 22 (by unfold q_rel; omega) (by omega)]; exact a2), (by rw [q_ue]; omega), (q_IS_c (fun k j hk => g k j (by unfold q_rel; omega) (by omega)) (g 100 7 (by unfold q_rel; omega) (by omega)) a4), ⟨by rw [g 100 31 (by unfold q_rel; omega) (by omega)]; exact a5.1, fun c h0 h1 => ?_, fun j => by rw [q_un (by decide), q_un (by decide)]; exact s5 j, fun c h0 h1 => by rw [q_un (by decide)]; exact s4 c h0 h1⟩, (q_IF_c (fun j => g 119 j (by unfold q_rel; omega) (by omega)) (g 100 42 (by unfold q_rel; omega) (by omega)) (g 100 13 (by unfold q_rel; omega) (by omega)) a6), (fun i h0 h1 => by rw [g 114 i (by unfold q_rel; omega) (by omega)]; exact a7 i h0 h1), (fun i h0 h1 => by rw [g 112 i (by unfold q_rel; omega) (by omega)]; exact a8 i h0 h1), (fun i h0 h1 => by rw [g 120 i (by unfold q_rel; omega) (by omega)]; exact a9 i h0 h1), ⟨(fun i h0 h1 => by rw [g 142 i (by unfold q_rel; omega) (by omega)]; exact a10.1 i h0 h1), (fun i h0 h1 => by rw [g 143 i (by unfold q_rel; omega) (by omega)]; exact a10.2.1 i h0 h1), (fun i h0 h1 => by rw [g 144 i (by unfold q_rel; omega) (by omega)]; exact a10.2.2 i h0 h1)⟩⟩ (fun k i hk => (q_unn (fun e => hk (by unfold q_V0 q_cp; omega))).trans (s1 k i (fun e => hk (by unfold q_V0 q_cp; omega)) (fun e => hk (by unfold q_V0 q_cp; omega))))
    rw [q_un (by decide)]
    by_cases e : c = σ 100 31
    · rw [e, s7]; exact hn
    · rw [s6 c e]; exact a5.2.1 c h0 h1
  · obtain ⟨s1, s2, s3, s4, s5, s6, s7⟩ := hS
    have g : ∀ k i, q_rel k i → (k ≠ 124 ∧ ¬ (128 ≤ k ∧ k ≤ 130) ∧ ¬ (k = 100 ∧ i = 30) ∧ ¬ (k = 100 ∧ i = 31)) → q_up (q_up (q_up σ' 100 30 0) 123 (σ 100 31) d) 100 31 (σ 100 31 + 1) k i = σ k i := fun k i hk h2 => (q_unn h2.2.2.2).trans ((q_un (by unfold q_rel at hk; omega)).trans ((q_unn h2.2.2.1).trans (s1 k i (by unfold q_rel at hk; omega) (by unfold q_rel at hk; omega))))
    refine hK _ _ ⟨(by rw [g 100 13 (by unfold q_rel; omega) (by omega)]; exact a1), (by rw [g 100 22 (by unfold q_rel; omega) (by omega)]; exact a2), (by rw [q_unn (by omega), q_un (by decide), q_ue]; omega), (q_IS_c (fun k j hk => g k j (by unfold q_rel; omega) (by omega)) (g 100 7 (by unfold q_rel; omega) (by omega)) a4), ⟨by rw [q_ue]; have := a5.1; omega, fun c h0 h1 => ?_, fun j => by rw [q_un (by decide), q_un (by decide), q_un (by decide), q_un (by decide), q_un (by decide), q_un (by decide)]; exact s5 j, fun c h0 h1 => by rw [q_un (by decide), q_un (by decide), q_un (by decide)]; exact s4 c h0 h1⟩, (q_IF_c (fun j => g 119 j (by unfold q_rel; omega) (by omega)) (g 100 42 (by unfold q_rel; omega) (by omega)) (g 100 13 (by unfold q_rel; omega) (by omega)) a6), (fun i h0 h1 => by rw [g 114 i (by unfold q_rel; omega) (by omega)]; exact a7 i h0 h1), (fun i h0 h1 => by rw [g 112 i (by unfold q_rel; omega) (by omega)]; exact a8 i h0 h1), (fun i h0 h1 => by rw [g 120 i (by unfold q_rel; omega) (by omega)]; exact a9 i h0 h1), ⟨(fun i h0 h1 => by rw [g 142 i (by unfold q_rel; omega) (by omega)]; exact a10.1 i h0 h1), (fun i h0 h1 => by rw [g 143 i (by unfold q_rel; omega) (by omega)]; exact a10.2.1 i h0 h1), (fun i h0 h1 => by rw [g 144 i (by unfold q_rel; omega) (by omega)]; exact a10.2.2 i h0 h1)⟩⟩ (fun k i hk => (q_unn (fun e => hk (by unfold q_V0 q_cp; omega))).trans ((q_un (fun e => hk (by unfold q_V0 q_cp; omega))).trans ((q_unn (fun e => hk (by unfold q_V0 q_cp; omega))).trans (s1 k i (fun e => hk (by unfold q_V0 q_cp; omega)) (fun e => hk (by unfold q_V0 q_cp; omega))))))
    rw [q_un (by decide), q_un (by decide), q_un (by decide)]
    by_cases e : c = σ 100 31
    · rw [e, s7]; exact hn
    · rw [s6 c e]; exact a5.2.1 c h0 h1

end P63
