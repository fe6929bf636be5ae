section P83
variable {L : Nat} {xs : Int → Int}

set_option maxRecDepth 100000 in
theorem l_cs_0 {i : Int} {σ : q_S} {K : q_R → q_S → Prop} {Q : q_S → Prop} (hL : L ≤ 3072) (hi : 0 ≤ i ∧ i + 6 ≤ L) (H : ∀ a b : Int, q_P2 L xs i_A_level [(2, 0), (0, a), (0, b)] i_M_level [(2, 100), (0, a), (0, b)] σ (fun _ _ σ2 => Q σ2)) (hN : ∀ σ', Q σ' → q_E L xs k_law_law (805, [(4, 0), (2, 0), (2, 100), (0, i)], [], σ') K) : q_E L xs k_law_law (22, [(4, 0), (2, 0), (2, 100), (0, i)], [], σ) K := by
  have e1 : q_w32 (i + 1) = i + 1 := by rw [q_w32_id] <;> omega
  have e2 : q_w32 (i + 2) = i + 2 := by rw [q_w32_id] <;> omega
  have e3 : q_w32 (i + 3) = i + 3 := by rw [q_w32_id] <;> omega
  have e4 : q_w32 (i + 4) = i + 4 := by rw [q_w32_id] <;> omega
  have e5 : q_w32 (i + 5) = i + 5 := by rw [q_w32_id] <;> omega
  refine q_go1 200 22 [805] (fun cl ev hcl hev => ?_)
  refine And.intro (by omega) ?_
  refine And.intro (by omega) ?_
  show cl _ _ _ _
  refine hcl _ _ _ _ (q_Kw (H _ _) (fun r σ1 hA => ?_))
  obtain ⟨x, e, hB⟩ := hA
  subst e
  refine And.intro (by omega) ?_
  refine And.intro (by omega) ?_
  show cl _ _ _ _
  refine hcl _ _ _ _ (q_Kw hB (fun r2 σ2 hC => ?_))
  obtain ⟨y, e2, hD⟩ := hC
  subst e2
  exact hev _ (hN _ hD)

set_option maxRecDepth 100000 in
theorem l_cs_1 {i : Int} {σ : q_S} {K : q_R → q_S → Prop} {Q : q_S → Prop} (hL : L ≤ 3072) (hi : 0 ≤ i ∧ i + 6 ≤ L) (H : ∀ a b : Int, q_P2 L xs i_A_cell [(2, 0), (0, a), (0, b)] i_M_cell [(2, 100), (0, a), (0, b)] σ (fun _ _ σ2 => Q σ2)) (hN : ∀ σ', Q σ' → q_E L xs k_law_law (805, [(4, 0), (2, 0), (2, 100), (0, i)], [], σ') K) : q_E L xs k_law_law (49, [(4, 0), (2, 0), (2, 100), (0, i)], [], σ) K := by
  have e1 : q_w32 (i + 1) = i + 1 := by rw [q_w32_id] <;> omega
  have e2 : q_w32 (i + 2) = i + 2 := by rw [q_w32_id] <;> omega
  have e3 : q_w32 (i + 3) = i + 3 := by rw [q_w32_id] <;> omega
  have e4 : q_w32 (i + 4) = i + 4 := by rw [q_w32_id] <;> omega
  have e5 : q_w32 (i + 5) = i + 5 := by rw [q_w32_id] <;> omega
  refine q_go1 200 49 [805] (fun cl ev hcl hev => ?_)
  refine And.intro (by omega) ?_
  refine And.intro (by omega) ?_
  show cl _ _ _ _
  refine hcl _ _ _ _ (q_Kw (H _ _) (fun r σ1 hA => ?_))
  obtain ⟨x, e, hB⟩ := hA
  subst e
  refine And.intro (by omega) ?_
  refine And.intro (by omega) ?_
  show cl _ _ _ _
  refine hcl _ _ _ _ (q_Kw hB (fun r2 σ2 hC => ?_))
  obtain ⟨y, e2, hD⟩ := hC
  subst e2
  exact hev _ (hN _ hD)

set_option maxRecDepth 100000 in
theorem l_cs_2 {i : Int} {σ : q_S} {K : q_R → q_S → Prop} {Q : q_S → Prop} (hL : L ≤ 3072) (hi : 0 ≤ i ∧ i + 6 ≤ L) (H : ∀ a b c d e : Int, q_P2 L xs i_A_sell [(2, 0), (0, a), (0, b), (0, c), (0, d), (0, e)] i_M_sell [(2, 100), (0, a), (0, b), (0, c), (0, d), (0, e)] σ (fun _ _ σ2 => Q σ2)) (hN : ∀ σ', Q σ' → q_E L xs k_law_law (805, [(4, 0), (2, 0), (2, 100), (0, i)], [], σ') K) : q_E L xs k_law_law (76, [(4, 0), (2, 0), (2, 100), (0, i)], [], σ) K := by
  have e1 : q_w32 (i + 1) = i + 1 := by rw [q_w32_id] <;> omega
  have e2 : q_w32 (i + 2) = i + 2 := by rw [q_w32_id] <;> omega
  have e3 : q_w32 (i + 3) = i + 3 := by rw [q_w32_id] <;> omega
  have e4 : q_w32 (i + 4) = i + 4 := by rw [q_w32_id] <;> omega
  have e5 : q_w32 (i + 5) = i + 5 := by rw [q_w32_id] <;> omega
  refine q_go1 200 76 [805] (fun cl ev hcl hev => ?_)
  refine And.intro (by omega) ?_
  refine And.intro (by omega) ?_
  refine And.intro (by omega) ?_
  refine And.intro (by omega) ?_
  refine And.intro (by omega) ?_
  show cl _ _ _ _
  refine hcl _ _ _ _ (q_Kw (H _ _ _ _ _) (fun r σ1 hA => ?_))
  obtain ⟨x, e, hB⟩ := hA
  subst e
  refine And.intro (by omega) ?_
  refine And.intro (by omega) ?_
  refine And.intro (by omega) ?_
  refine And.intro (by omega) ?_
  refine And.intro (by omega) ?_
  show cl _ _ _ _
  refine hcl _ _ _ _ (q_Kw hB (fun r2 σ2 hC => ?_))
  obtain ⟨y, e2, hD⟩ := hC
  subst e2
  exact hev _ (hN _ hD)

set_option maxRecDepth 100000 in
theorem l_cs_3 {i : Int} {σ : q_S} {K : q_R → q_S → Prop} {Q : q_S → Prop} (hL : L ≤ 3072) (hi : 0 ≤ i ∧ i + 6 ≤ L) (H : ∀ a b c d : Int, q_P2 L xs i_A_held [(2, 0), (0, a), (0, b), (0, c), (0, d)] i_M_held [(2, 100), (0, a), (0, b), (0, c), (0, d)] σ (fun _ _ σ2 => Q σ2)) (hN : ∀ σ', Q σ' → q_E L xs k_law_law (805, [(4, 0), (2, 0), (2, 100), (0, i)], [], σ') K) : q_E L xs k_law_law (133, [(4, 0), (2, 0), (2, 100), (0, i)], [], σ) K := by
  have e1 : q_w32 (i + 1) = i + 1 := by rw [q_w32_id] <;> omega
  have e2 : q_w32 (i + 2) = i + 2 := by rw [q_w32_id] <;> omega
  have e3 : q_w32 (i + 3) = i + 3 := by rw [q_w32_id] <;> omega
  have e4 : q_w32 (i + 4) = i + 4 := by rw [q_w32_id] <;> omega
  have e5 : q_w32 (i + 5) = i + 5 := by rw [q_w32_id] <;> omega
  refine q_go1 200 133 [805] (fun cl ev hcl hev => ?_)
  refine And.intro (by omega) ?_
  refine And.intro (by omega) ?_
  refine And.intro (by omega) ?_
  refine And.intro (by omega) ?_
  show cl _ _ _ _
  refine hcl _ _ _ _ (q_Kw (H _ _ _ _) (fun r σ1 hA => ?_))
  obtain ⟨x, e, hB⟩ := hA
  subst e
  refine And.intro (by omega) ?_
  refine And.intro (by omega) ?_
  refine And.intro (by omega) ?_
  refine And.intro (by omega) ?_
  show cl _ _ _ _
  refine hcl _ _ _ _ (q_Kw hB (fun r2 σ2 hC => ?_))
  obtain ⟨y, e2, hD⟩ := hC
  subst e2
  exact hev _ (hN _ hD)

set_option maxRecDepth 100000 in
theorem l_cs_4 {i : Int} {σ : q_S} {K : q_R → q_S → Prop} {Q : q_S → Prop} (hL : L ≤ 3072) (hi : 0 ≤ i ∧ i + 6 ≤ L) (H : ∀ a b c : Int, q_P2 L xs i_A_rod [(2, 0), (0, a), (0, b), (0, c)] i_M_rod [(2, 100), (0, a), (0, b), (0, c)] σ (fun _ _ σ2 => Q σ2)) (hN : ∀ σ', Q σ' → q_E L xs k_law_law (805, [(4, 0), (2, 0), (2, 100), (0, i)], [], σ') K) : q_E L xs k_law_law (180, [(4, 0), (2, 0), (2, 100), (0, i)], [], σ) K := by
  have e1 : q_w32 (i + 1) = i + 1 := by rw [q_w32_id] <;> omega
  have e2 : q_w32 (i + 2) = i + 2 := by rw [q_w32_id] <;> omega
  have e3 : q_w32 (i + 3) = i + 3 := by rw [q_w32_id] <;> omega
  have e4 : q_w32 (i + 4) = i + 4 := by rw [q_w32_id] <;> omega
  have e5 : q_w32 (i + 5) = i + 5 := by rw [q_w32_id] <;> omega
  refine q_go1 200 180 [805] (fun cl ev hcl hev => ?_)
  refine And.intro (by omega) ?_
  refine And.intro (by omega) ?_
  refine And.intro (by omega) ?_
  show cl _ _ _ _
  refine hcl _ _ _ _ (q_Kw (H _ _ _) (fun r σ1 hA => ?_))
  obtain ⟨x, e, hB⟩ := hA
  subst e
  refine And.intro (by omega) ?_
  refine And.intro (by omega) ?_
  refine And.intro (by omega) ?_
  show cl _ _ _ _
  refine hcl _ _ _ _ (q_Kw hB (fun r2 σ2 hC => ?_))
  obtain ⟨y, e2, hD⟩ := hC
  subst e2
  exact hev _ (hN _ hD)

set_option maxRecDepth 100000 in
theorem l_cs_5 {i : Int} {σ : q_S} {K : q_R → q_S → Prop} {Q : q_S → Prop} (hL : L ≤ 3072) (hi : 0 ≤ i ∧ i + 6 ≤ L) (H : ∀ a b : Int, q_P2 L xs i_A_sluice [(2, 0), (0, a), (0, b)] i_M_sluice [(2, 100), (0, a), (0, b)] σ (fun _ _ σ2 => Q σ2)) (hN : ∀ σ', Q σ' → q_E L xs k_law_law (805, [(4, 0), (2, 0), (2, 100), (0, i)], [], σ') K) : q_E L xs k_law_law (217, [(4, 0), (2, 0), (2, 100), (0, i)], [], σ) K := by
  have e1 : q_w32 (i + 1) = i + 1 := by rw [q_w32_id] <;> omega
  have e2 : q_w32 (i + 2) = i + 2 := by rw [q_w32_id] <;> omega
  have e3 : q_w32 (i + 3) = i + 3 := by rw [q_w32_id] <;> omega
  have e4 : q_w32 (i + 4) = i + 4 := by rw [q_w32_id] <;> omega
  have e5 : q_w32 (i + 5) = i + 5 := by rw [q_w32_id] <;> omega
  refine q_go1 200 217 [805] (fun cl ev hcl hev => ?_)
  refine And.intro (by omega) ?_
  refine And.intro (by omega) ?_
  show cl _ _ _ _
  refine hcl _ _ _ _ (q_Kw (H _ _) (fun r σ1 hA => ?_))
  obtain ⟨x, e, hB⟩ := hA
  subst e
  refine And.intro (by omega) ?_
  refine And.intro (by omega) ?_
  show cl _ _ _ _
  refine hcl _ _ _ _ (q_Kw hB (fun r2 σ2 hC => ?_))
  obtain ⟨y, e2, hD⟩ := hC
  subst e2
  exact hev _ (hN _ hD)

set_option maxRecDepth 100000 in
theorem l_cs_6 {i : Int} {σ : q_S} {K : q_R → q_S → Prop} {Q : q_S → Prop} (hL : L ≤ 3072) (hi : 0 ≤ i ∧ i + 6 ≤ L) (H : ∀ a b : Int, q_P2 L xs i_A_about [(2, 0), (0, a), (0, b)] i_M_about [(2, 100), (0, a), (0, b)] σ (fun _ _ σ2 => Q σ2)) (hN : ∀ σ', Q σ' → q_E L xs k_law_law (805, [(4, 0), (2, 0), (2, 100), (0, i)], [], σ') K) : q_E L xs k_law_law (244, [(4, 0), (2, 0), (2, 100), (0, i)], [], σ) K := by
  have e1 : q_w32 (i + 1) = i + 1 := by rw [q_w32_id] <;> omega
  have e2 : q_w32 (i + 2) = i + 2 := by rw [q_w32_id] <;> omega
  have e3 : q_w32 (i + 3) = i + 3 := by rw [q_w32_id] <;> omega
  have e4 : q_w32 (i + 4) = i + 4 := by rw [q_w32_id] <;> omega
  have e5 : q_w32 (i + 5) = i + 5 := by rw [q_w32_id] <;> omega
  refine q_go1 200 244 [805] (fun cl ev hcl hev => ?_)
  refine And.intro (by omega) ?_
  refine And.intro (by omega) ?_
  show cl _ _ _ _
  refine hcl _ _ _ _ (q_Kw (H _ _) (fun r σ1 hA => ?_))
  obtain ⟨x, e, hB⟩ := hA
  subst e
  refine And.intro (by omega) ?_
  refine And.intro (by omega) ?_
  show cl _ _ _ _
  refine hcl _ _ _ _ (q_Kw hB (fun r2 σ2 hC => ?_))
  obtain ⟨y, e2, hD⟩ := hC
  subst e2
  exact hev _ (hN _ hD)

set_option maxRecDepth 100000 in
theorem l_cs_7 {i : Int} {σ : q_S} {K : q_R → q_S → Prop} {Q : q_S → Prop} (hL : L ≤ 3072) (hi : 0 ≤ i ∧ i + 6 ≤ L) (H : ∀ a b c : Int, q_P2 L xs i_A_gate [(2, 0), (0, a), (0, b), (0, c)] i_M_gate [(2, 100), (0, a), (0, b), (0, c)] σ (fun _ _ σ2 => Q σ2)) (hN : ∀ σ', Q σ' → q_E L xs k_law_law (805, [(4, 0), (2, 0), (2, 100), (0, i)], [], σ') K) : q_E L xs k_law_law (271, [(4, 0), (2, 0), (2, 100), (0, i)], [], σ) K := by
  have e1 : q_w32 (i + 1) = i + 1 := by rw [q_w32_id] <;> omega
  have e2 : q_w32 (i + 2) = i + 2 := by rw [q_w32_id] <;> omega
  have e3 : q_w32 (i + 3) = i + 3 := by rw [q_w32_id] <;> omega
  have e4 : q_w32 (i + 4) = i + 4 := by rw [q_w32_id] <;> omega
  have e5 : q_w32 (i + 5) = i + 5 := by rw [q_w32_id] <;> omega
  refine q_go1 200 271 [805] (fun cl ev hcl hev => ?_)
  refine And.intro (by omega) ?_
  refine And.intro (by omega) ?_
  refine And.intro (by omega) ?_
  show cl _ _ _ _
  refine hcl _ _ _ _ (q_Kw (H _ _ _) (fun r σ1 hA => ?_))
  obtain ⟨x, e, hB⟩ := hA
  subst e
  refine And.intro (by omega) ?_
  refine And.intro (by omega) ?_
  refine And.intro (by omega) ?_
  show cl _ _ _ _
  refine hcl _ _ _ _ (q_Kw hB (fun r2 σ2 hC => ?_))
  obtain ⟨y, e2, hD⟩ := hC
  subst e2
  exact hev _ (hN _ hD)

set_option maxRecDepth 100000 in
theorem l_cs_8 {i : Int} {σ : q_S} {K : q_R → q_S → Prop} {Q : q_S → Prop} (hL : L ≤ 3072) (hi : 0 ≤ i ∧ i + 6 ≤ L) (H : ∀ a : Int, q_P2 L xs i_A_herd [(2, 0), (0, a)] i_M_herd [(2, 100), (0, a)] σ (fun _ _ σ2 => Q σ2)) (hN : ∀ σ', Q σ' → q_E L xs k_law_law (805, [(4, 0), (2, 0), (2, 100), (0, i)], [], σ') K) : q_E L xs k_law_law (308, [(4, 0), (2, 0), (2, 100), (0, i)], [], σ) K := by
  have e1 : q_w32 (i + 1) = i + 1 := by rw [q_w32_id] <;> omega
  have e2 : q_w32 (i + 2) = i + 2 := by rw [q_w32_id] <;> omega
  have e3 : q_w32 (i + 3) = i + 3 := by rw [q_w32_id] <;> omega
  have e4 : q_w32 (i + 4) = i + 4 := by rw [q_w32_id] <;> omega
  have e5 : q_w32 (i + 5) = i + 5 := by rw [q_w32_id] <;> omega
  refine q_go1 200 308 [805] (fun cl ev hcl hev => ?_)
  refine And.intro (by omega) ?_
  show cl _ _ _ _
  refine hcl _ _ _ _ (q_Kw (H _) (fun r σ1 hA => ?_))
  obtain ⟨x, e, hB⟩ := hA
  subst e
  refine And.intro (by omega) ?_
  show cl _ _ _ _
  refine hcl _ _ _ _ (q_Kw hB (fun r2 σ2 hC => ?_))
  obtain ⟨y, e2, hD⟩ := hC
  subst e2
  exact hev _ (hN _ hD)

set_option maxRecDepth 100000 in
theorem l_cs_9 {i : Int} {σ : q_S} {K : q_R → q_S → Prop} {Q : q_S → Prop} (hL : L ≤ 3072) (hi : 0 ≤ i ∧ i + 6 ≤ L) (H : ∀ a b : Int, q_P2 L xs i_A_drive [(2, 0), (0, a), (0, b)] i_M_drive [(2, 100), (0, a), (0, b)] σ (fun _ _ σ2 => Q σ2)) (hN : ∀ σ', Q σ' → q_E L xs k_law_law (805, [(4, 0), (2, 0), (2, 100), (0, i)], [], σ') K) : q_E L xs k_law_law (325, [(4, 0), (2, 0), (2, 100), (0, i)], [], σ) K := by
  have e1 : q_w32 (i + 1) = i + 1 := by rw [q_w32_id] <;> omega
  have e2 : q_w32 (i + 2) = i + 2 := by rw [q_w32_id] <;> omega
  have e3 : q_w32 (i + 3) = i + 3 := by rw [q_w32_id] <;> omega
  have e4 : q_w32 (i + 4) = i + 4 := by rw [q_w32_id] <;> omega
  have e5 : q_w32 (i + 5) = i + 5 := by rw [q_w32_id] <;> omega
  refine q_go1 200 325 [805] (fun cl ev hcl hev => ?_)
  refine And.intro (by omega) ?_
  refine And.intro (by omega) ?_
  show cl _ _ _ _
  refine hcl _ _ _ _ (q_Kw (H _ _) (fun r σ1 hA => ?_))
  obtain ⟨x, e, hB⟩ := hA
  subst e
  refine And.intro (by omega) ?_
  refine And.intro (by omega) ?_
  show cl _ _ _ _
  refine hcl _ _ _ _ (q_Kw hB (fun r2 σ2 hC => ?_))
  obtain ⟨y, e2, hD⟩ := hC
  subst e2
  exact hev _ (hN _ hD)

set_option maxRecDepth 100000 in
theorem l_cs_10 {i : Int} {σ : q_S} {K : q_R → q_S → Prop} {Q : q_S → Prop} (hL : L ≤ 3072) (hi : 0 ≤ i ∧ i + 6 ≤ L) (H : ∀ a : Int, q_P2 L xs i_A_where [(2, 0), (0, a)] i_M_where [(2, 100), (0, a)] σ (fun _ _ σ2 => Q σ2)) (hN : ∀ σ', Q σ' → q_E L xs k_law_law (805, [(4, 0), (2, 0), (2, 100), (0, i)], [], σ') K) : q_E L xs k_law_law (352, [(4, 0), (2, 0), (2, 100), (0, i)], [], σ) K := by
  have e1 : q_w32 (i + 1) = i + 1 := by rw [q_w32_id] <;> omega
  have e2 : q_w32 (i + 2) = i + 2 := by rw [q_w32_id] <;> omega
  have e3 : q_w32 (i + 3) = i + 3 := by rw [q_w32_id] <;> omega
  have e4 : q_w32 (i + 4) = i + 4 := by rw [q_w32_id] <;> omega
  have e5 : q_w32 (i + 5) = i + 5 := by rw [q_w32_id] <;> omega
  refine q_go1 200 352 [805] (fun cl ev hcl hev => ?_)
  refine And.intro (by omega) ?_
  show cl _ _ _ _
  refine hcl _ _ _ _ (q_Kw (H _) (fun r σ1 hA => ?_))
  obtain ⟨x, e, hB⟩ := hA
  subst e
  refine And.intro (by omega) ?_
  show cl _ _ _ _
  refine hcl _ _ _ _ (q_Kw hB (fun r2 σ2 hC => ?_))
  obtain ⟨y, e2, hD⟩ := hC
  subst e2
  exact hev _ (hN _ hD)

set_option maxRecDepth 100000 in
theorem l_cs_11 {i : Int} {σ : q_S} {K : q_R → q_S → Prop} {Q : q_S → Prop} (hL : L ≤ 3072) (hi : 0 ≤ i ∧ i + 6 ≤ L) (H : ∀ a b c : Int, q_P2 L xs i_A_way [(2, 0), (0, a), (0, b), (0, c)] i_M_way [(2, 100), (0, a), (0, b), (0, c)] σ (fun _ _ σ2 => Q σ2)) (hN : ∀ σ', Q σ' → q_E L xs k_law_law (805, [(4, 0), (2, 0), (2, 100), (0, i)], [], σ') K) : q_E L xs k_law_law (369, [(4, 0), (2, 0), (2, 100), (0, i)], [], σ) K := by
  have e1 : q_w32 (i + 1) = i + 1 := by rw [q_w32_id] <;> omega
  have e2 : q_w32 (i + 2) = i + 2 := by rw [q_w32_id] <;> omega
  have e3 : q_w32 (i + 3) = i + 3 := by rw [q_w32_id] <;> omega
  have e4 : q_w32 (i + 4) = i + 4 := by rw [q_w32_id] <;> omega
  have e5 : q_w32 (i + 5) = i + 5 := by rw [q_w32_id] <;> omega
  refine q_go1 200 369 [805] (fun cl ev hcl hev => ?_)
  refine And.intro (by omega) ?_
  refine And.intro (by omega) ?_
  refine And.intro (by omega) ?_
  show cl _ _ _ _
  refine hcl _ _ _ _ (q_Kw (H _ _ _) (fun r σ1 hA => ?_))
  obtain ⟨x, e, hB⟩ := hA
  subst e
  refine And.intro (by omega) ?_
  refine And.intro (by omega) ?_
  refine And.intro (by omega) ?_
  show cl _ _ _ _
  refine hcl _ _ _ _ (q_Kw hB (fun r2 σ2 hC => ?_))
  obtain ⟨y, e2, hD⟩ := hC
  subst e2
  exact hev _ (hN _ hD)

set_option maxRecDepth 100000 in
theorem l_cs_12 {i : Int} {σ : q_S} {K : q_R → q_S → Prop} {Q : q_S → Prop} (hL : L ≤ 3072) (hi : 0 ≤ i ∧ i + 6 ≤ L) (H : ∀ a b c : Int, q_P2 L xs i_A_tide [(2, 0), (0, a), (0, b), (0, c)] i_M_tide [(2, 100), (0, a), (0, b), (0, c)] σ (fun _ _ σ2 => Q σ2)) (hN : ∀ σ', Q σ' → q_E L xs k_law_law (805, [(4, 0), (2, 0), (2, 100), (0, i)], [], σ') K) : q_E L xs k_law_law (406, [(4, 0), (2, 0), (2, 100), (0, i)], [], σ) K := by
  have e1 : q_w32 (i + 1) = i + 1 := by rw [q_w32_id] <;> omega
  have e2 : q_w32 (i + 2) = i + 2 := by rw [q_w32_id] <;> omega
  have e3 : q_w32 (i + 3) = i + 3 := by rw [q_w32_id] <;> omega
  have e4 : q_w32 (i + 4) = i + 4 := by rw [q_w32_id] <;> omega
  have e5 : q_w32 (i + 5) = i + 5 := by rw [q_w32_id] <;> omega
  refine q_go1 200 406 [805] (fun cl ev hcl hev => ?_)
  refine And.intro (by omega) ?_
  refine And.intro (by omega) ?_
  refine And.intro (by omega) ?_
  show cl _ _ _ _
  refine hcl _ _ _ _ (q_Kw (H _ _ _) (fun r σ1 hA => ?_))
  obtain ⟨x, e, hB⟩ := hA
  subst e
  refine And.intro (by omega) ?_
  refine And.intro (by omega) ?_
  refine And.intro (by omega) ?_
  show cl _ _ _ _
  refine hcl _ _ _ _ (q_Kw hB (fun r2 σ2 hC => ?_))
  obtain ⟨y, e2, hD⟩ := hC
  subst e2
  exact hev _ (hN _ hD)

set_option maxRecDepth 100000 in
theorem l_cs_13 {i : Int} {σ : q_S} {K : q_R → q_S → Prop} {Q : q_S → Prop} (hL : L ≤ 3072) (hi : 0 ≤ i ∧ i + 6 ≤ L) (H : ∀ a : Int, q_P2 L xs i_A_pass [(2, 0), (0, a)] i_M_pass [(2, 100), (0, a)] σ (fun _ _ σ2 => Q σ2)) (hN : ∀ σ', Q σ' → q_E L xs k_law_law (805, [(4, 0), (2, 0), (2, 100), (0, i)], [], σ') K) : q_E L xs k_law_law (443, [(4, 0), (2, 0), (2, 100), (0, i)], [], σ) K := by
  have e1 : q_w32 (i + 1) = i + 1 := by rw [q_w32_id] <;> omega
  have e2 : q_w32 (i + 2) = i + 2 := by rw [q_w32_id] <;> omega
  have e3 : q_w32 (i + 3) = i + 3 := by rw [q_w32_id] <;> omega
  have e4 : q_w32 (i + 4) = i + 4 := by rw [q_w32_id] <;> omega
  have e5 : q_w32 (i + 5) = i + 5 := by rw [q_w32_id] <;> omega
  refine q_go1 200 443 [805] (fun cl ev hcl hev => ?_)
  refine And.intro (by omega) ?_
  show cl _ _ _ _
  refine hcl _ _ _ _ (q_Kw (H _) (fun r σ1 hA => ?_))
  obtain ⟨x, e, hB⟩ := hA
  subst e
  refine And.intro (by omega) ?_
  show cl _ _ _ _
  refine hcl _ _ _ _ (q_Kw hB (fun r2 σ2 hC => ?_))
  obtain ⟨y, e2, hD⟩ := hC
  subst e2
  exact hev _ (hN _ hD)

set_option maxRecDepth 100000 in
theorem l_cs_14 {i : Int} {σ : q_S} {K : q_R → q_S → Prop} {Q : q_S → Prop} (hL : L ≤ 3072) (hi : 0 ≤ i ∧ i + 6 ≤ L) (H : q_P2 L xs i_A_year [(2, 0)] i_M_year [(2, 100)] σ (fun _ _ σ2 => Q σ2)) (hN : ∀ σ', Q σ' → q_E L xs k_law_law (805, [(4, 0), (2, 0), (2, 100), (0, i)], [], σ') K) : q_E L xs k_law_law (460, [(4, 0), (2, 0), (2, 100), (0, i)], [], σ) K := by
  have e1 : q_w32 (i + 1) = i + 1 := by rw [q_w32_id] <;> omega
  have e2 : q_w32 (i + 2) = i + 2 := by rw [q_w32_id] <;> omega
  have e3 : q_w32 (i + 3) = i + 3 := by rw [q_w32_id] <;> omega
  have e4 : q_w32 (i + 4) = i + 4 := by rw [q_w32_id] <;> omega
  have e5 : q_w32 (i + 5) = i + 5 := by rw [q_w32_id] <;> omega
  refine q_go1 200 460 [805] (fun cl ev hcl hev => ?_)
  show cl _ _ _ _
  refine hcl _ _ _ _ (q_Kw (H) (fun r σ1 hA => ?_))
  obtain ⟨x, e, hB⟩ := hA
  subst e
  show cl _ _ _ _
  refine hcl _ _ _ _ (q_Kw hB (fun r2 σ2 hC => ?_))
  obtain ⟨y, e2, hD⟩ := hC
  subst e2
  exact hev _ (hN _ hD)

set_option maxRecDepth 100000 in
theorem l_cs_15 {i : Int} {σ : q_S} {K : q_R → q_S → Prop} {Q : q_S → Prop} (hL : L ≤ 3072) (hi : 0 ≤ i ∧ i + 6 ≤ L) (H : ∀ a b : Int, q_P2 L xs i_A_feed [(2, 0), (1, a), (0, b)] i_M_feed [(2, 100), (1, a), (0, b)] σ (fun _ _ σ2 => Q σ2)) (hN : ∀ σ', Q σ' → q_E L xs k_law_law (805, [(4, 0), (2, 0), (2, 100), (0, i)], [], σ') K) : q_E L xs k_law_law (467, [(4, 0), (2, 0), (2, 100), (0, i)], [], σ) K := by
  have e1 : q_w32 (i + 1) = i + 1 := by rw [q_w32_id] <;> omega
  have e2 : q_w32 (i + 2) = i + 2 := by rw [q_w32_id] <;> omega
  have e3 : q_w32 (i + 3) = i + 3 := by rw [q_w32_id] <;> omega
  have e4 : q_w32 (i + 4) = i + 4 := by rw [q_w32_id] <;> omega
  have e5 : q_w32 (i + 5) = i + 5 := by rw [q_w32_id] <;> omega
  refine q_go1 200 467 [805] (fun cl ev hcl hev => ?_)
  refine And.intro (by omega) ?_
  refine And.intro (by omega) ?_
  refine And.intro (by omega) ?_
  show cl _ _ _ _
  refine hcl _ _ _ _ (q_Kw (H _ _) (fun r σ1 hA => ?_))
  obtain ⟨x, e, hB⟩ := hA
  subst e
  refine And.intro (by omega) ?_
  refine And.intro (by omega) ?_
  refine And.intro (by omega) ?_
  show cl _ _ _ _
  refine hcl _ _ _ _ (q_Kw hB (fun r2 σ2 hC => ?_))
  obtain ⟨y, e2, hD⟩ := hC
  subst e2
  exact hev _ (hN _ hD)

set_option maxRecDepth 100000 in
theorem l_cs_16 {i : Int} {σ : q_S} {K : q_R → q_S → Prop} {Q : q_S → Prop} (hL : L ≤ 3072) (hi : 0 ≤ i ∧ i + 6 ≤ L) (H : ∀ a : Int, q_P2 L xs i_A_court [(2, 0), (0, a)] i_M_court [(2, 100), (0, a)] σ (fun _ _ σ2 => Q σ2)) (hN : ∀ σ', Q σ' → q_E L xs k_law_law (805, [(4, 0), (2, 0), (2, 100), (0, i)], [], σ') K) : q_E L xs k_law_law (518, [(4, 0), (2, 0), (2, 100), (0, i)], [], σ) K := by
  have e1 : q_w32 (i + 1) = i + 1 := by rw [q_w32_id] <;> omega
  have e2 : q_w32 (i + 2) = i + 2 := by rw [q_w32_id] <;> omega
  have e3 : q_w32 (i + 3) = i + 3 := by rw [q_w32_id] <;> omega
  have e4 : q_w32 (i + 4) = i + 4 := by rw [q_w32_id] <;> omega
  have e5 : q_w32 (i + 5) = i + 5 := by rw [q_w32_id] <;> omega
  refine q_go1 200 518 [805] (fun cl ev hcl hev => ?_)
  refine And.intro (by omega) ?_
  show cl _ _ _ _
  refine hcl _ _ _ _ (q_Kw (H _) (fun r σ1 hA => ?_))
  obtain ⟨x, e, hB⟩ := hA
  subst e
  refine And.intro (by omega) ?_
  show cl _ _ _ _
  refine hcl _ _ _ _ (q_Kw hB (fun r2 σ2 hC => ?_))
  obtain ⟨y, e2, hD⟩ := hC
  subst e2
  exact hev _ (hN _ hD)

set_option maxRecDepth 100000 in
theorem l_cs_17 {i : Int} {σ : q_S} {K : q_R → q_S → Prop} {Q : q_S → Prop} (hL : L ≤ 3072) (hi : 0 ≤ i ∧ i + 6 ≤ L) (H : ∀ a b c : Int, q_P2 L xs i_A_custom [(2, 0), (0, a), (0, b), (0, c)] i_M_custom [(2, 100), (0, a), (0, b), (0, c)] σ (fun _ _ σ2 => Q σ2)) (hN : ∀ σ', Q σ' → q_E L xs k_law_law (805, [(4, 0), (2, 0), (2, 100), (0, i)], [], σ') K) : q_E L xs k_law_law (535, [(4, 0), (2, 0), (2, 100), (0, i)], [], σ) K := by
  have e1 : q_w32 (i + 1) = i + 1 := by rw [q_w32_id] <;> omega
  have e2 : q_w32 (i + 2) = i + 2 := by rw [q_w32_id] <;> omega
  have e3 : q_w32 (i + 3) = i + 3 := by rw [q_w32_id] <;> omega
  have e4 : q_w32 (i + 4) = i + 4 := by rw [q_w32_id] <;> omega
  have e5 : q_w32 (i + 5) = i + 5 := by rw [q_w32_id] <;> omega
  refine q_go1 200 535 [805] (fun cl ev hcl hev => ?_)
  refine And.intro (by omega) ?_
  refine And.intro (by omega) ?_
  refine And.intro (by omega) ?_
  show cl _ _ _ _
  refine hcl _ _ _ _ (q_Kw (H _ _ _) (fun r σ1 hA => ?_))
  obtain ⟨x, e, hB⟩ := hA
  subst e
  refine And.intro (by omega) ?_
  refine And.intro (by omega) ?_
  refine And.intro (by omega) ?_
  show cl _ _ _ _
  refine hcl _ _ _ _ (q_Kw hB (fun r2 σ2 hC => ?_))
  obtain ⟨y, e2, hD⟩ := hC
  subst e2
  exact hev _ (hN _ hD)

set_option maxRecDepth 100000 in
theorem l_cs_18 {i : Int} {σ : q_S} {K : q_R → q_S → Prop} {Q : q_S → Prop} (hL : L ≤ 3072) (hi : 0 ≤ i ∧ i + 6 ≤ L) (H : ∀ a b c d : Int, q_P2 L xs i_A_mender [(2, 0), (0, a), (0, b), (0, c), (0, d)] i_M_mender [(2, 100), (0, a), (0, b), (0, c), (0, d)] σ (fun _ _ σ2 => Q σ2)) (hN : ∀ σ', Q σ' → q_E L xs k_law_law (805, [(4, 0), (2, 0), (2, 100), (0, i)], [], σ') K) : q_E L xs k_law_law (572, [(4, 0), (2, 0), (2, 100), (0, i)], [], σ) K := by
  have e1 : q_w32 (i + 1) = i + 1 := by rw [q_w32_id] <;> omega
  have e2 : q_w32 (i + 2) = i + 2 := by rw [q_w32_id] <;> omega
  have e3 : q_w32 (i + 3) = i + 3 := by rw [q_w32_id] <;> omega
  have e4 : q_w32 (i + 4) = i + 4 := by rw [q_w32_id] <;> omega
  have e5 : q_w32 (i + 5) = i + 5 := by rw [q_w32_id] <;> omega
  refine q_go1 200 572 [805] (fun cl ev hcl hev => ?_)
  refine And.intro (by omega) ?_
  refine And.intro (by omega) ?_
  refine And.intro (by omega) ?_
  refine And.intro (by omega) ?_
  show cl _ _ _ _
  refine hcl _ _ _ _ (q_Kw (H _ _ _ _) (fun r σ1 hA => ?_))
  obtain ⟨x, e, hB⟩ := hA
  subst e
  refine And.intro (by omega) ?_
  refine And.intro (by omega) ?_
  refine And.intro (by omega) ?_
  refine And.intro (by omega) ?_
  show cl _ _ _ _
  refine hcl _ _ _ _ (q_Kw hB (fun r2 σ2 hC => ?_))
  obtain ⟨y, e2, hD⟩ := hC
  subst e2
  exact hev _ (hN _ hD)

set_option maxRecDepth 100000 in
theorem l_cs_19 {i : Int} {σ : q_S} {K : q_R → q_S → Prop} {Q : q_S → Prop} (hL : L ≤ 3072) (hi : 0 ≤ i ∧ i + 6 ≤ L) (H : ∀ a : Int, q_P2 L xs i_A_view [(2, 0), (0, a)] i_M_view [(2, 100), (0, a)] σ (fun _ _ σ2 => Q σ2)) (hN : ∀ σ', Q σ' → q_E L xs k_law_law (805, [(4, 0), (2, 0), (2, 100), (0, i)], [], σ') K) : q_E L xs k_law_law (619, [(4, 0), (2, 0), (2, 100), (0, i)], [], σ) K := by
  have e1 : q_w32 (i + 1) = i + 1 := by rw [q_w32_id] <;> omega
  have e2 : q_w32 (i + 2) = i + 2 := by rw [q_w32_id] <;> omega
  have e3 : q_w32 (i + 3) = i + 3 := by rw [q_w32_id] <;> omega
  have e4 : q_w32 (i + 4) = i + 4 := by rw [q_w32_id] <;> omega
  have e5 : q_w32 (i + 5) = i + 5 := by rw [q_w32_id] <;> omega
  refine q_go1 200 619 [805] (fun cl ev hcl hev => ?_)
  refine And.intro (by omega) ?_
  show cl _ _ _ _
  refine hcl _ _ _ _ (q_Kw (H _) (fun r σ1 hA => ?_))
  obtain ⟨x, e, hB⟩ := hA
  subst e
  refine And.intro (by omega) ?_
  show cl _ _ _ _
  refine hcl _ _ _ _ (q_Kw hB (fun r2 σ2 hC => ?_))
  obtain ⟨y, e2, hD⟩ := hC
  subst e2
  exact hev _ (hN _ hD)

set_option maxRecDepth 100000 in
theorem l_cs_20 {i : Int} {σ : q_S} {K : q_R → q_S → Prop} {Q : q_S → Prop} (hL : L ≤ 3072) (hi : 0 ≤ i ∧ i + 6 ≤ L) (H : ∀ a b c : Int, q_P2 L xs i_A_mend [(2, 0), (0, a), (0, b), (0, c)] i_M_mend [(2, 100), (0, a), (0, b), (0, c)] σ (fun _ _ σ2 => Q σ2)) (hN : ∀ σ', Q σ' → q_E L xs k_law_law (805, [(4, 0), (2, 0), (2, 100), (0, i)], [], σ') K) : q_E L xs k_law_law (636, [(4, 0), (2, 0), (2, 100), (0, i)], [], σ) K := by
  have e1 : q_w32 (i + 1) = i + 1 := by rw [q_w32_id] <;> omega
  have e2 : q_w32 (i + 2) = i + 2 := by rw [q_w32_id] <;> omega
  have e3 : q_w32 (i + 3) = i + 3 := by rw [q_w32_id] <;> omega
  have e4 : q_w32 (i + 4) = i + 4 := by rw [q_w32_id] <;> omega
  have e5 : q_w32 (i + 5) = i + 5 := by rw [q_w32_id] <;> omega
  refine q_go1 200 636 [805] (fun cl ev hcl hev => ?_)
  refine And.intro (by omega) ?_
  refine And.intro (by omega) ?_
  refine And.intro (by omega) ?_
  show cl _ _ _ _
  refine hcl _ _ _ _ (q_Kw (H _ _ _) (fun r σ1 hA => ?_))
  obtain ⟨x, e, hB⟩ := hA
  subst e
  refine And.intro (by omega) ?_
  refine And.intro (by omega) ?_
  refine And.intro (by omega) ?_
  show cl _ _ _ _
  refine hcl _ _ _ _ (q_Kw hB (fun r2 σ2 hC => ?_))
  obtain ⟨y, e2, hD⟩ := hC
  subst e2
  exact hev _ (hN _ hD)

set_option maxRecDepth 100000 in
theorem l_cs_21 {i : Int} {σ : q_S} {K : q_R → q_S → Prop} {Q : q_S → Prop} (hL : L ≤ 3072) (hi : 0 ≤ i ∧ i + 6 ≤ L) (H : ∀ a b : Int, q_P2 L xs i_A_fault [(2, 0), (0, a), (0, b)] i_M_fault [(2, 100), (0, a), (0, b)] σ (fun _ _ σ2 => Q σ2)) (hN : ∀ σ', Q σ' → q_E L xs k_law_law (805, [(4, 0), (2, 0), (2, 100), (0, i)], [], σ') K) : q_E L xs k_law_law (673, [(4, 0), (2, 0), (2, 100), (0, i)], [], σ) K := by
  have e1 : q_w32 (i + 1) = i + 1 := by rw [q_w32_id] <;> omega
  have e2 : q_w32 (i + 2) = i + 2 := by rw [q_w32_id] <;> omega
  have e3 : q_w32 (i + 3) = i + 3 := by rw [q_w32_id] <;> omega
  have e4 : q_w32 (i + 4) = i + 4 := by rw [q_w32_id] <;> omega
  have e5 : q_w32 (i + 5) = i + 5 := by rw [q_w32_id] <;> omega
  refine q_go1 200 673 [805] (fun cl ev hcl hev => ?_)
  refine And.intro (by omega) ?_
  refine And.intro (by omega) ?_
  show cl _ _ _ _
  refine hcl _ _ _ _ (q_Kw (H _ _) (fun r σ1 hA => ?_))
  obtain ⟨x, e, hB⟩ := hA
  subst e
  refine And.intro (by omega) ?_
  refine And.intro (by omega) ?_
  show cl _ _ _ _
  refine hcl _ _ _ _ (q_Kw hB (fun r2 σ2 hC => ?_))
  obtain ⟨y, e2, hD⟩ := hC
  subst e2
  exact hev _ (hN _ hD)

set_option maxRecDepth 100000 in
theorem l_cs_22 {i : Int} {σ : q_S} {K : q_R → q_S → Prop} {Q : q_S → Prop} (hL : L ≤ 3072) (hi : 0 ≤ i ∧ i + 6 ≤ L) (H : ∀ a : Int, q_P2 L xs i_A_fines [(2, 0), (0, a)] i_M_fines [(2, 100), (0, a)] σ (fun _ _ σ2 => Q σ2)) (hN : ∀ σ', Q σ' → q_E L xs k_law_law (805, [(4, 0), (2, 0), (2, 100), (0, i)], [], σ') K) : q_E L xs k_law_law (700, [(4, 0), (2, 0), (2, 100), (0, i)], [], σ) K := by
  have e1 : q_w32 (i + 1) = i + 1 := by rw [q_w32_id] <;> omega
  have e2 : q_w32 (i + 2) = i + 2 := by rw [q_w32_id] <;> omega
  have e3 : q_w32 (i + 3) = i + 3 := by rw [q_w32_id] <;> omega
  have e4 : q_w32 (i + 4) = i + 4 := by rw [q_w32_id] <;> omega
  have e5 : q_w32 (i + 5) = i + 5 := by rw [q_w32_id] <;> omega
  refine q_go1 200 700 [805] (fun cl ev hcl hev => ?_)
  refine And.intro (by omega) ?_
  show cl _ _ _ _
  refine hcl _ _ _ _ (q_Kw (H _) (fun r σ1 hA => ?_))
  obtain ⟨x, e, hB⟩ := hA
  subst e
  refine And.intro (by omega) ?_
  show cl _ _ _ _
  refine hcl _ _ _ _ (q_Kw hB (fun r2 σ2 hC => ?_))
  obtain ⟨y, e2, hD⟩ := hC
  subst e2
  exact hev _ (hN _ hD)

set_option maxRecDepth 100000 in
theorem l_cs_23 {i : Int} {σ : q_S} {K : q_R → q_S → Prop} {Q : q_S → Prop} (hL : L ≤ 3072) (hi : 0 ≤ i ∧ i + 6 ≤ L) (H : ∀ a : Int, q_P2 L xs i_A_mended [(2, 0), (0, a)] i_M_mended [(2, 100), (0, a)] σ (fun _ _ σ2 => Q σ2)) (hN : ∀ σ', Q σ' → q_E L xs k_law_law (805, [(4, 0), (2, 0), (2, 100), (0, i)], [], σ') K) : q_E L xs k_law_law (717, [(4, 0), (2, 0), (2, 100), (0, i)], [], σ) K := by
  have e1 : q_w32 (i + 1) = i + 1 := by rw [q_w32_id] <;> omega
  have e2 : q_w32 (i + 2) = i + 2 := by rw [q_w32_id] <;> omega
  have e3 : q_w32 (i + 3) = i + 3 := by rw [q_w32_id] <;> omega
  have e4 : q_w32 (i + 4) = i + 4 := by rw [q_w32_id] <;> omega
  have e5 : q_w32 (i + 5) = i + 5 := by rw [q_w32_id] <;> omega
  refine q_go1 200 717 [805] (fun cl ev hcl hev => ?_)
  refine And.intro (by omega) ?_
  show cl _ _ _ _
  refine hcl _ _ _ _ (q_Kw (H _) (fun r σ1 hA => ?_))
  obtain ⟨x, e, hB⟩ := hA
  subst e
  refine And.intro (by omega) ?_
  show cl _ _ _ _
  refine hcl _ _ _ _ (q_Kw hB (fun r2 σ2 hC => ?_))
  obtain ⟨y, e2, hD⟩ := hC
  subst e2
  exact hev _ (hN _ hD)

set_option maxRecDepth 100000 in
theorem l_cs_24 {i : Int} {σ : q_S} {K : q_R → q_S → Prop} {Q : q_S → Prop} (hL : L ≤ 3072) (hi : 0 ≤ i ∧ i + 6 ≤ L) (H : ∀ a b : Int, q_P2 L xs i_A_works [(2, 0), (0, a), (0, b)] i_M_works [(2, 100), (0, a), (0, b)] σ (fun x y σ2 => Q σ2 ∧ x = y)) (hN : ∀ σ', Q σ' → q_E L xs k_law_law (805, [(4, 0), (2, 0), (2, 100), (0, i)], [], σ') K) : q_E L xs k_law_law (734, [(4, 0), (2, 0), (2, 100), (0, i)], [], σ) K := by
  have e1 : q_w32 (i + 1) = i + 1 := by rw [q_w32_id] <;> omega
  have e2 : q_w32 (i + 2) = i + 2 := by rw [q_w32_id] <;> omega
  have e3 : q_w32 (i + 3) = i + 3 := by rw [q_w32_id] <;> omega
  have e4 : q_w32 (i + 4) = i + 4 := by rw [q_w32_id] <;> omega
  have e5 : q_w32 (i + 5) = i + 5 := by rw [q_w32_id] <;> omega
  refine q_go1 200 734 [805] (fun cl ev hcl hev => ?_)
  refine And.intro (by omega) ?_
  refine And.intro (by omega) ?_
  show cl _ _ _ _
  refine hcl _ _ _ _ (q_Kw (H _ _) (fun r σ1 hA => ?_))
  obtain ⟨x, e, hB⟩ := hA
  subst e
  refine And.intro (by omega) ?_
  refine And.intro (by omega) ?_
  show cl _ _ _ _
  refine hcl _ _ _ _ (q_Kw hB (fun r2 σ2 hC => ?_))
  obtain ⟨y, e2, hD⟩ := hC
  subst e2
  exact And.intro (fun _ => hev _ (hN _ hD.1)) (fun hq => absurd hD.2 hq)

set_option maxRecDepth 100000 in
theorem l_cs_25 {i : Int} {σ : q_S} {K : q_R → q_S → Prop} {Q : q_S → Prop} (hL : L ≤ 3072) (hi : 0 ≤ i ∧ i + 6 ≤ L) (H : ∀ a b : Int, q_P2 L xs i_A_scot [(2, 0), (0, a), (0, b)] i_M_scot [(2, 100), (0, a), (0, b)] σ (fun _ _ σ2 => Q σ2)) (hN : ∀ σ', Q σ' → q_E L xs k_law_law (805, [(4, 0), (2, 0), (2, 100), (0, i)], [], σ') K) : q_E L xs k_law_law (761, [(4, 0), (2, 0), (2, 100), (0, i)], [], σ) K := by
  have e1 : q_w32 (i + 1) = i + 1 := by rw [q_w32_id] <;> omega
  have e2 : q_w32 (i + 2) = i + 2 := by rw [q_w32_id] <;> omega
  have e3 : q_w32 (i + 3) = i + 3 := by rw [q_w32_id] <;> omega
  have e4 : q_w32 (i + 4) = i + 4 := by rw [q_w32_id] <;> omega
  have e5 : q_w32 (i + 5) = i + 5 := by rw [q_w32_id] <;> omega
  refine q_go1 200 761 [805] (fun cl ev hcl hev => ?_)
  refine And.intro (by omega) ?_
  refine And.intro (by omega) ?_
  show cl _ _ _ _
  refine hcl _ _ _ _ (q_Kw (H _ _) (fun r σ1 hA => ?_))
  obtain ⟨x, e, hB⟩ := hA
  subst e
  refine And.intro (by omega) ?_
  refine And.intro (by omega) ?_
  show cl _ _ _ _
  refine hcl _ _ _ _ (q_Kw hB (fun r2 σ2 hC => ?_))
  obtain ⟨y, e2, hD⟩ := hC
  subst e2
  exact hev _ (hN _ hD)

set_option maxRecDepth 100000 in
theorem l_cs_26 {i : Int} {σ : q_S} {K : q_R → q_S → Prop} {Q : q_S → Prop} (hL : L ≤ 3072) (hi : 0 ≤ i ∧ i + 6 ≤ L) (H : ∀ a : Int, q_P2 L xs i_A_count [(2, 0), (0, a)] i_M_count [(2, 100), (0, a)] σ (fun _ _ σ2 => Q σ2)) (hN : ∀ σ', Q σ' → q_E L xs k_law_law (805, [(4, 0), (2, 0), (2, 100), (0, i)], [], σ') K) : q_E L xs k_law_law (788, [(4, 0), (2, 0), (2, 100), (0, i)], [], σ) K := by
  have e1 : q_w32 (i + 1) = i + 1 := by rw [q_w32_id] <;> omega
  have e2 : q_w32 (i + 2) = i + 2 := by rw [q_w32_id] <;> omega
  have e3 : q_w32 (i + 3) = i + 3 := by rw [q_w32_id] <;> omega
  have e4 : q_w32 (i + 4) = i + 4 := by rw [q_w32_id] <;> omega
  have e5 : q_w32 (i + 5) = i + 5 := by rw [q_w32_id] <;> omega
  refine q_go1 200 788 [805] (fun cl ev hcl hev => ?_)
  refine And.intro (by omega) ?_
  show cl _ _ _ _
  refine hcl _ _ _ _ (q_Kw (H _) (fun r σ1 hA => ?_))
  obtain ⟨x, e, hB⟩ := hA
  subst e
  refine And.intro (by omega) ?_
  show cl _ _ _ _
  refine hcl _ _ _ _ (q_Kw hB (fun r2 σ2 hC => ?_))
  obtain ⟨y, e2, hD⟩ := hC
  subst e2
  exact hev _ (hN _ hD)

set_option maxRecDepth 100000 in
theorem l_lawG {J : Int → q_S → Prop} {K : q_R → q_S → Prop} (hL : L ≤ 3072) (hK : ∀ i σ, J i σ → K (some (0, 1)) σ) (HD : ∀ i σ, 0 ≤ i → J i σ → J (i + 6) σ)
    (H0 : ∀ i σ, 0 ≤ i → i + 6 ≤ 3072 → J i σ → ∀ a b : Int, q_P2 L xs i_A_level [(2, 0), (0, a), (0, b)] i_M_level [(2, 100), (0, a), (0, b)] σ (fun _ _ σ2 => J (i + 6) σ2))
    (H1 : ∀ i σ, 0 ≤ i → i + 6 ≤ 3072 → J i σ → ∀ a b : Int, q_P2 L xs i_A_cell [(2, 0), (0, a), (0, b)] i_M_cell [(2, 100), (0, a), (0, b)] σ (fun _ _ σ2 => J (i + 6) σ2))
    (H2 : ∀ i σ, 0 ≤ i → i + 6 ≤ 3072 → J i σ → ∀ a b c d e : Int, q_P2 L xs i_A_sell [(2, 0), (0, a), (0, b), (0, c), (0, d), (0, e)] i_M_sell [(2, 100), (0, a), (0, b), (0, c), (0, d), (0, e)] σ (fun _ _ σ2 => J (i + 6) σ2))
    (H3 : ∀ i σ, 0 ≤ i → i + 6 ≤ 3072 → J i σ → ∀ a b c d : Int, q_P2 L xs i_A_held [(2, 0), (0, a), (0, b), (0, c), (0, d)] i_M_held [(2, 100), (0, a), (0, b), (0, c), (0, d)] σ (fun _ _ σ2 => J (i + 6) σ2))
    (H4 : ∀ i σ, 0 ≤ i → i + 6 ≤ 3072 → J i σ → ∀ a b c : Int, q_P2 L xs i_A_rod [(2, 0), (0, a), (0, b), (0, c)] i_M_rod [(2, 100), (0, a), (0, b), (0, c)] σ (fun _ _ σ2 => J (i + 6) σ2))
    (H5 : ∀ i σ, 0 ≤ i → i + 6 ≤ 3072 → J i σ → ∀ a b : Int, q_P2 L xs i_A_sluice [(2, 0), (0, a), (0, b)] i_M_sluice [(2, 100), (0, a), (0, b)] σ (fun _ _ σ2 => J (i + 6) σ2))
    (H6 : ∀ i σ, 0 ≤ i → i + 6 ≤ 3072 → J i σ → ∀ a b : Int, q_P2 L xs i_A_about [(2, 0), (0, a), (0, b)] i_M_about [(2, 100), (0, a), (0, b)] σ (fun _ _ σ2 => J (i + 6) σ2))
    (H7 : ∀ i σ, 0 ≤ i → i + 6 ≤ 3072 → J i σ → ∀ a b c : Int, q_P2 L xs i_A_gate [(2, 0), (0, a), (0, b), (0, c)] i_M_gate [(2, 100), (0, a), (0, b), (0, c)] σ (fun _ _ σ2 => J (i + 6) σ2))
    (H8 : ∀ i σ, 0 ≤ i → i + 6 ≤ 3072 → J i σ → ∀ a : Int, q_P2 L xs i_A_herd [(2, 0), (0, a)] i_M_herd [(2, 100), (0, a)] σ (fun _ _ σ2 => J (i + 6) σ2))
    (H9 : ∀ i σ, 0 ≤ i → i + 6 ≤ 3072 → J i σ → ∀ a b : Int, q_P2 L xs i_A_drive [(2, 0), (0, a), (0, b)] i_M_drive [(2, 100), (0, a), (0, b)] σ (fun _ _ σ2 => J (i + 6) σ2))
    (H10 : ∀ i σ, 0 ≤ i → i + 6 ≤ 3072 → J i σ → ∀ a : Int, q_P2 L xs i_A_where [(2, 0), (0, a)] i_M_where [(2, 100), (0, a)] σ (fun _ _ σ2 => J (i + 6) σ2))
    (H11 : ∀ i σ, 0 ≤ i → i + 6 ≤ 3072 → J i σ → ∀ a b c : Int, q_P2 L xs i_A_way [(2, 0), (0, a), (0, b), (0, c)] i_M_way [(2, 100), (0, a), (0, b), (0, c)] σ (fun _ _ σ2 => J (i + 6) σ2))
    (H12 : ∀ i σ, 0 ≤ i → i + 6 ≤ 3072 → J i σ → ∀ a b c : Int, q_P2 L xs i_A_tide [(2, 0), (0, a), (0, b), (0, c)] i_M_tide [(2, 100), (0, a), (0, b), (0, c)] σ (fun _ _ σ2 => J (i + 6) σ2))
    (H13 : ∀ i σ, 0 ≤ i → i + 6 ≤ 3072 → J i σ → ∀ a : Int, q_P2 L xs i_A_pass [(2, 0), (0, a)] i_M_pass [(2, 100), (0, a)] σ (fun _ _ σ2 => J (i + 6) σ2))
    (H14 : ∀ i σ, 0 ≤ i → i + 6 ≤ 3072 → J i σ → q_P2 L xs i_A_year [(2, 0)] i_M_year [(2, 100)] σ (fun _ _ σ2 => J (i + 6) σ2))
    (H15 : ∀ i σ, 0 ≤ i → i + 6 ≤ 3072 → J i σ → ∀ a b : Int, q_P2 L xs i_A_feed [(2, 0), (1, a), (0, b)] i_M_feed [(2, 100), (1, a), (0, b)] σ (fun _ _ σ2 => J (i + 6) σ2))
    (H16 : ∀ i σ, 0 ≤ i → i + 6 ≤ 3072 → J i σ → ∀ a : Int, q_P2 L xs i_A_court [(2, 0), (0, a)] i_M_court [(2, 100), (0, a)] σ (fun _ _ σ2 => J (i + 6) σ2))
    (H17 : ∀ i σ, 0 ≤ i → i + 6 ≤ 3072 → J i σ → ∀ a b c : Int, q_P2 L xs i_A_custom [(2, 0), (0, a), (0, b), (0, c)] i_M_custom [(2, 100), (0, a), (0, b), (0, c)] σ (fun _ _ σ2 => J (i + 6) σ2))
    (H18 : ∀ i σ, 0 ≤ i → i + 6 ≤ 3072 → J i σ → ∀ a b c d : Int, q_P2 L xs i_A_mender [(2, 0), (0, a), (0, b), (0, c), (0, d)] i_M_mender [(2, 100), (0, a), (0, b), (0, c), (0, d)] σ (fun _ _ σ2 => J (i + 6) σ2))
    (H19 : ∀ i σ, 0 ≤ i → i + 6 ≤ 3072 → J i σ → ∀ a : Int, q_P2 L xs i_A_view [(2, 0), (0, a)] i_M_view [(2, 100), (0, a)] σ (fun _ _ σ2 => J (i + 6) σ2))
    (H20 : ∀ i σ, 0 ≤ i → i + 6 ≤ 3072 → J i σ → ∀ a b c : Int, q_P2 L xs i_A_mend [(2, 0), (0, a), (0, b), (0, c)] i_M_mend [(2, 100), (0, a), (0, b), (0, c)] σ (fun _ _ σ2 => J (i + 6) σ2))
    (H21 : ∀ i σ, 0 ≤ i → i + 6 ≤ 3072 → J i σ → ∀ a b : Int, q_P2 L xs i_A_fault [(2, 0), (0, a), (0, b)] i_M_fault [(2, 100), (0, a), (0, b)] σ (fun _ _ σ2 => J (i + 6) σ2))
    (H22 : ∀ i σ, 0 ≤ i → i + 6 ≤ 3072 → J i σ → ∀ a : Int, q_P2 L xs i_A_fines [(2, 0), (0, a)] i_M_fines [(2, 100), (0, a)] σ (fun _ _ σ2 => J (i + 6) σ2))
    (H23 : ∀ i σ, 0 ≤ i → i + 6 ≤ 3072 → J i σ → ∀ a : Int, q_P2 L xs i_A_mended [(2, 0), (0, a)] i_M_mended [(2, 100), (0, a)] σ (fun _ _ σ2 => J (i + 6) σ2))
    (H24 : ∀ i σ, 0 ≤ i → i + 6 ≤ 3072 → J i σ → ∀ a b : Int, q_P2 L xs i_A_works [(2, 0), (0, a), (0, b)] i_M_works [(2, 100), (0, a), (0, b)] σ (fun x y σ2 => J (i + 6) σ2 ∧ x = y))
    (H25 : ∀ i σ, 0 ≤ i → i + 6 ≤ 3072 → J i σ → ∀ a b : Int, q_P2 L xs i_A_scot [(2, 0), (0, a), (0, b)] i_M_scot [(2, 100), (0, a), (0, b)] σ (fun _ _ σ2 => J (i + 6) σ2))
    (H26 : ∀ i σ, 0 ≤ i → i + 6 ≤ 3072 → J i σ → ∀ a : Int, q_P2 L xs i_A_count [(2, 0), (0, a)] i_M_count [(2, 100), (0, a)] σ (fun _ _ σ2 => J (i + 6) σ2)) :
    ∀ (m : Nat) (i : Int) (σ : q_S), (L : Int) + 6 - i < m → 0 ≤ i → i ≤ L + 6 → J i σ → q_E L xs k_law_law (10, [(4, 0), (2, 0), (2, 100), (0, i)], [], σ) K := by
  intro m
  induction m with
  | zero => intro i; omega
  | succ m ih =>
    intro i σ hm hi hi2 h
    have e : q_w32 (i + 6) = i + 6 := by rw [q_w32_id] <;> omega
    have e6 : q_w32 ((L : Int) - 6) = L - 6 := by rw [q_w32_id] <;> omega
    have hN : i + 6 ≤ L → ∀ σ', J (i + 6) σ' → q_E L xs k_law_law (805, [(4, 0), (2, 0), (2, 100), (0, i)], [], σ') K := fun h6 σ' h' => by
      refine q_go1 200 805 [10] (fun cl ev hcl hev => ?_)
      refine hev _ ?_
      rw [e]
      exact ih _ _ (by omega) (by omega) (by omega) h'
    refine q_go1 200 10 [10, 805, 22, 49, 76, 133, 180, 217, 244, 271, 308, 325, 352, 369, 406, 443, 460, 467, 518, 535, 572, 619, 636, 673, 700, 717, 734, 761, 788] (fun cl ev hcl hev => ?_)
    refine And.intro (fun hq => hK _ _ h) (fun hq => ?_)
    refine And.intro (by omega) ?_
    repeat' (first | refine And.intro ?_ ?_ | intro _)
    all_goals first

      | exact hev _ (l_cs_0 hL (by omega) (H0 i σ hi (by omega) h) (hN (by omega)))
      | exact hev _ (l_cs_1 hL (by omega) (H1 i σ hi (by omega) h) (hN (by omega)))
      | exact hev _ (l_cs_2 hL (by omega) (H2 i σ hi (by omega) h) (hN (by omega)))
      | exact hev _ (l_cs_3 hL (by omega) (H3 i σ hi (by omega) h) (hN (by omega)))
      | exact hev _ (l_cs_4 hL (by omega) (H4 i σ hi (by omega) h) (hN (by omega)))
      | exact hev _ (l_cs_5 hL (by omega) (H5 i σ hi (by omega) h) (hN (by omega)))
      | exact hev _ (l_cs_6 hL (by omega) (H6 i σ hi (by omega) h) (hN (by omega)))
      | exact hev _ (l_cs_7 hL (by omega) (H7 i σ hi (by omega) h) (hN (by omega)))
      | exact hev _ (l_cs_8 hL (by omega) (H8 i σ hi (by omega) h) (hN (by omega)))
      | exact hev _ (l_cs_9 hL (by omega) (H9 i σ hi (by omega) h) (hN (by omega)))
      | exact hev _ (l_cs_10 hL (by omega) (H10 i σ hi (by omega) h) (hN (by omega)))
      | exact hev _ (l_cs_11 hL (by omega) (H11 i σ hi (by omega) h) (hN (by omega)))
      | exact hev _ (l_cs_12 hL (by omega) (H12 i σ hi (by omega) h) (hN (by omega)))
      | exact hev _ (l_cs_13 hL (by omega) (H13 i σ hi (by omega) h) (hN (by omega)))
      | exact hev _ (l_cs_14 hL (by omega) (H14 i σ hi (by omega) h) (hN (by omega)))
      | exact hev _ (l_cs_15 hL (by omega) (H15 i σ hi (by omega) h) (hN (by omega)))
      | exact hev _ (l_cs_16 hL (by omega) (H16 i σ hi (by omega) h) (hN (by omega)))
      | exact hev _ (l_cs_17 hL (by omega) (H17 i σ hi (by omega) h) (hN (by omega)))
      | exact hev _ (l_cs_18 hL (by omega) (H18 i σ hi (by omega) h) (hN (by omega)))
      | exact hev _ (l_cs_19 hL (by omega) (H19 i σ hi (by omega) h) (hN (by omega)))
      | exact hev _ (l_cs_20 hL (by omega) (H20 i σ hi (by omega) h) (hN (by omega)))
      | exact hev _ (l_cs_21 hL (by omega) (H21 i σ hi (by omega) h) (hN (by omega)))
      | exact hev _ (l_cs_22 hL (by omega) (H22 i σ hi (by omega) h) (hN (by omega)))
      | exact hev _ (l_cs_23 hL (by omega) (H23 i σ hi (by omega) h) (hN (by omega)))
      | exact hev _ (l_cs_24 hL (by omega) (H24 i σ hi (by omega) h) (hN (by omega)))
      | exact hev _ (l_cs_25 hL (by omega) (H25 i σ hi (by omega) h) (hN (by omega)))
      | exact hev _ (l_cs_26 hL (by omega) (H26 i σ hi (by omega) h) (hN (by omega)))
      | skip
    exact hev _ (hN (by omega) _ (HD _ _ hi h))
end P83
/-- what holds before every call -/
def q_J (i : Int) (σ : q_S) : Prop := q_IN σ ∧ q_SC σ ∧ y_RT i σ ∧ y_RC σ ∧ y_RF σ
theorem q_J6 {i : Int} {σ : q_S} (hi : 0 ≤ i) (h : q_J i σ) : q_J (i + 6) σ := ⟨h.1, h.2.1, RT6 hi h.2.2.1, h.2.2.2.1, h.2.2.2.2⟩
section P83b
variable {L : Nat} {xs : Int → Int}
theorem j_0 {i : Int} {σ : q_S} (hi : 0 ≤ i) (hj : i + 6 ≤ 3072) (h : q_J i σ) : ∀ a b : Int, q_P2 L xs i_A_level [(2, 0), (0, a), (0, b)] i_M_level [(2, 100), (0, a), (0, b)] σ (fun _ _ σ2 => q_J (i + 6) σ2) := fun _ _ => q_P2w (q_P2and (t_0 h.1) (q_P2and (s_0 h.1 h.2.1) (q_P2and (r_0 hi hj h.1 h.2.2.1) (q_P2and (ck_0 h.1 h.2.2.2.1) (rf_0 h.1 h.2.2.2.2))))) (fun _ _ _ e => ⟨e.1.1, e.2.1, e.2.2.1.1, e.2.2.2.1, e.2.2.2.2⟩)
theorem j_1 {i : Int} {σ : q_S} (hi : 0 ≤ i) (hj : i + 6 ≤ 3072) (h : q_J i σ) : ∀ a b : Int, q_P2 L xs i_A_cell [(2, 0), (0, a), (0, b)] i_M_cell [(2, 100), (0, a), (0, b)] σ (fun _ _ σ2 => q_J (i + 6) σ2) := fun _ _ => q_P2w (q_P2and (t_1 h.1) (q_P2and (s_1 h.1 h.2.1) (q_P2and (r_1 hi hj h.1 h.2.2.1) (q_P2and (ck_1 h.1 h.2.2.2.1) (rf_1 h.1 h.2.2.2.2))))) (fun _ _ _ e => ⟨e.1, e.2.1, e.2.2.1.1, e.2.2.2.1, e.2.2.2.2⟩)
theorem j_2 {i : Int} {σ : q_S} (hi : 0 ≤ i) (hj : i + 6 ≤ 3072) (h : q_J i σ) : ∀ a b c d e : Int, q_P2 L xs i_A_sell [(2, 0), (0, a), (0, b), (0, c), (0, d), (0, e)] i_M_sell [(2, 100), (0, a), (0, b), (0, c), (0, d), (0, e)] σ (fun _ _ σ2 => q_J (i + 6) σ2) := fun _ _ _ _ _ => q_P2w (q_P2and (t_2 h.1) (q_P2and (s_2 h.1 h.2.1) (q_P2and (r_2 hi hj h.1 h.2.2.1) (q_P2and (ck_2 h.1 h.2.2.2.1) (rf_2 h.1 h.2.2.2.2))))) (fun _ _ _ e => ⟨e.1, e.2.1.1, e.2.2.1, e.2.2.2.1, e.2.2.2.2⟩)
theorem j_3 {i : Int} {σ : q_S} (hi : 0 ≤ i) (hj : i + 6 ≤ 3072) (h : q_J i σ) : ∀ a b c d : Int, q_P2 L xs i_A_held [(2, 0), (0, a), (0, b), (0, c), (0, d)] i_M_held [(2, 100), (0, a), (0, b), (0, c), (0, d)] σ (fun _ _ σ2 => q_J (i + 6) σ2) := fun _ _ _ _ => q_P2w (q_P2and (t_3 h.1) (q_P2and (s_3 h.1 h.2.1) (q_P2and (r_3 hi hj h.1 h.2.2.1) (q_P2and (ck_3 h.1 h.2.2.2.1) (rf_3 h.1 h.2.2.2.2))))) (fun _ _ _ e => ⟨e.1, e.2.1.1, e.2.2.1, e.2.2.2.1, e.2.2.2.2⟩)
theorem j_4 {i : Int} {σ : q_S} (hi : 0 ≤ i) (hj : i + 6 ≤ 3072) (h : q_J i σ) : ∀ a b c : Int, q_P2 L xs i_A_rod [(2, 0), (0, a), (0, b), (0, c)] i_M_rod [(2, 100), (0, a), (0, b), (0, c)] σ (fun _ _ σ2 => q_J (i + 6) σ2) := fun _ _ _ => q_P2w (q_P2and (t_4 h.1) (q_P2and (s_4 h.1 h.2.1) (q_P2and (r_4 hi hj h.1 h.2.2.1) (q_P2and (ck_4 h.1 h.2.2.2.1) (rf_4 h.1 h.2.2.1 h.2.2.2.2))))) (fun _ _ _ e => ⟨e.1.1, e.2.1, e.2.2.1.1, e.2.2.2.1, e.2.2.2.2⟩)
theorem j_5 {i : Int} {σ : q_S} (hi : 0 ≤ i) (hj : i + 6 ≤ 3072) (h : q_J i σ) : ∀ a b : Int, q_P2 L xs i_A_sluice [(2, 0), (0, a), (0, b)] i_M_sluice [(2, 100), (0, a), (0, b)] σ (fun _ _ σ2 => q_J (i + 6) σ2) := fun _ _ => q_P2w (q_P2and (t_5 h.1) (q_P2and (s_5 h.1 h.2.1) (q_P2and (r_5 hi hj h.1 h.2.2.1) (q_P2and (ck_5 h.1 h.2.2.2.1) (rf_5 h.1 h.2.2.2.2))))) (fun _ _ _ e => ⟨e.1.1, e.2.1, e.2.2.1.1, e.2.2.2.1, e.2.2.2.2⟩)
theorem j_6 {i : Int} {σ : q_S} (hi : 0 ≤ i) (hj : i + 6 ≤ 3072) (h : q_J i σ) : ∀ a b : Int, q_P2 L xs i_A_about [(2, 0), (0, a), (0, b)] i_M_about [(2, 100), (0, a), (0, b)] σ (fun _ _ σ2 => q_J (i + 6) σ2) := fun _ _ => q_P2w (q_P2and (t_6 h.1) (q_P2and (s_6 h.1 h.2.1) (q_P2and (r_6 hi hj h.1 h.2.2.1) (q_P2and (ck_6 h.1 h.2.2.2.1) (rf_6 h.1 h.2.2.2.2))))) (fun _ _ _ e => ⟨e.1, e.2.1, e.2.2.1, e.2.2.2.1, e.2.2.2.2⟩)
theorem j_7 {i : Int} {σ : q_S} (hi : 0 ≤ i) (hj : i + 6 ≤ 3072) (h : q_J i σ) : ∀ a b c : Int, q_P2 L xs i_A_gate [(2, 0), (0, a), (0, b), (0, c)] i_M_gate [(2, 100), (0, a), (0, b), (0, c)] σ (fun _ _ σ2 => q_J (i + 6) σ2) := fun _ _ _ => q_P2w (q_P2and (t_7 h.1) (q_P2and (s_7 h.1 h.2.1) (q_P2and (r_7 hi hj h.1 h.2.2.1) (q_P2and (ck_7 h.1 h.2.2.2.1) (rf_7 h.1 h.2.2.2.2))))) (fun _ _ _ e => ⟨e.1, e.2.1, e.2.2.1.1, e.2.2.2.1, e.2.2.2.2⟩)
theorem j_8 {i : Int} {σ : q_S} (hi : 0 ≤ i) (hj : i + 6 ≤ 3072) (h : q_J i σ) : ∀ a : Int, q_P2 L xs i_A_herd [(2, 0), (0, a)] i_M_herd [(2, 100), (0, a)] σ (fun _ _ σ2 => q_J (i + 6) σ2) := fun _ => q_P2w (q_P2and (t_8 h.1) (q_P2and (s_8 h.1 h.2.1) (q_P2and (r_8 hi hj h.1 h.2.2.1) (q_P2and (ck_8 h.1 h.2.2.2.1) (rf_8 h.1 h.2.2.2.2))))) (fun _ _ _ e => ⟨e.1.1, e.2.1, e.2.2.1.1, e.2.2.2.1, e.2.2.2.2⟩)
theorem j_9 {i : Int} {σ : q_S} (hi : 0 ≤ i) (hj : i + 6 ≤ 3072) (h : q_J i σ) : ∀ a b : Int, q_P2 L xs i_A_drive [(2, 0), (0, a), (0, b)] i_M_drive [(2, 100), (0, a), (0, b)] σ (fun _ _ σ2 => q_J (i + 6) σ2) := fun _ _ => q_P2w (q_P2and (t_9 h.1) (q_P2and (s_9 h.1 h.2.1) (q_P2and (r_9 hi hj h.1 h.2.2.1) (q_P2and (ck_9 h.1 h.2.2.2.1) (rf_9 h.1 h.2.2.2.2))))) (fun _ _ _ e => ⟨e.1, e.2.1, e.2.2.1.1, e.2.2.2.1, e.2.2.2.2⟩)
theorem j_10 {i : Int} {σ : q_S} (hi : 0 ≤ i) (hj : i + 6 ≤ 3072) (h : q_J i σ) : ∀ a : Int, q_P2 L xs i_A_where [(2, 0), (0, a)] i_M_where [(2, 100), (0, a)] σ (fun _ _ σ2 => q_J (i + 6) σ2) := fun _ => q_P2w (q_P2and (t_10 h.1) (q_P2and (s_10 h.1 h.2.1) (q_P2and (r_10 hi hj h.1 h.2.2.1) (q_P2and (ck_10 h.1 h.2.2.2.1) (rf_10 h.1 h.2.2.2.2))))) (fun _ _ _ e => ⟨e.1, e.2.1, e.2.2.1.1, e.2.2.2.1, e.2.2.2.2⟩)
theorem j_11 {i : Int} {σ : q_S} (hi : 0 ≤ i) (hj : i + 6 ≤ 3072) (h : q_J i σ) : ∀ a b c : Int, q_P2 L xs i_A_way [(2, 0), (0, a), (0, b), (0, c)] i_M_way [(2, 100), (0, a), (0, b), (0, c)] σ (fun _ _ σ2 => q_J (i + 6) σ2) := fun _ _ _ => q_P2w (q_P2and (t_11 h.1) (q_P2and (s_11 h.1 h.2.1) (q_P2and (r_11 hi hj h.1 h.2.2.1) (q_P2and (ck_11 h.1 h.2.2.2.1) (rf_11 h.1 h.2.2.2.2))))) (fun _ _ _ e => ⟨e.1, e.2.1, e.2.2.1, e.2.2.2.1, e.2.2.2.2⟩)
theorem j_12 {i : Int} {σ : q_S} (hi : 0 ≤ i) (hj : i + 6 ≤ 3072) (h : q_J i σ) : ∀ a b c : Int, q_P2 L xs i_A_tide [(2, 0), (0, a), (0, b), (0, c)] i_M_tide [(2, 100), (0, a), (0, b), (0, c)] σ (fun _ _ σ2 => q_J (i + 6) σ2) := fun _ _ _ => q_P2w (q_P2and (t_12 h.1) (q_P2and (s_12 h.1 h.2.1) (q_P2and (r_12 hi hj h.1 h.2.2.1) (q_P2and (ck_12 h.1 h.2.2.2.1) (rf_12 h.1 h.2.2.2.2))))) (fun _ _ _ e => ⟨e.1, e.2.1, e.2.2.1.1, e.2.2.2.1, e.2.2.2.2⟩)
theorem j_13 {i : Int} {σ : q_S} (hi : 0 ≤ i) (hj : i + 6 ≤ 3072) (h : q_J i σ) : ∀ a : Int, q_P2 L xs i_A_pass [(2, 0), (0, a)] i_M_pass [(2, 100), (0, a)] σ (fun _ _ σ2 => q_J (i + 6) σ2) := fun _ => q_P2w (q_P2and (t_13 h.1) (q_P2and (s_13 h.1 h.2.1) (q_P2and (r_13 hi hj h.1 h.2.2.1) (q_P2and (ck_13 h.1 h.2.2.2.1) (rf_13 h.1 h.2.2.2.2))))) (fun _ _ _ e => ⟨e.1, e.2.1, e.2.2.1.1, e.2.2.2.1, e.2.2.2.2⟩)
theorem j_14 {i : Int} {σ : q_S} (hi : 0 ≤ i) (hj : i + 6 ≤ 3072) (h : q_J i σ) : q_P2 L xs i_A_year [(2, 0)] i_M_year [(2, 100)] σ (fun _ _ σ2 => q_J (i + 6) σ2) := q_P2w (q_P2and (t_14 h.1) (q_P2and (s_14 h.1 h.2.1) (q_P2and (r_14 hi hj h.1 h.2.2.1) (q_P2and (ck_14 h.1 h.2.2.2.1) (rf_14 h.1 h.2.2.2.2))))) (fun _ _ _ e => ⟨e.1, e.2.1, e.2.2.1.1, e.2.2.2.1, e.2.2.2.2⟩)
theorem j_15 {i : Int} {σ : q_S} (hi : 0 ≤ i) (hj : i + 6 ≤ 3072) (h : q_J i σ) : ∀ a b : Int, q_P2 L xs i_A_feed [(2, 0), (1, a), (0, b)] i_M_feed [(2, 100), (1, a), (0, b)] σ (fun _ _ σ2 => q_J (i + 6) σ2) := fun _ _ => q_P2w (q_P2and (t_15 h.1) (q_P2and (s_15 h.1 h.2.1) (q_P2and (r_15 hi hj h.1 h.2.2.1) (q_P2and (ck_15 h.1 h.2.2.2.1) (rf_15 h.1 h.2.2.2.2))))) (fun _ _ _ e => ⟨e.1, e.2.1, e.2.2.1, e.2.2.2.1.1, e.2.2.2.2⟩)
theorem j_16 {i : Int} {σ : q_S} (hi : 0 ≤ i) (hj : i + 6 ≤ 3072) (h : q_J i σ) : ∀ a : Int, q_P2 L xs i_A_court [(2, 0), (0, a)] i_M_court [(2, 100), (0, a)] σ (fun _ _ σ2 => q_J (i + 6) σ2) := fun _ => q_P2w (q_P2and (t_16 h.1) (q_P2and (s_16 h.1 h.2.1) (q_P2and (r_16 hi hj h.1 h.2.2.1) (q_P2and (ck_16 h.1 h.2.2.2.1) (rf_16 h.1 h.2.2.2.2))))) (fun _ _ _ e => ⟨e.1, e.2.1, e.2.2.1, e.2.2.2.1.1, e.2.2.2.2⟩)
theorem j_17 {i : Int} {σ : q_S} (hi : 0 ≤ i) (hj : i + 6 ≤ 3072) (h : q_J i σ) : ∀ a b c : Int, q_P2 L xs i_A_custom [(2, 0), (0, a), (0, b), (0, c)] i_M_custom [(2, 100), (0, a), (0, b), (0, c)] σ (fun _ _ σ2 => q_J (i + 6) σ2) := fun _ _ _ => q_P2w (q_P2and (t_17 h.1) (q_P2and (s_17 h.1 h.2.1) (q_P2and (r_17 hi hj h.1 h.2.2.1) (q_P2and (ck_17 h.1 h.2.2.2.1) (rf_17 h.1 h.2.2.2.2))))) (fun _ _ _ e => ⟨e.1, e.2.1, e.2.2.1, e.2.2.2.1, e.2.2.2.2⟩)
theorem j_18 {i : Int} {σ : q_S} (hi : 0 ≤ i) (hj : i + 6 ≤ 3072) (h : q_J i σ) : ∀ a b c d : Int, q_P2 L xs i_A_mender [(2, 0), (0, a), (0, b), (0, c), (0, d)] i_M_mender [(2, 100), (0, a), (0, b), (0, c), (0, d)] σ (fun _ _ σ2 => q_J (i + 6) σ2) := fun _ _ _ _ => q_P2w (q_P2and (t_18 h.1) (q_P2and (s_18 h.1 h.2.1) (q_P2and (r_18 hi hj h.1 h.2.2.1) (q_P2and (ck_18 h.1 h.2.2.2.1) (rf_18 h.1 h.2.2.2.2))))) (fun _ _ _ e => ⟨e.1, e.2.1, e.2.2.1, e.2.2.2.1, e.2.2.2.2⟩)
theorem j_19 {i : Int} {σ : q_S} (hi : 0 ≤ i) (hj : i + 6 ≤ 3072) (h : q_J i σ) : ∀ a : Int, q_P2 L xs i_A_view [(2, 0), (0, a)] i_M_view [(2, 100), (0, a)] σ (fun _ _ σ2 => q_J (i + 6) σ2) := fun _ => q_P2w (q_P2and (t_19 h.1) (q_P2and (s_19 h.1 h.2.1) (q_P2and (r_19 hi hj h.1 h.2.2.1) (q_P2and (ck_19 h.1 h.2.2.2.1) (rf_19 h.1 h.2.1 h.2.2.1 h.2.2.2.1 h.2.2.2.2))))) (fun _ _ _ e => ⟨e.1, e.2.1, e.2.2.1, e.2.2.2.1, e.2.2.2.2.1⟩)
theorem j_20 {i : Int} {σ : q_S} (hi : 0 ≤ i) (hj : i + 6 ≤ 3072) (h : q_J i σ) : ∀ a b c : Int, q_P2 L xs i_A_mend [(2, 0), (0, a), (0, b), (0, c)] i_M_mend [(2, 100), (0, a), (0, b), (0, c)] σ (fun _ _ σ2 => q_J (i + 6) σ2) := fun _ _ _ => q_P2w (q_P2and (t_20 h.1) (q_P2and (s_20 h.1 h.2.1) (q_P2and (r_20 hi hj h.1 h.2.2.1) (q_P2and (ck_20 h.1 h.2.2.2.1) (rf_20 h.1 h.2.2.1 h.2.2.2.2))))) (fun _ _ _ e => ⟨e.1, e.2.1, e.2.2.1.1, e.2.2.2.1, e.2.2.2.2⟩)
theorem j_21 {i : Int} {σ : q_S} (hi : 0 ≤ i) (hj : i + 6 ≤ 3072) (h : q_J i σ) : ∀ a b : Int, q_P2 L xs i_A_fault [(2, 0), (0, a), (0, b)] i_M_fault [(2, 100), (0, a), (0, b)] σ (fun _ _ σ2 => q_J (i + 6) σ2) := fun _ _ => q_P2w (q_P2and (t_21 h.1) (q_P2and (s_21 h.1 h.2.1) (q_P2and (r_21 hi hj h.1 h.2.2.1) (q_P2and (ck_21 h.1 h.2.2.2.1) (rf_21 h.1 h.2.2.2.2))))) (fun _ _ _ e => ⟨e.1, e.2.1, e.2.2.1, e.2.2.2.1, e.2.2.2.2⟩)
theorem j_22 {i : Int} {σ : q_S} (hi : 0 ≤ i) (hj : i + 6 ≤ 3072) (h : q_J i σ) : ∀ a : Int, q_P2 L xs i_A_fines [(2, 0), (0, a)] i_M_fines [(2, 100), (0, a)] σ (fun _ _ σ2 => q_J (i + 6) σ2) := fun _ => q_P2w (q_P2and (t_22 h.1) (q_P2and (s_22 h.1 h.2.1) (q_P2and (r_22 hi hj h.1 h.2.2.1) (q_P2and (ck_22 h.1 h.2.2.2.1) (rf_22 h.1 h.2.2.2.2))))) (fun _ _ _ e => ⟨e.1, e.2.1, e.2.2.1, e.2.2.2.1, e.2.2.2.2⟩)
theorem j_23 {i : Int} {σ : q_S} (hi : 0 ≤ i) (hj : i + 6 ≤ 3072) (h : q_J i σ) : ∀ a : Int, q_P2 L xs i_A_mended [(2, 0), (0, a)] i_M_mended [(2, 100), (0, a)] σ (fun _ _ σ2 => q_J (i + 6) σ2) := fun _ => q_P2w (q_P2and (t_23 h.1) (q_P2and (s_23 h.1 h.2.1) (q_P2and (r_23 hi hj h.1 h.2.2.1) (q_P2and (ck_23 h.1 h.2.2.2.1) (rf_23 h.1 h.2.2.2.2))))) (fun _ _ _ e => ⟨e.1, e.2.1, e.2.2.1.1, e.2.2.2.1, e.2.2.2.2⟩)
theorem j_24 {i : Int} {σ : q_S} (hi : 0 ≤ i) (hj : i + 6 ≤ 3072) (h : q_J i σ) : ∀ a b : Int, q_P2 L xs i_A_works [(2, 0), (0, a), (0, b)] i_M_works [(2, 100), (0, a), (0, b)] σ (fun x y σ2 => q_J (i + 6) σ2 ∧ x = y) := fun _ _ => q_P2w (q_P2and (a_24 h.1 h.2.2.1 h.2.2.2.1) (q_P2and (t_24 h.1) (q_P2and (s_24 h.1 h.2.1) (q_P2and (r_24 hi hj h.1 h.2.2.1) (q_P2and (ck_24 h.1 h.2.2.2.1) (rf_24 h.1 h.2.2.2.2)))))) (fun _ _ _ e => ⟨⟨e.2.1, e.2.2.1, e.2.2.2.1, e.2.2.2.2.1, e.2.2.2.2.2⟩, e.1⟩)
theorem j_25 {i : Int} {σ : q_S} (hi : 0 ≤ i) (hj : i + 6 ≤ 3072) (h : q_J i σ) : ∀ a b : Int, q_P2 L xs i_A_scot [(2, 0), (0, a), (0, b)] i_M_scot [(2, 100), (0, a), (0, b)] σ (fun _ _ σ2 => q_J (i + 6) σ2) := fun _ _ => q_P2w (q_P2and (t_25 h.1) (q_P2and (s_25 h.1 h.2.1) (q_P2and (r_25 hi hj h.1 h.2.2.1) (q_P2and (ck_25 h.1 h.2.2.2.1) (rf_25 h.1 h.2.2.2.2))))) (fun _ _ _ e => ⟨e.1, e.2.1, e.2.2.1, e.2.2.2.1, e.2.2.2.2⟩)
theorem j_26 {i : Int} {σ : q_S} (hi : 0 ≤ i) (hj : i + 6 ≤ 3072) (h : q_J i σ) : ∀ a : Int, q_P2 L xs i_A_count [(2, 0), (0, a)] i_M_count [(2, 100), (0, a)] σ (fun _ _ σ2 => q_J (i + 6) σ2) := fun _ => q_P2w (q_P2and (t_26 h.1) (q_P2and (s_26 h.1 h.2.1) (q_P2and (r_26 hi hj h.1 h.2.2.1) (q_P2and (ck_26 h.1 h.2.2.2.1) (rf_26 h.1 h.2.2.2.2))))) (fun _ _ _ e => ⟨e.1, e.2.1, e.2.2.1, e.2.2.2.1, e.2.2.2.2⟩)
theorem l_law {K : q_R → q_S → Prop} (hL : L ≤ 3072) (hK : ∀ σ, (∃ i, q_J i σ) → K (some (0, 1)) σ) :
    ∀ (m : Nat) (i : Int) (σ : q_S), (L : Int) + 6 - i < m → 0 ≤ i → i ≤ L + 6 → q_J i σ → q_E L xs k_law_law (10, [(4, 0), (2, 0), (2, 100), (0, i)], [], σ) K :=
  l_lawG (J := q_J) hL (fun i σ h => hK σ ⟨i, h⟩) (fun i σ hi h => q_J6 hi h) (fun i σ hi hj h => j_0 hi hj h) (fun i σ hi hj h => j_1 hi hj h) (fun i σ hi hj h => j_2 hi hj h) (fun i σ hi hj h => j_3 hi hj h) (fun i σ hi hj h => j_4 hi hj h) (fun i σ hi hj h => j_5 hi hj h) (fun i σ hi hj h => j_6 hi hj h) (fun i σ hi hj h => j_7 hi hj h) (fun i σ hi hj h => j_8 hi hj h) (fun i σ hi hj h => j_9 hi hj h) (fun i σ hi hj h => j_10 hi hj h) (fun i σ hi hj h => j_11 hi hj h) (fun i σ hi hj h => j_12 hi hj h) (fun i σ hi hj h => j_13 hi hj h) (fun i σ hi hj h => j_14 hi hj h) (fun i σ hi hj h => j_15 hi hj h) (fun i σ hi hj h => j_16 hi hj h) (fun i σ hi hj h => j_17 hi hj h) (fun i σ hi hj h => j_18 hi hj h) (fun i σ hi hj h => j_19 hi hj h) (fun i σ hi hj h => j_20 hi hj h) (fun i σ hi hj h => j_21 hi hj h) (fun i σ hi hj h => j_22 hi hj h) (fun i σ hi hj h => j_23 hi hj h) (fun i σ hi hj h => j_24 hi hj h) (fun i σ hi hj h => j_25 hi hj h) (fun i σ hi hj h => j_26 hi hj h)
end P83b
