section P65
variable {L : Nat} {xs : Int → Int}

set_option maxRecDepth 100000 in
theorem l_cs_1 {i : Int} {σ : q_S} {K : q_R → q_S → Prop} (hL : L ≤ 3072) (hi : 0 ≤ i ∧ i + 6 ≤ L) (h : q_IN σ) (hN : ∀ σ', q_IN σ' → q_E L xs k_law_law (805, [(4, 0), (2, 0), (2, 100), (0, i)], [], σ') K) : q_E L xs k_law_law (49, [(4, 0), (2, 0), (2, 100), (0, i)], [], σ) K := by
  have e1 : q_w32 (i + 1) = i + 1 := by rw [q_w32_id] <;> omega
  have e2 : q_w32 (i + 2) = i + 2 := by rw [q_w32_id] <;> omega
  have e3 : q_w32 (i + 3) = i + 3 := by rw [q_w32_id] <;> omega
  have e4 : q_w32 (i + 4) = i + 4 := by rw [q_w32_id] <;> omega
  have e5 : q_w32 (i + 5) = i + 5 := by rw [q_w32_id] <;> omega
  refine q_go1 200 49 [805] (fun cl ev hcl hev => ?_)
  repeat' (first | refine And.intro ?_ ?_ | (intro hq; first | exact absurd hq (by decide) | exact absurd rfl hq | exact absurd hq (show ¬ (1 : Int) = 0 by decide) | exact absurd (show (1 : Int) ≠ 0 by decide) hq | skip) | (show cl _ _ _ _; first | refine hcl _ _ _ _ (c_A_cell (fun x => ?_)) | refine hcl _ _ _ _ (m_cell (h).2.1 (fun y σ2 hM hF => ?_))))
  all_goals first
    | omega
    | exact hev _ (hN _ (q_INm (h) hM hF))

set_option maxRecDepth 100000 in
theorem l_cs_2 {i : Int} {σ : q_S} {K : q_R → q_S → Prop} (hL : L ≤ 3072) (hi : 0 ≤ i ∧ i + 6 ≤ L) (h : q_IN σ) (hN : ∀ σ', q_IN σ' → q_E L xs k_law_law (805, [(4, 0), (2, 0), (2, 100), (0, i)], [], σ') K) : q_E L xs k_law_law (76, [(4, 0), (2, 0), (2, 100), (0, i)], [], σ) K := by
  have e1 : q_w32 (i + 1) = i + 1 := by rw [q_w32_id] <;> omega
  have e2 : q_w32 (i + 2) = i + 2 := by rw [q_w32_id] <;> omega
  have e3 : q_w32 (i + 3) = i + 3 := by rw [q_w32_id] <;> omega
  have e4 : q_w32 (i + 4) = i + 4 := by rw [q_w32_id] <;> omega
  have e5 : q_w32 (i + 5) = i + 5 := by rw [q_w32_id] <;> omega
  refine q_go1 200 76 [805] (fun cl ev hcl hev => ?_)
  repeat' (first | refine And.intro ?_ ?_ | (intro hq; first | exact absurd hq (by decide) | exact absurd rfl hq | exact absurd hq (show ¬ (1 : Int) = 0 by decide) | exact absurd (show (1 : Int) ≠ 0 by decide) hq | skip) | (show cl _ _ _ _; first | refine hcl _ _ _ _ (c_A_sell (W := q_W0) (σ0 := σ) (fun k i hk => by unfold w_sa at hk; unfold q_W0 q_cp; omega) (q_AW0 h) (fun x σ1 h1 => ?_)) | refine hcl _ _ _ _ (m_sell (q_INa h h1).2.1 (fun y σ2 hM hF => ?_))))
  all_goals first
    | omega
    | exact hev _ (hN _ (q_INm (q_INa h h1) hM hF))

set_option maxRecDepth 100000 in
theorem l_cs_3 {i : Int} {σ : q_S} {K : q_R → q_S → Prop} (hL : L ≤ 3072) (hi : 0 ≤ i ∧ i + 6 ≤ L) (h : q_IN σ) (hN : ∀ σ', q_IN σ' → q_E L xs k_law_law (805, [(4, 0), (2, 0), (2, 100), (0, i)], [], σ') K) : q_E L xs k_law_law (133, [(4, 0), (2, 0), (2, 100), (0, i)], [], σ) K := by
  have e1 : q_w32 (i + 1) = i + 1 := by rw [q_w32_id] <;> omega
  have e2 : q_w32 (i + 2) = i + 2 := by rw [q_w32_id] <;> omega
  have e3 : q_w32 (i + 3) = i + 3 := by rw [q_w32_id] <;> omega
  have e4 : q_w32 (i + 4) = i + 4 := by rw [q_w32_id] <;> omega
  have e5 : q_w32 (i + 5) = i + 5 := by rw [q_w32_id] <;> omega
  refine q_go1 200 133 [805] (fun cl ev hcl hev => ?_)
  repeat' (first | refine And.intro ?_ ?_ | (intro hq; first | exact absurd hq (by decide) | exact absurd rfl hq | exact absurd hq (show ¬ (1 : Int) = 0 by decide) | exact absurd (show (1 : Int) ≠ 0 by decide) hq | skip) | (show cl _ _ _ _; first | refine hcl _ _ _ _ (c_A_held (q_oSales (q_AW0 (W := q_W0) h)) (fun x => ?_)) | refine hcl _ _ _ _ (m_held (h).2.1 (fun y σ2 hM hF => ?_))))
  all_goals first
    | omega
    | exact hev _ (hN _ (q_INm (h) hM hF))

set_option maxRecDepth 100000 in
theorem l_cs_6 {i : Int} {σ : q_S} {K : q_R → q_S → Prop} (hL : L ≤ 3072) (hi : 0 ≤ i ∧ i + 6 ≤ L) (h : q_IN σ) (hN : ∀ σ', q_IN σ' → q_E L xs k_law_law (805, [(4, 0), (2, 0), (2, 100), (0, i)], [], σ') K) : q_E L xs k_law_law (244, [(4, 0), (2, 0), (2, 100), (0, i)], [], σ) K := by
  have e1 : q_w32 (i + 1) = i + 1 := by rw [q_w32_id] <;> omega
  have e2 : q_w32 (i + 2) = i + 2 := by rw [q_w32_id] <;> omega
  have e3 : q_w32 (i + 3) = i + 3 := by rw [q_w32_id] <;> omega
  have e4 : q_w32 (i + 4) = i + 4 := by rw [q_w32_id] <;> omega
  have e5 : q_w32 (i + 5) = i + 5 := by rw [q_w32_id] <;> omega
  refine q_go1 200 244 [805] (fun cl ev hcl hev => ?_)
  repeat' (first | refine And.intro ?_ ?_ | (intro hq; first | exact absurd hq (by decide) | exact absurd rfl hq | exact absurd hq (show ¬ (1 : Int) = 0 by decide) | exact absurd (show (1 : Int) ≠ 0 by decide) hq | skip) | (show cl _ _ _ _; first | refine hcl _ _ _ _ (c_A_about (q_oBank (q_AW0 (W := q_W0) h)) (q_oCourts (q_AW0 (W := q_W0) h)) (fun x => ?_)) | refine hcl _ _ _ _ (m_about (h).2.1 (fun y σ2 hM hF => ?_))))
  all_goals first
    | omega
    | exact hev _ (hN _ (q_INm (h) hM hF))

set_option maxRecDepth 100000 in
theorem l_cs_7 {i : Int} {σ : q_S} {K : q_R → q_S → Prop} (hL : L ≤ 3072) (hi : 0 ≤ i ∧ i + 6 ≤ L) (h : q_IN σ) (hN : ∀ σ', q_IN σ' → q_E L xs k_law_law (805, [(4, 0), (2, 0), (2, 100), (0, i)], [], σ') K) : q_E L xs k_law_law (271, [(4, 0), (2, 0), (2, 100), (0, i)], [], σ) K := by
  have e1 : q_w32 (i + 1) = i + 1 := by rw [q_w32_id] <;> omega
  have e2 : q_w32 (i + 2) = i + 2 := by rw [q_w32_id] <;> omega
  have e3 : q_w32 (i + 3) = i + 3 := by rw [q_w32_id] <;> omega
  have e4 : q_w32 (i + 4) = i + 4 := by rw [q_w32_id] <;> omega
  have e5 : q_w32 (i + 5) = i + 5 := by rw [q_w32_id] <;> omega
  refine q_go1 200 271 [805] (fun cl ev hcl hev => ?_)
  repeat' (first | refine And.intro ?_ ?_ | (intro hq; first | exact absurd hq (by decide) | exact absurd rfl hq | exact absurd hq (show ¬ (1 : Int) = 0 by decide) | exact absurd (show (1 : Int) ≠ 0 by decide) hq | skip) | (show cl _ _ _ _; first | refine hcl _ _ _ _ (n_gate (W := q_W0) (σ0 := σ) (fun i => by unfold q_W0 q_cp; omega) (q_AW0 h) (fun x σ1 h1 => ?_)) | refine hcl _ _ _ _ (m_gate (q_INa h h1).2.1 (fun y σ2 hM hF => ?_))))
  all_goals first
    | omega
    | exact hev _ (hN _ (q_INm (q_INa h h1) hM hF))

set_option maxRecDepth 100000 in
theorem l_cs_9 {i : Int} {σ : q_S} {K : q_R → q_S → Prop} (hL : L ≤ 3072) (hi : 0 ≤ i ∧ i + 6 ≤ L) (h : q_IN σ) (hN : ∀ σ', q_IN σ' → q_E L xs k_law_law (805, [(4, 0), (2, 0), (2, 100), (0, i)], [], σ') K) : q_E L xs k_law_law (325, [(4, 0), (2, 0), (2, 100), (0, i)], [], σ) K := by
  have e1 : q_w32 (i + 1) = i + 1 := by rw [q_w32_id] <;> omega
  have e2 : q_w32 (i + 2) = i + 2 := by rw [q_w32_id] <;> omega
  have e3 : q_w32 (i + 3) = i + 3 := by rw [q_w32_id] <;> omega
  have e4 : q_w32 (i + 4) = i + 4 := by rw [q_w32_id] <;> omega
  have e5 : q_w32 (i + 5) = i + 5 := by rw [q_w32_id] <;> omega
  refine q_go1 200 325 [805] (fun cl ev hcl hev => ?_)
  repeat' (first | refine And.intro ?_ ?_ | (intro hq; first | exact absurd hq (by decide) | exact absurd rfl hq | exact absurd hq (show ¬ (1 : Int) = 0 by decide) | exact absurd (show (1 : Int) ≠ 0 by decide) hq | skip) | (show cl _ _ _ _; first | refine hcl _ _ _ _ (c_A_drive (W := q_W0) (σ0 := σ) (fun k i hk => by unfold w_hd at hk; unfold q_W0 q_cp; omega) (q_AW0 h) (fun x σ1 h1 => ?_)) | refine hcl _ _ _ _ (m_drive (q_INa h h1).2.1 (fun y σ2 hM hF => ?_))))
  all_goals first
    | omega
    | exact hev _ (hN _ (q_INm (q_INa h h1) hM hF))

set_option maxRecDepth 100000 in
theorem l_cs_10 {i : Int} {σ : q_S} {K : q_R → q_S → Prop} (hL : L ≤ 3072) (hi : 0 ≤ i ∧ i + 6 ≤ L) (h : q_IN σ) (hN : ∀ σ', q_IN σ' → q_E L xs k_law_law (805, [(4, 0), (2, 0), (2, 100), (0, i)], [], σ') K) : q_E L xs k_law_law (352, [(4, 0), (2, 0), (2, 100), (0, i)], [], σ) K := by
  have e1 : q_w32 (i + 1) = i + 1 := by rw [q_w32_id] <;> omega
  have e2 : q_w32 (i + 2) = i + 2 := by rw [q_w32_id] <;> omega
  have e3 : q_w32 (i + 3) = i + 3 := by rw [q_w32_id] <;> omega
  have e4 : q_w32 (i + 4) = i + 4 := by rw [q_w32_id] <;> omega
  have e5 : q_w32 (i + 5) = i + 5 := by rw [q_w32_id] <;> omega
  refine q_go1 200 352 [805] (fun cl ev hcl hev => ?_)
  repeat' (first | refine And.intro ?_ ?_ | (intro hq; first | exact absurd hq (by decide) | exact absurd rfl hq | exact absurd hq (show ¬ (1 : Int) = 0 by decide) | exact absurd (show (1 : Int) ≠ 0 by decide) hq | skip) | (show cl _ _ _ _; first | refine hcl _ _ _ _ (c_A_where (q_oHerds (q_AW0 (W := q_W0) h)) (fun x => ?_)) | refine hcl _ _ _ _ (m_where (h).2.1 (fun y σ2 hM hF => ?_))))
  all_goals first
    | omega
    | exact hev _ (hN _ (q_INm (h) hM hF))

set_option maxRecDepth 100000 in
theorem l_cs_11 {i : Int} {σ : q_S} {K : q_R → q_S → Prop} (hL : L ≤ 3072) (hi : 0 ≤ i ∧ i + 6 ≤ L) (h : q_IN σ) (hN : ∀ σ', q_IN σ' → q_E L xs k_law_law (805, [(4, 0), (2, 0), (2, 100), (0, i)], [], σ') K) : q_E L xs k_law_law (369, [(4, 0), (2, 0), (2, 100), (0, i)], [], σ) K := by
  have e1 : q_w32 (i + 1) = i + 1 := by rw [q_w32_id] <;> omega
  have e2 : q_w32 (i + 2) = i + 2 := by rw [q_w32_id] <;> omega
  have e3 : q_w32 (i + 3) = i + 3 := by rw [q_w32_id] <;> omega
  have e4 : q_w32 (i + 4) = i + 4 := by rw [q_w32_id] <;> omega
  have e5 : q_w32 (i + 5) = i + 5 := by rw [q_w32_id] <;> omega
  refine q_go1 200 369 [805] (fun cl ev hcl hev => ?_)
  repeat' (first | refine And.intro ?_ ?_ | (intro hq; first | exact absurd hq (by decide) | exact absurd rfl hq | exact absurd hq (show ¬ (1 : Int) = 0 by decide) | exact absurd (show (1 : Int) ≠ 0 by decide) hq | skip) | (show cl _ _ _ _; first | refine hcl _ _ _ _ (c_A_way (W := q_W0) (σ0 := σ) (fun k i hk => by unfold w_wy at hk; unfold q_W0 q_cp; omega) (q_AW0 h) (fun x σ1 h1 => ?_)) | refine hcl _ _ _ _ (m_way (q_INa h h1).2.1 (fun y σ2 hM hF => ?_))))
  all_goals first
    | omega
    | exact hev _ (hN _ (q_INm (q_INa h h1) hM hF))

set_option maxRecDepth 100000 in
theorem l_cs_12 {i : Int} {σ : q_S} {K : q_R → q_S → Prop} (hL : L ≤ 3072) (hi : 0 ≤ i ∧ i + 6 ≤ L) (h : q_IN σ) (hN : ∀ σ', q_IN σ' → q_E L xs k_law_law (805, [(4, 0), (2, 0), (2, 100), (0, i)], [], σ') K) : q_E L xs k_law_law (406, [(4, 0), (2, 0), (2, 100), (0, i)], [], σ) K := by
  have e1 : q_w32 (i + 1) = i + 1 := by rw [q_w32_id] <;> omega
  have e2 : q_w32 (i + 2) = i + 2 := by rw [q_w32_id] <;> omega
  have e3 : q_w32 (i + 3) = i + 3 := by rw [q_w32_id] <;> omega
  have e4 : q_w32 (i + 4) = i + 4 := by rw [q_w32_id] <;> omega
  have e5 : q_w32 (i + 5) = i + 5 := by rw [q_w32_id] <;> omega
  refine q_go1 200 406 [805] (fun cl ev hcl hev => ?_)
  repeat' (first | refine And.intro ?_ ?_ | (intro hq; first | exact absurd hq (by decide) | exact absurd rfl hq | exact absurd hq (show ¬ (1 : Int) = 0 by decide) | exact absurd (show (1 : Int) ≠ 0 by decide) hq | skip) | (show cl _ _ _ _; first | refine hcl _ _ _ _ (n_tide (W := q_W0) (σ0 := σ) (fun k i hk => by unfold w_tide at hk; unfold q_W0 q_cp; omega) (by unfold q_W0 q_cp; omega) (q_AW0 h) (fun x σ1 h1 => ?_)) | refine hcl _ _ _ _ (m_tide (q_INa h h1).2.1 (fun y σ2 hM hF => ?_))))
  all_goals first
    | omega
    | exact hev _ (hN _ (q_INm (q_INa h h1) hM hF))

set_option maxRecDepth 100000 in
theorem l_cs_13 {i : Int} {σ : q_S} {K : q_R → q_S → Prop} (hL : L ≤ 3072) (hi : 0 ≤ i ∧ i + 6 ≤ L) (h : q_IN σ) (hN : ∀ σ', q_IN σ' → q_E L xs k_law_law (805, [(4, 0), (2, 0), (2, 100), (0, i)], [], σ') K) : q_E L xs k_law_law (443, [(4, 0), (2, 0), (2, 100), (0, i)], [], σ) K := by
  have e1 : q_w32 (i + 1) = i + 1 := by rw [q_w32_id] <;> omega
  have e2 : q_w32 (i + 2) = i + 2 := by rw [q_w32_id] <;> omega
  have e3 : q_w32 (i + 3) = i + 3 := by rw [q_w32_id] <;> omega
  have e4 : q_w32 (i + 4) = i + 4 := by rw [q_w32_id] <;> omega
  have e5 : q_w32 (i + 5) = i + 5 := by rw [q_w32_id] <;> omega
  refine q_go1 200 443 [805] (fun cl ev hcl hev => ?_)
  repeat' (first | refine And.intro ?_ ?_ | (intro hq; first | exact absurd hq (by decide) | exact absurd rfl hq | exact absurd hq (show ¬ (1 : Int) = 0 by decide) | exact absurd (show (1 : Int) ≠ 0 by decide) hq | skip) | (show cl _ _ _ _; first | refine hcl _ _ _ _ (n_pass (W := q_W0) (σ0 := σ) (by unfold q_W0 q_cp; omega) (q_AW0 h) (fun x σ1 h1 => ?_)) | refine hcl _ _ _ _ (m_pass (q_INa h h1).2.1 (fun y σ2 hM hF => ?_))))
  all_goals first
    | omega
    | exact hev _ (hN _ (q_INm (q_INa h h1) hM hF))

set_option maxRecDepth 100000 in
theorem l_cs_14 {i : Int} {σ : q_S} {K : q_R → q_S → Prop} (hL : L ≤ 3072) (hi : 0 ≤ i ∧ i + 6 ≤ L) (h : q_IN σ) (hN : ∀ σ', q_IN σ' → q_E L xs k_law_law (805, [(4, 0), (2, 0), (2, 100), (0, i)], [], σ') K) : q_E L xs k_law_law (460, [(4, 0), (2, 0), (2, 100), (0, i)], [], σ) K := by
  have e1 : q_w32 (i + 1) = i + 1 := by rw [q_w32_id] <;> omega
  have e2 : q_w32 (i + 2) = i + 2 := by rw [q_w32_id] <;> omega
  have e3 : q_w32 (i + 3) = i + 3 := by rw [q_w32_id] <;> omega
  have e4 : q_w32 (i + 4) = i + 4 := by rw [q_w32_id] <;> omega
  have e5 : q_w32 (i + 5) = i + 5 := by rw [q_w32_id] <;> omega
  refine q_go1 200 460 [805] (fun cl ev hcl hev => ?_)
  repeat' (first | refine And.intro ?_ ?_ | (intro hq; first | exact absurd hq (by decide) | exact absurd rfl hq | exact absurd hq (show ¬ (1 : Int) = 0 by decide) | exact absurd (show (1 : Int) ≠ 0 by decide) hq | skip) | (show cl _ _ _ _; first | refine hcl _ _ _ _ (c_A_year (W := q_W0) (σ0 := σ) (fun k i hk => by unfold w_tide at hk; unfold q_W0 q_cp; omega) (q_AW0 h) (fun x σ1 h1 => ?_)) | refine hcl _ _ _ _ (m_year (q_INa h h1).2.1 (fun y σ2 hM hF => ?_))))
  all_goals first
    | omega
    | exact hev _ (hN _ (q_INm (q_INa h h1) hM hF))

set_option maxRecDepth 100000 in
theorem l_cs_15 {i : Int} {σ : q_S} {K : q_R → q_S → Prop} (hL : L ≤ 3072) (hi : 0 ≤ i ∧ i + 6 ≤ L) (h : q_IN σ) (hN : ∀ σ', q_IN σ' → q_E L xs k_law_law (805, [(4, 0), (2, 0), (2, 100), (0, i)], [], σ') K) : q_E L xs k_law_law (467, [(4, 0), (2, 0), (2, 100), (0, i)], [], σ) K := by
  have e1 : q_w32 (i + 1) = i + 1 := by rw [q_w32_id] <;> omega
  have e2 : q_w32 (i + 2) = i + 2 := by rw [q_w32_id] <;> omega
  have e3 : q_w32 (i + 3) = i + 3 := by rw [q_w32_id] <;> omega
  have e4 : q_w32 (i + 4) = i + 4 := by rw [q_w32_id] <;> omega
  have e5 : q_w32 (i + 5) = i + 5 := by rw [q_w32_id] <;> omega
  refine q_go1 200 467 [805] (fun cl ev hcl hev => ?_)
  repeat' (first | refine And.intro ?_ ?_ | (intro hq; first | exact absurd hq (by decide) | exact absurd rfl hq | exact absurd hq (show ¬ (1 : Int) = 0 by decide) | exact absurd (show (1 : Int) ≠ 0 by decide) hq | skip) | (show cl _ _ _ _; first | refine hcl _ _ _ _ (c_A_feed (W := q_W0) (σ0 := σ) (fun k i hk => by unfold w_fe at hk; unfold q_W0 q_cp; omega) (q_AW0 h) (fun x σ1 h1 => ?_)) | refine hcl _ _ _ _ (m_feed (q_INa h h1).2.1 (fun y σ2 hM hF => ?_))))
  all_goals first
    | omega
    | exact hev _ (hN _ (q_INm (q_INa h h1) hM hF))

set_option maxRecDepth 100000 in
theorem l_cs_16 {i : Int} {σ : q_S} {K : q_R → q_S → Prop} (hL : L ≤ 3072) (hi : 0 ≤ i ∧ i + 6 ≤ L) (h : q_IN σ) (hN : ∀ σ', q_IN σ' → q_E L xs k_law_law (805, [(4, 0), (2, 0), (2, 100), (0, i)], [], σ') K) : q_E L xs k_law_law (518, [(4, 0), (2, 0), (2, 100), (0, i)], [], σ) K := by
  have e1 : q_w32 (i + 1) = i + 1 := by rw [q_w32_id] <;> omega
  have e2 : q_w32 (i + 2) = i + 2 := by rw [q_w32_id] <;> omega
  have e3 : q_w32 (i + 3) = i + 3 := by rw [q_w32_id] <;> omega
  have e4 : q_w32 (i + 4) = i + 4 := by rw [q_w32_id] <;> omega
  have e5 : q_w32 (i + 5) = i + 5 := by rw [q_w32_id] <;> omega
  refine q_go1 200 518 [805] (fun cl ev hcl hev => ?_)
  repeat' (first | refine And.intro ?_ ?_ | (intro hq; first | exact absurd hq (by decide) | exact absurd rfl hq | exact absurd hq (show ¬ (1 : Int) = 0 by decide) | exact absurd (show (1 : Int) ≠ 0 by decide) hq | skip) | (show cl _ _ _ _; first | refine hcl _ _ _ _ (c_A_court (W := q_W0) (σ0 := σ) (fun k i hk => by unfold w_co at hk; unfold q_W0 q_cp; omega) (q_AW0 h) (fun x σ1 h1 => ?_)) | refine hcl _ _ _ _ (m_court (q_INa h h1).2.1 (fun y σ2 hM hF => ?_))))
  all_goals first
    | omega
    | exact hev _ (hN _ (q_INm (q_INa h h1) hM hF))

set_option maxRecDepth 100000 in
theorem l_cs_17 {i : Int} {σ : q_S} {K : q_R → q_S → Prop} (hL : L ≤ 3072) (hi : 0 ≤ i ∧ i + 6 ≤ L) (h : q_IN σ) (hN : ∀ σ', q_IN σ' → q_E L xs k_law_law (805, [(4, 0), (2, 0), (2, 100), (0, i)], [], σ') K) : q_E L xs k_law_law (535, [(4, 0), (2, 0), (2, 100), (0, i)], [], σ) K := by
  have e1 : q_w32 (i + 1) = i + 1 := by rw [q_w32_id] <;> omega
  have e2 : q_w32 (i + 2) = i + 2 := by rw [q_w32_id] <;> omega
  have e3 : q_w32 (i + 3) = i + 3 := by rw [q_w32_id] <;> omega
  have e4 : q_w32 (i + 4) = i + 4 := by rw [q_w32_id] <;> omega
  have e5 : q_w32 (i + 5) = i + 5 := by rw [q_w32_id] <;> omega
  refine q_go1 200 535 [805] (fun cl ev hcl hev => ?_)
  repeat' (first | refine And.intro ?_ ?_ | (intro hq; first | exact absurd hq (by decide) | exact absurd rfl hq | exact absurd hq (show ¬ (1 : Int) = 0 by decide) | exact absurd (show (1 : Int) ≠ 0 by decide) hq | skip) | (show cl _ _ _ _; first | refine hcl _ _ _ _ (c_A_custom (q_oCourts (q_AW0 (W := q_W0) h)) (fun x => ?_)) | refine hcl _ _ _ _ (m_custom (h).2.1 (fun y σ2 hM hF => ?_))))
  all_goals first
    | omega
    | exact hev _ (hN _ (q_INm (h) hM hF))

set_option maxRecDepth 100000 in
theorem l_cs_18 {i : Int} {σ : q_S} {K : q_R → q_S → Prop} (hL : L ≤ 3072) (hi : 0 ≤ i ∧ i + 6 ≤ L) (h : q_IN σ) (hN : ∀ σ', q_IN σ' → q_E L xs k_law_law (805, [(4, 0), (2, 0), (2, 100), (0, i)], [], σ') K) : q_E L xs k_law_law (572, [(4, 0), (2, 0), (2, 100), (0, i)], [], σ) K := by
  have e1 : q_w32 (i + 1) = i + 1 := by rw [q_w32_id] <;> omega
  have e2 : q_w32 (i + 2) = i + 2 := by rw [q_w32_id] <;> omega
  have e3 : q_w32 (i + 3) = i + 3 := by rw [q_w32_id] <;> omega
  have e4 : q_w32 (i + 4) = i + 4 := by rw [q_w32_id] <;> omega
  have e5 : q_w32 (i + 5) = i + 5 := by rw [q_w32_id] <;> omega
  refine q_go1 200 572 [805] (fun cl ev hcl hev => ?_)
  repeat' (first | refine And.intro ?_ ?_ | (intro hq; first | exact absurd hq (by decide) | exact absurd rfl hq | exact absurd hq (show ¬ (1 : Int) = 0 by decide) | exact absurd (show (1 : Int) ≠ 0 by decide) hq | skip) | (show cl _ _ _ _; first | refine hcl _ _ _ _ (c_A_mender (W := q_W0) (σ0 := σ) (fun k i hk => by unfold w_sh at hk; unfold q_W0 q_cp; omega) (q_AW0 h) (fun x σ1 h1 => ?_)) | refine hcl _ _ _ _ (m_mender (q_INa h h1).2.1 (fun y σ2 hM hF => ?_))))
  all_goals first
    | omega
    | exact hev _ (hN _ (q_INm (q_INa h h1) hM hF))

set_option maxRecDepth 100000 in
theorem l_cs_19 {i : Int} {σ : q_S} {K : q_R → q_S → Prop} (hL : L ≤ 3072) (hi : 0 ≤ i ∧ i + 6 ≤ L) (h : q_IN σ) (hN : ∀ σ', q_IN σ' → q_E L xs k_law_law (805, [(4, 0), (2, 0), (2, 100), (0, i)], [], σ') K) : q_E L xs k_law_law (619, [(4, 0), (2, 0), (2, 100), (0, i)], [], σ) K := by
  have e1 : q_w32 (i + 1) = i + 1 := by rw [q_w32_id] <;> omega
  have e2 : q_w32 (i + 2) = i + 2 := by rw [q_w32_id] <;> omega
  have e3 : q_w32 (i + 3) = i + 3 := by rw [q_w32_id] <;> omega
  have e4 : q_w32 (i + 4) = i + 4 := by rw [q_w32_id] <;> omega
  have e5 : q_w32 (i + 5) = i + 5 := by rw [q_w32_id] <;> omega
  refine q_go1 200 619 [805] (fun cl ev hcl hev => ?_)
  repeat' (first | refine And.intro ?_ ?_ | (intro hq; first | exact absurd hq (by decide) | exact absurd rfl hq | exact absurd hq (show ¬ (1 : Int) = 0 by decide) | exact absurd (show (1 : Int) ≠ 0 by decide) hq | skip) | (show cl _ _ _ _; first | refine hcl _ _ _ _ (c_A_view (W := q_W0) (σ0 := σ) (fun k i hk => by unfold w_vi at hk; unfold q_W0 q_cp; omega) (q_AW0 h) (fun x σ1 h1 => ?_)) | refine hcl _ _ _ _ (m_view (q_INa h h1).2.1 (fun y σ2 hM hF => ?_))))
  all_goals first
    | omega
    | exact hev _ (hN _ (q_INm (q_INa h h1) hM hF))

set_option maxRecDepth 100000 in
theorem l_cs_20 {i : Int} {σ : q_S} {K : q_R → q_S → Prop} (hL : L ≤ 3072) (hi : 0 ≤ i ∧ i + 6 ≤ L) (h : q_IN σ) (hN : ∀ σ', q_IN σ' → q_E L xs k_law_law (805, [(4, 0), (2, 0), (2, 100), (0, i)], [], σ') K) : q_E L xs k_law_law (636, [(4, 0), (2, 0), (2, 100), (0, i)], [], σ) K := by
  have e1 : q_w32 (i + 1) = i + 1 := by rw [q_w32_id] <;> omega
  have e2 : q_w32 (i + 2) = i + 2 := by rw [q_w32_id] <;> omega
  have e3 : q_w32 (i + 3) = i + 3 := by rw [q_w32_id] <;> omega
  have e4 : q_w32 (i + 4) = i + 4 := by rw [q_w32_id] <;> omega
  have e5 : q_w32 (i + 5) = i + 5 := by rw [q_w32_id] <;> omega
  refine q_go1 200 636 [805] (fun cl ev hcl hev => ?_)
  repeat' (first | refine And.intro ?_ ?_ | (intro hq; first | exact absurd hq (by decide) | exact absurd rfl hq | exact absurd hq (show ¬ (1 : Int) = 0 by decide) | exact absurd (show (1 : Int) ≠ 0 by decide) hq | skip) | (show cl _ _ _ _; first | refine hcl _ _ _ _ (c_A_mend (W := q_W0) (σ0 := σ) (fun k i hk => by unfold w_me at hk; unfold q_W0 q_cp; omega) (q_AW0 h) (fun x σ1 h1 => ?_)) | refine hcl _ _ _ _ (m_mend (q_INa h h1).2.1 (fun y σ2 hM hF => ?_))))
  all_goals first
    | omega
    | exact hev _ (hN _ (q_INm (q_INa h h1) hM hF))

set_option maxRecDepth 100000 in
theorem l_cs_21 {i : Int} {σ : q_S} {K : q_R → q_S → Prop} (hL : L ≤ 3072) (hi : 0 ≤ i ∧ i + 6 ≤ L) (h : q_IN σ) (hN : ∀ σ', q_IN σ' → q_E L xs k_law_law (805, [(4, 0), (2, 0), (2, 100), (0, i)], [], σ') K) : q_E L xs k_law_law (673, [(4, 0), (2, 0), (2, 100), (0, i)], [], σ) K := by
  have e1 : q_w32 (i + 1) = i + 1 := by rw [q_w32_id] <;> omega
  have e2 : q_w32 (i + 2) = i + 2 := by rw [q_w32_id] <;> omega
  have e3 : q_w32 (i + 3) = i + 3 := by rw [q_w32_id] <;> omega
  have e4 : q_w32 (i + 4) = i + 4 := by rw [q_w32_id] <;> omega
  have e5 : q_w32 (i + 5) = i + 5 := by rw [q_w32_id] <;> omega
  refine q_go1 200 673 [805] (fun cl ev hcl hev => ?_)
  repeat' (first | refine And.intro ?_ ?_ | (intro hq; first | exact absurd hq (by decide) | exact absurd rfl hq | exact absurd hq (show ¬ (1 : Int) = 0 by decide) | exact absurd (show (1 : Int) ≠ 0 by decide) hq | skip) | (show cl _ _ _ _; first | refine hcl _ _ _ _ (c_A_fault (q_oBank (q_AW0 (W := q_W0) h)) (q_oOpen (q_AW0 (W := q_W0) h) _) (fun x => ?_)) | refine hcl _ _ _ _ (m_fault (h).2.1 (fun y σ2 hM hF => ?_))))
  all_goals first
    | omega
    | exact hev _ (hN _ (q_INm (h) hM hF))

set_option maxRecDepth 100000 in
theorem l_cs_22 {i : Int} {σ : q_S} {K : q_R → q_S → Prop} (hL : L ≤ 3072) (hi : 0 ≤ i ∧ i + 6 ≤ L) (h : q_IN σ) (hN : ∀ σ', q_IN σ' → q_E L xs k_law_law (805, [(4, 0), (2, 0), (2, 100), (0, i)], [], σ') K) : q_E L xs k_law_law (700, [(4, 0), (2, 0), (2, 100), (0, i)], [], σ) K := by
  have e1 : q_w32 (i + 1) = i + 1 := by rw [q_w32_id] <;> omega
  have e2 : q_w32 (i + 2) = i + 2 := by rw [q_w32_id] <;> omega
  have e3 : q_w32 (i + 3) = i + 3 := by rw [q_w32_id] <;> omega
  have e4 : q_w32 (i + 4) = i + 4 := by rw [q_w32_id] <;> omega
  have e5 : q_w32 (i + 5) = i + 5 := by rw [q_w32_id] <;> omega
  refine q_go1 200 700 [805] (fun cl ev hcl hev => ?_)
  repeat' (first | refine And.intro ?_ ?_ | (intro hq; first | exact absurd hq (by decide) | exact absurd rfl hq | exact absurd hq (show ¬ (1 : Int) = 0 by decide) | exact absurd (show (1 : Int) ≠ 0 by decide) hq | skip) | (show cl _ _ _ _; first | refine hcl _ _ _ _ (c_A_fines (q_oFaults (q_AW0 (W := q_W0) h)) (fun x => ?_)) | refine hcl _ _ _ _ (m_fines (h).2.1 (fun y σ2 hM hF => ?_))))
  all_goals first
    | omega
    | exact hev _ (hN _ (q_INm (h) hM hF))

set_option maxRecDepth 100000 in
theorem l_cs_23 {i : Int} {σ : q_S} {K : q_R → q_S → Prop} (hL : L ≤ 3072) (hi : 0 ≤ i ∧ i + 6 ≤ L) (h : q_IN σ) (hN : ∀ σ', q_IN σ' → q_E L xs k_law_law (805, [(4, 0), (2, 0), (2, 100), (0, i)], [], σ') K) : q_E L xs k_law_law (717, [(4, 0), (2, 0), (2, 100), (0, i)], [], σ) K := by
  have e1 : q_w32 (i + 1) = i + 1 := by rw [q_w32_id] <;> omega
  have e2 : q_w32 (i + 2) = i + 2 := by rw [q_w32_id] <;> omega
  have e3 : q_w32 (i + 3) = i + 3 := by rw [q_w32_id] <;> omega
  have e4 : q_w32 (i + 4) = i + 4 := by rw [q_w32_id] <;> omega
  have e5 : q_w32 (i + 5) = i + 5 := by rw [q_w32_id] <;> omega
  refine q_go1 200 717 [805] (fun cl ev hcl hev => ?_)
  repeat' (first | refine And.intro ?_ ?_ | (intro hq; first | exact absurd hq (by decide) | exact absurd rfl hq | exact absurd hq (show ¬ (1 : Int) = 0 by decide) | exact absurd (show (1 : Int) ≠ 0 by decide) hq | skip) | (show cl _ _ _ _; first | refine hcl _ _ _ _ (c_A_mended (fun x => ?_)) | refine hcl _ _ _ _ (m_mended (h).2.1 (fun y σ2 hM hF => ?_))))
  all_goals first
    | omega
    | exact hev _ (hN _ (q_INm (h) hM hF))

set_option maxRecDepth 100000 in
theorem l_cs_24 {i : Int} {σ : q_S} {K : q_R → q_S → Prop} (hL : L ≤ 3072) (hi : 0 ≤ i ∧ i + 6 ≤ L) (h : q_IN σ) (hN : ∀ σ', q_IN σ' → q_E L xs k_law_law (805, [(4, 0), (2, 0), (2, 100), (0, i)], [], σ') K) : q_E L xs k_law_law (734, [(4, 0), (2, 0), (2, 100), (0, i)], [], σ) K := by
  have e1 : q_w32 (i + 1) = i + 1 := by rw [q_w32_id] <;> omega
  have e2 : q_w32 (i + 2) = i + 2 := by rw [q_w32_id] <;> omega
  have e3 : q_w32 (i + 3) = i + 3 := by rw [q_w32_id] <;> omega
  have e4 : q_w32 (i + 4) = i + 4 := by rw [q_w32_id] <;> omega
  have e5 : q_w32 (i + 5) = i + 5 := by rw [q_w32_id] <;> omega
  refine q_go1 200 734 [805] (fun cl ev hcl hev => ?_)
  repeat' (first | refine And.intro ?_ ?_ | (intro hq; first | exact absurd hq (by decide) | exact absurd rfl hq | exact absurd hq (show ¬ (1 : Int) = 0 by decide) | exact absurd (show (1 : Int) ≠ 0 by decide) hq | skip) | (show cl _ _ _ _; first | refine hcl _ _ _ _ (c_A_works (W := q_W0) (σ0 := σ) (fun k i hk => by unfold w_pl at hk; unfold q_W0 q_cp; omega) (q_AW0 h) (fun x σ1 h1 => ?_)) | refine hcl _ _ _ _ (m_works (q_INa h h1).2.1 (fun y σ2 hM hF => ?_))))
  all_goals first
    | omega
    | exact hev _ (hN _ (q_INm (q_INa h h1) hM hF))

set_option maxRecDepth 100000 in
theorem l_cs_25 {i : Int} {σ : q_S} {K : q_R → q_S → Prop} (hL : L ≤ 3072) (hi : 0 ≤ i ∧ i + 6 ≤ L) (h : q_IN σ) (hN : ∀ σ', q_IN σ' → q_E L xs k_law_law (805, [(4, 0), (2, 0), (2, 100), (0, i)], [], σ') K) : q_E L xs k_law_law (761, [(4, 0), (2, 0), (2, 100), (0, i)], [], σ) K := by
  have e1 : q_w32 (i + 1) = i + 1 := by rw [q_w32_id] <;> omega
  have e2 : q_w32 (i + 2) = i + 2 := by rw [q_w32_id] <;> omega
  have e3 : q_w32 (i + 3) = i + 3 := by rw [q_w32_id] <;> omega
  have e4 : q_w32 (i + 4) = i + 4 := by rw [q_w32_id] <;> omega
  have e5 : q_w32 (i + 5) = i + 5 := by rw [q_w32_id] <;> omega
  refine q_go1 200 761 [805] (fun cl ev hcl hev => ?_)
  repeat' (first | refine And.intro ?_ ?_ | (intro hq; first | exact absurd hq (by decide) | exact absurd rfl hq | exact absurd hq (show ¬ (1 : Int) = 0 by decide) | exact absurd (show (1 : Int) ≠ 0 by decide) hq | skip) | (show cl _ _ _ _; first | refine hcl _ _ _ _ (c_A_scot (W := q_W0) (σ0 := σ) (fun k i hk => by unfold w_sh at hk; unfold q_W0 q_cp; omega) (q_AW0 h) (fun x σ1 h1 => ?_)) | refine hcl _ _ _ _ (m_scot (q_INa h h1).2.1 (fun y σ2 hM hF => ?_))))
  all_goals first
    | omega
    | exact hev _ (hN _ (q_INm (q_INa h h1) hM hF))

set_option maxRecDepth 100000 in
theorem l_cs_26 {i : Int} {σ : q_S} {K : q_R → q_S → Prop} (hL : L ≤ 3072) (hi : 0 ≤ i ∧ i + 6 ≤ L) (h : q_IN σ) (hN : ∀ σ', q_IN σ' → q_E L xs k_law_law (805, [(4, 0), (2, 0), (2, 100), (0, i)], [], σ') K) : q_E L xs k_law_law (788, [(4, 0), (2, 0), (2, 100), (0, i)], [], σ) K := by
  have e1 : q_w32 (i + 1) = i + 1 := by rw [q_w32_id] <;> omega
  have e2 : q_w32 (i + 2) = i + 2 := by rw [q_w32_id] <;> omega
  have e3 : q_w32 (i + 3) = i + 3 := by rw [q_w32_id] <;> omega
  have e4 : q_w32 (i + 4) = i + 4 := by rw [q_w32_id] <;> omega
  have e5 : q_w32 (i + 5) = i + 5 := by rw [q_w32_id] <;> omega
  refine q_go1 200 788 [805] (fun cl ev hcl hev => ?_)
  repeat' (first | refine And.intro ?_ ?_ | (intro hq; first | exact absurd hq (by decide) | exact absurd rfl hq | exact absurd hq (show ¬ (1 : Int) = 0 by decide) | exact absurd (show (1 : Int) ≠ 0 by decide) hq | skip) | (show cl _ _ _ _; first | refine hcl _ _ _ _ (c_A_count (q_oHerds (q_AW0 (W := q_W0) h)) (fun x => ?_)) | refine hcl _ _ _ _ (m_count (h).2.1 (fun y σ2 hM hF => ?_))))
  all_goals first
    | omega
    | exact hev _ (hN _ (q_INm (h) hM hF))

set_option maxRecDepth 100000 in
theorem l_cs_0 {i : Int} {σ : q_S} {K : q_R → q_S → Prop} (hL : L ≤ 3072) (hi : 0 ≤ i ∧ i + 6 ≤ L) (h : q_IN σ) (hN : ∀ σ', q_IN σ' → q_E L xs k_law_law (805, [(4, 0), (2, 0), (2, 100), (0, i)], [], σ') K) : q_E L xs k_law_law (22, [(4, 0), (2, 0), (2, 100), (0, i)], [], σ) K := by
  have e1 : q_w32 (i + 1) = i + 1 := by rw [q_w32_id] <;> omega
  have e2 : q_w32 (i + 2) = i + 2 := by rw [q_w32_id] <;> omega
  have e3 : q_w32 (i + 3) = i + 3 := by rw [q_w32_id] <;> omega
  have e4 : q_w32 (i + 4) = i + 4 := by rw [q_w32_id] <;> omega
  have e5 : q_w32 (i + 5) = i + 5 := by rw [q_w32_id] <;> omega
  refine q_go1 200 22 [805] (fun cl ev hcl hev => ?_)
  refine And.intro (by omega) ?_
  refine And.intro (by omega) ?_
  show cl _ _ _ _
  refine hcl _ _ _ _ (c_A_level ?_ ?_ ?_)
  · intro g
    refine And.intro (by omega) ?_
    refine And.intro (by omega) ?_
    show cl _ _ _ _
    refine hcl _ _ _ _ (c_M_level ?_ ?_ ?_)
    · intro k
      exact hev _ (hN _ h)
    · intro k
      exfalso; omega
    · intro k
      exfalso; omega
  · intro g
    refine And.intro (by omega) ?_
    refine And.intro (by omega) ?_
    show cl _ _ _ _
    refine hcl _ _ _ _ (c_M_level ?_ ?_ ?_)
    · intro k
      exfalso; omega
    · intro k
      exact hev _ (hN _ h)
    · intro k
      exfalso; omega
  · intro g
    refine And.intro (by omega) ?_
    refine And.intro (by omega) ?_
    show cl _ _ _ _
    refine hcl _ _ _ _ (c_M_level ?_ ?_ ?_)
    · intro k
      exfalso; omega
    · intro k
      exfalso; omega
    · intro k
      exact hev _ (hN _ (q_INl h))

set_option maxRecDepth 100000 in
theorem l_cs_5 {i : Int} {σ : q_S} {K : q_R → q_S → Prop} (hL : L ≤ 3072) (hi : 0 ≤ i ∧ i + 6 ≤ L) (h : q_IN σ) (hN : ∀ σ', q_IN σ' → q_E L xs k_law_law (805, [(4, 0), (2, 0), (2, 100), (0, i)], [], σ') K) : q_E L xs k_law_law (217, [(4, 0), (2, 0), (2, 100), (0, i)], [], σ) K := by
  have e1 : q_w32 (i + 1) = i + 1 := by rw [q_w32_id] <;> omega
  have e2 : q_w32 (i + 2) = i + 2 := by rw [q_w32_id] <;> omega
  have e3 : q_w32 (i + 3) = i + 3 := by rw [q_w32_id] <;> omega
  have e4 : q_w32 (i + 4) = i + 4 := by rw [q_w32_id] <;> omega
  have e5 : q_w32 (i + 5) = i + 5 := by rw [q_w32_id] <;> omega
  refine q_go1 200 217 [805] (fun cl ev hcl hev => ?_)
  refine And.intro (by omega) ?_
  refine And.intro (by omega) ?_
  show cl _ _ _ _
  refine hcl _ _ _ _ (c_A_sluice (q_oBank (q_AW0 (W := q_W0) h)) ?_ ?_ ?_)
  · intro g
    refine And.intro (by omega) ?_
    refine And.intro (by omega) ?_
    show cl _ _ _ _
    refine hcl _ _ _ _ (c_M_sluice h.2.1.1 ?_ ?_ ?_)
    · intro k
      exact hev _ (hN _ h)
    · intro k
      have := h.2.2.2.1; exfalso; omega
    · intro k
      have := h.2.2.2.1; exfalso; omega
  · intro g
    refine And.intro (by omega) ?_
    refine And.intro (by omega) ?_
    show cl _ _ _ _
    refine hcl _ _ _ _ (c_M_sluice h.2.1.1 ?_ ?_ ?_)
    · intro k
      have := h.2.2.2.1; exfalso; omega
    · intro k
      exact hev _ (hN _ h)
    · intro k
      have := h.2.2.2.1; exfalso; omega
  · intro g
    refine And.intro (by omega) ?_
    refine And.intro (by omega) ?_
    show cl _ _ _ _
    refine hcl _ _ _ _ (c_M_sluice (by rw [q_un (by decide)]; exact h.2.1.1) ?_ ?_ ?_)
    · intro k
      rw [q_un (by decide)] at k; have := h.2.2.2.1; exfalso; omega
    · intro k
      rw [q_un (by decide)] at k; have := h.2.2.2.1; exfalso; omega
    · intro k
      exact hev _ (hN _ (q_INs h))

set_option maxRecDepth 100000 in
theorem l_cs_4 {i : Int} {σ : q_S} {K : q_R → q_S → Prop} (hL : L ≤ 3072) (hi : 0 ≤ i ∧ i + 6 ≤ L) (h : q_IN σ) (hN : ∀ σ', q_IN σ' → q_E L xs k_law_law (805, [(4, 0), (2, 0), (2, 100), (0, i)], [], σ') K) : q_E L xs k_law_law (180, [(4, 0), (2, 0), (2, 100), (0, i)], [], σ) K := by
  have e1 : q_w32 (i + 1) = i + 1 := by rw [q_w32_id] <;> omega
  have e2 : q_w32 (i + 2) = i + 2 := by rw [q_w32_id] <;> omega
  have e3 : q_w32 (i + 3) = i + 3 := by rw [q_w32_id] <;> omega
  have e4 : q_w32 (i + 4) = i + 4 := by rw [q_w32_id] <;> omega
  have e5 : q_w32 (i + 5) = i + 5 := by rw [q_w32_id] <;> omega
  refine q_go1 200 180 [805] (fun cl ev hcl hev => ?_)
  refine And.intro (by omega) ?_
  refine And.intro (by omega) ?_
  refine And.intro (by omega) ?_
  show cl _ _ _ _
  refine hcl _ _ _ _ (n_rod h ?_ ?_ ?_ ?_)
  · intro g
    refine And.intro (by omega) ?_
    refine And.intro (by omega) ?_
    refine And.intro (by omega) ?_
    show cl _ _ _ _
    refine hcl _ _ _ _ (m_rod h.2.1 ?_ ?_ ?_ ?_)
    · intro k
      exact hev _ (hN _ h)
    · intro k
      have := h.2.2.2.1; exfalso; omega
    · intro k
      have := h.2.2.2.1; exfalso; omega
    · intro k σ2 hM hF h13
      have := h.2.2.2.1; exfalso; omega
  · intro g
    refine And.intro (by omega) ?_
    refine And.intro (by omega) ?_
    refine And.intro (by omega) ?_
    show cl _ _ _ _
    refine hcl _ _ _ _ (m_rod h.2.1 ?_ ?_ ?_ ?_)
    · intro k
      have := h.2.2.2.1; exfalso; omega
    · intro k
      exact hev _ (hN _ h)
    · intro k
      have := h.2.2.2.1; exfalso; omega
    · intro k σ2 hM hF h13
      have := h.2.2.2.1; exfalso; omega
  · intro g
    refine And.intro (by omega) ?_
    refine And.intro (by omega) ?_
    refine And.intro (by omega) ?_
    show cl _ _ _ _
    refine hcl _ _ _ _ (m_rod h.2.1 ?_ ?_ ?_ ?_)
    · intro k
      have := h.2.2.2.1; exfalso; omega
    · intro k
      have := h.2.2.2.1; exfalso; omega
    · intro k
      exact hev _ (hN _ h)
    · intro k σ2 hM hF h13
      have := h.2.2.2.1; exfalso; omega
  · intro g σ1 hA h9
    refine And.intro (by omega) ?_
    refine And.intro (by omega) ?_
    refine And.intro (by omega) ?_
    show cl _ _ _ _
    refine hcl _ _ _ _ (m_rod (q_INa1 h hA) ?_ ?_ ?_ ?_)
    · intro k
      have := h.2.2.2.1; have := hA.1 100 13 (by unfold q_W1 q_W0; omega); exfalso; omega
    · intro k
      have := h.2.2.2.1; have := hA.1 100 13 (by unfold q_W1 q_W0; omega); exfalso; omega
    · intro k
      have := h.2.2.2.1; have := hA.1 100 13 (by unfold q_W1 q_W0; omega); exfalso; omega
    · intro k σ2 hM hF h13
      exact hev _ (hN _ (q_INr h hA h9 hM hF h13))

set_option maxRecDepth 100000 in
theorem l_cs_8 {i : Int} {σ : q_S} {K : q_R → q_S → Prop} (hL : L ≤ 3072) (hi : 0 ≤ i ∧ i + 6 ≤ L) (h : q_IN σ) (hN : ∀ σ', q_IN σ' → q_E L xs k_law_law (805, [(4, 0), (2, 0), (2, 100), (0, i)], [], σ') K) : q_E L xs k_law_law (308, [(4, 0), (2, 0), (2, 100), (0, i)], [], σ) K := by
  have e1 : q_w32 (i + 1) = i + 1 := by rw [q_w32_id] <;> omega
  have e2 : q_w32 (i + 2) = i + 2 := by rw [q_w32_id] <;> omega
  have e3 : q_w32 (i + 3) = i + 3 := by rw [q_w32_id] <;> omega
  have e4 : q_w32 (i + 4) = i + 4 := by rw [q_w32_id] <;> omega
  have e5 : q_w32 (i + 5) = i + 5 := by rw [q_w32_id] <;> omega
  refine q_go1 200 308 [805] (fun cl ev hcl hev => ?_)
  refine And.intro (by omega) ?_
  show cl _ _ _ _
  refine hcl _ _ _ _ (n_herd h ?_ ?_ ?_)
  · intro g
    refine And.intro (by omega) ?_
    show cl _ _ _ _
    refine hcl _ _ _ _ (m_herd h.2.1 ?_ ?_ ?_)
    · intro k
      refine And.intro (fun _ => hev _ (hN _ h)) (fun hq => absurd (rfl) hq)
    · intro k
      have := h.2.2.2.2.2; exfalso; omega
    · intro k σ2 hM hF h13
      have := h.2.2.2.2.2; exfalso; omega
  · intro g
    refine And.intro (by omega) ?_
    show cl _ _ _ _
    refine hcl _ _ _ _ (m_herd h.2.1 ?_ ?_ ?_)
    · intro k
      have := h.2.2.2.2.2; exfalso; omega
    · intro k
      refine And.intro (fun _ => hev _ (hN _ h)) (fun hq => absurd (rfl) hq)
    · intro k σ2 hM hF h13
      have := h.2.2.2.2.2; exfalso; omega
  · intro g σ1 hA h9
    refine And.intro (by omega) ?_
    show cl _ _ _ _
    refine hcl _ _ _ _ (m_herd (q_INa2 h hA) ?_ ?_ ?_)
    · intro k
      have := h.2.2.2.2.2; have := hA.1 100 22 (by unfold q_W2 q_W0; omega); exfalso; omega
    · intro k
      have := h.2.2.2.2.2; have := hA.1 100 22 (by unfold q_W2 q_W0; omega); exfalso; omega
    · intro k σ2 hM hF h13
      refine And.intro (fun _ => hev _ (hN _ (q_INh h hA h9 hM hF h13))) (fun hq => absurd (by rw [hA.1 100 22 (by unfold q_W2 q_W0; omega)]; exact h.2.2.2.2.2) hq)

set_option maxRecDepth 100000 in
theorem l_law {K : q_R → q_S → Prop} (hL : L ≤ 3072) (hK : ∀ σ, q_IN σ → K (some (0, 1)) σ) :
    ∀ (m : Nat) (i : Int) (σ : q_S), (L : Int) + 6 - i < m → 0 ≤ i → i ≤ L + 6 → q_IN σ → q_E L xs k_law_law (10, [(4, 0), (2, 0), (2, 100), (0, i)], [], σ) K := by
  intro m
  induction m with
  | zero => intro i; omega
  | succ m ih =>
    intro i σ hm hi hi2 h
    have e : q_w32 (i + 6) = i + 6 := by rw [q_w32_id] <;> omega
    have e6 : q_w32 ((L : Int) - 6) = L - 6 := by rw [q_w32_id] <;> omega
    have hN : i + 6 ≤ L → ∀ σ', q_IN σ' → q_E L xs k_law_law (805, [(4, 0), (2, 0), (2, 100), (0, i)], [], σ') K := fun h6 σ' h' => by
      refine q_go1 200 805 [10] (fun cl ev hcl hev => ?_)
      refine hev _ ?_
      rw [e]
      exact ih _ _ (by omega) (by omega) (by omega) h'
    refine q_go1 200 10 [10, 805, 22, 49, 76, 133, 180, 217, 244, 271, 308, 325, 352, 369, 406, 443, 460, 467, 518, 535, 572, 619, 636, 673, 700, 717, 734, 761, 788] (fun cl ev hcl hev => ?_)
    refine And.intro (fun hq => hK _ h) (fun hq => ?_)
    refine And.intro (by omega) ?_
    repeat' (first | refine And.intro ?_ ?_ | intro _)
    all_goals first

      | exact hev _ (l_cs_0 hL (by omega) h (hN (by omega)))
      | exact hev _ (l_cs_1 hL (by omega) h (hN (by omega)))
      | exact hev _ (l_cs_2 hL (by omega) h (hN (by omega)))
      | exact hev _ (l_cs_3 hL (by omega) h (hN (by omega)))
      | exact hev _ (l_cs_4 hL (by omega) h (hN (by omega)))
      | exact hev _ (l_cs_5 hL (by omega) h (hN (by omega)))
      | exact hev _ (l_cs_6 hL (by omega) h (hN (by omega)))
      | exact hev _ (l_cs_7 hL (by omega) h (hN (by omega)))
      | exact hev _ (l_cs_8 hL (by omega) h (hN (by omega)))
      | exact hev _ (l_cs_9 hL (by omega) h (hN (by omega)))
      | exact hev _ (l_cs_10 hL (by omega) h (hN (by omega)))
      | exact hev _ (l_cs_11 hL (by omega) h (hN (by omega)))
      | exact hev _ (l_cs_12 hL (by omega) h (hN (by omega)))
      | exact hev _ (l_cs_13 hL (by omega) h (hN (by omega)))
      | exact hev _ (l_cs_14 hL (by omega) h (hN (by omega)))
      | exact hev _ (l_cs_15 hL (by omega) h (hN (by omega)))
      | exact hev _ (l_cs_16 hL (by omega) h (hN (by omega)))
      | exact hev _ (l_cs_17 hL (by omega) h (hN (by omega)))
      | exact hev _ (l_cs_18 hL (by omega) h (hN (by omega)))
      | exact hev _ (l_cs_19 hL (by omega) h (hN (by omega)))
      | exact hev _ (l_cs_20 hL (by omega) h (hN (by omega)))
      | exact hev _ (l_cs_21 hL (by omega) h (hN (by omega)))
      | exact hev _ (l_cs_22 hL (by omega) h (hN (by omega)))
      | exact hev _ (l_cs_23 hL (by omega) h (hN (by omega)))
      | exact hev _ (l_cs_24 hL (by omega) h (hN (by omega)))
      | exact hev _ (l_cs_25 hL (by omega) h (hN (by omega)))
      | exact hev _ (l_cs_26 hL (by omega) h (hN (by omega)))
      | skip
    exact hev _ (hN (by omega) _ h)
end P65
