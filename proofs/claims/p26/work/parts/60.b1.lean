/-- what the class's calls may change -/
def w_rod (k i : Int) : Prop := k = 18 ∨ k = 19 ∨ k = 20 ∨ k = 24 ∨ (k = 17 ∧ i = 9)
def w_hd (k _i : Int) : Prop := k = 28
def w_co (k i : Int) : Prop := (k = 32 ∧ (i = 1 ∨ i = 2)) ∨ (36 ≤ k ∧ k ≤ 87) ∨ (k = 34 ∧ i = 2)
theorem q_kvs {K : q_R → q_S → Prop} {σ σ' : q_S} {a b : Int} (h : K (some (0, a)) σ) (e : b = a) (es : σ' = σ) : K (some (0, b)) σ' := by subst e; subst es; exact h
section P60
variable {L : Nat} {xs : Int → Int}

theorem c_A_level {c n : Int} {σ : q_S} {K : q_R → q_S → Prop} (h0 : ¬ (0 ≤ c ∧ c ≤ 29) → K (some (0, -1)) σ) (h2 : (0 ≤ c ∧ c ≤ 29 ∧ ¬ (0 ≤ n ∧ n ≤ 60)) → K (some (0, -2)) σ) (h1 : (0 ≤ c ∧ c ≤ 29 ∧ 0 ≤ n ∧ n ≤ 60) → K (some (0, σ 2 c)) (q_up σ 2 c n)) : q_K L xs i_A_level [(2, 0), (0, c), (0, n)] σ K := by
  refine q_call k_A_level 4 rfl ?_
  show q_E L xs k_A_level (0, [(2, 0), (0, c), (0, n), (9, 0)], [], σ) K
  refine q_go1 200 0 [] (fun cl ev hcl hev => ?_)
  repeat' (first | refine And.intro ?_ ?_ | (intro hq; first | exact absurd hq (by decide) | exact absurd rfl hq | exact absurd hq (show ¬ (1 : Int) = 0 by decide) | exact absurd (show (1 : Int) ≠ 0 by decide) hq | skip) | (show cl _ _ _ _; first | refine hcl _ _ _ _ (c_A_isCell ?_ ?_) | refine hcl _ _ _ _ (c_A_within ?_ ?_)))
  all_goals first | omega | exact h0 (by omega) | exact h2 (by omega) | exact h1 (by omega)

theorem c_A_cell {c w : Int} {σ : q_S} {K : q_R → q_S → Prop} (hK : ∀ x, K (some (0, x)) σ) : q_K L xs i_A_cell [(2, 0), (0, c), (0, w)] σ K := by
  refine q_call k_A_cell 3 rfl ?_
  show q_E L xs k_A_cell (0, [(2, 0), (0, c), (0, w)], [], σ) K
  refine q_go1 200 0 [] (fun cl ev hcl hev => ?_)
  repeat' (first | refine And.intro ?_ ?_ | (intro hq; first | exact absurd hq (by decide) | exact absurd rfl hq | exact absurd hq (show ¬ (1 : Int) = 0 by decide) | exact absurd (show (1 : Int) ≠ 0 by decide) hq | skip) | (show cl _ _ _ _; first | refine hcl _ _ _ _ (c_A_isCell ?_ ?_) | refine hcl _ _ _ _ (c_Land_surface (c := c) (by omega) ?_)))
  all_goals first | omega | exact hK _

theorem c_A_sell {c f t n d : Int} {W : Int → Int → Prop} {σ0 σ : q_S} {K : q_R → q_S → Prop} (hW : ∀ k i, w_sa k i → W k i)  (h : q_AW W σ0 σ) (hK : ∀ x σ', q_AW W σ0 σ' → K (some (0, x)) σ') : q_K L xs i_A_sell [(2, 0), (0, c), (0, f), (0, t), (0, n), (0, d)] σ K := by
  have hs := q_oSales h
  refine q_call k_A_sell 6 rfl ?_
  show q_E L xs k_A_sell (0, [(2, 0), (0, c), (0, f), (0, t), (0, n), (0, d)], [], σ) K
  refine q_go1 200 0 [] (fun cl ev hcl hev => ?_)
  repeat' (first | refine And.intro ?_ ?_ | (intro hq; first | exact absurd hq (by decide) | exact absurd rfl hq | exact absurd hq (show ¬ (1 : Int) = 0 by decide) | exact absurd (show (1 : Int) ≠ 0 by decide) hq | skip) | (show cl _ _ _ _; first | refine hcl _ _ _ _ (c_A_isCell ?_ ?_) | refine hcl _ _ _ _ (c_A_isOwner ?_ ?_) | refine hcl _ _ _ _ (c_A_isDay ?_ ?_) | refine hcl _ _ _ _ (c_A_within ?_ ?_) | refine hcl _ _ _ _ (c_Sales_wouldOwe hs (fun x hx => ?_)) | refine hcl _ _ _ _ (c_Sales_enter hW h (fun σ1 h1 => ?_))))
  all_goals first
    | omega
    | exact hK _ _ (by repeat' (first | assumption | refine q_AWf ?_ (hW _ _ (by unfold w_sa; omega)) (by unfold q_fre; omega) | refine q_AWu ?_ (hW _ _ (by unfold w_sa; omega)) (by unfold q_ok; first | omega | (simp (disch := decide) only [q_un, q_ue]; omega))))

theorem c_A_held {c w d n : Int} {σ : q_S} {K : q_R → q_S → Prop} (hs : 0 ≤ σ 7 5 ∧ σ 7 5 ≤ 120) (hK : ∀ x, K (some (0, x)) σ) : q_K L xs i_A_held [(2, 0), (0, c), (0, w), (0, d), (0, n)] σ K := by
  refine q_call k_A_held 6 rfl ?_
  show q_E L xs k_A_held (0, [(2, 0), (0, c), (0, w), (0, d), (0, n), (9, 0)], [], σ) K
  refine q_go1 200 0 [] (fun cl ev hcl hev => ?_)
  repeat' (first | refine And.intro ?_ ?_ | (intro hq; first | exact absurd hq (by decide) | exact absurd rfl hq | exact absurd hq (show ¬ (1 : Int) = 0 by decide) | exact absurd (show (1 : Int) ≠ 0 by decide) hq | skip) | (show cl _ _ _ _; first | refine hcl _ _ _ _ (c_A_isCell ?_ ?_) | refine hcl _ _ _ _ (c_A_isOwner ?_ ?_) | refine hcl _ _ _ _ (c_A_within ?_ ?_) | refine hcl _ _ _ _ (c_A_isDay ?_ ?_) | refine hcl _ _ _ _ (c_Sales_partsOf hs (fun x => ?_))))
  all_goals first | omega | exact hK _

theorem c_Bank_add {c k n : Int} {σ : q_S} {K : q_R → q_S → Prop} (hb : 0 ≤ σ 17 9 ∧ σ 17 9 < 24) (hK : K (some (0, σ 17 9)) (q_up (q_up (q_up (q_up (q_up σ 18 (σ 17 9) c) 19 (σ 17 9) k) 20 (σ 17 9) n) 24 (σ 17 9) (-1)) 17 9 (σ 17 9 + 1))) : q_K L xs i_Bank_add [(2, 17), (0, c), (0, k), (0, n)] σ K := by
  have e1 : q_w32 (σ 17 9 + 1) = σ 17 9 + 1 := by rw [q_w32_id] <;> omega
  have e2 : q_w32 (σ 17 9 + 1 - 1) = σ 17 9 := by rw [q_w32_id] <;> omega
  refine q_call k_Bank_add 4 rfl ?_
  show q_E L xs k_Bank_add (0, [(2, 17), (0, c), (0, k), (0, n)], [], σ) K
  refine q_go1 200 0 [] (fun cl ev hcl hev => ?_)
  repeat' (first | refine And.intro ?_ ?_ | (intro hq; first | exact absurd hq (by decide) | exact absurd rfl hq | exact absurd hq (show ¬ (1 : Int) = 0 by decide) | exact absurd (show (1 : Int) ≠ 0 by decide) hq | skip))
  all_goals first | omega | (simp (disch := decide) only [q_un, q_ue]; omega) | (refine q_kvs hK ?_ ?_ <;> simp (disch := decide) only [q_un, q_ue, e1, e2])

theorem c_A_rod {c k n : Int} {σ : q_S} {K : q_R → q_S → Prop} (hb : 0 ≤ σ 17 9 ∧ σ 17 9 ≤ 24) (h0 : ¬ (0 ≤ c ∧ c ≤ 29) → K (some (0, -1)) σ) (h2 : (0 ≤ c ∧ c ≤ 29 ∧ ¬ (0 ≤ k ∧ k ≤ 2 ∧ 0 ≤ n ∧ n ≤ 99)) → K (some (0, -2)) σ) (h4 : (0 ≤ c ∧ c ≤ 29 ∧ 0 ≤ k ∧ k ≤ 2 ∧ 0 ≤ n ∧ n ≤ 99 ∧ σ 17 9 = 24) → K (some (0, -4)) σ) (h1 : (0 ≤ c ∧ c ≤ 29 ∧ 0 ≤ k ∧ k ≤ 2 ∧ 0 ≤ n ∧ n ≤ 99 ∧ σ 17 9 < 24) → K (some (0, σ 17 9)) (q_up (q_up (q_up (q_up (q_up σ 18 (σ 17 9) c) 19 (σ 17 9) k) 20 (σ 17 9) n) 24 (σ 17 9) (-1)) 17 9 (σ 17 9 + 1))) : q_K L xs i_A_rod [(2, 0), (0, c), (0, k), (0, n)] σ K := by
  refine q_call k_A_rod 4 rfl ?_
  show q_E L xs k_A_rod (0, [(2, 0), (0, c), (0, k), (0, n)], [], σ) K
  refine q_go1 200 0 [] (fun cl ev hcl hev => ?_)
  repeat' (first | refine And.intro ?_ ?_ | (intro hq; first | exact absurd hq (by decide) | exact absurd rfl hq | exact absurd hq (show ¬ (1 : Int) = 0 by decide) | exact absurd (show (1 : Int) ≠ 0 by decide) hq | skip) | (show cl _ _ _ _; first | refine hcl _ _ _ _ (c_A_isCell ?_ ?_) | refine hcl _ _ _ _ (c_A_within ?_ ?_) | refine hcl _ _ _ _ (c_Bank_add (by omega) ?_)))
  all_goals first | omega | exact h0 (by omega) | exact h2 (by omega) | exact h4 (by omega) | exact h1 (by omega)

theorem c_A_sluice {r n : Int} {σ : q_S} {K : q_R → q_S → Prop} (hb : 0 ≤ σ 17 9 ∧ σ 17 9 ≤ 24) (h0 : ¬ (0 ≤ r ∧ r < σ 17 9) → K (some (0, -1)) σ) (h2 : (0 ≤ r ∧ r < σ 17 9 ∧ ¬ (0 ≤ n ∧ n ≤ 3)) → K (some (0, -2)) σ) (h1 : (0 ≤ r ∧ r < σ 17 9 ∧ 0 ≤ n ∧ n ≤ 3) → K (some (0, σ 21 r)) (q_up σ 21 r n)) : q_K L xs i_A_sluice [(2, 0), (0, r), (0, n)] σ K := by
  refine q_call k_A_sluice 4 rfl ?_
  show q_E L xs k_A_sluice (0, [(2, 0), (0, r), (0, n), (9, 0)], [], σ) K
  refine q_go1 200 0 [] (fun cl ev hcl hev => ?_)
  repeat' (first | refine And.intro ?_ ?_ | (intro hq; first | exact absurd hq (by decide) | exact absurd rfl hq | exact absurd hq (show ¬ (1 : Int) = 0 by decide) | exact absurd (show (1 : Int) ≠ 0 by decide) hq | skip) | (show cl _ _ _ _; first | refine hcl _ _ _ _ (c_A_isRod hb ?_ ?_) | refine hcl _ _ _ _ (c_A_within ?_ ?_)))
  all_goals first | omega | exact h0 (by omega) | exact h2 (by omega) | exact h1 (by omega)

theorem c_A_about {r w : Int} {σ : q_S} {K : q_R → q_S → Prop} (hb : 0 ≤ σ 17 9 ∧ σ 17 9 ≤ 24) (hc : 0 ≤ σ 34 2 ∧ σ 34 2 ≤ 12) (hK : ∀ x, K (some (0, x)) σ) : q_K L xs i_A_about [(2, 0), (0, r), (0, w)] σ K := by
  refine q_call k_A_about 3 rfl ?_
  show q_E L xs k_A_about (0, [(2, 0), (0, r), (0, w)], [], σ) K
  refine q_go1 200 0 [] (fun cl ev hcl hev => ?_)
  repeat' (first | refine And.intro ?_ ?_ | (intro hq; first | exact absurd hq (by decide) | exact absurd rfl hq | exact absurd hq (show ¬ (1 : Int) = 0 by decide) | exact absurd (show (1 : Int) ≠ 0 by decide) hq | skip) | (show cl _ _ _ _; first | refine hcl _ _ _ _ (c_A_isRod hb ?_ ?_) | refine hcl _ _ _ _ (c_A_isDue (r := r) hc (by omega) (fun x => ?_))))
  all_goals first | omega | exact hK _

theorem c_A_gate {a b p : Int} {σ : q_S} {K : q_R → q_S → Prop} (h0 : ¬ (0 ≤ a ∧ a ≤ 29 ∧ 0 ≤ b ∧ b ≤ 29) → K (some (0, -1)) σ) (h2 : (0 ≤ a ∧ a ≤ 29 ∧ 0 ≤ b ∧ b ≤ 29 ∧ (q_gb a b = -1 ∨ ¬ (0 ≤ p ∧ p ≤ 1))) → K (some (0, -2)) σ) (h1 : (0 ≤ a ∧ a ≤ 29 ∧ 0 ≤ b ∧ b ≤ 29 ∧ q_gb a b ≠ -1 ∧ 0 ≤ p ∧ p ≤ 1) → K (some (0, if σ 6 (q_gb a b) = 0 then 1 else 0)) (q_up σ 6 (q_gb a b) (if p = 0 then 1 else 0))) : q_K L xs i_A_gate [(2, 0), (0, a), (0, b), (0, p)] σ K := by
  have hg : (0 ≤ a ∧ a ≤ 29 ∧ 0 ≤ b ∧ b ≤ 29) → -1 ≤ q_gb a b ∧ q_gb a b < 60 := fun hh => q_gb_in (by omega) (by omega)
  refine q_call k_A_gate 6 rfl ?_
  show q_E L xs k_A_gate (0, [(2, 0), (0, a), (0, b), (0, p), (9, 0), (9, 0)], [], σ) K
  refine q_go1 200 0 [] (fun cl ev hcl hev => ?_)
  repeat' (first | refine And.intro ?_ ?_ | (intro hq; first | exact absurd hq (by decide) | exact absurd rfl hq | exact absurd hq (show ¬ (1 : Int) = 0 by decide) | exact absurd (show (1 : Int) ≠ 0 by decide) hq | skip) | (show cl _ _ _ _; first | refine hcl _ _ _ _ (c_A_isCell ?_ ?_) | refine hcl _ _ _ _ (c_Land_gateBetween (a := a) (b := b) (by omega) (by omega) ?_) | refine hcl _ _ _ _ (c_A_within ?_ ?_)))
  all_goals first | omega | exact h0 (by omega) | exact h2 (by omega) | (refine q_kvs (h1 (by omega)) ?_ ?_ <;> (split <;> first | rfl | omega | (exfalso; omega)))

theorem c_Herds_add {c : Int} {σ : q_S} {K : q_R → q_S → Prop} (hb : 0 ≤ σ 27 2 ∧ σ 27 2 < 6) (hK : K (some (0, σ 27 2)) (q_up (q_up σ 28 (σ 27 2) c) 27 2 (σ 27 2 + 1))) : q_K L xs i_Herds_add [(2, 27), (0, c)] σ K := by
  have e1 : q_w32 (σ 27 2 + 1) = σ 27 2 + 1 := by rw [q_w32_id] <;> omega
  have e2 : q_w32 (σ 27 2 + 1 - 1) = σ 27 2 := by rw [q_w32_id] <;> omega
  refine q_call k_Herds_add 2 rfl ?_
  show q_E L xs k_Herds_add (0, [(2, 27), (0, c)], [], σ) K
  refine q_go1 200 0 [] (fun cl ev hcl hev => ?_)
  repeat' (first | refine And.intro ?_ ?_ | (intro hq; first | exact absurd hq (by decide) | exact absurd rfl hq | exact absurd hq (show ¬ (1 : Int) = 0 by decide) | exact absurd (show (1 : Int) ≠ 0 by decide) hq | skip))
  all_goals first | omega | (simp (disch := decide) only [q_un, q_ue]; omega) | (refine q_kvs hK ?_ ?_ <;> simp (disch := decide) only [q_un, q_ue, e1, e2])

theorem c_A_herd {c : Int} {σ : q_S} {K : q_R → q_S → Prop} (hb : 0 ≤ σ 27 2 ∧ σ 27 2 ≤ 6) (h0 : ¬ (0 ≤ c ∧ c ≤ 29) → K (some (0, -1)) σ) (h4 : (0 ≤ c ∧ c ≤ 29 ∧ σ 27 2 = 6) → K (some (0, -4)) σ) (h1 : (0 ≤ c ∧ c ≤ 29 ∧ σ 27 2 < 6) → K (some (0, σ 27 2)) (q_up (q_up σ 28 (σ 27 2) c) 27 2 (σ 27 2 + 1))) : q_K L xs i_A_herd [(2, 0), (0, c)] σ K := by
  refine q_call k_A_herd 2 rfl ?_
  show q_E L xs k_A_herd (0, [(2, 0), (0, c)], [], σ) K
  refine q_go1 200 0 [] (fun cl ev hcl hev => ?_)
  repeat' (first | refine And.intro ?_ ?_ | (intro hq; first | exact absurd hq (by decide) | exact absurd rfl hq | exact absurd hq (show ¬ (1 : Int) = 0 by decide) | exact absurd (show (1 : Int) ≠ 0 by decide) hq | skip) | (show cl _ _ _ _; first | refine hcl _ _ _ _ (c_A_isCell ?_ ?_) | refine hcl _ _ _ _ (c_Herds_add (by omega) ?_)))
  all_goals first | omega | exact h0 (by omega) | exact h4 (by omega) | exact h1 (by omega)

theorem c_A_drive {i c : Int} {W : Int → Int → Prop} {σ0 σ : q_S} {K : q_R → q_S → Prop} (hW : ∀ k i, w_hd k i → W k i)  (h : q_AW W σ0 σ) (hK : ∀ x σ', q_AW W σ0 σ' → K (some (0, x)) σ') : q_K L xs i_A_drive [(2, 0), (0, i), (0, c)] σ K := by
  have hn := q_oHerds h
  have hp := q_oPlace h i
  have hg : (0 ≤ c ∧ c ≤ 29) → -1 ≤ q_gb (σ 28 i) c ∧ q_gb (σ 28 i) c < 60 := fun hh => q_gb_in hp (by omega)
  refine q_call k_A_drive 5 rfl ?_
  show q_E L xs k_A_drive (0, [(2, 0), (0, i), (0, c), (9, 0), (9, 0)], [], σ) K
  refine q_go1 200 0 [] (fun cl ev hcl hev => ?_)
  repeat' (first | refine And.intro ?_ ?_ | (intro hq; first | exact absurd hq (by decide) | exact absurd rfl hq | exact absurd hq (show ¬ (1 : Int) = 0 by decide) | exact absurd (show (1 : Int) ≠ 0 by decide) hq | skip) | (show cl _ _ _ _; first | refine hcl _ _ _ _ (c_A_isHerd hn ?_ ?_) | refine hcl _ _ _ _ (c_A_isCell ?_ ?_) | refine hcl _ _ _ _ (c_Land_gateBetween (b := c) hp (by omega) ?_)))
  all_goals first
    | omega
    | exact hK _ _ (by repeat' (first | assumption | refine q_AWf ?_ (hW _ _ (by unfold w_hd; omega)) (by unfold q_fre; omega) | refine q_AWu ?_ (hW _ _ (by unfold w_hd; omega)) (by unfold q_ok; first | omega | (simp (disch := decide) only [q_un, q_ue]; omega))))

theorem c_A_where {i : Int} {σ : q_S} {K : q_R → q_S → Prop} (hb : 0 ≤ σ 27 2 ∧ σ 27 2 ≤ 6) (hK : ∀ x, K (some (0, x)) σ) : q_K L xs i_A_where [(2, 0), (0, i)] σ K := by
  refine q_call k_A_where 2 rfl ?_
  show q_E L xs k_A_where (0, [(2, 0), (0, i)], [], σ) K
  refine q_go1 200 0 [] (fun cl ev hcl hev => ?_)
  repeat' (first | refine And.intro ?_ ?_ | (intro hq; first | exact absurd hq (by decide) | exact absurd rfl hq | exact absurd hq (show ¬ (1 : Int) = 0 by decide) | exact absurd (show (1 : Int) ≠ 0 by decide) hq | skip) | (show cl _ _ _ _; first | refine hcl _ _ _ _ (c_A_isHerd hb ?_ ?_)))
  all_goals first | omega | exact hK _

theorem c_A_way {i n w : Int} {W : Int → Int → Prop} {σ0 σ : q_S} {K : q_R → q_S → Prop} (hW : ∀ k i, w_wy k i → W k i)  (h : q_AW W σ0 σ) (hK : ∀ x σ', q_AW W σ0 σ' → K (some (0, x)) σ') : q_K L xs i_A_way [(2, 0), (0, i), (0, n), (0, w)] σ K := by
  have hn := q_oHerds h
  have hp := q_oPlace h i
  refine q_call k_A_way 4 rfl ?_
  show q_E L xs k_A_way (0, [(2, 0), (0, i), (0, n), (0, w)], [], σ) K
  refine q_go1 200 0 [] (fun cl ev hcl hev => ?_)
  repeat' (first | refine And.intro ?_ ?_ | (intro hq; first | exact absurd hq (by decide) | exact absurd rfl hq | exact absurd hq (show ¬ (1 : Int) = 0 by decide) | exact absurd (show (1 : Int) ≠ 0 by decide) hq | skip) | (show cl _ _ _ _; first | refine hcl _ _ _ _ (c_A_isHerd hn ?_ ?_) | refine hcl _ _ _ _ (c_A_within ?_ ?_) | refine hcl _ _ _ _ (c_Ways_seek hW hp h (fun σ1 h1 => ?_))))
  all_goals first
    | omega
    | exact hK _ _ (by repeat' (first | assumption | refine q_AWf ?_ (hW _ _ (by unfold w_wy; omega)) (by unfold q_fre; omega) | refine q_AWu ?_ (hW _ _ (by unfold w_wy; omega)) (by unfold q_ok; first | omega | (simp (disch := decide) only [q_un, q_ue]; omega))))

theorem c_A_pass {n : Int} {σ : q_S} {K : q_R → q_S → Prop} (h0 : ¬ (1 ≤ n ∧ n ≤ 400) → K (some (0, -2)) σ) (h2 : (1 ≤ n ∧ n ≤ 400 ∧ 9999 < q_w32 (σ 0 10 + n)) → K (some (0, -4)) σ) (h1 : (1 ≤ n ∧ n ≤ 400 ∧ q_w32 (σ 0 10 + n) ≤ 9999) → K (some (0, q_w32 (σ 0 10 + n))) (q_up σ 0 10 (q_w32 (σ 0 10 + n)))) : q_K L xs i_A_pass [(2, 0), (0, n)] σ K := by
  refine q_call k_A_pass 2 rfl ?_
  show q_E L xs k_A_pass (0, [(2, 0), (0, n)], [], σ) K
  refine q_go1 200 0 [] (fun cl ev hcl hev => ?_)
  repeat' (first | refine And.intro ?_ ?_ | (intro hq; first | exact absurd hq (by decide) | exact absurd rfl hq | exact absurd hq (show ¬ (1 : Int) = 0 by decide) | exact absurd (show (1 : Int) ≠ 0 by decide) hq | skip) | (show cl _ _ _ _; first | refine hcl _ _ _ _ (c_A_within ?_ ?_)))
  all_goals first | omega | exact h0 (by omega) | exact h2 (by omega) | (refine q_kvs (h1 (by omega)) ?_ ?_ <;> simp (disch := decide) only [q_un, q_ue]) | exact h1 (by omega)

theorem c_A_year {W : Int → Int → Prop} {σ0 σ : q_S} {K : q_R → q_S → Prop} (hW : ∀ k i, w_tide k i → W k i)  (h : q_AW W σ0 σ) (hK : ∀ x σ', q_AW W σ0 σ' → K (some (0, x)) σ') : q_K L xs i_A_year [(2, 0)] σ K := by
  refine q_call k_A_year 1 rfl ?_
  show q_E L xs k_A_year (0, [(2, 0)], [], σ) K
  refine q_go1 200 0 [] (fun cl ev hcl hev => ?_)
  repeat' (first | refine And.intro ?_ ?_ | (intro hq; first | exact absurd hq (by decide) | exact absurd rfl hq | exact absurd hq (show ¬ (1 : Int) = 0 by decide) | exact absurd (show (1 : Int) ≠ 0 by decide) hq | skip) | (show cl _ _ _ _; first | refine hcl _ _ _ _ (c_Land_passYear hW h (fun x σ1 h1 => ?_))))
  all_goals first
    | omega
    | exact hK _ _ (by repeat' (first | assumption | refine q_AWf ?_ (hW _ _ (by unfold w_tide; omega)) (by unfold q_fre; omega) | refine q_AWu ?_ (hW _ _ (by unfold w_tide; omega)) (by unfold q_ok; first | omega | (simp (disch := decide) only [q_un, q_ue]; omega))))

theorem c_A_feed {w n : Int} {W : Int → Int → Prop} {σ0 σ : q_S} {K : q_R → q_S → Prop} (hW : ∀ k i, w_fe k i → W k i)  (h : q_AW W σ0 σ) (hK : ∀ x σ', q_AW W σ0 σ' → K (some (0, x)) σ') : q_K L xs i_A_feed [(2, 0), (1, w), (0, n)] σ K := by
  refine q_call k_A_feed 4 rfl ?_
  show q_E L xs k_A_feed (0, [(2, 0), (1, w), (9, 0), (0, n)], [], σ) K
  refine q_go1 200 0 [] (fun cl ev hcl hev => ?_)
  repeat' (first | refine And.intro ?_ ?_ | (intro hq; first | exact absurd hq (by decide) | exact absurd rfl hq | exact absurd hq (show ¬ (1 : Int) = 0 by decide) | exact absurd (show (1 : Int) ≠ 0 by decide) hq | skip) | (show cl _ _ _ _; first | refine hcl _ _ _ _ (c_A_within ?_ ?_) | refine hcl _ _ _ _ (c_Tape_append hW (by omega) h (fun σ1 h1 => ?_))))
  all_goals first
    | omega
    | exact hK _ _ (by repeat' (first | assumption | refine q_AWf ?_ (hW _ _ (by unfold w_fe; omega)) (by unfold q_fre; omega) | refine q_AWu ?_ (hW _ _ (by unfold w_fe; omega)) (by unfold q_ok; first | omega | (simp (disch := decide) only [q_un, q_ue]; omega))))

theorem c_Custom_value {q w : Int} {σ : q_S} {K : q_R → q_S → Prop} (hq1 : q_cu q) (hK : ∀ x, K (some (0, x)) σ) : q_K L xs i_Custom_value [(2, q), (0, w)] σ K := by
  unfold q_cu at hq1
  rcases hq1 with rfl | rfl | rfl | rfl | rfl | rfl | rfl | rfl | rfl | rfl | rfl | rfl | rfl
  all_goals (
    refine q_call k_Custom_value 2 rfl ?_
    show q_E L xs k_Custom_value (0, [(2, _), (0, w)], [], σ) K
    refine q_go1 200 0 [] (fun cl ev hcl hev => ?_)
    repeat' (first | refine And.intro ?_ ?_ | (intro hq; first | exact absurd hq (by decide) | exact absurd rfl hq | exact absurd hq (show ¬ (1 : Int) = 0 by decide) | exact absurd (show (1 : Int) ≠ 0 by decide) hq | skip))
    all_goals first | omega | exact hK _)

theorem c_A_custom {d n w : Int} {σ : q_S} {K : q_R → q_S → Prop} (hc : 0 ≤ σ 34 2 ∧ σ 34 2 ≤ 12) (hK : ∀ x, K (some (0, x)) σ) : q_K L xs i_A_custom [(2, 0), (0, d), (0, n), (0, w)] σ K := by
  refine q_call k_A_custom 5 rfl ?_
  show q_E L xs k_A_custom (0, [(2, 0), (0, d), (0, n), (0, w), (9, 0)], [], σ) K
  refine q_go1 200 0 [] (fun cl ev hcl hev => ?_)
  repeat' (first | (unfold q_cu at hq1; rcases hq1 with rfl | rfl | rfl | rfl | rfl | rfl | rfl | rfl | rfl | rfl | rfl | rfl | rfl) | refine And.intro ?_ ?_ | (intro hq; first | exact absurd hq (by decide) | exact absurd rfl hq | exact absurd hq (show ¬ (1 : Int) = 0 by decide) | exact absurd (show (1 : Int) ≠ 0 by decide) hq | skip) | (show cl _ _ _ _; first | refine hcl _ _ _ _ (c_A_within ?_ ?_) | refine hcl _ _ _ _ (c_Courts_inForce hc (fun x _ _ => ?_)) | refine hcl _ _ _ _ (c_A_isDay ?_ ?_) | refine hcl _ _ _ _ (c_Courts_customOf hc (fun q hq1 => ?_)) | refine hcl _ _ _ _ (c_Custom_value (by unfold q_cu; omega) (fun y => ?_))))
  all_goals first
    | omega
    | exact hK _

theorem c_A_mender {r d n s : Int} {W : Int → Int → Prop} {σ0 σ : q_S} {K : q_R → q_S → Prop} (hW : ∀ k i, w_sh k i → W k i)  (h : q_AW W σ0 σ) (hK : ∀ x σ', q_AW W σ0 σ' → K (some (0, x)) σ') : q_K L xs i_A_mender [(2, 0), (0, r), (0, d), (0, n), (0, s)] σ K := by
  have hb := q_oBank h
  refine q_call k_A_mender 5 rfl ?_
  show q_E L xs k_A_mender (0, [(2, 0), (0, r), (0, d), (0, n), (0, s)], [], σ) K
  refine q_go1 200 0 [] (fun cl ev hcl hev => ?_)
  repeat' (first | refine And.intro ?_ ?_ | (intro hq; first | exact absurd hq (by decide) | exact absurd rfl hq | exact absurd hq (show ¬ (1 : Int) = 0 by decide) | exact absurd (show (1 : Int) ≠ 0 by decide) hq | skip) | (show cl _ _ _ _; first | refine hcl _ _ _ _ (c_A_isRod hb ?_ ?_) | refine hcl _ _ _ _ (c_A_within ?_ ?_) | refine hcl _ _ _ _ (c_A_isDay ?_ ?_) | refine hcl _ _ _ _ (c_A_whoMends (r := r) hW (by omega) h (fun x σ1 h1 => ?_))))
  all_goals first
    | omega
    | exact hK _ _ (by repeat' (first | assumption | refine q_AWf ?_ (hW _ _ (by unfold w_sh; omega)) (by unfold q_fre; omega) | refine q_AWu ?_ (hW _ _ (by unfold w_sh; omega)) (by unfold q_ok; first | omega | (simp (disch := decide) only [q_un, q_ue]; omega))))

theorem c_A_mended {w : Int} {σ : q_S} {K : q_R → q_S → Prop} (hK : ∀ x, K (some (0, x)) σ) : q_K L xs i_A_mended [(2, 0), (0, w)] σ K := by
  refine q_call k_A_mended 2 rfl ?_
  show q_E L xs k_A_mended (0, [(2, 0), (0, w)], [], σ) K
  refine q_go1 200 0 [] (fun cl ev hcl hev => ?_)
  repeat' (first | refine And.intro ?_ ?_ | (intro hq; first | exact absurd hq (by decide) | exact absurd rfl hq | exact absurd hq (show ¬ (1 : Int) = 0 by decide) | exact absurd (show (1 : Int) ≠ 0 by decide) hq | skip) | (show cl _ _ _ _; first | refine hcl _ _ _ _ (c_A_isOwner ?_ ?_)))
  all_goals first | omega | exact hK _

theorem c_A_works {n w : Int} {W : Int → Int → Prop} {σ0 σ : q_S} {K : q_R → q_S → Prop} (hW : ∀ k i, w_pl k i → W k i)  (h : q_AW W σ0 σ) (hK : ∀ x σ', q_AW W σ0 σ' → K (some (0, x)) σ') : q_K L xs i_A_works [(2, 0), (0, n), (0, w)] σ K := by
  have hc := q_oCourts h
  refine q_call k_A_works 3 rfl ?_
  show q_E L xs k_A_works (0, [(2, 0), (0, n), (0, w)], [], σ) K
  refine q_go1 200 0 [] (fun cl ev hcl hev => ?_)
  repeat' (first | (unfold q_cu at hq1; rcases hq1 with rfl | rfl | rfl | rfl | rfl | rfl | rfl | rfl | rfl | rfl | rfl | rfl | rfl) | refine And.intro ?_ ?_ | (intro hq; first | exact absurd hq (by decide) | exact absurd rfl hq | exact absurd hq (show ¬ (1 : Int) = 0 by decide) | exact absurd (show (1 : Int) ≠ 0 by decide) hq | skip) | (show cl _ _ _ _; first | refine hcl _ _ _ _ (c_A_within ?_ ?_) | refine hcl _ _ _ _ (c_A_customNow hc (fun q hq1 => ?_)) | refine hcl _ _ _ _ (c_Plan_draw hW (q_oDue h (by omega)) (by omega) h (fun σ1 h1 => ?_))))
  all_goals first
    | omega
    | exact hK _ _ (by repeat' (first | assumption | refine q_AWf ?_ (hW _ _ (by unfold w_pl; omega)) (by unfold q_fre; omega) | refine q_AWu ?_ (hW _ _ (by unfold w_pl; omega)) (by unfold q_ok; first | omega | (simp (disch := decide) only [q_un, q_ue]; omega))))

theorem c_A_scot {s w : Int} {W : Int → Int → Prop} {σ0 σ : q_S} {K : q_R → q_S → Prop} (hW : ∀ k i, w_sh k i → W k i)  (h : q_AW W σ0 σ) (hK : ∀ x σ', q_AW W σ0 σ' → K (some (0, x)) σ') : q_K L xs i_A_scot [(2, 0), (0, s), (0, w)] σ K := by
  refine q_call k_A_scot 3 rfl ?_
  show q_E L xs k_A_scot (0, [(2, 0), (0, s), (0, w)], [], σ) K
  refine q_go1 200 0 [] (fun cl ev hcl hev => ?_)
  repeat' (first | refine And.intro ?_ ?_ | (intro hq; first | exact absurd hq (by decide) | exact absurd rfl hq | exact absurd hq (show ¬ (1 : Int) = 0 by decide) | exact absurd (show (1 : Int) ≠ 0 by decide) hq | skip) | (show cl _ _ _ _; first | refine hcl _ _ _ _ (c_A_isOwner ?_ ?_) | refine hcl _ _ _ _ (c_A_within ?_ ?_) | refine hcl _ _ _ _ (c_Sales_sumParts hW h (fun σ1 h1 => ?_)) | refine hcl _ _ _ _ (c_Shares_lay hW h1 (fun σ2 h2 => ?_))))
  all_goals first
    | omega
    | exact hK _ _ (by repeat' (first | assumption | refine q_AWf ?_ (hW _ _ (by unfold w_sh; omega)) (by unfold q_fre; omega) | refine q_AWu ?_ (hW _ _ (by unfold w_sh; omega)) (by unfold q_ok; first | omega | (simp (disch := decide) only [q_un, q_ue]; omega))))

theorem c_A_count {w : Int} {σ : q_S} {K : q_R → q_S → Prop} (hh : 0 ≤ σ 27 2 ∧ σ 27 2 ≤ 6) (hK : ∀ x, K (some (0, x)) σ) : q_K L xs i_A_count [(2, 0), (0, w)] σ K := by
  refine q_call k_A_count 2 rfl ?_
  show q_E L xs k_A_count (0, [(2, 0), (0, w)], [], σ) K
  refine q_go1 200 0 [] (fun cl ev hcl hev => ?_)
  repeat' (first | refine And.intro ?_ ?_ | (intro hq; first | exact absurd hq (by decide) | exact absurd rfl hq | exact absurd hq (show ¬ (1 : Int) = 0 by decide) | exact absurd (show (1 : Int) ≠ 0 by decide) hq | skip) | (show cl _ _ _ _; first | refine hcl _ _ _ _ (c_Herds_alive hh (fun x => ?_)) | refine hcl _ _ _ _ (c_Faults_openOnes (fun x => ?_)) | refine hcl _ _ _ _ (c_Land_allWater (fun x => ?_))))
  all_goals first | omega | exact hK _

end P60
