/-- the sales, the faults, what a view and a mending may change -/
def w_sa (k i : Int) : Prop := k = 8 ∨ k = 9 ∨ k = 10 ∨ k = 11 ∨ k = 12 ∨ (k = 7 ∧ i = 5)
def w_fa (k i : Int) : Prop := (89 ≤ k ∧ k ≤ 95) ∨ (k = 88 ∧ i = 7)
def w_vi (k i : Int) : Prop := (89 ≤ k ∧ k ≤ 95) ∨ (k = 88 ∧ i = 7) ∨ k = 14 ∨ k = 15 ∨ k = 16 ∨ k = 24
def w_me (k i : Int) : Prop := (89 ≤ k ∧ k ≤ 95) ∨ (k = 88 ∧ i = 7) ∨ k = 20 ∨ k = 26
section P45
variable {L : Nat} {xs : Int → Int}

theorem c_A_whoMends {r d n s : Int} {W : Int → Int → Prop} {σ0 σ : q_S} {K : q_R → q_S → Prop} (hW : ∀ k i, w_sh k i → W k i) (hr : 0 ≤ r ∧ r < 24) (h : q_AW W σ0 σ) (hK : ∀ x σ', q_AW W σ0 σ' → K (some (0, x)) σ') : q_K L xs i_A_whoMends [(2, 0), (0, r), (0, d), (0, n), (0, s)] σ K := by
  have hc := q_oCourts h
  have hs := q_oSales h
  refine q_call k_A_whoMends 9 rfl ?_
  show q_E L xs k_A_whoMends (0, [(2, 0), (0, r), (0, d), (0, n), (0, s), (9, 0), (9, 0), (9, 0), (9, 0)], [], σ) K
  refine q_go1 200 0 [] (fun cl ev hcl hev => ?_)
  repeat' (first | (unfold q_cu at hq1; rcases hq1 with rfl | rfl | rfl | rfl | rfl | rfl | rfl | rfl | rfl | rfl | rfl | rfl | rfl) | refine And.intro ?_ ?_ | (intro hq; first | exact absurd hq (by decide) | exact absurd rfl hq | exact absurd hq (show ¬ (1 : Int) = 0 by decide) | exact absurd (show (1 : Int) ≠ 0 by decide) hq | skip) | refine hcl _ _ _ _ (c_Courts_inForce hc (fun x _ _ => ?_)) | refine hcl _ _ _ _ (c_Courts_customOf hc (fun q hq1 => ?_)) | refine hcl _ _ _ _ (c_Custom_ruleOf (by unfold q_cu; omega) (q_oRules h (by omega)) (fun y hy0 hy1 => ?_)) | refine hcl _ _ _ _ (c_Sales_greatestOwner hs (fun z _ _ => ?_)) | refine hcl _ _ _ _ (c_Sales_sumParts hW h (fun σ1 h1 => ?_)) | refine hcl _ _ _ _ (c_Shares_lay hW h1 (fun σ2 h2 => ?_)) | refine hcl _ _ _ _ (c_Shares_ownerAt (fun z => ?_)))
  all_goals first
    | omega
    | exact hK _ _ (by repeat' (first | assumption | refine q_AWf ?_ (hW _ _ (by unfold w_sh; omega)) (by unfold q_fre; omega) | refine q_AWu ?_ (hW _ _ (by unfold w_sh; omega)) (by unfold q_ok; first | omega | (simp (disch := decide) only [q_un, q_ue]; omega))))

theorem c_Sales_enter {c f t n d : Int} {W : Int → Int → Prop} {σ0 σ : q_S} {K : q_R → q_S → Prop} (hW : ∀ k i, w_sa k i → W k i)  (h : q_AW W σ0 σ) (hK : ∀ σ', q_AW W σ0 σ' → K none σ') : q_K L xs i_Sales_enter [(2, 7), (0, c), (0, f), (0, t), (0, n), (0, d)] σ K := by
  have hs := q_oSales h
  have e : q_w32 (σ 7 5 + 1) = σ 7 5 + 1 := by rw [q_w32_id] <;> omega
  refine q_call k_Sales_enter 6 rfl ?_
  show q_E L xs k_Sales_enter (0, [(2, 7), (0, c), (0, f), (0, t), (0, n), (0, d)], [], σ) K
  refine q_go1 200 0 [] (fun cl ev hcl hev => ?_)
  repeat' (first | refine And.intro ?_ ?_ | (intro hq; first | exact absurd hq (by decide) | exact absurd rfl hq | exact absurd hq (show ¬ (1 : Int) = 0 by decide) | exact absurd (show (1 : Int) ≠ 0 by decide) hq | skip))
  all_goals first
    | omega
    | (simp (disch := decide) only [q_un, q_ue]; omega)
    | exact hK _ (by repeat' (first | assumption | refine q_AWf ?_ (hW _ _ (by unfold w_sa; omega)) (by unfold q_fre; omega) | refine q_AWu ?_ (hW _ _ (by unfold w_sa; omega)) (by unfold q_ok; first | omega | (simp (disch := decide) only [q_un, q_ue]; omega))))

theorem c_Faults_begin {r w d n q : Int} {W : Int → Int → Prop} {σ0 σ : q_S} {K : q_R → q_S → Prop} (hW : ∀ k i, w_fa k i → W k i) (hr : 0 ≤ r ∧ r < 24) (hq1 : q_cu q) (h : q_AW W σ0 σ) (hK : ∀ σ', q_AW W σ0 σ' → K none σ') : q_K L xs i_Faults_begin [(2, 88), (0, r), (0, w), (0, d), (0, n), (2, q)] σ K := by
  have hs := q_oFaults h
  have e : q_w32 (σ 88 7 + 1) = σ 88 7 + 1 := by rw [q_w32_id] <;> omega
  refine q_call k_Faults_begin 6 rfl ?_
  show q_E L xs k_Faults_begin (0, [(2, 88), (0, r), (0, w), (0, d), (0, n), (2, q)], [], σ) K
  refine q_go1 200 0 [] (fun cl ev hcl hev => ?_)
  repeat' (first | (unfold q_cu at hq1; rcases hq1 with rfl | rfl | rfl | rfl | rfl | rfl | rfl | rfl | rfl | rfl | rfl | rfl | rfl) | refine And.intro ?_ ?_ | (intro hq; first | exact absurd hq (by decide) | exact absurd rfl hq | exact absurd hq (show ¬ (1 : Int) = 0 by decide) | exact absurd (show (1 : Int) ≠ 0 by decide) hq | skip))
  all_goals first
    | omega
    | (simp (disch := decide) only [q_un, q_ue]; omega)
    | exact hK _ (by repeat' (first | assumption | refine q_AWf ?_ (hW _ _ (by unfold w_fa; omega)) (by unfold q_fre; omega) | refine q_AWu ?_ (hW _ _ (by unfold w_fa; omega)) (by unfold q_ok; first | omega | (simp (disch := decide) only [q_un, q_ue]; omega))))

theorem c_Faults_end {r d : Int} {W : Int → Int → Prop} {σ0 σ : q_S} {K : q_R → q_S → Prop} (hW : ∀ k i, w_fa k i → W k i) (hr : 0 ≤ r ∧ r < 24) (h : q_AW W σ0 σ) (hK : ∀ σ', q_AW W σ0 σ' → K none σ') : q_K L xs i_Faults_end [(2, 88), (0, r), (0, d)] σ K := by
  have hs := q_oOpen h r
  refine q_call k_Faults_end 3 rfl ?_
  show q_E L xs k_Faults_end (0, [(2, 88), (0, r), (0, d)], [], σ) K
  refine q_go1 200 0 [] (fun cl ev hcl hev => ?_)
  repeat' (first | refine And.intro ?_ ?_ | (intro hq; first | exact absurd hq (by decide) | exact absurd rfl hq | exact absurd hq (show ¬ (1 : Int) = 0 by decide) | exact absurd (show (1 : Int) ≠ 0 by decide) hq | skip))
  all_goals first
    | omega
    | (simp (disch := decide) only [q_un, q_ue]; omega)
    | exact hK _ (by repeat' (first | assumption | refine q_AWf ?_ (hW _ _ (by unfold w_fa; omega)) (by unfold q_fre; omega) | refine q_AWu ?_ (hW _ _ (by unfold w_fa; omega)) (by unfold q_ok; first | omega | (simp (disch := decide) only [q_un, q_ue]; omega))))

theorem c_Faults_endIfMended {r n d : Int} {W : Int → Int → Prop} {σ0 σ : q_S} {K : q_R → q_S → Prop} (hW : ∀ k i, w_fa k i → W k i) (hr : 0 ≤ r ∧ r < 24) (h : q_AW W σ0 σ) (hK : ∀ σ', q_AW W σ0 σ' → K none σ') : q_K L xs i_Faults_endIfMended [(2, 88), (0, r), (0, n), (0, d)] σ K := by
  have hs := q_oOpen h r
  refine q_call k_Faults_endIfMended 4 rfl ?_
  show q_E L xs k_Faults_endIfMended (0, [(2, 88), (0, r), (0, n), (0, d)], [], σ) K
  refine q_go1 200 0 [] (fun cl ev hcl hev => ?_)
  repeat' (first | refine And.intro ?_ ?_ | (intro hq; first | exact absurd hq (by decide) | exact absurd rfl hq | exact absurd hq (show ¬ (1 : Int) = 0 by decide) | exact absurd (show (1 : Int) ≠ 0 by decide) hq | skip) | refine hcl _ _ _ _ (c_Faults_end hW hr h (fun σ1 h1 => ?_)))
  all_goals first
    | omega
    | exact hK _ (by repeat' (first | assumption | refine q_AWf ?_ (hW _ _ (by unfold w_fa; omega)) (by unfold q_fre; omega) | refine q_AWu ?_ (hW _ _ (by unfold w_fa; omega)) (by unfold q_ok; first | omega | (simp (disch := decide) only [q_un, q_ue]; omega))))

theorem c_Faults_fineSoFar {f d : Int} {σ : q_S} {K : q_R → q_S → Prop} (hf : 0 ≤ f ∧ f < 60) (hK : ∀ x, K (some (0, x)) σ) : q_K L xs i_Faults_fineSoFar [(2, 88), (0, f), (0, d)] σ K := by
  refine q_call k_Faults_fineSoFar 4 rfl ?_
  show q_E L xs k_Faults_fineSoFar (0, [(2, 88), (0, f), (0, d), (9, 0)], [], σ) K
  refine q_go1 200 0 [] (fun cl ev hcl hev => ?_)
  repeat' (first | refine And.intro ?_ ?_ | (intro hq; first | exact absurd hq (by decide) | exact absurd rfl hq | exact absurd hq (show ¬ (1 : Int) = 0 by decide) | exact absurd (show (1 : Int) ≠ 0 by decide) hq | skip))
  all_goals first | omega | exact hK _

theorem l_owedBy {w d : Int} {σ : q_S} {K : q_R → q_S → Prop} (hb : 0 ≤ σ 88 7 ∧ σ 88 7 ≤ 60) (hK : ∀ x, K (some (0, x)) σ) :
    ∀ (m : Nat) (i : Int) (s : Int), 60 - i < m → 0 ≤ i → i ≤ 60 → q_E L xs k_Faults_owedBy (4, [(2, 88), (0, w), (0, d), (0, s), (0, i)], [], σ) K := by
  intro m
  induction m with
  | zero => intro i; omega
  | succ m ih =>
    intro i s hm hi hi2
    have e : q_w32 (i + 1) = i + 1 := by rw [q_w32_id] <;> omega
    refine q_go1 200 4 [4] (fun cl ev hcl hev => ?_)
    repeat' (first | refine And.intro ?_ ?_ | (intro hq; first | exact absurd hq (by decide) | exact absurd rfl hq | exact absurd hq (show ¬ (1 : Int) = 0 by decide) | exact absurd (show (1 : Int) ≠ 0 by decide) hq | skip) | refine hcl _ _ _ _ (c_Faults_fineSoFar (by omega) (fun x => ?_)))
    all_goals first
      | omega
      | (refine hev _ ?_; rw [e]; exact ih _ _ (by omega) (by omega) (by omega))
      | exact hK _

theorem c_Faults_owedBy {w d : Int} {σ : q_S} {K : q_R → q_S → Prop} (hb : 0 ≤ σ 88 7 ∧ σ 88 7 ≤ 60) (hK : ∀ x, K (some (0, x)) σ) : q_K L xs i_Faults_owedBy [(2, 88), (0, w), (0, d)] σ K := by
  refine q_call k_Faults_owedBy 5 rfl ?_
  show q_E L xs k_Faults_owedBy (0, [(2, 88), (0, w), (0, d), (9, 0), (9, 0)], [], σ) K
  refine q_go1 200 0 [4] (fun cl ev hcl hev => ?_)
  repeat' (first | refine And.intro ?_ ?_ | (intro hq; first | exact absurd hq (by decide) | exact absurd rfl hq | exact absurd hq (show ¬ (1 : Int) = 0 by decide) | exact absurd (show (1 : Int) ≠ 0 by decide) hq | skip))
  all_goals first
    | omega
    | exact hev _ (l_owedBy hb hK 61 0 _ (by omega) (by omega) (by omega))
    | exact hK _

theorem l_openOnes {σ : q_S} {K : q_R → q_S → Prop}  (hK : ∀ x, K (some (0, x)) σ) :
    ∀ (m : Nat) (i : Int) (s y : Int) (u : Nat), 24 - i < m → 0 ≤ i → i ≤ 24 → q_E L xs k_Faults_openOnes (10, [(2, 88), (0, s), (2, 95), (0, 24), (0, i), (u, y)], [], σ) K := by
  intro m
  induction m with
  | zero => intro i; omega
  | succ m ih =>
    intro i s y u hm hi hi2
    have e : q_w32 (i + 1) = i + 1 := by rw [q_w32_id] <;> omega
    refine q_go1 200 10 [10] (fun cl ev hcl hev => ?_)
    repeat' (first | refine And.intro ?_ ?_ | (intro hq; first | exact absurd hq (by decide) | exact absurd rfl hq | exact absurd hq (show ¬ (1 : Int) = 0 by decide) | exact absurd (show (1 : Int) ≠ 0 by decide) hq | skip))
    all_goals first
      | omega
      | (refine hev _ ?_; rw [e]; exact ih _ _ _ _ (by omega) (by omega) (by omega))
      | exact hK _

theorem c_Faults_openOnes {σ : q_S} {K : q_R → q_S → Prop}  (hK : ∀ x, K (some (0, x)) σ) : q_K L xs i_Faults_openOnes [(2, 88)] σ K := by
  refine q_call k_Faults_openOnes 6 rfl ?_
  show q_E L xs k_Faults_openOnes (0, [(2, 88), (9, 0), (9, 0), (9, 0), (9, 0), (9, 0)], [], σ) K
  refine q_go1 200 0 [10] (fun cl ev hcl hev => ?_)
  repeat' (first | refine And.intro ?_ ?_ | (intro hq; first | exact absurd hq (by decide) | exact absurd rfl hq | exact absurd hq (show ¬ (1 : Int) = 0 by decide) | exact absurd (show (1 : Int) ≠ 0 by decide) hq | skip))
  all_goals first
    | omega
    | exact hev _ (l_openOnes hK 25 0 _ _ _ (by omega) (by omega) (by omega))
    | exact hK _

theorem l_alive {σ : q_S} {K : q_R → q_S → Prop} (hb : 0 ≤ σ 27 2 ∧ σ 27 2 ≤ 6) (hK : ∀ x, K (some (0, x)) σ) :
    ∀ (m : Nat) (i : Int) (s : Int), 6 - i < m → 0 ≤ i → i ≤ 6 → q_E L xs k_Herds_alive (4, [(2, 27), (0, s), (0, i)], [], σ) K := by
  intro m
  induction m with
  | zero => intro i; omega
  | succ m ih =>
    intro i s hm hi hi2
    have e : q_w32 (i + 1) = i + 1 := by rw [q_w32_id] <;> omega
    refine q_go1 200 4 [4] (fun cl ev hcl hev => ?_)
    repeat' (first | refine And.intro ?_ ?_ | (intro hq; first | exact absurd hq (by decide) | exact absurd rfl hq | exact absurd hq (show ¬ (1 : Int) = 0 by decide) | exact absurd (show (1 : Int) ≠ 0 by decide) hq | skip))
    all_goals first
      | omega
      | (refine hev _ ?_; rw [e]; exact ih _ _ (by omega) (by omega) (by omega))
      | exact hK _

theorem c_Herds_alive {σ : q_S} {K : q_R → q_S → Prop} (hb : 0 ≤ σ 27 2 ∧ σ 27 2 ≤ 6) (hK : ∀ x, K (some (0, x)) σ) : q_K L xs i_Herds_alive [(2, 27)] σ K := by
  refine q_call k_Herds_alive 3 rfl ?_
  show q_E L xs k_Herds_alive (0, [(2, 27), (9, 0), (9, 0)], [], σ) K
  refine q_go1 200 0 [4] (fun cl ev hcl hev => ?_)
  repeat' (first | refine And.intro ?_ ?_ | (intro hq; first | exact absurd hq (by decide) | exact absurd rfl hq | exact absurd hq (show ¬ (1 : Int) = 0 by decide) | exact absurd (show (1 : Int) ≠ 0 by decide) hq | skip))
  all_goals first
    | omega
    | exact hev _ (l_alive hb hK 7 0 _ (by omega) (by omega) (by omega))
    | exact hK _

theorem l_allWater {σ : q_S} {K : q_R → q_S → Prop}  (hK : ∀ x, K (some (0, x)) σ) :
    ∀ (m : Nat) (i : Int) (s y : Int) (u : Nat), 30 - i < m → 0 ≤ i → i ≤ 30 → q_E L xs k_Land_allWater (10, [(2, 1), (0, s), (2, 3), (0, 30), (0, i), (u, y)], [], σ) K := by
  intro m
  induction m with
  | zero => intro i; omega
  | succ m ih =>
    intro i s y u hm hi hi2
    have e : q_w32 (i + 1) = i + 1 := by rw [q_w32_id] <;> omega
    refine q_go1 200 10 [10] (fun cl ev hcl hev => ?_)
    repeat' (first | refine And.intro ?_ ?_ | (intro hq; first | exact absurd hq (by decide) | exact absurd rfl hq | exact absurd hq (show ¬ (1 : Int) = 0 by decide) | exact absurd (show (1 : Int) ≠ 0 by decide) hq | skip))
    all_goals first
      | omega
      | (refine hev _ ?_; rw [e]; exact ih _ _ _ _ (by omega) (by omega) (by omega))
      | exact hK _

theorem c_Land_allWater {σ : q_S} {K : q_R → q_S → Prop}  (hK : ∀ x, K (some (0, x)) σ) : q_K L xs i_Land_allWater [(2, 1)] σ K := by
  refine q_call k_Land_allWater 6 rfl ?_
  show q_E L xs k_Land_allWater (0, [(2, 1), (9, 0), (9, 0), (9, 0), (9, 0), (9, 0)], [], σ) K
  refine q_go1 200 0 [10] (fun cl ev hcl hev => ?_)
  repeat' (first | refine And.intro ?_ ?_ | (intro hq; first | exact absurd hq (by decide) | exact absurd rfl hq | exact absurd hq (show ¬ (1 : Int) = 0 by decide) | exact absurd (show (1 : Int) ≠ 0 by decide) hq | skip))
  all_goals first
    | omega
    | exact hev _ (l_allWater hK 31 0 _ _ _ (by omega) (by omega) (by omega))
    | exact hK _

theorem l_passYear {W : Int → Int → Prop} {σ0 : q_S} {K : q_R → q_S → Prop} (hW : ∀ k i, w_tide k i → W k i)  (hK : ∀ x σ', q_AW W σ0 σ' → K (some (0, x)) σ') :
    ∀ (m : Nat) (i : Int) (σ : q_S) (s : Int), 30 - i < m → 0 ≤ i → i ≤ 30 → q_AW W σ0 σ → q_E L xs k_Land_passYear (4, [(2, 1), (0, s), (0, i)], [], σ) K := by
  intro m
  induction m with
  | zero => intro i; omega
  | succ m ih =>
    intro i σ s hm hi hi2 h
    have e : q_w32 (i + 1) = i + 1 := by rw [q_w32_id] <;> omega
    refine q_go1 200 4 [4] (fun cl ev hcl hev => ?_)
    repeat' (first | refine And.intro ?_ ?_ | (intro hq; first | exact absurd hq (by decide) | exact absurd rfl hq | exact absurd hq (show ¬ (1 : Int) = 0 by decide) | exact absurd (show (1 : Int) ≠ 0 by decide) hq | skip))
    all_goals first
      | omega
      | (refine hev _ ?_; rw [e]; exact ih _ _ _ (by omega) (by omega) (by omega) (by repeat' (first | assumption | refine q_AWf ?_ (hW _ _ (by unfold w_tide; omega)) (by unfold q_fre; omega) | refine q_AWu ?_ (hW _ _ (by unfold w_tide; omega)) (by unfold q_ok; first | omega | (simp (disch := decide) only [q_un, q_ue]; omega)))))
      | exact hK _ _ (by repeat' (first | assumption | refine q_AWf ?_ (hW _ _ (by unfold w_tide; omega)) (by unfold q_fre; omega) | refine q_AWu ?_ (hW _ _ (by unfold w_tide; omega)) (by unfold q_ok; first | omega | (simp (disch := decide) only [q_un, q_ue]; omega))))

theorem c_Land_passYear {W : Int → Int → Prop} {σ0 σ : q_S} {K : q_R → q_S → Prop} (hW : ∀ k i, w_tide k i → W k i)  (h : q_AW W σ0 σ) (hK : ∀ x σ', q_AW W σ0 σ' → K (some (0, x)) σ') : q_K L xs i_Land_passYear [(2, 1)] σ K := by
  refine q_call k_Land_passYear 3 rfl ?_
  show q_E L xs k_Land_passYear (0, [(2, 1), (9, 0), (9, 0)], [], σ) K
  refine q_go1 200 0 [4] (fun cl ev hcl hev => ?_)
  repeat' (first | refine And.intro ?_ ?_ | (intro hq; first | exact absurd hq (by decide) | exact absurd rfl hq | exact absurd hq (show ¬ (1 : Int) = 0 by decide) | exact absurd (show (1 : Int) ≠ 0 by decide) hq | skip))
  all_goals first
    | omega
    | exact hev _ (l_passYear hW hK 31 0 _ _ (by omega) (by omega) (by omega) h)
    | exact hK _ _ (by repeat' (first | assumption | refine q_AWf ?_ (hW _ _ (by unfold w_tide; omega)) (by unfold q_fre; omega) | refine q_AWu ?_ (hW _ _ (by unfold w_tide; omega)) (by unfold q_ok; first | omega | (simp (disch := decide) only [q_un, q_ue]; omega))))

theorem c_A_fault {r a : Int} {σ : q_S} {K : q_R → q_S → Prop} (hn : 0 ≤ σ 17 9 ∧ σ 17 9 ≤ 24) (ho : -1 ≤ σ 95 r ∧ σ 95 r < 60) (hK : ∀ x, K (some (0, x)) σ) : q_K L xs i_A_fault [(2, 0), (0, r), (0, a)] σ K := by
  refine q_call k_A_fault 4 rfl ?_
  show q_E L xs k_A_fault (0, [(2, 0), (0, r), (0, a), (9, 0)], [], σ) K
  refine q_go1 200 0 [] (fun cl ev hcl hev => ?_)
  repeat' (first | refine And.intro ?_ ?_ | (intro hq; first | exact absurd hq (by decide) | exact absurd rfl hq | exact absurd hq (show ¬ (1 : Int) = 0 by decide) | exact absurd (show (1 : Int) ≠ 0 by decide) hq | skip) | refine hcl _ _ _ _ (c_A_isRod hn ?_ ?_) | refine hcl _ _ _ _ (c_Faults_fineSoFar (by omega) (fun x => ?_)))
  all_goals first | omega | exact hK _

theorem c_A_fines {w : Int} {σ : q_S} {K : q_R → q_S → Prop} (hb : 0 ≤ σ 88 7 ∧ σ 88 7 ≤ 60) (hK : ∀ x, K (some (0, x)) σ) : q_K L xs i_A_fines [(2, 0), (0, w)] σ K := by
  refine q_call k_A_fines 2 rfl ?_
  show q_E L xs k_A_fines (0, [(2, 0), (0, w)], [], σ) K
  refine q_go1 200 0 [] (fun cl ev hcl hev => ?_)
  repeat' (first | refine And.intro ?_ ?_ | (intro hq; first | exact absurd hq (by decide) | exact absurd rfl hq | exact absurd hq (show ¬ (1 : Int) = 0 by decide) | exact absurd (show (1 : Int) ≠ 0 by decide) hq | skip) | refine hcl _ _ _ _ (c_A_isOwner ?_ ?_) | refine hcl _ _ _ _ (c_Faults_owedBy hb (fun x => ?_)))
  all_goals first | omega | exact hK _ | (intro hq; omega) | decide

end P45
