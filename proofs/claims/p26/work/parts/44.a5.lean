/-- the shares' tables -/
def w_sh (k _i : Int) : Prop := k = 14 ∨ k = 15 ∨ k = 16
section P44
variable {L : Nat} {xs : Int → Int}

theorem l_partsOf {c o d n f : Int} {σ : q_S} {K : q_R → q_S → Prop} (hf : f ≤ 120) (hK : ∀ x, K (some (0, x)) σ) :
    ∀ (m : Nat) (i : Int) (s : Int), 120 - i < m → 0 ≤ i → i ≤ 120 → q_E L xs k_Sales_partsOf (18, [(2, 7), (0, c), (0, o), (0, d), (0, n), (0, s), (0, f), (0, i)], [], σ) K := by
  intro m
  induction m with
  | zero => intro i; omega
  | succ m ih =>
    intro i s hm hi hi2
    have e : q_w32 (i + 1) = i + 1 := by rw [q_w32_id] <;> omega
    refine q_go1 200 18 [18] (fun cl ev hcl hev => ?_)
    repeat' (first | refine And.intro ?_ ?_ | (intro hq; first | exact absurd hq (by decide) | exact absurd rfl hq | exact absurd hq (show ¬ (1 : Int) = 0 by decide) | exact absurd (show (1 : Int) ≠ 0 by decide) hq | skip))
    all_goals first
      | omega
      | (refine hev _ ?_; rw [e]; exact ih _ _ (by omega) (by omega) (by omega))
      | exact hK _

theorem c_Sales_partsOf {c o d n : Int} {σ : q_S} {K : q_R → q_S → Prop} (hb : 0 ≤ σ 7 5 ∧ σ 7 5 ≤ 120) (hK : ∀ x, K (some (0, x)) σ) : q_K L xs i_Sales_partsOf [(2, 7), (0, c), (0, o), (0, d), (0, n)] σ K := by
  refine q_call k_Sales_partsOf 8 rfl ?_
  show q_E L xs k_Sales_partsOf (0, [(2, 7), (0, c), (0, o), (0, d), (0, n), (9, 0), (9, 0), (9, 0)], [], σ) K
  refine q_go1 200 0 [18] (fun cl ev hcl hev => ?_)
  repeat' (first | refine And.intro ?_ ?_ | (intro hq; first | exact absurd hq (by decide) | exact absurd rfl hq | exact absurd hq (show ¬ (1 : Int) = 0 by decide) | exact absurd (show (1 : Int) ≠ 0 by decide) hq | skip))
  all_goals first
    | omega
    | exact hev _ (l_partsOf (by omega) hK 121 0 _ (by omega) (by omega) (by omega))
    | exact hK _

theorem l_sumParts {d n : Int} {W : Int → Int → Prop} {σ0 : q_S} {K : q_R → q_S → Prop} (hW : ∀ k i, w_sh k i → W k i)  (hK : ∀ σ', q_AW W σ0 σ' → K none σ') :
    ∀ (m : Nat) (i : Int) (σ : q_S), 8 - i < m → 0 ≤ i → i ≤ 8 → q_AW W σ0 σ → q_E L xs k_Sales_sumParts (2, [(2, 7), (2, 14), (0, d), (0, n), (0, i)], [], σ) K := by
  intro m
  induction m with
  | zero => intro i; omega
  | succ m ih =>
    intro i σ hm hi hi2 h
    have e : q_w32 (i + 1) = i + 1 := by rw [q_w32_id] <;> omega
    have hb := q_oSales h
    refine q_go1 200 2 [2] (fun cl ev hcl hev => ?_)
    repeat' (first | refine And.intro ?_ ?_ | (intro hq; first | exact absurd hq (by decide) | exact absurd rfl hq | exact absurd hq (show ¬ (1 : Int) = 0 by decide) | exact absurd (show (1 : Int) ≠ 0 by decide) hq | skip) | refine hcl _ _ _ _ (c_Sales_partsOf hb (fun x => ?_)))
    all_goals first
      | omega
      | (refine hev _ ?_; rw [e]; exact ih _ _ (by omega) (by omega) (by omega) (by repeat' (first | assumption | refine q_AWf ?_ (hW _ _ (by unfold w_sh; omega)) (by unfold q_fre; omega) | refine q_AWu ?_ (hW _ _ (by unfold w_sh; omega)) (by unfold q_ok; omega))))
      | exact hK _ (by repeat' (first | assumption | refine q_AWf ?_ (hW _ _ (by unfold w_sh; omega)) (by unfold q_fre; omega) | refine q_AWu ?_ (hW _ _ (by unfold w_sh; omega)) (by unfold q_ok; omega)))

theorem c_Sales_sumParts {d n : Int} {W : Int → Int → Prop} {σ0 σ : q_S} {K : q_R → q_S → Prop} (hW : ∀ k i, w_sh k i → W k i)  (h : q_AW W σ0 σ) (hK : ∀ σ', q_AW W σ0 σ' → K none σ') : q_K L xs i_Sales_sumParts [(2, 7), (2, 14), (0, d), (0, n)] σ K := by
  refine q_call k_Sales_sumParts 5 rfl ?_
  show q_E L xs k_Sales_sumParts (0, [(2, 7), (2, 14), (0, d), (0, n), (9, 0)], [], σ) K
  refine q_go1 200 0 [2] (fun cl ev hcl hev => ?_)
  repeat' (first | refine And.intro ?_ ?_ | (intro hq; first | exact absurd hq (by decide) | exact absurd rfl hq | exact absurd hq (show ¬ (1 : Int) = 0 by decide) | exact absurd (show (1 : Int) ≠ 0 by decide) hq | skip))
  all_goals first
    | omega
    | exact hev _ (l_sumParts hW hK 9 0 _ (by omega) (by omega) (by omega) h)
    | exact hK _ (by repeat' (first | assumption | refine q_AWf ?_ (hW _ _ (by unfold w_sh; omega)) (by unfold q_fre; omega) | refine q_AWu ?_ (hW _ _ (by unfold w_sh; omega)) (by unfold q_ok; omega)))

theorem l_greatestO {c d n : Int} {σ : q_S} {K : q_R → q_S → Prop} (hb : 0 ≤ σ 7 5 ∧ σ 7 5 ≤ 120) (hK : ∀ x, 0 ≤ x → x < 8 → K (some (0, x)) σ) :
    ∀ (m : Nat) (i : Int) (b s y : Int) (u : Nat), 8 - i < m → 0 ≤ i → i ≤ 8 → 0 ≤ b → b < 8 → q_E L xs k_Sales_greatestOwner (6, [(2, 7), (0, c), (0, d), (0, n), (0, b), (0, s), (0, i), (u, y)], [], σ) K := by
  intro m
  induction m with
  | zero => intro i; omega
  | succ m ih =>
    intro i b s y u hm hi hi2 hb0 hb1
    have e : q_w32 (i + 1) = i + 1 := by rw [q_w32_id] <;> omega
    refine q_go1 200 6 [6] (fun cl ev hcl hev => ?_)
    repeat' (first | refine And.intro ?_ ?_ | (intro hq; first | exact absurd hq (by decide) | exact absurd rfl hq | exact absurd hq (show ¬ (1 : Int) = 0 by decide) | exact absurd (show (1 : Int) ≠ 0 by decide) hq | skip) | refine hcl _ _ _ _ (c_Sales_partsOf hb (fun x => ?_)))
    all_goals first
      | omega
      | (refine hev _ ?_; rw [e]; exact ih _ _ _ _ _ (by omega) (by omega) (by omega) (by omega) (by omega))
      | exact hK _ hb0 hb1

theorem c_Sales_greatestOwner {c d n : Int} {σ : q_S} {K : q_R → q_S → Prop} (hb : 0 ≤ σ 7 5 ∧ σ 7 5 ≤ 120) (hK : ∀ x, 0 ≤ x → x < 8 → K (some (0, x)) σ) : q_K L xs i_Sales_greatestOwner [(2, 7), (0, c), (0, d), (0, n)] σ K := by
  refine q_call k_Sales_greatestOwner 8 rfl ?_
  show q_E L xs k_Sales_greatestOwner (0, [(2, 7), (0, c), (0, d), (0, n), (9, 0), (9, 0), (9, 0), (9, 0)], [], σ) K
  refine q_go1 200 0 [6] (fun cl ev hcl hev => ?_)
  repeat' (first | refine And.intro ?_ ?_ | (intro hq; first | exact absurd hq (by decide) | exact absurd rfl hq | exact absurd hq (show ¬ (1 : Int) = 0 by decide) | exact absurd (show (1 : Int) ≠ 0 by decide) hq | skip))
  all_goals first
    | omega
    | exact hev _ (l_greatestO hb hK 9 0 _ _ _ _ (by omega) (by omega) (by omega) (by omega) (by omega))
    | exact hK _

theorem l_wouldOwe {c f n d : Int} {σ : q_S} {K : q_R → q_S → Prop} (hb : 0 ≤ σ 7 5 ∧ σ 7 5 ≤ 120) (hK : ∀ x, (x = 0 ∨ x = 1) → K (some (0, x)) σ) :
    ∀ (m : Nat) (i : Int) (y : Int) (u : Nat), 120 - i < m → 0 ≤ i → i ≤ 120 → q_E L xs k_Sales_wouldOwe (13, [(2, 7), (0, c), (0, f), (0, n), (0, d), (0, i), (u, y)], [], σ) K := by
  intro m
  induction m with
  | zero => intro i; omega
  | succ m ih =>
    intro i y u hm hi hi2
    have e : q_w32 (i + 1) = i + 1 := by rw [q_w32_id] <;> omega
    refine q_go1 200 13 [13] (fun cl ev hcl hev => ?_)
    repeat' (first | refine And.intro ?_ ?_ | (intro hq; first | exact absurd hq (by decide) | exact absurd rfl hq | exact absurd hq (show ¬ (1 : Int) = 0 by decide) | exact absurd (show (1 : Int) ≠ 0 by decide) hq | skip) | refine hcl _ _ _ _ (c_Sales_partsOf hb (fun x => ?_)))
    all_goals first
      | omega
      | (refine hev _ ?_; rw [e]; exact ih _ _ _ (by omega) (by omega) (by omega))
      | exact hK _ (Or.inl rfl)
      | exact hK _ (Or.inr rfl)

theorem c_Sales_wouldOwe {c f n d : Int} {σ : q_S} {K : q_R → q_S → Prop} (hb : 0 ≤ σ 7 5 ∧ σ 7 5 ≤ 120) (hK : ∀ x, (x = 0 ∨ x = 1) → K (some (0, x)) σ) : q_K L xs i_Sales_wouldOwe [(2, 7), (0, c), (0, f), (0, n), (0, d)] σ K := by
  refine q_call k_Sales_wouldOwe 7 rfl ?_
  show q_E L xs k_Sales_wouldOwe (0, [(2, 7), (0, c), (0, f), (0, n), (0, d), (9, 0), (9, 0)], [], σ) K
  refine q_go1 200 0 [13] (fun cl ev hcl hev => ?_)
  repeat' (first | refine And.intro ?_ ?_ | (intro hq; first | exact absurd hq (by decide) | exact absurd rfl hq | exact absurd hq (show ¬ (1 : Int) = 0 by decide) | exact absurd (show (1 : Int) ≠ 0 by decide) hq | skip) | refine hcl _ _ _ _ (c_Sales_partsOf hb (fun x => ?_)))
  all_goals first
    | omega
    | exact hev _ (l_wouldOwe hb hK 121 0 _ _ (by omega) (by omega) (by omega))
    | exact hK _ (Or.inr rfl)

theorem l_greatestR {σ : q_S} {K : q_R → q_S → Prop}  (hK : ∀ x, 0 ≤ x → x < 8 → K (some (0, x)) σ) :
    ∀ (m : Nat) (i : Int) (b : Int), 8 - i < m → 0 ≤ i → i ≤ 8 → 0 ≤ b → b < 8 → q_E L xs k_Shares_greatestRest (4, [(2, 13), (0, b), (0, i)], [], σ) K := by
  intro m
  induction m with
  | zero => intro i; omega
  | succ m ih =>
    intro i b hm hi hi2 hb0 hb1
    have e : q_w32 (i + 1) = i + 1 := by rw [q_w32_id] <;> omega
    refine q_go1 200 4 [4] (fun cl ev hcl hev => ?_)
    repeat' (first | refine And.intro ?_ ?_ | (intro hq; first | exact absurd hq (by decide) | exact absurd rfl hq | exact absurd hq (show ¬ (1 : Int) = 0 by decide) | exact absurd (show (1 : Int) ≠ 0 by decide) hq | skip))
    all_goals first
      | omega
      | (refine hev _ ?_; rw [e]; exact ih _ _ (by omega) (by omega) (by omega) (by omega) (by omega))
      | exact hK _ hb0 hb1

theorem c_Shares_greatestRest {σ : q_S} {K : q_R → q_S → Prop}  (hK : ∀ x, 0 ≤ x → x < 8 → K (some (0, x)) σ) : q_K L xs i_Shares_greatestRest [(2, 13)] σ K := by
  refine q_call k_Shares_greatestRest 3 rfl ?_
  show q_E L xs k_Shares_greatestRest (0, [(2, 13), (9, 0), (9, 0)], [], σ) K
  refine q_go1 200 0 [4] (fun cl ev hcl hev => ?_)
  repeat' (first | refine And.intro ?_ ?_ | (intro hq; first | exact absurd hq (by decide) | exact absurd rfl hq | exact absurd hq (show ¬ (1 : Int) = 0 by decide) | exact absurd (show (1 : Int) ≠ 0 by decide) hq | skip))
  all_goals first
    | omega
    | exact hev _ (l_greatestR hK 9 1 _ (by omega) (by omega) (by omega) (by omega) (by omega))
    | exact hK _

theorem l_ownerAt {p : Int} {σ : q_S} {K : q_R → q_S → Prop}  (hK : ∀ x, K (some (0, x)) σ) :
    ∀ (m : Nat) (i : Int) (s : Int), 8 - i < m → 0 ≤ i → i ≤ 8 → q_E L xs k_Shares_ownerAt (4, [(2, 13), (0, p), (0, s), (0, i)], [], σ) K := by
  intro m
  induction m with
  | zero => intro i; omega
  | succ m ih =>
    intro i s hm hi hi2
    have e : q_w32 (i + 1) = i + 1 := by rw [q_w32_id] <;> omega
    refine q_go1 200 4 [4] (fun cl ev hcl hev => ?_)
    repeat' (first | refine And.intro ?_ ?_ | (intro hq; first | exact absurd hq (by decide) | exact absurd rfl hq | exact absurd hq (show ¬ (1 : Int) = 0 by decide) | exact absurd (show (1 : Int) ≠ 0 by decide) hq | skip))
    all_goals first
      | omega
      | (refine hev _ ?_; rw [e]; exact ih _ _ (by omega) (by omega) (by omega))
      | exact hK _

theorem c_Shares_ownerAt {p : Int} {σ : q_S} {K : q_R → q_S → Prop}  (hK : ∀ x, K (some (0, x)) σ) : q_K L xs i_Shares_ownerAt [(2, 13), (0, p)] σ K := by
  refine q_call k_Shares_ownerAt 4 rfl ?_
  show q_E L xs k_Shares_ownerAt (0, [(2, 13), (0, p), (9, 0), (9, 0)], [], σ) K
  refine q_go1 200 0 [4] (fun cl ev hcl hev => ?_)
  repeat' (first | refine And.intro ?_ ?_ | (intro hq; first | exact absurd hq (by decide) | exact absurd rfl hq | exact absurd hq (show ¬ (1 : Int) = 0 by decide) | exact absurd (show (1 : Int) ≠ 0 by decide) hq | skip))
  all_goals first
    | omega
    | exact hev _ (l_ownerAt hK 9 0 _ (by omega) (by omega) (by omega))
    | exact hK _

theorem l_lay2 {s lf : Int} {W : Int → Int → Prop} {σ0 : q_S} {K : q_R → q_S → Prop} (hW : ∀ k i, w_sh k i → W k i)  (hK : ∀ σ', q_AW W σ0 σ' → K none σ') :
    ∀ (m : Nat) (i : Int) (σ : q_S) (y : Int) (u : Nat), 8 - i < m → 0 ≤ i → i ≤ 8 → q_AW W σ0 σ → q_E L xs k_Shares_lay (39, [(2, 13), (0, s), (0, lf), (0, i), (u, y)], [], σ) K := by
  intro m
  induction m with
  | zero => intro i; omega
  | succ m ih =>
    intro i σ y u hm hi hi2 h
    have e : q_w32 (i + 1) = i + 1 := by rw [q_w32_id] <;> omega
    refine q_go1 200 39 [39] (fun cl ev hcl hev => ?_)
    repeat' (first | refine And.intro ?_ ?_ | (intro hq; first | exact absurd hq (by decide) | exact absurd rfl hq | exact absurd hq (show ¬ (1 : Int) = 0 by decide) | exact absurd (show (1 : Int) ≠ 0 by decide) hq | skip) | refine hcl _ _ _ _ (c_Shares_greatestRest (fun x hx0 hx1 => ?_)))
    all_goals first
      | omega
      | (refine hev _ ?_; rw [e]; exact ih _ _ _ _ (by omega) (by omega) (by omega) (by repeat' (first | assumption | refine q_AWf ?_ (hW _ _ (by unfold w_sh; omega)) (by unfold q_fre; omega) | refine q_AWu ?_ (hW _ _ (by unfold w_sh; omega)) (by unfold q_ok; omega))))
      | exact hK _ (by repeat' (first | assumption | refine q_AWf ?_ (hW _ _ (by unfold w_sh; omega)) (by unfold q_fre; omega) | refine q_AWu ?_ (hW _ _ (by unfold w_sh; omega)) (by unfold q_ok; omega)))

theorem l_lay1 {s : Int} {W : Int → Int → Prop} {σ0 : q_S} {K : q_R → q_S → Prop} (hW : ∀ k i, w_sh k i → W k i)  (hK : ∀ σ', q_AW W σ0 σ' → K none σ') :
    ∀ (m : Nat) (i : Int) (σ : q_S) (lf y : Int) (u : Nat), 8 - i < m → 0 ≤ i → i ≤ 8 → q_AW W σ0 σ → q_E L xs k_Shares_lay (4, [(2, 13), (0, s), (0, lf), (0, i), (u, y)], [], σ) K := by
  intro m
  induction m with
  | zero => intro i; omega
  | succ m ih =>
    intro i σ lf y u hm hi hi2 h
    have e : q_w32 (i + 1) = i + 1 := by rw [q_w32_id] <;> omega
    refine q_go1 200 4 [4, 39] (fun cl ev hcl hev => ?_)
    repeat' (first | refine And.intro ?_ ?_ | (intro hq; first | exact absurd hq (by decide) | exact absurd rfl hq | exact absurd hq (show ¬ (1 : Int) = 0 by decide) | exact absurd (show (1 : Int) ≠ 0 by decide) hq | skip))
    all_goals first
      | omega
      | exact hev _ (l_lay2 hW hK 9 0 _ _ _ (by omega) (by omega) (by omega) h)
      | (refine hev _ ?_; rw [e]; exact ih _ _ _ _ _ (by omega) (by omega) (by omega) (by repeat' (first | assumption | refine q_AWf ?_ (hW _ _ (by unfold w_sh; omega)) (by unfold q_fre; omega) | refine q_AWu ?_ (hW _ _ (by unfold w_sh; omega)) (by unfold q_ok; omega))))
      | exact hK _ (by repeat' (first | assumption | refine q_AWf ?_ (hW _ _ (by unfold w_sh; omega)) (by unfold q_fre; omega) | refine q_AWu ?_ (hW _ _ (by unfold w_sh; omega)) (by unfold q_ok; omega)))

theorem c_Shares_lay {s : Int} {W : Int → Int → Prop} {σ0 σ : q_S} {K : q_R → q_S → Prop} (hW : ∀ k i, w_sh k i → W k i)  (h : q_AW W σ0 σ) (hK : ∀ σ', q_AW W σ0 σ' → K none σ') : q_K L xs i_Shares_lay [(2, 13), (0, s)] σ K := by
  refine q_call k_Shares_lay 5 rfl ?_
  show q_E L xs k_Shares_lay (0, [(2, 13), (0, s), (9, 0), (9, 0), (9, 0)], [], σ) K
  refine q_go1 200 0 [4] (fun cl ev hcl hev => ?_)
  repeat' (first | refine And.intro ?_ ?_ | (intro hq; first | exact absurd hq (by decide) | exact absurd rfl hq | exact absurd hq (show ¬ (1 : Int) = 0 by decide) | exact absurd (show (1 : Int) ≠ 0 by decide) hq | skip))
  all_goals first
    | omega
    | exact hev _ (l_lay1 hW hK 9 0 _ _ _ _ (by omega) (by omega) (by omega) h)
    | exact hK _ (by repeat' (first | assumption | refine q_AWf ?_ (hW _ _ (by unfold w_sh; omega)) (by unfold q_fre; omega) | refine q_AWu ?_ (hW _ _ (by unfold w_sh; omega)) (by unfold q_ok; omega)))

theorem l_ruleOf {r p : Int} {σ : q_S} {K : q_R → q_S → Prop} (hr : q_cu r) (hK : ∀ x, -1 ≤ x → x < 10 → K (some (0, x)) σ) :
    ∀ (m : Nat) (i : Int), i < m → -1 ≤ i → i < 10 → q_E L xs k_Custom_ruleOf (5, [(2, r), (0, p), (0, i)], [], σ) K := by
  intro m
  induction m with
  | zero =>
    intro i hm hi hi2
    have ei : i = -1 := by omega
    subst ei
    unfold q_cu at hr
    refine q_go1 200 5 [5] (fun cl ev hcl hev => ?_)
    repeat' (first | (rcases hr with rfl | rfl | rfl | rfl | rfl | rfl | rfl | rfl | rfl | rfl | rfl | rfl | rfl) | refine And.intro ?_ ?_ | (intro hq; first | exact absurd hq (by decide) | exact absurd rfl hq | exact absurd hq (show ¬ (1 : Int) = 0 by decide) | exact absurd (show (1 : Int) ≠ 0 by decide) hq | skip) | refine hcl _ _ _ _ (c_A_within ?_ ?_))
    all_goals first
      | omega
      | exact hK _ (by omega) (by omega)
  | succ m ih =>
    intro i hm hi hi2
    have e : 0 ≤ i → q_w32 (i + (-1)) = i - 1 := fun _ => by rw [q_w32_id] <;> omega
    unfold q_cu at hr
    refine q_go1 200 5 [5] (fun cl ev hcl hev => ?_)
    repeat' (first | (rcases hr with rfl | rfl | rfl | rfl | rfl | rfl | rfl | rfl | rfl | rfl | rfl | rfl | rfl) | refine And.intro ?_ ?_ | (intro hq; first | exact absurd hq (by decide) | exact absurd rfl hq | exact absurd hq (show ¬ (1 : Int) = 0 by decide) | exact absurd (show (1 : Int) ≠ 0 by decide) hq | skip) | refine hcl _ _ _ _ (c_A_within ?_ ?_))
    all_goals first
      | omega
      | (refine hev _ ?_; rw [e (by omega)]; exact ih _ (by omega) (by omega) (by omega))
      | exact hK _ (by omega) (by omega)

theorem c_Custom_ruleOf {r p : Int} {σ : q_S} {K : q_R → q_S → Prop} (hr : q_cu r) (hn : 0 ≤ σ r 8 ∧ σ r 8 ≤ 10) (hK : ∀ x, -1 ≤ x → x < 10 → K (some (0, x)) σ) : q_K L xs i_Custom_ruleOf [(2, r), (0, p)] σ K := by
  have e : q_w32 (σ r 8 - 1) = σ r 8 - 1 := by rw [q_w32_id] <;> omega
  unfold q_cu at hr
  refine q_call k_Custom_ruleOf 3 rfl ?_
  show q_E L xs k_Custom_ruleOf (0, [(2, r), (0, p), (9, 0)], [], σ) K
  refine q_go1 200 0 [5] (fun cl ev hcl hev => ?_)
  repeat' (first | (rcases hr with rfl | rfl | rfl | rfl | rfl | rfl | rfl | rfl | rfl | rfl | rfl | rfl | rfl) | refine And.intro ?_ ?_ | (intro hq; first | exact absurd hq (by decide) | exact absurd rfl hq | exact absurd hq (show ¬ (1 : Int) = 0 by decide) | exact absurd (show (1 : Int) ≠ 0 by decide) hq | skip))
  all_goals first
    | omega
    | (refine hev _ ?_; rw [e]; exact l_ruleOf (by unfold q_cu; omega) hK 10 _ (by omega) (by omega) (by omega))
    | exact hev _ (l_ruleOf (by unfold q_cu; omega) hK 10 _ (by omega) (by omega) (by omega))
    | exact hK _

end P44
