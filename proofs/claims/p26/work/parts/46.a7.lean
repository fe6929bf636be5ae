/-- the ways' tables -/
def w_wy (k i : Int) : Prop := k = 31 ∨ (k = 30 ∧ (i = 1 ∨ i = 2 ∨ i = 3 ∨ i = 4))
theorem q_ui {σ : q_S} {k i v k' i' : Int} (h : i' ≠ i) : q_up σ k i v k' i' = σ k' i' := by
  unfold q_up
  split
  · first | rfl | (rw [if_neg h])
  · rfl
section P46
variable {L : Nat} {xs : Int → Int}

theorem l_fill31 {v : Int} {W : Int → Int → Prop} {σ0 : q_S} {K : q_R → q_S → Prop} (hW : ∀ k i, w_wy k i → W k i)  (hK : ∀ σ', q_AW W σ0 σ' → K none σ') :
    ∀ (m : Nat) (i : Int) (σ : q_S), 30 - i < m → 0 ≤ i → i ≤ 30 → q_AW W σ0 σ → q_E L xs k_Arrays_fillx (5, [(2, 31), (0, v), (0, i), (0, 30)], [], σ) K := by
  intro m
  induction m with
  | zero => intro i; omega
  | succ m ih =>
    intro i σ hm hi hi2 h
    have e : q_w32 (i + 1) = i + 1 := by rw [q_w32_id] <;> omega
    refine q_go1 200 5 [5] (fun cl ev hcl hev => ?_)
    repeat' (first | refine And.intro ?_ ?_ | (intro hq; first | exact absurd hq (by decide) | exact absurd rfl hq | exact absurd hq (show ¬ (1 : Int) = 0 by decide) | exact absurd (show (1 : Int) ≠ 0 by decide) hq | skip))
    all_goals first
      | omega
      | (refine hev _ ?_; rw [e]; exact ih _ _ (by omega) (by omega) (by omega) (by repeat' (first | assumption | refine q_AWf ?_ (hW _ _ (by unfold w_wy; omega)) (by unfold q_fre; omega) | refine q_AWu ?_ (hW _ _ (by unfold w_wy; omega)) (by unfold q_ok; first | omega | (simp (disch := decide) only [q_un, q_ue]; omega)))))
      | exact hK _ (by repeat' (first | assumption | refine q_AWf ?_ (hW _ _ (by unfold w_wy; omega)) (by unfold q_fre; omega) | refine q_AWu ?_ (hW _ _ (by unfold w_wy; omega)) (by unfold q_ok; first | omega | (simp (disch := decide) only [q_un, q_ue]; omega))))

theorem c_fill31 {v : Int} {W : Int → Int → Prop} {σ0 σ : q_S} {K : q_R → q_S → Prop} (hW : ∀ k i, w_wy k i → W k i)  (h : q_AW W σ0 σ) (hK : ∀ σ', q_AW W σ0 σ' → K none σ') : q_K L xs i_Arrays_fillx [(2, 31), (0, v)] σ K := by
  refine q_call k_Arrays_fillx 4 rfl ?_
  show q_E L xs k_Arrays_fillx (0, [(2, 31), (0, v), (9, 0), (9, 0)], [], σ) K
  refine q_go1 200 0 [5] (fun cl ev hcl hev => ?_)
  repeat' (first | refine And.intro ?_ ?_ | (intro hq; first | exact absurd hq (by decide) | exact absurd rfl hq | exact absurd hq (show ¬ (1 : Int) = 0 by decide) | exact absurd (show (1 : Int) ≠ 0 by decide) hq | skip))
  all_goals first
    | omega
    | exact hev _ (l_fill31 hW hK 31 0 _ (by omega) (by omega) (by omega) h)
    | exact hK _ (by repeat' (first | assumption | refine q_AWf ?_ (hW _ _ (by unfold w_wy; omega)) (by unfold q_fre; omega) | refine q_AWu ?_ (hW _ _ (by unfold w_wy; omega)) (by unfold q_ok; first | omega | (simp (disch := decide) only [q_un, q_ue]; omega))))

theorem c_Ways_moveCost {a b : Int} {σ : q_S} {K : q_R → q_S → Prop} (ha : 0 ≤ a ∧ a < 30) (hb : 0 ≤ b ∧ b < 30) (hK : ∀ x, K (some (0, x)) σ) : q_K L xs i_Ways_moveCost [(2, 1), (0, a), (0, b)] σ K := by
  refine q_call k_Ways_moveCost 3 rfl ?_
  show q_E L xs k_Ways_moveCost (0, [(2, 1), (0, a), (0, b)], [], σ) K
  refine q_go1 200 0 [] (fun cl ev hcl hev => ?_)
  repeat' (first | refine And.intro ?_ ?_ | (intro hq; first | exact absurd hq (by decide) | exact absurd rfl hq | exact absurd hq (show ¬ (1 : Int) = 0 by decide) | exact absurd (show (1 : Int) ≠ 0 by decide) hq | skip) | (show cl _ _ _ _; first | refine hcl _ _ _ _ (c_Land_isShut ha hb ?_ ?_)))
  all_goals first | omega | exact hK _ | (intro hq; exact hK _)

theorem l_improve {c v : Int} {W : Int → Int → Prop} {σ0 : q_S} {K : q_R → q_S → Prop} (hW : ∀ k i, w_wy k i → W k i) (hc : 0 ≤ c ∧ c < 30) (hK : ∀ x σ', (x = 0 ∨ x = 1) → q_AW W σ0 σ' → K (some (0, x)) σ') :
    ∀ (m : Nat) (i : Int) (σ : q_S) (y : Int) (u : Nat), 4 - i < m → 0 ≤ i → i ≤ 4 → q_AW W σ0 σ → q_E L xs k_Ways_improve (7, [(2, 30), (2, 1), (0, c), (0, v), (0, i), (u, y)], [], σ) K := by
  intro m
  induction m with
  | zero => intro i; omega
  | succ m ih =>
    intro i σ y u hm hi hi2 h
    have e : q_w32 (i + 1) = i + 1 := by rw [q_w32_id] <;> omega
    have hbs := q_bes_in (c := c) (w := i) hc
    refine q_go1 200 7 [7] (fun cl ev hcl hev => ?_)
    repeat' (first | refine And.intro ?_ ?_ | (intro hq; first | exact absurd hq (by decide) | exact absurd rfl hq | exact absurd hq (show ¬ (1 : Int) = 0 by decide) | exact absurd (show (1 : Int) ≠ 0 by decide) hq | skip) | (show cl _ _ _ _; first | refine hcl _ _ _ _ (c_Land_neighbour hc (by omega) ?_) | refine hcl _ _ _ _ (c_Ways_moveCost hc (by omega) (fun x => ?_))))
    all_goals first
      | omega
      | exact hK _ _ (Or.inl rfl) h
      | exact hK _ _ (Or.inr rfl) h
      | (refine hev _ ?_; rw [e]; exact ih _ _ _ _ (by omega) (by omega) (by omega) (by repeat' (first | assumption | refine q_AWf ?_ (hW _ _ (by unfold w_wy; omega)) (by unfold q_fre; omega) | refine q_AWu ?_ (hW _ _ (by unfold w_wy; omega)) (by unfold q_ok; first | omega | (simp (disch := decide) only [q_un, q_ue]; omega)))))

theorem c_Ways_improve {c : Int} {W : Int → Int → Prop} {σ0 σ : q_S} {K : q_R → q_S → Prop} (hW : ∀ k i, w_wy k i → W k i) (hc : 0 ≤ c ∧ c < 30) (h : q_AW W σ0 σ) (hK : ∀ x σ', (x = 0 ∨ x = 1) → q_AW W σ0 σ' → K (some (0, x)) σ') : q_K L xs i_Ways_improve [(2, 30), (2, 1), (0, c)] σ K := by
  refine q_call k_Ways_improve 6 rfl ?_
  show q_E L xs k_Ways_improve (0, [(2, 30), (2, 1), (0, c), (9, 0), (9, 0), (9, 0)], [], σ) K
  refine q_go1 200 0 [7] (fun cl ev hcl hev => ?_)
  repeat' (first | refine And.intro ?_ ?_ | (intro hq; first | exact absurd hq (by decide) | exact absurd rfl hq | exact absurd hq (show ¬ (1 : Int) = 0 by decide) | exact absurd (show (1 : Int) ≠ 0 by decide) hq | skip))
  all_goals first
    | omega
    | exact hev _ (l_improve hW hc hK 5 0 _ _ _ (by omega) (by omega) (by omega) h)

theorem l_measure2 {f r : Int} {W : Int → Int → Prop} {σ0 : q_S} {K : q_R → q_S → Prop} (hW : ∀ k i, w_wy k i → W k i) (hN : ∀ (s i : Int) (σ : q_S), q_AW W σ0 σ → q_E L xs k_Ways_measure (34, [(2, 30), (2, 1), (0, f), (0, s), (0, r), (0, i)], [], σ) K) :
    ∀ (m : Nat) (i : Int) (σ : q_S) (s : Int), 30 - i < m → 0 ≤ i → i ≤ 30 → q_AW W σ0 σ → q_E L xs k_Ways_measure (22, [(2, 30), (2, 1), (0, f), (0, s), (0, r), (0, i)], [], σ) K := by
  intro m
  induction m with
  | zero => intro i; omega
  | succ m ih =>
    intro i σ s hm hi hi2 h
    have e : q_w32 (i + 1) = i + 1 := by rw [q_w32_id] <;> omega
    refine q_go1 200 22 [22, 34] (fun cl ev hcl hev => ?_)
    repeat' (first | refine And.intro ?_ ?_ | (intro hq; first | exact absurd hq (by decide) | exact absurd rfl hq | exact absurd hq (show ¬ (1 : Int) = 0 by decide) | exact absurd (show (1 : Int) ≠ 0 by decide) hq | skip) | refine hcl _ _ _ _ (c_Ways_improve hW (by omega) h (fun x σ1 hx h1 => ?_)))
    all_goals first
      | omega
      | exact hev _ (hN _ _ _ h)
      | (refine hev _ ?_; rw [e]; exact ih _ _ _ (by omega) (by omega) (by omega) h1)
theorem l_measure1 {f : Int} {W : Int → Int → Prop} {σ0 : q_S} {K : q_R → q_S → Prop} (hW : ∀ k i, w_wy k i → W k i) (hK : ∀ σ', q_AW W σ0 σ' → K none σ') :
    ∀ (m : Nat) (r : Int) (σ : q_S) (s y : Int) (u : Nat), 30 - r < m → 0 ≤ r → r ≤ 30 → q_AW W σ0 σ → q_E L xs k_Ways_measure (13, [(2, 30), (2, 1), (0, f), (0, s), (0, r), (u, y)], [], σ) K := by
  intro m
  induction m with
  | zero => intro r; omega
  | succ m ih =>
    intro r σ s y u hm hi hi2 h
    have e : q_w32 (r + 1) = r + 1 := by rw [q_w32_id] <;> omega
    refine q_go1 200 13 [13, 22] (fun cl ev hcl hev => ?_)
    repeat' (first | refine And.intro ?_ ?_ | (intro hq; first | exact absurd hq (by decide) | exact absurd rfl hq | exact absurd hq (show ¬ (1 : Int) = 0 by decide) | exact absurd (show (1 : Int) ≠ 0 by decide) hq | skip))
    all_goals first
      | omega
      | exact hK _ h
      | (refine hev _ (l_measure2 hW (fun s1 i1 σ1 h1 => ?_) 31 0 _ _ (by omega) (by omega) (by omega) h)
         refine q_go1 200 34 [13, 22] (fun cl ev hcl hev => ?_)
         refine hev _ ?_
         rw [e]
         exact ih _ _ _ _ _ (by omega) (by omega) (by omega) h1)

theorem c_Ways_measure {f : Int} {W : Int → Int → Prop} {σ0 σ : q_S} {K : q_R → q_S → Prop} (hW : ∀ k i, w_wy k i → W k i) (hf : 0 ≤ f ∧ f < 30) (h : q_AW W σ0 σ) (hK : ∀ σ', q_AW W σ0 σ' → K none σ') : q_K L xs i_Ways_measure [(2, 30), (2, 1), (0, f)] σ K := by
  refine q_call k_Ways_measure 6 rfl ?_
  show q_E L xs k_Ways_measure (0, [(2, 30), (2, 1), (0, f), (9, 0), (9, 0), (9, 0)], [], σ) K
  refine q_go1 200 0 [13] (fun cl ev hcl hev => ?_)
  repeat' (first | refine And.intro ?_ ?_ | (intro hq; first | exact absurd hq (by decide) | exact absurd rfl hq | exact absurd hq (show ¬ (1 : Int) = 0 by decide) | exact absurd (show (1 : Int) ≠ 0 by decide) hq | skip) | (show cl _ _ _ _; first | refine hcl _ _ _ _ (c_fill31 hW h (fun σ1 h1 => ?_))))
  all_goals first
    | omega
    | (refine hev _ ?_; exact l_measure1 hW hK 31 0 _ _ _ _ (by omega) (by omega) (by omega) (by repeat' (first | assumption | refine q_AWf ?_ (hW _ _ (by unfold w_wy; omega)) (by unfold q_fre; omega) | refine q_AWu ?_ (hW _ _ (by unfold w_wy; omega)) (by unfold q_ok; first | omega | (simp (disch := decide) only [q_un, q_ue]; omega)))))
    | exact hK _ (by repeat' (first | assumption | refine q_AWf ?_ (hW _ _ (by unfold w_wy; omega)) (by unfold q_fre; omega) | refine q_AWu ?_ (hW _ _ (by unfold w_wy; omega)) (by unfold q_ok; first | omega | (simp (disch := decide) only [q_un, q_ue]; omega))))

theorem l_Ways_nearest {n : Int} {σ : q_S} {K : q_R → q_S → Prop}  (hK : ∀ x, -1 ≤ x → x < 30 → K (some (0, x)) σ) :
    ∀ (m : Nat) (i : Int) (b y : Int) (u : Nat), 30 - i < m → 0 ≤ i → i ≤ 30 → -1 ≤ b → b < 30 → q_E L xs k_Ways_nearest (4, [(2, 30), (2, 1), (0, n), (0, b), (0, i), (u, y)], [], σ) K := by
  intro m
  induction m with
  | zero => intro i; omega
  | succ m ih =>
    intro i b y u hm hi hi2 hb0 hb1
    have e : q_w32 (i + 1) = i + 1 := by rw [q_w32_id] <;> omega
    refine q_go1 200 4 [4] (fun cl ev hcl hev => ?_)
    repeat' (first | refine And.intro ?_ ?_ | (intro hq; first | exact absurd hq (by decide) | exact absurd rfl hq | exact absurd hq (show ¬ (1 : Int) = 0 by decide) | exact absurd (show (1 : Int) ≠ 0 by decide) hq | skip))
    all_goals first
      | omega
      | (refine hev _ ?_; rw [e]; exact ih _ _ _ _ (by omega) (by omega) (by omega) (by omega) (by omega))
      | exact hK _ hb0 hb1

theorem c_Ways_nearest {n : Int} {σ : q_S} {K : q_R → q_S → Prop}  (hK : ∀ x, -1 ≤ x → x < 30 → K (some (0, x)) σ) : q_K L xs i_Ways_nearest [(2, 30), (2, 1), (0, n)] σ K := by
  refine q_call k_Ways_nearest 6 rfl ?_
  show q_E L xs k_Ways_nearest (0, [(2, 30), (2, 1), (0, n), (9, 0), (9, 0), (9, 0)], [], σ) K
  refine q_go1 200 0 [4] (fun cl ev hcl hev => ?_)
  repeat' (first | refine And.intro ?_ ?_ | (intro hq; first | exact absurd hq (by decide) | exact absurd rfl hq | exact absurd hq (show ¬ (1 : Int) = 0 by decide) | exact absurd (show (1 : Int) ≠ 0 by decide) hq | skip))
  all_goals first
    | omega
    | exact hev _ (l_Ways_nearest hK 31 0 _ _ _ (by omega) (by omega) (by omega) (by omega) (by omega))
    | exact hK _

theorem l_onward {c : Int} {σ : q_S} {K : q_R → q_S → Prop} (hc : 0 ≤ c ∧ c < 30) (hK : ∀ x, -1 ≤ x → x < 30 → K (some (0, x)) σ) :
    ∀ (m : Nat) (i : Int) (y : Int) (u : Nat), 4 - i < m → 0 ≤ i → i ≤ 4 → q_E L xs k_Ways_onward (2, [(2, 30), (2, 1), (0, c), (0, i), (u, y)], [], σ) K := by
  intro m
  induction m with
  | zero => intro i; omega
  | succ m ih =>
    intro i y u hm hi hi2
    have e : q_w32 (i + 1) = i + 1 := by rw [q_w32_id] <;> omega
    have hbs := q_bes_in (c := c) (w := i) hc
    refine q_go1 200 2 [2] (fun cl ev hcl hev => ?_)
    repeat' (first | refine And.intro ?_ ?_ | (intro hq; first | exact absurd hq (by decide) | exact absurd rfl hq | exact absurd hq (show ¬ (1 : Int) = 0 by decide) | exact absurd (show (1 : Int) ≠ 0 by decide) hq | skip) | (show cl _ _ _ _; first | refine hcl _ _ _ _ (c_Land_neighbour hc (by omega) ?_) | refine hcl _ _ _ _ (c_Ways_moveCost hc (by omega) (fun x => ?_))))
    all_goals first
      | omega
      | (refine hev _ ?_; rw [e]; exact ih _ _ _ (by omega) (by omega) (by omega))
      | exact hK _ (by omega) (by omega)

theorem c_Ways_onward {c : Int} {σ : q_S} {K : q_R → q_S → Prop} (hc : 0 ≤ c ∧ c < 30) (hK : ∀ x, -1 ≤ x → x < 30 → K (some (0, x)) σ) : q_K L xs i_Ways_onward [(2, 30), (2, 1), (0, c)] σ K := by
  refine q_call k_Ways_onward 5 rfl ?_
  show q_E L xs k_Ways_onward (0, [(2, 30), (2, 1), (0, c), (9, 0), (9, 0)], [], σ) K
  refine q_go1 200 0 [2] (fun cl ev hcl hev => ?_)
  repeat' (first | refine And.intro ?_ ?_ | (intro hq; first | exact absurd hq (by decide) | exact absurd rfl hq | exact absurd hq (show ¬ (1 : Int) = 0 by decide) | exact absurd (show (1 : Int) ≠ 0 by decide) hq | skip))
  all_goals first
    | omega
    | exact hev _ (l_onward hc hK 5 0 _ _ (by omega) (by omega) (by omega))
    | exact hK _

theorem l_walk {f : Int} {W : Int → Int → Prop} {σ0 : q_S} {K : q_R → q_S → Prop} (hW : ∀ k i, w_wy k i → W k i)  (hK : ∀ σ', q_AW W σ0 σ' → K none σ') :
    ∀ (m : Nat) (i : Int) (σ : q_S) (c y : Int) (u : Nat), 30 - i < m → 0 ≤ i → i ≤ 30 → q_AW W σ0 σ → (-1 ≤ c ∧ c < 30) → q_E L xs k_Ways_walkToGate (4, [(2, 30), (2, 1), (0, f), (0, c), (0, i), (u, y)], [], σ) K := by
  intro m
  induction m with
  | zero => intro i; omega
  | succ m ih =>
    intro i σ c y u hm hi hi2 h
    intro hinv
    have e : q_w32 (i + 1) = i + 1 := by rw [q_w32_id] <;> omega
    refine q_go1 200 4 [4] (fun cl ev hcl hev => ?_)
    repeat' (first | refine And.intro ?_ ?_ | (intro hq; first | exact absurd hq (by decide) | exact absurd rfl hq | exact absurd hq (show ¬ (1 : Int) = 0 by decide) | exact absurd (show (1 : Int) ≠ 0 by decide) hq | skip) | (show cl _ _ _ _; first | refine hcl _ _ _ _ (c_Ways_onward (by omega) (fun x hx0 hx1 => ?_)) | refine hcl _ _ _ _ (c_Land_isShut (by omega) (by omega) ?_ ?_)))
    all_goals first
      | omega
      | (refine hev _ ?_; rw [e]; exact ih _ _ _ _ _ (by omega) (by omega) (by omega) (by repeat' (first | assumption | refine q_AWf ?_ (hW _ _ (by unfold w_wy; omega)) (by unfold q_fre; omega) | refine q_AWu ?_ (hW _ _ (by unfold w_wy; omega)) (by unfold q_ok; first | omega | (simp (disch := decide) only [q_un, q_ue]; omega)))) (by omega))
      | exact hK _ (by repeat' (first | assumption | refine q_AWf ?_ (hW _ _ (by unfold w_wy; omega)) (by unfold q_fre; omega) | refine q_AWu ?_ (hW _ _ (by unfold w_wy; omega)) (by unfold q_ok; first | omega | (simp (disch := decide) only [q_un, q_ue]; omega))))

theorem c_Ways_walkToGate {f : Int} {W : Int → Int → Prop} {σ0 σ : q_S} {K : q_R → q_S → Prop} (hW : ∀ k i, w_wy k i → W k i) (hf : 0 ≤ f ∧ f < 30) (h : q_AW W σ0 σ) (hK : ∀ σ', q_AW W σ0 σ' → K none σ') : q_K L xs i_Ways_walkToGate [(2, 30), (2, 1), (0, f)] σ K := by
  refine q_call k_Ways_walkToGate 6 rfl ?_
  show q_E L xs k_Ways_walkToGate (0, [(2, 30), (2, 1), (0, f), (9, 0), (9, 0), (9, 0)], [], σ) K
  refine q_go1 200 0 [4] (fun cl ev hcl hev => ?_)
  repeat' (first | refine And.intro ?_ ?_ | (intro hq; first | exact absurd hq (by decide) | exact absurd rfl hq | exact absurd hq (show ¬ (1 : Int) = 0 by decide) | exact absurd (show (1 : Int) ≠ 0 by decide) hq | skip))
  all_goals first
    | omega
    | exact hev _ (l_walk hW hK 31 0 _ _ _ _ (by omega) (by omega) (by omega) h (by omega))
    | exact hK _ (by repeat' (first | assumption | refine q_AWf ?_ (hW _ _ (by unfold w_wy; omega)) (by unfold q_fre; omega) | refine q_AWu ?_ (hW _ _ (by unfold w_wy; omega)) (by unfold q_ok; first | omega | (simp (disch := decide) only [q_un, q_ue]; omega))))

theorem c_Ways_seek {f n : Int} {W : Int → Int → Prop} {σ0 σ : q_S} {K : q_R → q_S → Prop} (hW : ∀ k i, w_wy k i → W k i) (hf : 0 ≤ f ∧ f < 30) (h : q_AW W σ0 σ) (hK : ∀ σ', q_AW W σ0 σ' → K none σ') : q_K L xs i_Ways_seek [(2, 30), (2, 1), (0, f), (0, n)] σ K := by
  refine q_call k_Ways_seek 4 rfl ?_
  show q_E L xs k_Ways_seek (0, [(2, 30), (2, 1), (0, f), (0, n)], [], σ) K
  refine q_go1 200 0 [] (fun cl ev hcl hev => ?_)
  repeat' (first | refine And.intro ?_ ?_ | (intro hq; first | exact absurd hq (by decide) | exact absurd rfl hq | exact absurd hq (show ¬ (1 : Int) = 0 by decide) | exact absurd (show (1 : Int) ≠ 0 by decide) hq | skip) | (show cl _ _ _ _; first | refine hcl _ _ _ _ (c_Ways_measure hW hf h (fun σ1 h1 => ?_)) | refine hcl _ _ _ _ (c_Ways_nearest (fun x hx0 hx1 => ?_)) | refine hcl _ _ _ _ (c_Ways_measure (σ0 := σ0) hW (by simp (disch := decide) only [q_un, q_ue, q_ui] at *; omega) (by repeat' (first | assumption | refine q_AWf ?_ (hW _ _ (by unfold w_wy; omega)) (by unfold q_fre; omega) | refine q_AWu ?_ (hW _ _ (by unfold w_wy; omega)) (by unfold q_ok; first | omega | (simp (disch := decide) only [q_un, q_ue]; omega)))) (fun σ2 h2 => ?_)) | refine hcl _ _ _ _ (c_Ways_walkToGate hW hf h2 (fun σ3 h3 => ?_))))
  all_goals first
    | omega
    | (simp (disch := decide) only [q_un, q_ue, q_ui] at *; omega)
    | exact hK _ (by repeat' (first | assumption | refine q_AWf ?_ (hW _ _ (by unfold w_wy; omega)) (by unfold q_fre; omega) | refine q_AWu ?_ (hW _ _ (by unfold w_wy; omega)) (by unfold q_ok; first | omega | (simp (disch := decide) only [q_un, q_ue]; omega))))

end P46
