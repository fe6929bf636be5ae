/-- what a tide of the class may change -/
def w_tide (k i : Int) : Prop := k = 3 ∨ k = 4 ∨ k = 5 ∨ (k = 1 ∧ (i = 5 ∨ i = 6 ∨ i = 7)) ∨ k = 20 ∨ k = 22 ∨ k = 23 ∨ k = 25 ∨ k = 28 ∨ k = 29
section P42
variable {L : Nat} {xs : Int → Int}

theorem l_fill4 {v : Int} {W : Int → Int → Prop} {σ0 : q_S} {K : q_R → q_S → Prop} (hW : ∀ k i, w_tide k i → W k i)  (hK : ∀ σ', q_AW W σ0 σ' → K none σ') :
    ∀ (m : Nat) (i : Int) (σ : q_S), 30 - i < m → 0 ≤ i → i ≤ 30 → q_AW W σ0 σ → q_E L xs k_Arrays_fillx (5, [(2, 4), (0, v), (0, i), (0, 30)], [], σ) K := by
  intro m
  induction m with
  | zero => intro i; omega
  | succ m ih =>
    intro i σ hm hi hi2 h
    have e : q_w32 (i + 1) = i + 1 := by rw [q_w32_id] <;> omega
    refine q_go1 200 5 [5] (fun cl ev hcl hev => ?_)
    repeat' (first | refine And.intro ?_ ?_ | (intro hq; first | exact absurd hq (by decide) | exact absurd rfl hq | exact absurd hq (show ¬ (1 : Int) = 0 by decide) | exact absurd (show (1 : Int) ≠ 0 by decide) hq | skip))
    all_goals first
      | omega
      | (refine hev _ ?_; rw [e]; exact ih _ _ (by omega) (by omega) (by omega) (by repeat' (first | assumption | refine q_AWf ?_ (hW _ _ (by unfold w_tide; omega)) (by unfold q_fre; omega) | refine q_AWu ?_ (hW _ _ (by unfold w_tide; omega)) (by unfold q_ok; first | omega | (simp (disch := decide) only [q_un, q_ue]; omega)))))
      | exact hK _ (by repeat' (first | assumption | refine q_AWf ?_ (hW _ _ (by unfold w_tide; omega)) (by unfold q_fre; omega) | refine q_AWu ?_ (hW _ _ (by unfold w_tide; omega)) (by unfold q_ok; first | omega | (simp (disch := decide) only [q_un, q_ue]; omega))))

theorem c_fill4 {v : Int} {W : Int → Int → Prop} {σ0 σ : q_S} {K : q_R → q_S → Prop} (hW : ∀ k i, w_tide k i → W k i)  (h : q_AW W σ0 σ) (hK : ∀ σ', q_AW W σ0 σ' → K none σ') : q_K L xs i_Arrays_fillx [(2, 4), (0, v)] σ K := by
  refine q_call k_Arrays_fillx 4 rfl ?_
  show q_E L xs k_Arrays_fillx (0, [(2, 4), (0, v), (9, 0), (9, 0)], [], σ) K
  refine q_go1 200 0 [5] (fun cl ev hcl hev => ?_)
  repeat' (first | refine And.intro ?_ ?_ | (intro hq; first | exact absurd hq (by decide) | exact absurd rfl hq | exact absurd hq (show ¬ (1 : Int) = 0 by decide) | exact absurd (show (1 : Int) ≠ 0 by decide) hq | skip))
  all_goals first
    | omega
    | exact hev _ (l_fill4 hW hK 31 0 _ (by omega) (by omega) (by omega) h)
    | exact hK _ (by repeat' (first | assumption | refine q_AWf ?_ (hW _ _ (by unfold w_tide; omega)) (by unfold q_fre; omega) | refine q_AWu ?_ (hW _ _ (by unfold w_tide; omega)) (by unfold q_ok; first | omega | (simp (disch := decide) only [q_un, q_ue]; omega))))

theorem l_fill25 {v : Int} {W : Int → Int → Prop} {σ0 : q_S} {K : q_R → q_S → Prop} (hW : ∀ k i, w_tide k i → W k i)  (hK : ∀ σ', q_AW W σ0 σ' → K none σ') :
    ∀ (m : Nat) (i : Int) (σ : q_S), 24 - i < m → 0 ≤ i → i ≤ 24 → q_AW W σ0 σ → q_E L xs k_Arrays_fillx (5, [(2, 25), (0, v), (0, i), (0, 24)], [], σ) K := by
  intro m
  induction m with
  | zero => intro i; omega
  | succ m ih =>
    intro i σ hm hi hi2 h
    have e : q_w32 (i + 1) = i + 1 := by rw [q_w32_id] <;> omega
    refine q_go1 200 5 [5] (fun cl ev hcl hev => ?_)
    repeat' (first | refine And.intro ?_ ?_ | (intro hq; first | exact absurd hq (by decide) | exact absurd rfl hq | exact absurd hq (show ¬ (1 : Int) = 0 by decide) | exact absurd (show (1 : Int) ≠ 0 by decide) hq | skip))
    all_goals first
      | omega
      | (refine hev _ ?_; rw [e]; exact ih _ _ (by omega) (by omega) (by omega) (by repeat' (first | assumption | refine q_AWf ?_ (hW _ _ (by unfold w_tide; omega)) (by unfold q_fre; omega) | refine q_AWu ?_ (hW _ _ (by unfold w_tide; omega)) (by unfold q_ok; first | omega | (simp (disch := decide) only [q_un, q_ue]; omega)))))
      | exact hK _ (by repeat' (first | assumption | refine q_AWf ?_ (hW _ _ (by unfold w_tide; omega)) (by unfold q_fre; omega) | refine q_AWu ?_ (hW _ _ (by unfold w_tide; omega)) (by unfold q_ok; first | omega | (simp (disch := decide) only [q_un, q_ue]; omega))))

theorem c_fill25 {v : Int} {W : Int → Int → Prop} {σ0 σ : q_S} {K : q_R → q_S → Prop} (hW : ∀ k i, w_tide k i → W k i)  (h : q_AW W σ0 σ) (hK : ∀ σ', q_AW W σ0 σ' → K none σ') : q_K L xs i_Arrays_fillx [(2, 25), (0, v)] σ K := by
  refine q_call k_Arrays_fillx 4 rfl ?_
  show q_E L xs k_Arrays_fillx (0, [(2, 25), (0, v), (9, 0), (9, 0)], [], σ) K
  refine q_go1 200 0 [5] (fun cl ev hcl hev => ?_)
  repeat' (first | refine And.intro ?_ ?_ | (intro hq; first | exact absurd hq (by decide) | exact absurd rfl hq | exact absurd hq (show ¬ (1 : Int) = 0 by decide) | exact absurd (show (1 : Int) ≠ 0 by decide) hq | skip))
  all_goals first
    | omega
    | exact hev _ (l_fill25 hW hK 25 0 _ (by omega) (by omega) (by omega) h)
    | exact hK _ (by repeat' (first | assumption | refine q_AWf ?_ (hW _ _ (by unfold w_tide; omega)) (by unfold q_fre; omega) | refine q_AWu ?_ (hW _ _ (by unfold w_tide; omega)) (by unfold q_ok; first | omega | (simp (disch := decide) only [q_un, q_ue]; omega))))

theorem c_Land_beginTide {W : Int → Int → Prop} {σ0 σ : q_S} {K : q_R → q_S → Prop} (hW : ∀ k i, w_tide k i → W k i)  (h : q_AW W σ0 σ) (hK : ∀ σ', q_AW W σ0 σ' → K none σ') : q_K L xs i_Land_beginTide [(2, 1)] σ K := by
  refine q_call k_Land_beginTide 1 rfl ?_
  show q_E L xs k_Land_beginTide (0, [(2, 1)], [], σ) K
  refine q_go1 200 0 [] (fun cl ev hcl hev => ?_)
  repeat' (first | refine And.intro ?_ ?_ | (intro hq; first | exact absurd hq (by decide) | exact absurd rfl hq | exact absurd hq (show ¬ (1 : Int) = 0 by decide) | exact absurd (show (1 : Int) ≠ 0 by decide) hq | skip) | (show cl _ _ _ _; first | refine hcl _ _ _ _ (c_fill4 hW h (fun σ1 h1 => ?_))))
  all_goals first
    | omega
    | exact hK _ (by repeat' (first | assumption | refine q_AWf ?_ (hW _ _ (by unfold w_tide; omega)) (by unfold q_fre; omega) | refine q_AWu ?_ (hW _ _ (by unfold w_tide; omega)) (by unfold q_ok; first | omega | (simp (disch := decide) only [q_un, q_ue]; omega))))

theorem c_Bank_beginTide {W : Int → Int → Prop} {σ0 σ : q_S} {K : q_R → q_S → Prop} (hW : ∀ k i, w_tide k i → W k i)  (h : q_AW W σ0 σ) (hK : ∀ σ', q_AW W σ0 σ' → K none σ') : q_K L xs i_Bank_beginTide [(2, 17)] σ K := by
  refine q_call k_Bank_beginTide 1 rfl ?_
  show q_E L xs k_Bank_beginTide (0, [(2, 17)], [], σ) K
  refine q_go1 200 0 [] (fun cl ev hcl hev => ?_)
  repeat' (first | refine And.intro ?_ ?_ | (intro hq; first | exact absurd hq (by decide) | exact absurd rfl hq | exact absurd hq (show ¬ (1 : Int) = 0 by decide) | exact absurd (show (1 : Int) ≠ 0 by decide) hq | skip) | (show cl _ _ _ _; first | refine hcl _ _ _ _ (c_fill25 hW h (fun σ1 h1 => ?_))))
  all_goals first
    | omega
    | exact hK _ (by repeat' (first | assumption | refine q_AWf ?_ (hW _ _ (by unfold w_tide; omega)) (by unfold q_fre; omega) | refine q_AWu ?_ (hW _ _ (by unfold w_tide; omega)) (by unfold q_ok; first | omega | (simp (disch := decide) only [q_un, q_ue]; omega))))

theorem l_rain {v : Int} {W : Int → Int → Prop} {σ0 : q_S} {K : q_R → q_S → Prop} (hW : ∀ k i, w_tide k i → W k i)  (hK : ∀ σ', q_AW W σ0 σ' → K none σ') :
    ∀ (m : Nat) (i : Int) (σ : q_S), 30 - i < m → 0 ≤ i → i ≤ 30 → q_AW W σ0 σ → q_E L xs k_Land_rainOnAll (2, [(2, 1), (0, v), (0, i)], [], σ) K := by
  intro m
  induction m with
  | zero => intro i; omega
  | succ m ih =>
    intro i σ hm hi hi2 h
    have e : q_w32 (i + 1) = i + 1 := by rw [q_w32_id] <;> omega
    refine q_go1 200 2 [2] (fun cl ev hcl hev => ?_)
    repeat' (first | refine And.intro ?_ ?_ | (intro hq; first | exact absurd hq (by decide) | exact absurd rfl hq | exact absurd hq (show ¬ (1 : Int) = 0 by decide) | exact absurd (show (1 : Int) ≠ 0 by decide) hq | skip))
    all_goals first
      | omega
      | (refine hev _ ?_; rw [e]; exact ih _ _ (by omega) (by omega) (by omega) (by repeat' (first | assumption | refine q_AWf ?_ (hW _ _ (by unfold w_tide; omega)) (by unfold q_fre; omega) | refine q_AWu ?_ (hW _ _ (by unfold w_tide; omega)) (by unfold q_ok; first | omega | (simp (disch := decide) only [q_un, q_ue]; omega)))))
      | exact hK _ (by repeat' (first | assumption | refine q_AWf ?_ (hW _ _ (by unfold w_tide; omega)) (by unfold q_fre; omega) | refine q_AWu ?_ (hW _ _ (by unfold w_tide; omega)) (by unfold q_ok; first | omega | (simp (disch := decide) only [q_un, q_ue]; omega))))

theorem c_Land_rainOnAll {v : Int} {W : Int → Int → Prop} {σ0 σ : q_S} {K : q_R → q_S → Prop} (hW : ∀ k i, w_tide k i → W k i)  (h : q_AW W σ0 σ) (hK : ∀ σ', q_AW W σ0 σ' → K none σ') : q_K L xs i_Land_rainOnAll [(2, 1), (0, v)] σ K := by
  refine q_call k_Land_rainOnAll 3 rfl ?_
  show q_E L xs k_Land_rainOnAll (0, [(2, 1), (0, v), (9, 0)], [], σ) K
  refine q_go1 200 0 [2] (fun cl ev hcl hev => ?_)
  repeat' (first | refine And.intro ?_ ?_ | (intro hq; first | exact absurd hq (by decide) | exact absurd rfl hq | exact absurd hq (show ¬ (1 : Int) = 0 by decide) | exact absurd (show (1 : Int) ≠ 0 by decide) hq | skip))
  all_goals first
    | omega
    | exact hev _ (l_rain hW hK 31 0 _ (by omega) (by omega) (by omega) h)
    | exact hK _ (by repeat' (first | assumption | refine q_AWf ?_ (hW _ _ (by unfold w_tide; omega)) (by unfold q_fre; omega) | refine q_AWu ?_ (hW _ _ (by unfold w_tide; omega)) (by unfold q_ok; first | omega | (simp (disch := decide) only [q_un, q_ue]; omega))))

theorem c_Land_letSeaIn {c v : Int} {W : Int → Int → Prop} {σ0 σ : q_S} {K : q_R → q_S → Prop} (hW : ∀ k i, w_tide k i → W k i) (hc : 0 ≤ c ∧ c < 30) (h : q_AW W σ0 σ) (hK : ∀ σ', q_AW W σ0 σ' → K none σ') : q_K L xs i_Land_letSeaIn [(2, 1), (0, c), (0, v)] σ K := by
  refine q_call k_Land_letSeaIn 3 rfl ?_
  show q_E L xs k_Land_letSeaIn (0, [(2, 1), (0, c), (0, v)], [], σ) K
  refine q_go1 200 0 [] (fun cl ev hcl hev => ?_)
  repeat' (first | refine And.intro ?_ ?_ | (intro hq; first | exact absurd hq (by decide) | exact absurd rfl hq | exact absurd hq (show ¬ (1 : Int) = 0 by decide) | exact absurd (show (1 : Int) ≠ 0 by decide) hq | skip))
  all_goals first
    | omega
    | exact hK _ (by repeat' (first | assumption | refine q_AWf ?_ (hW _ _ (by unfold w_tide; omega)) (by unfold q_fre; omega) | refine q_AWu ?_ (hW _ _ (by unfold w_tide; omega)) (by unfold q_ok; first | omega | (simp (disch := decide) only [q_un, q_ue]; omega))))

theorem c_Land_letOut {c v : Int} {W : Int → Int → Prop} {σ0 σ : q_S} {K : q_R → q_S → Prop} (hW : ∀ k i, w_tide k i → W k i) (hc : 0 ≤ c ∧ c < 30) (h : q_AW W σ0 σ) (hK : ∀ σ', q_AW W σ0 σ' → K none σ') : q_K L xs i_Land_letOut [(2, 1), (0, c), (0, v)] σ K := by
  refine q_call k_Land_letOut 4 rfl ?_
  show q_E L xs k_Land_letOut (0, [(2, 1), (0, c), (0, v), (9, 0)], [], σ) K
  refine q_go1 200 0 [] (fun cl ev hcl hev => ?_)
  repeat' (first | refine And.intro ?_ ?_ | (intro hq; first | exact absurd hq (by decide) | exact absurd rfl hq | exact absurd hq (show ¬ (1 : Int) = 0 by decide) | exact absurd (show (1 : Int) ≠ 0 by decide) hq | skip))
  all_goals first
    | omega
    | exact hK _ (by repeat' (first | assumption | refine q_AWf ?_ (hW _ _ (by unfold w_tide; omega)) (by unfold q_fre; omega) | refine q_AWu ?_ (hW _ _ (by unfold w_tide; omega)) (by unfold q_ok; first | omega | (simp (disch := decide) only [q_un, q_ue]; omega))))

theorem c_Land_flow {a b v : Int} {W : Int → Int → Prop} {σ0 σ : q_S} {K : q_R → q_S → Prop} (hW : ∀ k i, w_tide k i → W k i) (ha : 0 ≤ a ∧ a < 30) (hb : 0 ≤ b ∧ b < 30) (h : q_AW W σ0 σ) (hK : ∀ σ', q_AW W σ0 σ' → K none σ') : q_K L xs i_Land_flow [(2, 1), (0, a), (0, b), (0, v)] σ K := by
  refine q_call k_Land_flow 5 rfl ?_
  show q_E L xs k_Land_flow (0, [(2, 1), (0, a), (0, b), (0, v), (9, 0)], [], σ) K
  refine q_go1 200 0 [] (fun cl ev hcl hev => ?_)
  repeat' (first | refine And.intro ?_ ?_ | (intro hq; first | exact absurd hq (by decide) | exact absurd rfl hq | exact absurd hq (show ¬ (1 : Int) = 0 by decide) | exact absurd (show (1 : Int) ≠ 0 by decide) hq | skip))
  all_goals first
    | omega
    | exact hK _ (by repeat' (first | assumption | refine q_AWf ?_ (hW _ _ (by unfold w_tide; omega)) (by unfold q_fre; omega) | refine q_AWu ?_ (hW _ _ (by unfold w_tide; omega)) (by unfold q_ok; first | omega | (simp (disch := decide) only [q_un, q_ue]; omega))))

theorem c_Land_settle {a b : Int} {W : Int → Int → Prop} {σ0 σ : q_S} {K : q_R → q_S → Prop} (hW : ∀ k i, w_tide k i → W k i) (ha : 0 ≤ a ∧ a < 30) (hb : -1 ≤ b ∧ b < 30) (h : q_AW W σ0 σ) (hK : ∀ σ', q_AW W σ0 σ' → K none σ') : q_K L xs i_Land_settle [(2, 1), (0, a), (0, b)] σ K := by
  refine q_call k_Land_settle 4 rfl ?_
  show q_E L xs k_Land_settle (0, [(2, 1), (0, a), (0, b), (9, 0)], [], σ) K
  refine q_go1 200 0 [] (fun cl ev hcl hev => ?_)
  repeat' (first | refine And.intro ?_ ?_ | (intro hq; first | exact absurd hq (by decide) | exact absurd rfl hq | exact absurd hq (show ¬ (1 : Int) = 0 by decide) | exact absurd (show (1 : Int) ≠ 0 by decide) hq | skip) | (show cl _ _ _ _; first | refine hcl _ _ _ _ (c_Land_flow hW ?_ ?_ h (fun σ1 h1 => ?_))))
  all_goals first
    | omega
    | exact hK _ (by repeat' (first | assumption | refine q_AWf ?_ (hW _ _ (by unfold w_tide; omega)) (by unfold q_fre; omega) | refine q_AWu ?_ (hW _ _ (by unfold w_tide; omega)) (by unfold q_ok; first | omega | (simp (disch := decide) only [q_un, q_ue]; omega))))

theorem l_spread {W : Int → Int → Prop} {σ0 : q_S} {K : q_R → q_S → Prop} (hW : ∀ k i, w_tide k i → W k i)  (hK : ∀ σ', q_AW W σ0 σ' → K none σ') :
    ∀ (m : Nat) (i : Int) (σ : q_S), 30 - i < m → 0 ≤ i → i ≤ 30 → q_AW W σ0 σ → q_E L xs k_Land_spread (2, [(2, 1), (0, i)], [], σ) K := by
  intro m
  induction m with
  | zero => intro i; omega
  | succ m ih =>
    intro i σ hm hi hi2 h
    have e : q_w32 (i + 1) = i + 1 := by rw [q_w32_id] <;> omega
    have hbs := fun hc => q_bes_in (c := i) (w := 1) hc
    have hbs3 := fun hc => q_bes_in (c := i) (w := 3) hc
    refine q_go1 200 2 [2] (fun cl ev hcl hev => ?_)
    repeat' (first | refine And.intro ?_ ?_ | (intro hq; first | exact absurd hq (by decide) | exact absurd rfl hq | exact absurd hq (show ¬ (1 : Int) = 0 by decide) | exact absurd (show (1 : Int) ≠ 0 by decide) hq | skip) | (show cl _ _ _ _; first | refine hcl _ _ _ _ (c_Land_neighbour (by omega) (by omega) ?_) | refine hcl _ _ _ _ (c_Land_settle hW (by omega) (by omega) (by assumption) (fun σ1 h1 => ?_))))
    all_goals first
      | omega
      | (refine hev _ ?_; rw [e]; exact ih _ _ (by omega) (by omega) (by omega) (by repeat' (first | assumption | refine q_AWf ?_ (hW _ _ (by unfold w_tide; omega)) (by unfold q_fre; omega) | refine q_AWu ?_ (hW _ _ (by unfold w_tide; omega)) (by unfold q_ok; first | omega | (simp (disch := decide) only [q_un, q_ue]; omega)))))
      | exact hK _ (by repeat' (first | assumption | refine q_AWf ?_ (hW _ _ (by unfold w_tide; omega)) (by unfold q_fre; omega) | refine q_AWu ?_ (hW _ _ (by unfold w_tide; omega)) (by unfold q_ok; first | omega | (simp (disch := decide) only [q_un, q_ue]; omega))))

theorem c_Land_spread {W : Int → Int → Prop} {σ0 σ : q_S} {K : q_R → q_S → Prop} (hW : ∀ k i, w_tide k i → W k i)  (h : q_AW W σ0 σ) (hK : ∀ σ', q_AW W σ0 σ' → K none σ') : q_K L xs i_Land_spread [(2, 1)] σ K := by
  refine q_call k_Land_spread 2 rfl ?_
  show q_E L xs k_Land_spread (0, [(2, 1), (9, 0)], [], σ) K
  refine q_go1 200 0 [2] (fun cl ev hcl hev => ?_)
  repeat' (first | refine And.intro ?_ ?_ | (intro hq; first | exact absurd hq (by decide) | exact absurd rfl hq | exact absurd hq (show ¬ (1 : Int) = 0 by decide) | exact absurd (show (1 : Int) ≠ 0 by decide) hq | skip))
  all_goals first
    | omega
    | exact hev _ (l_spread hW hK 31 0 _ (by omega) (by omega) (by omega) h)
    | exact hK _ (by repeat' (first | assumption | refine q_AWf ?_ (hW _ _ (by unfold w_tide; omega)) (by unfold q_fre; omega) | refine q_AWu ?_ (hW _ _ (by unfold w_tide; omega)) (by unfold q_ok; first | omega | (simp (disch := decide) only [q_un, q_ue]; omega))))

theorem l_peaks {W : Int → Int → Prop} {σ0 : q_S} {K : q_R → q_S → Prop} (hW : ∀ k i, w_tide k i → W k i)  (hK : ∀ σ', q_AW W σ0 σ' → K none σ') :
    ∀ (m : Nat) (i : Int) (σ : q_S), 30 - i < m → 0 ≤ i → i ≤ 30 → q_AW W σ0 σ → q_E L xs k_Land_notePeaks (2, [(2, 1), (0, i)], [], σ) K := by
  intro m
  induction m with
  | zero => intro i; omega
  | succ m ih =>
    intro i σ hm hi hi2 h
    have e : q_w32 (i + 1) = i + 1 := by rw [q_w32_id] <;> omega
    refine q_go1 200 2 [2] (fun cl ev hcl hev => ?_)
    repeat' (first | refine And.intro ?_ ?_ | (intro hq; first | exact absurd hq (by decide) | exact absurd rfl hq | exact absurd hq (show ¬ (1 : Int) = 0 by decide) | exact absurd (show (1 : Int) ≠ 0 by decide) hq | skip))
    all_goals first
      | omega
      | (refine hev _ ?_; rw [e]; exact ih _ _ (by omega) (by omega) (by omega) (by repeat' (first | assumption | refine q_AWf ?_ (hW _ _ (by unfold w_tide; omega)) (by unfold q_fre; omega) | refine q_AWu ?_ (hW _ _ (by unfold w_tide; omega)) (by unfold q_ok; first | omega | (simp (disch := decide) only [q_un, q_ue]; omega)))))
      | exact hK _ (by repeat' (first | assumption | refine q_AWf ?_ (hW _ _ (by unfold w_tide; omega)) (by unfold q_fre; omega) | refine q_AWu ?_ (hW _ _ (by unfold w_tide; omega)) (by unfold q_ok; first | omega | (simp (disch := decide) only [q_un, q_ue]; omega))))

theorem c_Land_notePeaks {W : Int → Int → Prop} {σ0 σ : q_S} {K : q_R → q_S → Prop} (hW : ∀ k i, w_tide k i → W k i)  (h : q_AW W σ0 σ) (hK : ∀ σ', q_AW W σ0 σ' → K none σ') : q_K L xs i_Land_notePeaks [(2, 1)] σ K := by
  refine q_call k_Land_notePeaks 2 rfl ?_
  show q_E L xs k_Land_notePeaks (0, [(2, 1), (9, 0)], [], σ) K
  refine q_go1 200 0 [2] (fun cl ev hcl hev => ?_)
  repeat' (first | refine And.intro ?_ ?_ | (intro hq; first | exact absurd hq (by decide) | exact absurd rfl hq | exact absurd hq (show ¬ (1 : Int) = 0 by decide) | exact absurd (show (1 : Int) ≠ 0 by decide) hq | skip))
  all_goals first
    | omega
    | exact hev _ (l_peaks hW hK 31 0 _ (by omega) (by omega) (by omega) h)
    | exact hK _ (by repeat' (first | assumption | refine q_AWf ?_ (hW _ _ (by unfold w_tide; omega)) (by unfold q_fre; omega) | refine q_AWu ?_ (hW _ _ (by unfold w_tide; omega)) (by unfold q_ok; first | omega | (simp (disch := decide) only [q_un, q_ue]; omega))))

theorem l_endTide {W : Int → Int → Prop} {σ0 : q_S} {K : q_R → q_S → Prop} (hW : ∀ k i, w_tide k i → W k i)  (hK : ∀ σ', q_AW W σ0 σ' → K none σ') :
    ∀ (m : Nat) (i : Int) (σ : q_S), 30 - i < m → 0 ≤ i → i ≤ 30 → q_AW W σ0 σ → q_E L xs k_Land_endTide (6, [(2, 1), (0, i)], [], σ) K := by
  intro m
  induction m with
  | zero => intro i; omega
  | succ m ih =>
    intro i σ hm hi hi2 h
    have e : q_w32 (i + 1) = i + 1 := by rw [q_w32_id] <;> omega
    refine q_go1 200 6 [6] (fun cl ev hcl hev => ?_)
    repeat' (first | refine And.intro ?_ ?_ | (intro hq; first | exact absurd hq (by decide) | exact absurd rfl hq | exact absurd hq (show ¬ (1 : Int) = 0 by decide) | exact absurd (show (1 : Int) ≠ 0 by decide) hq | skip))
    all_goals first
      | omega
      | (refine hev _ ?_; rw [e]; exact ih _ _ (by omega) (by omega) (by omega) (by repeat' (first | assumption | refine q_AWf ?_ (hW _ _ (by unfold w_tide; omega)) (by unfold q_fre; omega) | refine q_AWu ?_ (hW _ _ (by unfold w_tide; omega)) (by unfold q_ok; first | omega | (simp (disch := decide) only [q_un, q_ue]; omega)))))
      | exact hK _ (by repeat' (first | assumption | refine q_AWf ?_ (hW _ _ (by unfold w_tide; omega)) (by unfold q_fre; omega) | refine q_AWu ?_ (hW _ _ (by unfold w_tide; omega)) (by unfold q_ok; first | omega | (simp (disch := decide) only [q_un, q_ue]; omega))))

theorem c_Land_endTide {W : Int → Int → Prop} {σ0 σ : q_S} {K : q_R → q_S → Prop} (hW : ∀ k i, w_tide k i → W k i)  (h : q_AW W σ0 σ) (hK : ∀ σ', q_AW W σ0 σ' → K none σ') : q_K L xs i_Land_endTide [(2, 1)] σ K := by
  refine q_call k_Land_endTide 2 rfl ?_
  show q_E L xs k_Land_endTide (0, [(2, 1), (9, 0)], [], σ) K
  refine q_go1 200 0 [6] (fun cl ev hcl hev => ?_)
  repeat' (first | refine And.intro ?_ ?_ | (intro hq; first | exact absurd hq (by decide) | exact absurd rfl hq | exact absurd hq (show ¬ (1 : Int) = 0 by decide) | exact absurd (show (1 : Int) ≠ 0 by decide) hq | skip))
  all_goals first
    | omega
    | exact hev _ (l_endTide hW hK 31 0 _ (by omega) (by omega) (by omega) h)
    | exact hK _ (by repeat' (first | assumption | refine q_AWf ?_ (hW _ _ (by unfold w_tide; omega)) (by unfold q_fre; omega) | refine q_AWu ?_ (hW _ _ (by unfold w_tide; omega)) (by unfold q_ok; first | omega | (simp (disch := decide) only [q_un, q_ue]; omega))))

theorem l_refuge {c : Int} {σ : q_S} {K : q_R → q_S → Prop} (hc : 0 ≤ c ∧ c < 30) (hK : ∀ x, 0 ≤ x → x < 30 → K (some (0, x)) σ) :
    ∀ (m : Nat) (i best y : Int) (u : Nat), 4 - i < m → 0 ≤ i → i ≤ 4 → 0 ≤ best → best < 30 → q_E L xs k_Land_refuge (4, [(2, 1), (0, c), (0, best), (0, i), (u, y)], [], σ) K := by
  intro m
  induction m with
  | zero => intro i; omega
  | succ m ih =>
    intro i best y u hm hi hi2 hb0 hb1
    have e : q_w32 (i + 1) = i + 1 := by rw [q_w32_id] <;> omega
    have hbs := q_bes_in (c := c) (w := i) hc
    refine q_go1 120 4 [4] (fun cl ev hcl hev => ?_)
    repeat' (first | refine And.intro ?_ ?_ | (intro hq; first | exact absurd hq (by decide) | exact absurd rfl hq | exact absurd hq (show ¬ (1 : Int) = 0 by decide) | exact absurd (show (1 : Int) ≠ 0 by decide) hq | skip) | refine hcl _ _ _ _ (c_Land_neighbour hc (by omega) ?_) | refine hcl _ _ _ _ (c_Land_isShut hc (by omega) ?_ ?_))
    all_goals first
      | omega
      | exact hK _ hb0 hb1
      | (refine hev _ ?_; rw [e]; exact ih _ _ _ _ (by omega) (by omega) (by omega) (by omega) (by omega))
theorem c_Land_refuge {c : Int} {σ : q_S} {K : q_R → q_S → Prop} (hc : 0 ≤ c ∧ c < 30) (hK : ∀ x, 0 ≤ x → x < 30 → K (some (0, x)) σ) : q_K L xs i_Land_refuge [(2, 1), (0, c)] σ K := by
  refine q_call k_Land_refuge 5 rfl ?_
  show q_E L xs k_Land_refuge (0, [(2, 1), (0, c), (9, 0), (9, 0), (9, 0)], [], σ) K
  refine q_go1 120 0 [4] (fun cl ev hcl hev => ?_)
  exact hev _ (l_refuge hc hK 5 0 _ _ _ (by omega) (by omega) (by omega) hc.1 hc.2)

end P42
