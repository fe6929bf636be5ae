section P48
variable {L : Nat} {xs : Int → Int}

theorem c_tv5 {lo hi : Int} {W : Int → Int → Prop} {σ0 σ : q_S} {K : q_R → q_S → Prop} (hW : ∀ k i, w_tp k i → W k i) (hl : 0 ≤ lo) (hh : 0 ≤ hi ∧ hi ≤ 999) (h : q_AW W σ0 σ) (hK : ∀ x σ', -1 ≤ x → x ≤ hi → q_AW W σ0 σ' → K (some (0, x)) σ') : q_K L xs i_Tape_takeValue [(2, 32), (4, 5), (0, lo), (0, hi)] σ K := by
  refine q_call k_Tape_takeValue 4 rfl ?_
  show q_E L xs k_Tape_takeValue (0, [(2, 32), (4, 5), (0, lo), (0, hi)], [], σ) K
  refine q_go1 200 0 [] (fun cl ev hcl hev => ?_)
  repeat' (first | refine And.intro ?_ ?_ | (intro hq; first | exact absurd hq (by decide) | exact absurd rfl hq | exact absurd hq (show ¬ (1 : Int) = 0 by decide) | exact absurd (show (1 : Int) ≠ 0 by decide) hq | skip) | (show cl _ _ _ _; first | refine hcl _ _ _ _ (c_ta5 hW h (fun x σ1 hx h1 => ?_)) | refine hcl _ _ _ _ (c_Tape_takeNumber hW hl hh h1 (fun y σ2 hy0 hy1 h2 => ?_))))
  all_goals first
    | omega
    | exact hK _ _ (by omega) (by omega) (by assumption)

theorem c_tv7 {lo hi : Int} {W : Int → Int → Prop} {σ0 σ : q_S} {K : q_R → q_S → Prop} (hW : ∀ k i, w_tp k i → W k i) (hl : 0 ≤ lo) (hh : 0 ≤ hi ∧ hi ≤ 999) (h : q_AW W σ0 σ) (hK : ∀ x σ', -1 ≤ x → x ≤ hi → q_AW W σ0 σ' → K (some (0, x)) σ') : q_K L xs i_Tape_takeValue [(2, 32), (4, 7), (0, lo), (0, hi)] σ K := by
  refine q_call k_Tape_takeValue 4 rfl ?_
  show q_E L xs k_Tape_takeValue (0, [(2, 32), (4, 7), (0, lo), (0, hi)], [], σ) K
  refine q_go1 200 0 [] (fun cl ev hcl hev => ?_)
  repeat' (first | refine And.intro ?_ ?_ | (intro hq; first | exact absurd hq (by decide) | exact absurd rfl hq | exact absurd hq (show ¬ (1 : Int) = 0 by decide) | exact absurd (show (1 : Int) ≠ 0 by decide) hq | skip) | (show cl _ _ _ _; first | refine hcl _ _ _ _ (c_ta7 hW h (fun x σ1 hx h1 => ?_)) | refine hcl _ _ _ _ (c_Tape_takeNumber hW hl hh h1 (fun y σ2 hy0 hy1 h2 => ?_))))
  all_goals first
    | omega
    | exact hK _ _ (by omega) (by omega) (by assumption)

theorem c_tv9 {lo hi : Int} {W : Int → Int → Prop} {σ0 σ : q_S} {K : q_R → q_S → Prop} (hW : ∀ k i, w_tp k i → W k i) (hl : 0 ≤ lo) (hh : 0 ≤ hi ∧ hi ≤ 999) (h : q_AW W σ0 σ) (hK : ∀ x σ', -1 ≤ x → x ≤ hi → q_AW W σ0 σ' → K (some (0, x)) σ') : q_K L xs i_Tape_takeValue [(2, 32), (4, 9), (0, lo), (0, hi)] σ K := by
  refine q_call k_Tape_takeValue 4 rfl ?_
  show q_E L xs k_Tape_takeValue (0, [(2, 32), (4, 9), (0, lo), (0, hi)], [], σ) K
  refine q_go1 200 0 [] (fun cl ev hcl hev => ?_)
  repeat' (first | refine And.intro ?_ ?_ | (intro hq; first | exact absurd hq (by decide) | exact absurd rfl hq | exact absurd hq (show ¬ (1 : Int) = 0 by decide) | exact absurd (show (1 : Int) ≠ 0 by decide) hq | skip) | (show cl _ _ _ _; first | refine hcl _ _ _ _ (c_ta9 hW h (fun x σ1 hx h1 => ?_)) | refine hcl _ _ _ _ (c_Tape_takeNumber hW hl hh h1 (fun y σ2 hy0 hy1 h2 => ?_))))
  all_goals first
    | omega
    | exact hK _ _ (by omega) (by omega) (by assumption)

theorem c_tv11 {lo hi : Int} {W : Int → Int → Prop} {σ0 σ : q_S} {K : q_R → q_S → Prop} (hW : ∀ k i, w_tp k i → W k i) (hl : 0 ≤ lo) (hh : 0 ≤ hi ∧ hi ≤ 999) (h : q_AW W σ0 σ) (hK : ∀ x σ', -1 ≤ x → x ≤ hi → q_AW W σ0 σ' → K (some (0, x)) σ') : q_K L xs i_Tape_takeValue [(2, 32), (4, 11), (0, lo), (0, hi)] σ K := by
  refine q_call k_Tape_takeValue 4 rfl ?_
  show q_E L xs k_Tape_takeValue (0, [(2, 32), (4, 11), (0, lo), (0, hi)], [], σ) K
  refine q_go1 200 0 [] (fun cl ev hcl hev => ?_)
  repeat' (first | refine And.intro ?_ ?_ | (intro hq; first | exact absurd hq (by decide) | exact absurd rfl hq | exact absurd hq (show ¬ (1 : Int) = 0 by decide) | exact absurd (show (1 : Int) ≠ 0 by decide) hq | skip) | (show cl _ _ _ _; first | refine hcl _ _ _ _ (c_ta11 hW h (fun x σ1 hx h1 => ?_)) | refine hcl _ _ _ _ (c_Tape_takeNumber hW hl hh h1 (fun y σ2 hy0 hy1 h2 => ?_))))
  all_goals first
    | omega
    | exact hK _ _ (by omega) (by omega) (by assumption)

theorem c_Tape_takeHow {W : Int → Int → Prop} {σ0 σ : q_S} {K : q_R → q_S → Prop} (hW : ∀ k i, w_tp k i → W k i)  (h : q_AW W σ0 σ) (hK : ∀ x σ', q_AW W σ0 σ' → K (some (0, x)) σ') : q_K L xs i_Tape_takeHow [(2, 32)] σ K := by
  have hp := q_oAt h
  refine q_call k_Tape_takeHow 1 rfl ?_
  show q_E L xs k_Tape_takeHow (0, [(2, 32)], [], σ) K
  refine q_go1 200 0 [] (fun cl ev hcl hev => ?_)
  repeat' (first | refine And.intro ?_ ?_ | (intro hq; first | exact absurd hq (by decide) | exact absurd rfl hq | exact absurd hq (show ¬ (1 : Int) = 0 by decide) | exact absurd (show (1 : Int) ≠ 0 by decide) hq | skip) | (show cl _ _ _ _; first | refine hcl _ _ _ _ (c_Tape_peek hp.1 (fun x hx => ?_)) | refine hcl _ _ _ _ (c_ta13 hW h (fun x σ1 hx h1 => ?_)) | refine hcl _ _ _ _ (c_ta15 hW h (fun x σ1 hx h1 => ?_)) | refine hcl _ _ _ _ (c_ta17 hW h (fun x σ1 hx h1 => ?_)) | refine hcl _ _ _ _ (c_Tape_takeNumber hW (by omega) (by omega) h1 (fun y σ2 hy0 hy1 h2 => ?_))))
  all_goals first
    | omega
    | exact hK _ _ (by repeat' (first | assumption | refine q_AWf ?_ (hW _ _ (by unfold w_tp; omega)) (by unfold q_fre; omega) | refine q_AWu ?_ (hW _ _ (by unfold w_tp; omega)) (by unfold q_ok; first | omega | (simp (disch := decide) only [q_un, q_ue]; omega))))

theorem c_Custom_clear {q : Int} {W : Int → Int → Prop} {σ0 σ : q_S} {K : q_R → q_S → Prop} (hW : ∀ k i, w_rd k i → W k i) (hq1 : q_cu q) (h : q_AW W σ0 σ) (hK : ∀ σ', q_AW W σ0 σ' → K none σ') : q_K L xs i_Custom_clear [(2, q)] σ K := by
  unfold q_cu at hq1
  rcases hq1 with rfl | rfl | rfl | rfl | rfl | rfl | rfl | rfl | rfl | rfl | rfl | rfl | rfl
  all_goals
    refine q_call k_Custom_clear 1 rfl ?_
    show q_E L xs k_Custom_clear (0, [(2, _)], [], σ) K
    refine q_go1 200 0 [] (fun cl ev hcl hev => ?_)
    repeat' (first | refine And.intro ?_ ?_ | (intro hq; first | exact absurd hq (by decide) | exact absurd rfl hq | exact absurd hq (show ¬ (1 : Int) = 0 by decide) | exact absurd (show (1 : Int) ≠ 0 by decide) hq | skip))
    all_goals first
      | omega
      | exact hK _ (by repeat' (first | assumption | refine q_AWf ?_ (hW _ _ (by unfold w_rd; omega)) (by unfold q_fre; omega) | refine q_AWu ?_ (hW _ _ (by unfold w_rd; omega)) (by unfold q_ok; first | omega | (simp (disch := decide) only [q_un, q_ue]; omega))))

theorem c_Custom_addRule {q f l n : Int} {W : Int → Int → Prop} {σ0 σ : q_S} {K : q_R → q_S → Prop} (hW : ∀ k i, w_rd k i → W k i) (hq1 : q_cu q) (h : q_AW W σ0 σ) (hK : ∀ σ', q_AW W σ0 σ' → K none σ') : q_K L xs i_Custom_addRule [(2, q), (0, f), (0, l), (0, n)] σ K := by
  have hn := q_oRules h (q_cu_in hq1)
  have e : σ q 8 < 10 → q_w32 (σ q 8 + 1) = σ q 8 + 1 := fun _ => by rw [q_w32_id] <;> omega
  unfold q_cu at hq1
  rcases hq1 with rfl | rfl | rfl | rfl | rfl | rfl | rfl | rfl | rfl | rfl | rfl | rfl | rfl
  all_goals
    refine q_call k_Custom_addRule 4 rfl ?_
    show q_E L xs k_Custom_addRule (0, [(2, _), (0, f), (0, l), (0, n)], [], σ) K
    refine q_go1 200 0 [] (fun cl ev hcl hev => ?_)
    repeat' (first | refine And.intro ?_ ?_ | (intro hq; first | exact absurd hq (by decide) | exact absurd rfl hq | exact absurd hq (show ¬ (1 : Int) = 0 by decide) | exact absurd (show (1 : Int) ≠ 0 by decide) hq | skip))
    all_goals first
      | omega
      | (simp (disch := decide) only [q_un, q_ue]; omega)
      | (simp (disch := decide) only [q_un, q_ue]; rw [e (by omega)]; exact hK _ (by repeat' (first | assumption | refine q_AWf ?_ (hW _ _ (by unfold w_rd; omega)) (by unfold q_fre; omega) | refine q_AWu ?_ (hW _ _ (by unfold w_rd; omega)) (by unfold q_ok; first | omega | (simp (disch := decide) only [q_un, q_ue]; omega)))))
      | exact hK _ (by repeat' (first | assumption | refine q_AWf ?_ (hW _ _ (by unfold w_rd; omega)) (by unfold q_fre; omega) | refine q_AWu ?_ (hW _ _ (by unfold w_rd; omega)) (by unfold q_ok; first | omega | (simp (disch := decide) only [q_un, q_ue]; omega))))

theorem c_Tape_takeRule {q : Int} {W : Int → Int → Prop} {σ0 σ : q_S} {K : q_R → q_S → Prop} (hW : ∀ k i, w_rd k i → W k i) (hq1 : q_cu q) (h : q_AW W σ0 σ) (hK : ∀ x σ', (x = 0 ∨ x = 1) → q_AW W σ0 σ' → K (some (0, x)) σ') : q_K L xs i_Tape_takeRule [(2, 32), (2, q)] σ K := by
  refine q_call k_Tape_takeRule 5 rfl ?_
  show q_E L xs k_Tape_takeRule (0, [(2, 32), (2, q), (9, 0), (9, 0), (9, 0)], [], σ) K
  refine q_go1 200 0 [] (fun cl ev hcl hev => ?_)
  repeat' (first | (unfold q_cu at hq1; rcases hq1 with rfl | rfl | rfl | rfl | rfl | rfl | rfl | rfl | rfl | rfl | rfl | rfl | rfl) | refine And.intro ?_ ?_ | (intro hq; first | exact absurd hq (by decide) | exact absurd rfl hq | exact absurd hq (show ¬ (1 : Int) = 0 by decide) | exact absurd (show (1 : Int) ≠ 0 by decide) hq | skip) | (show cl _ _ _ _; first | refine hcl _ _ _ _ (c_Tape_takeNumber (fun k i hk => hW k i (Or.inl hk)) (by omega) (by omega) h (fun x1 σ1 _ _ h1 => ?_)) | refine hcl _ _ _ _ (c_Tape_take (fun k i hk => hW k i (Or.inl hk)) (by omega) h1 (fun x2 σ2 hx2 h2 => ?_)) | refine hcl _ _ _ _ (c_Tape_takeNumber (fun k i hk => hW k i (Or.inl hk)) (by omega) (by omega) h2 (fun x3 σ3 _ _ h3 => ?_)) | refine hcl _ _ _ _ (c_Tape_take (fun k i hk => hW k i (Or.inl hk)) (by omega) h3 (fun x4 σ4 hx4 h4 => ?_)) | refine hcl _ _ _ _ (c_Tape_takeHow (fun k i hk => hW k i (Or.inl hk)) h4 (fun x5 σ5 h5 => ?_)) | refine hcl _ _ _ _ (c_Custom_addRule hW (by unfold q_cu; omega) h5 (fun σ6 h6 => ?_))))
  all_goals first
    | omega
    | exact hK _ _ (Or.inl rfl) (by assumption)
    | exact hK _ _ (Or.inr rfl) (by assumption)

theorem c_Tape_takeClause {q : Int} {W : Int → Int → Prop} {σ0 σ : q_S} {K : q_R → q_S → Prop} (hW : ∀ k i, w_rd k i → W k i) (hq1 : q_cu q) (h : q_AW W σ0 σ) (hK : ∀ x σ', (x = 0 ∨ x = 1) → q_AW W σ0 σ' → K (some (0, x)) σ') : q_K L xs i_Tape_takeClause [(2, 32), (2, q)] σ K := by
  have hp := q_oAt h
  unfold q_cu at hq1
  rcases hq1 with rfl | rfl | rfl | rfl | rfl | rfl | rfl | rfl | rfl | rfl | rfl | rfl | rfl
  all_goals
    refine q_call k_Tape_takeClause 2 rfl ?_
    show q_E L xs k_Tape_takeClause (0, [(2, 32), (2, _)], [], σ) K
    refine q_go1 200 0 [] (fun cl ev hcl hev => ?_)
    repeat' (first | refine And.intro ?_ ?_ | (intro hq; first | exact absurd hq (by decide) | exact absurd rfl hq | exact absurd hq (show ¬ (1 : Int) = 0 by decide) | exact absurd (show (1 : Int) ≠ 0 by decide) hq | skip) | (show cl _ _ _ _; first | refine hcl _ _ _ _ (c_Tape_peek hp.1 (fun x hx => ?_)) | refine hcl _ _ _ _ (c_ta3 (fun k i hk => hW k i (Or.inl hk)) h (fun x σ1 hx h1 => ?_)) | refine hcl _ _ _ _ (c_Tape_takeRule hW (by unfold q_cu; omega) h1 (fun x2 σ2 hx2 h2 => ?_)) | refine hcl _ _ _ _ (c_tv5 (fun k i hk => hW k i (Or.inl hk)) (by omega) (by omega) h (fun x3 σ3 hx3 hx4 h3 => ?_)) | refine hcl _ _ _ _ (c_tv7 (fun k i hk => hW k i (Or.inl hk)) (by omega) (by omega) h (fun x3 σ3 hx3 hx4 h3 => ?_)) | refine hcl _ _ _ _ (c_tv9 (fun k i hk => hW k i (Or.inl hk)) (by omega) (by omega) h (fun x3 σ3 hx3 hx4 h3 => ?_)) | refine hcl _ _ _ _ (c_tv11 (fun k i hk => hW k i (Or.inl hk)) (by omega) (by omega) h (fun x3 σ3 hx3 hx4 h3 => ?_))))
    all_goals first
      | omega
      | exact hK _ _ (Or.inl rfl) (by repeat' (first | assumption | refine q_AWf ?_ (hW _ _ (by unfold w_rd; omega)) (by unfold q_fre; omega) | refine q_AWu ?_ (hW _ _ (by unfold w_rd; omega)) (by unfold q_ok; first | omega | (simp (disch := decide) only [q_un, q_ue]; omega))))
      | exact hK _ _ (Or.inr rfl) (by repeat' (first | assumption | refine q_AWf ?_ (hW _ _ (by unfold w_rd; omega)) (by unfold q_fre; omega) | refine q_AWu ?_ (hW _ _ (by unfold w_rd; omega)) (by unfold q_ok; first | omega | (simp (disch := decide) only [q_un, q_ue]; omega))))

theorem l_read {q : Int} {W : Int → Int → Prop} {σ0 : q_S} {K : q_R → q_S → Prop} (hW : ∀ k i, w_rd k i → W k i) (hq1 : q_cu q) (hK : ∀ x σ', (x = 0 ∨ x = 1) → q_AW W σ0 σ' → K (some (0, x)) σ') :
    ∀ (m : Nat) (i : Int) (σ : q_S), 10 - i < m → 0 ≤ i → i ≤ 10 → q_AW W σ0 σ → q_E L xs k_Tape_read (7, [(2, 32), (2, q), (0, i)], [], σ) K := by
  intro m
  induction m with
  | zero => intro i; omega
  | succ m ih =>
    intro i σ hm hi hi2 h
    have hq2 := hq1
    have e : q_w32 (i + 1) = i + 1 := by rw [q_w32_id] <;> omega
    refine q_go1 200 7 [7] (fun cl ev hcl hev => ?_)
    repeat' (first | refine And.intro ?_ ?_ | (intro hq; first | exact absurd hq (by decide) | exact absurd rfl hq | exact absurd hq (show ¬ (1 : Int) = 0 by decide) | exact absurd (show (1 : Int) ≠ 0 by decide) hq | skip) | (show cl _ _ _ _; first | refine hcl _ _ _ _ (c_Tape_take (fun k i hk => hW k i (Or.inl hk)) (by omega) h (fun x σ1 hx h1 => ?_)) | refine hcl _ _ _ _ (c_Tape_takeClause hW hq2 (by assumption) (fun x2 σ2 hx2 h2 => ?_))))
    all_goals first
      | omega
      | exact hK _ _ (Or.inl rfl) (by assumption)
      | exact hK _ _ (Or.inr rfl) (by assumption)
      | (refine hev _ ?_; rw [e]; exact ih _ _ (by omega) (by omega) (by omega) (by repeat' (first | assumption | refine q_AWf ?_ (hW _ _ (by unfold w_rd; omega)) (by unfold q_fre; omega) | refine q_AWu ?_ (hW _ _ (by unfold w_rd; omega)) (by unfold q_ok; first | omega | (simp (disch := decide) only [q_un, q_ue]; omega)))))

theorem c_Tape_read {q : Int} {W : Int → Int → Prop} {σ0 σ : q_S} {K : q_R → q_S → Prop} (hW : ∀ k i, w_rd k i → W k i) (hq1 : q_cu q) (h : q_AW W σ0 σ) (hK : ∀ x σ', (x = 0 ∨ x = 1) → q_AW W σ0 σ' → K (some (0, x)) σ') : q_K L xs i_Tape_read [(2, 32), (2, q)] σ K := by
  have hq2 := hq1
  refine q_call k_Tape_read 3 rfl ?_
  show q_E L xs k_Tape_read (0, [(2, 32), (2, q), (9, 0)], [], σ) K
  refine q_go1 200 0 [7] (fun cl ev hcl hev => ?_)
  repeat' (first | (unfold q_cu at hq1; rcases hq1 with rfl | rfl | rfl | rfl | rfl | rfl | rfl | rfl | rfl | rfl | rfl | rfl | rfl) | refine And.intro ?_ ?_ | (intro hq; first | exact absurd hq (by decide) | exact absurd rfl hq | exact absurd hq (show ¬ (1 : Int) = 0 by decide) | exact absurd (show (1 : Int) ≠ 0 by decide) hq | skip) | (show cl _ _ _ _; first | refine hcl _ _ _ _ (c_Custom_clear hW hq2 h (fun σ1 h1 => ?_))))
  all_goals first
    | omega
    | exact hev _ (l_read hW hq2 hK 11 0 _ (by omega) (by omega) (by omega) (by repeat' (first | assumption | refine q_AWf ?_ (hW _ _ (by unfold w_rd; omega)) (by unfold q_fre; omega) | refine q_AWu ?_ (hW _ _ (by unfold w_rd; omega)) (by unfold q_ok; first | omega | (simp (disch := decide) only [q_un, q_ue]; omega)))))

/-- the tape -/
def w_fe (k i : Int) : Prop := k = 33 ∨ (k = 32 ∧ i = 1)
theorem l_append {w : Int} {n : Int} {W : Int → Int → Prop} {σ0 : q_S} {K : q_R → q_S → Prop} (hW : ∀ k i, w_fe k i → W k i) (hK : ∀ σ', q_AW W σ0 σ' → K none σ') :
    ∀ (m : Nat) (i : Int) (σ : q_S), i < m → i < 8 → q_AW W σ0 σ → q_E L xs k_Tape_append (4, [(2, 32), (1, w), (9, 0), (0, n), (0, i)], [], σ) K := by
  intro m
  induction m with
  | zero =>
    intro i σ hm hi h
    refine q_go1 200 4 [4] (fun cl ev hcl hev => ?_)
    repeat' (first | refine And.intro ?_ ?_ | (intro hq; first | exact absurd hq (by decide) | exact absurd rfl hq | exact absurd hq (show ¬ (1 : Int) = 0 by decide) | exact absurd (show (1 : Int) ≠ 0 by decide) hq | skip))
    all_goals first
      | omega
      | exact hK _ h
  | succ m ih =>
    intro i σ hm hi h
    have e : 0 ≤ i → q_w32 (i + (-1)) = i - 1 := fun _ => by rw [q_w32_id] <;> omega
    have hs := q_oTape h
    have e1 : σ 32 1 < 160 → q_w32 (σ 32 1 + 1) = σ 32 1 + 1 := fun _ => by rw [q_w32_id] <;> omega
    refine q_go1 200 4 [4] (fun cl ev hcl hev => ?_)
    repeat' (first | refine And.intro ?_ ?_ | (intro hq; first | exact absurd hq (by decide) | exact absurd rfl hq | exact absurd hq (show ¬ (1 : Int) = 0 by decide) | exact absurd (show (1 : Int) ≠ 0 by decide) hq | skip))
    all_goals first
      | omega
      | exact hK _ h
      | (refine hev _ ?_
         rw [e (by omega), q_un (by decide), e1 (by omega)]
         exact ih _ _ (by omega) (by omega) (by repeat' (first | assumption | refine q_AWf ?_ (hW _ _ (by unfold w_fe; omega)) (by unfold q_fre; omega) | refine q_AWu ?_ (hW _ _ (by unfold w_fe; omega)) (by unfold q_ok; omega))))
theorem c_Tape_append {w n : Int} {W : Int → Int → Prop} {σ0 σ : q_S} {K : q_R → q_S → Prop} (hW : ∀ k i, w_fe k i → W k i) (hn : 1 ≤ n ∧ n ≤ 8) (h : q_AW W σ0 σ) (hK : ∀ σ', q_AW W σ0 σ' → K none σ') : q_K L xs i_Tape_append [(2, 32), (1, w), (0, n)] σ K := by
  have e : q_w32 (n - 1) = n - 1 := by rw [q_w32_id] <;> omega
  refine q_call k_Tape_append 5 rfl ?_
  show q_E L xs k_Tape_append (0, [(2, 32), (1, w), (9, 0), (0, n), (9, 0)], [], σ) K
  refine q_go1 200 0 [4] (fun cl ev hcl hev => ?_)
  refine hev _ ?_
  rw [e]
  exact l_append hW hK 9 _ _ (by omega) (by omega) h

end P48
