section P43
variable {L : Nat} {xs : Int → Int}

theorem c_Bank_wearOf {k wind v : Int} {σ : q_S} {K : q_R → q_S → Prop} (hw : 0 ≤ wind ∧ wind ≤ 3) (hK : ∀ x, 0 ≤ x → x ≤ 10 → K (some (0, x)) σ) : q_K L xs i_Bank_wearOf [(0, k), (0, wind), (0, v)] σ K := by
  have e1 : q_w32 (1 + wind) = 1 + wind := by rw [q_w32_id] <;> omega
  have ed : q_w32 ((1 + wind).tdiv 2) = (1 + wind) / 2 := by rw [q_td (by omega), q_w32_id] <;> omega
  refine q_call k_Bank_wearOf 4 rfl ?_
  show q_E L xs k_Bank_wearOf (0, [(0, k), (0, wind), (0, v), (9, 0)], [], σ) K
  refine q_go1 200 0 [] (fun cl ev hcl hev => ?_)
  repeat' (first | refine And.intro ?_ ?_ | (intro hq; first | exact absurd hq (by decide) | exact absurd rfl hq | exact absurd hq (show ¬ (1 : Int) = 0 by decide) | exact absurd (show (1 : Int) ≠ 0 by decide) hq | skip))
  all_goals first | omega | exact hK _ (by omega) (by omega) | (rw [e1, ed]; refine hK _ ?_ ?_ <;> unfold q_w32 <;> omega) | (refine hK _ ?_ ?_ <;> unfold q_w32 <;> omega)

theorem c_Bank_wearDown {r v : Int} {W : Int → Int → Prop} {σ0 σ : q_S} {K : q_R → q_S → Prop} (hW : ∀ k i, w_tide k i → W k i) (hr : 0 ≤ r ∧ r < 24) (hv : 0 ≤ v) (h : q_AW W σ0 σ) (hK : ∀ σ', q_AW W σ0 σ' → K none σ') : q_K L xs i_Bank_wearDown [(2, 17), (0, r), (0, v)] σ K := by
  have hh := q_oHeight h r
  have e : q_w32 (σ 20 r - min v (σ 20 r)) = σ 20 r - min v (σ 20 r) := by rw [q_w32_id] <;> omega
  refine q_call k_Bank_wearDown 4 rfl ?_
  show q_E L xs k_Bank_wearDown (0, [(2, 17), (0, r), (0, v), (9, 0)], [], σ) K
  refine q_go1 200 0 [] (fun cl ev hcl hev => ?_)
  repeat' (first | refine And.intro ?_ ?_ | (intro hq; first | exact absurd hq (by decide) | exact absurd rfl hq | exact absurd hq (show ¬ (1 : Int) = 0 by decide) | exact absurd (show (1 : Int) ≠ 0 by decide) hq | skip))
  all_goals first
    | omega
    | (rw [e]; exact hK _ (by repeat' (first | assumption | refine q_AWf ?_ (hW _ _ (by unfold w_tide; omega)) (by unfold q_fre; omega) | refine q_AWu ?_ (hW _ _ (by unfold w_tide; omega)) (by unfold q_ok; first | omega | (simp (disch := decide) only [q_un, q_ue]; omega)))))
    | exact hK _ (by repeat' (first | assumption | refine q_AWf ?_ (hW _ _ (by unfold w_tide; omega)) (by unfold q_fre; omega) | refine q_AWu ?_ (hW _ _ (by unfold w_tide; omega)) (by unfold q_ok; first | omega | (simp (disch := decide) only [q_un, q_ue]; omega))))

theorem c_Bank_breakDown {r : Int} {W : Int → Int → Prop} {σ0 σ : q_S} {K : q_R → q_S → Prop} (hW : ∀ k i, w_tide k i → W k i) (hr : 0 ≤ r ∧ r < 24) (h : q_AW W σ0 σ) (hK : ∀ σ', q_AW W σ0 σ' → K none σ') : q_K L xs i_Bank_breakDown [(2, 17), (0, r)] σ K := by
  have hh := q_oHeight h r
  have ed2 : q_w32 ((σ 20 r).tdiv 2) = σ 20 r / 2 := by rw [q_td hh.1, q_w32_id] <;> omega
  have em2 : q_w32 (2 * σ 20 r) = 2 * σ 20 r := by rw [q_w32_id] <;> omega
  have ed3 : q_w32 ((q_w32 (2 * σ 20 r)).tdiv 3) = 2 * σ 20 r / 3 := by rw [em2, q_td (by omega), q_w32_id] <;> omega
  have es2 : q_w32 (σ 20 r - q_w32 ((σ 20 r).tdiv 2)) = σ 20 r - σ 20 r / 2 := by rw [ed2, q_w32_id] <;> omega
  have es3 : q_w32 (σ 20 r - q_w32 ((q_w32 (2 * σ 20 r)).tdiv 3)) = σ 20 r - 2 * σ 20 r / 3 := by rw [ed3, q_w32_id] <;> omega
  refine q_call k_Bank_breakDown 4 rfl ?_
  show q_E L xs k_Bank_breakDown (0, [(2, 17), (0, r), (9, 0), (9, 0)], [], σ) K
  refine q_go1 200 0 [] (fun cl ev hcl hev => ?_)
  repeat' (first | refine And.intro ?_ ?_ | (intro hq; first | exact absurd hq (by decide) | exact absurd rfl hq | exact absurd hq (show ¬ (1 : Int) = 0 by decide) | exact absurd (show (1 : Int) ≠ 0 by decide) hq | skip) | (show cl _ _ _ _; first | refine hcl _ _ _ _ (c_Bank_wearDown hW hr ?_ h (fun σ1 h1 => ?_))))
  all_goals first
    | omega
    | exact hK _ (by repeat' (first | assumption | refine q_AWf ?_ (hW _ _ (by unfold w_tide; omega)) (by unfold q_fre; omega) | refine q_AWu ?_ (hW _ _ (by unfold w_tide; omega)) (by unfold q_ok; first | omega | (simp (disch := decide) only [q_un, q_ue]; omega))))

theorem c_Bank_meetSea {r sea wind : Int} {W : Int → Int → Prop} {σ0 σ : q_S} {K : q_R → q_S → Prop} (hW : ∀ k i, w_tide k i → W k i) (hr : 0 ≤ r ∧ r < 24) (hw : 0 ≤ wind ∧ wind ≤ 3) (h : q_AW W σ0 σ) (hK : ∀ σ', q_AW W σ0 σ' → K none σ') : q_K L xs i_Bank_meetSea [(2, 17), (0, r), (0, sea), (0, wind), (2, 1)] σ K := by
  have hc := q_oCell h r
  refine q_call k_Bank_meetSea 6 rfl ?_
  show q_E L xs k_Bank_meetSea (0, [(2, 17), (0, r), (0, sea), (0, wind), (2, 1), (9, 0)], [], σ) K
  refine q_go1 200 0 [] (fun cl ev hcl hev => ?_)
  repeat' (first | refine And.intro ?_ ?_ | (intro hq; first | exact absurd hq (by decide) | exact absurd rfl hq | exact absurd hq (show ¬ (1 : Int) = 0 by decide) | exact absurd (show (1 : Int) ≠ 0 by decide) hq | skip) | (show cl _ _ _ _; first | refine hcl _ _ _ _ (c_Land_letSeaIn hW hc h (fun σ1 h1 => ?_)) | refine hcl _ _ _ _ (c_Bank_breakDown hW hr (by assumption) (fun σ2 h2 => ?_)) | refine hcl _ _ _ _ (c_Bank_wearOf hw (fun x hx0 hx1 => ?_)) | refine hcl _ _ _ _ (c_Bank_wearDown hW hr (by assumption) (by assumption) (fun σ3 h3 => ?_))))
  all_goals first
    | omega
    | exact hK _ (by repeat' (first | assumption | refine q_AWf ?_ (hW _ _ (by unfold w_tide; omega)) (by unfold q_fre; omega) | refine q_AWu ?_ (hW _ _ (by unfold w_tide; omega)) (by unfold q_ok; first | omega | (simp (disch := decide) only [q_un, q_ue]; omega))))

theorem c_Bank_runSluice {r sea : Int} {W : Int → Int → Prop} {σ0 σ : q_S} {K : q_R → q_S → Prop} (hW : ∀ k i, w_tide k i → W k i) (hr : 0 ≤ r ∧ r < 24) (h : q_AW W σ0 σ) (hK : ∀ σ', q_AW W σ0 σ' → K none σ') : q_K L xs i_Bank_runSluice [(2, 17), (0, r), (0, sea), (2, 1)] σ K := by
  have hc := q_oCell h r
  refine q_call k_Bank_runSluice 7 rfl ?_
  show q_E L xs k_Bank_runSluice (0, [(2, 17), (0, r), (0, sea), (2, 1), (9, 0), (9, 0), (9, 0)], [], σ) K
  refine q_go1 200 0 [] (fun cl ev hcl hev => ?_)
  repeat' (first | refine And.intro ?_ ?_ | (intro hq; first | exact absurd hq (by decide) | exact absurd rfl hq | exact absurd hq (show ¬ (1 : Int) = 0 by decide) | exact absurd (show (1 : Int) ≠ 0 by decide) hq | skip) | (show cl _ _ _ _; first | refine hcl _ _ _ _ (c_Land_surface hc ?_) | refine hcl _ _ _ _ (c_Land_letSeaIn hW hc h (fun σ1 h1 => ?_)) | refine hcl _ _ _ _ (c_Land_letOut hW hc h (fun σ1 h1 => ?_))))
  all_goals first
    | omega
    | exact hK _ (by repeat' (first | assumption | refine q_AWf ?_ (hW _ _ (by unfold w_tide; omega)) (by unfold q_fre; omega) | refine q_AWu ?_ (hW _ _ (by unfold w_tide; omega)) (by unfold q_ok; first | omega | (simp (disch := decide) only [q_un, q_ue]; omega))))

theorem l_flee {W : Int → Int → Prop} {σ0 : q_S} {K : q_R → q_S → Prop} (hW : ∀ k i, w_tide k i → W k i)  (hK : ∀ σ', q_AW W σ0 σ' → K none σ') :
    ∀ (m : Nat) (i : Int) (σ : q_S), 6 - i < m → 0 ≤ i → i ≤ 6 → q_AW W σ0 σ → q_E L xs k_Herds_flee (2, [(2, 27), (2, 1), (0, i)], [], σ) K := by
  intro m
  induction m with
  | zero => intro i; omega
  | succ m ih =>
    intro i σ hm hi hi2 h
    have e : q_w32 (i + 1) = i + 1 := by rw [q_w32_id] <;> omega
    have hn := q_oHerds h
    have hp := q_oPlace h i
    refine q_go1 200 2 [2] (fun cl ev hcl hev => ?_)
    repeat' (first | refine And.intro ?_ ?_ | (intro hq; first | exact absurd hq (by decide) | exact absurd rfl hq | exact absurd hq (show ¬ (1 : Int) = 0 by decide) | exact absurd (show (1 : Int) ≠ 0 by decide) hq | skip) | (show cl _ _ _ _; first | refine hcl _ _ _ _ (c_Land_refuge hp (fun x hx0 hx1 => ?_))))
    all_goals first
      | omega
      | (rw [q_ue]; omega)
      | (refine hev _ ?_; rw [e]; exact ih _ _ (by omega) (by omega) (by omega) (by repeat' (first | assumption | refine q_AWf ?_ (hW _ _ (by unfold w_tide; omega)) (by unfold q_fre; omega) | refine q_AWu ?_ (hW _ _ (by unfold w_tide; omega)) (by unfold q_ok; first | omega | (simp (disch := decide) only [q_un, q_ue]; omega)))))
      | exact hK _ (by repeat' (first | assumption | refine q_AWf ?_ (hW _ _ (by unfold w_tide; omega)) (by unfold q_fre; omega) | refine q_AWu ?_ (hW _ _ (by unfold w_tide; omega)) (by unfold q_ok; first | omega | (simp (disch := decide) only [q_un, q_ue]; omega))))

theorem c_Herds_flee {W : Int → Int → Prop} {σ0 σ : q_S} {K : q_R → q_S → Prop} (hW : ∀ k i, w_tide k i → W k i)  (h : q_AW W σ0 σ) (hK : ∀ σ', q_AW W σ0 σ' → K none σ') : q_K L xs i_Herds_flee [(2, 27), (2, 1)] σ K := by
  refine q_call k_Herds_flee 3 rfl ?_
  show q_E L xs k_Herds_flee (0, [(2, 27), (2, 1), (9, 0)], [], σ) K
  refine q_go1 200 0 [2] (fun cl ev hcl hev => ?_)
  repeat' (first | refine And.intro ?_ ?_ | (intro hq; first | exact absurd hq (by decide) | exact absurd rfl hq | exact absurd hq (show ¬ (1 : Int) = 0 by decide) | exact absurd (show (1 : Int) ≠ 0 by decide) hq | skip))
  all_goals first
    | omega
    | exact hev _ (l_flee hW hK 7 0 _ (by omega) (by omega) (by omega) h)
    | exact hK _ (by repeat' (first | assumption | refine q_AWf ?_ (hW _ _ (by unfold w_tide; omega)) (by unfold q_fre; omega) | refine q_AWu ?_ (hW _ _ (by unfold w_tide; omega)) (by unfold q_ok; first | omega | (simp (disch := decide) only [q_un, q_ue]; omega))))

theorem l_brokenIn {σ : q_S} {K : q_R → q_S → Prop} (hK : ∀ x, K (some (0, x)) σ) :
    ∀ (m : Nat) (i s y : Int) (u : Nat), 24 - i < m → 0 ≤ i → i ≤ 24 → q_E L xs k_Bank_brokenInTide (10, [(2, 17), (0, s), (2, 25), (0, 24), (0, i), (u, y)], [], σ) K := by
  intro m
  induction m with
  | zero => intro i; omega
  | succ m ih =>
    intro i s y u hm hi hi2
    have e : q_w32 (i + 1) = i + 1 := by rw [q_w32_id] <;> omega
    refine q_go1 120 10 [10] (fun cl ev hcl hev => ?_)
    repeat' (first | refine And.intro ?_ ?_ | (intro hq; first | exact absurd hq (by decide) | exact absurd rfl hq | exact absurd hq (show ¬ (1 : Int) = 0 by decide) | exact absurd (show (1 : Int) ≠ 0 by decide) hq | skip))
    all_goals first
      | omega
      | exact hK _
      | (refine hev _ ?_; rw [e]; exact ih _ _ _ _ (by omega) (by omega) (by omega))
theorem c_Bank_brokenInTide {σ : q_S} {K : q_R → q_S → Prop} (hK : ∀ x, K (some (0, x)) σ) : q_K L xs i_Bank_brokenInTide [(2, 17)] σ K := by
  refine q_call k_Bank_brokenInTide 6 rfl ?_
  show q_E L xs k_Bank_brokenInTide (0, [(2, 17), (9, 0), (9, 0), (9, 0), (9, 0), (9, 0)], [], σ) K
  refine q_go1 120 0 [10] (fun cl ev hcl hev => ?_)
  exact hev _ (l_brokenIn hK 25 0 _ _ _ (by omega) (by omega) (by omega))

theorem l_runHour2 {sea wind rain : Int} {W : Int → Int → Prop} {σ0 : q_S} {K : q_R → q_S → Prop} (hW : ∀ k i, w_tide k i → W k i) (hw : 0 ≤ wind ∧ wind ≤ 3) (hK : ∀ σ', q_AW W σ0 σ' → K none σ') :
    ∀ (m : Nat) (i : Int) (σ : q_S), 24 - i < m → 0 ≤ i → i ≤ 24 → q_AW W σ0 σ → q_E L xs k_A_runHour (23, [(2, 0), (0, sea), (0, wind), (0, rain), (0, i)], [], σ) K := by
  intro m
  induction m with
  | zero => intro i; omega
  | succ m ih =>
    intro i σ hm hi hi2 h
    have e : q_w32 (i + 1) = i + 1 := by rw [q_w32_id] <;> omega
    have hn := q_oBank h
    refine q_go1 200 23 [23] (fun cl ev hcl hev => ?_)
    repeat' (first | refine And.intro ?_ ?_ | (intro hq; first | exact absurd hq (by decide) | exact absurd rfl hq | exact absurd hq (show ¬ (1 : Int) = 0 by decide) | exact absurd (show (1 : Int) ≠ 0 by decide) hq | skip) | (show cl _ _ _ _; first | refine hcl _ _ _ _ (c_Bank_runSluice hW (by omega) h (fun σ1 h1 => ?_)) | refine hcl _ _ _ _ (c_Land_spread hW (by assumption) (fun σ2 h2 => ?_)) | refine hcl _ _ _ _ (c_Land_notePeaks hW (by assumption) (fun σ3 h3 => ?_)) | refine hcl _ _ _ _ (c_Herds_flee hW (by assumption) (fun σ4 h4 => ?_))))
    all_goals first
      | omega
      | (refine hev _ ?_; rw [e]; exact ih _ _ (by omega) (by omega) (by omega) (by repeat' (first | assumption | refine q_AWf ?_ (hW _ _ (by unfold w_tide; omega)) (by unfold q_fre; omega) | refine q_AWu ?_ (hW _ _ (by unfold w_tide; omega)) (by unfold q_ok; first | omega | (simp (disch := decide) only [q_un, q_ue]; omega)))))
      | exact hK _ (by repeat' (first | assumption | refine q_AWf ?_ (hW _ _ (by unfold w_tide; omega)) (by unfold q_fre; omega) | refine q_AWu ?_ (hW _ _ (by unfold w_tide; omega)) (by unfold q_ok; first | omega | (simp (disch := decide) only [q_un, q_ue]; omega))))

theorem l_runHour1 {sea wind rain : Int} {W : Int → Int → Prop} {σ0 : q_S} {K : q_R → q_S → Prop} (hW : ∀ k i, w_tide k i → W k i) (hw : 0 ≤ wind ∧ wind ≤ 3) (hK : ∀ σ', q_AW W σ0 σ' → K none σ') :
    ∀ (m : Nat) (i : Int) (σ : q_S), 24 - i < m → 0 ≤ i → i ≤ 24 → q_AW W σ0 σ → q_E L xs k_A_runHour (6, [(2, 0), (0, sea), (0, wind), (0, rain), (0, i)], [], σ) K := by
  intro m
  induction m with
  | zero => intro i; omega
  | succ m ih =>
    intro i σ hm hi hi2 h
    have e : q_w32 (i + 1) = i + 1 := by rw [q_w32_id] <;> omega
    have hn := q_oBank h
    refine q_go1 200 6 [6, 23] (fun cl ev hcl hev => ?_)
    repeat' (first | refine And.intro ?_ ?_ | (intro hq; first | exact absurd hq (by decide) | exact absurd rfl hq | exact absurd hq (show ¬ (1 : Int) = 0 by decide) | exact absurd (show (1 : Int) ≠ 0 by decide) hq | skip) | (show cl _ _ _ _; first | refine hcl _ _ _ _ (c_Bank_meetSea hW (by omega) hw h (fun σ1 h1 => ?_))))
    all_goals first
      | omega
      | exact hev _ (l_runHour2 hW hw hK 25 0 _ (by omega) (by omega) (by omega) h)
      | (refine hev _ ?_; rw [e]; exact ih _ _ (by omega) (by omega) (by omega) (by repeat' (first | assumption | refine q_AWf ?_ (hW _ _ (by unfold w_tide; omega)) (by unfold q_fre; omega) | refine q_AWu ?_ (hW _ _ (by unfold w_tide; omega)) (by unfold q_ok; first | omega | (simp (disch := decide) only [q_un, q_ue]; omega)))))
      | exact hK _ (by repeat' (first | assumption | refine q_AWf ?_ (hW _ _ (by unfold w_tide; omega)) (by unfold q_fre; omega) | refine q_AWu ?_ (hW _ _ (by unfold w_tide; omega)) (by unfold q_ok; first | omega | (simp (disch := decide) only [q_un, q_ue]; omega))))

theorem c_A_runHour {sea wind rain : Int} {W : Int → Int → Prop} {σ0 σ : q_S} {K : q_R → q_S → Prop} (hW : ∀ k i, w_tide k i → W k i) (hw : 0 ≤ wind ∧ wind ≤ 3) (h : q_AW W σ0 σ) (hK : ∀ σ', q_AW W σ0 σ' → K none σ') : q_K L xs i_A_runHour [(2, 0), (0, sea), (0, wind), (0, rain)] σ K := by
  refine q_call k_A_runHour 5 rfl ?_
  show q_E L xs k_A_runHour (0, [(2, 0), (0, sea), (0, wind), (0, rain), (9, 0)], [], σ) K
  refine q_go1 200 0 [6] (fun cl ev hcl hev => ?_)
  repeat' (first | refine And.intro ?_ ?_ | (intro hq; first | exact absurd hq (by decide) | exact absurd rfl hq | exact absurd hq (show ¬ (1 : Int) = 0 by decide) | exact absurd (show (1 : Int) ≠ 0 by decide) hq | skip) | (show cl _ _ _ _; first | refine hcl _ _ _ _ (c_Land_rainOnAll hW h (fun σ1 h1 => ?_))))
  all_goals first
    | omega
    | exact hev _ (l_runHour1 hW hw hK 25 0 _ (by omega) (by omega) (by omega) h1)
    | exact hK _ (by repeat' (first | assumption | refine q_AWf ?_ (hW _ _ (by unfold w_tide; omega)) (by unfold q_fre; omega) | refine q_AWu ?_ (hW _ _ (by unfold w_tide; omega)) (by unfold q_ok; first | omega | (simp (disch := decide) only [q_un, q_ue]; omega))))

theorem l_A_tide {high wind rain : Int} {W : Int → Int → Prop} {σ0 : q_S} {K : q_R → q_S → Prop} (hW : ∀ k i, w_tide k i → W k i) (hw : 0 ≤ wind ∧ wind ≤ 3) (hK : ∀ x σ', q_AW W σ0 σ' → K (some (0, x)) (q_up (q_up σ' 0 10 (q_w32 (σ' 0 10 + 1))) 0 11 (q_w32 (σ' 0 11 + 1)))) :
    ∀ (m : Nat) (i : Int) (σ : q_S) (y : Int) (u : Nat), 6 - i < m → 0 ≤ i → i ≤ 6 → q_AW W σ0 σ → q_E L xs k_A_tide (36, [(2, 0), (0, high), (0, wind), (0, rain), (4, 1), (0, 6), (0, i), (u, y)], [], σ) K := by
  intro m
  induction m with
  | zero => intro i; omega
  | succ m ih =>
    intro i σ y u hm hi hi2 h
    have e : q_w32 (i + 1) = i + 1 := by rw [q_w32_id] <;> omega
    refine q_go1 200 36 [36] (fun cl ev hcl hev => ?_)
    repeat' (first | refine And.intro ?_ ?_ | (intro hq; first | exact absurd hq (by decide) | exact absurd rfl hq | exact absurd hq (show ¬ (1 : Int) = 0 by decide) | exact absurd (show (1 : Int) ≠ 0 by decide) hq | skip) | (show cl _ _ _ _; first | refine hcl _ _ _ _ (c_A_runHour hW hw h (fun σ1 h1 => ?_)) | refine hcl _ _ _ _ (c_Land_endTide hW h (fun σ1 h1 => ?_)) | refine hcl _ _ _ _ (c_Bank_brokenInTide (fun x => ?_))))
    all_goals first
      | omega
      | exact hK _ _ h1
      | (refine hev _ ?_; rw [e]; exact ih _ _ _ _ (by omega) (by omega) (by omega) (by repeat' (first | assumption | refine q_AWf ?_ (hW _ _ (by unfold w_tide; omega)) (by unfold q_fre; omega) | refine q_AWu ?_ (hW _ _ (by unfold w_tide; omega)) (by unfold q_ok; first | omega | (simp (disch := decide) only [q_un, q_ue]; omega)))))

theorem c_A_tide {high wind rain : Int} {W : Int → Int → Prop} {σ0 σ : q_S} {K : q_R → q_S → Prop} (hW : ∀ k i, w_tide k i → W k i) (hK2 : ¬ (0 ≤ high ∧ high ≤ 120 ∧ 0 ≤ wind ∧ wind ≤ 3 ∧ 0 ≤ rain ∧ rain ≤ 50) → K (some (0, -2)) σ) (hK4 : (0 ≤ high ∧ high ≤ 120 ∧ 0 ≤ wind ∧ wind ≤ 3 ∧ 0 ≤ rain ∧ rain ≤ 50) → 9999 ≤ σ 0 10 → K (some (0, -4)) σ) (h : q_AW W σ0 σ) (hK : (0 ≤ high ∧ high ≤ 120 ∧ 0 ≤ wind ∧ wind ≤ 3 ∧ 0 ≤ rain ∧ rain ≤ 50) → σ 0 10 < 9999 → ∀ x σ', q_AW W σ0 σ' → K (some (0, x)) (q_up (q_up σ' 0 10 (q_w32 (σ' 0 10 + 1))) 0 11 (q_w32 (σ' 0 11 + 1)))) : q_K L xs i_A_tide [(2, 0), (0, high), (0, wind), (0, rain)] σ K := by
  refine q_call k_A_tide 8 rfl ?_
  show q_E L xs k_A_tide (0, [(2, 0), (0, high), (0, wind), (0, rain), (9, 0), (9, 0), (9, 0), (9, 0)], [], σ) K
  refine q_go1 200 0 [36] (fun cl ev hcl hev => ?_)
  repeat' (first | refine And.intro ?_ ?_ | (intro hq; first | exact absurd hq (by decide) | exact absurd rfl hq | exact absurd hq (show ¬ (1 : Int) = 0 by decide) | exact absurd (show (1 : Int) ≠ 0 by decide) hq | skip) | (show cl _ _ _ _; first | refine hcl _ _ _ _ (c_A_within ?_ ?_) | refine hcl _ _ _ _ (c_Land_beginTide hW h (fun σ1 h1 => ?_)) | refine hcl _ _ _ _ (c_Bank_beginTide hW h1 (fun σ2 h2 => ?_))))
  all_goals first
    | omega
    | exact hK2 (by omega)
    | exact hK4 (by omega) (by omega)
    | exact hev _ (l_A_tide hW (by omega) (hK (by omega) (by omega)) 7 0 _ _ _ (by omega) (by omega) (by omega) h2)

end P43
