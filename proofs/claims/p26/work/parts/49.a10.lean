/-- the plan's tables -/
def w_pl (k i : Int) : Prop := k = 97 ∨ k = 98 ∨ k = 99 ∨ (k = 96 ∧ (i = 3 ∨ i = 4 ∨ i = 5))
section P49
variable {L : Nat} {xs : Int → Int}

theorem l_fill97 {v : Int} {W : Int → Int → Prop} {σ0 : q_S} {K : q_R → q_S → Prop} (hW : ∀ k i, w_pl k i → W k i)  (hK : ∀ σ', q_AW W σ0 σ' → K none σ') :
    ∀ (m : Nat) (i : Int) (σ : q_S), 201 - i < m → 0 ≤ i → i ≤ 201 → q_AW W σ0 σ → q_E L xs k_Arrays_fill (5, [(2, 97), (1, v), (9, 0), (0, i), (0, 201)], [], σ) K := by
  intro m
  induction m with
  | zero => intro i; omega
  | succ m ih =>
    intro i σ hm hi hi2 h
    have e : q_w32 (i + 1) = i + 1 := by rw [q_w32_id] <;> omega
    refine q_go1 200 5 [5] (fun cl ev hcl hev => ?_)
    repeat' (first | refine And.intro ?_ ?_ | (intro hq; first | exact absurd hq (by decide) | exact absurd rfl hq | exact absurd hq (show ¬ (1 : Int) = 0 by decide) | exact absurd (show (1 : Int) ≠ 0 by decide) hq | skip))
    all_goals first
      | omega
      | (refine hev _ ?_; rw [e]; exact ih _ _ (by omega) (by omega) (by omega) (by repeat' (first | assumption | refine q_AWf ?_ (hW _ _ (by unfold w_pl; omega)) (by unfold q_fre; omega) | refine q_AWu ?_ (hW _ _ (by unfold w_pl; omega)) (by unfold q_ok; first | omega | (simp (disch := decide) only [q_un, q_ue]; omega)))))
      | exact hK _ (by repeat' (first | assumption | refine q_AWf ?_ (hW _ _ (by unfold w_pl; omega)) (by unfold q_fre; omega) | refine q_AWu ?_ (hW _ _ (by unfold w_pl; omega)) (by unfold q_ok; first | omega | (simp (disch := decide) only [q_un, q_ue]; omega))))

theorem c_fill97 {v : Int} {W : Int → Int → Prop} {σ0 σ : q_S} {K : q_R → q_S → Prop} (hW : ∀ k i, w_pl k i → W k i)  (h : q_AW W σ0 σ) (hK : ∀ σ', q_AW W σ0 σ' → K none σ') : q_K L xs i_Arrays_fill [(2, 97), (1, v)] σ K := by
  refine q_call k_Arrays_fill 5 rfl ?_
  show q_E L xs k_Arrays_fill (0, [(2, 97), (1, v), (9, 0), (9, 0), (9, 0)], [], σ) K
  refine q_go1 200 0 [5] (fun cl ev hcl hev => ?_)
  repeat' (first | refine And.intro ?_ ?_ | (intro hq; first | exact absurd hq (by decide) | exact absurd rfl hq | exact absurd hq (show ¬ (1 : Int) = 0 by decide) | exact absurd (show (1 : Int) ≠ 0 by decide) hq | skip))
  all_goals first
    | omega
    | exact hev _ (l_fill97 hW hK 202 0 _ (by omega) (by omega) (by omega) h)
    | exact hK _ (by repeat' (first | assumption | refine q_AWf ?_ (hW _ _ (by unfold w_pl; omega)) (by unfold q_fre; omega) | refine q_AWu ?_ (hW _ _ (by unfold w_pl; omega)) (by unfold q_ok; first | omega | (simp (disch := decide) only [q_un, q_ue]; omega))))

theorem l_fill98 {v : Int} {W : Int → Int → Prop} {σ0 : q_S} {K : q_R → q_S → Prop} (hW : ∀ k i, w_pl k i → W k i)  (hK : ∀ σ', q_AW W σ0 σ' → K none σ') :
    ∀ (m : Nat) (i : Int) (σ : q_S), 201 - i < m → 0 ≤ i → i ≤ 201 → q_AW W σ0 σ → q_E L xs k_Arrays_fill (5, [(2, 98), (1, v), (9, 0), (0, i), (0, 201)], [], σ) K := by
  intro m
  induction m with
  | zero => intro i; omega
  | succ m ih =>
    intro i σ hm hi hi2 h
    have e : q_w32 (i + 1) = i + 1 := by rw [q_w32_id] <;> omega
    refine q_go1 200 5 [5] (fun cl ev hcl hev => ?_)
    repeat' (first | refine And.intro ?_ ?_ | (intro hq; first | exact absurd hq (by decide) | exact absurd rfl hq | exact absurd hq (show ¬ (1 : Int) = 0 by decide) | exact absurd (show (1 : Int) ≠ 0 by decide) hq | skip))
    all_goals first
      | omega
      | (refine hev _ ?_; rw [e]; exact ih _ _ (by omega) (by omega) (by omega) (by repeat' (first | assumption | refine q_AWf ?_ (hW _ _ (by unfold w_pl; omega)) (by unfold q_fre; omega) | refine q_AWu ?_ (hW _ _ (by unfold w_pl; omega)) (by unfold q_ok; first | omega | (simp (disch := decide) only [q_un, q_ue]; omega)))))
      | exact hK _ (by repeat' (first | assumption | refine q_AWf ?_ (hW _ _ (by unfold w_pl; omega)) (by unfold q_fre; omega) | refine q_AWu ?_ (hW _ _ (by unfold w_pl; omega)) (by unfold q_ok; first | omega | (simp (disch := decide) only [q_un, q_ue]; omega))))

theorem c_fill98 {v : Int} {W : Int → Int → Prop} {σ0 σ : q_S} {K : q_R → q_S → Prop} (hW : ∀ k i, w_pl k i → W k i)  (h : q_AW W σ0 σ) (hK : ∀ σ', q_AW W σ0 σ' → K none σ') : q_K L xs i_Arrays_fill [(2, 98), (1, v)] σ K := by
  refine q_call k_Arrays_fill 5 rfl ?_
  show q_E L xs k_Arrays_fill (0, [(2, 98), (1, v), (9, 0), (9, 0), (9, 0)], [], σ) K
  refine q_go1 200 0 [5] (fun cl ev hcl hev => ?_)
  repeat' (first | refine And.intro ?_ ?_ | (intro hq; first | exact absurd hq (by decide) | exact absurd rfl hq | exact absurd hq (show ¬ (1 : Int) = 0 by decide) | exact absurd (show (1 : Int) ≠ 0 by decide) hq | skip))
  all_goals first
    | omega
    | exact hev _ (l_fill98 hW hK 202 0 _ (by omega) (by omega) (by omega) h)
    | exact hK _ (by repeat' (first | assumption | refine q_AWf ?_ (hW _ _ (by unfold w_pl; omega)) (by unfold q_fre; omega) | refine q_AWu ?_ (hW _ _ (by unfold w_pl; omega)) (by unfold q_ok; first | omega | (simp (disch := decide) only [q_un, q_ue]; omega))))

theorem l_fill99 {v : Int} {W : Int → Int → Prop} {σ0 : q_S} {K : q_R → q_S → Prop} (hW : ∀ k i, w_pl k i → W k i)  (hK : ∀ σ', q_AW W σ0 σ' → K none σ') :
    ∀ (m : Nat) (i : Int) (σ : q_S), 201 - i < m → 0 ≤ i → i ≤ 201 → q_AW W σ0 σ → q_E L xs k_Arrays_fill (5, [(2, 99), (1, v), (9, 0), (0, i), (0, 201)], [], σ) K := by
  intro m
  induction m with
  | zero => intro i; omega
  | succ m ih =>
    intro i σ hm hi hi2 h
    have e : q_w32 (i + 1) = i + 1 := by rw [q_w32_id] <;> omega
    refine q_go1 200 5 [5] (fun cl ev hcl hev => ?_)
    repeat' (first | refine And.intro ?_ ?_ | (intro hq; first | exact absurd hq (by decide) | exact absurd rfl hq | exact absurd hq (show ¬ (1 : Int) = 0 by decide) | exact absurd (show (1 : Int) ≠ 0 by decide) hq | skip))
    all_goals first
      | omega
      | (refine hev _ ?_; rw [e]; exact ih _ _ (by omega) (by omega) (by omega) (by repeat' (first | assumption | refine q_AWf ?_ (hW _ _ (by unfold w_pl; omega)) (by unfold q_fre; omega) | refine q_AWu ?_ (hW _ _ (by unfold w_pl; omega)) (by unfold q_ok; first | omega | (simp (disch := decide) only [q_un, q_ue]; omega)))))
      | exact hK _ (by repeat' (first | assumption | refine q_AWf ?_ (hW _ _ (by unfold w_pl; omega)) (by unfold q_fre; omega) | refine q_AWu ?_ (hW _ _ (by unfold w_pl; omega)) (by unfold q_ok; first | omega | (simp (disch := decide) only [q_un, q_ue]; omega))))

theorem c_fill99 {v : Int} {W : Int → Int → Prop} {σ0 σ : q_S} {K : q_R → q_S → Prop} (hW : ∀ k i, w_pl k i → W k i)  (h : q_AW W σ0 σ) (hK : ∀ σ', q_AW W σ0 σ' → K none σ') : q_K L xs i_Arrays_fill [(2, 99), (1, v)] σ K := by
  refine q_call k_Arrays_fill 5 rfl ?_
  show q_E L xs k_Arrays_fill (0, [(2, 99), (1, v), (9, 0), (9, 0), (9, 0)], [], σ) K
  refine q_go1 200 0 [5] (fun cl ev hcl hev => ?_)
  repeat' (first | refine And.intro ?_ ?_ | (intro hq; first | exact absurd hq (by decide) | exact absurd rfl hq | exact absurd hq (show ¬ (1 : Int) = 0 by decide) | exact absurd (show (1 : Int) ≠ 0 by decide) hq | skip))
  all_goals first
    | omega
    | exact hev _ (l_fill99 hW hK 202 0 _ (by omega) (by omega) (by omega) h)
    | exact hK _ (by repeat' (first | assumption | refine q_AWf ?_ (hW _ _ (by unfold w_pl; omega)) (by unfold q_fre; omega) | refine q_AWu ?_ (hW _ _ (by unfold w_pl; omega)) (by unfold q_ok; first | omega | (simp (disch := decide) only [q_un, q_ue]; omega))))

theorem c_Plan_bestFor {n : Int} {σ : q_S} {K : q_R → q_S → Prop} (hn : 0 ≤ n ∧ n < 201) (hK : ∀ x, K (some (1, x)) σ) : q_K L xs i_Plan_bestFor [(2, 96), (0, n)] σ K := by
  refine q_call k_Plan_bestFor 2 rfl ?_
  show q_E L xs k_Plan_bestFor (0, [(2, 96), (0, n)], [], σ) K
  refine q_go1 200 0 [] (fun cl ev hcl hev => ?_)
  repeat' (first | refine And.intro ?_ ?_ | (intro hq; first | exact absurd hq (by decide) | exact absurd rfl hq | exact absurd hq (show ¬ (1 : Int) = 0 by decide) | exact absurd (show (1 : Int) ≠ 0 by decide) hq | skip))
  all_goals first | omega | exact hK _

theorem l_allNeeds {d : Int} {σ : q_S} {K : q_R → q_S → Prop} (hn : 0 ≤ σ 17 9 ∧ σ 17 9 ≤ 24) (hd : -1 ≤ d ∧ d ≤ 99) (hh : ∀ i, 0 ≤ σ 20 i ∧ σ 20 i ≤ 99) (hK : ∀ x, 0 ≤ x → K (some (0, x)) σ) :
    ∀ (m : Nat) (i : Int) (s : Int), 24 - i < m → 0 ≤ i → i ≤ 24 → 0 ≤ s → s ≤ 99 * i → q_E L xs k_Plan_allNeeds (4, [(2, 17), (0, d), (0, s), (0, i)], [], σ) K := by
  intro m
  induction m with
  | zero => intro i; omega
  | succ m ih =>
    intro i s hm hi hi2 hs0 hs1
    have e : q_w32 (i + 1) = i + 1 := by rw [q_w32_id] <;> omega
    have hi1 := hh i
    have e2 : q_w32 (d - σ 20 i) = d - σ 20 i := by rw [q_w32_id] <;> omega
    have e3 : q_w32 (s + max 0 (d - σ 20 i)) = s + max 0 (d - σ 20 i) := by rw [q_w32_id] <;> omega
    refine q_go1 200 4 [4] (fun cl ev hcl hev => ?_)
    repeat' (first | refine And.intro ?_ ?_ | (intro hq; first | exact absurd hq (by decide) | exact absurd rfl hq | exact absurd hq (show ¬ (1 : Int) = 0 by decide) | exact absurd (show (1 : Int) ≠ 0 by decide) hq | skip))
    all_goals first
      | omega
      | (refine hev _ ?_; rw [e, e2, e3]; exact ih _ _ (by omega) (by omega) (by omega) (by omega) (by omega))
      | (refine hev _ ?_; rw [e]; exact ih _ _ (by omega) (by omega) (by omega))
      | exact hK _ (by omega)

theorem c_Plan_allNeeds {d : Int} {σ : q_S} {K : q_R → q_S → Prop} (hn : 0 ≤ σ 17 9 ∧ σ 17 9 ≤ 24) (hd : -1 ≤ d ∧ d ≤ 99) (hh : ∀ i, 0 ≤ σ 20 i ∧ σ 20 i ≤ 99) (hK : ∀ x, 0 ≤ x → K (some (0, x)) σ) : q_K L xs i_Plan_allNeeds [(2, 17), (0, d)] σ K := by
  refine q_call k_Plan_allNeeds 4 rfl ?_
  show q_E L xs k_Plan_allNeeds (0, [(2, 17), (0, d), (9, 0), (9, 0)], [], σ) K
  refine q_go1 200 0 [4] (fun cl ev hcl hev => ?_)
  repeat' (first | refine And.intro ?_ ?_ | (intro hq; first | exact absurd hq (by decide) | exact absurd rfl hq | exact absurd hq (show ¬ (1 : Int) = 0 by decide) | exact absurd (show (1 : Int) ≠ 0 by decide) hq | skip))
  all_goals first
    | omega
    | exact hev _ (l_allNeeds hn hd hh hK 25 0 _ (by omega) (by omega) (by omega) (by omega) (by omega))
    | exact hK _

theorem l_consider {nd gn lim : Int} {W : Int → Int → Prop} {σ0 : q_S} {K : q_R → q_S → Prop} (hW : ∀ k i, w_pl k i → W k i) (hnd : -100 ≤ nd ∧ nd ≤ 100) (hK : ∀ σ', q_AW W σ0 σ' → K none σ') :
    ∀ (m : Nat) (i : Int) (σ : q_S) (y6 y8 : Int) (u6 u8 : Nat), i < m → -1 ≤ i → i < 201 → q_AW W σ0 σ → q_E L xs k_Plan_consider (2, [(2, 96), (0, nd), (1, gn), (9, 0), (0, lim), (0, i), (u6, y6), (9, 0), (u8, y8)], [], σ) K := by
  intro m
  induction m with
  | zero =>
    intro i σ y6 y8 u6 u8 hm hi hi2 h
    have ei : i = -1 := by omega
    subst ei
    refine q_go1 200 2 [2] (fun cl ev hcl hev => ?_)
    repeat' (first | refine And.intro ?_ ?_ | (intro hq; first | exact absurd hq (by decide) | exact absurd rfl hq | exact absurd hq (show ¬ (1 : Int) = 0 by decide) | exact absurd (show (1 : Int) ≠ 0 by decide) hq | skip) | refine hcl _ _ _ _ (c_Plan_bestFor (by omega) (fun x => ?_)))
    all_goals first
      | omega
      | exact hK _ h
  | succ m ih =>
    intro i σ y6 y8 u6 u8 hm hi hi2 h
    have e : 0 ≤ i → q_w32 (i + (-1)) = i - 1 := fun _ => by rw [q_w32_id] <;> omega
    have e2 : 0 ≤ i → q_w32 (i - nd) = i - nd := fun _ => by rw [q_w32_id] <;> omega
    refine q_go1 200 2 [2] (fun cl ev hcl hev => ?_)
    repeat' (first | refine And.intro ?_ ?_ | (intro hq; first | exact absurd hq (by decide) | exact absurd rfl hq | exact absurd hq (show ¬ (1 : Int) = 0 by decide) | exact absurd (show (1 : Int) ≠ 0 by decide) hq | skip) | refine hcl _ _ _ _ (c_Plan_bestFor (by omega) (fun x => ?_)))
    all_goals first
      | omega
      | exact hK _ h
      | (refine hev _ ?_
         rw [e (by omega)]
         exact ih _ _ _ _ _ _ (by omega) (by omega) (by omega) (by repeat' (first | assumption | refine q_AWf ?_ (hW _ _ (by unfold w_pl; omega)) (by unfold q_fre; omega) | refine q_AWu ?_ (hW _ _ (by unfold w_pl; omega)) (by unfold q_ok; first | omega | (simp (disch := decide) only [q_un, q_ue]; omega)))))
theorem c_Plan_consider {nd gn lim : Int} {W : Int → Int → Prop} {σ0 σ : q_S} {K : q_R → q_S → Prop} (hW : ∀ k i, w_pl k i → W k i) (hnd : -100 ≤ nd ∧ nd ≤ 100) (hl : 0 ≤ lim ∧ lim < 201) (h : q_AW W σ0 σ) (hK : ∀ σ', q_AW W σ0 σ' → K none σ') : q_K L xs i_Plan_consider [(2, 96), (0, nd), (1, gn), (0, lim)] σ K := by
  refine q_call k_Plan_consider 9 rfl ?_
  show q_E L xs k_Plan_consider (0, [(2, 96), (0, nd), (1, gn), (9, 0), (0, lim), (9, 0), (9, 0), (9, 0), (9, 0)], [], σ) K
  refine q_go1 200 0 [2] (fun cl ev hcl hev => ?_)
  exact hev _ (l_consider hW hnd hK 202 _ _ _ _ _ _ (by omega) (by omega) (by omega) h)
theorem l_pworth {c d f : Int} {σ : q_S} {K : q_R → q_S → Prop} (hf : 0 ≤ f ∧ f ≤ 24) (hK : ∀ x, K (some (1, x)) σ) :
    ∀ (m : Nat) (i s : Int), f + 6 - i < m → f ≤ i → i ≤ f + 6 → q_E L xs k_Plan_worthOf (10, [(0, c), (2, 1), (0, d), (0, f), (1, s), (9, 0), (0, i)], [], σ) K := by
  intro m
  induction m with
  | zero => intro i s; omega
  | succ m ih =>
    intro i s hm hi hi2
    have e : q_w32 (i + 1) = i + 1 := by rw [q_w32_id] <;> omega
    have e6 : q_w32 (f + 6) = f + 6 := by rw [q_w32_id] <;> omega
    refine q_go1 200 10 [10] (fun cl ev hcl hev => ?_)
    repeat' (first | refine And.intro ?_ ?_ | (intro hq; first | exact absurd hq (by decide) | exact absurd rfl hq | exact absurd hq (show ¬ (1 : Int) = 0 by decide) | exact absurd (show (1 : Int) ≠ 0 by decide) hq | skip))
    all_goals first
      | omega
      | (refine hev _ ?_; rw [e]; exact ih _ _ (by omega) (by omega) (by omega))
      | exact hK _
theorem c_Plan_worthOf {c d : Int} {σ : q_S} {K : q_R → q_S → Prop} (hc : 0 ≤ c ∧ c < 30) (hK : ∀ x, K (some (1, x)) σ) : q_K L xs i_Plan_worthOf [(0, c), (2, 1), (0, d)] σ K := by
  have hmd : c.tmod 6 = c % 6 := Int.tmod_eq_emod_of_nonneg hc.1
  have e : q_w32 (c - c.tmod 6) = c - c % 6 := by rw [hmd, q_w32_id] <;> omega
  refine q_call k_Plan_worthOf 7 rfl ?_
  show q_E L xs k_Plan_worthOf (0, [(0, c), (2, 1), (0, d), (9, 0), (9, 0), (9, 0), (9, 0)], [], σ) K
  refine q_go1 200 0 [10] (fun cl ev hcl hev => ?_)
  refine And.intro (by decide) ?_
  refine hev _ ?_
  rw [e]
  exact l_pworth (by omega) hK 7 _ _ (by omega) (by omega) (by omega)

theorem l_handsFor {d : Int} {σ : q_S} {K : q_R → q_S → Prop} (hn : 0 ≤ σ 17 9 ∧ σ 17 9 ≤ 24) (hK : ∀ x, K (some (0, x)) σ) :
    ∀ (m : Nat) (i : Int) (s : Int), 24 - i < m → 0 ≤ i → i ≤ 24 → q_E L xs k_Plan_handsFor (4, [(2, 96), (2, 17), (0, d), (0, s), (0, i)], [], σ) K := by
  intro m
  induction m with
  | zero => intro i; omega
  | succ m ih =>
    intro i s hm hi hi2
    have e : q_w32 (i + 1) = i + 1 := by rw [q_w32_id] <;> omega
    refine q_go1 200 4 [4] (fun cl ev hcl hev => ?_)
    repeat' (first | refine And.intro ?_ ?_ | (intro hq; first | exact absurd hq (by decide) | exact absurd rfl hq | exact absurd hq (show ¬ (1 : Int) = 0 by decide) | exact absurd (show (1 : Int) ≠ 0 by decide) hq | skip))
    all_goals first
      | omega
      | (refine hev _ ?_; rw [e]; exact ih _ _ (by omega) (by omega) (by omega))
      | exact hK _

theorem c_Plan_handsFor {d : Int} {σ : q_S} {K : q_R → q_S → Prop} (hn : 0 ≤ σ 17 9 ∧ σ 17 9 ≤ 24) (hK : ∀ x, K (some (0, x)) σ) : q_K L xs i_Plan_handsFor [(2, 96), (2, 17), (0, d)] σ K := by
  refine q_call k_Plan_handsFor 5 rfl ?_
  show q_E L xs k_Plan_handsFor (0, [(2, 96), (2, 17), (0, d), (9, 0), (9, 0)], [], σ) K
  refine q_go1 200 0 [4] (fun cl ev hcl hev => ?_)
  repeat' (first | refine And.intro ?_ ?_ | (intro hq; first | exact absurd hq (by decide) | exact absurd rfl hq | exact absurd hq (show ¬ (1 : Int) = 0 by decide) | exact absurd (show (1 : Int) ≠ 0 by decide) hq | skip))
  all_goals first
    | omega
    | exact hev _ (l_handsFor hn hK 25 0 _ (by omega) (by omega) (by omega))
    | exact hK _

theorem l_draw {d lim en : Int} {W : Int → Int → Prop} {σ0 : q_S} {K : q_R → q_S → Prop} (hW : ∀ k i, w_pl k i → W k i) (hd : -1 ≤ d ∧ d ≤ 99) (hen : 0 ≤ en ∧ en < 201) (hK : ∀ σ', q_AW W σ0 σ' → K none σ') :
    ∀ (m : Nat) (i : Int) (σ : q_S) (y7 : Int) (u7 : Nat), 24 - i < m → 0 ≤ i → i ≤ 24 → q_AW W σ0 σ → q_E L xs k_Plan_draw (20, [(2, 96), (2, 17), (2, 1), (0, d), (0, lim), (0, en), (0, i), (u7, y7), (9, 0)], [], σ) K := by
  intro m
  induction m with
  | zero => intro i; omega
  | succ m ih =>
    intro i σ y7 u7 hm hi hi2 h
    have e : q_w32 (i + 1) = i + 1 := by rw [q_w32_id] <;> omega
    have hn := q_oBank h
    have hh := q_oHeight h i
    have hc := q_oCell h i
    have e2 : q_w32 (d - σ 20 i) = d - σ 20 i := by rw [q_w32_id] <;> omega
    refine q_go1 200 20 [20] (fun cl ev hcl hev => ?_)
    repeat' (first | refine And.intro ?_ ?_ | (intro hq; first | exact absurd hq (by decide) | exact absurd rfl hq | exact absurd hq (show ¬ (1 : Int) = 0 by decide) | exact absurd (show (1 : Int) ≠ 0 by decide) hq | skip) | (show cl _ _ _ _; first | refine hcl _ _ _ _ (c_Plan_worthOf hc (fun x => ?_)) | refine hcl _ _ _ _ (c_Plan_consider hW (by omega) hen h (fun σ1 h1 => ?_)) | refine hcl _ _ _ _ (c_Plan_bestFor hen (fun x => ?_)) | refine hcl _ _ _ _ (c_Plan_handsFor (by simp (disch := decide) only [q_un]; exact hn) (fun x => ?_))))
    all_goals first
      | omega
      | (refine hev _ ?_; rw [e]; exact ih _ _ _ _ (by omega) (by omega) (by omega) (by repeat' (first | assumption | refine q_AWf ?_ (hW _ _ (by unfold w_pl; omega)) (by unfold q_fre; omega) | refine q_AWu ?_ (hW _ _ (by unfold w_pl; omega)) (by unfold q_ok; first | omega | (simp (disch := decide) only [q_un, q_ue]; omega)))))
      | exact hK _ (by repeat' (first | assumption | refine q_AWf ?_ (hW _ _ (by unfold w_pl; omega)) (by unfold q_fre; omega) | refine q_AWu ?_ (hW _ _ (by unfold w_pl; omega)) (by unfold q_ok; first | omega | (simp (disch := decide) only [q_un, q_ue]; omega))))

theorem c_Plan_draw {d lim : Int} {W : Int → Int → Prop} {σ0 σ : q_S} {K : q_R → q_S → Prop} (hW : ∀ k i, w_pl k i → W k i) (hd : -1 ≤ d ∧ d ≤ 99) (hl : 0 ≤ lim ∧ lim ≤ 200) (h : q_AW W σ0 σ) (hK : ∀ σ', q_AW W σ0 σ' → K none σ') : q_K L xs i_Plan_draw [(2, 96), (2, 17), (2, 1), (0, d), (0, lim)] σ K := by
  refine q_call k_Plan_draw 9 rfl ?_
  show q_E L xs k_Plan_draw (0, [(2, 96), (2, 17), (2, 1), (0, d), (0, lim), (9, 0), (9, 0), (9, 0), (9, 0)], [], σ) K
  refine q_go1 200 0 [20] (fun cl ev hcl hev => ?_)
  repeat' (first | refine And.intro ?_ ?_ | (intro hq; first | exact absurd hq (by decide) | exact absurd rfl hq | exact absurd hq (show ¬ (1 : Int) = 0 by decide) | exact absurd (show (1 : Int) ≠ 0 by decide) hq | skip) | (show cl _ _ _ _; first | refine hcl _ _ _ _ (c_fill97 hW h (fun σ1 h1 => ?_)) | refine hcl _ _ _ _ (c_fill98 hW h1 (fun σ2 h2 => ?_)) | refine hcl _ _ _ _ (c_fill99 hW h2 (fun σ3 h3 => ?_)) | refine hcl _ _ _ _ (c_Plan_allNeeds (q_oBank h3) hd (q_oHeight h3) (fun x hx => ?_))))
  all_goals first
    | omega
    | exact hev _ (l_draw hW hd (by omega) hK 25 0 _ _ _ (by omega) (by omega) (by omega) h3)
    | exact hK _ (by repeat' (first | assumption | refine q_AWf ?_ (hW _ _ (by unfold w_pl; omega)) (by unfold q_fre; omega) | refine q_AWu ?_ (hW _ _ (by unfold w_pl; omega)) (by unfold q_ok; first | omega | (simp (disch := decide) only [q_un, q_ue]; omega))))

end P49
