theorem q_IS_of {σ σ' : q_S} (h : ∀ k i, ((k = 100 ∧ i = 7) ∨ (107 ≤ k ∧ k ≤ 111)) → σ' k i = σ k i) (hI : q_IS σ) : q_IS σ' := by
  obtain ⟨h1, h2, h3⟩ := hI
  have e7 : σ' 100 7 = σ 100 7 := h _ _ (by omega)
  refine ⟨by rw [e7]; exact h1, fun j hj => ?_, fun k hk c o d => ?_⟩
  · rw [h 108 j (by omega), h 109 j (by omega), h 110 j (by omega)]
    exact h2 j (by rw [← e7]; exact hj)
  · rw [q_hof_cong (σ := σ) (d := d) k (fun j _ => ⟨h _ _ (by omega), h _ _ (by omega), h _ _ (by omega), h _ _ (by omega), fun _ => by rw [h 111 j (by omega)]⟩)]
    exact h3 k (by rw [← e7]; exact hk) c o d
theorem q_IC_of {σ σ' : q_S} (h : ∀ k i, ((k = 100 ∧ i = 31) ∨ k = 124 ∨ (128 ≤ k ∧ k ≤ 130)) → σ' k i = σ k i) (hI : q_IC σ) : q_IC σ' := by
  obtain ⟨h1, h2, h3, h4⟩ := hI
  refine ⟨by rw [h 100 31 (by omega)]; exact h1, fun c a b => by rw [h 128 c (by omega)]; exact h2 c a b, fun j => by rw [h 129 j (by omega), h 130 j (by omega)]; exact h3 j, fun c a b => by rw [h 124 c (by omega)]; exact h4 c a b⟩
/-- faults: their number, and each rod's -/
def q_IF (σ : q_S) : Prop := (0 ≤ σ 100 42 ∧ σ 100 42 ≤ 60) ∧ (∀ i, 0 ≤ i → i < σ 100 13 → -1 ≤ σ 119 i ∧ σ 119 i < σ 100 42)
/-- what a view may change -/
def q_fv (σ σ' : q_S) : Prop := ∀ k i, ¬ (k = 118 ∨ k = 119 ∨ (133 ≤ k ∧ k ≤ 138) ∨ k = 145 ∨ k = 146) → ¬ (k = 100 ∧ i = 42) → σ' k i = σ k i
theorem q_fv_up {σ σ' : q_S} {k i v : Int} (h : q_fv σ σ') (hk : (k = 118 ∨ k = 119 ∨ (133 ≤ k ∧ k ≤ 138) ∨ k = 145 ∨ k = 146) ∨ (k = 100 ∧ i = 42)) : q_fv σ (q_up σ' k i v) := by
  intro k' i' h1 h2
  unfold q_up
  split
  · split
    · omega
    · exact h k' i' h1 h2
  · exact h k' i' h1 h2
section P30
variable {L : Nat} {xs : Int → Int}
theorem c_M_view {r : Int} {σ : q_S} {K : q_R → q_S → Prop} (hb : 0 ≤ σ 100 13 ∧ σ 100 13 ≤ 24) (hh : ∀ i, 0 ≤ i → i < 24 → 0 ≤ σ 114 i ∧ σ 114 i ≤ 99) (hI : q_IS σ) (hC : q_IC σ) (hF : q_IF σ) (hK : ∀ σ' x, q_fv σ σ' → q_IF σ' → K (some (0, x)) σ') : q_K L xs i_M_view [(2, 100), (0, r)] σ K := by
  have hC0 := hC.1
  have hI0 := hI.1
  have hF0 := hF.1
  have hFr := hF.2 r
  have hhr := hh r
  have hcn := q_cnow_in hC0
  have eK : ∀ x, K (some (0, x)) σ := fun x => hK σ x (fun _ _ _ _ => rfl) hF
  have h124 := hC.2.2.2 (q_cnow σ)
  refine q_call k_M_view 4 rfl ?_
  show q_E L xs k_M_view (0, [(2, 100), (0, r), (9, 0), (9, 0)], [], σ) K
  refine q_go1 200 0 [33] (fun cl ev hcl hev => ?_)
  refine hcl _ _ _ _ (c_M_isRod hb (fun h1 => ?_) (fun h1 => ?_))
  · refine And.intro (fun _ => ?_) (fun hq => absurd (show (1 : Int) ≠ 0 by decide) hq)
    have hFr := hFr h1.1 h1.2
    have hhr := hhr h1.1 (by omega)
    -- behind endsFault: the state s1, the rod without a fault
    have tail : ∀ (c below : Int) (σ1 : q_S), q_fv σ σ1 → σ1 100 42 = σ 100 42 → (∀ i, 0 ≤ i → i < σ 100 13 → -1 ≤ σ1 119 i ∧ σ1 119 i < σ 100 42) → σ1 119 r = -1 → (0 < below → 0 ≤ c ∧ c < 12) → (0 < below → σ 100 42 < 60) →
        q_E L xs k_M_view (33, [(2, 100), (0, r), (0, c), (0, below)], [], σ1) K := by
      intro c below σ1 f1 e42 hFa hFb hcb hb60
      have e25 : σ1 100 25 = σ 100 25 := f1 _ _ (by omega) (by omega)
      have e31 : σ1 100 31 = σ 100 31 := f1 _ _ (by omega) (by omega)
      have e7 : σ1 100 7 = σ 100 7 := f1 _ _ (by omega) (by omega)
      have e13 : σ1 100 13 = σ 100 13 := f1 _ _ (by omega) (by omega)
      refine q_go1 200 33 [] (fun cl ev hcl hev => ?_)
      refine And.intro (by omega) ?_
      refine And.intro (fun hq => ?_) (fun hq => ?_)
      · have hcb := hcb hq
        have hb60 := hb60 hq
        have fa : q_fv σ (q_up σ1 118 r (σ1 100 25)) := q_fv_up f1 (Or.inl (Or.inl rfl))
        have hI2 : q_IS (q_up σ1 118 r (σ1 100 25)) := q_IS_of (fun k i hk => fa k i (by omega) (by omega)) hI
        have hC2 : q_IC (q_up σ1 118 r (σ1 100 25)) := q_IC_of (fun k i hk => fa k i (by omega) (by omega)) hC
        refine hcl _ _ _ _ (c_M_menderOf hI2 hC2 (by omega) (by show 0 ≤ σ1 100 31 ∧ σ1 100 31 ≤ 12; omega) (by show 0 ≤ σ1 100 7 ∧ σ1 100 7 ≤ σ1 100 7; omega) (fun σ3 w f3 => ?_))
        have g42 : σ3 100 42 = σ 100 42 := (f3 _ _ (by decide) (by decide)).trans ((q_un (by decide)).trans e42)
        have f4 : q_fv σ σ3 := fun k i h1 h2 => (f3 k i (by omega) (by omega)).trans (fa k i h1 h2)
        have g119 : ∀ i, σ3 119 i = σ1 119 i := fun i => (f3 _ _ (by decide) (by decide)).trans (q_un (by decide))
        have e1 : q_w32 (σ3 100 42 + 1) = σ 100 42 + 1 := by rw [g42, q_w32_id] <;> omega
        repeat' (first | refine And.intro ?_ ?_ | (intro hq; first | exact absurd hq (by decide) | exact absurd rfl hq | exact absurd hq (show ¬ (1 : Int) = 0 by decide) | exact absurd (show (1 : Int) ≠ 0 by decide) hq | skip))
        all_goals first
          | omega
          | (simp (disch := decide) only [q_un, q_ue]; omega)
          | (refine hK _ _ (q_fv_up (q_fv_up (q_fv_up (q_fv_up (q_fv_up (q_fv_up (q_fv_up (q_fv_up f4 (by omega)) (by omega)) (by omega)) (by omega)) (by omega)) (by omega)) (by omega)) (by omega)) ⟨?_, fun i hi1 hi2 => ?_⟩
             · simp (disch := decide) only [q_un, q_ue]
               omega
             · have g13 : σ3 100 13 = σ 100 13 := f4 _ _ (by omega) (by omega)
               have hFa := hFa i hi1 (by simp (disch := decide) only [q_un, q_un2] at hi2; omega)
               have g119 := g119 i
               by_cases ei : i = r
               · subst ei
                 simp (disch := decide) only [q_un, q_ue]
                 omega
               · simp (disch := first | decide | exact ei) only [q_un, q_un2, q_ue]
                 omega)
      · refine hK _ _ (q_fv_up f1 (Or.inl (Or.inl rfl))) ⟨by show 0 ≤ σ1 100 42 ∧ σ1 100 42 ≤ 60; omega, fun i hi1 hi2 => ?_⟩
        have hFa := hFa i hi1 (by have hi2 : i < σ1 100 13 := hi2; omega)
        show -1 ≤ σ1 119 i ∧ σ1 119 i < σ1 100 42
        omega
    refine hcl _ _ _ _ (c_M_customOf hC0 ?_)
    have hcn' : -1 ≤ q_cof σ (σ 100 25) (σ 100 31).toNat ∧ q_cof σ (σ 100 25) (σ 100 31).toNat < 12 := hcn
    have h124' := hC.2.2.2 (q_cof σ (σ 100 25) (σ 100 31).toNat)
    have tl0 : ∀ (c below : Int), (0 < below → 0 ≤ c ∧ c < 12) → (0 < below → σ 100 42 < 60) → σ 119 r = -1 → q_E L xs k_M_view (33, [(2, 100), (0, r), (0, c), (0, below)], [], σ) K := fun c below h1 h2 h3 => tail c below σ (fun _ _ _ _ => rfl) rfl hF.2 h3 h1 h2
    have tl1 : ∀ (c below : Int), (0 < below → 0 ≤ c ∧ c < 12) → (0 < below → σ 100 42 < 60) → σ 119 r ≠ -1 → q_E L xs k_M_view (33, [(2, 100), (0, r), (0, c), (0, below)], [], q_up (q_up σ 135 (σ 119 r) (σ 100 25)) 119 r (-1)) K := fun c below h1 h2 h3 => tail c below _ (q_fv_up (q_fv_up (fun _ _ _ _ => rfl) (by omega)) (by omega)) (by simp (disch := decide) only [q_un]) (fun i hi1 hi2 => by
        have := hF.2 i hi1 hi2
        unfold q_up
        rw [if_pos rfl]
        split
        · omega
        · rw [if_neg (by decide)]; omega) q_ue h1 h2
    repeat' (first | refine And.intro ?_ ?_ | (intro hq; first | exact absurd hq (by decide) | exact absurd rfl hq | exact absurd hq (show ¬ (1 : Int) = 0 by decide) | exact absurd (show (1 : Int) ≠ 0 by decide) hq | skip) | refine hcl _ _ _ _ (c_M_hOf hcn' ?_ ?_) | refine hcl _ _ _ _ (c_M_endsFault (by omega) (by omega) ?_ ?_))
    all_goals first
      | omega
      | exact eK _
      | exact hev _ (tl0 _ _ (fun z => by unfold q_w32 at z; omega) (fun z => by unfold q_w32 at *; omega) (by omega))
      | exact hev _ (tl1 _ _ (fun z => by unfold q_w32 at z; omega) (fun z => by unfold q_w32 at *; omega) (by omega))
  · refine And.intro (fun hq => absurd rfl hq) (fun _ => ?_)
    exact eK _

theorem l_M_fines {w : Int} {σ : q_S} {K : q_R → q_S → Prop} (hF : 0 ≤ σ 100 42 ∧ σ 100 42 ≤ 60) (hK : ∀ r, K (some (0, r)) σ) :
    ∀ (m : Nat) (s i : Int), σ 100 42 - i < m → 0 ≤ i → i ≤ σ 100 42 → q_E L xs k_M_fines (9, [(2, 100), (0, w), (1, s), (9, 0), (0, i)], [], σ) K := by
  intro m
  induction m with
  | zero => intro s i; omega
  | succ m ih =>
    intro s i hm hi hi2
    have e : q_w32 (i + 1) = i + 1 := by rw [q_w32_id] <;> omega
    refine q_go1 80 9 [9] (fun cl ev hcl hev => ?_)
    repeat' (first | refine And.intro ?_ ?_ | (intro hq; first | exact absurd hq (by decide) | exact absurd rfl hq | exact absurd hq (show ¬ (1 : Int) = 0 by decide) | exact absurd (show (1 : Int) ≠ 0 by decide) hq | skip) | refine hcl _ _ _ _ (c_M_fineOf (by omega) ?_))
    all_goals first
      | omega
      | exact hK _
      | (refine hev _ ?_; rw [e]; exact ih _ (i + 1) (by omega) (by omega) (by omega))
theorem c_M_fines {w : Int} {σ : q_S} {K : q_R → q_S → Prop} (hF : 0 ≤ σ 100 42 ∧ σ 100 42 ≤ 60) (hK : ∀ r, K (some (0, r)) σ) : q_K L xs i_M_fines [(2, 100), (0, w)] σ K := by
  refine q_call k_M_fines 5 rfl ?_
  show q_E L xs k_M_fines (0, [(2, 100), (0, w), (9, 0), (9, 0), (9, 0)], [], σ) K
  refine q_go1 80 0 [9] (fun cl ev hcl hev => ?_)
  repeat' (first | refine And.intro ?_ ?_ | (intro hq; first | exact absurd hq (by decide) | exact absurd rfl hq | exact absurd hq (show ¬ (1 : Int) = 0 by decide) | exact absurd (show (1 : Int) ≠ 0 by decide) hq | skip) | refine hcl _ _ _ _ (c_M_isOwner ?_ ?_))
  all_goals first
    | omega
    | exact hK _
    | exact hev _ (l_M_fines hF hK 100 0 0 (by omega) (by omega) (by omega))
/-- only the rows of k from lo to hi -/
def q_fk (lo hi : Int) (σ σ' : q_S) : Prop := ∀ k i, ¬ (lo ≤ k ∧ k ≤ hi) → σ' k i = σ k i
theorem q_fk_up {lo hi k i v : Int} {σ σ' : q_S} (h : q_fk lo hi σ σ') (hk : lo ≤ k ∧ k ≤ hi) : q_fk lo hi σ (q_up σ' k i v) := fun k' i' h1 => (q_un (by intro e; subst e; exact h1 hk)).trans (h k' i' h1)
theorem q_fk_rf {lo hi : Int} {σ : q_S} : q_fk lo hi σ σ := fun _ _ _ => rfl
theorem l_M_year {σ0 : q_S} {K : q_R → q_S → Prop} (hK : ∀ σ' r, q_fk 104 104 σ0 σ' → K (some (0, r)) σ') :
    ∀ (m : Nat) (σ : q_S) (n c : Int), 30 - c < m → 0 ≤ c → c ≤ 30 → q_fk 104 104 σ0 σ → q_E L xs k_M_year (4, [(2, 100), (0, n), (0, c)], [], σ) K := by
  intro m
  induction m with
  | zero => intro σ n c; omega
  | succ m ih =>
    intro σ n c hm hc hc2 hf
    have e : q_w32 (c + 1) = c + 1 := by rw [q_w32_id] <;> omega
    refine q_go1 80 4 [4] (fun cl ev hcl hev => ?_)
    repeat' (first | refine And.intro ?_ ?_ | (intro hq; first | exact absurd hq (by decide) | exact absurd rfl hq | exact absurd hq (show ¬ (1 : Int) = 0 by decide) | exact absurd (show (1 : Int) ≠ 0 by decide) hq | skip))
    all_goals first
      | omega
      | exact hK _ _ hf
      | (refine hev _ ?_; rw [e]; exact ih _ _ (c + 1) (by omega) (by omega) (by omega) (q_fk_up hf (by omega)))
theorem c_M_year {σ : q_S} {K : q_R → q_S → Prop} (hK : ∀ σ' r, q_fk 104 104 σ σ' → K (some (0, r)) σ') : q_K L xs i_M_year [(2, 100)] σ K := by
  refine q_call k_M_year 3 rfl ?_
  show q_E L xs k_M_year (0, [(2, 100), (9, 0), (9, 0)], [], σ) K
  refine q_go1 80 0 [4] (fun cl ev hcl hev => ?_)
  exact hev _ (l_M_year hK 40 σ 0 0 (by omega) (by omega) (by omega) q_fk_rf)
/-- the tape's row and its length may differ -/
def q_ft (σ σ' : q_S) : Prop := ∀ k i, ¬ (k = 122 ∨ (k = 100 ∧ i = 30)) → σ' k i = σ k i
theorem q_ft_up {k i v : Int} {σ σ' : q_S} (h : q_ft σ σ') (hk : k = 122 ∨ (k = 100 ∧ i = 30)) : q_ft σ (q_up σ' k i v) := by
  intro k' i' h1
  unfold q_up
  split
  · split
    · omega
    · exact h k' i' h1
  · exact h k' i' h1
theorem l_M_feed {w n : Int} {σ0 : q_S} {K : q_R → q_S → Prop} (hK : ∀ σ' r, q_ft σ0 σ' → (0 ≤ σ' 100 30 ∧ σ' 100 30 ≤ 160) → K (some (0, r)) σ') :
    ∀ (m : Nat) (σ : q_S) (k : Int), k + 1 < m → -1 ≤ k → k ≤ 7 → q_ft σ0 σ → (0 ≤ σ 100 30 ∧ σ 100 30 + k + 1 ≤ 160) → q_E L xs k_M_feed (19, [(2, 100), (1, w), (9, 0), (0, n), (0, k)], [], σ) K := by
  intro m
  induction m with
  | zero => intro σ k; omega
  | succ m ih =>
    intro σ k hm hk hk2 hf ht
    have e : q_w32 (k + (-1)) = k - 1 := by rw [q_w32_id] <;> omega
    have e1 : q_w32 (σ 100 30 + 1) = σ 100 30 + 1 := by rw [q_w32_id] <;> omega
    refine q_go1 80 19 [19] (fun cl ev hcl hev => ?_)
    repeat' (first | refine And.intro ?_ ?_ | (intro hq; first | exact absurd hq (by decide) | exact absurd rfl hq | exact absurd hq (show ¬ (1 : Int) = 0 by decide) | exact absurd (show (1 : Int) ≠ 0 by decide) hq | skip))
    all_goals first
      | omega
      | exact hK _ _ hf (by omega)
      | (refine hev _ ?_
         rw [e]
         refine ih _ (k - 1) (by omega) (by omega) (by omega) (q_ft_up (q_ft_up hf (Or.inl rfl)) (Or.inr ⟨rfl, rfl⟩)) ?_
         show 0 ≤ q_w32 (σ 100 30 + 1) ∧ q_w32 (σ 100 30 + 1) + (k - 1) + 1 ≤ 160
         omega)
theorem c_M_feed {w n : Int} {σ : q_S} {K : q_R → q_S → Prop} (ht : 0 ≤ σ 100 30 ∧ σ 100 30 ≤ 160) (hK : ∀ σ' r, q_ft σ σ' → (0 ≤ σ' 100 30 ∧ σ' 100 30 ≤ 160) → K (some (0, r)) σ') : q_K L xs i_M_feed [(2, 100), (1, w), (0, n)] σ K := by
  refine q_call k_M_feed 5 rfl ?_
  show q_E L xs k_M_feed (0, [(2, 100), (1, w), (9, 0), (0, n), (9, 0)], [], σ) K
  refine q_go1 80 0 [19] (fun cl ev hcl hev => ?_)
  have e1 : (1 ≤ n ∧ n ≤ 8) → q_w32 (n - 1) = n - 1 := fun _ => by rw [q_w32_id] <;> omega
  have e2 : (1 ≤ n ∧ n ≤ 8) → q_w32 (σ 100 30 + n) = σ 100 30 + n := fun _ => by rw [q_w32_id] <;> omega
  repeat' (first | refine And.intro ?_ ?_ | (intro hq; first | exact absurd hq (by decide) | exact absurd rfl hq | exact absurd hq (show ¬ (1 : Int) = 0 by decide) | exact absurd (show (1 : Int) ≠ 0 by decide) hq | skip) | refine hcl _ _ _ _ (c_M_in ?_ ?_))
  all_goals first
    | omega
    | exact hK _ _ (fun _ _ _ => rfl) ht
    | (have e1 := e1 (by omega)
       have e2 := e2 (by omega)
       refine hev _ ?_
       rw [e1]
       exact l_M_feed hK 20 σ (n - 1) (by omega) (by omega) (by omega) (fun _ _ _ => rfl) (by omega))

theorem l_M_count18 {w : Int} {σ : q_S} {K : q_R → q_S → Prop} (hB : 0 ≤ σ 100 22 ∧ σ 100 22 ≤ 6) (hK : ∀ r, K (some (0, r)) σ) :
    ∀ (m : Nat) (n i : Int), σ 100 22 - i < m → 0 ≤ i → i ≤ σ 100 22 → q_E L xs k_M_count (18, [(2, 100), (0, w), (0, n), (0, i)], [], σ) K := by
  intro m
  induction m with
  | zero => intro n i; omega
  | succ m ih =>
    intro n i hm hi hi2
    have e : q_w32 (i + 1) = i + 1 := by rw [q_w32_id] <;> omega
    refine q_go1 80 18 [18] (fun cl ev hcl hev => ?_)
    repeat' (first | refine And.intro ?_ ?_ | (intro hq; first | exact absurd hq (by decide) | exact absurd rfl hq | exact absurd hq (show ¬ (1 : Int) = 0 by decide) | exact absurd (show (1 : Int) ≠ 0 by decide) hq | skip))
    all_goals first
      | omega
      | exact hK _
      | (refine hev _ ?_; rw [e]; exact ih _ (i + 1) (by omega) (by omega) (by omega))

theorem l_M_count39 {w : Int} {σ : q_S} {K : q_R → q_S → Prop} (hB : 0 ≤ σ 100 13 ∧ σ 100 13 ≤ 24) (hK : ∀ r, K (some (0, r)) σ) :
    ∀ (m : Nat) (n i : Int), σ 100 13 - i < m → 0 ≤ i → i ≤ σ 100 13 → q_E L xs k_M_count (39, [(2, 100), (0, w), (0, n), (0, i)], [], σ) K := by
  intro m
  induction m with
  | zero => intro n i; omega
  | succ m ih =>
    intro n i hm hi hi2
    have e : q_w32 (i + 1) = i + 1 := by rw [q_w32_id] <;> omega
    refine q_go1 80 39 [39] (fun cl ev hcl hev => ?_)
    repeat' (first | refine And.intro ?_ ?_ | (intro hq; first | exact absurd hq (by decide) | exact absurd rfl hq | exact absurd hq (show ¬ (1 : Int) = 0 by decide) | exact absurd (show (1 : Int) ≠ 0 by decide) hq | skip))
    all_goals first
      | omega
      | exact hK _
      | (refine hev _ ?_; rw [e]; exact ih _ (i + 1) (by omega) (by omega) (by omega))

theorem l_M_count67 {w : Int} {σ : q_S} {K : q_R → q_S → Prop} (hK : ∀ r, K (some (0, r)) σ) :
    ∀ (m : Nat) (n i : Int), 30 - i < m → 0 ≤ i → i ≤ 30 → q_E L xs k_M_count (67, [(2, 100), (0, w), (0, n), (0, i)], [], σ) K := by
  intro m
  induction m with
  | zero => intro n i; omega
  | succ m ih =>
    intro n i hm hi hi2
    have e : q_w32 (i + 1) = i + 1 := by rw [q_w32_id] <;> omega
    refine q_go1 80 67 [67] (fun cl ev hcl hev => ?_)
    repeat' (first | refine And.intro ?_ ?_ | (intro hq; first | exact absurd hq (by decide) | exact absurd rfl hq | exact absurd hq (show ¬ (1 : Int) = 0 by decide) | exact absurd (show (1 : Int) ≠ 0 by decide) hq | skip))
    all_goals first
      | omega
      | exact hK _
      | (refine hev _ ?_; rw [e]; exact ih _ (i + 1) (by omega) (by omega) (by omega))

theorem c_M_count {w : Int} {σ : q_S} {K : q_R → q_S → Prop} (hH : 0 ≤ σ 100 22 ∧ σ 100 22 ≤ 6) (hR : 0 ≤ σ 100 13 ∧ σ 100 13 ≤ 24) (hK : ∀ r, K (some (0, r)) σ) : q_K L xs i_M_count [(2, 100), (0, w)] σ K := by
  refine q_call k_M_count 4 rfl ?_
  show q_E L xs k_M_count (0, [(2, 100), (0, w), (9, 0), (9, 0)], [], σ) K
  refine q_go1 80 0 [18, 39, 67] (fun cl ev hcl hev => ?_)
  repeat' (first | refine And.intro ?_ ?_ | (intro hq; first | exact absurd hq (by decide) | exact absurd rfl hq | exact absurd hq (show ¬ (1 : Int) = 0 by decide) | exact absurd (show (1 : Int) ≠ 0 by decide) hq | skip))
  all_goals first
    | omega
    | exact hK _
    | exact hev _ (l_M_count18 hH hK 100 0 0 (by omega) (by omega) (by omega))
    | exact hev _ (l_M_count39 hR hK 100 0 0 (by omega) (by omega) (by omega))
    | exact hev _ (l_M_count67 hK 100 0 0 (by omega) (by omega) (by omega))

end P30
