theorem q_td {a b : Int} (h : 0 ≤ a) : a.tdiv b = a / b := Int.tdiv_eq_ediv_of_nonneg h
theorem q_tm {a b : Int} (h : 0 ≤ a) : a.tmod b = a % b := Int.tmod_eq_emod_of_nonneg h
theorem q_fk_tr {lo hi : Int} {σ σ' σ'' : q_S} (h : q_fk lo hi σ σ') (h' : q_fk lo hi σ' σ'') : q_fk lo hi σ σ'' := fun k i hk => (h' k i hk).trans (h k i hk)
section P31
variable {L : Nat} {xs : Int → Int}
theorem l_M_worthOf {r high f : Int} {σ : q_S} {K : q_R → q_S → Prop} (hf : 0 ≤ f ∧ f ≤ 24) (hK : ∀ x, K (some (0, x)) σ) :
    ∀ (m : Nat) (s c : Int), f + 6 - c < m → f ≤ c → c ≤ f + 6 → q_E L xs k_M_worthOf (13, [(2, 100), (0, r), (0, high), (0, s), (0, f), (0, c)], [], σ) K := by
  intro m
  induction m with
  | zero => intro s c; omega
  | succ m ih =>
    intro s c hm hc hc2
    have e : q_w32 (c + 1) = c + 1 := by rw [q_w32_id] <;> omega
    have e6 : q_w32 (f + 6) = f + 6 := by rw [q_w32_id] <;> omega
    refine q_go1 80 13 [13] (fun cl ev hcl hev => ?_)
    repeat' (first | refine And.intro ?_ ?_ | (intro hq; first | exact absurd hq (by decide) | exact absurd rfl hq | exact absurd hq (show ¬ (1 : Int) = 0 by decide) | exact absurd (show (1 : Int) ≠ 0 by decide) hq | skip))
    all_goals first
      | omega
      | exact hK _
      | (refine hev _ ?_; rw [e]; exact ih _ (c + 1) (by omega) (by omega) (by omega))
theorem c_M_worthOf {r high : Int} {σ : q_S} {K : q_R → q_S → Prop} (hr : 0 ≤ r ∧ r < 24) (hc : ∀ i, 0 ≤ i → i < 24 → 0 ≤ σ 112 i ∧ σ 112 i < 30) (hK : ∀ x, K (some (0, x)) σ) : q_K L xs i_M_worthOf [(2, 100), (0, r), (0, high)] σ K := by
  have hc := hc r hr.1 hr.2
  have ed := q_td (b := 6) hc.1
  have e : q_w32 (q_w32 ((σ 112 r).tdiv 6) * 6) = (σ 112 r) / 6 * 6 := by rw [ed]; unfold q_w32; omega
  refine q_call k_M_worthOf 6 rfl ?_
  show q_E L xs k_M_worthOf (0, [(2, 100), (0, r), (0, high), (9, 0), (9, 0), (9, 0)], [], σ) K
  refine q_go1 80 0 [13] (fun cl ev hcl hev => ?_)
  refine And.intro (by omega) ?_
  refine And.intro (by decide) ?_
  refine hev _ ?_
  rw [e]
  exact l_M_worthOf (by omega) hK 20 0 _ (by omega) (by omega) (by omega)
/-- a loop that fills or copies the rows of the plan -/
theorem l_M_ch129 {high r nd wt : Int} {σ0 : q_S} {u6 u7 : Nat} {x6 x7 : Int} {K : q_R → q_S → Prop} (hr : 0 ≤ r ∧ r < 24) (hK : ∀ σ', q_fk 147 150 σ0 σ' → q_E L xs k_M_chooses (25, [(2, 100), (0, high), (0, r + 1), (0, nd), (0, wt), (0, 603), (u6, x6), (u7, x7)], [], σ') K) :
    ∀ (m : Nat) (σ : q_S) (k : Int), 603 - k < m → 0 ≤ k → k ≤ 603 → q_fk 147 150 σ0 σ → q_E L xs k_M_chooses (129, [(2, 100), (0, high), (0, r), (0, nd), (0, wt), (0, k), (u6, x6), (u7, x7)], [], σ) K := by
  intro m
  induction m with
  | zero => intro σ k; omega
  | succ m ih =>
    intro σ k hm hk hk2 hf
    have e : q_w32 (k + 1) = k + 1 := by rw [q_w32_id] <;> omega
    have er : q_w32 (r + 1) = r + 1 := by rw [q_w32_id] <;> omega
    refine q_go1 80 129 [25, 129] (fun cl ev hcl hev => ?_)
    repeat' (first | refine And.intro ?_ ?_ | (intro hq; first | exact absurd hq (by decide) | exact absurd rfl hq | exact absurd hq (show ¬ (1 : Int) = 0 by decide) | exact absurd (show (1 : Int) ≠ 0 by decide) hq | skip))
    all_goals first
      | omega
      | (have e3 : k = 603 := by omega
         subst e3
         refine hev _ ?_
         rw [er]
         exact hK σ hf)
      | (refine hev _ ?_; rw [e]; exact ih _ (k + 1) (by omega) (by omega) (by omega) (q_fk_up (q_fk_up hf (by omega)) (by omega)))
theorem l_M_ch60 {high r nd wt : Int} {σ0 : q_S} {K : q_R → q_S → Prop} (hr : 0 ≤ r ∧ r < 24) (hnd : -99 ≤ nd ∧ nd ≤ 99) (hK : ∀ σ' x6 x7 u6 u7, q_fk 147 150 σ0 σ' → q_E L xs k_M_chooses (25, [(2, 100), (0, high), (0, r + 1), (0, nd), (0, wt), (0, 603), (u6, x6), (u7, x7)], [], σ') K) :
    ∀ (m : Nat) (σ : q_S) (k x6 x7 : Int) (u6 u7 : Nat), 603 - k < m → 0 ≤ k → k ≤ 603 → q_fk 147 150 σ0 σ → q_E L xs k_M_chooses (60, [(2, 100), (0, high), (0, r), (0, nd), (0, wt), (0, k), (u6, x6), (u7, x7)], [], σ) K := by
  intro m
  induction m with
  | zero => intro σ k; omega
  | succ m ih =>
    intro σ k x6 x7 u6 u7 hm hk hk2 hf
    have e : q_w32 (k + 1) = k + 1 := by rw [q_w32_id] <;> omega
    have ed := q_td (b := 3) hk
    have em := q_tm (b := 3) hk
    have eh : q_w32 (k.tdiv 3) = k / 3 := by rw [ed, q_w32_id] <;> omega
    have e3h : q_w32 (3 * q_w32 (k.tdiv 3)) = 3 * (k / 3) := by rw [eh, q_w32_id] <;> omega
    have ehn : q_w32 (q_w32 (k.tdiv 3) + nd) = k / 3 + nd := by rw [eh, q_w32_id] <;> omega
    have ea : 0 ≤ k / 3 + nd → k / 3 + nd ≤ 200 → q_w32 (q_w32 (q_w32 (3 * q_w32 (q_w32 (k.tdiv 3) + nd)) + k.tmod 3) + 1) = 3 * (k / 3 + nd) + k % 3 + 1 := fun _ _ => by rw [ehn, em]; unfold q_w32; omega
    refine q_go1 80 60 [25, 60, 129] (fun cl ev hcl hev => ?_)
    repeat' (first | refine And.intro ?_ ?_ | (intro hq; first | exact absurd hq (by decide) | exact absurd rfl hq | exact absurd hq (show ¬ (1 : Int) = 0 by decide) | exact absurd (show (1 : Int) ≠ 0 by decide) hq | skip) | refine hcl _ _ _ _ (c_M_betters (by omega) ?_ ?_) | refine hcl _ _ _ _ (c_M_betters (by have := ea (by omega) (by omega); omega) ?_ ?_))
    all_goals first
      | omega
      | exact hev _ (l_M_ch129 hr (fun σ' f => hK σ' _ _ _ _ f) 700 σ 0 (by omega) (by omega) (by omega) hf)
      | (refine hev _ ?_; rw [e]; exact ih _ (k + 1) _ _ _ _ (by omega) (by omega) (by omega) hf)
      | (refine hev _ ?_; rw [e]; exact ih _ (k + 1) _ _ _ _ (by omega) (by omega) (by omega) (q_fk_up (q_fk_up hf (by omega)) (by omega)))
      | (refine hev _ ?_; rw [e]; exact ih _ (k + 1) _ _ _ _ (by omega) (by omega) (by omega) (q_fk_up (q_fk_up (q_fk_up (q_fk_up hf (by omega)) (by omega)) (by omega)) (by omega)))
theorem l_M_ch43 {high r nd wt : Int} {σ0 : q_S} {K : q_R → q_S → Prop} (hr : 0 ≤ r ∧ r < 24) (hnd : -99 ≤ nd ∧ nd ≤ 99) (hK : ∀ σ' x6 x7 u6 u7, q_fk 147 150 σ0 σ' → q_E L xs k_M_chooses (25, [(2, 100), (0, high), (0, r + 1), (0, nd), (0, wt), (0, 603), (u6, x6), (u7, x7)], [], σ') K) :
    ∀ (m : Nat) (σ : q_S) (k x6 x7 : Int) (u6 u7 : Nat), 603 - k < m → 0 ≤ k → k ≤ 603 → q_fk 147 150 σ0 σ → q_E L xs k_M_chooses (43, [(2, 100), (0, high), (0, r), (0, nd), (0, wt), (0, k), (u6, x6), (u7, x7)], [], σ) K := by
  intro m
  induction m with
  | zero => intro σ k; omega
  | succ m ih =>
    intro σ k x6 x7 u6 u7 hm hk hk2 hf
    have e : q_w32 (k + 1) = k + 1 := by rw [q_w32_id] <;> omega
    refine q_go1 80 43 [25, 43, 60, 129] (fun cl ev hcl hev => ?_)
    repeat' (first | refine And.intro ?_ ?_ | (intro hq; first | exact absurd hq (by decide) | exact absurd rfl hq | exact absurd hq (show ¬ (1 : Int) = 0 by decide) | exact absurd (show (1 : Int) ≠ 0 by decide) hq | skip))
    all_goals first
      | omega
      | exact hev _ (l_M_ch60 hr hnd hK 700 σ 0 _ _ _ _ (by omega) (by omega) (by omega) hf)
      | (refine hev _ ?_; rw [e]; exact ih _ (k + 1) _ _ _ _ (by omega) (by omega) (by omega) (q_fk_up (q_fk_up hf (by omega)) (by omega)))
theorem l_M_ch25 {high : Int} {σ0 : q_S} {K : q_R → q_S → Prop} (hR : 0 ≤ σ0 100 13 ∧ σ0 100 13 ≤ 24) (hh : 0 ≤ high ∧ high ≤ 99) (hH : ∀ i, 0 ≤ i → i < 24 → 0 ≤ σ0 114 i ∧ σ0 114 i ≤ 99) (hc : ∀ i, 0 ≤ i → i < 24 → 0 ≤ σ0 112 i ∧ σ0 112 i < 30) (hK : ∀ σ', q_fk 147 150 σ0 σ' → K none σ') :
    ∀ (m : Nat) (σ : q_S) (r x3 x4 x5 x6 x7 : Int) (u3 u4 u5 u6 u7 : Nat), 24 - r < m → 0 ≤ r → r ≤ 24 → q_fk 147 150 σ0 σ → q_E L xs k_M_chooses (25, [(2, 100), (0, high), (0, r), (u3, x3), (u4, x4), (u5, x5), (u6, x6), (u7, x7)], [], σ) K := by
  intro m
  induction m with
  | zero => intro σ r; omega
  | succ m ih =>
    intro σ r x3 x4 x5 x6 x7 u3 u4 u5 u6 u7 hm hr hr2 hf
    have e13 : σ 100 13 = σ0 100 13 := hf _ _ (by omega)
    have e114 : σ 114 r = σ0 114 r := hf _ _ (by omega)
    have hH := hH r hr
    refine q_go1 80 25 [25, 43, 60, 129] (fun cl ev hcl hev => ?_)
    refine And.intro (fun hq => ?_) (fun hq => ?_)
    · exact hK σ hf
    · have hH := hH (by omega)
      have en : q_w32 (high - σ 114 r) = high - σ0 114 r := by rw [e114, q_w32_id] <;> omega
      refine And.intro (by omega) ?_
      refine hcl _ _ _ _ (c_M_worthOf (by omega) (fun i a b => by rw [hf 112 i (by omega)]; exact hc i a b) (fun wt => ?_))
      refine hev _ ?_
      rw [en]
      exact l_M_ch43 (by omega) (by omega) (fun σ' x6 x7 u6 u7 f => ih σ' (r + 1) _ _ _ _ _ _ _ _ _ _ (by omega) (by omega) (by omega) f) 700 σ 0 _ _ _ _ (by omega) (by omega) (by omega) hf
theorem l_M_ch2 {high : Int} {σ0 : q_S} {K : q_R → q_S → Prop} (hR : 0 ≤ σ0 100 13 ∧ σ0 100 13 ≤ 24) (hh : 0 ≤ high ∧ high ≤ 99) (hH : ∀ i, 0 ≤ i → i < 24 → 0 ≤ σ0 114 i ∧ σ0 114 i ≤ 99) (hc : ∀ i, 0 ≤ i → i < 24 → 0 ≤ σ0 112 i ∧ σ0 112 i < 30) (hK : ∀ σ', q_fk 147 150 σ0 σ' → K none σ') :
    ∀ (m : Nat) (σ : q_S) (k : Int), 603 - k < m → 0 ≤ k → k ≤ 603 → q_fk 147 150 σ0 σ → q_E L xs k_M_chooses (2, [(2, 100), (0, high), (0, k), (9, 0), (9, 0), (9, 0), (9, 0), (9, 0)], [], σ) K := by
  intro m
  induction m with
  | zero => intro σ k; omega
  | succ m ih =>
    intro σ k hm hk hk2 hf
    have e : q_w32 (k + 1) = k + 1 := by rw [q_w32_id] <;> omega
    refine q_go1 80 2 [2, 25] (fun cl ev hcl hev => ?_)
    repeat' (first | refine And.intro ?_ ?_ | (intro hq; first | exact absurd hq (by decide) | exact absurd rfl hq | exact absurd hq (show ¬ (1 : Int) = 0 by decide) | exact absurd (show (1 : Int) ≠ 0 by decide) hq | skip))
    all_goals first
      | omega
      | exact hev _ (l_M_ch25 hR hh hH hc hK 100 σ 0 _ _ _ _ _ _ _ _ _ _ (by omega) (by omega) (by omega) hf)
      | (refine hev _ ?_; rw [e]; exact ih _ (k + 1) (by omega) (by omega) (by omega) (q_fk_up (q_fk_up hf (by omega)) (by omega)))
theorem c_M_chooses {high : Int} {σ : q_S} {K : q_R → q_S → Prop} (hR : 0 ≤ σ 100 13 ∧ σ 100 13 ≤ 24) (hh : 0 ≤ high ∧ high ≤ 99) (hH : ∀ i, 0 ≤ i → i < 24 → 0 ≤ σ 114 i ∧ σ 114 i ≤ 99) (hc : ∀ i, 0 ≤ i → i < 24 → 0 ≤ σ 112 i ∧ σ 112 i < 30) (hK : ∀ σ', q_fk 147 150 σ σ' → K none σ') : q_K L xs i_M_chooses [(2, 100), (0, high)] σ K := by
  refine q_call k_M_chooses 8 rfl ?_
  show q_E L xs k_M_chooses (0, [(2, 100), (0, high), (9, 0), (9, 0), (9, 0), (9, 0), (9, 0), (9, 0)], [], σ) K
  refine q_go1 80 0 [2] (fun cl ev hcl hev => ?_)
  exact hev _ (l_M_ch2 hR hh hH hc hK 700 σ 0 (by omega) (by omega) (by omega) q_fk_rf)
theorem l_M_works74 {hands w high b : Int} {σ : q_S} {K : q_R → q_S → Prop} (hb : 0 ≤ b ∧ b < 603) (hR : 0 ≤ σ 100 13 ∧ σ 100 13 ≤ 24) (hK : ∀ x, K (some (0, x)) σ) :
    ∀ (m : Nat) (nd r : Int), 24 - r < m → 0 ≤ r → r ≤ 24 → q_E L xs k_M_works (74, [(2, 100), (0, hands), (0, w), (0, high), (0, b), (0, nd), (0, r)], [], σ) K := by
  intro m
  induction m with
  | zero => intro nd r; omega
  | succ m ih =>
    intro nd r hm hr hr2
    have e : q_w32 (r + 1) = r + 1 := by rw [q_w32_id] <;> omega
    refine q_go1 80 74 [74] (fun cl ev hcl hev => ?_)
    repeat' (first | refine And.intro ?_ ?_ | (intro hq; first | exact absurd hq (by decide) | exact absurd rfl hq | exact absurd hq (show ¬ (1 : Int) = 0 by decide) | exact absurd (show (1 : Int) ≠ 0 by decide) hq | skip))
    all_goals first
      | omega
      | exact hK _
      | (refine hev _ ?_; rw [e]; exact ih _ (r + 1) (by omega) (by omega) (by omega))
theorem l_M_works30 {hands w high : Int} {σ : q_S} {K : q_R → q_S → Prop} (hh : 0 ≤ hands ∧ hands ≤ 200) (hR : 0 ≤ σ 100 13 ∧ σ 100 13 ≤ 24) (hK : ∀ x, K (some (0, x)) σ) :
    ∀ (m : Nat) (b k : Int), 603 - k < m → 0 ≤ k → k ≤ 603 → 0 ≤ b → b < 603 → q_E L xs k_M_works (30, [(2, 100), (0, hands), (0, w), (0, high), (0, b), (0, k), (9, 0)], [], σ) K := by
  intro m
  induction m with
  | zero => intro b k; omega
  | succ m ih =>
    intro b k hm hk hk2 hb0 hb
    have e : q_w32 (k + 1) = k + 1 := by rw [q_w32_id] <;> omega
    have e3 : q_w32 (q_w32 (3 * hands) + 3) = 3 * hands + 3 := by unfold q_w32; omega
    refine q_go1 80 30 [30, 74] (fun cl ev hcl hev => ?_)
    repeat' (first | refine And.intro ?_ ?_ | (intro hq; first | exact absurd hq (by decide) | exact absurd rfl hq | exact absurd hq (show ¬ (1 : Int) = 0 by decide) | exact absurd (show (1 : Int) ≠ 0 by decide) hq | skip))
    all_goals first
      | omega
      | exact hev _ (l_M_works74 ⟨hb0, hb⟩ hR hK 100 0 0 (by omega) (by omega) (by omega))
      | (refine hev _ ?_; rw [e]; exact ih b (k + 1) (by omega) (by omega) (by omega) hb0 hb)
      | (refine hev _ ?_; rw [e]; exact ih k (k + 1) (by omega) (by omega) (by omega) (by omega) (by omega))
theorem c_M_works {hands w : Int} {σ : q_S} {K : q_R → q_S → Prop} (hR : 0 ≤ σ 100 13 ∧ σ 100 13 ≤ 24) (hC : q_IC σ) (hH : ∀ i, 0 ≤ i → i < 24 → 0 ≤ σ 114 i ∧ σ 114 i ≤ 99) (hc : ∀ i, 0 ≤ i → i < 24 → 0 ≤ σ 112 i ∧ σ 112 i < 30) (hK : ∀ σ' x, q_fk 147 150 σ σ' → K (some (0, x)) σ') : q_K L xs i_M_works [(2, 100), (0, hands), (0, w)] σ K := by
  have hC0 := hC.1
  have hcn' : -1 ≤ q_cof σ (σ 100 25) (σ 100 31).toNat ∧ q_cof σ (σ 100 25) (σ 100 31).toNat < 12 := q_cnow_in hC0
  have h124 := hC.2.2.2 (q_cof σ (σ 100 25) (σ 100 31).toNat)
  refine q_call k_M_works 7 rfl ?_
  show q_E L xs k_M_works (0, [(2, 100), (0, hands), (0, w), (9, 0), (9, 0), (9, 0), (9, 0)], [], σ) K
  refine q_go1 80 0 [30] (fun cl ev hcl hev => ?_)
  repeat' (first | refine And.intro ?_ ?_ | (intro hq; first | exact absurd hq (by decide) | exact absurd rfl hq | exact absurd hq (show ¬ (1 : Int) = 0 by decide) | exact absurd (show (1 : Int) ≠ 0 by decide) hq | skip) | refine hcl _ _ _ _ (c_M_in ?_ ?_) | refine hcl _ _ _ _ (c_M_customOf hC0 ?_) | refine hcl _ _ _ _ (c_M_hOf hcn' ?_ ?_) | refine hcl _ _ _ _ (c_M_chooses hR (by omega) hH hc (fun σ1 f1 => ?_)))
  all_goals first
    | omega
    | exact hK _ _ q_fk_rf
    | (rename_i f1; refine hev _ (l_M_works30 (by omega) (by have := f1 100 13 (by omega); omega) (fun x => hK _ x f1) 700 0 0 (by omega) (by omega) (by omega) (by omega) (by omega)))

end P31
