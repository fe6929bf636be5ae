/-- the ways are all found -/
def q_FX (σ : q_S) (to op : Int) (f : Int → Int) : Prop := q_WF σ to f ∧ ∀ c w, 0 ≤ c → c < 30 → 0 ≤ w → w < 4 → q_rlx σ op f c w
/-- only the ways' table has changed -/
def q_fr (σ0 σ : q_S) : Prop := ∀ k i, k ≠ 140 → σ k i = σ0 k i
theorem q_fr_up {σ0 σ : q_S} {i v : Int} (h : q_fr σ0 σ) : q_fr σ0 (q_up σ 140 i v) := fun k j hk => by rw [q_un hk]; exact h k j hk
/-- by any gates every cell is reached -/
theorem q_all_set {σ : q_S} {to : Int} {f : Int → Int} (h : q_FX σ to 0 f) (ht : 0 ≤ to ∧ to < 30) : ∀ c, 0 ≤ c → c < 30 → f c ≠ -1 := by
  have st : ∀ c w, 0 ≤ c → c < 30 → 0 ≤ w → w < 4 → q_bes c w ≠ -1 → f (q_bes c w) ≠ -1 → f c ≠ -1 := fun c w a1 a2 a3 a4 a5 a6 => (h.2 c w a1 a2 a3 a4 a5 a6 (Or.inl rfl)).1
  have l : ∀ c, 0 ≤ c → c < 30 → c % 6 ≠ 0 → f (c - 1) ≠ -1 → f c ≠ -1 := fun c a b d e => by
    have eb : q_bes c 0 = c - 1 := by unfold q_bes; rw [if_pos rfl, if_neg d]
    exact st c 0 a b (by omega) (by omega) (by omega) (by rw [eb]; exact e)
  have r : ∀ c, 0 ≤ c → c < 30 → c % 6 ≠ 0 → f c ≠ -1 → f (c - 1) ≠ -1 := fun c a b d e => by
    have eb : q_bes (c - 1) 1 = c := by unfold q_bes; rw [if_neg (by decide), if_pos rfl, if_neg (by omega)]; omega
    exact st (c - 1) 1 (by omega) (by omega) (by omega) (by omega) (by omega) (by rw [eb]; exact e)
  have u : ∀ c, 0 ≤ c → c < 30 → 6 ≤ c → f (c - 6) ≠ -1 → f c ≠ -1 := fun c a b d e => by
    have eb : q_bes c 2 = c - 6 := by unfold q_bes; rw [if_neg (by decide), if_neg (by decide), if_pos rfl, if_neg (by omega)]
    exact st c 2 a b (by omega) (by omega) (by omega) (by rw [eb]; exact e)
  have d : ∀ c, 0 ≤ c → c < 30 → 6 ≤ c → f c ≠ -1 → f (c - 6) ≠ -1 := fun c a b d e => by
    have eb : q_bes (c - 6) 3 = c := by unfold q_bes; rw [if_neg (by decide), if_neg (by decide), if_neg (by decide), if_neg (by omega)]; omega
    exact st (c - 6) 3 (by omega) (by omega) (by omega) (by omega) (by omega) (by rw [eb]; exact e)
  have down : ∀ (m : Nat) (c : Int), c < m → 0 ≤ c → c < 30 → f c ≠ -1 → f 0 ≠ -1 := by
    intro m
    induction m with
    | zero => intro c; omega
    | succ m ih =>
      intro c hm h0 h1 hc
      by_cases e : c % 6 = 0
      · by_cases e2 : 6 ≤ c
        · exact ih (c - 6) (by omega) (by omega) (by omega) (d c h0 h1 e2 hc)
        · have : c = 0 := by omega
          rw [this] at hc; exact hc
      · exact ih (c - 1) (by omega) (by omega) (by omega) (r c h0 h1 e hc)
  have up : ∀ (m : Nat) (c : Int), c < m → 0 ≤ c → c < 30 → f 0 ≠ -1 → f c ≠ -1 := by
    intro m
    induction m with
    | zero => intro c; omega
    | succ m ih =>
      intro c hm h0 h1 hc
      by_cases e : c % 6 = 0
      · by_cases e2 : 6 ≤ c
        · exact u c h0 h1 e2 (ih (c - 6) (by omega) (by omega) (by omega) hc)
        · have : c = 0 := by omega
          rw [this]; exact hc
      · exact l c h0 h1 e (ih (c - 1) (by omega) (by omega) (by omega) hc)
  have hz : f 0 ≠ -1 := down 30 to (by omega) ht.1 ht.2 (by have := h.1.1; omega)
  exact fun c a b => up 30 c (by omega) a b hz
section P37
variable {L : Nat} {xs : Int → Int}
theorem l_M_reckons3 {to op M0 : Int} {σ0 : q_S} {K : q_R → q_S → Prop} (hop : op = 0 ∨ op = 1)
    (hx : ∀ more σ x5 u5 x6 u6 x7 u7, q_WJ σ0 to op M0 30 0 more σ → q_E L xs k_M_reckons (19, [(2, 100), (0, to), (0, op), (0, more), (0, 30), (u5, x5), (u6, x6), (u7, x7)], [], σ) K) :
    ∀ (m : Nat) (c more : Int) (σ : q_S) (x5 : Int) (u5 : Nat) (x6 : Int) (u6 : Nat) (x7 : Int) (u7 : Nat), 30 - c < m → 0 ≤ c → c ≤ 30 → q_WJ σ0 to op M0 c 0 more σ → q_E L xs k_M_reckons (25, [(2, 100), (0, to), (0, op), (0, more), (0, c), (u5, x5), (u6, x6), (u7, x7)], [], σ) K := by
  intro m
  induction m with
  | zero => intro c; omega
  | succ m ih =>
    intro c more σ x5 u5 x6 u6 x7 u7 hm h0 h1 hJ
    refine q_go1 60 25 [19, 30] (fun cl ev hcl hev => ?_)
    repeat' (first | refine And.intro ?_ ?_ | (intro hq; first | exact absurd hq (by decide) | exact absurd rfl hq | exact absurd hq (show ¬ (1 : Int) = 0 by decide) | exact absurd (show (1 : Int) ≠ 0 by decide) hq | skip))
    · refine hev _ ?_
      rw [show c = 30 by omega]
      rw [show c = 30 by omega] at hJ
      exact hx _ _ _ _ _ _ _ _ hJ
    · refine hev _ (l_M_reckons4 hop ⟨h0, by omega⟩ (fun more σ x6 u6 x7 u7 hJ => ?_) 5 0 _ _ _ _ _ _ (by omega) (by omega) (by omega) hJ)
      exact ih _ _ _ _ _ _ _ _ _ (by omega) (by omega) (by omega) hJ
theorem l_M_reckons2e {to op : Int} {σ : q_S} {K : q_R → q_S → Prop} {x4 : Int} {u4 : Nat} {x5 : Int} {u5 : Nat} {x6 : Int} {u6 : Nat} {x7 : Int} {u7 : Nat} (hK : K none σ) : q_E L xs k_M_reckons (19, [(2, 100), (0, to), (0, op), (0, 0), (u4, x4), (u5, x5), (u6, x6), (u7, x7)], [], σ) K := by
  refine q_go1 60 19 [25] (fun cl ev hcl hev => ?_)
  repeat' (first | refine And.intro ?_ ?_ | (intro hq; first | exact absurd hq (by decide) | exact absurd rfl hq | exact absurd hq (show ¬ (1 : Int) = 0 by decide) | exact absurd (show (1 : Int) ≠ 0 by decide) hq | skip))
  all_goals exact hK
theorem l_M_reckons2 {to op : Int} {σ0 : q_S} {K : q_R → q_S → Prop} (hop : op = 0 ∨ op = 1) (hK : ∀ σ', q_fr σ0 σ' → q_FX σ0 to op (σ' 140) → K none σ') :
    ∀ (m : Nat) (σ : q_S) (x4 : Int) (u4 : Nat) (x5 : Int) (u5 : Nat) (x6 : Int) (u6 : Nat) (x7 : Int) (u7 : Nat), q_FM (σ 140) < m → q_fr σ0 σ → q_WF σ0 to (σ 140) → q_E L xs k_M_reckons (19, [(2, 100), (0, to), (0, op), (0, 1), (u4, x4), (u5, x5), (u6, x6), (u7, x7)], [], σ) K := by
  intro m
  induction m with
  | zero => intro σ _ _ _ _ _ _ _ _ hm _ hW; have := q_FM_nn hW; omega
  | succ m ih =>
    intro σ x4 u4 x5 u5 x6 u6 x7 u7 hm hf hW
    refine q_go1 60 19 [25] (fun cl ev hcl hev => ?_)
    repeat' (first | refine And.intro ?_ ?_ | (intro hq; first | exact absurd hq (by decide) | exact absurd rfl hq | exact absurd hq (show ¬ (1 : Int) = 0 by decide) | exact absurd (show (1 : Int) ≠ 0 by decide) hq | skip))
    all_goals first | omega | skip
    refine hev _ (l_M_reckons3 (M0 := q_FM (σ 140)) hop (fun more σ x5 u5 x6 u6 x7 u7 hJ => ?_) 31 0 0 _ _ _ _ _ _ _ (by omega) (by omega) (by omega) ⟨hf, hW, Int.le_refl _, Or.inr ⟨rfl, fun c' w' a1 a2 a3 a4 a5 => by omega⟩⟩)
    rcases hJ.2.2.2 with ⟨e, hlt⟩ | ⟨e, ha⟩
    · rw [e]; exact ih _ _ _ _ _ _ _ _ _ (by omega) hJ.1 hJ.2.1
    · rw [e]; exact l_M_reckons2e (hK _ hJ.1 ⟨hJ.2.1, fun c w a1 a2 a3 a4 => ha c w a1 a2 a3 a4 (Or.inl a2)⟩)
theorem q_WF_0 {σ : q_S} {to : Int} {f : Int → Int} (ht : 0 ≤ to ∧ to < 30) (h : ∀ d, 0 ≤ d → d < 30 → f d = if d = to then 0 else -1) : q_WF σ to f := by
  have h0 : f to = 0 := by rw [h to ht.1 ht.2, if_pos rfl]
  have hn : ∀ d, 0 ≤ d → d < 30 → d ≠ to → f d = -1 := fun d a b e => by rw [h d a b, if_neg e]
  have hu : q_FU f ≤ 30 := by
    have := q_sg_le (f := fun c => q_wu (f c)) (b := 1) (fun i _ => by show q_wu (f i) ≤ 1; unfold q_wu; split <;> omega) 30
    unfold q_FU; omega
  refine ⟨h0, fun c a b => ?_, fun c a b e => ?_, fun c a b e e2 => ?_⟩
  · by_cases e : c = to
    · rw [e, h0]; omega
    · rw [hn c a b e]; omega
  · rw [hn c a b e]; decide
  · exact absurd (hn c a b e) e2
theorem l_M_reckons1 {to op : Int} {σ0 : q_S} {K : q_R → q_S → Prop} (ht : 0 ≤ to ∧ to < 30) (hop : op = 0 ∨ op = 1) (hK : ∀ σ', q_fr σ0 σ' → q_FX σ0 to op (σ' 140) → K none σ') :
    ∀ (m : Nat) (c : Int) (σ : q_S), 30 - c < m → 0 ≤ c → c ≤ 30 → q_fr σ0 σ → (∀ d, 0 ≤ d → d < c → σ 140 d = if d = to then 0 else -1) → q_E L xs k_M_reckons (2, [(2, 100), (0, to), (0, op), (0, c), (9, 0), (9, 0), (9, 0), (9, 0)], [], σ) K := by
  intro m
  induction m with
  | zero => intro c; omega
  | succ m ih =>
    intro c σ hm h0 h1 hf hd
    have e : q_w32 (c + 1) = c + 1 := by rw [q_w32_id] <;> omega
    have hup : ∀ v, v = (if c = to then 0 else -1) → ∀ d, 0 ≤ d → d < c + 1 → q_up σ 140 c v 140 d = if d = to then 0 else -1 := fun v hv d a b => by
      by_cases e : d = c
      · subst e; rw [q_ue, hv]
      · rw [q_un2 e]; exact hd d a (by omega)
    refine q_go1 60 2 [2, 19] (fun cl ev hcl hev => ?_)
    repeat' (first | refine And.intro ?_ ?_ | (intro hq; first | exact absurd hq (by decide) | exact absurd rfl hq | exact absurd hq (show ¬ (1 : Int) = 0 by decide) | exact absurd (show (1 : Int) ≠ 0 by decide) hq | skip))
    all_goals first
      | omega
      | (refine hev _ ?_; rw [e]; exact ih _ _ (by omega) (by omega) (by omega) (q_fr_up hf) (hup _ (by rw [if_pos (by omega)])))
      | (refine hev _ ?_; rw [e]; exact ih _ _ (by omega) (by omega) (by omega) (q_fr_up hf) (hup _ (by rw [if_neg (by omega)])))
      | (refine hev _ (l_M_reckons2 hop hK ((q_FM (σ 140)).toNat + 1) _ _ _ _ _ _ _ _ _ ?_ hf (q_WF_0 ht (fun d a b => hd d a (by omega)))); have := Int.self_le_toNat (q_FM (σ 140)); omega)
theorem c_M_reckons {to op : Int} {σ0 σ : q_S} {K : q_R → q_S → Prop} (ht : 0 ≤ to ∧ to < 30) (hop : op = 0 ∨ op = 1) (hf : q_fr σ0 σ) (hK : ∀ σ', q_fr σ0 σ' → q_FX σ0 to op (σ' 140) → K none σ') : q_K L xs i_M_reckons [(2, 100), (0, to), (0, op)] σ K := by
  refine q_call k_M_reckons 8 rfl ?_
  show q_E L xs k_M_reckons (0, [(2, 100), (0, to), (0, op), (9, 0), (9, 0), (9, 0), (9, 0), (9, 0)], [], σ) K
  refine q_go1 120 0 [2] (fun cl ev hcl hev => ?_)
  exact hev _ (l_M_reckons1 ht hop hK 31 0 σ (by omega) (by omega) (by omega) hf (fun d a b => by omega))
/-- what is known of the nearest cell when the search has seen the cells below c -/
def q_NB (σ0 : q_S) (fr n op c r : Int) : Prop := (0 ≤ r ∧ r < 30 ∧ n ≤ σ0 101 r) ∨ (r = -1 ∧ ∀ d, 0 ≤ d → d < c → n ≤ σ0 101 d → ∃ f, q_FX σ0 d op f ∧ f fr = -1)
theorem l_M_nearest {fr n op : Int} {σ0 : q_S} {K : q_R → q_S → Prop} (hfr : 0 ≤ fr ∧ fr < 30) (hop : op = 0 ∨ op = 1) (hK : ∀ r σ', q_fr σ0 σ' → q_NB σ0 fr n op 30 r → K (some (0, r)) σ') :
    ∀ (m : Nat) (c best least : Int) (σ : q_S), 30 - c < m → 0 ≤ c → c ≤ 30 → q_fr σ0 σ → q_NB σ0 fr n op c best → q_E L xs k_M_nearest (6, [(2, 100), (0, fr), (0, n), (0, op), (0, best), (0, least), (0, c)], [], σ) K := by
  intro m
  induction m with
  | zero => intro c; omega
  | succ m ih =>
    intro c best least σ hm h0 h1 hf hN
    have e : q_w32 (c + 1) = c + 1 := by rw [q_w32_id] <;> omega
    have e101 : σ 101 c = σ0 101 c := hf 101 c (by decide)
    have keep : (0 ≤ best ∧ best < 30 ∧ n ≤ σ0 101 best) → q_NB σ0 fr n op (c + 1) best := Or.inl
    have low : ¬ n ≤ σ0 101 c → q_NB σ0 fr n op (c + 1) best := fun hl => by
      rcases hN with h | ⟨hb, h⟩
      · exact Or.inl h
      · refine Or.inr ⟨hb, fun d a b x => ?_⟩
        by_cases ed : d = c
        · rw [ed] at x; exact absurd x hl
        · exact h d a (by omega) x
    have none_ : ∀ f, q_FX σ0 c op f → f fr = -1 → q_NB σ0 fr n op (c + 1) best := fun f hF hf1 => by
      rcases hN with h | ⟨hb, h⟩
      · exact Or.inl h
      · refine Or.inr ⟨hb, fun d a b x => ?_⟩
        by_cases ed : d = c
        · rw [ed]; exact ⟨f, hF, hf1⟩
        · exact h d a (by omega) x
    have hbest : best ≠ -1 → (0 ≤ best ∧ best < 30 ∧ n ≤ σ0 101 best) := fun hb => by
      rcases hN with h | ⟨hb2, h⟩
      · exact h
      · exact absurd hb2 hb
    refine q_go1 120 6 [6] (fun cl ev hcl hev => ?_)
    repeat' (first | refine And.intro ?_ ?_ | (intro hq; first | exact absurd hq (by decide) | exact absurd rfl hq | exact absurd hq (show ¬ (1 : Int) = 0 by decide) | exact absurd (show (1 : Int) ≠ 0 by decide) hq | skip) | refine hcl _ _ _ _ (c_M_reckons (by omega) hop hf (fun σ1 hf1 hF => ?_)))
    all_goals first
      | omega
      | (refine hev _ ?_; rw [e]; exact ih _ _ _ _ (by omega) (by omega) (by omega) hf (low (by omega)))
      | (refine hev _ ?_; rw [e]; exact ih _ _ _ _ (by omega) (by omega) (by omega) hf1 (none_ _ hF (by assumption)))
      | (refine hev _ ?_; rw [e]; exact ih _ _ _ _ (by omega) (by omega) (by omega) hf1 (Or.inl ⟨by omega, by omega, by omega⟩))
      | (refine hev _ ?_; rw [e]; exact ih _ _ _ _ (by omega) (by omega) (by omega) hf1 (keep (hbest (by assumption))))
      | (refine hK _ _ hf ?_; rw [show (30 : Int) = c by omega]; exact hN)
theorem c_M_nearest {fr n op : Int} {σ0 σ : q_S} {K : q_R → q_S → Prop} (hfr : 0 ≤ fr ∧ fr < 30) (hop : op = 0 ∨ op = 1) (hf : q_fr σ0 σ) (hK : ∀ r σ', q_fr σ0 σ' → q_NB σ0 fr n op 30 r → K (some (0, r)) σ') : q_K L xs i_M_nearest [(2, 100), (0, fr), (0, n), (0, op)] σ K := by
  refine q_call k_M_nearest 7 rfl ?_
  show q_E L xs k_M_nearest (0, [(2, 100), (0, fr), (0, n), (0, op), (9, 0), (9, 0), (9, 0)], [], σ) K
  refine q_go1 120 0 [6] (fun cl ev hcl hev => ?_)
  exact hev _ (l_M_nearest hfr hop hK 31 0 (-1) 0 σ (by omega) (by omega) (by omega) hf (Or.inr ⟨rfl, fun d a b => by omega⟩))
/-- the walk towards to: g shows that it can't come there by open gates -/
theorem l_M_way2 {hd lv wh fr to at_ : Int} {σ0 σ : q_S} {g : Int → Int} {K : q_R → q_S → Prop} (hf : q_fr σ0 σ) (hF : q_FX σ0 to 0 (σ 140)) (hG : q_FX σ0 to 1 g) (ht : 0 ≤ to ∧ to < 30) (ha : 0 ≤ at_ ∧ at_ < 30) (hga : g at_ = -1) (hK : ∀ x, K (some (0, x)) σ)
    (hx : ∀ at2 w, 0 ≤ at2 → at2 < 30 → g at2 = -1 → σ 140 at2 < σ 140 at_ → q_E L xs k_M_way (69, [(2, 100), (0, hd), (0, lv), (0, wh), (0, fr), (0, to), (0, at2), (0, w)], [], σ) K) {w1 : Int} (hw1 : w1 < 4 ∧ q_bes at_ w1 ≠ -1 ∧ σ 140 (q_bes at_ w1) + q_cst σ0 at_ w1 = σ 140 at_) :
    ∀ (m : Nat) (w : Int), 4 - w < m → 0 ≤ w → w ≤ w1 → q_E L xs k_M_way (71, [(2, 100), (0, hd), (0, lv), (0, wh), (0, fr), (0, to), (0, at_), (0, w)], [], σ) K := by
  intro m
  induction m with
  | zero => intro w; omega
  | succ m ih =>
    intro w hm hw hw2
    have e : q_w32 (w + 1) = w + 1 := by rw [q_w32_id] <;> omega
    have hbs := q_bes_in (c := at_) (w := w) ha
    have hin : q_bes at_ w ≠ -1 → -1 ≤ σ 140 (q_bes at_ w) ∧ σ 140 (q_bes at_ w) ≤ 3030 := fun hb => q_WF_in hF.1 (by omega) (by omega)
    have e1 : q_bes at_ w ≠ -1 → q_w32 (σ 140 (q_bes at_ w) + 1) = σ 140 (q_bes at_ w) + 1 := fun hb => by have := hin hb; rw [q_w32_id] <;> omega
    have e2 : q_bes at_ w ≠ -1 → q_w32 (σ 140 (q_bes at_ w) + 101) = σ 140 (q_bes at_ w) + 101 := fun hb => by have := hin hb; rw [q_w32_id] <;> omega
    have hsh := q_sht_eq hf at_ w
    have cs0 : q_sht σ at_ w = 0 → q_cst σ0 at_ w = 1 := fun h => by unfold q_cst; rw [if_pos (by omega)]
    have cs1 : q_sht σ at_ w ≠ 0 → q_cst σ0 at_ w = 101 := fun h => by unfold q_cst; rw [if_neg (by omega)]
    have hne : w = w1 → q_bes at_ w ≠ -1 ∧ σ 140 (q_bes at_ w) + q_cst σ0 at_ w = σ 140 at_ := fun h => by rw [h]; exact hw1.2
    have hgb : q_bes at_ w ≠ -1 → q_sht σ at_ w = 0 → g (q_bes at_ w) = -1 := fun hb hs => by
      by_cases eg : g (q_bes at_ w) = -1
      · exact eg
      · exact absurd hga (hG.2 at_ w ha.1 ha.2 (by omega) (by omega) hb eg (Or.inr (by omega))).1
    refine q_go1 200 71 [69, 71] (fun cl ev hcl hev => ?_)
    repeat' (first | refine And.intro ?_ ?_ | (intro hq; first | exact absurd hq (by decide) | exact absurd rfl hq | exact absurd hq (show ¬ (1 : Int) = 0 by decide) | exact absurd (show (1 : Int) ≠ 0 by decide) hq | skip) | refine hcl _ _ _ _ (c_M_beside ha ?_) | refine hcl _ _ _ _ (c_M_isOpen ha (by assumption) ?_ ?_))
    all_goals first
      | omega
      | exact hK _
      | (refine hev _ ?_; rw [e]; exact ih _ (by omega) (by omega) (by omega))
      | exact hev _ (hx _ _ (by omega) (by omega) (hgb (by assumption) (by assumption)) (by omega))
theorem l_M_way1 {hd lv wh fr to : Int} {σ0 σ : q_S} {g : Int → Int} {K : q_R → q_S → Prop} (hf : q_fr σ0 σ) (hF : q_FX σ0 to 0 (σ 140)) (hG : q_FX σ0 to 1 g) (ht : 0 ≤ to ∧ to < 30) (hK : ∀ x, K (some (0, x)) σ) :
    ∀ (m : Nat) (at_ w : Int) (u : Nat), σ 140 at_ < m → 0 ≤ at_ → at_ < 30 → g at_ = -1 → q_E L xs k_M_way (69, [(2, 100), (0, hd), (0, lv), (0, wh), (0, fr), (0, to), (0, at_), (u, w)], [], σ) K := by
  have hall := q_all_set hF ht
  intro m
  induction m with
  | zero => intro at_ w u hm a b hg; have := hall at_ a b; have := q_WF_in hF.1 a b; omega
  | succ m ih =>
    intro at_ w u hm a b hg
    have hne : at_ ≠ to := fun e => by have := hG.1.1; rw [e] at hg; omega
    obtain ⟨w1, b1, b2, b3, b4, b5⟩ := hF.1.2.2.2 at_ a b hne (hall at_ a b)
    have hr := hF.2 at_ w1 a b b1 b2 b3 b4 (Or.inl rfl)
    refine q_go1 60 69 [71] (fun cl ev hcl hev => ?_)
    exact hev _ (l_M_way2 hf hF hG ht ⟨a, b⟩ hg hK (fun at2 w2 c1 c2 c3 c4 => ih at2 w2 0 (by omega) c1 c2 c3) (w1 := w1) ⟨b2, b3, by omega⟩ 5 0 (by omega) (by omega) b1)
theorem c_M_way {hd lv wh : Int} {σ0 : q_S} {K : q_R → q_S → Prop} (hb : 0 ≤ σ0 100 22 ∧ σ0 100 22 ≤ 6) (hh : ∀ j, 0 ≤ j → j < 6 → 0 ≤ σ0 120 j ∧ σ0 120 j < 30) (hK : ∀ x σ', q_fr σ0 σ' → K (some (0, x)) σ') : q_K L xs i_M_way [(2, 100), (0, hd), (0, lv), (0, wh)] σ0 K := by
  have hi := hh hd
  have h0 : q_fr σ0 σ0 := fun _ _ _ => rfl
  refine q_call k_M_way 8 rfl ?_
  show q_E L xs k_M_way (0, [(2, 100), (0, hd), (0, lv), (0, wh), (9, 0), (9, 0), (9, 0), (9, 0)], [], σ0) K
  refine q_go1 200 0 [69] (fun cl ev hcl hev => ?_)
  repeat' (first | refine And.intro ?_ ?_ | (intro hq; first | exact absurd hq (by decide) | exact absurd rfl hq | exact absurd hq (show ¬ (1 : Int) = 0 by decide) | exact absurd (show (1 : Int) ≠ 0 by decide) hq | skip) | refine hcl _ _ _ _ (c_M_isHerd hb ?_ ?_) | refine hcl _ _ _ _ (c_M_in ?_ ?_) | refine hcl _ _ _ _ (c_M_nearest (op := 1) (hi (by omega) (by omega)) (Or.inr rfl) h0 (fun r1 σ1 hf1 hN1 => ?_)) | refine hcl _ _ _ _ (c_M_nearest (op := 0) (hi (by omega) (by omega)) (Or.inl rfl) hf1 (fun r2 σ2 hf2 hN2 => ?_)) | refine hcl _ _ _ _ (c_M_reckons (op := 1) ?_ (Or.inr rfl) hf1 (fun σ3 hf3 hF3 => ?_)) | refine hcl _ _ _ _ (c_M_reckons (op := 0) ?_ (Or.inl rfl) hf2 (fun σ4 hf4 hF4 => ?_)))
  all_goals first
    | omega
    | exact hK _ _ h0
    | exact hK _ _ hf3
    | exact hK _ _ hf1
    | exact hK _ _ hf2
    | (rcases hN1 with hN1 | hN1 <;> omega)
    | (rcases hN2 with hN2 | hN2 <;> omega)
    | (refine hev _ ?_
       rcases hN2 with hN2 | hN2
       · rcases hN1 with hN1 | hN1
         · exact absurd hN1 (by omega)
         · obtain ⟨g, hG, hg⟩ := hN1.2 r2 hN2.1 hN2.2.1 hN2.2.2
           exact l_M_way1 hf4 hF4 hG ⟨hN2.1, hN2.2.1⟩ (fun x => hK _ _ hf4) 4000 _ _ _ (by have := q_WF_in hF4.1 (hi (by omega) (by omega)).1 (hi (by omega) (by omega)).2; omega) (hi (by omega) (by omega)).1 (hi (by omega) (by omega)).2 hg
       · omega)
end P37
