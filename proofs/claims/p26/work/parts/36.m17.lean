/-- sums over the first n whole numbers -/
def q_sg (f : Int → Int) : Nat → Int
  | 0 => 0
  | n + 1 => q_sg f n + f n
theorem q_sg_up {f g : Int → Int} {j : Int} (h : ∀ i, i ≠ j → g i = f i) : ∀ n : Nat, q_sg g n = q_sg f n + (if 0 ≤ j ∧ j < n then g j - f j else 0)
  | 0 => by
    have : ¬ (0 ≤ j ∧ j < ((0 : Nat) : Int)) := by omega
    rw [if_neg this]; rfl
  | n + 1 => by
    show q_sg g n + g n = q_sg f n + f n + _
    rw [q_sg_up h n]
    by_cases e : (n : Int) = j
    · subst e
      rw [if_neg (by omega), if_pos (by omega)]; omega
    · rw [h n e]
      by_cases e2 : 0 ≤ j ∧ j < (n : Int)
      · rw [if_pos e2, if_pos (by omega)]; omega
      · rw [if_neg e2, if_neg (by omega)]; omega
theorem q_sg_le {f : Int → Int} {b : Int} (h : ∀ i, 0 ≤ i → f i ≤ b) : ∀ n : Nat, q_sg f n ≤ b * n
  | 0 => by show (0 : Int) ≤ b * 0; omega
  | n + 1 => by
    have h1 := q_sg_le h n
    have h2 := h n (by omega)
    show q_sg f n + f n ≤ _
    have : b * ((n + 1 : Nat) : Int) = b * n + b := by rw [Int.natCast_add, Int.mul_add]; show b * (n : Int) + b * 1 = _; omega
    omega
theorem q_sg_nn {f : Int → Int} : ∀ n : Nat, (∀ i : Int, 0 ≤ i → i < n → 0 ≤ f i) → 0 ≤ q_sg f n
  | 0, _ => Int.le_refl 0
  | n + 1, h => by
    have h1 := q_sg_nn n (fun i a b => h i a (by omega))
    have h2 := h n (by omega) (by omega)
    show 0 ≤ q_sg f n + f n
    omega
theorem q_self {σ : q_S} {k i : Int} : q_up σ k i (σ k i) = σ := by
  funext k' i'
  unfold q_up
  split
  · split
    · rename_i e1 e2; rw [e1, e2]
    · rfl
  · rfl
/-- what a step from c by side w costs, by the gates of σ -/
def q_cst (σ : q_S) (c w : Int) : Int := if q_sht σ c w = 0 then 1 else 101
theorem q_cst_in (σ : q_S) (c w : Int) : q_cst σ c w = 1 ∨ q_cst σ c w = 101 := by unfold q_cst; split <;> omega
/-- how far no way is -/
def q_wv (x : Int) : Int := if x = -1 then 4000 else x
def q_wu (x : Int) : Int := if x = -1 then 1 else 0
def q_FM (f : Int → Int) : Int := q_sg (fun c => q_wv (f c)) 30
def q_FU (f : Int → Int) : Int := q_sg (fun c => q_wu (f c)) 30
/-- the step from c by side w gives no nearer way -/
def q_rlx (σ : q_S) (op : Int) (f : Int → Int) (c w : Int) : Prop := q_bes c w ≠ -1 → f (q_bes c w) ≠ -1 → (op = 0 ∨ q_sht σ c w = 0) → f c ≠ -1 ∧ f c ≤ f (q_bes c w) + q_cst σ c w
/-- what holds all along of the ways found so far -/
def q_WF (σ : q_S) (to : Int) (f : Int → Int) : Prop := f to = 0 ∧ (∀ c, 0 ≤ c → c < 30 → -1 ≤ f c ∧ f c ≤ 101 * (30 - q_FU f)) ∧ (∀ c, 0 ≤ c → c < 30 → c ≠ to → f c ≠ 0) ∧ (∀ c, 0 ≤ c → c < 30 → c ≠ to → f c ≠ -1 → ∃ w, 0 ≤ w ∧ w < 4 ∧ q_bes c w ≠ -1 ∧ f (q_bes c w) ≠ -1 ∧ f (q_bes c w) + q_cst σ c w ≤ f c)
theorem q_FU_nn (f : Int → Int) : 0 ≤ q_FU f := q_sg_nn 30 (fun i _ _ => by unfold q_wu; split <;> omega)
theorem q_WF_in {σ : q_S} {to : Int} {f : Int → Int} (h : q_WF σ to f) {c : Int} (h0 : 0 ≤ c) (h1 : c < 30) : -1 ≤ f c ∧ f c ≤ 3030 := by
  have := h.2.1 c h0 h1
  have := q_FU_nn f
  omega
theorem q_FM_nn {σ : q_S} {to : Int} {f : Int → Int} (h : q_WF σ to f) : 0 ≤ q_FM f := q_sg_nn 30 (fun i a b => by
  have := q_WF_in h a (by omega)
  show 0 ≤ q_wv (f i)
  unfold q_wv; split <;> omega)
def q_fup (f : Int → Int) (c n : Int) : Int → Int := fun i => if i = c then n else f i
/-- a nearer way is entered -/
theorem q_WF_up {σ : q_S} {to : Int} {f : Int → Int} {c w n : Int} (h : q_WF σ to f) (hc : 0 ≤ c ∧ c < 30) (hw : 0 ≤ w ∧ w < 4) (hb : q_bes c w ≠ -1) (hfb : f (q_bes c w) ≠ -1) (hn : n = f (q_bes c w) + q_cst σ c w) (hlt : f c = -1 ∨ n < f c) : q_WF σ to (q_fup f c n) ∧ q_FM (q_fup f c n) < q_FM f := by
  have hcs := q_cst_in σ c w
  have hbi := q_bes_in (c := c) (w := w) hc
  have hfb2 := h.2.1 (q_bes c w) (by omega) (by omega)
  have hcb : c ≠ q_bes c w := by unfold q_bes; repeat' split
                                 all_goals omega
  have hto : to ≠ c := by intro e; have := h.1; rw [e] at this; omega
  have hu0 := q_FU_nn f
  have hu : q_FU (q_fup f c n) = q_FU f + (q_wu n - q_wu (f c)) := by
    have := q_sg_up (f := fun i => q_wu (f i)) (g := fun i => q_wu (q_fup f c n i)) (j := c) (fun i hi => by show q_wu (q_fup f c n i) = _; unfold q_fup; rw [if_neg hi]) 30
    unfold q_FU
    rw [this, if_pos (by omega)]
    show _ + (q_wu (q_fup f c n c) - _) = _
    unfold q_fup; rw [if_pos rfl]
  have hM : q_FM (q_fup f c n) = q_FM f + (q_wv n - q_wv (f c)) := by
    have := q_sg_up (f := fun i => q_wv (f i)) (g := fun i => q_wv (q_fup f c n i)) (j := c) (fun i hi => by show q_wv (q_fup f c n i) = _; unfold q_fup; rw [if_neg hi]) 30
    unfold q_FM
    rw [this, if_pos (by omega)]
    show _ + (q_wv (q_fup f c n c) - _) = _
    unfold q_fup; rw [if_pos rfl]
  have hn1 : 1 ≤ n ∧ n ≤ 3131 := by omega
  have hun : q_wu n = 0 := by unfold q_wu; rw [if_neg (by omega)]
  have huc : (f c = -1 ∧ q_wu (f c) = 1 ∧ q_wv (f c) = 4000) ∨ (f c ≠ -1 ∧ q_wu (f c) = 0 ∧ q_wv (f c) = f c) := by
    unfold q_wu q_wv; by_cases e : f c = -1
    · left; rw [if_pos e, if_pos e]; exact ⟨e, rfl, rfl⟩
    · right; rw [if_neg e, if_neg e]; exact ⟨e, rfl, rfl⟩
  have hvn : q_wv n = n := by unfold q_wv; rw [if_neg (by omega)]
  refine ⟨⟨?_, ?_, ?_, ?_⟩, ?_⟩
  · show (if to = c then n else f to) = 0
    rw [if_neg hto]; exact h.1
  · intro d h0 h1
    have hd := h.2.1 d h0 h1
    have hc2 := h.2.1 c hc.1 hc.2
    rw [hu, hun]
    show -1 ≤ (if d = c then n else f d) ∧ (if d = c then n else f d) ≤ _
    by_cases e : d = c
    · rw [if_pos e]; omega
    · rw [if_neg e]; omega
  · intro d h0 h1 h2
    show (if d = c then n else f d) ≠ 0
    by_cases e : d = c
    · rw [if_pos e]; omega
    · rw [if_neg e]; exact h.2.2.1 d h0 h1 h2
  · intro d h0 h1 h2 h3
    have low : ∀ x, x ≠ -1 → f x ≠ -1 → (q_fup f c n x ≠ -1 ∧ q_fup f c n x ≤ f x) := by
      intro x _ hx
      show (if x = c then n else f x) ≠ -1 ∧ (if x = c then n else f x) ≤ f x
      by_cases e : x = c
      · rw [if_pos e]; subst e; omega
      · rw [if_neg e]; exact ⟨hx, Int.le_refl _⟩
    by_cases e : d = c
    · subst e
      refine ⟨w, hw.1, hw.2, hb, (low _ hb hfb).1, ?_⟩
      have := (low _ hb hfb).2
      have e2 : q_fup f d n d = n := by unfold q_fup; rw [if_pos rfl]
      rw [e2]; omega
    · have h3' : f d ≠ -1 := by
        have e2 : q_fup f c n d = f d := by unfold q_fup; rw [if_neg e]
        rw [e2] at h3; exact h3
      obtain ⟨w', a1, a2, a3, a4, a5⟩ := h.2.2.2 d h0 h1 h2 h3'
      refine ⟨w', a1, a2, a3, (low _ a3 a4).1, ?_⟩
      have := (low _ a3 a4).2
      have e2 : q_fup f c n d = f d := by unfold q_fup; rw [if_neg e]
      rw [e2]; omega
  · rw [hM, hvn]
    have := q_WF_in h hc.1 hc.2
    omega
/-- the search at work: at (c, w), with the mark more -/
def q_WJ (σ0 : q_S) (to op M0 : Int) (c w more : Int) (σ : q_S) : Prop := (∀ k i, k ≠ 140 → σ k i = σ0 k i) ∧ q_WF σ0 to (σ 140) ∧ q_FM (σ 140) ≤ M0 ∧ ((more = 1 ∧ q_FM (σ 140) < M0) ∨ (more = 0 ∧ ∀ c' w', 0 ≤ c' → c' < 30 → 0 ≤ w' → w' < 4 → (c' < c ∨ (c' = c ∧ w' < w)) → q_rlx σ0 op (σ 140) c' w'))
theorem q_WJ_skip {σ0 σ : q_S} {to op M0 c w more : Int} (h : q_WJ σ0 to op M0 c w more σ) (hr : more = 0 → q_rlx σ0 op (σ 140) c w) : q_WJ σ0 to op M0 c (w + 1) more σ := by
  refine ⟨h.1, h.2.1, h.2.2.1, ?_⟩
  rcases h.2.2.2 with hm | ⟨hm, ha⟩
  · exact Or.inl hm
  · refine Or.inr ⟨hm, fun c' w' a1 a2 a3 a4 a5 => ?_⟩
    by_cases e : c' = c ∧ w' = w
    · rw [e.1, e.2]; exact hr hm
    · exact ha c' w' a1 a2 a3 a4 (by omega)
theorem q_WJ_next {σ0 σ : q_S} {to op M0 c w more : Int} (h : q_WJ σ0 to op M0 c w more σ) (hw : 4 ≤ w) : q_WJ σ0 to op M0 (c + 1) 0 more σ := by
  refine ⟨h.1, h.2.1, h.2.2.1, ?_⟩
  rcases h.2.2.2 with hm | ⟨hm, ha⟩
  · exact Or.inl hm
  · exact Or.inr ⟨hm, fun c' w' a1 a2 a3 a4 a5 => ha c' w' a1 a2 a3 a4 (by omega)⟩
theorem q_WJ_up {σ0 σ : q_S} {to op M0 c w more n : Int} (h : q_WJ σ0 to op M0 c w more σ) (hc : 0 ≤ c ∧ c < 30) (hw : 0 ≤ w ∧ w < 4) (hb : q_bes c w ≠ -1) (hfb : σ 140 (q_bes c w) ≠ -1) (hn : n = σ 140 (q_bes c w) + q_cst σ0 c w) (hlt : σ 140 c = -1 ∨ n < σ 140 c) : q_WJ σ0 to op M0 c (w + 1) 1 (q_up σ 140 c n) := by
  have hu := q_WF_up h.2.1 hc hw hb hfb hn hlt
  have ef : (q_up σ 140 c n) 140 = q_fup (σ 140) c n := by funext i; unfold q_up q_fup; rw [if_pos rfl]
  refine ⟨fun k i hk => ?_, ?_, ?_, ?_⟩
  · rw [q_un hk]; exact h.1 k i hk
  · rw [ef]; exact hu.1
  · rw [ef]; have := h.2.2.1; omega
  · rw [ef]; left; exact ⟨rfl, by have := h.2.2.1; omega⟩
theorem q_sht_eq {σ0 σ : q_S} (h : ∀ k i, k ≠ 140 → σ k i = σ0 k i) (c w : Int) : q_sht σ c w = q_sht σ0 c w := by
  unfold q_sht
  repeat' split
  all_goals exact h _ _ (by decide)
section P36
variable {L : Nat} {xs : Int → Int}
theorem l_M_reckons4 {to op M0 c : Int} {σ0 : q_S} {K : q_R → q_S → Prop} (hop : op = 0 ∨ op = 1) (hc : 0 ≤ c ∧ c < 30)
    (hx : ∀ more σ x6 u6 x7 u7, q_WJ σ0 to op M0 (c + 1) 0 more σ → q_E L xs k_M_reckons (25, [(2, 100), (0, to), (0, op), (0, more), (0, c + 1), (0, 4), (u6, x6), (u7, x7)], [], σ) K) :
    ∀ (m : Nat) (w more : Int) (σ : q_S) (x6 : Int) (u6 : Nat) (x7 : Int) (u7 : Nat), 4 - w < m → 0 ≤ w → w ≤ 4 → q_WJ σ0 to op M0 c w more σ → q_E L xs k_M_reckons (30, [(2, 100), (0, to), (0, op), (0, more), (0, c), (0, w), (u6, x6), (u7, x7)], [], σ) K := by
  intro m
  induction m with
  | zero => intro w; omega
  | succ m ih =>
    intro w more σ x6 u6 x7 u7 hm hw hw2 hJ
    have e : q_w32 (w + 1) = w + 1 := by rw [q_w32_id] <;> omega
    have ec : q_w32 (c + 1) = c + 1 := by rw [q_w32_id] <;> omega
    have hbs := q_bes_in (c := c) (w := w) hc
    have hin : q_bes c w ≠ -1 → -1 ≤ σ 140 (q_bes c w) ∧ σ 140 (q_bes c w) ≤ 3030 := fun hb => q_WF_in hJ.2.1 (by omega) (by omega)
    have e1 : q_bes c w ≠ -1 → q_w32 (σ 140 (q_bes c w) + 1) = σ 140 (q_bes c w) + 1 := fun hb => by have := hin hb; rw [q_w32_id] <;> omega
    have e2 : q_bes c w ≠ -1 → q_w32 (σ 140 (q_bes c w) + 101) = σ 140 (q_bes c w) + 101 := fun hb => by have := hin hb; rw [q_w32_id] <;> omega
    have hsh := q_sht_eq hJ.1 c w
    have cs0 : q_sht σ c w = 0 → q_cst σ0 c w = 1 := fun h => by unfold q_cst; rw [if_pos (by omega)]
    have cs1 : q_sht σ c w ≠ 0 → q_cst σ0 c w = 101 := fun h => by unfold q_cst; rw [if_neg (by omega)]
    have hmo : more = 0 ∨ more = 1 := by rcases hJ.2.2.2 with h | h <;> omega
    refine q_go1 200 30 [25, 30] (fun cl ev hcl hev => ?_)
    repeat' (first | refine And.intro ?_ ?_ | (intro hq; first | exact absurd hq (by decide) | exact absurd rfl hq | exact absurd hq (show ¬ (1 : Int) = 0 by decide) | exact absurd (show (1 : Int) ≠ 0 by decide) hq | skip) | refine hcl _ _ _ _ (c_M_beside hc ?_) | refine hcl _ _ _ _ (c_M_isOpen hc (by assumption) ?_ ?_))
    all_goals first
      | omega
      | (refine hev _ ?_; rw [ec, show w = 4 by omega]; exact hx _ _ _ _ _ _ (q_WJ_next hJ (by omega)))
      | (refine hev _ ?_; rw [e]; exact ih _ _ _ _ _ _ _ (by omega) (by omega) (by omega) (q_WJ_skip hJ (fun _ => fun hb hf ho => absurd ho (by omega))))
      | (refine hev _ ?_; rw [e]; exact ih _ _ _ _ _ _ _ (by omega) (by omega) (by omega) (q_WJ_skip hJ (fun _ => fun hb hf ho => absurd hf (by omega))))
      | (refine hev _ ?_; rw [e]; exact ih _ _ _ _ _ _ _ (by omega) (by omega) (by omega) (q_WJ_skip hJ (fun _ => fun hb hf ho => absurd hb (by omega))))
      | (refine hev _ ?_; rw [e]; exact ih _ _ _ _ _ _ _ (by omega) (by omega) (by omega) (q_WJ_up hJ hc (by omega) (by assumption) (by omega) (by rw [e1 (by assumption), cs0 (by assumption)]) (by omega)))
      | (refine hev _ ?_; rw [e]; exact ih _ _ _ _ _ _ _ (by omega) (by omega) (by omega) (q_WJ_up hJ hc (by omega) (by assumption) (by omega) (by rw [e2 (by assumption), cs1 (by assumption)]) (by omega)))
      | (refine hev _ ?_; rw [e, q_self]; exact ih _ _ _ _ _ _ _ (by omega) (by omega) (by omega) (q_WJ_skip (more := 1) (by rw [show (1 : Int) = more by omega]; exact hJ) (fun h => absurd h (by decide))))
      | (refine hev _ ?_; rw [e, q_self]; exact ih _ _ _ _ _ _ _ (by omega) (by omega) (by omega) (q_WJ_skip (more := 0) (by rw [show (0 : Int) = more by omega]; exact hJ) (fun _ => fun hb hf ho => ⟨by omega, by omega⟩)))
end P36
