/-- the search at work, and no cell outside R is reached -/
def q_WH (R : Int → Prop) (σ0 : q_S) (to op M0 : Int) (c w more : Int) (σ : q_S) : Prop := q_WJ σ0 to op M0 c w more σ ∧ ∀ d, 0 ≤ d → d < 30 → σ 140 d ≠ -1 → R d
theorem q_WH_up {R : Int → Prop} {σ0 σ : q_S} {op c w n : Int} (hRc : ∀ c w, 0 ≤ c → c < 30 → 0 ≤ w → w < 4 → q_bes c w ≠ -1 → (op = 0 ∨ q_sht σ0 c w = 0) → R (q_bes c w) → R c) (h : ∀ d, 0 ≤ d → d < 30 → σ 140 d ≠ -1 → R d) (hc : 0 ≤ c ∧ c < 30) (hw : 0 ≤ w ∧ w < 4) (hb : q_bes c w ≠ -1) (hfb : σ 140 (q_bes c w) ≠ -1) (ho : op = 0 ∨ q_sht σ0 c w = 0) : ∀ d, 0 ≤ d → d < 30 → q_up σ 140 c n 140 d ≠ -1 → R d := fun d a b z => by
  have hbi := q_bes_in (c := c) (w := w) hc
  by_cases e : d = c
  · rw [e]; exact hRc c w hc.1 hc.2 hw.1 hw.2 hb ho (h _ (by omega) (by omega) hfb)
  · rw [q_ui e] at z; exact h d a b z
section W1a
variable {L : Nat} {xs : Int → Int}
theorem zr_reckons4 {to op M0 c : Int} {σ0 : q_S} {K : q_R → q_S → Prop} {R : Int → Prop} (hRc : ∀ c w, 0 ≤ c → c < 30 → 0 ≤ w → w < 4 → q_bes c w ≠ -1 → (op = 0 ∨ q_sht σ0 c w = 0) → R (q_bes c w) → R c) (hop : op = 0 ∨ op = 1) (hc : 0 ≤ c ∧ c < 30)
    (hx : ∀ more σ x6 u6 x7 u7, q_WH R σ0 to op M0 (c + 1) 0 more σ → q_E L xs k_M_reckons (25, [(2, 100), (0, to), (0, op), (0, more), (0, c + 1), (0, 4), (u6, x6), (u7, x7)], [], σ) K) :
    ∀ (m : Nat) (w more : Int) (σ : q_S) (x6 : Int) (u6 : Nat) (x7 : Int) (u7 : Nat), 4 - w < m → 0 ≤ w → w ≤ 4 → q_WH R σ0 to op M0 c w more σ → q_E L xs k_M_reckons (30, [(2, 100), (0, to), (0, op), (0, more), (0, c), (0, w), (u6, x6), (u7, x7)], [], σ) K := by
  intro m
  induction m with
  | zero => intro w; omega
  | succ m ih =>
    intro w more σ x6 u6 x7 u7 hm hw hw2 hJ
    have e : q_w32 (w + 1) = w + 1 := by rw [q_w32_id] <;> omega
    have ec : q_w32 (c + 1) = c + 1 := by rw [q_w32_id] <;> omega
    have hbs := q_bes_in (c := c) (w := w) hc
    have hin : q_bes c w ≠ -1 → -1 ≤ σ 140 (q_bes c w) ∧ σ 140 (q_bes c w) ≤ 3030 := fun hb => q_WF_in hJ.1.2.1 (by omega) (by omega)
    have e1 : q_bes c w ≠ -1 → q_w32 (σ 140 (q_bes c w) + 1) = σ 140 (q_bes c w) + 1 := fun hb => by have := hin hb; rw [q_w32_id] <;> omega
    have e2 : q_bes c w ≠ -1 → q_w32 (σ 140 (q_bes c w) + 101) = σ 140 (q_bes c w) + 101 := fun hb => by have := hin hb; rw [q_w32_id] <;> omega
    have hsh := q_sht_eq hJ.1.1 c w
    have cs0 : q_sht σ c w = 0 → q_cst σ0 c w = 1 := fun h => by unfold q_cst; rw [if_pos (by omega)]
    have cs1 : q_sht σ c w ≠ 0 → q_cst σ0 c w = 101 := fun h => by unfold q_cst; rw [if_neg (by omega)]
    have hmo : more = 0 ∨ more = 1 := by rcases hJ.1.2.2.2 with h | h <;> omega
    refine q_go1 200 30 [25, 30] (fun cl ev hcl hev => ?_)
    repeat' (first | refine And.intro ?_ ?_ | (intro hq; first | exact absurd hq (by decide) | exact absurd rfl hq | exact absurd hq (show ¬ (1 : Int) = 0 by decide) | exact absurd (show (1 : Int) ≠ 0 by decide) hq | skip) | refine hcl _ _ _ _ (c_M_beside hc ?_) | refine hcl _ _ _ _ (c_M_isOpen hc (by assumption) ?_ ?_))
    all_goals first
      | omega
      | (refine hev _ ?_; rw [ec, show w = 4 by omega]; exact hx _ _ _ _ _ _ ⟨q_WJ_next hJ.1 (by omega), hJ.2⟩)
      | (refine hev _ ?_; rw [e]; exact ih _ _ _ _ _ _ _ (by omega) (by omega) (by omega) ⟨q_WJ_skip hJ.1 (fun _ => fun hb hf ho => absurd ho (by omega)), hJ.2⟩)
      | (refine hev _ ?_; rw [e]; exact ih _ _ _ _ _ _ _ (by omega) (by omega) (by omega) ⟨q_WJ_skip hJ.1 (fun _ => fun hb hf ho => absurd hf (by omega)), hJ.2⟩)
      | (refine hev _ ?_; rw [e]; exact ih _ _ _ _ _ _ _ (by omega) (by omega) (by omega) ⟨q_WJ_skip hJ.1 (fun _ => fun hb hf ho => absurd hb (by omega)), hJ.2⟩)
      | (refine hev _ ?_; rw [e]; exact ih _ _ _ _ _ _ _ (by omega) (by omega) (by omega) ⟨q_WJ_up hJ.1 hc (by omega) (by assumption) (by omega) (by rw [e1 (by assumption), cs0 (by assumption)]) (by omega), q_WH_up hRc hJ.2 hc ⟨by omega, by omega⟩ (by assumption) (by omega) (by omega)⟩)
      | (refine hev _ ?_; rw [e]; exact ih _ _ _ _ _ _ _ (by omega) (by omega) (by omega) ⟨q_WJ_up hJ.1 hc (by omega) (by assumption) (by omega) (by rw [e2 (by assumption), cs1 (by assumption)]) (by omega), q_WH_up hRc hJ.2 hc ⟨by omega, by omega⟩ (by assumption) (by omega) (by omega)⟩)
      | (refine hev _ ?_; rw [e, q_self]; exact ih _ _ _ _ _ _ _ (by omega) (by omega) (by omega) ⟨q_WJ_skip (more := 1) (by rw [show (1 : Int) = more by omega]; exact hJ.1) (fun h => absurd h (by decide)), hJ.2⟩)
      | (refine hev _ ?_; rw [e, q_self]; exact ih _ _ _ _ _ _ _ (by omega) (by omega) (by omega) ⟨q_WJ_skip (more := 0) (by rw [show (0 : Int) = more by omega]; exact hJ.1) (fun _ => fun hb hf ho => ⟨by omega, by omega⟩), hJ.2⟩)
theorem zr_reckons3 {to op M0 : Int} {σ0 : q_S} {K : q_R → q_S → Prop} {R : Int → Prop} (hRc : ∀ c w, 0 ≤ c → c < 30 → 0 ≤ w → w < 4 → q_bes c w ≠ -1 → (op = 0 ∨ q_sht σ0 c w = 0) → R (q_bes c w) → R c) (hop : op = 0 ∨ op = 1)
    (hx : ∀ more σ x5 u5 x6 u6 x7 u7, q_WH R σ0 to op M0 30 0 more σ → q_E L xs k_M_reckons (19, [(2, 100), (0, to), (0, op), (0, more), (0, 30), (u5, x5), (u6, x6), (u7, x7)], [], σ) K) :
    ∀ (m : Nat) (c more : Int) (σ : q_S) (x5 : Int) (u5 : Nat) (x6 : Int) (u6 : Nat) (x7 : Int) (u7 : Nat), 30 - c < m → 0 ≤ c → c ≤ 30 → q_WH R σ0 to op M0 c 0 more σ → q_E L xs k_M_reckons (25, [(2, 100), (0, to), (0, op), (0, more), (0, c), (u5, x5), (u6, x6), (u7, x7)], [], σ) K := by
  intro m
  induction m with
  | zero => intro c; omega
  | succ m ih =>
    intro c more σ x5 u5 x6 u6 x7 u7 hm h0 h1 hJ
    refine q_go1 60 25 [19, 30] (fun cl ev hcl hev => ?_)
    repeat' (first | refine And.intro ?_ ?_ | (intro hq; first | exact absurd hq (by decide) | exact absurd rfl hq | exact absurd hq (show ¬ (1 : Int) = 0 by decide) | exact absurd (show (1 : Int) ≠ 0 by decide) hq | skip))
    · refine hev _ ?_
      rw [show c = 30 by omega]
      rw [show c = 30 by omega] at hJ
      exact hx _ _ _ _ _ _ _ _ hJ
    · refine hev _ (zr_reckons4 hRc hop ⟨h0, by omega⟩ (fun more σ x6 u6 x7 u7 hJ => ?_) 5 0 _ _ _ _ _ _ (by omega) (by omega) (by omega) hJ)
      exact ih _ _ _ _ _ _ _ _ _ (by omega) (by omega) (by omega) hJ
theorem zr_reckons2 {to op : Int} {σ0 : q_S} {K : q_R → q_S → Prop} {R : Int → Prop} (hRc : ∀ c w, 0 ≤ c → c < 30 → 0 ≤ w → w < 4 → q_bes c w ≠ -1 → (op = 0 ∨ q_sht σ0 c w = 0) → R (q_bes c w) → R c) (hop : op = 0 ∨ op = 1) (hK : ∀ σ', q_fr σ0 σ' → q_FX σ0 to op (σ' 140) → (∀ d, 0 ≤ d → d < 30 → σ' 140 d ≠ -1 → R d) → K none σ') :
    ∀ (m : Nat) (σ : q_S) (x4 : Int) (u4 : Nat) (x5 : Int) (u5 : Nat) (x6 : Int) (u6 : Nat) (x7 : Int) (u7 : Nat), q_FM (σ 140) < m → q_fr σ0 σ → q_WF σ0 to (σ 140) → (∀ d, 0 ≤ d → d < 30 → σ 140 d ≠ -1 → R d) → q_E L xs k_M_reckons (19, [(2, 100), (0, to), (0, op), (0, 1), (u4, x4), (u5, x5), (u6, x6), (u7, x7)], [], σ) K := by
  intro m
  induction m with
  | zero => intro σ _ _ _ _ _ _ _ _ hm _ hW _; have := q_FM_nn hW; omega
  | succ m ih =>
    intro σ x4 u4 x5 u5 x6 u6 x7 u7 hm hf hW hR
    refine q_go1 60 19 [25] (fun cl ev hcl hev => ?_)
    repeat' (first | refine And.intro ?_ ?_ | (intro hq; first | exact absurd hq (by decide) | exact absurd rfl hq | exact absurd hq (show ¬ (1 : Int) = 0 by decide) | exact absurd (show (1 : Int) ≠ 0 by decide) hq | skip))
    all_goals first | omega | skip
    refine hev _ (zr_reckons3 (M0 := q_FM (σ 140)) hRc hop (fun more σ x5 u5 x6 u6 x7 u7 hJ => ?_) 31 0 0 _ _ _ _ _ _ _ (by omega) (by omega) (by omega) ⟨⟨hf, hW, Int.le_refl _, Or.inr ⟨rfl, fun c' w' a1 a2 a3 a4 a5 => by omega⟩⟩, hR⟩)
    rcases hJ.1.2.2.2 with ⟨e, hlt⟩ | ⟨e, ha⟩
    · rw [e]; exact ih _ _ _ _ _ _ _ _ _ (by omega) hJ.1.1 hJ.1.2.1 hJ.2
    · rw [e]; exact l_M_reckons2e (hK _ hJ.1.1 ⟨hJ.1.2.1, fun c w a1 a2 a3 a4 => ha c w a1 a2 a3 a4 (Or.inl a2)⟩ hJ.2)
theorem zr_reckons1 {to op : Int} {σ0 : q_S} {K : q_R → q_S → Prop} (ht : 0 ≤ to ∧ to < 30) {R : Int → Prop} (hRc : ∀ c w, 0 ≤ c → c < 30 → 0 ≤ w → w < 4 → q_bes c w ≠ -1 → (op = 0 ∨ q_sht σ0 c w = 0) → R (q_bes c w) → R c) (hRt : R to) (hop : op = 0 ∨ op = 1) (hK : ∀ σ', q_fr σ0 σ' → q_FX σ0 to op (σ' 140) → (∀ d, 0 ≤ d → d < 30 → σ' 140 d ≠ -1 → R d) → K none σ') :
    ∀ (m : Nat) (c : Int) (σ : q_S), 30 - c < m → 0 ≤ c → c ≤ 30 → q_fr σ0 σ → (∀ d, 0 ≤ d → d < c → σ 140 d = if d = to then 0 else -1) → q_E L xs k_M_reckons (2, [(2, 100), (0, to), (0, op), (0, c), (9, 0), (9, 0), (9, 0), (9, 0)], [], σ) K := by
  intro m
  induction m with
  | zero => intro c; omega
  | succ m ih =>
    intro c σ hm h0 h1 hf hd
    have e : q_w32 (c + 1) = c + 1 := by rw [q_w32_id] <;> omega
    have hup : ∀ v, v = (if c = to then 0 else -1) → ∀ d, 0 ≤ d → d < c + 1 → q_up σ 140 c v 140 d = if d = to then 0 else -1 := fun v hv d a b => by
      by_cases e : d = c
      · subst e; rw [q_ue, hv]
      · rw [q_un2 e]; exact hd d a (by omega)
    refine q_go1 60 2 [2, 19] (fun cl ev hcl hev => ?_)
    repeat' (first | refine And.intro ?_ ?_ | (intro hq; first | exact absurd hq (by decide) | exact absurd rfl hq | exact absurd hq (show ¬ (1 : Int) = 0 by decide) | exact absurd (show (1 : Int) ≠ 0 by decide) hq | skip))
    all_goals first
      | omega
      | (refine hev _ ?_; rw [e]; exact ih _ _ (by omega) (by omega) (by omega) (q_fr_up hf) (hup _ (by rw [if_pos (by omega)])))
      | (refine hev _ ?_; rw [e]; exact ih _ _ (by omega) (by omega) (by omega) (q_fr_up hf) (hup _ (by rw [if_neg (by omega)])))
      | (refine hev _ (zr_reckons2 hRc hop hK ((q_FM (σ 140)).toNat + 1) _ _ _ _ _ _ _ _ _ ?_ hf (q_WF_0 ht (fun d a b => hd d a (by omega))) (fun d a b z => by have y := hd d a (by omega); by_cases ed : d = to; exact ed ▸ hRt; rw [if_neg ed] at y; exact absurd y z)); have := Int.self_le_toNat (q_FM (σ 140)); omega)
theorem zr_reckons {to op : Int} {σ0 σ : q_S} {K : q_R → q_S → Prop} (ht : 0 ≤ to ∧ to < 30) {R : Int → Prop} (hRc : ∀ c w, 0 ≤ c → c < 30 → 0 ≤ w → w < 4 → q_bes c w ≠ -1 → (op = 0 ∨ q_sht σ0 c w = 0) → R (q_bes c w) → R c) (hRt : R to) (hop : op = 0 ∨ op = 1) (hf : q_fr σ0 σ) (hK : ∀ σ', q_fr σ0 σ' → q_FX σ0 to op (σ' 140) → (∀ d, 0 ≤ d → d < 30 → σ' 140 d ≠ -1 → R d) → K none σ') : q_K L xs i_M_reckons [(2, 100), (0, to), (0, op)] σ K := by
  refine q_call k_M_reckons 8 rfl ?_
  show q_E L xs k_M_reckons (0, [(2, 100), (0, to), (0, op), (9, 0), (9, 0), (9, 0), (9, 0), (9, 0)], [], σ) K
  refine q_go1 120 0 [2] (fun cl ev hcl hev => ?_)
  exact hev _ (zr_reckons1 ht hRc hRt hop hK 31 0 σ (by omega) (by omega) (by omega) hf (fun d a b => by omega))
end W1a
/-- there are such ways -/
theorem y_ex {σ : q_S} {t : Int} (ht : 0 ≤ t ∧ t < 30) : ∃ F, q_FX σ t 0 F := by
  have h := c_M_reckons (L := 0) (xs := fun _ => 0) (to := t) (op := 0) (σ0 := σ) (σ := σ) (K := fun _ σ' => q_FX σ t 0 (σ' 140)) ht (Or.inl rfl) (fun _ _ _ => rfl) (fun σ' _ h => h)
  obtain ⟨m, hm, n, r, σ', h1, h2⟩ := h
  exact ⟨_, h2⟩
/-- the step is on a way -/
def y_tt (σ : q_S) (F : Int → Int) (c w : Int) : Prop := q_bes c w ≠ -1 ∧ F (q_bes c w) + q_cst σ c w = F c
/-- the first such step; and the walk up to a shut gate -/
noncomputable def y_fw (σ : q_S) (F : Int → Int) (c : Int) : Int := if q_bes c 0 ≠ -1 ∧ F (q_bes c 0) + q_cst σ c 0 = F c then 0 else if q_bes c 1 ≠ -1 ∧ F (q_bes c 1) + q_cst σ c 1 = F c then 1 else if q_bes c 2 ≠ -1 ∧ F (q_bes c 2) + q_cst σ c 2 = F c then 2 else 3
noncomputable def v_wk (σ : q_S) (F : Int → Int) : Nat → Int → Int × Int
  | 0, _ => (-1, -1)
  | k + 1, c => if q_sht σ c (y_fw σ F c) = 0 then v_wk σ F k (q_bes c (y_fw σ F c)) else (c, q_bes c (y_fw σ F c))
theorem y_fw_1 {σ : q_S} {F : Int → Int} {c w : Int} (hw : 0 ≤ w ∧ w < 4) (ht : y_tt σ F c w) (hn : ∀ v, 0 ≤ v → v < w → ¬ y_tt σ F c v) : y_fw σ F c = w := by
  unfold y_tt at ht hn
  have h4 : w = 0 ∨ w = 1 ∨ w = 2 ∨ w = 3 := by omega
  unfold y_fw
  rcases h4 with rfl | rfl | rfl | rfl
  · rw [if_pos ht]
  · rw [if_neg (hn 0 (by decide) (by decide)), if_pos ht]
  · rw [if_neg (hn 0 (by decide) (by decide)), if_neg (hn 1 (by decide) (by decide)), if_pos ht]
  · rw [if_neg (hn 0 (by decide) (by decide)), if_neg (hn 1 (by decide) (by decide)), if_neg (hn 2 (by decide) (by decide))]
theorem y_fw_ex {σ : q_S} {t : Int} {F : Int → Int} (hF : y_sol σ t F) {c : Int} (a : 0 ≤ c) (b : c < 30) (hc : c ≠ t) : ∃ v, 0 ≤ v ∧ v < 4 ∧ y_tt σ F c v := by
  obtain ⟨w, w0, w1, wb, wt⟩ := hF.2.2.2 c a b hc
  exact ⟨w, w0, w1, wb, wt.symm⟩
theorem y_fw_t {σ : q_S} {t : Int} {F : Int → Int} (hF : y_sol σ t F) {c : Int} (a : 0 ≤ c) (b : c < 30) (hc : c ≠ t) : 0 ≤ y_fw σ F c ∧ y_fw σ F c < 4 ∧ y_tt σ F c (y_fw σ F c) := by
  obtain ⟨v, v0, v1, vt⟩ := y_fw_ex hF a b hc
  by_cases t0 : y_tt σ F c 0
  · rw [y_fw_1 (w := 0) (by decide) t0 (fun v a b => by omega)]; exact ⟨by decide, by decide, t0⟩
  · by_cases t1 : y_tt σ F c 1
    · rw [y_fw_1 (w := 1) (by decide) t1 (fun v a b => by rw [show v = 0 by omega]; exact t0)]; exact ⟨by decide, by decide, t1⟩
    · by_cases t2 : y_tt σ F c 2
      · rw [y_fw_1 (w := 2) (by decide) t2 (fun v a b => by
          rcases (show v = 0 ∨ v = 1 by omega) with rfl | rfl
          · exact t0
          · exact t1)]
        exact ⟨by decide, by decide, t2⟩
      · by_cases t3 : y_tt σ F c 3
        · rw [y_fw_1 (w := 3) (by decide) t3 (fun v a b => by
            rcases (show v = 0 ∨ v = 1 ∨ v = 2 by omega) with rfl | rfl | rfl
            · exact t0
            · exact t1
            · exact t2)]
          exact ⟨by decide, by decide, t3⟩
        · exfalso
          rcases (show v = 0 ∨ v = 1 ∨ v = 2 ∨ v = 3 by omega) with rfl | rfl | rfl | rfl
          · exact t0 vt
          · exact t1 vt
          · exact t2 vt
          · exact t3 vt
section W2a
variable {L : Nat} {xs : Int → Int}
theorem zl_near {fr n op : Int} {P Q : Int → Int} {σ0 : q_S} {K : q_R → q_S → Prop} (hfr : 0 ≤ fr ∧ fr < 30) (hop : op = 0 ∨ op = 1) (hP : y_sol σ0 fr P) (hQ : ∀ c, Q c = if op = 0 then P c else (if P c < 100 then P c else -1)) (hK : ∀ σ', q_fr σ0 σ' → K (some (0, v_an (σ0 101) Q n 30)) σ') :
    ∀ (m c : Nat) (least : Int) (σ : q_S), (30 : Int) - c < m → (c : Int) ≤ 30 → q_fr σ0 σ → (v_an (σ0 101) Q n c ≠ -1 → least = Q (v_an (σ0 101) Q n c)) → q_E L xs k_M_nearest (6, [(2, 100), (0, fr), (0, n), (0, op), (0, v_an (σ0 101) Q n c), (0, least), (0, (c : Int))], [], σ) K := by
  intro m
  induction m with
  | zero => intro c; omega
  | succ m ih =>
    intro c least σ hm hc hf hl
    have e : q_w32 ((c : Int) + 1) = ((c + 1 : Nat) : Int) := by rw [q_w32_id] <;> omega
    have e101 : σ 101 c = σ0 101 c := hf 101 c (by decide)
    have ea : v_an (σ0 101) Q n (c + 1) = if n ≤ σ0 101 c ∧ Q c ≠ -1 ∧ (v_an (σ0 101) Q n c = -1 ∨ Q c < Q (v_an (σ0 101) Q n c)) then (c : Int) else v_an (σ0 101) Q n c := rfl
    -- the cell is not taken
    have no : ∀ σ', (c : Int) < 30 → q_fr σ0 σ' → ¬ (n ≤ σ0 101 c ∧ Q c ≠ -1 ∧ (v_an (σ0 101) Q n c = -1 ∨ Q c < Q (v_an (σ0 101) Q n c))) → q_E L xs k_M_nearest (6, [(2, 100), (0, fr), (0, n), (0, op), (0, v_an (σ0 101) Q n c), (0, least), (0, q_w32 ((c : Int) + 1))], [], σ') K := fun σ' hlt hf' g => by
      rw [if_neg g] at ea
      have i := ih (c + 1) least σ' (by omega) (by omega) hf' (fun z => by rw [ea] at z ⊢; exact hl z)
      rw [ea] at i
      rw [e]
      exact i
    refine q_go1 120 6 [6] (fun cl ev hcl hev => ?_)
    refine And.intro (fun g => ?_) (fun g => ?_)
    · rw [show c = 30 by omega]
      exact hK σ hf
    · refine And.intro (by omega) ?_
      refine And.intro (fun g2 => ?_) (fun g2 => ?_)
      · exact hev _ (no σ (by omega) hf (fun z => by omega))
      · obtain ⟨F, hF0⟩ := y_ex (σ := σ0) (t := (c : Int)) (by omega)
        have hF := sol_FX (by omega) hF0
        have esy := sol_sy (by omega) hfr hF hP
        show cl _ _ _ _
        refine hcl _ _ _ _ (zr_reckons (R := fun d => op = 1 → F d < 100) (by omega) (fun d w a b w0 w1 wb ho hr ho1 => ?_) (fun _ => by rw [hF.1]; decide) hop hf (fun σ1 hf1 hX hR => ?_))
        · have hr := hr ho1
          have hbi := q_bes_in (c := d) (w := w) ⟨a, b⟩
          have h1 := sol_m hF (c := q_bes d w) (by omega) (by omega)
          have h2 := hF.2.2.1 d w a b w0 w1 wb
          have h3 : q_cst σ0 d w = 1 := by unfold q_cst; rw [if_pos (by omega)]
          omega
        · have ev_ : σ1 140 fr = Q c := by
            rw [hQ]
            rcases hop with ho | ho
            · rw [if_pos ho]
              subst ho
              exact sol_sy (by omega) hfr (sol_FX (by omega) hX) hP
            · rw [if_neg (by omega)]
              subst ho
              rw [sol_op hF hX (fun d a b z => hR d a b z rfl) hfr.1 hfr.2, esy]
          refine And.intro (by omega) ?_
          refine And.intro (fun g3 => ?_) (fun g3 => ?_)
          · rw [ev_] at g3
            exact hev _ (no σ1 (by omega) hf1 (fun z => z.2.1 g3))
          · rw [ev_] at g3
            -- the cell is taken
            have yes : (v_an (σ0 101) Q n c = -1 ∨ Q c < Q (v_an (σ0 101) Q n c)) → q_E L xs k_M_nearest (6, [(2, 100), (0, fr), (0, n), (0, op), (0, (c : Int)), (0, σ1 140 fr), (0, q_w32 ((c : Int) + 1))], [], σ1) K := fun z => by
              rw [if_pos ⟨by omega, g3, z⟩] at ea
              have i := ih (c + 1) (σ1 140 fr) σ1 (by omega) (by omega) hf1 (fun _ => by rw [ea, ev_])
              rw [ea] at i
              rw [e]
              exact i
            refine And.intro (fun g4 => ?_) (fun g4 => ?_)
            · exact And.intro (by omega) (hev _ (yes (Or.inl g4)))
            · have hl := hl g4
              refine And.intro (by omega) ?_
              refine And.intro (fun g5 => ?_) (fun g5 => ?_)
              · exact hev _ (no σ1 (by omega) hf1 (fun z => by omega))
              · exact And.intro (by omega) (hev _ (yes (Or.inr (by omega))))
theorem z_near {fr n op : Int} {P Q : Int → Int} {σ0 σ : q_S} {K : q_R → q_S → Prop} (hfr : 0 ≤ fr ∧ fr < 30) (hop : op = 0 ∨ op = 1) (hf : q_fr σ0 σ) (hP : y_sol σ0 fr P) (hQ : ∀ c, Q c = if op = 0 then P c else (if P c < 100 then P c else -1)) (hK : ∀ σ', q_fr σ0 σ' → K (some (0, v_an (σ0 101) Q n 30)) σ') : q_K L xs i_M_nearest [(2, 100), (0, fr), (0, n), (0, op)] σ K := by
  refine q_call k_M_nearest 7 rfl ?_
  show q_E L xs k_M_nearest (0, [(2, 100), (0, fr), (0, n), (0, op), (9, 0), (9, 0), (9, 0)], [], σ) K
  refine q_go1 120 0 [6] (fun cl ev hcl hev => ?_)
  exact hev _ (zl_near hfr hop hP hQ hK 31 0 0 σ (by omega) (by omega) hf (fun z => absurd rfl z))
theorem zl_w2 {hd lv wh fr to at_ : Int} {σ0 σ : q_S} {F : Int → Int} {K : q_R → q_S → Prop} (hf : q_fr σ0 σ) (hF : y_sol σ0 to F) (hG : ∀ c, 0 ≤ c → c < 30 → σ 140 c = F c) (ha : 0 ≤ at_ ∧ at_ < 30)
    (hx : q_sht σ0 at_ (y_fw σ0 F at_) = 0 → ∀ w, q_E L xs k_M_way (69, [(2, 100), (0, hd), (0, lv), (0, wh), (0, fr), (0, to), (0, q_bes at_ (y_fw σ0 F at_)), (0, w)], [], σ) K)
    (hK : q_sht σ0 at_ (y_fw σ0 F at_) ≠ 0 → K (some (0, -100 - (if wh = 0 then at_ else q_bes at_ (y_fw σ0 F at_)))) σ) :
    ∀ (m : Nat) (w : Int), 4 - w < m → 0 ≤ w → w ≤ 4 → (∀ v, 0 ≤ v → v < w → ¬ y_tt σ0 F at_ v) → (∃ v, w ≤ v ∧ v < 4 ∧ y_tt σ0 F at_ v) → q_E L xs k_M_way (71, [(2, 100), (0, hd), (0, lv), (0, wh), (0, fr), (0, to), (0, at_), (0, w)], [], σ) K := by
  intro m
  induction m with
  | zero => intro w; omega
  | succ m ih =>
    intro w hm hw0 hw4 hn hex
    have hw : w < 4 := by obtain ⟨v, v0, v1, _⟩ := hex; omega
    have e : q_w32 (w + 1) = w + 1 := by rw [q_w32_id] <;> omega
    have hbs := q_bes_in (c := at_) (w := w) ha
    have hsh := q_sht_eq hf at_ w
    have ga := hG at_ ha.1 ha.2
    have fa := sol_m hF ha.1 ha.2
    have skip : ¬ y_tt σ0 F at_ w → q_E L xs k_M_way (71, [(2, 100), (0, hd), (0, lv), (0, wh), (0, fr), (0, to), (0, at_), (0, q_w32 (w + 1))], [], σ) K := fun z => by
      rw [e]
      refine ih (w + 1) (by omega) (by omega) (by omega) (fun v a b => ?_) ?_
      · by_cases ev : v = w
        · rw [ev]; exact z
        · exact hn v a (by omega)
      · obtain ⟨v, v0, v1, v2⟩ := hex
        refine ⟨v, ?_, v1, v2⟩
        by_cases ev : v = w
        · rw [ev] at v2; exact absurd v2 z
        · omega
    refine q_go1 200 71 [69, 71] (fun cl ev hcl hev => ?_)
    show cl _ _ _ _
    refine hcl _ _ _ _ (c_M_beside ha ?_)
    refine And.intro (fun g => ?_) (fun g => ?_)
    · exact hev _ (skip (fun z => z.1 g))
    · have gb := hG (q_bes at_ w) (by omega) (by omega)
      have fb := sol_m hF (c := q_bes at_ w) (by omega) (by omega)
      have e1 : q_w32 (σ 140 (q_bes at_ w) + 1) = σ 140 (q_bes at_ w) + 1 := by rw [q_w32_id] <;> omega
      have e2 : q_w32 (σ 140 (q_bes at_ w) + 101) = σ 140 (q_bes at_ w) + 101 := by rw [q_w32_id] <;> omega
      show cl _ _ _ _
      refine hcl _ _ _ _ (c_M_beside ha ?_)
      refine And.intro (by omega) ?_
      show cl _ _ _ _
      refine hcl _ _ _ _ (c_M_isOpen ha g (fun s => ?_) (fun s => ?_))
      · have cs : q_cst σ0 at_ w = 1 := by unfold q_cst; rw [if_pos (by omega)]
        refine And.intro (fun z => absurd z (show ¬ (1 : Int) = 0 by decide)) (fun _ => ?_)
        refine And.intro (by omega) ?_
        refine And.intro (fun t => ?_) (fun t => ?_)
        · have fw : y_fw σ0 F at_ = w := y_fw_1 ⟨hw0, hw⟩ ⟨g, by rw [cs]; omega⟩ hn
          rw [fw] at hx
          show cl _ _ _ _
          refine hcl _ _ _ _ (c_M_isOpen ha g (fun s2 => ?_) (fun s2 => absurd s s2))
          refine And.intro (fun _ => ?_) (fun z => absurd (show (1 : Int) ≠ 0 by decide) z)
          show cl _ _ _ _
          refine hcl _ _ _ _ (c_M_beside ha ?_)
          exact hev _ (hx (by omega) _)
        · exact hev _ (skip (fun z => by have := z.2; rw [cs] at this; omega))
      · have cs : q_cst σ0 at_ w = 101 := by unfold q_cst; rw [if_neg (by omega)]
        refine And.intro (fun _ => ?_) (fun z => absurd rfl z)
        refine And.intro (by omega) ?_
        refine And.intro (fun t => ?_) (fun t => ?_)
        · have fw : y_fw σ0 F at_ = w := y_fw_1 ⟨hw0, hw⟩ ⟨g, by rw [cs]; omega⟩ hn
          rw [fw] at hK
          have hK := hK (by omega)
          show cl _ _ _ _
          refine hcl _ _ _ _ (c_M_isOpen ha g (fun s2 => absurd s2 s) (fun s2 => ?_))
          refine And.intro (fun z => absurd rfl z) (fun _ => ?_)
          refine And.intro (fun z => ?_) (fun z => ?_)
          · rw [if_neg z] at hK
            show cl _ _ _ _
            refine hcl _ _ _ _ (c_M_beside ha ?_)
            show K (some (0, q_w32 (-100 - q_bes at_ w))) σ
            rw [q_w32_id (by omega) (by omega)]
            exact hK
          · rw [if_pos (Decidable.not_not.mp z)] at hK
            show K (some (0, q_w32 (-100 - at_))) σ
            rw [q_w32_id (by omega) (by omega)]
            exact hK
        · exact hev _ (skip (fun z => by have := z.2; rw [cs] at this; omega))
theorem zl_w1 {hd lv wh fr to : Int} {σ0 σ : q_S} {F : Int → Int} {K : q_R → q_S → Prop} (hf : q_fr σ0 σ) (hF : y_sol σ0 to F) (hG : ∀ c, 0 ≤ c → c < 30 → σ 140 c = F c) :
    ∀ (k : Nat) (at_ w : Int) (u : Nat), F at_ % 100 < k → 0 ≤ at_ → at_ < 30 → 100 ≤ F at_ → K (some (0, -100 - (if wh = 0 then (v_wk σ0 F k at_).1 else (v_wk σ0 F k at_).2))) σ → q_E L xs k_M_way (69, [(2, 100), (0, hd), (0, lv), (0, wh), (0, fr), (0, to), (0, at_), (u, w)], [], σ) K := by
  intro k
  induction k with
  | zero => intro at_ w u hm a b h1; omega
  | succ k ih =>
    intro at_ w u hm a b h1 hK
    have hne : at_ ≠ to := fun z => by rw [z, hF.1] at h1; omega
    obtain ⟨v, v0, v1, vt⟩ := y_fw_ex hF a b hne
    have ev_ : v_wk σ0 F (k + 1) at_ = if q_sht σ0 at_ (y_fw σ0 F at_) = 0 then v_wk σ0 F k (q_bes at_ (y_fw σ0 F at_)) else (at_, q_bes at_ (y_fw σ0 F at_)) := rfl
    rw [ev_] at hK
    have ft := y_fw_t hF a b hne
    obtain ⟨f0, f1, fb, fe⟩ := ft
    have hbs := q_bes_in (c := at_) (w := y_fw σ0 F at_) ⟨a, b⟩
    refine q_go1 60 69 [71] (fun cl ev hcl hev => ?_)
    refine hev _ (zl_w2 hf hF hG ⟨a, b⟩ (fun s w' => ?_) (fun s => ?_) 5 0 (by omega) (by omega) (by omega) (fun v a b => by omega) ⟨v, v0, v1, vt⟩)
    · rw [if_pos s] at hK
      have cs : q_cst σ0 at_ (y_fw σ0 F at_) = 1 := by unfold q_cst; rw [if_pos s]
      have m1 := sol_m hF a b
      have m2 := sol_m hF (c := q_bes at_ (y_fw σ0 F at_)) (by omega) (by omega)
      exact ih _ w' 0 (by omega) (by omega) (by omega) (by omega) hK
    · rw [if_neg s] at hK
      exact hK
theorem z_way {hd lv wh : Int} {P F : Int → Int} {σ0 : q_S} {K : q_R → q_S → Prop} (hb : 0 ≤ σ0 100 22 ∧ σ0 100 22 ≤ 6) (hi : (0 ≤ hd ∧ hd < σ0 100 22) → 0 ≤ σ0 120 hd ∧ σ0 120 hd < 30) (hP : (0 ≤ hd ∧ hd < σ0 100 22) → y_sol σ0 (σ0 120 hd) P) (hF : v_an (σ0 101) P lv 30 ≠ -1 → y_sol σ0 (v_an (σ0 101) P lv 30) F)
    (hN : ¬ ((0 ≤ hd ∧ hd < σ0 100 22) ∧ (0 ≤ wh ∧ wh ≤ 1)) → K (some (0, -1)) σ0)
    (h2 : ((0 ≤ hd ∧ hd < σ0 100 22) ∧ (0 ≤ wh ∧ wh ≤ 1)) → ¬ (0 ≤ lv ∧ lv ≤ 60) → K (some (0, -2)) σ0)
    (h3 : ((0 ≤ hd ∧ hd < σ0 100 22) ∧ (0 ≤ wh ∧ wh ≤ 1)) → (0 ≤ lv ∧ lv ≤ 60) → σ0 121 hd ≠ 0 → K (some (0, -3)) σ0)
    (h50 : ((0 ≤ hd ∧ hd < σ0 100 22) ∧ (0 ≤ wh ∧ wh ≤ 1)) → (0 ≤ lv ∧ lv ≤ 60) → σ0 121 hd = 0 → v_an (σ0 101) P lv 30 = -1 → ∀ σ', K (some (0, -50)) σ')
    (hO : ((0 ≤ hd ∧ hd < σ0 100 22) ∧ (0 ≤ wh ∧ wh ≤ 1)) → (0 ≤ lv ∧ lv ≤ 60) → σ0 121 hd = 0 → v_an (σ0 101) P lv 30 ≠ -1 → P (v_an (σ0 101) P lv 30) < 100 → ∀ σ', K (some (0, if wh = 0 then P (v_an (σ0 101) P lv 30) else v_an (σ0 101) P lv 30)) σ')
    (hS : ((0 ≤ hd ∧ hd < σ0 100 22) ∧ (0 ≤ wh ∧ wh ≤ 1)) → (0 ≤ lv ∧ lv ≤ 60) → σ0 121 hd = 0 → v_an (σ0 101) P lv 30 ≠ -1 → ¬ P (v_an (σ0 101) P lv 30) < 100 → ∀ σ', K (some (0, -100 - (if wh = 0 then (v_wk σ0 F 30 (σ0 120 hd)).1 else (v_wk σ0 F 30 (σ0 120 hd)).2))) σ') : q_K L xs i_M_way [(2, 100), (0, hd), (0, lv), (0, wh)] σ0 K := by
  have h0 : q_fr σ0 σ0 := fun _ _ _ => rfl
  have van := v_an_in (V := σ0 101) (Q := P) (n := lv) 30
  refine q_call k_M_way 8 rfl ?_
  show q_E L xs k_M_way (0, [(2, 100), (0, hd), (0, lv), (0, wh), (9, 0), (9, 0), (9, 0), (9, 0)], [], σ0) K
  refine q_go1 200 0 [11] (fun cl ev hcl hev => ?_)
  show cl _ _ _ _
  refine hcl _ _ _ _ (c_M_isHerd hb (fun g1 => ?_) (fun g1 => ?_))
  · refine And.intro (fun z => absurd z (show ¬ (1 : Int) = 0 by decide)) (fun _ => ?_)
    show cl _ _ _ _
    refine hcl _ _ _ _ (c_M_in (fun g2 => ?_) (fun g2 => ?_))
    · refine And.intro (fun _ => ?_) (fun z => absurd (show (1 : Int) ≠ 0 by decide) z)
      refine hev _ ?_
      have hi := hi g1
      have hP := hP g1
      have h2 := h2 ⟨g1, g2⟩
      have h3 := h3 ⟨g1, g2⟩
      have h50 := h50 ⟨g1, g2⟩
      have hO := hO ⟨g1, g2⟩
      have hS := hS ⟨g1, g2⟩
      have hPn : ∀ j : Int, 0 ≤ j → j < ((30 : Nat) : Int) → 0 ≤ P j := fun j a b => (sol_m hP a (by omega)).2.1
      have vop := v_an_op (V := σ0 101) (P := P) (n := lv) 30 hPn
      refine q_go1 200 11 [30] (fun cl ev hcl hev => ?_)
      show cl _ _ _ _
      refine hcl _ _ _ _ (c_M_in (fun g3 => ?_) (fun g3 => ?_))
      · refine And.intro (fun _ => ?_) (fun z => absurd (show (1 : Int) ≠ 0 by decide) z)
        refine And.intro (by omega) ?_
        refine And.intro (by omega) ?_
        refine And.intro (fun g4 => ?_) (fun g4 => h3 g3 g4)
        refine hev _ ?_
        refine q_go1 200 30 [69] (fun cl ev hcl hev => ?_)
        show cl _ _ _ _
        refine hcl _ _ _ _ (z_near (P := P) (Q := fun c => if P c < 100 then P c else -1) hi (Or.inr rfl) h0 hP (fun c => by first | rfl | rw [if_neg (show ¬ ((1 : Int) = 0) by decide)]) (fun σ1 f1 => ?_))
        rw [vop]
        by_cases go : v_an (σ0 101) P lv 30 ≠ -1 ∧ P (v_an (σ0 101) P lv 30) < 100
        · rw [if_pos go]
          have hO := hO g3 g4 go.1 go.2
          refine And.intro (fun z => absurd z go.1) (fun _ => ?_)
          obtain ⟨G, hG0⟩ := y_ex (σ := σ0) (t := v_an (σ0 101) P lv 30) (by omega)
          have hG := sol_FX (by omega) hG0
          have esy := sol_sy (by omega) hi hG hP
          show cl _ _ _ _
          refine hcl _ _ _ _ (zr_reckons (R := fun d => G d < 100) (op := 1) (by omega) (fun d w a b w0 w1 wb ho hr => ?_) (by rw [hG.1]; decide) (Or.inr rfl) f1 (fun σ2 f2 hX hR => ?_))
          · have hbi := q_bes_in (c := d) (w := w) ⟨a, b⟩
            have h1 := sol_m hG (c := q_bes d w) (by omega) (by omega)
            have h2 := hG.2.2.1 d w a b w0 w1 wb
            have h3 : q_cst σ0 d w = 1 := by unfold q_cst; rw [if_pos (by omega)]
            omega
          · have hO := hO σ2
            refine And.intro (fun z => ?_) (fun z => ?_)
            · rw [if_neg z] at hO
              exact hO
            · rw [if_pos (Decidable.not_not.mp z)] at hO
              refine And.intro (by omega) ?_
              show K (some (0, σ2 140 (σ0 120 hd))) σ2
              rw [sol_op hG hX hR hi.1 hi.2, esy, if_pos go.2]
              exact hO
        · rw [if_neg go]
          refine And.intro (fun _ => ?_) (fun z => absurd rfl z)
          show cl _ _ _ _
          refine hcl _ _ _ _ (z_near (P := P) (Q := P) hi (Or.inl rfl) f1 hP (fun c => by rw [if_pos rfl]) (fun σ2 f2 => ?_))
          refine And.intro (fun z => ?_) (fun z => h50 g3 g4 (Decidable.not_not.mp z) σ2)
          have hF := hF z
          have hS := hS g3 g4 z (fun y => go ⟨z, y⟩)
          have esy := sol_sy (by omega) hi hF hP
          have m1 := sol_m hF hi.1 hi.2
          show cl _ _ _ _
          refine hcl _ _ _ _ (c_M_reckons (op := 0) (by omega) (Or.inl rfl) f2 (fun σ3 f3 hX => ?_))
          refine hev _ (zl_w1 f3 hF (fun c a b => sol_un (sol_FX (by omega) hX) hF a b) 30 _ _ _ (by omega) hi.1 hi.2 ?_ (hS σ3))
          rw [esy]
          have : ¬ P (v_an (σ0 101) P lv 30) < 100 := fun y => go ⟨z, y⟩
          omega
      · exact And.intro (fun z => absurd rfl z) (fun _ => h2 g3)
    · exact And.intro (fun z => absurd rfl z) (fun _ => hN (fun z => g2 z.2))
  · exact And.intro (fun _ => hN (fun z => g1 z.1)) (fun z => absurd rfl z)
end W2a
