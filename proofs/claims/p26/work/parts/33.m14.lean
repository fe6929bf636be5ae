section P33
variable {L : Nat} {xs : Int → Int}
/-- a rod meets the sea; behind the overflow the state is s1 -/
theorem c_M_stands {r sea wind : Int} {σ0 σ : q_S} {K : q_R → q_S → Prop} (hB : q_TB σ0) (hr : 0 ≤ r ∧ r < 24) (hw : 0 ≤ wind ∧ wind ≤ 3) (hs : 0 ≤ sea ∧ sea ≤ 200) (h : q_TT σ0 σ) (hK : ∀ σ' b, (b = 0 ∨ b = 1) → q_TT σ0 σ' → K (some (0, b)) σ') : q_K L xs i_M_stands [(2, 100), (0, r), (0, sea), (0, wind)] σ K := by
  have hB3 := hB.2.2 r hr.1 hr.2
  have e112 : σ 112 r = σ0 112 r := q_TTe h (by unfold q_okT; omega)
  have tail : ∀ σ1, q_TT σ0 σ1 → q_E L xs k_M_stands (23, [(2, 100), (0, r), (0, sea), (0, wind), (9, 0), (9, 0)], [], σ1) K := by
    intro σ1 h1
    have hh := h1.2.1 r hr.1 hr.2
    have e20 : q_w32 (σ1 114 r + 20) = σ1 114 r + 20 := by rw [q_w32_id] <;> omega
    have ed2 : q_w32 ((σ1 114 r).tdiv 2) = σ1 114 r / 2 := by rw [q_td hh.1, q_w32_id] <;> omega
    have em2 : q_w32 (σ1 114 r * 2) = σ1 114 r * 2 := by rw [q_w32_id] <;> omega
    have ed3 : q_w32 ((q_w32 (σ1 114 r * 2)).tdiv 3) = σ1 114 r * 2 / 3 := by rw [em2, q_td (by omega), q_w32_id] <;> omega
    have fin : ∀ l b v1 v2 , (b = 0 ∨ b = 1) → 0 ≤ l → l ≤ 99 → K (some (0, b)) (q_up (q_up (q_up σ1 117 r v1) 114 r l) 116 r v2) := fun l b v1 v2 hb hl0 hl => hK _ b hb (q_TTs (q_TT_up (q_TTs h1 (by omega)) (by unfold q_okT; omega) (fun _ => ⟨hl0, hl⟩) (by omega)) (by omega))
    refine q_go1 120 23 [] (fun cl ev hcl hev => ?_)
    repeat' (first | refine And.intro ?_ ?_ | (intro hq; first | exact absurd hq (by decide) | exact absurd rfl hq | exact absurd hq (show ¬ (1 : Int) = 0 by decide) | exact absurd (show (1 : Int) ≠ 0 by decide) hq | skip) | refine hcl _ _ _ _ (c_M_wears hr hw hh ?_))
    all_goals first
      | omega
      | exact fin _ 1 _ _ (Or.inr rfl) (by omega) (by omega)
      | exact fin _ 0 _ _ (Or.inl rfl) (by omega) (by omega)
      | (refine fin _ 0 _ _ (Or.inl rfl) ?_ ?_ <;> unfold q_w32 <;> omega)
  refine q_call k_M_stands 6 rfl ?_
  show q_E L xs k_M_stands (0, [(2, 100), (0, r), (0, sea), (0, wind), (9, 0), (9, 0)], [], σ) K
  refine q_go1 120 0 [23] (fun cl ev hcl hev => ?_)
  repeat' (first | refine And.intro ?_ ?_ | (intro hq; first | exact absurd hq (by decide) | exact absurd rfl hq | exact absurd hq (show ¬ (1 : Int) = 0 by decide) | exact absurd (show (1 : Int) ≠ 0 by decide) hq | skip) | refine hcl _ _ _ _ (q_TTcomes (by omega) h (fun σ1 h1 => ?_)))
  all_goals first
    | omega
    | exact hev _ (tail _ h)
    | exact hev _ (tail _ (q_TTs (by assumption) (by omega)))
theorem c_M_opens {r sea : Int} {σ0 σ : q_S} {K : q_R → q_S → Prop} (hB : q_TB σ0) (hr : 0 ≤ r ∧ r < 24) (h : q_TT σ0 σ) (hK : ∀ σ', q_TT σ0 σ' → K none σ') : q_K L xs i_M_opens [(2, 100), (0, r), (0, sea)] σ K := by
  have hB3 := hB.2.2 r hr.1 hr.2
  have e112 : σ 112 r = σ0 112 r := q_TTe h (by unfold q_okT; omega)
  refine q_call k_M_opens 6 rfl ?_
  show q_E L xs k_M_opens (0, [(2, 100), (0, r), (0, sea), (9, 0), (9, 0), (9, 0)], [], σ) K
  refine q_go1 200 0 [] (fun cl ev hcl hev => ?_)
  repeat' (first | refine And.intro ?_ ?_ | (intro hq; first | exact absurd hq (by decide) | exact absurd rfl hq | exact absurd hq (show ¬ (1 : Int) = 0 by decide) | exact absurd (show (1 : Int) ≠ 0 by decide) hq | skip) | refine hcl _ _ _ _ (c_M_surface (by omega) ?_) | refine hcl _ _ _ _ (q_TTcomes (by omega) h (fun σ1 h1 => ?_)))
  all_goals first | omega | exact hK _ h | exact hK _ (by assumption) | exact hK _ (q_TTs (by assumption) (by omega)) | exact hK _ (q_TTs (q_TTs h (by omega)) (by omega))

theorem c_M_levels {a b : Int} {σ0 σ : q_S} {K : q_R → q_S → Prop} (ha : 0 ≤ a ∧ a < 30) (hb : 0 ≤ b ∧ b < 30) (h : q_TT σ0 σ) (hK : ∀ σ', q_TT σ0 σ' → K none σ') : q_K L xs i_M_levels [(2, 100), (0, a), (0, b)] σ K := by
  refine q_call k_M_levels 7 rfl ?_
  show q_E L xs k_M_levels (0, [(2, 100), (0, a), (0, b), (9, 0), (9, 0), (9, 0), (9, 0)], [], σ) K
  refine q_go1 200 0 [] (fun cl ev hcl hev => ?_)
  repeat' (first | refine And.intro ?_ ?_ | (intro hq; first | exact absurd hq (by decide) | exact absurd rfl hq | exact absurd hq (show ¬ (1 : Int) = 0 by decide) | exact absurd (show (1 : Int) ≠ 0 by decide) hq | skip))
  all_goals first | omega | exact hK _ (q_TTs (q_TTs h (by omega)) (by omega))

theorem l_M_flees {i a : Int} {σ0 σ : q_S} {K : q_R → q_S → Prop} (hi : 0 ≤ i ∧ i < 6) (ha : 0 ≤ a ∧ a < 30) (h : q_TT σ0 σ) (hK : ∀ σ', q_TT σ0 σ' → K none σ') :
    ∀ (m : Nat) (b w x5 : Int) (u5 : Nat), 4 - w < m → 0 ≤ w → w ≤ 4 → -1 ≤ b → b < 30 → q_E L xs k_M_flees (21, [(2, 100), (0, i), (0, a), (0, b), (0, w), (u5, x5)], [], σ) K := by
  intro m
  induction m with
  | zero => intro b w; omega
  | succ m ih =>
    intro b w x5 u5 hm hw hw2 hb0 hb
    have e : q_w32 (w + 1) = w + 1 := by rw [q_w32_id] <;> omega
    have hbs := q_bes_in (c := a) (w := w) ha
    have hu : ∀ {v : Int}, (0 ≤ v ∧ v < 30) → q_TT σ0 (q_up σ 120 i v) := fun hv => q_TT_up h (by unfold q_okT; omega) (by omega) (fun _ => hv)
    refine q_go1 120 21 [21] (fun cl ev hcl hev => ?_)
    repeat' (first | refine And.intro ?_ ?_ | (intro hq; first | exact absurd hq (by decide) | exact absurd rfl hq | exact absurd hq (show ¬ (1 : Int) = 0 by decide) | exact absurd (show (1 : Int) ≠ 0 by decide) hq | skip) | refine hcl _ _ _ _ (c_M_beside ha ?_) | refine hcl _ _ _ _ (c_M_isOpen ha (by omega) ?_ ?_))
    all_goals first
      | omega
      | (rw [q_ue]; omega)
      | exact hK _ (q_TTs (hu (by omega)) (by omega))
      | (refine hev _ ?_; rw [e]; exact ih _ (w + 1) _ _ (by omega) (by omega) (by omega) (by omega) (by omega))
theorem c_M_flees {i : Int} {σ0 σ : q_S} {K : q_R → q_S → Prop} (hi : 0 ≤ i ∧ i < 6) (h : q_TT σ0 σ) (hK : ∀ σ', q_TT σ0 σ' → K none σ') : q_K L xs i_M_flees [(2, 100), (0, i)] σ K := by
  have ha := h.2.2 i hi.1 hi.2
  refine q_call k_M_flees 6 rfl ?_
  show q_E L xs k_M_flees (0, [(2, 100), (0, i), (9, 0), (9, 0), (9, 0), (9, 0)], [], σ) K
  refine q_go1 120 0 [21] (fun cl ev hcl hev => ?_)
  repeat' (first | refine And.intro ?_ ?_ | (intro hq; first | exact absurd hq (by decide) | exact absurd rfl hq | exact absurd hq (show ¬ (1 : Int) = 0 by decide) | exact absurd (show (1 : Int) ≠ 0 by decide) hq | skip))
  all_goals first
    | omega
    | exact hK _ h
    | exact hK _ (q_TTs h (by omega))
    | exact hev _ (l_M_flees hi ha h hK 20 (-1) 0 0 9 (by omega) (by omega) (by omega) (by omega) (by omega))

end P33
