/-- the height that a custom asks for -/
def v_H (σ : q_S) (c : Int) : Int := if c = -1 then 0 else σ 124 c
section Z3
variable {L : Nat} {xs : Int → Int}
theorem z_hOf {c : Int} {σ : q_S} {K : q_R → q_S → Prop} (hc : -1 ≤ c ∧ c < 12) (hK : K (some (0, v_H σ c)) σ) : q_K L xs i_M_hOf [(2, 100), (0, c)] σ K := by
  unfold v_H at hK
  refine c_M_hOf hc (fun g => ?_) (fun g => ?_)
  · rw [if_pos g] at hK; exact hK
  · rw [if_neg (by omega)] at hK; exact hK
theorem z_view {r w : Int} {σ : q_S} {K : q_R → q_S → Prop} (hb : 0 ≤ σ 100 13 ∧ σ 100 13 ≤ 24) (hC0 : 0 ≤ σ 100 31 ∧ σ 100 31 ≤ 12) (h119 : ∀ i, 0 ≤ i → i < σ 100 13 → -1 ≤ σ 119 i ∧ σ 119 i < 60) (h42 : 0 ≤ σ 100 42 ∧ σ 100 42 ≤ 60) (h114 : ∀ i, 0 ≤ i → i < 24 → 0 ≤ σ 114 i ∧ σ 114 i ≤ 99) (h124 : ∀ c, 0 ≤ c → c < 12 → 0 ≤ σ 124 c ∧ σ 124 c ≤ 99)
    (hw : (0 ≤ r ∧ r < σ 100 13) → ∀ K' : q_R → q_S → Prop, (∀ σ', q_fd (q_up (m_en σ r (σ 100 25)) 118 r (σ 100 25)) σ' → K' (some (0, w)) σ') → q_K L xs i_M_menderOf [(2, 100), (0, r), (0, σ 100 25), (0, σ 100 31), (0, σ 100 7)] (q_up (m_en σ r (σ 100 25)) 118 r (σ 100 25)) K')
    (hN : ¬ (0 ≤ r ∧ r < σ 100 13) → K (some (0, -1)) σ)
    (h4 : (0 ≤ r ∧ r < σ 100 13) → σ 114 r < (v_H σ (q_cof σ (σ 100 25) (σ 100 31).toNat)) → σ 100 42 = 60 → K (some (0, -4)) σ)
    (h0 : (0 ≤ r ∧ r < σ 100 13) → (v_H σ (q_cof σ (σ 100 25) (σ 100 31).toNat)) ≤ σ 114 r → K (some (0, 0)) (q_up (m_en σ r (σ 100 25)) 118 r (σ 100 25)))
    (h1 : (0 ≤ r ∧ r < σ 100 13) → σ 114 r < (v_H σ (q_cof σ (σ 100 25) (σ 100 31).toNat)) → σ 100 42 < 60 → ∀ σ', q_fd (q_up (m_en σ r (σ 100 25)) 118 r (σ 100 25)) σ' → K (some (0, (v_H σ (q_cof σ (σ 100 25) (σ 100 31).toNat)) - σ 114 r)) (m_be σ' r w (σ 100 25) ((v_H σ (q_cof σ (σ 100 25) (σ 100 31).toNat)) - σ 114 r) (v_H σ (q_cof σ (σ 100 25) (σ 100 31).toNat)) (σ 125 (q_cof σ (σ 100 25) (σ 100 31).toNat)))) : q_K L xs i_M_view [(2, 100), (0, r)] σ K := by
  have hin := q_cof_in (σ := σ) (d := σ 100 25) (σ 100 31).toNat
  have en : m_en σ r (σ 100 25) 100 25 = σ 100 25 := men_0 (by decide) (by decide)
  have s25 : (q_up (m_en σ r (σ 100 25)) 118 r (σ 100 25)) 100 25 = σ 100 25 := (q_un (by decide)).trans en
  have s31 : (q_up (m_en σ r (σ 100 25)) 118 r (σ 100 25)) 100 31 = σ 100 31 := (q_un (by decide)).trans (men_0 (by decide) (by decide))
  have s7 : (q_up (m_en σ r (σ 100 25)) 118 r (σ 100 25)) 100 7 = σ 100 7 := (q_un (by decide)).trans (men_0 (by decide) (by decide))
  have s42 : (q_up (m_en σ r (σ 100 25)) 118 r (σ 100 25)) 100 42 = σ 100 42 := (q_un (by decide)).trans (men_0 (by decide) (by decide))
  have s124 : (q_up (m_en σ r (σ 100 25)) 118 r (σ 100 25)) 124 (q_cof σ (σ 100 25) (σ 100 31).toNat) = σ 124 (q_cof σ (σ 100 25) (σ 100 31).toNat) := (q_un (by decide)).trans (men_0 (by decide) (by decide))
  have s125 : (q_up (m_en σ r (σ 100 25)) 118 r (σ 100 25)) 125 (q_cof σ (σ 100 25) (σ 100 31).toNat) = σ 125 (q_cof σ (σ 100 25) (σ 100 31).toNat) := (q_un (by decide)).trans (men_0 (by decide) (by decide))
  have hHb : 0 ≤ (v_H σ (q_cof σ (σ 100 25) (σ 100 31).toNat)) ∧ (v_H σ (q_cof σ (σ 100 25) (σ 100 31).toNat)) ≤ 99 ∧ ((q_cof σ (σ 100 25) (σ 100 31).toNat) ≠ -1 → (v_H σ (q_cof σ (σ 100 25) (σ 100 31).toNat)) = σ 124 (q_cof σ (σ 100 25) (σ 100 31).toNat)) ∧ ((q_cof σ (σ 100 25) (σ 100 31).toNat) = -1 → (v_H σ (q_cof σ (σ 100 25) (σ 100 31).toNat)) = 0) := by
    unfold v_H
    by_cases z : (q_cof σ (σ 100 25) (σ 100 31).toNat) = -1
    · rw [if_pos z]; exact ⟨by decide, by decide, fun g => absurd z g, fun _ => rfl⟩
    · rw [if_neg z]
      have := h124 (q_cof σ (σ 100 25) (σ 100 31).toNat) (by omega) (by omega)
      exact ⟨this.1, this.2, fun _ => rfl, fun g => absurd g z⟩
  refine q_call k_M_view 4 rfl ?_
  show q_E L xs k_M_view (0, [(2, 100), (0, r), (9, 0), (9, 0)], [], σ) K
  refine q_go1 200 0 [22] (fun cl ev hcl hev => ?_)
  show cl _ _ _ _
  refine hcl _ _ _ _ (c_M_isRod hb (fun gr => ?_) (fun gr => ?_))
  · refine And.intro (fun _ => ?_) (fun z => absurd (show (1 : Int) ≠ 0 by decide) z)
    have h119 := h119 r gr.1 gr.2
    have h114 := h114 r gr.1 (by omega)
    have hw := hw gr
    have h4 := h4 gr
    have h0 := h0 gr
    have h1 := h1 gr
    have e : q_w32 ((v_H σ (q_cof σ (σ 100 25) (σ 100 31).toNat)) - σ 114 r) = (v_H σ (q_cof σ (σ 100 25) (σ 100 31).toNat)) - σ 114 r := by rw [q_w32_id] <;> omega
    show cl _ _ _ _
    refine hcl _ _ _ _ (c_M_customOf hC0 ?_)
    show cl _ _ _ _
    refine hcl _ _ _ _ (z_hOf (by omega) ?_)
    refine And.intro (by omega) ?_
    refine hev _ ?_
    rw [e]
    by_cases g : (v_H σ (q_cof σ (σ 100 25) (σ 100 31).toNat)) ≤ σ 114 r
    · refine q_go1 200 22 [33] (fun cl ev hcl hev => ?_)
      refine And.intro (fun _ => ?_) (fun z => by exfalso; omega)
      show cl _ _ _ _
      refine hcl _ _ _ _ (z_fend (by omega) h119 ?_)
      refine hev _ ?_
      refine q_go1 200 33 [39] (fun cl ev hcl hev => ?_)
      refine And.intro (by omega) ?_
      refine hev _ ?_
      rw [en]
      refine q_go1 200 39 [] (fun cl ev hcl hev => ?_)
      exact And.intro (fun z => by exfalso; omega) (fun _ => h0 g)
    · have cn : (q_cof σ (σ 100 25) (σ 100 31).toNat) ≠ -1 := fun z => by have := hHb.2.2.2 z; omega
      have hH1 := hHb.2.2.1 cn
      refine q_go1 200 22 [33] (fun cl ev hcl hev => ?_)
      refine And.intro (fun z => by exfalso; omega) (fun _ => ?_)
      refine And.intro (fun g2 => ?_) (fun g2 => h4 (by omega) (Decidable.not_not.mp g2))
      show cl _ _ _ _
      refine hcl _ _ _ _ (z_fend (by omega) h119 ?_)
      refine hev _ ?_
      refine q_go1 200 33 [39] (fun cl ev hcl hev => ?_)
      refine And.intro (by omega) ?_
      refine hev _ ?_
      rw [en]
      refine q_go1 200 39 [57] (fun cl ev hcl hev => ?_)
      refine And.intro (fun _ => ?_) (fun z => by exfalso; omega)
      show cl _ _ _ _
      rw [s25, s31, s7, s42]
      refine hcl _ _ _ _ (hw _ (fun σ' f => ?_))
      have f42 : σ' 100 42 = σ 100 42 := (f 100 42 (by decide) (by decide)).trans s42
      have f25 : σ' 100 25 = σ 100 25 := (f 100 25 (by decide) (by decide)).trans s25
      have f124 : σ' 124 (q_cof σ (σ 100 25) (σ 100 31).toNat) = (v_H σ (q_cof σ (σ 100 25) (σ 100 31).toNat)) := (f 124 _ (by decide) (by decide)).trans (s124.trans hH1.symm)
      have f125 : σ' 125 (q_cof σ (σ 100 25) (σ 100 31).toNat) = σ 125 (q_cof σ (σ 100 25) (σ 100 31).toNat) := (f 125 _ (by decide) (by decide)).trans s125
      have ew : q_w32 (σ 100 42 + 1) = σ 100 42 + 1 := by rw [q_w32_id] <;> omega
      have hK := h1 (by omega) (by omega) σ' f
      unfold m_be at hK
      rw [f42] at hK
      generalize (v_H σ (q_cof σ (σ 100 25) (σ 100 31).toNat)) = hh at *
      generalize (q_cof σ (σ 100 25) (σ 100 31).toNat) = cc at *
      refine And.intro (by omega) ?_
      refine hev _ ?_
      refine q_go1 200 57 [] (fun cl ev hcl hev => ?_)
      refine And.intro (by simp (disch := decide) only [q_un]; omega) ?_
      refine And.intro (by simp (disch := decide) only [q_un]; omega) ?_
      refine And.intro (by simp (disch := decide) only [q_un]; omega) ?_
      refine And.intro (by omega) ?_
      refine And.intro (by simp (disch := decide) only [q_un]; omega) ?_
      refine And.intro (by omega) ?_
      refine And.intro (by simp (disch := decide) only [q_un]; omega) ?_
      refine And.intro (by omega) ?_
      refine q_ks hK ?_
      simp (disch := decide) only [q_un, f42, f25, f124, f125, ew]
  · exact And.intro (fun z => absurd rfl z) (fun _ => hN gr)

theorem x_now {σ : q_S} {K : q_R → q_S → Prop} (rc : y_RC σ) (hK : K (some (2, v_cu σ (q_cof σ (σ 0 10) (σ 34 2).toNat))) σ) : q_K L xs i_A_customNow [(2, 0)] σ K := by
  have r6 := rc.2.1.2
  refine q_call k_A_customNow 1 rfl ?_
  show q_E L xs k_A_customNow (0, [(2, 0)], [], σ) K
  refine q_go1 60 0 [] (fun cl ev hcl hev => ?_)
  show cl _ _ _ _
  refine hcl _ _ _ _ (x_inF r6 (by omega) (fun j h0 h1 => (rc.2.2.1 j h0 h1).1) ?_)
  show cl _ _ _ _
  refine hcl _ _ _ _ (x_cuO r6 ?_)
  exact hK
/-- the cells of the custom in force: height, fine, views -/
theorem v_cu_H {σ : q_S} {c : Int} (rc : y_RC σ) (hc : -1 ≤ c ∧ c < σ 34 2) : σ (v_cu σ c) 1 = v_H σ c ∧ (c ≠ -1 → σ (v_cu σ c) 2 = σ 125 c) ∧ σ (v_cu σ c) 3 = (if c = -1 then 99 else σ 126 c) ∧ (0 ≤ σ (v_cu σ c) 2 ∧ σ (v_cu σ c) 2 ≤ 999) := by
  unfold v_cu v_H
  obtain ⟨z1, z2, z3, z4, z8⟩ := rc.2.2.2.2
  by_cases z : c = -1
  · rw [if_neg (by omega), if_pos z, if_pos z]
    exact ⟨z1, fun g => absurd z g, z3, by omega⟩
  · rw [if_pos (by omega), if_neg z, if_neg z]
    obtain ⟨m, ⟨⟨c1, c2, c3, c4, c5⟩, cr⟩, f, m10⟩ := rc.2.2.1 c (by omega) (by omega)
    exact ⟨c1.symm, fun _ => c2.symm, c3.symm, f⟩
theorem x_view {r w : Int} {σ : q_S} {K : q_R → q_S → Prop} (ok : ∀ k i, q_ok k i (σ k i)) (rc : y_RC σ)
    (hw : (0 ≤ r ∧ r < σ 17 9) → ∀ K' : q_R → q_S → Prop, (∀ σ', (∀ k i, k ≠ 14 → k ≠ 15 → k ≠ 16 → σ' k i = (q_up (v_en σ r (σ 0 10)) 24 r (σ 0 10)) k i) → K' (some (0, w)) σ') → q_K L xs i_A_whoMends [(2, 0), (0, r), (0, σ 0 10), (0, σ 34 2), (0, σ 7 5)] (q_up (v_en σ r (σ 0 10)) 24 r (σ 0 10)) K')
    (hN : ¬ (0 ≤ r ∧ r < σ 17 9) → K (some (0, -1)) σ)
    (h4 : (0 ≤ r ∧ r < σ 17 9) → σ 20 r < (v_H σ (q_cof σ (σ 0 10) (σ 34 2).toNat)) → 60 ≤ σ 88 7 → K (some (0, -4)) σ)
    (h0 : (0 ≤ r ∧ r < σ 17 9) → (v_H σ (q_cof σ (σ 0 10) (σ 34 2).toNat)) ≤ σ 20 r → K (some (0, 0)) (q_up (v_en σ r (σ 0 10)) 24 r (σ 0 10)))
    (h1 : (0 ≤ r ∧ r < σ 17 9) → σ 20 r < (v_H σ (q_cof σ (σ 0 10) (σ 34 2).toNat)) → σ 88 7 < 60 → ∀ f σ', (0 ≤ f ∧ f ≤ 999) → ((q_cof σ (σ 0 10) (σ 34 2).toNat) ≠ -1 → f = σ 125 (q_cof σ (σ 0 10) (σ 34 2).toNat)) → (∀ k i, k ≠ 14 → k ≠ 15 → k ≠ 16 → σ' k i = (q_up (v_en σ r (σ 0 10)) 24 r (σ 0 10)) k i) → K (some (0, (v_H σ (q_cof σ (σ 0 10) (σ 34 2).toNat)) - σ 20 r)) (v_be σ' r w (σ 0 10) ((v_H σ (q_cof σ (σ 0 10) (σ 34 2).toNat)) - σ 20 r) f (v_H σ (q_cof σ (σ 0 10) (σ 34 2).toNat)))) : q_K L xs i_A_view [(2, 0), (0, r)] σ K := by
  have hb : 0 ≤ σ 17 9 ∧ σ 17 9 ≤ 24 := by have := ok 17 9; unfold q_ok at this; omega
  have hsz : 0 ≤ σ 88 7 ∧ σ 88 7 ≤ 60 := by have := ok 88 7; unfold q_ok at this; omega
  have ho : -1 ≤ σ 95 r ∧ σ 95 r < 60 := by have := ok 95 r; unfold q_ok at this; omega
  have h20 : 0 ≤ σ 20 r ∧ σ 20 r ≤ 99 := by have := ok 20 r; unfold q_ok at this; omega
  have hin := q_cof_in (σ := σ) (d := σ 0 10) (σ 34 2).toNat
  have r6 := rc.2.1.2
  have hc := v_cu_H rc (c := (q_cof σ (σ 0 10) (σ 34 2).toNat)) (by omega)
  have hcu : q_cu (v_cu σ (q_cof σ (σ 0 10) (σ 34 2).toNat)) := v_cu_q r6.2
  refine q_call k_A_view 5 rfl ?_
  show q_E L xs k_A_view (0, [(2, 0), (0, r), (9, 0), (9, 0), (9, 0)], [], σ) K
  refine q_go1 200 0 [9] (fun cl ev hcl hev => ?_)
  show cl _ _ _ _
  refine hcl _ _ _ _ (c_A_isRod hb (fun gr => ?_) (fun gr => ?_))
  · refine And.intro (fun _ => ?_) (fun z => absurd (show (1 : Int) ≠ 0 by decide) z)
    have hw := hw gr
    have h4 := h4 gr
    have h0 := h0 gr
    have h1 := h1 gr
    show cl _ _ _ _
    refine hcl _ _ _ _ (x_now rc ?_)
    refine hev _ ?_
    have h1' := h1
    generalize v_cu σ (q_cof σ (σ 0 10) (σ 34 2).toNat) = q at hc hcu ⊢
    rw [← hc.1] at h4 h0 h1
    have hq1 : -1 ≤ σ q 1 ∧ σ q 1 ≤ 99 := by have := ok q 1; have := q_cu_in hcu; unfold q_ok at *; omega
    have k1 : σ 20 r < σ q 1 → σ 88 7 < 60 → ∀ σ', (∀ k i, k ≠ 14 → k ≠ 15 → k ≠ 16 → σ' k i = (q_up (v_en σ r (σ 0 10)) 24 r (σ 0 10)) k i) → K (some (0, σ q 1 - σ 20 r)) (v_be σ' r w (σ 0 10) (σ q 1 - σ 20 r) (σ q 2) (σ q 1)) := fun g g2 σ' f => h1 g g2 (σ q 2) σ' hc.2.2.2 hc.2.1 f
    clear h1 h1' hc hin
    unfold q_cu at hcu
    rcases hcu with rfl | rfl | rfl | rfl | rfl | rfl | rfl | rfl | rfl | rfl | rfl | rfl | rfl
    · exact xv_36 (by omega) ho h20 hq1 hsz hw h4 h0 k1
    · exact xv_40 (by omega) ho h20 hq1 hsz hw h4 h0 k1
    · exact xv_44 (by omega) ho h20 hq1 hsz hw h4 h0 k1
    · exact xv_48 (by omega) ho h20 hq1 hsz hw h4 h0 k1
    · exact xv_52 (by omega) ho h20 hq1 hsz hw h4 h0 k1
    · exact xv_56 (by omega) ho h20 hq1 hsz hw h4 h0 k1
    · exact xv_60 (by omega) ho h20 hq1 hsz hw h4 h0 k1
    · exact xv_64 (by omega) ho h20 hq1 hsz hw h4 h0 k1
    · exact xv_68 (by omega) ho h20 hq1 hsz hw h4 h0 k1
    · exact xv_72 (by omega) ho h20 hq1 hsz hw h4 h0 k1
    · exact xv_76 (by omega) ho h20 hq1 hsz hw h4 h0 k1
    · exact xv_80 (by omega) ho h20 hq1 hsz hw h4 h0 k1
    · exact xv_84 (by omega) ho h20 hq1 hsz hw h4 h0 k1
  · exact And.intro (fun z => absurd rfl z) (fun _ => hN gr)
end Z3
/-- the faults are alike -/
def y_RF (σ : q_S) : Prop := y_F σ σ
def d_RF (k i : Int) : Prop := (k = 88 ∧ i = 7) ∨ (89 ≤ k ∧ k ≤ 95) ∨ k = 24 ∨ (k = 17 ∧ i = 9) ∨ (k = 100 ∧ i = 42) ∨ (133 ≤ k ∧ k ≤ 138) ∨ k = 118 ∨ k = 119
theorem RFc {σ σ' : q_S} (h : ∀ k i, d_RF k i → σ' k i = σ k i) (r : y_RF σ) : y_RF σ' := F_c r (fun k i hk => h k i (by unfold d_RF; omega)) (fun k i hk => h k i (by unfold d_RF; omega))
section Z4a
variable {σ σ1 : q_S} {r d : Int}
theorem men_c (h : ∀ k i, 100 ≤ k → σ1 k i = σ k i) {k i : Int} (hk : 100 ≤ k) : m_en σ1 r d k i = m_en σ r d k i := by
  unfold m_en
  rw [h 119 r (by decide)]
  split
  · exact h k i hk
  · unfold q_up
    split
    · split
      · rfl
      · rw [if_neg (by omega), if_neg (by omega)]; exact h k i hk
    · split
      · split
        · rfl
        · exact h k i hk
      · exact h k i hk
theorem en_lo (k i : Int) (hk : 100 ≤ k) : v_en σ r d k i = σ k i := en_0 (by omega) (by omega)
theorem ok_en (ok : ∀ k i, q_ok k i (σ k i)) : ∀ k i, q_ok k i (q_up (v_en σ r d) 24 r d k i) := fun k i => by
  by_cases h24 : k = 24
  · subst h24; unfold q_ok; omega
  · rw [q_un h24]
    by_cases h91 : k = 91
    · subst h91; unfold q_ok; omega
    · by_cases h95 : k = 95
      · subst h95
        unfold v_en
        split
        · exact ok 95 i
        · by_cases e : i = r
          · rw [e, q_ue]; unfold q_ok; omega
          · rw [q_ui e, q_un (by decide)]; exact ok 95 i
      · rw [en_0 h95 h91]; exact ok k i
end Z4a
section Z4
variable {L : Nat} {xs : Int → Int}

theorem rf_19 {a i : Int} {σ : q_S} (h : q_IN σ) (sc : q_SC σ) (rt : y_RT i σ) (rc : y_RC σ) (r : y_RF σ) : q_P2 L xs i_A_view [(2, 0), (0, a)] i_M_view [(2, 100), (0, a)] σ (fun x y σ2 => y_RF σ2 ∧ x = y) := by
  have hI : q_IS σ := h.2.1.2.2.2.1
  have hC : q_IC σ := h.2.1.2.2.2.2.1
  have hI7 := hI.1
  have e5 := sc.1
  have e31 := rc.2.1.1
  have e13 := Ms13 rt.2.1
  have e25 := Ms25 rt.2.1
  have e114 := M114 rt.2.1 a
  have hb := h.2.1.1
  have r6 := rc.2.1.2
  have h42 := r.2.1
  have e42 := r.1
  have hday := rt.2.2
  -- the state between: the fault ended, the view noted
  obtain ⟨s, hs⟩ : ∃ s, s = q_up (v_en σ a (σ 0 10)) 24 a (σ 0 10) := ⟨_, rfl⟩
  have sf : ∀ k j, k ≠ 91 → k ≠ 95 → k ≠ 24 → s k j = σ k j := fun k j h1 h2 h3 => by rw [hs, q_un h3, en_0 h2 h1]
  have sok : ∀ k j, q_ok k j (s k j) := by rw [hs]; exact ok_en h.1
  have src : y_RC s := RCc (fun k j hk => sf k j (by unfold d_RC at hk; omega) (by unfold d_RC at hk; omega) (by unfold d_RC at hk; omega)) rc
  have ssc : q_SC s := q_SCc (fun k j hk => sf k j (by unfold d_SC at hk; omega) (by unfold d_SC at hk; omega) (by unfold d_SC at hk; omega)) sc
  have sIS : q_IS s := q_IS_c (fun k j hk => sf k j (by omega) (by omega) (by omega)) (sf 100 7 (by decide) (by decide) (by decide)) hI
  have sIC : q_IC s := q_IC_c (fun k j hk => sf k j (by omega) (by omega) (by omega)) (sf 100 31 (by decide) (by decide) (by decide)) hC
  have s112 : s 18 a = s 112 a := by rw [sf 18 a (by decide) (by decide) (by decide), sf 112 a (by decide) (by decide) (by decide)]; exact (M112 rt.2.1 a).symm
  have s34 : s 34 2 = σ 34 2 := sf 34 2 (by decide) (by decide) (by decide)
  have s75 : s 7 5 = σ 7 5 := sf 7 5 (by decide) (by decide) (by decide)
  obtain ⟨w, hw⟩ : ∃ w, w = w_who σ (σ 112 a) a (σ 0 10) (σ 34 2).toNat (σ 7 5).toNat := ⟨_, rfl⟩
  have ew : w_who s (s 112 a) a (σ 0 10) (σ 34 2).toNat (σ 7 5).toNat = w := by rw [sf 112 a (by decide) (by decide) (by decide), w_who_c (fun k j hk => sf k j (by omega) (by omega) (by omega)), hw]
  have hH1 : v_H σ (q_cof σ (σ 100 25) (σ 100 31).toNat) = v_H σ (q_cof σ (σ 0 10) (σ 34 2).toNat) := by rw [e25, e31]
  -- what the other side does from a state that has the model's cells as before
  have mod : ∀ σ1 : q_S, (∀ k j, 100 ≤ k → σ1 k j = σ k j) → ∀ K : q_R → q_S → Prop,
      (¬ (0 ≤ a ∧ a < σ 17 9) → K (some (0, -1)) σ1) →
      ((0 ≤ a ∧ a < σ 17 9) → σ 20 a < v_H σ (q_cof σ (σ 0 10) (σ 34 2).toNat) → σ 88 7 = 60 → K (some (0, -4)) σ1) →
      ((0 ≤ a ∧ a < σ 17 9) → v_H σ (q_cof σ (σ 0 10) (σ 34 2).toNat) ≤ σ 20 a → K (some (0, 0)) (q_up (m_en σ1 a (σ 0 10)) 118 a (σ 0 10))) →
      ((0 ≤ a ∧ a < σ 17 9) → σ 20 a < v_H σ (q_cof σ (σ 0 10) (σ 34 2).toNat) → σ 88 7 < 60 → ∀ σ', q_fd (q_up (m_en σ1 a (σ 0 10)) 118 a (σ 0 10)) σ' → K (some (0, v_H σ (q_cof σ (σ 0 10) (σ 34 2).toNat) - σ 20 a)) (m_be σ' a w (σ 0 10) (v_H σ (q_cof σ (σ 0 10) (σ 34 2).toNat) - σ 20 a) (v_H σ (q_cof σ (σ 0 10) (σ 34 2).toNat)) (σ 125 (q_cof σ (σ 0 10) (σ 34 2).toNat)))) →
      q_K L xs i_M_view [(2, 100), (0, a)] σ1 K := fun σ1 f K kN k4 k0 k1 => by
    have g25 := (f 100 25 (by decide)).trans e25
    have g31 := (f 100 31 (by decide)).trans e31
    have g7 := (f 100 7 (by decide)).trans e5.symm
    have g13 := (f 100 13 (by decide)).trans e13
    have g42 := (f 100 42 (by decide)).trans e42
    have g114 : σ1 114 a = σ 20 a := (f 114 a (by decide)).trans e114
    have gc : ∀ d k, q_cof σ1 d k = q_cof σ d k := fun d k => q_cof_c (fun j => f 123 j (by decide)) k
    have gH : ∀ c, v_H σ1 c = v_H σ c := fun c => by unfold v_H; rw [f 124 c (by decide)]
    have tf : ∀ k j, 100 ≤ k → k ≠ 119 → k ≠ 135 → k ≠ 118 → q_up (m_en σ1 a (σ 0 10)) 118 a (σ 0 10) k j = σ k j := fun k j h0 h1 h2 h3 => by rw [q_un h3, men_0 h1 h2]; exact f k j h0
    refine z_view (w := w) (by omega) (by omega) (fun j j0 j1 => by rw [f 119 j (by decide)]; have := r.2.2.2.1 j j0 (by omega); omega) (by omega) (fun j j0 j1 => by rw [f 114 j (by decide)]; exact h.2.1.2.2.2.2.2.2.1 j j0 j1) (fun c c0 c1 => by rw [f 124 c (by decide)]; exact hC.2.2.2 c c0 c1) (fun gr K' hK' => ?_) (fun g => kN (by omega)) (fun g g2 g3 => ?_) (fun g g2 => ?_) (fun g g2 g3 σ' fd => ?_)
    · rw [g25, g31, g7]
      refine z_who (q_IS_c (σ := σ) (fun k j hk => tf k j (by omega) (by omega) (by omega) (by omega)) (tf 100 7 (by decide) (by decide) (by decide) (by decide)) hI) (q_IC_c (σ := σ) (fun k j hk => tf k j (by omega) (by omega) (by omega) (by omega)) (tf 100 31 (by decide) (by decide) (by decide) (by decide)) hC) (by omega) (by omega) (by rw [tf 100 7 (by decide) (by decide) (by decide) (by decide)]; omega) (fun σ' fd => ?_)
      rw [tf 112 a (by decide) (by decide) (by decide) (by decide), w_who_c (σ := σ) (fun k j hk => tf k j (by omega) (by omega) (by omega) (by omega)), ← hw]
      rw [g25] at hK'
      exact hK' σ' fd
    · rw [g25, g31, gc, gH, g114] at g2
      exact k4 (by omega) g2 (by omega)
    · rw [g25, g31, gc, gH, g114] at g2
      rw [g25]
      exact k0 (by omega) g2
    · rw [g25, g31, gc, gH, g114] at g2
      rw [g25] at fd
      rw [g25, g31, gc, gH, g114, f 125 _ (by decide)]
      exact k1 (by omega) g2 (by omega) σ' fd
  have Fv : (0 ≤ a ∧ a < σ 17 9) → y_F (q_up (m_en σ a (σ 0 10)) 118 a (σ 0 10)) s := fun gr => by
    rw [hs]
    exact F_vw (F_en r gr hday) (by rw [en_0 (by decide) (by decide)]; exact gr)
  refine x_view (w := w) h.1 rc (fun gr K' hK' => ?_) (fun g => ⟨_, rfl, ?_⟩) (fun g g2 g3 => ⟨_, rfl, ?_⟩) (fun g g2 => ⟨_, rfl, ?_⟩) (fun g g2 g3 fi σ' fb fe f => ⟨_, rfl, ?_⟩)
  · rw [← hs] at hK' ⊢
    refine x_who sok src ssc sIS sIC (by omega) s112 (by omega) (by omega) (fun σ' f => ?_)
    rw [ew]
    exact hK' σ' f
  · exact mod σ (fun _ _ _ => rfl) _ (fun _ => ⟨_, rfl, r, rfl⟩) (fun k => absurd k g) (fun k => absurd k g) (fun k => absurd k g)
  · exact mod σ (fun _ _ _ => rfl) _ (fun k => absurd g k) (fun _ _ _ => ⟨_, rfl, r, rfl⟩) (fun _ k => by exfalso; omega) (fun _ _ k => by exfalso; omega)
  · rw [← hs]
    have f1 : ∀ k j, 100 ≤ k → s k j = σ k j := fun k j hk => sf k j (by omega) (by omega) (by omega)
    refine mod s f1 _ (fun k => absurd g k) (fun _ k => by exfalso; omega) (fun _ _ => ⟨_, rfl, ?_, rfl⟩) (fun _ k => by exfalso; omega)
    exact F_c (Fv g) (fun k j hk => by
      by_cases h118 : k = 118
      · subst h118
        by_cases ej : j = a
        · rw [ej, q_ue, q_ue]
        · rw [q_ui ej, q_ui ej]; exact men_c f1 (by decide)
      · rw [q_un h118, q_un h118]; exact men_c f1 (by omega)) (fun k j hk => by rw [q_un (by omega), men_0 (by omega) (by omega)])
  · rw [← hs] at f
    have f1 : ∀ k j, 100 ≤ k → v_be σ' a w (σ 0 10) (v_H σ (q_cof σ (σ 0 10) (σ 34 2).toNat) - σ 20 a) fi (v_H σ (q_cof σ (σ 0 10) (σ 34 2).toNat)) k j = σ k j := fun k j hk => by
      unfold v_be
      rw [q_un (by omega), q_un (by omega), q_un (by omega), q_un (by omega), q_un (by omega), q_un (by omega), q_un (by omega), q_un (by omega), f k j (by omega) (by omega) (by omega), sf k j (by omega) (by omega) (by omega)]
    have cn : q_cof σ (σ 0 10) (σ 34 2).toNat ≠ -1 := fun z => by
      rw [z] at g2
      have : v_H σ (-1) = 0 := rfl
      have h20 := h.1 20 a
      unfold q_ok at h20
      omega
    have fe := fe cn
    have Fs : y_F (q_up (m_en σ a (σ 0 10)) 118 a (σ 0 10)) σ' := F_c (Fv g) (fun _ _ _ => rfl) (fun k j hk => f k j (by omega) (by omega) (by omega))
    have e9 : σ' 17 9 = σ 17 9 := (f 17 9 (by decide) (by decide) (by decide)).trans (sf 17 9 (by decide) (by decide) (by decide))
    have e7 : σ' 88 7 = σ 88 7 := (f 88 7 (by decide) (by decide) (by decide)).trans (sf 88 7 (by decide) (by decide) (by decide))
    obtain ⟨T, hT⟩ : ∃ T, T = v_be σ' a w (σ 0 10) (v_H σ (q_cof σ (σ 0 10) (σ 34 2).toNat) - σ 20 a) fi (v_H σ (q_cof σ (σ 0 10) (σ 34 2).toNat)) := ⟨_, rfl⟩
    rw [← hT] at f1 ⊢
    refine mod T f1 _ (fun k => absurd g k) (fun _ _ k => by exfalso; omega) (fun _ k => by exfalso; omega) (fun _ _ _ σ'' fd => ⟨_, rfl, ?_, rfl⟩)
    rw [← fe]
    -- the model's cells of σ'' are those of the state between
    have Fm : y_F σ'' σ' := F_c Fs (fun k j hk => by
      rw [fd k j (by omega) (by omega)]
      by_cases h118 : k = 118
      · subst h118
        by_cases ej : j = a
        · rw [ej, q_ue, q_ue]
        · rw [q_ui ej, q_ui ej]; exact men_c f1 (by decide)
      · rw [q_un h118, q_un h118]; exact men_c f1 (by omega)) (fun _ _ _ => rfl)
    have Fb := F_be (o := w) (m := v_H σ (q_cof σ (σ 0 10) (σ 34 2).toNat) - σ 20 a) (h := v_H σ (q_cof σ (σ 0 10) (σ 34 2).toNat)) Fm (r := a) (by omega) (by omega) hday fb
    rw [← hT] at Fb
    refine F_c Fb (fun _ _ _ => rfl) (fun k j hk => ?_)
    unfold m_be
    rw [q_un (by omega), q_un (by omega), q_un (by omega), q_un (by omega), q_un (by omega), q_un (by omega), q_un (by omega), q_un (by omega), fd k j (by omega) (by omega), q_un (by omega), men_0 (by omega) (by omega)]

theorem x_mendF {r w n : Int} {σ : q_S} {K : q_R → q_S → Prop} (hA : ∀ k i, q_ok k i (σ k i)) (h0 : ¬ (0 ≤ r ∧ r < σ 17 9 ∧ 0 ≤ w ∧ w ≤ 7) → K (some (0, -1)) σ) (h2 : (0 ≤ r ∧ r < σ 17 9 ∧ 0 ≤ w ∧ w ≤ 7 ∧ ¬ (1 ≤ n ∧ n ≤ 99 ∧ σ 20 r + n ≤ 99)) → K (some (0, -2)) σ) (h1 : (0 ≤ r ∧ r < σ 17 9 ∧ 0 ≤ w ∧ w ≤ 7 ∧ 1 ≤ n ∧ n ≤ 99 ∧ σ 20 r + n ≤ 99) → ∀ x, K (some (0, x)) (v_em (q_up (q_up σ 20 r (σ 20 r + n)) 26 w (q_w32 (σ 26 w + n))) r (σ 20 r + n) (σ 0 10))) : q_K L xs i_A_mend [(2, 0), (0, r), (0, w), (0, n)] σ K := by
  have hb : 0 ≤ σ 17 9 ∧ σ 17 9 ≤ 24 := by have := hA 17 9; unfold q_ok at this; omega
  have ho : -1 ≤ σ 95 r ∧ σ 95 r < 60 := by have := hA 95 r; unfold q_ok at this; omega
  have h20 : 0 ≤ σ 20 r ∧ σ 20 r ≤ 99 := by have := hA 20 r; unfold q_ok at this; omega
  refine q_call k_A_mend 4 rfl ?_
  show q_E L xs k_A_mend (0, [(2, 0), (0, r), (0, w), (0, n)], [], σ) K
  refine q_go1 200 0 [25] (fun cl ev hcl hev => ?_)
  have go : (0 ≤ r ∧ r < σ 17 9 ∧ 0 ≤ w ∧ w ≤ 7 ∧ 1 ≤ n ∧ n ≤ 99 ∧ σ 20 r + n ≤ 99) → q_E L xs k_A_mend (25, [(2, 0), (0, r), (0, w), (0, n)], [], σ) K := fun g => by
    have e : q_w32 (σ 20 r + n) = σ 20 r + n := by rw [q_w32_id] <;> omega
    refine q_go1 200 25 [43] (fun cl ev hcl hev => ?_)
    refine And.intro (by omega) (And.intro (by omega) (And.intro (by omega) (And.intro (by omega) ?_)))
    refine hev _ ?_
    rw [e, q_un (k := 20) (k' := 26) (by decide)]
    refine q_go1 200 43 [] (fun cl ev hcl hev => ?_)
    refine And.intro (by omega) ?_
    show cl _ _ _ _
    rw [q_un (k := 26) (k' := 20) (by decide), q_ue (k := 20), q_un (k := 26) (k' := 0) (by decide), q_un (k := 20) (k' := 0) (by decide)]
    refine hcl _ _ _ _ (x_em (by omega) (by rw [q_un (by decide), q_un (by decide)]; exact ho) ?_)
    exact And.intro (by omega) (h1 g _)
  have eb : (1 ≤ n ∧ n ≤ 99) → q_w32 (σ 20 r + n) = σ 20 r + n := fun _ => by rw [q_w32_id] <;> omega
  repeat' (first | refine And.intro ?_ ?_ | (intro hq; first | exact absurd hq (by decide) | exact absurd rfl hq | exact absurd hq (show ¬ (1 : Int) = 0 by decide) | exact absurd (show (1 : Int) ≠ 0 by decide) hq | skip) | (show cl _ _ _ _; first | refine hcl _ _ _ _ (c_A_within ?_ ?_) | refine hcl _ _ _ _ (c_A_isOwner ?_ ?_) | refine hcl _ _ _ _ (c_A_isRod hb ?_ ?_)))
  all_goals first
    | omega
    | exact h0 (by omega)
    | exact h2 (by omega)
    | (have eb := eb (by omega); first | omega | exact h2 (by omega) | exact hev _ (go (by omega)))
theorem rf_20 {a b c i : Int} {σ : q_S} (h : q_IN σ) (rt : y_RT i σ) (r : y_RF σ) : q_P2 L xs i_A_mend [(2, 0), (0, a), (0, b), (0, c)] i_M_mend [(2, 100), (0, a), (0, b), (0, c)] σ (fun _ _ σ2 => y_RF σ2) := by
  have e13 := Ms13 rt.2.1
  have e25 := Ms25 rt.2.1
  have e114 := M114 rt.2.1 a
  have hb := h.2.1.1
  have hday := rt.2.2
  have h119 : ∀ σ1 : q_S, (∀ k j, 100 ≤ k → σ1 k j = σ k j) → ∀ j, 0 ≤ j → j < σ1 100 13 → -1 ≤ σ1 119 j ∧ σ1 119 j < 60 := fun σ1 f j j0 j1 => by
    rw [f 100 13 (by decide)] at j1
    rw [f 119 j (by decide)]
    have := r.2.2.2.1 j j0 (by omega)
    have := r.2.1
    have := r.1
    omega
  have h114 : ∀ σ1 : q_S, (∀ k j, 100 ≤ k → σ1 k j = σ k j) → ∀ j, 0 ≤ j → j < 24 → 0 ≤ σ1 114 j ∧ σ1 114 j ≤ 99 := fun σ1 f j j0 j1 => by rw [f 114 j (by decide)]; exact h.2.1.2.2.2.2.2.2.1 j j0 j1
  refine x_mendF h.1 (fun g => ⟨_, rfl, ?_⟩) (fun g => ⟨_, rfl, ?_⟩) (fun g x => ⟨_, rfl, ?_⟩)
  · exact c_M_mend hb (h114 σ (fun _ _ _ => rfl)) (h119 σ (fun _ _ _ => rfl)) (fun _ => ⟨_, rfl, r⟩) (fun k => by exfalso; omega) (fun k _ => by exfalso; omega) (fun k _ => by exfalso; omega)
  · exact c_M_mend hb (h114 σ (fun _ _ _ => rfl)) (h119 σ (fun _ _ _ => rfl)) (fun k => by exfalso; omega) (fun _ => ⟨_, rfl, r⟩) (fun k _ => by exfalso; omega) (fun k _ => by exfalso; omega)
  · obtain ⟨s, hs⟩ : ∃ s, s = q_up (q_up σ 20 a (σ 20 a + c)) 26 b (q_w32 (σ 26 b + c)) := ⟨_, rfl⟩
    rw [← hs]
    have sf : ∀ k j, k ≠ 20 → k ≠ 26 → s k j = σ k j := fun k j h1 h2 => by rw [hs, q_un h2, q_un h1]
    have vf : ∀ k j, k ≠ 91 → k ≠ 95 → v_em s a (σ 20 a + c) (σ 0 10) k j = s k j := fun k j h1 h2 => by
      unfold v_em
      split
      · exact en_0 h2 h1
      · rfl
    have f1 : ∀ k j, 100 ≤ k → v_em s a (σ 20 a + c) (σ 0 10) k j = σ k j := fun k j hk => (vf k j (by omega) (by omega)).trans (sf k j (by omega) (by omega))
    have o9 := r.2.2.2.1 a (by omega) (by omega)
    have hsz := r.2.1
    have s95 := sf 95 a (by decide) (by decide)
    have s94 : ∀ j, s 94 j = σ 94 j := fun j => sf 94 j (by decide) (by decide)
    have g13 := f1 100 13 (by decide)
    have g25 := (f1 100 25 (by decide)).trans e25
    have g114 := (f1 114 a (by decide)).trans e114
    have g119 := (f1 119 a (by decide)).trans o9.1
    have Fs : y_F σ s := F_c r (fun _ _ _ => rfl) (fun k j hk => sf k j (by omega) (by omega))
    generalize hT : v_em s a (σ 20 a + c) (σ 0 10) = T at f1 vf g13 g25 g114 g119
    have e137 : σ 95 a ≠ -1 → T 137 (T 119 a) = σ 94 (σ 95 a) := fun z => by
      rw [g119, f1 137 _ (by decide)]
      exact (r.2.2.1 (σ 95 a) (by omega) (by omega)).2.2.2.2.1
    refine c_M_mend (by omega) (h114 T f1) (h119 T f1) (fun k => by exfalso; omega) (fun k => by exfalso; omega) (fun k g2 => ⟨_, rfl, ?_⟩) (fun k g2 => ⟨_, rfl, ?_⟩)
    · have ev : T = s := by
        rw [← hT]
        unfold v_em
        rw [s95, s94]
        by_cases z : σ 95 a = -1
        · rw [if_neg (fun y => y.1 z)]
        · have := e137 z
          rw [if_neg (by omega)]
      have f1' := f1
      rw [ev] at f1' ⊢
      refine F_c Fs (fun k j hk => ?_) (fun k j hk => ?_)
      · rw [q_un (by omega), q_un (by omega)]; exact f1' k j (by omega)
      · rw [q_un (by omega), q_un (by omega)]
    · have z : σ 95 a ≠ -1 := by omega
      have := e137 z
      have ev : T = v_en s a (σ 0 10) := by
        rw [← hT]
        unfold v_em
        rw [s95, s94, if_pos (by omega)]
      have Fe := F_en (d := σ 0 10) Fs (r := a) (by rw [sf 17 9 (by decide) (by decide)]; omega) hday
      rw [← ev] at Fe
      rw [g119, g25]
      unfold m_en at Fe
      rw [o9.1, if_neg z] at Fe
      refine F_c Fe (fun k j hk => ?_) (fun k j hk => ?_)
      · have fx : ∀ k j, ((k = 100 ∧ j = 42) ∨ (133 ≤ k ∧ k ≤ 138) ∨ k = 118 ∨ k = 119) → q_up (q_up T 114 a (T 114 a + c)) 139 b (q_w32 (T 139 b + c)) k j = σ k j := fun k j hk => by rw [q_un (by omega), q_un (by omega)]; exact f1 k j (by omega)
        by_cases h119 : k = 119
        · subst h119
          by_cases ej : j = a
          · rw [ej, q_ue, q_ue]
          · rw [q_ui ej, q_ui ej, q_un (by decide), q_un (by decide)]; exact fx 119 j (by omega)
        · rw [q_un h119, q_un h119]
          by_cases h135 : k = 135
          · subst h135
            by_cases ej : j = σ 95 a
            · rw [ej, q_ue, q_ue]
            · rw [q_ui ej, q_ui ej]; exact fx 135 j (by omega)
          · rw [q_un h135, q_un h135]; exact fx k j hk
      · rw [q_un (by omega), q_un (by omega), q_un (by omega), q_un (by omega)]
theorem rf_4 {a b c i : Int} {σ : q_S} (h : q_IN σ) (rt : y_RT i σ) (r : y_RF σ) : q_P2 L xs i_A_rod [(2, 0), (0, a), (0, b), (0, c)] i_M_rod [(2, 100), (0, a), (0, b), (0, c)] σ (fun _ _ σ2 => y_RF σ2) := by
  have e13 := Ms13 rt.2.1
  have hb := h.2.1.1
  obtain ⟨f1, f2, f3, f4, f5⟩ := id r
  refine c_A_rod (by omega) (fun g => ⟨_, rfl, ?_⟩) (fun g => ⟨_, rfl, ?_⟩) (fun g => ⟨_, rfl, ?_⟩) (fun g => ⟨_, rfl, ?_⟩)
  · exact c_M_rod hb (fun k => ⟨_, rfl, r⟩) (fun k => by exfalso; omega) (fun k => by exfalso; omega) (fun k => by exfalso; omega)
  · exact c_M_rod hb (fun k => by exfalso; omega) (fun k => ⟨_, rfl, r⟩) (fun k => by exfalso; omega) (fun k => by exfalso; omega)
  · exact c_M_rod hb (fun k => by exfalso; omega) (fun k => by exfalso; omega) (fun k => ⟨_, rfl, r⟩) (fun k => by exfalso; omega)
  · have e1 : q_up (q_up (q_up (q_up (q_up σ 18 (σ 17 9) a) 19 (σ 17 9) b) 20 (σ 17 9) c) 24 (σ 17 9) (-1)) 17 9 (σ 17 9 + 1) 100 13 = σ 17 9 := by simp (disch := decide) only [q_un]; exact e13
    refine c_M_rod (by omega) (fun k => by exfalso; omega) (fun k => by exfalso; omega) (fun k => by exfalso; omega) (fun k => ⟨_, rfl, ?_⟩)
    rw [e1]
    generalize σ 17 9 = n at *
    refine ⟨?_, ?_, fun j j0 j1 => ?_, fun j j0 j1 => ?_, fun j j0 j1 => ?_⟩
    · simp (disch := decide) only [q_un, q_ui]; exact f1
    · simp (disch := decide) only [q_un]; exact f2
    · simp (disch := decide) only [q_un] at j1 ⊢
      exact f3 j j0 j1
    · have j1 : j < n + 1 := by simp (disch := decide) only [q_un, q_ue] at j1; exact j1
      by_cases ej : j = n
      · subst ej
        simp (disch := decide) only [q_un, q_ue]
        have := f5 j (by omega) (by omega)
        rw [this]
        exact ⟨by first | rfl | trivial, by first | rfl | trivial, by decide, by omega⟩
      · simp (disch := decide) only [q_un, q_ui ej]
        exact f4 j j0 (by omega)
    · have j0 : n + 1 ≤ j := by simp (disch := decide) only [q_un, q_ue] at j0; exact j0
      simp (disch := decide) only [q_un]
      exact f5 j (by omega) j1

theorem rf_0 {a b : Int} {σ : q_S} (h : q_IN σ) (r : y_RF σ) : q_P2 L xs i_A_level [(2, 0), (0, a), (0, b)] i_M_level [(2, 100), (0, a), (0, b)] σ (fun _ _ σ2 => y_RF σ2) :=
  q_fr3 (D := d_RF) (f_0 h) (fun _ _ e r => RFc e r) (fun k i hk => by unfold d_RF at hk; unfold f_a0 f_m0; omega) r
theorem rf_1 {a b : Int} {σ : q_S} (h : q_IN σ) (r : y_RF σ) : q_P2 L xs i_A_cell [(2, 0), (0, a), (0, b)] i_M_cell [(2, 100), (0, a), (0, b)] σ (fun _ _ σ2 => y_RF σ2) :=
  q_fr3 (D := d_RF) (f_1 h) (fun _ _ e r => RFc e r) (fun k i hk => by unfold d_RF at hk; unfold w_no; omega) r
theorem rf_2 {a b c d e : Int} {σ : q_S} (h : q_IN σ) (r : y_RF σ) : q_P2 L xs i_A_sell [(2, 0), (0, a), (0, b), (0, c), (0, d), (0, e)] i_M_sell [(2, 100), (0, a), (0, b), (0, c), (0, d), (0, e)] σ (fun _ _ σ2 => y_RF σ2) :=
  q_fr3 (D := d_RF) (f_2 h) (fun _ _ e r => RFc e r) (fun k i hk => by unfold d_RF at hk; unfold f_m2 w_sa; omega) r
theorem rf_3 {a b c d : Int} {σ : q_S} (h : q_IN σ) (r : y_RF σ) : q_P2 L xs i_A_held [(2, 0), (0, a), (0, b), (0, c), (0, d)] i_M_held [(2, 100), (0, a), (0, b), (0, c), (0, d)] σ (fun _ _ σ2 => y_RF σ2) :=
  q_fr3 (D := d_RF) (f_3 h) (fun _ _ e r => RFc e r) (fun k i hk => by unfold d_RF at hk; unfold w_no; omega) r
theorem rf_5 {a b : Int} {σ : q_S} (h : q_IN σ) (r : y_RF σ) : q_P2 L xs i_A_sluice [(2, 0), (0, a), (0, b)] i_M_sluice [(2, 100), (0, a), (0, b)] σ (fun _ _ σ2 => y_RF σ2) :=
  q_fr3 (D := d_RF) (f_5 h) (fun _ _ e r => RFc e r) (fun k i hk => by unfold d_RF at hk; unfold f_a5 f_m5; omega) r
theorem rf_6 {a b : Int} {σ : q_S} (h : q_IN σ) (r : y_RF σ) : q_P2 L xs i_A_about [(2, 0), (0, a), (0, b)] i_M_about [(2, 100), (0, a), (0, b)] σ (fun _ _ σ2 => y_RF σ2) :=
  q_fr3 (D := d_RF) (f_6 h) (fun _ _ e r => RFc e r) (fun k i hk => by unfold d_RF at hk; unfold w_no; omega) r
theorem rf_7 {a b c : Int} {σ : q_S} (h : q_IN σ) (r : y_RF σ) : q_P2 L xs i_A_gate [(2, 0), (0, a), (0, b), (0, c)] i_M_gate [(2, 100), (0, a), (0, b), (0, c)] σ (fun _ _ σ2 => y_RF σ2) :=
  q_fr3 (D := d_RF) (f_7 h) (fun _ _ e r => RFc e r) (fun k i hk => by unfold d_RF at hk; unfold f_a7 f_m7; omega) r
theorem rf_8 {a : Int} {σ : q_S} (h : q_IN σ) (r : y_RF σ) : q_P2 L xs i_A_herd [(2, 0), (0, a)] i_M_herd [(2, 100), (0, a)] σ (fun _ _ σ2 => y_RF σ2) :=
  q_fr3 (D := d_RF) (f_8 h) (fun _ _ e r => RFc e r) (fun k i hk => by unfold d_RF at hk; unfold f_a8 f_m8; omega) r
theorem rf_9 {a b : Int} {σ : q_S} (h : q_IN σ) (r : y_RF σ) : q_P2 L xs i_A_drive [(2, 0), (0, a), (0, b)] i_M_drive [(2, 100), (0, a), (0, b)] σ (fun _ _ σ2 => y_RF σ2) :=
  q_fr3 (D := d_RF) (f_9 h) (fun _ _ e r => RFc e r) (fun k i hk => by unfold d_RF at hk; unfold f_m9 w_hd; omega) r
theorem rf_10 {a : Int} {σ : q_S} (h : q_IN σ) (r : y_RF σ) : q_P2 L xs i_A_where [(2, 0), (0, a)] i_M_where [(2, 100), (0, a)] σ (fun _ _ σ2 => y_RF σ2) :=
  q_fr3 (D := d_RF) (f_10 h) (fun _ _ e r => RFc e r) (fun k i hk => by unfold d_RF at hk; unfold w_no; omega) r
theorem rf_11 {a b c : Int} {σ : q_S} (h : q_IN σ) (r : y_RF σ) : q_P2 L xs i_A_way [(2, 0), (0, a), (0, b), (0, c)] i_M_way [(2, 100), (0, a), (0, b), (0, c)] σ (fun _ _ σ2 => y_RF σ2) :=
  q_fr3 (D := d_RF) (f_11 h) (fun _ _ e r => RFc e r) (fun k i hk => by unfold d_RF at hk; unfold f_m11 w_wy; omega) r
theorem rf_12 {a b c : Int} {σ : q_S} (h : q_IN σ) (r : y_RF σ) : q_P2 L xs i_A_tide [(2, 0), (0, a), (0, b), (0, c)] i_M_tide [(2, 100), (0, a), (0, b), (0, c)] σ (fun _ _ σ2 => y_RF σ2) :=
  q_fr3 (D := d_RF) (f_12 h) (fun _ _ e r => RFc e r) (fun k i hk => by unfold d_RF at hk; unfold f_a12 f_m12 q_okT w_tide; omega) r
theorem rf_13 {a : Int} {σ : q_S} (h : q_IN σ) (r : y_RF σ) : q_P2 L xs i_A_pass [(2, 0), (0, a)] i_M_pass [(2, 100), (0, a)] σ (fun _ _ σ2 => y_RF σ2) :=
  q_fr3 (D := d_RF) (f_13 h) (fun _ _ e r => RFc e r) (fun k i hk => by unfold d_RF at hk; unfold f_a13 f_m13; omega) r
theorem rf_14 {σ : q_S} (h : q_IN σ) (r : y_RF σ) : q_P2 L xs i_A_year [(2, 0)] i_M_year [(2, 100)] σ (fun _ _ σ2 => y_RF σ2) :=
  q_fr3 (D := d_RF) (f_14 h) (fun _ _ e r => RFc e r) (fun k i hk => by unfold d_RF at hk; unfold f_m14 w_tide; omega) r
theorem rf_15 {a b : Int} {σ : q_S} (h : q_IN σ) (r : y_RF σ) : q_P2 L xs i_A_feed [(2, 0), (1, a), (0, b)] i_M_feed [(2, 100), (1, a), (0, b)] σ (fun _ _ σ2 => y_RF σ2) :=
  q_fr3 (D := d_RF) (f_15 h) (fun _ _ e r => RFc e r) (fun k i hk => by unfold d_RF at hk; unfold f_m15 w_fe; omega) r
theorem rf_16 {a : Int} {σ : q_S} (h : q_IN σ) (r : y_RF σ) : q_P2 L xs i_A_court [(2, 0), (0, a)] i_M_court [(2, 100), (0, a)] σ (fun _ _ σ2 => y_RF σ2) :=
  q_fr3 (D := d_RF) (f_16 h) (fun _ _ e r => RFc e r) (fun k i hk => by unfold d_RF at hk; unfold f_m16 w_co; omega) r
theorem rf_17 {a b c : Int} {σ : q_S} (h : q_IN σ) (r : y_RF σ) : q_P2 L xs i_A_custom [(2, 0), (0, a), (0, b), (0, c)] i_M_custom [(2, 100), (0, a), (0, b), (0, c)] σ (fun _ _ σ2 => y_RF σ2) :=
  q_fr3 (D := d_RF) (f_17 h) (fun _ _ e r => RFc e r) (fun k i hk => by unfold d_RF at hk; unfold w_no; omega) r
theorem rf_18 {a b c d : Int} {σ : q_S} (h : q_IN σ) (r : y_RF σ) : q_P2 L xs i_A_mender [(2, 0), (0, a), (0, b), (0, c), (0, d)] i_M_mender [(2, 100), (0, a), (0, b), (0, c), (0, d)] σ (fun _ _ σ2 => y_RF σ2) :=
  q_fr3 (D := d_RF) (f_18 h) (fun _ _ e r => RFc e r) (fun k i hk => by unfold d_RF at hk; unfold f_m18 w_sh; omega) r
theorem rf_21 {a b : Int} {σ : q_S} (h : q_IN σ) (r : y_RF σ) : q_P2 L xs i_A_fault [(2, 0), (0, a), (0, b)] i_M_fault [(2, 100), (0, a), (0, b)] σ (fun _ _ σ2 => y_RF σ2) :=
  q_fr3 (D := d_RF) (f_21 h) (fun _ _ e r => RFc e r) (fun k i hk => by unfold d_RF at hk; unfold w_no; omega) r
theorem rf_22 {a : Int} {σ : q_S} (h : q_IN σ) (r : y_RF σ) : q_P2 L xs i_A_fines [(2, 0), (0, a)] i_M_fines [(2, 100), (0, a)] σ (fun _ _ σ2 => y_RF σ2) :=
  q_fr3 (D := d_RF) (f_22 h) (fun _ _ e r => RFc e r) (fun k i hk => by unfold d_RF at hk; unfold w_no; omega) r
theorem rf_23 {a : Int} {σ : q_S} (h : q_IN σ) (r : y_RF σ) : q_P2 L xs i_A_mended [(2, 0), (0, a)] i_M_mended [(2, 100), (0, a)] σ (fun _ _ σ2 => y_RF σ2) :=
  q_fr3 (D := d_RF) (f_23 h) (fun _ _ e r => RFc e r) (fun k i hk => by unfold d_RF at hk; unfold w_no; omega) r
theorem rf_24 {a b : Int} {σ : q_S} (h : q_IN σ) (r : y_RF σ) : q_P2 L xs i_A_works [(2, 0), (0, a), (0, b)] i_M_works [(2, 100), (0, a), (0, b)] σ (fun _ _ σ2 => y_RF σ2) :=
  q_fr3 (D := d_RF) (f_24 h) (fun _ _ e r => RFc e r) (fun k i hk => by unfold d_RF at hk; unfold f_m24 w_pl; omega) r
theorem rf_25 {a b : Int} {σ : q_S} (h : q_IN σ) (r : y_RF σ) : q_P2 L xs i_A_scot [(2, 0), (0, a), (0, b)] i_M_scot [(2, 100), (0, a), (0, b)] σ (fun _ _ σ2 => y_RF σ2) :=
  q_fr3 (D := d_RF) (f_25 h) (fun _ _ e r => RFc e r) (fun k i hk => by unfold d_RF at hk; unfold f_m25 w_sh; omega) r
theorem rf_26 {a : Int} {σ : q_S} (h : q_IN σ) (r : y_RF σ) : q_P2 L xs i_A_count [(2, 0), (0, a)] i_M_count [(2, 100), (0, a)] σ (fun _ _ σ2 => y_RF σ2) :=
  q_fr3 (D := d_RF) (f_26 h) (fun _ _ e r => RFc e r) (fun k i hk => by unfold d_RF at hk; unfold w_no; omega) r
end Z4
