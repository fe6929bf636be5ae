section V4
variable {L : Nat} {xs : Int → Int}
theorem x_works {hands wt : Int} {σ : q_S} {K : q_R → q_S → Prop} (ok : ∀ k i, q_ok k i (σ k i)) (rc : y_RC σ) (hl : ∀ i, 0 ≤ σ 2 i ∧ σ 2 i ≤ 60)
    (hN1 : ¬ (0 ≤ wt ∧ wt ≤ 2) → K (some (0, -1)) σ) (h2 : (0 ≤ wt ∧ wt ≤ 2) → ¬ (0 ≤ hands ∧ hands ≤ 200) → K (some (0, -2)) σ)
    (hK : (0 ≤ wt ∧ wt ≤ 2) → (0 ≤ hands ∧ hands ≤ 200) → ∀ h, h = v_H σ (q_cof σ (σ 0 10) (σ 34 2).toNat) → ∀ σ', (∀ k i, k ≠ 97 → k ≠ 98 → k ≠ 99 → k ≠ 96 → σ' k i = σ k i) → K (some (0, v_w3 (w_M (fun j => h - σ 20 j) (w_ga σ h) (σ 17 9).toNat hands / 16777216) (16777215 - w_M (fun j => h - σ 20 j) (w_ga σ h) (σ 17 9).toNat hands % 16777216) (w_hf (σ 20) (16777215 - w_M (fun j => h - σ 20 j) (w_ga σ h) (σ 17 9).toNat hands % 16777216) h (σ 17 9).toNat) wt)) σ') : q_K L xs i_A_works [(2, 0), (0, hands), (0, wt)] σ K := by
  have hb : 0 ≤ σ 17 9 ∧ σ 17 9 ≤ 24 := by have := ok 17 9; unfold q_ok at this; omega
  have h20 : ∀ i, 0 ≤ σ 20 i ∧ σ 20 i ≤ 99 := fun i => by have := ok 20 i; unfold q_ok at this; omega
  have h18 : ∀ i, 0 ≤ σ 18 i ∧ σ 18 i < 30 := fun i => by have := ok 18 i; unfold q_ok at this; omega
  have hin := q_cof_in (σ := σ) (d := σ 0 10) (σ 34 2).toNat
  have r6 := rc.2.1.2
  have hc := v_cu_H rc (c := q_cof σ (σ 0 10) (σ 34 2).toNat) (by omega)
  have hcu : q_cu (v_cu σ (q_cof σ (σ 0 10) (σ 34 2).toNat)) := v_cu_q r6.2
  refine q_call k_A_works 3 rfl ?_
  show q_E L xs k_A_works (0, [(2, 0), (0, hands), (0, wt)], [], σ) K
  refine q_go1 200 0 [22] (fun cl ev hcl hev => ?_)
  show cl _ _ _ _
  refine hcl _ _ _ _ (c_A_within (fun g1 => ?_) (fun g1 => ?_))
  · refine And.intro (fun _ => ?_) (fun z => absurd (show (1 : Int) ≠ 0 by decide) z)
    show cl _ _ _ _
    refine hcl _ _ _ _ (c_A_within (fun g2 => ?_) (fun g2 => ?_))
    · refine And.intro (fun _ => ?_) (fun z => absurd (show (1 : Int) ≠ 0 by decide) z)
      have hK := hK g1 g2
      show cl _ _ _ _
      refine hcl _ _ _ _ (x_now rc ?_)
      refine hev _ ?_
      -- behind the custom's height
      have go : ∀ h, -1 ≤ h → h ≤ 99 → h = v_H σ (q_cof σ (σ 0 10) (σ 34 2).toNat) → q_E L xs k_A_works (23, [(2, 0), (0, hands), (0, wt)], [(0, h), (2, 1), (2, 17), (2, 96)], σ) K := fun h hh0 hh1 he => by
        refine q_go1 200 23 [] (fun cl ev hcl hev => ?_)
        show cl _ _ _ _
        refine hcl _ _ _ _ (x_dr hb ⟨hh0, hh1⟩ g2 hl h20 h18 (fun σ1 f1 e3 e4 e5 => ?_))
        have hK := hK h he σ1 f1
        unfold v_w3 at hK
        refine And.intro (fun z1 => ?_) (fun z1 => ?_)
        · rw [if_pos z1] at hK
          show K (some (0, σ1 96 3)) σ1
          rw [e3]
          exact hK
        · rw [if_neg z1] at hK
          refine And.intro (fun z2 => ?_) (fun z2 => ?_)
          · rw [if_pos z2] at hK
            show K (some (0, σ1 96 4)) σ1
            rw [e4]
            exact hK
          · rw [if_neg z2] at hK
            show K (some (0, σ1 96 5)) σ1
            rw [e5]
            exact hK
      have hq1 : -1 ≤ σ (v_cu σ (q_cof σ (σ 0 10) (σ 34 2).toNat)) 1 ∧ σ (v_cu σ (q_cof σ (σ 0 10) (σ 34 2).toNat)) 1 ≤ 99 := by have := ok (v_cu σ (q_cof σ (σ 0 10) (σ 34 2).toNat)) 1; have := q_cu_in hcu; unfold q_ok at *; omega
      have go := go _ hq1.1 hq1.2 hc.1
      generalize v_cu σ (q_cof σ (σ 0 10) (σ 34 2).toNat) = q at hcu go ⊢
      clear hK hc hq1
      unfold q_cu at hcu
      rcases hcu with rfl | rfl | rfl | rfl | rfl | rfl | rfl | rfl | rfl | rfl | rfl | rfl | rfl
      all_goals
        refine q_go1 200 22 [23] (fun cl ev hcl hev => ?_)
        exact hev _ go
    · exact And.intro (fun z => absurd rfl z) (fun _ => h2 g1 g2)
  · exact And.intro (fun z => absurd rfl z) (fun _ => hN1 g1)
theorem a_24 {a b i : Int} {σ : q_S} (h : q_IN σ) (rt : y_RT i σ) (rc : y_RC σ) : q_P2 L xs i_A_works [(2, 0), (0, a), (0, b)] i_M_works [(2, 100), (0, a), (0, b)] σ (fun x y _ => x = y) := by
  have hC : q_IC σ := h.2.1.2.2.2.2.1
  have e31 := rc.2.1.1
  have r6 := rc.2.1.2
  have e13 := Ms13 rt.2.1
  have e25 := Ms25 rt.2.1
  have hb := h.2.1.1
  have l2 : ∀ j, 0 ≤ σ 2 j ∧ σ 2 j ≤ 60 := fun j => by have := rt.1 2 j; unfold y_ok at this; omega
  have e101 : σ 101 = σ 2 := funext (fun j => M101 rt.2.1 j)
  have e114 : σ 114 = σ 20 := funext (fun j => M114 rt.2.1 j)
  have e112 : σ 112 = σ 18 := funext (fun j => M112 rt.2.1 j)
  obtain ⟨hh, eh⟩ : ∃ hh, hh = v_H σ (q_cof σ (σ 0 10) (σ 34 2).toNat) := ⟨_, rfl⟩
  have mod : ∀ σ1 : q_S, (∀ k j, 100 ≤ k → σ1 k j = σ k j) → ∀ K : q_R → q_S → Prop,
      (¬ (0 ≤ b ∧ b ≤ 2) → K (some (0, -1)) σ1) → ((0 ≤ b ∧ b ≤ 2) → ¬ (0 ≤ a ∧ a ≤ 200) → K (some (0, -2)) σ1) →
      ((0 ≤ b ∧ b ≤ 2) → (0 ≤ a ∧ a ≤ 200) → ∀ σ', K (some (0, v_w3 (w_M (fun j => hh - σ 20 j) (w_ga σ hh) (σ 17 9).toNat a / 16777216) (16777215 - w_M (fun j => hh - σ 20 j) (w_ga σ hh) (σ 17 9).toNat a % 16777216) (w_hf (σ 20) (16777215 - w_M (fun j => hh - σ 20 j) (w_ga σ hh) (σ 17 9).toNat a % 16777216) hh (σ 17 9).toNat) b)) σ') →
      q_K L xs i_M_works [(2, 100), (0, a), (0, b)] σ1 K := fun σ1 f K kN k2 k1 => by
    have g25 := (f 100 25 (by decide)).trans e25
    have g31 := (f 100 31 (by decide)).trans e31
    have g13 := (f 100 13 (by decide)).trans e13
    have g101 : σ1 101 = σ 2 := (funext (fun j => f 101 j (by decide))).trans e101
    have g114 : σ1 114 = σ 20 := (funext (fun j => f 114 j (by decide))).trans e114
    have g112 : σ1 112 = σ 18 := (funext (fun j => f 112 j (by decide))).trans e112
    have gc : ∀ d k, q_cof σ1 d k = q_cof σ d k := fun d k => q_cof_c (fun j => f 123 j (by decide)) k
    have gH : ∀ c, v_H σ1 c = v_H σ c := fun c => by unfold v_H; rw [f 124 c (by decide)]
    have eH : v_H σ1 (q_cof σ1 (σ1 100 25) (σ1 100 31).toNat) = hh := by rw [g25, g31, gc, gH, eh]
    refine z_works (N := fun j => hh - σ 20 j) (G := w_ga σ hh) (by omega) (by omega) (fun c c0 c1 => by rw [f 124 c (by decide)]; exact hC.2.2.2 c c0 c1) (by rw [g101]; exact fun j _ _ => l2 j) (by rw [g101]; exact fun j => (l2 j).1) (by rw [g114, ← e114]; exact h.2.1.2.2.2.2.2.2.1) (by rw [g112, ← e112]; exact h.2.1.2.2.2.2.2.2.2.1) (fun r hr => by rw [eH, g114]) (fun r hr => ?_) kN k2 (fun g1 g2 σ' => ?_)
    · rw [eH, g101, g112]
      unfold w_ga
      rw [show ((r : Int)).toNat = r by omega]
    · rw [eH, g114, g13]
      exact k1 g1 g2 σ'
  refine x_works h.1 rc l2 (fun g => ⟨_, rfl, ?_⟩) (fun g g2 => ⟨_, rfl, ?_⟩) (fun g g2 h' e' σ1 f1 => ⟨_, rfl, ?_⟩)
  · exact mod σ (fun _ _ _ => rfl) _ (fun _ => ⟨_, rfl, rfl⟩) (fun k => absurd k g) (fun k => absurd k g)
  · exact mod σ (fun _ _ _ => rfl) _ (fun k => absurd g k) (fun _ _ => ⟨_, rfl, rfl⟩) (fun _ k => absurd k g2)
  · have eh' : h' = hh := by rw [eh, e']
    rw [eh']
    exact mod σ1 (fun k j hk => f1 k j (by omega) (by omega) (by omega) (by omega)) _ (fun k => absurd g k) (fun _ k => absurd g2 k) (fun _ _ σ' => ⟨_, rfl, rfl⟩)
end V4
