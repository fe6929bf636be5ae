/-- land, banks, herds and days are alike, and sound: at place i of the script no cell has more than 50000 i of water -/
def y_RT (i : Int) (σ : q_S) : Prop := y_S (50000 * i) σ ∧ y_M σ σ ∧ (0 ≤ σ 0 10 ∧ σ 0 10 ≤ 9999)
def d_RT (k i : Int) : Prop := (k = 2 ∨ k = 3 ∨ k = 4 ∨ k = 5 ∨ k = 6 ∨ (k = 1 ∧ (i = 5 ∨ i = 6 ∨ i = 7)) ∨ (18 ≤ k ∧ k ≤ 23) ∨ k = 25 ∨ k = 26 ∨ k = 28 ∨ k = 29 ∨ (k = 17 ∧ i = 9) ∨ (k = 27 ∧ i = 2) ∨ (k = 0 ∧ (i = 10 ∨ i = 11))) ∨ ((101 ≤ k ∧ k ≤ 106) ∨ (112 ≤ k ∧ k ≤ 117) ∨ k = 120 ∨ k = 121 ∨ k = 139 ∨ k = 141 ∨ (k = 100 ∧ (i = 13 ∨ i = 22 ∨ i = 25 ∨ i = 26 ∨ i = 27 ∨ i = 28 ∨ i = 51)))
section T2
variable {i : Int} {σ σ' σ1 σ2 τ : q_S}
theorem y_rel_d {k j k' j' : Int} (h : y_rel k j k' j') : d_RT k j ∧ d_RT k' j' := by
  unfold y_rel at h
  rcases h with h | h | h | h | h | h | h | h | h | h | h | h | h | h | h | h | h | h | h | h | h | h | h
  all_goals (obtain ⟨h1, h2, h3⟩ := h; subst h1; subst h2; simp [d_RT, h3])
theorem RTc (h : ∀ k j, d_RT k j → σ' k j = σ k j) (r : y_RT i σ) : y_RT i σ' := by
  refine ⟨fun k j => ?_, fun k j k' j' hr => ?_, ?_⟩
  · by_cases hd : d_RT k j
    · rw [h k j hd]; exact r.1 k j
    · unfold d_RT at hd; unfold y_ok; omega
  · rw [h k j (y_rel_d hr).1, h k' j' (y_rel_d hr).2]
    exact r.2.1 k j k' j' hr
  · rw [h 0 10 (by unfold d_RT; omega)]; exact r.2.2
theorem RT6 (hi : 0 ≤ i) (r : y_RT i σ) : y_RT (i + 6) σ := ⟨S_mo r.1 (by omega), r.2⟩
theorem y_rel_lo {k j k' j' : Int} (h : y_rel k j k' j') : 100 ≤ k ∧ k' < 100 := by unfold y_rel at h; omega
theorem M_c1 (M : y_M σ τ) (h : ∀ k j, 100 ≤ k → σ1 k j = σ k j) : y_M σ1 τ := fun k j k' j' hr => (h k j (y_rel_lo hr).1).trans (M k j k' j' hr)
theorem M_r {k' j' v : Int} (h : y_M σ τ) (hr : ∀ k j, ¬ y_rel k j k' j') : y_M σ (q_up τ k' j' v) := by
  intro a j a' b' hq
  rw [q_unn (fun z => hr a j (by rw [z.1, z.2] at hq; exact hq))]
  exact h a j a' b' hq
/-- class first, then model -/
theorem RTmix {n : Int} (S : y_S (50000 * n) σ1) (M : y_M σ2 σ1) (hm : ∀ k j, k < 100 → σ2 k j = σ1 k j) (hd : 0 ≤ σ1 0 10 ∧ σ1 0 10 ≤ 9999) : y_RT n σ2 := by
  refine ⟨fun k j => ?_, fun k j k' j' hr => (M k j k' j' hr).trans (hm k' j' (y_rel_lo hr).2).symm, by rw [hm 0 10 (by decide)]; exact hd⟩
  by_cases hk : k < 100
  · rw [hm k j hk]; exact S k j
  · unfold y_ok; omega
end T2
section T3
variable {L : Nat} {xs : Int → Int}

theorem r_0 {a b : Int} {i : Int} {σ : q_S} (hi : 0 ≤ i) (hj : i + 6 ≤ 3072) (h : q_IN σ) (r : y_RT i σ) : q_P2 L xs i_A_level [(2, 0), (0, a), (0, b)] i_M_level [(2, 100), (0, a), (0, b)] σ (fun x y σ2 => y_RT (i + 6) σ2 ∧ x = y) := by
  have S := S_mo (b' := 50000 * (i + 6)) r.1 (by omega)
  refine c_A_level (fun g => ⟨_, rfl, ?_⟩) (fun g => ⟨_, rfl, ?_⟩) (fun g => ⟨_, rfl, ?_⟩)
  · exact c_M_level (fun k => ⟨_, rfl, RT6 hi r, rfl⟩) (fun k => by exfalso; omega) (fun k => by exfalso; omega)
  · exact c_M_level (fun k => by exfalso; omega) (fun k => ⟨_, rfl, RT6 hi r, rfl⟩) (fun k => by exfalso; omega)
  · refine c_M_level (fun k => by exfalso; omega) (fun k => by exfalso; omega) (fun k => ⟨_, rfl, RTmix (S_up S (by unfold y_ok; omega)) (M_up (M_l r.2.1 (fun k j z => by simp [y_rel] at z)) (by simp [y_rel])) (fun k j hk => q_un (by omega)) r.2.2, ?_⟩)
    rw [q_un (by decide)]
    exact (M101 r.2.1 a).symm
theorem r_1 {a b : Int} {i : Int} {σ : q_S} (hi : 0 ≤ i) (hj : i + 6 ≤ 3072) (h : q_IN σ) (r : y_RT i σ) : q_P2 L xs i_A_cell [(2, 0), (0, a), (0, b)] i_M_cell [(2, 100), (0, a), (0, b)] σ (fun x y σ2 => y_RT (i + 6) σ2 ∧ x = y) := by
  have e1 := M101 r.2.1 a
  have e2 := M102 r.2.1 a
  have e3 := M103 r.2.1 a
  have e4 := M104 r.2.1 a
  refine xa_cell (fun g => ⟨_, rfl, ?_⟩) (fun g => ⟨_, rfl, ?_⟩) (fun g => ⟨_, rfl, ?_⟩) (fun g => ⟨_, rfl, ?_⟩) (fun g => ⟨_, rfl, ?_⟩) (fun g => ⟨_, rfl, ?_⟩)
  · exact c_M_cell (fun k => ⟨_, rfl, RT6 hi r, rfl⟩) (fun k => by exfalso; omega) (fun k => by exfalso; omega) (fun k => by exfalso; omega) (fun k => by exfalso; omega) (fun k => by exfalso; omega)
  · exact c_M_cell (fun k => by exfalso; omega) (fun k => ⟨_, rfl, RT6 hi r, e1.symm⟩) (fun k => by exfalso; omega) (fun k => by exfalso; omega) (fun k => by exfalso; omega) (fun k => by exfalso; omega)
  · exact c_M_cell (fun k => by exfalso; omega) (fun k => by exfalso; omega) (fun k => ⟨_, rfl, RT6 hi r, e2.symm⟩) (fun k => by exfalso; omega) (fun k => by exfalso; omega) (fun k => by exfalso; omega)
  · exact c_M_cell (fun k => by exfalso; omega) (fun k => by exfalso; omega) (fun k => by exfalso; omega) (fun k => ⟨_, rfl, RT6 hi r, by rw [e1, e2]⟩) (fun k => by exfalso; omega) (fun k => by exfalso; omega)
  · exact c_M_cell (fun k => by exfalso; omega) (fun k => by exfalso; omega) (fun k => by exfalso; omega) (fun k => by exfalso; omega) (fun k => ⟨_, rfl, RT6 hi r, e3.symm⟩) (fun k => by exfalso; omega)
  · exact c_M_cell (fun k => by exfalso; omega) (fun k => by exfalso; omega) (fun k => by exfalso; omega) (fun k => by exfalso; omega) (fun k => by exfalso; omega) (fun k => ⟨_, rfl, RT6 hi r, e4.symm⟩)
theorem r_4 {a b c : Int} {i : Int} {σ : q_S} (hi : 0 ≤ i) (hj : i + 6 ≤ 3072) (h : q_IN σ) (r : y_RT i σ) : q_P2 L xs i_A_rod [(2, 0), (0, a), (0, b), (0, c)] i_M_rod [(2, 100), (0, a), (0, b), (0, c)] σ (fun x y σ2 => y_RT (i + 6) σ2 ∧ x = y) := by
  have S := S_mo (b' := 50000 * (i + 6)) r.1 (by omega)
  have e13 := Ms13 r.2.1
  have hb := S17 r.1
  refine c_A_rod hb (fun g => ⟨_, rfl, ?_⟩) (fun g => ⟨_, rfl, ?_⟩) (fun g => ⟨_, rfl, ?_⟩) (fun g => ⟨_, rfl, ?_⟩)
  · exact c_M_rod (by omega) (fun k => ⟨_, rfl, RT6 hi r, rfl⟩) (fun k => by exfalso; omega) (fun k => by exfalso; omega) (fun k => by exfalso; omega)
  · exact c_M_rod (by omega) (fun k => by exfalso; omega) (fun k => ⟨_, rfl, RT6 hi r, rfl⟩) (fun k => by exfalso; omega) (fun k => by exfalso; omega)
  · exact c_M_rod (by omega) (fun k => by exfalso; omega) (fun k => by exfalso; omega) (fun k => ⟨_, rfl, RT6 hi r, rfl⟩) (fun k => by exfalso; omega)
  · generalize hs : q_up (q_up (q_up (q_up (q_up σ 18 (σ 17 9) a) 19 (σ 17 9) b) 20 (σ 17 9) c) 24 (σ 17 9) (-1)) 17 9 (σ 17 9 + 1) = σ1
    have f1 : ∀ k j, 100 ≤ k → σ1 k j = σ k j := fun k j hk => by rw [← hs, q_un (by omega), q_un (by omega), q_un (by omega), q_un (by omega), q_un (by omega)]
    have e1 := f1 100 13 (by decide)
    have S1 : y_S (50000 * (i + 6)) σ1 := by
      rw [← hs]
      refine S_up (S_fr (S_up (S_fr (S_up S ?_) (by omega)) ?_) (by omega)) ?_
      all_goals (unfold y_ok; omega)
    have d1 : σ1 0 10 = σ 0 10 := by rw [← hs, q_un (by decide), q_un (by decide), q_un (by decide), q_un (by decide), q_un (by decide)]
    refine c_M_rod (by omega) (fun k => by exfalso; omega) (fun k => by exfalso; omega) (fun k => by exfalso; omega) (fun k => ⟨_, rfl, RTmix S1 ?_ (fun k j hk => by rw [q_un (by omega), q_un (by omega), q_un (by omega), q_un (by omega), q_un (by omega), q_un (by omega)]) (by rw [d1]; exact r.2.2), by omega⟩)
    rw [e1, e13]
    have M1 := M_up (k := 100) (i := 13) (k' := 17) (i' := 9) (v := σ 17 9 + 1) (M_l (k := 119) (i := σ 17 9) (v := -1) (M_r (k' := 24) (j' := σ 17 9) (v := -1) (M_l (k := 118) (i := σ 17 9) (v := -1) (M_up (k := 114) (i := σ 17 9) (k' := 20) (i' := σ 17 9) (v := c) (M_up (k := 113) (i := σ 17 9) (k' := 19) (i' := σ 17 9) (v := b) (M_up (k := 112) (i := σ 17 9) (k' := 18) (i' := σ 17 9) (v := a) (M_c1 r.2.1 f1) (by simp [y_rel])) (by simp [y_rel])) (by simp [y_rel])) (fun k j z => by simp [y_rel] at z)) (fun k j z => by simp [y_rel] at z)) (fun k j z => by simp [y_rel] at z)) (by simp [y_rel])
    rw [hs] at M1
    exact M1
theorem r_5 {a b : Int} {i : Int} {σ : q_S} (hi : 0 ≤ i) (hj : i + 6 ≤ 3072) (h : q_IN σ) (r : y_RT i σ) : q_P2 L xs i_A_sluice [(2, 0), (0, a), (0, b)] i_M_sluice [(2, 100), (0, a), (0, b)] σ (fun x y σ2 => y_RT (i + 6) σ2 ∧ x = y) := by
  have S := S_mo (b' := 50000 * (i + 6)) r.1 (by omega)
  have e13 := Ms13 r.2.1
  have hb := S17 r.1
  refine c_A_sluice hb (fun g => ⟨_, rfl, ?_⟩) (fun g => ⟨_, rfl, ?_⟩) (fun g => ⟨_, rfl, ?_⟩)
  · exact c_M_sluice (by omega) (fun k => ⟨_, rfl, RT6 hi r, rfl⟩) (fun k => by exfalso; omega) (fun k => by exfalso; omega)
  · exact c_M_sluice (by omega) (fun k => by exfalso; omega) (fun k => ⟨_, rfl, RT6 hi r, rfl⟩) (fun k => by exfalso; omega)
  · have e1 : q_up σ 21 a b 100 13 = σ 100 13 := q_un (by decide)
    refine c_M_sluice (by omega) (fun k => by exfalso; omega) (fun k => by exfalso; omega) (fun k => ⟨_, rfl, RTmix (S_up S (by unfold y_ok; omega)) (M_up (M_l r.2.1 (fun k j z => by simp [y_rel] at z)) (by simp [y_rel])) (fun k j hk => q_un (by omega)) r.2.2, ?_⟩)
    rw [q_un (by decide)]
    exact (M115 r.2.1 a).symm
theorem M_R6 {σ : q_S} (M : y_M σ σ) : q_R6 σ := fun c _ _ => ⟨(M105 M c).symm, (M106 M c).symm⟩
theorem r_7 {a b c : Int} {i : Int} {σ : q_S} (hi : 0 ≤ i) (hj : i + 6 ≤ 3072) (h : q_IN σ) (r : y_RT i σ) : q_P2 L xs i_A_gate [(2, 0), (0, a), (0, b), (0, c)] i_M_gate [(2, 100), (0, a), (0, b), (0, c)] σ (fun x y σ2 => y_RT (i + 6) σ2 ∧ x = y) := by
  have S := S_mo (b' := 50000 * (i + 6)) r.1 (by omega)
  have r6 := M_R6 r.2.1
  refine c_A_gate (fun g => ⟨_, rfl, ?_⟩) (fun g => ⟨_, rfl, ?_⟩) (fun g => ⟨_, rfl, ?_⟩)
  · exact c_M_gateX (fun k => ⟨_, rfl, RT6 hi r, rfl⟩) (fun k _ => by exfalso; omega) (fun k _ => by exfalso; omega) (fun k _ _ _ _ _ _ => by exfalso; omega)
  · refine c_M_gateX (fun k => by exfalso; omega) (fun k _ => ⟨_, rfl, RT6 hi r, rfl⟩) (fun k _ => ⟨_, rfl, RT6 hi r, rfl⟩) (fun k w h0 h1 hw hp hq => ?_)
    have e := q_gb_w (by omega) (by omega) ⟨h0, h1⟩ hw
    exfalso
    have : 0 ≤ q_gb a b := by rw [e]; repeat' split
                              all_goals omega
    omega
  · refine c_M_gateX (fun k => by exfalso; omega) (fun k hv => ?_) (fun k _ => by exfalso; omega) (fun k w h0 h1 hw hp hq => ⟨_, rfl, RTmix (σ1 := q_up σ 6 (q_gb a b) (if c = 0 then 1 else 0)) (S_fr S (by omega)) ?_ (fun k j hk => q_un (by split <;> omega)) r.2.2, ?_⟩)
    · have := q_gb_n (by omega) (by omega) hv
      exfalso; omega
    · have e := q_gb_w (by omega) (by omega) ⟨h0, h1⟩ hw
      rw [e]
      by_cases c2 : w < 2
      · rw [if_pos c2, if_pos c2]
        exact M_up (M_l r.2.1 (fun k j z => by simp [y_rel] at z)) (by simp [y_rel])
      · rw [if_neg c2, if_neg c2]
        exact M_up (M_l r.2.1 (fun k j z => by simp [y_rel] at z)) (by simp [y_rel])
    · have e1 : ∀ v i, q_sht (q_up σ 6 i v) a w = q_sht σ a w := fun v i => by unfold q_sht; simp (disch := decide) only [q_un]
      rw [e1, q_sht_gb r6 (by omega) (by omega) ⟨h0, h1⟩ hw]
theorem r_8 {a : Int} {i : Int} {σ : q_S} (hi : 0 ≤ i) (hj : i + 6 ≤ 3072) (h : q_IN σ) (r : y_RT i σ) : q_P2 L xs i_A_herd [(2, 0), (0, a)] i_M_herd [(2, 100), (0, a)] σ (fun x y σ2 => y_RT (i + 6) σ2 ∧ x = y) := by
  have S := S_mo (b' := 50000 * (i + 6)) r.1 (by omega)
  have e22 := Ms22 r.2.1
  have hb := S27 r.1
  refine c_A_herd hb (fun g => ⟨_, rfl, ?_⟩) (fun g => ⟨_, rfl, ?_⟩) (fun g => ⟨_, rfl, ?_⟩)
  · exact c_M_herd (by omega) (fun k => ⟨_, rfl, RT6 hi r, rfl⟩) (fun k => by exfalso; omega) (fun k => by exfalso; omega)
  · exact c_M_herd (by omega) (fun k => by exfalso; omega) (fun k => ⟨_, rfl, RT6 hi r, rfl⟩) (fun k => by exfalso; omega)
  · have f1 : ∀ k j, 100 ≤ k → q_up (q_up σ 28 (σ 27 2) a) 27 2 (σ 27 2 + 1) k j = σ k j := fun k j hk => by rw [q_un (by omega), q_un (by omega)]
    have e1 := f1 100 22 (by decide)
    refine c_M_herd (by omega) (fun k => by exfalso; omega) (fun k => by exfalso; omega) (fun k => ⟨_, rfl, RTmix (σ1 := q_up (q_up σ 28 (σ 27 2) a) 27 2 (σ 27 2 + 1)) (S_up (S_up S (by unfold y_ok; omega)) (by unfold y_ok; omega)) ?_ (fun k j hk => by rw [q_un (by omega), q_un (by omega)]) r.2.2, by omega⟩)
    rw [e1, e22]
    exact M_up (M_up (M_c1 r.2.1 f1) (by simp [y_rel])) (by simp [y_rel])
theorem r_9 {a b : Int} {i : Int} {σ : q_S} (hi : 0 ≤ i) (hj : i + 6 ≤ 3072) (h : q_IN σ) (r : y_RT i σ) : q_P2 L xs i_A_drive [(2, 0), (0, a), (0, b)] i_M_drive [(2, 100), (0, a), (0, b)] σ (fun x y σ2 => y_RT (i + 6) σ2 ∧ x = y) := by
  have S := S_mo (b' := 50000 * (i + 6)) r.1 (by omega)
  have e22 := Ms22 r.2.1
  have e120 := M120 r.2.1 a
  have e121 := M121 r.2.1 a
  have hb := S27 r.1
  have hp := S28 r.1 a
  have r6 := M_R6 r.2.1
  have gw : ∀ w, 0 ≤ w → w < 4 → 0 ≤ b → b < 30 → q_bes (σ 120 a) w = b → q_gb (σ 28 a) b ≠ -1 ∧ q_sht σ (σ 120 a) w = σ 6 (q_gb (σ 28 a) b) := fun w h0 h1 b0 b1 hw => by
    rw [e120] at hw ⊢
    refine ⟨?_, q_sht_gb r6 hp ⟨b0, b1⟩ ⟨h0, h1⟩ hw⟩
    have e := q_gb_w hp ⟨b0, b1⟩ ⟨h0, h1⟩ hw
    have : 0 ≤ q_gb (σ 28 a) b := by rw [e]; repeat' split
                                     all_goals omega
    omega
  have gn : 0 ≤ b → b < 30 → (∀ v, 0 ≤ v → v < 4 → q_bes (σ 120 a) v ≠ b) → q_gb (σ 28 a) b = -1 := fun b0 b1 hv => q_gb_n hp ⟨b0, b1⟩ (fun v v0 v1 => by rw [← e120]; exact hv v v0 v1)
  refine xa_drive hb hp (fun g => ⟨_, rfl, ?_⟩) (fun g g2 => ⟨_, rfl, ?_⟩) (fun g g2 g3 => ⟨_, rfl, ?_⟩) (fun g g2 g3 g4 => ⟨_, rfl, ?_⟩)
  · exact za_drive (by omega) (by omega) (fun k => ⟨_, rfl, RT6 hi r, rfl⟩) (fun k _ => by exfalso; omega) (fun k _ _ _ _ _ => by exfalso; omega) (fun k _ _ _ _ _ _ => by exfalso; omega)
  · refine za_drive (by omega) (by omega) (fun k => by exfalso; omega) (fun k _ => ⟨_, rfl, RT6 hi r, rfl⟩) (fun k w h0 h1 hw _ => ?_) (fun k w h0 h1 hw _ _ => ?_)
    all_goals exact absurd g2 (gw w h0 h1 (by omega) (by omega) hw).1
  · refine za_drive (by omega) (by omega) (fun k => by exfalso; omega) (fun k hv => absurd (gn (by omega) (by omega) hv) g2) (fun k w h0 h1 hw _ => ⟨_, rfl, RT6 hi r, rfl⟩) (fun k w h0 h1 hw s0 d0 => ?_)
    have := gw w h0 h1 (by omega) (by omega) hw
    exfalso; omega
  · have f1 : ∀ k j, 100 ≤ k → q_up σ 28 a b k j = σ k j := fun k j hk => q_un (by omega)
    have e1 := f1 100 22 (by decide)
    have e2 := f1 120 a (by decide)
    have e3 := f1 121 a (by decide)
    have es : ∀ w, q_sht (q_up σ 28 a b) (q_up σ 28 a b 120 a) w = q_sht σ (σ 120 a) w := fun w => by rw [e2]; unfold q_sht; simp (disch := decide) only [q_un]
    refine za_drive (by omega) (by omega) (fun k => by exfalso; omega) (fun k hv => absurd (gn (by omega) (by omega) (fun v v0 v1 => by rw [← e2]; exact hv v v0 v1)) g2) (fun k w h0 h1 hw hs => ?_) (fun k w h0 h1 hw s0 d0 => ⟨_, rfl, RTmix (S_up S (by unfold y_ok; omega)) (M_up (M_c1 r.2.1 f1) (by simp [y_rel])) (fun k j hk => q_un (by omega)) r.2.2, by omega⟩)
    rw [es] at hs
    rw [e2] at hw
    have := gw w h0 h1 (by omega) (by omega) hw
    exfalso; omega
theorem r_10 {a : Int} {i : Int} {σ : q_S} (hi : 0 ≤ i) (hj : i + 6 ≤ 3072) (h : q_IN σ) (r : y_RT i σ) : q_P2 L xs i_A_where [(2, 0), (0, a)] i_M_where [(2, 100), (0, a)] σ (fun x y σ2 => y_RT (i + 6) σ2 ∧ x = y) := by
  have e22 := Ms22 r.2.1
  have e120 := M120 r.2.1 a
  have e121 := M121 r.2.1 a
  have hb := S27 r.1
  refine xa_where hb (fun g => ⟨_, rfl, ?_⟩) (fun g => ⟨_, rfl, ?_⟩) (fun g => ⟨_, rfl, ?_⟩)
  · exact c_M_where (by omega) (fun k => ⟨_, rfl, RT6 hi r, rfl⟩) (fun k => by exfalso; omega) (fun k => by exfalso; omega)
  · exact c_M_where (by omega) (fun k => by exfalso; omega) (fun k => ⟨_, rfl, RT6 hi r, rfl⟩) (fun k => by exfalso; omega)
  · exact c_M_where (by omega) (fun k => by exfalso; omega) (fun k => by exfalso; omega) (fun k => ⟨_, rfl, RT6 hi r, e120.symm⟩)
theorem r_12 {a b c : Int} {i : Int} {σ : q_S} (hi : 0 ≤ i) (hj : i + 6 ≤ 3072) (h : q_IN σ) (r : y_RT i σ) : q_P2 L xs i_A_tide [(2, 0), (0, a), (0, b), (0, c)] i_M_tide [(2, 100), (0, a), (0, b), (0, c)] σ (fun x y σ2 => y_RT (i + 6) σ2 ∧ x = y) := by
  have hS := r.1
  refine x_tide (b := 50000 * i) hS (by omega) (fun g => ⟨_, rfl, ?_⟩) (fun g g2 => ⟨_, rfl, ?_⟩) (fun g g2 => ⟨_, rfl, ?_⟩)
  · exact z_tide r.2.1 hS (by omega) (fun k => ⟨_, rfl, RT6 hi r, rfl⟩) (fun k _ => absurd k g) (fun k _ _ _ => absurd k g)
  · exact z_tide r.2.1 hS (by omega) (fun k => absurd g k) (fun k _ => ⟨_, rfl, RT6 hi r, rfl⟩) (fun k k2 _ _ => by have := r.2.2; exfalso; omega)
  · have f1 : ∀ k j, 100 ≤ k → y_A a b c σ k j = σ k j := fun k j hk => (q_un (by omega)).trans ((q_un (by omega)).trans (F_td (by unfold y_k; omega)))
    have M1 := M_c1 r.2.1 f1
    have hI1 : q_MI (y_A a b c σ) := q_MIc (fun k j hk => f1 k j (by unfold q_rel at hk; omega)) h.2.1
    have hSA : y_S (50000 * (i + 6)) (y_A a b c σ) := S_fr (S_fr (S_mo (S_td hS ⟨g.1, g.2.1⟩ ⟨g.2.2.1, g.2.2.2.1⟩ g.2.2.2.2) (by omega)) (by omega)) (by omega)
    have hd : y_A a b c σ 0 10 = σ 0 10 + 1 := by
      unfold y_A
      rw [q_ui (by decide), q_ue, q_w32_id] <;> (have := r.2.2; omega)
    refine q_Kw (q_Kand (fm_12 hI1) (z_tide (K := fun r2 σ2 => r2 = some (0, y_bs (y_td a b c σ) 24) ∧ y_M σ2 (y_A a b c σ)) M1 hS (by omega) (fun k => absurd g k) (fun k k2 => by exfalso; omega) (fun _ _ σ2 M2 => ⟨rfl, M2⟩))) (fun r2 σ2 hh => ?_)
    obtain ⟨⟨y0, e0, fr⟩, e1, M2⟩ := hh
    exact ⟨_, e1, RTmix hSA M2 (fun k j hk => fr k j (by unfold f_m12 q_okT; omega)) (by rw [hd]; have := r.2.2; omega), rfl⟩
theorem r_13 {a : Int} {i : Int} {σ : q_S} (hi : 0 ≤ i) (hj : i + 6 ≤ 3072) (h : q_IN σ) (r : y_RT i σ) : q_P2 L xs i_A_pass [(2, 0), (0, a)] i_M_pass [(2, 100), (0, a)] σ (fun x y σ2 => y_RT (i + 6) σ2 ∧ x = y) := by
  have S := S_mo (b' := 50000 * (i + 6)) r.1 (by omega)
  have e25 := Ms25 r.2.1
  have hd := r.2.2
  have e1 : 1 ≤ a → a ≤ 400 → q_w32 (σ 0 10 + a) = σ 0 10 + a := fun _ _ => by rw [q_w32_id] <;> omega
  refine c_A_pass (fun g => ⟨_, rfl, ?_⟩) (fun g => ⟨_, rfl, ?_⟩) (fun g => ⟨_, rfl, ?_⟩)
  · exact c_M_pass (fun k => ⟨_, rfl, RT6 hi r, rfl⟩) (fun k => by exfalso; omega) (fun k => by exfalso; omega)
  · exact c_M_pass (fun k => by exfalso; omega) (fun k => ⟨_, rfl, RT6 hi r, rfl⟩) (fun k => by rw [e25] at k; exfalso; omega)
  · have e2 : q_up σ 0 10 (q_w32 (σ 0 10 + a)) 100 25 = σ 0 10 := (q_un (by decide)).trans e25
    refine c_M_pass (fun k => by exfalso; omega) (fun k => by rw [e2] at k; exfalso; omega) (fun k => ⟨_, rfl, RTmix (σ1 := q_up σ 0 10 (q_w32 (σ 0 10 + a))) (S_fr S (by omega)) ?_ (fun k j hk => q_un (by omega)) (by rw [q_ue]; have := e1 (by omega) (by omega); omega), by rw [e2]⟩)
    rw [e2]
    exact M_up (M_l r.2.1 (fun k j z => by simp [y_rel] at z)) (by simp [y_rel])
theorem r_14 {i : Int} {σ : q_S} (hi : 0 ≤ i) (hj : i + 6 ≤ 3072) (h : q_IN σ) (r : y_RT i σ) : q_P2 L xs i_A_year [(2, 0)] i_M_year [(2, 100)] σ (fun x y σ2 => y_RT (i + 6) σ2 ∧ x = y) := by
  have hS := r.1
  refine x_yr ⟨_, rfl, ?_⟩
  have f1 : ∀ k j, 100 ≤ k → y_yr σ 30 k j = σ k j := fun k j hk => F_yr (by omega) 30
  have hI1 : q_MI (y_yr σ 30) := q_MIc (fun k j hk => f1 k j (by unfold q_rel at hk; omega)) h.2.1
  refine q_Kw (q_Kand (fm_14 hI1) (z_yr (K := fun r2 σ2 => r2 = some (0, y_yc σ 30) ∧ y_M σ2 (y_yr σ 30)) (M_c1 r.2.1 f1) hS (fun σ2 M2 => ⟨rfl, M2⟩))) (fun r2 σ2 hh => ?_)
  obtain ⟨⟨y0, e0, fr⟩, e1, M2⟩ := hh
  exact ⟨_, e1, RTmix (S_mo (S_yr hS 30) (by omega)) M2 (fun k j hk => fr k j (by unfold f_m14; omega)) (by rw [F_yr (by decide) 30]; exact r.2.2), rfl⟩
theorem r_20 {a b c : Int} {i : Int} {σ : q_S} (hi : 0 ≤ i) (hj : i + 6 ≤ 3072) (h : q_IN σ) (r : y_RT i σ) : q_P2 L xs i_A_mend [(2, 0), (0, a), (0, b), (0, c)] i_M_mend [(2, 100), (0, a), (0, b), (0, c)] σ (fun x y σ2 => y_RT (i + 6) σ2 ∧ x = y) := by
  have S := S_mo (b' := 50000 * (i + 6)) r.1 (by omega)
  have e13 := Ms13 r.2.1
  have e114 := M114 r.2.1 a
  have e139 := M139 r.2.1 b
  have h20 := S20 r.1 a
  have hM := h.2.1
  have hf : ∀ j, 0 ≤ j → j < σ 100 13 → -1 ≤ σ 119 j ∧ σ 119 j < 60 := fun j h0 h1 => by have := hM.2.2.2.2.2.1.2 j h0 h1; have := hM.2.2.2.2.2.1.1; omega
  refine xa_mend h.1 (fun g => ⟨_, rfl, ?_⟩) (fun g => ⟨_, rfl, ?_⟩) (fun g σ1 f => ⟨_, rfl, ?_⟩)
  · exact c_M_mend hM.1 hM.2.2.2.2.2.2.1 hf (fun k => ⟨_, rfl, RT6 hi r, rfl⟩) (fun k => by exfalso; omega) (fun k _ => by exfalso; omega) (fun k _ => by exfalso; omega)
  · exact c_M_mend hM.1 hM.2.2.2.2.2.2.1 hf (fun k => by exfalso; omega) (fun k => ⟨_, rfl, RT6 hi r, rfl⟩) (fun k _ => by exfalso; omega) (fun k _ => by exfalso; omega)
  · have f1 : ∀ k j, 100 ≤ k → σ1 k j = σ k j := fun k j hk => (f k j (by unfold w_fa; omega)).trans ((q_un (by omega)).trans (q_un (by omega)))
    have g114 := f1 114 a (by decide)
    have g139 := f1 139 b (by decide)
    have g13 := f1 100 13 (by decide)
    have hI1 : q_MI σ1 := q_MIc (fun k j hk => f1 k j (by unfold q_rel at hk; omega)) hM
    have hf1 : ∀ j, 0 ≤ j → j < σ1 100 13 → -1 ≤ σ1 119 j ∧ σ1 119 j < 60 := fun j h0 h1 => by have := hI1.2.2.2.2.2.1.2 j h0 h1; have := hI1.2.2.2.2.2.1.1; omega
    have S1 : y_S (50000 * (i + 6)) σ1 := fun k j => by
      by_cases hw : w_fa k j
      · unfold w_fa at hw; unfold y_ok; omega
      · rw [f k j hw]
        exact S_fr (S_up S (by unfold y_ok; omega)) (by omega) k j
    have MM : y_M (q_up (q_up σ1 114 a (σ 20 a + c)) 139 b (q_w32 (σ 26 b + c))) σ1 := fun k j k' j' hr => by
      rw [f k' j' (by unfold w_fa; unfold y_rel at hr; omega)]
      exact M_up (M_up (M_c1 r.2.1 f1) (by simp [y_rel])) (by simp [y_rel]) k j k' j' hr
    have d1 : σ1 0 10 = σ 0 10 := f 0 10 (by unfold w_fa; omega)
    refine c_M_mend hI1.1 hI1.2.2.2.2.2.2.1 hf1 (fun k => by exfalso; omega) (fun k => by exfalso; omega) (fun k _ => ⟨_, rfl, RTmix S1 ?_ (fun k j hk => by rw [q_un (by omega), q_un (by omega)]) (by rw [d1]; exact r.2.2), by omega⟩) (fun k _ => ⟨_, rfl, RTmix S1 ?_ (fun k j hk => by rw [q_un (by omega), q_un (by omega), q_un (by omega), q_un (by omega)]) (by rw [d1]; exact r.2.2), by omega⟩)
    · rw [g114, g139, e114, e139]; exact MM
    · rw [g114, g139, e114, e139]; exact M_l (M_l MM (fun k j z => by simp [y_rel] at z)) (fun k j z => by simp [y_rel] at z)
theorem r_23 {a : Int} {i : Int} {σ : q_S} (hi : 0 ≤ i) (hj : i + 6 ≤ 3072) (h : q_IN σ) (r : y_RT i σ) : q_P2 L xs i_A_mended [(2, 0), (0, a)] i_M_mended [(2, 100), (0, a)] σ (fun x y σ2 => y_RT (i + 6) σ2 ∧ x = y) := by
  have e139 := M139 r.2.1 a
  refine xa_mended (fun g => ⟨_, rfl, ?_⟩) (fun g => ⟨_, rfl, ?_⟩)
  · exact c_M_mended (fun k => ⟨_, rfl, RT6 hi r, rfl⟩) (fun k => by exfalso; omega)
  · exact c_M_mended (fun k => by exfalso; omega) (fun k => ⟨_, rfl, RT6 hi r, e139.symm⟩)
theorem r_2 {a b c d e : Int} {i : Int} {σ : q_S} (hi : 0 ≤ i) (_hj : i + 6 ≤ 3072) (h : q_IN σ) (r : y_RT i σ) : q_P2 L xs i_A_sell [(2, 0), (0, a), (0, b), (0, c), (0, d), (0, e)] i_M_sell [(2, 100), (0, a), (0, b), (0, c), (0, d), (0, e)] σ (fun _ _ σ2 => y_RT (i + 6) σ2) := by
  exact q_P2w (q_fr3 (R := y_RT i) (D := d_RT) (f_2 h) (fun _ _ e r => RTc e r) (fun k i hk => by unfold d_RT at hk; unfold f_m2 w_sa; omega) r) (fun _ _ _ e => RT6 hi e)
theorem r_3 {a b c d : Int} {i : Int} {σ : q_S} (hi : 0 ≤ i) (_hj : i + 6 ≤ 3072) (h : q_IN σ) (r : y_RT i σ) : q_P2 L xs i_A_held [(2, 0), (0, a), (0, b), (0, c), (0, d)] i_M_held [(2, 100), (0, a), (0, b), (0, c), (0, d)] σ (fun _ _ σ2 => y_RT (i + 6) σ2) := by
  exact q_P2w (q_fr3 (R := y_RT i) (D := d_RT) (f_3 h) (fun _ _ e r => RTc e r) (fun k i hk => by unfold d_RT at hk; unfold w_no; omega) r) (fun _ _ _ e => RT6 hi e)
theorem r_6 {a b : Int} {i : Int} {σ : q_S} (hi : 0 ≤ i) (_hj : i + 6 ≤ 3072) (h : q_IN σ) (r : y_RT i σ) : q_P2 L xs i_A_about [(2, 0), (0, a), (0, b)] i_M_about [(2, 100), (0, a), (0, b)] σ (fun _ _ σ2 => y_RT (i + 6) σ2) := by
  exact q_P2w (q_fr3 (R := y_RT i) (D := d_RT) (f_6 h) (fun _ _ e r => RTc e r) (fun k i hk => by unfold d_RT at hk; unfold w_no; omega) r) (fun _ _ _ e => RT6 hi e)
theorem r_11 {a b c : Int} {i : Int} {σ : q_S} (hi : 0 ≤ i) (_hj : i + 6 ≤ 3072) (h : q_IN σ) (r : y_RT i σ) : q_P2 L xs i_A_way [(2, 0), (0, a), (0, b), (0, c)] i_M_way [(2, 100), (0, a), (0, b), (0, c)] σ (fun _ _ σ2 => y_RT (i + 6) σ2) := by
  exact q_P2w (q_fr3 (R := y_RT i) (D := d_RT) (f_11 h) (fun _ _ e r => RTc e r) (fun k i hk => by unfold d_RT at hk; unfold f_m11 w_wy; omega) r) (fun _ _ _ e => RT6 hi e)
theorem r_15 {a b : Int} {i : Int} {σ : q_S} (hi : 0 ≤ i) (_hj : i + 6 ≤ 3072) (h : q_IN σ) (r : y_RT i σ) : q_P2 L xs i_A_feed [(2, 0), (1, a), (0, b)] i_M_feed [(2, 100), (1, a), (0, b)] σ (fun _ _ σ2 => y_RT (i + 6) σ2) := by
  exact q_P2w (q_fr3 (R := y_RT i) (D := d_RT) (f_15 h) (fun _ _ e r => RTc e r) (fun k i hk => by unfold d_RT at hk; unfold f_m15 w_fe; omega) r) (fun _ _ _ e => RT6 hi e)
theorem r_16 {a : Int} {i : Int} {σ : q_S} (hi : 0 ≤ i) (_hj : i + 6 ≤ 3072) (h : q_IN σ) (r : y_RT i σ) : q_P2 L xs i_A_court [(2, 0), (0, a)] i_M_court [(2, 100), (0, a)] σ (fun _ _ σ2 => y_RT (i + 6) σ2) := by
  exact q_P2w (q_fr3 (R := y_RT i) (D := d_RT) (f_16 h) (fun _ _ e r => RTc e r) (fun k i hk => by unfold d_RT at hk; unfold f_m16 w_co; omega) r) (fun _ _ _ e => RT6 hi e)
theorem r_17 {a b c : Int} {i : Int} {σ : q_S} (hi : 0 ≤ i) (_hj : i + 6 ≤ 3072) (h : q_IN σ) (r : y_RT i σ) : q_P2 L xs i_A_custom [(2, 0), (0, a), (0, b), (0, c)] i_M_custom [(2, 100), (0, a), (0, b), (0, c)] σ (fun _ _ σ2 => y_RT (i + 6) σ2) := by
  exact q_P2w (q_fr3 (R := y_RT i) (D := d_RT) (f_17 h) (fun _ _ e r => RTc e r) (fun k i hk => by unfold d_RT at hk; unfold w_no; omega) r) (fun _ _ _ e => RT6 hi e)
theorem r_18 {a b c d : Int} {i : Int} {σ : q_S} (hi : 0 ≤ i) (_hj : i + 6 ≤ 3072) (h : q_IN σ) (r : y_RT i σ) : q_P2 L xs i_A_mender [(2, 0), (0, a), (0, b), (0, c), (0, d)] i_M_mender [(2, 100), (0, a), (0, b), (0, c), (0, d)] σ (fun _ _ σ2 => y_RT (i + 6) σ2) := by
  exact q_P2w (q_fr3 (R := y_RT i) (D := d_RT) (f_18 h) (fun _ _ e r => RTc e r) (fun k i hk => by unfold d_RT at hk; unfold f_m18 w_sh; omega) r) (fun _ _ _ e => RT6 hi e)
theorem r_19 {a : Int} {i : Int} {σ : q_S} (hi : 0 ≤ i) (_hj : i + 6 ≤ 3072) (h : q_IN σ) (r : y_RT i σ) : q_P2 L xs i_A_view [(2, 0), (0, a)] i_M_view [(2, 100), (0, a)] σ (fun _ _ σ2 => y_RT (i + 6) σ2) := by
  exact q_P2w (q_fr3 (R := y_RT i) (D := d_RT) (f_19 h) (fun _ _ e r => RTc e r) (fun k i hk => by unfold d_RT at hk; unfold f_m19 w_vi; omega) r) (fun _ _ _ e => RT6 hi e)
theorem r_21 {a b : Int} {i : Int} {σ : q_S} (hi : 0 ≤ i) (_hj : i + 6 ≤ 3072) (h : q_IN σ) (r : y_RT i σ) : q_P2 L xs i_A_fault [(2, 0), (0, a), (0, b)] i_M_fault [(2, 100), (0, a), (0, b)] σ (fun _ _ σ2 => y_RT (i + 6) σ2) := by
  exact q_P2w (q_fr3 (R := y_RT i) (D := d_RT) (f_21 h) (fun _ _ e r => RTc e r) (fun k i hk => by unfold d_RT at hk; unfold w_no; omega) r) (fun _ _ _ e => RT6 hi e)
theorem r_22 {a : Int} {i : Int} {σ : q_S} (hi : 0 ≤ i) (_hj : i + 6 ≤ 3072) (h : q_IN σ) (r : y_RT i σ) : q_P2 L xs i_A_fines [(2, 0), (0, a)] i_M_fines [(2, 100), (0, a)] σ (fun _ _ σ2 => y_RT (i + 6) σ2) := by
  exact q_P2w (q_fr3 (R := y_RT i) (D := d_RT) (f_22 h) (fun _ _ e r => RTc e r) (fun k i hk => by unfold d_RT at hk; unfold w_no; omega) r) (fun _ _ _ e => RT6 hi e)
theorem r_24 {a b : Int} {i : Int} {σ : q_S} (hi : 0 ≤ i) (_hj : i + 6 ≤ 3072) (h : q_IN σ) (r : y_RT i σ) : q_P2 L xs i_A_works [(2, 0), (0, a), (0, b)] i_M_works [(2, 100), (0, a), (0, b)] σ (fun _ _ σ2 => y_RT (i + 6) σ2) := by
  exact q_P2w (q_fr3 (R := y_RT i) (D := d_RT) (f_24 h) (fun _ _ e r => RTc e r) (fun k i hk => by unfold d_RT at hk; unfold f_m24 w_pl; omega) r) (fun _ _ _ e => RT6 hi e)
theorem r_25 {a b : Int} {i : Int} {σ : q_S} (hi : 0 ≤ i) (_hj : i + 6 ≤ 3072) (h : q_IN σ) (r : y_RT i σ) : q_P2 L xs i_A_scot [(2, 0), (0, a), (0, b)] i_M_scot [(2, 100), (0, a), (0, b)] σ (fun _ _ σ2 => y_RT (i + 6) σ2) := by
  exact q_P2w (q_fr3 (R := y_RT i) (D := d_RT) (f_25 h) (fun _ _ e r => RTc e r) (fun k i hk => by unfold d_RT at hk; unfold f_m25 w_sh; omega) r) (fun _ _ _ e => RT6 hi e)
theorem r_26 {a : Int} {i : Int} {σ : q_S} (hi : 0 ≤ i) (_hj : i + 6 ≤ 3072) (h : q_IN σ) (r : y_RT i σ) : q_P2 L xs i_A_count [(2, 0), (0, a)] i_M_count [(2, 100), (0, a)] σ (fun _ _ σ2 => y_RT (i + 6) σ2) := by
  exact q_P2w (q_fr3 (R := y_RT i) (D := d_RT) (f_26 h) (fun _ _ e r => RTc e r) (fun k i hk => by unfold d_RT at hk; unfold w_no; omega) r) (fun _ _ _ e => RT6 hi e)
end T3
