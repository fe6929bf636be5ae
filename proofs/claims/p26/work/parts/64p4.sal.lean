theorem q_arow_m {σ : q_S} {c f t p d k i : Int} (h : 100 ≤ k) : q_arow σ c f t p d k i = σ k i := by
  unfold q_arow
  rw [q_un (by omega), q_un (by omega), q_un (by omega), q_un (by omega), q_un (by omega), q_un (by omega)]
theorem q_arow_b {σ : q_S} {c f t p d k i : Int} (hk : 8 ≤ k ∧ k ≤ 12) (h : i ≠ σ 7 5) : q_arow σ c f t p d k i = σ k i := by
  unfold q_arow
  rw [q_un (by omega), q_ui h, q_ui h, q_ui h, q_ui h, q_ui h]
theorem q_arow_o {σ : q_S} {c f t p d k i : Int} (h : ¬ (8 ≤ k ∧ k ≤ 12) ∧ ¬ (k = 7 ∧ i = 5)) : q_arow σ c f t p d k i = σ k i := by
  unfold q_arow
  rw [q_unn h.2, q_un (by omega), q_un (by omega), q_un (by omega), q_un (by omega), q_un (by omega)]

def d_SC (k i : Int) : Prop := (8 ≤ k ∧ k ≤ 12) ∨ (k = 7 ∧ i = 5) ∨ (107 ≤ k ∧ k ≤ 111) ∨ (k = 100 ∧ i = 7)
theorem q_SCc {σ σ' : q_S} (h : ∀ k i, d_SC k i → σ' k i = σ k i) (r : q_SC σ) : q_SC σ' := by
  refine ⟨by rw [h 7 5 (by unfold d_SC; omega), h 100 7 (by unfold d_SC; omega)]; exact r.1, fun j hj => ?_⟩
  rw [h 7 5 (by unfold d_SC; omega)] at hj
  rw [h 8 j (by unfold d_SC; omega), h 9 j (by unfold d_SC; omega), h 10 j (by unfold d_SC; omega), h 11 j (by unfold d_SC; omega), h 12 j (by unfold d_SC; omega), h 107 j (by unfold d_SC; omega), h 108 j (by unfold d_SC; omega), h 109 j (by unfold d_SC; omega), h 110 j (by unfold d_SC; omega), h 111 j (by unfold d_SC; omega)]
  exact r.2 j hj
theorem q_SCrow {σ : q_S} {c f t p d : Int} (r5 : q_SC σ) : q_SC (q_srow σ c f t p d) := by
  have g : ∀ k i, ¬ (107 ≤ k ∧ k ≤ 111) → q_srow σ c f t p d k i = σ k i := fun k i hk => q_srow_o hk
  refine ⟨by rw [g 7 5 (by omega), g 100 7 (by omega)]; exact r5.1, fun j hj => ?_⟩
  rw [g 7 5 (by omega)] at hj
  have hne : (j : Int) ≠ σ 100 7 := by have := r5.1; omega
  rw [g 8 j (by omega), g 9 j (by omega), g 10 j (by omega), g 11 j (by omega), g 12 j (by omega), q_srow_b (k := 107) hne, q_srow_b (k := 108) hne, q_srow_b (k := 109) hne, q_srow_b (k := 110) hne, q_srow_b (k := 111) hne]
  exact r5.2 j hj
theorem q_SCsell {σ : q_S} {c f t p d : Int} (r5 : q_SC σ) (hc : 0 ≤ c ∧ c ≤ 29) : q_SC (q_up (q_srow (q_arow σ c f t p d) c f t p d) 100 7 (q_arow σ c f t p d 100 7 + 1)) := by
  have e7 : q_arow σ c f t p d 100 7 = σ 100 7 := q_arow_m (by decide)
  have gA : ∀ k i, k < 100 → q_up (q_srow (q_arow σ c f t p d) c f t p d) 100 7 (q_arow σ c f t p d 100 7 + 1) k i = q_arow σ c f t p d k i := fun k i hk => (q_un (by omega)).trans (q_srow_o (by omega))
  have a5 : q_arow σ c f t p d 7 5 = σ 7 5 + 1 := by unfold q_arow; rw [q_ue]
  have w8 : q_arow σ c f t p d 8 (σ 7 5) = c := by unfold q_arow; rw [q_un (by decide), q_un (by decide), q_un (by decide), q_un (by decide), q_un (by decide), q_ue]
  have w9 : q_arow σ c f t p d 9 (σ 7 5) = f := by unfold q_arow; rw [q_un (by decide), q_un (by decide), q_un (by decide), q_un (by decide), q_ue]
  have w10 : q_arow σ c f t p d 10 (σ 7 5) = t := by unfold q_arow; rw [q_un (by decide), q_un (by decide), q_un (by decide), q_ue]
  have w11 : q_arow σ c f t p d 11 (σ 7 5) = p := by unfold q_arow; rw [q_un (by decide), q_un (by decide), q_ue]
  have w12 : q_arow σ c f t p d 12 (σ 7 5) = d := by unfold q_arow; rw [q_un (by decide), q_ue]
  refine ⟨?_, fun j hj => ?_⟩
  · rw [gA 7 5 (by decide), a5, q_ue, e7, r5.1]
  · rw [gA 7 5 (by decide), a5] at hj
    have s7 := r5.1
    rw [gA 8 j (by decide), gA 9 j (by decide), gA 10 j (by decide), gA 11 j (by decide), gA 12 j (by decide), q_un (k' := 107) (by decide), q_un (k' := 108) (by decide), q_un (k' := 109) (by decide), q_un (k' := 110) (by decide), q_un (k' := 111) (by decide)]
    by_cases e : (j : Int) = σ 7 5
    · have e2 : (j : Int) = q_arow σ c f t p d 100 7 := by omega
      have v7 : q_srow (q_arow σ c f t p d) c f t p d 107 j = c := by rw [e2]; unfold q_srow; rw [q_un (by decide), q_un (by decide), q_un (by decide), q_un (by decide), q_ue]
      have v8 : q_srow (q_arow σ c f t p d) c f t p d 108 j = f := by rw [e2]; unfold q_srow; rw [q_un (by decide), q_un (by decide), q_un (by decide), q_ue]
      have v9 : q_srow (q_arow σ c f t p d) c f t p d 109 j = t := by rw [e2]; unfold q_srow; rw [q_un (by decide), q_un (by decide), q_ue]
      have v10 : q_srow (q_arow σ c f t p d) c f t p d 110 j = p := by rw [e2]; unfold q_srow; rw [q_un (by decide), q_ue]
      have v11 : q_srow (q_arow σ c f t p d) c f t p d 111 j = d := by rw [e2]; unfold q_srow; rw [q_ue]
      rw [v7, v8, v9, v10, v11, e, w8, w9, w10, w11, w12]
      omega
    · have hne : (j : Int) ≠ q_arow σ c f t p d 100 7 := by omega
      rw [q_arow_b (k := 8) (by decide) e, q_arow_b (k := 9) (by decide) e, q_arow_b (k := 10) (by decide) e, q_arow_b (k := 11) (by decide) e, q_arow_b (k := 12) (by decide) e, q_srow_b (k := 107) hne, q_srow_b (k := 108) hne, q_srow_b (k := 109) hne, q_srow_b (k := 110) hne, q_srow_b (k := 111) hne, q_arow_m (k := 107) (by decide), q_arow_m (k := 108) (by decide), q_arow_m (k := 109) (by decide), q_arow_m (k := 110) (by decide), q_arow_m (k := 111) (by decide)]
      exact r5.2 j (by omega)

theorem q_bad_c {σ σ' : q_S} {c f t p d : Int} (h : ∀ k i, 100 ≤ k → σ' k i = σ k i) (hb : q_bad σ' c f t p d) : q_bad σ c f t p d := by
  have e : ∀ k i, 100 ≤ k → q_srow σ' c f t p d k i = q_srow σ c f t p d k i := by
    intro k i hk
    unfold q_srow
    rw [h 100 7 (by decide)]
    unfold q_up
    repeat' split
    all_goals first | rfl | exact h _ _ hk
  obtain ⟨i, hi, h7, hn⟩ := hb
  rw [h 100 7 (by decide)] at hi hn
  rw [e 107 _ (by decide)] at h7
  rw [e 111 _ (by decide), q_hof_c (fun k i hk => e k i (by omega))] at hn
  exact ⟨i, hi, h7, hn⟩

section P82b
variable {L : Nat} {xs : Int → Int}
theorem q_SCp {σ : q_S} (hI : q_IS σ) (r : q_SC σ) : (0 ≤ σ 7 5 ∧ σ 7 5 ≤ 120) ∧ ∀ j : Nat, (j : Int) < σ 7 5 → 0 ≤ σ 11 j ∧ σ 11 j ≤ 12 := by
  refine ⟨by have := hI.1; have := r.1; omega, fun j hj => ?_⟩
  have a := r.2 j hj
  have b := hI.2.1 j (by have := r.1; omega)
  omega
theorem s_2 {a b c d e : Int} {σ : q_S} (h : q_IN σ) (r : q_SC σ) : q_P2 L xs i_A_sell [(2, 0), (0, a), (0, b), (0, c), (0, d), (0, e)] i_M_sell [(2, 100), (0, a), (0, b), (0, c), (0, d), (0, e)] σ (fun x y σ2 => q_SC σ2 ∧ x = y) := by
  have hI : q_IS σ := h.2.1.2.2.2.1
  have hp := q_SCp hI r
  have e5 := r.1
  refine c_sellX hp.1 hp.2 (fun g => ⟨_, rfl, ?_⟩) (fun g => ⟨_, rfl, ?_⟩) (fun g => ⟨_, rfl, ?_⟩) (fun g hd => ⟨_, rfl, ?_⟩) (fun g hd => ⟨_, rfl, ?_⟩)
  · exact c_M_sellX hI (fun k => ⟨_, rfl, r, rfl⟩) (fun k => by exfalso; omega) (fun k => by exfalso; omega) (fun k _ => by exfalso; omega) (fun k _ => by exfalso; omega)
  · exact c_M_sellX hI (fun k => by exfalso; omega) (fun k => ⟨_, rfl, r, rfl⟩) (fun k => by exfalso; omega) (fun k _ => by exfalso; omega) (fun k _ => by exfalso; omega)
  · exact c_M_sellX hI (fun k => by exfalso; omega) (fun k => by exfalso; omega) (fun k => ⟨_, rfl, r, rfl⟩) (fun k _ => by exfalso; omega) (fun k _ => by exfalso; omega)
  · refine c_M_sellX hI (fun k => by exfalso; omega) (fun k => by exfalso; omega) (fun k => by exfalso; omega) (fun k _ => ⟨_, rfl, q_SCrow r, rfl⟩) (fun k hn => ?_)
    obtain ⟨i, i1, i2, i3⟩ := (q_dbt_bad (t := c) hI r (by omega) (by omega)).mp hd
    have := hn i i1 i2
    exfalso; omega
  · have em : ∀ k i, 100 ≤ k → q_arow σ a b c d e k i = σ k i := fun k i hk => q_arow_m hk
    have hIs : q_IS (q_arow σ a b c d e) := q_IS_c (fun k i hk => em k i (by omega)) (em 100 7 (by decide)) hI
    have e7 := em 100 7 (by decide)
    refine c_M_sellX hIs (fun k => by exfalso; omega) (fun k => by exfalso; omega) (fun k => by exfalso; omega) (fun k hb => ?_) (fun k hn => ⟨_, rfl, q_SCsell r (by omega), by omega⟩)
    exact absurd ((q_dbt_bad (t := c) hI r (by omega) (by omega)).mpr (q_bad_c em hb)) hd
theorem s_3 {a b c d : Int} {σ : q_S} (h : q_IN σ) (r : q_SC σ) : q_P2 L xs i_A_held [(2, 0), (0, a), (0, b), (0, c), (0, d)] i_M_held [(2, 100), (0, a), (0, b), (0, c), (0, d)] σ (fun x y σ2 => q_SC σ2 ∧ x = y) := by
  have hI : q_IS σ := h.2.1.2.2.2.1
  have hp := q_SCp hI r
  have e5 := r.1
  have hpm : ∀ j : Nat, (j : Int) < σ 100 7 → 0 ≤ σ 110 j ∧ σ 110 j ≤ 12 := fun j hj => by have := hI.2.1 j hj; omega
  refine c_heldX hp.1 hp.2 (fun g => ⟨_, rfl, ?_⟩) (fun g => ⟨_, rfl, ?_⟩) (fun g => ⟨_, rfl, ?_⟩)
  · exact c_M_held hI.1 hpm (fun k => ⟨_, rfl, r, rfl⟩) (fun k => by exfalso; omega) (fun k => by exfalso; omega) (fun k => by exfalso; omega)
  · exact c_M_held hI.1 hpm (fun k => by exfalso; omega) (fun k => ⟨_, rfl, r, rfl⟩) (fun k => by exfalso; omega) (fun k => by exfalso; omega)
  · refine c_M_held hI.1 hpm (fun k => by exfalso; omega) (fun k => by exfalso; omega) (fun k => ⟨_, rfl, r, ?_⟩) (fun k => ⟨_, rfl, r, ?_⟩)
    · rw [k.1]
      exact q_pof_hal _ (fun j hj => r.2 j (by omega))
    · exact q_pof_hof (by omega) _ (fun j hj => by have := r.2 j (by omega); omega)

theorem s_0 {a b : Int} {σ : q_S} (h : q_IN σ) (r : q_SC σ) : q_P2 L xs i_A_level [(2, 0), (0, a), (0, b)] i_M_level [(2, 100), (0, a), (0, b)] σ (fun _ _ σ2 => q_SC σ2) :=
  q_fr3 (D := d_SC) (f_0 h) (fun _ _ e r => q_SCc e r) (fun k i hk => by unfold d_SC at hk; unfold f_a0 f_m0; omega) r
theorem s_1 {a b : Int} {σ : q_S} (h : q_IN σ) (r : q_SC σ) : q_P2 L xs i_A_cell [(2, 0), (0, a), (0, b)] i_M_cell [(2, 100), (0, a), (0, b)] σ (fun _ _ σ2 => q_SC σ2) :=
  q_fr3 (D := d_SC) (f_1 h) (fun _ _ e r => q_SCc e r) (fun k i hk => by unfold d_SC at hk; unfold w_no; omega) r
theorem s_4 {a b c : Int} {σ : q_S} (h : q_IN σ) (r : q_SC σ) : q_P2 L xs i_A_rod [(2, 0), (0, a), (0, b), (0, c)] i_M_rod [(2, 100), (0, a), (0, b), (0, c)] σ (fun _ _ σ2 => q_SC σ2) :=
  q_fr3 (D := d_SC) (f_4 h) (fun _ _ e r => q_SCc e r) (fun k i hk => by unfold d_SC at hk; unfold f_m4 w_rod; omega) r
theorem s_5 {a b : Int} {σ : q_S} (h : q_IN σ) (r : q_SC σ) : q_P2 L xs i_A_sluice [(2, 0), (0, a), (0, b)] i_M_sluice [(2, 100), (0, a), (0, b)] σ (fun _ _ σ2 => q_SC σ2) :=
  q_fr3 (D := d_SC) (f_5 h) (fun _ _ e r => q_SCc e r) (fun k i hk => by unfold d_SC at hk; unfold f_a5 f_m5; omega) r
theorem s_6 {a b : Int} {σ : q_S} (h : q_IN σ) (r : q_SC σ) : q_P2 L xs i_A_about [(2, 0), (0, a), (0, b)] i_M_about [(2, 100), (0, a), (0, b)] σ (fun _ _ σ2 => q_SC σ2) :=
  q_fr3 (D := d_SC) (f_6 h) (fun _ _ e r => q_SCc e r) (fun k i hk => by unfold d_SC at hk; unfold w_no; omega) r
theorem s_7 {a b c : Int} {σ : q_S} (h : q_IN σ) (r : q_SC σ) : q_P2 L xs i_A_gate [(2, 0), (0, a), (0, b), (0, c)] i_M_gate [(2, 100), (0, a), (0, b), (0, c)] σ (fun _ _ σ2 => q_SC σ2) :=
  q_fr3 (D := d_SC) (f_7 h) (fun _ _ e r => q_SCc e r) (fun k i hk => by unfold d_SC at hk; unfold f_a7 f_m7; omega) r
theorem s_8 {a : Int} {σ : q_S} (h : q_IN σ) (r : q_SC σ) : q_P2 L xs i_A_herd [(2, 0), (0, a)] i_M_herd [(2, 100), (0, a)] σ (fun _ _ σ2 => q_SC σ2) :=
  q_fr3 (D := d_SC) (f_8 h) (fun _ _ e r => q_SCc e r) (fun k i hk => by unfold d_SC at hk; unfold f_a8 f_m8; omega) r
theorem s_9 {a b : Int} {σ : q_S} (h : q_IN σ) (r : q_SC σ) : q_P2 L xs i_A_drive [(2, 0), (0, a), (0, b)] i_M_drive [(2, 100), (0, a), (0, b)] σ (fun _ _ σ2 => q_SC σ2) :=
  q_fr3 (D := d_SC) (f_9 h) (fun _ _ e r => q_SCc e r) (fun k i hk => by unfold d_SC at hk; unfold f_m9 w_hd; omega) r
theorem s_10 {a : Int} {σ : q_S} (h : q_IN σ) (r : q_SC σ) : q_P2 L xs i_A_where [(2, 0), (0, a)] i_M_where [(2, 100), (0, a)] σ (fun _ _ σ2 => q_SC σ2) :=
  q_fr3 (D := d_SC) (f_10 h) (fun _ _ e r => q_SCc e r) (fun k i hk => by unfold d_SC at hk; unfold w_no; omega) r
theorem s_11 {a b c : Int} {σ : q_S} (h : q_IN σ) (r : q_SC σ) : q_P2 L xs i_A_way [(2, 0), (0, a), (0, b), (0, c)] i_M_way [(2, 100), (0, a), (0, b), (0, c)] σ (fun _ _ σ2 => q_SC σ2) :=
  q_fr3 (D := d_SC) (f_11 h) (fun _ _ e r => q_SCc e r) (fun k i hk => by unfold d_SC at hk; unfold f_m11 w_wy; omega) r
theorem s_12 {a b c : Int} {σ : q_S} (h : q_IN σ) (r : q_SC σ) : q_P2 L xs i_A_tide [(2, 0), (0, a), (0, b), (0, c)] i_M_tide [(2, 100), (0, a), (0, b), (0, c)] σ (fun _ _ σ2 => q_SC σ2) :=
  q_fr3 (D := d_SC) (f_12 h) (fun _ _ e r => q_SCc e r) (fun k i hk => by unfold d_SC at hk; unfold f_a12 f_m12 q_okT w_tide; omega) r
theorem s_13 {a : Int} {σ : q_S} (h : q_IN σ) (r : q_SC σ) : q_P2 L xs i_A_pass [(2, 0), (0, a)] i_M_pass [(2, 100), (0, a)] σ (fun _ _ σ2 => q_SC σ2) :=
  q_fr3 (D := d_SC) (f_13 h) (fun _ _ e r => q_SCc e r) (fun k i hk => by unfold d_SC at hk; unfold f_a13 f_m13; omega) r
theorem s_14 {σ : q_S} (h : q_IN σ) (r : q_SC σ) : q_P2 L xs i_A_year [(2, 0)] i_M_year [(2, 100)] σ (fun _ _ σ2 => q_SC σ2) :=
  q_fr3 (D := d_SC) (f_14 h) (fun _ _ e r => q_SCc e r) (fun k i hk => by unfold d_SC at hk; unfold f_m14 w_tide; omega) r
theorem s_15 {a b : Int} {σ : q_S} (h : q_IN σ) (r : q_SC σ) : q_P2 L xs i_A_feed [(2, 0), (1, a), (0, b)] i_M_feed [(2, 100), (1, a), (0, b)] σ (fun _ _ σ2 => q_SC σ2) :=
  q_fr3 (D := d_SC) (f_15 h) (fun _ _ e r => q_SCc e r) (fun k i hk => by unfold d_SC at hk; unfold f_m15 w_fe; omega) r
theorem s_16 {a : Int} {σ : q_S} (h : q_IN σ) (r : q_SC σ) : q_P2 L xs i_A_court [(2, 0), (0, a)] i_M_court [(2, 100), (0, a)] σ (fun _ _ σ2 => q_SC σ2) :=
  q_fr3 (D := d_SC) (f_16 h) (fun _ _ e r => q_SCc e r) (fun k i hk => by unfold d_SC at hk; unfold f_m16 w_co; omega) r
theorem s_17 {a b c : Int} {σ : q_S} (h : q_IN σ) (r : q_SC σ) : q_P2 L xs i_A_custom [(2, 0), (0, a), (0, b), (0, c)] i_M_custom [(2, 100), (0, a), (0, b), (0, c)] σ (fun _ _ σ2 => q_SC σ2) :=
  q_fr3 (D := d_SC) (f_17 h) (fun _ _ e r => q_SCc e r) (fun k i hk => by unfold d_SC at hk; unfold w_no; omega) r
theorem s_18 {a b c d : Int} {σ : q_S} (h : q_IN σ) (r : q_SC σ) : q_P2 L xs i_A_mender [(2, 0), (0, a), (0, b), (0, c), (0, d)] i_M_mender [(2, 100), (0, a), (0, b), (0, c), (0, d)] σ (fun _ _ σ2 => q_SC σ2) :=
  q_fr3 (D := d_SC) (f_18 h) (fun _ _ e r => q_SCc e r) (fun k i hk => by unfold d_SC at hk; unfold f_m18 w_sh; omega) r
theorem s_19 {a : Int} {σ : q_S} (h : q_IN σ) (r : q_SC σ) : q_P2 L xs i_A_view [(2, 0), (0, a)] i_M_view [(2, 100), (0, a)] σ (fun _ _ σ2 => q_SC σ2) :=
  q_fr3 (D := d_SC) (f_19 h) (fun _ _ e r => q_SCc e r) (fun k i hk => by unfold d_SC at hk; unfold f_m19 w_vi; omega) r
theorem s_20 {a b c : Int} {σ : q_S} (h : q_IN σ) (r : q_SC σ) : q_P2 L xs i_A_mend [(2, 0), (0, a), (0, b), (0, c)] i_M_mend [(2, 100), (0, a), (0, b), (0, c)] σ (fun _ _ σ2 => q_SC σ2) :=
  q_fr3 (D := d_SC) (f_20 h) (fun _ _ e r => q_SCc e r) (fun k i hk => by unfold d_SC at hk; unfold f_m20 w_me; omega) r
theorem s_21 {a b : Int} {σ : q_S} (h : q_IN σ) (r : q_SC σ) : q_P2 L xs i_A_fault [(2, 0), (0, a), (0, b)] i_M_fault [(2, 100), (0, a), (0, b)] σ (fun _ _ σ2 => q_SC σ2) :=
  q_fr3 (D := d_SC) (f_21 h) (fun _ _ e r => q_SCc e r) (fun k i hk => by unfold d_SC at hk; unfold w_no; omega) r
theorem s_22 {a : Int} {σ : q_S} (h : q_IN σ) (r : q_SC σ) : q_P2 L xs i_A_fines [(2, 0), (0, a)] i_M_fines [(2, 100), (0, a)] σ (fun _ _ σ2 => q_SC σ2) :=
  q_fr3 (D := d_SC) (f_22 h) (fun _ _ e r => q_SCc e r) (fun k i hk => by unfold d_SC at hk; unfold w_no; omega) r
theorem s_23 {a : Int} {σ : q_S} (h : q_IN σ) (r : q_SC σ) : q_P2 L xs i_A_mended [(2, 0), (0, a)] i_M_mended [(2, 100), (0, a)] σ (fun _ _ σ2 => q_SC σ2) :=
  q_fr3 (D := d_SC) (f_23 h) (fun _ _ e r => q_SCc e r) (fun k i hk => by unfold d_SC at hk; unfold w_no; omega) r
theorem s_24 {a b : Int} {σ : q_S} (h : q_IN σ) (r : q_SC σ) : q_P2 L xs i_A_works [(2, 0), (0, a), (0, b)] i_M_works [(2, 100), (0, a), (0, b)] σ (fun _ _ σ2 => q_SC σ2) :=
  q_fr3 (D := d_SC) (f_24 h) (fun _ _ e r => q_SCc e r) (fun k i hk => by unfold d_SC at hk; unfold f_m24 w_pl; omega) r
theorem s_25 {a b : Int} {σ : q_S} (h : q_IN σ) (r : q_SC σ) : q_P2 L xs i_A_scot [(2, 0), (0, a), (0, b)] i_M_scot [(2, 100), (0, a), (0, b)] σ (fun _ _ σ2 => q_SC σ2) :=
  q_fr3 (D := d_SC) (f_25 h) (fun _ _ e r => q_SCc e r) (fun k i hk => by unfold d_SC at hk; unfold f_m25 w_sh; omega) r
theorem s_26 {a : Int} {σ : q_S} (h : q_IN σ) (r : q_SC σ) : q_P2 L xs i_A_count [(2, 0), (0, a)] i_M_count [(2, 100), (0, a)] σ (fun _ _ σ2 => q_SC σ2) :=
  q_fr3 (D := d_SC) (f_26 h) (fun _ _ e r => q_SCc e r) (fun k i hk => by unfold d_SC at hk; unfold w_no; omega) r
end P82b
