section P38
variable {L : Nat} {xs : Int → Int}
theorem l_M_wayX {a b : Int} {σ : q_S} {K : q_R → q_S → Prop} (ha : 0 ≤ a ∧ a < 30) (hK : ∀ w, ((w = -1 ∧ ∀ v, 0 ≤ v → v < 4 → q_bes a v ≠ b) ∨ (0 ≤ w ∧ w < 4 ∧ q_bes a w = b)) → K (some (0, w)) σ) :
    ∀ (m : Nat) (w : Int), 4 - w < m → 0 ≤ w → w ≤ 4 → (∀ v, 0 ≤ v → v < w → q_bes a v ≠ b) → q_E L xs k_M_wayTo (2, [(0, a), (0, b), (0, w)], [], σ) K := by
  intro m
  induction m with
  | zero => intro w; omega
  | succ m ih =>
    intro w hm hw hw2 hp
    have e : q_w32 (w + 1) = w + 1 := by rw [q_w32_id] <;> omega
    refine q_go1 120 2 [2] (fun cl ev hcl hev => ?_)
    repeat' (first | refine And.intro ?_ ?_ | (intro hq; first | exact absurd hq (by decide) | exact absurd rfl hq | exact absurd hq (show ¬ (1 : Int) = 0 by decide) | exact absurd (show (1 : Int) ≠ 0 by decide) hq | skip) | refine hcl _ _ _ _ (c_M_beside ha ?_))
    all_goals first
      | omega
      | exact hK _ (Or.inl ⟨rfl, fun v h0 h1 => hp v h0 (by omega)⟩)
      | exact hK _ (Or.inr ⟨by omega, by omega, by omega⟩)
      | (refine hev _ ?_
         rw [e]
         refine ih (w + 1) (by omega) (by omega) (by omega) (fun v h0 h1 => ?_)
         by_cases ev : v = w
         · subst ev; assumption
         · exact hp v h0 (by omega))
theorem c_M_wayX {a b : Int} {σ : q_S} {K : q_R → q_S → Prop} (ha : 0 ≤ a ∧ a < 30) (hK : ∀ w, ((w = -1 ∧ ∀ v, 0 ≤ v → v < 4 → q_bes a v ≠ b) ∨ (0 ≤ w ∧ w < 4 ∧ q_bes a w = b)) → K (some (0, w)) σ) : q_K L xs i_M_wayTo [(0, a), (0, b)] σ K := by
  refine q_call k_M_wayTo 3 rfl ?_
  show q_E L xs k_M_wayTo (0, [(0, a), (0, b), (9, 0)], [], σ) K
  refine q_go1 120 0 [2] (fun cl ev hcl hev => ?_)
  exact hev _ (l_M_wayX ha hK 5 0 (by omega) (by omega) (by omega) (fun v h0 h1 => by omega))
theorem c_M_gateX {a b p : Int} {σ : q_S} {K : q_R → q_S → Prop} (h0 : ¬ (0 ≤ a ∧ a ≤ 29 ∧ 0 ≤ b ∧ b ≤ 29) → K (some (0, -1)) σ) (h2 : (0 ≤ a ∧ a ≤ 29 ∧ 0 ≤ b ∧ b ≤ 29) → (∀ v, 0 ≤ v → v < 4 → q_bes a v ≠ b) → K (some (0, -2)) σ) (h3 : (0 ≤ a ∧ a ≤ 29 ∧ 0 ≤ b ∧ b ≤ 29) → ¬ (0 ≤ p ∧ p ≤ 1) → K (some (0, -2)) σ)
    (h1 : (0 ≤ a ∧ a ≤ 29 ∧ 0 ≤ b ∧ b ≤ 29) → ∀ w, 0 ≤ w → w < 4 → q_bes a w = b → 0 ≤ p → p ≤ 1 → K (some (0, if q_sht σ a w = 0 then 1 else 0)) (q_up σ (if w < 2 then 105 else 106) (if a < b then a else b) (if p = 0 then 1 else 0))) : q_K L xs i_M_gate [(2, 100), (0, a), (0, b), (0, p)] σ K := by
  refine q_call k_M_gate 7 rfl ?_
  show q_E L xs k_M_gate (0, [(2, 100), (0, a), (0, b), (0, p), (9, 0), (9, 0), (9, 0)], [], σ) K
  refine q_go1 200 0 [] (fun cl ev hcl hev => ?_)
  repeat' (first | refine And.intro ?_ ?_ | (intro hq; first | exact absurd hq (by decide) | exact absurd rfl hq | exact absurd hq (show ¬ (1 : Int) = 0 by decide) | exact absurd (show (1 : Int) ≠ 0 by decide) hq | skip) | refine hcl _ _ _ _ (c_M_in ?_ ?_) | refine hcl _ _ _ _ (c_M_isCell ?_ ?_) | refine hcl _ _ _ _ (c_M_wayX (by omega) (fun w hw => ?_)) | refine hcl _ _ _ _ (c_M_isOpen (by omega) (by omega) ?_ ?_))
  all_goals first
    | omega
    | exact h0 (by omega)
    | exact h3 (by omega) (by omega)
    | exact h2 (by omega) (hw.elim (fun z => z.2) (fun z => absurd z.1 (by omega)))
    | (refine q_kvs (h1 (by omega) w (by omega) (by omega) (by omega) (by omega) (by omega)) ?_ ?_ <;> (repeat' split) <;> first | rfl | omega | (exfalso; omega))
theorem q_b0 (c : Int) : q_bes c 0 = if c % 6 = 0 then -1 else c - 1 := by unfold q_bes; rw [if_pos rfl]
theorem q_b1 (c : Int) : q_bes c 1 = if c % 6 = 5 then -1 else c + 1 := by unfold q_bes; rw [if_neg (show ¬ (1 : Int) = 0 by decide), if_pos rfl]
theorem q_b2 (c : Int) : q_bes c 2 = if c < 6 then -1 else c - 6 := by unfold q_bes; rw [if_neg (show ¬ (2 : Int) = 0 by decide), if_neg (show ¬ (2 : Int) = 1 by decide), if_pos rfl]
theorem q_b3 (c : Int) : q_bes c 3 = if 24 ≤ c then -1 else c + 6 := by unfold q_bes; rw [if_neg (show ¬ (3 : Int) = 0 by decide), if_neg (show ¬ (3 : Int) = 1 by decide), if_neg (show ¬ (3 : Int) = 2 by decide)]
theorem q_gb_w {a b w : Int} (ha : 0 ≤ a ∧ a < 30) (hb : 0 ≤ b ∧ b < 30) (hw : 0 ≤ w ∧ w < 4) (h : q_bes a w = b) : q_gb a b = if w < 2 then 2 * (if a < b then a else b) else 2 * (if a < b then a else b) + 1 := by
  have h4 : w = 0 ∨ w = 1 ∨ w = 2 ∨ w = 3 := by omega
  unfold q_gb
  rcases h4 with rfl | rfl | rfl | rfl
  · rw [q_b0] at h
    have hh : a % 6 ≠ 0 ∧ b = a - 1 := by split at h <;> omega
    rw [show min a b = b by omega, show max a b = a by omega, q_b1, if_neg (show ¬ b % 6 = 5 by omega), if_pos (show b + 1 = a by omega), if_pos (show (0 : Int) < 2 by decide), if_neg (show ¬ a < b by omega)]
  · rw [q_b1] at h
    have hh : a % 6 ≠ 5 ∧ b = a + 1 := by split at h <;> omega
    rw [show min a b = a by omega, show max a b = b by omega, q_b1, if_neg (show ¬ a % 6 = 5 by omega), if_pos (show a + 1 = b by omega), if_pos (show (1 : Int) < 2 by decide), if_pos (show a < b by omega)]
  · rw [q_b2] at h
    have hh : 6 ≤ a ∧ b = a - 6 := by split at h <;> omega
    rw [show min a b = b by omega, show max a b = a by omega, q_b1, if_neg (show ¬ (if b % 6 = 5 then -1 else b + 1) = a by split <;> omega), q_b3, if_neg (show ¬ 24 ≤ b by omega), if_pos (show b + 6 = a by omega), if_neg (show ¬ (2 : Int) < 2 by decide), if_neg (show ¬ a < b by omega)]
  · rw [q_b3] at h
    have hh : a < 24 ∧ b = a + 6 := by split at h <;> omega
    rw [show min a b = a by omega, show max a b = b by omega, q_b1, if_neg (show ¬ (if a % 6 = 5 then -1 else a + 1) = b by split <;> omega), q_b3, if_neg (show ¬ 24 ≤ a by omega), if_pos (show a + 6 = b by omega), if_neg (show ¬ (3 : Int) < 2 by decide), if_pos (show a < b by omega)]
theorem q_gb_n {a b : Int} (ha : 0 ≤ a ∧ a < 30) (hb : 0 ≤ b ∧ b < 30) (h : ∀ v, 0 ≤ v → v < 4 → q_bes a v ≠ b) : q_gb a b = -1 := by
  unfold q_gb
  by_cases hab : a ≤ b
  · rw [show min a b = a by omega, show max a b = b by omega, if_neg (h 1 (by omega) (by omega)), if_neg (h 3 (by omega) (by omega))]
  · have n1 : ¬ q_bes b 1 = a := fun e => h 0 (by omega) (by omega) (by
      rw [q_b1] at e
      rw [q_b0]
      split at e
      · omega
      · rw [if_neg (by omega)]; omega)
    have n3 : ¬ q_bes b 3 = a := fun e => h 2 (by omega) (by omega) (by
      rw [q_b3] at e
      rw [q_b2]
      split at e
      · omega
      · rw [if_neg (by omega)]; omega)
    rw [show min a b = b by omega, show max a b = a by omega, if_neg n1, if_neg n3]
end P38

/-- the gates are alike -/
def q_R6 (σ : q_S) : Prop := ∀ c, 0 ≤ c → c < 30 → σ 6 (2 * c) = σ 105 c ∧ σ 6 (2 * c + 1) = σ 106 c
def d_R6 (k _i : Int) : Prop := k = 6 ∨ k = 105 ∨ k = 106
theorem q_R6c {σ σ' : q_S} (h : ∀ k i, d_R6 k i → σ' k i = σ k i) (r : q_R6 σ) : q_R6 σ' := fun c h0 h1 => by
  rw [h 6 _ (by unfold d_R6; omega), h 6 _ (by unfold d_R6; omega), h 105 _ (by unfold d_R6; omega), h 106 _ (by unfold d_R6; omega)]
  exact r c h0 h1
theorem q_sht_gb {σ : q_S} {a b w : Int} (r : q_R6 σ) (ha : 0 ≤ a ∧ a < 30) (hb : 0 ≤ b ∧ b < 30) (hw : 0 ≤ w ∧ w < 4) (h : q_bes a w = b) : q_sht σ a w = σ 6 (q_gb a b) := by
  rw [q_gb_w ha hb hw h]
  have h4 : w = 0 ∨ w = 1 ∨ w = 2 ∨ w = 3 := by omega
  rcases h4 with rfl | rfl | rfl | rfl
  · have hb2 : b = a - 1 := by unfold q_bes at h; repeat' split at h
                               all_goals omega
    rw [if_pos (by decide), if_neg (by omega), (r b hb.1 hb.2).1, hb2]; rfl
  · have hb2 : b = a + 1 := by unfold q_bes at h; repeat' split at h
                               all_goals omega
    rw [if_pos (by decide), if_pos (by omega), (r a ha.1 ha.2).1]; rfl
  · have hb2 : b = a - 6 := by unfold q_bes at h; repeat' split at h
                               all_goals omega
    rw [if_neg (by decide), if_neg (by omega), (r b hb.1 hb.2).2, hb2]; rfl
  · have hb2 : b = a + 6 := by unfold q_bes at h; repeat' split at h
                               all_goals omega
    rw [if_neg (by decide), if_pos (by omega), (r a ha.1 ha.2).2]; rfl

theorem q_R6g {σ : q_S} {a b w v : Int} (r : q_R6 σ) (ha : 0 ≤ a ∧ a < 30) (hb : 0 ≤ b ∧ b < 30) (hg : q_gb a b = if w < 2 then 2 * (if a < b then a else b) else 2 * (if a < b then a else b) + 1) : q_R6 (q_up (q_up σ 6 (q_gb a b) v) (if w < 2 then 105 else 106) (if a < b then a else b) v) := by
  have hm : 0 ≤ (if a < b then a else b) ∧ (if a < b then a else b) < 30 := by split <;> omega
  generalize (if a < b then a else b) = m at hg hm ⊢
  by_cases h2 : w < 2
  · rw [if_pos h2] at hg ⊢
    intro c h0 h1
    rw [hg, q_un (k := 105) (k' := 6) (by decide), q_un (k := 105) (k' := 6) (by decide), q_un (k := 105) (k' := 106) (by decide), q_un (k := 6) (k' := 106) (by decide), q_ui (i' := 2 * c + 1) (by omega)]
    refine ⟨?_, (r c h0 h1).2⟩
    by_cases e : c = m
    · rw [e, q_ue, q_ue]
    · rw [q_ui (by omega), q_ui e, q_un (by decide)]; exact (r c h0 h1).1
  · rw [if_neg h2] at hg ⊢
    intro c h0 h1
    rw [hg, q_un (k := 106) (k' := 6) (by decide), q_un (k := 106) (k' := 6) (by decide), q_un (k := 106) (k' := 105) (by decide), q_un (k := 6) (k' := 105) (by decide), q_ui (i' := 2 * c) (by omega)]
    refine ⟨(r c h0 h1).1, ?_⟩
    by_cases e : c = m
    · rw [e, q_ue, q_ue]
    · rw [q_ui (by omega), q_ui e, q_un (by decide)]; exact (r c h0 h1).2
section P82
variable {L : Nat} {xs : Int → Int}
theorem g_7 {a b c : Int} {σ : q_S} (_h : q_IN σ) (r : q_R6 σ) : q_P2 L xs i_A_gate [(2, 0), (0, a), (0, b), (0, c)] i_M_gate [(2, 100), (0, a), (0, b), (0, c)] σ (fun x y σ2 => q_R6 σ2 ∧ x = y) := by
  refine c_A_gate (fun g => ⟨_, rfl, ?_⟩) (fun g => ⟨_, rfl, ?_⟩) (fun g => ⟨_, rfl, ?_⟩)
  · exact c_M_gateX (fun k => ⟨_, rfl, r, rfl⟩) (fun k _ => by exfalso; omega) (fun k _ => by exfalso; omega) (fun k _ _ _ _ _ _ => by exfalso; omega)
  · refine c_M_gateX (fun k => by exfalso; omega) (fun k _ => ⟨_, rfl, r, rfl⟩) (fun k _ => ⟨_, rfl, r, rfl⟩) (fun k w h0 h1 hw hp hq => ?_)
    have e := q_gb_w (by omega) (by omega) ⟨h0, h1⟩ hw
    exfalso
    have : 0 ≤ q_gb a b := by rw [e]; repeat' split
                              all_goals omega
    omega
  · refine c_M_gateX (fun k => by exfalso; omega) (fun k hv => ?_) (fun k _ => by exfalso; omega) (fun k w h0 h1 hw hp hq => ⟨_, rfl, q_R6g r (by omega) (by omega) (q_gb_w (by omega) (by omega) ⟨h0, h1⟩ hw), ?_⟩)
    · have := q_gb_n (by omega) (by omega) hv
      exfalso; omega
    · have e1 : ∀ v i, q_sht (q_up σ 6 i v) a w = q_sht σ a w := fun v i => by unfold q_sht; simp (disch := decide) only [q_un]
      rw [e1, q_sht_gb r (by omega) (by omega) ⟨h0, h1⟩ hw]
theorem g_0 {a b : Int} {σ : q_S} (h : q_IN σ) (r : q_R6 σ) : q_P2 L xs i_A_level [(2, 0), (0, a), (0, b)] i_M_level [(2, 100), (0, a), (0, b)] σ (fun _ _ σ2 => q_R6 σ2) :=
  q_fr3 (D := d_R6) (f_0 h) (fun _ _ e r => q_R6c e r) (fun k i hk => by unfold d_R6 at hk; unfold f_a0 f_m0; omega) r
theorem g_1 {a b : Int} {σ : q_S} (h : q_IN σ) (r : q_R6 σ) : q_P2 L xs i_A_cell [(2, 0), (0, a), (0, b)] i_M_cell [(2, 100), (0, a), (0, b)] σ (fun _ _ σ2 => q_R6 σ2) :=
  q_fr3 (D := d_R6) (f_1 h) (fun _ _ e r => q_R6c e r) (fun k i hk => by unfold d_R6 at hk; unfold w_no; omega) r
theorem g_2 {a b c d e : Int} {σ : q_S} (h : q_IN σ) (r : q_R6 σ) : q_P2 L xs i_A_sell [(2, 0), (0, a), (0, b), (0, c), (0, d), (0, e)] i_M_sell [(2, 100), (0, a), (0, b), (0, c), (0, d), (0, e)] σ (fun _ _ σ2 => q_R6 σ2) :=
  q_fr3 (D := d_R6) (f_2 h) (fun _ _ e r => q_R6c e r) (fun k i hk => by unfold d_R6 at hk; unfold f_m2 w_sa; omega) r
theorem g_3 {a b c d : Int} {σ : q_S} (h : q_IN σ) (r : q_R6 σ) : q_P2 L xs i_A_held [(2, 0), (0, a), (0, b), (0, c), (0, d)] i_M_held [(2, 100), (0, a), (0, b), (0, c), (0, d)] σ (fun _ _ σ2 => q_R6 σ2) :=
  q_fr3 (D := d_R6) (f_3 h) (fun _ _ e r => q_R6c e r) (fun k i hk => by unfold d_R6 at hk; unfold w_no; omega) r
theorem g_4 {a b c : Int} {σ : q_S} (h : q_IN σ) (r : q_R6 σ) : q_P2 L xs i_A_rod [(2, 0), (0, a), (0, b), (0, c)] i_M_rod [(2, 100), (0, a), (0, b), (0, c)] σ (fun _ _ σ2 => q_R6 σ2) :=
  q_fr3 (D := d_R6) (f_4 h) (fun _ _ e r => q_R6c e r) (fun k i hk => by unfold d_R6 at hk; unfold f_m4 w_rod; omega) r
theorem g_5 {a b : Int} {σ : q_S} (h : q_IN σ) (r : q_R6 σ) : q_P2 L xs i_A_sluice [(2, 0), (0, a), (0, b)] i_M_sluice [(2, 100), (0, a), (0, b)] σ (fun _ _ σ2 => q_R6 σ2) :=
  q_fr3 (D := d_R6) (f_5 h) (fun _ _ e r => q_R6c e r) (fun k i hk => by unfold d_R6 at hk; unfold f_a5 f_m5; omega) r
theorem g_6 {a b : Int} {σ : q_S} (h : q_IN σ) (r : q_R6 σ) : q_P2 L xs i_A_about [(2, 0), (0, a), (0, b)] i_M_about [(2, 100), (0, a), (0, b)] σ (fun _ _ σ2 => q_R6 σ2) :=
  q_fr3 (D := d_R6) (f_6 h) (fun _ _ e r => q_R6c e r) (fun k i hk => by unfold d_R6 at hk; unfold w_no; omega) r
theorem g_8 {a : Int} {σ : q_S} (h : q_IN σ) (r : q_R6 σ) : q_P2 L xs i_A_herd [(2, 0), (0, a)] i_M_herd [(2, 100), (0, a)] σ (fun _ _ σ2 => q_R6 σ2) :=
  q_fr3 (D := d_R6) (f_8 h) (fun _ _ e r => q_R6c e r) (fun k i hk => by unfold d_R6 at hk; unfold f_a8 f_m8; omega) r
theorem g_9 {a b : Int} {σ : q_S} (h : q_IN σ) (r : q_R6 σ) : q_P2 L xs i_A_drive [(2, 0), (0, a), (0, b)] i_M_drive [(2, 100), (0, a), (0, b)] σ (fun _ _ σ2 => q_R6 σ2) :=
  q_fr3 (D := d_R6) (f_9 h) (fun _ _ e r => q_R6c e r) (fun k i hk => by unfold d_R6 at hk; unfold f_m9 w_hd; omega) r
theorem g_10 {a : Int} {σ : q_S} (h : q_IN σ) (r : q_R6 σ) : q_P2 L xs i_A_where [(2, 0), (0, a)] i_M_where [(2, 100), (0, a)] σ (fun _ _ σ2 => q_R6 σ2) :=
  q_fr3 (D := d_R6) (f_10 h) (fun _ _ e r => q_R6c e r) (fun k i hk => by unfold d_R6 at hk; unfold w_no; omega) r
theorem g_11 {a b c : Int} {σ : q_S} (h : q_IN σ) (r : q_R6 σ) : q_P2 L xs i_A_way [(2, 0), (0, a), (0, b), (0, c)] i_M_way [(2, 100), (0, a), (0, b), (0, c)] σ (fun _ _ σ2 => q_R6 σ2) :=
  q_fr3 (D := d_R6) (f_11 h) (fun _ _ e r => q_R6c e r) (fun k i hk => by unfold d_R6 at hk; unfold f_m11 w_wy; omega) r
theorem g_12 {a b c : Int} {σ : q_S} (h : q_IN σ) (r : q_R6 σ) : q_P2 L xs i_A_tide [(2, 0), (0, a), (0, b), (0, c)] i_M_tide [(2, 100), (0, a), (0, b), (0, c)] σ (fun _ _ σ2 => q_R6 σ2) :=
  q_fr3 (D := d_R6) (f_12 h) (fun _ _ e r => q_R6c e r) (fun k i hk => by unfold d_R6 at hk; unfold f_a12 f_m12 q_okT w_tide; omega) r
theorem g_13 {a : Int} {σ : q_S} (h : q_IN σ) (r : q_R6 σ) : q_P2 L xs i_A_pass [(2, 0), (0, a)] i_M_pass [(2, 100), (0, a)] σ (fun _ _ σ2 => q_R6 σ2) :=
  q_fr3 (D := d_R6) (f_13 h) (fun _ _ e r => q_R6c e r) (fun k i hk => by unfold d_R6 at hk; unfold f_a13 f_m13; omega) r
theorem g_14 {σ : q_S} (h : q_IN σ) (r : q_R6 σ) : q_P2 L xs i_A_year [(2, 0)] i_M_year [(2, 100)] σ (fun _ _ σ2 => q_R6 σ2) :=
  q_fr3 (D := d_R6) (f_14 h) (fun _ _ e r => q_R6c e r) (fun k i hk => by unfold d_R6 at hk; unfold f_m14 w_tide; omega) r
theorem g_15 {a b : Int} {σ : q_S} (h : q_IN σ) (r : q_R6 σ) : q_P2 L xs i_A_feed [(2, 0), (1, a), (0, b)] i_M_feed [(2, 100), (1, a), (0, b)] σ (fun _ _ σ2 => q_R6 σ2) :=
  q_fr3 (D := d_R6) (f_15 h) (fun _ _ e r => q_R6c e r) (fun k i hk => by unfold d_R6 at hk; unfold f_m15 w_fe; omega) r
theorem g_16 {a : Int} {σ : q_S} (h : q_IN σ) (r : q_R6 σ) : q_P2 L xs i_A_court [(2, 0), (0, a)] i_M_court [(2, 100), (0, a)] σ (fun _ _ σ2 => q_R6 σ2) :=
  q_fr3 (D := d_R6) (f_16 h) (fun _ _ e r => q_R6c e r) (fun k i hk => by unfold d_R6 at hk; unfold f_m16 w_co; omega) r
theorem g_17 {a b c : Int} {σ : q_S} (h : q_IN σ) (r : q_R6 σ) : q_P2 L xs i_A_custom [(2, 0), (0, a), (0, b), (0, c)] i_M_custom [(2, 100), (0, a), (0, b), (0, c)] σ (fun _ _ σ2 => q_R6 σ2) :=
  q_fr3 (D := d_R6) (f_17 h) (fun _ _ e r => q_R6c e r) (fun k i hk => by unfold d_R6 at hk; unfold w_no; omega) r
theorem g_18 {a b c d : Int} {σ : q_S} (h : q_IN σ) (r : q_R6 σ) : q_P2 L xs i_A_mender [(2, 0), (0, a), (0, b), (0, c), (0, d)] i_M_mender [(2, 100), (0, a), (0, b), (0, c), (0, d)] σ (fun _ _ σ2 => q_R6 σ2) :=
  q_fr3 (D := d_R6) (f_18 h) (fun _ _ e r => q_R6c e r) (fun k i hk => by unfold d_R6 at hk; unfold f_m18 w_sh; omega) r
theorem g_19 {a : Int} {σ : q_S} (h : q_IN σ) (r : q_R6 σ) : q_P2 L xs i_A_view [(2, 0), (0, a)] i_M_view [(2, 100), (0, a)] σ (fun _ _ σ2 => q_R6 σ2) :=
  q_fr3 (D := d_R6) (f_19 h) (fun _ _ e r => q_R6c e r) (fun k i hk => by unfold d_R6 at hk; unfold f_m19 w_vi; omega) r
theorem g_20 {a b c : Int} {σ : q_S} (h : q_IN σ) (r : q_R6 σ) : q_P2 L xs i_A_mend [(2, 0), (0, a), (0, b), (0, c)] i_M_mend [(2, 100), (0, a), (0, b), (0, c)] σ (fun _ _ σ2 => q_R6 σ2) :=
  q_fr3 (D := d_R6) (f_20 h) (fun _ _ e r => q_R6c e r) (fun k i hk => by unfold d_R6 at hk; unfold f_m20 w_me; omega) r
theorem g_21 {a b : Int} {σ : q_S} (h : q_IN σ) (r : q_R6 σ) : q_P2 L xs i_A_fault [(2, 0), (0, a), (0, b)] i_M_fault [(2, 100), (0, a), (0, b)] σ (fun _ _ σ2 => q_R6 σ2) :=
  q_fr3 (D := d_R6) (f_21 h) (fun _ _ e r => q_R6c e r) (fun k i hk => by unfold d_R6 at hk; unfold w_no; omega) r
theorem g_22 {a : Int} {σ : q_S} (h : q_IN σ) (r : q_R6 σ) : q_P2 L xs i_A_fines [(2, 0), (0, a)] i_M_fines [(2, 100), (0, a)] σ (fun _ _ σ2 => q_R6 σ2) :=
  q_fr3 (D := d_R6) (f_22 h) (fun _ _ e r => q_R6c e r) (fun k i hk => by unfold d_R6 at hk; unfold w_no; omega) r
theorem g_23 {a : Int} {σ : q_S} (h : q_IN σ) (r : q_R6 σ) : q_P2 L xs i_A_mended [(2, 0), (0, a)] i_M_mended [(2, 100), (0, a)] σ (fun _ _ σ2 => q_R6 σ2) :=
  q_fr3 (D := d_R6) (f_23 h) (fun _ _ e r => q_R6c e r) (fun k i hk => by unfold d_R6 at hk; unfold w_no; omega) r
theorem g_24 {a b : Int} {σ : q_S} (h : q_IN σ) (r : q_R6 σ) : q_P2 L xs i_A_works [(2, 0), (0, a), (0, b)] i_M_works [(2, 100), (0, a), (0, b)] σ (fun _ _ σ2 => q_R6 σ2) :=
  q_fr3 (D := d_R6) (f_24 h) (fun _ _ e r => q_R6c e r) (fun k i hk => by unfold d_R6 at hk; unfold f_m24 w_pl; omega) r
theorem g_25 {a b : Int} {σ : q_S} (h : q_IN σ) (r : q_R6 σ) : q_P2 L xs i_A_scot [(2, 0), (0, a), (0, b)] i_M_scot [(2, 100), (0, a), (0, b)] σ (fun _ _ σ2 => q_R6 σ2) :=
  q_fr3 (D := d_R6) (f_25 h) (fun _ _ e r => q_R6c e r) (fun k i hk => by unfold d_R6 at hk; unfold f_m25 w_sh; omega) r
theorem g_26 {a : Int} {σ : q_S} (h : q_IN σ) (r : q_R6 σ) : q_P2 L xs i_A_count [(2, 0), (0, a)] i_M_count [(2, 100), (0, a)] σ (fun _ _ σ2 => q_R6 σ2) :=
  q_fr3 (D := d_R6) (f_26 h) (fun _ _ e r => q_R6c e r) (fun k i hk => by unfold d_R6 at hk; unfold w_no; omega) r
end P82
