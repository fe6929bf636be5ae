theorem q_hq {high i : Int} (hh : 0 ≤ high ∧ high ≤ 120) (hi : 0 ≤ i ∧ i < 6) : 0 ≤ q_w32 ((q_w32 (high * (if i < 3 then q_w32 (i + 2) else q_w32 (6 - i)))).tdiv 4) ∧ q_w32 ((q_w32 (high * (if i < 3 then q_w32 (i + 2) else q_w32 (6 - i)))).tdiv 4) ≤ 200 := by
  have hq : ∃ q : Int, 0 ≤ high * q ∧ high * q ≤ 480 ∧ (if i < 3 then q_w32 (i + 2) else q_w32 (6 - i)) = q := by
    have h6 : i = 0 ∨ i = 1 ∨ i = 2 ∨ i = 3 ∨ i = 4 ∨ i = 5 := by omega
    rcases h6 with rfl | rfl | rfl | rfl | rfl | rfl
    · exact ⟨2, by omega, by omega, by decide⟩
    · exact ⟨3, by omega, by omega, by decide⟩
    · exact ⟨4, by omega, by omega, by decide⟩
    · exact ⟨3, by omega, by omega, by decide⟩
    · exact ⟨2, by omega, by omega, by decide⟩
    · exact ⟨1, by omega, by omega, by decide⟩
  obtain ⟨q, h0, h1, e⟩ := hq
  rw [e, show q_w32 (high * q) = high * q from q_w32_id (by omega) (by omega), q_td h0, q_w32_id (by omega) (by omega)]
  omega
section P34
variable {L : Nat} {xs : Int → Int}
theorem l_M_hour6 {sea wind rain : Int} {σ0 : q_S} {K : q_R → q_S → Prop} (hB : q_TB σ0) (hw : 0 ≤ wind ∧ wind ≤ 3) (hs : 0 ≤ sea ∧ sea ≤ 200) (hK : ∀ σ', q_TT σ0 σ' → K none σ') :
    ∀ (m : Nat) (i : Int) (σ : q_S), 30 - i < m → 0 ≤ i → i ≤ 30 → q_TT σ0 σ → q_E L xs k_M_hour (109, [(2, 100), (0, sea), (0, wind), (0, rain), (0, i)], [], σ) K := by
  intro m
  induction m with
  | zero => intro i; have := hB.1; have := hB.2.1; omega
  | succ m ih =>
    intro i σ hm hi hi3 h
    have hb1 := hB.1
    have hb2 := hB.2.1
    have e13 : σ 100 13 = σ0 100 13 := q_TTe h (by unfold q_okT; omega)
    have e22 : σ 100 22 = σ0 100 22 := q_TTe h (by unfold q_okT; omega)
    have e : i < 30 → q_w32 (i + 1) = i + 1 := fun _ => by rw [q_w32_id] <;> omega
    refine q_go1 120 109 [2, 13, 39, 51, 80, 109] (fun cl ev hcl hev => ?_)
    repeat' (first | refine And.intro ?_ ?_ | (intro hq; first | exact absurd hq (by decide) | exact absurd rfl hq | exact absurd hq (show ¬ (1 : Int) = 0 by decide) | exact absurd (show (1 : Int) ≠ 0 by decide) hq | skip) | refine hcl _ _ _ _ (c_M_flees (by omega) h (fun σ1 h1 => ?_)))
    all_goals first
      | omega
      | (refine hev _ ?_; rw [e (by omega)]; exact ih _ _ (by omega) (by omega) (by omega) (by assumption))
      | exact hK _ h

theorem l_M_hour5 {sea wind rain : Int} {σ0 : q_S} {K : q_R → q_S → Prop} (hB : q_TB σ0) (hw : 0 ≤ wind ∧ wind ≤ 3) (hs : 0 ≤ sea ∧ sea ≤ 200) (hK : ∀ σ', q_TT σ0 σ' → K none σ') :
    ∀ (m : Nat) (i : Int) (σ : q_S), 30 - i < m → 0 ≤ i → i ≤ 30 → q_TT σ0 σ → q_E L xs k_M_hour (80, [(2, 100), (0, sea), (0, wind), (0, rain), (0, i)], [], σ) K := by
  intro m
  induction m with
  | zero => intro i; have := hB.1; have := hB.2.1; omega
  | succ m ih =>
    intro i σ hm hi hi3 h
    have hb1 := hB.1
    have hb2 := hB.2.1
    have e13 : σ 100 13 = σ0 100 13 := q_TTe h (by unfold q_okT; omega)
    have e22 : σ 100 22 = σ0 100 22 := q_TTe h (by unfold q_okT; omega)
    have e : i < 30 → q_w32 (i + 1) = i + 1 := fun _ => by rw [q_w32_id] <;> omega
    refine q_go1 120 80 [2, 13, 39, 51, 80, 109] (fun cl ev hcl hev => ?_)
    repeat' (first | refine And.intro ?_ ?_ | (intro hq; first | exact absurd hq (by decide) | exact absurd rfl hq | exact absurd hq (show ¬ (1 : Int) = 0 by decide) | exact absurd (show (1 : Int) ≠ 0 by decide) hq | skip))
    all_goals first
      | omega
      | (refine hev _ ?_; rw [e (by omega)]; exact ih _ _ (by omega) (by omega) (by omega) (q_TTs h (by omega)))
      | exact hev _ (l_M_hour6 hB hw hs hK 31 0 _ (by omega) (by omega) (by omega) (by assumption))

theorem l_M_hour4 {sea wind rain : Int} {σ0 : q_S} {K : q_R → q_S → Prop} (hB : q_TB σ0) (hw : 0 ≤ wind ∧ wind ≤ 3) (hs : 0 ≤ sea ∧ sea ≤ 200) (hK : ∀ σ', q_TT σ0 σ' → K none σ') :
    ∀ (m : Nat) (i : Int) (σ : q_S), 30 - i < m → 0 ≤ i → i ≤ 30 → q_TT σ0 σ → q_E L xs k_M_hour (51, [(2, 100), (0, sea), (0, wind), (0, rain), (0, i)], [], σ) K := by
  intro m
  induction m with
  | zero => intro i; have := hB.1; have := hB.2.1; omega
  | succ m ih =>
    intro i σ hm hi hi3 h
    have hb1 := hB.1
    have hb2 := hB.2.1
    have e13 : σ 100 13 = σ0 100 13 := q_TTe h (by unfold q_okT; omega)
    have e22 : σ 100 22 = σ0 100 22 := q_TTe h (by unfold q_okT; omega)
    have e : i < 30 → q_w32 (i + 1) = i + 1 := fun _ => by rw [q_w32_id] <;> omega
    have hbs := fun hc => q_bes_in (c := i) (w := 1) hc
    have hbs3 := fun hc => q_bes_in (c := i) (w := 3) hc
    refine q_go1 120 51 [2, 13, 39, 51, 80, 109] (fun cl ev hcl hev => ?_)
    repeat' (first | refine And.intro ?_ ?_ | (intro hq; first | exact absurd hq (by decide) | exact absurd rfl hq | exact absurd hq (show ¬ (1 : Int) = 0 by decide) | exact absurd (show (1 : Int) ≠ 0 by decide) hq | skip) | refine hcl _ _ _ _ (c_M_beside (by omega) ?_) | refine hcl _ _ _ _ (c_M_levels (by omega) (by omega) (by assumption) (fun σ1 h1 => ?_)))
    all_goals first
      | omega
      | (refine hev _ ?_; rw [e (by omega)]; exact ih _ _ (by omega) (by omega) (by omega) (by assumption))
      | (refine hev _ ?_; rw [e (by omega)]; exact ih _ _ (by omega) (by omega) (by omega) h)
      | exact hev _ (l_M_hour5 hB hw hs hK 31 0 _ (by omega) (by omega) (by omega) (by assumption))

theorem l_M_hour3 {sea wind rain : Int} {σ0 : q_S} {K : q_R → q_S → Prop} (hB : q_TB σ0) (hw : 0 ≤ wind ∧ wind ≤ 3) (hs : 0 ≤ sea ∧ sea ≤ 200) (hK : ∀ σ', q_TT σ0 σ' → K none σ') :
    ∀ (m : Nat) (i : Int) (σ : q_S), 30 - i < m → 0 ≤ i → i ≤ 30 → q_TT σ0 σ → q_E L xs k_M_hour (39, [(2, 100), (0, sea), (0, wind), (0, rain), (0, i)], [], σ) K := by
  intro m
  induction m with
  | zero => intro i; have := hB.1; have := hB.2.1; omega
  | succ m ih =>
    intro i σ hm hi hi3 h
    have hb1 := hB.1
    have hb2 := hB.2.1
    have e13 : σ 100 13 = σ0 100 13 := q_TTe h (by unfold q_okT; omega)
    have e22 : σ 100 22 = σ0 100 22 := q_TTe h (by unfold q_okT; omega)
    have e : i < 30 → q_w32 (i + 1) = i + 1 := fun _ => by rw [q_w32_id] <;> omega
    refine q_go1 120 39 [2, 13, 39, 51, 80, 109] (fun cl ev hcl hev => ?_)
    repeat' (first | refine And.intro ?_ ?_ | (intro hq; first | exact absurd hq (by decide) | exact absurd rfl hq | exact absurd hq (show ¬ (1 : Int) = 0 by decide) | exact absurd (show (1 : Int) ≠ 0 by decide) hq | skip) | refine hcl _ _ _ _ (c_M_opens hB (by omega) h (fun σ1 h1 => ?_)))
    all_goals first
      | omega
      | (refine hev _ ?_; rw [e (by omega)]; exact ih _ _ (by omega) (by omega) (by omega) (by assumption))
      | exact hev _ (l_M_hour4 hB hw hs hK 31 0 _ (by omega) (by omega) (by omega) (by assumption))

theorem l_M_hour2 {sea wind rain : Int} {σ0 : q_S} {K : q_R → q_S → Prop} (hB : q_TB σ0) (hw : 0 ≤ wind ∧ wind ≤ 3) (hs : 0 ≤ sea ∧ sea ≤ 200) (hK : ∀ σ', q_TT σ0 σ' → K none σ') :
    ∀ (m : Nat) (i : Int) (σ : q_S), 30 - i < m → 0 ≤ i → i ≤ 30 → q_TT σ0 σ → q_E L xs k_M_hour (13, [(2, 100), (0, sea), (0, wind), (0, rain), (0, i)], [], σ) K := by
  intro m
  induction m with
  | zero => intro i; have := hB.1; have := hB.2.1; omega
  | succ m ih =>
    intro i σ hm hi hi3 h
    have hb1 := hB.1
    have hb2 := hB.2.1
    have e13 : σ 100 13 = σ0 100 13 := q_TTe h (by unfold q_okT; omega)
    have e22 : σ 100 22 = σ0 100 22 := q_TTe h (by unfold q_okT; omega)
    have e : i < 30 → q_w32 (i + 1) = i + 1 := fun _ => by rw [q_w32_id] <;> omega
    refine q_go1 120 13 [2, 13, 39, 51, 80, 109] (fun cl ev hcl hev => ?_)
    repeat' (first | refine And.intro ?_ ?_ | (intro hq; first | exact absurd hq (by decide) | exact absurd rfl hq | exact absurd hq (show ¬ (1 : Int) = 0 by decide) | exact absurd (show (1 : Int) ≠ 0 by decide) hq | skip) | refine hcl _ _ _ _ (c_M_stands hB (by omega) hw hs h (fun σ1 b hb h1 => ?_)))
    all_goals first
      | omega
      | (refine hev _ ?_; rw [e (by omega)]; exact ih _ _ (by omega) (by omega) (by omega) (q_TTs (by assumption) (by omega)))
      | exact hev _ (l_M_hour3 hB hw hs hK 31 0 _ (by omega) (by omega) (by omega) (by assumption))

theorem l_M_hour1 {sea wind rain : Int} {σ0 : q_S} {K : q_R → q_S → Prop} (hB : q_TB σ0) (hw : 0 ≤ wind ∧ wind ≤ 3) (hs : 0 ≤ sea ∧ sea ≤ 200) (hK : ∀ σ', q_TT σ0 σ' → K none σ') :
    ∀ (m : Nat) (i : Int) (σ : q_S), 30 - i < m → 0 ≤ i → i ≤ 30 → q_TT σ0 σ → q_E L xs k_M_hour (2, [(2, 100), (0, sea), (0, wind), (0, rain), (0, i)], [], σ) K := by
  intro m
  induction m with
  | zero => intro i; have := hB.1; have := hB.2.1; omega
  | succ m ih =>
    intro i σ hm hi hi3 h
    have hb1 := hB.1
    have hb2 := hB.2.1
    have e13 : σ 100 13 = σ0 100 13 := q_TTe h (by unfold q_okT; omega)
    have e22 : σ 100 22 = σ0 100 22 := q_TTe h (by unfold q_okT; omega)
    have e : i < 30 → q_w32 (i + 1) = i + 1 := fun _ => by rw [q_w32_id] <;> omega
    refine q_go1 120 2 [2, 13, 39, 51, 80, 109] (fun cl ev hcl hev => ?_)
    repeat' (first | refine And.intro ?_ ?_ | (intro hq; first | exact absurd hq (by decide) | exact absurd rfl hq | exact absurd hq (show ¬ (1 : Int) = 0 by decide) | exact absurd (show (1 : Int) ≠ 0 by decide) hq | skip) | refine hcl _ _ _ _ (q_TTcomes (by omega) h (fun σ1 h1 => ?_)))
    all_goals first
      | omega
      | (refine hev _ ?_; rw [e (by omega)]; exact ih _ _ (by omega) (by omega) (by omega) (by assumption))
      | exact hev _ (l_M_hour2 hB hw hs hK 31 0 _ (by omega) (by omega) (by omega) (by assumption))

theorem c_M_hour {sea wind rain : Int} {σ0 σ : q_S} {K : q_R → q_S → Prop} (hB : q_TB σ0) (hw : 0 ≤ wind ∧ wind ≤ 3) (hs : 0 ≤ sea ∧ sea ≤ 200) (h : q_TT σ0 σ) (hK : ∀ σ', q_TT σ0 σ' → K none σ') : q_K L xs i_M_hour [(2, 100), (0, sea), (0, wind), (0, rain)] σ K := by
  refine q_call k_M_hour 5 rfl ?_
  show q_E L xs k_M_hour (0, [(2, 100), (0, sea), (0, wind), (0, rain), (9, 0)], [], σ) K
  refine q_go1 120 0 [2] (fun cl ev hcl hev => ?_)
  exact hev _ (l_M_hour1 hB hw hs hK 31 0 σ (by omega) (by omega) (by omega) h)

theorem l_M_tide5 {high wind rain : Int} {σ0 : q_S} {K : q_R → q_S → Prop} (hB : q_TB σ0) (hw : 0 ≤ wind ∧ wind ≤ 3) (hh : 0 ≤ high ∧ high ≤ 120) (hK : ∀ x σ', q_TT σ0 σ' → K (some (0, x)) σ') :
    ∀ (m : Nat) (i : Int) (σ : q_S) (y : Int), 30 - i < m → 0 ≤ i → i ≤ 30 → q_TT σ0 σ → q_E L xs k_M_tide (126, [(2, 100), (0, high), (0, wind), (0, rain), (0, y), (0, i)], [], σ) K := by
  intro m
  induction m with
  | zero => intro i; have := hB.1; have := hB.2.1; omega
  | succ m ih =>
    intro i σ y hm hi hi3 h
    have hb1 := hB.1
    have hb2 := hB.2.1
    have e13 : σ 100 13 = σ0 100 13 := q_TTe h (by unfold q_okT; omega)
    have e22 : σ 100 22 = σ0 100 22 := q_TTe h (by unfold q_okT; omega)
    have e : i < 30 → q_w32 (i + 1) = i + 1 := fun _ => by rw [q_w32_id] <;> omega
    refine q_go1 120 126 [28, 40, 52, 69, 126] (fun cl ev hcl hev => ?_)
    repeat' (first | refine And.intro ?_ ?_ | (intro hq; first | exact absurd hq (by decide) | exact absurd rfl hq | exact absurd hq (show ¬ (1 : Int) = 0 by decide) | exact absurd (show (1 : Int) ≠ 0 by decide) hq | skip))
    all_goals first
      | omega
      | (refine hev _ ?_; rw [e (by omega)]; exact ih _ _ _ (by omega) (by omega) (by omega) h)
      | exact hK _ _ h

theorem l_M_tide4 {high wind rain : Int} {σ0 : q_S} {K : q_R → q_S → Prop} (hB : q_TB σ0) (hw : 0 ≤ wind ∧ wind ≤ 3) (hh : 0 ≤ high ∧ high ≤ 120) (hK : ∀ x σ', q_TT σ0 σ' → K (some (0, x)) σ') :
    ∀ (m : Nat) (i : Int) (σ : q_S) (y : Int) (u : Nat), 30 - i < m → 0 ≤ i → i ≤ 30 → q_TT σ0 σ → q_E L xs k_M_tide (69, [(2, 100), (0, high), (0, wind), (0, rain), (0, i), (u, y)], [], σ) K := by
  intro m
  induction m with
  | zero => intro i; have := hB.1; have := hB.2.1; omega
  | succ m ih =>
    intro i σ y u hm hi hi3 h
    have hb1 := hB.1
    have hb2 := hB.2.1
    have e13 : σ 100 13 = σ0 100 13 := q_TTe h (by unfold q_okT; omega)
    have e22 : σ 100 22 = σ0 100 22 := q_TTe h (by unfold q_okT; omega)
    have e : i < 30 → q_w32 (i + 1) = i + 1 := fun _ => by rw [q_w32_id] <;> omega
    refine q_go1 120 69 [28, 40, 52, 69, 126] (fun cl ev hcl hev => ?_)
    repeat' (first | refine And.intro ?_ ?_ | (intro hq; first | exact absurd hq (by decide) | exact absurd rfl hq | exact absurd hq (show ¬ (1 : Int) = 0 by decide) | exact absurd (show (1 : Int) ≠ 0 by decide) hq | skip))
    all_goals first
      | omega
      | (refine hev _ ?_; rw [e (by omega)]; exact ih _ _ _ _ (by omega) (by omega) (by omega) (q_TTs h (by omega)))
      | exact hev _ (l_M_tide5 hB hw hh hK 31 0 _ _ (by omega) (by omega) (by omega) (q_TTs (q_TTs h (by omega)) (by omega)))

theorem l_M_tide3 {high wind rain : Int} {σ0 : q_S} {K : q_R → q_S → Prop} (hB : q_TB σ0) (hw : 0 ≤ wind ∧ wind ≤ 3) (hh : 0 ≤ high ∧ high ≤ 120) (hK : ∀ x σ', q_TT σ0 σ' → K (some (0, x)) σ') :
    ∀ (m : Nat) (i : Int) (σ : q_S), 30 - i < m → 0 ≤ i → i ≤ 30 → q_TT σ0 σ → q_E L xs k_M_tide (52, [(2, 100), (0, high), (0, wind), (0, rain), (0, i), (9, 0)], [], σ) K := by
  intro m
  induction m with
  | zero => intro i; have := hB.1; have := hB.2.1; omega
  | succ m ih =>
    intro i σ hm hi hi3 h
    have hb1 := hB.1
    have hb2 := hB.2.1
    have e13 : σ 100 13 = σ0 100 13 := q_TTe h (by unfold q_okT; omega)
    have e22 : σ 100 22 = σ0 100 22 := q_TTe h (by unfold q_okT; omega)
    have e : i < 30 → q_w32 (i + 1) = i + 1 := fun _ => by rw [q_w32_id] <;> omega
    refine q_go1 120 52 [28, 40, 52, 69, 126] (fun cl ev hcl hev => ?_)
    repeat' (first | refine And.intro ?_ ?_ | (intro hq; first | exact absurd hq (by decide) | exact absurd rfl hq | exact absurd hq (show ¬ (1 : Int) = 0 by decide) | exact absurd (show (1 : Int) ≠ 0 by decide) hq | skip) | refine hcl _ _ _ _ (c_M_quarters ?_) | refine hcl _ _ _ _ (c_M_hour hB hw ?_ h (fun σ1 h1 => ?_)))
    all_goals first
      | omega
      | (refine hev _ ?_; rw [e (by omega)]; exact ih _ _ (by omega) (by omega) (by omega) (by assumption))
      | exact (q_hq hh (by omega)).1
      | exact (q_hq hh (by omega)).2
      | exact hev _ (l_M_tide4 hB hw hh hK 31 0 _ _ _ (by omega) (by omega) (by omega) h)

theorem l_M_tide2 {high wind rain : Int} {σ0 : q_S} {K : q_R → q_S → Prop} (hB : q_TB σ0) (hw : 0 ≤ wind ∧ wind ≤ 3) (hh : 0 ≤ high ∧ high ≤ 120) (hK : ∀ x σ', q_TT σ0 σ' → K (some (0, x)) σ') :
    ∀ (m : Nat) (i : Int) (σ : q_S), 30 - i < m → 0 ≤ i → i ≤ 30 → q_TT σ0 σ → q_E L xs k_M_tide (40, [(2, 100), (0, high), (0, wind), (0, rain), (0, i), (9, 0)], [], σ) K := by
  intro m
  induction m with
  | zero => intro i; have := hB.1; have := hB.2.1; omega
  | succ m ih =>
    intro i σ hm hi hi3 h
    have hb1 := hB.1
    have hb2 := hB.2.1
    have e13 : σ 100 13 = σ0 100 13 := q_TTe h (by unfold q_okT; omega)
    have e22 : σ 100 22 = σ0 100 22 := q_TTe h (by unfold q_okT; omega)
    have e : i < 30 → q_w32 (i + 1) = i + 1 := fun _ => by rw [q_w32_id] <;> omega
    refine q_go1 120 40 [28, 40, 52, 69, 126] (fun cl ev hcl hev => ?_)
    repeat' (first | refine And.intro ?_ ?_ | (intro hq; first | exact absurd hq (by decide) | exact absurd rfl hq | exact absurd hq (show ¬ (1 : Int) = 0 by decide) | exact absurd (show (1 : Int) ≠ 0 by decide) hq | skip))
    all_goals first
      | omega
      | (refine hev _ ?_; rw [e (by omega)]; exact ih _ _ (by omega) (by omega) (by omega) (q_TTs h (by omega)))
      | exact hev _ (l_M_tide3 hB hw hh hK 31 0 _ (by omega) (by omega) (by omega) (by assumption))

theorem l_M_tide1 {high wind rain : Int} {σ0 : q_S} {K : q_R → q_S → Prop} (hB : q_TB σ0) (hw : 0 ≤ wind ∧ wind ≤ 3) (hh : 0 ≤ high ∧ high ≤ 120) (hK : ∀ x σ', q_TT σ0 σ' → K (some (0, x)) σ') :
    ∀ (m : Nat) (i : Int) (σ : q_S), 30 - i < m → 0 ≤ i → i ≤ 30 → q_TT σ0 σ → q_E L xs k_M_tide (28, [(2, 100), (0, high), (0, wind), (0, rain), (0, i), (9, 0)], [], σ) K := by
  intro m
  induction m with
  | zero => intro i; have := hB.1; have := hB.2.1; omega
  | succ m ih =>
    intro i σ hm hi hi3 h
    have hb1 := hB.1
    have hb2 := hB.2.1
    have e13 : σ 100 13 = σ0 100 13 := q_TTe h (by unfold q_okT; omega)
    have e22 : σ 100 22 = σ0 100 22 := q_TTe h (by unfold q_okT; omega)
    have e : i < 30 → q_w32 (i + 1) = i + 1 := fun _ => by rw [q_w32_id] <;> omega
    refine q_go1 120 28 [28, 40, 52, 69, 126] (fun cl ev hcl hev => ?_)
    repeat' (first | refine And.intro ?_ ?_ | (intro hq; first | exact absurd hq (by decide) | exact absurd rfl hq | exact absurd hq (show ¬ (1 : Int) = 0 by decide) | exact absurd (show (1 : Int) ≠ 0 by decide) hq | skip))
    all_goals first
      | omega
      | (refine hev _ ?_; rw [e (by omega)]; exact ih _ _ (by omega) (by omega) (by omega) (q_TTs h (by omega)))
      | exact hev _ (l_M_tide2 hB hw hh hK 31 0 _ (by omega) (by omega) (by omega) (by assumption))

theorem c_M_tide {high wind rain : Int} {σ0 : q_S} {K : q_R → q_S → Prop} (hB : q_TB σ0) (h : q_TT σ0 σ0) (hK : ∀ x σ', q_TT σ0 σ' → K (some (0, x)) σ') : q_K L xs i_M_tide [(2, 100), (0, high), (0, wind), (0, rain)] σ0 K := by
  refine q_call k_M_tide 6 rfl ?_
  show q_E L xs k_M_tide (0, [(2, 100), (0, high), (0, wind), (0, rain), (9, 0), (9, 0)], [], σ0) K
  refine q_go1 120 0 [28] (fun cl ev hcl hev => ?_)
  repeat' (first | refine And.intro ?_ ?_ | (intro hq; first | exact absurd hq (by decide) | exact absurd rfl hq | exact absurd hq (show ¬ (1 : Int) = 0 by decide) | exact absurd (show (1 : Int) ≠ 0 by decide) hq | skip) | refine hcl _ _ _ _ (c_M_in ?_ ?_))
  all_goals first
    | omega
    | exact hK _ _ h
    | exact hev _ (l_M_tide1 hB (by omega) (by omega) hK 31 0 _ (by omega) (by omega) (by omega) (q_TTs h (by omega)))

end P34
