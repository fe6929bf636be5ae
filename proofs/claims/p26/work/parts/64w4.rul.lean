/-! the reader, of the model: a rule -/
/-- what may differ while custom c is read -/
def m_fr (c : Int) (σ σ' : q_S) : Prop := ∀ k i, ¬ (k = 100 ∧ (i = 53 ∨ i = 54)) → ¬ (124 ≤ k ∧ k ≤ 128 ∧ i = c) → ¬ (129 ≤ k ∧ k ≤ 132 ∧ 10 * c ≤ i ∧ i < 10 * c + 10) → σ' k i = σ k i
/-- custom c of the model is the one whose cells are q, q + 1 .. of ρ -/
def m_C (σ : q_S) (c : Int) (ρ : q_S) (q : Int) : Prop := (σ 124 c = ρ q 1 ∧ σ 125 c = ρ q 2 ∧ σ 126 c = ρ q 3 ∧ σ 127 c = ρ q 4 ∧ σ 128 c = ρ q 8) ∧ ∀ k, 0 ≤ k → k < ρ q 8 → σ 129 (10 * c + k) = ρ (q + 1) k ∧ σ 130 (10 * c + k) = ρ (q + 2) k ∧ ((ρ (q + 3) k = 8 ∧ σ 131 (10 * c + k) = 0) ∨ (ρ (q + 3) k = 9 ∧ σ 131 (10 * c + k) = 2) ∨ (0 ≤ ρ (q + 3) k ∧ ρ (q + 3) k ≤ 7 ∧ σ 131 (10 * c + k) = 1 ∧ σ 132 (10 * c + k) = ρ (q + 3) k))
section X4a
variable {σ σ' σ'' ρ : q_S} {c q : Int}
theorem m_fr_rf : m_fr c σ σ := fun _ _ _ _ _ => rfl
theorem m_fr_tr (h : m_fr c σ σ') (h' : m_fr c σ' σ'') : m_fr c σ σ'' := fun k i a b d => (h' k i a b d).trans (h k i a b d)
theorem m_fr_f2 (h : m_fr c σ σ') (f : q_f2 σ' σ'') : m_fr c σ σ'' := fun k i a b d => (f k i a).trans (h k i a b d)
theorem m_fr_up {k i v : Int} (h : m_fr c σ σ') (hk : (124 ≤ k ∧ k ≤ 128 ∧ i = c) ∨ (129 ≤ k ∧ k ≤ 132 ∧ 10 * c ≤ i ∧ i < 10 * c + 10)) : m_fr c σ (q_up σ' k i v) := fun k' i' a b d => (q_unn (by omega)).trans (h k' i' a b d)
theorem m_fr_31 (h : m_fr c σ σ') : σ' 100 31 = σ 100 31 := h 100 31 (by omega) (by omega) (by omega)
theorem m_fr_W (h : m_fr c σ σ') (W : m_W σ) : m_W σ' := m_W_c (fun k i h0 h1 => h k i (by omega) (by omega) (by omega)) W
theorem m_C_c (C : m_C σ c ρ q) (h : ∀ k i, 124 ≤ k → k ≤ 132 → σ' k i = σ k i) : m_C σ' c ρ q := by
  obtain ⟨⟨c1, c2, c3, c4, c5⟩, cr⟩ := C
  refine ⟨⟨(h 124 c (by decide) (by decide)).trans c1, (h 125 c (by decide) (by decide)).trans c2, (h 126 c (by decide) (by decide)).trans c3, (h 127 c (by decide) (by decide)).trans c4, (h 128 c (by decide) (by decide)).trans c5⟩, fun k k0 k1 => ?_⟩
  rw [h 129 _ (by decide) (by decide), h 130 _ (by decide) (by decide), h 131 _ (by decide) (by decide), h 132 _ (by decide) (by decide)]
  exact cr k k0 k1
theorem m_C_f2 (C : m_C σ c ρ q) (f : q_f2 σ σ') : m_C σ' c ρ q := m_C_c C (fun k i h0 h1 => f k i (by omega))
/-- a store into the row behind the last -/
theorem m_C_up {k a v : Int} (C : m_C σ c ρ q) (hk : 129 ≤ k ∧ k ≤ 132) (ha : a = 10 * c + ρ q 8) : m_C (q_up σ k a v) c ρ q := by
  obtain ⟨⟨c1, c2, c3, c4, c5⟩, cr⟩ := C
  refine ⟨⟨(q_un (by omega)).trans c1, (q_un (by omega)).trans c2, (q_un (by omega)).trans c3, (q_un (by omega)).trans c4, (q_un (by omega)).trans c5⟩, fun j k0 k1 => ?_⟩
  rw [q_ui (by omega), q_ui (by omega), q_ui (by omega), q_ui (by omega)]
  exact cr j k0 k1
/-- the rule counts -/
theorem m_C_fin {a m f l h : Int} (C : m_C σ c ρ q) (hm : ρ q 8 = m) (h8 : 0 ≤ m ∧ m < 10) (ha : a = 10 * c + m) (hA : σ 129 a = f) (hB : σ 130 a = l) (hh : (h = 8 ∧ σ 131 a = 0) ∨ (h = 9 ∧ σ 131 a = 2) ∨ (0 ≤ h ∧ h ≤ 7 ∧ σ 131 a = 1 ∧ σ 132 a = h)) : m_C (q_up σ 128 c (q_w32 (σ 128 c + 1))) c (u_add ρ q f l h) q := by
  obtain ⟨⟨c1, c2, c3, c4, c5⟩, cr⟩ := C
  have ew : q_w32 (σ 128 c + 1) = m + 1 := by rw [c5, hm, q_w32_id] <;> omega
  have eu : u_add ρ q f l h = q_up (q_up (q_up (q_up ρ (q + 1) m f) (q + 2) m l) (q + 3) m h) q 8 (m + 1) := by unfold u_add; rw [hm, if_neg (by omega)]
  obtain ⟨Y, hY⟩ : ∃ Y, Y = q_up (q_up (q_up (q_up ρ (q + 1) m f) (q + 2) m l) (q + 3) m h) q 8 (m + 1) := ⟨_, rfl⟩
  rw [eu, ← hY, ew]
  have r8 : ∀ j, j ≠ 8 → Y q j = ρ q j := fun j hj => by rw [hY, q_ui hj, q_un (by omega), q_un (by omega), q_un (by omega)]
  have y8 : Y q 8 = m + 1 := by rw [hY, q_ue]
  refine ⟨⟨?_, ?_, ?_, ?_, ?_⟩, fun k k0 k1 => ?_⟩
  · rw [q_un (by decide), r8 1 (by decide)]; exact c1
  · rw [q_un (by decide), r8 2 (by decide)]; exact c2
  · rw [q_un (by decide), r8 3 (by decide)]; exact c3
  · rw [q_un (by decide), r8 4 (by decide)]; exact c4
  · rw [q_ue, y8]
  · rw [y8] at k1
    rw [q_un (by decide), q_un (by decide), q_un (by decide), q_un (by decide)]
    by_cases e : k = m
    · have v1 : Y (q + 1) k = f := by rw [hY, e, q_un (by omega), q_un (by omega), q_un (by omega), q_ue]
      have v2 : Y (q + 2) k = l := by rw [hY, e, q_un (by omega), q_un (by omega), q_ue]
      have v3 : Y (q + 3) k = h := by rw [hY, e, q_un (by omega), q_ue]
      rw [v1, v2, v3, show 10 * c + k = a by omega]
      exact ⟨hA, hB, hh⟩
    · have v1 : Y (q + 1) k = ρ (q + 1) k := by rw [hY, q_un (by omega), q_un (by omega), q_un (by omega), q_ui e]
      have v2 : Y (q + 2) k = ρ (q + 2) k := by rw [hY, q_un (by omega), q_un (by omega), q_ui e, q_un (by omega)]
      have v3 : Y (q + 3) k = ρ (q + 3) k := by rw [hY, q_un (by omega), q_ui e, q_un (by omega), q_un (by omega)]
      rw [v1, v2, v3]
      exact cr k k0 (by omega)
end X4a
section X4b
variable {B : Int → Int} {n p : Int}
theorem u_hw_f (h1 : u_pk B n p ≠ 111) (h2 : u_pk B n p ≠ 97) : u_how B n p = (if (u_wrd B n [102, 114, 111, 110, 116] p).1 = 1 then 8 else -1, (u_wrd B n [102, 114, 111, 110, 116] p).2) := by
  unfold u_how
  by_cases e : u_pk B n p = 102
  · rw [if_pos e]
  · have el : u_wrd B n [102, 114, 111, 110, 116] p = if u_pk B n p = 102 then u_wrd B n [114, 111, 110, 116] (p + 1) else (0, p) := rfl
    rw [if_neg e, if_neg h2, if_neg h1, el, if_neg e, if_neg (show ¬ ((0 : Int), p).1 = 1 from (show ¬ (0 : Int) = 1 by decide))]
theorem u_hw_a (h : u_pk B n p = 97) : u_how B n p = (if (u_wrd B n [97, 99, 114, 101, 115] p).1 = 1 then 9 else -1, (u_wrd B n [97, 99, 114, 101, 115] p).2) := by
  unfold u_how
  rw [if_neg (by omega), if_pos h]
theorem u_hw_o (h : u_pk B n p = 111) : u_how B n p = u_val B n [111, 119, 110, 32] 0 7 p := by
  unfold u_how
  rw [if_neg (by omega), if_neg (by omega), if_pos h]
end X4b
section X4
variable {L : Nat} {xs : Int → Int}
theorem z_83 {a c : Int} {σ : q_S} {K : q_R → q_S → Prop} (hc : 0 ≤ c ∧ c < 12) (c31 : σ 100 31 = c) (hK : K none (q_up σ 128 c (q_w32 (σ 128 c + 1)))) : q_E L xs k_M_readsRods (83, [(2, 100), (0, a)], [], σ) K := by
  subst c31
  refine q_go1 100 83 [] (fun cl ev hcl hev => ?_)
  refine And.intro (by omega) ?_
  refine And.intro (by omega) ?_
  exact hK
theorem zw_33 {a c p n : Int} {B : Int → Int} {σ : q_S} {K : q_R → q_S → Prop} (ha : 10 * c ≤ a ∧ a < 10 * c + 10) (hc : 0 ≤ c ∧ c < 12) (W : m_W σ) (c31 : σ 100 31 = c) (X : m_X σ B n 1 p) (hp : 0 ≤ p ∧ p ≤ n) (hK : ∀ σ', m_fr c σ σ' → m_X σ' B n 1 p → K none σ') : q_E L xs k_M_readsRods (33, [(2, 100), (0, a)], [], σ) K := by
  have A : ∀ k : Int, 129 ≤ k → k ≤ 132 → (124 ≤ k ∧ k ≤ 128 ∧ a = c) ∨ (129 ≤ k ∧ k ≤ 132 ∧ 10 * c ≤ a ∧ a < 10 * c + 10) := fun k h0 h1 => Or.inr ⟨h0, h1, ha⟩
  have fin : ∀ σ', m_fr c σ σ' → m_X σ' B n 1 p → q_E L xs k_M_readsRods (83, [(2, 100), (0, a)], [], σ') K := fun σ' F X' => z_83 hc ((m_fr_31 F).trans c31) (hK _ (m_fr_up F (Or.inl ⟨by omega, by omega, rfl⟩)) (m_X_up X' (by omega)))
  have X0 : m_X (q_up σ 132 a 0) B n 1 p := m_X_up X (by omega)
  have F0 : ∀ v, m_fr c σ (q_up (q_up σ 132 a 0) 131 a v) := fun v => m_fr_up (m_fr_up m_fr_rf (A 132 (by decide) (by decide))) (A 131 (by decide) (by decide))
  refine q_go1 200 33 [83] (fun cl ev hcl hev => ?_)
  refine And.intro (by omega) ?_
  show cl _ _ _ _
  refine hcl _ _ _ _ (z_byte X0 hp ?_)
  refine And.intro (fun _ => ?_) (fun _ => ?_)
  · show cl _ _ _ _
    refine hcl _ _ _ _ (z_byte X0 hp ?_)
    refine And.intro (fun _ => ?_) (fun _ => ?_)
    · refine And.intro (by omega) ?_
      show cl _ _ _ _
      refine hcl _ _ _ _ (z_ww142 (m_W_up (by decide) (m_W_up (by decide) W)) (m_X_up X0 (by omega)) hp (fun σ1 f1 X1 => ?_))
      exact hev _ (fin σ1 (m_fr_f2 (F0 _) f1) X1)
    · refine And.intro (by omega) ?_
      show cl _ _ _ _
      refine hcl _ _ _ _ (z_ww144 (m_W_up (by decide) (m_W_up (by decide) W)) (m_X_up X0 (by omega)) hp (fun σ1 f1 X1 => ?_))
      exact hev _ (fin σ1 (m_fr_f2 (F0 _) f1) X1)
  · refine And.intro (by omega) ?_
    show cl _ _ _ _
    refine hcl _ _ _ _ (z_ww143 (m_W_up (by decide) (m_W_up (by decide) W)) (m_X_up X0 (by omega)) hp (fun σ1 f1 X1 => ?_))
    show cl _ _ _ _
    refine hcl _ _ _ _ (z_numw X1 hp (fun σ2 f2 X2 => ?_))
    refine And.intro (by omega) ?_
    exact hev _ (fin _ (m_fr_up (m_fr_f2 (m_fr_f2 (F0 _) f1) f2) (A 132 (by decide) (by decide))) (m_X_up X2 (by omega)))
theorem zw_30 {a c p n : Int} {B : Int → Int} {σ : q_S} {K : q_R → q_S → Prop} (ha : 10 * c ≤ a ∧ a < 10 * c + 10) (hc : 0 ≤ c ∧ c < 12) (W : m_W σ) (c31 : σ 100 31 = c) (X : m_X σ B n 1 p) (hp : 0 ≤ p ∧ p ≤ n) (hK : ∀ σ', m_fr c σ σ' → m_X σ' B n 1 p → K none σ') : q_E L xs k_M_readsRods (30, [(2, 100), (0, a)], [], σ) K := by
  refine q_go1 200 30 [33] (fun cl ev hcl hev => ?_)
  show cl _ _ _ _
  refine hcl _ _ _ _ (z_must X hp (by decide) (fun z => absurd z (by decide)) (fun _ σ1 f1 X1 => ?_))
  exact hev _ (zw_33 ha hc (m_W_f f1 W) ((f1 100 31 (by omega)).trans c31) X1 hp (fun σ' F X' => hK σ' (m_fr_tr (m_fr_f2 m_fr_rf f1) F) X'))
theorem zw_22 {a c p n : Int} {B : Int → Int} {σ : q_S} {K : q_R → q_S → Prop} (ha : 10 * c ≤ a ∧ a < 10 * c + 10) (hc : 0 ≤ c ∧ c < 12) (W : m_W σ) (c31 : σ 100 31 = c) (X : m_X σ B n 1 p) (hp : 0 ≤ p ∧ p ≤ n) (hK : ∀ σ', m_fr c σ σ' → m_X σ' B n 1 p → K none σ') : q_E L xs k_M_readsRods (22, [(2, 100), (0, a)], [], σ) K := by
  refine q_go1 200 22 [30] (fun cl ev hcl hev => ?_)
  show cl _ _ _ _
  refine hcl _ _ _ _ (z_numw X hp (fun σ1 f1 X1 => ?_))
  refine And.intro (by omega) ?_
  exact hev _ (zw_30 ha hc (m_W_up (by decide) (m_W_f f1 W)) ((q_un (by decide)).trans ((f1 100 31 (by omega)).trans c31)) (m_X_up X1 (by omega)) hp (fun σ' F X' => hK σ' (m_fr_tr (m_fr_up (m_fr_f2 m_fr_rf f1) (Or.inr ⟨by omega, by omega, ha⟩)) F) X'))
theorem zw_19 {a c p n : Int} {B : Int → Int} {σ : q_S} {K : q_R → q_S → Prop} (ha : 10 * c ≤ a ∧ a < 10 * c + 10) (hc : 0 ≤ c ∧ c < 12) (W : m_W σ) (c31 : σ 100 31 = c) (X : m_X σ B n 1 p) (hp : 0 ≤ p ∧ p ≤ n) (hK : ∀ σ', m_fr c σ σ' → m_X σ' B n 1 p → K none σ') : q_E L xs k_M_readsRods (19, [(2, 100), (0, a)], [], σ) K := by
  refine q_go1 200 19 [22] (fun cl ev hcl hev => ?_)
  show cl _ _ _ _
  refine hcl _ _ _ _ (z_must X hp (by decide) (fun z => absurd z (by decide)) (fun _ σ1 f1 X1 => ?_))
  exact hev _ (zw_22 ha hc (m_W_f f1 W) ((f1 100 31 (by omega)).trans c31) X1 hp (fun σ' F X' => hK σ' (m_fr_tr (m_fr_f2 m_fr_rf f1) F) X'))
/-- the words behind the rods, right so far -/
theorem zr_33 {a c m q n p f l : Int} {B : Int → Int} {σ ρ : q_S} {K : q_R → q_S → Prop} (ha : a = 10 * c + m) (hm : ρ q 8 = m) (h8 : 0 ≤ m ∧ m < 10) (hc : 0 ≤ c ∧ c < 12) (W : m_W σ) (c31 : σ 100 31 = c) (X : m_X σ B n 0 p) (hp : 0 ≤ p ∧ p ≤ n) (C : m_C σ c ρ q) (hA : σ 129 a = f) (hB : σ 130 a = l)
    (hR : (u_how B n p).1 ≠ -1 → ∀ σ', m_fr c σ σ' → m_X σ' B n 0 (u_how B n p).2 → m_C σ' c (u_add ρ q f l (u_how B n p).1) q → K none σ')
    (hD : (u_how B n p).1 = -1 → ∀ σ', m_fr c σ σ' → m_X σ' B n 0 (u_how B n p).2 → ((u_how B n p).2 < n ∧ 48 ≤ B (u_how B n p).2 ∧ B (u_how B n p).2 ≤ 57) → K none σ')
    (hW : (u_how B n p).1 = -1 → ∀ σ', m_fr c σ σ' → m_X σ' B n 1 (u_how B n p).2 → K none σ') : q_E L xs k_M_readsRods (33, [(2, 100), (0, a)], [], σ) K := by
  have A : ∀ k : Int, 129 ≤ k → k ≤ 132 → (124 ≤ k ∧ k ≤ 128 ∧ a = c) ∨ (129 ≤ k ∧ k ≤ 132 ∧ 10 * c ≤ a ∧ a < 10 * c + 10) := fun k h0 h1 => Or.inr ⟨h0, h1, by omega⟩
  have ha' : a = 10 * c + ρ q 8 := by omega
  have X0 : m_X (q_up σ 132 a 0) B n 0 p := m_X_up X (by omega)
  have F0 : ∀ v, m_fr c σ (q_up (q_up σ 132 a 0) 131 a v) := fun v => m_fr_up (m_fr_up m_fr_rf (A 132 (by decide) (by decide))) (A 131 (by decide) (by decide))
  have C0 : ∀ v, m_C (q_up (q_up σ 132 a 0) 131 a v) c ρ q := fun v => m_C_up (m_C_up C (by omega) ha') (by omega) ha'
  have A0 : ∀ v, q_up (q_up σ 132 a 0) 131 a v 129 a = f := fun v => (q_un (by decide)).trans ((q_un (by decide)).trans hA)
  have B0 : ∀ v, q_up (q_up σ 132 a 0) 131 a v 130 a = l := fun v => (q_un (by decide)).trans ((q_un (by decide)).trans hB)
  have H0 : ∀ v, q_up (q_up σ 132 a 0) 131 a v 131 a = v := fun v => q_ue
  have finW : ∀ σ', (u_how B n p).1 = -1 → m_fr c σ σ' → m_X σ' B n 1 (u_how B n p).2 → q_E L xs k_M_readsRods (83, [(2, 100), (0, a)], [], σ') K := fun σ' e F X' => z_83 hc ((m_fr_31 F).trans c31) (hW e _ (m_fr_up F (Or.inl ⟨by omega, by omega, rfl⟩)) (m_X_up X' (by omega)))
  have finD : ∀ σ', (u_how B n p).1 = -1 → m_fr c σ σ' → m_X σ' B n 0 (u_how B n p).2 → ((u_how B n p).2 < n ∧ 48 ≤ B (u_how B n p).2 ∧ B (u_how B n p).2 ≤ 57) → q_E L xs k_M_readsRods (83, [(2, 100), (0, a)], [], σ') K := fun σ' e F X' g => z_83 hc ((m_fr_31 F).trans c31) (hD e _ (m_fr_up F (Or.inl ⟨by omega, by omega, rfl⟩)) (m_X_up X' (by omega)) g)
  have finR : ∀ σ', (u_how B n p).1 ≠ -1 → m_fr c σ σ' → m_X σ' B n 0 (u_how B n p).2 → m_C σ' c ρ q → σ' 129 a = f → σ' 130 a = l → (((u_how B n p).1 = 8 ∧ σ' 131 a = 0) ∨ ((u_how B n p).1 = 9 ∧ σ' 131 a = 2) ∨ (0 ≤ (u_how B n p).1 ∧ (u_how B n p).1 ≤ 7 ∧ σ' 131 a = 1 ∧ σ' 132 a = (u_how B n p).1)) → q_E L xs k_M_readsRods (83, [(2, 100), (0, a)], [], σ') K := fun σ' e F X' C' eA eB g => z_83 hc ((m_fr_31 F).trans c31) (hR e _ (m_fr_up F (Or.inl ⟨by omega, by omega, rfl⟩)) (m_X_up X' (by omega)) (m_C_fin C' hm h8 ha eA eB g))
  refine q_go1 200 33 [83] (fun cl ev hcl hev => ?_)
  refine And.intro (by omega) ?_
  show cl _ _ _ _
  refine hcl _ _ _ _ (z_byte X0 hp ?_)
  refine And.intro (fun g1 => ?_) (fun g1 => ?_)
  · show cl _ _ _ _
    refine hcl _ _ _ _ (z_byte X0 hp ?_)
    refine And.intro (fun g2 => ?_) (fun g2 => ?_)
    · have eh := u_hw_f g1 g2
      rw [eh] at finR finW
      refine And.intro (by omega) ?_
      show cl _ _ _ _
      refine hcl _ _ _ _ (z_wd142 (m_W_up (by decide) (m_W_up (by decide) W)) (m_X_up X0 (by omega)) hp (fun a1 σ1 f1 X1 => ?_) (fun a1 σ1 f1 X1 => ?_))
      · have e8 : (if (u_wrd B n [102, 114, 111, 110, 116] p).1 = 1 then (8 : Int) else -1) = 8 := if_pos a1
        exact hev _ (finR σ1 (by rw [e8]; exact (show (8 : Int) ≠ -1 by decide)) (m_fr_f2 (F0 _) f1) X1 (m_C_f2 (C0 _) f1) ((f1 129 a (by omega)).trans (A0 _)) ((f1 130 a (by omega)).trans (B0 _)) (Or.inl ⟨e8, (f1 131 a (by omega)).trans (H0 _)⟩))
      · have e8 : (if (u_wrd B n [102, 114, 111, 110, 116] p).1 = 1 then (8 : Int) else -1) = -1 := if_neg (by rw [a1]; decide)
        exact hev _ (finW σ1 e8 (m_fr_f2 (F0 _) f1) X1)
    · have eh := u_hw_a (Decidable.not_not.mp g2)
      rw [eh] at finR finW
      refine And.intro (by omega) ?_
      show cl _ _ _ _
      refine hcl _ _ _ _ (z_wd144 (m_W_up (by decide) (m_W_up (by decide) W)) (m_X_up X0 (by omega)) hp (fun a1 σ1 f1 X1 => ?_) (fun a1 σ1 f1 X1 => ?_))
      · have e8 : (if (u_wrd B n [97, 99, 114, 101, 115] p).1 = 1 then (9 : Int) else -1) = 9 := if_pos a1
        exact hev _ (finR σ1 (by rw [e8]; exact (show (9 : Int) ≠ -1 by decide)) (m_fr_f2 (F0 _) f1) X1 (m_C_f2 (C0 _) f1) ((f1 129 a (by omega)).trans (A0 _)) ((f1 130 a (by omega)).trans (B0 _)) (Or.inr (Or.inl ⟨e8, (f1 131 a (by omega)).trans (H0 _)⟩)))
      · have e8 : (if (u_wrd B n [97, 99, 114, 101, 115] p).1 = 1 then (9 : Int) else -1) = -1 := if_neg (by rw [a1]; decide)
        exact hev _ (finW σ1 e8 (m_fr_f2 (F0 _) f1) X1)
  · have eh := u_hw_o (Decidable.not_not.mp g1)
    have hw_ := u_ws_in (B := B) [111, 119, 110, 32] p (by decide) hp.1 hp.2
    unfold u_val at eh
    refine And.intro (by omega) ?_
    show cl _ _ _ _
    refine hcl _ _ _ _ (z_wd143 (m_W_up (by decide) (m_W_up (by decide) W)) (m_X_up X0 (by omega)) hp (fun a1 σ1 f1 X1 => ?_) (fun a1 σ1 f1 X1 => ?_))
    · rw [if_pos a1] at eh
      generalize (u_wrd B n [111, 119, 110, 32] p).2 = p1 at eh hw_ X1
      unfold u_num at eh
      show cl _ _ _ _
      refine hcl _ _ _ _ (z_num7 X1 ⟨by omega, by omega⟩ (fun g3 σ2 f2 X2 => ?_) (fun g3 σ2 f2 X2 => ?_))
      · rw [if_pos (by omega)] at eh
        refine And.intro (by omega) ?_
        have F2 : m_fr c σ (q_up σ2 132 a (u_pk B n p1 - 48)) := m_fr_up (m_fr_f2 (m_fr_f2 (F0 _) f1) f2) (A 132 (by decide) (by decide))
        rcases u_n7 (B := B) (n := n) (d := u_pk B n p1 - 48) (p := p1 + 1) g3.1 (n - (p1 + 1)).toNat with e7 | ⟨e7, e71⟩
        · rw [e7] at eh
          rw [eh] at finR
          exact hev _ (finR _ (show u_pk B n p1 - 48 ≠ -1 by omega) F2 (m_X_up X2 (by omega)) (m_C_up (m_C_f2 (m_C_f2 (C0 _) f1) f2) (by omega) ha') ((q_un (by decide)).trans ((f2 129 a (by omega)).trans ((f1 129 a (by omega)).trans (A0 _)))) ((q_un (by decide)).trans ((f2 130 a (by omega)).trans ((f1 130 a (by omega)).trans (B0 _)))) (Or.inr (Or.inr ⟨g3.1, g3.2, (q_un (by decide)).trans ((f2 131 a (by omega)).trans ((f1 131 a (by omega)).trans (H0 _))), q_ue⟩)))
        · rw [e7] at eh
          rw [eh] at finD
          exact hev _ (finD _ rfl F2 (m_X_up X2 (by omega)) e71)
      · rw [if_neg (by omega)] at eh
        rw [eh] at finW
        refine And.intro (by omega) ?_
        exact hev _ (finW _ rfl (m_fr_up (m_fr_f2 (m_fr_f2 (F0 _) f1) f2) (A 132 (by decide) (by decide))) (m_X_up X2 (by omega)))
    · rw [if_neg (by rw [a1]; decide)] at eh
      rw [eh] at finW
      show cl _ _ _ _
      refine hcl _ _ _ _ (z_numw X1 ⟨by omega, by omega⟩ (fun σ2 f2 X2 => ?_))
      refine And.intro (by omega) ?_
      exact hev _ (finW _ rfl (m_fr_up (m_fr_f2 (m_fr_f2 (F0 _) f1) f2) (A 132 (by decide) (by decide))) (m_X_up X2 (by omega)))
theorem z_rods {c q n p : Int} {B : Int → Int} {σ ρ : q_S} {K : q_R → q_S → Prop} (W : m_W σ) (hc : 0 ≤ c ∧ c < 12) (c31 : σ 100 31 = c) (X : m_X σ B n 0 p) (hp : 0 ≤ p ∧ p ≤ n) (C : m_C σ c ρ q) (h8 : 0 ≤ ρ q 8 ∧ ρ q 8 < 10)
    (hR : (u_rule B n q p ρ).1 = 1 → ∀ σ', m_fr c σ σ' → m_X σ' B n 0 (u_rule B n q p ρ).2.1 → m_C σ' c (u_rule B n q p ρ).2.2 q → K none σ')
    (hD : (u_rule B n q p ρ).1 = 0 → ∀ σ', m_fr c σ σ' → m_X σ' B n 0 (u_rule B n q p ρ).2.1 → ((u_rule B n q p ρ).2.1 < n ∧ 48 ≤ B (u_rule B n q p ρ).2.1 ∧ B (u_rule B n q p ρ).2.1 ≤ 57) → K none σ')
    (hW : (u_rule B n q p ρ).1 = 0 → ∀ σ', m_fr c σ σ' → m_X σ' B n 1 (u_rule B n q p ρ).2.1 → K none σ') : q_K L xs i_M_readsRods [(2, 100)] σ K := by
  have d5 := C.1.2.2.2.2
  have r1 := u_num_in (B := B) (n := n) (lo := 0) (hi := 23) (p := p) (by decide) (by decide) hp.1 hp.2
  have ea : q_w32 (q_w32 (10 * σ 100 31) + σ 128 (σ 100 31)) = 10 * c + ρ q 8 := by rw [c31, d5]; unfold q_w32; omega
  obtain ⟨a, ha⟩ : ∃ a, a = 10 * c + ρ q 8 := ⟨_, rfl⟩
  have hab : 10 * c ≤ a ∧ a < 10 * c + 10 := by omega
  have A : ∀ k : Int, 129 ≤ k → k ≤ 132 → (124 ≤ k ∧ k ≤ 128 ∧ a = c) ∨ (129 ≤ k ∧ k ≤ 132 ∧ 10 * c ≤ a ∧ a < 10 * c + 10) := fun k h0 h1 => Or.inr ⟨h0, h1, by omega⟩
  rw [← ha] at ea
  refine q_call k_M_readsRods 2 rfl ?_
  show q_E L xs k_M_readsRods (0, [(2, 100), (9, 0)], [], σ) K
  refine q_go1 200 0 [11] (fun cl ev hcl hev => ?_)
  refine And.intro (by omega) ?_
  refine hev _ ?_
  rw [ea]
  unfold u_rule at hR hD hW
  refine q_go1 200 11 [19] (fun cl ev hcl hev => ?_)
  show cl _ _ _ _
  refine hcl _ _ _ _ (z_number (by decide) (by decide) X hp (fun σ1 f1 g1 X1 => ?_) (fun σ1 x f1 g1 X1 _ _ => ?_))
  · rw [if_neg g1] at hR hD hW
    refine And.intro (by omega) ?_
    refine hev _ ?_
    have F1 : m_fr c σ (q_up σ1 129 a (u_num B n 0 23 p).1) := m_fr_up (m_fr_f2 m_fr_rf f1) (A 129 (by decide) (by decide))
    have C1 : m_C (q_up σ1 129 a (u_num B n 0 23 p).1) c ρ q := m_C_up (m_C_f2 C f1) (by omega) ha
    refine q_go1 200 19 [22] (fun cl ev hcl hev => ?_)
    show cl _ _ _ _
    refine hcl _ _ _ _ (z_must (m_X_up X1 (by omega)) ⟨by omega, by omega⟩ (by decide) (fun _ g2 σ2 f2 X2 => ?_) (fun g2 σ2 f2 X2 => ?_))
    · rw [if_neg (fun z => z g2)] at hR hD hW
      have l2 := u_pks (by decide) g2
      have r2 := u_num_in (B := B) (n := n) (lo := 0) (hi := 23) (p := (u_num B n 0 23 p).2 + 1) (by decide) (by decide) (by omega) (by omega)
      have A2 : σ2 129 a = (u_num B n 0 23 p).1 := (f2 129 a (by omega)).trans q_ue
      refine hev _ ?_
      refine q_go1 200 22 [30] (fun cl ev hcl hev => ?_)
      show cl _ _ _ _
      refine hcl _ _ _ _ (z_number (by decide) (by decide) X2 ⟨by omega, by omega⟩ (fun σ3 f3 g3 X3 => ?_) (fun σ3 x f3 g3 X3 _ _ => ?_))
      · rw [if_neg g3] at hR hD hW
        refine And.intro (by omega) ?_
        refine hev _ ?_
        have F3 : m_fr c σ (q_up σ3 130 a (u_num B n 0 23 ((u_num B n 0 23 p).2 + 1)).1) := m_fr_up (m_fr_f2 (m_fr_f2 F1 f2) f3) (A 130 (by decide) (by decide))
        have C3 : m_C (q_up σ3 130 a (u_num B n 0 23 ((u_num B n 0 23 p).2 + 1)).1) c ρ q := m_C_up (m_C_f2 (m_C_f2 C1 f2) f3) (by omega) ha
        refine q_go1 200 30 [33] (fun cl ev hcl hev => ?_)
        show cl _ _ _ _
        refine hcl _ _ _ _ (z_must (m_X_up X3 (by omega)) ⟨by omega, by omega⟩ (by decide) (fun _ g4 σ4 f4 X4 => ?_) (fun g4 σ4 f4 X4 => ?_))
        · rw [if_neg (fun z => z g4)] at hR hD hW
          have l4 := u_pks (by decide) g4
          have F4 : m_fr c σ σ4 := m_fr_f2 F3 f4
          refine hev _ (zr_33 ha rfl h8 hc (m_fr_W F4 W) ((m_fr_31 F4).trans c31) X4 ⟨by omega, by omega⟩ (m_C_f2 C3 f4) ((f4 129 a (by omega)).trans ((q_un (by decide)).trans ((f3 129 a (by omega)).trans A2))) ((f4 130 a (by omega)).trans q_ue) (fun e σ' F X' C' => ?_) (fun e σ' F X' g => ?_) (fun e σ' F X' => ?_))
          · rw [if_neg e] at hR
            exact hR rfl σ' (m_fr_tr F4 F) X' C'
          · rw [if_pos e] at hD
            exact hD rfl σ' (m_fr_tr F4 F) X' g
          · rw [if_pos e] at hW
            exact hW rfl σ' (m_fr_tr F4 F) X'
        · rw [if_pos (fun z => g4 ⟨rfl, z⟩)] at hW
          have F4 : m_fr c σ σ4 := m_fr_f2 F3 f4
          exact hev _ (zw_33 hab hc (m_fr_W F4 W) ((m_fr_31 F4).trans c31) X4 ⟨by omega, by omega⟩ (fun σ' F X' => hW rfl σ' (m_fr_tr F4 F) X'))
      · rw [if_pos g3] at hW
        refine And.intro (by omega) ?_
        have F3 : m_fr c σ (q_up σ3 130 a x) := m_fr_up (m_fr_f2 (m_fr_f2 F1 f2) f3) (A 130 (by decide) (by decide))
        exact hev _ (zw_30 hab hc (m_fr_W F3 W) ((m_fr_31 F3).trans c31) (m_X_up X3 (by omega)) ⟨by omega, by omega⟩ (fun σ' F X' => hW rfl σ' (m_fr_tr F3 F) X'))
    · rw [if_pos (fun z => g2 ⟨rfl, z⟩)] at hW
      have F2 : m_fr c σ σ2 := m_fr_f2 F1 f2
      exact hev _ (zw_22 hab hc (m_fr_W F2 W) ((m_fr_31 F2).trans c31) X2 ⟨by omega, by omega⟩ (fun σ' F X' => hW rfl σ' (m_fr_tr F2 F) X'))
  · rw [if_pos g1] at hW
    refine And.intro (by omega) ?_
    have F1 : m_fr c σ (q_up σ1 129 a x) := m_fr_up (m_fr_f2 m_fr_rf f1) (A 129 (by decide) (by decide))
    exact hev _ (zw_19 hab hc (m_fr_W F1 W) ((m_fr_31 F1).trans c31) (m_X_up X1 (by omega)) ⟨by omega, by omega⟩ (fun σ' F X' => hW rfl σ' (m_fr_tr F1 F) X'))
end X4
