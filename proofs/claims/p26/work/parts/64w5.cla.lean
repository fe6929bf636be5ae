section X5a
variable {σ ρ : q_S} {c q v n w p : Int} {B : Int → Int}
theorem m_X_53 {p' : Int} (X : m_X σ B n w p) : m_X (q_up σ 100 53 p') B n w p' := ⟨m_tp_f (q_f2_up q_f2_rf (Or.inl rfl)) X.1, q_ue, (q_ui (by decide)).trans X.2.2⟩
theorem u_w2 {l : Int} (e : u_pk B n p = l) : u_wrd B n [l, 32] p = if u_pk B n (p + 1) = 32 then (1, p + 1 + 1) else (0, p + 1) := by
  have h : u_wrd B n [l, 32] p = if u_pk B n p = l then (if u_pk B n (p + 1) = 32 then (1, p + 1 + 1) else (0, p + 1)) else (0, p) := rfl
  rw [h, if_pos e]
theorem u_cl_r (e : u_pk B n p = 114) : u_cl B n q p ρ = if u_pk B n (p + 1) = 32 then u_rule B n q (p + 1 + 1) ρ else (0, p + 1, ρ) := by
  unfold u_cl
  rw [if_pos e, u_w2 e]
  by_cases g : u_pk B n (p + 1) = 32
  · rw [if_pos g, if_pos rfl, if_pos g]
  · rw [if_neg g, if_neg (show ¬ ((0 : Int), p + 1).1 = 1 from (show ¬ (0 : Int) = 1 by decide)), if_neg g]
theorem u_cl_n (h1 : u_pk B n p ≠ 114) (h2 : u_pk B n p ≠ 104) (h3 : u_pk B n p ≠ 102) (h4 : u_pk B n p ≠ 118) (h5 : u_pk B n p ≠ 115) : u_cl B n q p ρ = (0, p, ρ) := by
  unfold u_cl
  rw [if_neg h1, if_neg h2, if_neg h3, if_neg h4, if_neg h5]
theorem u_cl_104 (e : u_pk B n p = 104) : u_cl B n q p ρ = if u_pk B n (p + 1) = 32 then (if (u_num B n 0 99 (p + 1 + 1)).1 = -1 then 0 else 1, (u_num B n 0 99 (p + 1 + 1)).2, q_up ρ q 1 (u_num B n 0 99 (p + 1 + 1)).1) else (0, p + 1, q_up ρ q 1 (-1)) := by
  unfold u_cl
  rw [if_neg (by omega), if_pos e]
  unfold u_v u_val
  rw [u_w2 e]
  by_cases g : u_pk B n (p + 1) = 32
  · rw [if_pos g, if_pos rfl, if_pos g]
  · rw [if_neg g, if_neg (show ¬ ((0 : Int), p + 1).1 = 1 from (show ¬ (0 : Int) = 1 by decide)), if_neg g, if_pos rfl]
theorem m_C_s1 (C : m_C σ c ρ q) : m_C (q_up σ 124 c v) c (q_up ρ q 1 v) q := by
  obtain ⟨⟨c1, c2, c3, c4, c5⟩, cr⟩ := C
  refine ⟨⟨by rw [q_ue, q_ue], by rw [q_un (by decide), q_ui (by decide)]; exact c2, by rw [q_un (by decide), q_ui (by decide)]; exact c3, by rw [q_un (by decide), q_ui (by decide)]; exact c4, by rw [q_un (by decide), q_ui (by decide)]; exact c5⟩, fun k k0 k1 => ?_⟩
  rw [q_ui (by decide)] at k1
  rw [q_un (by omega), q_un (by omega), q_un (by omega), q_un (by omega), q_un (by omega), q_un (by omega), q_un (by omega)]
  exact cr k k0 k1
theorem u_cl_102 (e : u_pk B n p = 102) : u_cl B n q p ρ = if u_pk B n (p + 1) = 32 then (if (u_num B n 0 999 (p + 1 + 1)).1 = -1 then 0 else 1, (u_num B n 0 999 (p + 1 + 1)).2, q_up ρ q 2 (u_num B n 0 999 (p + 1 + 1)).1) else (0, p + 1, q_up ρ q 2 (-1)) := by
  unfold u_cl
  rw [if_neg (by omega), if_neg (by omega), if_pos e]
  unfold u_v u_val
  rw [u_w2 e]
  by_cases g : u_pk B n (p + 1) = 32
  · rw [if_pos g, if_pos rfl, if_pos g]
  · rw [if_neg g, if_neg (show ¬ ((0 : Int), p + 1).1 = 1 from (show ¬ (0 : Int) = 1 by decide)), if_neg g, if_pos rfl]
theorem m_C_s2 (C : m_C σ c ρ q) : m_C (q_up σ 125 c v) c (q_up ρ q 2 v) q := by
  obtain ⟨⟨c1, c2, c3, c4, c5⟩, cr⟩ := C
  refine ⟨⟨by rw [q_un (by decide), q_ui (by decide)]; exact c1, by rw [q_ue, q_ue], by rw [q_un (by decide), q_ui (by decide)]; exact c3, by rw [q_un (by decide), q_ui (by decide)]; exact c4, by rw [q_un (by decide), q_ui (by decide)]; exact c5⟩, fun k k0 k1 => ?_⟩
  rw [q_ui (by decide)] at k1
  rw [q_un (by omega), q_un (by omega), q_un (by omega), q_un (by omega), q_un (by omega), q_un (by omega), q_un (by omega)]
  exact cr k k0 k1
theorem u_cl_118 (e : u_pk B n p = 118) : u_cl B n q p ρ = if u_pk B n (p + 1) = 32 then (if (u_num B n 1 99 (p + 1 + 1)).1 = -1 then 0 else 1, (u_num B n 1 99 (p + 1 + 1)).2, q_up ρ q 3 (u_num B n 1 99 (p + 1 + 1)).1) else (0, p + 1, q_up ρ q 3 (-1)) := by
  unfold u_cl
  rw [if_neg (by omega), if_neg (by omega), if_neg (by omega), if_pos e]
  unfold u_v u_val
  rw [u_w2 e]
  by_cases g : u_pk B n (p + 1) = 32
  · rw [if_pos g, if_pos rfl, if_pos g]
  · rw [if_neg g, if_neg (show ¬ ((0 : Int), p + 1).1 = 1 from (show ¬ (0 : Int) = 1 by decide)), if_neg g, if_pos rfl]
theorem m_C_s3 (C : m_C σ c ρ q) : m_C (q_up σ 126 c v) c (q_up ρ q 3 v) q := by
  obtain ⟨⟨c1, c2, c3, c4, c5⟩, cr⟩ := C
  refine ⟨⟨by rw [q_un (by decide), q_ui (by decide)]; exact c1, by rw [q_un (by decide), q_ui (by decide)]; exact c2, by rw [q_ue, q_ue], by rw [q_un (by decide), q_ui (by decide)]; exact c4, by rw [q_un (by decide), q_ui (by decide)]; exact c5⟩, fun k k0 k1 => ?_⟩
  rw [q_ui (by decide)] at k1
  rw [q_un (by omega), q_un (by omega), q_un (by omega), q_un (by omega), q_un (by omega), q_un (by omega), q_un (by omega)]
  exact cr k k0 k1
theorem u_cl_115 (e : u_pk B n p = 115) : u_cl B n q p ρ = if u_pk B n (p + 1) = 32 then (if (u_num B n 0 999 (p + 1 + 1)).1 = -1 then 0 else 1, (u_num B n 0 999 (p + 1 + 1)).2, q_up ρ q 4 (u_num B n 0 999 (p + 1 + 1)).1) else (0, p + 1, q_up ρ q 4 (-1)) := by
  unfold u_cl
  rw [if_neg (by omega), if_neg (by omega), if_neg (by omega), if_neg (by omega), if_pos e]
  unfold u_v u_val
  rw [u_w2 e]
  by_cases g : u_pk B n (p + 1) = 32
  · rw [if_pos g, if_pos rfl, if_pos g]
  · rw [if_neg g, if_neg (show ¬ ((0 : Int), p + 1).1 = 1 from (show ¬ (0 : Int) = 1 by decide)), if_neg g, if_pos rfl]
theorem m_C_s4 (C : m_C σ c ρ q) : m_C (q_up σ 127 c v) c (q_up ρ q 4 v) q := by
  obtain ⟨⟨c1, c2, c3, c4, c5⟩, cr⟩ := C
  refine ⟨⟨by rw [q_un (by decide), q_ui (by decide)]; exact c1, by rw [q_un (by decide), q_ui (by decide)]; exact c2, by rw [q_un (by decide), q_ui (by decide)]; exact c3, by rw [q_ue, q_ue], by rw [q_un (by decide), q_ui (by decide)]; exact c5⟩, fun k k0 k1 => ?_⟩
  rw [q_ui (by decide)] at k1
  rw [q_un (by omega), q_un (by omega), q_un (by omega), q_un (by omega), q_un (by omega), q_un (by omega), q_un (by omega)]
  exact cr k k0 k1
end X5a
section X5
variable {L : Nat} {xs : Int → Int}
theorem zv_110 {c x : Int} {σ : q_S} {K : q_R → q_S → Prop} (hc : 0 ≤ σ 100 31 ∧ σ 100 31 < 12) (hK : K none (if c = 115 then q_up σ 127 (σ 100 31) x else σ)) : q_E L xs k_M_readsClause (110, [(2, 100), (0, c), (0, x)], [], σ) K := by
  refine q_go1 40 110 [65, 80, 95, 110] (fun cl ev hcl hev => ?_)
  refine And.intro (fun g => ?_) (fun g => ?_)
  · rw [if_neg g] at hK
    refine And.intro (by omega) (And.intro (by omega) ?_)
    exact q_ks hK q_self
  · rw [if_pos (Decidable.not_not.mp g)] at hK
    exact And.intro (by omega) hK
theorem zv_95 {c x : Int} {σ : q_S} {K : q_R → q_S → Prop} (hc : 0 ≤ σ 100 31 ∧ σ 100 31 < 12) (hK : q_E L xs k_M_readsClause (110, [(2, 100), (0, c), (0, x)], [], (if c = 118 then q_up σ 126 (σ 100 31) x else σ)) K) : q_E L xs k_M_readsClause (95, [(2, 100), (0, c), (0, x)], [], σ) K := by
  refine q_go1 40 95 [65, 80, 95, 110] (fun cl ev hcl hev => ?_)
  refine And.intro (fun g => ?_) (fun g => ?_)
  · rw [if_neg g] at hK
    refine And.intro (by omega) (And.intro (by omega) ?_)
    refine hev _ ?_
    rw [q_self]
    exact hK
  · rw [if_pos (Decidable.not_not.mp g)] at hK
    exact And.intro (by omega) (hev _ hK)
theorem zv_80 {c x : Int} {σ : q_S} {K : q_R → q_S → Prop} (hc : 0 ≤ σ 100 31 ∧ σ 100 31 < 12) (hK : q_E L xs k_M_readsClause (95, [(2, 100), (0, c), (0, x)], [], (if c = 102 then q_up σ 125 (σ 100 31) x else σ)) K) : q_E L xs k_M_readsClause (80, [(2, 100), (0, c), (0, x)], [], σ) K := by
  refine q_go1 40 80 [65, 80, 95, 110] (fun cl ev hcl hev => ?_)
  refine And.intro (fun g => ?_) (fun g => ?_)
  · rw [if_neg g] at hK
    refine And.intro (by omega) (And.intro (by omega) ?_)
    refine hev _ ?_
    rw [q_self]
    exact hK
  · rw [if_pos (Decidable.not_not.mp g)] at hK
    exact And.intro (by omega) (hev _ hK)
theorem zv_65 {c x : Int} {σ : q_S} {K : q_R → q_S → Prop} (hc : 0 ≤ σ 100 31 ∧ σ 100 31 < 12) (hK : q_E L xs k_M_readsClause (80, [(2, 100), (0, c), (0, x)], [], (if c = 104 then q_up σ 124 (σ 100 31) x else σ)) K) : q_E L xs k_M_readsClause (65, [(2, 100), (0, c), (0, x)], [], σ) K := by
  refine q_go1 40 65 [65, 80, 95, 110] (fun cl ev hcl hev => ?_)
  refine And.intro (fun g => ?_) (fun g => ?_)
  · rw [if_neg g] at hK
    refine And.intro (by omega) (And.intro (by omega) ?_)
    refine hev _ ?_
    rw [q_self]
    exact hK
  · rw [if_pos (Decidable.not_not.mp g)] at hK
    exact And.intro (by omega) (hev _ hK)
theorem zv_l104 {x : Int} {σ : q_S} {K : q_R → q_S → Prop} (hc : 0 ≤ σ 100 31 ∧ σ 100 31 < 12) (hK : K none (q_up σ 124 (σ 100 31) x)) : q_E L xs k_M_readsClause (65, [(2, 100), (0, 104), (0, x)], [], σ) K := by
  have h' : 0 ≤ q_up σ 124 (σ 100 31) x 100 31 ∧ q_up σ 124 (σ 100 31) x 100 31 < 12 := by rw [q_un (by decide)]; exact hc
  refine zv_65 hc ?_
  rw [if_pos rfl]
  refine zv_80 h' ?_
  rw [if_neg (by decide)]
  refine zv_95 h' ?_
  rw [if_neg (by decide)]
  refine zv_110 h' ?_
  rw [if_neg (by decide)]
  exact hK
theorem zv_l102 {x : Int} {σ : q_S} {K : q_R → q_S → Prop} (hc : 0 ≤ σ 100 31 ∧ σ 100 31 < 12) (hK : K none (q_up σ 125 (σ 100 31) x)) : q_E L xs k_M_readsClause (65, [(2, 100), (0, 102), (0, x)], [], σ) K := by
  have h' : 0 ≤ q_up σ 125 (σ 100 31) x 100 31 ∧ q_up σ 125 (σ 100 31) x 100 31 < 12 := by rw [q_un (by decide)]; exact hc
  refine zv_65 hc ?_
  rw [if_neg (by decide)]
  refine zv_80 hc ?_
  rw [if_pos rfl]
  refine zv_95 h' ?_
  rw [if_neg (by decide)]
  refine zv_110 h' ?_
  rw [if_neg (by decide)]
  exact hK
theorem zv_l118 {x : Int} {σ : q_S} {K : q_R → q_S → Prop} (hc : 0 ≤ σ 100 31 ∧ σ 100 31 < 12) (hK : K none (q_up σ 126 (σ 100 31) x)) : q_E L xs k_M_readsClause (65, [(2, 100), (0, 118), (0, x)], [], σ) K := by
  have h' : 0 ≤ q_up σ 126 (σ 100 31) x 100 31 ∧ q_up σ 126 (σ 100 31) x 100 31 < 12 := by rw [q_un (by decide)]; exact hc
  refine zv_65 hc ?_
  rw [if_neg (by decide)]
  refine zv_80 hc ?_
  rw [if_neg (by decide)]
  refine zv_95 hc ?_
  rw [if_pos rfl]
  refine zv_110 h' ?_
  rw [if_neg (by decide)]
  exact hK
theorem zv_l115 {x : Int} {σ : q_S} {K : q_R → q_S → Prop} (hc : 0 ≤ σ 100 31 ∧ σ 100 31 < 12) (hK : K none (q_up σ 127 (σ 100 31) x)) : q_E L xs k_M_readsClause (65, [(2, 100), (0, 115), (0, x)], [], σ) K := by
  have h' : 0 ≤ q_up σ 127 (σ 100 31) x 100 31 ∧ q_up σ 127 (σ 100 31) x 100 31 < 12 := by rw [q_un (by decide)]; exact hc
  refine zv_65 hc ?_
  rw [if_neg (by decide)]
  refine zv_80 hc ?_
  rw [if_neg (by decide)]
  refine zv_95 hc ?_
  rw [if_neg (by decide)]
  refine zv_110 hc ?_
  rw [if_pos rfl]
  exact hK
theorem z34_w {c p n : Int} {B : Int → Int} {σ : q_S} {K : q_R → q_S → Prop} (X : m_X σ B n 1 p) (hp : 0 ≤ p ∧ p ≤ n) (hK : ∀ σ', q_f2 σ σ' → m_X σ' B n 1 p → K none σ') : q_E L xs k_M_readsClause (34, [(2, 100), (0, c), (9, 0)], [], σ) K := by
  refine q_go1 200 34 [] (fun cl ev hcl hev => ?_)
  show cl _ _ _ _
  refine hcl _ _ _ _ (z_must X hp (by decide) (fun z => absurd z (by decide)) (fun _ σ1 f1 X1 => ?_))
  have e54 := X1.2.2
  exact And.intro (fun z => by exfalso; omega) (fun _ => hK σ1 f1 X1)
theorem z34_114 {c q n p : Int} {B : Int → Int} {σ ρ : q_S} {K : q_R → q_S → Prop} (W : m_W σ) (hc : 0 ≤ c ∧ c < 12) (c31 : σ 100 31 = c) (X : m_X σ B n 0 p) (hp : 0 ≤ p ∧ p ≤ n) (C : m_C σ c ρ q) (h8 : 0 ≤ ρ q 8 ∧ ρ q 8 < 10)
    (hS : u_pk B n p ≠ 32 → ∀ σ', m_fr c σ σ' → m_X σ' B n 1 p → K none σ')
    (hR : u_pk B n p = 32 → (u_rule B n q (p + 1) ρ).1 = 1 → ∀ σ', m_fr c σ σ' → m_X σ' B n 0 (u_rule B n q (p + 1) ρ).2.1 → m_C σ' c (u_rule B n q (p + 1) ρ).2.2 q → K none σ')
    (hD : u_pk B n p = 32 → (u_rule B n q (p + 1) ρ).1 = 0 → ∀ σ', m_fr c σ σ' → m_X σ' B n 0 (u_rule B n q (p + 1) ρ).2.1 → ((u_rule B n q (p + 1) ρ).2.1 < n ∧ 48 ≤ B (u_rule B n q (p + 1) ρ).2.1 ∧ B (u_rule B n q (p + 1) ρ).2.1 ≤ 57) → K none σ')
    (hW : u_pk B n p = 32 → (u_rule B n q (p + 1) ρ).1 = 0 → ∀ σ', m_fr c σ σ' → m_X σ' B n 1 (u_rule B n q (p + 1) ρ).2.1 → K none σ') : q_E L xs k_M_readsClause (34, [(2, 100), (0, 114), (9, 0)], [], σ) K := by
  refine q_go1 200 34 [65] (fun cl ev hcl hev => ?_)
  show cl _ _ _ _
  refine hcl _ _ _ _ (z_must X hp (by decide) (fun _ g σ1 f1 X1 => ?_) (fun g σ1 f1 X1 => ?_))
  · have e54 := X1.2.2
    have hlt := u_pks (by decide) g
    have F1 : m_fr c σ σ1 := m_fr_f2 m_fr_rf f1
    refine And.intro (fun _ => ?_) (fun z => by exfalso; omega)
    refine And.intro (fun z => absurd rfl z) (fun _ => ?_)
    show cl _ _ _ _
    exact hcl _ _ _ _ (z_rods (m_W_f f1 W) hc ((f1 100 31 (by omega)).trans c31) X1 ⟨by omega, by omega⟩ (m_C_f2 C f1) h8 (fun a σ' F X' C' => hR g a σ' (m_fr_tr F1 F) X' C') (fun a σ' F X' g' => hD g a σ' (m_fr_tr F1 F) X' g') (fun a σ' F X' => hW g a σ' (m_fr_tr F1 F) X'))
  · have e54 := X1.2.2
    exact And.intro (fun z => by exfalso; omega) (fun _ => hS (fun z => g ⟨rfl, z⟩) σ1 (m_fr_f2 m_fr_rf f1) X1)
theorem z34_104 {c q n p : Int} {B : Int → Int} {σ ρ : q_S} {K : q_R → q_S → Prop} (W : m_W σ) (hc : 0 ≤ c ∧ c < 12) (c31 : σ 100 31 = c) (X : m_X σ B n 0 p) (hp : 0 ≤ p ∧ p ≤ n) (C : m_C σ c ρ q)
    (hS : u_pk B n p ≠ 32 → ∀ σ', m_fr c σ σ' → m_X σ' B n 1 p → K none σ')
    (hR : u_pk B n p = 32 → (u_num B n 0 99 (p + 1)).1 ≠ -1 → ∀ σ', m_fr c σ σ' → m_X σ' B n 0 (u_num B n 0 99 (p + 1)).2 → m_C σ' c (q_up ρ q 1 (u_num B n 0 99 (p + 1)).1) q → K none σ')
    (hW : u_pk B n p = 32 → (u_num B n 0 99 (p + 1)).1 = -1 → ∀ σ', m_fr c σ σ' → m_X σ' B n 1 (u_num B n 0 99 (p + 1)).2 → K none σ') : q_E L xs k_M_readsClause (34, [(2, 100), (0, 104), (9, 0)], [], σ) K := by
  refine q_go1 200 34 [65] (fun cl ev hcl hev => ?_)
  show cl _ _ _ _
  refine hcl _ _ _ _ (z_must X hp (by decide) (fun _ g σ1 f1 X1 => ?_) (fun g σ1 f1 X1 => ?_))
  · have e54 := X1.2.2
    have hlt := u_pks (by decide) g
    refine And.intro (fun _ => ?_) (fun z => by exfalso; omega)
    refine And.intro (fun _ => ?_) (fun z => absurd (show (104 : Int) ≠ 114 by decide) z)
    refine And.intro (fun _ => ?_) (fun z => absurd (show (104 : Int) ≠ 118 by decide) z)
    refine And.intro (fun _ => ?_) (fun z => absurd rfl z)
    show cl _ _ _ _
    refine hcl _ _ _ _ (z_number (by decide) (by decide) X1 ⟨by omega, by omega⟩ (fun σ2 f2 g2 X2 => ?_) (fun σ2 x f2 g2 X2 _ _ => ?_))
    · have c2 : σ2 100 31 = c := (f2 100 31 (by omega)).trans ((f1 100 31 (by omega)).trans c31)
      have C2 : m_C (q_up σ2 124 (σ2 100 31) (u_num B n 0 99 (p + 1)).1) c (q_up ρ q 1 (u_num B n 0 99 (p + 1)).1) q := by rw [c2]; exact m_C_s1 (m_C_f2 (m_C_f2 C f1) f2)
      exact hev _ (zv_l104 (by omega) (hR g g2 _ (m_fr_up (m_fr_f2 (m_fr_f2 m_fr_rf f1) f2) (Or.inl ⟨by omega, by omega, c2⟩)) (m_X_up X2 (by omega)) C2))
    · have c2 : σ2 100 31 = c := (f2 100 31 (by omega)).trans ((f1 100 31 (by omega)).trans c31)
      exact hev _ (zv_l104 (by omega) (hW g g2 _ (m_fr_up (m_fr_f2 (m_fr_f2 m_fr_rf f1) f2) (Or.inl ⟨by omega, by omega, c2⟩)) (m_X_up X2 (by omega))))
  · have e54 := X1.2.2
    exact And.intro (fun z => by exfalso; omega) (fun _ => hS (fun z => g ⟨rfl, z⟩) σ1 (m_fr_f2 m_fr_rf f1) X1)
theorem z34_102 {c q n p : Int} {B : Int → Int} {σ ρ : q_S} {K : q_R → q_S → Prop} (W : m_W σ) (hc : 0 ≤ c ∧ c < 12) (c31 : σ 100 31 = c) (X : m_X σ B n 0 p) (hp : 0 ≤ p ∧ p ≤ n) (C : m_C σ c ρ q)
    (hS : u_pk B n p ≠ 32 → ∀ σ', m_fr c σ σ' → m_X σ' B n 1 p → K none σ')
    (hR : u_pk B n p = 32 → (u_num B n 0 999 (p + 1)).1 ≠ -1 → ∀ σ', m_fr c σ σ' → m_X σ' B n 0 (u_num B n 0 999 (p + 1)).2 → m_C σ' c (q_up ρ q 2 (u_num B n 0 999 (p + 1)).1) q → K none σ')
    (hW : u_pk B n p = 32 → (u_num B n 0 999 (p + 1)).1 = -1 → ∀ σ', m_fr c σ σ' → m_X σ' B n 1 (u_num B n 0 999 (p + 1)).2 → K none σ') : q_E L xs k_M_readsClause (34, [(2, 100), (0, 102), (9, 0)], [], σ) K := by
  refine q_go1 200 34 [65] (fun cl ev hcl hev => ?_)
  show cl _ _ _ _
  refine hcl _ _ _ _ (z_must X hp (by decide) (fun _ g σ1 f1 X1 => ?_) (fun g σ1 f1 X1 => ?_))
  · have e54 := X1.2.2
    have hlt := u_pks (by decide) g
    refine And.intro (fun _ => ?_) (fun z => by exfalso; omega)
    refine And.intro (fun _ => ?_) (fun z => absurd (show (102 : Int) ≠ 114 by decide) z)
    refine And.intro (fun _ => ?_) (fun z => absurd (show (102 : Int) ≠ 118 by decide) z)
    refine And.intro (fun z => absurd z (show ¬ (102 : Int) = 104 by decide)) (fun _ => ?_)
    refine And.intro (fun _ => ?_) (fun z => absurd (show (102 : Int) ≠ 118 by decide) z)
    show cl _ _ _ _
    refine hcl _ _ _ _ (z_number (by decide) (by decide) X1 ⟨by omega, by omega⟩ (fun σ2 f2 g2 X2 => ?_) (fun σ2 x f2 g2 X2 _ _ => ?_))
    · have c2 : σ2 100 31 = c := (f2 100 31 (by omega)).trans ((f1 100 31 (by omega)).trans c31)
      have C2 : m_C (q_up σ2 125 (σ2 100 31) (u_num B n 0 999 (p + 1)).1) c (q_up ρ q 2 (u_num B n 0 999 (p + 1)).1) q := by rw [c2]; exact m_C_s2 (m_C_f2 (m_C_f2 C f1) f2)
      exact hev _ (zv_l102 (by omega) (hR g g2 _ (m_fr_up (m_fr_f2 (m_fr_f2 m_fr_rf f1) f2) (Or.inl ⟨by omega, by omega, c2⟩)) (m_X_up X2 (by omega)) C2))
    · have c2 : σ2 100 31 = c := (f2 100 31 (by omega)).trans ((f1 100 31 (by omega)).trans c31)
      exact hev _ (zv_l102 (by omega) (hW g g2 _ (m_fr_up (m_fr_f2 (m_fr_f2 m_fr_rf f1) f2) (Or.inl ⟨by omega, by omega, c2⟩)) (m_X_up X2 (by omega))))
  · have e54 := X1.2.2
    exact And.intro (fun z => by exfalso; omega) (fun _ => hS (fun z => g ⟨rfl, z⟩) σ1 (m_fr_f2 m_fr_rf f1) X1)
theorem z34_118 {c q n p : Int} {B : Int → Int} {σ ρ : q_S} {K : q_R → q_S → Prop} (W : m_W σ) (hc : 0 ≤ c ∧ c < 12) (c31 : σ 100 31 = c) (X : m_X σ B n 0 p) (hp : 0 ≤ p ∧ p ≤ n) (C : m_C σ c ρ q)
    (hS : u_pk B n p ≠ 32 → ∀ σ', m_fr c σ σ' → m_X σ' B n 1 p → K none σ')
    (hR : u_pk B n p = 32 → (u_num B n 1 99 (p + 1)).1 ≠ -1 → ∀ σ', m_fr c σ σ' → m_X σ' B n 0 (u_num B n 1 99 (p + 1)).2 → m_C σ' c (q_up ρ q 3 (u_num B n 1 99 (p + 1)).1) q → K none σ')
    (hW : u_pk B n p = 32 → (u_num B n 1 99 (p + 1)).1 = -1 → ∀ σ', m_fr c σ σ' → m_X σ' B n 1 (u_num B n 1 99 (p + 1)).2 → K none σ') : q_E L xs k_M_readsClause (34, [(2, 100), (0, 118), (9, 0)], [], σ) K := by
  refine q_go1 200 34 [65] (fun cl ev hcl hev => ?_)
  show cl _ _ _ _
  refine hcl _ _ _ _ (z_must X hp (by decide) (fun _ g σ1 f1 X1 => ?_) (fun g σ1 f1 X1 => ?_))
  · have e54 := X1.2.2
    have hlt := u_pks (by decide) g
    refine And.intro (fun _ => ?_) (fun z => by exfalso; omega)
    refine And.intro (fun _ => ?_) (fun z => absurd (show (118 : Int) ≠ 114 by decide) z)
    refine And.intro (fun z => absurd rfl z) (fun _ => ?_)
    refine And.intro (fun z => absurd z (show ¬ (118 : Int) = 104 by decide)) (fun _ => ?_)
    refine And.intro (fun z => absurd rfl z) (fun _ => ?_)
    show cl _ _ _ _
    refine hcl _ _ _ _ (z_number (by decide) (by decide) X1 ⟨by omega, by omega⟩ (fun σ2 f2 g2 X2 => ?_) (fun σ2 x f2 g2 X2 _ _ => ?_))
    · have c2 : σ2 100 31 = c := (f2 100 31 (by omega)).trans ((f1 100 31 (by omega)).trans c31)
      have C2 : m_C (q_up σ2 126 (σ2 100 31) (u_num B n 1 99 (p + 1)).1) c (q_up ρ q 3 (u_num B n 1 99 (p + 1)).1) q := by rw [c2]; exact m_C_s3 (m_C_f2 (m_C_f2 C f1) f2)
      exact hev _ (zv_l118 (by omega) (hR g g2 _ (m_fr_up (m_fr_f2 (m_fr_f2 m_fr_rf f1) f2) (Or.inl ⟨by omega, by omega, c2⟩)) (m_X_up X2 (by omega)) C2))
    · have c2 : σ2 100 31 = c := (f2 100 31 (by omega)).trans ((f1 100 31 (by omega)).trans c31)
      exact hev _ (zv_l118 (by omega) (hW g g2 _ (m_fr_up (m_fr_f2 (m_fr_f2 m_fr_rf f1) f2) (Or.inl ⟨by omega, by omega, c2⟩)) (m_X_up X2 (by omega))))
  · have e54 := X1.2.2
    exact And.intro (fun z => by exfalso; omega) (fun _ => hS (fun z => g ⟨rfl, z⟩) σ1 (m_fr_f2 m_fr_rf f1) X1)
theorem z34_115 {c q n p : Int} {B : Int → Int} {σ ρ : q_S} {K : q_R → q_S → Prop} (W : m_W σ) (hc : 0 ≤ c ∧ c < 12) (c31 : σ 100 31 = c) (X : m_X σ B n 0 p) (hp : 0 ≤ p ∧ p ≤ n) (C : m_C σ c ρ q)
    (hS : u_pk B n p ≠ 32 → ∀ σ', m_fr c σ σ' → m_X σ' B n 1 p → K none σ')
    (hR : u_pk B n p = 32 → (u_num B n 0 999 (p + 1)).1 ≠ -1 → ∀ σ', m_fr c σ σ' → m_X σ' B n 0 (u_num B n 0 999 (p + 1)).2 → m_C σ' c (q_up ρ q 4 (u_num B n 0 999 (p + 1)).1) q → K none σ')
    (hW : u_pk B n p = 32 → (u_num B n 0 999 (p + 1)).1 = -1 → ∀ σ', m_fr c σ σ' → m_X σ' B n 1 (u_num B n 0 999 (p + 1)).2 → K none σ') : q_E L xs k_M_readsClause (34, [(2, 100), (0, 115), (9, 0)], [], σ) K := by
  refine q_go1 200 34 [65] (fun cl ev hcl hev => ?_)
  show cl _ _ _ _
  refine hcl _ _ _ _ (z_must X hp (by decide) (fun _ g σ1 f1 X1 => ?_) (fun g σ1 f1 X1 => ?_))
  · have e54 := X1.2.2
    have hlt := u_pks (by decide) g
    refine And.intro (fun _ => ?_) (fun z => by exfalso; omega)
    refine And.intro (fun _ => ?_) (fun z => absurd (show (115 : Int) ≠ 114 by decide) z)
    refine And.intro (fun _ => ?_) (fun z => absurd (show (115 : Int) ≠ 118 by decide) z)
    refine And.intro (fun z => absurd z (show ¬ (115 : Int) = 104 by decide)) (fun _ => ?_)
    refine And.intro (fun _ => ?_) (fun z => absurd (show (115 : Int) ≠ 118 by decide) z)
    show cl _ _ _ _
    refine hcl _ _ _ _ (z_number (by decide) (by decide) X1 ⟨by omega, by omega⟩ (fun σ2 f2 g2 X2 => ?_) (fun σ2 x f2 g2 X2 _ _ => ?_))
    · have c2 : σ2 100 31 = c := (f2 100 31 (by omega)).trans ((f1 100 31 (by omega)).trans c31)
      have C2 : m_C (q_up σ2 127 (σ2 100 31) (u_num B n 0 999 (p + 1)).1) c (q_up ρ q 4 (u_num B n 0 999 (p + 1)).1) q := by rw [c2]; exact m_C_s4 (m_C_f2 (m_C_f2 C f1) f2)
      exact hev _ (zv_l115 (by omega) (hR g g2 _ (m_fr_up (m_fr_f2 (m_fr_f2 m_fr_rf f1) f2) (Or.inl ⟨by omega, by omega, c2⟩)) (m_X_up X2 (by omega)) C2))
    · have c2 : σ2 100 31 = c := (f2 100 31 (by omega)).trans ((f1 100 31 (by omega)).trans c31)
      exact hev _ (zv_l115 (by omega) (hW g g2 _ (m_fr_up (m_fr_f2 (m_fr_f2 m_fr_rf f1) f2) (Or.inl ⟨by omega, by omega, c2⟩)) (m_X_up X2 (by omega))))
  · have e54 := X1.2.2
    exact And.intro (fun z => by exfalso; omega) (fun _ => hS (fun z => g ⟨rfl, z⟩) σ1 (m_fr_f2 m_fr_rf f1) X1)
theorem z_clause {c q n p : Int} {B : Int → Int} {σ ρ : q_S} {K : q_R → q_S → Prop} (W : m_W σ) (hc : 0 ≤ c ∧ c < 12) (c31 : σ 100 31 = c) (X : m_X σ B n 0 p) (hp : 0 ≤ p ∧ p ≤ n) (C : m_C σ c ρ q) (h8 : 0 ≤ ρ q 8 ∧ ρ q 8 < 10)
    (hR : (u_cl B n q p ρ).1 = 1 → ∀ σ', m_fr c σ σ' → m_X σ' B n 0 (u_cl B n q p ρ).2.1 → m_C σ' c (u_cl B n q p ρ).2.2 q → K none σ')
    (hD : (u_cl B n q p ρ).1 = 0 → ∀ σ', m_fr c σ σ' → m_X σ' B n 0 (u_cl B n q p ρ).2.1 → ((u_cl B n q p ρ).2.1 < n ∧ 48 ≤ B (u_cl B n q p ρ).2.1 ∧ B (u_cl B n q p ρ).2.1 ≤ 57) → K none σ')
    (hW : (u_cl B n q p ρ).1 = 0 → ∀ σ', m_fr c σ σ' → m_X σ' B n 1 (u_cl B n q p ρ).2.1 → K none σ') : q_K L xs i_M_readsClause [(2, 100)] σ K := by
  obtain ⟨t, e53, e54⟩ := id X
  have t4 := t.2.2.2.1
  have e8 : q_w32 (q_up σ 100 54 0 100 53 + 1) = p + 1 := by rw [q_ui (by decide), e53, q_w32_id] <;> omega
  have e0 : q_w32 (q_up σ 100 54 1 100 53 + 0) = p := by rw [q_ui (by decide), e53, q_w32_id] <;> omega
  have Fs : m_fr c σ (q_up (q_up σ 100 54 0) 100 53 (p + 1)) := m_fr_f2 m_fr_rf m_f2s
  have Ws := m_fr_W Fs W
  have cs := (m_fr_31 Fs).trans c31
  have Cs : m_C (q_up (q_up σ 100 54 0) 100 53 (p + 1)) c ρ q := m_C_f2 C m_f2s
  refine q_call k_M_readsClause 3 rfl ?_
  show q_E L xs k_M_readsClause (0, [(2, 100), (9, 0), (9, 0)], [], σ) K
  refine q_go1 200 0 [34] (fun cl ev hcl hev => ?_)
  show cl _ _ _ _
  refine hcl _ _ _ _ (z_byte X hp ?_)
  refine And.intro (fun g => ?_) (fun g114 => ?_)
  · refine And.intro (by omega) ?_
    refine And.intro (fun _ => ?_) (fun z => absurd q_ue z)
    refine hev _ ?_
    rw [e8, g]
    have hlt := u_pks (by decide) g
    rw [u_cl_r g] at hR hD hW
    refine z34_114 Ws hc cs (m_X_st X) ⟨by omega, by omega⟩ Cs h8 (fun e σ' F X' => ?_) (fun e a σ' F X' C' => ?_) (fun e a σ' F X' g' => ?_) (fun e a σ' F X' => ?_)
    · rw [if_neg e] at hW
      exact hW rfl σ' (m_fr_tr Fs F) X'
    · rw [if_pos e] at hR
      exact hR a σ' (m_fr_tr Fs F) X' C'
    · rw [if_pos e] at hD
      exact hD a σ' (m_fr_tr Fs F) X' g'
    · rw [if_pos e] at hW
      exact hW a σ' (m_fr_tr Fs F) X'
  · refine And.intro (fun g => ?_) (fun g104 => ?_)
    · refine And.intro (by omega) ?_
      refine And.intro (fun _ => ?_) (fun z => absurd q_ue z)
      refine hev _ ?_
      rw [e8, g]
      have hlt := u_pks (by decide) g
      rw [u_cl_104 g] at hR hW
      refine z34_104 Ws hc cs (m_X_st X) ⟨by omega, by omega⟩ Cs (fun e σ' F X' => ?_) (fun e a σ' F X' C' => ?_) (fun e a σ' F X' => ?_)
      · rw [if_neg e] at hW
        exact hW rfl σ' (m_fr_tr Fs F) X'
      · rw [if_pos e] at hR
        exact hR (if_neg a) σ' (m_fr_tr Fs F) X' C'
      · rw [if_pos e] at hW
        exact hW (if_pos a) σ' (m_fr_tr Fs F) X'
    · refine And.intro (fun g => ?_) (fun g102 => ?_)
      · refine And.intro (by omega) ?_
        refine And.intro (fun _ => ?_) (fun z => absurd q_ue z)
        refine hev _ ?_
        rw [e8, g]
        have hlt := u_pks (by decide) g
        rw [u_cl_102 g] at hR hW
        refine z34_102 Ws hc cs (m_X_st X) ⟨by omega, by omega⟩ Cs (fun e σ' F X' => ?_) (fun e a σ' F X' C' => ?_) (fun e a σ' F X' => ?_)
        · rw [if_neg e] at hW
          exact hW rfl σ' (m_fr_tr Fs F) X'
        · rw [if_pos e] at hR
          exact hR (if_neg a) σ' (m_fr_tr Fs F) X' C'
        · rw [if_pos e] at hW
          exact hW (if_pos a) σ' (m_fr_tr Fs F) X'
      · refine And.intro (fun g => ?_) (fun g118 => ?_)
        · refine And.intro (by omega) ?_
          refine And.intro (fun _ => ?_) (fun z => absurd q_ue z)
          refine hev _ ?_
          rw [e8, g]
          have hlt := u_pks (by decide) g
          rw [u_cl_118 g] at hR hW
          refine z34_118 Ws hc cs (m_X_st X) ⟨by omega, by omega⟩ Cs (fun e σ' F X' => ?_) (fun e a σ' F X' C' => ?_) (fun e a σ' F X' => ?_)
          · rw [if_neg e] at hW
            exact hW rfl σ' (m_fr_tr Fs F) X'
          · rw [if_pos e] at hR
            exact hR (if_neg a) σ' (m_fr_tr Fs F) X' C'
          · rw [if_pos e] at hW
            exact hW (if_pos a) σ' (m_fr_tr Fs F) X'
        · refine And.intro (fun g => ?_) (fun g115 => ?_)
          · refine And.intro (by omega) ?_
            refine And.intro (fun _ => ?_) (fun z => absurd q_ue z)
            refine hev _ ?_
            rw [e8, g]
            have hlt := u_pks (by decide) g
            rw [u_cl_115 g] at hR hW
            refine z34_115 Ws hc cs (m_X_st X) ⟨by omega, by omega⟩ Cs (fun e σ' F X' => ?_) (fun e a σ' F X' C' => ?_) (fun e a σ' F X' => ?_)
            · rw [if_neg e] at hW
              exact hW rfl σ' (m_fr_tr Fs F) X'
            · rw [if_pos e] at hR
              exact hR (if_neg a) σ' (m_fr_tr Fs F) X' C'
            · rw [if_pos e] at hW
              exact hW (if_pos a) σ' (m_fr_tr Fs F) X'
          · rw [u_cl_n g114 g104 g102 g118 g115] at hW
            refine And.intro (by omega) ?_
            refine And.intro (fun z => absurd (q_ue.symm.trans z) (show ¬ (1 : Int) = 0 by decide)) (fun _ => ?_)
            refine hev _ ?_
            rw [e0]
            exact z34_w (m_X_st X) hp (fun σ' F X' => hW rfl σ' (m_fr_f2 (m_fr_f2 m_fr_rf m_f2s) F) X')

theorem z_cu0 {i w p n : Int} {B : Int → Int} {σ : q_S} {K : q_R → q_S → Prop} (X : m_X σ B n w p) (h1 : w = 0 → p = n → K none (q_up σ 100 54 0)) (h0 : ¬ (w = 0 ∧ p = n) → K none (q_up σ 100 54 1)) : q_E L xs k_M_readsCustom (40, [(2, 100), (0, i), (0, 0)], [], σ) K := by
  obtain ⟨t, e53, e54⟩ := id X
  have t2 := t.2.1
  refine q_go1 80 40 [40] (fun cl ev hcl hev => ?_)
  refine And.intro (fun _ => ?_) (fun z => absurd rfl z)
  refine And.intro (fun g => ?_) (fun g => ?_)
  · exact And.intro (by omega) (h0 (by omega))
  · refine And.intro (fun g2 => ?_) (fun g2 => ?_)
    · exact And.intro (by omega) (h1 (by omega) (by omega))
    · exact And.intro (by omega) (h0 (by omega))
theorem z_stopW {i w p n c : Int} {B : Int → Int} {σ0 σ : q_S} {K : q_R → q_S → Prop} (X : m_X σ B n w p) (hp : 0 ≤ p ∧ p ≤ n) (F : m_fr c σ0 σ) (hn : ¬ (w = 0 ∧ p = n)) (hK : ∀ σ', m_fr c σ0 σ' → m_X σ' B n 1 p → K none σ') : q_E L xs k_M_readsCustom (40, [(2, 100), (0, i), (0, 0)], [], q_up σ 100 53 (q_w32 (σ 100 53 + 0))) K := by
  have t4 := X.1.2.2.2.1
  have e0 : q_w32 (σ 100 53 + 0) = p := by rw [X.2.1, q_w32_id] <;> omega
  rw [e0]
  exact z_cu0 (m_X_53 X) (fun a b => absurd ⟨a, b⟩ hn) (fun _ => hK _ (m_fr_f2 F (q_f2_up (q_f2_up q_f2_rf (Or.inl rfl)) (Or.inr rfl))) (m_X_54 (m_X_53 X)))
theorem z_stopR {i n c q : Int} {B : Int → Int} {σ0 σ ρ : q_S} {K : q_R → q_S → Prop} (X : m_X σ B n 0 n) (F : m_fr c σ0 σ) (C : m_C σ c ρ q) (hK : ∀ σ', m_fr c σ0 σ' → m_X σ' B n 0 n → m_C σ' c ρ q → K none σ') : q_E L xs k_M_readsCustom (40, [(2, 100), (0, i), (0, 0)], [], q_up σ 100 53 (q_w32 (σ 100 53 + 0))) K := by
  have t3 := X.1.2.2.1
  have t4 := X.1.2.2.2.1
  have e0 : q_w32 (σ 100 53 + 0) = n := by rw [X.2.1, q_w32_id] <;> omega
  rw [e0]
  exact z_cu0 (m_X_53 X) (fun _ _ => hK _ (m_fr_f2 F (q_f2_up (q_f2_up q_f2_rf (Or.inl rfl)) (Or.inr rfl))) (m_X_54 (m_X_53 X)) (m_C_f2 C (q_f2_up (q_f2_up q_f2_rf (Or.inl rfl)) (Or.inr rfl)))) (fun z => absurd ⟨rfl, rfl⟩ z)
theorem z_cstep {c q n i p : Int} {k : Nat} {B : Int → Int} {σ0 σ ρ : q_S} {K : q_R → q_S → Prop} (W : m_W σ0) (hc : 0 ≤ c ∧ c < 12) (c31 : σ0 100 31 = c) (hi : i = 9 - k) (hi0 : 0 ≤ i) (F : m_fr c σ0 σ) (X : m_X σ B n 0 p) (hp : 0 ≤ p ∧ p ≤ n) (C : m_C σ c ρ q) (h8 : 0 ≤ ρ q 8 ∧ ρ q 8 ≤ i)
    (h1 : (u_rd B n q (k + 1) p ρ).1 = 1 → ∀ σ', m_fr c σ0 σ' → m_X σ' B n 0 (u_rd B n q (k + 1) p ρ).2.1 → m_C σ' c (u_rd B n q (k + 1) p ρ).2.2 q → K none σ') (h0 : (u_rd B n q (k + 1) p ρ).1 = 0 → ∀ σ', m_fr c σ0 σ' → m_X σ' B n 1 (u_rd B n q (k + 1) p ρ).2.1 → K none σ')
    (rcr : k ≠ 0 → ∀ (σ1 ρ1 : q_S) (p1 : Int), m_fr c σ0 σ1 → m_X σ1 B n 0 p1 → (0 ≤ p1 ∧ p1 ≤ n) → m_C σ1 c ρ1 q → (0 ≤ ρ1 q 8 ∧ ρ1 q 8 ≤ i + 1) → ((u_rd B n q k p1 ρ1).1 = 1 → ∀ σ', m_fr c σ0 σ' → m_X σ' B n 0 (u_rd B n q k p1 ρ1).2.1 → m_C σ' c (u_rd B n q k p1 ρ1).2.2 q → K none σ') → ((u_rd B n q k p1 ρ1).1 = 0 → ∀ σ', m_fr c σ0 σ' → m_X σ' B n 1 (u_rd B n q k p1 ρ1).2.1 → K none σ') → q_E L xs k_M_readsCustom (40, [(2, 100), (0, i + 1), (0, 1)], [], σ1) K) :
    q_E L xs k_M_readsCustom (40, [(2, 100), (0, i), (0, 1)], [], σ) K := by
  have er : u_rd B n q (k + 1) p ρ = if (u_cl B n q p ρ).1 = 0 then (0, (u_cl B n q p ρ).2.1, (u_cl B n q p ρ).2.2) else if n ≤ (u_cl B n q p ρ).2.1 then (1, (u_cl B n q p ρ).2.1, (u_cl B n q p ρ).2.2) else if k = 0 ∨ B (u_cl B n q p ρ).2.1 ≠ 59 then (0, (u_cl B n q p ρ).2.1, (u_cl B n q p ρ).2.2) else u_rd B n q k ((u_cl B n q p ρ).2.1 + 1) (u_cl B n q p ρ).2.2 := rfl
  rw [er] at h1 h0
  have ci := u_cl_in (B := B) (q := q) (ρ := ρ) hp.1 hp.2
  have c8 := u_cl_8 (B := B) (n := n) (p := p) h8
  have t4 := X.1.2.2.2.1
  have e : q_w32 (i + 1) = i + 1 := by rw [q_w32_id] <;> omega
  have epk : (u_cl B n q p ρ).2.1 < n → u_pk B n (u_cl B n q p ρ).2.1 = B (u_cl B n q p ρ).2.1 := fun h => by unfold u_pk; rw [if_pos h]
  refine q_go1 200 40 [40] (fun cl ev hcl hev => ?_)
  refine And.intro (fun z => absurd z (show ¬ (1 : Int) = 0 by decide)) (fun _ => ?_)
  show cl _ _ _ _
  refine hcl _ _ _ _ (z_clause (m_fr_W F W) hc ((m_fr_31 F).trans c31) X hp C ⟨h8.1, by omega⟩ (fun a σ1 F1 X1 C1 => ?_) (fun a σ1 F1 X1 g => ?_) (fun a σ1 F1 X1 => ?_))
  · rw [if_neg (by rw [a]; decide)] at h1 h0
    have e54 := X1.2.2
    have F2 := m_fr_tr F F1
    refine And.intro (fun z => by exfalso; omega) (fun _ => ?_)
    refine And.intro (fun z => ?_) (fun z => ?_)
    · refine And.intro (fun _ => ?_) (fun z => absurd rfl z)
      refine hev _ ?_
      by_cases hn : n ≤ (u_cl B n q p ρ).2.1
      · rw [if_pos hn] at h1
        have en : (u_cl B n q p ρ).2.1 = n := by omega
        rw [en] at h1 X1
        exact z_stopR X1 F2 C1 (fun σ' F' X' C' => h1 rfl σ' F' X' C')
      · rw [if_neg hn, if_pos (Or.inl (by omega))] at h0
        exact z_stopW X1 ⟨by omega, ci.2⟩ F2 (by omega) (fun σ' F' X' => h0 rfl σ' F' X')
    · show cl _ _ _ _
      refine hcl _ _ _ _ (z_byte X1 ⟨by omega, ci.2⟩ ?_)
      refine And.intro (fun g => ?_) (fun g => ?_)
      · refine And.intro (fun _ => ?_) (fun z => absurd rfl z)
        refine hev _ ?_
        by_cases hn : n ≤ (u_cl B n q p ρ).2.1
        · rw [if_pos hn] at h1
          have en : (u_cl B n q p ρ).2.1 = n := by omega
          rw [en] at h1 X1
          exact z_stopR X1 F2 C1 (fun σ' F' X' C' => h1 rfl σ' F' X' C')
        · have epk := epk (by omega)
          rw [if_neg hn, if_pos (Or.inr (by rw [← epk]; exact g))] at h0
          exact z_stopW X1 ⟨by omega, ci.2⟩ F2 (by omega) (fun σ' F' X' => h0 rfl σ' F' X')
      · have g := Decidable.not_not.mp g
        have hlt := u_pks (by decide) g
        have epk := epk hlt
        have e8 : q_w32 (σ1 100 53 + 1) = (u_cl B n q p ρ).2.1 + 1 := by rw [X1.2.1, q_w32_id] <;> omega
        rw [if_neg (by omega), if_neg (by omega)] at h1 h0
        refine And.intro (fun z => absurd z (show ¬ (1 : Int) = 0 by decide)) (fun _ => ?_)
        refine hev _ ?_
        rw [e, e8]
        exact rcr (by omega) _ _ _ (m_fr_f2 F2 (q_f2_up q_f2_rf (Or.inl rfl))) (m_X_53 X1) ⟨by omega, by omega⟩ (m_C_f2 C1 (q_f2_up q_f2_rf (Or.inl rfl))) c8 h1 h0
  · rw [if_pos a] at h0
    have e54 := X1.2.2
    have epk := epk g.1
    refine And.intro (fun z => by exfalso; omega) (fun _ => ?_)
    refine And.intro (fun z => ?_) (fun z => ?_)
    · refine And.intro (fun _ => ?_) (fun z => absurd rfl z)
      exact hev _ (z_stopW X1 ⟨by omega, ci.2⟩ (m_fr_tr F F1) (by omega) (fun σ' F' X' => h0 rfl σ' F' X'))
    · show cl _ _ _ _
      refine hcl _ _ _ _ (z_byte X1 ⟨by omega, ci.2⟩ ?_)
      refine And.intro (fun _ => ?_) (fun z => by exfalso; omega)
      refine And.intro (fun _ => ?_) (fun z => absurd rfl z)
      exact hev _ (z_stopW X1 ⟨by omega, ci.2⟩ (m_fr_tr F F1) (by omega) (fun σ' F' X' => h0 rfl σ' F' X'))
  · rw [if_pos a] at h0
    have e54 := X1.2.2
    refine And.intro (fun _ => ?_) (fun z => by exfalso; omega)
    refine And.intro (fun _ => ?_) (fun z => absurd rfl z)
    exact hev _ (z_stopW X1 ⟨by omega, ci.2⟩ (m_fr_tr F F1) (by omega) (fun σ' F' X' => h0 rfl σ' F' X'))
theorem zl_cust {c q n : Int} {B : Int → Int} {σ0 : q_S} {K : q_R → q_S → Prop} (W : m_W σ0) (hc : 0 ≤ c ∧ c < 12) (c31 : σ0 100 31 = c) : ∀ (k : Nat) (i p : Int) (σ ρ : q_S), i = 9 - k → 0 ≤ i → m_fr c σ0 σ → m_X σ B n 0 p → (0 ≤ p ∧ p ≤ n) → m_C σ c ρ q → (0 ≤ ρ q 8 ∧ ρ q 8 ≤ i) → ((u_rd B n q (k + 1) p ρ).1 = 1 → ∀ σ', m_fr c σ0 σ' → m_X σ' B n 0 (u_rd B n q (k + 1) p ρ).2.1 → m_C σ' c (u_rd B n q (k + 1) p ρ).2.2 q → K none σ') → ((u_rd B n q (k + 1) p ρ).1 = 0 → ∀ σ', m_fr c σ0 σ' → m_X σ' B n 1 (u_rd B n q (k + 1) p ρ).2.1 → K none σ') →
    q_E L xs k_M_readsCustom (40, [(2, 100), (0, i), (0, 1)], [], σ) K := by
  intro k
  induction k with
  | zero => intro i p σ ρ hi hi0 F X hp C h8 h1 h0; exact z_cstep W hc c31 hi hi0 F X hp C h8 h1 h0 (fun z => absurd rfl z)
  | succ k ih => intro i p σ ρ hi hi0 F X hp C h8 h1 h0; exact z_cstep W hc c31 hi hi0 F X hp C h8 h1 h0 (fun _ σ1 ρ1 p1 F1 X1 hp1 C1 h81 h11 h01 => ih (i + 1) p1 σ1 ρ1 (by omega) (by omega) F1 X1 hp1 C1 h81 h11 h01)
theorem z_custom {c q n : Int} {B : Int → Int} {σ ρ : q_S} {K : q_R → q_S → Prop} (W : m_W σ) (hc : 0 ≤ c ∧ c < 12) (c31 : σ 100 31 = c) (t : m_tp σ B n) (h1 : (u_rd B n q 10 0 (u_clr ρ q)).1 = 1 → ∀ σ', m_fr c σ σ' → m_X σ' B n 0 (u_rd B n q 10 0 (u_clr ρ q)).2.1 → m_C σ' c (u_rd B n q 10 0 (u_clr ρ q)).2.2 q → K none σ') (h0 : (u_rd B n q 10 0 (u_clr ρ q)).1 = 0 → ∀ σ', m_fr c σ σ' → m_X σ' B n 1 (u_rd B n q 10 0 (u_clr ρ q)).2.1 → K none σ') : q_K L xs i_M_readsCustom [(2, 100)] σ K := by
  have hb : 0 ≤ σ 100 31 ∧ σ 100 31 < 12 := by omega
  have X0 : m_X (q_up (q_up σ 100 53 0) 100 54 0) B n 0 0 := ⟨m_tp_f (q_f2_up (q_f2_up q_f2_rf (Or.inl rfl)) (Or.inr rfl)) t, (q_ui (by decide)).trans q_ue, q_ue⟩
  have F0 : m_fr c σ (q_up (q_up σ 100 53 0) 100 54 0) := m_fr_f2 m_fr_rf (q_f2_up (q_f2_up q_f2_rf (Or.inl rfl)) (Or.inr rfl))
  have up : ∀ k : Int, 124 ≤ k → k ≤ 128 → (124 ≤ k ∧ k ≤ 128 ∧ c = c) ∨ (129 ≤ k ∧ k ≤ 132 ∧ 10 * c ≤ c ∧ c < 10 * c + 10) := fun k a b => Or.inl ⟨a, b, rfl⟩
  have c8 : u_clr ρ q q 8 = 0 := by unfold u_clr; rw [q_ue]
  refine q_call k_M_readsCustom 3 rfl ?_
  show q_E L xs k_M_readsCustom (0, [(2, 100), (9, 0), (9, 0)], [], σ) K
  refine q_go1 200 0 [40] (fun cl ev hcl hev => ?_)
  refine And.intro (Or.inl rfl) ?_
  refine And.intro hb ?_
  refine And.intro hb ?_
  refine And.intro hb ?_
  refine And.intro hb ?_
  refine And.intro hb ?_
  refine hev _ ?_
  show q_E L xs k_M_readsCustom (40, [(2, 100), (0, 0), (0, 1)], [], q_up (q_up (q_up (q_up (q_up (q_up (q_up σ 100 53 0) 100 54 0) 124 (σ 100 31) 0) 125 (σ 100 31) 0) 126 (σ 100 31) 99) 127 (σ 100 31) 0) 128 (σ 100 31) 0) K
  rw [c31]
  refine zl_cust W hc c31 9 0 0 _ (u_clr ρ q) (by decide) (by decide) (m_fr_up (m_fr_up (m_fr_up (m_fr_up (m_fr_up F0 (up 124 (by decide) (by decide))) (up 125 (by decide) (by decide))) (up 126 (by decide) (by decide))) (up 127 (by decide) (by decide))) (up 128 (by decide) (by decide))) (m_X_up (m_X_up (m_X_up (m_X_up (m_X_up X0 (by decide)) (by decide)) (by decide)) (by decide)) (by decide)) ⟨by decide, t.2.2.1⟩ ⟨⟨?_, ?_, ?_, ?_, ?_⟩, fun k k0 k1 => ?_⟩ ⟨by omega, by omega⟩ h1 h0
  · unfold u_clr; rw [q_un (by decide), q_un (by decide), q_un (by decide), q_un (by decide), q_ue, q_ui (by decide), q_ui (by decide), q_ui (by decide), q_ui (by decide), q_ue]
  · unfold u_clr; rw [q_un (by decide), q_un (by decide), q_un (by decide), q_ue, q_ui (by decide), q_ui (by decide), q_ui (by decide), q_ue]
  · unfold u_clr; rw [q_un (by decide), q_un (by decide), q_ue, q_ui (by decide), q_ui (by decide), q_ue]
  · unfold u_clr; rw [q_un (by decide), q_ue, q_ui (by decide), q_ue]
  · rw [q_ue, c8]
  · rw [c8] at k1
    omega
theorem z_court {d q n : Int} {B : Int → Int} {σ ρ : q_S} {K : q_R → q_S → Prop} (hc : 0 ≤ σ 100 31 ∧ σ 100 31 ≤ 12) (W : m_W σ) (t : m_tp σ B n)
    (h2 : ¬ (0 ≤ d ∧ d ≤ 9999) → K (some (0, -2)) σ) (h4 : (0 ≤ d ∧ d ≤ 9999 ∧ σ 100 31 = 12) → K (some (0, -4)) σ)
    (h0 : (0 ≤ d ∧ d ≤ 9999 ∧ σ 100 31 < 12) → (u_rd B n q 10 0 (u_clr ρ q)).1 = 0 → ∀ σ', m_fr (σ 100 31) σ σ' → K (some (0, q_w32 (-10 - (u_rd B n q 10 0 (u_clr ρ q)).2.1))) (q_up σ' 100 30 0))
    (h1 : (0 ≤ d ∧ d ≤ 9999 ∧ σ 100 31 < 12) → (u_rd B n q 10 0 (u_clr ρ q)).1 = 1 → ∀ σ', m_fr (σ 100 31) σ σ' → m_C σ' (σ 100 31) (u_rd B n q 10 0 (u_clr ρ q)).2.2 q → K (some (0, σ 100 31)) (q_up (q_up (q_up σ' 100 30 0) 123 (σ 100 31) d) 100 31 (σ 100 31 + 1))) : q_K L xs i_M_court [(2, 100), (0, d)] σ K := by
  refine q_call k_M_court 2 rfl ?_
  show q_E L xs k_M_court (0, [(2, 100), (0, d)], [], σ) K
  refine q_go1 80 0 [] (fun cl ev hcl hev => ?_)
  refine hcl _ _ _ _ (c_M_in (fun c1 => ?_) (fun c1 => ?_))
  · refine And.intro (fun _ => ?_) (fun hq => absurd (show (1 : Int) ≠ 0 by decide) hq)
    refine And.intro (fun c2 => ?_) (fun c2 => ?_)
    · refine hcl _ _ _ _ (z_custom (q := q) (ρ := ρ) (B := B) (n := n) W (by omega) rfl t (fun a σ1 F1 X1 C1 => ?_) (fun a σ1 F1 X1 => ?_))
      · have e : σ1 100 31 = σ 100 31 := m_fr_31 F1
        have e1 : q_w32 (σ 100 31 + 1) = σ 100 31 + 1 := by rw [q_w32_id] <;> omega
        have e2 : q_w32 (σ 100 31 + 1 - 1) = σ 100 31 := by rw [q_w32_id] <;> omega
        have e54 := X1.2.2
        refine And.intro (fun c3 => ?_) (fun c3 => absurd (show σ1 100 54 = 0 from e54) c3)
        refine And.intro (by show 0 ≤ σ1 100 31 ∧ σ1 100 31 < ((12 : Nat) : Int); omega) ?_
        have h1 := h1 (by omega) a σ1 F1 C1
        show K (some (0, q_w32 (q_up (q_up (q_up σ1 100 30 0) 123 (σ1 100 31) d) 100 31 (q_w32 (σ1 100 31 + 1)) 100 31 - 1))) (q_up (q_up (q_up σ1 100 30 0) 123 (σ1 100 31) d) 100 31 (q_w32 (σ1 100 31 + 1)))
        rw [q_ue, e, e1, e2]
        exact h1
      · have e54 := X1.2.2
        have h0 := h0 (by omega) a σ1 F1
        refine And.intro (fun c3 => absurd (show σ1 100 54 = 0 from c3) (by omega)) (fun c3 => ?_)
        show K (some (0, q_w32 (-10 - σ1 100 53))) (q_up σ1 100 30 0)
        rw [X1.2.1]
        exact h0
    · exact h4 (by omega)
  · refine And.intro (fun hq => absurd rfl hq) (fun _ => ?_)
    exact h2 c1
end X5
