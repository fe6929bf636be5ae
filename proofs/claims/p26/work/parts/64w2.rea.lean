/-! the reader, of the model -/
def m_tp (σ : q_S) (B : Int → Int) (n : Int) : Prop := (∀ i, σ 122 i = B i) ∧ σ 100 30 = n ∧ 0 ≤ n ∧ n ≤ 160 ∧ (∀ i, 0 ≤ B i ∧ B i ≤ 255)
/-- w: wrong already; p: the place -/
def m_X (σ : q_S) (B : Int → Int) (n w p : Int) : Prop := m_tp σ B n ∧ σ 100 53 = p ∧ σ 100 54 = w
section X1
variable {σ σ' : q_S} {B : Int → Int} {n w p : Int}
theorem m_tp_f (f : q_f2 σ σ') (t : m_tp σ B n) : m_tp σ' B n := ⟨fun i => (f 122 i (by omega)).trans (t.1 i), (f 100 30 (by omega)).trans t.2.1, t.2.2⟩
theorem m_by (X : m_X σ B n w p) : q_by1 σ = u_pk B n p := by
  obtain ⟨t, e53, e54⟩ := X
  unfold q_by1 u_pk
  rw [e53, t.2.1, t.1]
/-- a store into a row of the customs -/
theorem m_X_up {k i v : Int} (X : m_X σ B n w p) (hk : 124 ≤ k ∧ k ≤ 132) : m_X (q_up σ k i v) B n w p := by
  obtain ⟨t, e53, e54⟩ := X
  refine ⟨⟨fun i => (q_un (by omega)).trans (t.1 i), (q_un (by omega)).trans t.2.1, t.2.2⟩, (q_un (by omega)).trans e53, (q_un (by omega)).trans e54⟩
theorem m_f2s {w' p' : Int} : q_f2 σ (q_up (q_up σ 100 54 w') 100 53 p') := q_f2_up (q_f2_up q_f2_rf (Or.inr rfl)) (Or.inl rfl)
theorem m_X_st {w' p' : Int} (X : m_X σ B n w p) : m_X (q_up (q_up σ 100 54 w') 100 53 p') B n w' p' := ⟨m_tp_f m_f2s X.1, q_ue, (q_ui (by decide)).trans q_ue⟩
theorem m_X_54 {w' : Int} (X : m_X σ B n w p) : m_X (q_up σ 100 54 w') B n w' p := ⟨m_tp_f (q_f2_up q_f2_rf (Or.inr rfl)) X.1, (q_ui (by decide)).trans X.2.1, q_ue⟩
end X1
section X2
variable {L : Nat} {xs : Int → Int}
theorem z_byte {w p n : Int} {B : Int → Int} {σ : q_S} {K : q_R → q_S → Prop} (X : m_X σ B n w p) (hp : 0 ≤ p ∧ p ≤ n) (hK : K (some (0, u_pk B n p)) σ) : q_K L xs i_M_byteAt [(2, 100)] σ K := by
  obtain ⟨t, e53, e54⟩ := id X
  have t2 := t.2.1
  have t4 := t.2.2.2.1
  unfold u_pk at hK
  refine c_M_byteAt (by omega) (by omega) (fun g => ?_) (fun g => ?_)
  · rw [if_pos (by omega)] at hK
    rw [e53, t.1]
    exact hK
  · rw [if_neg (by omega)] at hK
    exact hK
theorem z_must {b w p n : Int} {B : Int → Int} {σ : q_S} {K : q_R → q_S → Prop} (X : m_X σ B n w p) (hp : 0 ≤ p ∧ p ≤ n) (hb : 0 ≤ b) (h1 : w = 0 → u_pk B n p = b → ∀ σ', q_f2 σ σ' → m_X σ' B n 0 (p + 1) → K none σ') (h0 : ¬ (w = 0 ∧ u_pk B n p = b) → ∀ σ', q_f2 σ σ' → m_X σ' B n 1 p → K none σ') : q_K L xs i_M_must [(2, 100), (0, b)] σ K := by
  have hby := m_by X
  obtain ⟨t, e53, e54⟩ := id X
  have t2 := t.2.1
  have t3 := t.2.2.1
  have t4 := t.2.2.2.1
  exact c_M_must (by omega) hb (fun σ' f hc h54 h53 _ => h1 (by omega) (by omega) σ' f ⟨m_tp_f f t, by omega, h54⟩) (fun σ' f hc h54 h53 => h0 (fun z => hc ⟨by omega, by omega⟩) σ' f ⟨m_tp_f f t, by omega, h54⟩)
theorem z_nume {lo hi v x : Int} {u : Nat} {σ : q_S} {K : q_R → q_S → Prop} (hw : σ 100 54 = 1) (hK : K (some (0, v)) σ) : q_E L xs k_M_number (44, [(2, 100), (0, lo), (0, hi), (0, v), (u, x)], [], σ) K := by
  refine q_go1 100 44 [] (fun cl ev hcl hev => ?_)
  exact And.intro (fun _ => hK) (fun z => by exfalso; omega)
theorem z_numl {lo hi n : Int} {B : Int → Int} {σ0 : q_S} {K : q_R → q_S → Prop} (hh : 9 < hi ∧ hi ≤ 999) : ∀ (f : Nat) (v p : Int) (σ : q_S) (u4 : Nat) (x4 : Int), (f : Int) = n - p → 0 ≤ p → 0 ≤ v → v ≤ hi → q_f2 σ0 σ → m_X σ B n 0 p → (∀ σ', q_f2 σ0 σ' → (u_nl B n hi f v p).1 ≠ -1 → m_X σ' B n 0 (u_nl B n hi f v p).2 → K (some (0, (u_nl B n hi f v p).1)) σ') → (∀ σ' x, q_f2 σ0 σ' → (u_nl B n hi f v p).1 = -1 → m_X σ' B n 1 (u_nl B n hi f v p).2 → 0 ≤ x → x ≤ hi → K (some (0, x)) σ') →
    q_E L xs k_M_number (44, [(2, 100), (0, lo), (0, hi), (0, v), (u4, x4)], [], σ) K := by
  intro f
  induction f with
  | zero =>
    intro v p σ u4 x4 hf hp hv hv2 fr X h1 h0
    have hby := m_by X
    obtain ⟨t, e53, e54⟩ := id X
    have t2 := t.2.1
    have t4 := t.2.2.2.1
    have epk : u_pk B n p = -1 := by unfold u_pk; rw [if_neg (by omega)]
    have e : u_nl B n hi 0 v p = (v, p) := rfl
    rw [e] at h1
    have fin : K (some (0, v)) σ := h1 σ fr (show v ≠ -1 by omega) X
    refine q_go1 200 44 [44] (fun cl ev hcl hev => ?_)
    refine And.intro (fun z => by exfalso; omega) (fun _ => ?_)
    refine And.intro (fun _ => fin) (fun _ => ?_)
    show cl _ _ _ _
    refine hcl _ _ _ _ (c_M_isDigit (by omega) (fun g => by exfalso; omega) (fun g => ?_))
    exact And.intro (fun _ => fin) (fun z => absurd rfl z)
  | succ f ih =>
    intro v p σ u4 x4 hf hp hv hv2 fr X h1 h0
    have hby := m_by X
    obtain ⟨t, e53, e54⟩ := id X
    have t2 := t.2.1
    have t4 := t.2.2.2.1
    have hB := t.2.2.2.2 p
    have epk : u_pk B n p = B p := by unfold u_pk; rw [if_pos (by omega)]
    have e : u_nl B n hi (f + 1) v p = if p < n ∧ 0 < v then (if 48 ≤ B p ∧ B p ≤ 57 then (if hi < 10 * v + (B p - 48) then (-1, p) else u_nl B n hi f (10 * v + (B p - 48)) (p + 1)) else (v, p)) else (v, p) := rfl
    rw [e] at h1 h0
    refine q_go1 200 44 [44] (fun cl ev hcl hev => ?_)
    refine And.intro (fun z => by exfalso; omega) (fun _ => ?_)
    refine And.intro (fun z => ?_) (fun z => ?_)
    · rw [if_neg (by omega)] at h1
      exact h1 σ fr (show v ≠ -1 by omega) X
    · rw [if_pos (by omega)] at h1 h0
      show cl _ _ _ _
      refine hcl _ _ _ _ (c_M_isDigit (by omega) (fun g => ?_) (fun g => ?_))
      · rw [hby, epk] at g
        rw [if_pos g] at h1 h0
        refine And.intro (fun z => absurd z (show ¬ (1 : Int) = 0 by decide)) (fun _ => ?_)
        refine And.intro (fun z => by exfalso; omega) (fun _ => ?_)
        show cl _ _ _ _
        refine hcl _ _ _ _ (c_M_byteAt (by omega) (by omega) (fun g2 => ?_) (fun g2 => by exfalso; omega))
        have e3 : q_w32 (q_w32 (q_w32 (10 * v) + σ 122 (σ 100 53)) - 48) = 10 * v + (B p - 48) := by rw [e53, t.1]; unfold q_w32; omega
        show (q_w32 (q_w32 (q_w32 (10 * v) + σ 122 (σ 100 53)) - 48) ≤ hi → _) ∧ (¬ q_w32 (q_w32 (q_w32 (10 * v) + σ 122 (σ 100 53)) - 48) ≤ hi → _)
        rw [e3]
        refine And.intro (fun z2 => ?_) (fun z2 => ?_)
        · rw [if_neg (by omega)] at h1 h0
          refine And.intro (by omega) ?_
          refine And.intro (fun _ => ?_) (fun z => absurd q_ue z)
          refine And.intro (fun _ => ?_) (fun z => absurd q_ue z)
          have e5 : q_up σ 100 54 0 100 53 = p := (q_ui (by decide)).trans e53
          have e6 : q_w32 (q_up σ 100 54 0 100 53 + 1) = p + 1 := by rw [e5, q_w32_id] <;> omega
          refine hev _ ?_
          rw [e6]
          exact ih _ _ _ _ _ (by omega) (by omega) (by omega) (by omega) (q_f2_up (q_f2_up fr (Or.inr rfl)) (Or.inl rfl)) ⟨m_tp_f (q_f2_up (q_f2_up q_f2_rf (Or.inr rfl)) (Or.inl rfl)) t, q_ue, (q_ui (by decide)).trans q_ue⟩ h1 h0
        · rw [if_pos (by omega)] at h1 h0
          refine And.intro (by omega) ?_
          refine And.intro (fun z => absurd (q_ue.symm.trans z) (show ¬ (1 : Int) = 0 by decide)) (fun _ => ?_)
          refine And.intro (fun z => absurd (q_ue.symm.trans z) (show ¬ (1 : Int) = 0 by decide)) (fun _ => ?_)
          have e5 : q_up σ 100 54 1 100 53 = p := (q_ui (by decide)).trans e53
          have e6 : q_w32 (q_up σ 100 54 1 100 53 + 0) = p := by rw [e5, q_w32_id] <;> omega
          refine hev _ ?_
          rw [e6]
          exact z_nume ((q_ui (by decide)).trans q_ue) (h0 _ v (q_f2_up (q_f2_up fr (Or.inr rfl)) (Or.inl rfl)) rfl ⟨m_tp_f (q_f2_up (q_f2_up q_f2_rf (Or.inr rfl)) (Or.inl rfl)) t, q_ue, (q_ui (by decide)).trans q_ue⟩ hv hv2)
      · rw [hby, epk] at g
        rw [if_neg g] at h1
        exact And.intro (fun _ => h1 σ fr (show v ≠ -1 by omega) X) (fun z => absurd rfl z)
/-- a number, not wrong before -/
theorem z_number {lo hi p n : Int} {B : Int → Int} {σ : q_S} {K : q_R → q_S → Prop} (hh : 9 < hi ∧ hi ≤ 999) (hl : 0 ≤ lo ∧ lo ≤ 9) (X : m_X σ B n 0 p) (hp : 0 ≤ p ∧ p ≤ n) (h1 : ∀ σ', q_f2 σ σ' → (u_num B n lo hi p).1 ≠ -1 → m_X σ' B n 0 (u_num B n lo hi p).2 → K (some (0, (u_num B n lo hi p).1)) σ') (h0 : ∀ σ' x, q_f2 σ σ' → (u_num B n lo hi p).1 = -1 → m_X σ' B n 1 (u_num B n lo hi p).2 → 0 ≤ x → x ≤ hi → K (some (0, x)) σ') : q_K L xs i_M_number [(2, 100), (0, lo), (0, hi)] σ K := by
  have hby := m_by X
  obtain ⟨t, e53, e54⟩ := id X
  have t2 := t.2.1
  have t4 := t.2.2.2.1
  have hB := t.2.2.2.2 p
  have e0 : q_w32 (σ 100 53 + 0) = p := by rw [e53, q_w32_id] <;> omega
  have e1 : q_w32 (σ 100 53 + 1) = p + 1 := by rw [e53, q_w32_id] <;> omega
  have e2 : q_w32 (48 + lo) = 48 + lo := by rw [q_w32_id] <;> omega
  have epk : u_pk B n p = if p < n then B p else -1 := rfl
  unfold u_num at h1 h0
  have wrong : ¬ (lo ≤ u_pk B n p - 48 ∧ u_pk B n p - 48 ≤ min 9 hi) → ∀ σ1, σ1 = q_up (q_up σ 100 54 1) 100 53 p → q_E L xs k_M_number (44, [(2, 100), (0, lo), (0, hi), (0, 0), (9, 0)], [], σ1) K := fun g σ1 es => by
    rw [if_neg g] at h0
    subst es
    exact z_nume ((q_ui (by decide)).trans q_ue) (h0 _ 0 (q_f2_up (q_f2_up q_f2_rf (Or.inr rfl)) (Or.inl rfl)) rfl ⟨m_tp_f (q_f2_up (q_f2_up q_f2_rf (Or.inr rfl)) (Or.inl rfl)) t, q_ue, (q_ui (by decide)).trans q_ue⟩ (by decide) (by omega))
  have right : (lo ≤ u_pk B n p - 48 ∧ u_pk B n p - 48 ≤ min 9 hi) → p < n → ∀ σ1, σ1 = q_up (q_up σ 100 54 0) 100 53 (p + 1) → q_E L xs k_M_number (44, [(2, 100), (0, lo), (0, hi), (0, u_pk B n p - 48), (9, 0)], [], σ1) K := fun g hlt σ1 es => by
    rw [if_pos g] at h1 h0
    subst es
    exact z_numl hh _ _ _ _ _ _ (by omega) (by omega) (by omega) (by omega) (q_f2_up (q_f2_up q_f2_rf (Or.inr rfl)) (Or.inl rfl)) ⟨m_tp_f (q_f2_up (q_f2_up q_f2_rf (Or.inr rfl)) (Or.inl rfl)) t, q_ue, (q_ui (by decide)).trans q_ue⟩ h1 h0
  have X1 : m_X (q_up σ 100 54 0) B n 0 p := m_X_54 X
  have n53 : ∀ v, q_up σ 100 54 v 100 53 = p := fun v => (q_ui (by decide)).trans e53
  refine q_call k_M_number 5 rfl ?_
  show q_E L xs k_M_number (0, [(2, 100), (0, lo), (0, hi), (9, 0), (9, 0)], [], σ) K
  refine q_go1 200 0 [44] (fun cl ev hcl hev => ?_)
  refine And.intro (fun z => by exfalso; omega) (fun _ => ?_)
  show cl _ _ _ _
  refine hcl _ _ _ _ (z_byte X hp ?_)
  refine And.intro (fun _ => ?_) (fun z => by exfalso; omega)
  show cl _ _ _ _
  refine hcl _ _ _ _ (c_M_in (fun g => ?_) (fun g => ?_))
  · have hlt : p < n := by
      rw [epk] at g
      split at g
      · assumption
      · omega
    have e7 : q_w32 (u_pk B n p - 48) = u_pk B n p - 48 := by rw [q_w32_id] <;> omega
    have e8 : q_w32 (q_up σ 100 54 0 100 53 + 1) = p + 1 := by rw [n53, q_w32_id] <;> omega
    refine And.intro (fun _ => ?_) (fun z => absurd (show (1 : Int) ≠ 0 by decide) z)
    refine And.intro (by omega) ?_
    refine And.intro (fun _ => ?_) (fun z => absurd q_ue z)
    show cl _ _ _ _
    refine hcl _ _ _ _ (z_byte X1 hp ?_)
    refine And.intro (fun _ => ?_) (fun z => absurd q_ue z)
    refine hev _ ?_
    rw [e7, e8]
    exact right (by omega) hlt _ rfl
  · have e8 : q_w32 (q_up σ 100 54 1 100 53 + 0) = p := by rw [n53, q_w32_id] <;> omega
    refine And.intro (fun z => absurd rfl z) (fun _ => ?_)
    refine And.intro (by omega) ?_
    refine And.intro (fun z => absurd (q_ue.symm.trans z) (show ¬ (1 : Int) = 0 by decide)) (fun _ => ?_)
    refine And.intro (fun z => absurd (q_ue.symm.trans z) (show ¬ (1 : Int) = 0 by decide)) (fun _ => ?_)
    refine hev _ ?_
    rw [e8]
    exact wrong (by omega) _ rfl
/-- a number, wrong before -/
theorem z_numw {lo hi p n : Int} {B : Int → Int} {σ : q_S} {K : q_R → q_S → Prop} (X : m_X σ B n 1 p) (hp : 0 ≤ p ∧ p ≤ n) (h0 : ∀ σ', q_f2 σ σ' → m_X σ' B n 1 p → K (some (0, 0)) σ') : q_K L xs i_M_number [(2, 100), (0, lo), (0, hi)] σ K := by
  obtain ⟨t, e53, e54⟩ := id X
  have t4 := t.2.2.2.1
  have e8 : q_w32 (q_up σ 100 54 1 100 53 + 0) = p := by rw [q_ui (by decide), e53, q_w32_id] <;> omega
  refine q_call k_M_number 5 rfl ?_
  show q_E L xs k_M_number (0, [(2, 100), (0, lo), (0, hi), (9, 0), (9, 0)], [], σ) K
  refine q_go1 200 0 [44] (fun cl ev hcl hev => ?_)
  refine And.intro (fun _ => ?_) (fun z => by exfalso; omega)
  refine And.intro (by omega) ?_
  refine And.intro (fun z => absurd (q_ue.symm.trans z) (show ¬ (1 : Int) = 0 by decide)) (fun _ => ?_)
  refine And.intro (fun z => absurd (q_ue.symm.trans z) (show ¬ (1 : Int) = 0 by decide)) (fun _ => ?_)
  refine hev _ ?_
  rw [e8]
  exact z_nume ((q_ui (by decide)).trans q_ue) (h0 _ m_f2s (m_X_st X))
theorem z_num7l {v p n : Int} {B : Int → Int} {σ : q_S} {K : q_R → q_S → Prop} (X : m_X σ B n 0 p) (hp : 0 ≤ p ∧ p ≤ n) (hK : K (some (0, v)) σ) : q_E L xs k_M_number (44, [(2, 100), (0, 0), (0, 7), (0, v), (9, 0)], [], σ) K := by
  obtain ⟨t, e53, e54⟩ := id X
  have t2 := t.2.1
  have t4 := t.2.2.2.1
  refine q_go1 200 44 [44] (fun cl ev hcl hev => ?_)
  refine And.intro (fun z => by exfalso; omega) (fun _ => ?_)
  refine And.intro (fun _ => hK) (fun _ => ?_)
  show cl _ _ _ _
  refine hcl _ _ _ _ (c_M_isDigit (by omega) (fun g => ?_) (fun g => ?_))
  · exact And.intro (fun z => absurd z (show ¬ (1 : Int) = 0 by decide)) (fun _ => And.intro (fun _ => hK) (fun z => absurd (show (7 : Int) ≤ 9 by decide) z))
  · exact And.intro (fun _ => hK) (fun z => absurd rfl z)
/-- the number of an owner: one digit is read -/
theorem z_num7 {p n : Int} {B : Int → Int} {σ : q_S} {K : q_R → q_S → Prop} (X : m_X σ B n 0 p) (hp : 0 ≤ p ∧ p ≤ n) (h1 : (0 ≤ u_pk B n p - 48 ∧ u_pk B n p - 48 ≤ 7) → ∀ σ', q_f2 σ σ' → m_X σ' B n 0 (p + 1) → K (some (0, u_pk B n p - 48)) σ') (h0 : ¬ (0 ≤ u_pk B n p - 48 ∧ u_pk B n p - 48 ≤ 7) → ∀ σ', q_f2 σ σ' → m_X σ' B n 1 p → K (some (0, 0)) σ') : q_K L xs i_M_number [(2, 100), (0, 0), (0, 7)] σ K := by
  obtain ⟨t, e53, e54⟩ := id X
  have t2 := t.2.1
  have t4 := t.2.2.2.1
  have hB := t.2.2.2.2 p
  have e2 : q_w32 (48 + 0) = 48 := by decide
  have e3 : q_w32 (48 + 7) = 55 := by decide
  have epk : u_pk B n p = if p < n then B p else -1 := rfl
  have X1 : m_X (q_up σ 100 54 0) B n 0 p := m_X_54 X
  have n53 : ∀ v, q_up σ 100 54 v 100 53 = p := fun v => (q_ui (by decide)).trans e53
  refine q_call k_M_number 5 rfl ?_
  show q_E L xs k_M_number (0, [(2, 100), (0, 0), (0, 7), (9, 0), (9, 0)], [], σ) K
  refine q_go1 200 0 [44] (fun cl ev hcl hev => ?_)
  refine And.intro (fun z => by exfalso; omega) (fun _ => ?_)
  show cl _ _ _ _
  refine hcl _ _ _ _ (z_byte X hp ?_)
  refine And.intro (fun z => absurd z (show ¬ (9 : Int) ≤ 7 by decide)) (fun _ => ?_)
  show cl _ _ _ _
  refine hcl _ _ _ _ (c_M_in (fun g => ?_) (fun g => ?_))
  · have hlt : p < n := by
      rw [epk] at g
      split at g
      · assumption
      · omega
    have e7 : q_w32 (u_pk B n p - 48) = u_pk B n p - 48 := by rw [q_w32_id] <;> omega
    have e8 : q_w32 (q_up σ 100 54 0 100 53 + 1) = p + 1 := by rw [n53, q_w32_id] <;> omega
    refine And.intro (fun _ => ?_) (fun z => absurd (show (1 : Int) ≠ 0 by decide) z)
    refine And.intro (by omega) ?_
    refine And.intro (fun _ => ?_) (fun z => absurd q_ue z)
    show cl _ _ _ _
    refine hcl _ _ _ _ (z_byte X1 hp ?_)
    refine And.intro (fun _ => ?_) (fun z => absurd q_ue z)
    refine hev _ ?_
    rw [e7, e8]
    exact z_num7l (m_X_st X) ⟨by omega, by omega⟩ (h1 (by omega) _ m_f2s (m_X_st X))
  · have e8 : q_w32 (q_up σ 100 54 1 100 53 + 0) = p := by rw [n53, q_w32_id] <;> omega
    refine And.intro (fun z => absurd rfl z) (fun _ => ?_)
    refine And.intro (by omega) ?_
    refine And.intro (fun z => absurd (q_ue.symm.trans z) (show ¬ (1 : Int) = 0 by decide)) (fun _ => ?_)
    refine And.intro (fun z => absurd (q_ue.symm.trans z) (show ¬ (1 : Int) = 0 by decide)) (fun _ => ?_)
    refine hev _ ?_
    rw [e8]
    exact z_nume ((q_ui (by decide)).trans q_ue) (h0 (by omega) _ m_f2s (m_X_st X))
end X2
/-- what the class makes of an owner's number -/
theorem u_n7 {B : Int → Int} {n d p : Int} (hd : 0 ≤ d) (f : Nat) : u_nl B n 7 f d p = (d, p) ∨ (u_nl B n 7 f d p = (-1, p) ∧ p < n ∧ 48 ≤ B p ∧ B p ≤ 57) := by
  cases f with
  | zero => exact Or.inl rfl
  | succ f =>
    have e : u_nl B n 7 (f + 1) d p = if p < n ∧ 0 < d then (if 48 ≤ B p ∧ B p ≤ 57 then (if 7 < 10 * d + (B p - 48) then (-1, p) else u_nl B n 7 f (10 * d + (B p - 48)) (p + 1)) else (d, p)) else (d, p) := rfl
    rw [e]
    split
    · split
      · rw [if_pos (by omega)]
        exact Or.inr ⟨rfl, by omega, by omega, by omega⟩
      · exact Or.inl rfl
    · exact Or.inl rfl
