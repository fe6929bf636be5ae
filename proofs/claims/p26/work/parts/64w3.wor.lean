/-- the words stand in the model -/
def m_W (σ : q_S) : Prop := σ 142 0 = 102 ∧ σ 142 1 = 114 ∧ σ 142 2 = 111 ∧ σ 142 3 = 110 ∧ σ 142 4 = 116 ∧ σ 143 0 = 111 ∧ σ 143 1 = 119 ∧ σ 143 2 = 110 ∧ σ 143 3 = 32 ∧ σ 144 0 = 97 ∧ σ 144 1 = 99 ∧ σ 144 2 = 114 ∧ σ 144 3 = 101 ∧ σ 144 4 = 115
section X3a
variable {σ σ' : q_S}
theorem m_W_c (h : ∀ k i, 142 ≤ k → k ≤ 144 → σ' k i = σ k i) (W : m_W σ) : m_W σ' := by
  obtain ⟨a0, a1, a2, a3, a4, a5, a6, a7, a8, a9, a10, a11, a12, a13⟩ := W
  exact ⟨(h 142 0 (by decide) (by decide)).trans a0, (h 142 1 (by decide) (by decide)).trans a1, (h 142 2 (by decide) (by decide)).trans a2, (h 142 3 (by decide) (by decide)).trans a3, (h 142 4 (by decide) (by decide)).trans a4, (h 143 0 (by decide) (by decide)).trans a5, (h 143 1 (by decide) (by decide)).trans a6, (h 143 2 (by decide) (by decide)).trans a7, (h 143 3 (by decide) (by decide)).trans a8, (h 144 0 (by decide) (by decide)).trans a9, (h 144 1 (by decide) (by decide)).trans a10, (h 144 2 (by decide) (by decide)).trans a11, (h 144 3 (by decide) (by decide)).trans a12, (h 144 4 (by decide) (by decide)).trans a13⟩
theorem m_W_f (f : q_f2 σ σ') (W : m_W σ) : m_W σ' := m_W_c (fun k i h0 h1 => f k i (by omega)) W
theorem m_W_up {k i v : Int} (h : k ≤ 141) (W : m_W σ) : m_W (q_up σ k i v) := m_W_c (fun _ _ h0 h1 => q_un (by omega)) W
end X3a
section X3
variable {L : Nat} {xs : Int → Int}
theorem zw_142_5 {p n : Int} {B : Int → Int} {σ : q_S} {K : q_R → q_S → Prop} (_W : m_W σ) (X : m_X σ B n 1 p) (_hp : 0 ≤ p ∧ p ≤ n) (hK : ∀ σ', q_f2 σ σ' → m_X σ' B n 1 p → K none σ') : q_E L xs k_M_word (2, [(2, 100), (2, 142), (0, 5)], [], σ) K := by
  refine q_go1 100 2 [2] (fun cl ev hcl hev => ?_)
  exact And.intro (fun _ => hK σ q_f2_rf X) (fun z => by exfalso; omega)
theorem zl_142_5 {p n : Int} {B : Int → Int} {σ : q_S} {K : q_R → q_S → Prop} (_W : m_W σ) (X : m_X σ B n 0 p) (_hp : 0 ≤ p ∧ p ≤ n) (h1 : (u_wrd B n [] p).1 = 1 → ∀ σ', q_f2 σ σ' → m_X σ' B n 0 (u_wrd B n [] p).2 → K none σ') : q_E L xs k_M_word (2, [(2, 100), (2, 142), (0, 5)], [], σ) K := by
  refine q_go1 100 2 [2] (fun cl ev hcl hev => ?_)
  exact And.intro (fun _ => h1 rfl σ q_f2_rf X) (fun z => by exfalso; omega)
theorem zw_142_4 {p n : Int} {B : Int → Int} {σ : q_S} {K : q_R → q_S → Prop} (W : m_W σ) (X : m_X σ B n 1 p) (hp : 0 ≤ p ∧ p ≤ n) (hK : ∀ σ', q_f2 σ σ' → m_X σ' B n 1 p → K none σ') : q_E L xs k_M_word (2, [(2, 100), (2, 142), (0, 4)], [], σ) K := by
  have e : σ 142 4 = 116 := W.2.2.2.2.1
  refine q_go1 100 2 [2] (fun cl ev hcl hev => ?_)
  refine And.intro (fun z => by exfalso; omega) (fun _ => ?_)
  refine And.intro (by omega) ?_
  show cl _ _ _ _
  rw [e]
  refine hcl _ _ _ _ (z_must X hp (by decide) (fun z => absurd z (by decide)) (fun _ σ1 f1 X1 => ?_))
  exact hev _ (zw_142_5 (m_W_f f1 W) X1 hp (fun σ2 f2 X2 => hK σ2 (q_f2_tr f1 f2) X2))
theorem zl_142_4 {p n : Int} {B : Int → Int} {σ : q_S} {K : q_R → q_S → Prop} (W : m_W σ) (X : m_X σ B n 0 p) (hp : 0 ≤ p ∧ p ≤ n) (h1 : (u_wrd B n [116] p).1 = 1 → ∀ σ', q_f2 σ σ' → m_X σ' B n 0 (u_wrd B n [116] p).2 → K none σ') (h0 : (u_wrd B n [116] p).1 = 0 → ∀ σ', q_f2 σ σ' → m_X σ' B n 1 (u_wrd B n [116] p).2 → K none σ') : q_E L xs k_M_word (2, [(2, 100), (2, 142), (0, 4)], [], σ) K := by
  have e : σ 142 4 = 116 := W.2.2.2.2.1
  have el : u_wrd B n [116] p = if u_pk B n p = 116 then u_wrd B n [] (p + 1) else (0, p) := rfl
  rw [el] at h1 h0
  refine q_go1 100 2 [2] (fun cl ev hcl hev => ?_)
  refine And.intro (fun z => by exfalso; omega) (fun _ => ?_)
  refine And.intro (by omega) ?_
  show cl _ _ _ _
  rw [e]
  refine hcl _ _ _ _ (z_must X hp (by decide) (fun _ g σ1 f1 X1 => ?_) (fun g σ1 f1 X1 => ?_))
  · rw [if_pos g] at h1 h0
    have hq := u_pks (by decide) g
    exact hev _ (zl_142_5 (m_W_f f1 W) X1 ⟨by omega, by omega⟩ (fun a σ2 f2 X2 => h1 a σ2 (q_f2_tr f1 f2) X2))
  · rw [if_neg (fun z => g ⟨rfl, z⟩)] at h0
    exact hev _ (zw_142_5 (m_W_f f1 W) X1 hp (fun σ2 f2 X2 => h0 rfl σ2 (q_f2_tr f1 f2) X2))
theorem zw_142_3 {p n : Int} {B : Int → Int} {σ : q_S} {K : q_R → q_S → Prop} (W : m_W σ) (X : m_X σ B n 1 p) (hp : 0 ≤ p ∧ p ≤ n) (hK : ∀ σ', q_f2 σ σ' → m_X σ' B n 1 p → K none σ') : q_E L xs k_M_word (2, [(2, 100), (2, 142), (0, 3)], [], σ) K := by
  have e : σ 142 3 = 110 := W.2.2.2.1
  refine q_go1 100 2 [2] (fun cl ev hcl hev => ?_)
  refine And.intro (fun z => by exfalso; omega) (fun _ => ?_)
  refine And.intro (by omega) ?_
  show cl _ _ _ _
  rw [e]
  refine hcl _ _ _ _ (z_must X hp (by decide) (fun z => absurd z (by decide)) (fun _ σ1 f1 X1 => ?_))
  exact hev _ (zw_142_4 (m_W_f f1 W) X1 hp (fun σ2 f2 X2 => hK σ2 (q_f2_tr f1 f2) X2))
theorem zl_142_3 {p n : Int} {B : Int → Int} {σ : q_S} {K : q_R → q_S → Prop} (W : m_W σ) (X : m_X σ B n 0 p) (hp : 0 ≤ p ∧ p ≤ n) (h1 : (u_wrd B n [110, 116] p).1 = 1 → ∀ σ', q_f2 σ σ' → m_X σ' B n 0 (u_wrd B n [110, 116] p).2 → K none σ') (h0 : (u_wrd B n [110, 116] p).1 = 0 → ∀ σ', q_f2 σ σ' → m_X σ' B n 1 (u_wrd B n [110, 116] p).2 → K none σ') : q_E L xs k_M_word (2, [(2, 100), (2, 142), (0, 3)], [], σ) K := by
  have e : σ 142 3 = 110 := W.2.2.2.1
  have el : u_wrd B n [110, 116] p = if u_pk B n p = 110 then u_wrd B n [116] (p + 1) else (0, p) := rfl
  rw [el] at h1 h0
  refine q_go1 100 2 [2] (fun cl ev hcl hev => ?_)
  refine And.intro (fun z => by exfalso; omega) (fun _ => ?_)
  refine And.intro (by omega) ?_
  show cl _ _ _ _
  rw [e]
  refine hcl _ _ _ _ (z_must X hp (by decide) (fun _ g σ1 f1 X1 => ?_) (fun g σ1 f1 X1 => ?_))
  · rw [if_pos g] at h1 h0
    have hq := u_pks (by decide) g
    exact hev _ (zl_142_4 (m_W_f f1 W) X1 ⟨by omega, by omega⟩ (fun a σ2 f2 X2 => h1 a σ2 (q_f2_tr f1 f2) X2) (fun a σ2 f2 X2 => h0 a σ2 (q_f2_tr f1 f2) X2))
  · rw [if_neg (fun z => g ⟨rfl, z⟩)] at h0
    exact hev _ (zw_142_4 (m_W_f f1 W) X1 hp (fun σ2 f2 X2 => h0 rfl σ2 (q_f2_tr f1 f2) X2))
theorem zw_142_2 {p n : Int} {B : Int → Int} {σ : q_S} {K : q_R → q_S → Prop} (W : m_W σ) (X : m_X σ B n 1 p) (hp : 0 ≤ p ∧ p ≤ n) (hK : ∀ σ', q_f2 σ σ' → m_X σ' B n 1 p → K none σ') : q_E L xs k_M_word (2, [(2, 100), (2, 142), (0, 2)], [], σ) K := by
  have e : σ 142 2 = 111 := W.2.2.1
  refine q_go1 100 2 [2] (fun cl ev hcl hev => ?_)
  refine And.intro (fun z => by exfalso; omega) (fun _ => ?_)
  refine And.intro (by omega) ?_
  show cl _ _ _ _
  rw [e]
  refine hcl _ _ _ _ (z_must X hp (by decide) (fun z => absurd z (by decide)) (fun _ σ1 f1 X1 => ?_))
  exact hev _ (zw_142_3 (m_W_f f1 W) X1 hp (fun σ2 f2 X2 => hK σ2 (q_f2_tr f1 f2) X2))
theorem zl_142_2 {p n : Int} {B : Int → Int} {σ : q_S} {K : q_R → q_S → Prop} (W : m_W σ) (X : m_X σ B n 0 p) (hp : 0 ≤ p ∧ p ≤ n) (h1 : (u_wrd B n [111, 110, 116] p).1 = 1 → ∀ σ', q_f2 σ σ' → m_X σ' B n 0 (u_wrd B n [111, 110, 116] p).2 → K none σ') (h0 : (u_wrd B n [111, 110, 116] p).1 = 0 → ∀ σ', q_f2 σ σ' → m_X σ' B n 1 (u_wrd B n [111, 110, 116] p).2 → K none σ') : q_E L xs k_M_word (2, [(2, 100), (2, 142), (0, 2)], [], σ) K := by
  have e : σ 142 2 = 111 := W.2.2.1
  have el : u_wrd B n [111, 110, 116] p = if u_pk B n p = 111 then u_wrd B n [110, 116] (p + 1) else (0, p) := rfl
  rw [el] at h1 h0
  refine q_go1 100 2 [2] (fun cl ev hcl hev => ?_)
  refine And.intro (fun z => by exfalso; omega) (fun _ => ?_)
  refine And.intro (by omega) ?_
  show cl _ _ _ _
  rw [e]
  refine hcl _ _ _ _ (z_must X hp (by decide) (fun _ g σ1 f1 X1 => ?_) (fun g σ1 f1 X1 => ?_))
  · rw [if_pos g] at h1 h0
    have hq := u_pks (by decide) g
    exact hev _ (zl_142_3 (m_W_f f1 W) X1 ⟨by omega, by omega⟩ (fun a σ2 f2 X2 => h1 a σ2 (q_f2_tr f1 f2) X2) (fun a σ2 f2 X2 => h0 a σ2 (q_f2_tr f1 f2) X2))
  · rw [if_neg (fun z => g ⟨rfl, z⟩)] at h0
    exact hev _ (zw_142_3 (m_W_f f1 W) X1 hp (fun σ2 f2 X2 => h0 rfl σ2 (q_f2_tr f1 f2) X2))
theorem zw_142_1 {p n : Int} {B : Int → Int} {σ : q_S} {K : q_R → q_S → Prop} (W : m_W σ) (X : m_X σ B n 1 p) (hp : 0 ≤ p ∧ p ≤ n) (hK : ∀ σ', q_f2 σ σ' → m_X σ' B n 1 p → K none σ') : q_E L xs k_M_word (2, [(2, 100), (2, 142), (0, 1)], [], σ) K := by
  have e : σ 142 1 = 114 := W.2.1
  refine q_go1 100 2 [2] (fun cl ev hcl hev => ?_)
  refine And.intro (fun z => by exfalso; omega) (fun _ => ?_)
  refine And.intro (by omega) ?_
  show cl _ _ _ _
  rw [e]
  refine hcl _ _ _ _ (z_must X hp (by decide) (fun z => absurd z (by decide)) (fun _ σ1 f1 X1 => ?_))
  exact hev _ (zw_142_2 (m_W_f f1 W) X1 hp (fun σ2 f2 X2 => hK σ2 (q_f2_tr f1 f2) X2))
theorem zl_142_1 {p n : Int} {B : Int → Int} {σ : q_S} {K : q_R → q_S → Prop} (W : m_W σ) (X : m_X σ B n 0 p) (hp : 0 ≤ p ∧ p ≤ n) (h1 : (u_wrd B n [114, 111, 110, 116] p).1 = 1 → ∀ σ', q_f2 σ σ' → m_X σ' B n 0 (u_wrd B n [114, 111, 110, 116] p).2 → K none σ') (h0 : (u_wrd B n [114, 111, 110, 116] p).1 = 0 → ∀ σ', q_f2 σ σ' → m_X σ' B n 1 (u_wrd B n [114, 111, 110, 116] p).2 → K none σ') : q_E L xs k_M_word (2, [(2, 100), (2, 142), (0, 1)], [], σ) K := by
  have e : σ 142 1 = 114 := W.2.1
  have el : u_wrd B n [114, 111, 110, 116] p = if u_pk B n p = 114 then u_wrd B n [111, 110, 116] (p + 1) else (0, p) := rfl
  rw [el] at h1 h0
  refine q_go1 100 2 [2] (fun cl ev hcl hev => ?_)
  refine And.intro (fun z => by exfalso; omega) (fun _ => ?_)
  refine And.intro (by omega) ?_
  show cl _ _ _ _
  rw [e]
  refine hcl _ _ _ _ (z_must X hp (by decide) (fun _ g σ1 f1 X1 => ?_) (fun g σ1 f1 X1 => ?_))
  · rw [if_pos g] at h1 h0
    have hq := u_pks (by decide) g
    exact hev _ (zl_142_2 (m_W_f f1 W) X1 ⟨by omega, by omega⟩ (fun a σ2 f2 X2 => h1 a σ2 (q_f2_tr f1 f2) X2) (fun a σ2 f2 X2 => h0 a σ2 (q_f2_tr f1 f2) X2))
  · rw [if_neg (fun z => g ⟨rfl, z⟩)] at h0
    exact hev _ (zw_142_2 (m_W_f f1 W) X1 hp (fun σ2 f2 X2 => h0 rfl σ2 (q_f2_tr f1 f2) X2))
theorem zw_142_0 {p n : Int} {B : Int → Int} {σ : q_S} {K : q_R → q_S → Prop} (W : m_W σ) (X : m_X σ B n 1 p) (hp : 0 ≤ p ∧ p ≤ n) (hK : ∀ σ', q_f2 σ σ' → m_X σ' B n 1 p → K none σ') : q_E L xs k_M_word (2, [(2, 100), (2, 142), (0, 0)], [], σ) K := by
  have e : σ 142 0 = 102 := W.1
  refine q_go1 100 2 [2] (fun cl ev hcl hev => ?_)
  refine And.intro (fun z => by exfalso; omega) (fun _ => ?_)
  refine And.intro (by omega) ?_
  show cl _ _ _ _
  rw [e]
  refine hcl _ _ _ _ (z_must X hp (by decide) (fun z => absurd z (by decide)) (fun _ σ1 f1 X1 => ?_))
  exact hev _ (zw_142_1 (m_W_f f1 W) X1 hp (fun σ2 f2 X2 => hK σ2 (q_f2_tr f1 f2) X2))
theorem zl_142_0 {p n : Int} {B : Int → Int} {σ : q_S} {K : q_R → q_S → Prop} (W : m_W σ) (X : m_X σ B n 0 p) (hp : 0 ≤ p ∧ p ≤ n) (h1 : (u_wrd B n [102, 114, 111, 110, 116] p).1 = 1 → ∀ σ', q_f2 σ σ' → m_X σ' B n 0 (u_wrd B n [102, 114, 111, 110, 116] p).2 → K none σ') (h0 : (u_wrd B n [102, 114, 111, 110, 116] p).1 = 0 → ∀ σ', q_f2 σ σ' → m_X σ' B n 1 (u_wrd B n [102, 114, 111, 110, 116] p).2 → K none σ') : q_E L xs k_M_word (2, [(2, 100), (2, 142), (0, 0)], [], σ) K := by
  have e : σ 142 0 = 102 := W.1
  have el : u_wrd B n [102, 114, 111, 110, 116] p = if u_pk B n p = 102 then u_wrd B n [114, 111, 110, 116] (p + 1) else (0, p) := rfl
  rw [el] at h1 h0
  refine q_go1 100 2 [2] (fun cl ev hcl hev => ?_)
  refine And.intro (fun z => by exfalso; omega) (fun _ => ?_)
  refine And.intro (by omega) ?_
  show cl _ _ _ _
  rw [e]
  refine hcl _ _ _ _ (z_must X hp (by decide) (fun _ g σ1 f1 X1 => ?_) (fun g σ1 f1 X1 => ?_))
  · rw [if_pos g] at h1 h0
    have hq := u_pks (by decide) g
    exact hev _ (zl_142_1 (m_W_f f1 W) X1 ⟨by omega, by omega⟩ (fun a σ2 f2 X2 => h1 a σ2 (q_f2_tr f1 f2) X2) (fun a σ2 f2 X2 => h0 a σ2 (q_f2_tr f1 f2) X2))
  · rw [if_neg (fun z => g ⟨rfl, z⟩)] at h0
    exact hev _ (zw_142_1 (m_W_f f1 W) X1 hp (fun σ2 f2 X2 => h0 rfl σ2 (q_f2_tr f1 f2) X2))
theorem z_wd142 {p n : Int} {B : Int → Int} {σ : q_S} {K : q_R → q_S → Prop} (W : m_W σ) (X : m_X σ B n 0 p) (hp : 0 ≤ p ∧ p ≤ n) (h1 : (u_wrd B n [102, 114, 111, 110, 116] p).1 = 1 → ∀ σ', q_f2 σ σ' → m_X σ' B n 0 (u_wrd B n [102, 114, 111, 110, 116] p).2 → K none σ') (h0 : (u_wrd B n [102, 114, 111, 110, 116] p).1 = 0 → ∀ σ', q_f2 σ σ' → m_X σ' B n 1 (u_wrd B n [102, 114, 111, 110, 116] p).2 → K none σ') : q_K L xs i_M_word [(2, 100), (2, 142)] σ K := by
  refine q_call k_M_word 3 rfl ?_
  show q_E L xs k_M_word (0, [(2, 100), (2, 142), (9, 0)], [], σ) K
  refine q_go1 100 0 [2] (fun cl ev hcl hev => ?_)
  exact hev _ (zl_142_0 W X hp h1 h0)
theorem z_ww142 {p n : Int} {B : Int → Int} {σ : q_S} {K : q_R → q_S → Prop} (W : m_W σ) (X : m_X σ B n 1 p) (hp : 0 ≤ p ∧ p ≤ n) (hK : ∀ σ', q_f2 σ σ' → m_X σ' B n 1 p → K none σ') : q_K L xs i_M_word [(2, 100), (2, 142)] σ K := by
  refine q_call k_M_word 3 rfl ?_
  show q_E L xs k_M_word (0, [(2, 100), (2, 142), (9, 0)], [], σ) K
  refine q_go1 100 0 [2] (fun cl ev hcl hev => ?_)
  exact hev _ (zw_142_0 W X hp hK)
theorem zw_143_4 {p n : Int} {B : Int → Int} {σ : q_S} {K : q_R → q_S → Prop} (_W : m_W σ) (X : m_X σ B n 1 p) (_hp : 0 ≤ p ∧ p ≤ n) (hK : ∀ σ', q_f2 σ σ' → m_X σ' B n 1 p → K none σ') : q_E L xs k_M_word (2, [(2, 100), (2, 143), (0, 4)], [], σ) K := by
  refine q_go1 100 2 [2] (fun cl ev hcl hev => ?_)
  exact And.intro (fun _ => hK σ q_f2_rf X) (fun z => by exfalso; omega)
theorem zl_143_4 {p n : Int} {B : Int → Int} {σ : q_S} {K : q_R → q_S → Prop} (_W : m_W σ) (X : m_X σ B n 0 p) (_hp : 0 ≤ p ∧ p ≤ n) (h1 : (u_wrd B n [] p).1 = 1 → ∀ σ', q_f2 σ σ' → m_X σ' B n 0 (u_wrd B n [] p).2 → K none σ') : q_E L xs k_M_word (2, [(2, 100), (2, 143), (0, 4)], [], σ) K := by
  refine q_go1 100 2 [2] (fun cl ev hcl hev => ?_)
  exact And.intro (fun _ => h1 rfl σ q_f2_rf X) (fun z => by exfalso; omega)
theorem zw_143_3 {p n : Int} {B : Int → Int} {σ : q_S} {K : q_R → q_S → Prop} (W : m_W σ) (X : m_X σ B n 1 p) (hp : 0 ≤ p ∧ p ≤ n) (hK : ∀ σ', q_f2 σ σ' → m_X σ' B n 1 p → K none σ') : q_E L xs k_M_word (2, [(2, 100), (2, 143), (0, 3)], [], σ) K := by
  have e : σ 143 3 = 32 := W.2.2.2.2.2.2.2.2.1
  refine q_go1 100 2 [2] (fun cl ev hcl hev => ?_)
  refine And.intro (fun z => by exfalso; omega) (fun _ => ?_)
  refine And.intro (by omega) ?_
  show cl _ _ _ _
  rw [e]
  refine hcl _ _ _ _ (z_must X hp (by decide) (fun z => absurd z (by decide)) (fun _ σ1 f1 X1 => ?_))
  exact hev _ (zw_143_4 (m_W_f f1 W) X1 hp (fun σ2 f2 X2 => hK σ2 (q_f2_tr f1 f2) X2))
theorem zl_143_3 {p n : Int} {B : Int → Int} {σ : q_S} {K : q_R → q_S → Prop} (W : m_W σ) (X : m_X σ B n 0 p) (hp : 0 ≤ p ∧ p ≤ n) (h1 : (u_wrd B n [32] p).1 = 1 → ∀ σ', q_f2 σ σ' → m_X σ' B n 0 (u_wrd B n [32] p).2 → K none σ') (h0 : (u_wrd B n [32] p).1 = 0 → ∀ σ', q_f2 σ σ' → m_X σ' B n 1 (u_wrd B n [32] p).2 → K none σ') : q_E L xs k_M_word (2, [(2, 100), (2, 143), (0, 3)], [], σ) K := by
  have e : σ 143 3 = 32 := W.2.2.2.2.2.2.2.2.1
  have el : u_wrd B n [32] p = if u_pk B n p = 32 then u_wrd B n [] (p + 1) else (0, p) := rfl
  rw [el] at h1 h0
  refine q_go1 100 2 [2] (fun cl ev hcl hev => ?_)
  refine And.intro (fun z => by exfalso; omega) (fun _ => ?_)
  refine And.intro (by omega) ?_
  show cl _ _ _ _
  rw [e]
  refine hcl _ _ _ _ (z_must X hp (by decide) (fun _ g σ1 f1 X1 => ?_) (fun g σ1 f1 X1 => ?_))
  · rw [if_pos g] at h1 h0
    have hq := u_pks (by decide) g
    exact hev _ (zl_143_4 (m_W_f f1 W) X1 ⟨by omega, by omega⟩ (fun a σ2 f2 X2 => h1 a σ2 (q_f2_tr f1 f2) X2))
  · rw [if_neg (fun z => g ⟨rfl, z⟩)] at h0
    exact hev _ (zw_143_4 (m_W_f f1 W) X1 hp (fun σ2 f2 X2 => h0 rfl σ2 (q_f2_tr f1 f2) X2))
theorem zw_143_2 {p n : Int} {B : Int → Int} {σ : q_S} {K : q_R → q_S → Prop} (W : m_W σ) (X : m_X σ B n 1 p) (hp : 0 ≤ p ∧ p ≤ n) (hK : ∀ σ', q_f2 σ σ' → m_X σ' B n 1 p → K none σ') : q_E L xs k_M_word (2, [(2, 100), (2, 143), (0, 2)], [], σ) K := by
  have e : σ 143 2 = 110 := W.2.2.2.2.2.2.2.1
  refine q_go1 100 2 [2] (fun cl ev hcl hev => ?_)
  refine And.intro (fun z => by exfalso; omega) (fun _ => ?_)
  refine And.intro (by omega) ?_
  show cl _ _ _ _
  rw [e]
  refine hcl _ _ _ _ (z_must X hp (by decide) (fun z => absurd z (by decide)) (fun _ σ1 f1 X1 => ?_))
  exact hev _ (zw_143_3 (m_W_f f1 W) X1 hp (fun σ2 f2 X2 => hK σ2 (q_f2_tr f1 f2) X2))
theorem zl_143_2 {p n : Int} {B : Int → Int} {σ : q_S} {K : q_R → q_S → Prop} (W : m_W σ) (X : m_X σ B n 0 p) (hp : 0 ≤ p ∧ p ≤ n) (h1 : (u_wrd B n [110, 32] p).1 = 1 → ∀ σ', q_f2 σ σ' → m_X σ' B n 0 (u_wrd B n [110, 32] p).2 → K none σ') (h0 : (u_wrd B n [110, 32] p).1 = 0 → ∀ σ', q_f2 σ σ' → m_X σ' B n 1 (u_wrd B n [110, 32] p).2 → K none σ') : q_E L xs k_M_word (2, [(2, 100), (2, 143), (0, 2)], [], σ) K := by
  have e : σ 143 2 = 110 := W.2.2.2.2.2.2.2.1
  have el : u_wrd B n [110, 32] p = if u_pk B n p = 110 then u_wrd B n [32] (p + 1) else (0, p) := rfl
  rw [el] at h1 h0
  refine q_go1 100 2 [2] (fun cl ev hcl hev => ?_)
  refine And.intro (fun z => by exfalso; omega) (fun _ => ?_)
  refine And.intro (by omega) ?_
  show cl _ _ _ _
  rw [e]
  refine hcl _ _ _ _ (z_must X hp (by decide) (fun _ g σ1 f1 X1 => ?_) (fun g σ1 f1 X1 => ?_))
  · rw [if_pos g] at h1 h0
    have hq := u_pks (by decide) g
    exact hev _ (zl_143_3 (m_W_f f1 W) X1 ⟨by omega, by omega⟩ (fun a σ2 f2 X2 => h1 a σ2 (q_f2_tr f1 f2) X2) (fun a σ2 f2 X2 => h0 a σ2 (q_f2_tr f1 f2) X2))
  · rw [if_neg (fun z => g ⟨rfl, z⟩)] at h0
    exact hev _ (zw_143_3 (m_W_f f1 W) X1 hp (fun σ2 f2 X2 => h0 rfl σ2 (q_f2_tr f1 f2) X2))
theorem zw_143_1 {p n : Int} {B : Int → Int} {σ : q_S} {K : q_R → q_S → Prop} (W : m_W σ) (X : m_X σ B n 1 p) (hp : 0 ≤ p ∧ p ≤ n) (hK : ∀ σ', q_f2 σ σ' → m_X σ' B n 1 p → K none σ') : q_E L xs k_M_word (2, [(2, 100), (2, 143), (0, 1)], [], σ) K := by
  have e : σ 143 1 = 119 := W.2.2.2.2.2.2.1
  refine q_go1 100 2 [2] (fun cl ev hcl hev => ?_)
  refine And.intro (fun z => by exfalso; omega) (fun _ => ?_)
  refine And.intro (by omega) ?_
  show cl _ _ _ _
  rw [e]
  refine hcl _ _ _ _ (z_must X hp (by decide) (fun z => absurd z (by decide)) (fun _ σ1 f1 X1 => ?_))
  exact hev _ (zw_143_2 (m_W_f f1 W) X1 hp (fun σ2 f2 X2 => hK σ2 (q_f2_tr f1 f2) X2))
theorem zl_143_1 {p n : Int} {B : Int → Int} {σ : q_S} {K : q_R → q_S → Prop} (W : m_W σ) (X : m_X σ B n 0 p) (hp : 0 ≤ p ∧ p ≤ n) (h1 : (u_wrd B n [119, 110, 32] p).1 = 1 → ∀ σ', q_f2 σ σ' → m_X σ' B n 0 (u_wrd B n [119, 110, 32] p).2 → K none σ') (h0 : (u_wrd B n [119, 110, 32] p).1 = 0 → ∀ σ', q_f2 σ σ' → m_X σ' B n 1 (u_wrd B n [119, 110, 32] p).2 → K none σ') : q_E L xs k_M_word (2, [(2, 100), (2, 143), (0, 1)], [], σ) K := by
  have e : σ 143 1 = 119 := W.2.2.2.2.2.2.1
  have el : u_wrd B n [119, 110, 32] p = if u_pk B n p = 119 then u_wrd B n [110, 32] (p + 1) else (0, p) := rfl
  rw [el] at h1 h0
  refine q_go1 100 2 [2] (fun cl ev hcl hev => ?_)
  refine And.intro (fun z => by exfalso; omega) (fun _ => ?_)
  refine And.intro (by omega) ?_
  show cl _ _ _ _
  rw [e]
  refine hcl _ _ _ _ (z_must X hp (by decide) (fun _ g σ1 f1 X1 => ?_) (fun g σ1 f1 X1 => ?_))
  · rw [if_pos g] at h1 h0
    have hq := u_pks (by decide) g
    exact hev _ (zl_143_2 (m_W_f f1 W) X1 ⟨by omega, by omega⟩ (fun a σ2 f2 X2 => h1 a σ2 (q_f2_tr f1 f2) X2) (fun a σ2 f2 X2 => h0 a σ2 (q_f2_tr f1 f2) X2))
  · rw [if_neg (fun z => g ⟨rfl, z⟩)] at h0
    exact hev _ (zw_143_2 (m_W_f f1 W) X1 hp (fun σ2 f2 X2 => h0 rfl σ2 (q_f2_tr f1 f2) X2))
theorem zw_143_0 {p n : Int} {B : Int → Int} {σ : q_S} {K : q_R → q_S → Prop} (W : m_W σ) (X : m_X σ B n 1 p) (hp : 0 ≤ p ∧ p ≤ n) (hK : ∀ σ', q_f2 σ σ' → m_X σ' B n 1 p → K none σ') : q_E L xs k_M_word (2, [(2, 100), (2, 143), (0, 0)], [], σ) K := by
  have e : σ 143 0 = 111 := W.2.2.2.2.2.1
  refine q_go1 100 2 [2] (fun cl ev hcl hev => ?_)
  refine And.intro (fun z => by exfalso; omega) (fun _ => ?_)
  refine And.intro (by omega) ?_
  show cl _ _ _ _
  rw [e]
  refine hcl _ _ _ _ (z_must X hp (by decide) (fun z => absurd z (by decide)) (fun _ σ1 f1 X1 => ?_))
  exact hev _ (zw_143_1 (m_W_f f1 W) X1 hp (fun σ2 f2 X2 => hK σ2 (q_f2_tr f1 f2) X2))
theorem zl_143_0 {p n : Int} {B : Int → Int} {σ : q_S} {K : q_R → q_S → Prop} (W : m_W σ) (X : m_X σ B n 0 p) (hp : 0 ≤ p ∧ p ≤ n) (h1 : (u_wrd B n [111, 119, 110, 32] p).1 = 1 → ∀ σ', q_f2 σ σ' → m_X σ' B n 0 (u_wrd B n [111, 119, 110, 32] p).2 → K none σ') (h0 : (u_wrd B n [111, 119, 110, 32] p).1 = 0 → ∀ σ', q_f2 σ σ' → m_X σ' B n 1 (u_wrd B n [111, 119, 110, 32] p).2 → K none σ') : q_E L xs k_M_word (2, [(2, 100), (2, 143), (0, 0)], [], σ) K := by
  have e : σ 143 0 = 111 := W.2.2.2.2.2.1
  have el : u_wrd B n [111, 119, 110, 32] p = if u_pk B n p = 111 then u_wrd B n [119, 110, 32] (p + 1) else (0, p) := rfl
  rw [el] at h1 h0
  refine q_go1 100 2 [2] (fun cl ev hcl hev => ?_)
  refine And.intro (fun z => by exfalso; omega) (fun _ => ?_)
  refine And.intro (by omega) ?_
  show cl _ _ _ _
  rw [e]
  refine hcl _ _ _ _ (z_must X hp (by decide) (fun _ g σ1 f1 X1 => ?_) (fun g σ1 f1 X1 => ?_))
  · rw [if_pos g] at h1 h0
    have hq := u_pks (by decide) g
    exact hev _ (zl_143_1 (m_W_f f1 W) X1 ⟨by omega, by omega⟩ (fun a σ2 f2 X2 => h1 a σ2 (q_f2_tr f1 f2) X2) (fun a σ2 f2 X2 => h0 a σ2 (q_f2_tr f1 f2) X2))
  · rw [if_neg (fun z => g ⟨rfl, z⟩)] at h0
    exact hev _ (zw_143_1 (m_W_f f1 W) X1 hp (fun σ2 f2 X2 => h0 rfl σ2 (q_f2_tr f1 f2) X2))
theorem z_wd143 {p n : Int} {B : Int → Int} {σ : q_S} {K : q_R → q_S → Prop} (W : m_W σ) (X : m_X σ B n 0 p) (hp : 0 ≤ p ∧ p ≤ n) (h1 : (u_wrd B n [111, 119, 110, 32] p).1 = 1 → ∀ σ', q_f2 σ σ' → m_X σ' B n 0 (u_wrd B n [111, 119, 110, 32] p).2 → K none σ') (h0 : (u_wrd B n [111, 119, 110, 32] p).1 = 0 → ∀ σ', q_f2 σ σ' → m_X σ' B n 1 (u_wrd B n [111, 119, 110, 32] p).2 → K none σ') : q_K L xs i_M_word [(2, 100), (2, 143)] σ K := by
  refine q_call k_M_word 3 rfl ?_
  show q_E L xs k_M_word (0, [(2, 100), (2, 143), (9, 0)], [], σ) K
  refine q_go1 100 0 [2] (fun cl ev hcl hev => ?_)
  exact hev _ (zl_143_0 W X hp h1 h0)
theorem z_ww143 {p n : Int} {B : Int → Int} {σ : q_S} {K : q_R → q_S → Prop} (W : m_W σ) (X : m_X σ B n 1 p) (hp : 0 ≤ p ∧ p ≤ n) (hK : ∀ σ', q_f2 σ σ' → m_X σ' B n 1 p → K none σ') : q_K L xs i_M_word [(2, 100), (2, 143)] σ K := by
  refine q_call k_M_word 3 rfl ?_
  show q_E L xs k_M_word (0, [(2, 100), (2, 143), (9, 0)], [], σ) K
  refine q_go1 100 0 [2] (fun cl ev hcl hev => ?_)
  exact hev _ (zw_143_0 W X hp hK)
theorem zw_144_5 {p n : Int} {B : Int → Int} {σ : q_S} {K : q_R → q_S → Prop} (_W : m_W σ) (X : m_X σ B n 1 p) (_hp : 0 ≤ p ∧ p ≤ n) (hK : ∀ σ', q_f2 σ σ' → m_X σ' B n 1 p → K none σ') : q_E L xs k_M_word (2, [(2, 100), (2, 144), (0, 5)], [], σ) K := by
  refine q_go1 100 2 [2] (fun cl ev hcl hev => ?_)
  exact And.intro (fun _ => hK σ q_f2_rf X) (fun z => by exfalso; omega)
theorem zl_144_5 {p n : Int} {B : Int → Int} {σ : q_S} {K : q_R → q_S → Prop} (_W : m_W σ) (X : m_X σ B n 0 p) (_hp : 0 ≤ p ∧ p ≤ n) (h1 : (u_wrd B n [] p).1 = 1 → ∀ σ', q_f2 σ σ' → m_X σ' B n 0 (u_wrd B n [] p).2 → K none σ') : q_E L xs k_M_word (2, [(2, 100), (2, 144), (0, 5)], [], σ) K := by
  refine q_go1 100 2 [2] (fun cl ev hcl hev => ?_)
  exact And.intro (fun _ => h1 rfl σ q_f2_rf X) (fun z => by exfalso; omega)
theorem zw_144_4 {p n : Int} {B : Int → Int} {σ : q_S} {K : q_R → q_S → Prop} (W : m_W σ) (X : m_X σ B n 1 p) (hp : 0 ≤ p ∧ p ≤ n) (hK : ∀ σ', q_f2 σ σ' → m_X σ' B n 1 p → K none σ') : q_E L xs k_M_word (2, [(2, 100), (2, 144), (0, 4)], [], σ) K := by
  have e : σ 144 4 = 115 := W.2.2.2.2.2.2.2.2.2.2.2.2.2
  refine q_go1 100 2 [2] (fun cl ev hcl hev => ?_)
  refine And.intro (fun z => by exfalso; omega) (fun _ => ?_)
  refine And.intro (by omega) ?_
  show cl _ _ _ _
  rw [e]
  refine hcl _ _ _ _ (z_must X hp (by decide) (fun z => absurd z (by decide)) (fun _ σ1 f1 X1 => ?_))
  exact hev _ (zw_144_5 (m_W_f f1 W) X1 hp (fun σ2 f2 X2 => hK σ2 (q_f2_tr f1 f2) X2))
theorem zl_144_4 {p n : Int} {B : Int → Int} {σ : q_S} {K : q_R → q_S → Prop} (W : m_W σ) (X : m_X σ B n 0 p) (hp : 0 ≤ p ∧ p ≤ n) (h1 : (u_wrd B n [115] p).1 = 1 → ∀ σ', q_f2 σ σ' → m_X σ' B n 0 (u_wrd B n [115] p).2 → K none σ') (h0 : (u_wrd B n [115] p).1 = 0 → ∀ σ', q_f2 σ σ' → m_X σ' B n 1 (u_wrd B n [115] p).2 → K none σ') : q_E L xs k_M_word (2, [(2, 100), (2, 144), (0, 4)], [], σ) K := by
  have e : σ 144 4 = 115 := W.2.2.2.2.2.2.2.2.2.2.2.2.2
  have el : u_wrd B n [115] p = if u_pk B n p = 115 then u_wrd B n [] (p + 1) else (0, p) := rfl
  rw [el] at h1 h0
  refine q_go1 100 2 [2] (fun cl ev hcl hev => ?_)
  refine And.intro (fun z => by exfalso; omega) (fun _ => ?_)
  refine And.intro (by omega) ?_
  show cl _ _ _ _
  rw [e]
  refine hcl _ _ _ _ (z_must X hp (by decide) (fun _ g σ1 f1 X1 => ?_) (fun g σ1 f1 X1 => ?_))
  · rw [if_pos g] at h1 h0
    have hq := u_pks (by decide) g
    exact hev _ (zl_144_5 (m_W_f f1 W) X1 ⟨by omega, by omega⟩ (fun a σ2 f2 X2 => h1 a σ2 (q_f2_tr f1 f2) X2))
  · rw [if_neg (fun z => g ⟨rfl, z⟩)] at h0
    exact hev _ (zw_144_5 (m_W_f f1 W) X1 hp (fun σ2 f2 X2 => h0 rfl σ2 (q_f2_tr f1 f2) X2))
theorem zw_144_3 {p n : Int} {B : Int → Int} {σ : q_S} {K : q_R → q_S → Prop} (W : m_W σ) (X : m_X σ B n 1 p) (hp : 0 ≤ p ∧ p ≤ n) (hK : ∀ σ', q_f2 σ σ' → m_X σ' B n 1 p → K none σ') : q_E L xs k_M_word (2, [(2, 100), (2, 144), (0, 3)], [], σ) K := by
  have e : σ 144 3 = 101 := W.2.2.2.2.2.2.2.2.2.2.2.2.1
  refine q_go1 100 2 [2] (fun cl ev hcl hev => ?_)
  refine And.intro (fun z => by exfalso; omega) (fun _ => ?_)
  refine And.intro (by omega) ?_
  show cl _ _ _ _
  rw [e]
  refine hcl _ _ _ _ (z_must X hp (by decide) (fun z => absurd z (by decide)) (fun _ σ1 f1 X1 => ?_))
  exact hev _ (zw_144_4 (m_W_f f1 W) X1 hp (fun σ2 f2 X2 => hK σ2 (q_f2_tr f1 f2) X2))
theorem zl_144_3 {p n : Int} {B : Int → Int} {σ : q_S} {K : q_R → q_S → Prop} (W : m_W σ) (X : m_X σ B n 0 p) (hp : 0 ≤ p ∧ p ≤ n) (h1 : (u_wrd B n [101, 115] p).1 = 1 → ∀ σ', q_f2 σ σ' → m_X σ' B n 0 (u_wrd B n [101, 115] p).2 → K none σ') (h0 : (u_wrd B n [101, 115] p).1 = 0 → ∀ σ', q_f2 σ σ' → m_X σ' B n 1 (u_wrd B n [101, 115] p).2 → K none σ') : q_E L xs k_M_word (2, [(2, 100), (2, 144), (0, 3)], [], σ) K := by
  have e : σ 144 3 = 101 := W.2.2.2.2.2.2.2.2.2.2.2.2.1
  have el : u_wrd B n [101, 115] p = if u_pk B n p = 101 then u_wrd B n [115] (p + 1) else (0, p) := rfl
  rw [el] at h1 h0
  refine q_go1 100 2 [2] (fun cl ev hcl hev => ?_)
  refine And.intro (fun z => by exfalso; omega) (fun _ => ?_)
  refine And.intro (by omega) ?_
  show cl _ _ _ _
  rw [e]
  refine hcl _ _ _ _ (z_must X hp (by decide) (fun _ g σ1 f1 X1 => ?_) (fun g σ1 f1 X1 => ?_))
  · rw [if_pos g] at h1 h0
    have hq := u_pks (by decide) g
    exact hev _ (zl_144_4 (m_W_f f1 W) X1 ⟨by omega, by omega⟩ (fun a σ2 f2 X2 => h1 a σ2 (q_f2_tr f1 f2) X2) (fun a σ2 f2 X2 => h0 a σ2 (q_f2_tr f1 f2) X2))
  · rw [if_neg (fun z => g ⟨rfl, z⟩)] at h0
    exact hev _ (zw_144_4 (m_W_f f1 W) X1 hp (fun σ2 f2 X2 => h0 rfl σ2 (q_f2_tr f1 f2) X2))
theorem zw_144_2 {p n : Int} {B : Int → Int} {σ : q_S} {K : q_R → q_S → Prop} (W : m_W σ) (X : m_X σ B n 1 p) (hp : 0 ≤ p ∧ p ≤ n) (hK : ∀ σ', q_f2 σ σ' → m_X σ' B n 1 p → K none σ') : q_E L xs k_M_word (2, [(2, 100), (2, 144), (0, 2)], [], σ) K := by
  have e : σ 144 2 = 114 := W.2.2.2.2.2.2.2.2.2.2.2.1
  refine q_go1 100 2 [2] (fun cl ev hcl hev => ?_)
  refine And.intro (fun z => by exfalso; omega) (fun _ => ?_)
  refine And.intro (by omega) ?_
  show cl _ _ _ _
  rw [e]
  refine hcl _ _ _ _ (z_must X hp (by decide) (fun z => absurd z (by decide)) (fun _ σ1 f1 X1 => ?_))
  exact hev _ (zw_144_3 (m_W_f f1 W) X1 hp (fun σ2 f2 X2 => hK σ2 (q_f2_tr f1 f2) X2))
theorem zl_144_2 {p n : Int} {B : Int → Int} {σ : q_S} {K : q_R → q_S → Prop} (W : m_W σ) (X : m_X σ B n 0 p) (hp : 0 ≤ p ∧ p ≤ n) (h1 : (u_wrd B n [114, 101, 115] p).1 = 1 → ∀ σ', q_f2 σ σ' → m_X σ' B n 0 (u_wrd B n [114, 101, 115] p).2 → K none σ') (h0 : (u_wrd B n [114, 101, 115] p).1 = 0 → ∀ σ', q_f2 σ σ' → m_X σ' B n 1 (u_wrd B n [114, 101, 115] p).2 → K none σ') : q_E L xs k_M_word (2, [(2, 100), (2, 144), (0, 2)], [], σ) K := by
  have e : σ 144 2 = 114 := W.2.2.2.2.2.2.2.2.2.2.2.1
  have el : u_wrd B n [114, 101, 115] p = if u_pk B n p = 114 then u_wrd B n [101, 115] (p + 1) else (0, p) := rfl
  rw [el] at h1 h0
  refine q_go1 100 2 [2] (fun cl ev hcl hev => ?_)
  refine And.intro (fun z => by exfalso; omega) (fun _ => ?_)
  refine And.intro (by omega) ?_
  show cl _ _ _ _
  rw [e]
  refine hcl _ _ _ _ (z_must X hp (by decide) (fun _ g σ1 f1 X1 => ?_) (fun g σ1 f1 X1 => ?_))
  · rw [if_pos g] at h1 h0
    have hq := u_pks (by decide) g
    exact hev _ (zl_144_3 (m_W_f f1 W) X1 ⟨by omega, by omega⟩ (fun a σ2 f2 X2 => h1 a σ2 (q_f2_tr f1 f2) X2) (fun a σ2 f2 X2 => h0 a σ2 (q_f2_tr f1 f2) X2))
  · rw [if_neg (fun z => g ⟨rfl, z⟩)] at h0
    exact hev _ (zw_144_3 (m_W_f f1 W) X1 hp (fun σ2 f2 X2 => h0 rfl σ2 (q_f2_tr f1 f2) X2))
theorem zw_144_1 {p n : Int} {B : Int → Int} {σ : q_S} {K : q_R → q_S → Prop} (W : m_W σ) (X : m_X σ B n 1 p) (hp : 0 ≤ p ∧ p ≤ n) (hK : ∀ σ', q_f2 σ σ' → m_X σ' B n 1 p → K none σ') : q_E L xs k_M_word (2, [(2, 100), (2, 144), (0, 1)], [], σ) K := by
  have e : σ 144 1 = 99 := W.2.2.2.2.2.2.2.2.2.2.1
  refine q_go1 100 2 [2] (fun cl ev hcl hev => ?_)
  refine And.intro (fun z => by exfalso; omega) (fun _ => ?_)
  refine And.intro (by omega) ?_
  show cl _ _ _ _
  rw [e]
  refine hcl _ _ _ _ (z_must X hp (by decide) (fun z => absurd z (by decide)) (fun _ σ1 f1 X1 => ?_))
  exact hev _ (zw_144_2 (m_W_f f1 W) X1 hp (fun σ2 f2 X2 => hK σ2 (q_f2_tr f1 f2) X2))
theorem zl_144_1 {p n : Int} {B : Int → Int} {σ : q_S} {K : q_R → q_S → Prop} (W : m_W σ) (X : m_X σ B n 0 p) (hp : 0 ≤ p ∧ p ≤ n) (h1 : (u_wrd B n [99, 114, 101, 115] p).1 = 1 → ∀ σ', q_f2 σ σ' → m_X σ' B n 0 (u_wrd B n [99, 114, 101, 115] p).2 → K none σ') (h0 : (u_wrd B n [99, 114, 101, 115] p).1 = 0 → ∀ σ', q_f2 σ σ' → m_X σ' B n 1 (u_wrd B n [99, 114, 101, 115] p).2 → K none σ') : q_E L xs k_M_word (2, [(2, 100), (2, 144), (0, 1)], [], σ) K := by
  have e : σ 144 1 = 99 := W.2.2.2.2.2.2.2.2.2.2.1
  have el : u_wrd B n [99, 114, 101, 115] p = if u_pk B n p = 99 then u_wrd B n [114, 101, 115] (p + 1) else (0, p) := rfl
  rw [el] at h1 h0
  refine q_go1 100 2 [2] (fun cl ev hcl hev => ?_)
  refine And.intro (fun z => by exfalso; omega) (fun _ => ?_)
  refine And.intro (by omega) ?_
  show cl _ _ _ _
  rw [e]
  refine hcl _ _ _ _ (z_must X hp (by decide) (fun _ g σ1 f1 X1 => ?_) (fun g σ1 f1 X1 => ?_))
  · rw [if_pos g] at h1 h0
    have hq := u_pks (by decide) g
    exact hev _ (zl_144_2 (m_W_f f1 W) X1 ⟨by omega, by omega⟩ (fun a σ2 f2 X2 => h1 a σ2 (q_f2_tr f1 f2) X2) (fun a σ2 f2 X2 => h0 a σ2 (q_f2_tr f1 f2) X2))
  · rw [if_neg (fun z => g ⟨rfl, z⟩)] at h0
    exact hev _ (zw_144_2 (m_W_f f1 W) X1 hp (fun σ2 f2 X2 => h0 rfl σ2 (q_f2_tr f1 f2) X2))
theorem zw_144_0 {p n : Int} {B : Int → Int} {σ : q_S} {K : q_R → q_S → Prop} (W : m_W σ) (X : m_X σ B n 1 p) (hp : 0 ≤ p ∧ p ≤ n) (hK : ∀ σ', q_f2 σ σ' → m_X σ' B n 1 p → K none σ') : q_E L xs k_M_word (2, [(2, 100), (2, 144), (0, 0)], [], σ) K := by
  have e : σ 144 0 = 97 := W.2.2.2.2.2.2.2.2.2.1
  refine q_go1 100 2 [2] (fun cl ev hcl hev => ?_)
  refine And.intro (fun z => by exfalso; omega) (fun _ => ?_)
  refine And.intro (by omega) ?_
  show cl _ _ _ _
  rw [e]
  refine hcl _ _ _ _ (z_must X hp (by decide) (fun z => absurd z (by decide)) (fun _ σ1 f1 X1 => ?_))
  exact hev _ (zw_144_1 (m_W_f f1 W) X1 hp (fun σ2 f2 X2 => hK σ2 (q_f2_tr f1 f2) X2))
theorem zl_144_0 {p n : Int} {B : Int → Int} {σ : q_S} {K : q_R → q_S → Prop} (W : m_W σ) (X : m_X σ B n 0 p) (hp : 0 ≤ p ∧ p ≤ n) (h1 : (u_wrd B n [97, 99, 114, 101, 115] p).1 = 1 → ∀ σ', q_f2 σ σ' → m_X σ' B n 0 (u_wrd B n [97, 99, 114, 101, 115] p).2 → K none σ') (h0 : (u_wrd B n [97, 99, 114, 101, 115] p).1 = 0 → ∀ σ', q_f2 σ σ' → m_X σ' B n 1 (u_wrd B n [97, 99, 114, 101, 115] p).2 → K none σ') : q_E L xs k_M_word (2, [(2, 100), (2, 144), (0, 0)], [], σ) K := by
  have e : σ 144 0 = 97 := W.2.2.2.2.2.2.2.2.2.1
  have el : u_wrd B n [97, 99, 114, 101, 115] p = if u_pk B n p = 97 then u_wrd B n [99, 114, 101, 115] (p + 1) else (0, p) := rfl
  rw [el] at h1 h0
  refine q_go1 100 2 [2] (fun cl ev hcl hev => ?_)
  refine And.intro (fun z => by exfalso; omega) (fun _ => ?_)
  refine And.intro (by omega) ?_
  show cl _ _ _ _
  rw [e]
  refine hcl _ _ _ _ (z_must X hp (by decide) (fun _ g σ1 f1 X1 => ?_) (fun g σ1 f1 X1 => ?_))
  · rw [if_pos g] at h1 h0
    have hq := u_pks (by decide) g
    exact hev _ (zl_144_1 (m_W_f f1 W) X1 ⟨by omega, by omega⟩ (fun a σ2 f2 X2 => h1 a σ2 (q_f2_tr f1 f2) X2) (fun a σ2 f2 X2 => h0 a σ2 (q_f2_tr f1 f2) X2))
  · rw [if_neg (fun z => g ⟨rfl, z⟩)] at h0
    exact hev _ (zw_144_1 (m_W_f f1 W) X1 hp (fun σ2 f2 X2 => h0 rfl σ2 (q_f2_tr f1 f2) X2))
theorem z_wd144 {p n : Int} {B : Int → Int} {σ : q_S} {K : q_R → q_S → Prop} (W : m_W σ) (X : m_X σ B n 0 p) (hp : 0 ≤ p ∧ p ≤ n) (h1 : (u_wrd B n [97, 99, 114, 101, 115] p).1 = 1 → ∀ σ', q_f2 σ σ' → m_X σ' B n 0 (u_wrd B n [97, 99, 114, 101, 115] p).2 → K none σ') (h0 : (u_wrd B n [97, 99, 114, 101, 115] p).1 = 0 → ∀ σ', q_f2 σ σ' → m_X σ' B n 1 (u_wrd B n [97, 99, 114, 101, 115] p).2 → K none σ') : q_K L xs i_M_word [(2, 100), (2, 144)] σ K := by
  refine q_call k_M_word 3 rfl ?_
  show q_E L xs k_M_word (0, [(2, 100), (2, 144), (9, 0)], [], σ) K
  refine q_go1 100 0 [2] (fun cl ev hcl hev => ?_)
  exact hev _ (zl_144_0 W X hp h1 h0)
theorem z_ww144 {p n : Int} {B : Int → Int} {σ : q_S} {K : q_R → q_S → Prop} (W : m_W σ) (X : m_X σ B n 1 p) (hp : 0 ≤ p ∧ p ≤ n) (hK : ∀ σ', q_f2 σ σ' → m_X σ' B n 1 p → K none σ') : q_K L xs i_M_word [(2, 100), (2, 144)] σ K := by
  refine q_call k_M_word 3 rfl ?_
  show q_E L xs k_M_word (0, [(2, 100), (2, 144), (9, 0)], [], σ) K
  refine q_go1 100 0 [2] (fun cl ev hcl hev => ?_)
  exact hev _ (zw_144_0 W X hp hK)
end X3
