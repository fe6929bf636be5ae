/-- what always holds of the model -/
def q_MI (σ : q_S) : Prop := (0 ≤ σ 100 13 ∧ σ 100 13 ≤ 24) ∧ (0 ≤ σ 100 22 ∧ σ 100 22 ≤ 6) ∧ (0 ≤ σ 100 30 ∧ σ 100 30 ≤ 160) ∧ q_IS σ ∧ q_IC σ ∧ q_IF σ ∧ (∀ i, 0 ≤ i → i < 24 → 0 ≤ σ 114 i ∧ σ 114 i ≤ 99) ∧ (∀ i, 0 ≤ i → i < 24 → 0 ≤ σ 112 i ∧ σ 112 i < 30) ∧ (∀ i, 0 ≤ i → i < 6 → 0 ≤ σ 120 i ∧ σ 120 i < 30) ∧ ((∀ j, 0 ≤ j → j < 5 → 0 ≤ σ 142 j) ∧ (∀ j, 0 ≤ j → j < 4 → 0 ≤ σ 143 j) ∧ (∀ j, 0 ≤ j → j < 5 → 0 ≤ σ 144 j))
theorem q_hof_c {σ σ' : q_S} {c o d : Int} (h : ∀ k i, 107 ≤ k ∧ k ≤ 111 → σ' k i = σ k i) : ∀ k : Nat, q_hof σ' c o d k = q_hof σ c o d k
  | 0 => rfl
  | k + 1 => by
    unfold q_hof
    rw [q_hof_c h k, h 107 k (by omega), h 108 k (by omega), h 109 k (by omega), h 110 k (by omega), h 111 k (by omega)]
theorem q_IS_c {σ σ' : q_S} (h : ∀ k i, 107 ≤ k ∧ k ≤ 111 → σ' k i = σ k i) (h7 : σ' 100 7 = σ 100 7) (hI : q_IS σ) : q_IS σ' := by
  obtain ⟨a, b, c⟩ := hI
  refine ⟨by omega, fun j hj => ?_, fun k hk c1 o d => ?_⟩
  · rw [h 108 j (by omega), h 109 j (by omega), h 110 j (by omega)]; exact b j (by omega)
  · rw [q_hof_c h]; exact c k (by omega) c1 o d
theorem q_IC_c {σ σ' : q_S} (h : ∀ k i, k = 124 ∨ (128 ≤ k ∧ k ≤ 130) → σ' k i = σ k i) (h7 : σ' 100 31 = σ 100 31) (hI : q_IC σ) : q_IC σ' := by
  obtain ⟨a, b, c, d⟩ := hI
  refine ⟨by omega, fun j h0 h1 => ?_, fun j => ?_, fun j h0 h1 => ?_⟩
  · rw [h 128 j (by omega)]; exact b j h0 h1
  · rw [h 129 j (by omega), h 130 j (by omega)]; exact c j
  · rw [h 124 j (by omega)]; exact d j h0 h1
theorem q_IF_c {σ σ' : q_S} (h : ∀ i, σ' 119 i = σ 119 i) (h7 : σ' 100 42 = σ 100 42) (h8 : σ' 100 13 = σ 100 13) (hI : q_IF σ) : q_IF σ' := by
  obtain ⟨a, b⟩ := hI
  refine ⟨by omega, fun j h0 h1 => ?_⟩
  rw [h j, h7]
  exact b j h0 (by omega)
/-- what that rests on -/
def q_rel (k i : Int) : Prop := (k = 100 ∧ (i = 7 ∨ i = 13 ∨ i = 22 ∨ i = 30 ∨ i = 31 ∨ i = 42)) ∨ (107 ≤ k ∧ k ≤ 112) ∨ k = 114 ∨ k = 119 ∨ k = 120 ∨ k = 124 ∨ (128 ≤ k ∧ k ≤ 130) ∨ (142 ≤ k ∧ k ≤ 144)
theorem q_MIc {σ σ' : q_S} (h : ∀ k i, q_rel k i → σ' k i = σ k i) (hI : q_MI σ) : q_MI σ' := by
  obtain ⟨a1, a2, a3, a4, a5, a6, a7, a8, a9, a10, a11, a12⟩ := hI
  have r : ∀ k i, q_rel k i → σ' k i = σ k i := h
  refine ⟨?_, ?_, ?_, q_IS_c (fun k i hk => h k i (by unfold q_rel; omega)) (h _ _ (by unfold q_rel; omega)) a4, q_IC_c (fun k i hk => h k i (by unfold q_rel; omega)) (h _ _ (by unfold q_rel; omega)) a5, q_IF_c (fun i => h _ _ (by unfold q_rel; omega)) (h _ _ (by unfold q_rel; omega)) (h _ _ (by unfold q_rel; omega)) a6, fun i h0 h1 => ?_, fun i h0 h1 => ?_, fun i h0 h1 => ?_, fun i h0 h1 => ?_, fun i h0 h1 => ?_, fun i h0 h1 => ?_⟩
  · rw [h 100 13 (by unfold q_rel; omega)]; exact a1
  · rw [h 100 22 (by unfold q_rel; omega)]; exact a2
  · rw [h 100 30 (by unfold q_rel; omega)]; exact a3
  · rw [h 114 i (by unfold q_rel; omega)]; exact a7 i h0 h1
  · rw [h 112 i (by unfold q_rel; omega)]; exact a8 i h0 h1
  · rw [h 120 i (by unfold q_rel; omega)]; exact a9 i h0 h1
  · rw [h 142 i (by unfold q_rel; omega)]; exact a10 i h0 h1
  · rw [h 143 i (by unfold q_rel; omega)]; exact a11 i h0 h1
  · rw [h 144 i (by unfold q_rel; omega)]; exact a12 i h0 h1
/-- the cells that class and model hold alike -/
def q_cp (k i : Int) : Prop := k = 2 ∨ k = 21 ∨ (k = 17 ∧ i = 9) ∨ (k = 27 ∧ i = 2) ∨ k = 101 ∨ k = 115 ∨ (k = 100 ∧ (i = 13 ∨ i = 22))
def q_RL (σ : q_S) : Prop := (∀ i, 0 ≤ i → i < 30 → σ 2 i = σ 101 i) ∧ σ 17 9 = σ 100 13 ∧ (∀ i, 0 ≤ i → i < 24 → σ 21 i = σ 115 i) ∧ σ 27 2 = σ 100 22
theorem q_RLc {σ σ' : q_S} (h : ∀ k i, q_cp k i → σ' k i = σ k i) (hI : q_RL σ) : q_RL σ' := by
  obtain ⟨a1, a2, a3, a4⟩ := hI
  refine ⟨fun i h0 h1 => ?_, ?_, fun i h0 h1 => ?_, ?_⟩
  · rw [h 2 i (by unfold q_cp; omega), h 101 i (by unfold q_cp; omega)]; exact a1 i h0 h1
  · rw [h 17 9 (by unfold q_cp; omega), h 100 13 (by unfold q_cp; omega)]; exact a2
  · rw [h 21 i (by unfold q_cp; omega), h 115 i (by unfold q_cp; omega)]; exact a3 i h0 h1
  · rw [h 27 2 (by unfold q_cp; omega), h 100 22 (by unfold q_cp; omega)]; exact a4
def q_W0 (k i : Int) : Prop := k < 100 ∧ ¬ q_cp k i
def q_V0 (k i : Int) : Prop := 100 ≤ k ∧ ¬ q_cp k i
def q_MF (V : Int → Int → Prop) (σ σ' : q_S) : Prop := ∀ k i, ¬ V k i → σ' k i = σ k i
def q_IN (σ : q_S) : Prop := (∀ k i, q_ok k i (σ k i)) ∧ q_MI σ ∧ q_RL σ
theorem q_AW0 {W : Int → Int → Prop} {σ : q_S} (h : q_IN σ) : q_AW W σ σ := ⟨fun _ _ _ => rfl, h.1⟩
theorem q_INa {σ σ1 : q_S} (h : q_IN σ) (h1 : q_AW q_W0 σ σ1) : q_IN σ1 :=
  ⟨h1.2, q_MIc (fun k i hk => h1.1 k i (by unfold q_W0; unfold q_rel at hk; omega)) h.2.1, q_RLc (fun k i hk => h1.1 k i (fun hw => hw.2 hk)) h.2.2⟩
theorem q_ok_m {k i v : Int} (h : 100 ≤ k) : q_ok k i v := by unfold q_ok; omega
theorem q_INm {σ σ1 : q_S} (h : q_IN σ) (hM : q_MI σ1) (h1 : q_MF q_V0 σ σ1) : q_IN σ1 := by
  refine ⟨fun k i => ?_, hM, q_RLc (fun k i hk => h1 k i (fun hw => hw.2 hk)) h.2.2⟩
  by_cases hk : 100 ≤ k
  · exact q_ok_m hk
  · rw [h1 k i (fun hw => hk hw.1)]; exact h.1 k i

section P62
variable {L : Nat} {xs : Int → Int}

theorem m_cell {c w : Int} {σ : q_S} {K : q_R → q_S → Prop} (hI : q_MI σ) (hK : ∀ x σ', q_MI σ' → q_MF q_V0 σ σ' → K (some (0, x)) σ') : q_K L xs i_M_cell [(2, 100), (0, c), (0, w)] σ K := by
  obtain ⟨a1, a2, a3, a4, a5, a6, a7, a8, a9, a10⟩ := id hI
  have hR : ∀ x, K (some (0, x)) σ := fun x => hK x σ hI (fun _ _ _ => rfl)
  exact c_M_cell (fun _ => hR _) (fun _ => hR _) (fun _ => hR _) (fun _ => hR _) (fun _ => hR _) (fun _ => hR _)

theorem m_held {c w d n : Int} {σ : q_S} {K : q_R → q_S → Prop} (hI : q_MI σ) (hK : ∀ x σ', q_MI σ' → q_MF q_V0 σ σ' → K (some (0, x)) σ') : q_K L xs i_M_held [(2, 100), (0, c), (0, w), (0, d), (0, n)] σ K := by
  obtain ⟨a1, a2, a3, a4, a5, a6, a7, a8, a9, a10⟩ := id hI
  have hR : ∀ x, K (some (0, x)) σ := fun x => hK x σ hI (fun _ _ _ => rfl)
  refine c_M_held a4.1 (fun j hj => ?_) (fun _ => hR _) (fun _ => hR _) ?_ ?_
  · have := a4.2.1 j hj; omega
  all_goals intro _; exact hR _

theorem m_about {r w : Int} {σ : q_S} {K : q_R → q_S → Prop} (hI : q_MI σ) (hK : ∀ x σ', q_MI σ' → q_MF q_V0 σ σ' → K (some (0, x)) σ') : q_K L xs i_M_about [(2, 100), (0, r), (0, w)] σ K := by
  obtain ⟨a1, a2, a3, a4, a5, a6, a7, a8, a9, a10⟩ := id hI
  have hR : ∀ x, K (some (0, x)) σ := fun x => hK x σ hI (fun _ _ _ => rfl)
  exact c_M_about a1 a5.1 (fun x => hR x)

theorem m_where {i : Int} {σ : q_S} {K : q_R → q_S → Prop} (hI : q_MI σ) (hK : ∀ x σ', q_MI σ' → q_MF q_V0 σ σ' → K (some (0, x)) σ') : q_K L xs i_M_where [(2, 100), (0, i)] σ K := by
  obtain ⟨a1, a2, a3, a4, a5, a6, a7, a8, a9, a10⟩ := id hI
  have hR : ∀ x, K (some (0, x)) σ := fun x => hK x σ hI (fun _ _ _ => rfl)
  exact c_M_where a2 (fun _ => hR _) (fun _ => hR _) (fun _ => hR _)

theorem m_custom {d n w : Int} {σ : q_S} {K : q_R → q_S → Prop} (hI : q_MI σ) (hK : ∀ x σ', q_MI σ' → q_MF q_V0 σ σ' → K (some (0, x)) σ') : q_K L xs i_M_custom [(2, 100), (0, d), (0, n), (0, w)] σ K := by
  obtain ⟨a1, a2, a3, a4, a5, a6, a7, a8, a9, a10⟩ := id hI
  have hR : ∀ x, K (some (0, x)) σ := fun x => hK x σ hI (fun _ _ _ => rfl)
  exact c_M_custom a5.1 (fun x => hR x)

theorem m_fault {r w : Int} {σ : q_S} {K : q_R → q_S → Prop} (hI : q_MI σ) (hK : ∀ x σ', q_MI σ' → q_MF q_V0 σ σ' → K (some (0, x)) σ') : q_K L xs i_M_fault [(2, 100), (0, r), (0, w)] σ K := by
  obtain ⟨a1, a2, a3, a4, a5, a6, a7, a8, a9, a10⟩ := id hI
  have hR : ∀ x, K (some (0, x)) σ := fun x => hK x σ hI (fun _ _ _ => rfl)
  exact c_M_fault a1 (fun i h0 h1 => by have := a6.2 i h0 h1; have := a6.1; omega) (fun x => hR x)

theorem m_fines {w : Int} {σ : q_S} {K : q_R → q_S → Prop} (hI : q_MI σ) (hK : ∀ x σ', q_MI σ' → q_MF q_V0 σ σ' → K (some (0, x)) σ') : q_K L xs i_M_fines [(2, 100), (0, w)] σ K := by
  obtain ⟨a1, a2, a3, a4, a5, a6, a7, a8, a9, a10⟩ := id hI
  have hR : ∀ x, K (some (0, x)) σ := fun x => hK x σ hI (fun _ _ _ => rfl)
  exact c_M_fines a6.1 (fun x => hR x)

theorem m_mended {w : Int} {σ : q_S} {K : q_R → q_S → Prop} (hI : q_MI σ) (hK : ∀ x σ', q_MI σ' → q_MF q_V0 σ σ' → K (some (0, x)) σ') : q_K L xs i_M_mended [(2, 100), (0, w)] σ K := by
  obtain ⟨a1, a2, a3, a4, a5, a6, a7, a8, a9, a10⟩ := id hI
  have hR : ∀ x, K (some (0, x)) σ := fun x => hK x σ hI (fun _ _ _ => rfl)
  exact c_M_mended (fun _ => hR _) (fun _ => hR _)

theorem m_count {w : Int} {σ : q_S} {K : q_R → q_S → Prop} (hI : q_MI σ) (hK : ∀ x σ', q_MI σ' → q_MF q_V0 σ σ' → K (some (0, x)) σ') : q_K L xs i_M_count [(2, 100), (0, w)] σ K := by
  obtain ⟨a1, a2, a3, a4, a5, a6, a7, a8, a9, a10⟩ := id hI
  have hR : ∀ x, K (some (0, x)) σ := fun x => hK x σ hI (fun _ _ _ => rfl)
  exact c_M_count a2 a1 (fun x => hR x)

theorem m_mender {r d n s : Int} {σ : q_S} {K : q_R → q_S → Prop} (hI : q_MI σ) (hK : ∀ x σ', q_MI σ' → q_MF q_V0 σ σ' → K (some (0, x)) σ') : q_K L xs i_M_mender [(2, 100), (0, r), (0, d), (0, n), (0, s)] σ K := by
  obtain ⟨a1, a2, a3, a4, a5, a6, a7, a8, a9, a10⟩ := id hI
  have hR : ∀ x, K (some (0, x)) σ := fun x => hK x σ hI (fun _ _ _ => rfl)
  exact c_M_mender a1 a4 a5 (fun σ' r f => hK _ _ (q_MIc (fun k i hk => f k i (by unfold q_rel at hk; omega) (by unfold q_rel at hk; omega)) hI) (fun k i hk => f k i (fun e => hk (by subst e; unfold q_V0 q_cp; omega)) (fun e => hk (by subst e; unfold q_V0 q_cp; omega))))

theorem m_scot {s w : Int} {σ : q_S} {K : q_R → q_S → Prop} (hI : q_MI σ) (hK : ∀ x σ', q_MI σ' → q_MF q_V0 σ σ' → K (some (0, x)) σ') : q_K L xs i_M_scot [(2, 100), (0, s), (0, w)] σ K := by
  obtain ⟨a1, a2, a3, a4, a5, a6, a7, a8, a9, a10⟩ := id hI
  have hR : ∀ x, K (some (0, x)) σ := fun x => hK x σ hI (fun _ _ _ => rfl)
  exact c_M_scot a4 (fun σ' r f => hK _ _ (q_MIc (fun k i hk => f k i (by unfold q_rel at hk; omega) (by unfold q_rel at hk; omega)) hI) (fun k i hk => f k i (fun e => hk (by subst e; unfold q_V0 q_cp; omega)) (fun e => hk (by subst e; unfold q_V0 q_cp; omega))))

theorem m_year {σ : q_S} {K : q_R → q_S → Prop} (hI : q_MI σ) (hK : ∀ x σ', q_MI σ' → q_MF q_V0 σ σ' → K (some (0, x)) σ') : q_K L xs i_M_year [(2, 100)] σ K := by
  obtain ⟨a1, a2, a3, a4, a5, a6, a7, a8, a9, a10⟩ := id hI
  have hR : ∀ x, K (some (0, x)) σ := fun x => hK x σ hI (fun _ _ _ => rfl)
  exact c_M_year (fun σ' r f => hK _ _ (q_MIc (fun k i hk => f k i (by unfold q_rel at hk; omega)) hI) (fun k i hk => f k i (fun e => hk (by unfold q_V0 q_cp; omega))))

theorem m_works {n w : Int} {σ : q_S} {K : q_R → q_S → Prop} (hI : q_MI σ) (hK : ∀ x σ', q_MI σ' → q_MF q_V0 σ σ' → K (some (0, x)) σ') : q_K L xs i_M_works [(2, 100), (0, n), (0, w)] σ K := by
  obtain ⟨a1, a2, a3, a4, a5, a6, a7, a8, a9, a10⟩ := id hI
  have hR : ∀ x, K (some (0, x)) σ := fun x => hK x σ hI (fun _ _ _ => rfl)
  exact c_M_works a1 a5 a7 a8 (fun σ' x f => hK _ _ (q_MIc (fun k i hk => f k i (by unfold q_rel at hk; omega)) hI) (fun k i hk => f k i (fun e => hk (by unfold q_V0 q_cp; omega))))

theorem m_way {i n w : Int} {σ : q_S} {K : q_R → q_S → Prop} (hI : q_MI σ) (hK : ∀ x σ', q_MI σ' → q_MF q_V0 σ σ' → K (some (0, x)) σ') : q_K L xs i_M_way [(2, 100), (0, i), (0, n), (0, w)] σ K := by
  obtain ⟨a1, a2, a3, a4, a5, a6, a7, a8, a9, a10⟩ := id hI
  have hR : ∀ x, K (some (0, x)) σ := fun x => hK x σ hI (fun _ _ _ => rfl)
  exact c_M_way a2 a9 (fun x σ' f => hK _ _ (q_MIc (fun k i hk => f k i (by unfold q_rel at hk; omega)) hI) (fun k i hk => f k i (fun e => hk (by subst e; unfold q_V0 q_cp; omega))))

theorem m_drive {i c : Int} {σ : q_S} {K : q_R → q_S → Prop} (hI : q_MI σ) (hK : ∀ x σ', q_MI σ' → q_MF q_V0 σ σ' → K (some (0, x)) σ') : q_K L xs i_M_drive [(2, 100), (0, i), (0, c)] σ K := by
  obtain ⟨a1, a2, a3, a4, a5, a6, a7, a8, a9, a10⟩ := id hI
  have hR : ∀ x, K (some (0, x)) σ := fun x => hK x σ hI (fun _ _ _ => rfl)
  refine c_M_drive a2 a9 (fun x => hR x) (fun x h0 h1 => ?_)
  refine hK _ _ ⟨a1, a2, a3, q_IS_c (fun k j hk => q_un (by omega)) (q_un (by decide)) a4, q_IC_c (fun k j hk => q_un (by omega)) (q_un (by decide)) a5, q_IF_c (fun j => q_un (by decide)) (q_un (by decide)) (q_un (by decide)) a6, a7, a8, fun j j0 j1 => ?_, a10⟩ (fun k j hk => q_un (fun e => hk (by subst e; unfold q_V0 q_cp; omega)))
  unfold q_up
  rw [if_pos rfl]
  split
  · omega
  · exact a9 j j0 j1

theorem m_view {r : Int} {σ : q_S} {K : q_R → q_S → Prop} (hI : q_MI σ) (hK : ∀ x σ', q_MI σ' → q_MF q_V0 σ σ' → K (some (0, x)) σ') : q_K L xs i_M_view [(2, 100), (0, r)] σ K := by
  obtain ⟨a1, a2, a3, a4, a5, a6, a7, a8, a9, a10⟩ := id hI
  have hR : ∀ x, K (some (0, x)) σ := fun x => hK x σ hI (fun _ _ _ => rfl)
  refine c_M_view a1 a7 a4 a5 a6 (fun σ' x f hF => ?_)
  have g : ∀ k i, q_rel k i → k ≠ 119 → ¬ (k = 100 ∧ i = 42) → σ' k i = σ k i := fun k i hk h1 h2 => f k i (by unfold q_rel at hk; omega) h2
  refine hK _ _ ⟨?_, ?_, ?_, q_IS_c (fun k j hk => g k j (by unfold q_rel; omega) (by omega) (by omega)) (g _ _ (by unfold q_rel; omega) (by omega) (by omega)) a4, q_IC_c (fun k j hk => g k j (by unfold q_rel; omega) (by omega) (by omega)) (g _ _ (by unfold q_rel; omega) (by omega) (by omega)) a5, hF, fun i h0 h1 => ?_, fun i h0 h1 => ?_, fun i h0 h1 => ?_, fun i h0 h1 => ?_, fun i h0 h1 => ?_, fun i h0 h1 => ?_⟩ (fun k i hk => f k i (fun e => hk (by unfold q_V0 q_cp; omega)) (fun e => hk (by unfold q_V0 q_cp; omega)))
  · rw [g 100 13 (by unfold q_rel; omega) (by omega) (by omega)]; exact a1
  · rw [g 100 22 (by unfold q_rel; omega) (by omega) (by omega)]; exact a2
  · rw [g 100 30 (by unfold q_rel; omega) (by omega) (by omega)]; exact a3
  · rw [g 114 i (by unfold q_rel; omega) (by omega) (by omega)]; exact a7 i h0 h1
  · rw [g 112 i (by unfold q_rel; omega) (by omega) (by omega)]; exact a8 i h0 h1
  · rw [g 120 i (by unfold q_rel; omega) (by omega) (by omega)]; exact a9 i h0 h1
  · rw [g 142 i (by unfold q_rel; omega) (by omega) (by omega)]; exact a10.1 i h0 h1
  · rw [g 143 i (by unfold q_rel; omega) (by omega) (by omega)]; exact a10.2.1 i h0 h1
  · rw [g 144 i (by unfold q_rel; omega) (by omega) (by omega)]; exact a10.2.2 i h0 h1

theorem m_feed {w n : Int} {σ : q_S} {K : q_R → q_S → Prop} (hI : q_MI σ) (hK : ∀ x σ', q_MI σ' → q_MF q_V0 σ σ' → K (some (0, x)) σ') : q_K L xs i_M_feed [(2, 100), (1, w), (0, n)] σ K := by
  obtain ⟨a1, a2, a3, a4, a5, a6, a7, a8, a9, a10⟩ := id hI
  have hR : ∀ x, K (some (0, x)) σ := fun x => hK x σ hI (fun _ _ _ => rfl)
  refine c_M_feed a3 (fun σ' r f ht => ?_)
  have g : ∀ k i, q_rel k i → ¬ (k = 100 ∧ i = 30) → σ' k i = σ k i := fun k i hk h1 => f k i (by unfold q_rel at hk; omega)
  refine hK _ _ ⟨?_, ?_, ht, q_IS_c (fun k j hk => g k j (by unfold q_rel; omega) (by omega)) (g _ _ (by unfold q_rel; omega) (by omega)) a4, q_IC_c (fun k j hk => g k j (by unfold q_rel; omega) (by omega)) (g _ _ (by unfold q_rel; omega) (by omega)) a5, q_IF_c (fun j => g _ _ (by unfold q_rel; omega) (by omega)) (g _ _ (by unfold q_rel; omega) (by omega)) (g _ _ (by unfold q_rel; omega) (by omega)) a6, fun i h0 h1 => ?_, fun i h0 h1 => ?_, fun i h0 h1 => ?_, fun i h0 h1 => ?_, fun i h0 h1 => ?_, fun i h0 h1 => ?_⟩ (fun k i hk => f k i (fun e => hk (by unfold q_V0 q_cp; omega)))
  · rw [g 100 13 (by unfold q_rel; omega) (by omega)]; exact a1
  · rw [g 100 22 (by unfold q_rel; omega) (by omega)]; exact a2
  · rw [g 114 i (by unfold q_rel; omega) (by omega)]; exact a7 i h0 h1
  · rw [g 112 i (by unfold q_rel; omega) (by omega)]; exact a8 i h0 h1
  · rw [g 120 i (by unfold q_rel; omega) (by omega)]; exact a9 i h0 h1
  · rw [g 142 i (by unfold q_rel; omega) (by omega)]; exact a10.1 i h0 h1
  · rw [g 143 i (by unfold q_rel; omega) (by omega)]; exact a10.2.1 i h0 h1
  · rw [g 144 i (by unfold q_rel; omega) (by omega)]; exact a10.2.2 i h0 h1

end P62
