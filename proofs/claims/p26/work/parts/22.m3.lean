/-- the byte that is read next -/
def q_by1 (σ : q_S) : Int := if σ 100 53 < σ 100 30 then σ 122 (σ 100 53) else -1
/-- only the reader's place and mark may differ -/
def q_f2 (σ σ' : q_S) : Prop := ∀ k i, ¬ (k = 100 ∧ (i = 53 ∨ i = 54)) → σ' k i = σ k i
theorem q_f2_rf {σ : q_S} : q_f2 σ σ := fun _ _ _ => rfl
theorem q_f2_tr {σ σ' σ'' : q_S} (h : q_f2 σ σ') (h' : q_f2 σ' σ'') : q_f2 σ σ'' := fun k i hk => (h' k i hk).trans (h k i hk)
theorem q_f2_up {σ σ' : q_S} {i v : Int} (h : q_f2 σ σ') (hi : i = 53 ∨ i = 54) : q_f2 σ (q_up σ' 100 i v) := by
  intro k j hk
  unfold q_up
  split
  · split
    · exact absurd ⟨by assumption, by omega⟩ hk
    · exact h k j hk
  · exact h k j hk
section P22
variable {L : Nat} {xs : Int → Int}
theorem c_M_must {b : Int} {σ : q_S} {K : q_R → q_S → Prop} (hp : 0 ≤ σ 100 53 ∧ σ 100 53 ≤ σ 100 30 ∧ σ 100 30 ≤ 160) (hb : 0 ≤ b)
    (h1 : ∀ σ', q_f2 σ σ' → (σ 100 54 = 0 ∧ q_by1 σ = b) → σ' 100 54 = 0 → σ' 100 53 = σ 100 53 + 1 → σ 100 53 < σ 100 30 → K none σ') (h0 : ∀ σ', q_f2 σ σ' → ¬ (σ 100 54 = 0 ∧ q_by1 σ = b) → σ' 100 54 = 1 → σ' 100 53 = σ 100 53 → K none σ') : q_K L xs i_M_must [(2, 100), (0, b)] σ K := by
  have e0 : q_w32 (σ 100 53 + 0) = σ 100 53 := by rw [q_w32_id] <;> omega
  have e1 : q_w32 (σ 100 53 + 1) = σ 100 53 + 1 := by rw [q_w32_id] <;> omega
  unfold q_by1 at h1 h0
  refine q_call k_M_must 2 rfl ?_
  show q_E L xs k_M_must (0, [(2, 100), (0, b)], [], σ) K
  refine q_go1 200 0 [] (fun cl ev hcl hev => ?_)
  repeat' (first | refine And.intro ?_ ?_ | (intro hq; first | exact absurd hq (by decide) | exact absurd rfl hq | exact absurd hq (show ¬ (1 : Int) = 0 by decide) | exact absurd (show (1 : Int) ≠ 0 by decide) hq | skip) | refine hcl _ _ _ _ (c_M_byteAt (by omega) (by omega) ?_ ?_))
  all_goals first | omega | (refine h0 _ (q_f2_up (q_f2_up q_f2_rf (Or.inr rfl)) (Or.inl rfl)) ?_ rfl ?_; (repeat' split); all_goals first | omega | (simp only [q_un (show (53 : Int) ≠ 53 by decide)]; omega) | exact e0) | (refine h1 _ (q_f2_up (q_f2_up q_f2_rf (Or.inr rfl)) (Or.inl rfl)) ?_ rfl ?_ ?_; (repeat' split); all_goals first | omega | exact e1)

theorem c_M_isDigit {σ : q_S} {K : q_R → q_S → Prop} (hp : 0 ≤ σ 100 53 ∧ σ 100 53 ≤ σ 100 30 ∧ σ 100 30 ≤ 160) (h1 : (48 ≤ q_by1 σ ∧ q_by1 σ ≤ 57) → K (some (0, 1)) σ) (h0 : ¬ (48 ≤ q_by1 σ ∧ q_by1 σ ≤ 57) → K (some (0, 0)) σ) : q_K L xs i_M_isDigit [(2, 100)] σ K := by
  unfold q_by1 at h1 h0
  refine q_call k_M_isDigit 1 rfl ?_
  show q_E L xs k_M_isDigit (0, [(2, 100)], [], σ) K
  refine q_go1 200 0 [] (fun cl ev hcl hev => ?_)
  repeat' (first | refine And.intro ?_ ?_ | (intro hq; first | exact absurd hq (by decide) | exact absurd rfl hq | exact absurd hq (show ¬ (1 : Int) = 0 by decide) | exact absurd (show (1 : Int) ≠ 0 by decide) hq | skip) | refine hcl _ _ _ _ (c_M_byteAt (by omega) (by omega) ?_ ?_) | refine hcl _ _ _ _ (c_M_in ?_ ?_))
  all_goals first | omega | (refine h1 ?_; split <;> omega) | (refine h0 ?_; split <;> omega)

theorem l_M_number {lo hi : Int} {σ0 : q_S} {K : q_R → q_S → Prop} (hh : 0 ≤ hi ∧ hi ≤ 999) (hK : ∀ σ' r, q_f2 σ0 σ' → (0 ≤ σ' 100 53 ∧ σ' 100 53 ≤ σ' 100 30 ∧ σ' 100 30 ≤ 160) → (0 ≤ r ∧ r ≤ hi) → (σ' 100 54 = 0 ∨ σ' 100 54 = 1) → K (some (0, r)) σ') :
    ∀ (m : Nat) (σ : q_S) (n : Int) (u4 : Nat) (x4 : Int), 2 * (σ 100 30 - σ 100 53) + 1 - σ 100 54 < m → (0 ≤ σ 100 53 ∧ σ 100 53 ≤ σ 100 30 ∧ σ 100 30 ≤ 160) → q_f2 σ0 σ → (0 ≤ n ∧ n ≤ hi) → (σ 100 54 = 0 ∨ σ 100 54 = 1) →
      q_E L xs k_M_number (44, [(2, 100), (0, lo), (0, hi), (0, n), (u4, x4)], [], σ) K := by
  intro m
  induction m with
  | zero => intro σ n u4 x4 h1 h2 h3 h4 h5; omega
  | succ m ih =>
    intro σ n u4 x4 hm hp hf hn hw
    have e0 : q_w32 (σ 100 53 + 0) = σ 100 53 := by rw [q_w32_id] <;> omega
    have e1 : σ 100 53 < σ 100 30 → q_w32 (σ 100 53 + 1) = σ 100 53 + 1 := fun _ => by rw [q_w32_id] <;> omega
    have e2 : ∀ v, 48 ≤ v → v ≤ 57 → q_w32 (q_w32 (q_w32 (10 * n) + v) - 48) = 10 * n + v - 48 := fun v _ _ => by unfold q_w32; omega
    have hby : q_by1 σ = if σ 100 53 < σ 100 30 then σ 122 (σ 100 53) else -1 := rfl
    refine q_go1 200 44 [44] (fun cl ev hcl hev => ?_)
    repeat' (first | refine And.intro ?_ ?_ | (intro hq; first | exact absurd hq (by decide) | exact absurd rfl hq | exact absurd hq (show ¬ (1 : Int) = 0 by decide) | exact absurd (show (1 : Int) ≠ 0 by decide) hq | skip) | refine hcl _ _ _ _ (c_M_isDigit hp ?_ ?_) | refine hcl _ _ _ _ (c_M_byteAt (by omega) (by omega) ?_ ?_))
    all_goals first
      | omega
      | exact hK _ _ hf hp hn hw
      | (exfalso; rw [if_neg (by assumption)] at hby; omega)
      | (rw [if_pos (by assumption)] at hby
         have e3 := e2 (σ 122 (σ 100 53)) (by omega) (by omega)
         have e4 := e1 (by assumption)
         first
         | (refine hev _ (ih _ _ _ _ ?_ ?_ (q_f2_up (q_f2_up hf (Or.inr rfl)) (Or.inl rfl)) ?_ ?_)
            · show 2 * (σ 100 30 - q_w32 (σ 100 53 + 0)) + 1 - 1 < (m : Int); omega
            · show 0 ≤ q_w32 (σ 100 53 + 0) ∧ q_w32 (σ 100 53 + 0) ≤ σ 100 30 ∧ σ 100 30 ≤ 160; omega
            · exact hn
            · exact Or.inr rfl)
         | (refine hev _ (ih _ _ _ _ ?_ ?_ (q_f2_up (q_f2_up hf (Or.inr rfl)) (Or.inl rfl)) ?_ ?_)
            · show 2 * (σ 100 30 - q_w32 (σ 100 53 + 1)) + 1 - 0 < (m : Int); omega
            · show 0 ≤ q_w32 (σ 100 53 + 1) ∧ q_w32 (σ 100 53 + 1) ≤ σ 100 30 ∧ σ 100 30 ≤ 160; omega
            · omega
            · exact Or.inl rfl))

theorem c_M_number {lo hi : Int} {σ : q_S} {K : q_R → q_S → Prop} (hh : 0 ≤ hi ∧ hi ≤ 999) (hl : 0 ≤ lo ∧ lo ≤ 9) (hp : 0 ≤ σ 100 53 ∧ σ 100 53 ≤ σ 100 30 ∧ σ 100 30 ≤ 160) (hw : σ 100 54 = 0 ∨ σ 100 54 = 1) (hK : ∀ σ' r, q_f2 σ σ' → (0 ≤ σ' 100 53 ∧ σ' 100 53 ≤ σ' 100 30 ∧ σ' 100 30 ≤ 160) → (0 ≤ r ∧ r ≤ hi) → (σ' 100 54 = 0 ∨ σ' 100 54 = 1) → K (some (0, r)) σ') : q_K L xs i_M_number [(2, 100), (0, lo), (0, hi)] σ K := by
  have e0 : q_w32 (σ 100 53 + 0) = σ 100 53 := by rw [q_w32_id] <;> omega
  have e1 : σ 100 53 < σ 100 30 → q_w32 (σ 100 53 + 1) = σ 100 53 + 1 := fun _ => by rw [q_w32_id] <;> omega
  have e2 : q_w32 (48 + lo) = 48 + lo := by rw [q_w32_id] <;> omega
  have e3 : q_w32 (48 + hi) = 48 + hi := by rw [q_w32_id] <;> omega
  refine q_call k_M_number 5 rfl ?_
  show q_E L xs k_M_number (0, [(2, 100), (0, lo), (0, hi), (9, 0), (9, 0)], [], σ) K
  refine q_go1 200 0 [44] (fun cl ev hcl hev => ?_)
  repeat' (first | refine And.intro ?_ ?_ | (intro hq; first | exact absurd hq (by decide) | exact absurd rfl hq | exact absurd hq (show ¬ (1 : Int) = 0 by decide) | exact absurd (show (1 : Int) ≠ 0 by decide) hq | skip) | refine hcl _ _ _ _ (c_M_byteAt (by first | omega | exact hp.1) (by first | omega | exact hp.2.2) ?_ ?_) | refine hcl _ _ _ _ (c_M_in ?_ ?_))
  all_goals first
    | omega
    | (refine hev _ (l_M_number hh hK 400 _ _ _ _ ?_ ?_ (q_f2_up (q_f2_up q_f2_rf (Or.inr rfl)) (Or.inl rfl)) ?_ ?_)
       · show 2 * (σ 100 30 - q_w32 (σ 100 53 + 0)) + 1 - 1 < 400; omega
       · show 0 ≤ q_w32 (σ 100 53 + 0) ∧ q_w32 (σ 100 53 + 0) ≤ σ 100 30 ∧ σ 100 30 ≤ 160; omega
       · omega
       · exact Or.inr rfl)
    | (exfalso; simp only [q_un2 (show (53 : Int) ≠ 54 by decide), q_un2 (show (30 : Int) ≠ 54 by decide)] at *; omega)
    | (have e4 := e1 (by omega)
       have e5 : q_w32 (σ 122 (σ 100 53) - 48) = σ 122 (σ 100 53) - 48 := by rw [q_w32_id] <;> omega
       refine hev _ (l_M_number hh hK 400 _ _ _ _ ?_ ?_ (q_f2_up (q_f2_up q_f2_rf (Or.inr rfl)) (Or.inl rfl)) ?_ ?_)
       · show 2 * (σ 100 30 - q_w32 (σ 100 53 + 1)) + 1 - 0 < 400; omega
       · show 0 ≤ q_w32 (σ 100 53 + 1) ∧ q_w32 (σ 100 53 + 1) ≤ σ 100 30 ∧ σ 100 30 ≤ 160; omega
       · show 0 ≤ q_w32 (σ 122 (σ 100 53) - 48) ∧ q_w32 (σ 122 (σ 100 53) - 48) ≤ hi; omega
       · exact Or.inl rfl)

theorem l_M_word142 {σ0 : q_S} {K : q_R → q_S → Prop} (hb : ∀ j, 0 ≤ j → j < 5 → 0 ≤ σ0 142 j) (hK : ∀ σ', q_f2 σ0 σ' → (0 ≤ σ' 100 53 ∧ σ' 100 53 ≤ σ' 100 30 ∧ σ' 100 30 ≤ 160) → (σ' 100 54 = 0 ∨ σ' 100 54 = 1) → K none σ') :
    ∀ (m : Nat) (σ : q_S) (k : Int), 5 + 1 - k ≤ m → 0 ≤ k → k ≤ 5 → (0 ≤ σ 100 53 ∧ σ 100 53 ≤ σ 100 30 ∧ σ 100 30 ≤ 160) → q_f2 σ0 σ → (σ 100 54 = 0 ∨ σ 100 54 = 1) →
      q_E L xs k_M_word (2, [(2, 100), (2, 142), (0, k)], [], σ) K := by
  intro m
  induction m with
  | zero => intro σ k h1 h2 h2' h3 h4 h5; omega
  | succ m ih =>
    intro σ k hm hk hkn hp hf hw
    have hrd : σ 142 k = σ0 142 k := hf 142 k (by omega)
    have e1 : q_w32 (k + 1) = k + 1 := by rw [q_w32_id] <;> omega
    have hb := hb k
    have ht : ∀ σ', q_f2 σ σ' → σ' 100 30 = σ 100 30 := fun σ' h => h 100 30 (by omega)
    refine q_go1 60 2 [2] (fun cl ev hcl hev => ?_)
    refine And.intro (fun hc => ?_) (fun hc => ?_)
    · exact hK σ hf hp hw
    · refine And.intro ⟨hk, ?_⟩ ?_
      · omega
      · refine hcl _ _ _ _ (c_M_must hp (by omega) (fun σ' f1 _ w1 s1 _ => ?_) (fun σ' f1 _ w1 s1 => ?_))
        · have := ht σ' f1
          refine hev _ ?_
          rw [e1]
          exact ih σ' (k + 1) (by omega) (by omega) (by omega) (by omega) (q_f2_tr hf f1) (Or.inl w1)
        · have := ht σ' f1
          refine hev _ ?_
          rw [e1]
          exact ih σ' (k + 1) (by omega) (by omega) (by omega) (by omega) (q_f2_tr hf f1) (Or.inr w1)
theorem c_M_word142 {σ : q_S} {K : q_R → q_S → Prop} (hb : ∀ j, 0 ≤ j → j < 5 → 0 ≤ σ 142 j) (hp : 0 ≤ σ 100 53 ∧ σ 100 53 ≤ σ 100 30 ∧ σ 100 30 ≤ 160) (hw : σ 100 54 = 0 ∨ σ 100 54 = 1) (hK : ∀ σ', q_f2 σ σ' → (0 ≤ σ' 100 53 ∧ σ' 100 53 ≤ σ' 100 30 ∧ σ' 100 30 ≤ 160) → (σ' 100 54 = 0 ∨ σ' 100 54 = 1) → K none σ') : q_K L xs i_M_word [(2, 100), (2, 142)] σ K := by
  refine q_call k_M_word 3 rfl ?_
  show q_E L xs k_M_word (0, [(2, 100), (2, 142), (9, 0)], [], σ) K
  refine q_go1 60 0 [2] (fun cl ev hcl hev => ?_)
  exact hev _ (l_M_word142 hb hK 10 σ 0 (by omega) (by omega) (by omega) hp q_f2_rf hw)

theorem l_M_word143 {σ0 : q_S} {K : q_R → q_S → Prop} (hb : ∀ j, 0 ≤ j → j < 4 → 0 ≤ σ0 143 j) (hK : ∀ σ', q_f2 σ0 σ' → (0 ≤ σ' 100 53 ∧ σ' 100 53 ≤ σ' 100 30 ∧ σ' 100 30 ≤ 160) → (σ' 100 54 = 0 ∨ σ' 100 54 = 1) → K none σ') :
    ∀ (m : Nat) (σ : q_S) (k : Int), 4 + 1 - k ≤ m → 0 ≤ k → k ≤ 4 → (0 ≤ σ 100 53 ∧ σ 100 53 ≤ σ 100 30 ∧ σ 100 30 ≤ 160) → q_f2 σ0 σ → (σ 100 54 = 0 ∨ σ 100 54 = 1) →
      q_E L xs k_M_word (2, [(2, 100), (2, 143), (0, k)], [], σ) K := by
  intro m
  induction m with
  | zero => intro σ k h1 h2 h2' h3 h4 h5; omega
  | succ m ih =>
    intro σ k hm hk hkn hp hf hw
    have hrd : σ 143 k = σ0 143 k := hf 143 k (by omega)
    have e1 : q_w32 (k + 1) = k + 1 := by rw [q_w32_id] <;> omega
    have hb := hb k
    have ht : ∀ σ', q_f2 σ σ' → σ' 100 30 = σ 100 30 := fun σ' h => h 100 30 (by omega)
    refine q_go1 60 2 [2] (fun cl ev hcl hev => ?_)
    refine And.intro (fun hc => ?_) (fun hc => ?_)
    · exact hK σ hf hp hw
    · refine And.intro ⟨hk, ?_⟩ ?_
      · omega
      · refine hcl _ _ _ _ (c_M_must hp (by omega) (fun σ' f1 _ w1 s1 _ => ?_) (fun σ' f1 _ w1 s1 => ?_))
        · have := ht σ' f1
          refine hev _ ?_
          rw [e1]
          exact ih σ' (k + 1) (by omega) (by omega) (by omega) (by omega) (q_f2_tr hf f1) (Or.inl w1)
        · have := ht σ' f1
          refine hev _ ?_
          rw [e1]
          exact ih σ' (k + 1) (by omega) (by omega) (by omega) (by omega) (q_f2_tr hf f1) (Or.inr w1)
theorem c_M_word143 {σ : q_S} {K : q_R → q_S → Prop} (hb : ∀ j, 0 ≤ j → j < 4 → 0 ≤ σ 143 j) (hp : 0 ≤ σ 100 53 ∧ σ 100 53 ≤ σ 100 30 ∧ σ 100 30 ≤ 160) (hw : σ 100 54 = 0 ∨ σ 100 54 = 1) (hK : ∀ σ', q_f2 σ σ' → (0 ≤ σ' 100 53 ∧ σ' 100 53 ≤ σ' 100 30 ∧ σ' 100 30 ≤ 160) → (σ' 100 54 = 0 ∨ σ' 100 54 = 1) → K none σ') : q_K L xs i_M_word [(2, 100), (2, 143)] σ K := by
  refine q_call k_M_word 3 rfl ?_
  show q_E L xs k_M_word (0, [(2, 100), (2, 143), (9, 0)], [], σ) K
  refine q_go1 60 0 [2] (fun cl ev hcl hev => ?_)
  exact hev _ (l_M_word143 hb hK 10 σ 0 (by omega) (by omega) (by omega) hp q_f2_rf hw)

theorem l_M_word144 {σ0 : q_S} {K : q_R → q_S → Prop} (hb : ∀ j, 0 ≤ j → j < 5 → 0 ≤ σ0 144 j) (hK : ∀ σ', q_f2 σ0 σ' → (0 ≤ σ' 100 53 ∧ σ' 100 53 ≤ σ' 100 30 ∧ σ' 100 30 ≤ 160) → (σ' 100 54 = 0 ∨ σ' 100 54 = 1) → K none σ') :
    ∀ (m : Nat) (σ : q_S) (k : Int), 5 + 1 - k ≤ m → 0 ≤ k → k ≤ 5 → (0 ≤ σ 100 53 ∧ σ 100 53 ≤ σ 100 30 ∧ σ 100 30 ≤ 160) → q_f2 σ0 σ → (σ 100 54 = 0 ∨ σ 100 54 = 1) →
      q_E L xs k_M_word (2, [(2, 100), (2, 144), (0, k)], [], σ) K := by
  intro m
  induction m with
  | zero => intro σ k h1 h2 h2' h3 h4 h5; omega
  | succ m ih =>
    intro σ k hm hk hkn hp hf hw
    have hrd : σ 144 k = σ0 144 k := hf 144 k (by omega)
    have e1 : q_w32 (k + 1) = k + 1 := by rw [q_w32_id] <;> omega
    have hb := hb k
    have ht : ∀ σ', q_f2 σ σ' → σ' 100 30 = σ 100 30 := fun σ' h => h 100 30 (by omega)
    refine q_go1 60 2 [2] (fun cl ev hcl hev => ?_)
    refine And.intro (fun hc => ?_) (fun hc => ?_)
    · exact hK σ hf hp hw
    · refine And.intro ⟨hk, ?_⟩ ?_
      · omega
      · refine hcl _ _ _ _ (c_M_must hp (by omega) (fun σ' f1 _ w1 s1 _ => ?_) (fun σ' f1 _ w1 s1 => ?_))
        · have := ht σ' f1
          refine hev _ ?_
          rw [e1]
          exact ih σ' (k + 1) (by omega) (by omega) (by omega) (by omega) (q_f2_tr hf f1) (Or.inl w1)
        · have := ht σ' f1
          refine hev _ ?_
          rw [e1]
          exact ih σ' (k + 1) (by omega) (by omega) (by omega) (by omega) (q_f2_tr hf f1) (Or.inr w1)
theorem c_M_word144 {σ : q_S} {K : q_R → q_S → Prop} (hb : ∀ j, 0 ≤ j → j < 5 → 0 ≤ σ 144 j) (hp : 0 ≤ σ 100 53 ∧ σ 100 53 ≤ σ 100 30 ∧ σ 100 30 ≤ 160) (hw : σ 100 54 = 0 ∨ σ 100 54 = 1) (hK : ∀ σ', q_f2 σ σ' → (0 ≤ σ' 100 53 ∧ σ' 100 53 ≤ σ' 100 30 ∧ σ' 100 30 ≤ 160) → (σ' 100 54 = 0 ∨ σ' 100 54 = 1) → K none σ') : q_K L xs i_M_word [(2, 100), (2, 144)] σ K := by
  refine q_call k_M_word 3 rfl ?_
  show q_E L xs k_M_word (0, [(2, 100), (2, 144), (9, 0)], [], σ) K
  refine q_go1 60 0 [2] (fun cl ev hcl hev => ?_)
  exact hev _ (l_M_word144 hb hK 10 σ 0 (by omega) (by omega) (by omega) hp q_f2_rf hw)

end P22
