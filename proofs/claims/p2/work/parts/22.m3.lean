/-- the byte that is read next -/
def q_by1 (σ : q_S) : Int := if σ 100 53 < σ 100 30 then σ 122 (σ 100 53) else -1
/-- only the reader's place and mark may differ -/
def q_f2 (σ σ' : q_S) : Prop := ∀ k i, ¬ (k = 100 ∧ (i = 53 ∨ i = 54)) → σ' k i = σ k i
theorem q_f2_rf {σ : q_S} : q_f2 σ σ := fun _ _ _ => rfl
theorem q_f2_tr {σ σ' σ'' : q_S} (h : q_f2 σ σ') (h' : q_f2 σ' σ'') : q_f2 σ σ'' := fun k i hk => (h' k i hk).trans (h k i hk)
theorem q_f2_up {σ σ' : q_S} {i v : Int} (h : q_f2 σ σ') (hi : i = 53 ∨ i = 54) : q_f2 σ (q_up σ' 100 i v) := by
  intro k j hk
  unfold q_up
  split
  · split
    · exact absurd ⟨by assumption, by omega⟩ hk
    · exact h k j hk
  · exact h k j hk
section P22
variable {L : Nat} {xs : Int → Int}
theorem c_M_must {b : Int} {σ : q_S} {K : q_R → q_S → Prop} (hp : 0 ≤ σ 100 53 ∧ σ 100 53 ≤ σ 100 30 ∧ σ 100 30 ≤ 160) (hb : 0 ≤ b)
    (h1 : ∀ σ', q_f2 σ σ' → (σ 100 54 = 0 ∧ q_by1 σ = b) → σ' 100 54 = 0 → σ' 100 53 = σ 100 53 + 1 → σ 100 53 < σ 100 30 → K none σ') (h0 : ∀ σ', q_f2 σ σ' → ¬ (σ 100 54 = 0 ∧ q_by1 σ = b) → σ' 100 54 = 1 → σ' 100 53 = σ 100 53 → K none σ') : q_K L xs i_M_must [(2, 100), (0, b)] σ K := by
  have e0 : q_w32 (σ 100 53 + 0) = σ 100 53 := by rw [q_w32_id] <;> omega
  have e1 : q_w32 (σ 100 53 + 1) = σ 100 53 + 1 := by rw [q_w32_id] <;> omega
  unfold q_by1 at h1 h0
  refine q_call k_M_must 2 rfl ?_
  show q_E L xs k_M_must (0, [(2, 100), (0, b)], [], σ) K
  refine q_go1 200 0 [] (fun cl ev hcl hev => ?_)
  repeat' (first | refine And.intro ?_ ?_ | (intro hq; first | exact absurd hq (by decide) | exact absurd rfl hq | exact absurd hq (show ¬ (1 : Int) = 0 by decide) | exact absurd (show (1 : Int) ≠ 0 by decide) hq | skip) | refine hcl _ _ _ _ (c_M_byteAt (by omega) (by omega) ?_ ?_))
  all_goals first | omega | (refine h0 _ (q_f2_up (q_f2_up q_f2_rf (Or.inr rfl)) (Or.inl rfl)) ?_ rfl ?_; (repeat' split); all_goals first | omega | (simp only [q_un (show (53 : Int) ≠ 53 by decide)]; omega) | exact e0) | (refine h1 _ (q_f2_up (q_f2_up q_f2_rf (Or.inr rfl)) (Or.inl rfl)) ?_ rfl ?_ ?_; (repeat' split); all_goals first | omega | exact e1)

theorem c_M_isDigit {σ : q_S} {K : q_R → q_S → Prop} (hp : 0 ≤ σ 100 53 ∧ σ 100 53 ≤ σ 100 30 ∧ σ 100 30 ≤ 160) (h1 : (48 ≤ q_by1 σ ∧ q_by1 σ ≤ 57) → K (some (0, 1)) σ) (h0 : ¬ (48 ≤ q_by1 σ ∧ q_by1 σ ≤ 57) → K (some (0, 0)) σ) : q_K L xs i_M_isDigit [(2, 100)] σ K := by
  unfold q_by1 at h1 h0
  refine q_call k_M_isDigit 1 rfl ?_
  show q_E L xs k_M_isDigit (0, [(2, 100)], [], σ) K
  refine q_go1 200 0 [] (fun cl ev hcl hev => ?_)
  repeat' (first | refine And.intro ?_ ?_ | (intro hq; first | exact absurd hq (by decide) | exact absurd rfl hq | exact absurd hq (show ¬ (1 : Int) = 0 by decide) | exact absurd (show (1 : Int) ≠ 0 by decide) hq | skip) | refine hcl _ _ _ _ (c_M_byteAt (by omega) (by omega) ?_ ?_) | refine hcl _ _ _ _ (c_M_in ?_ ?_))
  all_goals first | omega | (refine h1 ?_; split <;> omega) | (refine h0 ?_; split <;> omega)

theorem l_M_number {lo hi : Int} {σ0 : q_S} {K : q_R → q_S → Prop} (hh : 0 ≤ hi ∧ hi ≤ 999) (hK : ∀ σ' r, q_f2 σ0 σ' → (0 ≤ σ' 100 53 ∧ σ' 100 53 ≤ σ' 100 30 ∧ σ' 100 30 ≤ 160) → (0 ≤ r ∧ r ≤ hi) → (σ' 100 54 = 0 ∨ σ' 100 54 = 1) → K (some (0, r)) σ') :
    ∀ (m : Nat) (σ : q_S) (n : Int) (u4 : Nat) (x4 : Int), 2 * (σ 100 30 - σ 100 53) + 1 - σ 100 54 < m → (0 ≤ σ 100 53 ∧ σ 100 53 ≤ σ 100 30 ∧ σ 100 30 ≤ 160) → q_f2 σ0 σ → (0 ≤ n ∧ n ≤ hi) → (σ 100 54 = 0 ∨ σ 100 54 = 1) →
      q_E L xs k_M_number (44, [(2, 100), (0, lo), (0, hi), (0, n), (u4, x4)], [], σ) K := by
  intro m
  induction m with
  | zero => intro σ n u4 x4 h1 h2 h3 h4 h5; omega
  | succ m ih =>
    intro σ n u4 x4 hm hp hf hn hw
    have e0 : q_w32 (σ 100 53 + 0) = σ 100 53 := by rw [q_w32_id] <;> omega
    have e1 : σ 100 53 < σ 100 30 → q_w32 (σ 100 53 + 1) = σ 100 53 + 1 := fun _ => by rw [q_w32_id] <;> omega
    have e2 : ∀ v, 48 ≤ v → v ≤ 57 → q_w32 (q_w32 (q_w32 (10 * n) + v) - 48) = 10 * n + v - 48 := fun v _ _ => by unfold q_w32; omega
    have hby : q_by1 σ = if σ 100 53 < σ 100 30 then σ 122 (σ 100 53) else -1 := rfl
    refine q_go1 200 44 [44] (fun cl ev hcl hev => ?_)
    repeat' (first | refine And.intro ?_ ?_ | (intro hq; first | exact absurd hq (by decide) | exact absurd rfl hq | exact absurd hq (show ¬ (1 : Int) = 0 by decide) | exact absurd (show (1 : Int) ≠ 0 by decide) hq | skip) | refine hcl _ _ _ _ (c_M_isDigit hp ?_ ?_) | refine hcl _ _ _ _ (c_M_byteAt (by omega) (by omega) ?_ ?_))
    all_goals first
      | omega
      | exact hK _ _ hf hp hn hw
      | (exfalso; rw [if_neg (by assumption)] at hby; omega)
      | (rw [if_pos (by assumption)] at hby
         have e3 := e2 (σ 122 (σ 100 53)) (by omega) (by omega)
         have e4 := e1 (by assumption)
         first
         | (refine hev _ (ih _ _ _ _ ?_ ?_ (q_f2_up (q_f2_up hf (Or.inr rfl)) (Or.inl rfl)) ?_ ?_)
            · show 2 * (σ 100 30 - q_w32 (σ 100 53 + 0)) + 1 - 1 < (m : Int); omega
            · show 0 ≤ q_w32 (σ 100 53 + 0) ∧ q_w32 (σ 100 53 + 0) ≤ σ 100 30 ∧ σ 100 30 ≤ 160; omega
            · exact hn
            · exact Or.inr rfl)
         | (refine hev _ (ih _ _ _ _ ?_ ?_ (q_f2_up (q_f2_up hf (Or.inr rfl)) (Or.inl rfl)) ?_ ?_)
            · show 2 * (σ 100 30 - q_w32 (σ 100 53 + 1)) + 1 - 0 < (m : Int); omega
            · show 0 ≤ q_w32 (σ 100 53 + 1) ∧ q_w32 (σ 100 53 + 1) ≤ σ 100 30 ∧ σ 100 30 ≤ 160; omega
            · omega
            · exact Or.inl rfl))

end P22
