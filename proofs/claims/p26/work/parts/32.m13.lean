/-- what a tide may change -/
def q_okT (k i : Int) : Prop := (102 ≤ k ∧ k ≤ 104) ∨ k = 114 ∨ k = 116 ∨ k = 117 ∨ k = 120 ∨ k = 121 ∨ k = 141 ∨ (k = 100 ∧ (i = 25 ∨ i = 26 ∨ i = 27 ∨ i = 28 ∨ i = 51))
/-- a tide at work on the model: what it may not change, what stays sound -/
def q_TT (σ0 σ : q_S) : Prop := (∀ k i, ¬ q_okT k i → σ k i = σ0 k i) ∧ (∀ i, 0 ≤ i → i < 24 → 0 ≤ σ 114 i ∧ σ 114 i ≤ 99) ∧ (∀ i, 0 ≤ i → i < 6 → 0 ≤ σ 120 i ∧ σ 120 i < 30)
/-- what of the model a tide needs -/
def q_TB (σ0 : q_S) : Prop := (0 ≤ σ0 100 13 ∧ σ0 100 13 ≤ 24) ∧ (0 ≤ σ0 100 22 ∧ σ0 100 22 ≤ 6) ∧ (∀ i, 0 ≤ i → i < 24 → 0 ≤ σ0 112 i ∧ σ0 112 i < 30)
theorem q_TT_up {σ0 σ : q_S} {k i v : Int} (h : q_TT σ0 σ) (hk : q_okT k i) (h114 : k = 114 → 0 ≤ v ∧ v ≤ 99) (h120 : k = 120 → 0 ≤ v ∧ v < 30) : q_TT σ0 (q_up σ k i v) := by
  obtain ⟨h1, h2, h3⟩ := h
  refine ⟨fun k' i' a => ?_, fun j a b => ?_, fun j a b => ?_⟩
  · unfold q_up
    split
    · split
      · rename_i e1 e2; subst e1; subst e2; exact absurd hk a
      · exact h1 k' i' a
    · exact h1 k' i' a
  · unfold q_up
    split
    · split
      · exact h114 (by omega)
      · exact h2 j a b
    · exact h2 j a b
  · unfold q_up
    split
    · split
      · exact h120 (by omega)
      · exact h3 j a b
    · exact h3 j a b
theorem q_TTs {σ0 σ : q_S} {k i v : Int} (h : q_TT σ0 σ) (hk : (102 ≤ k ∧ k ≤ 104) ∨ k = 116 ∨ k = 117 ∨ k = 121 ∨ k = 141 ∨ (k = 100 ∧ (i = 25 ∨ i = 26 ∨ i = 27 ∨ i = 28 ∨ i = 51))) : q_TT σ0 (q_up σ k i v) := q_TT_up h (by unfold q_okT; omega) (by omega) (by omega)
theorem q_TTe {σ0 σ : q_S} (h : q_TT σ0 σ) {k i : Int} (hk : ¬ q_okT k i) : σ k i = σ0 k i := h.1 k i hk
section P32
variable {L : Nat} {xs : Int → Int}
theorem q_TTcomes {σ0 σ : q_S} {c n : Int} {K : q_R → q_S → Prop} (hc : 0 ≤ c ∧ c < 30) (h : q_TT σ0 σ) (hK : ∀ σ', q_TT σ0 σ' → K none σ') : q_K L xs i_M_comes [(2, 100), (0, c), (0, n)] σ K := c_M_comes hc (hK _ (q_TTs (q_TTs h (by omega)) (by omega)))
theorem c_M_wears {r sea wind : Int} {σ : q_S} {K : q_R → q_S → Prop} (hr : 0 ≤ r ∧ r < 24) (hw : 0 ≤ wind ∧ wind ≤ 3) (hh : 0 ≤ σ 114 r ∧ σ 114 r ≤ 99) (hK : ∀ x, 0 ≤ x → x ≤ σ 114 r → K (some (0, x)) σ) : q_K L xs i_M_wears [(2, 100), (0, r), (0, sea), (0, wind)] σ K := by
  have e1 : q_w32 (1 + wind) = 1 + wind := by rw [q_w32_id] <;> omega
  have ed : q_w32 ((1 + wind).tdiv 2) = (1 + wind) / 2 := by rw [q_td (by omega), q_w32_id] <;> omega
  have e2 : ∀ a b, 0 ≤ a → a ≤ 10 → 0 ≤ b → b ≤ 10 → q_w32 (a + b) = a + b := fun a b _ _ _ _ => by rw [q_w32_id] <;> omega
  refine q_call k_M_wears 5 rfl ?_
  show q_E L xs k_M_wears (0, [(2, 100), (0, r), (0, sea), (0, wind), (9, 0)], [], σ) K
  refine q_go1 200 0 [] (fun cl ev hcl hev => ?_)
  repeat' (first | refine And.intro ?_ ?_ | (intro hq; first | exact absurd hq (by decide) | exact absurd rfl hq | exact absurd hq (show ¬ (1 : Int) = 0 by decide) | exact absurd (show (1 : Int) ≠ 0 by decide) hq | skip))
  all_goals first | omega | exact hK _ (by omega) (by omega) | (refine hK _ ?_ ?_ <;> (first | rw [e1] | skip) <;> (first | rw [ed] | skip) <;> unfold q_w32 <;> omega) | (rw [e1] at *; refine hK _ ?_ ?_ <;> (first | rw [ed] at * | skip) <;> unfold q_w32 at * <;> omega)

end P32
