/-- the reader at work: its place, what it has written so far; n rules of the court that is being read -/
def q_PS (σ0 σ : q_S) (n : Int) : Prop := (∀ k i, ¬ (k = 100 ∧ (i = 53 ∨ i = 54)) → ¬ (124 ≤ k ∧ k ≤ 132) → σ k i = σ0 k i) ∧ (0 ≤ σ 100 53 ∧ σ 100 53 ≤ σ 100 30 ∧ σ 100 30 ≤ 160) ∧ (σ 100 54 = 0 ∨ σ 100 54 = 1) ∧
  (∀ c, 0 ≤ c → c < 12 → 0 ≤ σ 124 c ∧ σ 124 c ≤ 99) ∧ (∀ j, (0 ≤ σ 129 j ∧ σ 129 j ≤ 23) ∧ (0 ≤ σ 130 j ∧ σ 130 j ≤ 23)) ∧ (∀ c, c ≠ σ0 100 31 → σ 128 c = σ0 128 c) ∧ σ 128 (σ0 100 31) = n
/-- what holds of the model when the reader begins -/
def q_PB (σ0 : q_S) : Prop := (0 ≤ σ0 100 31 ∧ σ0 100 31 < 12) ∧ (∀ j, 0 ≤ j → j < 5 → 0 ≤ σ0 142 j) ∧ (∀ j, 0 ≤ j → j < 4 → 0 ≤ σ0 143 j) ∧ (∀ j, 0 ≤ j → j < 5 → 0 ≤ σ0 144 j)
theorem q_PS_f2 {σ0 σ σ' : q_S} {n : Int} (h : q_PS σ0 σ n) (f : q_f2 σ σ') (hp : 0 ≤ σ' 100 53 ∧ σ' 100 53 ≤ σ' 100 30 ∧ σ' 100 30 ≤ 160) (hw : σ' 100 54 = 0 ∨ σ' 100 54 = 1) : q_PS σ0 σ' n := by
  obtain ⟨h1, h2, h3, h4, h5, h6, h7⟩ := h
  have e : ∀ k i, k ≠ 100 → σ' k i = σ k i := fun k i hk => f k i (fun z => hk z.1)
  refine ⟨fun k i a b => (f k i a).trans (h1 k i a b), hp, hw, fun c a b => ?_, fun j => ?_, fun c a => ?_, ?_⟩
  · rw [e _ _ (by decide)]; exact h4 c a b
  · rw [e _ _ (by decide), e _ _ (by decide)]; exact h5 j
  · rw [e _ _ (by decide)]; exact h6 c a
  · rw [e _ _ (by decide)]; exact h7
/-- a write into the clauses' rows -/
theorem q_PS_up {σ0 σ : q_S} {n k i v : Int} (h : q_PS σ0 σ n) (hk : 124 ≤ k ∧ k ≤ 132) (h128 : k ≠ 128) (h124 : k = 124 → 0 ≤ v ∧ v ≤ 99) (h129 : (k = 129 ∨ k = 130) → 0 ≤ v ∧ v ≤ 23) : q_PS σ0 (q_up σ k i v) n := by
  obtain ⟨h1, h2, h3, h4, h5, h6, h7⟩ := h
  have e : ∀ k' i', k' ≠ k → q_up σ k i v k' i' = σ k' i' := fun k' i' hk' => q_un hk'
  refine ⟨fun k' i' a b => ?_, ?_, ?_, fun c a b => ?_, fun j => ⟨?_, ?_⟩, fun c a => ?_, ?_⟩
  · rw [e _ _ (by omega)]; exact h1 k' i' a b
  · rw [e _ _ (by omega), e _ _ (by omega)]; exact h2
  · rw [e _ _ (by omega)]; exact h3
  · unfold q_up; split
    · split
      · exact h124 (by omega)
      · exact h4 c a b
    · exact h4 c a b
  · unfold q_up; split
    · split
      · exact h129 (by omega)
      · exact (h5 j).1
    · exact (h5 j).1
  · unfold q_up; split
    · split
      · exact h129 (by omega)
      · exact (h5 j).2
    · exact (h5 j).2
  · rw [e _ _ (by omega)]; exact h6 c a
  · rw [e _ _ (by omega)]; exact h7
theorem q_PS_n {σ0 σ : q_S} {n v : Int} (h : q_PS σ0 σ n) : q_PS σ0 (q_up σ 128 (σ0 100 31) v) v := by
  obtain ⟨h1, h2, h3, h4, h5, h6, h7⟩ := h
  have e : ∀ k' i', k' ≠ 128 → q_up σ 128 (σ0 100 31) v k' i' = σ k' i' := fun k' i' hk' => q_un hk'
  refine ⟨fun k' i' a b => ?_, ?_, ?_, fun c a b => ?_, fun j => ?_, fun c a => ?_, q_ue⟩
  · rw [e _ _ (by omega)]; exact h1 k' i' a b
  · rw [e _ _ (by omega), e _ _ (by omega)]; exact h2
  · rw [e _ _ (by omega)]; exact h3
  · rw [e _ _ (by omega)]; exact h4 c a b
  · rw [e _ _ (by omega), e _ _ (by omega)]; exact h5 j
  · rw [q_un2 a]; exact h6 c a
section P23
variable {L : Nat} {xs : Int → Int}
theorem q_PSmust {σ0 σ : q_S} {n b : Int} {K : q_R → q_S → Prop} (hb : 0 ≤ b) (h : q_PS σ0 σ n) (hK : ∀ σ', q_PS σ0 σ' n → K none σ') : q_K L xs i_M_must [(2, 100), (0, b)] σ K := by
  have ht : ∀ σ', q_f2 σ σ' → σ' 100 30 = σ 100 30 := fun σ' f => f 100 30 (by omega)
  obtain ⟨h1, h2, h3, h4, h5, h6, h7⟩ := id h
  exact c_M_must h2 hb (fun σ' f _ w s _ => hK σ' (q_PS_f2 h f (by have := ht σ' f; omega) (Or.inl w))) (fun σ' f _ w s => hK σ' (q_PS_f2 h f (by have := ht σ' f; omega) (Or.inr w)))
theorem q_PSnum {σ0 σ : q_S} {n lo hi : Int} {K : q_R → q_S → Prop} (hh : 0 ≤ hi ∧ hi ≤ 999) (hl : 0 ≤ lo ∧ lo ≤ 9) (h : q_PS σ0 σ n) (hK : ∀ σ' r, q_PS σ0 σ' n → (0 ≤ r ∧ r ≤ hi) → K (some (0, r)) σ') : q_K L xs i_M_number [(2, 100), (0, lo), (0, hi)] σ K := by
  obtain ⟨h1, h2, h3, h4, h5, h6, h7⟩ := id h
  exact c_M_number hh hl h2 h3 (fun σ' r f p hr w => hK σ' r (q_PS_f2 h f p w) hr)

theorem q_PSword142 {σ0 σ : q_S} {n : Int} {K : q_R → q_S → Prop} (hB : q_PB σ0) (h : q_PS σ0 σ n) (hK : ∀ σ', q_PS σ0 σ' n → K none σ') : q_K L xs i_M_word [(2, 100), (2, 142)] σ K := by
  obtain ⟨h1, h2, h3, h4, h5, h6, h7⟩ := id h
  refine c_M_word142 (fun j a b => ?_) h2 h3 (fun σ' f p w => hK σ' (q_PS_f2 h f p w))
  rw [h1 142 j (by omega) (by omega)]
  exact hB.2.1 j a b

theorem q_PSword143 {σ0 σ : q_S} {n : Int} {K : q_R → q_S → Prop} (hB : q_PB σ0) (h : q_PS σ0 σ n) (hK : ∀ σ', q_PS σ0 σ' n → K none σ') : q_K L xs i_M_word [(2, 100), (2, 143)] σ K := by
  obtain ⟨h1, h2, h3, h4, h5, h6, h7⟩ := id h
  refine c_M_word143 (fun j a b => ?_) h2 h3 (fun σ' f p w => hK σ' (q_PS_f2 h f p w))
  rw [h1 143 j (by omega) (by omega)]
  exact hB.2.2.1 j a b

theorem q_PSword144 {σ0 σ : q_S} {n : Int} {K : q_R → q_S → Prop} (hB : q_PB σ0) (h : q_PS σ0 σ n) (hK : ∀ σ', q_PS σ0 σ' n → K none σ') : q_K L xs i_M_word [(2, 100), (2, 144)] σ K := by
  obtain ⟨h1, h2, h3, h4, h5, h6, h7⟩ := id h
  refine c_M_word144 (fun j a b => ?_) h2 h3 (fun σ' f p w => hK σ' (q_PS_f2 h f p w))
  rw [h1 144 j (by omega) (by omega)]
  exact hB.2.2.2 j a b

theorem c_M_readsRods {σ0 σ : q_S} {n : Int} {K : q_R → q_S → Prop} (hB : q_PB σ0) (h : q_PS σ0 σ n) (hn : 0 ≤ n ∧ n < 10) (hK : ∀ σ', q_PS σ0 σ' (n + 1) → K none σ') : q_K L xs i_M_readsRods [(2, 100)] σ K := by
  have hct : ∀ σ m, q_PS σ0 σ m → σ 100 31 = σ0 100 31 := fun σ m h => h.1 100 31 (by omega) (by omega)
  have hcs := hct σ n h
  have hnn := h.2.2.2.2.2.2
  have hB1 := hB.1
  have ea : q_w32 (q_w32 (10 * σ 100 31) + σ 128 (σ 100 31)) = 10 * σ0 100 31 + n := by rw [hcs, hnn]; unfold q_w32; omega
  have hpk : ∀ σ m, q_PS σ0 σ m → 0 ≤ σ 100 53 := fun σ m h => h.2.1.1
  have hpt : ∀ σ m, q_PS σ0 σ m → σ 100 30 ≤ 160 := fun σ m h => h.2.1.2.2
  -- the end: one rule more
  have fin : ∀ σ', q_PS σ0 σ' n → K none (q_up σ' 128 (σ' 100 31) (q_w32 (σ' 128 (σ' 100 31) + 1))) := by
    intro σ' h'
    have e1 := hct σ' n h'
    have e2 := h'.2.2.2.2.2.2
    rw [e1, e2, q_w32_id (by omega) (by omega)]
    exact hK _ (q_PS_n h')
  refine q_call k_M_readsRods 2 rfl ?_
  show q_E L xs k_M_readsRods (0, [(2, 100), (9, 0)], [], σ) K
  refine q_go1 200 0 [] (fun cl ev hcl hev => ?_)
  refine And.intro (by omega) ?_
  refine hcl _ _ _ _ (q_PSnum (by omega) (by omega) h (fun σ1 r1 h1 hr1 => ?_))
  refine And.intro (by omega) ?_
  refine hcl _ _ _ _ (q_PSmust (by omega) (q_PS_up h1 (by omega) (by omega) (by omega) (fun _ => hr1)) (fun σ2 h2 => ?_))
  refine hcl _ _ _ _ (q_PSnum (by omega) (by omega) h2 (fun σ3 r3 h3 hr3 => ?_))
  refine And.intro (by omega) ?_
  refine hcl _ _ _ _ (q_PSmust (by omega) (q_PS_up h3 (by omega) (by omega) (by omega) (fun _ => hr3)) (fun σ4 h4 => ?_))
  refine And.intro (by omega) ?_
  have h5 : q_PS σ0 (q_up σ4 132 (q_w32 (q_w32 (10 * σ 100 31) + σ 128 (σ 100 31))) 0) n := q_PS_up h4 (by omega) (by omega) (by omega) (by omega)
  have tl : ∀ σ', q_PS σ0 σ' n → (0 ≤ σ' 100 31 ∧ σ' 100 31 < ((12 : Nat) : Int)) := fun σ' h' => by have := hct σ' n h'; omega
  -- the rest, whatever the byte is
  have up0 : ∀ {σ' : q_S} {k i v : Int}, q_PS σ0 σ' n → (k = 131 ∨ k = 132) → q_PS σ0 (q_up σ' k i v) n := fun h' hk => q_PS_up h' (by omega) (by omega) (by omega) (by omega)
  have ga : (0 ≤ q_w32 (q_w32 (10 * σ 100 31) + σ 128 (σ 100 31)) ∧ q_w32 (q_w32 (10 * σ 100 31) + σ 128 (σ 100 31)) < ((120 : Nat) : Int)) := by omega
  refine hcl _ _ _ _ (c_M_byteAt (hpk _ _ h5) (hpt _ _ h5) (fun _ => ?_) (fun _ => ?_))
  all_goals refine And.intro (fun hv => ?_) (fun hv => ?_)
  any_goals (refine And.intro ga ?_
             refine hcl _ _ _ _ (q_PSword143 hB (up0 h5 (Or.inl rfl)) (fun σ6 h6 => ?_))
             refine hcl _ _ _ _ (q_PSnum (by omega) (by omega) h6 (fun σ7 r7 h7 hr7 => ?_))
             refine And.intro ga ?_
             exact And.intro (tl _ (up0 h7 (Or.inr rfl))) (And.intro (tl _ (up0 h7 (Or.inr rfl))) (fin _ (up0 h7 (Or.inr rfl)))))
  all_goals refine hcl _ _ _ _ (c_M_byteAt (hpk _ _ h5) (hpt _ _ h5) (fun _ => ?_) (fun _ => ?_))
  all_goals refine And.intro (fun hv => ?_) (fun hv => ?_)
  any_goals (refine And.intro ga ?_
             refine hcl _ _ _ _ (q_PSword144 hB (up0 h5 (Or.inl rfl)) (fun σ6 h6 => ?_))
             exact And.intro (tl _ h6) (And.intro (tl _ h6) (fin _ h6)))
  all_goals (refine And.intro ga ?_
             refine hcl _ _ _ _ (q_PSword142 hB (up0 h5 (Or.inl rfl)) (fun σ6 h6 => ?_))
             exact And.intro (tl _ h6) (And.intro (tl _ h6) (fin _ h6)))

/-- the reader's rows of the court that is read, one behind the other -/
theorem l_M_rC4 {σ0 : q_S} {n c x : Int} {K : q_R → q_S → Prop} (hB : q_PB σ0) (hK : ∀ σ', q_PS σ0 σ' n → K none σ') (σ : q_S) (h : q_PS σ0 σ n) : q_E L xs k_M_readsClause (110, [(2, 100), (0, c), (0, x)], [], σ) K := by
  have hB1 := hB.1
  have hct : σ 100 31 = σ0 100 31 := h.1 100 31 (by omega) (by omega)
  refine q_go1 40 110 [34, 65, 80, 95, 110] (fun cl ev hcl hev => ?_)
  refine And.intro (fun _ => ?_) (fun _ => ?_)
  · exact And.intro (by omega) (And.intro (by omega) (hK _ (q_PS_up h (by omega) (by omega) (by omega) (by omega))))
  · exact And.intro (by omega) (hK _ (q_PS_up h (by omega) (by omega) (by omega) (by omega)))
theorem l_M_rC3 {σ0 : q_S} {n c x : Int} {K : q_R → q_S → Prop} (hB : q_PB σ0) (hK : ∀ σ', q_PS σ0 σ' n → K none σ') (σ : q_S) (h : q_PS σ0 σ n) : q_E L xs k_M_readsClause (95, [(2, 100), (0, c), (0, x)], [], σ) K := by
  have hB1 := hB.1
  have hct : σ 100 31 = σ0 100 31 := h.1 100 31 (by omega) (by omega)
  refine q_go1 40 95 [34, 65, 80, 95, 110] (fun cl ev hcl hev => ?_)
  refine And.intro (fun _ => ?_) (fun _ => ?_)
  · exact And.intro (by omega) (And.intro (by omega) (hev _ (l_M_rC4 hB hK _ (q_PS_up h (by omega) (by omega) (by omega) (by omega)))))
  · exact And.intro (by omega) (hev _ (l_M_rC4 hB hK _ (q_PS_up h (by omega) (by omega) (by omega) (by omega))))
theorem l_M_rC2 {σ0 : q_S} {n c x : Int} {K : q_R → q_S → Prop} (hB : q_PB σ0) (hK : ∀ σ', q_PS σ0 σ' n → K none σ') (σ : q_S) (h : q_PS σ0 σ n) : q_E L xs k_M_readsClause (80, [(2, 100), (0, c), (0, x)], [], σ) K := by
  have hB1 := hB.1
  have hct : σ 100 31 = σ0 100 31 := h.1 100 31 (by omega) (by omega)
  refine q_go1 40 80 [34, 65, 80, 95, 110] (fun cl ev hcl hev => ?_)
  refine And.intro (fun _ => ?_) (fun _ => ?_)
  · exact And.intro (by omega) (And.intro (by omega) (hev _ (l_M_rC3 hB hK _ (q_PS_up h (by omega) (by omega) (by omega) (by omega)))))
  · exact And.intro (by omega) (hev _ (l_M_rC3 hB hK _ (q_PS_up h (by omega) (by omega) (by omega) (by omega))))
theorem l_M_rC1 {σ0 : q_S} {n c x : Int} {K : q_R → q_S → Prop} (hB : q_PB σ0) (hx : c = 104 → 0 ≤ x ∧ x ≤ 99) (hK : ∀ σ', q_PS σ0 σ' n → K none σ') (σ : q_S) (h : q_PS σ0 σ n) : q_E L xs k_M_readsClause (65, [(2, 100), (0, c), (0, x)], [], σ) K := by
  have hB1 := hB.1
  have hct : σ 100 31 = σ0 100 31 := h.1 100 31 (by omega) (by omega)
  have h124 := h.2.2.2.1 (σ 100 31) (by omega) (by omega)
  refine q_go1 40 65 [34, 65, 80, 95, 110] (fun cl ev hcl hev => ?_)
  refine And.intro (fun _ => ?_) (fun _ => ?_)
  · exact And.intro (by omega) (And.intro (by omega) (hev _ (l_M_rC2 hB hK _ (q_PS_up h (by omega) (by omega) (fun _ => h124) (by omega)))))
  · exact And.intro (by omega) (hev _ (l_M_rC2 hB hK _ (q_PS_up h (by omega) (by omega) (fun _ => hx (by omega)) (by omega))))
theorem l_M_rC0 {σ0 : q_S} {n c : Int} {K : q_R → q_S → Prop} (hB : q_PB σ0) (hn : 0 ≤ n ∧ n < 10) (hK : ∀ σ' n', q_PS σ0 σ' n' → (n' = n ∨ n' = n + 1) → K none σ') (σ : q_S) (h : q_PS σ0 σ n) : q_E L xs k_M_readsClause (34, [(2, 100), (0, c), (9, 0)], [], σ) K := by
  refine q_go1 60 34 [34, 65, 80, 95, 110] (fun cl ev hcl hev => ?_)
  refine hcl _ _ _ _ (q_PSmust (by omega) h (fun σ1 h1 => ?_))
  refine And.intro (fun _ => ?_) (fun _ => ?_)
  · refine And.intro (fun _ => ?_) (fun _ => ?_)
    · refine And.intro (fun c1 => ?_) (fun c1 => ?_)
      · refine And.intro (fun c2 => ?_) (fun c2 => ?_)
        · refine hcl _ _ _ _ (q_PSnum (by omega) (by omega) h1 (fun σ2 r2 h2 hr2 => ?_))
          exact hev _ (l_M_rC1 hB (fun _ => hr2) (fun σ' h' => hK σ' n h' (Or.inl rfl)) σ2 h2)
        · refine And.intro (fun c3 => ?_) (fun c3 => ?_)
          · refine hcl _ _ _ _ (q_PSnum (by omega) (by omega) h1 (fun σ2 r2 h2 hr2 => ?_))
            exact hev _ (l_M_rC1 hB (fun e => absurd e c2) (fun σ' h' => hK σ' n h' (Or.inl rfl)) σ2 h2)
          · exact absurd c1 c3
      · refine And.intro (fun c2 => ?_) (fun c2 => ?_)
        · refine hcl _ _ _ _ (q_PSnum (by omega) (by omega) h1 (fun σ2 r2 h2 hr2 => ?_))
          exact hev _ (l_M_rC1 hB (fun _ => hr2) (fun σ' h' => hK σ' n h' (Or.inl rfl)) σ2 h2)
        · refine And.intro (fun c3 => ?_) (fun c3 => ?_)
          · exact absurd c3 c1
          · refine hcl _ _ _ _ (q_PSnum (by omega) (by omega) h1 (fun σ2 r2 h2 hr2 => ?_))
            exact hev _ (l_M_rC1 hB (fun _ => hr2) (fun σ' h' => hK σ' n h' (Or.inl rfl)) σ2 h2)
    · refine hcl _ _ _ _ (c_M_readsRods hB h1 hn (fun σ2 h2 => ?_))
      exact hK σ2 (n + 1) h2 (Or.inr rfl)
  · exact hK σ1 n h1 (Or.inl rfl)
theorem c_M_readsClause {σ0 σ : q_S} {n : Int} {K : q_R → q_S → Prop} (hB : q_PB σ0) (h : q_PS σ0 σ n) (hn : 0 ≤ n ∧ n < 10) (hK : ∀ σ' n', q_PS σ0 σ' n' → (n' = n ∨ n' = n + 1) → K none σ') : q_K L xs i_M_readsClause [(2, 100)] σ K := by
  have hp := h.2.1
  have e0 : q_w32 (σ 100 53 + 0) = σ 100 53 := by rw [q_w32_id] <;> omega
  have e1 : σ 100 53 < σ 100 30 → q_w32 (σ 100 53 + 1) = σ 100 53 + 1 := fun _ => by rw [q_w32_id] <;> omega
  have w0 : q_PS σ0 (q_up (q_up σ 100 54 1) 100 53 (q_w32 (σ 100 53 + 0))) n := q_PS_f2 h (q_f2_up (q_f2_up q_f2_rf (Or.inr rfl)) (Or.inl rfl)) (by show 0 ≤ q_w32 (σ 100 53 + 0) ∧ q_w32 (σ 100 53 + 0) ≤ σ 100 30 ∧ σ 100 30 ≤ 160; omega) (Or.inr rfl)
  have w1 : σ 100 53 < σ 100 30 → q_PS σ0 (q_up (q_up σ 100 54 0) 100 53 (q_w32 (σ 100 53 + 1))) n := fun hlt => q_PS_f2 h (q_f2_up (q_f2_up q_f2_rf (Or.inr rfl)) (Or.inl rfl)) (by have := e1 hlt; show 0 ≤ q_w32 (σ 100 53 + 1) ∧ q_w32 (σ 100 53 + 1) ≤ σ 100 30 ∧ σ 100 30 ≤ 160; omega) (Or.inl rfl)
  refine q_call k_M_readsClause 3 rfl ?_
  show q_E L xs k_M_readsClause (0, [(2, 100), (9, 0), (9, 0)], [], σ) K
  refine q_go1 60 0 [34, 65, 80, 95, 110] (fun cl ev hcl hev => ?_)
  refine hcl _ _ _ _ (c_M_byteAt hp.1 hp.2.2 (fun hlt => ?_) (fun hlt => ?_))
  · have w1 := w1 hlt
    repeat' (first | refine And.intro ?_ ?_ | (intro hq; first | exact absurd hq (by decide) | exact absurd rfl hq | exact absurd hq (show ¬ (1 : Int) = 0 by decide) | exact absurd (show (1 : Int) ≠ 0 by decide) hq | skip))
    all_goals first
      | omega
      | exact hev _ (l_M_rC0 hB hn hK _ w1)
      | exact hev _ (l_M_rC0 hB hn hK _ w0)
  · repeat' (first | refine And.intro ?_ ?_ | (intro hq; first | exact absurd hq (by decide) | exact absurd rfl hq | exact absurd hq (show ¬ (1 : Int) = 0 by decide) | exact absurd (show (1 : Int) ≠ 0 by decide) hq | skip))
    all_goals first
      | omega
      | exact hev _ (l_M_rC0 hB hn hK _ w0)

/-- the loop over the clauses: behind the last one -/
theorem l_M_rCu0 {σ0 : q_S} {K : q_R → q_S → Prop} (hK : ∀ σ' n', q_PS σ0 σ' n' → (0 ≤ n' ∧ n' ≤ 10) → K none σ') (σ : q_S) (c n : Int) (hn : 0 ≤ n ∧ n ≤ 10) (h : q_PS σ0 σ n) : q_E L xs k_M_readsCustom (40, [(2, 100), (0, c), (0, 0)], [], σ) K := by
  have u0 : ∀ v, (v = 0 ∨ v = 1) → q_PS σ0 (q_up σ 100 54 v) n := fun v hv => q_PS_f2 h (q_f2_up q_f2_rf (Or.inr rfl)) h.2.1 hv
  refine q_go1 80 40 [40] (fun cl ev hcl hev => ?_)
  repeat' (first | refine And.intro ?_ ?_ | (intro hq; first | exact absurd hq (by decide) | exact absurd rfl hq | exact absurd hq (show ¬ (1 : Int) = 0 by decide) | exact absurd (show (1 : Int) ≠ 0 by decide) hq | skip))
  all_goals first
    | omega
    | exact hK _ n (u0 0 (Or.inl rfl)) hn
    | exact hK _ n (u0 1 (Or.inr rfl)) hn
/-- the loop over the clauses -/
theorem l_M_readsCustom {σ0 : q_S} {K : q_R → q_S → Prop} (hB : q_PB σ0) (hK : ∀ σ' n', q_PS σ0 σ' n' → (0 ≤ n' ∧ n' ≤ 10) → K none σ') :
    ∀ (m : Nat) (σ : q_S) (c n : Int), 10 - c < m → 0 ≤ c → c < 10 → 0 ≤ n → n ≤ c → q_PS σ0 σ n → q_E L xs k_M_readsCustom (40, [(2, 100), (0, c), (0, 1)], [], σ) K := by
  intro m
  induction m with
  | zero => intro σ c n; omega
  | succ m ih =>
    intro σ c n hm hc hc10 hn0 hnc h
    have e1 : q_w32 (c + 1) = c + 1 := by rw [q_w32_id] <;> omega
    refine q_go1 80 40 [40] (fun cl ev hcl hev => ?_)
    refine And.intro (fun hq => absurd hq (by decide)) (fun hq => ?_)
    refine hcl _ _ _ _ (c_M_readsClause hB h ⟨hn0, by omega⟩ (fun σ1 n1 h1 hn1 => ?_))
    have hp := h1.2.1
    have e0 : q_w32 (σ1 100 53 + 0) = σ1 100 53 := by rw [q_w32_id] <;> omega
    have w0 : q_PS σ0 (q_up σ1 100 53 (q_w32 (σ1 100 53 + 0))) n1 := q_PS_f2 h1 (q_f2_up q_f2_rf (Or.inl rfl)) (by show 0 ≤ q_w32 (σ1 100 53 + 0) ∧ q_w32 (σ1 100 53 + 0) ≤ σ1 100 30 ∧ σ1 100 30 ≤ 160; omega) h1.2.2.1
    have w1 : σ1 100 53 < σ1 100 30 → q_PS σ0 (q_up σ1 100 53 (q_w32 (σ1 100 53 + 1))) n1 := fun _ => by
      have e2 : q_w32 (σ1 100 53 + 1) = σ1 100 53 + 1 := by rw [q_w32_id] <;> omega
      exact q_PS_f2 h1 (q_f2_up q_f2_rf (Or.inl rfl)) (by show 0 ≤ q_w32 (σ1 100 53 + 1) ∧ q_w32 (σ1 100 53 + 1) ≤ σ1 100 30 ∧ σ1 100 30 ≤ 160; omega) h1.2.2.1
    repeat' (first | refine And.intro ?_ ?_ | (intro hq; first | exact absurd hq (by decide) | exact absurd rfl hq | exact absurd hq (show ¬ (1 : Int) = 0 by decide) | exact absurd (show (1 : Int) ≠ 0 by decide) hq | skip) | refine hcl _ _ _ _ (c_M_byteAt hp.1 hp.2.2 ?_ ?_))
    all_goals first
      | omega
      | exact hev _ (l_M_rCu0 hK _ _ n1 (by omega) w0)
      | (have w1 := w1 (by omega)
         refine hev _ ?_
         rw [e1]
         exact ih _ (c + 1) n1 (by omega) (by omega) (by omega) (by omega) (by omega) w1)
theorem c_M_readsCustom {σ : q_S} {K : q_R → q_S → Prop} (hB : q_PB σ) (ht : 0 ≤ σ 100 30 ∧ σ 100 30 ≤ 160) (h124 : ∀ c, 0 ≤ c → c < 12 → 0 ≤ σ 124 c ∧ σ 124 c ≤ 99) (h129 : ∀ j, (0 ≤ σ 129 j ∧ σ 129 j ≤ 23) ∧ (0 ≤ σ 130 j ∧ σ 130 j ≤ 23)) (hK : ∀ σ' n', q_PS σ σ' n' → (0 ≤ n' ∧ n' ≤ 10) → K none σ') : q_K L xs i_M_readsCustom [(2, 100)] σ K := by
  have hB1 := hB.1
  have h0 : q_PS σ (q_up (q_up σ 100 53 0) 100 54 0) (σ 128 (σ 100 31)) := by
    refine ⟨fun k i a b => ?_, ?_, Or.inl rfl, h124, h129, fun c _ => rfl, rfl⟩
    · unfold q_up; repeat' split
      all_goals first | rfl | omega
    · show 0 ≤ (0 : Int) ∧ (0 : Int) ≤ σ 100 30 ∧ σ 100 30 ≤ 160; omega
  have up0 : ∀ {σ' : q_S} {n k i v : Int}, q_PS σ σ' n → (k = 125 ∨ k = 126 ∨ k = 127) → q_PS σ (q_up σ' k i v) n := fun h' hk => q_PS_up h' (by omega) (by omega) (by omega) (by omega)
  have up4 : ∀ {σ' : q_S} {n i v : Int}, q_PS σ σ' n → (0 ≤ v ∧ v ≤ 99) → q_PS σ (q_up σ' 124 i v) n := fun h' hk => q_PS_up h' (by omega) (by omega) (fun _ => hk) (by omega)
  refine q_call k_M_readsCustom 3 rfl ?_
  show q_E L xs k_M_readsCustom (0, [(2, 100), (9, 0), (9, 0)], [], σ) K
  refine q_go1 80 0 [40] (fun cl ev hcl hev => ?_)
  refine And.intro (Or.inl rfl) ?_
  refine And.intro hB1 ?_
  refine And.intro hB1 ?_
  refine And.intro hB1 ?_
  refine And.intro hB1 ?_
  refine And.intro hB1 ?_
  exact hev _ (l_M_readsCustom hB hK 20 _ 0 0 (by omega) (by omega) (by omega) (by omega) (by omega) (q_PS_n (up0 (up0 (up0 (up4 h0 (show (0 : Int) ≤ 0 ∧ (0 : Int) ≤ 99 by omega)) (Or.inl rfl)) (Or.inr (Or.inl rfl))) (Or.inr (Or.inr rfl)))))

theorem c_M_court {d : Int} {σ : q_S} {K : q_R → q_S → Prop} (hc : 0 ≤ σ 100 31 ∧ σ 100 31 ≤ 12) (hW : (∀ j, 0 ≤ j → j < 5 → 0 ≤ σ 142 j) ∧ (∀ j, 0 ≤ j → j < 4 → 0 ≤ σ 143 j) ∧ (∀ j, 0 ≤ j → j < 5 → 0 ≤ σ 144 j)) (ht : 0 ≤ σ 100 30 ∧ σ 100 30 ≤ 160) (h124 : ∀ c, 0 ≤ c → c < 12 → 0 ≤ σ 124 c ∧ σ 124 c ≤ 99) (h129 : ∀ j, (0 ≤ σ 129 j ∧ σ 129 j ≤ 23) ∧ (0 ≤ σ 130 j ∧ σ 130 j ≤ 23))
    (h0 : ¬ (0 ≤ d ∧ d ≤ 9999) → K (some (0, -2)) σ) (h4 : (0 ≤ d ∧ d ≤ 9999 ∧ σ 100 31 = 12) → K (some (0, -4)) σ)
    (h2 : (0 ≤ d ∧ d ≤ 9999 ∧ σ 100 31 < 12) → ∀ σ' n', q_PS σ σ' n' → (0 ≤ n' ∧ n' ≤ 10) → σ' 100 54 = 1 → K (some (0, q_w32 (-10 - σ' 100 53))) (q_up σ' 100 30 0))
    (h1 : (0 ≤ d ∧ d ≤ 9999 ∧ σ 100 31 < 12) → ∀ σ' n', q_PS σ σ' n' → (0 ≤ n' ∧ n' ≤ 10) → σ' 100 54 = 0 → K (some (0, σ 100 31)) (q_up (q_up (q_up σ' 100 30 0) 123 (σ 100 31) d) 100 31 (σ 100 31 + 1))) : q_K L xs i_M_court [(2, 100), (0, d)] σ K := by
  refine q_call k_M_court 2 rfl ?_
  show q_E L xs k_M_court (0, [(2, 100), (0, d)], [], σ) K
  refine q_go1 80 0 [] (fun cl ev hcl hev => ?_)
  refine hcl _ _ _ _ (c_M_in (fun c1 => ?_) (fun c1 => ?_))
  · refine And.intro (fun _ => ?_) (fun hq => absurd (show (1 : Int) ≠ 0 by decide) hq)
    refine And.intro (fun c2 => ?_) (fun c2 => ?_)
    · have hB' : q_PB σ := ⟨by omega, hW⟩
      refine hcl _ _ _ _ (c_M_readsCustom hB' ht h124 h129 (fun σ1 n1 p1 hn1 => ?_))
      have e : σ1 100 31 = σ 100 31 := p1.1 100 31 (by omega) (by omega)
      have e1 : q_w32 (σ 100 31 + 1) = σ 100 31 + 1 := by rw [q_w32_id] <;> omega
      have e2 : q_w32 (σ 100 31 + 1 - 1) = σ 100 31 := by rw [q_w32_id] <;> omega
      have hw := p1.2.2.1
      refine And.intro (fun c3 => ?_) (fun c3 => ?_)
      · refine And.intro (by show 0 ≤ σ1 100 31 ∧ σ1 100 31 < ((12 : Nat) : Int); omega) ?_
        have h1 := h1 (by omega) σ1 n1 p1 hn1 (by exact c3)
        show K (some (0, q_w32 (q_up (q_up (q_up σ1 100 30 0) 123 (σ1 100 31) d) 100 31 (q_w32 (σ1 100 31 + 1)) 100 31 - 1))) (q_up (q_up (q_up σ1 100 30 0) 123 (σ1 100 31) d) 100 31 (q_w32 (σ1 100 31 + 1)))
        rw [q_ue, e, e1, e2]
        exact h1
      · exact h2 (by omega) σ1 n1 p1 hn1 (by rcases hw with z | z; exact absurd z c3; exact z)
    · exact h4 (by omega)
  · refine And.intro (fun hq => absurd rfl hq) (fun _ => ?_)
    exact h0 c1

end P23
