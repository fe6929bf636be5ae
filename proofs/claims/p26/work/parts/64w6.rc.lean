section X6a
variable {B : Int → Int} {n q p k i : Int} {ρ σ σ' ρ' : q_S}
theorem u_rd_fr (hk : ¬ (q ≤ k ∧ k ≤ q + 3)) : ∀ (m : Nat) (p : Int) (ρ : q_S), (u_rd B n q m p ρ).2.2 k i = ρ k i
  | 0, p, ρ => rfl
  | m + 1, p, ρ => by
    have e := u_cl_fr (B := B) (n := n) (q := q) (p := p) (k := k) (i := i) (ρ := ρ) hk
    have er : u_rd B n q (m + 1) p ρ = if (u_cl B n q p ρ).1 = 0 then (0, (u_cl B n q p ρ).2.1, (u_cl B n q p ρ).2.2) else if n ≤ (u_cl B n q p ρ).2.1 then (1, (u_cl B n q p ρ).2.1, (u_cl B n q p ρ).2.2) else if m = 0 ∨ B (u_cl B n q p ρ).2.1 ≠ 59 then (0, (u_cl B n q p ρ).2.1, (u_cl B n q p ρ).2.2) else u_rd B n q m ((u_cl B n q p ρ).2.1 + 1) (u_cl B n q p ρ).2.2 := rfl
    rw [er]
    split
    · exact e
    · split
      · exact e
      · split
        · exact e
        · exact (u_rd_fr hk m _ _).trans e
theorem u_clr_fr (hk : k ≠ q) : u_clr ρ q k i = ρ k i := by
  unfold u_clr
  rw [q_un hk, q_un hk, q_un hk, q_un hk, q_un hk]
theorem u_rd_in : ∀ (m : Nat) (p : Int) (ρ : q_S), 0 ≤ p → p ≤ n → 0 ≤ (u_rd B n q m p ρ).2.1 ∧ (u_rd B n q m p ρ).2.1 ≤ n
  | 0, p, ρ, h0, h1 => ⟨h0, h1⟩
  | m + 1, p, ρ, h0, h1 => by
    have ci := u_cl_in (B := B) (n := n) (q := q) (p := p) (ρ := ρ) h0 h1
    have er : u_rd B n q (m + 1) p ρ = if (u_cl B n q p ρ).1 = 0 then (0, (u_cl B n q p ρ).2.1, (u_cl B n q p ρ).2.2) else if n ≤ (u_cl B n q p ρ).2.1 then (1, (u_cl B n q p ρ).2.1, (u_cl B n q p ρ).2.2) else if m = 0 ∨ B (u_cl B n q p ρ).2.1 ≠ 59 then (0, (u_cl B n q p ρ).2.1, (u_cl B n q p ρ).2.2) else u_rd B n q m ((u_cl B n q p ρ).2.1 + 1) (u_cl B n q p ρ).2.2 := rfl
    rw [er]
    split
    · exact ⟨by show 0 ≤ (u_cl B n q p ρ).2.1; omega, ci.2⟩
    · split
      · exact ⟨by show 0 ≤ (u_cl B n q p ρ).2.1; omega, ci.2⟩
      · split
        · exact ⟨by show 0 ≤ (u_cl B n q p ρ).2.1; omega, ci.2⟩
        · exact u_rd_in m _ _ (by omega) (by omega)
theorem u_rd_01 : ∀ (m : Nat) (p : Int) (ρ : q_S), (u_rd B n q m p ρ).1 = 0 ∨ (u_rd B n q m p ρ).1 = 1
  | 0, p, ρ => Or.inl rfl
  | m + 1, p, ρ => by
    have er : u_rd B n q (m + 1) p ρ = if (u_cl B n q p ρ).1 = 0 then (0, (u_cl B n q p ρ).2.1, (u_cl B n q p ρ).2.2) else if n ≤ (u_cl B n q p ρ).2.1 then (1, (u_cl B n q p ρ).2.1, (u_cl B n q p ρ).2.2) else if m = 0 ∨ B (u_cl B n q p ρ).2.1 ≠ 59 then (0, (u_cl B n q p ρ).2.1, (u_cl B n q p ρ).2.2) else u_rd B n q m ((u_cl B n q p ρ).2.1 + 1) (u_cl B n q p ρ).2.2 := rfl
    rw [er]
    split
    · exact Or.inl rfl
    · split
      · exact Or.inr rfl
      · split
        · exact Or.inl rfl
        · exact u_rd_01 m _ _
/-- a number that is read is none below 0 -/
theorem u_nl_0 {hi : Int} : ∀ (f : Nat) (v p : Int), 0 ≤ v → (u_nl B n hi f v p).1 ≠ -1 → 0 ≤ (u_nl B n hi f v p).1
  | 0, v, p, h, _ => h
  | f + 1, v, p, h, g => by
    have e : u_nl B n hi (f + 1) v p = if p < n ∧ 0 < v then (if 48 ≤ B p ∧ B p ≤ 57 then (if hi < 10 * v + (B p - 48) then (-1, p) else u_nl B n hi f (10 * v + (B p - 48)) (p + 1)) else (v, p)) else (v, p) := rfl
    rw [e] at g ⊢
    by_cases a : p < n ∧ 0 < v
    · rw [if_pos a] at g ⊢
      by_cases b : 48 ≤ B p ∧ B p ≤ 57
      · rw [if_pos b] at g ⊢
        by_cases c : hi < 10 * v + (B p - 48)
        · rw [if_pos c] at g; exact absurd rfl g
        · rw [if_neg c] at g ⊢
          exact u_nl_0 f _ _ (by omega) g
      · rw [if_neg b]; exact h
    · rw [if_neg a]; exact h
theorem u_num_0 {lo hi : Int} (hl : 0 ≤ lo) (g : (u_num B n lo hi p).1 ≠ -1) : 0 ≤ (u_num B n lo hi p).1 := by
  unfold u_num at g ⊢
  split
  · rename_i a
    rw [if_pos a] at g
    exact u_nl_0 _ _ _ (by omega) g
  · rename_i a
    rw [if_neg a] at g
    exact absurd rfl g
theorem u_rule_q (hi : i ≠ 8) : (u_rule B n q p ρ).2.2 q i = ρ q i := by
  unfold u_rule
  repeat' split
  all_goals first
    | rfl
    | (show u_add _ _ _ _ _ q i = ρ q i
       unfold u_add
       split
       · rfl
       · rw [q_ui hi, q_un (by omega), q_un (by omega), q_un (by omega)])
/-- the fine stays within its bounds -/
theorem u_cl_2 (h0 : 0 ≤ p) (h1 : p ≤ n) (a : (u_cl B n q p ρ).1 = 1) (h : 0 ≤ ρ q 2 ∧ ρ q 2 ≤ 999) : 0 ≤ (u_cl B n q p ρ).2.2 q 2 ∧ (u_cl B n q p ρ).2.2 q 2 ≤ 999 := by
  by_cases e1 : u_pk B n p = 114
  · rw [u_cl_r e1]
    split
    · rw [u_rule_q (by decide)]; exact h
    · exact h
  · by_cases e3 : u_pk B n p = 102
    · have hlt := u_pks (by decide) e3
      rw [u_cl_102 e3] at a ⊢
      by_cases g : u_pk B n (p + 1) = 32
      · have hlt2 := u_pks (by decide) g
        rw [if_pos g] at a ⊢
        have ni := u_num_in (B := B) (n := n) (lo := 0) (hi := 999) (p := p + 1 + 1) (by decide) (by decide) (by omega) (by omega)
        have nz : (u_num B n 0 999 (p + 1 + 1)).1 ≠ -1 := fun z => by
          have a : (if (u_num B n 0 999 (p + 1 + 1)).1 = -1 then (0 : Int) else 1) = 1 := a
          rw [if_pos z] at a
          exact absurd a (by decide)
        have n0 := u_num_0 (by decide) nz
        show 0 ≤ q_up ρ q 2 _ q 2 ∧ q_up ρ q 2 _ q 2 ≤ 999
        rw [q_ue]
        omega
      · rw [if_neg g] at a
        exact absurd (show (0 : Int) = 1 from a) (by decide)
    · by_cases e2 : u_pk B n p = 104
      · rw [u_cl_104 e2]
        split
        · show 0 ≤ q_up ρ q 1 _ q 2 ∧ q_up ρ q 1 _ q 2 ≤ 999
          rw [q_ui (by decide)]; exact h
        · show 0 ≤ q_up ρ q 1 _ q 2 ∧ q_up ρ q 1 _ q 2 ≤ 999
          rw [q_ui (by decide)]; exact h
      · by_cases e4 : u_pk B n p = 118
        · rw [u_cl_118 e4]
          split
          · show 0 ≤ q_up ρ q 3 _ q 2 ∧ q_up ρ q 3 _ q 2 ≤ 999
            rw [q_ui (by decide)]; exact h
          · show 0 ≤ q_up ρ q 3 _ q 2 ∧ q_up ρ q 3 _ q 2 ≤ 999
            rw [q_ui (by decide)]; exact h
        · by_cases e5 : u_pk B n p = 115
          · rw [u_cl_115 e5]
            split
            · show 0 ≤ q_up ρ q 4 _ q 2 ∧ q_up ρ q 4 _ q 2 ≤ 999
              rw [q_ui (by decide)]; exact h
            · show 0 ≤ q_up ρ q 4 _ q 2 ∧ q_up ρ q 4 _ q 2 ≤ 999
              rw [q_ui (by decide)]; exact h
          · rw [u_cl_n e1 e2 e3 e4 e5]
            exact h
theorem u_rd_2 : ∀ (m : Nat) (p : Int) (ρ : q_S), 0 ≤ p → p ≤ n → (u_rd B n q m p ρ).1 = 1 → 0 ≤ ρ q 2 ∧ ρ q 2 ≤ 999 → 0 ≤ (u_rd B n q m p ρ).2.2 q 2 ∧ (u_rd B n q m p ρ).2.2 q 2 ≤ 999
  | 0, p, ρ, _, _, a, _ => absurd (show (0 : Int) = 1 from a) (by decide)
  | m + 1, p, ρ, h0, h1, a, h => by
    have ci := u_cl_in (B := B) (n := n) (q := q) (p := p) (ρ := ρ) h0 h1
    have er : u_rd B n q (m + 1) p ρ = if (u_cl B n q p ρ).1 = 0 then (0, (u_cl B n q p ρ).2.1, (u_cl B n q p ρ).2.2) else if n ≤ (u_cl B n q p ρ).2.1 then (1, (u_cl B n q p ρ).2.1, (u_cl B n q p ρ).2.2) else if m = 0 ∨ B (u_cl B n q p ρ).2.1 ≠ 59 then (0, (u_cl B n q p ρ).2.1, (u_cl B n q p ρ).2.2) else u_rd B n q m ((u_cl B n q p ρ).2.1 + 1) (u_cl B n q p ρ).2.2 := rfl
    rw [er] at a ⊢
    rcases u_cl_01 (B := B) (n := n) (q := q) (p := p) (ρ := ρ) with c | c
    · rw [if_pos c] at a
      exact absurd (show (0 : Int) = 1 from a) (by decide)
    · have h' := u_cl_2 h0 h1 c h
      rw [if_neg (by rw [c]; decide)] at a ⊢
      by_cases g : n ≤ (u_cl B n q p ρ).2.1
      · rw [if_pos g]; exact h'
      · rw [if_neg g] at a ⊢
        by_cases g2 : m = 0 ∨ B (u_cl B n q p ρ).2.1 ≠ 59
        · rw [if_pos g2] at a
          exact absurd (show (0 : Int) = 1 from a) (by decide)
        · rw [if_neg g2] at a ⊢
          exact u_rd_2 m _ _ (by omega) (by omega) a h'
theorem u_rd_8 : ∀ (m : Nat) (p : Int) (ρ : q_S) (b : Int), 0 ≤ ρ q 8 ∧ ρ q 8 ≤ b → 0 ≤ (u_rd B n q m p ρ).2.2 q 8 ∧ (u_rd B n q m p ρ).2.2 q 8 ≤ b + m
  | 0, p, ρ, b, h => ⟨h.1, by show ρ q 8 ≤ _; omega⟩
  | m + 1, p, ρ, b, h => by
    have c8 := u_cl_8 (B := B) (n := n) (p := p) h
    have er : u_rd B n q (m + 1) p ρ = if (u_cl B n q p ρ).1 = 0 then (0, (u_cl B n q p ρ).2.1, (u_cl B n q p ρ).2.2) else if n ≤ (u_cl B n q p ρ).2.1 then (1, (u_cl B n q p ρ).2.1, (u_cl B n q p ρ).2.2) else if m = 0 ∨ B (u_cl B n q p ρ).2.1 ≠ 59 then (0, (u_cl B n q p ρ).2.1, (u_cl B n q p ρ).2.2) else u_rd B n q m ((u_cl B n q p ρ).2.1 + 1) (u_cl B n q p ρ).2.2 := rfl
    have c9 : (u_cl B n q p ρ).2.2 q 8 ≤ b + ((m + 1 : Nat) : Int) := by omega
    rw [er]
    split
    · exact ⟨c8.1, c9⟩
    · split
      · exact ⟨c8.1, c9⟩
      · split
        · exact ⟨c8.1, c9⟩
        · have := u_rd_8 m ((u_cl B n q p ρ).2.1 + 1) (u_cl B n q p ρ).2.2 (b + 1) c8
          exact ⟨this.1, by omega⟩
theorem m_C_x {c : Int} (C : m_C σ c ρ q) (a1 : ∀ k, 124 ≤ k → k ≤ 128 → σ' k c = σ k c) (a2 : ∀ k i, 129 ≤ k → k ≤ 132 → 10 * c ≤ i → i < 10 * c + ρ q 8 → σ' k i = σ k i) (b1 : ∀ i, i ≠ 0 → ρ' q i = ρ q i) (b2 : ∀ k i, q + 1 ≤ k → k ≤ q + 3 → ρ' k i = ρ k i) : m_C σ' c ρ' q := by
  obtain ⟨⟨c1, c2, c3, c4, c5⟩, cr⟩ := C
  refine ⟨⟨?_, ?_, ?_, ?_, ?_⟩, fun k k0 k1 => ?_⟩
  · rw [a1 124 (by decide) (by decide), b1 1 (by decide)]; exact c1
  · rw [a1 125 (by decide) (by decide), b1 2 (by decide)]; exact c2
  · rw [a1 126 (by decide) (by decide), b1 3 (by decide)]; exact c3
  · rw [a1 127 (by decide) (by decide), b1 4 (by decide)]; exact c4
  · rw [a1 128 (by decide) (by decide), b1 8 (by decide)]; exact c5
  · rw [b1 8 (by decide)] at k1
    rw [a2 129 _ (by decide) (by decide) (by omega) (by omega), a2 130 _ (by decide) (by decide) (by omega) (by omega), a2 131 _ (by decide) (by decide) (by omega) (by omega), a2 132 _ (by decide) (by decide) (by omega) (by omega), b2 (q + 1) k (by omega) (by omega), b2 (q + 2) k (by omega) (by omega), b2 (q + 3) k (by omega) (by omega)]
    exact cr k k0 k1
theorem u_fd_fr {w : Int} {k' i' : Int} (h : ¬ (k' = 33 ∨ (k' = 32 ∧ i' = 1))) : ∀ (k : Nat) (σ : q_S), u_fd w k σ k' i' = σ k' i'
  | 0, σ => rfl
  | k + 1, σ => by
    have e : u_fd w (k + 1) σ = u_fd w k (q_up (q_up σ 33 (σ 32 1) (u_by w k)) 32 1 (σ 32 1 + 1)) := rfl
    rw [e, u_fd_fr h k, q_unn (by omega), q_un (by omega)]
theorem u_fd_b {w : Int} : ∀ (k : Nat) (σ : q_S), (∀ i, 0 ≤ σ 33 i ∧ σ 33 i ≤ 255) → ∀ i, 0 ≤ u_fd w k σ 33 i ∧ u_fd w k σ 33 i ≤ 255
  | 0, σ, h => h
  | k + 1, σ, h => by
    have e : u_fd w (k + 1) σ = u_fd w k (q_up (q_up σ 33 (σ 32 1) (u_by w k)) 32 1 (σ 32 1 + 1)) := rfl
    rw [e]
    refine u_fd_b k _ (fun i => ?_)
    rw [q_un (by decide)]
    by_cases ei : i = σ 32 1
    · rw [ei, q_ue]
      unfold u_by
      omega
    · rw [q_ui ei]; exact h i
end X6a
/-- tapes, courts and customs are alike -/
def y_RC (σ : q_S) : Prop := ((∀ i, σ 122 i = σ 33 i) ∧ σ 100 30 = σ 32 1 ∧ (0 ≤ σ 32 1 ∧ σ 32 1 ≤ 160) ∧ (∀ i, 0 ≤ σ 33 i ∧ σ 33 i ≤ 255)) ∧ (σ 100 31 = σ 34 2 ∧ (0 ≤ σ 34 2 ∧ σ 34 2 ≤ 12)) ∧ (∀ j, 0 ≤ j → j < σ 34 2 → σ 123 j = σ (40 + 4 * j) 0 ∧ m_C σ j σ (40 + 4 * j) ∧ (0 ≤ σ (40 + 4 * j) 2 ∧ σ (40 + 4 * j) 2 ≤ 999) ∧ σ (40 + 4 * j) 8 ≤ 10) ∧ m_W σ ∧ (σ 36 1 = 0 ∧ σ 36 2 = 0 ∧ σ 36 3 = 99 ∧ σ 36 4 = 0 ∧ σ 36 8 = 0)
def d_RC (k i : Int) : Prop := (k = 32 ∧ i = 1) ∨ k = 33 ∨ (k = 34 ∧ i = 2) ∨ (36 ≤ k ∧ k ≤ 87) ∨ (122 ≤ k ∧ k ≤ 132) ∨ (142 ≤ k ∧ k ≤ 144) ∨ (k = 100 ∧ (i = 30 ∨ i = 31))
section X6b
variable {σ σ' σ2 : q_S}
/-- the customs before c stay -/
theorem RC_old {c : Int} (r : ∀ j, 0 ≤ j → j < c → σ 123 j = σ (40 + 4 * j) 0 ∧ m_C σ j σ (40 + 4 * j) ∧ (0 ≤ σ (40 + 4 * j) 2 ∧ σ (40 + 4 * j) 2 ≤ 999) ∧ σ (40 + 4 * j) 8 ≤ 10) (f1 : ∀ k i, 40 ≤ k → k < 40 + 4 * c → σ2 k i = σ k i) (f2 : ∀ k i, 123 ≤ k → k ≤ 128 → i ≠ c → σ2 k i = σ k i) (f3 : ∀ k i, 129 ≤ k → k ≤ 132 → i < 10 * c → σ2 k i = σ k i) :
    ∀ j, 0 ≤ j → j < c → σ2 123 j = σ2 (40 + 4 * j) 0 ∧ m_C σ2 j σ2 (40 + 4 * j) ∧ (0 ≤ σ2 (40 + 4 * j) 2 ∧ σ2 (40 + 4 * j) 2 ≤ 999) ∧ σ2 (40 + 4 * j) 8 ≤ 10 := fun j h0 h1 => by
  obtain ⟨a, b, c1, c2⟩ := r j h0 h1
  have g := f1 (40 + 4 * j)
  rw [f2 123 j (by decide) (by decide) (by omega), g 0 (by omega) (by omega), g 2 (by omega) (by omega), g 8 (by omega) (by omega)]
  exact ⟨a, m_C_x b (fun k k0 k1 => f2 k j (by omega) (by omega) (by omega)) (fun k i k0 k1 i0 i1 => f3 k i k0 k1 (by omega)) (fun i _ => g i (by omega) (by omega)) (fun k i k0 k1 => f1 k i (by omega) (by omega)), c1, c2⟩
theorem RCc (h : ∀ k i, d_RC k i → σ' k i = σ k i) (r : y_RC σ) : y_RC σ' := by
  obtain ⟨⟨r1, r2, r3, r4⟩, ⟨r5, r6⟩, r7, r8, r9⟩ := r
  have e1 := h 32 1 (by unfold d_RC; omega)
  have e2 := h 34 2 (by unfold d_RC; omega)
  refine ⟨⟨fun i => ?_, ?_, by rw [e1]; exact r3, fun i => ?_⟩, ⟨?_, by rw [e2]; exact r6⟩, ?_, m_W_c (fun k i h0 h1 => h k i (by unfold d_RC; omega)) r8, ?_⟩
  · rw [h 122 i (by unfold d_RC; omega), h 33 i (by unfold d_RC; omega)]; exact r1 i
  · rw [h 100 30 (by unfold d_RC; omega), e1]; exact r2
  · rw [h 33 i (by unfold d_RC; omega)]; exact r4 i
  · rw [h 100 31 (by unfold d_RC; omega), e2]; exact r5
  · rw [e2]
    exact RC_old r7 (fun k i h0 h1 => h k i (by unfold d_RC; omega)) (fun k i h0 h1 _ => h k i (by unfold d_RC; omega)) (fun k i h0 h1 _ => h k i (by unfold d_RC; omega))
  · rw [h 36 1 (by unfold d_RC; omega), h 36 2 (by unfold d_RC; omega), h 36 3 (by unfold d_RC; omega), h 36 4 (by unfold d_RC; omega), h 36 8 (by unfold d_RC; omega)]; exact r9
end X6b
section X6
variable {L : Nat} {xs : Int → Int}

theorem x_co2 {d q : Int} {σ : q_S} {K : q_R → q_S → Prop} (hq1 : q_cu q) (hs : 0 ≤ σ 34 2 ∧ σ 34 2 < 12) (hK : K (some (0, σ 34 2)) (q_up (q_up σ q 0 d) 34 2 (σ 34 2 + 1))) : q_E L xs k_A_court (37, [(2, 0), (0, d), (2, q), (0, 1)], [], σ) K := by
  have e : q_w32 (σ 34 2 + 1) = σ 34 2 + 1 := by rw [q_w32_id] <;> omega
  have e2 : q_w32 (σ 34 2 + 1 - 1) = σ 34 2 := by rw [q_w32_id] <;> omega
  unfold q_cu at hq1
  rcases hq1 with rfl | rfl | rfl | rfl | rfl | rfl | rfl | rfl | rfl | rfl | rfl | rfl | rfl
  all_goals
    refine q_go1 200 37 [] (fun cl ev hcl hev => ?_)
    show K (some (0, q_w32 (q_up (q_up σ _ 0 d) 34 2 (q_w32 (q_up σ _ 0 d 34 2 + 1)) 34 2 - 1))) (q_up (q_up σ _ 0 d) 34 2 (q_w32 (q_up σ _ 0 d 34 2 + 1)))
    rw [q_ue, q_un (by decide), e, e2]
    exact hK
theorem x_court {d n q : Int} {B : Int → Int} {σ : q_S} {K : q_R → q_S → Prop} (hs : 0 ≤ σ 34 2 ∧ σ 34 2 ≤ 12) (eq : q = 40 + 4 * σ 34 2) (t : u_tp σ B n)
    (h2 : ¬ (0 ≤ d ∧ d ≤ 9999) → K (some (0, -2)) σ) (h4 : (0 ≤ d ∧ d ≤ 9999 ∧ σ 34 2 = 12) → K (some (0, -4)) σ)
    (h0 : (0 ≤ d ∧ d ≤ 9999 ∧ σ 34 2 < 12) → (u_rd B n q 10 0 (u_clr σ q)).1 = 0 → K (some (0, q_w32 (-10 - (u_rd B n q 10 0 (u_clr σ q)).2.1))) (q_up (q_up (u_rd B n q 10 0 (u_clr σ q)).2.2 32 2 (u_rd B n q 10 0 (u_clr σ q)).2.1) 32 1 0))
    (h1 : (0 ≤ d ∧ d ≤ 9999 ∧ σ 34 2 < 12) → (u_rd B n q 10 0 (u_clr σ q)).1 = 1 → K (some (0, σ 34 2)) (q_up (q_up (q_up (q_up (u_rd B n q 10 0 (u_clr σ q)).2.2 32 2 (u_rd B n q 10 0 (u_clr σ q)).2.1) 32 1 0) q 0 d) 34 2 (σ 34 2 + 1))) : q_K L xs i_A_court [(2, 0), (0, d)] σ K := by
  refine q_call k_A_court 4 rfl ?_
  show q_E L xs k_A_court (0, [(2, 0), (0, d), (9, 0), (9, 0)], [], σ) K
  refine q_go1 200 0 [18] (fun cl ev hcl hev => ?_)
  show cl _ _ _ _
  refine hcl _ _ _ _ (c_A_isDay (fun g => ?_) (fun g => ?_))
  · refine And.intro (fun _ => ?_) (fun z => absurd (show (1 : Int) ≠ 0 by decide) z)
    refine And.intro (fun g2 => ?_) (fun g2 => h4 (by omega))
    refine hev _ (l_co (by omega) ?_)
    have h0 := h0 (by omega)
    have h1 := h1 (by omega)
    rw [← eq]
    have hq1 : q_cu q := by unfold q_cu; omega
    have hqi := q_cu_in hq1
    have s34 : (u_rd B n q 10 0 (u_clr σ q)).2.2 34 2 = σ 34 2 := (u_rd_fr (by omega) _ _ _).trans (u_clr_fr (by omega))
    refine q_go1 200 20 [37] (fun cl ev hcl hev => ?_)
    show cl _ _ _ _
    refine hcl _ _ _ _ (u_reads hq1 t ?_)
    rcases u_rd_01 (B := B) (n := n) (q := q) 10 0 (u_clr σ q) with a | a
    · rw [a]
      refine And.intro (fun z => absurd rfl z) (fun _ => ?_)
      have h0 := h0 a
      show K (some (0, q_w32 (-10 - q_up (q_up (u_rd B n q 10 0 (u_clr σ q)).2.2 32 2 (u_rd B n q 10 0 (u_clr σ q)).2.1) 32 1 0 32 2))) (q_up (q_up (u_rd B n q 10 0 (u_clr σ q)).2.2 32 2 (u_rd B n q 10 0 (u_clr σ q)).2.1) 32 1 0)
      rw [q_ui (by decide), q_ue]
      exact h0
    · rw [a]
      refine And.intro (fun _ => ?_) (fun z => absurd (show (1 : Int) ≠ 0 by decide) z)
      have e34 : q_up (q_up (u_rd B n q 10 0 (u_clr σ q)).2.2 32 2 (u_rd B n q 10 0 (u_clr σ q)).2.1) 32 1 0 34 2 = σ 34 2 := (q_un (by decide)).trans ((q_un (by decide)).trans s34)
      refine hev _ (x_co2 hq1 (by omega) ?_)
      rw [e34]
      exact h1 a
  · exact And.intro (fun z => absurd rfl z) (fun _ => h2 g)
theorem ck_15 {a b : Int} {σ : q_S} (_h : q_IN σ) (r : y_RC σ) : q_P2 L xs i_A_feed [(2, 0), (1, a), (0, b)] i_M_feed [(2, 100), (1, a), (0, b)] σ (fun x y σ2 => y_RC σ2 ∧ x = y) := by
  obtain ⟨⟨r1, r2, r3, r4⟩, ⟨r5, r6⟩, r7, r8, r9⟩ := id r
  refine x_feed r3 (fun g => ⟨_, rfl, ?_⟩) (fun g => ⟨_, rfl, ?_⟩) (fun g => ⟨_, rfl, ?_⟩)
  · exact z_feed (τ := σ) ⟨r1, r2⟩ r3 (fun _ => ⟨_, rfl, r, rfl⟩) (fun k => by exfalso; omega) (fun k => by exfalso; omega)
  · exact z_feed (τ := σ) ⟨r1, r2⟩ r3 (fun k => by exfalso; omega) (fun _ => ⟨_, rfl, r, rfl⟩) (fun k => by exfalso; omega)
  · have fr : ∀ k i, ¬ (k = 33 ∨ (k = 32 ∧ i = 1)) → u_fd a b.toNat σ k i = σ k i := fun k i hk => u_fd_fr hk _ _
    have e30 := (fr 100 30 (by omega)).trans r2
    have e1 : u_fd a b.toNat σ 32 1 = σ 32 1 + b := by rw [u_fd_1]; omega
    refine q_Kw (q_Kand (z_feed (τ := σ) (K := fun r2 σ2 => r2 = some (0, σ 32 1 + b) ∧ y_B σ2 (u_fd a b.toNat σ)) ⟨fun i => (fr 122 i (by omega)).trans (r1 i), e30⟩ r3 (fun k => by exfalso; omega) (fun k => by exfalso; omega) (fun k σ' B => ⟨rfl, B⟩)) (c_M_feed (K := fun _ σ2 => q_ft (u_fd a b.toNat σ) σ2) (by omega) (fun σ' x f _ => f))) (fun r2 σ2 hC => ?_)
    obtain ⟨⟨e, y1, y2⟩, f⟩ := hC
    have g : ∀ k i, ¬ (k = 122 ∨ (k = 100 ∧ i = 30)) → σ2 k i = u_fd a b.toNat σ k i := fun k i hk => f k i hk
    refine ⟨_, e, ⟨⟨fun i => ?_, ?_, ?_, fun i => ?_⟩, ⟨?_, ?_⟩, ?_, ?_, ?_⟩, rfl⟩
    · rw [y1 i, g 33 i (by omega)]
    · rw [y2, g 32 1 (by omega)]
    · rw [g 32 1 (by omega), e1]; omega
    · rw [g 33 i (by omega)]; exact u_fd_b _ _ r4 i
    · rw [g 100 31 (by omega), fr 100 31 (by omega), g 34 2 (by omega), fr 34 2 (by omega)]; exact r5
    · rw [g 34 2 (by omega), fr 34 2 (by omega)]; exact r6
    · rw [g 34 2 (by omega), fr 34 2 (by omega)]
      exact RC_old r7 (fun k i h0 h1 => (g k i (by omega)).trans (fr k i (by omega))) (fun k i h0 h1 _ => (g k i (by omega)).trans (fr k i (by omega))) (fun k i h0 h1 _ => (g k i (by omega)).trans (fr k i (by omega)))
    · exact m_W_c (fun k i h0 h1 => (g k i (by omega)).trans (fr k i (by omega))) r8
    · rw [g 36 1 (by omega), fr 36 1 (by omega), g 36 2 (by omega), fr 36 2 (by omega), g 36 3 (by omega), fr 36 3 (by omega), g 36 4 (by omega), fr 36 4 (by omega), g 36 8 (by omega), fr 36 8 (by omega)]; exact r9
theorem ck_16 {a : Int} {σ : q_S} (h : q_IN σ) (r : y_RC σ) : q_P2 L xs i_A_court [(2, 0), (0, a)] i_M_court [(2, 100), (0, a)] σ (fun x y σ2 => y_RC σ2 ∧ x = y) := by
  obtain ⟨⟨r1, r2, r3, r4⟩, ⟨r5, r6⟩, r7, r8, r9⟩ := id r
  have t : u_tp σ (fun i => σ 33 i) (σ 32 1) := ⟨fun _ => rfl, rfl, r3.1, r3.2, r4⟩
  obtain ⟨q, eq⟩ : ∃ q, q = 40 + 4 * σ 34 2 := ⟨_, rfl⟩
  refine x_court (q := q) r6 eq t (fun g => ⟨_, rfl, ?_⟩) (fun g => ⟨_, rfl, ?_⟩) (fun g u => ⟨_, rfl, ?_⟩) (fun g u => ⟨_, rfl, ?_⟩)
  · exact z_court (q := q) (ρ := σ) (by omega) r8 ⟨r1, r2, r3.1, r3.2, r4⟩ (fun _ => ⟨_, rfl, r, rfl⟩) (fun k => by exfalso; omega) (fun k => by exfalso; omega) (fun k => by exfalso; omega)
  · exact z_court (q := q) (ρ := σ) (by omega) r8 ⟨r1, r2, r3.1, r3.2, r4⟩ (fun k => by exfalso; omega) (fun _ => ⟨_, rfl, r, rfl⟩) (fun k => by exfalso; omega) (fun k => by exfalso; omega)
  · have fr : ∀ k i, ¬ (q ≤ k ∧ k ≤ q + 3) → ¬ (k = 32 ∧ (i = 1 ∨ i = 2)) → q_up (q_up (u_rd (fun i => σ 33 i) (σ 32 1) q 10 0 (u_clr σ q)).2.2 32 2 (u_rd (fun i => σ 33 i) (σ 32 1) q 10 0 (u_clr σ q)).2.1) 32 1 0 k i = σ k i := fun k i h0 h1 => (q_unn (by omega)).trans ((q_unn (by omega)).trans ((u_rd_fr (by omega) _ _ _).trans (u_clr_fr (by omega))))
    have e1 : q_up (q_up (u_rd (fun i => σ 33 i) (σ 32 1) q 10 0 (u_clr σ q)).2.2 32 2 (u_rd (fun i => σ 33 i) (σ 32 1) q 10 0 (u_clr σ q)).2.1) 32 1 0 32 1 = 0 := q_ue
    generalize hS : q_up (q_up (u_rd (fun i => σ 33 i) (σ 32 1) q 10 0 (u_clr σ q)).2.2 32 2 (u_rd (fun i => σ 33 i) (σ 32 1) q 10 0 (u_clr σ q)).2.1) 32 1 0 = S at fr e1
    have e31 := (fr 100 31 (by omega) (by omega)).trans r5
    refine z_court (q := q) (ρ := σ) (B := fun i => σ 33 i) (n := σ 32 1) (by omega) (m_W_c (fun k i h0 h1 => fr k i (by omega) (by omega)) r8) ⟨fun i => (fr 122 i (by omega) (by omega)).trans (r1 i), (fr 100 30 (by omega) (by omega)).trans r2, r3.1, r3.2, r4⟩ (fun k => by exfalso; omega) (fun k => by exfalso; omega) (fun k u2 σ' F => ⟨_, rfl, ?_, rfl⟩) (fun k u2 => absurd (u.symm.trans u2) (by decide))
    have gf : ∀ k i, ¬ (k = 100 ∧ (i = 53 ∨ i = 54 ∨ i = 30)) → ¬ (124 ≤ k ∧ k ≤ 128 ∧ i = S 100 31) → ¬ (129 ≤ k ∧ k ≤ 132 ∧ 10 * S 100 31 ≤ i ∧ i < 10 * S 100 31 + 10) → q_up σ' 100 30 0 k i = S k i := fun k i h0 h1 h2 => (q_unn (by omega)).trans (F k i (by omega) h1 h2)
    rw [e31] at gf
    have gg : ∀ k i, k < 100 → q_up σ' 100 30 0 k i = S k i := fun k i hk => gf k i (by omega) (by omega) (by omega)
    have e34 : q_up σ' 100 30 0 34 2 = σ 34 2 := (gg 34 2 (by decide)).trans (fr 34 2 (by omega) (by omega))
    refine ⟨⟨fun i => ?_, ?_, ?_, fun i => ?_⟩, ⟨?_, ?_⟩, ?_, ?_, ?_⟩
    · rw [gf 122 i (by omega) (by omega) (by omega), fr 122 i (by omega) (by omega), gg 33 i (by omega), fr 33 i (by omega) (by omega)]; exact r1 i
    · rw [q_ue, gg 32 1 (by decide), e1]
    · rw [gg 32 1 (by decide), e1]; decide
    · rw [gg 33 i (by omega), fr 33 i (by omega) (by omega)]; exact r4 i
    · rw [gf 100 31 (by omega) (by omega) (by omega), e31, e34]
    · rw [e34]; exact r6
    · rw [e34]
      exact RC_old r7 (fun k i h0 h1 => (gg k i (by omega)).trans (fr k i (by omega) (by omega))) (fun k i h0 h1 h2 => (gf k i (by omega) (by omega) (by omega)).trans (fr k i (by omega) (by omega))) (fun k i h0 h1 h2 => (gf k i (by omega) (by omega) (by omega)).trans (fr k i (by omega) (by omega)))
    · exact m_W_c (fun k i h0 h1 => (gf k i (by omega) (by omega) (by omega)).trans (fr k i (by omega) (by omega))) r8
    · rw [gg 36 1 (by decide), fr 36 1 (by omega) (by omega), gg 36 2 (by decide), fr 36 2 (by omega) (by omega), gg 36 3 (by decide), fr 36 3 (by omega) (by omega), gg 36 4 (by decide), fr 36 4 (by omega) (by omega), gg 36 8 (by decide), fr 36 8 (by omega) (by omega)]; exact r9
  · have hf : 0 ≤ (u_rd (fun i => σ 33 i) (σ 32 1) q 10 0 (u_clr σ q)).2.2 q 2 ∧ (u_rd (fun i => σ 33 i) (σ 32 1) q 10 0 (u_clr σ q)).2.2 q 2 ≤ 999 := u_rd_2 _ _ _ (by decide) r3.1 u (by unfold u_clr; rw [q_ui (by decide), q_ui (by decide), q_ui (by decide), q_ue]; decide)
    have fu : ∀ k i, ¬ (q ≤ k ∧ k ≤ q + 3) → (u_rd (fun i => σ 33 i) (σ 32 1) q 10 0 (u_clr σ q)).2.2 k i = σ k i := fun k i h0 => (u_rd_fr (by omega) _ _ _).trans (u_clr_fr (by omega))
    generalize hU : (u_rd (fun i => σ 33 i) (σ 32 1) q 10 0 (u_clr σ q)) = U at hf fu
    have fr : ∀ k i, ¬ (q ≤ k ∧ k ≤ q + 3) → ¬ (k = 32 ∧ (i = 1 ∨ i = 2)) → ¬ (k = 34 ∧ i = 2) → q_up (q_up (q_up (q_up U.2.2 32 2 U.2.1) 32 1 0) q 0 a) 34 2 (σ 34 2 + 1) k i = σ k i := fun k i h0 h1 h2 => (q_unn (by omega)).trans ((q_unn (by omega)).trans ((q_unn (by omega)).trans ((q_unn (by omega)).trans (fu k i h0))))
    have fq : ∀ k i, (q ≤ k ∧ k ≤ q + 3) → ¬ (k = q ∧ i = 0) → q_up (q_up (q_up (q_up U.2.2 32 2 U.2.1) 32 1 0) q 0 a) 34 2 (σ 34 2 + 1) k i = U.2.2 k i := fun k i h0 h1 => (q_unn (by omega)).trans ((q_unn (by omega)).trans ((q_unn (by omega)).trans (q_unn (by omega))))
    have e0 : q_up (q_up (q_up (q_up U.2.2 32 2 U.2.1) 32 1 0) q 0 a) 34 2 (σ 34 2 + 1) q 0 = a := (q_unn (by omega)).trans q_ue
    have e1 : q_up (q_up (q_up (q_up U.2.2 32 2 U.2.1) 32 1 0) q 0 a) 34 2 (σ 34 2 + 1) 32 1 = 0 := (q_unn (by omega)).trans ((q_unn (by omega)).trans q_ue)
    have e34 : q_up (q_up (q_up (q_up U.2.2 32 2 U.2.1) 32 1 0) q 0 a) 34 2 (σ 34 2 + 1) 34 2 = σ 34 2 + 1 := q_ue
    generalize hS : q_up (q_up (q_up (q_up U.2.2 32 2 U.2.1) 32 1 0) q 0 a) 34 2 (σ 34 2 + 1) = S at fr fq e0 e1 e34
    have e31 := (fr 100 31 (by omega) (by omega) (by omega)).trans r5
    refine z_court (q := q) (ρ := σ) (B := fun i => σ 33 i) (n := σ 32 1) (by omega) (m_W_c (fun k i h0 h1 => fr k i (by omega) (by omega) (by omega)) r8) ⟨fun i => (fr 122 i (by omega) (by omega) (by omega)).trans (r1 i), (fr 100 30 (by omega) (by omega) (by omega)).trans r2, r3.1, r3.2, r4⟩ (fun k => by exfalso; omega) (fun k => by exfalso; omega) (fun k u2 => absurd (u.symm.trans u2) (by decide)) (fun k u2 σ' F C => ⟨_, rfl, ?_, e31.symm⟩)
    rw [hU] at C
    rw [e31] at F C ⊢
    obtain ⟨T, hT⟩ : ∃ T, T = q_up (q_up (q_up σ' 100 30 0) 123 (σ 34 2) a) 100 31 (σ 34 2 + 1) := ⟨_, rfl⟩
    rw [← hT]
    have gf : ∀ k i, ¬ (k = 100 ∧ (i = 53 ∨ i = 54 ∨ i = 30 ∨ i = 31)) → ¬ (123 ≤ k ∧ k ≤ 128 ∧ i = σ 34 2) → ¬ (129 ≤ k ∧ k ≤ 132 ∧ 10 * σ 34 2 ≤ i ∧ i < 10 * σ 34 2 + 10) → T k i = S k i := fun k i h0 h1 h2 => by rw [hT]; exact (q_unn (by omega)).trans ((q_unn (by omega)).trans ((q_unn (by omega)).trans (F k i (by omega) (by omega) h2)))
    have gg : ∀ k i, k < 100 → T k i = S k i := fun k i hk => gf k i (by omega) (by omega) (by omega)
    have gr : ∀ k i, 124 ≤ k → k ≤ 132 → T k i = σ' k i := fun k i h0 h1 => by rw [hT]; exact (q_un (by omega)).trans ((q_un (by omega)).trans (q_un (by omega)))
    have t30 : T 100 30 = 0 := by rw [hT]; exact (q_ui (by decide)).trans ((q_un (by decide)).trans q_ue)
    have t31 : T 100 31 = σ 34 2 + 1 := by rw [hT]; exact q_ue
    have t123 : T 123 (σ 34 2) = a := by rw [hT]; exact (q_un (by decide)).trans q_ue
    have t34 := (gg 34 2 (by decide)).trans e34
    refine ⟨⟨fun i => ?_, ?_, ?_, fun i => ?_⟩, ⟨?_, ?_⟩, ?_, ?_, ?_⟩
    · rw [gf 122 i (by omega) (by omega) (by omega), fr 122 i (by omega) (by omega) (by omega), gg 33 i (by omega), fr 33 i (by omega) (by omega) (by omega)]; exact r1 i
    · rw [t30, gg 32 1 (by decide), e1]
    · rw [gg 32 1 (by decide), e1]; decide
    · rw [gg 33 i (by omega), fr 33 i (by omega) (by omega) (by omega)]; exact r4 i
    · rw [t31, t34]
    · rw [t34]; omega
    · rw [t34]
      intro j h0 h1
      by_cases ej : j < σ 34 2
      · exact RC_old r7 (fun k i h0 h1 => (gg k i (by omega)).trans (fr k i (by omega) (by omega) (by omega))) (fun k i h0 h1 h2 => (gf k i (by omega) (by omega) (by omega)).trans (fr k i (by omega) (by omega) (by omega))) (fun k i h0 h1 h2 => (gf k i (by omega) (by omega) (by omega)).trans (fr k i (by omega) (by omega) (by omega))) j h0 ej
      · have ej : j = σ 34 2 := by omega
        rw [ej, ← eq, t123, gg q 0 (by omega), e0, gg q 2 (by omega), fq q 2 (by omega) (by omega), gg q 8 (by omega), fq q 8 (by omega) (by omega)]
        refine ⟨rfl, m_C_x C (fun k k0 k1 => gr k _ (by omega) (by omega)) (fun k i k0 k1 _ _ => gr k i (by omega) (by omega)) (fun i hi => (gg q i (by omega)).trans (fq q i (by omega) (by omega))) (fun k i k0 k1 => (gg k i (by omega)).trans (fq k i (by omega) (by omega))), hf, ?_⟩
        have o8 := u_rd_8 (B := fun i => σ 33 i) (n := σ 32 1) (q := q) 10 0 (u_clr σ q) 0 (by unfold u_clr; rw [q_ue]; omega)
        rw [hU] at o8
        have := o8.2
        omega
    · exact m_W_c (fun k i h0 h1 => (gf k i (by omega) (by omega) (by omega)).trans (fr k i (by omega) (by omega) (by omega))) r8
    · rw [gg 36 1 (by decide), fr 36 1 (by omega) (by omega) (by omega), gg 36 2 (by decide), fr 36 2 (by omega) (by omega) (by omega), gg 36 3 (by decide), fr 36 3 (by omega) (by omega) (by omega), gg 36 4 (by decide), fr 36 4 (by omega) (by omega) (by omega), gg 36 8 (by decide), fr 36 8 (by omega) (by omega) (by omega)]; exact r9

theorem ck_0 {a b : Int} {σ : q_S} (h : q_IN σ) (r : y_RC σ) : q_P2 L xs i_A_level [(2, 0), (0, a), (0, b)] i_M_level [(2, 100), (0, a), (0, b)] σ (fun _ _ σ2 => y_RC σ2) :=
  q_fr3 (D := d_RC) (f_0 h) (fun _ _ e r => RCc e r) (fun k i hk => by unfold d_RC at hk; unfold f_a0 f_m0; omega) r
theorem ck_1 {a b : Int} {σ : q_S} (h : q_IN σ) (r : y_RC σ) : q_P2 L xs i_A_cell [(2, 0), (0, a), (0, b)] i_M_cell [(2, 100), (0, a), (0, b)] σ (fun _ _ σ2 => y_RC σ2) :=
  q_fr3 (D := d_RC) (f_1 h) (fun _ _ e r => RCc e r) (fun k i hk => by unfold d_RC at hk; unfold w_no; omega) r
theorem ck_2 {a b c d e : Int} {σ : q_S} (h : q_IN σ) (r : y_RC σ) : q_P2 L xs i_A_sell [(2, 0), (0, a), (0, b), (0, c), (0, d), (0, e)] i_M_sell [(2, 100), (0, a), (0, b), (0, c), (0, d), (0, e)] σ (fun _ _ σ2 => y_RC σ2) :=
  q_fr3 (D := d_RC) (f_2 h) (fun _ _ e r => RCc e r) (fun k i hk => by unfold d_RC at hk; unfold f_m2 w_sa; omega) r
theorem ck_3 {a b c d : Int} {σ : q_S} (h : q_IN σ) (r : y_RC σ) : q_P2 L xs i_A_held [(2, 0), (0, a), (0, b), (0, c), (0, d)] i_M_held [(2, 100), (0, a), (0, b), (0, c), (0, d)] σ (fun _ _ σ2 => y_RC σ2) :=
  q_fr3 (D := d_RC) (f_3 h) (fun _ _ e r => RCc e r) (fun k i hk => by unfold d_RC at hk; unfold w_no; omega) r
theorem ck_4 {a b c : Int} {σ : q_S} (h : q_IN σ) (r : y_RC σ) : q_P2 L xs i_A_rod [(2, 0), (0, a), (0, b), (0, c)] i_M_rod [(2, 100), (0, a), (0, b), (0, c)] σ (fun _ _ σ2 => y_RC σ2) :=
  q_fr3 (D := d_RC) (f_4 h) (fun _ _ e r => RCc e r) (fun k i hk => by unfold d_RC at hk; unfold f_m4 w_rod; omega) r
theorem ck_5 {a b : Int} {σ : q_S} (h : q_IN σ) (r : y_RC σ) : q_P2 L xs i_A_sluice [(2, 0), (0, a), (0, b)] i_M_sluice [(2, 100), (0, a), (0, b)] σ (fun _ _ σ2 => y_RC σ2) :=
  q_fr3 (D := d_RC) (f_5 h) (fun _ _ e r => RCc e r) (fun k i hk => by unfold d_RC at hk; unfold f_a5 f_m5; omega) r
theorem ck_6 {a b : Int} {σ : q_S} (h : q_IN σ) (r : y_RC σ) : q_P2 L xs i_A_about [(2, 0), (0, a), (0, b)] i_M_about [(2, 100), (0, a), (0, b)] σ (fun _ _ σ2 => y_RC σ2) :=
  q_fr3 (D := d_RC) (f_6 h) (fun _ _ e r => RCc e r) (fun k i hk => by unfold d_RC at hk; unfold w_no; omega) r
theorem ck_7 {a b c : Int} {σ : q_S} (h : q_IN σ) (r : y_RC σ) : q_P2 L xs i_A_gate [(2, 0), (0, a), (0, b), (0, c)] i_M_gate [(2, 100), (0, a), (0, b), (0, c)] σ (fun _ _ σ2 => y_RC σ2) :=
  q_fr3 (D := d_RC) (f_7 h) (fun _ _ e r => RCc e r) (fun k i hk => by unfold d_RC at hk; unfold f_a7 f_m7; omega) r
theorem ck_8 {a : Int} {σ : q_S} (h : q_IN σ) (r : y_RC σ) : q_P2 L xs i_A_herd [(2, 0), (0, a)] i_M_herd [(2, 100), (0, a)] σ (fun _ _ σ2 => y_RC σ2) :=
  q_fr3 (D := d_RC) (f_8 h) (fun _ _ e r => RCc e r) (fun k i hk => by unfold d_RC at hk; unfold f_a8 f_m8; omega) r
theorem ck_9 {a b : Int} {σ : q_S} (h : q_IN σ) (r : y_RC σ) : q_P2 L xs i_A_drive [(2, 0), (0, a), (0, b)] i_M_drive [(2, 100), (0, a), (0, b)] σ (fun _ _ σ2 => y_RC σ2) :=
  q_fr3 (D := d_RC) (f_9 h) (fun _ _ e r => RCc e r) (fun k i hk => by unfold d_RC at hk; unfold f_m9 w_hd; omega) r
theorem ck_10 {a : Int} {σ : q_S} (h : q_IN σ) (r : y_RC σ) : q_P2 L xs i_A_where [(2, 0), (0, a)] i_M_where [(2, 100), (0, a)] σ (fun _ _ σ2 => y_RC σ2) :=
  q_fr3 (D := d_RC) (f_10 h) (fun _ _ e r => RCc e r) (fun k i hk => by unfold d_RC at hk; unfold w_no; omega) r
theorem ck_11 {a b c : Int} {σ : q_S} (h : q_IN σ) (r : y_RC σ) : q_P2 L xs i_A_way [(2, 0), (0, a), (0, b), (0, c)] i_M_way [(2, 100), (0, a), (0, b), (0, c)] σ (fun _ _ σ2 => y_RC σ2) :=
  q_fr3 (D := d_RC) (f_11 h) (fun _ _ e r => RCc e r) (fun k i hk => by unfold d_RC at hk; unfold f_m11 w_wy; omega) r
theorem ck_12 {a b c : Int} {σ : q_S} (h : q_IN σ) (r : y_RC σ) : q_P2 L xs i_A_tide [(2, 0), (0, a), (0, b), (0, c)] i_M_tide [(2, 100), (0, a), (0, b), (0, c)] σ (fun _ _ σ2 => y_RC σ2) :=
  q_fr3 (D := d_RC) (f_12 h) (fun _ _ e r => RCc e r) (fun k i hk => by unfold d_RC at hk; unfold f_a12 f_m12 q_okT w_tide; omega) r
theorem ck_13 {a : Int} {σ : q_S} (h : q_IN σ) (r : y_RC σ) : q_P2 L xs i_A_pass [(2, 0), (0, a)] i_M_pass [(2, 100), (0, a)] σ (fun _ _ σ2 => y_RC σ2) :=
  q_fr3 (D := d_RC) (f_13 h) (fun _ _ e r => RCc e r) (fun k i hk => by unfold d_RC at hk; unfold f_a13 f_m13; omega) r
theorem ck_14 {σ : q_S} (h : q_IN σ) (r : y_RC σ) : q_P2 L xs i_A_year [(2, 0)] i_M_year [(2, 100)] σ (fun _ _ σ2 => y_RC σ2) :=
  q_fr3 (D := d_RC) (f_14 h) (fun _ _ e r => RCc e r) (fun k i hk => by unfold d_RC at hk; unfold f_m14 w_tide; omega) r
theorem ck_17 {a b c : Int} {σ : q_S} (h : q_IN σ) (r : y_RC σ) : q_P2 L xs i_A_custom [(2, 0), (0, a), (0, b), (0, c)] i_M_custom [(2, 100), (0, a), (0, b), (0, c)] σ (fun _ _ σ2 => y_RC σ2) :=
  q_fr3 (D := d_RC) (f_17 h) (fun _ _ e r => RCc e r) (fun k i hk => by unfold d_RC at hk; unfold w_no; omega) r
theorem ck_18 {a b c d : Int} {σ : q_S} (h : q_IN σ) (r : y_RC σ) : q_P2 L xs i_A_mender [(2, 0), (0, a), (0, b), (0, c), (0, d)] i_M_mender [(2, 100), (0, a), (0, b), (0, c), (0, d)] σ (fun _ _ σ2 => y_RC σ2) :=
  q_fr3 (D := d_RC) (f_18 h) (fun _ _ e r => RCc e r) (fun k i hk => by unfold d_RC at hk; unfold f_m18 w_sh; omega) r
theorem ck_19 {a : Int} {σ : q_S} (h : q_IN σ) (r : y_RC σ) : q_P2 L xs i_A_view [(2, 0), (0, a)] i_M_view [(2, 100), (0, a)] σ (fun _ _ σ2 => y_RC σ2) :=
  q_fr3 (D := d_RC) (f_19 h) (fun _ _ e r => RCc e r) (fun k i hk => by unfold d_RC at hk; unfold f_m19 w_vi; omega) r
theorem ck_20 {a b c : Int} {σ : q_S} (h : q_IN σ) (r : y_RC σ) : q_P2 L xs i_A_mend [(2, 0), (0, a), (0, b), (0, c)] i_M_mend [(2, 100), (0, a), (0, b), (0, c)] σ (fun _ _ σ2 => y_RC σ2) :=
  q_fr3 (D := d_RC) (f_20 h) (fun _ _ e r => RCc e r) (fun k i hk => by unfold d_RC at hk; unfold f_m20 w_me; omega) r
theorem ck_21 {a b : Int} {σ : q_S} (h : q_IN σ) (r : y_RC σ) : q_P2 L xs i_A_fault [(2, 0), (0, a), (0, b)] i_M_fault [(2, 100), (0, a), (0, b)] σ (fun _ _ σ2 => y_RC σ2) :=
  q_fr3 (D := d_RC) (f_21 h) (fun _ _ e r => RCc e r) (fun k i hk => by unfold d_RC at hk; unfold w_no; omega) r
theorem ck_22 {a : Int} {σ : q_S} (h : q_IN σ) (r : y_RC σ) : q_P2 L xs i_A_fines [(2, 0), (0, a)] i_M_fines [(2, 100), (0, a)] σ (fun _ _ σ2 => y_RC σ2) :=
  q_fr3 (D := d_RC) (f_22 h) (fun _ _ e r => RCc e r) (fun k i hk => by unfold d_RC at hk; unfold w_no; omega) r
theorem ck_23 {a : Int} {σ : q_S} (h : q_IN σ) (r : y_RC σ) : q_P2 L xs i_A_mended [(2, 0), (0, a)] i_M_mended [(2, 100), (0, a)] σ (fun _ _ σ2 => y_RC σ2) :=
  q_fr3 (D := d_RC) (f_23 h) (fun _ _ e r => RCc e r) (fun k i hk => by unfold d_RC at hk; unfold w_no; omega) r
theorem ck_24 {a b : Int} {σ : q_S} (h : q_IN σ) (r : y_RC σ) : q_P2 L xs i_A_works [(2, 0), (0, a), (0, b)] i_M_works [(2, 100), (0, a), (0, b)] σ (fun _ _ σ2 => y_RC σ2) :=
  q_fr3 (D := d_RC) (f_24 h) (fun _ _ e r => RCc e r) (fun k i hk => by unfold d_RC at hk; unfold f_m24 w_pl; omega) r
theorem ck_25 {a b : Int} {σ : q_S} (h : q_IN σ) (r : y_RC σ) : q_P2 L xs i_A_scot [(2, 0), (0, a), (0, b)] i_M_scot [(2, 100), (0, a), (0, b)] σ (fun _ _ σ2 => y_RC σ2) :=
  q_fr3 (D := d_RC) (f_25 h) (fun _ _ e r => RCc e r) (fun k i hk => by unfold d_RC at hk; unfold f_m25 w_sh; omega) r
theorem ck_26 {a : Int} {σ : q_S} (h : q_IN σ) (r : y_RC σ) : q_P2 L xs i_A_count [(2, 0), (0, a)] i_M_count [(2, 100), (0, a)] σ (fun _ _ σ2 => y_RC σ2) :=
  q_fr3 (D := d_RC) (f_26 h) (fun _ _ e r => RCc e r) (fun k i hk => by unfold d_RC at hk; unfold w_no; omega) r
end X6
