/-! feed: the bytes of a word, of both -/
def u_by (w : Int) (k : Nat) : Int := (w / 2 ^ (8 * k)) % 256
theorem q_a32 (x : Int) : q_and32 x 255 = x % 256 := by
  unfold q_and32
  have h : (BitVec.ofInt 32 x &&& BitVec.ofInt 32 255).toNat = (x % 256).toNat := by
    rw [BitVec.toNat_and, BitVec.toNat_ofInt, BitVec.toNat_ofInt]
    have e : ((255 : Int) % ((2 ^ 32 : Nat) : Int)).toNat = 2 ^ 8 - 1 := by decide
    rw [e, Nat.and_two_pow_sub_one_eq_mod]
    omega
  rw [BitVec.toInt_eq_toNat_cond, h, if_pos (by omega)]
  omega
theorem q_a64 (x : Int) : q_and64 x 255 = x % 256 := by
  unfold q_and64
  have h : (BitVec.ofInt 64 x &&& BitVec.ofInt 64 255).toNat = (x % 256).toNat := by
    rw [BitVec.toNat_and, BitVec.toNat_ofInt, BitVec.toNat_ofInt]
    have e : ((255 : Int) % ((2 ^ 64 : Nat) : Int)).toNat = 2 ^ 8 - 1 := by decide
    rw [e, Nat.and_two_pow_sub_one_eq_mod]
    omega
  rw [BitVec.toInt_eq_toNat_cond, h, if_pos (by omega)]
  omega
theorem u_sh {k : Nat} (hk : k < 8) : (2 : Int) ^ ((q_w32 (8 * (k : Int))) % 64).toNat = 2 ^ (8 * k) := by
  have h8 : k = 0 ∨ k = 1 ∨ k = 2 ∨ k = 3 ∨ k = 4 ∨ k = 5 ∨ k = 6 ∨ k = 7 := by omega
  rcases h8 with rfl | rfl | rfl | rfl | rfl | rfl | rfl | rfl
  all_goals decide
theorem u_byA {w : Int} {k : Nat} (hk : k < 8) : q_and32 (q_w32 (q_w64 (w % 18446744073709551616 / 2 ^ ((q_w32 (8 * (k : Int))) % 64).toNat))) 255 = u_by w k := by
  rw [q_a32, u_sh hk]
  unfold u_by
  have h8 : k = 0 ∨ k = 1 ∨ k = 2 ∨ k = 3 ∨ k = 4 ∨ k = 5 ∨ k = 6 ∨ k = 7 := by omega
  rcases h8 with rfl | rfl | rfl | rfl | rfl | rfl | rfl | rfl
  · rw [show (2 : Int) ^ (8 * 0) = 1 by decide]; unfold q_w32 q_w64; omega
  · rw [show (2 : Int) ^ (8 * 1) = 256 by decide]; unfold q_w32 q_w64; omega
  · rw [show (2 : Int) ^ (8 * 2) = 65536 by decide]; unfold q_w32 q_w64; omega
  · rw [show (2 : Int) ^ (8 * 3) = 16777216 by decide]; unfold q_w32 q_w64; omega
  · rw [show (2 : Int) ^ (8 * 4) = 4294967296 by decide]; unfold q_w32 q_w64; omega
  · rw [show (2 : Int) ^ (8 * 5) = 1099511627776 by decide]; unfold q_w32 q_w64; omega
  · rw [show (2 : Int) ^ (8 * 6) = 281474976710656 by decide]; unfold q_w32 q_w64; omega
  · rw [show (2 : Int) ^ (8 * 7) = 72057594037927936 by decide]; unfold q_w32 q_w64; omega
theorem u_byM {w : Int} {k : Nat} (hk : k < 8) : q_w32 (q_and64 (w / 2 ^ ((q_w32 (8 * (k : Int))) % 64).toNat) 255) = u_by w k := by
  rw [q_a64, u_sh hk]
  unfold u_by
  rw [q_w32_id] <;> omega
theorem u_by_in {w : Int} {k : Nat} : 0 ≤ u_by w k ∧ u_by w k ≤ 255 := by unfold u_by; omega
/-- k bytes more -/
def u_fd (w : Int) : Nat → q_S → q_S
  | 0, σ => σ
  | k + 1, σ => u_fd w k (q_up (q_up σ 33 (σ 32 1) (u_by w k)) 32 1 (σ 32 1 + 1))
theorem u_fd_1 {w : Int} : ∀ (k : Nat) (σ : q_S), u_fd w k σ 32 1 = σ 32 1 + k
  | 0, σ => by unfold u_fd; omega
  | k + 1, σ => by
    have e : u_fd w (k + 1) σ = u_fd w k (q_up (q_up σ 33 (σ 32 1) (u_by w k)) 32 1 (σ 32 1 + 1)) := rfl
    rw [e, u_fd_1 k, q_ue]
    omega
section W1
variable {L : Nat} {xs : Int → Int}
theorem ul_app {w n : Int} {K : q_R → q_S → Prop} : ∀ (k : Nat) (σ : q_S), k ≤ 8 → 0 ≤ σ 32 1 → σ 32 1 + k ≤ 160 → K none (u_fd w k σ) → q_E L xs k_Tape_append (4, [(2, 32), (1, w), (9, 0), (0, n), (0, (k : Int) - 1)], [], σ) K := by
  intro k
  induction k with
  | zero =>
    intro σ _ _ _ hK
    refine q_go1 200 4 [4] (fun cl ev hcl hev => ?_)
    exact And.intro (fun _ => hK) (fun z => absurd (show ((0 : Nat) : Int) - 1 < 0 by decide) z)
  | succ k ih =>
    intro σ hk h0 h1 hK
    have ek : ((k + 1 : Nat) : Int) - 1 = (k : Int) := by omega
    have e : q_w32 ((k : Int) + -1) = (k : Int) - 1 := by rw [q_w32_id] <;> omega
    have e1 : q_w32 (σ 32 1 + 1) = σ 32 1 + 1 := by rw [q_w32_id] <;> omega
    have er : u_fd w (k + 1) σ = u_fd w k (q_up (q_up σ 33 (σ 32 1) (u_by w k)) 32 1 (σ 32 1 + 1)) := rfl
    rw [er] at hK
    rw [ek]
    refine q_go1 200 4 [4] (fun cl ev hcl hev => ?_)
    refine And.intro (fun z => by exfalso; omega) (fun _ => ?_)
    refine And.intro (fun z => by exfalso; omega) (fun _ => ?_)
    refine And.intro (by omega) ?_
    refine hev _ ?_
    rw [e, u_byA (by omega), q_un (k := 33) (k' := 32) (by decide), e1]
    exact ih _ (by omega) (by rw [q_ue]; omega) (by rw [q_ue]; omega) hK
end W1
section W2
variable {L : Nat} {xs : Int → Int}
theorem u_app {w n : Int} {σ : q_S} {K : q_R → q_S → Prop} (hn : 1 ≤ n ∧ n ≤ 8) (h0 : 0 ≤ σ 32 1) (h1 : σ 32 1 + n ≤ 160) (hK : K none (u_fd w n.toNat σ)) : q_K L xs i_Tape_append [(2, 32), (1, w), (0, n)] σ K := by
  have e : q_w32 (n - 1) = (n.toNat : Int) - 1 := by rw [q_w32_id] <;> omega
  refine q_call k_Tape_append 5 rfl ?_
  show q_E L xs k_Tape_append (0, [(2, 32), (1, w), (9, 0), (0, n), (9, 0)], [], σ) K
  refine q_go1 200 0 [4] (fun cl ev hcl hev => ?_)
  refine hev _ ?_
  rw [e]
  exact ul_app n.toNat σ (by omega) h0 (by omega) hK
theorem x_feed {w n : Int} {σ : q_S} {K : q_R → q_S → Prop} (hs : 0 ≤ σ 32 1 ∧ σ 32 1 ≤ 160) (h2 : ¬ (1 ≤ n ∧ n ≤ 8) → K (some (0, -2)) σ) (h4 : (1 ≤ n ∧ n ≤ 8 ∧ 160 < σ 32 1 + n) → K (some (0, -4)) σ) (h1 : (1 ≤ n ∧ n ≤ 8 ∧ σ 32 1 + n ≤ 160) → K (some (0, σ 32 1 + n)) (u_fd w n.toNat σ)) : q_K L xs i_A_feed [(2, 0), (1, w), (0, n)] σ K := by
  have e1 : (1 ≤ n ∧ n ≤ 8) → q_w32 (σ 32 1 + n) = σ 32 1 + n := fun _ => by rw [q_w32_id] <;> omega
  have e2 : (1 ≤ n ∧ n ≤ 8) → u_fd w n.toNat σ 32 1 = σ 32 1 + n := fun _ => by rw [u_fd_1]; omega
  refine q_call k_A_feed 4 rfl ?_
  show q_E L xs k_A_feed (0, [(2, 0), (1, w), (9, 0), (0, n)], [], σ) K
  refine q_go1 200 0 [] (fun cl ev hcl hev => ?_)
  show cl _ _ _ _
  refine hcl _ _ _ _ (c_A_within (fun g => ?_) (fun g => ?_))
  · refine And.intro (fun _ => ?_) (fun z => absurd (show (1 : Int) ≠ 0 by decide) z)
    have e1 := e1 g
    refine And.intro (fun z => ?_) (fun z => ?_)
    · show cl _ _ _ _
      refine hcl _ _ _ _ (u_app g hs.1 (by omega) ?_)
      show K (some (0, u_fd w n.toNat σ 32 1)) (u_fd w n.toNat σ)
      rw [e2 g]
      exact h1 (by omega)
    · exact h4 (by omega)
  · exact And.intro (fun z => absurd rfl z) (fun _ => h2 g)
/-- the tapes are alike -/
def y_B (σ τ : q_S) : Prop := (∀ i, σ 122 i = τ 33 i) ∧ σ 100 30 = τ 32 1
theorem zl_feed {w n : Int} {K : q_R → q_S → Prop} : ∀ (k : Nat) (σ τ : q_S), k ≤ 8 → y_B σ τ → 0 ≤ τ 32 1 → τ 32 1 + k ≤ 160 → (∀ σ', y_B σ' (u_fd w k τ) → K (some (0, τ 32 1 + k)) σ') → q_E L xs k_M_feed (19, [(2, 100), (1, w), (9, 0), (0, n), (0, (k : Int) - 1)], [], σ) K := by
  intro k
  induction k with
  | zero =>
    intro σ τ _ M h0 h1 hK
    have hK := hK σ M
    have e30 := M.2
    refine q_go1 200 19 [19] (fun cl ev hcl hev => ?_)
    refine And.intro (fun _ => ?_) (fun z => absurd (show ((0 : Nat) : Int) - 1 < 0 by decide) z)
    show K (some (0, σ 100 30)) σ
    rw [e30, show τ 32 1 = τ 32 1 + ((0 : Nat) : Int) by omega]
    exact hK
  | succ k ih =>
    intro σ τ hk M h0 h1 hK
    have e30 := M.2
    have ek : ((k + 1 : Nat) : Int) - 1 = (k : Int) := by omega
    have e : q_w32 ((k : Int) + -1) = (k : Int) - 1 := by rw [q_w32_id] <;> omega
    have e1 : q_w32 (σ 100 30 + 1) = τ 32 1 + 1 := by rw [e30, q_w32_id] <;> omega
    have er : u_fd w (k + 1) τ = u_fd w k (q_up (q_up τ 33 (τ 32 1) (u_by w k)) 32 1 (τ 32 1 + 1)) := rfl
    rw [er] at hK
    rw [ek]
    refine q_go1 200 19 [19] (fun cl ev hcl hev => ?_)
    refine And.intro (fun z => by exfalso; omega) (fun _ => ?_)
    refine And.intro (by omega) ?_
    refine hev _ ?_
    rw [e, u_byM (by omega), q_un (k := 122) (k' := 100) (by decide), e1, e30]
    refine ih _ (q_up (q_up τ 33 (τ 32 1) (u_by w k)) 32 1 (τ 32 1 + 1)) (by omega) ⟨fun i => ?_, ?_⟩ (by rw [q_ue]; omega) (by rw [q_ue]; omega) (fun σ' M' => ?_)
    · rw [q_un (k := 100) (k' := 122) (by decide), q_un (k := 32) (k' := 33) (by decide)]
      by_cases ei : i = τ 32 1
      · rw [ei, q_ue, q_ue]
      · rw [q_ui ei, q_ui ei]; exact M.1 i
    · rw [q_ue, q_ue]
    · rw [q_ue, show τ 32 1 + 1 + (k : Int) = τ 32 1 + ((k + 1 : Nat) : Int) by omega]
      exact hK σ' M'
theorem z_feed {w n : Int} {σ τ : q_S} {K : q_R → q_S → Prop} (M : y_B σ τ) (hs : 0 ≤ τ 32 1 ∧ τ 32 1 ≤ 160) (h2 : ¬ (1 ≤ n ∧ n ≤ 8) → K (some (0, -2)) σ) (h4 : (1 ≤ n ∧ n ≤ 8 ∧ 160 < τ 32 1 + n) → K (some (0, -4)) σ) (h1 : (1 ≤ n ∧ n ≤ 8 ∧ τ 32 1 + n ≤ 160) → ∀ σ', y_B σ' (u_fd w n.toNat τ) → K (some (0, τ 32 1 + n)) σ') : q_K L xs i_M_feed [(2, 100), (1, w), (0, n)] σ K := by
  have e30 := M.2
  have e1 : (1 ≤ n ∧ n ≤ 8) → q_w32 (σ 100 30 + n) = τ 32 1 + n := fun _ => by rw [e30, q_w32_id] <;> omega
  have e2 : (1 ≤ n ∧ n ≤ 8) → q_w32 (n - 1) = (n.toNat : Int) - 1 := fun _ => by rw [q_w32_id] <;> omega
  refine q_call k_M_feed 5 rfl ?_
  show q_E L xs k_M_feed (0, [(2, 100), (1, w), (9, 0), (0, n), (9, 0)], [], σ) K
  refine q_go1 200 0 [19] (fun cl ev hcl hev => ?_)
  show cl _ _ _ _
  refine hcl _ _ _ _ (c_M_in (fun g => ?_) (fun g => ?_))
  · refine And.intro (fun _ => ?_) (fun z => absurd (show (1 : Int) ≠ 0 by decide) z)
    have e1 := e1 g
    have e2 := e2 g
    refine And.intro (fun z => ?_) (fun z => ?_)
    · refine hev _ ?_
      rw [e2]
      exact zl_feed n.toNat σ τ (by omega) M hs.1 (by omega) (fun σ' M' => by
        have := h1 (by omega) σ' M'
        rw [show τ 32 1 + (n.toNat : Int) = τ 32 1 + n by omega]
        exact this)
    · exact h4 (by omega)
  · exact And.intro (fun z => absurd rfl z) (fun _ => h2 g)
end W2
