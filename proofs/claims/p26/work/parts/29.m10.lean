/-- the customs' rows are sound -/
def q_IC (σ : q_S) : Prop := (0 ≤ σ 100 31 ∧ σ 100 31 ≤ 12) ∧ (∀ c, 0 ≤ c → c < 12 → 0 ≤ σ 128 c ∧ σ 128 c ≤ 10) ∧ (∀ j, (0 ≤ σ 129 j ∧ σ 129 j ≤ 23) ∧ (0 ≤ σ 130 j ∧ σ 130 j ≤ 23)) ∧ (∀ c, 0 ≤ c → c < 12 → 0 ≤ σ 124 c ∧ σ 124 c ≤ 99)
/-- the last n of eight -/
def q_rs (f : Int → Int) : Nat → Int
  | 0 => 0
  | n + 1 => f (7 - n) + q_rs f n
theorem q_rs8 {f : Int → Int} : q_rs f 8 = q_s8 f := by
  show f (7 - (7 : Nat)) + (f (7 - (6 : Nat)) + (f (7 - (5 : Nat)) + (f (7 - (4 : Nat)) + (f (7 - (3 : Nat)) + (f (7 - (2 : Nat)) + (f (7 - (1 : Nat)) + (f (7 - (0 : Nat)) + 0))))))) = _
  unfold q_s8
  simp only [Int.cast_ofNat_Int]
  show f 0 + (f 1 + (f 2 + (f 3 + (f 4 + (f 5 + (f 6 + (f 7 + 0))))))) = f 0 + f 1 + f 2 + f 3 + f 4 + f 5 + f 6 + f 7
  omega
section P29
variable {L : Nat} {xs : Int → Int}
/-- along the shares to the owner of a place -/
theorem l_M_mender3 {rod on kn sold c cls : Int} {σ : q_S} {K : q_R → q_S → Prop} (hpos : ∀ o, 0 ≤ o → o ≤ 7 → 0 ≤ σ 145 o) (hK : ∀ r, K (some (0, r)) σ) :
    ∀ (n : Nat) (at_ : Int), n ≤ 8 → 0 ≤ at_ → at_ < 10000 → at_ < q_rs (σ 145) n → q_E L xs k_M_menderOf (124, [(2, 100), (0, rod), (0, on), (0, kn), (0, sold), (0, c), (0, cls), (0, 8 - (n : Int)), (0, at_)], [], σ) K := by
  intro n
  induction n with
  | zero => intro at_ h1 h2 h3 h4; unfold q_rs at h4; omega
  | succ n ih =>
    intro at_ h1 h2 h3 h4
    have hp := hpos (7 - n) (by omega) (by omega)
    have eb : 8 - ((n + 1 : Nat) : Int) = 7 - n := by omega
    have e1 : q_w32 (7 - (n : Int) + 1) = 8 - n := by rw [q_w32_id] <;> omega
    unfold q_rs at h4
    rw [eb]
    refine q_go1 60 124 [124] (fun cl ev hcl hev => ?_)
    refine And.intro (by omega) ?_
    refine And.intro (fun hq => ?_) (fun hq => ?_)
    · exact hK _
    · refine And.intro (by omega) ?_
      refine hev _ ?_
      rw [e1, q_w32_id (by omega) (by omega)]
      exact ih _ (by omega) (by omega) (by omega) (by omega)
/-- the greatest owner of a cell: some owner -/
theorem l_M_mender2 {rod on kn sold c cls : Int} {σ : q_S} {K : q_R → q_S → Prop} (hr : 0 ≤ rod ∧ rod < 24) (hs : 0 ≤ sold ∧ sold ≤ 120) (hp : ∀ j : Nat, (j : Int) < sold → 0 ≤ σ 110 j ∧ σ 110 j ≤ 12) (hK : ∀ r, K (some (0, r)) σ) :
    ∀ (m : Nat) (b i : Int), 8 - i < m → 1 ≤ i → i ≤ 8 → q_E L xs k_M_menderOf (72, [(2, 100), (0, rod), (0, on), (0, kn), (0, sold), (0, c), (0, cls), (0, b), (0, i)], [], σ) K := by
  intro m
  induction m with
  | zero => intro b i; omega
  | succ m ih =>
    intro b i hm hi hi2
    have e : q_w32 (i + 1) = i + 1 := by rw [q_w32_id] <;> omega
    refine q_go1 60 72 [72] (fun cl ev hcl hev => ?_)
    refine And.intro (fun hq => ?_) (fun hq => ?_)
    · exact hK _
    · refine And.intro (by omega) ?_
      refine hcl _ _ _ _ (c_M_heldOf hp hs ?_)
      refine And.intro (by omega) ?_
      refine hcl _ _ _ _ (c_M_heldOf hp hs ?_)
      refine And.intro (fun hq2 => ?_) (fun hq2 => ?_)
      · refine hev _ ?_
        rw [e]
        exact ih b (i + 1) (by omega) (by omega) (by omega)
      · refine hev _ ?_
        rw [e]
        exact ih i (i + 1) (by omega) (by omega) (by omega)
/-- behind the clauses -/
theorem l_M_mender4 {rod on kn sold c cls x7 : Int} {σ : q_S} {K : q_R → q_S → Prop} (hI : q_IS σ) (hC : q_IC σ) (hr : 0 ≤ rod ∧ rod < 24) (hs : 0 ≤ sold ∧ sold ≤ σ 100 7) (hcl0 : cls = -1 ∨ (0 ≤ cls ∧ cls < 120 ∧ σ 129 cls ≤ rod ∧ rod ≤ σ 130 cls)) (hK : ∀ σ' r, q_fd σ σ' → K (some (0, r)) σ') :
    q_E L xs k_M_menderOf (47, [(2, 100), (0, rod), (0, on), (0, kn), (0, sold), (0, c), (0, cls), (0, x7), (9, 0)], [], σ) K := by
  have hab := hC.2.2.1 cls
  have hI0 := hI.1
  have eK : ∀ r, K (some (0, r)) σ := fun r => hK σ r (fun _ _ _ _ => rfl)
  have es : q_w32 (q_w32 (σ 130 cls - σ 129 cls) + 1) = σ 130 cls - σ 129 cls + 1 := by unfold q_w32; omega
  refine q_go1 80 47 [47, 72, 124] (fun cl ev hcl hev => ?_)
  refine And.intro (fun hq => ?_) (fun hq => ?_)
  · refine And.intro (by omega) ?_
    refine And.intro (fun hq2 => ?_) (fun hq2 => ?_)
    · refine And.intro (by omega) ?_
      refine And.intro (fun hq3 => ?_) (fun hq3 => ?_)
      · refine And.intro (by omega) ?_
        refine And.intro (by omega) ?_
        refine hcl _ _ _ _ (c_M_deals hI (by omega) hs (fun σ1 f1 p1 s1 => ?_))
        have ea : σ1 129 cls = σ 129 cls := f1 _ _ (by decide) (by decide)
        refine And.intro (by omega) ?_
        refine hev _ ?_
        have e1 : q_w32 (rod - σ1 129 cls) = rod - σ 129 cls := by rw [ea, q_w32_id] <;> omega
        rw [e1]
        exact l_M_mender3 p1 (fun r => hK σ1 r f1) 8 (rod - σ 129 cls) (by omega) (by omega) (by omega) (by rw [q_rs8, s1, es]; omega)
      · exact hev _ (l_M_mender2 hr (by omega) (fun j hj => by have := (hI.2.1 j (by omega)).2.2; omega) eK 20 0 1 (by omega) (by omega) (by omega))
    · refine And.intro (by omega) ?_
      exact eK _
  · exact eK _
theorem l_M_mender1 {rod on kn sold c : Int} {σ : q_S} {K : q_R → q_S → Prop} (hI : q_IS σ) (hC : q_IC σ) (hr : 0 ≤ rod ∧ rod < 24) (hs : 0 ≤ sold ∧ sold ≤ σ 100 7) (hc : -1 ≤ c ∧ c < 12) (hK : ∀ σ' r, q_fd σ σ' → K (some (0, r)) σ') :
    ∀ (m : Nat) (cls k : Int), 10 - k < m → 0 ≤ k → k ≤ 10 → (cls = -1 ∨ (0 ≤ cls ∧ cls < 120 ∧ σ 129 cls ≤ rod ∧ rod ≤ σ 130 cls)) → q_E L xs k_M_menderOf (9, [(2, 100), (0, rod), (0, on), (0, kn), (0, sold), (0, c), (0, cls), (0, k), (9, 0)], [], σ) K := by
  intro m
  induction m with
  | zero => intro cls k; omega
  | succ m ih =>
    intro cls k hm hk0 hk hcls
    have e : q_w32 (k + 1) = k + 1 := by rw [q_w32_id] <;> omega
    have hcc := hC.2.1 c
    refine q_go1 80 9 [9, 47] (fun cl ev hcl hev => ?_)
    refine And.intro (fun hq => ?_) (fun hq => ?_)
    · exact hev _ (l_M_mender4 hI hC hr hs hcls hK)
    · have hcc := hcc (by omega) (by omega)
      have ei : q_w32 (q_w32 (10 * c) + k) = 10 * c + k := by unfold q_w32; omega
      refine And.intro (by omega) ?_
      refine And.intro (fun hq2 => ?_) (fun hq2 => ?_)
      · exact hev _ (l_M_mender4 hI hC hr hs hcls hK)
      · refine And.intro (by omega) ?_
        refine And.intro (by omega) ?_
        rw [ei]
        refine hcl _ _ _ _ (c_M_in (fun h1 => ?_) (fun h1 => ?_))
        · refine And.intro (fun hq3 => absurd hq3 (by decide)) (fun hq3 => ?_)
          refine hev _ ?_
          rw [e, ei]
          exact ih _ (k + 1) (by omega) (by omega) (by omega) (Or.inr ⟨by omega, by omega, h1.1, h1.2⟩)
        · refine And.intro (fun hq3 => ?_) (fun hq3 => absurd rfl hq3)
          refine hev _ ?_
          rw [e]
          exact ih cls (k + 1) (by omega) (by omega) (by omega) hcls
theorem c_M_menderOf {rod on kn sold : Int} {σ : q_S} {K : q_R → q_S → Prop} (hI : q_IS σ) (hC : q_IC σ) (hr : 0 ≤ rod ∧ rod < 24) (hk : 0 ≤ kn ∧ kn ≤ 12) (hs : 0 ≤ sold ∧ sold ≤ σ 100 7) (hK : ∀ σ' r, q_fd σ σ' → K (some (0, r)) σ') : q_K L xs i_M_menderOf [(2, 100), (0, rod), (0, on), (0, kn), (0, sold)] σ K := by
  refine q_call k_M_menderOf 9 rfl ?_
  show q_E L xs k_M_menderOf (0, [(2, 100), (0, rod), (0, on), (0, kn), (0, sold), (9, 0), (9, 0), (9, 0), (9, 0)], [], σ) K
  refine q_go1 60 0 [9] (fun cl ev hcl hev => ?_)
  refine hcl _ _ _ _ (c_M_customOf hk ?_)
  have hin := q_cof_in (σ := σ) (d := on) kn.toNat
  exact hev _ (l_M_mender1 hI hC hr hs (by omega) hK 20 (-1) 0 (by omega) (by omega) (by omega) (Or.inl rfl))

theorem c_M_mender {rod d ct sl : Int} {σ : q_S} {K : q_R → q_S → Prop} (hb : 0 ≤ σ 100 13 ∧ σ 100 13 ≤ 24) (hI : q_IS σ) (hC : q_IC σ) (hK : ∀ σ' r, q_fd σ σ' → K (some (0, r)) σ') : q_K L xs i_M_mender [(2, 100), (0, rod), (0, d), (0, ct), (0, sl)] σ K := by
  have hC0 := hC.1
  have eK : ∀ r, K (some (0, r)) σ := fun r => hK σ r (fun _ _ _ _ => rfl)
  refine q_call k_M_mender 5 rfl ?_
  show q_E L xs k_M_mender (0, [(2, 100), (0, rod), (0, d), (0, ct), (0, sl)], [], σ) K
  refine q_go1 200 0 [] (fun cl ev hcl hev => ?_)
  repeat' (first | refine And.intro ?_ ?_ | (intro hq; first | exact absurd hq (by decide) | exact absurd rfl hq | exact absurd hq (show ¬ (1 : Int) = 0 by decide) | exact absurd (show (1 : Int) ≠ 0 by decide) hq | skip) | refine hcl _ _ _ _ (c_M_in ?_ ?_) | refine hcl _ _ _ _ (c_M_isRod hb ?_ ?_) | refine hcl _ _ _ _ (c_M_menderOf hI hC (by omega) (by omega) (by omega) (fun σ1 r1 f1 => ?_)))
  all_goals first | omega | exact eK _ | exact hK _ _ f1 | exact hK _ _ (by assumption)

theorem c_M_scot {s w : Int} {σ : q_S} {K : q_R → q_S → Prop} (hI : q_IS σ) (hK : ∀ σ' r, q_fd σ σ' → K (some (0, r)) σ') : q_K L xs i_M_scot [(2, 100), (0, s), (0, w)] σ K := by
  have hI0 := hI.1
  have eK : ∀ r, K (some (0, r)) σ := fun r => hK σ r (fun _ _ _ _ => rfl)
  refine q_call k_M_scot 3 rfl ?_
  show q_E L xs k_M_scot (0, [(2, 100), (0, s), (0, w)], [], σ) K
  refine q_go1 200 0 [] (fun cl ev hcl hev => ?_)
  repeat' (first | refine And.intro ?_ ?_ | (intro hq; first | exact absurd hq (by decide) | exact absurd rfl hq | exact absurd hq (show ¬ (1 : Int) = 0 by decide) | exact absurd (show (1 : Int) ≠ 0 by decide) hq | skip) | refine hcl _ _ _ _ (c_M_in ?_ ?_) | refine hcl _ _ _ _ (c_M_isOwner ?_ ?_) | refine hcl _ _ _ _ (c_M_deals hI (by omega) (by omega) (fun σ1 f1 p1 s1 => ?_)))
  all_goals first | omega | exact eK _ | exact hK _ _ (by assumption)

end P29
