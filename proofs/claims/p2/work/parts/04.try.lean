section T4
variable {L : Nat} {xs : Int → Int}
theorem c_M_in {v lo hi : Int} {σ : q_S} {K : q_R → q_S → Prop} (h1 : lo ≤ v → v ≤ hi → K (some (0, 1)) σ) (h0 : ¬ (lo ≤ v ∧ v ≤ hi) → K (some (0, 0)) σ) : q_K L xs i_M_in [(0, v), (0, lo), (0, hi)] σ K := by
  refine q_call k_M_in 3 rfl ?_
  show q_E L xs k_M_in (0, [(0, v), (0, lo), (0, hi)], [], σ) K
  refine q_go1 60 0 [] (fun cl ev hcl hev => ?_)
  refine And.intro (fun c => ?_) (fun c => ?_)
  · exact h0 (by omega)
  · refine And.intro (fun c2 => ?_) (fun c2 => ?_)
    · exact h0 (by omega)
    · exact h1 (by omega) (by omega)
theorem c_M_isCell {v : Int} {σ : q_S} {K : q_R → q_S → Prop} (h1 : 0 ≤ v → v ≤ 29 → K (some (0, 1)) σ) (h0 : ¬ (0 ≤ v ∧ v ≤ 29) → K (some (0, 0)) σ) : q_K L xs i_M_isCell [(0, v)] σ K := by
  refine q_call k_M_isCell 1 rfl ?_
  show q_E L xs k_M_isCell (0, [(0, v)], [], σ) K
  refine q_go1 60 0 [] (fun cl ev hcl hev => ?_)
  refine hcl _ _ _ _ (c_M_in (fun c1 c2 => ?_) (fun c => ?_))
  · exact h1 c1 c2
  · exact h0 c
theorem c_M_level {c n : Int} {σ : q_S} {K : q_R → q_S → Prop} (h1 : 0 ≤ c → c ≤ 29 → 0 ≤ n → n ≤ 60 → K (some (0, σ 101 c)) (q_up σ 101 c n)) (h0 : ¬ (0 ≤ c ∧ c ≤ 29) → K (some (0, -1)) σ) (h2 : 0 ≤ c → c ≤ 29 → ¬ (0 ≤ n ∧ n ≤ 60) → K (some (0, -2)) σ) : q_K L xs i_M_level [(2, 100), (0, c), (0, n)] σ K := by
  refine q_call k_M_level 4 rfl ?_
  show q_E L xs k_M_level (0, [(2, 100), (0, c), (0, n), (9, 0)], [], σ) K
  refine q_go1 60 0 [] (fun cl ev hcl hev => ?_)
  refine hcl _ _ _ _ (c_M_isCell (fun c1 c2 => ?_) (fun c => ?_))
  · refine And.intro (fun c => ?_) (fun c => absurd c (by decide))
    refine hcl _ _ _ _ (c_M_in (fun d1 d2 => ?_) (fun d => ?_))
    · refine And.intro (fun c => ?_) (fun c => absurd c (by decide))
      refine And.intro ⟨c1, by omega⟩ ?_
      refine And.intro ⟨c1, by omega⟩ ?_
      exact h1 c1 c2 d1 d2
    · refine And.intro (fun c => absurd rfl c) (fun c => ?_)
      exact h2 c1 c2 d
  · refine And.intro (fun c => absurd rfl c) (fun c' => ?_)
    exact h0 c
theorem q_w32_id {x : Int} (h1 : -2147483648 ≤ x) (h2 : x ≤ 2147483647) : q_w32 x = x := by unfold q_w32; omega
def q_hof (σ : q_S) (c o d : Int) : Nat → Int
  | 0 => if o = 0 then 12 else 0
  | k + 1 => if σ 107 k = c ∧ σ 111 k ≤ d then q_hof σ c o d k + (if σ 109 k = o then σ 110 k else 0) - (if σ 108 k = o then σ 110 k else 0) else q_hof σ c o d k
theorem q_hof_b {σ : q_S} {c o d : Int} : ∀ {k : Nat}, (∀ j : Nat, j < k → 0 ≤ σ 110 j ∧ σ 110 j ≤ 12) → -(12 * k : Int) ≤ q_hof σ c o d k ∧ q_hof σ c o d k ≤ 12 * k + 12
  | 0, _ => by unfold q_hof; split <;> omega
  | k + 1, h => by
    have h1 := q_hof_b (σ := σ) (c := c) (o := o) (d := d) (k := k) (fun j hj => h j (by omega))
    have h2 := h k (by omega)
    unfold q_hof
    split
    · split <;> split <;> omega
    · omega
theorem l_M_heldOf {c o d kn : Int} {σ : q_S} {K : q_R → q_S → Prop} (hp : ∀ j : Nat, (j : Int) < kn → 0 ≤ σ 110 j ∧ σ 110 j ≤ 12) (hk : kn ≤ 120) (hK : K (some (0, q_hof σ c o d kn.toNat)) σ) : ∀ (m : Nat) (i : Nat), (i : Int) + m = kn →
    q_E L xs k_M_heldOf (8, [(2, 100), (0, c), (0, o), (0, d), (0, kn), (0, q_hof σ c o d i), (0, (i : Int))], [], σ) K := by
  intro m
  induction m with
  | zero =>
    intro i hi
    refine q_go1 60 8 [8] (fun cl ev hcl hev => ?_)
    refine And.intro (fun c => ?_) (fun c => absurd c (by omega))
    rw [show kn.toNat = i by omega] at hK
    exact hK
  | succ m ih =>
    intro i hi
    refine q_go1 60 8 [8] (fun cl ev hcl hev => ?_)
    have hb := q_hof_b (σ := σ) (c := c) (o := o) (d := d) (k := i) (fun j hj => hp j (by omega))
    have hpi := hp i (by omega)
    have e : q_w32 ((i : Int) + 1) = ((i + 1 : Nat) : Int) := by rw [q_w32_id] <;> omega
    have step : ∀ n', n' = q_hof σ c o d (i + 1) → q_E L xs k_M_heldOf (8, [(2, 100), (0, c), (0, o), (0, d), (0, kn), (0, n'), (0, q_w32 ((i : Int) + 1))], [], σ) K := by
      intro n' hn
      rw [e, hn]
      exact ih (i + 1) (by omega)
    refine And.intro (fun c => absurd c (by omega)) (fun c1 => ?_)
    refine And.intro ⟨by omega, by omega⟩ ?_
    refine And.intro (fun c2 => ?_) (fun c2 => ?_)
    · refine hev _ (step _ ?_)
      simp only [q_hof]
      rw [if_neg (by intro h; exact c2 h.1)]
    · refine And.intro ⟨by omega, by omega⟩ ?_
      refine And.intro (fun c3 => ?_) (fun c3 => ?_)
      · refine hev _ (step _ ?_)
        simp only [q_hof]
        rw [if_neg (by intro h; omega)]
      · refine And.intro ⟨by omega, by omega⟩ ?_
        refine And.intro (fun c4 => ?_) (fun c4 => ?_)
        · refine And.intro ⟨by omega, by omega⟩ ?_
          refine And.intro (fun c5 => ?_) (fun c5 => ?_)
          · refine hev _ (step _ ?_)
            sorry
          · refine And.intro ⟨by omega, by omega⟩ ?_
            refine hev _ (step _ ?_)
            sorry
        · refine And.intro ⟨by omega, by omega⟩ ?_
          refine And.intro ⟨by omega, by omega⟩ ?_
          refine And.intro (fun c5 => ?_) (fun c5 => ?_)
          · refine hev _ (step _ ?_)
            sorry
          · refine And.intro ⟨by omega, by omega⟩ ?_
            refine hev _ (step _ ?_)
            sorry
end T4
