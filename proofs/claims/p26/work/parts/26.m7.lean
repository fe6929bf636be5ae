/-- what an owner has of a cell on a day, by the first k sales -/
def q_hof (σ : q_S) (c o d : Int) : Nat → Int
  | 0 => if o = 0 then 12 else 0
  | k + 1 => if σ 107 k = c ∧ σ 111 k ≤ d then q_hof σ c o d k + (if σ 109 k = o then σ 110 k else 0) - (if σ 108 k = o then σ 110 k else 0) else q_hof σ c o d k
theorem q_hof_b {σ : q_S} {c o d : Int} : ∀ {k : Nat}, (∀ j : Nat, j < k → 0 ≤ σ 110 j ∧ σ 110 j ≤ 12) → -(12 * k : Int) ≤ q_hof σ c o d k ∧ q_hof σ c o d k ≤ 12 * k + 12
  | 0, _ => by unfold q_hof; split <;> omega
  | k + 1, h => by
    have h1 := q_hof_b (σ := σ) (c := c) (o := o) (d := d) (k := k) (fun j hj => h j (by omega))
    have h2 := h k (by omega)
    unfold q_hof
    split
    · split <;> split <;> omega
    · omega
/-- of all cells before c -/
def q_hal (σ : q_S) (o d : Int) (k : Nat) : Nat → Int
  | 0 => 0
  | c + 1 => q_hal σ o d k c + q_hof σ c o d k
theorem q_hal_b {σ : q_S} {o d : Int} {k : Nat} (h : ∀ j : Nat, j < k → 0 ≤ σ 110 j ∧ σ 110 j ≤ 12) (hk : k ≤ 120) : ∀ c : Nat, -(1440 * c : Int) ≤ q_hal σ o d k c ∧ q_hal σ o d k c ≤ 1452 * c
  | 0 => by unfold q_hal; omega
  | c + 1 => by
    have h1 := q_hal_b (σ := σ) (o := o) (d := d) h hk c
    have h2 := q_hof_b (σ := σ) (c := c) (o := o) (d := d) h
    unfold q_hal
    omega
section P26
variable {L : Nat} {xs : Int → Int}
theorem l_M_heldOf {c o d kn : Int} {σ : q_S} {K : q_R → q_S → Prop} (hp : ∀ j : Nat, (j : Int) < kn → 0 ≤ σ 110 j ∧ σ 110 j ≤ 12) (hk : kn ≤ 120) (hK : K (some (0, q_hof σ c o d kn.toNat)) σ) : ∀ (m : Nat) (i : Nat), kn - i < m → (i : Int) ≤ kn →
    q_E L xs k_M_heldOf (8, [(2, 100), (0, c), (0, o), (0, d), (0, kn), (0, q_hof σ c o d i), (0, (i : Int))], [], σ) K := by
  intro m
  induction m with
  | zero => intro i; omega
  | succ m ih =>
    intro i hm hi
    have hb := q_hof_b (σ := σ) (c := c) (o := o) (d := d) (k := i) (fun j hj => hp j (by omega))
    have hpi := hp i
    have e : q_w32 ((i : Int) + 1) = ((i + 1 : Nat) : Int) := by rw [q_w32_id] <;> omega
    have step : ∀ n', (i : Int) < kn → n' = q_hof σ c o d (i + 1) → q_E L xs k_M_heldOf (8, [(2, 100), (0, c), (0, o), (0, d), (0, kn), (0, n'), (0, q_w32 ((i : Int) + 1))], [], σ) K := by
      intro n' hlt hn
      rw [e, hn]
      exact ih (i + 1) (by omega) (by omega)
    refine q_go1 100 8 [8] (fun cl ev hcl hev => ?_)
    repeat' (first | refine And.intro ?_ ?_ | (intro hq; first | exact absurd hq (by decide) | exact absurd rfl hq | exact absurd hq (show ¬ (1 : Int) = 0 by decide) | exact absurd (show (1 : Int) ≠ 0 by decide) hq | skip))
    all_goals first
      | omega
      | (rw [show kn.toNat = i by omega] at hK; exact hK)
      | (have hpi := hpi (by omega)
         refine hev _ (step _ (by omega) ?_)
         show _ = if σ 107 i = c ∧ σ 111 i ≤ d then q_hof σ c o d i + (if σ 109 i = o then σ 110 i else 0) - (if σ 108 i = o then σ 110 i else 0) else q_hof σ c o d i
         first
           | rw [if_neg (by omega)]
           | (rw [if_pos (by omega)]
              unfold q_w32
              repeat' split
              all_goals omega))
theorem c_M_heldOf {c o d kn : Int} {σ : q_S} {K : q_R → q_S → Prop} (hp : ∀ j : Nat, (j : Int) < kn → 0 ≤ σ 110 j ∧ σ 110 j ≤ 12) (hk : 0 ≤ kn ∧ kn ≤ 120) (hK : K (some (0, q_hof σ c o d kn.toNat)) σ) : q_K L xs i_M_heldOf [(2, 100), (0, c), (0, o), (0, d), (0, kn)] σ K := by
  refine q_call k_M_heldOf 7 rfl ?_
  show q_E L xs k_M_heldOf (0, [(2, 100), (0, c), (0, o), (0, d), (0, kn), (9, 0), (9, 0)], [], σ) K
  refine q_go1 100 0 [8] (fun cl ev hcl hev => ?_)
  have l := l_M_heldOf (L := L) (xs := xs) (c := c) (o := o) (d := d) hp hk.2 hK 200 0 (by omega) (by omega)
  unfold q_hof at l
  refine And.intro (fun hq => ?_) (fun hq => ?_)
  · rw [if_neg hq] at l
    exact hev _ l
  · rw [if_pos (by omega)] at l
    exact hev _ l
theorem l_M_heldAll {o d kn : Int} {σ : q_S} {K : q_R → q_S → Prop} (hp : ∀ j : Nat, (j : Int) < kn → 0 ≤ σ 110 j ∧ σ 110 j ≤ 12) (hk : 0 ≤ kn ∧ kn ≤ 120) (hK : K (some (0, q_hal σ o d kn.toNat 30)) σ) : ∀ (m : Nat) (c : Nat), 30 - (c : Int) < m → c ≤ 30 →
    q_E L xs k_M_heldAll (4, [(2, 100), (0, o), (0, d), (0, kn), (0, q_hal σ o d kn.toNat c), (0, (c : Int))], [], σ) K := by
  intro m
  induction m with
  | zero => intro c; omega
  | succ m ih =>
    intro c hm hc
    have hp' : ∀ j : Nat, j < kn.toNat → 0 ≤ σ 110 j ∧ σ 110 j ≤ 12 := fun j hj => hp j (by omega)
    have hb := q_hal_b (σ := σ) (o := o) (d := d) hp' (by omega) c
    have hb2 := q_hof_b (σ := σ) (c := c) (o := o) (d := d) hp'
    have e : q_w32 ((c : Int) + 1) = ((c + 1 : Nat) : Int) := by rw [q_w32_id] <;> omega
    refine q_go1 60 4 [4] (fun cl ev hcl hev => ?_)
    refine And.intro (fun hq => ?_) (fun hq => ?_)
    · rw [show c = 30 by omega]
      exact hK
    · refine hcl _ _ _ _ (c_M_heldOf hp hk ?_)
      refine hev _ ?_
      have e2 : q_w32 (q_hal σ o d kn.toNat c + q_hof σ c o d kn.toNat) = q_hal σ o d kn.toNat (c + 1) := by
        show _ = q_hal σ o d kn.toNat c + q_hof σ c o d kn.toNat
        rw [q_w32_id] <;> omega
      rw [e2, e]
      exact ih (c + 1) (by omega) (by omega)
theorem c_M_heldAll {o d kn : Int} {σ : q_S} {K : q_R → q_S → Prop} (hp : ∀ j : Nat, (j : Int) < kn → 0 ≤ σ 110 j ∧ σ 110 j ≤ 12) (hk : 0 ≤ kn ∧ kn ≤ 120) (hK : K (some (0, q_hal σ o d kn.toNat 30)) σ) : q_K L xs i_M_heldAll [(2, 100), (0, o), (0, d), (0, kn)] σ K := by
  refine q_call k_M_heldAll 6 rfl ?_
  show q_E L xs k_M_heldAll (0, [(2, 100), (0, o), (0, d), (0, kn), (9, 0), (9, 0)], [], σ) K
  refine q_go1 60 0 [4] (fun cl ev hcl hev => ?_)
  exact hev _ (l_M_heldAll hp hk hK 40 0 (by omega) (by omega))
theorem c_M_held {c o d kn : Int} {σ : q_S} {K : q_R → q_S → Prop} (hs : 0 ≤ σ 100 7 ∧ σ 100 7 ≤ 120) (hp : ∀ j : Nat, (j : Int) < σ 100 7 → 0 ≤ σ 110 j ∧ σ 110 j ≤ 12) (h0 : ¬ (-1 ≤ c ∧ c ≤ 29 ∧ 0 ≤ o ∧ o ≤ 7 ∧ 0 ≤ kn ∧ kn ≤ σ 100 7) → K (some (0, -1)) σ) (h2 : (-1 ≤ c ∧ c ≤ 29 ∧ 0 ≤ o ∧ o ≤ 7 ∧ 0 ≤ kn ∧ kn ≤ σ 100 7 ∧ ¬ (0 ≤ d ∧ d ≤ 9999)) → K (some (0, -2)) σ)
    (h1 : (c = -1 ∧ 0 ≤ o ∧ o ≤ 7 ∧ 0 ≤ kn ∧ kn ≤ σ 100 7 ∧ 0 ≤ d ∧ d ≤ 9999) → K (some (0, q_hal σ o d kn.toNat 30)) σ) (h3 : (0 ≤ c ∧ c ≤ 29 ∧ 0 ≤ o ∧ o ≤ 7 ∧ 0 ≤ kn ∧ kn ≤ σ 100 7 ∧ 0 ≤ d ∧ d ≤ 9999) → K (some (0, q_hof σ c o d kn.toNat)) σ) : q_K L xs i_M_held [(2, 100), (0, c), (0, o), (0, d), (0, kn)] σ K := by
  refine q_call k_M_held 5 rfl ?_
  show q_E L xs k_M_held (0, [(2, 100), (0, c), (0, o), (0, d), (0, kn)], [], σ) K
  refine q_go1 200 0 [] (fun cl ev hcl hev => ?_)
  repeat' (first | refine And.intro ?_ ?_ | (intro hq; first | exact absurd hq (by decide) | exact absurd rfl hq | exact absurd hq (show ¬ (1 : Int) = 0 by decide) | exact absurd (show (1 : Int) ≠ 0 by decide) hq | skip) | refine hcl _ _ _ _ (c_M_in ?_ ?_) | refine hcl _ _ _ _ (c_M_isOwner ?_ ?_) | refine hcl _ _ _ _ (c_M_heldAll (fun j hj => hp j (by omega)) (by omega) ?_) | refine hcl _ _ _ _ (c_M_heldOf (fun j hj => hp j (by omega)) (by omega) ?_))
  all_goals first | omega | exact h0 (by omega) | exact h2 (by omega) | exact h1 (by omega) | exact h3 (by omega)

end P26
