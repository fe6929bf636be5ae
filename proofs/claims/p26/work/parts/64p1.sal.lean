/-- the class: what an owner has of a cell (-1: of all) on a day, by the first k sales -/
def q_pof (σ : q_S) (c o d : Int) : Nat → Int
  | 0 => if o = 0 then (if c = -1 then 360 else 12) else 0
  | k + 1 => if σ 12 k ≤ d ∧ (c = -1 ∨ σ 8 k = c) then q_pof σ c o d k + (if σ 10 k = o then σ 11 k else 0) - (if σ 9 k = o then σ 11 k else 0) else q_pof σ c o d k
theorem q_pof_b {σ : q_S} {c o d : Int} : ∀ {k : Nat}, (∀ j : Nat, j < k → 0 ≤ σ 11 j ∧ σ 11 j ≤ 12) → -(12 * k : Int) ≤ q_pof σ c o d k ∧ q_pof σ c o d k ≤ 12 * k + 360
  | 0, _ => by unfold q_pof; repeat' split
               all_goals omega
  | k + 1, h => by
    have h1 := q_pof_b (σ := σ) (c := c) (o := o) (d := d) (k := k) (fun j hj => h j (by omega))
    have h2 := h k (by omega)
    unfold q_pof
    split
    · split <;> split <;> omega
    · omega
/-- the sales are alike -/
def q_SC (σ : q_S) : Prop := σ 7 5 = σ 100 7 ∧ ∀ j : Nat, (j : Int) < σ 7 5 → σ 8 j = σ 107 j ∧ σ 9 j = σ 108 j ∧ σ 10 j = σ 109 j ∧ σ 11 j = σ 110 j ∧ σ 12 j = σ 111 j ∧ 0 ≤ σ 107 j ∧ σ 107 j < 30
theorem q_pof_hof {σ : q_S} {c o d : Int} (hc : c ≠ -1) : ∀ k : Nat, (∀ j : Nat, j < k → σ 8 j = σ 107 j ∧ σ 9 j = σ 108 j ∧ σ 10 j = σ 109 j ∧ σ 11 j = σ 110 j ∧ σ 12 j = σ 111 j) → q_pof σ c o d k = q_hof σ c o d k
  | 0, _ => by unfold q_pof q_hof; rw [if_neg hc]
  | k + 1, h => by
    have ih := q_pof_hof (o := o) (d := d) hc k (fun j hj => h j (by omega))
    obtain ⟨a1, a2, a3, a4, a5⟩ := h k (by omega)
    unfold q_pof q_hof
    rw [ih, a1, a2, a3, a4, a5]
    by_cases e : σ 107 k = c ∧ σ 111 k ≤ d
    · rw [if_pos e, if_pos ⟨e.2, Or.inr e.1⟩]
    · rw [if_neg e, if_neg (fun z => e ⟨z.2.elim (fun y => absurd y hc) (fun y => y), z.1⟩)]
theorem q_hal_0 {σ : q_S} {o d : Int} : ∀ n : Nat, q_hal σ o d 0 n = if o = 0 then 12 * (n : Int) else 0
  | 0 => by unfold q_hal; split <;> omega
  | n + 1 => by
    unfold q_hal
    rw [q_hal_0 n]
    unfold q_hof
    split <;> omega
theorem q_hal_s {σ : q_S} {o d : Int} {k : Nat} : ∀ n : Nat, q_hal σ o d (k + 1) n = q_hal σ o d k n + (if (0 ≤ σ 107 k ∧ σ 107 k < n) ∧ σ 111 k ≤ d then (if σ 109 k = o then σ 110 k else 0) - (if σ 108 k = o then σ 110 k else 0) else 0)
  | 0 => by unfold q_hal; rw [if_neg (by omega)]; omega
  | n + 1 => by
    have e : q_hal σ o d (k + 1) (n + 1) = q_hal σ o d (k + 1) n + q_hof σ n o d (k + 1) := rfl
    have e2 : q_hal σ o d k (n + 1) = q_hal σ o d k n + q_hof σ n o d k := rfl
    have e3 : q_hof σ n o d (k + 1) = if σ 107 k = n ∧ σ 111 k ≤ d then q_hof σ n o d k + (if σ 109 k = o then σ 110 k else 0) - (if σ 108 k = o then σ 110 k else 0) else q_hof σ n o d k := rfl
    rw [e, e2, q_hal_s n, e3]
    repeat' split
    all_goals omega
theorem q_pof_hal {σ : q_S} {o d : Int} : ∀ k : Nat, (∀ j : Nat, j < k → σ 8 j = σ 107 j ∧ σ 9 j = σ 108 j ∧ σ 10 j = σ 109 j ∧ σ 11 j = σ 110 j ∧ σ 12 j = σ 111 j ∧ 0 ≤ σ 107 j ∧ σ 107 j < 30) → q_pof σ (-1) o d k = q_hal σ o d k 30
  | 0, _ => by
    rw [q_hal_0]
    unfold q_pof
    split <;> rfl
  | k + 1, h => by
    have ih := q_pof_hal (o := o) (d := d) k (fun j hj => h j (by omega))
    obtain ⟨a1, a2, a3, a4, a5, a6, a7⟩ := h k (by omega)
    have e3 : q_pof σ (-1) o d (k + 1) = if σ 12 k ≤ d ∧ ((-1 : Int) = -1 ∨ σ 8 k = -1) then q_pof σ (-1) o d k + (if σ 10 k = o then σ 11 k else 0) - (if σ 9 k = o then σ 11 k else 0) else q_pof σ (-1) o d k := rfl
    rw [q_hal_s, ← ih, e3, a2, a3, a4, a5]
    generalize q_pof σ (-1) o d k = P
    repeat' split
    all_goals omega
/-- from a day on, as long as the owner sells nothing, it has no less -/
theorem q_hof_up {σ : q_S} {c o d1 d2 : Int} (h12 : d1 ≤ d2) : ∀ k : Nat, (∀ j : Nat, j < k → 0 ≤ σ 110 j) → (∀ j : Nat, j < k → σ 107 j = c → d1 < σ 111 j → σ 111 j ≤ d2 → σ 108 j ≠ o) → q_hof σ c o d1 k ≤ q_hof σ c o d2 k
  | 0, _, _ => Int.le_refl _
  | k + 1, hp, h => by
    have ih := q_hof_up (o := o) h12 k (fun j hj => hp j (by omega)) (fun j hj => h j (by omega))
    have hk := hp k (by omega)
    have hs := h k (by omega)
    unfold q_hof
    by_cases e1 : σ 107 k = c ∧ σ 111 k ≤ d1
    · rw [if_pos e1, if_pos (show σ 107 k = c ∧ σ 111 k ≤ d2 by omega)]; omega
    · rw [if_neg e1]
      by_cases e2 : σ 107 k = c ∧ σ 111 k ≤ d2
      · have hn := hs e2.1 (by omega) e2.2
        rw [if_pos e2, if_neg hn]
        split <;> omega
      · rw [if_neg e2]; exact ih
/-- the two looks over the sales say the same -/
theorem q_owes {σ : q_S} {c f n d : Int} {s : Nat} (hp : ∀ j : Nat, j < s → 0 ≤ σ 110 j) (hn : n ≤ q_hof σ c f d s) {i : Nat} (hi : i < s) (hd : d ≤ σ 111 i) (hb : q_hof σ c f (σ 111 i) s < n) : ∃ j : Nat, j < s ∧ σ 107 j = c ∧ σ 108 j = f ∧ d < σ 111 j ∧ q_hof σ c f (σ 111 j) s < n := by
  by_cases he : ∃ j, j < s ∧ (σ 107 j = c ∧ d < σ 111 j ∧ σ 111 j ≤ σ 111 i ∧ σ 108 j = f)
  · obtain ⟨j, hj, ⟨p1, p2, p3, p4⟩, hm⟩ := q_maxd (P := fun j => σ 107 j = c ∧ d < σ 111 j ∧ σ 111 j ≤ σ 111 i ∧ σ 108 j = f) (f := fun j => σ 111 j) s he
    refine ⟨j, hj, p1, p4, p2, ?_⟩
    have hu := q_hof_up (σ := σ) (c := c) (o := f) (d1 := σ 111 j) (d2 := σ 111 i) p3 s hp (fun k hk hc h1 h2 hf => by
      have := hm k hk ⟨hc, by omega, h2, hf⟩
      omega)
    omega
  · have hu := q_hof_up (σ := σ) (c := c) (o := f) (d1 := d) (d2 := σ 111 i) hd s hp (fun k hk hc h1 h2 hf => he ⟨k, hk, hc, h1, h2, hf⟩)
    omega
section P74
variable {L : Nat} {xs : Int → Int}
theorem l_partsX {c o d n f : Int} {σ : q_S} {K : q_R → q_S → Prop} (hp : ∀ j : Nat, (j : Int) < f → 0 ≤ σ 11 j ∧ σ 11 j ≤ 12) (hf : f ≤ 120) (hK : K (some (0, q_pof σ c o d f.toNat)) σ) : ∀ (m : Nat) (i : Nat), f - i < m → (i : Int) ≤ f →
    q_E L xs k_Sales_partsOf (18, [(2, 7), (0, c), (0, o), (0, d), (0, n), (0, q_pof σ c o d i), (0, f), (0, (i : Int))], [], σ) K := by
  intro m
  induction m with
  | zero => intro i; omega
  | succ m ih =>
    intro i hm hi
    have hb := q_pof_b (σ := σ) (c := c) (o := o) (d := d) (k := i) (fun j hj => hp j (by omega))
    have hpi := hp i
    have e : q_w32 ((i : Int) + 1) = ((i + 1 : Nat) : Int) := by rw [q_w32_id] <;> omega
    have step : ∀ n', (i : Int) < f → n' = q_pof σ c o d (i + 1) → q_E L xs k_Sales_partsOf (18, [(2, 7), (0, c), (0, o), (0, d), (0, n), (0, n'), (0, f), (0, q_w32 ((i : Int) + 1))], [], σ) K := by
      intro n' hlt hn
      rw [e, hn]
      exact ih (i + 1) (by omega) (by omega)
    refine q_go1 100 18 [18] (fun cl ev hcl hev => ?_)
    repeat' (first | refine And.intro ?_ ?_ | (intro hq; first | exact absurd hq (by decide) | exact absurd rfl hq | exact absurd hq (show ¬ (1 : Int) = 0 by decide) | exact absurd (show (1 : Int) ≠ 0 by decide) hq | skip))
    all_goals first
      | omega
      | (rw [show f.toNat = i by omega] at hK; exact hK)
      | (have hpi := hpi (by omega)
         refine hev _ (step _ (by omega) ?_)
         show _ = if σ 12 i ≤ d ∧ (c = -1 ∨ σ 8 i = c) then q_pof σ c o d i + (if σ 10 i = o then σ 11 i else 0) - (if σ 9 i = o then σ 11 i else 0) else q_pof σ c o d i
         first
           | rw [if_neg (by omega)]
           | (rw [if_pos (by omega)]
              unfold q_w32
              repeat' split
              all_goals omega))
theorem c_partsX {c o d n : Int} {σ : q_S} {K : q_R → q_S → Prop} (hb : 0 ≤ σ 7 5 ∧ σ 7 5 ≤ 120) (hn : 0 ≤ n) (hp : ∀ j : Nat, (j : Int) < σ 7 5 → 0 ≤ σ 11 j ∧ σ 11 j ≤ 12) (hK : K (some (0, q_pof σ c o d (min n (σ 7 5)).toNat)) σ) : q_K L xs i_Sales_partsOf [(2, 7), (0, c), (0, o), (0, d), (0, n)] σ K := by
  refine q_call k_Sales_partsOf 8 rfl ?_
  show q_E L xs k_Sales_partsOf (0, [(2, 7), (0, c), (0, o), (0, d), (0, n), (9, 0), (9, 0), (9, 0)], [], σ) K
  refine q_go1 100 0 [18] (fun cl ev hcl hev => ?_)
  have l := l_partsX (L := L) (xs := xs) (c := c) (o := o) (d := d) (n := n) (f := min n (σ 7 5)) (fun j hj => hp j (by omega)) (by omega) hK 200 0 (by omega) (by omega)
  unfold q_pof at l
  repeat' (first | refine And.intro ?_ ?_ | (intro hq; first | exact absurd hq (by decide) | exact absurd rfl hq | exact absurd hq (show ¬ (1 : Int) = 0 by decide) | exact absurd (show (1 : Int) ≠ 0 by decide) hq | skip))
  · rw [if_pos (by omega), if_neg (by omega)] at l; exact hev _ l
  · rw [if_pos (by omega), if_pos (by omega)] at l; exact hev _ l
  · rw [if_neg (by omega)] at l; exact hev _ l
end P74
