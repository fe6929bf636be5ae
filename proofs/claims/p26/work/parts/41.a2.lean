section P41
variable {L : Nat} {xs : Int → Int}
theorem l_inF1 {d n best first c y : Int} {u6 : Nat} {x6 : Int} {σ : q_S} {K : q_R → q_S → Prop} {j : Int} (hj : 0 ≤ j ∧ j < 12) (h : q_E L xs k_Courts_inForce (17, [(2, 34), (0, d), (0, n), (0, best), (0, first), (0, c), (u6, x6)], [(0, σ (40 + 4 * j) 0)], σ) K) : q_E L xs k_Courts_inForce (15, [(2, 34), (0, d), (0, n), (0, best), (0, first), (0, c), (u6, x6)], [(0, j), (2, 35)], σ) K := by
  have hjj : j = 0 ∨ j = 1 ∨ j = 2 ∨ j = 3 ∨ j = 4 ∨ j = 5 ∨ j = 6 ∨ j = 7 ∨ j = 8 ∨ j = 9 ∨ j = 10 ∨ j = 11 := by omega
  clear hj
  rcases hjj with rfl | rfl | rfl | rfl | rfl | rfl | rfl | rfl | rfl | rfl | rfl | rfl

  · refine q_go1 1 15 [] (fun cl ev hcl hev => ?_)
    refine And.intro (by decide) ?_
    rw [show (40 + 4 * (0 : Int)) = 40 from rfl] at h
    exact hev _ h
  · refine q_go1 1 15 [] (fun cl ev hcl hev => ?_)
    refine And.intro (by decide) ?_
    rw [show (40 + 4 * (1 : Int)) = 44 from rfl] at h
    exact hev _ h
  · refine q_go1 1 15 [] (fun cl ev hcl hev => ?_)
    refine And.intro (by decide) ?_
    rw [show (40 + 4 * (2 : Int)) = 48 from rfl] at h
    exact hev _ h
  · refine q_go1 1 15 [] (fun cl ev hcl hev => ?_)
    refine And.intro (by decide) ?_
    rw [show (40 + 4 * (3 : Int)) = 52 from rfl] at h
    exact hev _ h
  · refine q_go1 1 15 [] (fun cl ev hcl hev => ?_)
    refine And.intro (by decide) ?_
    rw [show (40 + 4 * (4 : Int)) = 56 from rfl] at h
    exact hev _ h
  · refine q_go1 1 15 [] (fun cl ev hcl hev => ?_)
    refine And.intro (by decide) ?_
    rw [show (40 + 4 * (5 : Int)) = 60 from rfl] at h
    exact hev _ h
  · refine q_go1 1 15 [] (fun cl ev hcl hev => ?_)
    refine And.intro (by decide) ?_
    rw [show (40 + 4 * (6 : Int)) = 64 from rfl] at h
    exact hev _ h
  · refine q_go1 1 15 [] (fun cl ev hcl hev => ?_)
    refine And.intro (by decide) ?_
    rw [show (40 + 4 * (7 : Int)) = 68 from rfl] at h
    exact hev _ h
  · refine q_go1 1 15 [] (fun cl ev hcl hev => ?_)
    refine And.intro (by decide) ?_
    rw [show (40 + 4 * (8 : Int)) = 72 from rfl] at h
    exact hev _ h
  · refine q_go1 1 15 [] (fun cl ev hcl hev => ?_)
    refine And.intro (by decide) ?_
    rw [show (40 + 4 * (9 : Int)) = 76 from rfl] at h
    exact hev _ h
  · refine q_go1 1 15 [] (fun cl ev hcl hev => ?_)
    refine And.intro (by decide) ?_
    rw [show (40 + 4 * (10 : Int)) = 80 from rfl] at h
    exact hev _ h
  · refine q_go1 1 15 [] (fun cl ev hcl hev => ?_)
    refine And.intro (by decide) ?_
    rw [show (40 + 4 * (11 : Int)) = 84 from rfl] at h
    exact hev _ h
theorem l_inF2 {d n best first c y : Int} {u6 : Nat} {x6 : Int} {σ : q_S} {K : q_R → q_S → Prop} {j : Int} (hj : 0 ≤ j ∧ j < 12) (h : q_E L xs k_Courts_inForce (33, [(2, 34), (0, d), (0, n), (0, best), (0, first), (0, c), (u6, x6)], [(0, σ (40 + 4 * j) 0)], σ) K) : q_E L xs k_Courts_inForce (31, [(2, 34), (0, d), (0, n), (0, best), (0, first), (0, c), (u6, x6)], [(0, j), (2, 35)], σ) K := by
  have hjj : j = 0 ∨ j = 1 ∨ j = 2 ∨ j = 3 ∨ j = 4 ∨ j = 5 ∨ j = 6 ∨ j = 7 ∨ j = 8 ∨ j = 9 ∨ j = 10 ∨ j = 11 := by omega
  clear hj
  rcases hjj with rfl | rfl | rfl | rfl | rfl | rfl | rfl | rfl | rfl | rfl | rfl | rfl

  · refine q_go1 1 31 [] (fun cl ev hcl hev => ?_)
    refine And.intro (by decide) ?_
    rw [show (40 + 4 * (0 : Int)) = 40 from rfl] at h
    exact hev _ h
  · refine q_go1 1 31 [] (fun cl ev hcl hev => ?_)
    refine And.intro (by decide) ?_
    rw [show (40 + 4 * (1 : Int)) = 44 from rfl] at h
    exact hev _ h
  · refine q_go1 1 31 [] (fun cl ev hcl hev => ?_)
    refine And.intro (by decide) ?_
    rw [show (40 + 4 * (2 : Int)) = 48 from rfl] at h
    exact hev _ h
  · refine q_go1 1 31 [] (fun cl ev hcl hev => ?_)
    refine And.intro (by decide) ?_
    rw [show (40 + 4 * (3 : Int)) = 52 from rfl] at h
    exact hev _ h
  · refine q_go1 1 31 [] (fun cl ev hcl hev => ?_)
    refine And.intro (by decide) ?_
    rw [show (40 + 4 * (4 : Int)) = 56 from rfl] at h
    exact hev _ h
  · refine q_go1 1 31 [] (fun cl ev hcl hev => ?_)
    refine And.intro (by decide) ?_
    rw [show (40 + 4 * (5 : Int)) = 60 from rfl] at h
    exact hev _ h
  · refine q_go1 1 31 [] (fun cl ev hcl hev => ?_)
    refine And.intro (by decide) ?_
    rw [show (40 + 4 * (6 : Int)) = 64 from rfl] at h
    exact hev _ h
  · refine q_go1 1 31 [] (fun cl ev hcl hev => ?_)
    refine And.intro (by decide) ?_
    rw [show (40 + 4 * (7 : Int)) = 68 from rfl] at h
    exact hev _ h
  · refine q_go1 1 31 [] (fun cl ev hcl hev => ?_)
    refine And.intro (by decide) ?_
    rw [show (40 + 4 * (8 : Int)) = 72 from rfl] at h
    exact hev _ h
  · refine q_go1 1 31 [] (fun cl ev hcl hev => ?_)
    refine And.intro (by decide) ?_
    rw [show (40 + 4 * (9 : Int)) = 76 from rfl] at h
    exact hev _ h
  · refine q_go1 1 31 [] (fun cl ev hcl hev => ?_)
    refine And.intro (by decide) ?_
    rw [show (40 + 4 * (10 : Int)) = 80 from rfl] at h
    exact hev _ h
  · refine q_go1 1 31 [] (fun cl ev hcl hev => ?_)
    refine And.intro (by decide) ?_
    rw [show (40 + 4 * (11 : Int)) = 84 from rfl] at h
    exact hev _ h
theorem l_inF3 {d n best first c y : Int} {u6 : Nat} {x6 : Int} {σ : q_S} {K : q_R → q_S → Prop} {j : Int} (hj : 0 ≤ j ∧ j < 12) (h : q_E L xs k_Courts_inForce (38, [(2, 34), (0, d), (0, n), (0, best), (0, first), (0, c), (u6, x6)], [(0, σ (40 + 4 * j) 0), (0, y)], σ) K) : q_E L xs k_Courts_inForce (36, [(2, 34), (0, d), (0, n), (0, best), (0, first), (0, c), (u6, x6)], [(0, j), (2, 35), (0, y)], σ) K := by
  have hjj : j = 0 ∨ j = 1 ∨ j = 2 ∨ j = 3 ∨ j = 4 ∨ j = 5 ∨ j = 6 ∨ j = 7 ∨ j = 8 ∨ j = 9 ∨ j = 10 ∨ j = 11 := by omega
  clear hj
  rcases hjj with rfl | rfl | rfl | rfl | rfl | rfl | rfl | rfl | rfl | rfl | rfl | rfl

  · refine q_go1 1 36 [] (fun cl ev hcl hev => ?_)
    refine And.intro (by decide) ?_
    rw [show (40 + 4 * (0 : Int)) = 40 from rfl] at h
    exact hev _ h
  · refine q_go1 1 36 [] (fun cl ev hcl hev => ?_)
    refine And.intro (by decide) ?_
    rw [show (40 + 4 * (1 : Int)) = 44 from rfl] at h
    exact hev _ h
  · refine q_go1 1 36 [] (fun cl ev hcl hev => ?_)
    refine And.intro (by decide) ?_
    rw [show (40 + 4 * (2 : Int)) = 48 from rfl] at h
    exact hev _ h
  · refine q_go1 1 36 [] (fun cl ev hcl hev => ?_)
    refine And.intro (by decide) ?_
    rw [show (40 + 4 * (3 : Int)) = 52 from rfl] at h
    exact hev _ h
  · refine q_go1 1 36 [] (fun cl ev hcl hev => ?_)
    refine And.intro (by decide) ?_
    rw [show (40 + 4 * (4 : Int)) = 56 from rfl] at h
    exact hev _ h
  · refine q_go1 1 36 [] (fun cl ev hcl hev => ?_)
    refine And.intro (by decide) ?_
    rw [show (40 + 4 * (5 : Int)) = 60 from rfl] at h
    exact hev _ h
  · refine q_go1 1 36 [] (fun cl ev hcl hev => ?_)
    refine And.intro (by decide) ?_
    rw [show (40 + 4 * (6 : Int)) = 64 from rfl] at h
    exact hev _ h
  · refine q_go1 1 36 [] (fun cl ev hcl hev => ?_)
    refine And.intro (by decide) ?_
    rw [show (40 + 4 * (7 : Int)) = 68 from rfl] at h
    exact hev _ h
  · refine q_go1 1 36 [] (fun cl ev hcl hev => ?_)
    refine And.intro (by decide) ?_
    rw [show (40 + 4 * (8 : Int)) = 72 from rfl] at h
    exact hev _ h
  · refine q_go1 1 36 [] (fun cl ev hcl hev => ?_)
    refine And.intro (by decide) ?_
    rw [show (40 + 4 * (9 : Int)) = 76 from rfl] at h
    exact hev _ h
  · refine q_go1 1 36 [] (fun cl ev hcl hev => ?_)
    refine And.intro (by decide) ?_
    rw [show (40 + 4 * (10 : Int)) = 80 from rfl] at h
    exact hev _ h
  · refine q_go1 1 36 [] (fun cl ev hcl hev => ?_)
    refine And.intro (by decide) ?_
    rw [show (40 + 4 * (11 : Int)) = 84 from rfl] at h
    exact hev _ h
theorem l_Courts_inForce {d n first : Int} {σ : q_S} {K : q_R → q_S → Prop} (hf : first ≤ 12) (hK : ∀ x, -1 ≤ x → x < 12 → K (some (0, x)) σ) :
    ∀ (m : Nat) (best c x6 : Int) (u6 : Nat), 12 - c < m → 0 ≤ c → c ≤ 12 → -1 ≤ best → best < 12 → q_E L xs k_Courts_inForce (9, [(2, 34), (0, d), (0, n), (0, best), (0, first), (0, c), (u6, x6)], [], σ) K := by
  intro m
  induction m with
  | zero => intro best c; omega
  | succ m ih =>
    intro best c x6 u6 hm h0 h1 b0 b1
    have e : q_w32 (c + 1) = c + 1 := by rw [q_w32_id] <;> omega
    refine q_go1 60 9 [9, 15] (fun cl ev hcl hev => ?_)
    repeat' (first | refine And.intro ?_ ?_ | (intro hq; first | exact absurd hq (by decide) | exact absurd rfl hq | exact absurd hq (show ¬ (1 : Int) = 0 by decide) | exact absurd (show (1 : Int) ≠ 0 by decide) hq | skip))
    · exact hK _ b0 b1
    · refine hev _ (l_inF1 (y := 0) (by omega) ?_)
      refine q_go1 60 17 [9, 31] (fun cl ev hcl hev => ?_)
      repeat' (first | refine And.intro ?_ ?_ | (intro hq; first | exact absurd hq (by decide) | exact absurd rfl hq | exact absurd hq (show ¬ (1 : Int) = 0 by decide) | exact absurd (show (1 : Int) ≠ 0 by decide) hq | skip))
      all_goals first
        | omega
        | (refine hev _ ?_; rw [e]; exact ih _ _ _ _ (by omega) (by omega) (by omega) (by omega) (by omega))
        | skip
      refine hev _ (l_inF2 (y := 0) (by omega) ?_)
      refine q_go1 60 33 [9, 36] (fun cl ev hcl hev => ?_)
      refine hev _ (l_inF3 (by omega) ?_)
      refine q_go1 60 38 [9] (fun cl ev hcl hev => ?_)
      repeat' (first | refine And.intro ?_ ?_ | (intro hq; first | exact absurd hq (by decide) | exact absurd rfl hq | exact absurd hq (show ¬ (1 : Int) = 0 by decide) | exact absurd (show (1 : Int) ≠ 0 by decide) hq | skip))
      all_goals first
        | omega
        | (refine hev _ ?_; rw [e]; exact ih _ _ _ _ (by omega) (by omega) (by omega) (by omega) (by omega))
theorem c_Courts_inForce {d n : Int} {σ : q_S} {K : q_R → q_S → Prop} (hb : 0 ≤ σ 34 2 ∧ σ 34 2 ≤ 12) (hK : ∀ x, -1 ≤ x → x < 12 → K (some (0, x)) σ) : q_K L xs i_Courts_inForce [(2, 34), (0, d), (0, n)] σ K := by
  refine q_call k_Courts_inForce 7 rfl ?_
  show q_E L xs k_Courts_inForce (0, [(2, 34), (0, d), (0, n), (9, 0), (9, 0), (9, 0), (9, 0)], [], σ) K
  refine q_go1 60 0 [9] (fun cl ev hcl hev => ?_)
  exact hev _ (l_Courts_inForce (by omega) hK 13 (-1) 0 0 9 (by omega) (by omega) (by omega) (by omega) (by omega))
/-- the place of a court's custom -/
theorem l_cuO {j : Int} {σ : q_S} {K : q_R → q_S → Prop} (hj : 0 ≤ j ∧ j < 12) (hK : ∀ r, q_cu r → K (some (2, r)) σ) : q_E L xs k_Courts_customOf (11, [(2, 34), (0, j)], [(0, j), (2, 35)], σ) K := by
  have hjj : j = 0 ∨ j = 1 ∨ j = 2 ∨ j = 3 ∨ j = 4 ∨ j = 5 ∨ j = 6 ∨ j = 7 ∨ j = 8 ∨ j = 9 ∨ j = 10 ∨ j = 11 := by omega
  clear hj
  rcases hjj with rfl | rfl | rfl | rfl | rfl | rfl | rfl | rfl | rfl | rfl | rfl | rfl

  · refine q_go1 9 11 [] (fun cl ev hcl hev => ?_)
    refine And.intro (by decide) ?_
    exact hK 40 (by unfold q_cu; omega)
  · refine q_go1 9 11 [] (fun cl ev hcl hev => ?_)
    refine And.intro (by decide) ?_
    exact hK 44 (by unfold q_cu; omega)
  · refine q_go1 9 11 [] (fun cl ev hcl hev => ?_)
    refine And.intro (by decide) ?_
    exact hK 48 (by unfold q_cu; omega)
  · refine q_go1 9 11 [] (fun cl ev hcl hev => ?_)
    refine And.intro (by decide) ?_
    exact hK 52 (by unfold q_cu; omega)
  · refine q_go1 9 11 [] (fun cl ev hcl hev => ?_)
    refine And.intro (by decide) ?_
    exact hK 56 (by unfold q_cu; omega)
  · refine q_go1 9 11 [] (fun cl ev hcl hev => ?_)
    refine And.intro (by decide) ?_
    exact hK 60 (by unfold q_cu; omega)
  · refine q_go1 9 11 [] (fun cl ev hcl hev => ?_)
    refine And.intro (by decide) ?_
    exact hK 64 (by unfold q_cu; omega)
  · refine q_go1 9 11 [] (fun cl ev hcl hev => ?_)
    refine And.intro (by decide) ?_
    exact hK 68 (by unfold q_cu; omega)
  · refine q_go1 9 11 [] (fun cl ev hcl hev => ?_)
    refine And.intro (by decide) ?_
    exact hK 72 (by unfold q_cu; omega)
  · refine q_go1 9 11 [] (fun cl ev hcl hev => ?_)
    refine And.intro (by decide) ?_
    exact hK 76 (by unfold q_cu; omega)
  · refine q_go1 9 11 [] (fun cl ev hcl hev => ?_)
    refine And.intro (by decide) ?_
    exact hK 80 (by unfold q_cu; omega)
  · refine q_go1 9 11 [] (fun cl ev hcl hev => ?_)
    refine And.intro (by decide) ?_
    exact hK 84 (by unfold q_cu; omega)
theorem c_Courts_customOf {j : Int} {σ : q_S} {K : q_R → q_S → Prop} (hb : 0 ≤ σ 34 2 ∧ σ 34 2 ≤ 12) (hK : ∀ r, q_cu r → K (some (2, r)) σ) : q_K L xs i_Courts_customOf [(2, 34), (0, j)] σ K := by
  have e : q_w32 (σ 34 2 - 1) = σ 34 2 - 1 := by rw [q_w32_id] <;> omega
  refine q_call k_Courts_customOf 2 rfl ?_
  show q_E L xs k_Courts_customOf (0, [(2, 34), (0, j)], [], σ) K
  refine q_go1 60 0 [11] (fun cl ev hcl hev => ?_)
  repeat' (first | refine And.intro ?_ ?_ | (intro hq; first | exact absurd hq (by decide) | exact absurd rfl hq | exact absurd hq (show ¬ (1 : Int) = 0 by decide) | exact absurd (show (1 : Int) ≠ 0 by decide) hq | skip) | refine hcl _ _ _ _ (c_A_within ?_ ?_))
  all_goals first
    | exact hev _ (l_cuO (by omega) hK)
    | exact hK 36 (by unfold q_cu; omega)
theorem c_A_customNow {σ : q_S} {K : q_R → q_S → Prop} (hb : 0 ≤ σ 34 2 ∧ σ 34 2 ≤ 12) (hK : ∀ r, q_cu r → K (some (2, r)) σ) : q_K L xs i_A_customNow [(2, 0)] σ K := by
  refine q_call k_A_customNow 1 rfl ?_
  show q_E L xs k_A_customNow (0, [(2, 0)], [], σ) K
  refine q_go1 60 0 [] (fun cl ev hcl hev => ?_)
  refine hcl _ _ _ _ (c_Courts_inForce hb (fun x _ _ => ?_))
  refine hcl _ _ _ _ (c_Courts_customOf hb (fun r hr => ?_))
  exact hK r hr
theorem c_A_isDue {r : Int} {σ : q_S} {K : q_R → q_S → Prop} (hb : 0 ≤ σ 34 2 ∧ σ 34 2 ≤ 12) (hr : 0 ≤ r ∧ r < 24) (hK : ∀ b, K (some (0, b)) σ) : q_K L xs i_A_isDue [(2, 0), (0, r)] σ K := by
  refine q_call k_A_isDue 3 rfl ?_
  show q_E L xs k_A_isDue (0, [(2, 0), (0, r), (9, 0)], [], σ) K
  refine q_go1 60 0 [] (fun cl ev hcl hev => ?_)
  repeat' (first | refine And.intro ?_ ?_ | (intro hq; first | exact absurd hq (by decide) | exact absurd rfl hq | exact absurd hq (show ¬ (1 : Int) = 0 by decide) | exact absurd (show (1 : Int) ≠ 0 by decide) hq | skip) | refine hcl _ _ _ _ (c_A_customNow hb (fun r1 hr1 => ?_)))
  all_goals first
    | omega
    | (unfold q_cu at hr1
       rcases hr1 with rfl | rfl | rfl | rfl | rfl | rfl | rfl | rfl | rfl | rfl | rfl | rfl | rfl <;> (repeat' (first | refine And.intro ?_ ?_ | (intro hq; first | exact absurd hq (by decide) | exact absurd rfl hq | exact absurd hq (show ¬ (1 : Int) = 0 by decide) | exact absurd (show (1 : Int) ≠ 0 by decide) hq | skip))) <;> exact hK _)

end P41
