theorem q_AWr {W V : Int → Int → Prop} {σ0 σ : q_S} (h : q_AW W σ0 σ) : q_AW V σ σ := ⟨fun _ _ _ => rfl, h.2⟩
theorem q_AWt {W V : Int → Int → Prop} {σ0 σ σ1 : q_S} (h : q_AW W σ0 σ) (hV : ∀ k i, V k i → W k i) (h1 : q_AW V σ σ1) : q_AW W σ0 σ1 := ⟨fun k i hn => (h1.1 k i (fun hv => hn (hV k i hv))).trans (h.1 k i hn), h1.2⟩
section P61
variable {L : Nat} {xs : Int → Int}

theorem l_co {d j : Int} {σ : q_S} {K : q_R → q_S → Prop} (hj : 0 ≤ j ∧ j < 12) (h : q_E L xs k_A_court (20, [(2, 0), (0, d), (2, 40 + 4 * j), (9, 0)], [], σ) K) : q_E L xs k_A_court (18, [(2, 0), (0, d), (9, 0), (9, 0)], [(0, j), (2, 35)], σ) K := by
  have hjj : j = 0 ∨ j = 1 ∨ j = 2 ∨ j = 3 ∨ j = 4 ∨ j = 5 ∨ j = 6 ∨ j = 7 ∨ j = 8 ∨ j = 9 ∨ j = 10 ∨ j = 11 := by omega
  clear hj
  rcases hjj with rfl | rfl | rfl | rfl | rfl | rfl | rfl | rfl | rfl | rfl | rfl | rfl

  · refine q_go1 1 18 [] (fun cl ev hcl hev => ?_)
    refine And.intro (by decide) ?_
    rw [show (40 + 4 * (0 : Int)) = 40 from rfl] at h
    exact hev _ h
  · refine q_go1 1 18 [] (fun cl ev hcl hev => ?_)
    refine And.intro (by decide) ?_
    rw [show (40 + 4 * (1 : Int)) = 44 from rfl] at h
    exact hev _ h
  · refine q_go1 1 18 [] (fun cl ev hcl hev => ?_)
    refine And.intro (by decide) ?_
    rw [show (40 + 4 * (2 : Int)) = 48 from rfl] at h
    exact hev _ h
  · refine q_go1 1 18 [] (fun cl ev hcl hev => ?_)
    refine And.intro (by decide) ?_
    rw [show (40 + 4 * (3 : Int)) = 52 from rfl] at h
    exact hev _ h
  · refine q_go1 1 18 [] (fun cl ev hcl hev => ?_)
    refine And.intro (by decide) ?_
    rw [show (40 + 4 * (4 : Int)) = 56 from rfl] at h
    exact hev _ h
  · refine q_go1 1 18 [] (fun cl ev hcl hev => ?_)
    refine And.intro (by decide) ?_
    rw [show (40 + 4 * (5 : Int)) = 60 from rfl] at h
    exact hev _ h
  · refine q_go1 1 18 [] (fun cl ev hcl hev => ?_)
    refine And.intro (by decide) ?_
    rw [show (40 + 4 * (6 : Int)) = 64 from rfl] at h
    exact hev _ h
  · refine q_go1 1 18 [] (fun cl ev hcl hev => ?_)
    refine And.intro (by decide) ?_
    rw [show (40 + 4 * (7 : Int)) = 68 from rfl] at h
    exact hev _ h
  · refine q_go1 1 18 [] (fun cl ev hcl hev => ?_)
    refine And.intro (by decide) ?_
    rw [show (40 + 4 * (8 : Int)) = 72 from rfl] at h
    exact hev _ h
  · refine q_go1 1 18 [] (fun cl ev hcl hev => ?_)
    refine And.intro (by decide) ?_
    rw [show (40 + 4 * (9 : Int)) = 76 from rfl] at h
    exact hev _ h
  · refine q_go1 1 18 [] (fun cl ev hcl hev => ?_)
    refine And.intro (by decide) ?_
    rw [show (40 + 4 * (10 : Int)) = 80 from rfl] at h
    exact hev _ h
  · refine q_go1 1 18 [] (fun cl ev hcl hev => ?_)
    refine And.intro (by decide) ?_
    rw [show (40 + 4 * (11 : Int)) = 84 from rfl] at h
    exact hev _ h
theorem l_co2 {d q : Int} {W : Int → Int → Prop} {σ0 σ : q_S} {K : q_R → q_S → Prop} (hW : ∀ k i, w_co k i → W k i) (hq1 : q_cu q) (hs : 0 ≤ σ 34 2 ∧ σ 34 2 < 12) (h : q_AW W σ0 σ) (hK : ∀ x σ', q_AW W σ0 σ' → K (some (0, x)) σ') : q_E L xs k_A_court (37, [(2, 0), (0, d), (2, q), (0, 1)], [], σ) K := by
  have e : q_w32 (σ 34 2 + 1) = σ 34 2 + 1 := by rw [q_w32_id] <;> omega
  unfold q_cu at hq1
  rcases hq1 with rfl | rfl | rfl | rfl | rfl | rfl | rfl | rfl | rfl | rfl | rfl | rfl | rfl
  all_goals
    refine q_go1 200 37 [] (fun cl ev hcl hev => ?_)
    refine hK _ _ (q_AWu (q_AWu h (hW _ _ (by unfold w_co; omega)) (by unfold q_ok; omega)) (hW _ _ (by unfold w_co; omega)) ?_)
    simp (disch := decide) only [q_un]
    rw [e]
    unfold q_ok
    omega
theorem c_A_court {d : Int} {W : Int → Int → Prop} {σ0 σ : q_S} {K : q_R → q_S → Prop} (hW : ∀ k i, w_co k i → W k i) (h : q_AW W σ0 σ) (hK : ∀ x σ', q_AW W σ0 σ' → K (some (0, x)) σ') : q_K L xs i_A_court [(2, 0), (0, d)] σ K := by
  have hs := q_oCourts h
  refine q_call k_A_court 4 rfl ?_
  show q_E L xs k_A_court (0, [(2, 0), (0, d), (9, 0), (9, 0)], [], σ) K
  refine q_go1 200 0 [18] (fun cl ev hcl hev => ?_)
  repeat' (first | refine And.intro ?_ ?_ | (intro hq; first | exact absurd hq (by decide) | exact absurd rfl hq | exact absurd hq (show ¬ (1 : Int) = 0 by decide) | exact absurd (show (1 : Int) ≠ 0 by decide) hq | skip) | (show cl _ _ _ _; refine hcl _ _ _ _ (c_A_isDay ?_ ?_)))
  all_goals first
    | omega
    | exact hK _ _ h
    | skip
  refine hev _ (l_co (by omega) ?_)
  have hq1 : q_cu (40 + 4 * σ 34 2) := by unfold q_cu; omega
  generalize 40 + 4 * σ 34 2 = q at hq1
  refine q_go1 200 20 [37] (fun cl ev hcl hev => ?_)
  show cl _ _ _ _
  refine hcl _ _ _ _ (c_Tape_read (W := w_rd) (σ0 := σ) (fun _ _ hk => hk) hq1 (q_AWr h) (fun x σ1 hx h1 => ?_))
  have hs1 : σ1 34 2 = σ 34 2 := h1.1 34 2 (by unfold w_rd; omega)
  have h2 : q_AW W σ0 σ1 := q_AWt h (fun k i hk => hW k i (by unfold w_rd at hk; unfold w_co; omega)) h1
  have h3 : q_AW W σ0 (q_up σ1 32 1 0) := q_AWu h2 (hW _ _ (by unfold w_co; omega)) (by unfold q_ok; omega)
  rcases hx with rfl | rfl
  · repeat' (first | refine And.intro ?_ ?_ | (intro hq; first | exact absurd hq (by decide) | exact absurd rfl hq | exact absurd hq (show ¬ (1 : Int) = 0 by decide) | exact absurd (show (1 : Int) ≠ 0 by decide) hq | skip))
    all_goals exact hK _ _ h3
  · repeat' (first | refine And.intro ?_ ?_ | (intro hq; first | exact absurd hq (by decide) | exact absurd rfl hq | exact absurd hq (show ¬ (1 : Int) = 0 by decide) | exact absurd (show (1 : Int) ≠ 0 by decide) hq | skip))
    all_goals exact hev _ (l_co2 hW hq1 (by rw [q_un (by decide), hs1]; omega) h3 hK)

end P61
