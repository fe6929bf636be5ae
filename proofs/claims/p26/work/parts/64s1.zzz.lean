/-- a cell of the model, and the class's that holds the same -/
def y_rel (k i k' i' : Int) : Prop := (k = 102 ∧ k' = 3 ∧ i' = i) ∨ (k = 103 ∧ k' = 4 ∧ i' = i) ∨ (k = 104 ∧ k' = 5 ∧ i' = i) ∨ (k = 114 ∧ k' = 20 ∧ i' = i) ∨ (k = 116 ∧ k' = 22 ∧ i' = i) ∨ (k = 117 ∧ k' = 23 ∧ i' = i) ∨ (k = 120 ∧ k' = 28 ∧ i' = i) ∨ (k = 121 ∧ k' = 29 ∧ i' = i) ∨ (k = 141 ∧ k' = 25 ∧ i' = i) ∨ (k = 101 ∧ k' = 2 ∧ i' = i) ∨ (k = 112 ∧ k' = 18 ∧ i' = i) ∨ (k = 113 ∧ k' = 19 ∧ i' = i) ∨ (k = 115 ∧ k' = 21 ∧ i' = i) ∨ (k = 139 ∧ k' = 26 ∧ i' = i) ∨ (k = 100 ∧ i = 27 ∧ k' = 1 ∧ i' = 5) ∨ (k = 100 ∧ i = 28 ∧ k' = 1 ∧ i' = 6) ∨ (k = 100 ∧ i = 51 ∧ k' = 1 ∧ i' = 7) ∨ (k = 100 ∧ i = 13 ∧ k' = 17 ∧ i' = 9) ∨ (k = 100 ∧ i = 22 ∧ k' = 27 ∧ i' = 2) ∨ (k = 100 ∧ i = 25 ∧ k' = 0 ∧ i' = 10) ∨ (k = 100 ∧ i = 26 ∧ k' = 0 ∧ i' = 11) ∨ (k = 105 ∧ k' = 6 ∧ i' = 2 * i) ∨ (k = 106 ∧ k' = 6 ∧ i' = 2 * i + 1)
def y_M (σ τ : q_S) : Prop := ∀ k i k' i', y_rel k i k' i' → σ k i = τ k' i'
section Y7
variable {σ τ : q_S}
theorem M_key {k i k' i' a j a' j' : Int} (hr : y_rel k i k' i') (hq : y_rel a j a' j') : (a = k ∧ j = i) ↔ (a' = k' ∧ j' = i') := by
  unfold y_rel at hr hq
  rcases hr with hr | hr | hr | hr | hr | hr | hr | hr | hr | hr | hr | hr | hr | hr | hr | hr | hr | hr | hr | hr | hr | hr | hr
  all_goals (rcases hq with hq | hq | hq | hq | hq | hq | hq | hq | hq | hq | hq | hq | hq | hq | hq | hq | hq | hq | hq | hq | hq | hq | hq)
  all_goals omega
theorem M_up {k i k' i' v : Int} (h : y_M σ τ) (hr : y_rel k i k' i') : y_M (q_up σ k i v) (q_up τ k' i' v) := by
  intro a j a' j' hq
  have key := M_key hr hq
  by_cases e : a = k ∧ j = i
  · have e2 := key.mp e
    rw [e.1, e.2, e2.1, e2.2, q_ue, q_ue]
  · rw [q_unn e, q_unn (fun z => e (key.mpr z))]
    exact h a j a' j' hq
theorem M_l {k i v : Int} (h : y_M σ τ) (hr : ∀ k' i', ¬ y_rel k i k' i') : y_M (q_up σ k i v) τ := by
  intro a j a' j' hq
  rw [q_unn (fun z => hr a' j' (by rw [z.1, z.2] at hq; exact hq))]
  exact h a j a' j' hq
theorem q_cmm {k i v k' i' v' : Int} (h : ¬ (k = k' ∧ i = i')) : q_up (q_up σ k i v) k' i' v' = q_up (q_up σ k' i' v') k i v := by
  funext a j
  unfold q_up
  repeat' split
  all_goals first
    | rfl
    | (exfalso; omega)
theorem q_uu {k i v v' : Int} : q_up (q_up σ k i v) k i v' = q_up σ k i v' := by
  funext a j
  unfold q_up
  repeat' split
  all_goals rfl
theorem q_sf {k i v : Int} (h : v = σ k i) : q_up σ k i v = σ := by rw [h]; exact q_self

theorem M102 (h : y_M σ τ) (i : Int) : σ 102 i = τ 3 i := h 102 i 3 i (by simp [y_rel])
theorem M103 (h : y_M σ τ) (i : Int) : σ 103 i = τ 4 i := h 103 i 4 i (by simp [y_rel])
theorem M104 (h : y_M σ τ) (i : Int) : σ 104 i = τ 5 i := h 104 i 5 i (by simp [y_rel])
theorem M114 (h : y_M σ τ) (i : Int) : σ 114 i = τ 20 i := h 114 i 20 i (by simp [y_rel])
theorem M116 (h : y_M σ τ) (i : Int) : σ 116 i = τ 22 i := h 116 i 22 i (by simp [y_rel])
theorem M117 (h : y_M σ τ) (i : Int) : σ 117 i = τ 23 i := h 117 i 23 i (by simp [y_rel])
theorem M120 (h : y_M σ τ) (i : Int) : σ 120 i = τ 28 i := h 120 i 28 i (by simp [y_rel])
theorem M121 (h : y_M σ τ) (i : Int) : σ 121 i = τ 29 i := h 121 i 29 i (by simp [y_rel])
theorem M141 (h : y_M σ τ) (i : Int) : σ 141 i = τ 25 i := h 141 i 25 i (by simp [y_rel])
theorem M101 (h : y_M σ τ) (i : Int) : σ 101 i = τ 2 i := h 101 i 2 i (by simp [y_rel])
theorem M112 (h : y_M σ τ) (i : Int) : σ 112 i = τ 18 i := h 112 i 18 i (by simp [y_rel])
theorem M113 (h : y_M σ τ) (i : Int) : σ 113 i = τ 19 i := h 113 i 19 i (by simp [y_rel])
theorem M115 (h : y_M σ τ) (i : Int) : σ 115 i = τ 21 i := h 115 i 21 i (by simp [y_rel])
theorem M139 (h : y_M σ τ) (i : Int) : σ 139 i = τ 26 i := h 139 i 26 i (by simp [y_rel])
theorem Ms27 (h : y_M σ τ) : σ 100 27 = τ 1 5 := h 100 27 1 5 (by simp [y_rel])
theorem Ms28 (h : y_M σ τ) : σ 100 28 = τ 1 6 := h 100 28 1 6 (by simp [y_rel])
theorem Ms51 (h : y_M σ τ) : σ 100 51 = τ 1 7 := h 100 51 1 7 (by simp [y_rel])
theorem Ms13 (h : y_M σ τ) : σ 100 13 = τ 17 9 := h 100 13 17 9 (by simp [y_rel])
theorem Ms22 (h : y_M σ τ) : σ 100 22 = τ 27 2 := h 100 22 27 2 (by simp [y_rel])
theorem Ms25 (h : y_M σ τ) : σ 100 25 = τ 0 10 := h 100 25 0 10 (by simp [y_rel])
theorem Ms26 (h : y_M σ τ) : σ 100 26 = τ 0 11 := h 100 26 0 11 (by simp [y_rel])
theorem M105 (h : y_M σ τ) (i : Int) : σ 105 i = τ 6 (2 * i) := h 105 i 6 (2 * i) (by simp [y_rel])
theorem M106 (h : y_M σ τ) (i : Int) : σ 106 i = τ 6 (2 * i + 1) := h 106 i 6 (2 * i + 1) (by simp [y_rel])
end Y7
def y_in (σ : q_S) (c v : Int) : q_S := q_up (q_up σ 3 c (σ 3 c + v)) 1 5 ((σ 1 5 + v) % 1000000)
/-- what a rod loses -/
def y_tk (r sea wind : Int) (τ : q_S) : Int := if 20 ≤ sea - τ 20 r then τ 20 r - y_rst (τ 19 r) (τ 20 r) else if -5 < sea - τ 20 r then min (y_wof (τ 19 r) wind (sea - τ 20 r)) (τ 20 r) else 0
def y_mu (r sea wind : Int) (τ : q_S) : q_S := q_up (q_up (q_up (y_m1 r sea τ) 20 r (τ 20 r - y_tk r sea wind τ)) 23 r (q_w32 (τ 23 r + y_tk r sea wind τ))) 22 r (if 20 ≤ sea - τ 20 r then q_w32 (τ 22 r + 1) else τ 22 r)
section Y8
variable {σ τ : q_S} {b : Int}
theorem y_tk_in {r sea wind : Int} (hw : 0 ≤ wind ∧ wind ≤ 3) (h : y_S b τ) : 0 ≤ y_tk r sea wind τ ∧ y_tk r sea wind τ ≤ τ 20 r := by
  have h1 := S20 h r
  have h2 := y_rst_in (kd := τ 19 r) h1.1
  have h3 := y_wof_in (kd := τ 19 r) (ov := sea - τ 20 r) hw
  unfold y_tk
  repeat' split
  all_goals omega
theorem y_mu_e {r sea wind : Int} (hw : 0 ≤ wind ∧ wind ≤ 3) (h : y_S b τ) : y_meet r sea wind τ = if 20 ≤ sea - τ 20 r then q_up (y_mu r sea wind τ) 25 r 1 else y_mu r sea wind τ := by
  have h1 := S20 h r
  have h2 := y_rst_in (kd := τ 19 r) h1.1
  have h23 := S23 h r
  have e19 : y_m1 r sea τ 19 r = τ 19 r := y_m19 (by decide) (by decide)
  have e20 : y_m1 r sea τ 20 r = τ 20 r := y_m19 (by decide) (by decide)
  have e22 : y_m1 r sea τ 22 r = τ 22 r := y_m19 (by decide) (by decide)
  have e23 : y_m1 r sea τ 23 r = τ 23 r := y_m19 (by decide) (by decide)
  unfold y_meet y_mu y_tk
  by_cases c1 : 20 ≤ sea - τ 20 r
  · rw [if_pos c1, if_pos c1, if_pos c1, if_pos c1]
    unfold y_brk y_wear
    rw [e19, e20, e22, e23, show min (τ 20 r - y_rst (τ 19 r) (τ 20 r)) (τ 20 r) = τ 20 r - y_rst (τ 19 r) (τ 20 r) by omega]
  · rw [if_neg c1, if_neg c1, if_neg c1, if_neg c1]
    by_cases c2 : -5 < sea - τ 20 r
    · rw [if_pos c2, if_pos c2]
      unfold y_wear
      rw [e20, e23]
      exact (q_sf (by rw [q_un (by decide), q_un (by decide), e22])).symm
    · rw [if_neg c2, if_neg c2]
      rw [q_w32_id (by omega) (by omega)]
      rw [q_sf (k := 20) (by rw [e20]; omega), q_sf (k := 23) (by rw [e23]; omega), q_sf (by rw [e22])]
theorem y_mu_25 {r sea wind i : Int} : y_mu r sea wind τ 25 i = τ 25 i := by
  unfold y_mu
  rw [q_un (by decide), q_un (by decide), q_un (by decide)]
  exact y_m19 (by decide) (by decide)
theorem q_sht_M {c w : Int} (h : y_M σ τ) (hc : 0 ≤ c ∧ c < 30) (hw : 0 ≤ w ∧ w < 4) (hn : q_bes c w ≠ -1) : q_gb c (q_bes c w) ≠ -1 ∧ q_sht σ c w = τ 6 (q_gb c (q_bes c w)) := by
  have hb := q_bes_in (c := c) (w := w) hc
  have e := q_gb_w hc (by omega : 0 ≤ q_bes c w ∧ q_bes c w < 30) hw rfl
  have h4 : w = 0 ∨ w = 1 ∨ w = 2 ∨ w = 3 := by omega
  have hh : (w = 0 → q_bes c w = c - 1) ∧ (w = 1 → q_bes c w = c + 1) ∧ (w = 2 → q_bes c w = c - 6) ∧ (w = 3 → q_bes c w = c + 6) := by
    unfold q_bes at hn ⊢
    refine ⟨fun z => ?_, fun z => ?_, fun z => ?_, fun z => ?_⟩
    all_goals (subst z; repeat' split at hn)
    all_goals (repeat' split)
    all_goals omega
  rw [e]
  rcases h4 with rfl | rfl | rfl | rfl
  · have g := hh.1 rfl
    rw [if_pos (by decide), if_neg (by omega), g]
    exact ⟨by omega, M105 h _⟩
  · have g := hh.2.1 rfl
    rw [if_pos (by decide), if_pos (by omega)]
    exact ⟨by omega, M105 h _⟩
  · have g := hh.2.2.1 rfl
    rw [if_neg (by decide), if_neg (by omega), g]
    exact ⟨by omega, M106 h _⟩
  · have g := hh.2.2.2 rfl
    rw [if_neg (by decide), if_pos (by omega)]
    exact ⟨by omega, M106 h _⟩
end Y8
section Y9
variable {L : Nat} {xs : Int → Int}
theorem z_comes {c n b : Int} {σ τ : q_S} {K : q_R → q_S → Prop} (hc : 0 ≤ c ∧ c < 30) (hn : 0 ≤ n ∧ n ≤ 1000000) (M : y_M σ τ) (h : y_S b τ) (hb : b ≤ 1000000000) (hK : ∀ σ', y_M σ' (y_in τ c n) → K none σ') : q_K L xs i_M_comes [(2, 100), (0, c), (0, n)] σ K := by
  have h3 := S3 h c
  have h5 := S15 h
  refine c_M_comes hc (hK _ ?_)
  rw [M102 M, Ms27 M, q_w32_id (x := τ 3 c + n) (by omega) (by omega), q_w32_id (x := τ 1 5 + n) (by omega) (by omega), q_tm (by omega)]
  exact M_up (M_up M (by simp [y_rel])) (by simp [y_rel])
theorem z_wears {r sea wind b : Int} {σ τ : q_S} {K : q_R → q_S → Prop} (hr : 0 ≤ r ∧ r < 24) (hw : 0 ≤ wind ∧ wind ≤ 3) (hs : 0 ≤ sea ∧ sea ≤ 120) (M : y_M σ τ) (h : y_S b τ) (hK : K (some (0, if -5 < sea - τ 20 r then min (y_wof (τ 19 r) wind (sea - τ 20 r)) (τ 20 r) else 0)) σ) : q_K L xs i_M_wears [(2, 100), (0, r), (0, sea), (0, wind)] σ K := by
  have h1 := S20 h r
  have e1 := M114 M r
  have e2 := M113 M r
  have ed : q_w32 ((q_w32 (1 + wind)).tdiv 2) = (1 + wind) / 2 := by rw [q_w32_id (x := 1 + wind) (by omega) (by omega), q_td (by omega), q_w32_id] <;> omega
  refine q_call k_M_wears 5 rfl ?_
  show q_E L xs k_M_wears (0, [(2, 100), (0, r), (0, sea), (0, wind), (9, 0)], [], σ) K
  refine q_go1 200 0 [] (fun cl ev hcl hev => ?_)
  have w1 : q_w32 (σ 114 r + 10) = σ 114 r + 10 := by rw [q_w32_id] <;> omega
  have w2 : q_w32 (σ 114 r - 5) = σ 114 r - 5 := by rw [q_w32_id] <;> omega
  repeat' (first | refine And.intro ?_ ?_ | (intro hq; first | exact absurd hq (by decide) | exact absurd rfl hq | exact absurd hq (show ¬ (1 : Int) = 0 by decide) | exact absurd (show (1 : Int) ≠ 0 by decide) hq | skip))
  all_goals first
    | omega
    | (refine q_kv hK ?_
       try rw [ed] at *
       unfold y_wof
       unfold q_w32 at *
       repeat' split
       all_goals omega)

end Y9
