section T1
variable {L : Nat} {xs : Int → Int}
theorem xa_cell {c w : Int} {σ : q_S} {K : q_R → q_S → Prop} (h0 : ¬ (0 ≤ c ∧ c ≤ 29 ∧ 0 ≤ w ∧ w ≤ 4) → K (some (0, -1)) σ) (h1 : (0 ≤ c ∧ c ≤ 29 ∧ w = 0) → K (some (0, σ 2 c)) σ) (h2 : (0 ≤ c ∧ c ≤ 29 ∧ w = 1) → K (some (0, σ 3 c)) σ) (h3 : (0 ≤ c ∧ c ≤ 29 ∧ w = 2) → K (some (0, q_w32 (σ 2 c + q_w32 ((σ 3 c).tdiv 100)))) σ) (h4 : (0 ≤ c ∧ c ≤ 29 ∧ w = 3) → K (some (0, σ 4 c)) σ) (h5 : (0 ≤ c ∧ c ≤ 29 ∧ w = 4) → K (some (0, σ 5 c)) σ) : q_K L xs i_A_cell [(2, 0), (0, c), (0, w)] σ K := by
  refine q_call k_A_cell 3 rfl ?_
  show q_E L xs k_A_cell (0, [(2, 0), (0, c), (0, w)], [], σ) K
  refine q_go1 200 0 [] (fun cl ev hcl hev => ?_)
  repeat' (first | refine And.intro ?_ ?_ | (intro hq; first | exact absurd hq (by decide) | exact absurd rfl hq | exact absurd hq (show ¬ (1 : Int) = 0 by decide) | exact absurd (show (1 : Int) ≠ 0 by decide) hq | skip) | (show cl _ _ _ _; first | refine hcl _ _ _ _ (c_A_isCell ?_ ?_) | refine hcl _ _ _ _ (c_Land_surface (c := c) (by omega) ?_)))
  all_goals first
    | omega
    | exact h0 (by omega)
    | exact h1 (by omega)
    | exact h2 (by omega)
    | exact h3 (by omega)
    | exact h4 (by omega)
    | exact h5 (by omega)

theorem xa_where {r : Int} {σ : q_S} {K : q_R → q_S → Prop} (hb : 0 ≤ σ 27 2 ∧ σ 27 2 ≤ 6) (h0 : ¬ (0 ≤ r ∧ r < σ 27 2) → K (some (0, -1)) σ) (h2 : (0 ≤ r ∧ r < σ 27 2 ∧ σ 29 r ≠ 0) → K (some (0, -5)) σ) (h1 : (0 ≤ r ∧ r < σ 27 2 ∧ σ 29 r = 0) → K (some (0, σ 28 r)) σ) : q_K L xs i_A_where [(2, 0), (0, r)] σ K := by
  refine q_call k_A_where 2 rfl ?_
  show q_E L xs k_A_where (0, [(2, 0), (0, r)], [], σ) K
  refine q_go1 200 0 [] (fun cl ev hcl hev => ?_)
  repeat' (first | refine And.intro ?_ ?_ | (intro hq; first | exact absurd hq (by decide) | exact absurd rfl hq | exact absurd hq (show ¬ (1 : Int) = 0 by decide) | exact absurd (show (1 : Int) ≠ 0 by decide) hq | skip) | (show cl _ _ _ _; first | refine hcl _ _ _ _ (c_A_isHerd hb ?_ ?_)))
  all_goals first
    | omega
    | exact h0 (by omega)
    | exact h2 (by omega)
    | exact h1 (by omega)

theorem xa_mended {w : Int} {σ : q_S} {K : q_R → q_S → Prop} (h0 : ¬ (0 ≤ w ∧ w ≤ 7) → K (some (0, -1)) σ) (h1 : (0 ≤ w ∧ w ≤ 7) → K (some (0, σ 26 w)) σ) : q_K L xs i_A_mended [(2, 0), (0, w)] σ K := by
  refine q_call k_A_mended 2 rfl ?_
  show q_E L xs k_A_mended (0, [(2, 0), (0, w)], [], σ) K
  refine q_go1 200 0 [] (fun cl ev hcl hev => ?_)
  repeat' (first | refine And.intro ?_ ?_ | (intro hq; first | exact absurd hq (by decide) | exact absurd rfl hq | exact absurd hq (show ¬ (1 : Int) = 0 by decide) | exact absurd (show (1 : Int) ≠ 0 by decide) hq | skip) | (show cl _ _ _ _; first | refine hcl _ _ _ _ (c_A_isOwner ?_ ?_)))
  all_goals first
    | omega
    | exact h0 (by omega)
    | exact h1 (by omega)

theorem xa_drive {i c : Int} {σ : q_S} {K : q_R → q_S → Prop} (hb : 0 ≤ σ 27 2 ∧ σ 27 2 ≤ 6) (hp : 0 ≤ σ 28 i ∧ σ 28 i < 30) (h0 : ¬ (0 ≤ i ∧ i < σ 27 2 ∧ 0 ≤ c ∧ c ≤ 29) → K (some (0, -1)) σ) (h2 : (0 ≤ i ∧ i < σ 27 2 ∧ 0 ≤ c ∧ c ≤ 29) → q_gb (σ 28 i) c = -1 → K (some (0, -2)) σ) (h3 : (0 ≤ i ∧ i < σ 27 2 ∧ 0 ≤ c ∧ c ≤ 29) → q_gb (σ 28 i) c ≠ -1 → (σ 6 (q_gb (σ 28 i) c) ≠ 0 ∨ σ 29 i ≠ 0) → K (some (0, -3)) σ) (h1 : (0 ≤ i ∧ i < σ 27 2 ∧ 0 ≤ c ∧ c ≤ 29) → q_gb (σ 28 i) c ≠ -1 → σ 6 (q_gb (σ 28 i) c) = 0 → σ 29 i = 0 → K (some (0, σ 28 i)) (q_up σ 28 i c)) : q_K L xs i_A_drive [(2, 0), (0, i), (0, c)] σ K := by
  have hg : (0 ≤ c ∧ c ≤ 29) → -1 ≤ q_gb (σ 28 i) c ∧ q_gb (σ 28 i) c < 60 := fun hh => q_gb_in hp (by omega)
  refine q_call k_A_drive 5 rfl ?_
  show q_E L xs k_A_drive (0, [(2, 0), (0, i), (0, c), (9, 0), (9, 0)], [], σ) K
  refine q_go1 200 0 [] (fun cl ev hcl hev => ?_)
  repeat' (first | refine And.intro ?_ ?_ | (intro hq; first | exact absurd hq (by decide) | exact absurd rfl hq | exact absurd hq (show ¬ (1 : Int) = 0 by decide) | exact absurd (show (1 : Int) ≠ 0 by decide) hq | skip) | (show cl _ _ _ _; first | refine hcl _ _ _ _ (c_A_isHerd hb ?_ ?_) | refine hcl _ _ _ _ (c_A_isCell ?_ ?_) | refine hcl _ _ _ _ (c_Land_gateBetween (b := c) hp (by omega) ?_)))
  all_goals first
    | omega
    | exact h0 (by omega)
    | exact h2 (by omega) (by omega)
    | exact h3 (by omega) (by omega) (by omega)
    | exact h1 (by omega) (by omega) (by omega) (by omega)

theorem za_drive {i c : Int} {σ : q_S} {K : q_R → q_S → Prop} (hb : 0 ≤ σ 100 22 ∧ σ 100 22 ≤ 6) (hp : 0 ≤ σ 120 i ∧ σ 120 i < 30) (h0 : ¬ (0 ≤ i ∧ i < σ 100 22 ∧ 0 ≤ c ∧ c ≤ 29) → K (some (0, -1)) σ) (h2 : (0 ≤ i ∧ i < σ 100 22 ∧ 0 ≤ c ∧ c ≤ 29) → (∀ v, 0 ≤ v → v < 4 → q_bes (σ 120 i) v ≠ c) → K (some (0, -2)) σ) (h3 : (0 ≤ i ∧ i < σ 100 22 ∧ 0 ≤ c ∧ c ≤ 29) → ∀ w, 0 ≤ w → w < 4 → q_bes (σ 120 i) w = c → (q_sht σ (σ 120 i) w ≠ 0 ∨ σ 121 i ≠ 0) → K (some (0, -3)) σ) (h1 : (0 ≤ i ∧ i < σ 100 22 ∧ 0 ≤ c ∧ c ≤ 29) → ∀ w, 0 ≤ w → w < 4 → q_bes (σ 120 i) w = c → q_sht σ (σ 120 i) w = 0 → σ 121 i = 0 → K (some (0, σ 120 i)) (q_up σ 120 i c)) : q_K L xs i_M_drive [(2, 100), (0, i), (0, c)] σ K := by
  refine q_call k_M_drive 5 rfl ?_
  show q_E L xs k_M_drive (0, [(2, 100), (0, i), (0, c), (9, 0), (9, 0)], [], σ) K
  refine q_go1 200 0 [] (fun cl ev hcl hev => ?_)
  repeat' (first | refine And.intro ?_ ?_ | (intro hq; first | exact absurd hq (by decide) | exact absurd rfl hq | exact absurd hq (show ¬ (1 : Int) = 0 by decide) | exact absurd (show (1 : Int) ≠ 0 by decide) hq | skip) | (show cl _ _ _ _; first | refine hcl _ _ _ _ (c_M_isHerd hb ?_ ?_) | refine hcl _ _ _ _ (c_M_isCell ?_ ?_) | refine hcl _ _ _ _ (c_M_wayX hp (fun w hw => ?_)) | refine hcl _ _ _ _ (c_M_isOpen hp (by omega) ?_ ?_)))
  all_goals first
    | omega
    | exact h0 (by omega)
    | exact h2 (by omega) (hw.elim (fun z => z.2) (fun z => absurd z.1 (by omega)))
    | exact h3 (by omega) w (by omega) (by omega) (by omega) (by omega)
    | exact h1 (by omega) w (by omega) (by omega) (by omega) (by omega) (by omega)

theorem q_AWs {W : Int → Int → Prop} {σ : q_S} (h : ∀ k i, q_ok k i (σ k i)) : q_AW W σ σ := ⟨fun _ _ _ => rfl, h⟩
theorem xa_mend {r w n : Int} {σ : q_S} {K : q_R → q_S → Prop} (hA : ∀ k i, q_ok k i (σ k i)) (h0 : ¬ (0 ≤ r ∧ r < σ 17 9 ∧ 0 ≤ w ∧ w ≤ 7) → K (some (0, -1)) σ) (h2 : (0 ≤ r ∧ r < σ 17 9 ∧ 0 ≤ w ∧ w ≤ 7 ∧ ¬ (1 ≤ n ∧ n ≤ 99 ∧ σ 20 r + n ≤ 99)) → K (some (0, -2)) σ) (h1 : (0 ≤ r ∧ r < σ 17 9 ∧ 0 ≤ w ∧ w ≤ 7 ∧ 1 ≤ n ∧ n ≤ 99 ∧ σ 20 r + n ≤ 99) → ∀ σ', (∀ k i, ¬ w_fa k i → σ' k i = q_up (q_up σ 20 r (σ 20 r + n)) 26 w (q_w32 (σ 26 w + n)) k i) → K (some (0, σ 20 r + n)) σ') : q_K L xs i_A_mend [(2, 0), (0, r), (0, w), (0, n)] σ K := by
  have hA0 : q_AW (fun _ _ => True) σ σ := q_AWs hA
  have hn := q_oBank hA0
  have hh := q_oHeight hA0 r
  have e : 1 ≤ n → n ≤ 99 → q_w32 (σ 20 r + n) = σ 20 r + n := fun _ _ => by rw [q_w32_id] <;> omega
  refine q_call k_A_mend 4 rfl ?_
  show q_E L xs k_A_mend (0, [(2, 0), (0, r), (0, w), (0, n)], [], σ) K
  refine q_go1 200 0 [] (fun cl ev hcl hev => ?_)
  repeat' (first | refine And.intro ?_ ?_ | (intro hq; first | exact absurd hq (by decide) | exact absurd rfl hq | exact absurd hq (show ¬ (1 : Int) = 0 by decide) | exact absurd (show (1 : Int) ≠ 0 by decide) hq | skip) | (show cl _ _ _ _; first | refine hcl _ _ _ _ (c_A_isRod hn ?_ ?_) | refine hcl _ _ _ _ (c_A_isOwner ?_ ?_) | refine hcl _ _ _ _ (c_A_within ?_ ?_) | refine hcl _ _ _ _ (c_Faults_endIfMended (W := w_fa) (r := r) (fun _ _ hk => hk) (by omega) (q_AWs (q_AWf (q_AWu hA0 trivial (by unfold q_ok; omega)) trivial (by unfold q_fre; omega)).2) (fun σ1 h9 => ?_))))
  all_goals first
    | omega
    | exact h0 (by omega)
    | exact h2 (by omega)
    | (have hx : σ1 20 r = σ 20 r + n := (h9.1 20 r (by unfold w_fa; omega)).trans (by rw [q_un (by decide), q_ue]; exact e (by omega) (by omega))
       rw [hx]
       exact h1 (by omega) σ1 (fun k i hk => (h9.1 k i hk).trans (by rw [e (by omega) (by omega), q_un (k' := 26) (by decide)])))
end T1

