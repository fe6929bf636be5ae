theorem e_it_b {D R : Int → Int} (h : ∀ o, 0 ≤ o → o < 8 → 0 ≤ D o ∧ D o ≤ 100000) : ∀ k : Nat, (k : Int) ≤ 1000 → ∀ o : Int, 0 ≤ o → o < 8 → 0 ≤ (e_it D R k).1 o ∧ (e_it D R k).1 o ≤ 100000 + (k : Int) := by
  intro k
  induction k with
  | zero =>
    intro _ o h0 h1
    have e : (e_it D R 0).1 o = D o := rfl
    rw [e]
    have := h o h0 h1
    omega
  | succ k ih =>
    intro hk o h0 h1
    have hg := e_gn_in (R := (e_it D R k).2) 7
    have a := ih (by omega) o h0 h1
    have b := ih (by omega) (e_gn (e_it D R k).2 7) hg.1 (by omega)
    have e : q_w32 ((e_it D R k).1 (e_gn (e_it D R k).2 7) + 1) = (e_it D R k).1 (e_gn (e_it D R k).2 7) + 1 := by rw [q_w32_id] <;> omega
    have es : (e_it D R (k + 1)).1 o = q_fup (e_it D R k).1 (e_gn (e_it D R k).2 7) (q_w32 ((e_it D R k).1 (e_gn (e_it D R k).2 7) + 1)) o := rfl
    rw [es, e]
    unfold q_fup
    split
    · omega
    · omega
theorem e_D_b {s : Int} {P : Int → Int} (h : e_P s P) {o : Int} (h0 : 0 ≤ o) (h1 : o < 8) : 0 ≤ e_D s P o ∧ e_D s P o ≤ 200000 := by
  have h8 := e_ps8 (s := s) h.2.2
  have hb : ∀ o : Int, 0 ≤ o → o < 8 → 0 ≤ s * P o / 360 ∧ s * P o / 360 ≤ 100000 := fun o a b => by
    have := e_P1 h (o := o.toNat) (by omega)
    rw [show ((o.toNat : Nat) : Int) = o by omega] at this
    omega
  have := e_it_b (R := fun o => s * P o % 360) hb (s - q_ps s P 8).toNat (by omega) o h0 h1
  unfold e_D
  omega
section Y2
variable {L : Nat} {xs : Int → Int}
theorem xw_36 {r d kc ks : Int} {P H : Int → Int} {σ : q_S} {K : q_R → q_S → Prop} (hn : 0 ≤ σ 36 8 ∧ σ 36 8 ≤ 10) (hr : 0 ≤ r ∧ r < 24) (hb : 0 ≤ σ 7 5 ∧ σ 7 5 ≤ 120) (hks : 0 ≤ ks ∧ ks ≤ σ 7 5) (hp : ∀ j : Nat, (j : Int) < σ 7 5 → 0 ≤ σ 11 j ∧ σ 11 j ≤ 12) (hH : ∀ o, q_pof σ (σ 18 r) o d ks.toNat = H o) (H0 : 0 ≤ H 0) (hP : ∀ o, 0 ≤ o → o < 8 → q_pof σ (-1) o d ks.toNat = P o) (eP : ∀ s, 0 ≤ s → s ≤ 24 → e_P s P) (hAB : ∀ k, 0 ≤ k → k < σ 36 8 → (0 ≤ σ 37 k ∧ σ 37 k ≤ 23) ∧ (0 ≤ σ 38 k ∧ σ 38 k ≤ 23))
    (h0 : (v_rl (σ 37) (σ 38) r (σ 36 8).toNat) = -1 → K (some (0, -5)) σ)
    (h1 : (v_rl (σ 37) (σ 38) r (σ 36 8).toNat) ≠ -1 → σ 39 (v_rl (σ 37) (σ 38) r (σ 36 8).toNat) = 8 → K (some (0, e_gn H 7)) σ)
    (h2 : (v_rl (σ 37) (σ 38) r (σ 36 8).toNat) ≠ -1 → σ 39 (v_rl (σ 37) (σ 38) r (σ 36 8).toNat) = 9 → ∀ σ', (∀ k i, k ≠ 14 → k ≠ 15 → k ≠ 16 → σ' k i = σ k i) → K (some (0, v_oa (e_D (σ 38 (v_rl (σ 37) (σ 38) r (σ 36 8).toNat) - σ 37 (v_rl (σ 37) (σ 38) r (σ 36 8).toNat) + 1) P) 8 (r - σ 37 (v_rl (σ 37) (σ 38) r (σ 36 8).toNat)))) σ')
    (h3 : (v_rl (σ 37) (σ 38) r (σ 36 8).toNat) ≠ -1 → σ 39 (v_rl (σ 37) (σ 38) r (σ 36 8).toNat) ≠ 8 → σ 39 (v_rl (σ 37) (σ 38) r (σ 36 8).toNat) ≠ 9 → K (some (0, σ 39 (v_rl (σ 37) (σ 38) r (σ 36 8).toNat))) σ) : q_E L xs k_A_whoMends (9, [(2, 0), (0, r), (0, d), (0, kc), (0, ks), (2, 36), (9, 0), (9, 0), (9, 0)], [], σ) K := by
  have vi := v_rl_in (A := σ 37) (B := σ 38) (r := r) (σ 36 8).toNat
  have em : min ks (σ 7 5) = ks := by omega
  refine q_go1 200 9 [] (fun cl ev hcl hev => ?_)
  show cl _ _ _ _
  refine hcl _ _ _ _ (x_ru36 hn ?_)
  generalize (v_rl (σ 37) (σ 38) r (σ 36 8).toNat) = v at vi h0 h1 h2 h3 ⊢
  refine And.intro (fun g => ?_) (fun g => h0 (Decidable.not_not.mp g))
  have hab := hAB v (by omega) (by omega)
  have vr := vi.2.2 g
  refine And.intro (by omega) ?_
  refine And.intro (fun g8 => ?_) (fun g8 => ?_)
  · refine And.intro (fun g9 => h3 g g8 g9) (fun g9 => ?_)
    have h2 := h2 g (Decidable.not_not.mp g9)
    refine And.intro (by omega) ?_
    show cl _ _ _ _
    refine hcl _ _ _ _ (x_sum hb hks.1 hp (fun σ1 f1 h14 => ?_))
    rw [em] at h14
    have e2 : σ1 38 v = σ 38 v := f1 38 v (by decide)
    have es : q_w32 (q_w32 (σ1 38 v - σ 37 v) + 1) = σ 38 v - σ 37 v + 1 := by rw [e2]; unfold q_w32; omega
    have er : q_w32 (r - σ 37 v) = r - σ 37 v := by rw [q_w32_id] <;> omega
    have ep := eP (σ 38 v - σ 37 v + 1) (by omega) (by omega)
    refine And.intro (by omega) ?_
    show cl _ _ _ _
    rw [es]
    refine hcl _ _ _ _ (x_lay (P := P) ep (fun o o0 o1 => (h14 o o0 o1).trans (hP o o0 o1)) (fun σ2 f2 h15 => ?_))
    show cl _ _ _ _
    rw [er]
    refine hcl _ _ _ _ (x_oA (by omega) (fun o o0 o1 => by rw [h15 o o0 o1]; exact e_D_b ep o0 o1) ?_)
    rw [v_oa_c 8 _ (by omega) h15]
    exact h2 σ2 (fun k i a b c => (f2 k i b c).trans (f1 k i a))
  · refine And.intro (by omega) ?_
    show cl _ _ _ _
    refine hcl _ _ _ _ (x_gO (H := H) hb hks.1 hp (fun o => by rw [em]; exact hH o) H0 ?_)
    exact h1 g (Decidable.not_not.mp g8)
theorem xw_40 {r d kc ks : Int} {P H : Int → Int} {σ : q_S} {K : q_R → q_S → Prop} (hn : 0 ≤ σ 40 8 ∧ σ 40 8 ≤ 10) (hr : 0 ≤ r ∧ r < 24) (hb : 0 ≤ σ 7 5 ∧ σ 7 5 ≤ 120) (hks : 0 ≤ ks ∧ ks ≤ σ 7 5) (hp : ∀ j : Nat, (j : Int) < σ 7 5 → 0 ≤ σ 11 j ∧ σ 11 j ≤ 12) (hH : ∀ o, q_pof σ (σ 18 r) o d ks.toNat = H o) (H0 : 0 ≤ H 0) (hP : ∀ o, 0 ≤ o → o < 8 → q_pof σ (-1) o d ks.toNat = P o) (eP : ∀ s, 0 ≤ s → s ≤ 24 → e_P s P) (hAB : ∀ k, 0 ≤ k → k < σ 40 8 → (0 ≤ σ 41 k ∧ σ 41 k ≤ 23) ∧ (0 ≤ σ 42 k ∧ σ 42 k ≤ 23))
    (h0 : (v_rl (σ 41) (σ 42) r (σ 40 8).toNat) = -1 → K (some (0, -5)) σ)
    (h1 : (v_rl (σ 41) (σ 42) r (σ 40 8).toNat) ≠ -1 → σ 43 (v_rl (σ 41) (σ 42) r (σ 40 8).toNat) = 8 → K (some (0, e_gn H 7)) σ)
    (h2 : (v_rl (σ 41) (σ 42) r (σ 40 8).toNat) ≠ -1 → σ 43 (v_rl (σ 41) (σ 42) r (σ 40 8).toNat) = 9 → ∀ σ', (∀ k i, k ≠ 14 → k ≠ 15 → k ≠ 16 → σ' k i = σ k i) → K (some (0, v_oa (e_D (σ 42 (v_rl (σ 41) (σ 42) r (σ 40 8).toNat) - σ 41 (v_rl (σ 41) (σ 42) r (σ 40 8).toNat) + 1) P) 8 (r - σ 41 (v_rl (σ 41) (σ 42) r (σ 40 8).toNat)))) σ')
    (h3 : (v_rl (σ 41) (σ 42) r (σ 40 8).toNat) ≠ -1 → σ 43 (v_rl (σ 41) (σ 42) r (σ 40 8).toNat) ≠ 8 → σ 43 (v_rl (σ 41) (σ 42) r (σ 40 8).toNat) ≠ 9 → K (some (0, σ 43 (v_rl (σ 41) (σ 42) r (σ 40 8).toNat))) σ) : q_E L xs k_A_whoMends (9, [(2, 0), (0, r), (0, d), (0, kc), (0, ks), (2, 40), (9, 0), (9, 0), (9, 0)], [], σ) K := by
  have vi := v_rl_in (A := σ 41) (B := σ 42) (r := r) (σ 40 8).toNat
  have em : min ks (σ 7 5) = ks := by omega
  refine q_go1 200 9 [] (fun cl ev hcl hev => ?_)
  show cl _ _ _ _
  refine hcl _ _ _ _ (x_ru40 hn ?_)
  generalize (v_rl (σ 41) (σ 42) r (σ 40 8).toNat) = v at vi h0 h1 h2 h3 ⊢
  refine And.intro (fun g => ?_) (fun g => h0 (Decidable.not_not.mp g))
  have hab := hAB v (by omega) (by omega)
  have vr := vi.2.2 g
  refine And.intro (by omega) ?_
  refine And.intro (fun g8 => ?_) (fun g8 => ?_)
  · refine And.intro (fun g9 => h3 g g8 g9) (fun g9 => ?_)
    have h2 := h2 g (Decidable.not_not.mp g9)
    refine And.intro (by omega) ?_
    show cl _ _ _ _
    refine hcl _ _ _ _ (x_sum hb hks.1 hp (fun σ1 f1 h14 => ?_))
    rw [em] at h14
    have e2 : σ1 42 v = σ 42 v := f1 42 v (by decide)
    have es : q_w32 (q_w32 (σ1 42 v - σ 41 v) + 1) = σ 42 v - σ 41 v + 1 := by rw [e2]; unfold q_w32; omega
    have er : q_w32 (r - σ 41 v) = r - σ 41 v := by rw [q_w32_id] <;> omega
    have ep := eP (σ 42 v - σ 41 v + 1) (by omega) (by omega)
    refine And.intro (by omega) ?_
    show cl _ _ _ _
    rw [es]
    refine hcl _ _ _ _ (x_lay (P := P) ep (fun o o0 o1 => (h14 o o0 o1).trans (hP o o0 o1)) (fun σ2 f2 h15 => ?_))
    show cl _ _ _ _
    rw [er]
    refine hcl _ _ _ _ (x_oA (by omega) (fun o o0 o1 => by rw [h15 o o0 o1]; exact e_D_b ep o0 o1) ?_)
    rw [v_oa_c 8 _ (by omega) h15]
    exact h2 σ2 (fun k i a b c => (f2 k i b c).trans (f1 k i a))
  · refine And.intro (by omega) ?_
    show cl _ _ _ _
    refine hcl _ _ _ _ (x_gO (H := H) hb hks.1 hp (fun o => by rw [em]; exact hH o) H0 ?_)
    exact h1 g (Decidable.not_not.mp g8)
theorem xw_44 {r d kc ks : Int} {P H : Int → Int} {σ : q_S} {K : q_R → q_S → Prop} (hn : 0 ≤ σ 44 8 ∧ σ 44 8 ≤ 10) (hr : 0 ≤ r ∧ r < 24) (hb : 0 ≤ σ 7 5 ∧ σ 7 5 ≤ 120) (hks : 0 ≤ ks ∧ ks ≤ σ 7 5) (hp : ∀ j : Nat, (j : Int) < σ 7 5 → 0 ≤ σ 11 j ∧ σ 11 j ≤ 12) (hH : ∀ o, q_pof σ (σ 18 r) o d ks.toNat = H o) (H0 : 0 ≤ H 0) (hP : ∀ o, 0 ≤ o → o < 8 → q_pof σ (-1) o d ks.toNat = P o) (eP : ∀ s, 0 ≤ s → s ≤ 24 → e_P s P) (hAB : ∀ k, 0 ≤ k → k < σ 44 8 → (0 ≤ σ 45 k ∧ σ 45 k ≤ 23) ∧ (0 ≤ σ 46 k ∧ σ 46 k ≤ 23))
    (h0 : (v_rl (σ 45) (σ 46) r (σ 44 8).toNat) = -1 → K (some (0, -5)) σ)
    (h1 : (v_rl (σ 45) (σ 46) r (σ 44 8).toNat) ≠ -1 → σ 47 (v_rl (σ 45) (σ 46) r (σ 44 8).toNat) = 8 → K (some (0, e_gn H 7)) σ)
    (h2 : (v_rl (σ 45) (σ 46) r (σ 44 8).toNat) ≠ -1 → σ 47 (v_rl (σ 45) (σ 46) r (σ 44 8).toNat) = 9 → ∀ σ', (∀ k i, k ≠ 14 → k ≠ 15 → k ≠ 16 → σ' k i = σ k i) → K (some (0, v_oa (e_D (σ 46 (v_rl (σ 45) (σ 46) r (σ 44 8).toNat) - σ 45 (v_rl (σ 45) (σ 46) r (σ 44 8).toNat) + 1) P) 8 (r - σ 45 (v_rl (σ 45) (σ 46) r (σ 44 8).toNat)))) σ')
    (h3 : (v_rl (σ 45) (σ 46) r (σ 44 8).toNat) ≠ -1 → σ 47 (v_rl (σ 45) (σ 46) r (σ 44 8).toNat) ≠ 8 → σ 47 (v_rl (σ 45) (σ 46) r (σ 44 8).toNat) ≠ 9 → K (some (0, σ 47 (v_rl (σ 45) (σ 46) r (σ 44 8).toNat))) σ) : q_E L xs k_A_whoMends (9, [(2, 0), (0, r), (0, d), (0, kc), (0, ks), (2, 44), (9, 0), (9, 0), (9, 0)], [], σ) K := by
  have vi := v_rl_in (A := σ 45) (B := σ 46) (r := r) (σ 44 8).toNat
  have em : min ks (σ 7 5) = ks := by omega
  refine q_go1 200 9 [] (fun cl ev hcl hev => ?_)
  show cl _ _ _ _
  refine hcl _ _ _ _ (x_ru44 hn ?_)
  generalize (v_rl (σ 45) (σ 46) r (σ 44 8).toNat) = v at vi h0 h1 h2 h3 ⊢
  refine And.intro (fun g => ?_) (fun g => h0 (Decidable.not_not.mp g))
  have hab := hAB v (by omega) (by omega)
  have vr := vi.2.2 g
  refine And.intro (by omega) ?_
  refine And.intro (fun g8 => ?_) (fun g8 => ?_)
  · refine And.intro (fun g9 => h3 g g8 g9) (fun g9 => ?_)
    have h2 := h2 g (Decidable.not_not.mp g9)
    refine And.intro (by omega) ?_
    show cl _ _ _ _
    refine hcl _ _ _ _ (x_sum hb hks.1 hp (fun σ1 f1 h14 => ?_))
    rw [em] at h14
    have e2 : σ1 46 v = σ 46 v := f1 46 v (by decide)
    have es : q_w32 (q_w32 (σ1 46 v - σ 45 v) + 1) = σ 46 v - σ 45 v + 1 := by rw [e2]; unfold q_w32; omega
    have er : q_w32 (r - σ 45 v) = r - σ 45 v := by rw [q_w32_id] <;> omega
    have ep := eP (σ 46 v - σ 45 v + 1) (by omega) (by omega)
    refine And.intro (by omega) ?_
    show cl _ _ _ _
    rw [es]
    refine hcl _ _ _ _ (x_lay (P := P) ep (fun o o0 o1 => (h14 o o0 o1).trans (hP o o0 o1)) (fun σ2 f2 h15 => ?_))
    show cl _ _ _ _
    rw [er]
    refine hcl _ _ _ _ (x_oA (by omega) (fun o o0 o1 => by rw [h15 o o0 o1]; exact e_D_b ep o0 o1) ?_)
    rw [v_oa_c 8 _ (by omega) h15]
    exact h2 σ2 (fun k i a b c => (f2 k i b c).trans (f1 k i a))
  · refine And.intro (by omega) ?_
    show cl _ _ _ _
    refine hcl _ _ _ _ (x_gO (H := H) hb hks.1 hp (fun o => by rw [em]; exact hH o) H0 ?_)
    exact h1 g (Decidable.not_not.mp g8)
theorem xw_48 {r d kc ks : Int} {P H : Int → Int} {σ : q_S} {K : q_R → q_S → Prop} (hn : 0 ≤ σ 48 8 ∧ σ 48 8 ≤ 10) (hr : 0 ≤ r ∧ r < 24) (hb : 0 ≤ σ 7 5 ∧ σ 7 5 ≤ 120) (hks : 0 ≤ ks ∧ ks ≤ σ 7 5) (hp : ∀ j : Nat, (j : Int) < σ 7 5 → 0 ≤ σ 11 j ∧ σ 11 j ≤ 12) (hH : ∀ o, q_pof σ (σ 18 r) o d ks.toNat = H o) (H0 : 0 ≤ H 0) (hP : ∀ o, 0 ≤ o → o < 8 → q_pof σ (-1) o d ks.toNat = P o) (eP : ∀ s, 0 ≤ s → s ≤ 24 → e_P s P) (hAB : ∀ k, 0 ≤ k → k < σ 48 8 → (0 ≤ σ 49 k ∧ σ 49 k ≤ 23) ∧ (0 ≤ σ 50 k ∧ σ 50 k ≤ 23))
    (h0 : (v_rl (σ 49) (σ 50) r (σ 48 8).toNat) = -1 → K (some (0, -5)) σ)
    (h1 : (v_rl (σ 49) (σ 50) r (σ 48 8).toNat) ≠ -1 → σ 51 (v_rl (σ 49) (σ 50) r (σ 48 8).toNat) = 8 → K (some (0, e_gn H 7)) σ)
    (h2 : (v_rl (σ 49) (σ 50) r (σ 48 8).toNat) ≠ -1 → σ 51 (v_rl (σ 49) (σ 50) r (σ 48 8).toNat) = 9 → ∀ σ', (∀ k i, k ≠ 14 → k ≠ 15 → k ≠ 16 → σ' k i = σ k i) → K (some (0, v_oa (e_D (σ 50 (v_rl (σ 49) (σ 50) r (σ 48 8).toNat) - σ 49 (v_rl (σ 49) (σ 50) r (σ 48 8).toNat) + 1) P) 8 (r - σ 49 (v_rl (σ 49) (σ 50) r (σ 48 8).toNat)))) σ')
    (h3 : (v_rl (σ 49) (σ 50) r (σ 48 8).toNat) ≠ -1 → σ 51 (v_rl (σ 49) (σ 50) r (σ 48 8).toNat) ≠ 8 → σ 51 (v_rl (σ 49) (σ 50) r (σ 48 8).toNat) ≠ 9 → K (some (0, σ 51 (v_rl (σ 49) (σ 50) r (σ 48 8).toNat))) σ) : q_E L xs k_A_whoMends (9, [(2, 0), (0, r), (0, d), (0, kc), (0, ks), (2, 48), (9, 0), (9, 0), (9, 0)], [], σ) K := by
  have vi := v_rl_in (A := σ 49) (B := σ 50) (r := r) (σ 48 8).toNat
  have em : min ks (σ 7 5) = ks := by omega
  refine q_go1 200 9 [] (fun cl ev hcl hev => ?_)
  show cl _ _ _ _
  refine hcl _ _ _ _ (x_ru48 hn ?_)
  generalize (v_rl (σ 49) (σ 50) r (σ 48 8).toNat) = v at vi h0 h1 h2 h3 ⊢
  refine And.intro (fun g => ?_) (fun g => h0 (Decidable.not_not.mp g))
  have hab := hAB v (by omega) (by omega)
  have vr := vi.2.2 g
  refine And.intro (by omega) ?_
  refine And.intro (fun g8 => ?_) (fun g8 => ?_)
  · refine And.intro (fun g9 => h3 g g8 g9) (fun g9 => ?_)
    have h2 := h2 g (Decidable.not_not.mp g9)
    refine And.intro (by omega) ?_
    show cl _ _ _ _
    refine hcl _ _ _ _ (x_sum hb hks.1 hp (fun σ1 f1 h14 => ?_))
    rw [em] at h14
    have e2 : σ1 50 v = σ 50 v := f1 50 v (by decide)
    have es : q_w32 (q_w32 (σ1 50 v - σ 49 v) + 1) = σ 50 v - σ 49 v + 1 := by rw [e2]; unfold q_w32; omega
    have er : q_w32 (r - σ 49 v) = r - σ 49 v := by rw [q_w32_id] <;> omega
    have ep := eP (σ 50 v - σ 49 v + 1) (by omega) (by omega)
    refine And.intro (by omega) ?_
    show cl _ _ _ _
    rw [es]
    refine hcl _ _ _ _ (x_lay (P := P) ep (fun o o0 o1 => (h14 o o0 o1).trans (hP o o0 o1)) (fun σ2 f2 h15 => ?_))
    show cl _ _ _ _
    rw [er]
    refine hcl _ _ _ _ (x_oA (by omega) (fun o o0 o1 => by rw [h15 o o0 o1]; exact e_D_b ep o0 o1) ?_)
    rw [v_oa_c 8 _ (by omega) h15]
    exact h2 σ2 (fun k i a b c => (f2 k i b c).trans (f1 k i a))
  · refine And.intro (by omega) ?_
    show cl _ _ _ _
    refine hcl _ _ _ _ (x_gO (H := H) hb hks.1 hp (fun o => by rw [em]; exact hH o) H0 ?_)
    exact h1 g (Decidable.not_not.mp g8)
theorem xw_52 {r d kc ks : Int} {P H : Int → Int} {σ : q_S} {K : q_R → q_S → Prop} (hn : 0 ≤ σ 52 8 ∧ σ 52 8 ≤ 10) (hr : 0 ≤ r ∧ r < 24) (hb : 0 ≤ σ 7 5 ∧ σ 7 5 ≤ 120) (hks : 0 ≤ ks ∧ ks ≤ σ 7 5) (hp : ∀ j : Nat, (j : Int) < σ 7 5 → 0 ≤ σ 11 j ∧ σ 11 j ≤ 12) (hH : ∀ o, q_pof σ (σ 18 r) o d ks.toNat = H o) (H0 : 0 ≤ H 0) (hP : ∀ o, 0 ≤ o → o < 8 → q_pof σ (-1) o d ks.toNat = P o) (eP : ∀ s, 0 ≤ s → s ≤ 24 → e_P s P) (hAB : ∀ k, 0 ≤ k → k < σ 52 8 → (0 ≤ σ 53 k ∧ σ 53 k ≤ 23) ∧ (0 ≤ σ 54 k ∧ σ 54 k ≤ 23))
    (h0 : (v_rl (σ 53) (σ 54) r (σ 52 8).toNat) = -1 → K (some (0, -5)) σ)
    (h1 : (v_rl (σ 53) (σ 54) r (σ 52 8).toNat) ≠ -1 → σ 55 (v_rl (σ 53) (σ 54) r (σ 52 8).toNat) = 8 → K (some (0, e_gn H 7)) σ)
    (h2 : (v_rl (σ 53) (σ 54) r (σ 52 8).toNat) ≠ -1 → σ 55 (v_rl (σ 53) (σ 54) r (σ 52 8).toNat) = 9 → ∀ σ', (∀ k i, k ≠ 14 → k ≠ 15 → k ≠ 16 → σ' k i = σ k i) → K (some (0, v_oa (e_D (σ 54 (v_rl (σ 53) (σ 54) r (σ 52 8).toNat) - σ 53 (v_rl (σ 53) (σ 54) r (σ 52 8).toNat) + 1) P) 8 (r - σ 53 (v_rl (σ 53) (σ 54) r (σ 52 8).toNat)))) σ')
    (h3 : (v_rl (σ 53) (σ 54) r (σ 52 8).toNat) ≠ -1 → σ 55 (v_rl (σ 53) (σ 54) r (σ 52 8).toNat) ≠ 8 → σ 55 (v_rl (σ 53) (σ 54) r (σ 52 8).toNat) ≠ 9 → K (some (0, σ 55 (v_rl (σ 53) (σ 54) r (σ 52 8).toNat))) σ) : q_E L xs k_A_whoMends (9, [(2, 0), (0, r), (0, d), (0, kc), (0, ks), (2, 52), (9, 0), (9, 0), (9, 0)], [], σ) K := by
  have vi := v_rl_in (A := σ 53) (B := σ 54) (r := r) (σ 52 8).toNat
  have em : min ks (σ 7 5) = ks := by omega
  refine q_go1 200 9 [] (fun cl ev hcl hev => ?_)
  show cl _ _ _ _
  refine hcl _ _ _ _ (x_ru52 hn ?_)
  generalize (v_rl (σ 53) (σ 54) r (σ 52 8).toNat) = v at vi h0 h1 h2 h3 ⊢
  refine And.intro (fun g => ?_) (fun g => h0 (Decidable.not_not.mp g))
  have hab := hAB v (by omega) (by omega)
  have vr := vi.2.2 g
  refine And.intro (by omega) ?_
  refine And.intro (fun g8 => ?_) (fun g8 => ?_)
  · refine And.intro (fun g9 => h3 g g8 g9) (fun g9 => ?_)
    have h2 := h2 g (Decidable.not_not.mp g9)
    refine And.intro (by omega) ?_
    show cl _ _ _ _
    refine hcl _ _ _ _ (x_sum hb hks.1 hp (fun σ1 f1 h14 => ?_))
    rw [em] at h14
    have e2 : σ1 54 v = σ 54 v := f1 54 v (by decide)
    have es : q_w32 (q_w32 (σ1 54 v - σ 53 v) + 1) = σ 54 v - σ 53 v + 1 := by rw [e2]; unfold q_w32; omega
    have er : q_w32 (r - σ 53 v) = r - σ 53 v := by rw [q_w32_id] <;> omega
    have ep := eP (σ 54 v - σ 53 v + 1) (by omega) (by omega)
    refine And.intro (by omega) ?_
    show cl _ _ _ _
    rw [es]
    refine hcl _ _ _ _ (x_lay (P := P) ep (fun o o0 o1 => (h14 o o0 o1).trans (hP o o0 o1)) (fun σ2 f2 h15 => ?_))
    show cl _ _ _ _
    rw [er]
    refine hcl _ _ _ _ (x_oA (by omega) (fun o o0 o1 => by rw [h15 o o0 o1]; exact e_D_b ep o0 o1) ?_)
    rw [v_oa_c 8 _ (by omega) h15]
    exact h2 σ2 (fun k i a b c => (f2 k i b c).trans (f1 k i a))
  · refine And.intro (by omega) ?_
    show cl _ _ _ _
    refine hcl _ _ _ _ (x_gO (H := H) hb hks.1 hp (fun o => by rw [em]; exact hH o) H0 ?_)
    exact h1 g (Decidable.not_not.mp g8)
theorem xw_56 {r d kc ks : Int} {P H : Int → Int} {σ : q_S} {K : q_R → q_S → Prop} (hn : 0 ≤ σ 56 8 ∧ σ 56 8 ≤ 10) (hr : 0 ≤ r ∧ r < 24) (hb : 0 ≤ σ 7 5 ∧ σ 7 5 ≤ 120) (hks : 0 ≤ ks ∧ ks ≤ σ 7 5) (hp : ∀ j : Nat, (j : Int) < σ 7 5 → 0 ≤ σ 11 j ∧ σ 11 j ≤ 12) (hH : ∀ o, q_pof σ (σ 18 r) o d ks.toNat = H o) (H0 : 0 ≤ H 0) (hP : ∀ o, 0 ≤ o → o < 8 → q_pof σ (-1) o d ks.toNat = P o) (eP : ∀ s, 0 ≤ s → s ≤ 24 → e_P s P) (hAB : ∀ k, 0 ≤ k → k < σ 56 8 → (0 ≤ σ 57 k ∧ σ 57 k ≤ 23) ∧ (0 ≤ σ 58 k ∧ σ 58 k ≤ 23))
    (h0 : (v_rl (σ 57) (σ 58) r (σ 56 8).toNat) = -1 → K (some (0, -5)) σ)
    (h1 : (v_rl (σ 57) (σ 58) r (σ 56 8).toNat) ≠ -1 → σ 59 (v_rl (σ 57) (σ 58) r (σ 56 8).toNat) = 8 → K (some (0, e_gn H 7)) σ)
    (h2 : (v_rl (σ 57) (σ 58) r (σ 56 8).toNat) ≠ -1 → σ 59 (v_rl (σ 57) (σ 58) r (σ 56 8).toNat) = 9 → ∀ σ', (∀ k i, k ≠ 14 → k ≠ 15 → k ≠ 16 → σ' k i = σ k i) → K (some (0, v_oa (e_D (σ 58 (v_rl (σ 57) (σ 58) r (σ 56 8).toNat) - σ 57 (v_rl (σ 57) (σ 58) r (σ 56 8).toNat) + 1) P) 8 (r - σ 57 (v_rl (σ 57) (σ 58) r (σ 56 8).toNat)))) σ')
    (h3 : (v_rl (σ 57) (σ 58) r (σ 56 8).toNat) ≠ -1 → σ 59 (v_rl (σ 57) (σ 58) r (σ 56 8).toNat) ≠ 8 → σ 59 (v_rl (σ 57) (σ 58) r (σ 56 8).toNat) ≠ 9 → K (some (0, σ 59 (v_rl (σ 57) (σ 58) r (σ 56 8).toNat))) σ) : q_E L xs k_A_whoMends (9, [(2, 0), (0, r), (0, d), (0, kc), (0, ks), (2, 56), (9, 0), (9, 0), (9, 0)], [], σ) K := by
  have vi := v_rl_in (A := σ 57) (B := σ 58) (r := r) (σ 56 8).toNat
  have em : min ks (σ 7 5) = ks := by omega
  refine q_go1 200 9 [] (fun cl ev hcl hev => ?_)
  show cl _ _ _ _
  refine hcl _ _ _ _ (x_ru56 hn ?_)
  generalize (v_rl (σ 57) (σ 58) r (σ 56 8).toNat) = v at vi h0 h1 h2 h3 ⊢
  refine And.intro (fun g => ?_) (fun g => h0 (Decidable.not_not.mp g))
  have hab := hAB v (by omega) (by omega)
  have vr := vi.2.2 g
  refine And.intro (by omega) ?_
  refine And.intro (fun g8 => ?_) (fun g8 => ?_)
  · refine And.intro (fun g9 => h3 g g8 g9) (fun g9 => ?_)
    have h2 := h2 g (Decidable.not_not.mp g9)
    refine And.intro (by omega) ?_
    show cl _ _ _ _
    refine hcl _ _ _ _ (x_sum hb hks.1 hp (fun σ1 f1 h14 => ?_))
    rw [em] at h14
    have e2 : σ1 58 v = σ 58 v := f1 58 v (by decide)
    have es : q_w32 (q_w32 (σ1 58 v - σ 57 v) + 1) = σ 58 v - σ 57 v + 1 := by rw [e2]; unfold q_w32; omega
    have er : q_w32 (r - σ 57 v) = r - σ 57 v := by rw [q_w32_id] <;> omega
    have ep := eP (σ 58 v - σ 57 v + 1) (by omega) (by omega)
    refine And.intro (by omega) ?_
    show cl _ _ _ _
    rw [es]
    refine hcl _ _ _ _ (x_lay (P := P) ep (fun o o0 o1 => (h14 o o0 o1).trans (hP o o0 o1)) (fun σ2 f2 h15 => ?_))
    show cl _ _ _ _
    rw [er]
    refine hcl _ _ _ _ (x_oA (by omega) (fun o o0 o1 => by rw [h15 o o0 o1]; exact e_D_b ep o0 o1) ?_)
    rw [v_oa_c 8 _ (by omega) h15]
    exact h2 σ2 (fun k i a b c => (f2 k i b c).trans (f1 k i a))
  · refine And.intro (by omega) ?_
    show cl _ _ _ _
    refine hcl _ _ _ _ (x_gO (H := H) hb hks.1 hp (fun o => by rw [em]; exact hH o) H0 ?_)
    exact h1 g (Decidable.not_not.mp g8)
theorem xw_60 {r d kc ks : Int} {P H : Int → Int} {σ : q_S} {K : q_R → q_S → Prop} (hn : 0 ≤ σ 60 8 ∧ σ 60 8 ≤ 10) (hr : 0 ≤ r ∧ r < 24) (hb : 0 ≤ σ 7 5 ∧ σ 7 5 ≤ 120) (hks : 0 ≤ ks ∧ ks ≤ σ 7 5) (hp : ∀ j : Nat, (j : Int) < σ 7 5 → 0 ≤ σ 11 j ∧ σ 11 j ≤ 12) (hH : ∀ o, q_pof σ (σ 18 r) o d ks.toNat = H o) (H0 : 0 ≤ H 0) (hP : ∀ o, 0 ≤ o → o < 8 → q_pof σ (-1) o d ks.toNat = P o) (eP : ∀ s, 0 ≤ s → s ≤ 24 → e_P s P) (hAB : ∀ k, 0 ≤ k → k < σ 60 8 → (0 ≤ σ 61 k ∧ σ 61 k ≤ 23) ∧ (0 ≤ σ 62 k ∧ σ 62 k ≤ 23))
    (h0 : (v_rl (σ 61) (σ 62) r (σ 60 8).toNat) = -1 → K (some (0, -5)) σ)
    (h1 : (v_rl (σ 61) (σ 62) r (σ 60 8).toNat) ≠ -1 → σ 63 (v_rl (σ 61) (σ 62) r (σ 60 8).toNat) = 8 → K (some (0, e_gn H 7)) σ)
    (h2 : (v_rl (σ 61) (σ 62) r (σ 60 8).toNat) ≠ -1 → σ 63 (v_rl (σ 61) (σ 62) r (σ 60 8).toNat) = 9 → ∀ σ', (∀ k i, k ≠ 14 → k ≠ 15 → k ≠ 16 → σ' k i = σ k i) → K (some (0, v_oa (e_D (σ 62 (v_rl (σ 61) (σ 62) r (σ 60 8).toNat) - σ 61 (v_rl (σ 61) (σ 62) r (σ 60 8).toNat) + 1) P) 8 (r - σ 61 (v_rl (σ 61) (σ 62) r (σ 60 8).toNat)))) σ')
    (h3 : (v_rl (σ 61) (σ 62) r (σ 60 8).toNat) ≠ -1 → σ 63 (v_rl (σ 61) (σ 62) r (σ 60 8).toNat) ≠ 8 → σ 63 (v_rl (σ 61) (σ 62) r (σ 60 8).toNat) ≠ 9 → K (some (0, σ 63 (v_rl (σ 61) (σ 62) r (σ 60 8).toNat))) σ) : q_E L xs k_A_whoMends (9, [(2, 0), (0, r), (0, d), (0, kc), (0, ks), (2, 60), (9, 0), (9, 0), (9, 0)], [], σ) K := by
  have vi := v_rl_in (A := σ 61) (B := σ 62) (r := r) (σ 60 8).toNat
  have em : min ks (σ 7 5) = ks := by omega
  refine q_go1 200 9 [] (fun cl ev hcl hev => ?_)
  show cl _ _ _ _
  refine hcl _ _ _ _ (x_ru60 hn ?_)
  generalize (v_rl (σ 61) (σ 62) r (σ 60 8).toNat) = v at vi h0 h1 h2 h3 ⊢
  refine And.intro (fun g => ?_) (fun g => h0 (Decidable.not_not.mp g))
  have hab := hAB v (by omega) (by omega)
  have vr := vi.2.2 g
  refine And.intro (by omega) ?_
  refine And.intro (fun g8 => ?_) (fun g8 => ?_)
  · refine And.intro (fun g9 => h3 g g8 g9) (fun g9 => ?_)
    have h2 := h2 g (Decidable.not_not.mp g9)
    refine And.intro (by omega) ?_
    show cl _ _ _ _
    refine hcl _ _ _ _ (x_sum hb hks.1 hp (fun σ1 f1 h14 => ?_))
    rw [em] at h14
    have e2 : σ1 62 v = σ 62 v := f1 62 v (by decide)
    have es : q_w32 (q_w32 (σ1 62 v - σ 61 v) + 1) = σ 62 v - σ 61 v + 1 := by rw [e2]; unfold q_w32; omega
    have er : q_w32 (r - σ 61 v) = r - σ 61 v := by rw [q_w32_id] <;> omega
    have ep := eP (σ 62 v - σ 61 v + 1) (by omega) (by omega)
    refine And.intro (by omega) ?_
    show cl _ _ _ _
    rw [es]
    refine hcl _ _ _ _ (x_lay (P := P) ep (fun o o0 o1 => (h14 o o0 o1).trans (hP o o0 o1)) (fun σ2 f2 h15 => ?_))
    show cl _ _ _ _
    rw [er]
    refine hcl _ _ _ _ (x_oA (by omega) (fun o o0 o1 => by rw [h15 o o0 o1]; exact e_D_b ep o0 o1) ?_)
    rw [v_oa_c 8 _ (by omega) h15]
    exact h2 σ2 (fun k i a b c => (f2 k i b c).trans (f1 k i a))
  · refine And.intro (by omega) ?_
    show cl _ _ _ _
    refine hcl _ _ _ _ (x_gO (H := H) hb hks.1 hp (fun o => by rw [em]; exact hH o) H0 ?_)
    exact h1 g (Decidable.not_not.mp g8)
theorem xw_64 {r d kc ks : Int} {P H : Int → Int} {σ : q_S} {K : q_R → q_S → Prop} (hn : 0 ≤ σ 64 8 ∧ σ 64 8 ≤ 10) (hr : 0 ≤ r ∧ r < 24) (hb : 0 ≤ σ 7 5 ∧ σ 7 5 ≤ 120) (hks : 0 ≤ ks ∧ ks ≤ σ 7 5) (hp : ∀ j : Nat, (j : Int) < σ 7 5 → 0 ≤ σ 11 j ∧ σ 11 j ≤ 12) (hH : ∀ o, q_pof σ (σ 18 r) o d ks.toNat = H o) (H0 : 0 ≤ H 0) (hP : ∀ o, 0 ≤ o → o < 8 → q_pof σ (-1) o d ks.toNat = P o) (eP : ∀ s, 0 ≤ s → s ≤ 24 → e_P s P) (hAB : ∀ k, 0 ≤ k → k < σ 64 8 → (0 ≤ σ 65 k ∧ σ 65 k ≤ 23) ∧ (0 ≤ σ 66 k ∧ σ 66 k ≤ 23))
    (h0 : (v_rl (σ 65) (σ 66) r (σ 64 8).toNat) = -1 → K (some (0, -5)) σ)
    (h1 : (v_rl (σ 65) (σ 66) r (σ 64 8).toNat) ≠ -1 → σ 67 (v_rl (σ 65) (σ 66) r (σ 64 8).toNat) = 8 → K (some (0, e_gn H 7)) σ)
    (h2 : (v_rl (σ 65) (σ 66) r (σ 64 8).toNat) ≠ -1 → σ 67 (v_rl (σ 65) (σ 66) r (σ 64 8).toNat) = 9 → ∀ σ', (∀ k i, k ≠ 14 → k ≠ 15 → k ≠ 16 → σ' k i = σ k i) → K (some (0, v_oa (e_D (σ 66 (v_rl (σ 65) (σ 66) r (σ 64 8).toNat) - σ 65 (v_rl (σ 65) (σ 66) r (σ 64 8).toNat) + 1) P) 8 (r - σ 65 (v_rl (σ 65) (σ 66) r (σ 64 8).toNat)))) σ')
    (h3 : (v_rl (σ 65) (σ 66) r (σ 64 8).toNat) ≠ -1 → σ 67 (v_rl (σ 65) (σ 66) r (σ 64 8).toNat) ≠ 8 → σ 67 (v_rl (σ 65) (σ 66) r (σ 64 8).toNat) ≠ 9 → K (some (0, σ 67 (v_rl (σ 65) (σ 66) r (σ 64 8).toNat))) σ) : q_E L xs k_A_whoMends (9, [(2, 0), (0, r), (0, d), (0, kc), (0, ks), (2, 64), (9, 0), (9, 0), (9, 0)], [], σ) K := by
  have vi := v_rl_in (A := σ 65) (B := σ 66) (r := r) (σ 64 8).toNat
  have em : min ks (σ 7 5) = ks := by omega
  refine q_go1 200 9 [] (fun cl ev hcl hev => ?_)
  show cl _ _ _ _
  refine hcl _ _ _ _ (x_ru64 hn ?_)
  generalize (v_rl (σ 65) (σ 66) r (σ 64 8).toNat) = v at vi h0 h1 h2 h3 ⊢
  refine And.intro (fun g => ?_) (fun g => h0 (Decidable.not_not.mp g))
  have hab := hAB v (by omega) (by omega)
  have vr := vi.2.2 g
  refine And.intro (by omega) ?_
  refine And.intro (fun g8 => ?_) (fun g8 => ?_)
  · refine And.intro (fun g9 => h3 g g8 g9) (fun g9 => ?_)
    have h2 := h2 g (Decidable.not_not.mp g9)
    refine And.intro (by omega) ?_
    show cl _ _ _ _
    refine hcl _ _ _ _ (x_sum hb hks.1 hp (fun σ1 f1 h14 => ?_))
    rw [em] at h14
    have e2 : σ1 66 v = σ 66 v := f1 66 v (by decide)
    have es : q_w32 (q_w32 (σ1 66 v - σ 65 v) + 1) = σ 66 v - σ 65 v + 1 := by rw [e2]; unfold q_w32; omega
    have er : q_w32 (r - σ 65 v) = r - σ 65 v := by rw [q_w32_id] <;> omega
    have ep := eP (σ 66 v - σ 65 v + 1) (by omega) (by omega)
    refine And.intro (by omega) ?_
    show cl _ _ _ _
    rw [es]
    refine hcl _ _ _ _ (x_lay (P := P) ep (fun o o0 o1 => (h14 o o0 o1).trans (hP o o0 o1)) (fun σ2 f2 h15 => ?_))
    show cl _ _ _ _
    rw [er]
    refine hcl _ _ _ _ (x_oA (by omega) (fun o o0 o1 => by rw [h15 o o0 o1]; exact e_D_b ep o0 o1) ?_)
    rw [v_oa_c 8 _ (by omega) h15]
    exact h2 σ2 (fun k i a b c => (f2 k i b c).trans (f1 k i a))
  · refine And.intro (by omega) ?_
    show cl _ _ _ _
    refine hcl _ _ _ _ (x_gO (H := H) hb hks.1 hp (fun o => by rw [em]; exact hH o) H0 ?_)
    exact h1 g (Decidable.not_not.mp g8)
theorem xw_68 {r d kc ks : Int} {P H : Int → Int} {σ : q_S} {K : q_R → q_S → Prop} (hn : 0 ≤ σ 68 8 ∧ σ 68 8 ≤ 10) (hr : 0 ≤ r ∧ r < 24) (hb : 0 ≤ σ 7 5 ∧ σ 7 5 ≤ 120) (hks : 0 ≤ ks ∧ ks ≤ σ 7 5) (hp : ∀ j : Nat, (j : Int) < σ 7 5 → 0 ≤ σ 11 j ∧ σ 11 j ≤ 12) (hH : ∀ o, q_pof σ (σ 18 r) o d ks.toNat = H o) (H0 : 0 ≤ H 0) (hP : ∀ o, 0 ≤ o → o < 8 → q_pof σ (-1) o d ks.toNat = P o) (eP : ∀ s, 0 ≤ s → s ≤ 24 → e_P s P) (hAB : ∀ k, 0 ≤ k → k < σ 68 8 → (0 ≤ σ 69 k ∧ σ 69 k ≤ 23) ∧ (0 ≤ σ 70 k ∧ σ 70 k ≤ 23))
    (h0 : (v_rl (σ 69) (σ 70) r (σ 68 8).toNat) = -1 → K (some (0, -5)) σ)
    (h1 : (v_rl (σ 69) (σ 70) r (σ 68 8).toNat) ≠ -1 → σ 71 (v_rl (σ 69) (σ 70) r (σ 68 8).toNat) = 8 → K (some (0, e_gn H 7)) σ)
    (h2 : (v_rl (σ 69) (σ 70) r (σ 68 8).toNat) ≠ -1 → σ 71 (v_rl (σ 69) (σ 70) r (σ 68 8).toNat) = 9 → ∀ σ', (∀ k i, k ≠ 14 → k ≠ 15 → k ≠ 16 → σ' k i = σ k i) → K (some (0, v_oa (e_D (σ 70 (v_rl (σ 69) (σ 70) r (σ 68 8).toNat) - σ 69 (v_rl (σ 69) (σ 70) r (σ 68 8).toNat) + 1) P) 8 (r - σ 69 (v_rl (σ 69) (σ 70) r (σ 68 8).toNat)))) σ')
    (h3 : (v_rl (σ 69) (σ 70) r (σ 68 8).toNat) ≠ -1 → σ 71 (v_rl (σ 69) (σ 70) r (σ 68 8).toNat) ≠ 8 → σ 71 (v_rl (σ 69) (σ 70) r (σ 68 8).toNat) ≠ 9 → K (some (0, σ 71 (v_rl (σ 69) (σ 70) r (σ 68 8).toNat))) σ) : q_E L xs k_A_whoMends (9, [(2, 0), (0, r), (0, d), (0, kc), (0, ks), (2, 68), (9, 0), (9, 0), (9, 0)], [], σ) K := by
  have vi := v_rl_in (A := σ 69) (B := σ 70) (r := r) (σ 68 8).toNat
  have em : min ks (σ 7 5) = ks := by omega
  refine q_go1 200 9 [] (fun cl ev hcl hev => ?_)
  show cl _ _ _ _
  refine hcl _ _ _ _ (x_ru68 hn ?_)
  generalize (v_rl (σ 69) (σ 70) r (σ 68 8).toNat) = v at vi h0 h1 h2 h3 ⊢
  refine And.intro (fun g => ?_) (fun g => h0 (Decidable.not_not.mp g))
  have hab := hAB v (by omega) (by omega)
  have vr := vi.2.2 g
  refine And.intro (by omega) ?_
  refine And.intro (fun g8 => ?_) (fun g8 => ?_)
  · refine And.intro (fun g9 => h3 g g8 g9) (fun g9 => ?_)
    have h2 := h2 g (Decidable.not_not.mp g9)
    refine And.intro (by omega) ?_
    show cl _ _ _ _
    refine hcl _ _ _ _ (x_sum hb hks.1 hp (fun σ1 f1 h14 => ?_))
    rw [em] at h14
    have e2 : σ1 70 v = σ 70 v := f1 70 v (by decide)
    have es : q_w32 (q_w32 (σ1 70 v - σ 69 v) + 1) = σ 70 v - σ 69 v + 1 := by rw [e2]; unfold q_w32; omega
    have er : q_w32 (r - σ 69 v) = r - σ 69 v := by rw [q_w32_id] <;> omega
    have ep := eP (σ 70 v - σ 69 v + 1) (by omega) (by omega)
    refine And.intro (by omega) ?_
    show cl _ _ _ _
    rw [es]
    refine hcl _ _ _ _ (x_lay (P := P) ep (fun o o0 o1 => (h14 o o0 o1).trans (hP o o0 o1)) (fun σ2 f2 h15 => ?_))
    show cl _ _ _ _
    rw [er]
    refine hcl _ _ _ _ (x_oA (by omega) (fun o o0 o1 => by rw [h15 o o0 o1]; exact e_D_b ep o0 o1) ?_)
    rw [v_oa_c 8 _ (by omega) h15]
    exact h2 σ2 (fun k i a b c => (f2 k i b c).trans (f1 k i a))
  · refine And.intro (by omega) ?_
    show cl _ _ _ _
    refine hcl _ _ _ _ (x_gO (H := H) hb hks.1 hp (fun o => by rw [em]; exact hH o) H0 ?_)
    exact h1 g (Decidable.not_not.mp g8)
theorem xw_72 {r d kc ks : Int} {P H : Int → Int} {σ : q_S} {K : q_R → q_S → Prop} (hn : 0 ≤ σ 72 8 ∧ σ 72 8 ≤ 10) (hr : 0 ≤ r ∧ r < 24) (hb : 0 ≤ σ 7 5 ∧ σ 7 5 ≤ 120) (hks : 0 ≤ ks ∧ ks ≤ σ 7 5) (hp : ∀ j : Nat, (j : Int) < σ 7 5 → 0 ≤ σ 11 j ∧ σ 11 j ≤ 12) (hH : ∀ o, q_pof σ (σ 18 r) o d ks.toNat = H o) (H0 : 0 ≤ H 0) (hP : ∀ o, 0 ≤ o → o < 8 → q_pof σ (-1) o d ks.toNat = P o) (eP : ∀ s, 0 ≤ s → s ≤ 24 → e_P s P) (hAB : ∀ k, 0 ≤ k → k < σ 72 8 → (0 ≤ σ 73 k ∧ σ 73 k ≤ 23) ∧ (0 ≤ σ 74 k ∧ σ 74 k ≤ 23))
    (h0 : (v_rl (σ 73) (σ 74) r (σ 72 8).toNat) = -1 → K (some (0, -5)) σ)
    (h1 : (v_rl (σ 73) (σ 74) r (σ 72 8).toNat) ≠ -1 → σ 75 (v_rl (σ 73) (σ 74) r (σ 72 8).toNat) = 8 → K (some (0, e_gn H 7)) σ)
    (h2 : (v_rl (σ 73) (σ 74) r (σ 72 8).toNat) ≠ -1 → σ 75 (v_rl (σ 73) (σ 74) r (σ 72 8).toNat) = 9 → ∀ σ', (∀ k i, k ≠ 14 → k ≠ 15 → k ≠ 16 → σ' k i = σ k i) → K (some (0, v_oa (e_D (σ 74 (v_rl (σ 73) (σ 74) r (σ 72 8).toNat) - σ 73 (v_rl (σ 73) (σ 74) r (σ 72 8).toNat) + 1) P) 8 (r - σ 73 (v_rl (σ 73) (σ 74) r (σ 72 8).toNat)))) σ')
    (h3 : (v_rl (σ 73) (σ 74) r (σ 72 8).toNat) ≠ -1 → σ 75 (v_rl (σ 73) (σ 74) r (σ 72 8).toNat) ≠ 8 → σ 75 (v_rl (σ 73) (σ 74) r (σ 72 8).toNat) ≠ 9 → K (some (0, σ 75 (v_rl (σ 73) (σ 74) r (σ 72 8).toNat))) σ) : q_E L xs k_A_whoMends (9, [(2, 0), (0, r), (0, d), (0, kc), (0, ks), (2, 72), (9, 0), (9, 0), (9, 0)], [], σ) K := by
  have vi := v_rl_in (A := σ 73) (B := σ 74) (r := r) (σ 72 8).toNat
  have em : min ks (σ 7 5) = ks := by omega
  refine q_go1 200 9 [] (fun cl ev hcl hev => ?_)
  show cl _ _ _ _
  refine hcl _ _ _ _ (x_ru72 hn ?_)
  generalize (v_rl (σ 73) (σ 74) r (σ 72 8).toNat) = v at vi h0 h1 h2 h3 ⊢
  refine And.intro (fun g => ?_) (fun g => h0 (Decidable.not_not.mp g))
  have hab := hAB v (by omega) (by omega)
  have vr := vi.2.2 g
  refine And.intro (by omega) ?_
  refine And.intro (fun g8 => ?_) (fun g8 => ?_)
  · refine And.intro (fun g9 => h3 g g8 g9) (fun g9 => ?_)
    have h2 := h2 g (Decidable.not_not.mp g9)
    refine And.intro (by omega) ?_
    show cl _ _ _ _
    refine hcl _ _ _ _ (x_sum hb hks.1 hp (fun σ1 f1 h14 => ?_))
    rw [em] at h14
    have e2 : σ1 74 v = σ 74 v := f1 74 v (by decide)
    have es : q_w32 (q_w32 (σ1 74 v - σ 73 v) + 1) = σ 74 v - σ 73 v + 1 := by rw [e2]; unfold q_w32; omega
    have er : q_w32 (r - σ 73 v) = r - σ 73 v := by rw [q_w32_id] <;> omega
    have ep := eP (σ 74 v - σ 73 v + 1) (by omega) (by omega)
    refine And.intro (by omega) ?_
    show cl _ _ _ _
    rw [es]
    refine hcl _ _ _ _ (x_lay (P := P) ep (fun o o0 o1 => (h14 o o0 o1).trans (hP o o0 o1)) (fun σ2 f2 h15 => ?_))
    show cl _ _ _ _
    rw [er]
    refine hcl _ _ _ _ (x_oA (by omega) (fun o o0 o1 => by rw [h15 o o0 o1]; exact e_D_b ep o0 o1) ?_)
    rw [v_oa_c 8 _ (by omega) h15]
    exact h2 σ2 (fun k i a b c => (f2 k i b c).trans (f1 k i a))
  · refine And.intro (by omega) ?_
    show cl _ _ _ _
    refine hcl _ _ _ _ (x_gO (H := H) hb hks.1 hp (fun o => by rw [em]; exact hH o) H0 ?_)
    exact h1 g (Decidable.not_not.mp g8)
theorem xw_76 {r d kc ks : Int} {P H : Int → Int} {σ : q_S} {K : q_R → q_S → Prop} (hn : 0 ≤ σ 76 8 ∧ σ 76 8 ≤ 10) (hr : 0 ≤ r ∧ r < 24) (hb : 0 ≤ σ 7 5 ∧ σ 7 5 ≤ 120) (hks : 0 ≤ ks ∧ ks ≤ σ 7 5) (hp : ∀ j : Nat, (j : Int) < σ 7 5 → 0 ≤ σ 11 j ∧ σ 11 j ≤ 12) (hH : ∀ o, q_pof σ (σ 18 r) o d ks.toNat = H o) (H0 : 0 ≤ H 0) (hP : ∀ o, 0 ≤ o → o < 8 → q_pof σ (-1) o d ks.toNat = P o) (eP : ∀ s, 0 ≤ s → s ≤ 24 → e_P s P) (hAB : ∀ k, 0 ≤ k → k < σ 76 8 → (0 ≤ σ 77 k ∧ σ 77 k ≤ 23) ∧ (0 ≤ σ 78 k ∧ σ 78 k ≤ 23))
    (h0 : (v_rl (σ 77) (σ 78) r (σ 76 8).toNat) = -1 → K (some (0, -5)) σ)
    (h1 : (v_rl (σ 77) (σ 78) r (σ 76 8).toNat) ≠ -1 → σ 79 (v_rl (σ 77) (σ 78) r (σ 76 8).toNat) = 8 → K (some (0, e_gn H 7)) σ)
    (h2 : (v_rl (σ 77) (σ 78) r (σ 76 8).toNat) ≠ -1 → σ 79 (v_rl (σ 77) (σ 78) r (σ 76 8).toNat) = 9 → ∀ σ', (∀ k i, k ≠ 14 → k ≠ 15 → k ≠ 16 → σ' k i = σ k i) → K (some (0, v_oa (e_D (σ 78 (v_rl (σ 77) (σ 78) r (σ 76 8).toNat) - σ 77 (v_rl (σ 77) (σ 78) r (σ 76 8).toNat) + 1) P) 8 (r - σ 77 (v_rl (σ 77) (σ 78) r (σ 76 8).toNat)))) σ')
    (h3 : (v_rl (σ 77) (σ 78) r (σ 76 8).toNat) ≠ -1 → σ 79 (v_rl (σ 77) (σ 78) r (σ 76 8).toNat) ≠ 8 → σ 79 (v_rl (σ 77) (σ 78) r (σ 76 8).toNat) ≠ 9 → K (some (0, σ 79 (v_rl (σ 77) (σ 78) r (σ 76 8).toNat))) σ) : q_E L xs k_A_whoMends (9, [(2, 0), (0, r), (0, d), (0, kc), (0, ks), (2, 76), (9, 0), (9, 0), (9, 0)], [], σ) K := by
  have vi := v_rl_in (A := σ 77) (B := σ 78) (r := r) (σ 76 8).toNat
  have em : min ks (σ 7 5) = ks := by omega
  refine q_go1 200 9 [] (fun cl ev hcl hev => ?_)
  show cl _ _ _ _
  refine hcl _ _ _ _ (x_ru76 hn ?_)
  generalize (v_rl (σ 77) (σ 78) r (σ 76 8).toNat) = v at vi h0 h1 h2 h3 ⊢
  refine And.intro (fun g => ?_) (fun g => h0 (Decidable.not_not.mp g))
  have hab := hAB v (by omega) (by omega)
  have vr := vi.2.2 g
  refine And.intro (by omega) ?_
  refine And.intro (fun g8 => ?_) (fun g8 => ?_)
  · refine And.intro (fun g9 => h3 g g8 g9) (fun g9 => ?_)
    have h2 := h2 g (Decidable.not_not.mp g9)
    refine And.intro (by omega) ?_
    show cl _ _ _ _
    refine hcl _ _ _ _ (x_sum hb hks.1 hp (fun σ1 f1 h14 => ?_))
    rw [em] at h14
    have e2 : σ1 78 v = σ 78 v := f1 78 v (by decide)
    have es : q_w32 (q_w32 (σ1 78 v - σ 77 v) + 1) = σ 78 v - σ 77 v + 1 := by rw [e2]; unfold q_w32; omega
    have er : q_w32 (r - σ 77 v) = r - σ 77 v := by rw [q_w32_id] <;> omega
    have ep := eP (σ 78 v - σ 77 v + 1) (by omega) (by omega)
    refine And.intro (by omega) ?_
    show cl _ _ _ _
    rw [es]
    refine hcl _ _ _ _ (x_lay (P := P) ep (fun o o0 o1 => (h14 o o0 o1).trans (hP o o0 o1)) (fun σ2 f2 h15 => ?_))
    show cl _ _ _ _
    rw [er]
    refine hcl _ _ _ _ (x_oA (by omega) (fun o o0 o1 => by rw [h15 o o0 o1]; exact e_D_b ep o0 o1) ?_)
    rw [v_oa_c 8 _ (by omega) h15]
    exact h2 σ2 (fun k i a b c => (f2 k i b c).trans (f1 k i a))
  · refine And.intro (by omega) ?_
    show cl _ _ _ _
    refine hcl _ _ _ _ (x_gO (H := H) hb hks.1 hp (fun o => by rw [em]; exact hH o) H0 ?_)
    exact h1 g (Decidable.not_not.mp g8)
theorem xw_80 {r d kc ks : Int} {P H : Int → Int} {σ : q_S} {K : q_R → q_S → Prop} (hn : 0 ≤ σ 80 8 ∧ σ 80 8 ≤ 10) (hr : 0 ≤ r ∧ r < 24) (hb : 0 ≤ σ 7 5 ∧ σ 7 5 ≤ 120) (hks : 0 ≤ ks ∧ ks ≤ σ 7 5) (hp : ∀ j : Nat, (j : Int) < σ 7 5 → 0 ≤ σ 11 j ∧ σ 11 j ≤ 12) (hH : ∀ o, q_pof σ (σ 18 r) o d ks.toNat = H o) (H0 : 0 ≤ H 0) (hP : ∀ o, 0 ≤ o → o < 8 → q_pof σ (-1) o d ks.toNat = P o) (eP : ∀ s, 0 ≤ s → s ≤ 24 → e_P s P) (hAB : ∀ k, 0 ≤ k → k < σ 80 8 → (0 ≤ σ 81 k ∧ σ 81 k ≤ 23) ∧ (0 ≤ σ 82 k ∧ σ 82 k ≤ 23))
    (h0 : (v_rl (σ 81) (σ 82) r (σ 80 8).toNat) = -1 → K (some (0, -5)) σ)
    (h1 : (v_rl (σ 81) (σ 82) r (σ 80 8).toNat) ≠ -1 → σ 83 (v_rl (σ 81) (σ 82) r (σ 80 8).toNat) = 8 → K (some (0, e_gn H 7)) σ)
    (h2 : (v_rl (σ 81) (σ 82) r (σ 80 8).toNat) ≠ -1 → σ 83 (v_rl (σ 81) (σ 82) r (σ 80 8).toNat) = 9 → ∀ σ', (∀ k i, k ≠ 14 → k ≠ 15 → k ≠ 16 → σ' k i = σ k i) → K (some (0, v_oa (e_D (σ 82 (v_rl (σ 81) (σ 82) r (σ 80 8).toNat) - σ 81 (v_rl (σ 81) (σ 82) r (σ 80 8).toNat) + 1) P) 8 (r - σ 81 (v_rl (σ 81) (σ 82) r (σ 80 8).toNat)))) σ')
    (h3 : (v_rl (σ 81) (σ 82) r (σ 80 8).toNat) ≠ -1 → σ 83 (v_rl (σ 81) (σ 82) r (σ 80 8).toNat) ≠ 8 → σ 83 (v_rl (σ 81) (σ 82) r (σ 80 8).toNat) ≠ 9 → K (some (0, σ 83 (v_rl (σ 81) (σ 82) r (σ 80 8).toNat))) σ) : q_E L xs k_A_whoMends (9, [(2, 0), (0, r), (0, d), (0, kc), (0, ks), (2, 80), (9, 0), (9, 0), (9, 0)], [], σ) K := by
  have vi := v_rl_in (A := σ 81) (B := σ 82) (r := r) (σ 80 8).toNat
  have em : min ks (σ 7 5) = ks := by omega
  refine q_go1 200 9 [] (fun cl ev hcl hev => ?_)
  show cl _ _ _ _
  refine hcl _ _ _ _ (x_ru80 hn ?_)
  generalize (v_rl (σ 81) (σ 82) r (σ 80 8).toNat) = v at vi h0 h1 h2 h3 ⊢
  refine And.intro (fun g => ?_) (fun g => h0 (Decidable.not_not.mp g))
  have hab := hAB v (by omega) (by omega)
  have vr := vi.2.2 g
  refine And.intro (by omega) ?_
  refine And.intro (fun g8 => ?_) (fun g8 => ?_)
  · refine And.intro (fun g9 => h3 g g8 g9) (fun g9 => ?_)
    have h2 := h2 g (Decidable.not_not.mp g9)
    refine And.intro (by omega) ?_
    show cl _ _ _ _
    refine hcl _ _ _ _ (x_sum hb hks.1 hp (fun σ1 f1 h14 => ?_))
    rw [em] at h14
    have e2 : σ1 82 v = σ 82 v := f1 82 v (by decide)
    have es : q_w32 (q_w32 (σ1 82 v - σ 81 v) + 1) = σ 82 v - σ 81 v + 1 := by rw [e2]; unfold q_w32; omega
    have er : q_w32 (r - σ 81 v) = r - σ 81 v := by rw [q_w32_id] <;> omega
    have ep := eP (σ 82 v - σ 81 v + 1) (by omega) (by omega)
    refine And.intro (by omega) ?_
    show cl _ _ _ _
    rw [es]
    refine hcl _ _ _ _ (x_lay (P := P) ep (fun o o0 o1 => (h14 o o0 o1).trans (hP o o0 o1)) (fun σ2 f2 h15 => ?_))
    show cl _ _ _ _
    rw [er]
    refine hcl _ _ _ _ (x_oA (by omega) (fun o o0 o1 => by rw [h15 o o0 o1]; exact e_D_b ep o0 o1) ?_)
    rw [v_oa_c 8 _ (by omega) h15]
    exact h2 σ2 (fun k i a b c => (f2 k i b c).trans (f1 k i a))
  · refine And.intro (by omega) ?_
    show cl _ _ _ _
    refine hcl _ _ _ _ (x_gO (H := H) hb hks.1 hp (fun o => by rw [em]; exact hH o) H0 ?_)
    exact h1 g (Decidable.not_not.mp g8)
theorem xw_84 {r d kc ks : Int} {P H : Int → Int} {σ : q_S} {K : q_R → q_S → Prop} (hn : 0 ≤ σ 84 8 ∧ σ 84 8 ≤ 10) (hr : 0 ≤ r ∧ r < 24) (hb : 0 ≤ σ 7 5 ∧ σ 7 5 ≤ 120) (hks : 0 ≤ ks ∧ ks ≤ σ 7 5) (hp : ∀ j : Nat, (j : Int) < σ 7 5 → 0 ≤ σ 11 j ∧ σ 11 j ≤ 12) (hH : ∀ o, q_pof σ (σ 18 r) o d ks.toNat = H o) (H0 : 0 ≤ H 0) (hP : ∀ o, 0 ≤ o → o < 8 → q_pof σ (-1) o d ks.toNat = P o) (eP : ∀ s, 0 ≤ s → s ≤ 24 → e_P s P) (hAB : ∀ k, 0 ≤ k → k < σ 84 8 → (0 ≤ σ 85 k ∧ σ 85 k ≤ 23) ∧ (0 ≤ σ 86 k ∧ σ 86 k ≤ 23))
    (h0 : (v_rl (σ 85) (σ 86) r (σ 84 8).toNat) = -1 → K (some (0, -5)) σ)
    (h1 : (v_rl (σ 85) (σ 86) r (σ 84 8).toNat) ≠ -1 → σ 87 (v_rl (σ 85) (σ 86) r (σ 84 8).toNat) = 8 → K (some (0, e_gn H 7)) σ)
    (h2 : (v_rl (σ 85) (σ 86) r (σ 84 8).toNat) ≠ -1 → σ 87 (v_rl (σ 85) (σ 86) r (σ 84 8).toNat) = 9 → ∀ σ', (∀ k i, k ≠ 14 → k ≠ 15 → k ≠ 16 → σ' k i = σ k i) → K (some (0, v_oa (e_D (σ 86 (v_rl (σ 85) (σ 86) r (σ 84 8).toNat) - σ 85 (v_rl (σ 85) (σ 86) r (σ 84 8).toNat) + 1) P) 8 (r - σ 85 (v_rl (σ 85) (σ 86) r (σ 84 8).toNat)))) σ')
    (h3 : (v_rl (σ 85) (σ 86) r (σ 84 8).toNat) ≠ -1 → σ 87 (v_rl (σ 85) (σ 86) r (σ 84 8).toNat) ≠ 8 → σ 87 (v_rl (σ 85) (σ 86) r (σ 84 8).toNat) ≠ 9 → K (some (0, σ 87 (v_rl (σ 85) (σ 86) r (σ 84 8).toNat))) σ) : q_E L xs k_A_whoMends (9, [(2, 0), (0, r), (0, d), (0, kc), (0, ks), (2, 84), (9, 0), (9, 0), (9, 0)], [], σ) K := by
  have vi := v_rl_in (A := σ 85) (B := σ 86) (r := r) (σ 84 8).toNat
  have em : min ks (σ 7 5) = ks := by omega
  refine q_go1 200 9 [] (fun cl ev hcl hev => ?_)
  show cl _ _ _ _
  refine hcl _ _ _ _ (x_ru84 hn ?_)
  generalize (v_rl (σ 85) (σ 86) r (σ 84 8).toNat) = v at vi h0 h1 h2 h3 ⊢
  refine And.intro (fun g => ?_) (fun g => h0 (Decidable.not_not.mp g))
  have hab := hAB v (by omega) (by omega)
  have vr := vi.2.2 g
  refine And.intro (by omega) ?_
  refine And.intro (fun g8 => ?_) (fun g8 => ?_)
  · refine And.intro (fun g9 => h3 g g8 g9) (fun g9 => ?_)
    have h2 := h2 g (Decidable.not_not.mp g9)
    refine And.intro (by omega) ?_
    show cl _ _ _ _
    refine hcl _ _ _ _ (x_sum hb hks.1 hp (fun σ1 f1 h14 => ?_))
    rw [em] at h14
    have e2 : σ1 86 v = σ 86 v := f1 86 v (by decide)
    have es : q_w32 (q_w32 (σ1 86 v - σ 85 v) + 1) = σ 86 v - σ 85 v + 1 := by rw [e2]; unfold q_w32; omega
    have er : q_w32 (r - σ 85 v) = r - σ 85 v := by rw [q_w32_id] <;> omega
    have ep := eP (σ 86 v - σ 85 v + 1) (by omega) (by omega)
    refine And.intro (by omega) ?_
    show cl _ _ _ _
    rw [es]
    refine hcl _ _ _ _ (x_lay (P := P) ep (fun o o0 o1 => (h14 o o0 o1).trans (hP o o0 o1)) (fun σ2 f2 h15 => ?_))
    show cl _ _ _ _
    rw [er]
    refine hcl _ _ _ _ (x_oA (by omega) (fun o o0 o1 => by rw [h15 o o0 o1]; exact e_D_b ep o0 o1) ?_)
    rw [v_oa_c 8 _ (by omega) h15]
    exact h2 σ2 (fun k i a b c => (f2 k i b c).trans (f1 k i a))
  · refine And.intro (by omega) ?_
    show cl _ _ _ _
    refine hcl _ _ _ _ (x_gO (H := H) hb hks.1 hp (fun o => by rw [em]; exact hH o) H0 ?_)
    exact h1 g (Decidable.not_not.mp g8)
theorem x_who {r d kc ks : Int} {σ : q_S} {K : q_R → q_S → Prop} (ok : ∀ k i, q_ok k i (σ k i)) (rc : y_RC σ) (sc : q_SC σ) (hI : q_IS σ) (hC : q_IC σ) (hr : 0 ≤ r ∧ r < 24) (h18 : σ 18 r = σ 112 r) (hkc : 0 ≤ kc ∧ kc ≤ σ 34 2) (hks : 0 ≤ ks ∧ ks ≤ σ 7 5) (hK : ∀ σ', (∀ k i, k ≠ 14 → k ≠ 15 → k ≠ 16 → σ' k i = σ k i) → K (some (0, w_who σ (σ 112 r) r d kc.toNat ks.toNat)) σ') : q_K L xs i_A_whoMends [(2, 0), (0, r), (0, d), (0, kc), (0, ks)] σ K := by
  have hp := q_SCp hI sc
  have e5 := sc.1
  have r6 := rc.2.1.2
  have hin := q_cof_in (σ := σ) (d := d) kc.toNat
  have hcell : 0 ≤ σ 18 r := by have := ok 18 r; unfold q_ok at this; omega
  have hH : ∀ o, q_pof σ (σ 18 r) o d ks.toNat = (fun o => q_hof σ (σ 112 r) o d ks.toNat) o := fun o => by
    show _ = q_hof σ (σ 112 r) o d ks.toNat
    rw [← h18]
    exact q_pof_hof (by omega) _ (fun j hj => by have := sc.2 j (by omega); omega)
  have hP : ∀ o, 0 ≤ o → o < 8 → q_pof σ (-1) o d ks.toNat = (fun o => q_hal σ o d ks.toNat 30) o := fun o _ _ => q_pof_hal _ (fun j hj => sc.2 j (by omega))
  have eP : ∀ s, 0 ≤ s → s ≤ 24 → e_P s (fun o => q_hal σ o d ks.toNat 30) := fun s h0 h1 => by
    refine ⟨⟨h0, by omega⟩, fun o _ _ => q_hal_pos (hI.2.2 _ (by omega)) 30, ?_⟩
    have := q_hal8 (σ := σ) (d := d) (k := ks.toNat) (fun j hj => ⟨(hI.2.1 j (by omega)).1, (hI.2.1 j (by omega)).2.1⟩) 30
    rw [this]
    rfl
  have H0 : 0 ≤ (fun o => q_hof σ (σ 112 r) o d ks.toNat) 0 := hI.2.2 ks.toNat (by omega) _ _ _
  refine q_call k_A_whoMends 9 rfl ?_
  show q_E L xs k_A_whoMends (0, [(2, 0), (0, r), (0, d), (0, kc), (0, ks), (9, 0), (9, 0), (9, 0), (9, 0)], [], σ) K
  refine q_go1 200 0 [9] (fun cl ev hcl hev => ?_)
  show cl _ _ _ _
  refine hcl _ _ _ _ (x_inF r6 hkc (fun j h0 h1 => (rc.2.2.1 j h0 h1).1) ?_)
  show cl _ _ _ _
  refine hcl _ _ _ _ (x_cuO r6 ?_)
  refine hev _ ?_
  have hK0 := hK σ (fun _ _ _ _ _ => rfl)
  unfold w_who at hK hK0
  by_cases ec : q_cof σ d kc.toNat = -1
  · have eq : v_cu σ (q_cof σ d kc.toNat) = 36 := by unfold v_cu; rw [if_neg (by omega)]
    have e8 := rc.2.2.2.2.2.2.2.2
    have ev : v_rl (σ 37) (σ 38) r (σ 36 8).toNat = -1 := by rw [e8]; rfl
    rw [eq]
    rw [if_pos ec] at hK0
    exact xw_36 (by omega) hr hp.1 hks hp.2 hH H0 hP eP (fun k k0 k1 => by omega) (fun _ => hK0) (fun z => absurd ev z) (fun z => absurd ev z) (fun z => absurd ev z)
  · rw [if_neg ec] at hK hK0
    generalize hc : q_cof σ d kc.toNat = c at *
    have eq : v_cu σ c = 40 + 4 * c := by unfold v_cu; rw [if_pos (by omega)]
    rw [eq]
    obtain ⟨m, C, f, m10⟩ := rc.2.2.1 c (by omega) (by omega)
    obtain ⟨q, hq⟩ : ∃ q, q = 40 + 4 * c := ⟨_, rfl⟩
    rw [← hq] at C ⊢
    have hcu : q_cu q := by unfold q_cu; omega
    obtain ⟨⟨c1, c2, c3, c4, c5⟩, cr⟩ := C
    have n8 : 0 ≤ σ q 8 ∧ σ q 8 ≤ 10 := by have := ok q 8; have := q_cu_in hcu; unfold q_ok at *; omega
    have ev : v_rl (σ (q + 1)) (σ (q + 2)) r (σ q 8).toNat = w_cls σ c r := by
      unfold w_cls
      rw [c5]
      exact (v_rl_c _ (fun k k0 k1 => by have := cr k k0 (by omega); exact ⟨this.1, this.2.1⟩)).symm
    have vi := v_rl_in (A := σ (q + 1)) (B := σ (q + 2)) (r := r) (σ q 8).toNat
    have hAB : ∀ k, 0 ≤ k → k < σ q 8 → (0 ≤ σ (q + 1) k ∧ σ (q + 1) k ≤ 23) ∧ (0 ≤ σ (q + 2) k ∧ σ (q + 2) k ≤ 23) := fun k k0 k1 => by
      have := cr k k0 k1
      have h3 := hC.2.2.1 (10 * c + k)
      rw [← this.1, ← this.2.1]
      exact h3
    rw [← ev] at hK hK0
    have k0 : v_rl (σ (q + 1)) (σ (q + 2)) r (σ q 8).toNat = -1 → K (some (0, -5)) σ := fun z => by rw [if_pos z] at hK0; exact hK0
    have k1 : v_rl (σ (q + 1)) (σ (q + 2)) r (σ q 8).toNat ≠ -1 → σ (q + 3) (v_rl (σ (q + 1)) (σ (q + 2)) r (σ q 8).toNat) = 8 → K (some (0, e_gn (fun o => q_hof σ (σ 112 r) o d ks.toNat) 7)) σ := fun z g => by
      rw [if_neg z] at hK0
      have w := cr (v_rl (σ (q + 1)) (σ (q + 2)) r (σ q 8).toNat) (by omega) (by omega)
      unfold w_how at hK0
      rw [if_neg (by omega), if_pos (by omega)] at hK0
      exact hK0
    have k2 : v_rl (σ (q + 1)) (σ (q + 2)) r (σ q 8).toNat ≠ -1 → σ (q + 3) (v_rl (σ (q + 1)) (σ (q + 2)) r (σ q 8).toNat) = 9 → ∀ σ', (∀ k i, k ≠ 14 → k ≠ 15 → k ≠ 16 → σ' k i = σ k i) → K (some (0, v_oa (e_D (σ (q + 2) (v_rl (σ (q + 1)) (σ (q + 2)) r (σ q 8).toNat) - σ (q + 1) (v_rl (σ (q + 1)) (σ (q + 2)) r (σ q 8).toNat) + 1) (fun o => q_hal σ o d ks.toNat 30)) 8 (r - σ (q + 1) (v_rl (σ (q + 1)) (σ (q + 2)) r (σ q 8).toNat)))) σ' := fun z g σ' fr => by
      have hK := hK σ' fr
      rw [if_neg z] at hK
      have w := cr (v_rl (σ (q + 1)) (σ (q + 2)) r (σ q 8).toNat) (by omega) (by omega)
      unfold w_how at hK
      rw [if_neg (by omega), if_neg (by omega), w.1, w.2.1] at hK
      exact hK
    have k3 : v_rl (σ (q + 1)) (σ (q + 2)) r (σ q 8).toNat ≠ -1 → σ (q + 3) (v_rl (σ (q + 1)) (σ (q + 2)) r (σ q 8).toNat) ≠ 8 → σ (q + 3) (v_rl (σ (q + 1)) (σ (q + 2)) r (σ q 8).toNat) ≠ 9 → K (some (0, σ (q + 3) (v_rl (σ (q + 1)) (σ (q + 2)) r (σ q 8).toNat))) σ := fun z g8 g9 => by
      rw [if_neg z] at hK0
      have w := cr (v_rl (σ (q + 1)) (σ (q + 2)) r (σ q 8).toNat) (by omega) (by omega)
      have w2 : σ 131 (10 * c + v_rl (σ (q + 1)) (σ (q + 2)) r (σ q 8).toNat) = 1 ∧ σ 132 (10 * c + v_rl (σ (q + 1)) (σ (q + 2)) r (σ q 8).toNat) = σ (q + 3) (v_rl (σ (q + 1)) (σ (q + 2)) r (σ q 8).toNat) := by
        rcases w.2.2 with a | a | a
        · exact absurd a.1 g8
        · exact absurd a.1 g9
        · exact ⟨a.2.2.1, a.2.2.2⟩
      unfold w_how at hK0
      rw [if_pos w2.1, w2.2] at hK0
      exact hK0
    clear hK hK0 ev eq m f m10 c1 c2 c3 c4 c5 cr vi hq
    unfold q_cu at hcu
    rcases hcu with rfl | rfl | rfl | rfl | rfl | rfl | rfl | rfl | rfl | rfl | rfl | rfl | rfl
    · exact xw_36 n8 hr hp.1 hks hp.2 hH H0 hP eP hAB k0 k1 k2 k3
    · exact xw_40 n8 hr hp.1 hks hp.2 hH H0 hP eP hAB k0 k1 k2 k3
    · exact xw_44 n8 hr hp.1 hks hp.2 hH H0 hP eP hAB k0 k1 k2 k3
    · exact xw_48 n8 hr hp.1 hks hp.2 hH H0 hP eP hAB k0 k1 k2 k3
    · exact xw_52 n8 hr hp.1 hks hp.2 hH H0 hP eP hAB k0 k1 k2 k3
    · exact xw_56 n8 hr hp.1 hks hp.2 hH H0 hP eP hAB k0 k1 k2 k3
    · exact xw_60 n8 hr hp.1 hks hp.2 hH H0 hP eP hAB k0 k1 k2 k3
    · exact xw_64 n8 hr hp.1 hks hp.2 hH H0 hP eP hAB k0 k1 k2 k3
    · exact xw_68 n8 hr hp.1 hks hp.2 hH H0 hP eP hAB k0 k1 k2 k3
    · exact xw_72 n8 hr hp.1 hks hp.2 hH H0 hP eP hAB k0 k1 k2 k3
    · exact xw_76 n8 hr hp.1 hks hp.2 hH H0 hP eP hAB k0 k1 k2 k3
    · exact xw_80 n8 hr hp.1 hks hp.2 hH H0 hP eP hAB k0 k1 k2 k3
    · exact xw_84 n8 hr hp.1 hks hp.2 hH H0 hP eP hAB k0 k1 k2 k3
end Y2
