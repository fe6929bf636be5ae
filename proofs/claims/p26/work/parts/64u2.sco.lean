section U2
variable {L : Nat} {xs : Int → Int}
theorem zl_de3 {sum on kn left : Int} {σ : q_S} {x7 : Int} {u7 : Nat} {K : q_R → q_S → Prop} (hK : q_E L xs k_M_deals (66, [(2, 100), (0, sum), (0, on), (0, kn), (0, left), (0, e_gn (σ 146) 7), (0, 8), (u7, x7)], [], σ) K) :
    ∀ (m n : Nat), (7 : Int) - n < m → (n : Int) ≤ 7 → q_E L xs k_M_deals (48, [(2, 100), (0, sum), (0, on), (0, kn), (0, left), (0, e_gn (σ 146) n), (0, (n : Int) + 1), (u7, x7)], [], σ) K := by
  intro m
  induction m with
  | zero => intro n; omega
  | succ m ih =>
    intro n hm hn
    have hg := e_gn_in (R := σ 146) n
    have e : q_w32 ((n : Int) + 1 + 1) = ((n + 1 : Nat) : Int) + 1 := by rw [q_w32_id] <;> omega
    refine q_go1 60 48 [48, 66] (fun cl ev hcl hev => ?_)
    refine And.intro (fun hq => ?_) (fun hq => ?_)
    · have : n = 7 := by omega
      subst this
      exact hev _ hK
    · refine And.intro (by omega) ?_
      refine And.intro (by omega) ?_
      have eg : e_gn (σ 146) (n + 1) = if σ 146 (e_gn (σ 146) n) < σ 146 ((n : Int) + 1) then (n : Int) + 1 else e_gn (σ 146) n := rfl
      refine And.intro (fun hq2 => ?_) (fun hq2 => ?_)
      · refine hev _ ?_
        rw [e]
        rw [if_neg (by omega)] at eg
        rw [← eg]
        exact ih (n + 1) (by omega) (by omega)
      · refine hev _ ?_
        rw [e]
        rw [if_pos (by omega)] at eg
        rw [← eg]
        exact ih (n + 1) (by omega) (by omega)
theorem zl_de2 {sum on kn lf : Int} {D R : Int → Int} {σ0 : q_S} {K : q_R → q_S → Prop} (hl : 0 ≤ lf ∧ lf ≤ 8) (hK : ∀ σ', q_fd σ0 σ' → (∀ o, 0 ≤ o → o < 8 → σ' 145 o = (e_it D R lf.toNat).1 o) → K none σ') :
    ∀ (m g : Nat) (σ : q_S) (x5 x6 x7 : Int) (u5 u6 u7 : Nat), lf - g < m → (g : Int) ≤ lf → q_fd σ0 σ → (∀ o, 0 ≤ o → o < 8 → σ 145 o = (e_it D R g).1 o ∧ σ 146 o = (e_it D R g).2 o) →
    q_E L xs k_M_deals (42, [(2, 100), (0, sum), (0, on), (0, kn), (0, lf - g), (u5, x5), (u6, x6), (u7, x7)], [], σ) K := by
  intro m
  induction m with
  | zero => intro g; omega
  | succ m ih =>
    intro g σ x5 x6 x7 u5 u6 u7 hm hg f h
    have eb : e_gn (σ 146) 7 = e_gn (e_it D R g).2 7 := e_gn_c 7 (fun o h0 h1 => (h o h0 (by omega)).2)
    have hb := e_gn_in (R := (e_it D R g).2) 7
    have hv := h (e_gn (e_it D R g).2 7) hb.1 (by omega)
    have e : q_w32 (lf - (g : Int) + -1) = lf - ((g + 1 : Nat) : Int) := by rw [q_w32_id] <;> omega
    refine q_go1 60 42 [42, 48] (fun cl ev hcl hev => ?_)
    refine And.intro (fun hq => ?_) (fun hq => ?_)
    · have en : lf.toNat = g := by omega
      rw [en] at hK
      exact hK _ f (fun o h0 h1 => (h o h0 h1).1)
    · refine hev _ (zl_de3 (σ := σ) ?_ 8 0 (by omega) (by omega))
      rw [eb]
      refine q_go1 60 66 [42] (fun cl ev hcl hev => ?_)
      refine And.intro (by omega) (And.intro (by omega) (And.intro (by omega) ?_))
      refine hev _ ?_
      rw [e]
      refine ih (g + 1) _ _ _ _ _ _ _ (by omega) (by omega) (q_fd_up (q_fd_up f (Or.inl rfl)) (Or.inr rfl)) (fun o h0 h1 => ?_)
      rw [q_un (k' := 145) (by decide), hv.1]
      show _ = q_fup _ _ _ o ∧ _ = q_fup _ _ _ o
      unfold q_fup
      by_cases ec : o = e_gn (e_it D R g).2 7
      · rw [ec, q_ue, q_ue, if_pos rfl, if_pos rfl]; exact ⟨rfl, rfl⟩
      · rw [q_ui ec, q_ui ec, q_un (by decide), if_neg ec, if_neg ec]; exact h o h0 h1
theorem zl_de1 {s on kn : Int} {P : Int → Int} {σ0 : q_S} {K : q_R → q_S → Prop} (hk : 0 ≤ kn ∧ kn ≤ 120) (hp : ∀ j : Nat, (j : Int) < kn → 0 ≤ σ0 110 j ∧ σ0 110 j ≤ 12) (hP : e_P s P) (hH : ∀ o, q_hal σ0 o on kn.toNat 30 = P o) (hK : ∀ σ', q_fd σ0 σ' → (∀ o, 0 ≤ o → o < 8 → σ' 145 o = e_D s P o) → K none σ') :
    ∀ (m n : Nat) (σ : q_S) (x6 : Int) (u6 : Nat), (8 : Int) - n < m → (n : Int) ≤ 8 → q_fd σ0 σ → (∀ o : Int, 0 ≤ o → o < n → σ 145 o = s * P o / 360 ∧ σ 146 o = s * P o % 360) →
    q_E L xs k_M_deals (4, [(2, 100), (0, s), (0, on), (0, kn), (0, s - q_ps s P n), (0, (n : Int)), (u6, x6), (9, 0)], [], σ) K := by
  intro m
  induction m with
  | zero => intro n; omega
  | succ m ih =>
    intro n σ x6 u6 hm hn f h
    have e : q_w32 ((n : Int) + 1) = ((n + 1 : Nat) : Int) := by rw [q_w32_id] <;> omega
    have h2 := e_P2 hP n (by omega)
    have h8 := q_ps8 (s := s) hP.2.2
    have h9 := e_ps8 (s := s) hP.2.2
    have hs := hP.1
    refine q_go1 80 4 [4, 42] (fun cl ev hcl hev => ?_)
    refine And.intro (fun hq => ?_) (fun hq => ?_)
    · have en : n = 8 := by omega
      subst en
      have l := zl_de2 (L := L) (xs := xs) (sum := s) (on := on) (kn := kn) (lf := s - q_ps s P 8) (D := fun o => s * P o / 360) (R := fun o => s * P o % 360) (σ0 := σ0) (K := K) (by omega) hK 10 0 σ
      rw [show s - q_ps s P 8 - ((0 : Nat) : Int) = s - q_ps s P 8 by omega] at l
      exact hev _ (l _ _ _ _ _ _ (by omega) (by omega) f h)
    · have h1 := e_P1 hP (o := n) (by omega)
      have hfr : ∀ i : Int, σ 107 i = σ0 107 i ∧ σ 108 i = σ0 108 i ∧ σ 109 i = σ0 109 i ∧ σ 110 i = σ0 110 i ∧ σ 111 i = σ0 111 i := fun i => ⟨f _ _ (by decide) (by decide), f _ _ (by decide) (by decide), f _ _ (by decide) (by decide), f _ _ (by decide) (by decide), f _ _ (by decide) (by decide)⟩
      show cl _ _ _ _
      refine hcl _ _ _ _ (c_M_heldAll (fun j hj => by rw [(hfr j).2.2.2.1]; exact hp j hj) hk ?_)
      rw [q_hal_fr hfr 30, hH]
      have e64 : q_w64 (s * P n) = s * P n := q_w64_id (by omega) (by omega)
      have ed : q_w32 (q_w64 ((q_w64 (s * P n)).tdiv 360)) = s * P n / 360 := by rw [e64, q_td (by omega), q_w64_id (by omega) (by omega), q_w32_id] <;> omega
      have er : q_w32 ((q_w64 (s * P n)).tmod 360) = s * P n % 360 := by rw [e64, q_tm (by omega), q_w32_id] <;> omega
      refine And.intro (by decide) (And.intro (by omega) (And.intro (by decide) (And.intro (by omega) (And.intro (by omega) ?_))))
      refine hev _ ?_
      rw [e]
      have ed2 : q_up (q_up σ 145 n (q_w32 (q_w64 ((q_w64 (s * P n)).tdiv 360)))) 146 n (q_w32 ((q_w64 (s * P n)).tmod 360)) 145 n = s * P n / 360 := by rw [q_un (by decide), q_ue, ed]
      rw [ed2, ed, er, q_w32_id (x := s - q_ps s P n - s * P n / 360) (by omega) (by omega), show s - q_ps s P n - s * P n / 360 = s - q_ps s P (n + 1) from by rw [show q_ps s P (n + 1) = q_ps s P n + s * P n / 360 from rfl]; omega]
      refine ih (n + 1) _ _ _ (by omega) (by omega) (q_fd_up (q_fd_up f (Or.inl rfl)) (Or.inr rfl)) (fun o h0 h1 => ?_)
      rw [q_un (k' := 145) (by decide)]
      by_cases ec : o = n
      · rw [ec, q_ue, q_ue]; exact ⟨rfl, rfl⟩
      · rw [q_ui ec, q_ui ec, q_un (by decide)]; exact h o h0 (by omega)
theorem z_deals {s on kn : Int} {P : Int → Int} {σ : q_S} {K : q_R → q_S → Prop} (hk : 0 ≤ kn ∧ kn ≤ 120) (hp : ∀ j : Nat, (j : Int) < kn → 0 ≤ σ 110 j ∧ σ 110 j ≤ 12) (hP : e_P s P) (hH : ∀ o, q_hal σ o on kn.toNat 30 = P o) (hK : ∀ σ', q_fd σ σ' → (∀ o, 0 ≤ o → o < 8 → σ' 145 o = e_D s P o) → K none σ') : q_K L xs i_M_deals [(2, 100), (0, s), (0, on), (0, kn)] σ K := by
  refine q_call k_M_deals 8 rfl ?_
  show q_E L xs k_M_deals (0, [(2, 100), (0, s), (0, on), (0, kn), (9, 0), (9, 0), (9, 0), (9, 0)], [], σ) K
  refine q_go1 60 0 [4] (fun cl ev hcl hev => ?_)
  have l := zl_de1 (L := L) (xs := xs) hk hp hP hH hK 9 0 σ 0 9 (by omega) (by omega) (fun _ _ _ _ => rfl) (fun o h0 h1 => by omega)
  rw [show s - q_ps s P 0 = s from by unfold q_ps; omega] at l
  exact hev _ l
theorem z_scot {s w : Int} {P : Int → Int} {σ : q_S} {K : q_R → q_S → Prop} (hk : 0 ≤ σ 100 7 ∧ σ 100 7 ≤ 120) (hp : ∀ j : Nat, (j : Int) < σ 100 7 → 0 ≤ σ 110 j ∧ σ 110 j ≤ 12) (hP : (0 ≤ s ∧ s ≤ 100000) → e_P s P) (hH : ∀ o, q_hal σ o (σ 100 25) (σ 100 7).toNat 30 = P o) (h0 : ¬ (0 ≤ w ∧ w ≤ 7) → K (some (0, -1)) σ) (h2 : (0 ≤ w ∧ w ≤ 7 ∧ ¬ (0 ≤ s ∧ s ≤ 100000)) → K (some (0, -2)) σ) (h1 : (0 ≤ w ∧ w ≤ 7 ∧ 0 ≤ s ∧ s ≤ 100000) → ∀ σ', K (some (0, e_D s P w)) σ') : q_K L xs i_M_scot [(2, 100), (0, s), (0, w)] σ K := by
  refine q_call k_M_scot 3 rfl ?_
  show q_E L xs k_M_scot (0, [(2, 100), (0, s), (0, w)], [], σ) K
  refine q_go1 200 0 [] (fun cl ev hcl hev => ?_)
  show cl _ _ _ _
  refine hcl _ _ _ _ (c_M_isOwner (fun g => ?_) (fun g => ?_))
  · refine And.intro (fun _ => ?_) (fun z => absurd (show (1 : Int) ≠ 0 by decide) z)
    show cl _ _ _ _
    refine hcl _ _ _ _ (c_M_in (fun g2 => ?_) (fun g2 => ?_))
    · refine And.intro (fun _ => ?_) (fun z => absurd (show (1 : Int) ≠ 0 by decide) z)
      show cl _ _ _ _
      refine hcl _ _ _ _ (z_deals (P := P) hk hp (hP g2) hH (fun σ2 f2 h15 => ?_))
      refine And.intro (by omega) ?_
      show K (some (0, σ2 145 w)) σ2
      rw [h15 w (by omega) (by omega)]
      exact h1 (by omega) σ2
    · exact And.intro (fun z => absurd rfl z) (fun _ => h2 (by omega))
  · exact And.intro (fun z => absurd rfl z) (fun _ => h0 (by omega))
/-- the answers of scot are alike -/
theorem a_25 {a b i : Int} {σ : q_S} (h : q_IN σ) (r : q_SC σ) (rt : y_RT i σ) : q_P2 L xs i_A_scot [(2, 0), (0, a), (0, b)] i_M_scot [(2, 100), (0, a), (0, b)] σ (fun x y _ => x = y) := by
  have hI : q_IS σ := h.2.1.2.2.2.1
  have hp := q_SCp hI r
  have e5 := r.1
  have hpm : ∀ j : Nat, (j : Int) < σ 100 7 → 0 ≤ σ 110 j ∧ σ 110 j ≤ 12 := fun j hj => by have := hI.2.1 j hj; omega
  have e25 := Ms25 rt.2.1
  have hP : (0 ≤ a ∧ a ≤ 100000) → e_P a (fun o => q_hal σ o (σ 0 10) (σ 7 5).toNat 30) := fun ha => by
    refine ⟨ha, fun o _ _ => q_hal_pos (hI.2.2 _ (by omega)) 30, ?_⟩
    have := q_hal8 (σ := σ) (d := σ 0 10) (k := (σ 7 5).toNat) (fun j hj => ⟨(hI.2.1 j (by omega)).1, (hI.2.1 j (by omega)).2.1⟩) 30
    rw [this]
    rfl
  have hq : ∀ o, 0 ≤ o → o < 8 → q_pof σ (-1) o (σ 0 10) (σ 7 5).toNat = (fun o => q_hal σ o (σ 0 10) (σ 7 5).toNat 30) o := fun o _ _ => q_pof_hal _ (fun j hj => r.2 j (by omega))
  have hH : ∀ o, q_hal σ o (σ 100 25) (σ 100 7).toNat 30 = (fun o => q_hal σ o (σ 0 10) (σ 7 5).toNat 30) o := fun o => by rw [e25, e5]
  refine x_scot hp.1 hp.2 hP hq (fun g => ⟨_, rfl, ?_⟩) (fun g => ⟨_, rfl, ?_⟩) (fun g σ1 f => ⟨_, rfl, ?_⟩)
  · exact z_scot hI.1 hpm hP hH (fun k => ⟨_, rfl, rfl⟩) (fun k => by exfalso; omega) (fun k _ => by exfalso; omega)
  · exact z_scot hI.1 hpm hP hH (fun k => by exfalso; omega) (fun k => ⟨_, rfl, rfl⟩) (fun k _ => by exfalso; omega)
  · have f1 : ∀ k j, 100 ≤ k → σ1 k j = σ k j := fun k j hk => f k j (by omega) (by omega) (by omega)
    have g7 := f1 100 7 (by decide)
    have g25 := f1 100 25 (by decide)
    refine z_scot (by omega) (fun j hj => by rw [f1 110 j (by decide)]; exact hpm j (by omega)) hP (fun o => ?_) (fun k => by exfalso; omega) (fun k => by exfalso; omega) (fun k _ => ⟨_, rfl, rfl⟩)
    rw [g7, g25, q_hal_fr (fun i => ⟨f1 _ _ (by decide), f1 _ _ (by decide), f1 _ _ (by decide), f1 _ _ (by decide), f1 _ _ (by decide)⟩) 30]
    exact hH o
end U2

