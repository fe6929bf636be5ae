section Z1
variable {L : Nat} {xs : Int → Int}
theorem z_stands {r sea wind b : Int} {σ τ : q_S} {K : q_R → q_S → Prop} (hr : 0 ≤ r ∧ r < 24) (hw : 0 ≤ wind ∧ wind ≤ 3) (hs : 0 ≤ sea ∧ sea ≤ 120) (M : y_M σ τ) (h : y_S b τ) (hb : b ≤ 999000000) (hK : ∀ σ', y_M σ' (y_mu r sea wind τ) → K (some (0, if 20 ≤ sea - τ 20 r then 1 else 0)) σ') : q_K L xs i_M_stands [(2, 100), (0, r), (0, sea), (0, wind)] σ K := by
  have h20 := S20 h r
  have h18 := S18 h r
  have h22 := S22 h r
  have h1 := S_m1 (r := r) h hs.2
  have y19 : y_m1 r sea τ 19 r = τ 19 r := y_m19 (by decide) (by decide)
  have y20 : y_m1 r sea τ 20 r = τ 20 r := y_m19 (by decide) (by decide)
  have y22 : y_m1 r sea τ 22 r = τ 22 r := y_m19 (by decide) (by decide)
  have y23 : y_m1 r sea τ 23 r = τ 23 r := y_m19 (by decide) (by decide)
  have tki := y_tk_in (r := r) (sea := sea) hw h
  have tail : ∀ σ1, y_M σ1 (y_m1 r sea τ) → q_E L xs k_M_stands (23, [(2, 100), (0, r), (0, sea), (0, wind), (9, 0), (9, 0)], [], σ1) K := by
    intro σ1 M1
    have e114 : σ1 114 r = τ 20 r := (M114 M1 r).trans y20
    have e113 : σ1 113 r = τ 19 r := (M113 M1 r).trans y19
    have e116 : σ1 116 r = τ 22 r := (M116 M1 r).trans y22
    have e117 : σ1 117 r = τ 23 r := (M117 M1 r).trans y23
    have w20 : q_w32 (σ1 114 r + 20) = σ1 114 r + 20 := by rw [q_w32_id] <;> omega
    have ed2 : q_w32 ((σ1 114 r).tdiv 2) = τ 20 r / 2 := by rw [e114, q_td (by omega), q_w32_id] <;> omega
    have ed3 : q_w32 ((q_w32 (σ1 114 r * 2)).tdiv 3) = 2 * τ 20 r / 3 := by rw [e114, q_w32_id (x := τ 20 r * 2) (by omega) (by omega), q_td (by omega), q_w32_id] <;> omega
    have t1 : 20 ≤ sea - τ 20 r → τ 19 r = 1 → y_tk r sea wind τ = τ 20 r - 2 * τ 20 r / 3 := fun c1 c2 => by unfold y_tk y_rst; rw [if_pos c1, if_pos c2]
    have t2 : 20 ≤ sea - τ 20 r → τ 19 r ≠ 1 → y_tk r sea wind τ = τ 20 r - τ 20 r / 2 := fun c1 c2 => by unfold y_tk y_rst; rw [if_pos c1, if_neg c2]
    have t3 : ¬ 20 ≤ sea - τ 20 r → (if -5 < sea - τ 20 r then min (y_wof (τ 19 r) wind (sea - τ 20 r)) (τ 20 r) else 0) = y_tk r sea wind τ := fun c1 => by unfold y_tk; rw [if_neg c1]
    have fin : ∀ l v2 bb, l = τ 20 r - y_tk r sea wind τ → v2 = (if 20 ≤ sea - τ 20 r then q_w32 (τ 22 r + 1) else τ 22 r) → bb = (if 20 ≤ sea - τ 20 r then 1 else 0) → K (some (0, bb)) (q_up (q_up (q_up σ1 117 r (q_w32 (σ1 117 r + q_w32 (σ1 114 r - l)))) 114 r l) 116 r v2) := by
      intro l v2 bb hl h2 h3
      rw [h3]
      refine hK _ ?_
      rw [e117, e114, h2, hl, q_w32_id (x := τ 20 r - (τ 20 r - y_tk r sea wind τ)) (by omega) (by omega), show τ 20 r - (τ 20 r - y_tk r sea wind τ) = y_tk r sea wind τ by omega]
      unfold y_mu
      rw [q_cmm (σ := y_m1 r sea τ) (k := 20) (k' := 23) (by omega)]
      exact M_up (M_up (M_up M1 (by simp [y_rel])) (by simp [y_rel])) (by simp [y_rel])
    refine q_go1 200 23 [] (fun cl ev hcl hev => ?_)
    repeat' (first | refine And.intro ?_ ?_ | (intro hq; first | exact absurd hq (by decide) | exact absurd rfl hq | exact absurd hq (show ¬ (1 : Int) = 0 by decide) | exact absurd (show (1 : Int) ≠ 0 by decide) hq | skip) | (show cl _ _ _ _; refine hcl _ _ _ _ (z_wears hr hw hs M1 h1 ?_); rw [y19, y20]; rw [t3 (by omega)]))
    all_goals first
      | omega
      | (refine fin _ _ _ ?_ ?_ ?_
         · first
             | (rw [ed3, t1 (by omega) (by omega)]; omega)
             | (rw [ed2, t2 (by omega) (by omega)]; omega)
             | (rw [e114, q_w32_id] <;> omega)
         · rw [q_un (by decide), q_un (by decide), e116]
           first
             | (rw [if_pos (by omega)]; done)
             | (rw [if_neg (by omega), q_w32_id] <;> omega)
         · first
             | (rw [if_pos (by omega)]; done)
             | (rw [if_neg (by omega)]; done))
  refine q_call k_M_stands 6 rfl ?_
  show q_E L xs k_M_stands (0, [(2, 100), (0, r), (0, sea), (0, wind), (9, 0), (9, 0)], [], σ) K
  refine q_go1 200 0 [23] (fun cl ev hcl hev => ?_)
  have e114 := M114 M r
  have e112 := M112 M r
  have ew : q_w32 (10 * q_w32 (sea - σ 114 r)) = 10 * (sea - τ 20 r) := by rw [e114, q_w32_id (x := sea - τ 20 r) (by omega) (by omega), q_w32_id] <;> omega
  refine And.intro (by omega) ?_
  refine And.intro (fun hq => ?_) (fun hq => ?_)
  · refine hev _ (tail _ ?_)
    unfold y_m1
    rw [if_neg (by omega)]
    exact M
  · refine And.intro (by omega) ?_
    refine And.intro (by omega) ?_
    show cl _ _ _ _
    refine hcl _ _ _ _ ?_
    rw [ew, e112]
    refine z_comes (by omega) (by omega) M h (by omega) (fun σ' M' => ?_)
    refine And.intro (by omega) ?_
    refine hev _ (tail _ ?_)
    unfold y_m1
    rw [if_pos (by omega)]
    exact M_up M' (by simp [y_rel])
theorem z_opens {r sea b : Int} {σ τ : q_S} {K : q_R → q_S → Prop} (hr : 0 ≤ r ∧ r < 24) (hs : 0 ≤ sea ∧ sea ≤ 120) (M : y_M σ τ) (h : y_S b τ) (hb : b ≤ 1000000000) (hK : ∀ σ', y_M σ' (y_slu r sea τ) → K none σ') : q_K L xs i_M_opens [(2, 100), (0, r), (0, sea)] σ K := by
  have h18 := S18 h r
  have h21 := S21 h r
  have h3 := S3 h (τ 18 r)
  have h2 := S2 h (τ 18 r)
  have h16 := S16 h
  have e112 := M112 M r
  have e115 := M115 M r
  have e101 := M101 M (τ 18 r)
  have e102 := M102 M (τ 18 r)
  have e28 := Ms28 M
  have ea : q_w32 (σ 101 (τ 18 r) + q_w32 ((σ 102 (τ 18 r)).tdiv 100)) = y_ab r sea τ + sea := by
    unfold y_ab
    rw [e101, e102, q_td h3.1, q_w32_id (x := τ 3 (τ 18 r) / 100) (by omega) (by omega), q_w32_id] <;> omega
  have hab : -120 ≤ y_ab r sea τ ∧ y_ab r sea τ ≤ 20000000 := by unfold y_ab; omega
  refine q_call k_M_opens 6 rfl ?_
  show q_E L xs k_M_opens (0, [(2, 100), (0, r), (0, sea), (9, 0), (9, 0), (9, 0)], [], σ) K
  refine q_go1 200 0 [] (fun cl ev hcl hev => ?_)
  refine And.intro (by omega) ?_
  rw [e112]
  show cl _ _ _ _
  refine hcl _ _ _ _ (c_M_surface (by omega) ?_)
  rw [ea]
  have w1 : q_w32 (5 * q_w32 (y_ab r sea τ + sea - sea)) = 5 * y_ab r sea τ := by rw [q_w32_id (x := y_ab r sea τ + sea - sea) (by omega) (by omega), q_w32_id] <;> omega
  have w2 : y_ab r sea τ < 0 → q_w32 (5 * q_w32 (sea - (y_ab r sea τ + sea))) = -5 * y_ab r sea τ := fun _ => by rw [q_w32_id (x := sea - (y_ab r sea τ + sea)) (by omega) (by omega), q_w32_id] <;> omega
  have f1 : ∀ v, 0 < y_ab r sea τ → (τ 21 r = 2 ∨ τ 21 r = 3) → v = min (5 * y_ab r sea τ) (τ 3 (τ 18 r)) → K none (q_up (q_up σ 102 (τ 18 r) (q_w32 (σ 102 (τ 18 r) - v))) 100 28 ((q_w32 (σ 100 28 + v)).tmod 1000000)) := fun v c1 c2 hv => by
    refine hK _ ?_
    unfold y_slu
    rw [if_pos ⟨c1, c2⟩]
    unfold y_out
    rw [e102, e28, ← hv, q_w32_id (x := τ 3 (τ 18 r) - v) (by omega) (by omega), q_w32_id (x := τ 1 6 + v) (by omega) (by omega), q_tm (by omega)]
    exact M_up (M_up M (by simp [y_rel])) (by simp [y_rel])
  have f0 : ¬ (0 < y_ab r sea τ ∧ (τ 21 r = 2 ∨ τ 21 r = 3)) → ¬ (y_ab r sea τ < 0 ∧ τ 21 r = 2) → K none σ := fun c1 c2 => by
    refine hK _ ?_
    unfold y_slu
    rw [if_neg c1, if_neg c2]
    exact M
  repeat' (first | refine And.intro ?_ ?_ | (intro hq; first | exact absurd hq (by decide) | exact absurd rfl hq | exact absurd hq (show ¬ (1 : Int) = 0 by decide) | exact absurd (show (1 : Int) ≠ 0 by decide) hq | skip) | (show cl _ _ _ _; refine hcl _ _ _ _ ?_; rw [w2 (by omega)]; refine z_comes (by omega) (by omega) M h hb (fun σ' M' => ?_)))
  all_goals first
    | omega
    | exact f0 (by omega) (by omega)
    | (rw [q_un (by decide)]; exact f1 _ (by omega) (by omega) (by omega))
    | (refine hK _ ?_
       unfold y_slu
       rw [if_neg (by omega), if_pos (by omega)]
       exact M_up M' (by simp [y_rel]))
theorem z_levels {a c b : Int} {σ τ : q_S} {K : q_R → q_S → Prop} (ha : 0 ≤ a ∧ a < 30) (hc : 0 ≤ c ∧ c < 30) (hac : c ≠ a) (M : y_M σ τ) (h : y_S b τ) (hb : b ≤ 1000000000) (hK : ∀ σ', y_M σ' (y_set τ a c) → K none σ') : q_K L xs i_M_levels [(2, 100), (0, a), (0, c)] σ K := by
  have h3 := S3 h a
  have h4 := S3 h c
  have h5 := S2 h a
  have h6 := S2 h c
  have e1 := M102 M a
  have e2 := M102 M c
  have e3 := M101 M a
  have e4 := M101 M c
  have ea : q_w32 (q_w32 (q_w32 (q_w32 (100 * σ 101 a) + σ 102 a) - q_w32 (100 * σ 101 c)) - σ 102 c) = y_abv τ a c := by
    unfold y_abv
    rw [e1, e2, e3, e4, q_w32_id (x := 100 * τ 2 a) (by omega) (by omega), q_w32_id (x := 100 * τ 2 c) (by omega) (by omega), q_w32_id (x := 100 * τ 2 a + τ 3 a) (by omega) (by omega), q_w32_id (x := 100 * τ 2 a + τ 3 a - 100 * τ 2 c) (by omega) (by omega), q_w32_id] <;> omega
  have hab : -1000010000 ≤ y_abv τ a c ∧ y_abv τ a c ≤ 1000010000 := by unfold y_abv; omega
  have d1 : 0 < y_abv τ a c → q_w32 ((y_abv τ a c).tdiv 4) = y_abv τ a c / 4 := fun _ => by rw [q_td (by omega), q_w32_id] <;> omega
  have d2 : ¬ 0 < y_abv τ a c → q_w32 ((q_w32 (-y_abv τ a c)).tdiv 4) = -y_abv τ a c / 4 := fun _ => by rw [q_w32_id (x := -y_abv τ a c) (by omega) (by omega), q_td (by omega), q_w32_id] <;> omega
  have d1' := fun z => d1 z
  have st : ∀ p q v, (0 ≤ p ∧ p < 30) → (0 ≤ q ∧ q < 30) → q ≠ p → 0 ≤ v → v ≤ τ 3 p → y_M (q_up (q_up σ 102 p (q_w32 (σ 102 p - v))) 102 q (q_w32 (q_up σ 102 p (q_w32 (σ 102 p - v)) 102 q + v))) (q_up (q_up τ 3 p (τ 3 p - v)) 3 q (τ 3 q + v)) := fun p q v hp hq hpq hv hv2 => by
    have g1 := S3 h p
    have g2 := S3 h q
    rw [q_ui hpq, M102 M p, M102 M q, q_w32_id (x := τ 3 p - v) (by omega) (by omega), q_w32_id (x := τ 3 q + v) (by omega) (by omega)]
    exact M_up (M_up M (by simp [y_rel])) (by simp [y_rel])
  have fl : ∀ p q v w, q ≠ p → v = min w (τ 3 p) → q_up (q_up τ 3 p (τ 3 p - v)) 3 q (τ 3 q + v) = y_flow τ p q w := fun p q v w hpq hv => by
    unfold y_flow
    rw [q_ui hpq, ← hv]
  have f1 : ∀ v, 0 < y_abv τ a c → v = min (y_abv τ a c / 4) (τ 3 a) → K none (q_up (q_up σ 102 a (q_w32 (σ 102 a - v))) 102 c (q_w32 (q_up σ 102 a (q_w32 (σ 102 a - v)) 102 c + v))) := fun v c1 hv => by
    refine hK _ ?_
    have := st a c v ha hc hac (by omega) (by omega)
    unfold y_set
    rw [if_neg (by omega), if_pos (by omega), ← fl a c v _ hac hv]
    exact this
  have f2 : ∀ v, ¬ 0 < y_abv τ a c → v = min (-y_abv τ a c / 4) (τ 3 c) → K none (q_up (q_up σ 102 c (q_w32 (σ 102 c - v))) 102 a (q_w32 (q_up σ 102 c (q_w32 (σ 102 c - v)) 102 a + v))) := fun v c1 hv => by
    refine hK _ ?_
    have := st c a v hc ha (fun e => hac e.symm) (by omega) (by omega)
    unfold y_set
    rw [if_neg (by omega)]
    by_cases c2 : 0 ≤ y_abv τ a c
    · have ev : v = 0 := by omega
      have eτ : q_up (q_up τ 3 c (τ 3 c - 0)) 3 a (τ 3 a + 0) = τ := by rw [q_sf (σ := τ) (k := 3) (i := c) (v := τ 3 c - 0) (by omega), q_sf (σ := τ) (k := 3) (i := a) (v := τ 3 a + 0) (by omega)]
      have eF : y_flow τ a c (y_abv τ a c / 4) = τ := by
        unfold y_flow
        rw [show min (y_abv τ a c / 4) (τ 3 a) = 0 by omega, q_sf (σ := τ) (k := 3) (i := a) (v := τ 3 a - 0) (by omega), q_sf (σ := τ) (k := 3) (i := c) (v := τ 3 c + 0) (by omega)]
      rw [ev] at this ⊢
      rw [eτ] at this
      rw [if_pos c2, eF]
      exact this
    · rw [if_neg c2, ← fl c a v _ (fun e => hac e.symm) hv]
      exact this
  refine q_call k_M_levels 7 rfl ?_
  show q_E L xs k_M_levels (0, [(2, 100), (0, a), (0, c), (9, 0), (9, 0), (9, 0), (9, 0)], [], σ) K
  refine q_go1 200 0 [] (fun cl ev hcl hev => ?_)
  refine And.intro (by omega) (And.intro (by omega) (And.intro (by omega) (And.intro (by omega) ?_)))
  show (q_w32 (q_w32 (q_w32 (q_w32 (100 * σ 101 a) + σ 102 a) - q_w32 (100 * σ 101 c)) - σ 102 c) ≤ 0 → _) ∧ (¬ q_w32 (q_w32 (q_w32 (q_w32 (100 * σ 101 a) + σ 102 a) - q_w32 (100 * σ 101 c)) - σ 102 c) ≤ 0 → _)
  rw [ea]
  refine And.intro (fun hq => ?_) (fun hq => ?_)
  all_goals repeat' (first | refine And.intro ?_ ?_ | (intro hq; first | exact absurd hq (by decide) | exact absurd rfl hq | exact absurd hq (show ¬ (1 : Int) = 0 by decide) | exact absurd (show (1 : Int) ≠ 0 by decide) hq | skip))
  all_goals first
    | omega
    | exact f1 _ (by omega) (by first | omega | (rw [d1 (by omega)] at *; omega))
    | exact f2 _ (by omega) (by first | omega | (rw [d2 (by omega)] at *; omega))
end Z1

