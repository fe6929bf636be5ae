section Y3
variable {L : Nat} {xs : Int → Int}
theorem x_sea {c v : Int} {b : Int} {σ : q_S} {K : q_R → q_S → Prop} (hc : 0 ≤ c ∧ c < 30) (hv : 0 ≤ v ∧ v ≤ 1000000) (h : y_S b σ) (hb : b ≤ 1000000000) (hK : K none (y_sea σ c v)) : q_K L xs i_Land_letSeaIn [(2, 1), (0, c), (0, v)] σ K := by
  have h3 := S3 h c
  have h5 := S15 h
  have e1 : q_w32 (σ 3 c + v) = σ 3 c + v := by rw [q_w32_id] <;> omega
  have e2 : (q_w32 (σ 1 5 + v)).tmod 1000000 = (σ 1 5 + v) % 1000000 := by rw [q_w32_id (by omega) (by omega), q_tm (by omega)]
  refine q_call k_Land_letSeaIn 3 rfl ?_
  show q_E L xs k_Land_letSeaIn (0, [(2, 1), (0, c), (0, v)], [], σ) K
  refine q_go1 200 0 [] (fun cl ev hcl hev => ?_)
  repeat' (first | refine And.intro ?_ ?_ | (intro hq; first | exact absurd hq (by decide) | exact absurd rfl hq | exact absurd hq (show ¬ (1 : Int) = 0 by decide) | exact absurd (show (1 : Int) ≠ 0 by decide) hq | skip))
  all_goals first
    | omega
    | (refine q_ks hK ?_; unfold y_sea; simp (disch := decide) only [q_un, q_ue, e1, e2])

theorem x_out {c v : Int} {b : Int} {σ : q_S} {K : q_R → q_S → Prop} (hc : 0 ≤ c ∧ c < 30) (hv : 0 ≤ v) (h : y_S b σ) (hb : b ≤ 1000000000) (hK : K none (y_out σ c v)) : q_K L xs i_Land_letOut [(2, 1), (0, c), (0, v)] σ K := by
  have h3 := S3 h c
  have h5 := S16 h
  have e1 : q_w32 (σ 3 c - min v (σ 3 c)) = σ 3 c - min v (σ 3 c) := by rw [q_w32_id] <;> omega
  have e2 : (q_w32 (σ 1 6 + min v (σ 3 c))).tmod 1000000 = (σ 1 6 + min v (σ 3 c)) % 1000000 := by rw [q_w32_id (by omega) (by omega), q_tm (by omega)]
  refine q_call k_Land_letOut 4 rfl ?_
  show q_E L xs k_Land_letOut (0, [(2, 1), (0, c), (0, v), (9, 0)], [], σ) K
  refine q_go1 200 0 [] (fun cl ev hcl hev => ?_)
  repeat' (first | refine And.intro ?_ ?_ | (intro hq; first | exact absurd hq (by decide) | exact absurd rfl hq | exact absurd hq (show ¬ (1 : Int) = 0 by decide) | exact absurd (show (1 : Int) ≠ 0 by decide) hq | skip))
  all_goals first
    | omega
    | (refine q_ks hK ?_; unfold y_out; simp (disch := decide) only [q_un, q_ue, e1, e2])

theorem x_wear {r v : Int} {b : Int} {σ : q_S} {K : q_R → q_S → Prop} (hr : 0 ≤ r ∧ r < 24) (hv : 0 ≤ v) (h : y_S b σ) (hb : b ≤ 1000000000) (hK : K none (y_wear σ r v)) : q_K L xs i_Bank_wearDown [(2, 17), (0, r), (0, v)] σ K := by
  have h3 := S20 h r
  have e1 : q_w32 (σ 20 r - min v (σ 20 r)) = σ 20 r - min v (σ 20 r) := by rw [q_w32_id] <;> omega
  refine q_call k_Bank_wearDown 4 rfl ?_
  show q_E L xs k_Bank_wearDown (0, [(2, 17), (0, r), (0, v), (9, 0)], [], σ) K
  refine q_go1 200 0 [] (fun cl ev hcl hev => ?_)
  repeat' (first | refine And.intro ?_ ?_ | (intro hq; first | exact absurd hq (by decide) | exact absurd rfl hq | exact absurd hq (show ¬ (1 : Int) = 0 by decide) | exact absurd (show (1 : Int) ≠ 0 by decide) hq | skip))
  all_goals first
    | omega
    | (refine q_ks hK ?_; unfold y_wear; simp (disch := decide) only [q_un, q_ue, e1])

theorem x_wof {kd wind ov : Int} {σ : q_S} {K : q_R → q_S → Prop} (hw : 0 ≤ wind ∧ wind ≤ 3) (hK : K (some (0, y_wof kd wind ov)) σ) : q_K L xs i_Bank_wearOf [(0, kd), (0, wind), (0, ov)] σ K := by
  have ed : q_w32 ((q_w32 (1 + wind)).tdiv 2) = (1 + wind) / 2 := by rw [q_w32_id (x := 1 + wind) (by omega) (by omega), q_td (by omega), q_w32_id] <;> omega
  refine q_call k_Bank_wearOf 4 rfl ?_
  show q_E L xs k_Bank_wearOf (0, [(0, kd), (0, wind), (0, ov), (9, 0)], [], σ) K
  refine q_go1 200 0 [] (fun cl ev hcl hev => ?_)
  repeat' (first | refine And.intro ?_ ?_ | (intro hq; first | exact absurd hq (by decide) | exact absurd rfl hq | exact absurd hq (show ¬ (1 : Int) = 0 by decide) | exact absurd (show (1 : Int) ≠ 0 by decide) hq | skip))
  all_goals first
    | omega
    | (refine q_kv hK ?_
       first | rw [ed] | skip
       unfold y_wof
       try unfold q_w32
       repeat' split
       all_goals omega)

theorem y_w22 {σ : q_S} {r v i : Int} : y_wear σ r v 22 i = σ 22 i := by
  unfold y_wear
  rw [q_un (by decide), q_un (by decide)]
theorem x_brk {r : Int} {b : Int} {σ : q_S} {K : q_R → q_S → Prop} (hr : 0 ≤ r ∧ r < 24) (h : y_S b σ) (hb : b ≤ 1000000000) (hK : K none (y_brk σ r)) : q_K L xs i_Bank_breakDown [(2, 17), (0, r)] σ K := by
  have h3 := S20 h r
  have e1 : q_w32 (σ 20 r - q_w32 ((q_w32 (2 * σ 20 r)).tdiv 3)) = σ 20 r - 2 * σ 20 r / 3 := by rw [q_w32_id (x := 2 * σ 20 r) (by omega) (by omega), q_td (by omega), q_w32_id (x := 2 * σ 20 r / 3) (by omega) (by omega), q_w32_id] <;> omega
  have e2 : q_w32 (σ 20 r - q_w32 ((σ 20 r).tdiv 2)) = σ 20 r - σ 20 r / 2 := by rw [q_td (by omega), q_w32_id (x := σ 20 r / 2) (by omega) (by omega), q_w32_id] <;> omega
  refine q_call k_Bank_breakDown 4 rfl ?_
  show q_E L xs k_Bank_breakDown (0, [(2, 17), (0, r), (9, 0), (9, 0)], [], σ) K
  refine q_go1 200 0 [] (fun cl ev hcl hev => ?_)
  repeat' (first | refine And.intro ?_ ?_ | (intro hq; first | exact absurd hq (by decide) | exact absurd rfl hq | exact absurd hq (show ¬ (1 : Int) = 0 by decide) | exact absurd (show (1 : Int) ≠ 0 by decide) hq | skip) | (show cl _ _ _ _; first | refine hcl _ _ _ _ (x_wear hr (by omega) h hb ?_)))
  all_goals first
    | omega
    | (refine q_ks hK ?_; unfold y_brk y_rst; rw [if_pos (by omega)]; rw [e1, y_w22])
    | (refine q_ks hK ?_; unfold y_brk y_rst; rw [if_neg (by omega)]; rw [e2, y_w22])

theorem y_s19 {σ : q_S} {c v k i : Int} (h1 : k ≠ 1) (h3 : k ≠ 3) : y_sea σ c v k i = σ k i := by
  unfold y_sea
  rw [q_un h1, q_un h1, q_un h3]
theorem y_m19 {σ : q_S} {r sea k i : Int} (h1 : k ≠ 1) (h3 : k ≠ 3) : y_m1 r sea σ k i = σ k i := by
  unfold y_m1
  split
  · exact y_s19 h1 h3
  · rfl
/-- behind the overflow -/
theorem x_meet2 {r sea wind : Int} {b : Int} {σ : q_S} {K : q_R → q_S → Prop} (hr : 0 ≤ r ∧ r < 24) (hw : 0 ≤ wind ∧ wind ≤ 3) (hs : 0 ≤ sea ∧ sea ≤ 120) (h : y_S b σ) (hb : b ≤ 999000000) (h1 : y_S (b + 1200) (y_m1 r sea σ)) (hK : K none (y_meet r sea wind σ)) : q_E L xs k_Bank_meetSea (18, [(2, 17), (0, r), (0, sea), (0, wind), (2, 1), (0, sea - σ 20 r)], [], y_m1 r sea σ) K := by
  have h3 := S20 h r
  have e20 : y_m1 r sea σ 20 r = σ 20 r := y_m19 (by decide) (by decide)
  have e19 : y_m1 r sea σ 19 r = σ 19 r := y_m19 (by decide) (by decide)
  have hwo := y_wof_in (kd := y_m1 r sea σ 19 r) (ov := sea - σ 20 r) hw
  refine q_go1 200 18 [] (fun cl ev hcl hev => ?_)
  repeat' (first | refine And.intro ?_ ?_ | (intro hq; first | exact absurd hq (by decide) | exact absurd rfl hq | exact absurd hq (show ¬ (1 : Int) = 0 by decide) | exact absurd (show (1 : Int) ≠ 0 by decide) hq | skip) | (show cl _ _ _ _; first | refine hcl _ _ _ _ (x_brk hr h1 (by omega) ?_) | refine hcl _ _ _ _ (x_wof hw ?_) | refine hcl _ _ _ _ (x_wear hr (by omega) h1 (by omega) ?_)))
  all_goals first
    | omega
    | (refine q_ks hK ?_; unfold y_meet; rw [if_pos (by omega)])
    | (refine q_ks hK ?_; unfold y_meet; rw [if_neg (by omega), if_pos (by omega), e19])
    | (refine q_ks hK ?_; unfold y_meet; rw [if_neg (by omega), if_neg (by omega)])

theorem x_meet {r sea wind : Int} {b : Int} {σ : q_S} {K : q_R → q_S → Prop} (hr : 0 ≤ r ∧ r < 24) (hw : 0 ≤ wind ∧ wind ≤ 3) (hs : 0 ≤ sea ∧ sea ≤ 120) (h : y_S b σ) (hb : b ≤ 999000000) (hK : K none (y_meet r sea wind σ)) : q_K L xs i_Bank_meetSea [(2, 17), (0, r), (0, sea), (0, wind), (2, 1)] σ K := by
  have h3 := S20 h r
  have h18 := S18 h r
  have e0 : q_w32 (sea - σ 20 r) = sea - σ 20 r := by rw [q_w32_id] <;> omega
  have e1 : q_w32 (10 * (sea - σ 20 r)) = 10 * (sea - σ 20 r) := by rw [q_w32_id] <;> omega
  have go := x_meet2 (L := L) (xs := xs) hr hw hs h (by omega) (S_m1 h hs.2) hK
  refine q_call k_Bank_meetSea 6 rfl ?_
  show q_E L xs k_Bank_meetSea (0, [(2, 17), (0, r), (0, sea), (0, wind), (2, 1), (9, 0)], [], σ) K
  refine q_go1 200 0 [18] (fun cl ev hcl hev => ?_)
  refine And.intro (by omega) ?_
  show (q_w32 (sea - σ 20 r) ≤ 0 → _) ∧ (¬ q_w32 (sea - σ 20 r) ≤ 0 → _)
  rw [e0]
  refine And.intro (fun hq => ?_) (fun hq => ?_)
  · refine hev _ ?_
    rw [show y_m1 r sea σ = σ from by unfold y_m1; rw [if_neg (by omega)]] at go
    exact go
  · refine And.intro (by omega) ?_
    show cl _ _ _ _
    refine hcl _ _ _ _ (x_sea (by omega) (by rw [e1]; omega) h (by omega) ?_)
    rw [e1]
    refine hev _ ?_
    rw [show y_m1 r sea σ = y_sea σ (σ 18 r) (10 * (sea - σ 20 r)) from by unfold y_m1; rw [if_pos (by omega)]] at go
    exact go

theorem x_slu {r sea : Int} {b : Int} {σ : q_S} {K : q_R → q_S → Prop} (hr : 0 ≤ r ∧ r < 24) (hs : 0 ≤ sea ∧ sea ≤ 120) (h : y_S b σ) (hb : b ≤ 1000000000) (hK : K none (y_slu r sea σ)) : q_K L xs i_Bank_runSluice [(2, 17), (0, r), (0, sea), (2, 1)] σ K := by
  have h18 := S18 h r
  have h3 := S3 h (σ 18 r)
  have h2 := S2 h (σ 18 r)
  have ea : q_w32 (q_w32 (σ 2 (σ 18 r) + q_w32 ((σ 3 (σ 18 r)).tdiv 100)) - sea) = y_ab r sea σ := by
    unfold y_ab
    rw [q_td h3.1, q_w32_id (x := σ 3 (σ 18 r) / 100) (by omega) (by omega), q_w32_id (x := σ 2 (σ 18 r) + σ 3 (σ 18 r) / 100) (by omega) (by omega), q_w32_id] <;> omega
  have hab : -120 ≤ y_ab r sea σ ∧ y_ab r sea σ ≤ 20000000 := by unfold y_ab; omega
  have e5 : q_w32 (5 * q_w32 (q_w32 (σ 2 (σ 18 r) + q_w32 ((σ 3 (σ 18 r)).tdiv 100)) - sea)) = 5 * y_ab r sea σ := by rw [ea, q_w32_id] <;> omega
  have e6 : y_ab r sea σ < 0 → q_w32 (-5 * q_w32 (q_w32 (σ 2 (σ 18 r) + q_w32 ((σ 3 (σ 18 r)).tdiv 100)) - sea)) = -5 * y_ab r sea σ := fun _ => by rw [ea, q_w32_id] <;> omega
  refine q_call k_Bank_runSluice 7 rfl ?_
  show q_E L xs k_Bank_runSluice (0, [(2, 17), (0, r), (0, sea), (2, 1), (9, 0), (9, 0), (9, 0)], [], σ) K
  refine q_go1 200 0 [] (fun cl ev hcl hev => ?_)
  repeat' (first | refine And.intro ?_ ?_ | (intro hq; first | exact absurd hq (by decide) | exact absurd rfl hq | exact absurd hq (show ¬ (1 : Int) = 0 by decide) | exact absurd (show (1 : Int) ≠ 0 by decide) hq | skip) | (show cl _ _ _ _; first | refine hcl _ _ _ _ (c_Land_surface (by omega) ?_) | refine hcl _ _ _ _ (x_out (by omega) (by omega) h hb ?_) | refine hcl _ _ _ _ (x_sea (by omega) (by omega) h hb ?_)))
  all_goals first
    | omega
    | (refine q_ks hK ?_; unfold y_slu; rw [if_pos (by omega), e5])
    | (refine q_ks hK ?_; unfold y_slu; rw [if_neg (by omega), if_pos (by omega), e6 (by omega)])
    | (refine q_ks hK ?_; unfold y_slu; rw [if_neg (by omega), if_neg (by omega)])

end Y3
