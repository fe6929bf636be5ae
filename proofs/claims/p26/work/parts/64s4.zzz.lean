section Z3
variable {L : Nat} {xs : Int → Int}
theorem z_h6 {sea wind rain b : Int} {τ : q_S} {K : q_R → q_S → Prop} (h : y_S b τ)  (hK : ∀ σ', y_M σ' (y_fls τ (τ 27 2).toNat) → K none σ') : ∀ (m n : Nat) (σ : q_S), τ 27 2 - (n : Int) < m → (n : Int) ≤ τ 27 2 → y_M σ (y_fls τ n) →
    q_E L xs k_M_hour (109, [(2, 100), (0, sea), (0, wind), (0, rain), (0, (n : Int))], [], σ) K := by
  intro m
  induction m with
  | zero => intro n; omega
  | succ m ih =>
    intro n σ hm hn M
    have h27 := S27 h
    have e22 : σ 100 22 = τ 27 2 := (Ms22 M).trans (F_fls (by unfold y_kk y_k; omega) n)
    have hn1 := S_fls h n
    have e : (n : Int) < 1000 → q_w32 ((n : Int) + 1) = ((n + 1 : Nat) : Int) := fun _ => by rw [q_w32_id] <;> omega
    refine q_go1 200 109 [2, 13, 39, 51, 80, 109] (fun cl ev hcl hev => ?_)
    refine And.intro (fun hq => ?_) (fun hq => ?_)
    · have en : (τ 27 2).toNat = n := by omega
      rw [en] at hK
      exact hK _ M
    · show cl _ _ _ _
      refine hcl _ _ _ _ (z_flees (by omega) M hn1 (fun σ' M' => ?_))
      refine hev _ ?_
      rw [e (by omega)]
      exact ih (n + 1) _ (by omega) (by omega) M'

theorem z_h5 {sea wind rain : Int} {τ : q_S} {K : q_R → q_S → Prop}  (hK : ∀ σ', y_M σ' (y_pk τ 30) → q_E L xs k_M_hour (109, [(2, 100), (0, sea), (0, wind), (0, rain), (0, 0)], [], σ') K) : ∀ (m n : Nat) (σ : q_S), 30 - (n : Int) < m → (n : Int) ≤ 30 → y_M σ (y_pk τ n) →
    q_E L xs k_M_hour (80, [(2, 100), (0, sea), (0, wind), (0, rain), (0, (n : Int))], [], σ) K := by
  intro m
  induction m with
  | zero => intro n; omega
  | succ m ih =>
    intro n σ hm hn M
    have e2 := M102 M n
    have e3 := M103 M n
    have st : ∀ v, v = max (y_pk τ n 4 n) (y_pk τ n 3 n) → y_M (q_up σ 103 n v) (y_pk τ (n + 1)) := fun v hv => by
      rw [hv]
      exact M_up M (by simp [y_rel])
    have e : (n : Int) < 1000 → q_w32 ((n : Int) + 1) = ((n + 1 : Nat) : Int) := fun _ => by rw [q_w32_id] <;> omega
    refine q_go1 200 80 [2, 13, 39, 51, 80, 109] (fun cl ev hcl hev => ?_)
    refine And.intro (fun hq => ?_) (fun hq => ?_)
    · have en : n = 30 := by omega
      subst en
      exact hev _ (hK _ M)
    · repeat' (first | refine And.intro ?_ ?_ | (intro hq; first | exact absurd hq (by decide) | exact absurd rfl hq | exact absurd hq (show ¬ (1 : Int) = 0 by decide) | exact absurd (show (1 : Int) ≠ 0 by decide) hq | skip))
      all_goals first
        | omega
        | (refine hev _ ?_
           rw [e (by omega)]
           exact ih (n + 1) _ (by omega) (by omega) (st _ (by omega)))

theorem z_h4 {sea wind rain b : Int} {τ : q_S} {K : q_R → q_S → Prop} (h : y_S b τ) (hP : y_P b τ) (hb : b ≤ 1000000000)  (hK : ∀ σ', y_M σ' (y_spr τ 30) → q_E L xs k_M_hour (80, [(2, 100), (0, sea), (0, wind), (0, rain), (0, 0)], [], σ') K) : ∀ (m n : Nat) (σ : q_S), 30 - (n : Int) < m → (n : Int) ≤ 30 → y_M σ (y_spr τ n) →
    q_E L xs k_M_hour (51, [(2, 100), (0, sea), (0, wind), (0, rain), (0, (n : Int))], [], σ) K := by
  intro m
  induction m with
  | zero => intro n; omega
  | succ m ih =>
    intro n σ hm hn M
    have e : (n : Int) < 1000 → q_w32 ((n : Int) + 1) = ((n + 1 : Nat) : Int) := fun _ => by rw [q_w32_id] <;> omega
    have hbs := fun hc => q_bes_in (c := n) (w := 1) hc
    have hbs3 := fun hc => q_bes_in (c := n) (w := 3) hc
    have a1 : q_bes n 1 ≠ (n : Int) := (q_bes_ne (c := n) (w := 1)).elim (fun e => e) (fun e => by omega)
    have a3 : q_bes n 3 ≠ (n : Int) := (q_bes_ne (c := n) (w := 3)).elim (fun e => e) (fun e => by omega)
    have s1 := S_spr h hP n
    have s2 := S_set s1.1 s1.2 a1
    have k1 : q_bes n 1 = -1 → y_set (y_spr τ n) n (q_bes n 1) = y_spr τ n := fun z => by unfold y_set; rw [if_pos z]
    have k3 : q_bes n 3 = -1 → y_set (y_set (y_spr τ n) n (q_bes n 1)) n (q_bes n 3) = y_set (y_spr τ n) n (q_bes n 1) := fun z => by unfold y_set; rw [if_pos z]
    have st : (n : Int) < 30 → ∀ σ', y_M σ' (y_set (y_set (y_spr τ n) n (q_bes n 1)) n (q_bes n 3)) → q_E L xs k_M_hour (51, [(2, 100), (0, sea), (0, wind), (0, rain), (0, q_w32 ((n : Int) + 1))], [], σ') K := fun hlt σ' M' => by
      rw [e (by omega)]
      exact ih (n + 1) _ (by omega) (by omega) M'
    have tl : (n : Int) < 30 → ∀ σ1, y_M σ1 (y_set (y_spr τ n) n (q_bes n 1)) → q_E L xs k_M_hour (65, [(2, 100), (0, sea), (0, wind), (0, rain), (0, (n : Int))], [], σ1) K := fun hlt σ1 M1 => by
      refine q_go1 200 65 [2, 13, 39, 51, 80, 109] (fun cl ev hcl hev => ?_)
      show cl _ _ _ _
      refine hcl _ _ _ _ (c_M_beside (by omega) ?_)
      refine And.intro (fun hq => ?_) (fun hq => ?_)
      · refine hev _ (st hlt _ ?_)
        rw [k3 hq]
        exact M1
      · show cl _ _ _ _
        refine hcl _ _ _ _ (c_M_beside (by omega) ?_)
        show cl _ _ _ _
        refine hcl _ _ _ _ (z_levels (by omega) (by omega) a3 M1 s2.1 hb (fun σ' M' => ?_))
        exact hev _ (st hlt _ M')
    have e_ : (n : Int) < 1000 → q_w32 ((n : Int) + 1) = ((n + 1 : Nat) : Int) := fun _ => by rw [q_w32_id] <;> omega
    refine q_go1 200 51 [2, 13, 39, 51, 65, 80, 109] (fun cl ev hcl hev => ?_)
    refine And.intro (fun hq => ?_) (fun hq => ?_)
    · have en : n = 30 := by omega
      subst en
      exact hev _ (hK _ M)
    · show cl _ _ _ _
      refine hcl _ _ _ _ (c_M_beside (by omega) ?_)
      refine And.intro (fun hq => ?_) (fun hq => ?_)
      · refine hev _ (tl (by omega) _ ?_)
        rw [k1 hq]
        exact M
      · show cl _ _ _ _
        refine hcl _ _ _ _ (c_M_beside (by omega) ?_)
        show cl _ _ _ _
        refine hcl _ _ _ _ (z_levels (by omega) (by omega) a1 M s1.1 hb (fun σ' M' => ?_))
        exact hev _ (tl (by omega) _ M')

theorem z_h3 {sea wind rain b : Int} {τ : q_S} {K : q_R → q_S → Prop} (hs : 0 ≤ sea ∧ sea ≤ 120) (h : y_S b τ) (hb : b ≤ 990000000)  (hK : ∀ σ', y_M σ' (y_slus sea τ (τ 17 9).toNat) → q_E L xs k_M_hour (51, [(2, 100), (0, sea), (0, wind), (0, rain), (0, 0)], [], σ') K) : ∀ (m n : Nat) (σ : q_S), τ 17 9 - (n : Int) < m → (n : Int) ≤ τ 17 9 → y_M σ (y_slus sea τ n) →
    q_E L xs k_M_hour (39, [(2, 100), (0, sea), (0, wind), (0, rain), (0, (n : Int))], [], σ) K := by
  intro m
  induction m with
  | zero => intro n; omega
  | succ m ih =>
    intro n σ hm hn M
    have h17 := S17 h
    have e13 : σ 100 13 = τ 17 9 := (Ms13 M).trans (F_slus (by unfold y_kk y_k; omega) n)
    have hn1 := S_slus h hs n
    have e : (n : Int) < 1000 → q_w32 ((n : Int) + 1) = ((n + 1 : Nat) : Int) := fun _ => by rw [q_w32_id] <;> omega
    refine q_go1 200 39 [2, 13, 39, 51, 80, 109] (fun cl ev hcl hev => ?_)
    refine And.intro (fun hq => ?_) (fun hq => ?_)
    · have en : (τ 17 9).toNat = n := by omega
      rw [en] at hK
      exact hev _ (hK _ M)
    · show cl _ _ _ _
      refine hcl _ _ _ _ (z_opens (by omega) hs M hn1 (by omega) (fun σ' M' => ?_))
      refine hev _ ?_
      rw [e (by omega)]
      exact ih (n + 1) _ (by omega) (by omega) M'

theorem z_h2 {sea wind rain b : Int} {τ : q_S} {K : q_R → q_S → Prop} (hs : 0 ≤ sea ∧ sea ≤ 120) (hw : 0 ≤ wind ∧ wind ≤ 3) (h : y_S b τ) (hb : b ≤ 900000000)  (hK : ∀ σ', y_M σ' (y_meets sea wind τ (τ 17 9).toNat) → q_E L xs k_M_hour (39, [(2, 100), (0, sea), (0, wind), (0, rain), (0, 0)], [], σ') K) : ∀ (m n : Nat) (σ : q_S), τ 17 9 - (n : Int) < m → (n : Int) ≤ τ 17 9 → y_M σ (y_meets sea wind τ n) →
    q_E L xs k_M_hour (13, [(2, 100), (0, sea), (0, wind), (0, rain), (0, (n : Int))], [], σ) K := by
  intro m
  induction m with
  | zero => intro n; omega
  | succ m ih =>
    intro n σ hm hn M
    have h17 := S17 h
    have e13 : σ 100 13 = τ 17 9 := (Ms13 M).trans (F_meets (by unfold y_k; omega) n)
    have hn1 := S_meets h hs.2 hw n
    have st : (n : Int) < τ 17 9 → ∀ σ1 v, y_M σ1 (y_mu n sea wind (y_meets sea wind τ n)) → (20 ≤ sea - y_meets sea wind τ n 20 n → v = 1) → (¬ 20 ≤ sea - y_meets sea wind τ n 20 n → v = y_meets sea wind τ n 25 n) → y_M (q_up σ1 141 n v) (y_meets sea wind τ (n + 1)) := fun hlt σ1 v M1 v1 v2 => by
      show y_M _ (y_meet n sea wind (y_meets sea wind τ n))
      rw [y_mu_e hw hn1]
      by_cases c1 : 20 ≤ sea - y_meets sea wind τ n 20 n
      · rw [if_pos c1, v1 c1]
        exact M_up M1 (by simp [y_rel])
      · rw [if_neg c1, v2 c1]
        have z := M_up (v := y_meets sea wind τ n 25 n) M1 (show y_rel 141 n 25 n by simp [y_rel])
        rw [q_sf (σ := y_mu n sea wind (y_meets sea wind τ n)) (k := 25) (by rw [y_mu_25])] at z
        exact z
    have e : (n : Int) < 1000 → q_w32 ((n : Int) + 1) = ((n + 1 : Nat) : Int) := fun _ => by rw [q_w32_id] <;> omega
    refine q_go1 200 13 [2, 13, 39, 51, 80, 109] (fun cl ev hcl hev => ?_)
    refine And.intro (fun hq => ?_) (fun hq => ?_)
    · have en : (τ 17 9).toNat = n := by omega
      rw [en] at hK
      exact hev _ (hK _ M)
    · show cl _ _ _ _
      refine hcl _ _ _ _ (z_stands (by omega) hw hs M hn1 (by omega) (fun σ' M' => ?_))
      have e141 : σ' 141 n = y_meets sea wind τ n 25 n := (M141 M' n).trans y_mu_25
      have b25 := S25 hn1 n
      by_cases c1 : 20 ≤ sea - y_meets sea wind τ n 20 n
      · rw [if_pos c1]
        repeat' (first | refine And.intro ?_ ?_ | (intro hq; first | exact absurd hq (by decide) | exact absurd rfl hq | exact absurd hq (show ¬ (1 : Int) = 0 by decide) | exact absurd (show (1 : Int) ≠ 0 by decide) hq | skip))
        all_goals first
          | omega
          | (refine hev _ ?_
             rw [e (by omega)]
             exact ih (n + 1) _ (by omega) (by omega) (st (by omega) _ _ M' (fun _ => by omega) (fun z => absurd c1 z)))
      · rw [if_neg c1]
        repeat' (first | refine And.intro ?_ ?_ | (intro hq; first | exact absurd hq (by decide) | exact absurd rfl hq | exact absurd hq (show ¬ (1 : Int) = 0 by decide) | exact absurd (show (1 : Int) ≠ 0 by decide) hq | skip))
        all_goals first
          | omega
          | (refine hev _ ?_
             rw [e (by omega)]
             exact ih (n + 1) _ (by omega) (by omega) (st (by omega) _ _ M' (fun z => absurd z c1) (fun _ => by omega)))

theorem z_h1 {sea wind rain b : Int} {τ : q_S} {K : q_R → q_S → Prop} (hr : 0 ≤ rain ∧ rain ≤ 50) (h : y_S b τ) (hb : b ≤ 900000000)  (hK : ∀ σ', y_M σ' (q_up (y_rn rain τ 30) 1 5 ((τ 1 5 + 30 * rain) % 1000000)) → q_E L xs k_M_hour (13, [(2, 100), (0, sea), (0, wind), (0, rain), (0, 0)], [], σ') K) : ∀ (m n : Nat) (σ : q_S), 30 - (n : Int) < m → (n : Int) ≤ 30 → y_M σ (q_up (y_rn rain τ n) 1 5 ((τ 1 5 + (n : Int) * rain) % 1000000)) →
    q_E L xs k_M_hour (2, [(2, 100), (0, sea), (0, wind), (0, rain), (0, (n : Int))], [], σ) K := by
  intro m
  induction m with
  | zero => intro n; omega
  | succ m ih =>
    intro n σ hm hn M
    have h15 := S15 h
    have s1 : y_S (b + rain) (q_up (y_rn rain τ n) 1 5 ((τ 1 5 + (n : Int) * rain) % 1000000)) := S_up (S_rn h hr.1 n) (by unfold y_ok; omega)
    have st : (n : Int) < 30 → ∀ σ', y_M σ' (y_in (q_up (y_rn rain τ n) 1 5 ((τ 1 5 + (n : Int) * rain) % 1000000)) n rain) → y_M σ' (q_up (y_rn rain τ (n + 1)) 1 5 ((τ 1 5 + ((n + 1 : Nat) : Int) * rain) % 1000000)) := fun hlt σ' M' => by
      have ex : y_in (q_up (y_rn rain τ n) 1 5 ((τ 1 5 + (n : Int) * rain) % 1000000)) n rain = q_up (y_rn rain τ (n + 1)) 1 5 ((τ 1 5 + ((n + 1 : Nat) : Int) * rain) % 1000000) := by
        unfold y_in
        rw [q_ue, q_un (k' := 3) (by decide), q_cmm (by omega), q_uu]
        have en : ((τ 1 5 + (n : Int) * rain) % 1000000 + rain) % 1000000 = (τ 1 5 + ((n + 1 : Nat) : Int) * rain) % 1000000 := by
          have : ((n + 1 : Nat) : Int) * rain = (n : Int) * rain + rain := by rw [Int.natCast_add, Int.add_mul]; omega
          rw [this]
          omega
        rw [en]
        exact q_cmm (by omega)
      rw [ex] at M'
      exact M'
    have e : (n : Int) < 1000 → q_w32 ((n : Int) + 1) = ((n + 1 : Nat) : Int) := fun _ => by rw [q_w32_id] <;> omega
    refine q_go1 200 2 [2, 13, 39, 51, 80, 109] (fun cl ev hcl hev => ?_)
    refine And.intro (fun hq => ?_) (fun hq => ?_)
    · have en : n = 30 := by omega
      subst en
      exact hev _ (hK _ M)
    · show cl _ _ _ _
      refine hcl _ _ _ _ (z_comes (by omega) (by omega) M s1 (by omega) (fun σ' M' => ?_))
      refine hev _ ?_
      rw [e (by omega)]
      exact ih (n + 1) _ (by omega) (by omega) (st (by omega) _ M')

theorem z_hour {sea wind rain b : Int} {σ τ : q_S} {K : q_R → q_S → Prop} (hs : 0 ≤ sea ∧ sea ≤ 120) (hw : 0 ≤ wind ∧ wind ≤ 3) (hr : 0 ≤ rain ∧ rain ≤ 50) (M : y_M σ τ) (h : y_S b τ) (hb : b ≤ 890000000) (hK : ∀ σ', y_M σ' (y_hour sea wind rain τ) → K none σ') : q_K L xs i_M_hour [(2, 100), (0, sea), (0, wind), (0, rain)] σ K := by
  have h17 := S17 h
  have h27 := S27 h
  have s1 := S_rain h hr.1
  have e17 : y_rain rain τ 17 9 = τ 17 9 := F_rain (by unfold y_kk y_k; omega)
  have s2 := S_meets (sea := sea) s1 hs.2 hw (τ 17 9).toNat
  have e17b : y_meets sea wind (y_rain rain τ) (τ 17 9).toNat 17 9 = τ 17 9 := (F_meets (by unfold y_k; omega) _).trans e17
  have s3 := S_slus s2 hs (τ 17 9).toNat
  have s4 := S_P s3
  have s5 := S_pk (S_spr s4.1 s4.2 30).1 30
  have e27 : y_pk (y_spr (y_slus sea (y_meets sea wind (y_rain rain τ) (τ 17 9).toNat) (τ 17 9).toNat) 30) 30 27 2 = τ 27 2 := (F_pk (by unfold y_kk y_k; omega) _).trans ((F_spr (by unfold y_kk y_k; omega) _).trans ((F_slus (by unfold y_kk y_k; omega) _).trans ((F_meets (by unfold y_k; omega) _).trans (F_rain (by unfold y_kk y_k; omega)))))
  refine q_call k_M_hour 5 rfl ?_
  show q_E L xs k_M_hour (0, [(2, 100), (0, sea), (0, wind), (0, rain), (9, 0)], [], σ) K
  refine q_go1 200 0 [2] (fun cl ev hcl hev => ?_)
  refine hev _ (z_h1 hr h (by omega) (fun σ1 M1 => ?_) 31 0 σ (by omega) (by omega) ?_)
  · have M1' : y_M σ1 (y_rain rain τ) := by
      unfold y_rain
      rw [y_rn_o (by decide)]
      exact M1
    refine z_h2 hs hw s1 (by omega) (fun σ2 M2 => ?_) 30 0 σ1 (by omega) (by omega) M1'
    rw [e17] at M2
    refine z_h3 hs s2 (by omega) (fun σ3 M3 => ?_) 30 0 σ2 (by omega) (by omega) M2
    rw [e17b] at M3
    refine z_h4 s4.1 s4.2 (by omega) (fun σ4 M4 => ?_) 31 0 σ3 (by omega) (by omega) M3
    refine z_h5 (fun σ5 M5 => ?_) 31 0 σ4 (by omega) (by omega) M4
    refine z_h6 s5 (fun σ6 M6 => ?_) 30 0 σ5 (by omega) (by omega) M5
    rw [e27] at M6
    exact hK _ M6
  · have : q_up (y_rn rain τ 0) 1 5 ((τ 1 5 + ((0 : Nat) : Int) * rain) % 1000000) = τ := by
      have h15 := S15 h
      rw [show (τ 1 5 + ((0 : Nat) : Int) * rain) % 1000000 = τ 1 5 by rw [show ((0 : Nat) : Int) * rain = 0 by rw [Int.natCast_zero, Int.zero_mul]]; omega]
      exact q_sf rfl
    rw [this]
    exact M
end Z3

