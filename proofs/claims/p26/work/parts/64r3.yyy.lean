section Y4
variable {L : Nat} {xs : Int → Int}
theorem x_flow {a c v : Int} {b : Int} {σ : q_S} {K : q_R → q_S → Prop} (ha : 0 ≤ a ∧ a < 30) (hc : 0 ≤ c ∧ c < 30) (hv : 0 ≤ v) (h : y_S b σ) (hb : b ≤ 1000000000) (hK : K none (y_flow σ a c v)) : q_K L xs i_Land_flow [(2, 1), (0, a), (0, c), (0, v)] σ K := by
  have h3 := S3 h a
  have h4 := S3 h c
  have e1 : q_w32 (σ 3 a - min v (σ 3 a)) = σ 3 a - min v (σ 3 a) := by rw [q_w32_id] <;> omega
  have h5 : 0 ≤ q_up σ 3 a (σ 3 a - min v (σ 3 a)) 3 c ∧ q_up σ 3 a (σ 3 a - min v (σ 3 a)) 3 c ≤ b := S3 (S_up h (by unfold y_ok; omega)) c
  have e2 : q_w32 (q_up σ 3 a (σ 3 a - min v (σ 3 a)) 3 c + min v (σ 3 a)) = q_up σ 3 a (σ 3 a - min v (σ 3 a)) 3 c + min v (σ 3 a) := by rw [q_w32_id] <;> omega
  refine q_call k_Land_flow 5 rfl ?_
  show q_E L xs k_Land_flow (0, [(2, 1), (0, a), (0, c), (0, v), (9, 0)], [], σ) K
  refine q_go1 200 0 [] (fun cl ev hcl hev => ?_)
  repeat' (first | refine And.intro ?_ ?_ | (intro hq; first | exact absurd hq (by decide) | exact absurd rfl hq | exact absurd hq (show ¬ (1 : Int) = 0 by decide) | exact absurd (show (1 : Int) ≠ 0 by decide) hq | skip))
  all_goals first
    | omega
    | (refine q_ks hK ?_; unfold y_flow; rw [e1, e2])

theorem x_set {a c : Int} {b : Int} {σ : q_S} {K : q_R → q_S → Prop} (ha : 0 ≤ a ∧ a < 30) (hc : -1 ≤ c ∧ c < 30) (h : y_S b σ) (hb : b ≤ 1000000000) (hK : K none (y_set σ a c)) : q_K L xs i_Land_settle [(2, 1), (0, a), (0, c)] σ K := by
  have h3 := S3 h a
  have h4 := S3 h c
  have h5 := S2 h a
  have h6 := S2 h c
  have ea : q_w32 (q_w32 (q_w32 (100 * q_w32 (σ 2 a - σ 2 c)) + σ 3 a) - σ 3 c) = y_abv σ a c := by
    unfold y_abv
    rw [q_w32_id (x := σ 2 a - σ 2 c) (by omega) (by omega), q_w32_id (x := 100 * (σ 2 a - σ 2 c)) (by omega) (by omega), q_w32_id (x := 100 * (σ 2 a - σ 2 c) + σ 3 a) (by omega) (by omega), q_w32_id] <;> omega
  have hab : -1000010000 ≤ y_abv σ a c ∧ y_abv σ a c ≤ 1000010000 := by unfold y_abv; omega
  have e4 : 0 ≤ y_abv σ a c → q_w32 ((q_w32 (q_w32 (q_w32 (100 * q_w32 (σ 2 a - σ 2 c)) + σ 3 a) - σ 3 c)).tdiv 4) = y_abv σ a c / 4 := fun _ => by rw [ea, q_td (by omega), q_w32_id] <;> omega
  have e5 : y_abv σ a c < 0 → q_w32 ((q_w32 (-q_w32 (q_w32 (q_w32 (100 * q_w32 (σ 2 a - σ 2 c)) + σ 3 a) - σ 3 c))).tdiv 4) = -y_abv σ a c / 4 := fun _ => by rw [ea, q_w32_id (x := -y_abv σ a c) (by omega) (by omega), q_td (by omega), q_w32_id] <;> omega
  refine q_call k_Land_settle 4 rfl ?_
  show q_E L xs k_Land_settle (0, [(2, 1), (0, a), (0, c), (9, 0)], [], σ) K
  refine q_go1 200 0 [] (fun cl ev hcl hev => ?_)
  repeat' (first | refine And.intro ?_ ?_ | (intro hq; first | exact absurd hq (by decide) | exact absurd rfl hq | exact absurd hq (show ¬ (1 : Int) = 0 by decide) | exact absurd (show (1 : Int) ≠ 0 by decide) hq | skip) | (show cl _ _ _ _; first | refine hcl _ _ _ _ (x_flow (by omega) (by omega) (by omega) h hb ?_)))
  all_goals first
    | omega
    | (refine q_ks hK ?_; unfold y_set; rw [if_pos (by omega)])
    | (refine q_ks hK ?_; unfold y_set; rw [if_neg (by omega), if_pos (by omega), e4 (by omega)])
    | (refine q_ks hK ?_; unfold y_set; rw [if_neg (by omega), if_neg (by omega), e5 (by omega)])

theorem xl_spr {b : Int} {σ : q_S} {K : q_R → q_S → Prop} (h : ∀ n, y_S b (y_spr σ n)) (hb : b ≤ 1000000000) (hm2 : ∀ n : Nat, y_S b (y_set (y_spr σ n) n (q_bes n 1))) (hK : K none (y_spr σ 30)) : ∀ (m n : Nat), (30 : Int) - n < m → (n : Int) ≤ 30 →
    q_E L xs k_Land_spread (2, [(2, 1), (0, (n : Int))], [], y_spr σ n) K := by
  intro m
  induction m with
  | zero => intro n; omega
  | succ m ih =>
    intro n hm hn
    have e : q_w32 ((n : Int) + 1) = ((n + 1 : Nat) : Int) := by rw [q_w32_id] <;> omega
    have hbs := fun hc => q_bes_in (c := n) (w := 1) hc
    have hbs3 := fun hc => q_bes_in (c := n) (w := 3) hc
    have a1 : q_bes n 1 ≠ (n : Int) := (q_bes_ne (c := n) (w := 1)).elim (fun e => e) (fun e => by omega)
    refine q_go1 200 2 [2] (fun cl ev hcl hev => ?_)
    repeat' (first | refine And.intro ?_ ?_ | (intro hq; first | exact absurd hq (by decide) | exact absurd rfl hq | exact absurd hq (show ¬ (1 : Int) = 0 by decide) | exact absurd (show (1 : Int) ≠ 0 by decide) hq | skip) | (show cl _ _ _ _; first | refine hcl _ _ _ _ (c_Land_neighbour (by omega) (by omega) ?_) | refine hcl _ _ _ _ (x_set (by omega) (by omega) (h n) hb ?_) | refine hcl _ _ _ _ (x_set (by omega) (by omega) (hm2 n) hb ?_)))
    all_goals first
      | omega
      | (have en : n = 30 := by omega
         subst en
         exact hK)
      | (refine hev _ ?_; rw [e]; exact ih (n + 1) (by omega) (by omega))

theorem x_spr {b : Int} {σ : q_S} {K : q_R → q_S → Prop} (h : y_S b σ) (hP : y_P b σ) (hb : b ≤ 1000000000) (hK : K none (y_spr σ 30)) : q_K L xs i_Land_spread [(2, 1)] σ K := by
  refine q_call k_Land_spread 2 rfl ?_
  show q_E L xs k_Land_spread (0, [(2, 1), (9, 0)], [], σ) K
  refine q_go1 200 0 [2] (fun cl ev hcl hev => ?_)
  exact hev _ (xl_spr (fun n => (S_spr h hP n).1) hb (fun n => (S_set (S_spr h hP n).1 (S_spr h hP n).2 ((q_bes_ne (c := n) (w := 1)).elim (fun e => e) (fun e => by omega))).1) hK 31 0 (by omega) (by omega))

theorem xl_rain {v : Int} {b : Int} {σ : q_S} {K : q_R → q_S → Prop} (h : y_S b σ) (hb : b ≤ 1000000000) (hv : 0 ≤ v ∧ v ≤ 50) (hK : K none (y_rain v σ)) : ∀ (m n : Nat), (30 : Int) - n < m → (n : Int) ≤ 30 →
    q_E L xs k_Land_rainOnAll (2, [(2, 1), (0, v), (0, (n : Int))], [], y_rn v σ n) K := by
  intro m
  induction m with
  | zero => intro n; omega
  | succ m ih =>
    intro n hm hn
    have e : q_w32 ((n : Int) + 1) = ((n + 1 : Nat) : Int) := by rw [q_w32_id] <;> omega
    have h3 := S3 (S_rn h hv.1 n) n
    have h5 := S15 (S_rn h hv.1 30)
    have e1 : q_w32 (y_rn v σ n 3 n + v) = y_rn v σ n 3 n + v := by rw [q_w32_id] <;> omega
    have e3 : q_w32 (30 * v) = 30 * v := by rw [q_w32_id] <;> omega
    have e2 : (q_w32 (y_rn v σ 30 1 5 + q_w32 (30 * v))).tmod 1000000 = (y_rn v σ 30 1 5 + 30 * v) % 1000000 := by rw [e3, q_w32_id (by omega) (by omega), q_tm (by omega)]
    refine q_go1 200 2 [2] (fun cl ev hcl hev => ?_)
    repeat' (first | refine And.intro ?_ ?_ | (intro hq; first | exact absurd hq (by decide) | exact absurd rfl hq | exact absurd hq (show ¬ (1 : Int) = 0 by decide) | exact absurd (show (1 : Int) ≠ 0 by decide) hq | skip))
    all_goals first
      | omega
      | (have en : n = 30 := by omega
         subst en
         exact (by refine q_ks hK ?_; unfold y_rain; rw [e2]))
      | (refine hev _ ?_; rw [e]; rw [e1]; exact ih (n + 1) (by omega) (by omega))

theorem x_rain {v : Int} {b : Int} {σ : q_S} {K : q_R → q_S → Prop} (hv : 0 ≤ v ∧ v ≤ 50) (h : y_S b σ) (hb : b ≤ 1000000000) (hK : K none (y_rain v σ)) : q_K L xs i_Land_rainOnAll [(2, 1), (0, v)] σ K := by
  refine q_call k_Land_rainOnAll 3 rfl ?_
  show q_E L xs k_Land_rainOnAll (0, [(2, 1), (0, v), (9, 0)], [], σ) K
  refine q_go1 200 0 [2] (fun cl ev hcl hev => ?_)
  exact hev _ (xl_rain h hb hv hK 31 0 (by omega) (by omega))

theorem xl_pk {σ : q_S} {K : q_R → q_S → Prop} (hK : K none (y_pk σ 30)) : ∀ (m n : Nat), (30 : Int) - n < m → (n : Int) ≤ 30 →
    q_E L xs k_Land_notePeaks (2, [(2, 1), (0, (n : Int))], [], y_pk σ n) K := by
  intro m
  induction m with
  | zero => intro n; omega
  | succ m ih =>
    intro n hm hn
    have e : q_w32 ((n : Int) + 1) = ((n + 1 : Nat) : Int) := by rw [q_w32_id] <;> omega
    refine q_go1 200 2 [2] (fun cl ev hcl hev => ?_)
    repeat' (first | refine And.intro ?_ ?_ | (intro hq; first | exact absurd hq (by decide) | exact absurd rfl hq | exact absurd hq (show ¬ (1 : Int) = 0 by decide) | exact absurd (show (1 : Int) ≠ 0 by decide) hq | skip))
    all_goals first
      | omega
      | (have en : n = 30 := by omega
         subst en
         exact hK)
      | (refine hev _ ?_; rw [e]; exact ih (n + 1) (by omega) (by omega))

theorem x_pk {σ : q_S} {K : q_R → q_S → Prop} (hK : K none (y_pk σ 30)) : q_K L xs i_Land_notePeaks [(2, 1)] σ K := by
  refine q_call k_Land_notePeaks 2 rfl ?_
  show q_E L xs k_Land_notePeaks (0, [(2, 1), (9, 0)], [], σ) K
  refine q_go1 200 0 [2] (fun cl ev hcl hev => ?_)
  exact hev _ (xl_pk hK 31 0 (by omega) (by omega))

theorem xl_fill4 {v : Int} {σ : q_S} {K : q_R → q_S → Prop} (hK : K none (y_fill 4 v σ 30)) : ∀ (m n : Nat), (30 : Int) - n < m → (n : Int) ≤ 30 →
    q_E L xs k_Arrays_fillx (5, [(2, 4), (0, v), (0, (n : Int)), (0, 30)], [], y_fill 4 v σ n) K := by
  intro m
  induction m with
  | zero => intro n; omega
  | succ m ih =>
    intro n hm hn
    have e : q_w32 ((n : Int) + 1) = ((n + 1 : Nat) : Int) := by rw [q_w32_id] <;> omega
    refine q_go1 200 5 [5] (fun cl ev hcl hev => ?_)
    repeat' (first | refine And.intro ?_ ?_ | (intro hq; first | exact absurd hq (by decide) | exact absurd rfl hq | exact absurd hq (show ¬ (1 : Int) = 0 by decide) | exact absurd (show (1 : Int) ≠ 0 by decide) hq | skip))
    all_goals first
      | omega
      | (have en : n = 30 := by omega
         subst en
         exact hK)
      | (refine hev _ ?_; rw [e]; exact ih (n + 1) (by omega) (by omega))

theorem x_fill4 {v : Int} {σ : q_S} {K : q_R → q_S → Prop} (hK : K none (y_fill 4 v σ 30)) : q_K L xs i_Arrays_fillx [(2, 4), (0, v)] σ K := by
  refine q_call k_Arrays_fillx 4 rfl ?_
  show q_E L xs k_Arrays_fillx (0, [(2, 4), (0, v), (9, 0), (9, 0)], [], σ) K
  refine q_go1 200 0 [5] (fun cl ev hcl hev => ?_)
  exact hev _ (xl_fill4 hK 31 0 (by omega) (by omega))

theorem xl_fill25 {v : Int} {σ : q_S} {K : q_R → q_S → Prop} (hK : K none (y_fill 25 v σ 24)) : ∀ (m n : Nat), (24 : Int) - n < m → (n : Int) ≤ 24 →
    q_E L xs k_Arrays_fillx (5, [(2, 25), (0, v), (0, (n : Int)), (0, 24)], [], y_fill 25 v σ n) K := by
  intro m
  induction m with
  | zero => intro n; omega
  | succ m ih =>
    intro n hm hn
    have e : q_w32 ((n : Int) + 1) = ((n + 1 : Nat) : Int) := by rw [q_w32_id] <;> omega
    refine q_go1 200 5 [5] (fun cl ev hcl hev => ?_)
    repeat' (first | refine And.intro ?_ ?_ | (intro hq; first | exact absurd hq (by decide) | exact absurd rfl hq | exact absurd hq (show ¬ (1 : Int) = 0 by decide) | exact absurd (show (1 : Int) ≠ 0 by decide) hq | skip))
    all_goals first
      | omega
      | (have en : n = 24 := by omega
         subst en
         exact hK)
      | (refine hev _ ?_; rw [e]; exact ih (n + 1) (by omega) (by omega))

theorem x_fill25 {v : Int} {σ : q_S} {K : q_R → q_S → Prop} (hK : K none (y_fill 25 v σ 24)) : q_K L xs i_Arrays_fillx [(2, 25), (0, v)] σ K := by
  refine q_call k_Arrays_fillx 4 rfl ?_
  show q_E L xs k_Arrays_fillx (0, [(2, 25), (0, v), (9, 0), (9, 0)], [], σ) K
  refine q_go1 200 0 [5] (fun cl ev hcl hev => ?_)
  exact hev _ (xl_fill25 hK 31 0 (by omega) (by omega))

theorem x_begL {σ : q_S} {K : q_R → q_S → Prop} (hK : K none (q_up (y_fill 4 0 σ 30) 1 7 0)) : q_K L xs i_Land_beginTide [(2, 1)] σ K := by
  refine q_call k_Land_beginTide 1 rfl ?_
  show q_E L xs k_Land_beginTide (0, [(2, 1)], [], σ) K
  refine q_go1 200 0 [] (fun cl ev hcl hev => ?_)
  show cl _ _ _ _
  refine hcl _ _ _ _ (x_fill4 ?_)
  exact And.intro (by omega) hK
theorem x_begB {σ : q_S} {K : q_R → q_S → Prop} (hK : K none (y_fill 25 0 σ 24)) : q_K L xs i_Bank_beginTide [(2, 17)] σ K := by
  refine q_call k_Bank_beginTide 1 rfl ?_
  show q_E L xs k_Bank_beginTide (0, [(2, 17)], [], σ) K
  refine q_go1 200 0 [] (fun cl ev hcl hev => ?_)
  show cl _ _ _ _
  refine hcl _ _ _ _ (x_fill25 ?_)
  exact hK

theorem xl_end {σ : q_S} {K : q_R → q_S → Prop} (hK : K none (y_sl σ 30)) : ∀ (m n : Nat), (30 : Int) - n < m → (n : Int) ≤ 30 →
    q_E L xs k_Land_endTide (6, [(2, 1), (0, (n : Int))], [], y_sl σ n) K := by
  intro m
  induction m with
  | zero => intro n; omega
  | succ m ih =>
    intro n hm hn
    have e : q_w32 ((n : Int) + 1) = ((n + 1 : Nat) : Int) := by rw [q_w32_id] <;> omega
    refine q_go1 200 6 [6] (fun cl ev hcl hev => ?_)
    repeat' (first | refine And.intro ?_ ?_ | (intro hq; first | exact absurd hq (by decide) | exact absurd rfl hq | exact absurd hq (show ¬ (1 : Int) = 0 by decide) | exact absurd (show (1 : Int) ≠ 0 by decide) hq | skip))
    all_goals first
      | omega
      | (have en : n = 30 := by omega
         subst en
         exact hK)
      | (refine hev _ ?_; rw [e]; exact ih (n + 1) (by omega) (by omega))

theorem x_end {σ : q_S} {K : q_R → q_S → Prop} (hK : K none (y_end σ)) : q_K L xs i_Land_endTide [(2, 1)] σ K := by
  refine q_call k_Land_endTide 2 rfl ?_
  show q_E L xs k_Land_endTide (0, [(2, 1), (9, 0)], [], σ) K
  refine q_go1 200 0 [6] (fun cl ev hcl hev => ?_)
  refine And.intro (fun hq => ?_) (fun hq => ?_)
  · refine hev _ (xl_end ?_ 31 0 (by omega) (by omega))
    unfold y_end at hK
    rw [if_neg (by omega)] at hK
    exact hK
  · unfold y_end at hK
    rw [if_pos (by omega)] at hK
    exact hK

theorem xl_ref {c : Int} {σ : q_S} {K : q_R → q_S → Prop} (hc : 0 ≤ c ∧ c < 30) (hK : K (some (0, y_ref σ c 4)) σ) :
    ∀ (m n : Nat) (y : Int) (u : Nat), (4 : Int) - n < m → (n : Int) ≤ 4 → q_E L xs k_Land_refuge (4, [(2, 1), (0, c), (0, y_ref σ c n), (0, (n : Int)), (u, y)], [], σ) K := by
  intro m
  induction m with
  | zero => intro n; omega
  | succ m ih =>
    intro n y u hm hn
    have e : q_w32 ((n : Int) + 1) = ((n + 1 : Nat) : Int) := by rw [q_w32_id] <;> omega
    have hbs := q_bes_in (c := c) (w := n) hc
    have hrf := y_ref_in (σ := σ) hc n
    have st : ∀ x y u, x = y_ref σ c (n + 1) → (n : Int) < 4 → q_E L xs k_Land_refuge (4, [(2, 1), (0, c), (0, x), (0, q_w32 ((n : Int) + 1)), (u, y)], [], σ) K := fun x y u ex hlt => by
      rw [e, ex]
      exact ih (n + 1) y u (by omega) (by omega)
    refine q_go1 120 4 [4] (fun cl ev hcl hev => ?_)
    repeat' (first | refine And.intro ?_ ?_ | (intro hq; first | exact absurd hq (by decide) | exact absurd rfl hq | exact absurd hq (show ¬ (1 : Int) = 0 by decide) | exact absurd (show (1 : Int) ≠ 0 by decide) hq | skip) | refine hcl _ _ _ _ (c_Land_neighbour hc (by omega) ?_) | refine hcl _ _ _ _ (c_Land_isShut hc (by omega) ?_ ?_))
    all_goals first
      | omega
      | (have en : n = 4 := by omega
         subst en
         exact hK)
      | (refine hev _ (st _ _ _ ?_ (by omega))
         show _ = if q_bes c n ≠ -1 ∧ (q_gb c (q_bes c n) ≠ -1 ∧ σ 6 (q_gb c (q_bes c n)) = 0) ∧ σ 3 (q_bes c n) < σ 3 (y_ref σ c n) then q_bes c n else y_ref σ c n
         first
           | rw [if_pos (by omega)]
           | rw [if_neg (by omega)])
theorem x_ref {c : Int} {σ : q_S} {K : q_R → q_S → Prop} (hc : 0 ≤ c ∧ c < 30) (hK : K (some (0, y_ref σ c 4)) σ) : q_K L xs i_Land_refuge [(2, 1), (0, c)] σ K := by
  refine q_call k_Land_refuge 5 rfl ?_
  show q_E L xs k_Land_refuge (0, [(2, 1), (0, c), (9, 0), (9, 0), (9, 0)], [], σ) K
  refine q_go1 120 0 [4] (fun cl ev hcl hev => ?_)
  exact hev _ (xl_ref hc hK 5 0 _ _ (by omega) (by omega))

theorem y_fls_27 {σ : q_S} : ∀ n : Nat, y_fls σ n 27 2 = σ 27 2
  | 0 => rfl
  | n + 1 => by
    unfold y_fls y_fl
    split
    · exact y_fls_27 n
    · rw [q_un (by decide)]
      unfold y_f1
      split
      · rw [q_un (by decide)]; exact y_fls_27 n
      · exact y_fls_27 n
theorem xl_fls {b : Int} {σ : q_S} {K : q_R → q_S → Prop} (h : y_S b σ) (hK : K none (y_fls σ (σ 27 2).toNat)) : ∀ (m n : Nat), (σ 27 2) - n < m → (n : Int) ≤ σ 27 2 →
    q_E L xs k_Herds_flee (2, [(2, 27), (2, 1), (0, (n : Int))], [], y_fls σ n) K := by
  intro m
  induction m with
  | zero => intro n; omega
  | succ m ih =>
    intro n hm hn
    have h27 := S27 h
    have e27 := y_fls_27 (σ := σ) n
    have hn1 := S_fls h n
    have e : q_w32 ((n : Int) + 1) = ((n + 1 : Nat) : Int) := by rw [q_w32_id] <;> omega
    have hp := S28 hn1 n
    have hrf := y_ref_in (σ := y_fls σ n) hp 4
    have st : ∀ τ, τ = y_fl n (y_fls σ n) → (n : Int) < σ 27 2 → q_E L xs k_Herds_flee (2, [(2, 27), (2, 1), (0, q_w32 ((n : Int) + 1))], [], τ) K := fun τ eτ hlt => by
      rw [e, eτ]
      exact ih (n + 1) (by omega) (by omega)
    have u28 : ∀ v, q_up (y_fls σ n) 28 n v 28 n = v := fun v => q_ue
    refine q_go1 200 2 [2] (fun cl ev hcl hev => ?_)
    repeat' (first | refine And.intro ?_ ?_ | (intro hq; first | exact absurd hq (by decide) | exact absurd rfl hq | exact absurd hq (show ¬ (1 : Int) = 0 by decide) | exact absurd (show (1 : Int) ≠ 0 by decide) hq | skip) | (show cl _ _ _ _; refine hcl _ _ _ _ (x_ref hp ?_)))
    all_goals first
      | omega
      | (rw [u28]; omega)
      | (rw [show (σ 27 2).toNat = n by omega] at hK; exact hK)
      | (refine hev _ (st _ ?_ (by omega))
         unfold y_fl y_f1
         first
           | (rw [if_pos (by omega)]; done)
           | (rw [if_neg (by omega), if_pos (by omega), if_pos (by omega)]; done)
           | (rw [if_neg (by omega), if_pos (by omega), if_neg (by omega)]; done)
           | (rw [if_neg (by omega), if_neg (by omega), if_pos (by omega)]; done)
           | (rw [if_neg (by omega), if_neg (by omega), if_neg (by omega)]; done))
theorem x_fls {b : Int} {σ : q_S} {K : q_R → q_S → Prop} (h : y_S b σ) (hK : K none (y_fls σ (σ 27 2).toNat)) : q_K L xs i_Herds_flee [(2, 27), (2, 1)] σ K := by
  have h27 := S27 h
  refine q_call k_Herds_flee 3 rfl ?_
  show q_E L xs k_Herds_flee (0, [(2, 27), (2, 1), (9, 0)], [], σ) K
  refine q_go1 200 0 [2] (fun cl ev hcl hev => ?_)
  exact hev _ (xl_fls h hK 7 0 (by omega) (by omega))
end Y4

