section Z4
variable {σ τ : q_S} {b : Int}
theorem y_fill_cm {k v a j w : Int} (h : a ≠ k) : ∀ n : Nat, y_fill k v (q_up σ a j w) n = q_up (y_fill k v σ n) a j w
  | 0 => rfl
  | n + 1 => by
    unfold y_fill
    rw [y_fill_cm h n]
    exact q_cmm (by omega)
theorem y_fill_v {k v : Int} : ∀ (n : Nat) (i : Int), 0 ≤ i → i < n → y_fill k v σ n k i = v
  | 0, i, h0, h1 => by omega
  | n + 1, i, h0, h1 => by
    unfold y_fill
    by_cases e : i = n
    · rw [e, q_ue]
    · rw [q_ui e]; exact y_fill_v n i h0 (by omega)
theorem y_sl_17 : ∀ n : Nat, y_sl τ n 1 7 = τ 1 7
  | 0 => rfl
  | n + 1 => (q_un (by decide)).trans (y_sl_17 n)
theorem B_meet {r sea wind i : Int} (hi : i ≠ r) : y_meet r sea wind τ 25 i = τ 25 i := by
  unfold y_meet
  split
  · unfold y_brk y_wear
    rw [q_ui hi, q_un (by decide), q_un (by decide), q_un (by decide)]
    exact F_m1 (Or.inl rfl)
  · split
    · unfold y_wear
      rw [q_un (by decide), q_un (by decide)]
      exact F_m1 (Or.inl rfl)
    · exact F_m1 (Or.inl rfl)
theorem B_meets {sea wind i : Int} : ∀ n : Nat, (n : Int) ≤ i → y_meets sea wind τ n 25 i = τ 25 i
  | 0, _ => rfl
  | n + 1, h => (B_meet (by omega)).trans (B_meets n (by omega))
theorem B_hour {sea wind rain i : Int} (hn : 0 ≤ τ 17 9) (hi : τ 17 9 ≤ i) : y_hour sea wind rain τ 25 i = τ 25 i :=
  (F_fls (Or.inl rfl) _).trans ((F_pk (Or.inl rfl) _).trans ((F_spr (Or.inl rfl) _).trans ((F_slus (Or.inl rfl) _).trans ((B_meets _ (by omega)).trans (F_rain (Or.inl rfl))))))
theorem B_hrs {high wind rain i : Int} (hn : 0 ≤ τ 17 9) (hi : τ 17 9 ≤ i) : ∀ n : Nat, y_hrs high wind rain τ n 25 i = τ 25 i
  | 0 => rfl
  | n + 1 => by
    have e : y_hrs high wind rain τ n 17 9 = τ 17 9 := F_hrs (by unfold y_k; omega) n
    exact (B_hour (by omega) (by omega)).trans (B_hrs hn hi n)
theorem B_td {high wind rain i : Int} (hn : 0 ≤ τ 17 9) (hi : τ 17 9 ≤ i) (h24 : i < 24) : y_td high wind rain τ 25 i = 0 := by
  have e : y_beg τ 17 9 = τ 17 9 := F_beg (by unfold y_k; omega)
  exact (F_end (Or.inl rfl)).trans ((B_hrs (by omega) (by omega) 6).trans (y_fill_v 24 i (by omega) h24))
theorem y_bs_0 {N : Nat} : ∀ n : Nat, N ≤ n → (∀ i : Int, N ≤ i → i < n → τ 25 i = 0) → y_bs τ n = y_bs τ N
  | 0, h, _ => by have : N = 0 := by omega
                  subst this; rfl
  | n + 1, h, hz => by
    by_cases e : N = n + 1
    · rw [e]
    · have eb : y_bs τ (n + 1) = y_bs τ n + τ 25 n := rfl
      rw [eb, y_bs_0 n (by omega) (fun i h0 h1 => hz i h0 (by omega)), hz n (by omega) (by omega)]
      omega
theorem S_yr (h : y_S b σ) : ∀ n : Nat, y_S b (y_yr σ n)
  | 0 => h
  | n + 1 => S_up (S_yr h n) (by
      have h5 := S5 (S_yr h n) n
      have e : q_w32 (y_yr σ n 5 n - 1) = y_yr σ n 5 n - 1 := by rw [q_w32_id] <;> omega
      rw [e]
      unfold y_ok
      omega)
theorem F_yr {k i : Int} (hk : k ≠ 5) : ∀ n : Nat, y_yr σ n k i = σ k i
  | 0 => rfl
  | n + 1 => (q_un hk).trans (F_yr hk n)
end Z4
section Z5
variable {L : Nat} {xs : Int → Int}

theorem z_t1 {high wind rain : Int} {τ : q_S} {K : q_R → q_S → Prop} (hK : ∀ σ', y_M σ' (y_fill 4 0 τ 30) → q_E L xs k_M_tide (40, [(2, 100), (0, high), (0, wind), (0, rain), (0, 0), (9, 0)], [], σ') K) : ∀ (m n : Nat) (σ : q_S), (30 : Int) - n < m → (n : Int) ≤ 30 → y_M σ (y_fill 4 0 τ n) →
    q_E L xs k_M_tide (28, [(2, 100), (0, high), (0, wind), (0, rain), (0, (n : Int)), (9, 0)], [], σ) K := by
  intro m
  induction m with
  | zero => intro n; omega
  | succ m ih =>
    intro n σ hm hn M
    have e : (n : Int) < 1000 → q_w32 ((n : Int) + 1) = ((n + 1 : Nat) : Int) := fun _ => by rw [q_w32_id] <;> omega
    refine q_go1 200 28 [28, 40, 52, 69, 110, 126] (fun cl ev hcl hev => ?_)
    refine And.intro (fun hq => ?_) (fun hq => ?_)
    · have en : n = 30 := by omega
      subst en
      exact hev _ (hK _ M)
    · repeat' (first | refine And.intro ?_ ?_ | (intro hq; first | exact absurd hq (by decide) | exact absurd rfl hq | exact absurd hq (show ¬ (1 : Int) = 0 by decide) | exact absurd (show (1 : Int) ≠ 0 by decide) hq | skip))
      all_goals first
        | omega
        | (refine hev _ ?_
           rw [e (by omega)]
           exact ih (n + 1) _ (by omega) (by omega) (M_up M (by simp [y_rel])))

theorem z_t2 {high wind rain : Int} {τ : q_S} {K : q_R → q_S → Prop} (hK : ∀ σ', y_M σ' (y_fill 25 0 τ 24) → q_E L xs k_M_tide (52, [(2, 100), (0, high), (0, wind), (0, rain), (0, 0), (9, 0)], [], σ') K) : ∀ (m n : Nat) (σ : q_S), (24 : Int) - n < m → (n : Int) ≤ 24 → y_M σ (y_fill 25 0 τ n) →
    q_E L xs k_M_tide (40, [(2, 100), (0, high), (0, wind), (0, rain), (0, (n : Int)), (9, 0)], [], σ) K := by
  intro m
  induction m with
  | zero => intro n; omega
  | succ m ih =>
    intro n σ hm hn M
    have e : (n : Int) < 1000 → q_w32 ((n : Int) + 1) = ((n + 1 : Nat) : Int) := fun _ => by rw [q_w32_id] <;> omega
    refine q_go1 200 40 [28, 40, 52, 69, 110, 126] (fun cl ev hcl hev => ?_)
    refine And.intro (fun hq => ?_) (fun hq => ?_)
    · have en : n = 24 := by omega
      subst en
      exact hev _ (hK _ M)
    · repeat' (first | refine And.intro ?_ ?_ | (intro hq; first | exact absurd hq (by decide) | exact absurd rfl hq | exact absurd hq (show ¬ (1 : Int) = 0 by decide) | exact absurd (show (1 : Int) ≠ 0 by decide) hq | skip))
      all_goals first
        | omega
        | (refine hev _ ?_
           rw [e (by omega)]
           exact ih (n + 1) _ (by omega) (by omega) (M_up M (by simp [y_rel])))

theorem z_t3 {high wind rain b : Int} {τ : q_S} {K : q_R → q_S → Prop} (hh : 0 ≤ high ∧ high ≤ 120) (hw : 0 ≤ wind ∧ wind ≤ 3) (hr : 0 ≤ rain ∧ rain ≤ 50) (h : y_S b τ) (hb : b ≤ 800000000) (hK : ∀ σ', y_M σ' (y_hrs high wind rain τ 6) → q_E L xs k_M_tide (69, [(2, 100), (0, high), (0, wind), (0, rain), (0, 0), (9, 0)], [], σ') K) : ∀ (m n : Nat) (σ : q_S), (6 : Int) - n < m → (n : Int) ≤ 6 → y_M σ (y_hrs high wind rain τ n) →
    q_E L xs k_M_tide (52, [(2, 100), (0, high), (0, wind), (0, rain), (0, (n : Int)), (9, 0)], [], σ) K := by
  intro m
  induction m with
  | zero => intro n; omega
  | succ m ih =>
    intro n σ hm hn M
    have e : (n : Int) < 1000 → q_w32 ((n : Int) + 1) = ((n + 1 : Nat) : Int) := fun _ => by rw [q_w32_id] <;> omega
    have hn1 := fun h6 => S_hrs h hh hw hr n h6
    have ehi : (n : Int) < 6 → q_w32 ((q_w32 (high * (if (n : Int) < 3 then q_w32 ((n : Int) + 2) else q_w32 (6 - (n : Int))))).tdiv 4) = high * y_qu n / 4 := fun hlt => by
      have hq := y_qu_in hh (h := n) (by omega)
      rw [show (if (n : Int) < 3 then q_w32 ((n : Int) + 2) else q_w32 (6 - (n : Int))) = y_qu n from by unfold y_qu; split <;> (rw [q_w32_id] <;> omega)]
      rw [q_w32_id (x := high * y_qu n) (by omega) (by omega), q_td (by omega), q_w32_id] <;> omega
    refine q_go1 200 52 [28, 40, 52, 69, 110, 126] (fun cl ev hcl hev => ?_)
    refine And.intro (fun hq => ?_) (fun hq => ?_)
    · have en : n = 6 := by omega
      subst en
      exact hev _ (hK _ M)
    · show cl _ _ _ _
      refine hcl _ _ _ _ (c_M_quarters ?_)
      refine And.intro (by omega) ?_
      show cl _ _ _ _
      refine hcl _ _ _ _ ?_
      rw [ehi (by omega)]
      refine z_hour (y_qu_in hh (by omega)) hw hr M (hn1 (by omega)) (by omega) (fun σ' M' => ?_)
      refine hev _ ?_
      rw [e (by omega)]
      exact ih (n + 1) _ (by omega) (by omega) M'

theorem z_t4 {high wind rain : Int} {τ : q_S} {K : q_R → q_S → Prop} (h7 : τ 1 7 ≠ 0) (hK : ∀ σ' x y u, y_M σ' (y_sl τ 30) → q_E L xs k_M_tide (110, [(2, 100), (0, high), (0, wind), (0, rain), (0, x), (u, y)], [], σ') K) : ∀ (m n : Nat) (σ : q_S) (y : Int) (u : Nat), (30 : Int) - n < m → (n : Int) ≤ 30 → y_M σ (y_sl τ n) →
    q_E L xs k_M_tide (69, [(2, 100), (0, high), (0, wind), (0, rain), (0, (n : Int)), (u, y)], [], σ) K := by
  intro m
  induction m with
  | zero => intro n; omega
  | succ m ih =>
    intro n σ y u hm hn M
    have e : (n : Int) < 1000 → q_w32 ((n : Int) + 1) = ((n + 1 : Nat) : Int) := fun _ => by rw [q_w32_id] <;> omega
    have e51 : σ 100 51 = τ 1 7 := (Ms51 M).trans (y_sl_17 n)
    have e3 := M103 M n
    have e4 := M104 M n
    have st : ∀ v, v = max (y_sl τ n 5 n) (min 9 (q_w32 ((y_sl τ n 4 n).tdiv 200))) → y_M (q_up σ 104 n v) (y_sl τ (n + 1)) := fun v hv => by
      rw [hv]
      exact M_up M (by simp [y_rel])
    have e5 : q_w32 ((σ 103 n).tdiv 200) = q_w32 ((y_sl τ n 4 n).tdiv 200) := by rw [e3]
    refine q_go1 200 69 [28, 40, 52, 69, 110, 126] (fun cl ev hcl hev => ?_)
    refine And.intro (fun hq => ?_) (fun hq => ?_)
    · have en : n = 30 := by omega
      subst en
      exact hev _ (hK _ _ _ _ M)
    · repeat' (first | refine And.intro ?_ ?_ | (intro hq; first | exact absurd hq (by decide) | exact absurd rfl hq | exact absurd hq (show ¬ (1 : Int) = 0 by decide) | exact absurd (show (1 : Int) ≠ 0 by decide) hq | skip))
      all_goals first
        | omega
        | (refine hev _ ?_
           rw [e (by omega)]
           exact ih (n + 1) _ _ _ (by omega) (by omega) (st _ (by omega)))
theorem z_t4e {high wind rain : Int} {σ τ : q_S} {K : q_R → q_S → Prop} (M : y_M σ τ) (hK : ∀ σ' x y u, y_M σ' (y_end τ) → q_E L xs k_M_tide (110, [(2, 100), (0, high), (0, wind), (0, rain), (0, x), (u, y)], [], σ') K) : q_E L xs k_M_tide (69, [(2, 100), (0, high), (0, wind), (0, rain), (0, 0), (9, 0)], [], σ) K := by
  by_cases h7 : τ 1 7 = 0
  · have e51 : σ 100 51 = τ 1 7 := Ms51 M
    have hK := hK σ
    unfold y_end at hK
    rw [if_pos h7] at hK
    refine q_go1 200 69 [28, 40, 52, 69, 110, 126] (fun cl ev hcl hev => ?_)
    refine And.intro (fun hq => by omega) (fun hq => ?_)
    refine And.intro (fun hq => hev _ (hK _ _ _ M)) (fun hq => by omega)
  · unfold y_end at hK
    rw [if_neg h7] at hK
    exact z_t4 h7 hK 31 0 σ _ _ (by omega) (by omega) M
theorem z_t5 {high wind rain b : Int} {σ τ : q_S} {K : q_R → q_S → Prop} (M : y_M σ τ) (h : y_S b τ) (hK : K (some (0, y_bs τ (τ 17 9).toNat)) σ) : ∀ (m n : Nat), τ 17 9 - n < m → (n : Int) ≤ τ 17 9 →
    q_E L xs k_M_tide (126, [(2, 100), (0, high), (0, wind), (0, rain), (0, y_bs τ n), (0, (n : Int))], [], σ) K := by
  intro m
  induction m with
  | zero => intro n; omega
  | succ m ih =>
    intro n hm hn
    have h17 := S17 h
    have h1 := y_bs_in h n
    have h2 := S25 h n
    have e13 := Ms13 M
    have e141 := M141 M n
    have eb : y_bs τ (n + 1) = y_bs τ n + τ 25 n := rfl
    have e : (n : Int) < 1000 → q_w32 ((n : Int) + 1) = ((n + 1 : Nat) : Int) := fun _ => by rw [q_w32_id] <;> omega
    have st : ∀ x, (n : Int) < τ 17 9 → q_w32 x = y_bs τ (n + 1) → q_E L xs k_M_tide (126, [(2, 100), (0, high), (0, wind), (0, rain), (0, q_w32 x), (0, q_w32 ((n : Int) + 1))], [], σ) K := fun x hlt ex => by
      rw [e (by omega), ex]
      exact ih (n + 1) (by omega) (by omega)
    refine q_go1 200 126 [28, 40, 52, 69, 110, 126] (fun cl ev hcl hev => ?_)
    refine And.intro (fun hq => ?_) (fun hq => ?_)
    · have en : (τ 17 9).toNat = n := by omega
      rw [en] at hK
      exact hK
    · repeat' (first | refine And.intro ?_ ?_ | (intro hq; first | exact absurd hq (by decide) | exact absurd rfl hq | exact absurd hq (show ¬ (1 : Int) = 0 by decide) | exact absurd (show (1 : Int) ≠ 0 by decide) hq | skip))
      all_goals first
        | omega
        | (refine hev _ (st _ (by omega) ?_)
           rw [eb, q_w32_id] <;> omega)
theorem z_tide {high wind rain b : Int} {σ τ : q_S} {K : q_R → q_S → Prop} (M : y_M σ τ) (h : y_S b τ) (hb : b ≤ 800000000) (hK2 : ¬ (0 ≤ high ∧ high ≤ 120 ∧ 0 ≤ wind ∧ wind ≤ 3 ∧ 0 ≤ rain ∧ rain ≤ 50) → K (some (0, -2)) σ) (hK4 : (0 ≤ high ∧ high ≤ 120 ∧ 0 ≤ wind ∧ wind ≤ 3 ∧ 0 ≤ rain ∧ rain ≤ 50) → τ 0 10 = 9999 → K (some (0, -4)) σ) (hK : (0 ≤ high ∧ high ≤ 120 ∧ 0 ≤ wind ∧ wind ≤ 3 ∧ 0 ≤ rain ∧ rain ≤ 50) → τ 0 10 ≠ 9999 → ∀ σ', y_M σ' (y_A high wind rain τ) → K (some (0, y_bs (y_td high wind rain τ) 24)) σ') : q_K L xs i_M_tide [(2, 100), (0, high), (0, wind), (0, rain)] σ K := by
  have h17 := S17 h
  have e25 := Ms25 M
  have e26 := Ms26 M
  have tail : (0 ≤ high ∧ high ≤ 120 ∧ 0 ≤ wind ∧ wind ≤ 3 ∧ 0 ≤ rain ∧ rain ≤ 50) → τ 0 10 ≠ 9999 → ∀ σ' x y u, y_M σ' (y_td high wind rain τ) → q_E L xs k_M_tide (110, [(2, 100), (0, high), (0, wind), (0, rain), (0, x), (u, y)], [], σ') K := fun hh hd σ' x y u M' => by
    have hS := S_td h (⟨hh.1, hh.2.1⟩ : 0 ≤ high ∧ high ≤ 120) (⟨hh.2.2.1, hh.2.2.2.1⟩ : 0 ≤ wind ∧ wind ≤ 3) hh.2.2.2.2
    have d25 : σ' 100 25 = τ 0 10 := (Ms25 M').trans (F_td (by unfold y_k; omega))
    have d26 : σ' 100 26 = τ 0 11 := (Ms26 M').trans (F_td (by unfold y_k; omega))
    have MA : y_M (q_up (q_up σ' 100 25 (q_w32 (σ' 100 25 + 1))) 100 26 (q_w32 (σ' 100 26 + 1))) (y_A high wind rain τ) := by
      unfold y_A
      rw [d25, d26]
      exact M_up (M_up M' (by simp [y_rel])) (by simp [y_rel])
    have hSA : y_S (b + 300000) (y_A high wind rain τ) := S_fr (S_fr hS (by omega)) (by omega)
    have eb : ∀ n, y_bs (y_A high wind rain τ) n = y_bs (y_td high wind rain τ) n := y_bs_c (fun i => (q_un (by decide)).trans (q_un (by decide)))
    have e17 : y_A high wind rain τ 17 9 = τ 17 9 := (q_un (by decide)).trans ((q_un (by decide)).trans (F_td (by unfold y_k; omega)))
    have ez : y_bs (y_td high wind rain τ) 24 = y_bs (y_A high wind rain τ) (y_A high wind rain τ 17 9).toNat := by
      rw [eb, e17]
      exact y_bs_0 24 (by omega) (fun i h0 h1 => B_td (by omega) (by omega) (by omega))
    have hK := hK hh hd _ MA
    rw [ez] at hK
    refine q_go1 200 110 [126] (fun cl ev hcl hev => ?_)
    refine hev _ ?_
    rw [q_ui (show (26 : Int) ≠ 25 by decide)]
    exact z_t5 MA hSA hK 30 0 (by omega) (by omega)
  refine q_call k_M_tide 6 rfl ?_
  show q_E L xs k_M_tide (0, [(2, 100), (0, high), (0, wind), (0, rain), (9, 0), (9, 0)], [], σ) K
  refine q_go1 200 0 [28] (fun cl ev hcl hev => ?_)
  have go : (0 ≤ high ∧ high ≤ 120 ∧ 0 ≤ wind ∧ wind ≤ 3 ∧ 0 ≤ rain ∧ rain ≤ 50) → τ 0 10 ≠ 9999 → q_E L xs k_M_tide (28, [(2, 100), (0, high), (0, wind), (0, rain), (0, 0), (9, 0)], [], q_up σ 100 51 0) K := fun hh hd => by
    refine z_t1 (τ := q_up τ 1 7 0) (fun σ1 M1 => ?_) 31 0 _ (by omega) (by omega) (M_up M (by simp [y_rel]))
    rw [y_fill_cm (by decide)] at M1
    refine z_t2 (τ := q_up (y_fill 4 0 τ 30) 1 7 0) (fun σ2 M2 => ?_) 25 0 _ (by omega) (by omega) M1
    refine z_t3 (τ := y_beg τ) ⟨hh.1, hh.2.1⟩ ⟨hh.2.2.1, hh.2.2.2.1⟩ hh.2.2.2.2 (S_beg h) hb (fun σ3 M3 => ?_) 7 0 _ (by omega) (by omega) M2
    exact z_t4e M3 (tail hh hd)
  repeat' (first | refine And.intro ?_ ?_ | (intro hq; first | exact absurd hq (by decide) | exact absurd rfl hq | exact absurd hq (show ¬ (1 : Int) = 0 by decide) | exact absurd (show (1 : Int) ≠ 0 by decide) hq | skip) | refine hcl _ _ _ _ (c_M_in ?_ ?_))
  all_goals first
    | omega
    | exact hK2 (by omega)
    | exact hK4 (by omega) (by omega)
    | exact hev _ (go (by omega) (by omega))
theorem zl_yr {b : Int} {τ : q_S} {K : q_R → q_S → Prop} (h : y_S b τ) (hK : ∀ σ', y_M σ' (y_yr τ 30) → K (some (0, y_yc τ 30)) σ') : ∀ (m n : Nat) (σ : q_S), (30 : Int) - n < m → (n : Int) ≤ 30 → y_M σ (y_yr τ n) →
    q_E L xs k_M_year (4, [(2, 100), (0, y_yc τ n), (0, (n : Int))], [], σ) K := by
  intro m
  induction m with
  | zero => intro n; omega
  | succ m ih =>
    intro n σ hm hn M
    have h1 := y_yc_in (σ := τ) n
    have h5 := S5 (S_yr h n) n
    have e4 := M104 M n
    have ew : q_w32 (y_yr τ n 5 n - 1) = y_yr τ n 5 n - 1 := by rw [q_w32_id] <;> omega
    have e : (n : Int) < 1000 → q_w32 ((n : Int) + 1) = ((n + 1 : Nat) : Int) := fun _ => by rw [q_w32_id] <;> omega
    have u5 : y_yr τ (n + 1) 5 n = max 0 (q_w32 (y_yr τ n 5 n - 1)) := q_ue
    have st : ∀ v, v = max 0 (q_w32 (y_yr τ n 5 n - 1)) → y_M (q_up σ 104 n v) (y_yr τ (n + 1)) := fun v hv => by
      rw [hv]
      exact M_up M (by simp [y_rel])
    have u4 : ∀ v, q_up σ 104 n v 104 n = v := fun v => q_ue
    have w1 : q_w32 (σ 104 n - 1) = σ 104 n - 1 := by rw [q_w32_id] <;> omega
    have w0 : q_w32 (σ 104 n - 0) = σ 104 n := by rw [q_w32_id] <;> omega
    have c1 : 0 < y_yr τ (n + 1) 5 n → q_w32 (y_yc τ n + 1) = y_yc τ (n + 1) := fun z => by
      show _ = y_yc τ n + (if 0 < y_yr τ (n + 1) 5 n then 1 else 0)
      rw [if_pos z, q_w32_id] <;> omega
    have c0 : ¬ 0 < y_yr τ (n + 1) 5 n → q_w32 (y_yc τ n + 0) = y_yc τ (n + 1) := fun z => by
      show _ = y_yc τ n + (if 0 < y_yr τ (n + 1) 5 n then 1 else 0)
      rw [if_neg z, q_w32_id] <;> omega
    refine q_go1 200 4 [4] (fun cl ev hcl hev => ?_)
    refine And.intro (fun hq => ?_) (fun hq => ?_)
    · have en : n = 30 := by omega
      subst en
      exact hK _ M
    · repeat' (first | refine And.intro ?_ ?_ | (intro hq; first | exact absurd hq (by decide) | exact absurd rfl hq | exact absurd hq (show ¬ (1 : Int) = 0 by decide) | exact absurd (show (1 : Int) ≠ 0 by decide) hq | skip))
      all_goals (try simp only [u4] at *)
      all_goals first
        | omega
        | (refine hev _ ?_
           first | rw [c1 (by omega)] | rw [c0 (by omega)]
           rw [e (by omega)]
           exact ih (n + 1) _ (by omega) (by omega) (st _ (by omega)))
theorem z_yr {b : Int} {σ τ : q_S} {K : q_R → q_S → Prop} (M : y_M σ τ) (h : y_S b τ) (hK : ∀ σ', y_M σ' (y_yr τ 30) → K (some (0, y_yc τ 30)) σ') : q_K L xs i_M_year [(2, 100)] σ K := by
  refine q_call k_M_year 3 rfl ?_
  show q_E L xs k_M_year (0, [(2, 100), (9, 0), (9, 0)], [], σ) K
  refine q_go1 80 0 [4] (fun cl ev hcl hev => ?_)
  exact hev _ (zl_yr h hK 31 0 _ (by omega) (by omega) M)
end Z5

