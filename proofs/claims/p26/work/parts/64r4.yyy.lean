/-- rows that no step of a tide writes -/
def y_k (k : Int) : Prop := k ≠ 1 ∧ k ≠ 3 ∧ k ≠ 4 ∧ k ≠ 5 ∧ k ≠ 20 ∧ k ≠ 22 ∧ k ≠ 23 ∧ k ≠ 25 ∧ k ≠ 28 ∧ k ≠ 29
/-- .. but for 25, which a break alone writes -/
def y_kk (k : Int) : Prop := k = 25 ∨ y_k k
section Y5
variable {σ : q_S} {k i : Int}
theorem F_sea {c v : Int} (hk : y_kk k) : y_sea σ c v k i = σ k i := by
  unfold y_kk y_k at hk; unfold y_sea
  rw [q_un (by omega), q_un (by omega), q_un (by omega)]
theorem F_out {c v : Int} (hk : y_kk k) : y_out σ c v k i = σ k i := by
  unfold y_kk y_k at hk; unfold y_out
  rw [q_un (by omega), q_un (by omega)]
theorem F_wear {r v : Int} (hk : y_k k) : y_wear σ r v k i = σ k i := by
  unfold y_k at hk; unfold y_wear
  rw [q_un (by omega), q_un (by omega)]
theorem F_brk {r : Int} (hk : y_k k) : y_brk σ r k i = σ k i := by
  have hk' := hk
  unfold y_k at hk'; unfold y_brk
  rw [q_un (by omega), q_un (by omega)]; exact F_wear hk
theorem F_m1 {r sea : Int} (hk : y_kk k) : y_m1 r sea σ k i = σ k i := by
  unfold y_m1
  split
  · exact F_sea hk
  · rfl
theorem F_meet {r sea wind : Int} (hk : y_k k) : y_meet r sea wind σ k i = σ k i := by
  unfold y_meet
  split
  · exact (F_brk hk).trans (F_m1 (Or.inr hk))
  · split
    · exact (F_wear hk).trans (F_m1 (Or.inr hk))
    · exact F_m1 (Or.inr hk)
theorem F_meets {sea wind : Int} (hk : y_k k) : ∀ n : Nat, y_meets sea wind σ n k i = σ k i
  | 0 => rfl
  | n + 1 => (F_meet hk).trans (F_meets hk n)
theorem F_slu {r sea : Int} (hk : y_kk k) : y_slu r sea σ k i = σ k i := by
  unfold y_slu
  split
  · exact F_out hk
  · split
    · exact F_sea hk
    · rfl
theorem F_slus {sea : Int} (hk : y_kk k) : ∀ n : Nat, y_slus sea σ n k i = σ k i
  | 0 => rfl
  | n + 1 => (F_slu hk).trans (F_slus hk n)
theorem F_rain {v : Int} (hk : y_kk k) : y_rain v σ k i = σ k i := by
  unfold y_kk y_k at hk; unfold y_rain
  rw [q_un (by omega)]; exact y_rn_o (by omega) 30
theorem F_flow {a c v : Int} (hk : y_kk k) : y_flow σ a c v k i = σ k i := by
  unfold y_kk y_k at hk; unfold y_flow
  rw [q_un (by omega), q_un (by omega)]
theorem F_set {a c : Int} (hk : y_kk k) : y_set σ a c k i = σ k i := by
  unfold y_set
  split
  · rfl
  · split
    · exact F_flow hk
    · exact F_flow hk
theorem F_spr (hk : y_kk k) : ∀ n : Nat, y_spr σ n k i = σ k i
  | 0 => rfl
  | n + 1 => (F_set hk).trans ((F_set hk).trans (F_spr hk n))
theorem F_pk (hk : y_kk k) : ∀ n : Nat, y_pk σ n k i = σ k i
  | 0 => rfl
  | n + 1 => (q_un (by unfold y_kk y_k at hk; omega)).trans (F_pk hk n)
theorem F_fl {j : Int} (hk : y_kk k) : y_fl j σ k i = σ k i := by
  unfold y_kk y_k at hk; unfold y_fl
  split
  · rfl
  · rw [q_un (by omega)]
    unfold y_f1
    split
    · rw [q_un (by omega)]
    · rfl
theorem F_fls (hk : y_kk k) : ∀ n : Nat, y_fls σ n k i = σ k i
  | 0 => rfl
  | n + 1 => (F_fl hk).trans (F_fls hk n)
theorem F_hour {sea wind rain : Int} (hk : y_k k) : y_hour sea wind rain σ k i = σ k i :=
  (F_fls (Or.inr hk) _).trans ((F_pk (Or.inr hk) _).trans ((F_spr (Or.inr hk) _).trans ((F_slus (Or.inr hk) _).trans ((F_meets hk _).trans (F_rain (Or.inr hk))))))
theorem F_fill {r v : Int} (hk : k ≠ r) : ∀ n : Nat, y_fill r v σ n k i = σ k i
  | 0 => rfl
  | n + 1 => (q_un hk).trans (F_fill hk n)
theorem F_beg (hk : y_k k) : y_beg σ k i = σ k i := by
  unfold y_k at hk
  exact (F_fill (by omega) 24).trans ((q_un (by omega)).trans (F_fill (by omega) 30))
theorem F_hrs {high wind rain : Int} (hk : y_k k) : ∀ n : Nat, y_hrs high wind rain σ n k i = σ k i
  | 0 => rfl
  | n + 1 => (F_hour hk).trans (F_hrs hk n)
theorem F_sl (hk : y_kk k) : ∀ n : Nat, y_sl σ n k i = σ k i
  | 0 => rfl
  | n + 1 => (q_un (by unfold y_kk y_k at hk; omega)).trans (F_sl hk n)
theorem F_end (hk : y_kk k) : y_end σ k i = σ k i := by
  unfold y_end
  split
  · rfl
  · exact F_sl hk 30
theorem F_td {high wind rain : Int} (hk : y_k k) : y_td high wind rain σ k i = σ k i := (F_end (Or.inr hk)).trans ((F_hrs hk 6).trans (F_beg hk))
theorem y_bs_c {σ' : q_S} (h : ∀ i, σ' 25 i = σ 25 i) : ∀ n : Nat, y_bs σ' n = y_bs σ n
  | 0 => rfl
  | n + 1 => by unfold y_bs; rw [y_bs_c h n, h]
end Y5
section Y6
variable {L : Nat} {xs : Int → Int}
theorem xl_h2 {sea wind rain b : Int} {τ : q_S} {K : q_R → q_S → Prop} (hs : 0 ≤ sea ∧ sea ≤ 120) (h : y_S b τ) (hb : b ≤ 990000000) (hK : K none (y_fls (y_pk (y_spr (y_slus sea τ (τ 17 9).toNat) 30) 30) (τ 27 2).toNat)) : ∀ (m n : Nat), τ 17 9 - n < m → (n : Int) ≤ τ 17 9 →
    q_E L xs k_A_runHour (23, [(2, 0), (0, sea), (0, wind), (0, rain), (0, (n : Int))], [], y_slus sea τ n) K := by
  intro m
  induction m with
  | zero => intro n; omega
  | succ m ih =>
    intro n hm hn
    have h17 := S17 h
    have e17 : y_slus sea τ n 17 9 = τ 17 9 := F_slus (by unfold y_kk y_k; omega) n
    have hn1 := S_slus h hs n
    have a2 := S_P hn1
    have a3 := S_pk (S_spr a2.1 a2.2 30).1 30
    have e27 : y_pk (y_spr (y_slus sea τ n) 30) 30 27 2 = τ 27 2 := (F_pk (by unfold y_kk y_k; omega) _).trans ((F_spr (by unfold y_kk y_k; omega) _).trans (F_slus (by unfold y_kk y_k; omega) n))
    have e : q_w32 ((n : Int) + 1) = ((n + 1 : Nat) : Int) := by rw [q_w32_id] <;> omega
    refine q_go1 200 23 [23] (fun cl ev hcl hev => ?_)
    refine And.intro (fun hq => ?_) (fun hq => ?_)
    · have en : (τ 17 9).toNat = n := by omega
      rw [en] at hK
      show cl _ _ _ _
      refine hcl _ _ _ _ (x_spr a2.1 a2.2 (by omega) ?_)
      show cl _ _ _ _
      refine hcl _ _ _ _ (x_pk ?_)
      show cl _ _ _ _
      refine hcl _ _ _ _ (x_fls a3 ?_)
      rw [e27]
      exact hK
    · show cl _ _ _ _
      refine hcl _ _ _ _ (x_slu (by omega) hs hn1 (by omega) ?_)
      refine hev _ ?_
      rw [e]
      exact ih (n + 1) (by omega) (by omega)
theorem xl_h1 {sea wind rain b : Int} {τ : q_S} {K : q_R → q_S → Prop} (hs : 0 ≤ sea ∧ sea ≤ 120) (hw : 0 ≤ wind ∧ wind ≤ 3) (h : y_S b τ) (hb : b ≤ 900000000) (hK : K none (y_fls (y_pk (y_spr (y_slus sea (y_meets sea wind τ (τ 17 9).toNat) (τ 17 9).toNat) 30) 30) (τ 27 2).toNat)) : ∀ (m n : Nat), τ 17 9 - n < m → (n : Int) ≤ τ 17 9 →
    q_E L xs k_A_runHour (6, [(2, 0), (0, sea), (0, wind), (0, rain), (0, (n : Int))], [], y_meets sea wind τ n) K := by
  intro m
  induction m with
  | zero => intro n; omega
  | succ m ih =>
    intro n hm hn
    have h17 := S17 h
    have e17 : y_meets sea wind τ n 17 9 = τ 17 9 := F_meets (by unfold y_k; omega) n
    have e27 : y_meets sea wind τ n 27 2 = τ 27 2 := F_meets (by unfold y_k; omega) n
    have hn1 := S_meets h hs.2 hw n
    have e : q_w32 ((n : Int) + 1) = ((n + 1 : Nat) : Int) := by rw [q_w32_id] <;> omega
    refine q_go1 200 6 [6, 23] (fun cl ev hcl hev => ?_)
    refine And.intro (fun hq => ?_) (fun hq => ?_)
    · have en : (τ 17 9).toNat = n := by omega
      rw [en] at hK
      refine hev _ (xl_h2 hs hn1 (by omega) ?_ 30 0 (by omega) (by omega))
      rw [e17, e27, en]
      exact hK
    · show cl _ _ _ _
      refine hcl _ _ _ _ (x_meet (by omega) hw hs hn1 (by omega) ?_)
      refine hev _ ?_
      rw [e]
      exact ih (n + 1) (by omega) (by omega)
theorem x_hour {sea wind rain b : Int} {σ : q_S} {K : q_R → q_S → Prop} (hs : 0 ≤ sea ∧ sea ≤ 120) (hw : 0 ≤ wind ∧ wind ≤ 3) (hr : 0 ≤ rain ∧ rain ≤ 50) (h : y_S b σ) (hb : b ≤ 890000000) (hK : K none (y_hour sea wind rain σ)) : q_K L xs i_A_runHour [(2, 0), (0, sea), (0, wind), (0, rain)] σ K := by
  have h1 := S_rain h hr.1
  have h17 := S17 h
  have e17 : y_rain rain σ 17 9 = σ 17 9 := F_rain (by unfold y_kk y_k; omega)
  have e27 : y_rain rain σ 27 2 = σ 27 2 := F_rain (by unfold y_kk y_k; omega)
  refine q_call k_A_runHour 5 rfl ?_
  show q_E L xs k_A_runHour (0, [(2, 0), (0, sea), (0, wind), (0, rain), (9, 0)], [], σ) K
  refine q_go1 200 0 [6] (fun cl ev hcl hev => ?_)
  show cl _ _ _ _
  refine hcl _ _ _ _ (x_rain hr h (by omega) ?_)
  refine hev _ (xl_h1 hs hw h1 (by omega) ?_ 30 0 (by omega) (by omega))
  rw [e17, e27]
  exact hK
theorem xl_bro {b : Int} {σ : q_S} {K : q_R → q_S → Prop} (h : y_S b σ) (hK : K (some (0, y_bs σ 24)) σ) : ∀ (m n : Nat) (y : Int) (u : Nat), (24 : Int) - n < m → (n : Int) ≤ 24 →
    q_E L xs k_Bank_brokenInTide (10, [(2, 17), (0, y_bs σ n), (2, 25), (0, 24), (0, (n : Int)), (u, y)], [], σ) K := by
  intro m
  induction m with
  | zero => intro n; omega
  | succ m ih =>
    intro n y u hm hn
    have h1 := y_bs_in h n
    have h2 := S25 h n
    have e : q_w32 ((n : Int) + 1) = ((n + 1 : Nat) : Int) := by rw [q_w32_id] <;> omega
    have e1 : q_w32 (y_bs σ n + σ 25 n) = y_bs σ (n + 1) := by rw [q_w32_id (by omega) (by omega)]; rfl
    refine q_go1 120 10 [10] (fun cl ev hcl hev => ?_)
    refine And.intro (fun hq => ?_) (fun hq => ?_)
    · have en : n = 24 := by omega
      subst en
      exact hK
    · refine And.intro (by omega) ?_
      refine hev _ ?_
      rw [e, e1]
      exact ih (n + 1) _ _ (by omega) (by omega)
theorem x_bro {b : Int} {σ : q_S} {K : q_R → q_S → Prop} (h : y_S b σ) (hK : K (some (0, y_bs σ 24)) σ) : q_K L xs i_Bank_brokenInTide [(2, 17)] σ K := by
  refine q_call k_Bank_brokenInTide 6 rfl ?_
  show q_E L xs k_Bank_brokenInTide (0, [(2, 17), (9, 0), (9, 0), (9, 0), (9, 0), (9, 0)], [], σ) K
  refine q_go1 120 0 [10] (fun cl ev hcl hev => ?_)
  exact hev _ (xl_bro h hK 25 0 _ _ (by omega) (by omega))
/-- the state behind a tide, of the class -/
def y_A (high wind rain : Int) (σ : q_S) : q_S := q_up (q_up (y_td high wind rain σ) 0 10 (q_w32 (σ 0 10 + 1))) 0 11 (q_w32 (σ 0 11 + 1))
theorem xl_td {high wind rain b : Int} {σ : q_S} {K : q_R → q_S → Prop} (hh : 0 ≤ high ∧ high ≤ 120) (hw : 0 ≤ wind ∧ wind ≤ 3) (hr : 0 ≤ rain ∧ rain ≤ 50) (h : y_S b σ) (hb : b ≤ 800000000) (hK : K (some (0, y_bs (y_td high wind rain σ) 24)) (y_A high wind rain σ)) : ∀ (m n : Nat) (y : Int) (u : Nat), (6 : Int) - n < m → (n : Int) ≤ 6 →
    q_E L xs k_A_tide (36, [(2, 0), (0, high), (0, wind), (0, rain), (4, 1), (0, 6), (0, (n : Int)), (u, y)], [], y_hrs high wind rain (y_beg σ) n) K := by
  intro m
  induction m with
  | zero => intro n; omega
  | succ m ih =>
    intro n y u hm hn
    have hn1 := S_hrs (S_beg h) hh hw hr n (by omega)
    have e : q_w32 ((n : Int) + 1) = ((n + 1 : Nat) : Int) := by rw [q_w32_id] <;> omega
    have eq : (n : Int) < 6 → (if (n : Int) = 0 then 2 else if (n : Int) = 1 then 3 else if (n : Int) = 2 then 4 else if (n : Int) = 3 then 3 else if (n : Int) = 4 then 2 else if (n : Int) = 5 then 1 else 0) = y_qu n := fun hlt => by
      have : n = 0 ∨ n = 1 ∨ n = 2 ∨ n = 3 ∨ n = 4 ∨ n = 5 := by omega
      rcases this with rfl | rfl | rfl | rfl | rfl | rfl
      all_goals decide
    have ehi : (n : Int) < 6 → q_w32 ((q_w32 (high * (if (n : Int) = 0 then 2 else if (n : Int) = 1 then 3 else if (n : Int) = 2 then 4 else if (n : Int) = 3 then 3 else if (n : Int) = 4 then 2 else if (n : Int) = 5 then 1 else 0))).tdiv 4) = high * y_qu n / 4 := fun hlt => by
      rw [eq hlt]
      have hq := y_qu_in hh (h := n) (by omega)
      rw [q_w32_id (x := high * y_qu n) (by omega) (by omega), q_td (by omega), q_w32_id] <;> omega
    refine q_go1 200 36 [36] (fun cl ev hcl hev => ?_)
    refine And.intro (fun hq => ?_) (fun hq => ?_)
    · have en : n = 6 := by omega
      subst en
      show cl _ _ _ _
      refine hcl _ _ _ _ (x_end ?_)
      have e10 : y_end (y_hrs high wind rain (y_beg σ) 6) 0 10 = σ 0 10 := F_td (by unfold y_k; omega)
      have e11 : y_end (y_hrs high wind rain (y_beg σ) 6) 0 11 = σ 0 11 := F_td (by unfold y_k; omega)
      have eA : q_up (q_up (y_end (y_hrs high wind rain (y_beg σ) 6)) 0 10 (q_w32 (y_end (y_hrs high wind rain (y_beg σ) 6) 0 10 + 1))) 0 11 (q_w32 (q_up (y_end (y_hrs high wind rain (y_beg σ) 6)) 0 10 (q_w32 (y_end (y_hrs high wind rain (y_beg σ) 6) 0 10 + 1)) 0 11 + 1)) = y_A high wind rain σ := by
        rw [q_ui (i := 10) (i' := 11) (by decide), e10, e11]
        rfl
      show cl _ _ _ _
      rw [eA]
      have hS : y_S (b + 300000) (y_A high wind rain σ) := S_fr (S_fr (S_td h hh hw hr) (by omega)) (by omega)
      refine hcl _ _ _ _ (x_bro hS ?_)
      rw [y_bs_c (σ' := y_A high wind rain σ) (σ := y_td high wind rain σ) (fun i => (q_un (k := 0) (k' := 25) (by decide)).trans (q_un (k := 0) (k' := 25) (by decide)))]
      exact hK
    · refine And.intro (by omega) ?_
      refine And.intro (by omega) ?_
      show cl _ _ _ _
      refine hcl _ _ _ _ ?_
      rw [ehi (by omega)]
      refine x_hour (y_qu_in hh (by omega)) hw hr hn1 (by omega) ?_
      refine hev _ ?_
      rw [e]
      exact ih (n + 1) _ _ (by omega) (by omega)
theorem x_tide {high wind rain b : Int} {σ : q_S} {K : q_R → q_S → Prop} (h : y_S b σ) (hb : b ≤ 800000000) (hK2 : ¬ (0 ≤ high ∧ high ≤ 120 ∧ 0 ≤ wind ∧ wind ≤ 3 ∧ 0 ≤ rain ∧ rain ≤ 50) → K (some (0, -2)) σ) (hK4 : (0 ≤ high ∧ high ≤ 120 ∧ 0 ≤ wind ∧ wind ≤ 3 ∧ 0 ≤ rain ∧ rain ≤ 50) → 9999 ≤ σ 0 10 → K (some (0, -4)) σ) (hK : (0 ≤ high ∧ high ≤ 120 ∧ 0 ≤ wind ∧ wind ≤ 3 ∧ 0 ≤ rain ∧ rain ≤ 50) → σ 0 10 < 9999 → K (some (0, y_bs (y_td high wind rain σ) 24)) (y_A high wind rain σ)) : q_K L xs i_A_tide [(2, 0), (0, high), (0, wind), (0, rain)] σ K := by
  refine q_call k_A_tide 8 rfl ?_
  show q_E L xs k_A_tide (0, [(2, 0), (0, high), (0, wind), (0, rain), (9, 0), (9, 0), (9, 0), (9, 0)], [], σ) K
  refine q_go1 200 0 [36] (fun cl ev hcl hev => ?_)
  repeat' (first | refine And.intro ?_ ?_ | (intro hq; first | exact absurd hq (by decide) | exact absurd rfl hq | exact absurd hq (show ¬ (1 : Int) = 0 by decide) | exact absurd (show (1 : Int) ≠ 0 by decide) hq | skip) | (show cl _ _ _ _; first | refine hcl _ _ _ _ (c_A_within ?_ ?_) | refine hcl _ _ _ _ (x_begL ?_) | refine hcl _ _ _ _ (x_begB ?_)))
  all_goals first
    | omega
    | exact hK2 (by omega)
    | exact hK4 (by omega) (by omega)
    | exact hev _ (xl_td (by omega) (by omega) (by omega) h hb (hK (by omega) (by omega)) 7 0 _ _ (by omega) (by omega))

def y_yr (σ : q_S) : Nat → q_S
  | 0 => σ
  | n + 1 => q_up (y_yr σ n) 5 n (max 0 (q_w32 (y_yr σ n 5 n - 1)))
def y_yc (σ : q_S) : Nat → Int
  | 0 => 0
  | n + 1 => y_yc σ n + (if 0 < y_yr σ (n + 1) 5 n then 1 else 0)
theorem y_yc_in {σ : q_S} : ∀ n : Nat, 0 ≤ y_yc σ n ∧ y_yc σ n ≤ n
  | 0 => by unfold y_yc; omega
  | n + 1 => by
    have := y_yc_in (σ := σ) n
    unfold y_yc
    split <;> omega
theorem xl_yr {σ : q_S} {K : q_R → q_S → Prop} (hK : K (some (0, y_yc σ 30)) (y_yr σ 30)) : ∀ (m n : Nat), (30 : Int) - n < m → (n : Int) ≤ 30 →
    q_E L xs k_Land_passYear (4, [(2, 1), (0, y_yc σ n), (0, (n : Int))], [], y_yr σ n) K := by
  intro m
  induction m with
  | zero => intro n; omega
  | succ m ih =>
    intro n hm hn
    have h1 := y_yc_in (σ := σ) n
    have e : q_w32 ((n : Int) + 1) = ((n + 1 : Nat) : Int) := by rw [q_w32_id] <;> omega
    have st : ∀ x, (n : Int) < 30 → q_w32 x = y_yc σ (n + 1) → q_E L xs k_Land_passYear (4, [(2, 1), (0, q_w32 x), (0, q_w32 ((n : Int) + 1))], [], y_yr σ (n + 1)) K := fun x hlt ex => by
      rw [e, ex]
      exact ih (n + 1) (by omega) (by omega)
    have u5 : q_up (y_yr σ n) 5 n (max 0 (q_w32 (y_yr σ n 5 n - 1))) 5 n = y_yr σ (n + 1) 5 n := rfl
    have c1 : 0 < y_yr σ (n + 1) 5 n → q_w32 (y_yc σ n + 1) = y_yc σ (n + 1) := fun z => by
      show _ = y_yc σ n + (if 0 < y_yr σ (n + 1) 5 n then 1 else 0)
      rw [if_pos z, q_w32_id] <;> omega
    have c0 : ¬ 0 < y_yr σ (n + 1) 5 n → q_w32 (y_yc σ n + 0) = y_yc σ (n + 1) := fun z => by
      show _ = y_yc σ n + (if 0 < y_yr σ (n + 1) 5 n then 1 else 0)
      rw [if_neg z, q_w32_id] <;> omega
    refine q_go1 200 4 [4] (fun cl ev hcl hev => ?_)
    repeat' (first | refine And.intro ?_ ?_ | (intro hq; first | exact absurd hq (by decide) | exact absurd rfl hq | exact absurd hq (show ¬ (1 : Int) = 0 by decide) | exact absurd (show (1 : Int) ≠ 0 by decide) hq | skip))
    all_goals first
      | omega
      | (have en : n = 30 := by omega
         subst en
         exact hK)
      | exact hev _ (st _ (by omega) (c0 (by omega)))
      | exact hev _ (st _ (by omega) (c1 (by omega)))
theorem x_yr {σ : q_S} {K : q_R → q_S → Prop} (hK : K (some (0, y_yc σ 30)) (y_yr σ 30)) : q_K L xs i_A_year [(2, 0)] σ K := by
  refine q_call k_A_year 1 rfl ?_
  show q_E L xs k_A_year (0, [(2, 0)], [], σ) K
  refine q_go1 200 0 [] (fun cl ev hcl hev => ?_)
  show cl _ _ _ _
  refine hcl _ _ _ _ ?_
  refine q_call k_Land_passYear 3 rfl ?_
  show q_E L xs k_Land_passYear (0, [(2, 1), (9, 0), (9, 0)], [], σ) _
  refine q_go1 200 0 [4] (fun cl ev hcl hev => ?_)
  refine hev _ (xl_yr ?_ 31 0 (by omega) (by omega))
  exact hK
end Y6

