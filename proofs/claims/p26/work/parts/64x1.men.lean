/-! who mends -/
/-- the last of the first n rules that has the rod -/
def v_rl (A B : Int → Int) (r : Int) : Nat → Int
  | 0 => -1
  | k + 1 => if A k ≤ r ∧ r ≤ B k then (k : Int) else v_rl A B r k
theorem v_rl_in {A B : Int → Int} {r : Int} : ∀ n : Nat, -1 ≤ v_rl A B r n ∧ v_rl A B r n < n ∧ (v_rl A B r n ≠ -1 → A (v_rl A B r n) ≤ r ∧ r ≤ B (v_rl A B r n))
  | 0 => ⟨show (-1 : Int) ≤ -1 by decide, show (-1 : Int) < ((0 : Nat) : Int) by decide, fun z => absurd rfl z⟩
  | n + 1 => by
    have ih := v_rl_in (A := A) (B := B) (r := r) n
    have e : v_rl A B r (n + 1) = if A n ≤ r ∧ r ≤ B n then (n : Int) else v_rl A B r n := rfl
    by_cases g : A n ≤ r ∧ r ≤ B n
    · rw [e, if_pos g]
      exact ⟨by omega, by omega, fun _ => g⟩
    · rw [e, if_neg g]
      exact ⟨ih.1, by omega, ih.2.2⟩
theorem v_rl_c {A B A' B' : Int → Int} {r : Int} : ∀ n : Nat, (∀ k : Int, 0 ≤ k → k < n → A' k = A k ∧ B' k = B k) → v_rl A' B' r n = v_rl A B r n
  | 0, _ => rfl
  | n + 1, h => by
    have ih := v_rl_c (A := A) (B := B) (A' := A') (B' := B') (r := r) n (fun k h0 h1 => h k h0 (by omega))
    have hn := h n (by omega) (by omega)
    have e : v_rl A B r (n + 1) = if A n ≤ r ∧ r ≤ B n then (n : Int) else v_rl A B r n := rfl
    have e' : v_rl A' B' r (n + 1) = if A' n ≤ r ∧ r ≤ B' n then (n : Int) else v_rl A' B' r n := rfl
    rw [e, e', hn.1, hn.2, ih]
/-- who has the place, of the last n owners -/
def v_oa (D : Int → Int) : Nat → Int → Int
  | 0, _ => -5
  | n + 1, p => if p < D (7 - n) then 7 - (n : Int) else v_oa D n (p - D (7 - n))
theorem v_oa_c {D D' : Int → Int} : ∀ (n : Nat) (p : Int), n ≤ 8 → (∀ o : Int, 0 ≤ o → o < 8 → D' o = D o) → v_oa D' n p = v_oa D n p
  | 0, p, _, _ => rfl
  | n + 1, p, hn, h => by
    have e : v_oa D (n + 1) p = if p < D (7 - n) then 7 - (n : Int) else v_oa D n (p - D (7 - n)) := rfl
    have e' : v_oa D' (n + 1) p = if p < D' (7 - n) then 7 - (n : Int) else v_oa D' n (p - D' (7 - n)) := rfl
    rw [e, e', h (7 - n) (by omega) (by omega), v_oa_c n _ (by omega) h]
/-- who mends a rod, by the model's cells -/
def w_how (σ : q_S) (a cell r d : Int) (ks : Nat) : Int := if σ 131 a = 1 then σ 132 a else if σ 131 a = 0 then e_gn (fun o => q_hof σ cell o d ks) 7 else v_oa (e_D (σ 130 a - σ 129 a + 1) (fun o => q_hal σ o d ks 30)) 8 (r - σ 129 a)
def w_cls (σ : q_S) (c r : Int) : Int := v_rl (fun k => σ 129 (10 * c + k)) (fun k => σ 130 (10 * c + k)) r (σ 128 c).toNat
def w_who (σ : q_S) (cell r d : Int) (kc ks : Nat) : Int := if q_cof σ d kc = -1 then -5 else if w_cls σ (q_cof σ d kc) r = -1 then -5 else w_how σ (10 * q_cof σ d kc + w_cls σ (q_cof σ d kc) r) cell r d ks
section Y1
variable {L : Nat} {xs : Int → Int}
theorem xl_inF {d n n_ : Int} {σ : q_S} {K : q_R → q_S → Prop} (hn : 0 ≤ n ∧ n ≤ 12) (hD : ∀ j, 0 ≤ j → j < n → σ 123 j = σ (40 + 4 * j) 0) (hK : K (some (0, q_cof σ d n.toNat)) σ) :
    ∀ (m c : Nat) (x6 : Int) (u6 : Nat), n - c < m → (c : Int) ≤ n → q_E L xs k_Courts_inForce (9, [(2, 34), (0, d), (0, n_), (0, q_cof σ d c), (0, n), (0, (c : Int)), (u6, x6)], [], σ) K := by
  intro m
  induction m with
  | zero => intro c; omega
  | succ m ih =>
    intro c x6 u6 hm hc
    have e : q_w32 ((c : Int) + 1) = ((c + 1 : Nat) : Int) := by rw [q_w32_id] <;> omega
    have hin := q_cof_in (σ := σ) (d := d) c
    have ec : q_cof σ d (c + 1) = if σ 123 c ≤ d ∧ (q_cof σ d c = -1 ∨ σ 123 (q_cof σ d c) ≤ σ 123 c) then (c : Int) else q_cof σ d c := rfl
    have st : ∀ b x6 u6, (c : Int) < n → b = q_cof σ d (c + 1) → q_E L xs k_Courts_inForce (9, [(2, 34), (0, d), (0, n_), (0, b), (0, n), (0, q_w32 ((c : Int) + 1)), (u6, x6)], [], σ) K := fun b x6 u6 hlt hb => by
      rw [e, hb]
      exact ih (c + 1) _ _ (by omega) (by omega)
    refine q_go1 60 9 [9, 15] (fun cl ev hcl hev => ?_)
    refine And.intro (fun g => ?_) (fun g => ?_)
    · rw [show n.toNat = c by omega] at hK
      exact hK
    · have h1 := hD c (by omega) (by omega)
      refine hev _ (l_inF1 (y := 0) (by omega) ?_)
      refine q_go1 60 17 [9, 31] (fun cl ev hcl hev => ?_)
      refine And.intro (fun g1 => ?_) (fun g1 => ?_)
      · refine And.intro (fun _ => ?_) (fun z => absurd rfl z)
        rw [if_neg (by omega)] at ec
        exact hev _ (st _ _ _ (by omega) ec.symm)
      · refine And.intro (fun z => absurd z (show ¬ (1 : Int) = 0 by decide)) (fun _ => ?_)
        refine And.intro (fun g2 => ?_) (fun g2 => ?_)
        · rw [if_pos (by omega)] at ec
          exact hev _ (st _ _ _ (by omega) ec.symm)
        · have h2 := hD (q_cof σ d c) (by omega) (by omega)
          refine hev _ (l_inF2 (y := 0) (by omega) ?_)
          refine q_go1 60 33 [9, 36] (fun cl ev hcl hev => ?_)
          refine hev _ (l_inF3 (by omega) ?_)
          refine q_go1 60 38 [9] (fun cl ev hcl hev => ?_)
          refine And.intro (fun g3 => ?_) (fun g3 => ?_)
          · rw [if_neg (by omega)] at ec
            exact hev _ (st _ _ _ (by omega) ec.symm)
          · rw [if_pos (by omega)] at ec
            exact hev _ (st _ _ _ (by omega) ec.symm)
theorem x_inF {d n : Int} {σ : q_S} {K : q_R → q_S → Prop} (hb : 0 ≤ σ 34 2 ∧ σ 34 2 ≤ 12) (hn : 0 ≤ n ∧ n ≤ σ 34 2) (hD : ∀ j, 0 ≤ j → j < σ 34 2 → σ 123 j = σ (40 + 4 * j) 0) (hK : K (some (0, q_cof σ d n.toNat)) σ) : q_K L xs i_Courts_inForce [(2, 34), (0, d), (0, n)] σ K := by
  have e : min n (σ 34 2) = n := by omega
  refine q_call k_Courts_inForce 7 rfl ?_
  show q_E L xs k_Courts_inForce (0, [(2, 34), (0, d), (0, n), (9, 0), (9, 0), (9, 0), (9, 0)], [], σ) K
  refine q_go1 60 0 [9] (fun cl ev hcl hev => ?_)
  refine hev _ ?_
  rw [e]
  exact xl_inF (by omega) (fun j h0 h1 => hD j h0 (by omega)) hK 13 0 0 9 (by omega) (by omega)

theorem l_cuX {j : Int} {σ : q_S} {K : q_R → q_S → Prop} (hj : 0 ≤ j ∧ j < 12) (hK : K (some (2, 40 + 4 * j)) σ) : q_E L xs k_Courts_customOf (11, [(2, 34), (0, j)], [(0, j), (2, 35)], σ) K := by
  have hjj : j = 0 ∨ j = 1 ∨ j = 2 ∨ j = 3 ∨ j = 4 ∨ j = 5 ∨ j = 6 ∨ j = 7 ∨ j = 8 ∨ j = 9 ∨ j = 10 ∨ j = 11 := by omega
  clear hj
  rcases hjj with rfl | rfl | rfl | rfl | rfl | rfl | rfl | rfl | rfl | rfl | rfl | rfl
  · rw [show (40 + 4 * (0 : Int)) = 40 from rfl] at hK
    refine q_go1 9 11 [] (fun cl ev hcl hev => ?_)
    exact And.intro (by decide) hK
  · rw [show (40 + 4 * (1 : Int)) = 44 from rfl] at hK
    refine q_go1 9 11 [] (fun cl ev hcl hev => ?_)
    exact And.intro (by decide) hK
  · rw [show (40 + 4 * (2 : Int)) = 48 from rfl] at hK
    refine q_go1 9 11 [] (fun cl ev hcl hev => ?_)
    exact And.intro (by decide) hK
  · rw [show (40 + 4 * (3 : Int)) = 52 from rfl] at hK
    refine q_go1 9 11 [] (fun cl ev hcl hev => ?_)
    exact And.intro (by decide) hK
  · rw [show (40 + 4 * (4 : Int)) = 56 from rfl] at hK
    refine q_go1 9 11 [] (fun cl ev hcl hev => ?_)
    exact And.intro (by decide) hK
  · rw [show (40 + 4 * (5 : Int)) = 60 from rfl] at hK
    refine q_go1 9 11 [] (fun cl ev hcl hev => ?_)
    exact And.intro (by decide) hK
  · rw [show (40 + 4 * (6 : Int)) = 64 from rfl] at hK
    refine q_go1 9 11 [] (fun cl ev hcl hev => ?_)
    exact And.intro (by decide) hK
  · rw [show (40 + 4 * (7 : Int)) = 68 from rfl] at hK
    refine q_go1 9 11 [] (fun cl ev hcl hev => ?_)
    exact And.intro (by decide) hK
  · rw [show (40 + 4 * (8 : Int)) = 72 from rfl] at hK
    refine q_go1 9 11 [] (fun cl ev hcl hev => ?_)
    exact And.intro (by decide) hK
  · rw [show (40 + 4 * (9 : Int)) = 76 from rfl] at hK
    refine q_go1 9 11 [] (fun cl ev hcl hev => ?_)
    exact And.intro (by decide) hK
  · rw [show (40 + 4 * (10 : Int)) = 80 from rfl] at hK
    refine q_go1 9 11 [] (fun cl ev hcl hev => ?_)
    exact And.intro (by decide) hK
  · rw [show (40 + 4 * (11 : Int)) = 84 from rfl] at hK
    refine q_go1 9 11 [] (fun cl ev hcl hev => ?_)
    exact And.intro (by decide) hK
/-- the custom of a court, or the empty one -/
def v_cu (σ : q_S) (j : Int) : Int := if 0 ≤ j ∧ j < σ 34 2 then 40 + 4 * j else 36
theorem v_cu_q {σ : q_S} {j : Int} (hb : σ 34 2 ≤ 12) : q_cu (v_cu σ j) := by
  unfold v_cu q_cu
  split <;> omega
theorem x_cuO {j : Int} {σ : q_S} {K : q_R → q_S → Prop} (hb : 0 ≤ σ 34 2 ∧ σ 34 2 ≤ 12) (hK : K (some (2, v_cu σ j)) σ) : q_K L xs i_Courts_customOf [(2, 34), (0, j)] σ K := by
  have e : q_w32 (σ 34 2 - 1) = σ 34 2 - 1 := by rw [q_w32_id] <;> omega
  unfold v_cu at hK
  refine q_call k_Courts_customOf 2 rfl ?_
  show q_E L xs k_Courts_customOf (0, [(2, 34), (0, j)], [], σ) K
  refine q_go1 60 0 [11] (fun cl ev hcl hev => ?_)
  show cl _ _ _ _
  refine hcl _ _ _ _ (c_A_within (fun g => ?_) (fun g => ?_))
  · rw [if_pos (by omega)] at hK
    refine And.intro (fun z => absurd z (show ¬ (1 : Int) = 0 by decide)) (fun _ => ?_)
    exact hev _ (l_cuX (by omega) hK)
  · rw [if_neg (by omega)] at hK
    exact And.intro (fun _ => hK) (fun z => absurd rfl z)
theorem xl_ru36 {p : Int} {n : Nat} {σ : q_S} {K : q_R → q_S → Prop} (hK : K (some (0, v_rl (σ 37) (σ 38) p n)) σ) : ∀ m : Nat, (m : Int) ≤ 10 → v_rl (σ 37) (σ 38) p n = v_rl (σ 37) (σ 38) p m → q_E L xs k_Custom_ruleOf (5, [(2, 36), (0, p), (0, (m : Int) - 1)], [], σ) K := by
  intro m
  induction m with
  | zero =>
    intro _ hv
    rw [hv] at hK
    refine q_go1 200 5 [5] (fun cl ev hcl hev => ?_)
    exact And.intro (fun _ => hK) (fun z => absurd (show ((0 : Nat) : Int) - 1 < 0 by decide) z)
  | succ m ih =>
    intro hm hv
    have ek : ((m + 1 : Nat) : Int) - 1 = (m : Int) := by omega
    have e : q_w32 ((m : Int) + -1) = (m : Int) - 1 := by rw [q_w32_id] <;> omega
    have er : v_rl (σ 37) (σ 38) p (m + 1) = if σ 37 m ≤ p ∧ p ≤ σ 38 m then (m : Int) else v_rl (σ 37) (σ 38) p m := rfl
    rw [ek]
    refine q_go1 200 5 [5] (fun cl ev hcl hev => ?_)
    refine And.intro (fun z => by exfalso; omega) (fun _ => ?_)
    refine And.intro (by omega) (And.intro (by omega) ?_)
    show cl _ _ _ _
    refine hcl _ _ _ _ (c_A_within (fun g => ?_) (fun g => ?_))
    · rw [if_pos g] at er
      rw [hv, er] at hK
      exact And.intro (fun z => absurd z (show ¬ (1 : Int) = 0 by decide)) (fun _ => hK)
    · rw [if_neg g] at er
      refine And.intro (fun _ => ?_) (fun z => absurd rfl z)
      refine hev _ ?_
      rw [e]
      exact ih (by omega) (hv.trans er)
theorem x_ru36 {p : Int} {σ : q_S} {K : q_R → q_S → Prop} (hn : 0 ≤ σ 36 8 ∧ σ 36 8 ≤ 10) (hK : K (some (0, v_rl (σ 37) (σ 38) p (σ 36 8).toNat)) σ) : q_K L xs i_Custom_ruleOf [(2, 36), (0, p)] σ K := by
  have e : q_w32 (σ 36 8 - 1) = ((σ 36 8).toNat : Int) - 1 := by rw [q_w32_id] <;> omega
  refine q_call k_Custom_ruleOf 3 rfl ?_
  show q_E L xs k_Custom_ruleOf (0, [(2, 36), (0, p), (9, 0)], [], σ) K
  refine q_go1 200 0 [5] (fun cl ev hcl hev => ?_)
  refine hev _ ?_
  rw [e]
  exact xl_ru36 hK _ (by omega) rfl
theorem xl_ru40 {p : Int} {n : Nat} {σ : q_S} {K : q_R → q_S → Prop} (hK : K (some (0, v_rl (σ 41) (σ 42) p n)) σ) : ∀ m : Nat, (m : Int) ≤ 10 → v_rl (σ 41) (σ 42) p n = v_rl (σ 41) (σ 42) p m → q_E L xs k_Custom_ruleOf (5, [(2, 40), (0, p), (0, (m : Int) - 1)], [], σ) K := by
  intro m
  induction m with
  | zero =>
    intro _ hv
    rw [hv] at hK
    refine q_go1 200 5 [5] (fun cl ev hcl hev => ?_)
    exact And.intro (fun _ => hK) (fun z => absurd (show ((0 : Nat) : Int) - 1 < 0 by decide) z)
  | succ m ih =>
    intro hm hv
    have ek : ((m + 1 : Nat) : Int) - 1 = (m : Int) := by omega
    have e : q_w32 ((m : Int) + -1) = (m : Int) - 1 := by rw [q_w32_id] <;> omega
    have er : v_rl (σ 41) (σ 42) p (m + 1) = if σ 41 m ≤ p ∧ p ≤ σ 42 m then (m : Int) else v_rl (σ 41) (σ 42) p m := rfl
    rw [ek]
    refine q_go1 200 5 [5] (fun cl ev hcl hev => ?_)
    refine And.intro (fun z => by exfalso; omega) (fun _ => ?_)
    refine And.intro (by omega) (And.intro (by omega) ?_)
    show cl _ _ _ _
    refine hcl _ _ _ _ (c_A_within (fun g => ?_) (fun g => ?_))
    · rw [if_pos g] at er
      rw [hv, er] at hK
      exact And.intro (fun z => absurd z (show ¬ (1 : Int) = 0 by decide)) (fun _ => hK)
    · rw [if_neg g] at er
      refine And.intro (fun _ => ?_) (fun z => absurd rfl z)
      refine hev _ ?_
      rw [e]
      exact ih (by omega) (hv.trans er)
theorem x_ru40 {p : Int} {σ : q_S} {K : q_R → q_S → Prop} (hn : 0 ≤ σ 40 8 ∧ σ 40 8 ≤ 10) (hK : K (some (0, v_rl (σ 41) (σ 42) p (σ 40 8).toNat)) σ) : q_K L xs i_Custom_ruleOf [(2, 40), (0, p)] σ K := by
  have e : q_w32 (σ 40 8 - 1) = ((σ 40 8).toNat : Int) - 1 := by rw [q_w32_id] <;> omega
  refine q_call k_Custom_ruleOf 3 rfl ?_
  show q_E L xs k_Custom_ruleOf (0, [(2, 40), (0, p), (9, 0)], [], σ) K
  refine q_go1 200 0 [5] (fun cl ev hcl hev => ?_)
  refine hev _ ?_
  rw [e]
  exact xl_ru40 hK _ (by omega) rfl
theorem xl_ru44 {p : Int} {n : Nat} {σ : q_S} {K : q_R → q_S → Prop} (hK : K (some (0, v_rl (σ 45) (σ 46) p n)) σ) : ∀ m : Nat, (m : Int) ≤ 10 → v_rl (σ 45) (σ 46) p n = v_rl (σ 45) (σ 46) p m → q_E L xs k_Custom_ruleOf (5, [(2, 44), (0, p), (0, (m : Int) - 1)], [], σ) K := by
  intro m
  induction m with
  | zero =>
    intro _ hv
    rw [hv] at hK
    refine q_go1 200 5 [5] (fun cl ev hcl hev => ?_)
    exact And.intro (fun _ => hK) (fun z => absurd (show ((0 : Nat) : Int) - 1 < 0 by decide) z)
  | succ m ih =>
    intro hm hv
    have ek : ((m + 1 : Nat) : Int) - 1 = (m : Int) := by omega
    have e : q_w32 ((m : Int) + -1) = (m : Int) - 1 := by rw [q_w32_id] <;> omega
    have er : v_rl (σ 45) (σ 46) p (m + 1) = if σ 45 m ≤ p ∧ p ≤ σ 46 m then (m : Int) else v_rl (σ 45) (σ 46) p m := rfl
    rw [ek]
    refine q_go1 200 5 [5] (fun cl ev hcl hev => ?_)
    refine And.intro (fun z => by exfalso; omega) (fun _ => ?_)
    refine And.intro (by omega) (And.intro (by omega) ?_)
    show cl _ _ _ _
    refine hcl _ _ _ _ (c_A_within (fun g => ?_) (fun g => ?_))
    · rw [if_pos g] at er
      rw [hv, er] at hK
      exact And.intro (fun z => absurd z (show ¬ (1 : Int) = 0 by decide)) (fun _ => hK)
    · rw [if_neg g] at er
      refine And.intro (fun _ => ?_) (fun z => absurd rfl z)
      refine hev _ ?_
      rw [e]
      exact ih (by omega) (hv.trans er)
theorem x_ru44 {p : Int} {σ : q_S} {K : q_R → q_S → Prop} (hn : 0 ≤ σ 44 8 ∧ σ 44 8 ≤ 10) (hK : K (some (0, v_rl (σ 45) (σ 46) p (σ 44 8).toNat)) σ) : q_K L xs i_Custom_ruleOf [(2, 44), (0, p)] σ K := by
  have e : q_w32 (σ 44 8 - 1) = ((σ 44 8).toNat : Int) - 1 := by rw [q_w32_id] <;> omega
  refine q_call k_Custom_ruleOf 3 rfl ?_
  show q_E L xs k_Custom_ruleOf (0, [(2, 44), (0, p), (9, 0)], [], σ) K
  refine q_go1 200 0 [5] (fun cl ev hcl hev => ?_)
  refine hev _ ?_
  rw [e]
  exact xl_ru44 hK _ (by omega) rfl
theorem xl_ru48 {p : Int} {n : Nat} {σ : q_S} {K : q_R → q_S → Prop} (hK : K (some (0, v_rl (σ 49) (σ 50) p n)) σ) : ∀ m : Nat, (m : Int) ≤ 10 → v_rl (σ 49) (σ 50) p n = v_rl (σ 49) (σ 50) p m → q_E L xs k_Custom_ruleOf (5, [(2, 48), (0, p), (0, (m : Int) - 1)], [], σ) K := by
  intro m
  induction m with
  | zero =>
    intro _ hv
    rw [hv] at hK
    refine q_go1 200 5 [5] (fun cl ev hcl hev => ?_)
    exact And.intro (fun _ => hK) (fun z => absurd (show ((0 : Nat) : Int) - 1 < 0 by decide) z)
  | succ m ih =>
    intro hm hv
    have ek : ((m + 1 : Nat) : Int) - 1 = (m : Int) := by omega
    have e : q_w32 ((m : Int) + -1) = (m : Int) - 1 := by rw [q_w32_id] <;> omega
    have er : v_rl (σ 49) (σ 50) p (m + 1) = if σ 49 m ≤ p ∧ p ≤ σ 50 m then (m : Int) else v_rl (σ 49) (σ 50) p m := rfl
    rw [ek]
    refine q_go1 200 5 [5] (fun cl ev hcl hev => ?_)
    refine And.intro (fun z => by exfalso; omega) (fun _ => ?_)
    refine And.intro (by omega) (And.intro (by omega) ?_)
    show cl _ _ _ _
    refine hcl _ _ _ _ (c_A_within (fun g => ?_) (fun g => ?_))
    · rw [if_pos g] at er
      rw [hv, er] at hK
      exact And.intro (fun z => absurd z (show ¬ (1 : Int) = 0 by decide)) (fun _ => hK)
    · rw [if_neg g] at er
      refine And.intro (fun _ => ?_) (fun z => absurd rfl z)
      refine hev _ ?_
      rw [e]
      exact ih (by omega) (hv.trans er)
theorem x_ru48 {p : Int} {σ : q_S} {K : q_R → q_S → Prop} (hn : 0 ≤ σ 48 8 ∧ σ 48 8 ≤ 10) (hK : K (some (0, v_rl (σ 49) (σ 50) p (σ 48 8).toNat)) σ) : q_K L xs i_Custom_ruleOf [(2, 48), (0, p)] σ K := by
  have e : q_w32 (σ 48 8 - 1) = ((σ 48 8).toNat : Int) - 1 := by rw [q_w32_id] <;> omega
  refine q_call k_Custom_ruleOf 3 rfl ?_
  show q_E L xs k_Custom_ruleOf (0, [(2, 48), (0, p), (9, 0)], [], σ) K
  refine q_go1 200 0 [5] (fun cl ev hcl hev => ?_)
  refine hev _ ?_
  rw [e]
  exact xl_ru48 hK _ (by omega) rfl
theorem xl_ru52 {p : Int} {n : Nat} {σ : q_S} {K : q_R → q_S → Prop} (hK : K (some (0, v_rl (σ 53) (σ 54) p n)) σ) : ∀ m : Nat, (m : Int) ≤ 10 → v_rl (σ 53) (σ 54) p n = v_rl (σ 53) (σ 54) p m → q_E L xs k_Custom_ruleOf (5, [(2, 52), (0, p), (0, (m : Int) - 1)], [], σ) K := by
  intro m
  induction m with
  | zero =>
    intro _ hv
    rw [hv] at hK
    refine q_go1 200 5 [5] (fun cl ev hcl hev => ?_)
    exact And.intro (fun _ => hK) (fun z => absurd (show ((0 : Nat) : Int) - 1 < 0 by decide) z)
  | succ m ih =>
    intro hm hv
    have ek : ((m + 1 : Nat) : Int) - 1 = (m : Int) := by omega
    have e : q_w32 ((m : Int) + -1) = (m : Int) - 1 := by rw [q_w32_id] <;> omega
    have er : v_rl (σ 53) (σ 54) p (m + 1) = if σ 53 m ≤ p ∧ p ≤ σ 54 m then (m : Int) else v_rl (σ 53) (σ 54) p m := rfl
    rw [ek]
    refine q_go1 200 5 [5] (fun cl ev hcl hev => ?_)
    refine And.intro (fun z => by exfalso; omega) (fun _ => ?_)
    refine And.intro (by omega) (And.intro (by omega) ?_)
    show cl _ _ _ _
    refine hcl _ _ _ _ (c_A_within (fun g => ?_) (fun g => ?_))
    · rw [if_pos g] at er
      rw [hv, er] at hK
      exact And.intro (fun z => absurd z (show ¬ (1 : Int) = 0 by decide)) (fun _ => hK)
    · rw [if_neg g] at er
      refine And.intro (fun _ => ?_) (fun z => absurd rfl z)
      refine hev _ ?_
      rw [e]
      exact ih (by omega) (hv.trans er)
theorem x_ru52 {p : Int} {σ : q_S} {K : q_R → q_S → Prop} (hn : 0 ≤ σ 52 8 ∧ σ 52 8 ≤ 10) (hK : K (some (0, v_rl (σ 53) (σ 54) p (σ 52 8).toNat)) σ) : q_K L xs i_Custom_ruleOf [(2, 52), (0, p)] σ K := by
  have e : q_w32 (σ 52 8 - 1) = ((σ 52 8).toNat : Int) - 1 := by rw [q_w32_id] <;> omega
  refine q_call k_Custom_ruleOf 3 rfl ?_
  show q_E L xs k_Custom_ruleOf (0, [(2, 52), (0, p), (9, 0)], [], σ) K
  refine q_go1 200 0 [5] (fun cl ev hcl hev => ?_)
  refine hev _ ?_
  rw [e]
  exact xl_ru52 hK _ (by omega) rfl
theorem xl_ru56 {p : Int} {n : Nat} {σ : q_S} {K : q_R → q_S → Prop} (hK : K (some (0, v_rl (σ 57) (σ 58) p n)) σ) : ∀ m : Nat, (m : Int) ≤ 10 → v_rl (σ 57) (σ 58) p n = v_rl (σ 57) (σ 58) p m → q_E L xs k_Custom_ruleOf (5, [(2, 56), (0, p), (0, (m : Int) - 1)], [], σ) K := by
  intro m
  induction m with
  | zero =>
    intro _ hv
    rw [hv] at hK
    refine q_go1 200 5 [5] (fun cl ev hcl hev => ?_)
    exact And.intro (fun _ => hK) (fun z => absurd (show ((0 : Nat) : Int) - 1 < 0 by decide) z)
  | succ m ih =>
    intro hm hv
    have ek : ((m + 1 : Nat) : Int) - 1 = (m : Int) := by omega
    have e : q_w32 ((m : Int) + -1) = (m : Int) - 1 := by rw [q_w32_id] <;> omega
    have er : v_rl (σ 57) (σ 58) p (m + 1) = if σ 57 m ≤ p ∧ p ≤ σ 58 m then (m : Int) else v_rl (σ 57) (σ 58) p m := rfl
    rw [ek]
    refine q_go1 200 5 [5] (fun cl ev hcl hev => ?_)
    refine And.intro (fun z => by exfalso; omega) (fun _ => ?_)
    refine And.intro (by omega) (And.intro (by omega) ?_)
    show cl _ _ _ _
    refine hcl _ _ _ _ (c_A_within (fun g => ?_) (fun g => ?_))
    · rw [if_pos g] at er
      rw [hv, er] at hK
      exact And.intro (fun z => absurd z (show ¬ (1 : Int) = 0 by decide)) (fun _ => hK)
    · rw [if_neg g] at er
      refine And.intro (fun _ => ?_) (fun z => absurd rfl z)
      refine hev _ ?_
      rw [e]
      exact ih (by omega) (hv.trans er)
theorem x_ru56 {p : Int} {σ : q_S} {K : q_R → q_S → Prop} (hn : 0 ≤ σ 56 8 ∧ σ 56 8 ≤ 10) (hK : K (some (0, v_rl (σ 57) (σ 58) p (σ 56 8).toNat)) σ) : q_K L xs i_Custom_ruleOf [(2, 56), (0, p)] σ K := by
  have e : q_w32 (σ 56 8 - 1) = ((σ 56 8).toNat : Int) - 1 := by rw [q_w32_id] <;> omega
  refine q_call k_Custom_ruleOf 3 rfl ?_
  show q_E L xs k_Custom_ruleOf (0, [(2, 56), (0, p), (9, 0)], [], σ) K
  refine q_go1 200 0 [5] (fun cl ev hcl hev => ?_)
  refine hev _ ?_
  rw [e]
  exact xl_ru56 hK _ (by omega) rfl
theorem xl_ru60 {p : Int} {n : Nat} {σ : q_S} {K : q_R → q_S → Prop} (hK : K (some (0, v_rl (σ 61) (σ 62) p n)) σ) : ∀ m : Nat, (m : Int) ≤ 10 → v_rl (σ 61) (σ 62) p n = v_rl (σ 61) (σ 62) p m → q_E L xs k_Custom_ruleOf (5, [(2, 60), (0, p), (0, (m : Int) - 1)], [], σ) K := by
  intro m
  induction m with
  | zero =>
    intro _ hv
    rw [hv] at hK
    refine q_go1 200 5 [5] (fun cl ev hcl hev => ?_)
    exact And.intro (fun _ => hK) (fun z => absurd (show ((0 : Nat) : Int) - 1 < 0 by decide) z)
  | succ m ih =>
    intro hm hv
    have ek : ((m + 1 : Nat) : Int) - 1 = (m : Int) := by omega
    have e : q_w32 ((m : Int) + -1) = (m : Int) - 1 := by rw [q_w32_id] <;> omega
    have er : v_rl (σ 61) (σ 62) p (m + 1) = if σ 61 m ≤ p ∧ p ≤ σ 62 m then (m : Int) else v_rl (σ 61) (σ 62) p m := rfl
    rw [ek]
    refine q_go1 200 5 [5] (fun cl ev hcl hev => ?_)
    refine And.intro (fun z => by exfalso; omega) (fun _ => ?_)
    refine And.intro (by omega) (And.intro (by omega) ?_)
    show cl _ _ _ _
    refine hcl _ _ _ _ (c_A_within (fun g => ?_) (fun g => ?_))
    · rw [if_pos g] at er
      rw [hv, er] at hK
      exact And.intro (fun z => absurd z (show ¬ (1 : Int) = 0 by decide)) (fun _ => hK)
    · rw [if_neg g] at er
      refine And.intro (fun _ => ?_) (fun z => absurd rfl z)
      refine hev _ ?_
      rw [e]
      exact ih (by omega) (hv.trans er)
theorem x_ru60 {p : Int} {σ : q_S} {K : q_R → q_S → Prop} (hn : 0 ≤ σ 60 8 ∧ σ 60 8 ≤ 10) (hK : K (some (0, v_rl (σ 61) (σ 62) p (σ 60 8).toNat)) σ) : q_K L xs i_Custom_ruleOf [(2, 60), (0, p)] σ K := by
  have e : q_w32 (σ 60 8 - 1) = ((σ 60 8).toNat : Int) - 1 := by rw [q_w32_id] <;> omega
  refine q_call k_Custom_ruleOf 3 rfl ?_
  show q_E L xs k_Custom_ruleOf (0, [(2, 60), (0, p), (9, 0)], [], σ) K
  refine q_go1 200 0 [5] (fun cl ev hcl hev => ?_)
  refine hev _ ?_
  rw [e]
  exact xl_ru60 hK _ (by omega) rfl
theorem xl_ru64 {p : Int} {n : Nat} {σ : q_S} {K : q_R → q_S → Prop} (hK : K (some (0, v_rl (σ 65) (σ 66) p n)) σ) : ∀ m : Nat, (m : Int) ≤ 10 → v_rl (σ 65) (σ 66) p n = v_rl (σ 65) (σ 66) p m → q_E L xs k_Custom_ruleOf (5, [(2, 64), (0, p), (0, (m : Int) - 1)], [], σ) K := by
  intro m
  induction m with
  | zero =>
    intro _ hv
    rw [hv] at hK
    refine q_go1 200 5 [5] (fun cl ev hcl hev => ?_)
    exact And.intro (fun _ => hK) (fun z => absurd (show ((0 : Nat) : Int) - 1 < 0 by decide) z)
  | succ m ih =>
    intro hm hv
    have ek : ((m + 1 : Nat) : Int) - 1 = (m : Int) := by omega
    have e : q_w32 ((m : Int) + -1) = (m : Int) - 1 := by rw [q_w32_id] <;> omega
    have er : v_rl (σ 65) (σ 66) p (m + 1) = if σ 65 m ≤ p ∧ p ≤ σ 66 m then (m : Int) else v_rl (σ 65) (σ 66) p m := rfl
    rw [ek]
    refine q_go1 200 5 [5] (fun cl ev hcl hev => ?_)
    refine And.intro (fun z => by exfalso; omega) (fun _ => ?_)
    refine And.intro (by omega) (And.intro (by omega) ?_)
    show cl _ _ _ _
    refine hcl _ _ _ _ (c_A_within (fun g => ?_) (fun g => ?_))
    · rw [if_pos g] at er
      rw [hv, er] at hK
      exact And.intro (fun z => absurd z (show ¬ (1 : Int) = 0 by decide)) (fun _ => hK)
    · rw [if_neg g] at er
      refine And.intro (fun _ => ?_) (fun z => absurd rfl z)
      refine hev _ ?_
      rw [e]
      exact ih (by omega) (hv.trans er)
theorem x_ru64 {p : Int} {σ : q_S} {K : q_R → q_S → Prop} (hn : 0 ≤ σ 64 8 ∧ σ 64 8 ≤ 10) (hK : K (some (0, v_rl (σ 65) (σ 66) p (σ 64 8).toNat)) σ) : q_K L xs i_Custom_ruleOf [(2, 64), (0, p)] σ K := by
  have e : q_w32 (σ 64 8 - 1) = ((σ 64 8).toNat : Int) - 1 := by rw [q_w32_id] <;> omega
  refine q_call k_Custom_ruleOf 3 rfl ?_
  show q_E L xs k_Custom_ruleOf (0, [(2, 64), (0, p), (9, 0)], [], σ) K
  refine q_go1 200 0 [5] (fun cl ev hcl hev => ?_)
  refine hev _ ?_
  rw [e]
  exact xl_ru64 hK _ (by omega) rfl
theorem xl_ru68 {p : Int} {n : Nat} {σ : q_S} {K : q_R → q_S → Prop} (hK : K (some (0, v_rl (σ 69) (σ 70) p n)) σ) : ∀ m : Nat, (m : Int) ≤ 10 → v_rl (σ 69) (σ 70) p n = v_rl (σ 69) (σ 70) p m → q_E L xs k_Custom_ruleOf (5, [(2, 68), (0, p), (0, (m : Int) - 1)], [], σ) K := by
  intro m
  induction m with
  | zero =>
    intro _ hv
    rw [hv] at hK
    refine q_go1 200 5 [5] (fun cl ev hcl hev => ?_)
    exact And.intro (fun _ => hK) (fun z => absurd (show ((0 : Nat) : Int) - 1 < 0 by decide) z)
  | succ m ih =>
    intro hm hv
    have ek : ((m + 1 : Nat) : Int) - 1 = (m : Int) := by omega
    have e : q_w32 ((m : Int) + -1) = (m : Int) - 1 := by rw [q_w32_id] <;> omega
    have er : v_rl (σ 69) (σ 70) p (m + 1) = if σ 69 m ≤ p ∧ p ≤ σ 70 m then (m : Int) else v_rl (σ 69) (σ 70) p m := rfl
    rw [ek]
    refine q_go1 200 5 [5] (fun cl ev hcl hev => ?_)
    refine And.intro (fun z => by exfalso; omega) (fun _ => ?_)
    refine And.intro (by omega) (And.intro (by omega) ?_)
    show cl _ _ _ _
    refine hcl _ _ _ _ (c_A_within (fun g => ?_) (fun g => ?_))
    · rw [if_pos g] at er
      rw [hv, er] at hK
      exact And.intro (fun z => absurd z (show ¬ (1 : Int) = 0 by decide)) (fun _ => hK)
    · rw [if_neg g] at er
      refine And.intro (fun _ => ?_) (fun z => absurd rfl z)
      refine hev _ ?_
      rw [e]
      exact ih (by omega) (hv.trans er)
theorem x_ru68 {p : Int} {σ : q_S} {K : q_R → q_S → Prop} (hn : 0 ≤ σ 68 8 ∧ σ 68 8 ≤ 10) (hK : K (some (0, v_rl (σ 69) (σ 70) p (σ 68 8).toNat)) σ) : q_K L xs i_Custom_ruleOf [(2, 68), (0, p)] σ K := by
  have e : q_w32 (σ 68 8 - 1) = ((σ 68 8).toNat : Int) - 1 := by rw [q_w32_id] <;> omega
  refine q_call k_Custom_ruleOf 3 rfl ?_
  show q_E L xs k_Custom_ruleOf (0, [(2, 68), (0, p), (9, 0)], [], σ) K
  refine q_go1 200 0 [5] (fun cl ev hcl hev => ?_)
  refine hev _ ?_
  rw [e]
  exact xl_ru68 hK _ (by omega) rfl
theorem xl_ru72 {p : Int} {n : Nat} {σ : q_S} {K : q_R → q_S → Prop} (hK : K (some (0, v_rl (σ 73) (σ 74) p n)) σ) : ∀ m : Nat, (m : Int) ≤ 10 → v_rl (σ 73) (σ 74) p n = v_rl (σ 73) (σ 74) p m → q_E L xs k_Custom_ruleOf (5, [(2, 72), (0, p), (0, (m : Int) - 1)], [], σ) K := by
  intro m
  induction m with
  | zero =>
    intro _ hv
    rw [hv] at hK
    refine q_go1 200 5 [5] (fun cl ev hcl hev => ?_)
    exact And.intro (fun _ => hK) (fun z => absurd (show ((0 : Nat) : Int) - 1 < 0 by decide) z)
  | succ m ih =>
    intro hm hv
    have ek : ((m + 1 : Nat) : Int) - 1 = (m : Int) := by omega
    have e : q_w32 ((m : Int) + -1) = (m : Int) - 1 := by rw [q_w32_id] <;> omega
    have er : v_rl (σ 73) (σ 74) p (m + 1) = if σ 73 m ≤ p ∧ p ≤ σ 74 m then (m : Int) else v_rl (σ 73) (σ 74) p m := rfl
    rw [ek]
    refine q_go1 200 5 [5] (fun cl ev hcl hev => ?_)
    refine And.intro (fun z => by exfalso; omega) (fun _ => ?_)
    refine And.intro (by omega) (And.intro (by omega) ?_)
    show cl _ _ _ _
    refine hcl _ _ _ _ (c_A_within (fun g => ?_) (fun g => ?_))
    · rw [if_pos g] at er
      rw [hv, er] at hK
      exact And.intro (fun z => absurd z (show ¬ (1 : Int) = 0 by decide)) (fun _ => hK)
    · rw [if_neg g] at er
      refine And.intro (fun _ => ?_) (fun z => absurd rfl z)
      refine hev _ ?_
      rw [e]
      exact ih (by omega) (hv.trans er)
theorem x_ru72 {p : Int} {σ : q_S} {K : q_R → q_S → Prop} (hn : 0 ≤ σ 72 8 ∧ σ 72 8 ≤ 10) (hK : K (some (0, v_rl (σ 73) (σ 74) p (σ 72 8).toNat)) σ) : q_K L xs i_Custom_ruleOf [(2, 72), (0, p)] σ K := by
  have e : q_w32 (σ 72 8 - 1) = ((σ 72 8).toNat : Int) - 1 := by rw [q_w32_id] <;> omega
  refine q_call k_Custom_ruleOf 3 rfl ?_
  show q_E L xs k_Custom_ruleOf (0, [(2, 72), (0, p), (9, 0)], [], σ) K
  refine q_go1 200 0 [5] (fun cl ev hcl hev => ?_)
  refine hev _ ?_
  rw [e]
  exact xl_ru72 hK _ (by omega) rfl
theorem xl_ru76 {p : Int} {n : Nat} {σ : q_S} {K : q_R → q_S → Prop} (hK : K (some (0, v_rl (σ 77) (σ 78) p n)) σ) : ∀ m : Nat, (m : Int) ≤ 10 → v_rl (σ 77) (σ 78) p n = v_rl (σ 77) (σ 78) p m → q_E L xs k_Custom_ruleOf (5, [(2, 76), (0, p), (0, (m : Int) - 1)], [], σ) K := by
  intro m
  induction m with
  | zero =>
    intro _ hv
    rw [hv] at hK
    refine q_go1 200 5 [5] (fun cl ev hcl hev => ?_)
    exact And.intro (fun _ => hK) (fun z => absurd (show ((0 : Nat) : Int) - 1 < 0 by decide) z)
  | succ m ih =>
    intro hm hv
    have ek : ((m + 1 : Nat) : Int) - 1 = (m : Int) := by omega
    have e : q_w32 ((m : Int) + -1) = (m : Int) - 1 := by rw [q_w32_id] <;> omega
    have er : v_rl (σ 77) (σ 78) p (m + 1) = if σ 77 m ≤ p ∧ p ≤ σ 78 m then (m : Int) else v_rl (σ 77) (σ 78) p m := rfl
    rw [ek]
    refine q_go1 200 5 [5] (fun cl ev hcl hev => ?_)
    refine And.intro (fun z => by exfalso; omega) (fun _ => ?_)
    refine And.intro (by omega) (And.intro (by omega) ?_)
    show cl _ _ _ _
    refine hcl _ _ _ _ (c_A_within (fun g => ?_) (fun g => ?_))
    · rw [if_pos g] at er
      rw [hv, er] at hK
      exact And.intro (fun z => absurd z (show ¬ (1 : Int) = 0 by decide)) (fun _ => hK)
    · rw [if_neg g] at er
      refine And.intro (fun _ => ?_) (fun z => absurd rfl z)
      refine hev _ ?_
      rw [e]
      exact ih (by omega) (hv.trans er)
theorem x_ru76 {p : Int} {σ : q_S} {K : q_R → q_S → Prop} (hn : 0 ≤ σ 76 8 ∧ σ 76 8 ≤ 10) (hK : K (some (0, v_rl (σ 77) (σ 78) p (σ 76 8).toNat)) σ) : q_K L xs i_Custom_ruleOf [(2, 76), (0, p)] σ K := by
  have e : q_w32 (σ 76 8 - 1) = ((σ 76 8).toNat : Int) - 1 := by rw [q_w32_id] <;> omega
  refine q_call k_Custom_ruleOf 3 rfl ?_
  show q_E L xs k_Custom_ruleOf (0, [(2, 76), (0, p), (9, 0)], [], σ) K
  refine q_go1 200 0 [5] (fun cl ev hcl hev => ?_)
  refine hev _ ?_
  rw [e]
  exact xl_ru76 hK _ (by omega) rfl
theorem xl_ru80 {p : Int} {n : Nat} {σ : q_S} {K : q_R → q_S → Prop} (hK : K (some (0, v_rl (σ 81) (σ 82) p n)) σ) : ∀ m : Nat, (m : Int) ≤ 10 → v_rl (σ 81) (σ 82) p n = v_rl (σ 81) (σ 82) p m → q_E L xs k_Custom_ruleOf (5, [(2, 80), (0, p), (0, (m : Int) - 1)], [], σ) K := by
  intro m
  induction m with
  | zero =>
    intro _ hv
    rw [hv] at hK
    refine q_go1 200 5 [5] (fun cl ev hcl hev => ?_)
    exact And.intro (fun _ => hK) (fun z => absurd (show ((0 : Nat) : Int) - 1 < 0 by decide) z)
  | succ m ih =>
    intro hm hv
    have ek : ((m + 1 : Nat) : Int) - 1 = (m : Int) := by omega
    have e : q_w32 ((m : Int) + -1) = (m : Int) - 1 := by rw [q_w32_id] <;> omega
    have er : v_rl (σ 81) (σ 82) p (m + 1) = if σ 81 m ≤ p ∧ p ≤ σ 82 m then (m : Int) else v_rl (σ 81) (σ 82) p m := rfl
    rw [ek]
    refine q_go1 200 5 [5] (fun cl ev hcl hev => ?_)
    refine And.intro (fun z => by exfalso; omega) (fun _ => ?_)
    refine And.intro (by omega) (And.intro (by omega) ?_)
    show cl _ _ _ _
    refine hcl _ _ _ _ (c_A_within (fun g => ?_) (fun g => ?_))
    · rw [if_pos g] at er
      rw [hv, er] at hK
      exact And.intro (fun z => absurd z (show ¬ (1 : Int) = 0 by decide)) (fun _ => hK)
    · rw [if_neg g] at er
      refine And.intro (fun _ => ?_) (fun z => absurd rfl z)
      refine hev _ ?_
      rw [e]
      exact ih (by omega) (hv.trans er)
theorem x_ru80 {p : Int} {σ : q_S} {K : q_R → q_S → Prop} (hn : 0 ≤ σ 80 8 ∧ σ 80 8 ≤ 10) (hK : K (some (0, v_rl (σ 81) (σ 82) p (σ 80 8).toNat)) σ) : q_K L xs i_Custom_ruleOf [(2, 80), (0, p)] σ K := by
  have e : q_w32 (σ 80 8 - 1) = ((σ 80 8).toNat : Int) - 1 := by rw [q_w32_id] <;> omega
  refine q_call k_Custom_ruleOf 3 rfl ?_
  show q_E L xs k_Custom_ruleOf (0, [(2, 80), (0, p), (9, 0)], [], σ) K
  refine q_go1 200 0 [5] (fun cl ev hcl hev => ?_)
  refine hev _ ?_
  rw [e]
  exact xl_ru80 hK _ (by omega) rfl
theorem xl_ru84 {p : Int} {n : Nat} {σ : q_S} {K : q_R → q_S → Prop} (hK : K (some (0, v_rl (σ 85) (σ 86) p n)) σ) : ∀ m : Nat, (m : Int) ≤ 10 → v_rl (σ 85) (σ 86) p n = v_rl (σ 85) (σ 86) p m → q_E L xs k_Custom_ruleOf (5, [(2, 84), (0, p), (0, (m : Int) - 1)], [], σ) K := by
  intro m
  induction m with
  | zero =>
    intro _ hv
    rw [hv] at hK
    refine q_go1 200 5 [5] (fun cl ev hcl hev => ?_)
    exact And.intro (fun _ => hK) (fun z => absurd (show ((0 : Nat) : Int) - 1 < 0 by decide) z)
  | succ m ih =>
    intro hm hv
    have ek : ((m + 1 : Nat) : Int) - 1 = (m : Int) := by omega
    have e : q_w32 ((m : Int) + -1) = (m : Int) - 1 := by rw [q_w32_id] <;> omega
    have er : v_rl (σ 85) (σ 86) p (m + 1) = if σ 85 m ≤ p ∧ p ≤ σ 86 m then (m : Int) else v_rl (σ 85) (σ 86) p m := rfl
    rw [ek]
    refine q_go1 200 5 [5] (fun cl ev hcl hev => ?_)
    refine And.intro (fun z => by exfalso; omega) (fun _ => ?_)
    refine And.intro (by omega) (And.intro (by omega) ?_)
    show cl _ _ _ _
    refine hcl _ _ _ _ (c_A_within (fun g => ?_) (fun g => ?_))
    · rw [if_pos g] at er
      rw [hv, er] at hK
      exact And.intro (fun z => absurd z (show ¬ (1 : Int) = 0 by decide)) (fun _ => hK)
    · rw [if_neg g] at er
      refine And.intro (fun _ => ?_) (fun z => absurd rfl z)
      refine hev _ ?_
      rw [e]
      exact ih (by omega) (hv.trans er)
theorem x_ru84 {p : Int} {σ : q_S} {K : q_R → q_S → Prop} (hn : 0 ≤ σ 84 8 ∧ σ 84 8 ≤ 10) (hK : K (some (0, v_rl (σ 85) (σ 86) p (σ 84 8).toNat)) σ) : q_K L xs i_Custom_ruleOf [(2, 84), (0, p)] σ K := by
  have e : q_w32 (σ 84 8 - 1) = ((σ 84 8).toNat : Int) - 1 := by rw [q_w32_id] <;> omega
  refine q_call k_Custom_ruleOf 3 rfl ?_
  show q_E L xs k_Custom_ruleOf (0, [(2, 84), (0, p), (9, 0)], [], σ) K
  refine q_go1 200 0 [5] (fun cl ev hcl hev => ?_)
  refine hev _ ?_
  rw [e]
  exact xl_ru84 hK _ (by omega) rfl
theorem xl_gO {c d n : Int} {H : Int → Int} {σ : q_S} {K : q_R → q_S → Prop} (hb : 0 ≤ σ 7 5 ∧ σ 7 5 ≤ 120) (hn : 0 ≤ n) (hp : ∀ j : Nat, (j : Int) < σ 7 5 → 0 ≤ σ 11 j ∧ σ 11 j ≤ 12) (hH : ∀ o, q_pof σ c o d (min n (σ 7 5)).toNat = H o) (hK : K (some (0, e_gn H 7)) σ) : ∀ (m i : Nat) (y : Int) (u : Nat), (7 : Int) - i < m → (i : Int) ≤ 7 → q_E L xs k_Sales_greatestOwner (6, [(2, 7), (0, c), (0, d), (0, n), (0, e_gn H i), (0, H (e_gn H i)), (0, (i : Int) + 1), (u, y)], [], σ) K := by
  intro m
  induction m with
  | zero => intro i; omega
  | succ m ih =>
    intro i y u hm hi
    have e : q_w32 ((i : Int) + 1 + 1) = ((i + 1 : Nat) : Int) + 1 := by rw [q_w32_id] <;> omega
    have eg : e_gn H (i + 1) = if H (e_gn H i) < H ((i : Int) + 1) then (i : Int) + 1 else e_gn H i := rfl
    refine q_go1 200 6 [6] (fun cl ev hcl hev => ?_)
    refine And.intro (fun g => ?_) (fun g => ?_)
    · have : i = 7 := by omega
      subst this
      exact hK
    · show cl _ _ _ _
      refine hcl _ _ _ _ (c_partsX hb hn hp ?_)
      rw [hH]
      refine And.intro (fun g2 => ?_) (fun g2 => ?_)
      · rw [if_neg (by omega)] at eg
        refine hev _ ?_
        rw [e, ← eg]
        exact ih (i + 1) _ _ (by omega) (by omega)
      · rw [if_pos (by omega)] at eg
        refine hev _ ?_
        rw [e]
        have := ih (i + 1) (H ((i : Int) + 1)) 0 (by omega) (by omega)
        rw [eg] at this
        exact this
theorem x_gO {c d n : Int} {H : Int → Int} {σ : q_S} {K : q_R → q_S → Prop} (hb : 0 ≤ σ 7 5 ∧ σ 7 5 ≤ 120) (hn : 0 ≤ n) (hp : ∀ j : Nat, (j : Int) < σ 7 5 → 0 ≤ σ 11 j ∧ σ 11 j ≤ 12) (hH : ∀ o, q_pof σ c o d (min n (σ 7 5)).toNat = H o) (h0 : 0 ≤ H 0) (hK : K (some (0, e_gn H 7)) σ) : q_K L xs i_Sales_greatestOwner [(2, 7), (0, c), (0, d), (0, n)] σ K := by
  have e : q_w32 (0 + 1) = 1 := by decide
  refine q_call k_Sales_greatestOwner 8 rfl ?_
  show q_E L xs k_Sales_greatestOwner (0, [(2, 7), (0, c), (0, d), (0, n), (9, 0), (9, 0), (9, 0), (9, 0)], [], σ) K
  refine q_go1 200 0 [6] (fun cl ev hcl hev => ?_)
  refine hev _ ?_
  have go : ∀ y u, q_E L xs k_Sales_greatestOwner (6, [(2, 7), (0, c), (0, d), (0, n), (0, 0), (0, H 0), (0, 1), (u, y)], [], σ) K := fun y u => xl_gO hb hn hp hH hK 8 0 y u (by omega) (by omega)
  refine q_go1 200 6 [6] (fun cl ev hcl hev => ?_)
  refine And.intro (fun g => absurd g (show ¬ (8 : Int) ≤ 0 by decide)) (fun _ => ?_)
  show cl _ _ _ _
  refine hcl _ _ _ _ (c_partsX hb hn hp ?_)
  rw [hH]
  refine And.intro (fun g2 => ?_) (fun g2 => ?_)
  · refine hev _ ?_
    have ez : H 0 = 0 := by omega
    have g := go (H 0) 0
    rw [ez] at g ⊢
    rw [e]
    exact g
  · refine hev _ ?_
    rw [e]
    exact go _ _
theorem xl_oA {p : Int} {σ : q_S} {K : q_R → q_S → Prop} (hp : 0 ≤ p ∧ p ≤ 100) (h15 : ∀ o, 0 ≤ o → o < 8 → 0 ≤ σ 15 o ∧ σ 15 o ≤ 200000) : ∀ (n : Nat) (s : Int), n ≤ 8 → 0 ≤ s → s ≤ 200000 * (8 - n) → K (some (0, v_oa (σ 15) n (p - s))) σ → q_E L xs k_Shares_ownerAt (4, [(2, 13), (0, p), (0, s), (0, 8 - (n : Int))], [], σ) K := by
  intro n
  induction n with
  | zero =>
    intro s _ _ _ hK
    refine q_go1 200 4 [4] (fun cl ev hcl hev => ?_)
    exact And.intro (fun _ => hK) (fun z => absurd (show (8 : Int) ≤ 8 - ((0 : Nat) : Int) by decide) z)
  | succ n ih =>
    intro s hn hs hs2 hK
    have eb : 8 - ((n + 1 : Nat) : Int) = 7 - n := by omega
    have e1 : q_w32 (7 - (n : Int) + 1) = 8 - n := by rw [q_w32_id] <;> omega
    have h7 := h15 (7 - n) (by omega) (by omega)
    have e2 : q_w32 (s + σ 15 (7 - (n : Int))) = s + σ 15 (7 - n) := by rw [q_w32_id] <;> omega
    have ev_ : v_oa (σ 15) (n + 1) (p - s) = if p - s < σ 15 (7 - n) then 7 - (n : Int) else v_oa (σ 15) n (p - s - σ 15 (7 - n)) := rfl
    rw [ev_] at hK
    rw [eb]
    refine q_go1 200 4 [4] (fun cl ev hcl hev => ?_)
    refine And.intro (fun z => by exfalso; omega) (fun _ => ?_)
    refine And.intro (by omega) ?_
    refine And.intro (fun g => ?_) (fun g => ?_)
    · rw [if_neg (by omega)] at hK
      refine hev _ ?_
      rw [e1, e2]
      exact ih _ (by omega) (by omega) (by omega) (by rw [show p - (s + σ 15 (7 - (n : Int))) = p - s - σ 15 (7 - n) by omega]; exact hK)
    · rw [if_pos (by omega)] at hK
      exact hK
theorem x_oA {p : Int} {σ : q_S} {K : q_R → q_S → Prop} (hp : 0 ≤ p ∧ p ≤ 100) (h15 : ∀ o, 0 ≤ o → o < 8 → 0 ≤ σ 15 o ∧ σ 15 o ≤ 200000) (hK : K (some (0, v_oa (σ 15) 8 p)) σ) : q_K L xs i_Shares_ownerAt [(2, 13), (0, p)] σ K := by
  refine q_call k_Shares_ownerAt 4 rfl ?_
  show q_E L xs k_Shares_ownerAt (0, [(2, 13), (0, p), (9, 0), (9, 0)], [], σ) K
  refine q_go1 200 0 [4] (fun cl ev hcl hev => ?_)
  exact hev _ (xl_oA hp h15 8 0 (by omega) (by omega) (by omega) (by rw [show p - 0 = p by omega]; exact hK))
end Y1
