/-- the first of the greatest among the first n + 1 -/
def e_gn (R : Int → Int) : Nat → Int
  | 0 => 0
  | n + 1 => if R (e_gn R n) < R ((n : Int) + 1) then (n : Int) + 1 else e_gn R n
theorem e_gn_in {R : Int → Int} : ∀ n : Nat, 0 ≤ e_gn R n ∧ e_gn R n ≤ n
  | 0 => by unfold e_gn; omega
  | n + 1 => by
    have := e_gn_in (R := R) n
    unfold e_gn
    split <;> omega
theorem e_gn_c {R R' : Int → Int} : ∀ n : Nat, (∀ o : Int, 0 ≤ o → o ≤ n → R' o = R o) → e_gn R' n = e_gn R n
  | 0, _ => rfl
  | n + 1, h => by
    have ih := e_gn_c (R := R) (R' := R') n (fun o h0 h1 => h o h0 (by omega))
    have hi := e_gn_in (R := R) n
    unfold e_gn
    rw [ih, h _ hi.1 (by omega), h ((n : Int) + 1) (by omega) (by omega)]
/-- what is left is dealt one by one, the greatest rest first -/
def e_it (D R : Int → Int) : Nat → (Int → Int) × (Int → Int)
  | 0 => (D, R)
  | k + 1 => (q_fup (e_it D R k).1 (e_gn (e_it D R k).2 7) (q_w32 ((e_it D R k).1 (e_gn (e_it D R k).2 7) + 1)), q_fup (e_it D R k).2 (e_gn (e_it D R k).2 7) (-1))
def e_D (s : Int) (P : Int → Int) (o : Int) : Int := (e_it (fun o => s * P o / 360) (fun o => s * P o % 360) (s - q_ps s P 8).toNat).1 o
theorem e_ps8 {s : Int} {H : Int → Int} (h : q_s8 H = 360) : s - 8 < q_ps s H 8 := by
  have e : s * H 0 + s * H 1 + s * H 2 + s * H 3 + s * H 4 + s * H 5 + s * H 6 + s * H 7 = 360 * s := by
    have : s * q_s8 H = 360 * s := by rw [h, Int.mul_comm]
    unfold q_s8 at this
    simp only [Int.mul_add] at this
    exact this
  simp only [q_ps]
  generalize s * H 0 = a0 at *
  show s - 8 < 0 + a0 / 360 + s * H 1 / 360 + s * H 2 / 360 + s * H 3 / 360 + s * H 4 / 360 + s * H 5 / 360 + s * H 6 / 360 + s * H 7 / 360
  generalize s * H 1 = a1 at *
  generalize s * H 2 = a2 at *
  generalize s * H 3 = a3 at *
  generalize s * H 4 = a4 at *
  generalize s * H 5 = a5 at *
  generalize s * H 6 = a6 at *
  generalize s * H 7 = a7 at *
  omega
/-- what the dealing needs to know of the parts -/
def e_P (s : Int) (P : Int → Int) : Prop := (0 ≤ s ∧ s ≤ 100000) ∧ (∀ o, 0 ≤ o → o ≤ 7 → 0 ≤ P o) ∧ q_s8 P = 360
theorem e_P1 {s : Int} {P : Int → Int} (h : e_P s P) {o : Nat} (ho : o < 8) : 0 ≤ s * P o ∧ s * P o ≤ 36000000 := by
  obtain ⟨hs, hP, h8⟩ := h
  have h0 := hP o (by omega) (by omega)
  have h1 : P o ≤ 360 := by rw [← h8]; exact q_s8_le hP (by omega)
  exact ⟨Int.mul_nonneg hs.1 h0, Int.le_trans (Int.mul_le_mul hs.2 h1 h0 (by decide)) (by decide)⟩
theorem e_P2 {s : Int} {P : Int → Int} (h : e_P s P) : ∀ n : Nat, n ≤ 8 → 0 ≤ q_ps s P n ∧ q_ps s P n ≤ 100000 * n
  | 0, _ => by unfold q_ps; omega
  | n + 1, hn => by
    have ih := e_P2 h n (by omega)
    have := e_P1 h (o := n) (by omega)
    unfold q_ps
    omega
section U1
variable {L : Nat} {xs : Int → Int}
theorem xl_gr {σ : q_S} {K : q_R → q_S → Prop} (hK : K (some (0, e_gn (σ 16) 7)) σ) : ∀ (m n : Nat), (7 : Int) - n < m → (n : Int) ≤ 7 →
    q_E L xs k_Shares_greatestRest (4, [(2, 13), (0, e_gn (σ 16) n), (0, (n : Int) + 1)], [], σ) K := by
  intro m
  induction m with
  | zero => intro n; omega
  | succ m ih =>
    intro n hm hn
    have hg := e_gn_in (R := σ 16) n
    have e : q_w32 ((n : Int) + 1 + 1) = ((n + 1 : Nat) : Int) + 1 := by rw [q_w32_id] <;> omega
    have st : ∀ x, (n : Int) < 7 → x = e_gn (σ 16) (n + 1) → q_E L xs k_Shares_greatestRest (4, [(2, 13), (0, x), (0, q_w32 ((n : Int) + 1 + 1))], [], σ) K := fun x hlt ex => by
      rw [e, ex]
      exact ih (n + 1) (by omega) (by omega)
    refine q_go1 100 4 [4] (fun cl ev hcl hev => ?_)
    repeat' (first | refine And.intro ?_ ?_ | (intro hq; first | exact absurd hq (by decide) | exact absurd rfl hq | exact absurd hq (show ¬ (1 : Int) = 0 by decide) | exact absurd (show (1 : Int) ≠ 0 by decide) hq | skip))
    all_goals first
      | omega
      | (have en : n = 7 := by omega
         subst en
         exact hK)
      | (refine hev _ (st _ (by omega) ?_)
         show _ = if σ 16 (e_gn (σ 16) n) < σ 16 ((n : Int) + 1) then (n : Int) + 1 else e_gn (σ 16) n
         first
           | (rw [if_pos (by omega)]; done)
           | (rw [if_neg (by omega)]; done))
theorem x_gr {σ : q_S} {K : q_R → q_S → Prop} (hK : K (some (0, e_gn (σ 16) 7)) σ) : q_K L xs i_Shares_greatestRest [(2, 13)] σ K := by
  refine q_call k_Shares_greatestRest 3 rfl ?_
  show q_E L xs k_Shares_greatestRest (0, [(2, 13), (9, 0), (9, 0)], [], σ) K
  refine q_go1 100 0 [4] (fun cl ev hcl hev => ?_)
  exact hev _ (xl_gr hK 8 0 (by omega) (by omega))
theorem xl_la2 {s lf : Int} {D R : Int → Int} {σ0 : q_S} {K : q_R → q_S → Prop} (hl : 0 ≤ lf ∧ lf ≤ 8) (hK : ∀ σ', (∀ k i, k ≠ 15 → k ≠ 16 → σ' k i = σ0 k i) → (∀ o, 0 ≤ o → o < 8 → σ' 15 o = (e_it D R lf.toNat).1 o) → K none σ') : ∀ (m g : Nat) (σ : q_S) (y : Int) (u : Nat), lf - g < m → (g : Int) ≤ lf → (∀ k i, k ≠ 15 → k ≠ 16 → σ k i = σ0 k i) → (∀ o, 0 ≤ o → o < 8 → σ 15 o = (e_it D R g).1 o ∧ σ 16 o = (e_it D R g).2 o) →
    q_E L xs k_Shares_lay (39, [(2, 13), (0, s), (0, lf), (0, (g : Int)), (u, y)], [], σ) K := by
  intro m
  induction m with
  | zero => intro g; omega
  | succ m ih =>
    intro g σ y u hm hg f h
    have e : q_w32 ((g : Int) + 1) = ((g + 1 : Nat) : Int) := by rw [q_w32_id] <;> omega
    have eb : e_gn (σ 16) 7 = e_gn (e_it D R g).2 7 := e_gn_c 7 (fun o h0 h1 => (h o h0 (by omega)).2)
    have hb := e_gn_in (R := (e_it D R g).2) 7
    have hv := h (e_gn (e_it D R g).2 7) hb.1 (by omega)
    refine q_go1 200 39 [39] (fun cl ev hcl hev => ?_)
    refine And.intro (fun hq => ?_) (fun hq => ?_)
    · have en : lf.toNat = g := by omega
      rw [en] at hK
      exact hK _ f (fun o h0 h1 => (h o h0 h1).1)
    · refine And.intro (fun hq2 => ?_) (fun hq2 => ?_)
      · have en : lf.toNat = g := by omega
        rw [en] at hK
        exact hK _ f (fun o h0 h1 => (h o h0 h1).1)
      · show cl _ _ _ _
        refine hcl _ _ _ _ (x_gr ?_)
        rw [eb]
        refine And.intro (by omega) (And.intro (by omega) (And.intro (by omega) ?_))
        refine hev _ ?_
        rw [e]
        refine ih (g + 1) _ _ _ (by omega) (by omega) (fun k i h1 h2 => (q_un h2).trans ((q_un h1).trans (f k i h1 h2))) (fun o h0 h1 => ?_)
        rw [q_un (k' := 15) (by decide), hv.1]
        show _ = q_fup _ _ _ o ∧ _ = q_fup _ _ _ o
        unfold q_fup
        by_cases ec : o = e_gn (e_it D R g).2 7
        · rw [ec, q_ue, q_ue, if_pos rfl, if_pos rfl]; exact ⟨rfl, rfl⟩
        · rw [q_ui ec, q_ui ec, q_un (by decide), if_neg ec, if_neg ec]; exact h o h0 h1
theorem xl_la1 {s : Int} {P : Int → Int} {σ0 : q_S} {K : q_R → q_S → Prop} (hp : e_P s P) (h14 : ∀ o, 0 ≤ o → o < 8 → σ0 14 o = P o) (hK : ∀ σ', (∀ k i, k ≠ 15 → k ≠ 16 → σ' k i = σ0 k i) → (∀ o, 0 ≤ o → o < 8 → σ' 15 o = e_D s P o) → K none σ') : ∀ (m n : Nat) (σ : q_S) (y : Int) (u : Nat), (8 : Int) - n < m → (n : Int) ≤ 8 → (∀ k i, k ≠ 15 → k ≠ 16 → σ k i = σ0 k i) → (∀ o : Int, 0 ≤ o → o < n → σ 15 o = s * P o / 360 ∧ σ 16 o = s * P o % 360) →
    q_E L xs k_Shares_lay (4, [(2, 13), (0, s), (0, s - q_ps s P n), (0, (n : Int)), (u, y)], [], σ) K := by
  intro m
  induction m with
  | zero => intro n; omega
  | succ m ih =>
    intro n σ y u hm hn f h
    have e : q_w32 ((n : Int) + 1) = ((n + 1 : Nat) : Int) := by rw [q_w32_id] <;> omega
    have h2 := e_P2 hp n (by omega)
    have h8 := q_ps8 (s := s) hp.2.2
    have h9 := e_ps8 (s := s) hp.2.2
    refine q_go1 200 4 [4, 39] (fun cl ev hcl hev => ?_)
    refine And.intro (fun hq => ?_) (fun hq => ?_)
    · have en : n = 8 := by omega
      subst en
      refine hev _ (xl_la2 (by omega) hK 10 0 σ _ _ (by omega) (by omega) f h)
    · have h1 := e_P1 hp (o := n) (by omega)
      have hs := hp.1
      have e14 : σ 14 n = P n := (f 14 n (by decide) (by decide)).trans (h14 n (by omega) (by omega))
      have ed : q_w32 ((q_w32 (s * σ 14 n)).tdiv 360) = s * P n / 360 := by rw [e14, q_w32_id (x := s * P n) (by omega) (by omega), q_td (by omega), q_w32_id] <;> omega
      have er : (q_w32 (s * σ 14 n)).tmod 360 = s * P n % 360 := by rw [e14, q_w32_id (x := s * P n) (by omega) (by omega), q_tm (by omega)]
      refine And.intro (by omega) (And.intro (by omega) (And.intro (by omega) (And.intro (by omega) (And.intro (by omega) (And.intro (by omega) ?_)))))
      refine hev _ ?_
      rw [e]
      have ed2 : q_up (q_up σ 15 n (q_w32 ((q_w32 (s * σ 14 n)).tdiv 360))) 16 n ((q_w32 (s * σ 14 n)).tmod 360) 15 n = s * P n / 360 := by rw [q_un (by decide), q_ue, ed]
      rw [ed2, ed, er, q_w32_id (x := s - q_ps s P n - s * P n / 360) (by omega) (by omega), show s - q_ps s P n - s * P n / 360 = s - q_ps s P (n + 1) from by rw [show q_ps s P (n + 1) = q_ps s P n + s * P n / 360 from rfl]; omega]
      refine ih (n + 1) _ _ _ (by omega) (by omega) (fun k i h1 h2 => (q_un h2).trans ((q_un h1).trans (f k i h1 h2))) (fun o h0 h1 => ?_)
      rw [q_un (k' := 15) (by decide)]
      by_cases ec : o = n
      · rw [ec, q_ue, q_ue]; exact ⟨rfl, rfl⟩
      · rw [q_ui ec, q_ui ec, q_un (by decide)]; exact h o h0 (by omega)
theorem x_lay {s : Int} {P : Int → Int} {σ : q_S} {K : q_R → q_S → Prop} (hp : e_P s P) (h14 : ∀ o, 0 ≤ o → o < 8 → σ 14 o = P o) (hK : ∀ σ', (∀ k i, k ≠ 15 → k ≠ 16 → σ' k i = σ k i) → (∀ o, 0 ≤ o → o < 8 → σ' 15 o = e_D s P o) → K none σ') : q_K L xs i_Shares_lay [(2, 13), (0, s)] σ K := by
  refine q_call k_Shares_lay 5 rfl ?_
  show q_E L xs k_Shares_lay (0, [(2, 13), (0, s), (9, 0), (9, 0), (9, 0)], [], σ) K
  refine q_go1 200 0 [4] (fun cl ev hcl hev => ?_)
  have l := xl_la1 (L := L) (xs := xs) hp h14 hK 9 0 σ 0 9 (by omega) (by omega) (fun _ _ _ _ => rfl) (fun o h0 h1 => by omega)
  rw [show s - q_ps s P 0 = s from by unfold q_ps; omega] at l
  exact hev _ l
theorem q_pof_c {σ σ' : q_S} {c o d : Int} (h : ∀ k i, 8 ≤ k ∧ k ≤ 12 → σ' k i = σ k i) : ∀ k : Nat, q_pof σ' c o d k = q_pof σ c o d k
  | 0 => rfl
  | k + 1 => by
    unfold q_pof
    rw [q_pof_c h k, h 8 k (by omega), h 9 k (by omega), h 10 k (by omega), h 11 k (by omega), h 12 k (by omega)]
theorem xl_sum {d n : Int} {σ0 : q_S} {K : q_R → q_S → Prop} (hb : 0 ≤ σ0 7 5 ∧ σ0 7 5 ≤ 120) (hn0 : 0 ≤ n) (hp : ∀ j : Nat, (j : Int) < σ0 7 5 → 0 ≤ σ0 11 j ∧ σ0 11 j ≤ 12) (hK : ∀ σ', (∀ k i, k ≠ 14 → σ' k i = σ0 k i) → (∀ o, 0 ≤ o → o < 8 → σ' 14 o = q_pof σ0 (-1) o d (min n (σ0 7 5)).toNat) → K none σ') : ∀ (m i : Nat) (σ : q_S), (8 : Int) - i < m → (i : Int) ≤ 8 → (∀ k j, k ≠ 14 → σ k j = σ0 k j) → (∀ o : Int, 0 ≤ o → o < i → σ 14 o = q_pof σ0 (-1) o d (min n (σ0 7 5)).toNat) →
    q_E L xs k_Sales_sumParts (2, [(2, 7), (2, 14), (0, d), (0, n), (0, (i : Int))], [], σ) K := by
  intro m
  induction m with
  | zero => intro i; omega
  | succ m ih =>
    intro i σ hm hi f h
    have e : q_w32 ((i : Int) + 1) = ((i + 1 : Nat) : Int) := by rw [q_w32_id] <;> omega
    have e5 := f 7 5 (by decide)
    refine q_go1 200 2 [2] (fun cl ev hcl hev => ?_)
    refine And.intro (fun hq => ?_) (fun hq => ?_)
    · have en : i = 8 := by omega
      subst en
      exact hK _ f h
    · show cl _ _ _ _
      refine hcl _ _ _ _ (c_partsX (by omega) hn0 (fun j hj => by rw [f 11 j (by decide)]; exact hp j (by omega)) ?_)
      rw [e5, q_pof_c (fun k i hk => f k i (by omega))]
      refine And.intro (by omega) ?_
      refine hev _ ?_
      rw [e]
      refine ih (i + 1) _ (by omega) (by omega) (fun k j hk => (q_un hk).trans (f k j hk)) (fun o h0 h1 => ?_)
      by_cases ec : o = i
      · rw [ec, q_ue]
      · rw [q_ui ec]; exact h o h0 (by omega)
theorem x_sum {d n : Int} {σ : q_S} {K : q_R → q_S → Prop} (hb : 0 ≤ σ 7 5 ∧ σ 7 5 ≤ 120) (hn0 : 0 ≤ n) (hp : ∀ j : Nat, (j : Int) < σ 7 5 → 0 ≤ σ 11 j ∧ σ 11 j ≤ 12) (hK : ∀ σ', (∀ k i, k ≠ 14 → σ' k i = σ k i) → (∀ o, 0 ≤ o → o < 8 → σ' 14 o = q_pof σ (-1) o d (min n (σ 7 5)).toNat) → K none σ') : q_K L xs i_Sales_sumParts [(2, 7), (2, 14), (0, d), (0, n)] σ K := by
  refine q_call k_Sales_sumParts 5 rfl ?_
  show q_E L xs k_Sales_sumParts (0, [(2, 7), (2, 14), (0, d), (0, n), (9, 0)], [], σ) K
  refine q_go1 200 0 [2] (fun cl ev hcl hev => ?_)
  exact hev _ (xl_sum hb hn0 hp hK 9 0 σ (by omega) (by omega) (fun _ _ _ => rfl) (fun o h0 h1 => by omega))
theorem x_scot {s w : Int} {P : Int → Int} {σ : q_S} {K : q_R → q_S → Prop} (hb : 0 ≤ σ 7 5 ∧ σ 7 5 ≤ 120) (hp : ∀ j : Nat, (j : Int) < σ 7 5 → 0 ≤ σ 11 j ∧ σ 11 j ≤ 12) (hP : (0 ≤ s ∧ s ≤ 100000) → e_P s P) (hq : ∀ o, 0 ≤ o → o < 8 → q_pof σ (-1) o (σ 0 10) (σ 7 5).toNat = P o) (h0 : ¬ (0 ≤ w ∧ w ≤ 7) → K (some (0, -1)) σ) (h2 : (0 ≤ w ∧ w ≤ 7 ∧ ¬ (0 ≤ s ∧ s ≤ 100000)) → K (some (0, -2)) σ) (h1 : (0 ≤ w ∧ w ≤ 7 ∧ 0 ≤ s ∧ s ≤ 100000) → ∀ σ', (∀ k i, k ≠ 14 → k ≠ 15 → k ≠ 16 → σ' k i = σ k i) → K (some (0, e_D s P w)) σ') : q_K L xs i_A_scot [(2, 0), (0, s), (0, w)] σ K := by
  refine q_call k_A_scot 3 rfl ?_
  show q_E L xs k_A_scot (0, [(2, 0), (0, s), (0, w)], [], σ) K
  refine q_go1 200 0 [] (fun cl ev hcl hev => ?_)
  show cl _ _ _ _
  refine hcl _ _ _ _ (c_A_isOwner (fun g => ?_) (fun g => ?_))
  · refine And.intro (fun _ => ?_) (fun z => absurd (show (1 : Int) ≠ 0 by decide) z)
    show cl _ _ _ _
    refine hcl _ _ _ _ (c_A_within (fun g2 => ?_) (fun g2 => ?_))
    · refine And.intro (fun _ => ?_) (fun z => absurd (show (1 : Int) ≠ 0 by decide) z)
      show cl _ _ _ _
      refine hcl _ _ _ _ (x_sum hb hb.1 hp (fun σ1 f1 h14 => ?_))
      rw [show min (σ 7 5) (σ 7 5) = σ 7 5 by omega] at h14
      show cl _ _ _ _
      refine hcl _ _ _ _ (x_lay (P := P) (hP g2) (fun o o0 o1 => (h14 o o0 o1).trans (hq o o0 o1)) (fun σ2 f2 h15 => ?_))
      refine And.intro (by omega) ?_
      show K (some (0, σ2 15 w)) σ2
      rw [h15 w (by omega) (by omega)]
      exact h1 (by omega) σ2 (fun k i a b c => (f2 k i b c).trans (f1 k i a))
    · exact And.intro (fun z => absurd rfl z) (fun _ => h2 (by omega))
  · exact And.intro (fun z => absurd rfl z) (fun _ => h0 (by omega))
end U1

