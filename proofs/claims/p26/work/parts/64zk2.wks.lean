/-! works, of the one side -/
theorem q_a64m (x : Int) : q_and64 x 16777215 = x % 16777216 := by
  unfold q_and64
  have h : (BitVec.ofInt 64 x &&& BitVec.ofInt 64 16777215).toNat = (x % 16777216).toNat := by
    rw [BitVec.toNat_and, BitVec.toNat_ofInt, BitVec.toNat_ofInt]
    have e : ((16777215 : Int) % ((2 ^ 64 : Nat) : Int)).toNat = 2 ^ 24 - 1 := by decide
    rw [e, Nat.and_two_pow_sub_one_eq_mod]
    omega
  rw [BitVec.toInt_eq_toNat_cond, h, if_pos (by omega)]
  omega
def w_iv (N G : Int → Int) (r : Nat) (σ : q_S) (j : Int) : Prop := σ 97 j = w_V N G r j 0 ∧ σ 98 j = w_V N G r j 1 ∧ σ 99 j = w_V N G r j 2
def w_fr (σ0 σ : q_S) : Prop := ∀ k i, k ≠ 97 → k ≠ 98 → k ≠ 99 → σ k i = σ0 k i
section V2
variable {L : Nat} {xs : Int → Int}
theorem xl_fl97 {v : Int} {σ : q_S} {K : q_R → q_S → Prop} (hK : K none (y_fill 97 v σ 201)) : ∀ (m n : Nat), (201 : Int) - n < m → (n : Int) ≤ 201 →
    q_E L xs k_Arrays_fill (5, [(2, 97), (1, v), (9, 0), (0, (n : Int)), (0, 201)], [], y_fill 97 v σ n) K := by
  intro m
  induction m with
  | zero => intro n; omega
  | succ m ih =>
    intro n hm hn
    have e : q_w32 ((n : Int) + 1) = ((n + 1 : Nat) : Int) := by rw [q_w32_id] <;> omega
    refine q_go1 200 5 [5] (fun cl ev hcl hev => ?_)
    refine And.intro (fun g => ?_) (fun g => ?_)
    · have en : n = 201 := by omega
      subst en
      exact hK
    · refine And.intro (by omega) ?_
      refine hev _ ?_
      rw [e]
      exact ih (n + 1) (by omega) (by omega)
theorem x_fl97 {v : Int} {σ : q_S} {K : q_R → q_S → Prop} (hK : K none (y_fill 97 v σ 201)) : q_K L xs i_Arrays_fill [(2, 97), (1, v)] σ K := by
  refine q_call k_Arrays_fill 5 rfl ?_
  show q_E L xs k_Arrays_fill (0, [(2, 97), (1, v), (9, 0), (9, 0), (9, 0)], [], σ) K
  refine q_go1 200 0 [5] (fun cl ev hcl hev => ?_)
  exact hev _ (xl_fl97 hK 202 0 (by omega) (by omega))
theorem xl_fl98 {v : Int} {σ : q_S} {K : q_R → q_S → Prop} (hK : K none (y_fill 98 v σ 201)) : ∀ (m n : Nat), (201 : Int) - n < m → (n : Int) ≤ 201 →
    q_E L xs k_Arrays_fill (5, [(2, 98), (1, v), (9, 0), (0, (n : Int)), (0, 201)], [], y_fill 98 v σ n) K := by
  intro m
  induction m with
  | zero => intro n; omega
  | succ m ih =>
    intro n hm hn
    have e : q_w32 ((n : Int) + 1) = ((n + 1 : Nat) : Int) := by rw [q_w32_id] <;> omega
    refine q_go1 200 5 [5] (fun cl ev hcl hev => ?_)
    refine And.intro (fun g => ?_) (fun g => ?_)
    · have en : n = 201 := by omega
      subst en
      exact hK
    · refine And.intro (by omega) ?_
      refine hev _ ?_
      rw [e]
      exact ih (n + 1) (by omega) (by omega)
theorem x_fl98 {v : Int} {σ : q_S} {K : q_R → q_S → Prop} (hK : K none (y_fill 98 v σ 201)) : q_K L xs i_Arrays_fill [(2, 98), (1, v)] σ K := by
  refine q_call k_Arrays_fill 5 rfl ?_
  show q_E L xs k_Arrays_fill (0, [(2, 98), (1, v), (9, 0), (9, 0), (9, 0)], [], σ) K
  refine q_go1 200 0 [5] (fun cl ev hcl hev => ?_)
  exact hev _ (xl_fl98 hK 202 0 (by omega) (by omega))
theorem xl_fl99 {v : Int} {σ : q_S} {K : q_R → q_S → Prop} (hK : K none (y_fill 99 v σ 201)) : ∀ (m n : Nat), (201 : Int) - n < m → (n : Int) ≤ 201 →
    q_E L xs k_Arrays_fill (5, [(2, 99), (1, v), (9, 0), (0, (n : Int)), (0, 201)], [], y_fill 99 v σ n) K := by
  intro m
  induction m with
  | zero => intro n; omega
  | succ m ih =>
    intro n hm hn
    have e : q_w32 ((n : Int) + 1) = ((n + 1 : Nat) : Int) := by rw [q_w32_id] <;> omega
    refine q_go1 200 5 [5] (fun cl ev hcl hev => ?_)
    refine And.intro (fun g => ?_) (fun g => ?_)
    · have en : n = 201 := by omega
      subst en
      exact hK
    · refine And.intro (by omega) ?_
      refine hev _ ?_
      rw [e]
      exact ih (n + 1) (by omega) (by omega)
theorem x_fl99 {v : Int} {σ : q_S} {K : q_R → q_S → Prop} (hK : K none (y_fill 99 v σ 201)) : q_K L xs i_Arrays_fill [(2, 99), (1, v)] σ K := by
  refine q_call k_Arrays_fill 5 rfl ?_
  show q_E L xs k_Arrays_fill (0, [(2, 99), (1, v), (9, 0), (9, 0), (9, 0)], [], σ) K
  refine q_go1 200 0 [5] (fun cl ev hcl hev => ?_)
  exact hev _ (xl_fl99 hK 202 0 (by omega) (by omega))
theorem xl_wo {c h f : Int} {σ : q_S} {K : q_R → q_S → Prop} (hf : 0 ≤ f ∧ f ≤ 24) (hh : -1 ≤ h ∧ h ≤ 99) (hl : ∀ i, 0 ≤ σ 2 i ∧ σ 2 i ≤ 60) (hK : K (some (1, w_wo (σ 2) f h 6)) σ) : ∀ (m k : Nat), (6 : Int) - k < m → (k : Int) ≤ 6 → q_E L xs k_Plan_worthOf (10, [(0, c), (2, 1), (0, h), (0, f), (1, w_wo (σ 2) f h k), (9, 0), (0, f + (k : Int))], [], σ) K := by
  intro m
  induction m with
  | zero => intro k; omega
  | succ m ih =>
    intro k hm hk
    have e : q_w32 (f + (k : Int) + 1) = f + ((k + 1 : Nat) : Int) := by rw [q_w32_id] <;> omega
    have e6 : q_w32 (f + 6) = f + 6 := by rw [q_w32_id] <;> omega
    have es : w_wo (σ 2) f h (k + 1) = w_wo (σ 2) f h k + max 0 (h - σ 2 (f + k)) := rfl
    have hb := w_wo_b (l := σ 2) (f := f) hh.2 (fun i => (hl i).1) k
    have hl1 := hl (f + k)
    refine q_go1 100 10 [10] (fun cl ev hcl hev => ?_)
    refine And.intro (fun g => ?_) (fun g => ?_)
    · have ek : k = 6 := by omega
      subst ek
      exact hK
    · refine And.intro (by omega) ?_
      refine hev _ ?_
      rw [e, q_w32_id (x := h - σ 2 (f + k)) (by omega) (by omega), q_w64_id (by omega) (by omega), ← es]
      exact ih (k + 1) (by omega) (by omega)
theorem x_wo {c h : Int} {σ : q_S} {K : q_R → q_S → Prop} (hc : 0 ≤ c ∧ c < 30) (hh : -1 ≤ h ∧ h ≤ 99) (hl : ∀ i, 0 ≤ σ 2 i ∧ σ 2 i ≤ 60) (hK : K (some (1, w_wo (σ 2) (c - c % 6) h 6)) σ) : q_K L xs i_Plan_worthOf [(0, c), (2, 1), (0, h)] σ K := by
  have e : q_w32 (c - c.tmod 6) = c - c % 6 := by rw [q_tm (by omega), q_w32_id] <;> omega
  refine q_call k_Plan_worthOf 7 rfl ?_
  show q_E L xs k_Plan_worthOf (0, [(0, c), (2, 1), (0, h), (9, 0), (9, 0), (9, 0), (9, 0)], [], σ) K
  refine q_go1 100 0 [10] (fun cl ev hcl hev => ?_)
  refine And.intro (by decide) ?_
  refine hev _ ?_
  rw [e]
  have l := xl_wo (L := L) (xs := xs) (c := c) (f := c - c % 6) (by omega) hh hl hK 7 0 (by omega) (by omega)
  rw [show c - c % 6 + ((0 : Nat) : Int) = c - c % 6 by omega] at l
  exact l
theorem xl_ned {h : Int} {σ : q_S} {K : q_R → q_S → Prop} (hs : 0 ≤ σ 17 9 ∧ σ 17 9 ≤ 24) (hh : -1 ≤ h ∧ h ≤ 99) (h20 : ∀ i, 0 ≤ σ 20 i ∧ σ 20 i ≤ 99) (hK : K (some (0, w_A (fun j => h - σ 20 j) (σ 17 9).toNat)) σ) : ∀ (m k : Nat), σ 17 9 - k < m → (k : Int) ≤ σ 17 9 → w_A (fun j => h - σ 20 j) k ≤ 99 * (k : Int) → q_E L xs k_Plan_allNeeds (4, [(2, 17), (0, h), (0, w_A (fun j => h - σ 20 j) k), (0, (k : Int))], [], σ) K := by
  intro m
  induction m with
  | zero => intro k; omega
  | succ m ih =>
    intro k hm hk hA
    have e : q_w32 ((k : Int) + 1) = ((k + 1 : Nat) : Int) := by rw [q_w32_id] <;> omega
    have es : w_A (fun j => h - σ 20 j) (k + 1) = w_A (fun j => h - σ 20 j) k + max 0 (h - σ 20 k) := rfl
    have nn := w_A_nn (N := fun j => h - σ 20 j) k
    have hk2 := h20 k
    refine q_go1 100 4 [4] (fun cl ev hcl hev => ?_)
    refine And.intro (fun g => ?_) (fun g => ?_)
    · rw [show (σ 17 9).toNat = k by omega] at hK
      exact hK
    · refine And.intro (by omega) ?_
      refine hev _ ?_
      rw [e, q_w32_id (x := h - σ 20 k) (by omega) (by omega), q_w32_id (by omega) (by omega), ← es]
      exact ih (k + 1) (by omega) (by omega) (by omega)
theorem x_ned {h : Int} {σ : q_S} {K : q_R → q_S → Prop} (hs : 0 ≤ σ 17 9 ∧ σ 17 9 ≤ 24) (hh : -1 ≤ h ∧ h ≤ 99) (h20 : ∀ i, 0 ≤ σ 20 i ∧ σ 20 i ≤ 99) (hK : K (some (0, w_A (fun j => h - σ 20 j) (σ 17 9).toNat)) σ) : q_K L xs i_Plan_allNeeds [(2, 17), (0, h)] σ K := by
  refine q_call k_Plan_allNeeds 4 rfl ?_
  show q_E L xs k_Plan_allNeeds (0, [(2, 17), (0, h), (9, 0), (9, 0)], [], σ) K
  refine q_go1 100 0 [4] (fun cl ev hcl hev => ?_)
  exact hev _ (xl_ned hs hh h20 hK 25 0 (by omega) (by omega) (by show (0 : Int) ≤ 99 * ((0 : Nat) : Int); omega))
theorem x_bf {n : Int} {σ : q_S} {K : q_R → q_S → Prop} (hn : 0 ≤ n ∧ n < 201) (hK : K (some (1, max (σ 97 n) (max (σ 98 n) (σ 99 n)))) σ) : q_K L xs i_Plan_bestFor [(2, 96), (0, n)] σ K := by
  refine q_call k_Plan_bestFor 2 rfl ?_
  show q_E L xs k_Plan_bestFor (0, [(2, 96), (0, n)], [], σ) K
  refine q_go1 100 0 [] (fun cl ev hcl hev => ?_)
  exact And.intro (by omega) (And.intro (by omega) (And.intro (by omega) hK))
theorem xl_co {N G : Int → Int} {r : Nat} {E nd gn : Int} {σ0 : q_S} {K : q_R → q_S → Prop} (hr : r + 1 ≤ 24) (hG : w_G G (r + 1)) (hN : nd = N r) (hg : gn = G r) (hnd : -100 ≤ nd ∧ nd ≤ 100) (hE : 0 ≤ E ∧ E < 201) (hK : ∀ σ', w_fr σ0 σ' → (∀ j, 0 ≤ j → j ≤ E → w_iv N G (r + 1) σ' j) → K none σ') :
    ∀ (k : Nat) (σ : q_S) (x6 : Int) (u6 : Nat) (x8 : Int) (u8 : Nat), (k : Int) ≤ E + 1 → w_fr σ0 σ → (∀ j : Int, 0 ≤ j → j < (k : Int) → w_iv N G r σ j) → (∀ j : Int, (k : Int) ≤ j → j ≤ E → w_iv N G (r + 1) σ j) → q_E L xs k_Plan_consider (2, [(2, 96), (0, nd), (1, gn), (9, 0), (0, E), (0, (k : Int) - 1), (u6, x6), (9, 0), (u8, x8)], [], σ) K := by
  have hG' : w_G G r := fun j hj => hG j (by omega)
  intro k
  induction k with
  | zero =>
    intro σ x6 u6 x8 u8 hk f h0 h1
    refine q_go1 200 2 [2] (fun cl ev hcl hev => ?_)
    exact And.intro (fun _ => hK σ f (fun j a b => h1 j (by omega) b)) (fun z => absurd (show ((0 : Nat) : Int) - 1 < 0 by decide) z)
  | succ k ih =>
    intro σ x6 u6 x8 u8 hk f h0 h1
    have ek : ((k + 1 : Nat) : Int) - 1 = (k : Int) := by omega
    have e : q_w32 ((k : Int) + -1) = (k : Int) - 1 := by rw [q_w32_id] <;> omega
    have en : q_w32 ((k : Int) - nd) = (k : Int) - nd := by rw [q_w32_id] <;> omega
    obtain ⟨i0, i1, i2⟩ := h0 k (by omega) (by omega)
    have v1 := w_V_1 (N := N) (G := G) (r := r) (n := (k : Int))
    have v2 := w_V_2 (N := N) (G := G) (r := r) (n := (k : Int))
    have b1 := w_V_b (N := N) (G := G) (r := r + 1) hr hG (k : Int) (s := 1) (by omega)
    have b2 := w_V_b (N := N) (G := G) (r := r + 1) hr hG (k : Int) (s := 2) (by omega)
    rw [← hN, ← hg] at v1 v2
    -- the end of one turn
    have fin : ∀ P S (x8 : Int) (u8 : Nat), P = w_V N G (r + 1) k 2 → S = w_V N G (r + 1) k 1 → q_E L xs k_Plan_consider (58, [(2, 96), (0, nd), (1, gn), (9, 0), (0, E), (0, (k : Int)), (1, max (σ 97 k) (max (σ 98 k) (σ 99 k))), (9, 0), (u8, x8)], [], q_up (q_up σ 99 k P) 98 k S) K := fun P S x8 u8 eP eS => by
      refine q_go1 200 58 [2] (fun cl ev hcl hev => ?_)
      refine And.intro (by omega) ?_
      refine hev _ ?_
      rw [e]
      refine ih _ _ 1 _ _ (by omega) (fun a b c1 c2 c3 => (q_un c1).trans ((q_un c2).trans ((q_un c3).trans (f a b c1 c2 c3)))) (fun j a b => ?_) (fun j a b => ?_)
      · obtain ⟨j0, j1, j2⟩ := h0 j a (by omega)
        have ne : j ≠ (k : Int) := by omega
        exact ⟨(q_ui ne).trans ((q_ui ne).trans ((q_ui ne).trans j0)), (q_ui ne).trans ((q_ui ne).trans ((q_ui ne).trans j1)), (q_ui ne).trans ((q_ui ne).trans ((q_ui ne).trans j2))⟩
      · by_cases ne : j = (k : Int)
        · rw [ne]
          refine ⟨?_, ?_, ?_⟩
          · rw [q_ue, w_V_0, i0, i1, i2]
          · rw [q_un (by decide), q_ue, eS]
          · rw [q_un (by decide), q_un (by decide), q_ue, eP]
        · obtain ⟨j0, j1, j2⟩ := h1 j (by omega) b
          exact ⟨(q_ui ne).trans ((q_ui ne).trans ((q_ui ne).trans j0)), (q_ui ne).trans ((q_ui ne).trans ((q_ui ne).trans j1)), (q_ui ne).trans ((q_ui ne).trans ((q_ui ne).trans j2))⟩
    rw [ek]
    refine q_go1 200 2 [17] (fun cl ev hcl hev => ?_)
    refine And.intro (fun z => by exfalso; omega) (fun _ => ?_)
    show cl _ _ _ _
    refine hcl _ _ _ _ (x_bf (by omega) ?_)
    by_cases hf : 0 < nd ∧ nd ≤ k
    · obtain ⟨d0, d1, d2⟩ := h0 (k - nd) (by omega) (by omega)
      rw [if_pos hf] at v1
      refine And.intro (fun z => by exfalso; omega) (fun _ => ?_)
      refine And.intro (fun z => by exfalso; omega) (fun _ => ?_)
      refine hev _ ?_
      -- then single
      have seg : ∀ P, P = w_V N G (r + 1) k 2 → q_E L xs k_Plan_consider (42, [(2, 96), (0, nd), (1, gn), (9, 0), (0, E), (0, (k : Int)), (1, max (σ 97 k) (max (σ 98 k) (σ 99 k))), (9, 0), (0, 1)], [], q_up σ 99 k P) K := fun P eP => by
        have es : q_w64 (q_up σ 99 k P 97 (q_w32 ((k : Int) - nd)) + gn) = w_V N G (r + 1) k 1 := by rw [en, q_un (by decide), d0, ← v1, q_w64_id] <;> omega
        refine q_go1 200 42 [58] (fun cl ev hcl hev => ?_)
        refine And.intro (fun z => absurd z (show ¬ (1 : Int) = 0 by decide)) (fun _ => ?_)
        refine And.intro (by omega) ?_
        refine And.intro (by omega) ?_
        refine hev _ ?_
        rw [es]
        exact fin P _ 1 0 eP rfl
      by_cases hs : σ 98 (k - nd) = -1
      · rw [if_neg (fun z => z.2 (by rw [← d1]; exact hs))] at v2
        refine q_go1 200 17 [42] (fun cl ev hcl hev => ?_)
        refine And.intro (fun z => absurd z (show ¬ (1 : Int) = 0 by decide)) (fun _ => ?_)
        refine And.intro (by omega) ?_
        refine And.intro (fun _ => ?_) (fun z => absurd (show (if σ 98 (q_w32 ((k : Int) - nd)) < -1 then (-1 : Int) else if σ 98 (q_w32 ((k : Int) - nd)) = -1 then 0 else 1) = 0 by rw [en, hs]; decide) z)
        refine And.intro (by omega) ?_
        exact hev _ (seg _ v2.symm)
      · rw [if_pos ⟨hf, by rw [← d1]; exact hs⟩] at v2
        have ep : q_w64 (σ 98 (q_w32 ((k : Int) - nd)) + gn) = w_V N G (r + 1) k 2 := by rw [en, d1, ← v2, q_w64_id] <;> omega
        refine q_go1 200 17 [42] (fun cl ev hcl hev => ?_)
        refine And.intro (fun z => absurd z (show ¬ (1 : Int) = 0 by decide)) (fun _ => ?_)
        refine And.intro (by omega) ?_
        refine And.intro (fun z => ?_) (fun _ => ?_)
        · exfalso
          have z : (if σ 98 (q_w32 ((k : Int) - nd)) < -1 then (-1 : Int) else if σ 98 (q_w32 ((k : Int) - nd)) = -1 then 0 else 1) = 0 := z
          rw [en] at z
          split at z
          all_goals first
            | omega
            | (rw [if_neg hs] at z; omega)
        · refine And.intro (by omega) ?_
          refine And.intro (by omega) ?_
          refine hev _ ?_
          rw [ep]
          exact seg _ rfl
    · rw [if_neg hf] at v1
      rw [if_neg (fun z => hf z.1)] at v2
      have seg : q_E L xs k_Plan_consider (17, [(2, 96), (0, nd), (1, gn), (9, 0), (0, E), (0, (k : Int)), (1, max (σ 97 k) (max (σ 98 k) (σ 99 k))), (9, 0), (0, 0)], [], σ) K := by
        refine q_go1 200 17 [42] (fun cl ev hcl hev => ?_)
        refine And.intro (fun _ => ?_) (fun z => absurd rfl z)
        refine And.intro (by omega) ?_
        refine hev _ ?_
        refine q_go1 200 42 [58] (fun cl ev hcl hev => ?_)
        refine And.intro (fun _ => ?_) (fun z => absurd rfl z)
        refine And.intro (by omega) ?_
        exact hev _ (fin _ _ 0 0 v2.symm v1.symm)
      refine And.intro (fun _ => hev _ seg) (fun z => ?_)
      refine And.intro (fun _ => hev _ seg) (fun z2 => by exfalso; omega)
theorem x_co {N G : Int → Int} {r : Nat} {E nd gn : Int} {σ : q_S} {K : q_R → q_S → Prop} (hr : r + 1 ≤ 24) (hG : w_G G (r + 1)) (hN : nd = N r) (hg : gn = G r) (hnd : -100 ≤ nd ∧ nd ≤ 100) (hE : 0 ≤ E ∧ E < 201) (h0 : ∀ j, 0 ≤ j → j ≤ E → w_iv N G r σ j) (hK : ∀ σ', w_fr σ σ' → (∀ j, 0 ≤ j → j ≤ E → w_iv N G (r + 1) σ' j) → K none σ') : q_K L xs i_Plan_consider [(2, 96), (0, nd), (1, gn), (0, E)] σ K := by
  refine q_call k_Plan_consider 9 rfl ?_
  show q_E L xs k_Plan_consider (0, [(2, 96), (0, nd), (1, gn), (9, 0), (0, E), (9, 0), (9, 0), (9, 0), (9, 0)], [], σ) K
  refine q_go1 200 0 [2] (fun cl ev hcl hev => ?_)
  have l := xl_co (L := L) (xs := xs) hr hG hN hg hnd hE hK (E + 1).toNat σ 0 9 0 9 (by omega) (fun _ _ _ _ _ => rfl) (fun j a b => h0 j a (by omega)) (fun j a b => by omega)
  rw [show (((E + 1).toNat : Nat) : Int) - 1 = E by omega] at l
  exact hev _ l
theorem xl_hf {h : Int} {σ : q_S} {K : q_R → q_S → Prop} (hs : 0 ≤ σ 17 9 ∧ σ 17 9 ≤ 24) (hK : K (some (0, w_hf (σ 20) (σ 96 4) h (σ 17 9).toNat)) σ) : ∀ (m k : Nat), σ 17 9 - k < m → (k : Int) ≤ σ 17 9 → q_E L xs k_Plan_handsFor (4, [(2, 96), (2, 17), (0, h), (0, w_hf (σ 20) (σ 96 4) h k), (0, (k : Int))], [], σ) K := by
  intro m
  induction m with
  | zero => intro k; omega
  | succ m ih =>
    intro k hm hk
    have e : q_w32 ((k : Int) + 1) = ((k + 1 : Nat) : Int) := by rw [q_w32_id] <;> omega
    have es : w_hf (σ 20) (σ 96 4) h (k + 1) = q_w32 (w_hf (σ 20) (σ 96 4) h k + (if q_and32 (σ 96 4 / 2 ^ (((k : Int) % 32).toNat)) 1 = 1 then q_w32 (h - σ 20 k) else 0)) := rfl
    refine q_go1 100 4 [4] (fun cl ev hcl hev => ?_)
    refine And.intro (fun g => ?_) (fun g => ?_)
    · rw [show (σ 17 9).toNat = k by omega] at hK
      exact hK
    · refine And.intro (fun g2 => ?_) (fun g2 => ?_)
      · rw [if_neg g2] at es
        refine hev _ ?_
        rw [e, ← es]
        exact ih (k + 1) (by omega) (by omega)
      · rw [if_pos (Decidable.not_not.mp g2)] at es
        refine And.intro (by omega) ?_
        refine hev _ ?_
        rw [e, ← es]
        exact ih (k + 1) (by omega) (by omega)
theorem x_hf {h : Int} {σ : q_S} {K : q_R → q_S → Prop} (hs : 0 ≤ σ 17 9 ∧ σ 17 9 ≤ 24) (hK : K (some (0, w_hf (σ 20) (σ 96 4) h (σ 17 9).toNat)) σ) : q_K L xs i_Plan_handsFor [(2, 96), (2, 17), (0, h)] σ K := by
  refine q_call k_Plan_handsFor 5 rfl ?_
  show q_E L xs k_Plan_handsFor (0, [(2, 96), (2, 17), (0, h), (9, 0), (9, 0)], [], σ) K
  refine q_go1 100 0 [4] (fun cl ev hcl hev => ?_)
  exact hev _ (xl_hf hs hK 25 0 (by omega) (by omega))
/-- a rod's gain, by the cells of one side -/
def w_ga (σ : q_S) (h : Int) (j : Int) : Int := w_wo (σ 2) (σ 18 j - σ 18 j % 6) h 6 * 16777216 - (2 : Int) ^ j.toNat
theorem w_ga_G {σ : q_S} {h : Int} (hh : h ≤ 99) (hl : ∀ i, 0 ≤ σ 2 i) (R : Nat) : w_G (w_ga σ h) R := fun j _ => by
  have := w_wo_b (l := σ 2) (f := σ 18 j - σ 18 j % 6) hh hl 6
  refine ⟨w_wo (σ 2) (σ 18 j - σ 18 j % 6) h 6, ?_, by omega, by omega⟩
  unfold w_ga
  rw [show ((j : Nat) : Int).toNat = j by omega]
theorem xl_dr {h lim E : Int} {σ0 : q_S} {K : q_R → q_S → Prop} (hs : 0 ≤ σ0 17 9 ∧ σ0 17 9 ≤ 24) (hh : -1 ≤ h ∧ h ≤ 99) (hE : 0 ≤ E ∧ E < 201) (hl : ∀ i, 0 ≤ σ0 2 i ∧ σ0 2 i ≤ 60) (h20 : ∀ i, 0 ≤ σ0 20 i ∧ σ0 20 i ≤ 99) (h18 : ∀ i, 0 ≤ σ0 18 i ∧ σ0 18 i < 30)
    (hK : ∀ σ' (x7 : Int) (u7 : Nat), w_fr σ0 σ' → (∀ j, 0 ≤ j → j ≤ E → w_iv (fun j => h - σ0 20 j) (w_ga σ0 h) (σ0 17 9).toNat σ' j) → q_E L xs k_Plan_draw (50, [(2, 96), (2, 17), (2, 1), (0, h), (0, lim), (0, E), (0, σ0 17 9), (u7, x7), (9, 0)], [], σ') K) :
    ∀ (m r : Nat) (σ : q_S) (x7 : Int) (u7 : Nat), σ0 17 9 - r < m → (r : Int) ≤ σ0 17 9 → w_fr σ0 σ → (∀ j, 0 ≤ j → j ≤ E → w_iv (fun j => h - σ0 20 j) (w_ga σ0 h) r σ j) → q_E L xs k_Plan_draw (20, [(2, 96), (2, 17), (2, 1), (0, h), (0, lim), (0, E), (0, (r : Int)), (u7, x7), (9, 0)], [], σ) K := by
  intro m
  induction m with
  | zero => intro r; omega
  | succ m ih =>
    intro r σ x7 u7 hm hrm f iv
    have e : q_w32 ((r : Int) + 1) = ((r + 1 : Nat) : Int) := by rw [q_w32_id] <;> omega
    have e9 : σ 17 9 = σ0 17 9 := f 17 9 (by decide) (by decide) (by decide)
    refine q_go1 200 20 [20, 50] (fun cl ev hcl hev => ?_)
    refine And.intro (fun g => ?_) (fun g => ?_)
    · have er : (r : Int) = σ0 17 9 := by omega
      rw [show r = (σ0 17 9).toNat by omega] at iv
      rw [er]
      exact hev _ (hK σ x7 u7 f iv)
    · have e18 : σ 18 r = σ0 18 r := f 18 r (by decide) (by decide) (by decide)
      have e20 : σ 20 r = σ0 20 r := f 20 r (by decide) (by decide) (by decide)
      have e2 : σ 2 = σ0 2 := funext (fun i => f 2 i (by decide) (by decide) (by decide))
      have h18 := h18 r
      have h20 := h20 r
      have hw := w_wo_b (l := σ0 2) (f := σ0 18 r - σ0 18 r % 6) hh.2 (fun i => (hl i).1) 6
      have hp := p2_b (r := r) (by omega)
      refine And.intro (by omega) ?_
      show cl _ _ _ _
      refine hcl _ _ _ _ (x_wo (by omega) hh (by rw [e2]; exact hl) ?_)
      rw [e18, e2]
      have eg : q_w64 (q_w64 (w_wo (σ0 2) (σ0 18 r - σ0 18 r % 6) h 6 * 2 ^ ((24 : Int) % 64).toNat) - q_w64 (1 * 2 ^ ((r : Int) % 64).toNat)) = w_ga σ0 h r := by
        unfold w_ga
        rw [show ((24 : Int) % 64).toNat = 24 by decide, show ((r : Int) % 64).toNat = r by omega, show ((r : Int)).toNat = r by omega, show (2 : Int) ^ 24 = 16777216 by decide, Int.one_mul]
        generalize w_wo (σ0 2) (σ0 18 r - σ0 18 r % 6) h 6 = w at *
        generalize (2 : Int) ^ r = p at *
        rw [q_w64_id (x := w * 16777216) (by omega) (by omega), q_w64_id (x := p) (by omega) (by omega), q_w64_id] <;> omega
      refine And.intro (by omega) ?_
      show cl _ _ _ _
      show cl _ [(2, 96), (0, q_w32 (h - σ 20 r)), (1, q_w64 (q_w64 (w_wo (σ0 2) (σ0 18 r - σ0 18 r % 6) h 6 * 2 ^ ((24 : Int) % 64).toNat) - q_w64 (1 * 2 ^ ((r : Int) % 64).toNat))), (0, E)] _ _
      rw [eg, e20, q_w32_id (x := h - σ0 20 r) (by omega) (by omega)]
      refine hcl _ _ _ _ (x_co (N := fun j => h - σ0 20 j) (G := w_ga σ0 h) (r := r) (by omega) (w_ga_G hh.2 (fun i => (hl i).1) _) rfl rfl (by omega) hE iv (fun σ1 f1 iv1 => ?_))
      refine hev _ ?_
      rw [e]
      exact ih (r + 1) σ1 _ 1 (by omega) (by omega) (fun a b c1 c2 c3 => (f1 a b c1 c2 c3).trans (f a b c1 c2 c3)) iv1
theorem x_dr {h lim : Int} {σ : q_S} {K : q_R → q_S → Prop} (hs : 0 ≤ σ 17 9 ∧ σ 17 9 ≤ 24) (hh : -1 ≤ h ∧ h ≤ 99) (hlim : 0 ≤ lim ∧ lim ≤ 200) (hl : ∀ i, 0 ≤ σ 2 i ∧ σ 2 i ≤ 60) (h20 : ∀ i, 0 ≤ σ 20 i ∧ σ 20 i ≤ 99) (h18 : ∀ i, 0 ≤ σ 18 i ∧ σ 18 i < 30)
    (hK : ∀ σ', (∀ k i, k ≠ 97 → k ≠ 98 → k ≠ 99 → k ≠ 96 → σ' k i = σ k i) → σ' 96 3 = w_M (fun j => h - σ 20 j) (w_ga σ h) (σ 17 9).toNat lim / 16777216 → σ' 96 4 = 16777215 - w_M (fun j => h - σ 20 j) (w_ga σ h) (σ 17 9).toNat lim % 16777216 → σ' 96 5 = w_hf (σ 20) (16777215 - w_M (fun j => h - σ 20 j) (w_ga σ h) (σ 17 9).toNat lim % 16777216) h (σ 17 9).toNat → K none σ') : q_K L xs i_Plan_draw [(2, 96), (2, 17), (2, 1), (0, h), (0, lim)] σ K := by
  have nn := w_A_nn (N := fun j => h - σ 20 j) (σ 17 9).toNat
  have hG := w_ga_G (σ := σ) (h := h) hh.2 (fun i => (hl i).1) (σ 17 9).toNat
  obtain ⟨E, eE⟩ : ∃ E, E = min lim (w_A (fun j => h - σ 20 j) (σ 17 9).toNat) := ⟨_, rfl⟩
  have eM : w_M (fun j => h - σ 20 j) (w_ga σ h) (σ 17 9).toNat lim = w_M (fun j => h - σ 20 j) (w_ga σ h) (σ 17 9).toNat E := by rw [eE]; exact w_M_sat
  rw [eM] at hK
  obtain ⟨M, hM⟩ : ∃ M, M = w_M (fun j => h - σ 20 j) (w_ga σ h) (σ 17 9).toNat E := ⟨_, rfl⟩
  rw [← hM] at hK
  have hMb : 0 ≤ M ∧ M ≤ 300000000000 := by
    rw [hM]
    unfold w_M
    have b0 := w_V_b (N := fun j => h - σ 20 j) (r := (σ 17 9).toNat) (by omega) hG E (s := 0) (by omega)
    have b1 := w_V_b (N := fun j => h - σ 20 j) (r := (σ 17 9).toNat) (by omega) hG E (s := 1) (by omega)
    have b2 := w_V_b (N := fun j => h - σ 20 j) (r := (σ 17 9).toNat) (by omega) hG E (s := 2) (by omega)
    have := b0.2.2 rfl
    omega
  obtain ⟨S, hS⟩ : ∃ S, S = y_fill 99 (-1) (y_fill 98 (-1) (y_fill 97 16777215 σ 201) 201) 201 := ⟨_, rfl⟩
  have Sf : w_fr σ S := fun k i c1 c2 c3 => by rw [hS, F_fill c3, F_fill c2, F_fill c1]
  have S0 : ∀ j, 0 ≤ j → j ≤ E → w_iv (fun j => h - σ 20 j) (w_ga σ h) 0 S j := fun j a b => by
    refine ⟨?_, ?_, ?_⟩
    · rw [hS, F_fill (by decide), F_fill (by decide), y_fill_v 201 j a (by omega)]; rfl
    · rw [hS, F_fill (by decide), y_fill_v 201 j a (by omega)]; rfl
    · rw [hS, y_fill_v 201 j a (by omega)]; rfl
  have S179 : S 17 9 = σ 17 9 := Sf 17 9 (by decide) (by decide) (by decide)
  have S20 : S 20 = σ 20 := funext (fun i => Sf 20 i (by decide) (by decide) (by decide))
  have S2 : S 2 = σ 2 := funext (fun i => Sf 2 i (by decide) (by decide) (by decide))
  have S18 : S 18 = σ 18 := funext (fun i => Sf 18 i (by decide) (by decide) (by decide))
  have Sga : w_ga S h = w_ga σ h := by funext j; unfold w_ga; rw [S2, S18]
  refine q_call k_Plan_draw 9 rfl ?_
  show q_E L xs k_Plan_draw (0, [(2, 96), (2, 17), (2, 1), (0, h), (0, lim), (9, 0), (9, 0), (9, 0), (9, 0)], [], σ) K
  refine q_go1 200 0 [12] (fun cl ev hcl hev => ?_)
  show cl _ _ _ _
  refine hcl _ _ _ _ (x_fl97 ?_)
  show cl _ _ _ _
  refine hcl _ _ _ _ (x_fl98 ?_)
  show cl _ _ _ _
  refine hcl _ _ _ _ (x_fl99 ?_)
  refine hev _ ?_
  rw [← hS]
  refine q_go1 200 12 [20] (fun cl ev hcl hev => ?_)
  show cl _ _ _ _
  refine hcl _ _ _ _ (x_ned (by omega) hh (by rw [S20]; exact h20) ?_)
  refine hev _ ?_
  rw [S20, S179, ← eE]
  refine xl_dr (σ0 := S) (by omega) hh (by omega) (by rw [S2]; exact hl) (by rw [S20]; exact h20) (by rw [S18]; exact h18) (fun σ1 x7 u7 f1 iv1 => ?_) 25 0 S 0 9 (by omega) (by omega) (fun _ _ _ _ _ => rfl) (by rw [S20, Sga]; exact S0)
  rw [S20, Sga, S179] at iv1
  obtain ⟨j0, j1, j2⟩ := iv1 E (by omega) (by omega)
  have f2 : ∀ k i, k ≠ 97 → k ≠ 98 → k ≠ 99 → σ1 k i = σ k i := fun k i c1 c2 c3 => (f1 k i c1 c2 c3).trans (Sf k i c1 c2 c3)
  have eB : max (σ1 97 E) (max (σ1 98 E) (σ1 99 E)) = M := by rw [hM]; unfold w_M; rw [j0, j1, j2]
  refine q_go1 200 50 [54] (fun cl ev hcl hev => ?_)
  show cl _ _ _ _
  refine hcl _ _ _ _ (x_bf (by omega) ?_)
  refine hev _ ?_
  rw [eB]
  have e1 : q_w32 (M / 2 ^ ((24 : Int) % 64).toNat) = M / 16777216 := by
    rw [show ((24 : Int) % 64).toNat = 24 by decide, show (2 : Int) ^ 24 = 16777216 by decide, q_w32_id] <;> omega
  have e2 : q_w32 (q_w64 (16777215 - q_and64 M 16777215)) = 16777215 - M % 16777216 := by
    rw [q_a64m, q_w64_id (by omega) (by omega), q_w32_id] <;> omega
  refine q_go1 200 54 [68] (fun cl ev hcl hev => ?_)
  refine hev _ ?_
  rw [e1, e2]
  obtain ⟨T, hT⟩ : ∃ T, T = q_up (q_up σ1 96 3 (M / 16777216)) 96 4 (16777215 - M % 16777216) := ⟨_, rfl⟩
  rw [← hT]
  have Tf : ∀ k i, k ≠ 96 → T k i = σ1 k i := fun k i hk => by rw [hT, q_un hk, q_un hk]
  have T4 : T 96 4 = 16777215 - M % 16777216 := by rw [hT, q_ue]
  have T3 : T 96 3 = M / 16777216 := by rw [hT, q_ui (by decide), q_ue]
  have T9 : T 17 9 = σ 17 9 := (Tf 17 9 (by decide)).trans (f2 17 9 (by decide) (by decide) (by decide))
  have T20 : T 20 = σ 20 := funext (fun i => (Tf 20 i (by decide)).trans (f2 20 i (by decide) (by decide) (by decide)))
  refine q_go1 200 68 [] (fun cl ev hcl hev => ?_)
  show cl _ _ _ _
  refine hcl _ _ _ _ (x_hf (by omega) ?_)
  rw [T4, T9, T20]
  exact hK _ (fun k i c1 c2 c3 c4 => (q_un c4).trans ((Tf k i c4).trans (f2 k i c1 c2 c3))) ((q_ui (by decide)).trans T3) ((q_ui (by decide)).trans T4) q_ue
end V2
