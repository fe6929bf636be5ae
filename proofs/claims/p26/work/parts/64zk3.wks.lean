/-! works, of the model -/
theorem ite_k {k x v : Int} (h : x ≠ k) : (if x < k + 1 then v else -1) = (if x < k then v else -1) := by
  by_cases c : x < k
  · rw [if_pos c, if_pos (by omega)]
  · rw [if_neg c, if_neg (by omega)]
/-- what stands at (h, s) of the next table when the sources below k have been used -/
def w_X (N G : Int → Int) (r : Nat) (k h : Int) (s : Nat) : Int := if s = 0 then max (if 3 * h < k then w_V N G r h 0 else -1) (max (if 3 * h + 1 < k then w_V N G r h 1 else -1) (if 3 * h + 2 < k then w_V N G r h 2 else -1)) else if s = 1 then (if 0 < N r ∧ N r ≤ h then (if 3 * (h - N r) < k then w_V N G r (h - N r) 0 + G r else -1) else -1) else (if (0 < N r ∧ N r ≤ h) ∧ w_V N G r (h - N r) 1 ≠ -1 then (if 3 * (h - N r) + 1 < k then w_V N G r (h - N r) 1 + G r else -1) else -1)
section V3a
variable {N G : Int → Int} {r : Nat} {k h : Int}
theorem w_X_0 : w_X N G r k h 0 = max (if 3 * h < k then w_V N G r h 0 else -1) (max (if 3 * h + 1 < k then w_V N G r h 1 else -1) (if 3 * h + 2 < k then w_V N G r h 2 else -1)) := rfl
theorem w_X_1 : w_X N G r k h 1 = if 0 < N r ∧ N r ≤ h then (if 3 * (h - N r) < k then w_V N G r (h - N r) 0 + G r else -1) else -1 := rfl
theorem w_X_2 : w_X N G r k h 2 = if (0 < N r ∧ N r ≤ h) ∧ w_V N G r (h - N r) 1 ≠ -1 then (if 3 * (h - N r) + 1 < k then w_V N G r (h - N r) 1 + G r else -1) else -1 := rfl
theorem w_X_z (hh : 0 ≤ h) {s : Nat} (hs : s ≤ 2) : w_X N G r 0 h s = -1 := by
  have h3 : s = 0 ∨ s = 1 ∨ s = 2 := by omega
  rcases h3 with rfl | rfl | rfl
  · rw [w_X_0, if_neg (by omega), if_neg (by omega), if_neg (by omega)]; rfl
  · rw [w_X_1]
    split
    · rw [if_neg (by omega)]
    · rfl
  · rw [w_X_2]
    split
    · rw [if_neg (by omega)]
    · rfl
theorem w_X_e (hh : 0 ≤ h ∧ h ≤ 200) {s : Nat} (hs : s ≤ 2) : w_X N G r 603 h s = w_V N G (r + 1) h s := by
  have h3 : s = 0 ∨ s = 1 ∨ s = 2 := by omega
  rcases h3 with rfl | rfl | rfl
  · rw [w_X_0, w_V_0, if_pos (by omega), if_pos (by omega), if_pos (by omega)]
  · rw [w_X_1, w_V_1]
    split
    · rw [if_pos (by omega)]
    · rfl
  · rw [w_X_2, w_V_2]
    split
    · rw [if_pos (by omega)]
    · rfl
/-- a place that the source at k doesn't feed -/
theorem w_X_o (hk : 0 ≤ k) {s : Nat} (hs : s ≤ 2) (h1 : ¬ (s = 0 ∧ h = k / 3)) (h2 : ¬ (0 < N r ∧ N r ≤ h ∧ k / 3 = h - N r ∧ ((s = 1 ∧ k % 3 = 0) ∨ (s = 2 ∧ k % 3 = 1)))) : w_X N G r (k + 1) h s = w_X N G r k h s := by
  have h3 : s = 0 ∨ s = 1 ∨ s = 2 := by omega
  rcases h3 with rfl | rfl | rfl
  · rw [w_X_0, w_X_0, ite_k (by omega), ite_k (by omega), ite_k (by omega)]
  · rw [w_X_1, w_X_1]
    by_cases c : 0 < N r ∧ N r ≤ h
    · rw [if_pos c, if_pos c, ite_k (by omega)]
    · rw [if_neg c, if_neg c]
  · rw [w_X_2, w_X_2]
    by_cases c : (0 < N r ∧ N r ≤ h) ∧ w_V N G r (h - N r) 1 ≠ -1
    · rw [if_pos c, if_pos c, ite_k (by omega)]
    · rw [if_neg c, if_neg c]
/-- the place (h, 0) for k's own h -/
theorem w_X_m (hk : 0 ≤ k) (hb : ∀ s : Nat, s ≤ 2 → -1 ≤ w_V N G r (k / 3) s) : w_X N G r (k + 1) (k / 3) 0 = max (w_X N G r k (k / 3) 0) (w_V N G r (k / 3) (k % 3).toNat) := by
  have b0 := hb 0 (by omega)
  have b1 := hb 1 (by omega)
  have b2 := hb 2 (by omega)
  rw [w_X_0, w_X_0]
  have h3 : k % 3 = 0 ∨ k % 3 = 1 ∨ k % 3 = 2 := by omega
  rcases h3 with e | e | e
  · rw [e, show ((0 : Int)).toNat = 0 from rfl, if_pos (show 3 * (k / 3) < k + 1 by omega), if_neg (show ¬ 3 * (k / 3) + 1 < k + 1 by omega), if_neg (show ¬ 3 * (k / 3) + 2 < k + 1 by omega), if_neg (show ¬ 3 * (k / 3) < k by omega), if_neg (show ¬ 3 * (k / 3) + 1 < k by omega), if_neg (show ¬ 3 * (k / 3) + 2 < k by omega)]
    omega
  · rw [e, show ((1 : Int)).toNat = 1 from rfl, if_pos (show 3 * (k / 3) < k + 1 by omega), if_pos (show 3 * (k / 3) + 1 < k + 1 by omega), if_neg (show ¬ 3 * (k / 3) + 2 < k + 1 by omega), if_pos (show 3 * (k / 3) < k by omega), if_neg (show ¬ 3 * (k / 3) + 1 < k by omega), if_neg (show ¬ 3 * (k / 3) + 2 < k by omega)]
    omega
  · rw [e, show ((2 : Int)).toNat = 2 from rfl, if_pos (show 3 * (k / 3) < k + 1 by omega), if_pos (show 3 * (k / 3) + 1 < k + 1 by omega), if_pos (show 3 * (k / 3) + 2 < k + 1 by omega), if_pos (show 3 * (k / 3) < k by omega), if_pos (show 3 * (k / 3) + 1 < k by omega), if_neg (show ¬ 3 * (k / 3) + 2 < k by omega)]
    omega
/-- the place that k feeds by the rod -/
theorem w_X_n (hk : 0 ≤ k) (hn : 0 < N r) (ht : k % 3 < 2) (hv : w_V N G r (k / 3) (k % 3).toNat ≠ -1) : w_X N G r k (k / 3 + N r) (k % 3 + 1).toNat = -1 ∧ w_X N G r (k + 1) (k / 3 + N r) (k % 3 + 1).toNat = w_V N G r (k / 3) (k % 3).toNat + G r := by
  have h3 : k % 3 = 0 ∨ k % 3 = 1 := by omega
  have es : k / 3 + N r - N r = k / 3 := by omega
  have c : 0 < N r ∧ N r ≤ k / 3 + N r := ⟨hn, by omega⟩
  rcases h3 with e | e
  · rw [e, show ((0 : Int) + 1).toNat = 1 from rfl, show ((0 : Int)).toNat = 0 from rfl]
    refine ⟨?_, ?_⟩
    · rw [w_X_1, if_pos c, es, if_neg (show ¬ 3 * (k / 3) < k by omega)]
    · rw [w_X_1, if_pos c, es, if_pos (show 3 * (k / 3) < k + 1 by omega)]
  · rw [e, show ((1 : Int)).toNat = 1 from rfl] at hv
    have c2 : (0 < N r ∧ N r ≤ k / 3 + N r) ∧ w_V N G r (k / 3 + N r - N r) 1 ≠ -1 := ⟨c, by rw [es]; exact hv⟩
    rw [e, show ((1 : Int) + 1).toNat = 2 from rfl, show ((1 : Int)).toNat = 1 from rfl]
    refine ⟨?_, ?_⟩
    · rw [w_X_2, if_pos c2, es, if_neg (show ¬ 3 * (k / 3) + 1 < k by omega)]
    · rw [w_X_2, if_pos c2, es, if_pos (show 3 * (k / 3) + 1 < k + 1 by omega)]
end V3a
/-- two weights compared by worth and bits -/
theorem w_R_lt {r : Nat} {v m b v' m' b' : Int} (hr : r ≤ 24) (h : w_R r v m b) (h' : w_R r v' m' b') (hv' : v' ≠ -1) : (m < m' ∨ (m' = m ∧ b' < b)) ↔ v < v' := by
  have hp := p2_b hr
  rcases h with ⟨a1, a2⟩ | ⟨a1, a2, a3, a4, a5⟩
  · rcases h' with ⟨c1, c2⟩ | ⟨c1, c2, c3, c4, c5⟩
    · exact absurd c1 hv'
    · generalize (2 : Int) ^ r = p at *
      omega
  · rcases h' with ⟨c1, c2⟩ | ⟨c1, c2, c3, c4, c5⟩
    · exact absurd c1 hv'
    · generalize (2 : Int) ^ r = p at *
      omega
theorem w_or {r : Nat} {b : Int} (hr : r < 24) (h0 : 0 ≤ b) (h1 : b < (2 : Int) ^ r) : q_or32 b (q_w32 (1 * 2 ^ (((r : Int)) % 32).toNat)) = b + (2 : Int) ^ r := by
  have hp := p2_b (r := r) (by omega)
  have e1 : (((r : Int)) % 32).toNat = r := by omega
  rw [e1, Int.one_mul, q_w32_id (by omega) (by omega)]
  unfold q_or32
  obtain ⟨n, rfl⟩ : ∃ n : Nat, b = (n : Int) := ⟨b.toNat, by omega⟩
  have e2 : (2 : Int) ^ r = ((2 ^ r : Nat) : Int) := by rw [Int.natCast_pow]; rfl
  rw [e2] at h1 hp ⊢
  have h1 : n < 2 ^ r := by omega
  have hh : (BitVec.ofInt 32 (n : Int) ||| BitVec.ofInt 32 ((2 ^ r : Nat) : Int)).toNat = n + 2 ^ r := by
    rw [BitVec.toNat_or, BitVec.toNat_ofInt, BitVec.toNat_ofInt]
    have a1 : ((n : Int) % ((2 ^ 32 : Nat) : Int)).toNat = n := by omega
    have a2 : (((2 ^ r : Nat) : Int) % ((2 ^ 32 : Nat) : Int)).toNat = 2 ^ r := by omega
    rw [a1, a2]
    have := Nat.two_pow_add_eq_or_of_lt h1 1
    rw [Nat.mul_one] at this
    rw [Nat.or_comm, ← this, Nat.add_comm]
  rw [BitVec.toInt_eq_toNat_cond, hh, if_pos (by omega)]
  omega
def z_f4 (σ0 σ : q_S) : Prop := ∀ k i, ¬ (147 ≤ k ∧ k ≤ 150) → σ k i = σ0 k i
def w_mi (N G : Int → Int) (r : Nat) (σ : q_S) : Prop := ∀ k, 0 ≤ k → k < 603 → w_R r (w_V N G r (k / 3) (k % 3).toNat) (σ 147 k) (σ 148 k)
section V3
variable {L : Nat} {xs : Int → Int}
theorem zl_wo {rd h f : Int} {σ : q_S} {K : q_R → q_S → Prop} (hf : 0 ≤ f ∧ f ≤ 24) (hh : -1 ≤ h ∧ h ≤ 99) (hl : ∀ i, 0 ≤ i → i < 30 → 0 ≤ σ 101 i ∧ σ 101 i ≤ 60) (hl2 : ∀ i, 0 ≤ σ 101 i) (hK : K (some (0, w_wo (σ 101) f h 6)) σ) : ∀ (m k : Nat), (6 : Int) - k < m → (k : Int) ≤ 6 → q_E L xs k_M_worthOf (13, [(2, 100), (0, rd), (0, h), (0, w_wo (σ 101) f h k), (0, f), (0, f + (k : Int))], [], σ) K := by
  intro m
  induction m with
  | zero => intro k; omega
  | succ m ih =>
    intro k hm hk
    have e : q_w32 (f + (k : Int) + 1) = f + ((k + 1 : Nat) : Int) := by rw [q_w32_id] <;> omega
    have e6 : q_w32 (f + 6) = f + 6 := by rw [q_w32_id] <;> omega
    have es : w_wo (σ 101) f h (k + 1) = w_wo (σ 101) f h k + max 0 (h - σ 101 (f + k)) := rfl
    have hb := w_wo_b (l := σ 101) (f := f) hh.2 hl2 k
    refine q_go1 100 13 [13] (fun cl ev hcl hev => ?_)
    refine And.intro (fun g => ?_) (fun g => ?_)
    · have ek : k = 6 := by omega
      subst ek
      exact hK
    · have hl1 := hl (f + k) (by omega) (by omega)
      refine And.intro (by omega) ?_
      refine And.intro (fun g2 => ?_) (fun g2 => ?_)
      · refine hev _ ?_
        rw [e, q_w32_id (by omega) (by omega), show w_wo (σ 101) f h k + 0 = w_wo (σ 101) f h (k + 1) by rw [es]; omega]
        exact ih (k + 1) (by omega) (by omega)
      · refine And.intro (by omega) ?_
        refine hev _ ?_
        rw [e, q_w32_id (x := h - σ 101 (f + k)) (by omega) (by omega), q_w32_id (by omega) (by omega), show w_wo (σ 101) f h k + (h - σ 101 (f + k)) = w_wo (σ 101) f h (k + 1) by rw [es]; omega]
        exact ih (k + 1) (by omega) (by omega)
theorem z_wo {rd h : Int} {σ : q_S} {K : q_R → q_S → Prop} (hr : 0 ≤ rd ∧ rd < 24) (hc : 0 ≤ σ 112 rd ∧ σ 112 rd < 30) (hh : -1 ≤ h ∧ h ≤ 99) (hl : ∀ i, 0 ≤ i → i < 30 → 0 ≤ σ 101 i ∧ σ 101 i ≤ 60) (hl2 : ∀ i, 0 ≤ σ 101 i) (hK : K (some (0, w_wo (σ 101) (σ 112 rd - σ 112 rd % 6) h 6)) σ) : q_K L xs i_M_worthOf [(2, 100), (0, rd), (0, h)] σ K := by
  have e : q_w32 (q_w32 ((σ 112 rd).tdiv 6) * 6) = σ 112 rd - σ 112 rd % 6 := by rw [q_td (by omega), q_w32_id (x := σ 112 rd / 6) (by omega) (by omega), q_w32_id] <;> omega
  refine q_call k_M_worthOf 6 rfl ?_
  show q_E L xs k_M_worthOf (0, [(2, 100), (0, rd), (0, h), (9, 0), (9, 0), (9, 0)], [], σ) K
  refine q_go1 100 0 [13] (fun cl ev hcl hev => ?_)
  refine And.intro (by omega) ?_
  refine And.intro (by decide) ?_
  refine hev _ ?_
  rw [e]
  have l := zl_wo (L := L) (xs := xs) (rd := rd) (f := σ 112 rd - σ 112 rd % 6) (by omega) hh hl hl2 hK 7 0 (by omega) (by omega)
  rw [show σ 112 rd - σ 112 rd % 6 + ((0 : Nat) : Int) = σ 112 rd - σ 112 rd % 6 by omega] at l
  exact l
/-- the next table is cleared -/
theorem zl_c2 {h rr nd w : Int} {σ0 : q_S} {u6 u7 : Nat} {x6 x7 : Int} {K : q_R → q_S → Prop} (hN : ∀ σ', (∀ k i, k ≠ 149 → k ≠ 150 → σ' k i = σ0 k i) → (∀ j, 0 ≤ j → j < 603 → σ' 149 j = -1) → q_E L xs k_M_chooses (60, [(2, 100), (0, h), (0, rr), (0, nd), (0, w), (0, 0), (u6, x6), (u7, x7)], [], σ') K) :
    ∀ (m k : Nat) (σ : q_S), (603 : Int) - k < m → (k : Int) ≤ 603 → (∀ k i, k ≠ 149 → k ≠ 150 → σ k i = σ0 k i) → (∀ j : Int, 0 ≤ j → j < (k : Int) → σ 149 j = -1) → q_E L xs k_M_chooses (43, [(2, 100), (0, h), (0, rr), (0, nd), (0, w), (0, (k : Int)), (u6, x6), (u7, x7)], [], σ) K := by
  intro m
  induction m with
  | zero => intro k; omega
  | succ m ih =>
    intro k σ hm hk f c
    have e : q_w32 ((k : Int) + 1) = ((k + 1 : Nat) : Int) := by rw [q_w32_id] <;> omega
    refine q_go1 100 43 [43, 60] (fun cl ev hcl hev => ?_)
    refine And.intro (fun g => ?_) (fun g => ?_)
    · exact hev _ (hN σ f (fun j a b => c j a (by omega)))
    · refine And.intro (by omega) (And.intro (by omega) ?_)
      refine hev _ ?_
      rw [e]
      refine ih (k + 1) _ (by omega) (by omega) (fun a b c1 c2 => (q_un c2).trans ((q_un c1).trans (f a b c1 c2))) (fun j a b => ?_)
      rw [q_un (by decide)]
      by_cases ej : j = k
      · rw [ej, q_ue]
      · rw [q_ui ej]; exact c j a (by omega)
/-- the next table becomes the table -/
theorem zl_c4 {h rr nd w : Int} {σ0 : q_S} {u6 u7 : Nat} {x6 x7 : Int} {K : q_R → q_S → Prop} (hN : ∀ σ', (∀ k i, k ≠ 147 → k ≠ 148 → σ' k i = σ0 k i) → (∀ j, 0 ≤ j → j < 603 → σ' 147 j = σ0 149 j ∧ σ' 148 j = σ0 150 j) → q_E L xs k_M_chooses (150, [(2, 100), (0, h), (0, rr), (0, nd), (0, w), (0, 603), (u6, x6), (u7, x7)], [], σ') K) :
    ∀ (m k : Nat) (σ : q_S), (603 : Int) - k < m → (k : Int) ≤ 603 → (∀ k i, k ≠ 147 → k ≠ 148 → σ k i = σ0 k i) → (∀ j : Int, 0 ≤ j → j < (k : Int) → σ 147 j = σ0 149 j ∧ σ 148 j = σ0 150 j) → q_E L xs k_M_chooses (129, [(2, 100), (0, h), (0, rr), (0, nd), (0, w), (0, (k : Int)), (u6, x6), (u7, x7)], [], σ) K := by
  intro m
  induction m with
  | zero => intro k; omega
  | succ m ih =>
    intro k σ hm hk f c
    have e : q_w32 ((k : Int) + 1) = ((k + 1 : Nat) : Int) := by rw [q_w32_id] <;> omega
    have e9 := f 149 k (by decide) (by decide)
    have e0 := f 150 k (by decide) (by decide)
    refine q_go1 100 129 [129, 150] (fun cl ev hcl hev => ?_)
    refine And.intro (fun g => ?_) (fun g => ?_)
    · have ek : k = 603 := by omega
      subst ek
      exact hev _ (hN σ f (fun j a b => c j a (by omega)))
    · refine And.intro (by omega) (And.intro (by omega) (And.intro (by omega) (And.intro (by omega) ?_)))
      refine hev _ ?_
      rw [e, q_un (k := 147) (k' := 150) (by decide), e9, e0]
      refine ih (k + 1) _ (by omega) (by omega) (fun a b c1 c2 => (q_un c2).trans ((q_un c1).trans (f a b c1 c2))) (fun j a b => ?_)
      rw [q_un (k := 148) (k' := 147) (by decide)]
      by_cases ej : j = k
      · rw [ej, q_ue, q_ue]; exact ⟨rfl, rfl⟩
      · rw [q_ui ej, q_ui ej, q_un (by decide)]; exact c j a (by omega)
/-- one source more -/
theorem z_bet {r : Nat} {a v x m b : Int} {σ : q_S} {K : q_R → q_S → Prop} (hr : r ≤ 24) (ha : 0 ≤ a ∧ a < 603) (hx : w_R r x (σ 149 a) (σ 150 a)) (hv : w_R r v m b) (hv1 : v ≠ -1) (hK : ∀ σ', (∀ k i, ¬ ((k = 149 ∨ k = 150) ∧ i = a) → σ' k i = σ k i) → w_R r (max x v) (σ' 149 a) (σ' 150 a) → K none σ') : q_K L xs i_M_betters [(2, 100), (0, a), (0, m), (0, b)] σ K := by
  have lt := w_R_lt hr hx hv hv1
  refine c_M_betters ha (fun g => ?_) (fun g => ?_)
  · have : ¬ x < v := fun z => g (lt.mpr z)
    rw [show max x v = x by omega] at hK
    exact hK σ (fun _ _ _ => rfl) hx
  · have : x < v := lt.mp g
    rw [show max x v = v by omega] at hK
    refine hK _ (fun k i hk => (q_unn (by omega)).trans (q_unn (by omega))) ?_
    rw [q_un (by decide), q_ue, q_ue]
    exact hv
theorem zl_c3 {N G : Int → Int} {r : Nat} {h nd w : Int} {σ0 : q_S} {K : q_R → q_S → Prop} (hr : r + 1 ≤ 24) (hG : w_G G (r + 1)) (hN : nd = N r) (hg : G r = w * 16777216 - (2 : Int) ^ r) (hw : 0 ≤ w ∧ w ≤ 600) (hnd : -100 ≤ nd ∧ nd ≤ 100) (mi : w_mi N G r σ0)
    (hE : ∀ σ' (x6 : Int) (u6 : Nat) (x7 : Int) (u7 : Nat), (∀ k i, k ≠ 149 → k ≠ 150 → σ' k i = σ0 k i) → (∀ j, 0 ≤ j → j < 603 → w_R (r + 1) (w_X N G r 603 (j / 3) (j % 3).toNat) (σ' 149 j) (σ' 150 j)) → q_E L xs k_M_chooses (127, [(2, 100), (0, h), (0, (r : Int)), (0, nd), (0, w), (0, 603), (u6, x6), (u7, x7)], [], σ') K) :
    ∀ (m k : Nat) (σ : q_S) (x6 : Int) (u6 : Nat) (x7 : Int) (u7 : Nat), (603 : Int) - k < m → (k : Int) ≤ 603 → (∀ k i, k ≠ 149 → k ≠ 150 → σ k i = σ0 k i) → (∀ j, 0 ≤ j → j < 603 → w_R (r + 1) (w_X N G r k (j / 3) (j % 3).toNat) (σ 149 j) (σ 150 j)) → q_E L xs k_M_chooses (60, [(2, 100), (0, h), (0, (r : Int)), (0, nd), (0, w), (0, (k : Int)), (u6, x6), (u7, x7)], [], σ) K := by
  have hG' : w_G G r := fun j hj => hG j (by omega)
  intro m
  induction m with
  | zero => intro k; omega
  | succ m ih =>
    intro k σ x6 u6 x7 u7 hm hk f c
    have e : q_w32 ((k : Int) + 1) = ((k + 1 : Nat) : Int) := by rw [q_w32_id] <;> omega
    have ek1 : ((k + 1 : Nat) : Int) = (k : Int) + 1 := by omega
    have ed : q_w32 ((k : Int).tdiv 3) = (k : Int) / 3 := by rw [q_td (by omega), q_w32_id] <;> omega
    have em : (k : Int).tmod 3 = (k : Int) % 3 := q_tm (by omega)
    refine q_go1 200 60 [71, 127] (fun cl ev hcl hev => ?_)
    refine And.intro (fun g => ?_) (fun g => ?_)
    · have ek : k = 603 := by omega
      subst ek
      exact hev _ (hE σ _ _ _ _ f c)
    · have mk := mi k (by omega) (by omega)
      have e147 := f 147 k (by decide) (by decide)
      have e148 := f 148 k (by decide) (by decide)
      have vb := w_R_b (show r ≤ 24 by omega) mk
      have hb : ∀ s : Nat, s ≤ 2 → -1 ≤ w_V N G r ((k : Int) / 3) s := fun s hs => (w_V_b (N := N) (r := r) (by omega) hG' ((k : Int) / 3) hs).1
      have hv0 : (k : Int) % 3 = 0 → w_V N G r ((k : Int) / 3) ((k : Int) % 3).toNat ≠ -1 := fun z => by
        rw [z]
        exact (w_V_R (N := N) r (by omega) hG' ((k : Int) / 3) 0 (by omega)).2 rfl
      refine And.intro (by decide) (And.intro (by decide) ?_)
      refine hev _ ?_
      rw [ed, em]
      -- nothing more is fed
      have stay : ∀ σ', (∀ k i, k ≠ 149 → k ≠ 150 → σ' k i = σ0 k i) → (∀ j, 0 ≤ j → j < 603 → w_R (r + 1) (w_X N G r ((k : Int) + 1) (j / 3) (j % 3).toNat) (σ' 149 j) (σ' 150 j)) → q_E L xs k_M_chooses (125, [(2, 100), (0, h), (0, (r : Int)), (0, nd), (0, w), (0, (k : Int)), (0, (k : Int) / 3), (0, (k : Int) % 3)], [], σ') K := fun σ' f' c' => by
        refine q_go1 200 125 [60] (fun cl ev hcl hev => ?_)
        refine hev _ ?_
        rw [e]
        exact ih (k + 1) σ' _ 0 _ 0 (by omega) (by omega) f' (by rw [ek1]; exact c')
      by_cases hm1 : σ0 147 k = -1
      · have hv : w_V N G r ((k : Int) / 3) ((k : Int) % 3).toNat = -1 := vb.2.2.1.mpr hm1
        have ht : (k : Int) % 3 ≠ 0 := fun z => hv0 z hv
        refine q_go1 200 71 [125] (fun cl ev hcl hev => ?_)
        refine And.intro (by omega) ?_
        refine And.intro (fun _ => ?_) (fun z => absurd (e147.trans hm1) z)
        refine hev _ (stay σ f (fun j a b => ?_))
        have cj := c j a b
        have hj3 : (j % 3).toNat ≤ 2 := by omega
        by_cases h0 : (j % 3).toNat = 0 ∧ j / 3 = (k : Int) / 3
        · rw [h0.1, h0.2] at cj ⊢
          rw [w_X_m (by omega) hb, hv]
          have := w_R_b hr cj
          rw [show max (w_X N G r (k : Int) ((k : Int) / 3) 0) (-1) = w_X N G r (k : Int) ((k : Int) / 3) 0 by omega]
          exact cj
        · by_cases h2 : 0 < N r ∧ N r ≤ j / 3 ∧ (k : Int) / 3 = j / 3 - N r ∧ (((j % 3).toNat = 1 ∧ (k : Int) % 3 = 0) ∨ ((j % 3).toNat = 2 ∧ (k : Int) % 3 = 1))
          · have hs : (j % 3).toNat = 2 ∧ (k : Int) % 3 = 1 := by omega
            rw [hs.1] at cj ⊢
            rw [hs.2, show ((1 : Int)).toNat = 1 from rfl, h2.2.2.1] at hv
            rw [w_X_2, if_neg (fun z => z.2 hv)] at cj ⊢
            exact cj
          · rw [w_X_o (by omega) hj3 h0 h2]
            exact cj
      · have hv : w_V N G r ((k : Int) / 3) ((k : Int) % 3).toNat ≠ -1 := fun z => hm1 (vb.2.2.1.mp z)
        have vs := vb.2.2.2 hv
        have e3 : q_w32 (3 * ((k : Int) / 3)) = 3 * ((k : Int) / 3) := by rw [q_w32_id] <;> omega
        have c0 := c (3 * ((k : Int) / 3)) (by omega) (by omega)
        rw [show 3 * ((k : Int) / 3) / 3 = (k : Int) / 3 by omega, show (3 * ((k : Int) / 3) % 3).toNat = 0 by omega] at c0
        refine q_go1 200 71 [90] (fun cl ev hcl hev => ?_)
        refine And.intro (by omega) ?_
        refine And.intro (fun z => absurd (e147.symm.trans z) hm1) (fun _ => ?_)
        refine And.intro (by omega) (And.intro (by omega) ?_)
        show cl _ _ _ _
        rw [e3, e147, e148]
        refine hcl _ _ _ _ (z_bet (r := r + 1) hr (by omega) c0 (w_R_up mk) hv (fun σ1 f1 r1 => ?_))
        rw [← w_X_m (by omega) hb] at r1
        refine hev _ ?_
        have f1' : ∀ k i, k ≠ 149 → k ≠ 150 → σ1 k i = σ0 k i := fun a b c1 c2 => (f1 a b (by omega)).trans (f a b c1 c2)
        have e147' := f1' 147 k (by decide) (by decide)
        have e148' := f1' 148 k (by decide) (by decide)
        -- where the rod is not taken
        have noRod : ¬ (0 < nd ∧ (k : Int) % 3 < 2 ∧ (k : Int) / 3 + nd ≤ 200) → ∀ j, 0 ≤ j → j < 603 → w_R (r + 1) (w_X N G r ((k : Int) + 1) (j / 3) (j % 3).toNat) (σ1 149 j) (σ1 150 j) := fun nf j a b => by
          have hj3 : (j % 3).toNat ≤ 2 := by omega
          by_cases h0 : (j % 3).toNat = 0 ∧ j / 3 = (k : Int) / 3
          · have ej : j = 3 * ((k : Int) / 3) := by omega
            rw [h0.1, h0.2, ej]
            exact r1
          · have ne : j ≠ 3 * ((k : Int) / 3) := fun z => h0 ⟨by omega, by omega⟩
            rw [w_X_o (by omega) hj3 h0 (fun z => nf (by omega)), f1 149 j (by omega), f1 150 j (by omega)]
            exact c j a b
        by_cases hrod : 0 < nd ∧ (k : Int) % 3 < 2 ∧ (k : Int) / 3 + nd ≤ 200
        · have en : q_w32 ((k : Int) / 3 + nd) = (k : Int) / 3 + nd := by rw [q_w32_id] <;> omega
          have ej : q_w32 (q_w32 (q_w32 (3 * q_w32 ((k : Int) / 3 + nd)) + (k : Int) % 3) + 1) = 3 * ((k : Int) / 3 + nd) + (k : Int) % 3 + 1 := by
            rw [en, q_w32_id (x := 3 * ((k : Int) / 3 + nd)) (by omega) (by omega), q_w32_id (x := 3 * ((k : Int) / 3 + nd) + (k : Int) % 3) (by omega) (by omega), q_w32_id] <;> omega
          have eo : q_or32 (σ0 148 k) (q_w32 (1 * 2 ^ (((r : Int)) % 32).toNat)) = σ0 148 k + (2 : Int) ^ r := by
            rcases mk with z | ⟨a1, a2, a3, a4, a5⟩
            · exact absurd z.1 hv
            · exact w_or (by omega) a3 a4
          have ew : q_w32 (σ0 147 k + w) = σ0 147 k + w := by rw [q_w32_id] <;> omega
          have xn := w_X_n (N := N) (G := G) (r := r) (k := (k : Int)) (by omega) (by omega) hrod.2.1 hv
          rw [← hN] at xn
          have cj := c (3 * ((k : Int) / 3 + nd) + (k : Int) % 3 + 1) (by omega) (by omega)
          rw [show (3 * ((k : Int) / 3 + nd) + (k : Int) % 3 + 1) / 3 = (k : Int) / 3 + nd by omega, show ((3 * ((k : Int) / 3 + nd) + (k : Int) % 3 + 1) % 3).toNat = ((k : Int) % 3 + 1).toNat by omega] at cj
          rw [← f1 149 (3 * ((k : Int) / 3 + nd) + (k : Int) % 3 + 1) (by omega), ← f1 150 (3 * ((k : Int) / 3 + nd) + (k : Int) % 3 + 1) (by omega)] at cj
          have ad := w_R_ad mk hv hw
          rw [← hg] at ad
          have adb := w_R_b hr ad
          have adn : w_V N G r ((k : Int) / 3) ((k : Int) % 3).toNat + G r ≠ -1 := fun z => by
            have := adb.2.2.1.mp z
            omega
          refine q_go1 200 90 [125] (fun cl ev hcl hev => ?_)
          refine And.intro (fun z => by exfalso; omega) (fun _ => ?_)
          refine And.intro (fun z => by exfalso; omega) (fun _ => ?_)
          refine And.intro (fun z => by exfalso; omega) (fun _ => ?_)
          refine And.intro (by omega) (And.intro (by omega) ?_)
          show cl _ _ _ _
          rw [ej, e147', e148', eo, ew]
          refine hcl _ _ _ _ (z_bet (r := r + 1) hr (by omega) cj ad adn (fun σ2 f2 r2 => ?_))
          rw [xn.1, show max (-1) (w_V N G r ((k : Int) / 3) ((k : Int) % 3).toNat + G r) = w_V N G r ((k : Int) / 3) ((k : Int) % 3).toNat + G r by omega, ← xn.2] at r2
          refine hev _ (stay σ2 (fun a b c1 c2 => (f2 a b (by omega)).trans (f1' a b c1 c2)) (fun j a b => ?_))
          have hj3 : (j % 3).toNat ≤ 2 := by omega
          by_cases hj2 : j = 3 * ((k : Int) / 3 + nd) + (k : Int) % 3 + 1
          · rw [hj2, show (3 * ((k : Int) / 3 + nd) + (k : Int) % 3 + 1) / 3 = (k : Int) / 3 + nd by omega, show ((3 * ((k : Int) / 3 + nd) + (k : Int) % 3 + 1) % 3).toNat = ((k : Int) % 3 + 1).toNat by omega]
            exact r2
          · rw [f2 149 j (by omega), f2 150 j (by omega)]
            by_cases h0 : (j % 3).toNat = 0 ∧ j / 3 = (k : Int) / 3
            · have ej0 : j = 3 * ((k : Int) / 3) := by omega
              rw [h0.1, h0.2, ej0]
              exact r1
            · rw [w_X_o (by omega) hj3 h0 (fun z => hj2 (by omega)), f1 149 j (by omega), f1 150 j (by omega)]
              exact c j a b
        · have en : q_w32 ((k : Int) / 3 + nd) = (k : Int) / 3 + nd := by rw [q_w32_id] <;> omega
          refine q_go1 200 90 [125] (fun cl ev hcl hev => ?_)
          refine And.intro (fun _ => hev _ (stay σ1 f1' (noRod hrod))) (fun z1 => ?_)
          refine And.intro (fun _ => hev _ (stay σ1 f1' (noRod hrod))) (fun z2 => ?_)
          refine And.intro (fun _ => hev _ (stay σ1 f1' (noRod hrod))) (fun z3 => by exfalso; omega)
theorem zl_c1 {N G : Int → Int} {h : Int} {σ0 : q_S} {K : q_R → q_S → Prop} (hs : 0 ≤ σ0 100 13 ∧ σ0 100 13 ≤ 24) (hh : -1 ≤ h ∧ h ≤ 99) (hl : ∀ i, 0 ≤ i → i < 30 → 0 ≤ σ0 101 i ∧ σ0 101 i ≤ 60) (hl2 : ∀ i, 0 ≤ σ0 101 i) (h14 : ∀ i, 0 ≤ i → i < 24 → 0 ≤ σ0 114 i ∧ σ0 114 i ≤ 99) (h12 : ∀ i, 0 ≤ i → i < 24 → 0 ≤ σ0 112 i ∧ σ0 112 i < 30) (hN : ∀ r : Nat, (r : Int) < 24 → N r = h - σ0 114 r) (hG : ∀ r : Nat, (r : Int) < 24 → G r = w_wo (σ0 101) (σ0 112 r - σ0 112 r % 6) h 6 * 16777216 - (2 : Int) ^ r)
    (hK : ∀ σ', z_f4 σ0 σ' → w_mi N G (σ0 100 13).toNat σ' → K none σ') :
    ∀ (m r : Nat) (σ : q_S) (x3 : Int) (u3 : Nat) (x4 : Int) (u4 : Nat) (x5 : Int) (u5 : Nat) (x6 : Int) (u6 : Nat) (x7 : Int) (u7 : Nat), σ0 100 13 - r < m → (r : Int) ≤ σ0 100 13 → z_f4 σ0 σ → w_mi N G r σ → q_E L xs k_M_chooses (25, [(2, 100), (0, h), (0, (r : Int)), (u3, x3), (u4, x4), (u5, x5), (u6, x6), (u7, x7)], [], σ) K := by
  intro m
  induction m with
  | zero => intro r; omega
  | succ m ih =>
    intro r σ x3 u3 x4 u4 x5 u5 x6 u6 x7 u7 hm hrm f mi
    have e : q_w32 ((r : Int) + 1) = ((r + 1 : Nat) : Int) := by rw [q_w32_id] <;> omega
    have e13 : σ 100 13 = σ0 100 13 := f 100 13 (by decide)
    refine q_go1 200 25 [43] (fun cl ev hcl hev => ?_)
    refine And.intro (fun g => ?_) (fun g => ?_)
    · rw [show r = (σ0 100 13).toNat by omega] at mi
      exact hK σ f mi
    · have e114 : σ 114 r = σ0 114 r := f 114 r (by decide)
      have e112 : σ 112 r = σ0 112 r := f 112 r (by decide)
      have e101 : σ 101 = σ0 101 := funext (fun i => f 101 i (by decide))
      have h14r := h14 r (by omega) (by omega)
      have h12r := h12 r (by omega) (by omega)
      have hw := w_wo_b (l := σ0 101) (f := σ0 112 r - σ0 112 r % 6) hh.2 hl2 6
      have hGG : w_G G (r + 1) := fun j hj => ⟨w_wo (σ0 101) (σ0 112 j - σ0 112 j % 6) h 6, hG j (by omega), (w_wo_b (l := σ0 101) (f := σ0 112 j - σ0 112 j % 6) hh.2 hl2 6).1, by have := (w_wo_b (l := σ0 101) (f := σ0 112 j - σ0 112 j % 6) hh.2 hl2 6).2; omega⟩
      refine And.intro (by omega) ?_
      show cl _ _ _ _
      refine hcl _ _ _ _ (z_wo (by omega) (by omega) hh (by rw [e101]; exact hl) (by rw [e101]; exact hl2) ?_)
      rw [e101, e112]
      refine hev _ ?_
      rw [e114, q_w32_id (x := h - σ0 114 r) (by omega) (by omega), ← hN r (by omega)]
      have hNr := hN r (by omega)
      refine zl_c2 (σ0 := σ) (fun σ1 f1 c1 => ?_) 604 0 σ (by omega) (by omega) (fun _ _ _ _ => rfl) (fun j a b => by omega)
      have mi1 : w_mi N G r σ1 := fun j a b => by rw [f1 147 j (by decide) (by decide), f1 148 j (by decide) (by decide)]; exact mi j a b
      refine zl_c3 (N := N) (G := G) (r := r) (σ0 := σ1) (by omega) hGG rfl (hG r (by omega)) (by omega) (by omega) mi1 (fun σ2 y6 v6 y7 v7 f2 c2 => ?_) 604 0 σ1 _ _ _ _ (by omega) (by omega) (fun _ _ _ _ => rfl) (fun j a b => Or.inl ⟨w_X_z (by omega) (by omega), c1 j a b⟩)
      refine q_go1 200 127 [129] (fun cl ev hcl hev => ?_)
      refine hev _ (zl_c4 (σ0 := σ2) (fun σ3 f3 c3 => ?_) 604 0 σ2 (by omega) (by omega) (fun _ _ _ _ => rfl) (fun j a b => by omega))
      refine q_go1 200 150 [25] (fun cl ev hcl hev => ?_)
      refine hev _ ?_
      rw [e]
      refine ih (r + 1) σ3 _ 0 _ 0 _ 0 _ _ _ _ (by omega) (by omega) (fun a b z => ?_) (fun j a b => ?_)
      · rw [f3 a b (by omega) (by omega), f2 a b (by omega) (by omega), f1 a b (by omega) (by omega)]
        exact f a b z
      · rw [(c3 j a b).1, (c3 j a b).2, ← w_X_e (by omega) (by omega)]
        exact c2 j a b
theorem zl_c0 {N G : Int → Int} {h : Int} {σ0 : q_S} {K : q_R → q_S → Prop} (hE : ∀ σ', z_f4 σ0 σ' → w_mi N G 0 σ' → q_E L xs k_M_chooses (25, [(2, 100), (0, h), (0, 0), (9, 0), (9, 0), (9, 0), (9, 0), (9, 0)], [], σ') K) :
    ∀ (m k : Nat) (σ : q_S), (603 : Int) - k < m → (k : Int) ≤ 603 → z_f4 σ0 σ → (∀ j : Int, 0 ≤ j → j < (k : Int) → w_R 0 (w_V N G 0 (j / 3) (j % 3).toNat) (σ 147 j) (σ 148 j)) → q_E L xs k_M_chooses (2, [(2, 100), (0, h), (0, (k : Int)), (9, 0), (9, 0), (9, 0), (9, 0), (9, 0)], [], σ) K := by
  intro m
  induction m with
  | zero => intro k; omega
  | succ m ih =>
    intro k σ hm hk f c
    have e : q_w32 ((k : Int) + 1) = ((k + 1 : Nat) : Int) := by rw [q_w32_id] <;> omega
    have em : (k : Int).tmod 3 = (k : Int) % 3 := q_tm (by omega)
    have st : ∀ v, (k : Int) < 603 → w_R 0 (w_V N G 0 ((k : Int) / 3) ((k : Int) % 3).toNat) v 0 → q_E L xs k_M_chooses (2, [(2, 100), (0, h), (0, q_w32 ((k : Int) + 1)), (9, 0), (9, 0), (9, 0), (9, 0), (9, 0)], [], q_up (q_up σ 147 k v) 148 k 0) K := fun v hlt hv => by
      rw [e]
      refine ih (k + 1) _ (by omega) (by omega) (fun a b z => (q_un (by omega)).trans ((q_un (by omega)).trans (f a b z))) (fun j a b => ?_)
      rw [q_un (k := 148) (k' := 147) (by decide)]
      by_cases ej : j = k
      · rw [ej, q_ue, q_ue]; exact hv
      · rw [q_ui ej, q_ui ej, q_un (by decide)]; exact c j a (by omega)
    refine q_go1 100 2 [2, 25] (fun cl ev hcl hev => ?_)
    refine And.intro (fun g => ?_) (fun g => ?_)
    · exact hev _ (hE σ f (fun j a b => c j a (by omega)))
    · refine And.intro (by decide) ?_
      refine And.intro (fun g2 => ?_) (fun g2 => ?_)
      · refine And.intro (by omega) (And.intro (by omega) ?_)
        refine hev _ (st (-1) (by omega) (Or.inl ⟨?_, rfl⟩))
        have hne : ((k : Int) % 3).toNat ≠ 0 := by omega
        unfold w_V
        rw [if_neg hne]
      · refine And.intro (by omega) (And.intro (by omega) ?_)
        refine hev _ (st 0 (by omega) (Or.inr ⟨by decide, by decide, by decide, by decide, ?_⟩))
        have hz : ((k : Int) % 3).toNat = 0 := by omega
        rw [hz]
        rfl
theorem z_ch {N G : Int → Int} {h : Int} {σ : q_S} {K : q_R → q_S → Prop} (hs : 0 ≤ σ 100 13 ∧ σ 100 13 ≤ 24) (hh : -1 ≤ h ∧ h ≤ 99) (hl : ∀ i, 0 ≤ i → i < 30 → 0 ≤ σ 101 i ∧ σ 101 i ≤ 60) (hl2 : ∀ i, 0 ≤ σ 101 i) (h14 : ∀ i, 0 ≤ i → i < 24 → 0 ≤ σ 114 i ∧ σ 114 i ≤ 99) (h12 : ∀ i, 0 ≤ i → i < 24 → 0 ≤ σ 112 i ∧ σ 112 i < 30) (hN : ∀ r : Nat, (r : Int) < 24 → N r = h - σ 114 r) (hG : ∀ r : Nat, (r : Int) < 24 → G r = w_wo (σ 101) (σ 112 r - σ 112 r % 6) h 6 * 16777216 - (2 : Int) ^ r)
    (hK : ∀ σ', z_f4 σ σ' → w_mi N G (σ 100 13).toNat σ' → K none σ') : q_K L xs i_M_chooses [(2, 100), (0, h)] σ K := by
  refine q_call k_M_chooses 8 rfl ?_
  show q_E L xs k_M_chooses (0, [(2, 100), (0, h), (9, 0), (9, 0), (9, 0), (9, 0), (9, 0), (9, 0)], [], σ) K
  refine q_go1 100 0 [2] (fun cl ev hcl hev => ?_)
  refine hev _ (zl_c0 (N := N) (G := G) (σ0 := σ) (fun σ1 f1 mi1 => ?_) 604 0 σ (by omega) (by omega) (fun _ _ _ => rfl) (fun j a b => by omega))
  exact zl_c1 (σ0 := σ) hs hh hl hl2 h14 h12 hN hG hK 25 0 σ1 0 9 0 9 0 9 0 9 0 9 (by omega) (by omega) f1 mi1
/-- the best of the table -/
theorem zl_b {N G : Int → Int} {R : Nat} {hands wt h : Int} {σ : q_S} {u6 : Nat} {x6 : Int} {K : q_R → q_S → Prop} (hR : R ≤ 24) (hh : 0 ≤ hands ∧ hands ≤ 200) (mi : w_mi N G R σ)
    (hE : ∀ b k, 0 ≤ b → b < 3 * hands + 3 → w_V N G R (b / 3) (b % 3).toNat ≠ -1 → (∀ i, 0 ≤ i → i < 3 * hands + 3 → w_V N G R (i / 3) (i % 3).toNat ≤ w_V N G R (b / 3) (b % 3).toNat) → q_E L xs k_M_works (70, [(2, 100), (0, hands), (0, wt), (0, h), (0, b), (0, k), (u6, x6)], [], σ) K) :
    ∀ (m k : Nat) (b : Int), 3 * hands + 3 - k < m → (k : Int) ≤ 3 * hands + 3 → 0 ≤ b → b < 3 * hands + 3 → w_V N G R (b / 3) (b % 3).toNat ≠ -1 → (∀ i : Int, 0 ≤ i → i < (k : Int) → w_V N G R (i / 3) (i % 3).toNat ≤ w_V N G R (b / 3) (b % 3).toNat) → q_E L xs k_M_works (30, [(2, 100), (0, hands), (0, wt), (0, h), (0, b), (0, (k : Int)), (u6, x6)], [], σ) K := by
  intro m
  induction m with
  | zero => intro k; omega
  | succ m ih =>
    intro k b hm hk b0 b1 bn bm
    have e : q_w32 ((k : Int) + 1) = ((k + 1 : Nat) : Int) := by rw [q_w32_id] <;> omega
    have e3 : q_w32 (q_w32 (3 * hands) + 3) = 3 * hands + 3 := by rw [q_w32_id (x := 3 * hands) (by omega) (by omega), q_w32_id] <;> omega
    have mb := mi b (by omega) (by omega)
    have vb := w_R_b hR mb
    have vs := vb.2.2.2 bn
    refine q_go1 200 30 [30, 70] (fun cl ev hcl hev => ?_)
    refine And.intro (fun g => ?_) (fun g => ?_)
    · exact hev _ (hE b _ b0 b1 bn (fun i a c => bm i a (by omega)))
    · have mk := mi k (by omega) (by omega)
      have vk := w_R_b hR mk
      have keep : w_V N G R ((k : Int) / 3) ((k : Int) % 3).toNat ≤ w_V N G R (b / 3) (b % 3).toNat → q_E L xs k_M_works (30, [(2, 100), (0, hands), (0, wt), (0, h), (0, b), (0, q_w32 ((k : Int) + 1)), (u6, x6)], [], σ) K := fun z => by
        rw [e]
        refine ih (k + 1) b (by omega) (by omega) b0 b1 bn (fun i a c => ?_)
        by_cases ei : i = k
        · rw [ei]; exact z
        · exact bm i a (by omega)
      have take : w_V N G R ((k : Int) / 3) ((k : Int) % 3).toNat ≠ -1 → w_V N G R (b / 3) (b % 3).toNat < w_V N G R ((k : Int) / 3) ((k : Int) % 3).toNat → q_E L xs k_M_works (30, [(2, 100), (0, hands), (0, wt), (0, h), (0, (k : Int)), (0, q_w32 ((k : Int) + 1)), (u6, x6)], [], σ) K := fun zn z => by
        rw [e]
        refine ih (k + 1) k (by omega) (by omega) (by omega) (by omega) zn (fun i a c => ?_)
        by_cases ei : i = k
        · rw [ei]; exact Int.le_refl _
        · have := bm i a (by omega); omega
      have lt := fun (zn : w_V N G R ((k : Int) / 3) ((k : Int) % 3).toNat ≠ -1) => w_R_lt hR mb mk zn
      refine And.intro (by omega) (And.intro (by omega) ?_)
      refine And.intro (fun g1 => ?_) (fun g1 => ?_)
      · have zn : w_V N G R ((k : Int) / 3) ((k : Int) % 3).toNat ≠ -1 := fun z => by have := vk.2.2.1.mp z; omega
        exact hev _ (take zn ((lt zn).mp (Or.inl g1)))
      · refine And.intro (by omega) (And.intro (by omega) ?_)
        refine And.intro (fun g2 => ?_) (fun g2 => ?_)
        · refine hev _ (keep ?_)
          by_cases zn : w_V N G R ((k : Int) / 3) ((k : Int) % 3).toNat = -1
          · omega
          · have : ¬ w_V N G R (b / 3) (b % 3).toNat < w_V N G R ((k : Int) / 3) ((k : Int) % 3).toNat := fun z => by have := (lt zn).mpr z; omega
            omega
        · have zn : w_V N G R ((k : Int) / 3) ((k : Int) % 3).toNat ≠ -1 := fun z => by have := vk.2.2.1.mp z; omega
          refine And.intro (by omega) (And.intro (by omega) ?_)
          refine And.intro (fun g3 => ?_) (fun g3 => ?_)
          · refine hev _ (keep ?_)
            have : ¬ w_V N G R (b / 3) (b % 3).toNat < w_V N G R ((k : Int) / 3) ((k : Int) % 3).toNat := fun z => by have := (lt zn).mpr z; omega
            omega
          · exact hev _ (take zn ((lt zn).mp (Or.inr ⟨by omega, by omega⟩)))
theorem zl_hf {hands wt h b : Int} {σ : q_S} {K : q_R → q_S → Prop} (hs : 0 ≤ σ 100 13 ∧ σ 100 13 ≤ 24) (hb : 0 ≤ b ∧ b < 603) (hE : q_E L xs k_M_works (101, [(2, 100), (0, hands), (0, wt), (0, h), (0, b), (0, w_hf (σ 114) (σ 148 b) h (σ 100 13).toNat), (0, σ 100 13)], [], σ) K) : ∀ (m k : Nat), σ 100 13 - k < m → (k : Int) ≤ σ 100 13 → q_E L xs k_M_works (74, [(2, 100), (0, hands), (0, wt), (0, h), (0, b), (0, w_hf (σ 114) (σ 148 b) h k), (0, (k : Int))], [], σ) K := by
  intro m
  induction m with
  | zero => intro k; omega
  | succ m ih =>
    intro k hm hk
    have e : q_w32 ((k : Int) + 1) = ((k + 1 : Nat) : Int) := by rw [q_w32_id] <;> omega
    have es : w_hf (σ 114) (σ 148 b) h (k + 1) = q_w32 (w_hf (σ 114) (σ 148 b) h k + (if q_and32 (σ 148 b / 2 ^ (((k : Int) % 32).toNat)) 1 = 1 then q_w32 (h - σ 114 k) else 0)) := rfl
    refine q_go1 100 74 [74, 101] (fun cl ev hcl hev => ?_)
    refine And.intro (fun g => ?_) (fun g => ?_)
    · have ek : (k : Int) = σ 100 13 := by omega
      rw [show (σ 100 13).toNat = k by omega, ← ek] at hE
      exact hev _ hE
    · refine And.intro (by omega) ?_
      refine And.intro (fun g2 => ?_) (fun g2 => ?_)
      · rw [if_neg g2] at es
        refine hev _ ?_
        rw [e, ← es]
        exact ih (k + 1) (by omega) (by omega)
      · rw [if_pos (Decidable.not_not.mp g2)] at es
        refine And.intro (by omega) ?_
        refine hev _ ?_
        rw [e, ← es]
        exact ih (k + 1) (by omega) (by omega)
def v_w3 (a b c w : Int) : Int := if w = 0 then a else if w = 1 then b else c
theorem z_works {N G : Int → Int} {hands wt : Int} {σ : q_S} {K : q_R → q_S → Prop} (hs : 0 ≤ σ 100 13 ∧ σ 100 13 ≤ 24) (hC0 : 0 ≤ σ 100 31 ∧ σ 100 31 ≤ 12) (h124 : ∀ c, 0 ≤ c → c < 12 → 0 ≤ σ 124 c ∧ σ 124 c ≤ 99) (hl : ∀ i, 0 ≤ i → i < 30 → 0 ≤ σ 101 i ∧ σ 101 i ≤ 60) (hl2 : ∀ i, 0 ≤ σ 101 i) (h14 : ∀ i, 0 ≤ i → i < 24 → 0 ≤ σ 114 i ∧ σ 114 i ≤ 99) (h12 : ∀ i, 0 ≤ i → i < 24 → 0 ≤ σ 112 i ∧ σ 112 i < 30) (hN : ∀ r : Nat, (r : Int) < 24 → N r = v_H σ (q_cof σ (σ 100 25) (σ 100 31).toNat) - σ 114 r) (hG : ∀ r : Nat, (r : Int) < 24 → G r = w_wo (σ 101) (σ 112 r - σ 112 r % 6) (v_H σ (q_cof σ (σ 100 25) (σ 100 31).toNat)) 6 * 16777216 - (2 : Int) ^ r)
    (hN1 : ¬ (0 ≤ wt ∧ wt ≤ 2) → K (some (0, -1)) σ) (h2 : (0 ≤ wt ∧ wt ≤ 2) → ¬ (0 ≤ hands ∧ hands ≤ 200) → K (some (0, -2)) σ)
    (hK : (0 ≤ wt ∧ wt ≤ 2) → (0 ≤ hands ∧ hands ≤ 200) → ∀ σ', K (some (0, v_w3 (w_M N G (σ 100 13).toNat hands / 16777216) (16777215 - w_M N G (σ 100 13).toNat hands % 16777216) (w_hf (σ 114) (16777215 - w_M N G (σ 100 13).toNat hands % 16777216) (v_H σ (q_cof σ (σ 100 25) (σ 100 31).toNat)) (σ 100 13).toNat) wt)) σ') : q_K L xs i_M_works [(2, 100), (0, hands), (0, wt)] σ K := by
  have hin := q_cof_in (σ := σ) (d := σ 100 25) (σ 100 31).toNat
  have hh : 0 ≤ v_H σ (q_cof σ (σ 100 25) (σ 100 31).toNat) ∧ v_H σ (q_cof σ (σ 100 25) (σ 100 31).toNat) ≤ 99 := by
    unfold v_H
    by_cases z : q_cof σ (σ 100 25) (σ 100 31).toNat = -1
    · rw [if_pos z]; decide
    · rw [if_neg z]; exact h124 _ (by omega) (by omega)
  refine q_call k_M_works 7 rfl ?_
  show q_E L xs k_M_works (0, [(2, 100), (0, hands), (0, wt), (9, 0), (9, 0), (9, 0), (9, 0)], [], σ) K
  refine q_go1 200 0 [23] (fun cl ev hcl hev => ?_)
  show cl _ _ _ _
  refine hcl _ _ _ _ (c_M_in (fun g1 => ?_) (fun g1 => ?_))
  · refine And.intro (fun _ => ?_) (fun z => absurd (show (1 : Int) ≠ 0 by decide) z)
    show cl _ _ _ _
    refine hcl _ _ _ _ (c_M_in (fun g2 => ?_) (fun g2 => ?_))
    · refine And.intro (fun _ => ?_) (fun z => absurd (show (1 : Int) ≠ 0 by decide) z)
      have hK := hK g1 g2
      show cl _ _ _ _
      refine hcl _ _ _ _ (c_M_customOf hC0 ?_)
      show cl _ _ _ _
      refine hcl _ _ _ _ (z_hOf (by omega) ?_)
      refine hev _ ?_
      generalize v_H σ (q_cof σ (σ 100 25) (σ 100 31).toNat) = h at *
      have hGG : w_G G (σ 100 13).toNat := fun j hj => ⟨w_wo (σ 101) (σ 112 j - σ 112 j % 6) h 6, hG j (by omega), (w_wo_b (l := σ 101) (f := σ 112 j - σ 112 j % 6) hh.2 hl2 6).1, by have := (w_wo_b (l := σ 101) (f := σ 112 j - σ 112 j % 6) hh.2 hl2 6).2; omega⟩
      refine q_go1 200 23 [30] (fun cl ev hcl hev => ?_)
      show cl _ _ _ _
      refine hcl _ _ _ _ (z_ch (N := N) (G := G) hs (by omega) hl hl2 h14 h12 hN hG (fun σ1 f1 mi1 => ?_))
      have e13 : σ1 100 13 = σ 100 13 := f1 100 13 (by decide)
      have e114 : σ1 114 = σ 114 := funext (fun i => f1 114 i (by decide))
      have hK := hK σ1
      refine hev _ (zl_b (N := N) (G := G) (R := (σ 100 13).toNat) (by omega) g2 mi1 (fun b k b0 b1 bn bm => ?_) 700 0 0 (by omega) (by omega) (by omega) (by omega) ((w_V_R (N := N) (σ 100 13).toNat (by omega) hGG 0 0 (by omega)).2 rfl) (fun i a c => by omega))
      have mb := mi1 b b0 (by omega)
      have vb := w_R_b (by omega) mb
      have vs := vb.2.2.2 bn
      have eM : w_V N G (σ 100 13).toNat (b / 3) (b % 3).toNat = w_M N G (σ 100 13).toNat hands := by
        have m0 := bm (3 * hands) (by omega) (by omega)
        have m1 := bm (3 * hands + 1) (by omega) (by omega)
        have m2 := bm (3 * hands + 2) (by omega) (by omega)
        rw [show 3 * hands / 3 = hands by omega, show (3 * hands % 3).toNat = 0 by omega] at m0
        rw [show (3 * hands + 1) / 3 = hands by omega, show ((3 * hands + 1) % 3).toNat = 1 by omega] at m1
        rw [show (3 * hands + 2) / 3 = hands by omega, show ((3 * hands + 2) % 3).toNat = 2 by omega] at m2
        have up := w_V_mo (N := N) (G := G) (σ 100 13).toNat (by omega) hGG (b / 3) hands (b % 3).toNat (by omega) (by omega)
        unfold w_M
        have h3 : (b % 3).toNat = 0 ∨ (b % 3).toNat = 1 ∨ (b % 3).toNat = 2 := by omega
        rcases h3 with z | z | z
        · rw [z] at up m0 m1 m2 ⊢; omega
        · rw [z] at up m0 m1 m2 ⊢; omega
        · rw [z] at up m0 m1 m2 ⊢; omega
      rw [eM] at vs
      have fin : q_E L xs k_M_works (101, [(2, 100), (0, hands), (0, wt), (0, h), (0, b), (0, w_hf (σ1 114) (σ1 148 b) h (σ1 100 13).toNat), (0, σ1 100 13)], [], σ1) K := by
        unfold v_w3 at hK
        refine q_go1 200 101 [] (fun cl ev hcl hev => ?_)
        refine And.intro (fun z1 => ?_) (fun z1 => ?_)
        · rw [if_neg z1] at hK
          refine And.intro (fun z2 => ?_) (fun z2 => ?_)
          · rw [if_neg z2] at hK
            show K (some (0, w_hf (σ1 114) (σ1 148 b) h (σ1 100 13).toNat)) σ1
            rw [e114, e13, vs.2.1]
            exact hK
          · rw [if_pos (Decidable.not_not.mp z2)] at hK
            refine And.intro (by omega) ?_
            show K (some (0, σ1 148 b)) σ1
            rw [vs.2.1]
            exact hK
        · rw [if_pos (Decidable.not_not.mp z1)] at hK
          refine And.intro (by omega) ?_
          show K (some (0, σ1 147 b)) σ1
          rw [vs.1]
          exact hK
      refine q_go1 200 70 [74] (fun cl ev hcl hev => ?_)
      exact hev _ (zl_hf (by omega) (by omega) fin 25 0 (by omega) (by omega))
    · exact And.intro (fun z => absurd rfl z) (fun _ => h2 g1 g2)
  · exact And.intro (fun z => absurd rfl z) (fun _ => hN1 g1)
end V3
