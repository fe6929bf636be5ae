section Y3
variable {L : Nat} {xs : Int → Int}
theorem zl_m3 {rod on kn sold c cls : Int} {σ : q_S} {K : q_R → q_S → Prop} (hpos : ∀ o, 0 ≤ o → o ≤ 7 → 0 ≤ σ 145 o) :
    ∀ (n : Nat) (at_ : Int), n ≤ 8 → 0 ≤ at_ → at_ < 10000 → at_ < q_rs (σ 145) n → K (some (0, v_oa (σ 145) n at_)) σ → q_E L xs k_M_menderOf (124, [(2, 100), (0, rod), (0, on), (0, kn), (0, sold), (0, c), (0, cls), (0, 8 - (n : Int)), (0, at_)], [], σ) K := by
  intro n
  induction n with
  | zero => intro at_ h1 h2 h3 h4; unfold q_rs at h4; omega
  | succ n ih =>
    intro at_ h1 h2 h3 h4 hK
    have hp := hpos (7 - n) (by omega) (by omega)
    have eb : 8 - ((n + 1 : Nat) : Int) = 7 - n := by omega
    have e1 : q_w32 (7 - (n : Int) + 1) = 8 - n := by rw [q_w32_id] <;> omega
    have ev_ : v_oa (σ 145) (n + 1) at_ = if at_ < σ 145 (7 - n) then 7 - (n : Int) else v_oa (σ 145) n (at_ - σ 145 (7 - n)) := rfl
    rw [ev_] at hK
    unfold q_rs at h4
    rw [eb]
    refine q_go1 60 124 [124] (fun cl ev hcl hev => ?_)
    refine And.intro (by omega) ?_
    refine And.intro (fun hq => ?_) (fun hq => ?_)
    · rw [if_pos (by omega)] at hK
      exact hK
    · rw [if_neg (by omega)] at hK
      refine And.intro (by omega) ?_
      refine hev _ ?_
      rw [e1, q_w32_id (by omega) (by omega)]
      exact ih _ (by omega) (by omega) (by omega) (by omega) hK
theorem zl_m2 {rod on kn sold c cls : Int} {H : Int → Int} {σ : q_S} {K : q_R → q_S → Prop} (hr : 0 ≤ rod ∧ rod < 24) (hs : 0 ≤ sold ∧ sold ≤ 120) (hp : ∀ j : Nat, (j : Int) < sold → 0 ≤ σ 110 j ∧ σ 110 j ≤ 12) (hH : ∀ o, q_hof σ (σ 112 rod) o on sold.toNat = H o) (hK : K (some (0, e_gn H 7)) σ) :
    ∀ (m i : Nat), (7 : Int) - i < m → (i : Int) ≤ 7 → q_E L xs k_M_menderOf (72, [(2, 100), (0, rod), (0, on), (0, kn), (0, sold), (0, c), (0, cls), (0, e_gn H i), (0, (i : Int) + 1)], [], σ) K := by
  intro m
  induction m with
  | zero => intro i; omega
  | succ m ih =>
    intro i hm hi
    have e : q_w32 ((i : Int) + 1 + 1) = ((i + 1 : Nat) : Int) + 1 := by rw [q_w32_id] <;> omega
    have eg : e_gn H (i + 1) = if H (e_gn H i) < H ((i : Int) + 1) then (i : Int) + 1 else e_gn H i := rfl
    refine q_go1 60 72 [72] (fun cl ev hcl hev => ?_)
    refine And.intro (fun hq => ?_) (fun hq => ?_)
    · have : i = 7 := by omega
      subst this
      exact hK
    · refine And.intro (by omega) ?_
      show cl _ _ _ _
      refine hcl _ _ _ _ (c_M_heldOf hp hs ?_)
      refine And.intro (by omega) ?_
      show cl _ _ _ _
      refine hcl _ _ _ _ (c_M_heldOf hp hs ?_)
      rw [hH, hH]
      refine And.intro (fun hq2 => ?_) (fun hq2 => ?_)
      · rw [if_neg (by omega)] at eg
        refine hev _ ?_
        rw [e, ← eg]
        exact ih (i + 1) (by omega) (by omega)
      · rw [if_pos (by omega)] at eg
        refine hev _ ?_
        rw [e]
        have := ih (i + 1) (by omega) (by omega)
        rw [eg] at this
        exact this
theorem zl_m4 {rod on kn sold c cls x7 : Int} {σ : q_S} {K : q_R → q_S → Prop} (hI : q_IS σ) (hC : q_IC σ) (hr : 0 ≤ rod ∧ rod < 24) (hs : 0 ≤ sold ∧ sold ≤ σ 100 7) (hcl0 : cls = -1 ∨ (0 ≤ cls ∧ cls < 120 ∧ σ 129 cls ≤ rod ∧ rod ≤ σ 130 cls)) (hN : cls = -1 → K (some (0, -5)) σ) (hK : cls ≠ -1 → ∀ σ', q_fd σ σ' → K (some (0, w_how σ cls (σ 112 rod) rod on sold.toNat)) σ') :
    q_E L xs k_M_menderOf (47, [(2, 100), (0, rod), (0, on), (0, kn), (0, sold), (0, c), (0, cls), (0, x7), (9, 0)], [], σ) K := by
  have hab := hC.2.2.1 cls
  have hI0 := hI.1
  have hp : ∀ j : Nat, (j : Int) < sold → 0 ≤ σ 110 j ∧ σ 110 j ≤ 12 := fun j hj => by have := (hI.2.1 j (by omega)).2.2; omega
  have es : q_w32 (q_w32 (σ 130 cls - σ 129 cls) + 1) = σ 130 cls - σ 129 cls + 1 := by unfold q_w32; omega
  refine q_go1 80 47 [47, 72, 124] (fun cl ev hcl hev => ?_)
  refine And.intro (fun hq => ?_) (fun hq => hN (Decidable.not_not.mp hq))
  have hK := hK hq
  have hK0 := hK σ (fun _ _ _ _ => rfl)
  unfold w_how at hK hK0
  refine And.intro (by omega) ?_
  refine And.intro (fun hq2 => ?_) (fun hq2 => ?_)
  · rw [if_neg hq2] at hK hK0
    refine And.intro (by omega) ?_
    refine And.intro (fun hq3 => ?_) (fun hq3 => ?_)
    · rw [if_neg hq3] at hK
      refine And.intro (by omega) ?_
      refine And.intro (by omega) ?_
      have eP : e_P (σ 130 cls - σ 129 cls + 1) (fun o => q_hal σ o on sold.toNat 30) := by
        refine ⟨by omega, fun o _ _ => q_hal_pos (hI.2.2 _ (by omega)) 30, ?_⟩
        have := q_hal8 (σ := σ) (d := on) (k := sold.toNat) (fun j hj => ⟨(hI.2.1 j (by omega)).1, (hI.2.1 j (by omega)).2.1⟩) 30
        rw [this]
        rfl
      show cl _ _ _ _
      rw [es]
      refine hcl _ _ _ _ (q_Kw (q_Kand (z_deals (P := fun o => q_hal σ o on sold.toNat 30) (K := fun r σ' => r = none ∧ q_fd σ σ' ∧ ∀ o, 0 ≤ o → o < 8 → σ' 145 o = e_D (σ 130 cls - σ 129 cls + 1) (fun o => q_hal σ o on sold.toNat 30) o) (by omega) hp eP (fun _ => rfl) (fun σ' f h => ⟨rfl, f, h⟩)) (c_M_deals (K := fun _ σ' => (∀ o, 0 ≤ o → o ≤ 7 → 0 ≤ σ' 145 o) ∧ q_s8 (σ' 145) = σ 130 cls - σ 129 cls + 1) hI (by omega) hs (fun σ' _ a b => ⟨a, b⟩))) (fun r1 σ1 hE => ?_))
      obtain ⟨⟨e0, f1, h145⟩, p1, s1⟩ := hE
      subst e0
      have ea : σ1 129 cls = σ 129 cls := f1 _ _ (by decide) (by decide)
      have e1 : q_w32 (rod - σ1 129 cls) = rod - σ 129 cls := by rw [ea, q_w32_id] <;> omega
      refine And.intro (by omega) ?_
      refine hev _ ?_
      rw [e1]
      refine zl_m3 p1 8 (rod - σ 129 cls) (by omega) (by omega) (by omega) (by rw [q_rs8, s1]; omega) ?_
      rw [v_oa_c 8 _ (by omega) h145]
      exact hK σ1 f1
    · rw [if_pos (Decidable.not_not.mp hq3)] at hK0
      exact hev _ (zl_m2 (H := fun o => q_hof σ (σ 112 rod) o on sold.toNat) hr (by omega) hp (fun _ => rfl) hK0 8 0 (by omega) (by omega))
  · rw [if_pos (Decidable.not_not.mp hq2)] at hK0
    exact And.intro (by omega) hK0
def w_zc (σ : q_S) (c r : Int) (k : Nat) : Int := if v_rl (fun k => σ 129 (10 * c + k)) (fun k => σ 130 (10 * c + k)) r k = -1 then -1 else 10 * c + v_rl (fun k => σ 129 (10 * c + k)) (fun k => σ 130 (10 * c + k)) r k
theorem zl_m1 {rod on kn sold c : Int} {σ : q_S} {K : q_R → q_S → Prop} (hI : q_IS σ) (hC : q_IC σ) (hr : 0 ≤ rod ∧ rod < 24) (hs : 0 ≤ sold ∧ sold ≤ σ 100 7) (hc : 0 ≤ c ∧ c < 12) (hN : w_cls σ c rod = -1 → K (some (0, -5)) σ) (hK : w_cls σ c rod ≠ -1 → ∀ σ', q_fd σ σ' → K (some (0, w_how σ (10 * c + w_cls σ c rod) (σ 112 rod) rod on sold.toNat)) σ') :
    ∀ (m k : Nat), σ 128 c - k < m → (k : Int) ≤ σ 128 c → q_E L xs k_M_menderOf (9, [(2, 100), (0, rod), (0, on), (0, kn), (0, sold), (0, c), (0, w_zc σ c rod k), (0, (k : Int)), (9, 0)], [], σ) K := by
  intro m
  induction m with
  | zero => intro k; omega
  | succ m ih =>
    intro k hm hk
    have e : q_w32 ((k : Int) + 1) = ((k + 1 : Nat) : Int) := by have := (hC.2.1 c hc.1 hc.2).2; rw [q_w32_id] <;> omega
    have hcc := hC.2.1 c hc.1 hc.2
    have vi := v_rl_in (A := fun k => σ 129 (10 * c + k)) (B := fun k => σ 130 (10 * c + k)) (r := rod) k
    have ei : q_w32 (q_w32 (10 * c) + (k : Int)) = 10 * c + k := by unfold q_w32; omega
    have er : v_rl (fun k => σ 129 (10 * c + k)) (fun k => σ 130 (10 * c + k)) rod (k + 1) = if σ 129 (10 * c + (k : Int)) ≤ rod ∧ rod ≤ σ 130 (10 * c + (k : Int)) then (k : Int) else v_rl (fun k => σ 129 (10 * c + k)) (fun k => σ 130 (10 * c + k)) rod k := rfl
    refine q_go1 80 9 [9, 47] (fun cl ev hcl hev => ?_)
    refine And.intro (fun z => by exfalso; omega) (fun _ => ?_)
    refine And.intro (by omega) ?_
    refine And.intro (fun g => ?_) (fun g => ?_)
    · have ek : (σ 128 c).toNat = k := by omega
      have ew : w_cls σ c rod = v_rl (fun k => σ 129 (10 * c + k)) (fun k => σ 130 (10 * c + k)) rod k := by unfold w_cls; rw [ek]
      rw [ew] at hN hK
      unfold w_zc
      by_cases ev_ : v_rl (fun k => σ 129 (10 * c + k)) (fun k => σ 130 (10 * c + k)) rod k = -1
      · rw [if_pos ev_]
        exact hev _ (zl_m4 hI hC hr hs (Or.inl rfl) (fun _ => hN ev_) (fun z => absurd rfl z))
      · rw [if_neg ev_]
        have vr := vi.2.2 ev_
        exact hev _ (zl_m4 hI hC hr hs (Or.inr ⟨by omega, by omega, vr.1, vr.2⟩) (fun z => by exfalso; omega) (fun _ => hK ev_))
    · refine And.intro (by omega) ?_
      refine And.intro (by omega) ?_
      show cl _ _ _ _
      rw [ei]
      refine hcl _ _ _ _ (c_M_in (fun h1 => ?_) (fun h1 => ?_))
      · refine And.intro (fun hq3 => absurd hq3 (by decide)) (fun hq3 => ?_)
        refine hev _ ?_
        rw [e, ei]
        rw [if_pos h1] at er
        have := ih (k + 1) (by omega) (by omega)
        unfold w_zc at this
        rw [er, if_neg (by omega)] at this
        exact this
      · refine And.intro (fun hq3 => ?_) (fun hq3 => absurd rfl hq3)
        refine hev _ ?_
        rw [e]
        rw [if_neg h1] at er
        have := ih (k + 1) (by omega) (by omega)
        unfold w_zc at this ⊢
        rw [er] at this
        exact this
theorem z_who {rod on kn sold : Int} {σ : q_S} {K : q_R → q_S → Prop} (hI : q_IS σ) (hC : q_IC σ) (hr : 0 ≤ rod ∧ rod < 24) (hk : 0 ≤ kn ∧ kn ≤ 12) (hs : 0 ≤ sold ∧ sold ≤ σ 100 7) (hK : ∀ σ', q_fd σ σ' → K (some (0, w_who σ (σ 112 rod) rod on kn.toNat sold.toNat)) σ') : q_K L xs i_M_menderOf [(2, 100), (0, rod), (0, on), (0, kn), (0, sold)] σ K := by
  have hin := q_cof_in (σ := σ) (d := on) kn.toNat
  have hK0 := hK σ (fun _ _ _ _ => rfl)
  unfold w_who at hK hK0
  refine q_call k_M_menderOf 9 rfl ?_
  show q_E L xs k_M_menderOf (0, [(2, 100), (0, rod), (0, on), (0, kn), (0, sold), (9, 0), (9, 0), (9, 0), (9, 0)], [], σ) K
  refine q_go1 60 0 [9] (fun cl ev hcl hev => ?_)
  show cl _ _ _ _
  refine hcl _ _ _ _ (c_M_customOf hk ?_)
  refine hev _ ?_
  by_cases ec : q_cof σ on kn.toNat = -1
  · rw [if_pos ec] at hK0
    rw [ec]
    refine q_go1 80 9 [9, 47] (fun cl ev hcl hev => ?_)
    refine And.intro (fun _ => ?_) (fun z => absurd rfl z)
    exact hev _ (zl_m4 hI hC hr hs (Or.inl rfl) (fun _ => hK0) (fun z => absurd rfl z))
  · rw [if_neg ec] at hK hK0
    have hcc := hC.2.1 (q_cof σ on kn.toNat) (by omega) (by omega)
    have l := zl_m1 (L := L) (xs := xs) (kn := kn) (K := K) hI hC hr hs (c := q_cof σ on kn.toNat) (by omega) (fun z => by rw [if_pos z] at hK0; exact hK0) (fun z σ' f => by have hK := hK σ' f; rw [if_neg z] at hK; exact hK) 20 0 (by omega) (by omega)
    exact l
theorem z_mender {rod d ct sl : Int} {σ : q_S} {K : q_R → q_S → Prop} (hb : 0 ≤ σ 100 13 ∧ σ 100 13 ≤ 24) (hI : q_IS σ) (hC : q_IC σ) (h0 : ¬ ((0 ≤ rod ∧ rod < σ 100 13) ∧ (0 ≤ ct ∧ ct ≤ σ 100 31) ∧ (0 ≤ sl ∧ sl ≤ σ 100 7)) → K (some (0, -1)) σ) (h2 : ((0 ≤ rod ∧ rod < σ 100 13) ∧ (0 ≤ ct ∧ ct ≤ σ 100 31) ∧ (0 ≤ sl ∧ sl ≤ σ 100 7)) → ¬ (0 ≤ d ∧ d ≤ 9999) → K (some (0, -2)) σ) (h1 : ((0 ≤ rod ∧ rod < σ 100 13) ∧ (0 ≤ ct ∧ ct ≤ σ 100 31) ∧ (0 ≤ sl ∧ sl ≤ σ 100 7)) → (0 ≤ d ∧ d ≤ 9999) → ∀ σ', q_fd σ σ' → K (some (0, w_who σ (σ 112 rod) rod d ct.toNat sl.toNat)) σ') : q_K L xs i_M_mender [(2, 100), (0, rod), (0, d), (0, ct), (0, sl)] σ K := by
  have hC0 := hC.1
  refine q_call k_M_mender 5 rfl ?_
  show q_E L xs k_M_mender (0, [(2, 100), (0, rod), (0, d), (0, ct), (0, sl)], [], σ) K
  refine q_go1 200 0 [] (fun cl ev hcl hev => ?_)
  repeat' (first | refine And.intro ?_ ?_ | (intro hq; first | exact absurd hq (by decide) | exact absurd rfl hq | exact absurd hq (show ¬ (1 : Int) = 0 by decide) | exact absurd (show (1 : Int) ≠ 0 by decide) hq | skip) | refine hcl _ _ _ _ (c_M_in ?_ ?_) | refine hcl _ _ _ _ (c_M_isRod hb ?_ ?_) | refine hcl _ _ _ _ (z_who hI hC (by omega) (by omega) (by omega) (fun σ1 f1 => ?_)))
  all_goals first | omega | exact h0 (by omega) | exact h2 (by omega) (by omega) | exact h1 (by omega) (by omega) _ f1 | exact h1 (by omega) (by omega) _ (by assumption)
theorem x_mender {r d ct sl : Int} {σ : q_S} {K : q_R → q_S → Prop} (ok : ∀ k i, q_ok k i (σ k i)) (rc : y_RC σ) (sc : q_SC σ) (hI : q_IS σ) (hC : q_IC σ) (h18 : ∀ r, σ 18 r = σ 112 r) (h0 : ¬ ((0 ≤ r ∧ r < σ 17 9) ∧ (0 ≤ ct ∧ ct ≤ σ 34 2) ∧ (0 ≤ sl ∧ sl ≤ σ 7 5)) → K (some (0, -1)) σ) (h2 : ((0 ≤ r ∧ r < σ 17 9) ∧ (0 ≤ ct ∧ ct ≤ σ 34 2) ∧ (0 ≤ sl ∧ sl ≤ σ 7 5)) → ¬ (0 ≤ d ∧ d ≤ 9999) → K (some (0, -2)) σ) (h1 : ((0 ≤ r ∧ r < σ 17 9) ∧ (0 ≤ ct ∧ ct ≤ σ 34 2) ∧ (0 ≤ sl ∧ sl ≤ σ 7 5)) → (0 ≤ d ∧ d ≤ 9999) → ∀ σ', (∀ k i, k ≠ 14 → k ≠ 15 → k ≠ 16 → σ' k i = σ k i) → K (some (0, w_who σ (σ 112 r) r d ct.toNat sl.toNat)) σ') : q_K L xs i_A_mender [(2, 0), (0, r), (0, d), (0, ct), (0, sl)] σ K := by
  have hb : 0 ≤ σ 17 9 ∧ σ 17 9 ≤ 24 := by have := ok 17 9; unfold q_ok at this; omega
  refine q_call k_A_mender 5 rfl ?_
  show q_E L xs k_A_mender (0, [(2, 0), (0, r), (0, d), (0, ct), (0, sl)], [], σ) K
  refine q_go1 200 0 [] (fun cl ev hcl hev => ?_)
  repeat' (first | refine And.intro ?_ ?_ | (intro hq; first | exact absurd hq (by decide) | exact absurd rfl hq | exact absurd hq (show ¬ (1 : Int) = 0 by decide) | exact absurd (show (1 : Int) ≠ 0 by decide) hq | skip) | (show cl _ _ _ _; first | refine hcl _ _ _ _ (c_A_within ?_ ?_) | refine hcl _ _ _ _ (c_A_isDay ?_ ?_) | refine hcl _ _ _ _ (c_A_isRod hb ?_ ?_) | refine hcl _ _ _ _ (x_who ok rc sc hI hC (by omega) (h18 _) (by omega) (by omega) (fun σ1 f1 => ?_))))
  all_goals first | omega | exact h0 (by omega) | exact h2 (by omega) (by omega) | exact h1 (by omega) (by omega) _ f1 | exact h1 (by omega) (by omega) _ (by assumption)
theorem q_cof_c {σ σ' : q_S} {d : Int} (h : ∀ i, σ' 123 i = σ 123 i) : ∀ k : Nat, q_cof σ' d k = q_cof σ d k
  | 0 => rfl
  | k + 1 => by
    have e : q_cof σ d (k + 1) = if σ 123 k ≤ d ∧ (q_cof σ d k = -1 ∨ σ 123 (q_cof σ d k) ≤ σ 123 k) then (k : Int) else q_cof σ d k := rfl
    have e' : q_cof σ' d (k + 1) = if σ' 123 k ≤ d ∧ (q_cof σ' d k = -1 ∨ σ' 123 (q_cof σ' d k) ≤ σ' 123 k) then (k : Int) else q_cof σ' d k := rfl
    rw [e, e', q_cof_c h k, h, h]
/-- who mends rests on customs and sales alone -/
theorem w_who_c {σ σ' : q_S} {cell r d : Int} {kc ks : Nat} (h : ∀ k i, (107 ≤ k ∧ k ≤ 111) ∨ (123 ≤ k ∧ k ≤ 132) → σ' k i = σ k i) : w_who σ' cell r d kc ks = w_who σ cell r d kc ks := by
  have ec := q_cof_c (σ := σ) (σ' := σ') (d := d) (fun i => h 123 i (by omega)) kc
  have eh : ∀ o, q_hof σ' cell o d ks = q_hof σ cell o d ks := fun o => q_hof_c (fun k i hk => h k i (Or.inl hk)) ks
  have ea : ∀ o, q_hal σ' o d ks 30 = q_hal σ o d ks 30 := fun o => q_hal_fr (fun i => ⟨h _ _ (by omega), h _ _ (by omega), h _ _ (by omega), h _ _ (by omega), h _ _ (by omega)⟩) 30
  have e1 : ∀ i, σ' 129 i = σ 129 i := fun i => h _ _ (by omega)
  have e2 : ∀ i, σ' 130 i = σ 130 i := fun i => h _ _ (by omega)
  have e3 : ∀ i, σ' 131 i = σ 131 i := fun i => h _ _ (by omega)
  have e4 : ∀ i, σ' 132 i = σ 132 i := fun i => h _ _ (by omega)
  have e5 : ∀ i, σ' 128 i = σ 128 i := fun i => h _ _ (by omega)
  unfold w_who w_cls w_how
  simp only [ec, eh, ea, e1, e2, e3, e4, e5]
theorem a_18 {a b c d i : Int} {σ : q_S} (h : q_IN σ) (sc : q_SC σ) (rt : y_RT i σ) (rc : y_RC σ) : q_P2 L xs i_A_mender [(2, 0), (0, a), (0, b), (0, c), (0, d)] i_M_mender [(2, 100), (0, a), (0, b), (0, c), (0, d)] σ (fun x y _ => x = y) := by
  have hI : q_IS σ := h.2.1.2.2.2.1
  have hC : q_IC σ := h.2.1.2.2.2.2.1
  have e5 := sc.1
  have e31 := rc.2.1.1
  have e13 := Ms13 rt.2.1
  have hb := h.2.1.1
  refine x_mender h.1 rc sc hI hC (fun r => (M112 rt.2.1 r).symm) (fun g => ⟨_, rfl, ?_⟩) (fun g g2 => ⟨_, rfl, ?_⟩) (fun g g2 σ1 f => ⟨_, rfl, ?_⟩)
  · exact z_mender hb hI hC (fun _ => ⟨_, rfl, rfl⟩) (fun k _ => by exfalso; omega) (fun k _ => by exfalso; omega)
  · exact z_mender hb hI hC (fun k => by exfalso; omega) (fun _ _ => ⟨_, rfl, rfl⟩) (fun _ k => by exfalso; omega)
  · have f1 : ∀ k j, 100 ≤ k → σ1 k j = σ k j := fun k j hk => f k j (by omega) (by omega) (by omega)
    have g13 := f1 100 13 (by decide)
    have g31 := f1 100 31 (by decide)
    have g7 := f1 100 7 (by decide)
    refine z_mender (by omega) (q_IS_c (fun k i hk => f1 k i (by omega)) g7 hI) (q_IC_c (fun k i hk => f1 k i (by omega)) g31 hC) (fun k => by exfalso; omega) (fun _ k => by exfalso; omega) (fun _ _ σ2 _ => ⟨_, rfl, ?_⟩)
    rw [f1 112 a (by decide), w_who_c (fun k i hk => f1 k i (by omega))]
end Y3
