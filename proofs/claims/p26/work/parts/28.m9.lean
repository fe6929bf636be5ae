def q_s8 (f : Int → Int) : Int := f 0 + f 1 + f 2 + f 3 + f 4 + f 5 + f 6 + f 7
theorem q_c8 {b : Int} (h : 0 ≤ b ∧ b ≤ 7) : b = 0 ∨ b = 1 ∨ b = 2 ∨ b = 3 ∨ b = 4 ∨ b = 5 ∨ b = 6 ∨ b = 7 := by omega
theorem q_s8_up {σ : q_S} {k b v : Int} (h : 0 ≤ b ∧ b ≤ 7) : q_s8 (q_up σ k b v k) = q_s8 (σ k) + v - σ k b := by
  unfold q_s8 q_up
  rcases q_c8 h with rfl | rfl | rfl | rfl | rfl | rfl | rfl | rfl <;> simp <;> omega
/-- one part moved: one owner has it more, one less -/
theorem q_ite8 {t p : Int} (h : 0 ≤ t ∧ t ≤ 7) : q_s8 (fun o => if t = o then p else 0) = p := by
  unfold q_s8
  rcases q_c8 h with rfl | rfl | rfl | rfl | rfl | rfl | rfl | rfl <;> simp
theorem q_hof8 {σ : q_S} {c d : Int} : ∀ k : Nat, (∀ j : Nat, j < k → (0 ≤ σ 108 j ∧ σ 108 j ≤ 7) ∧ (0 ≤ σ 109 j ∧ σ 109 j ≤ 7)) → q_s8 (fun o => q_hof σ c o d k) = 12
  | 0, _ => by unfold q_s8 q_hof; simp
  | k + 1, h => by
    have ih := q_hof8 (c := c) (d := d) k (fun j hj => h j (by omega))
    have h1 := q_ite8 (p := σ 110 k) (h k (by omega)).1
    have h2 := q_ite8 (p := σ 110 k) (h k (by omega)).2
    unfold q_s8 at *
    dsimp only at *
    unfold q_hof
    split
    · omega
    · exact ih
theorem q_hal8 {σ : q_S} {d : Int} {k : Nat} (h : ∀ j : Nat, j < k → (0 ≤ σ 108 j ∧ σ 108 j ≤ 7) ∧ (0 ≤ σ 109 j ∧ σ 109 j ≤ 7)) : ∀ c : Nat, q_s8 (fun o => q_hal σ o d k c) = 12 * c
  | 0 => by unfold q_s8 q_hal; simp
  | c + 1 => by
    have ih := q_hal8 (d := d) h c
    have h1 := q_hof8 (c := c) (d := d) k h
    unfold q_s8 at *
    dsimp only at *
    unfold q_hal
    omega
theorem q_hal_pos {σ : q_S} {o d : Int} {k : Nat} (h : ∀ c o d, 0 ≤ q_hof σ c o d k) : ∀ c : Nat, 0 ≤ q_hal σ o d k c
  | 0 => by unfold q_hal; omega
  | c + 1 => by
    have := q_hal_pos (o := o) (d := d) h c
    have := h c o d
    unfold q_hal
    omega
theorem q_hal_fr {σ σ' : q_S} {o d : Int} {k : Nat} (h : ∀ i : Int, σ' 107 i = σ 107 i ∧ σ' 108 i = σ 108 i ∧ σ' 109 i = σ 109 i ∧ σ' 110 i = σ 110 i ∧ σ' 111 i = σ 111 i) : ∀ c : Nat, q_hal σ' o d k c = q_hal σ o d k c
  | 0 => rfl
  | c + 1 => by
    unfold q_hal
    rw [q_hal_fr h c, q_hof_cong k (fun j _ => ⟨(h j).1, (h j).2.1, (h j).2.2.1, (h j).2.2.2.1, fun _ => by rw [(h j).2.2.2.2]⟩)]
/-- only the rows in which a number is dealt may differ -/
def q_fd (σ σ' : q_S) : Prop := ∀ k i, k ≠ 145 → k ≠ 146 → σ' k i = σ k i
theorem q_fd_up {σ σ' : q_S} {k i v : Int} (h : q_fd σ σ') (hk : k = 145 ∨ k = 146) : q_fd σ (q_up σ' k i v) := fun k' i' h1 h2 => (q_un (by omega)).trans (h k' i' h1 h2)
/-- the shares rounded down, of the first o owners -/
def q_ps (s : Int) (H : Int → Int) : Nat → Int
  | 0 => 0
  | o + 1 => q_ps s H o + s * H o / 360
theorem q_s8_pos {f : Int → Int} (hpos : ∀ o, 0 ≤ o → o ≤ 7 → 0 ≤ f o) : 0 ≤ q_s8 f := by
  have h0 := hpos 0 (by omega) (by omega)
  have h1 := hpos 1 (by omega) (by omega)
  have h2 := hpos 2 (by omega) (by omega)
  have h3 := hpos 3 (by omega) (by omega)
  have h4 := hpos 4 (by omega) (by omega)
  have h5 := hpos 5 (by omega) (by omega)
  have h6 := hpos 6 (by omega) (by omega)
  have h7 := hpos 7 (by omega) (by omega)
  unfold q_s8
  omega
theorem q_s8_le {f : Int → Int} (hpos : ∀ o, 0 ≤ o → o ≤ 7 → 0 ≤ f o) {b : Int} (hb : 0 ≤ b ∧ b ≤ 7) : f b ≤ q_s8 f := by
  have h0 := hpos 0 (by omega) (by omega)
  have h1 := hpos 1 (by omega) (by omega)
  have h2 := hpos 2 (by omega) (by omega)
  have h3 := hpos 3 (by omega) (by omega)
  have h4 := hpos 4 (by omega) (by omega)
  have h5 := hpos 5 (by omega) (by omega)
  have h6 := hpos 6 (by omega) (by omega)
  have h7 := hpos 7 (by omega) (by omega)
  unfold q_s8
  rcases q_c8 hb with rfl | rfl | rfl | rfl | rfl | rfl | rfl | rfl <;> omega
/-- rounded down, the shares don't pass the whole -/
theorem q_ps8 {s : Int} {H : Int → Int} (h : q_s8 H = 360) : q_ps s H 8 ≤ s := by
  have e : s * H 0 + s * H 1 + s * H 2 + s * H 3 + s * H 4 + s * H 5 + s * H 6 + s * H 7 = 360 * s := by
    have : s * q_s8 H = 360 * s := by rw [h, Int.mul_comm]
    unfold q_s8 at this
    simp only [Int.mul_add] at this
    exact this
  simp only [q_ps]
  generalize s * H 0 = a0 at *
  show 0 + a0 / 360 + s * H 1 / 360 + s * H 2 / 360 + s * H 3 / 360 + s * H 4 / 360 + s * H 5 / 360 + s * H 6 / 360 + s * H 7 / 360 ≤ s
  generalize s * H 1 = a1 at *
  generalize s * H 2 = a2 at *
  generalize s * H 3 = a3 at *
  generalize s * H 4 = a4 at *
  generalize s * H 5 = a5 at *
  generalize s * H 6 = a6 at *
  generalize s * H 7 = a7 at *
  omega
section P28
variable {L : Nat} {xs : Int → Int}
/-- the owner with the greatest rest: some owner -/
theorem l_M_deals3 {sum on kn left : Int} {σ : q_S} {x7 : Int} {u7 : Nat} {K : q_R → q_S → Prop} (hK : ∀ b, 0 ≤ b → b < 8 → q_E L xs k_M_deals (66, [(2, 100), (0, sum), (0, on), (0, kn), (0, left), (0, b), (0, 8), (u7, x7)], [], σ) K) :
    ∀ (m : Nat) (b : Int) (i : Int), 8 - i < m → 1 ≤ i → i ≤ 8 → 0 ≤ b → b < 8 → q_E L xs k_M_deals (48, [(2, 100), (0, sum), (0, on), (0, kn), (0, left), (0, b), (0, i), (u7, x7)], [], σ) K := by
  intro m
  induction m with
  | zero => intro b i; omega
  | succ m ih =>
    intro b i hm hi hi2 hb0 hb
    have e : q_w32 (i + 1) = i + 1 := by rw [q_w32_id] <;> omega
    refine q_go1 60 48 [48, 66] (fun cl ev hcl hev => ?_)
    refine And.intro (fun hq => ?_) (fun hq => ?_)
    · have : i = 8 := by omega
      subst this
      exact hev _ (hK b hb0 hb)
    · refine And.intro (by omega) ?_
      refine And.intro (by omega) ?_
      refine And.intro (fun hq2 => ?_) (fun hq2 => ?_)
      · refine hev _ ?_
        rw [e]
        exact ih b (i + 1) (by omega) (by omega) (by omega) hb0 hb
      · refine hev _ ?_
        rw [e]
        exact ih i (i + 1) (by omega) (by omega) (by omega) (by omega) (by omega)
/-- what is left is dealt one by one -/
theorem l_M_deals2 {sum on kn : Int} {σ0 : q_S} {K : q_R → q_S → Prop} (hsum : 0 ≤ sum ∧ sum ≤ 100000) (hK : ∀ σ', q_fd σ0 σ' → (∀ o, 0 ≤ o → o ≤ 7 → 0 ≤ σ' 145 o) → q_s8 (σ' 145) = sum → K none σ') :
    ∀ (m : Nat) (σ : q_S) (left b x6 : Int) (u6 : Nat) (x7 : Int) (u7 : Nat), left < m → 0 ≤ left → q_fd σ0 σ → (∀ o, 0 ≤ o → o ≤ 7 → 0 ≤ σ 145 o) → q_s8 (σ 145) + left = sum → q_E L xs k_M_deals (42, [(2, 100), (0, sum), (0, on), (0, kn), (0, left), (0, b), (u6, x6), (u7, x7)], [], σ) K := by
  intro m
  induction m with
  | zero => intro σ left; omega
  | succ m ih =>
    intro σ left b x6 u6 x7 u7 hm hl hf hpos hs
    refine q_go1 60 42 [42, 48, 66] (fun cl ev hcl hev => ?_)
    refine And.intro (fun hq => ?_) (fun hq => ?_)
    · exact hK σ hf hpos (by omega)
    · refine hev _ (l_M_deals3 (fun b hb0 hb => ?_) 20 0 1 (by omega) (by omega) (by omega) (by omega) (by omega))
      have hbp := hpos b hb0 (by omega)
      have hle : σ 145 b ≤ sum := by
        have h0 := hpos 0 (by omega) (by omega)
        have h1 := hpos 1 (by omega) (by omega)
        have h2 := hpos 2 (by omega) (by omega)
        have h3 := hpos 3 (by omega) (by omega)
        have h4 := hpos 4 (by omega) (by omega)
        have h5 := hpos 5 (by omega) (by omega)
        have h6 := hpos 6 (by omega) (by omega)
        have h7 := hpos 7 (by omega) (by omega)
        unfold q_s8 at hs
        rcases q_c8 (b := b) ⟨hb0, by omega⟩ with rfl | rfl | rfl | rfl | rfl | rfl | rfl | rfl <;> omega
      have hs8 := q_s8_pos hpos
      have e : q_w32 (σ 145 b + 1) = σ 145 b + 1 := by rw [q_w32_id] <;> omega
      have e2 : q_w32 (left + (-1)) = left - 1 := by rw [q_w32_id] <;> omega
      refine q_go1 60 66 [42] (fun cl ev hcl hev => ?_)
      refine And.intro (by omega) ?_
      refine And.intro (by omega) ?_
      refine And.intro (by omega) ?_
      refine hev _ ?_
      rw [e, e2]
      refine ih _ (left - 1) b 8 0 x7 u7 (by omega) (by omega) (q_fd_up (q_fd_up hf (Or.inl rfl)) (Or.inr rfl)) (fun o h1 h2 => ?_) ?_
      · rw [q_un (by decide)]
        unfold q_up
        rw [if_pos rfl]
        split
        · omega
        · exact hpos o h1 h2
      · have := q_s8_up (σ := σ) (k := 145) (v := σ 145 b + 1) (b := b) ⟨hb0, by omega⟩
        rw [show q_up (q_up σ 145 b (σ 145 b + 1)) 146 b (-1) 145 = q_up σ 145 b (σ 145 b + 1) 145 from funext fun i => q_un (by decide)]
        omega

theorem l_M_deals1 {sum on kn : Int} {σ0 : q_S} {H : Int → Int} {K : q_R → q_S → Prop} (hsum : 0 ≤ sum ∧ sum ≤ 100000) (hk : 0 ≤ kn ∧ kn ≤ 120) (hp : ∀ j : Nat, (j : Int) < kn → 0 ≤ σ0 110 j ∧ σ0 110 j ≤ 12) (hH : ∀ o, H o = q_hal σ0 o on kn.toNat 30) (hH0 : ∀ o, 0 ≤ o → o ≤ 7 → 0 ≤ H o) (hH8 : q_s8 H = 360)
    (hK : ∀ σ', q_fd σ0 σ' → (∀ o, 0 ≤ o → o ≤ 7 → 0 ≤ σ' 145 o) → q_s8 (σ' 145) = sum → K none σ') :
    ∀ (m : Nat) (σ : q_S) (o : Nat) (x6 : Int) (u6 : Nat), 8 - (o : Int) < m → o ≤ 8 → q_fd σ0 σ → (∀ j : Nat, j < o → σ 145 j = sum * H j / 360) → q_E L xs k_M_deals (4, [(2, 100), (0, sum), (0, on), (0, kn), (0, sum - q_ps sum H o), (0, (o : Int)), (u6, x6), (9, 0)], [], σ) K := by
  intro m
  induction m with
  | zero => intro σ o; omega
  | succ m ih =>
    intro σ o x6 u6 hm ho hf hd
    have e : q_w32 ((o : Int) + 1) = ((o + 1 : Nat) : Int) := by rw [q_w32_id] <;> omega
    have hnn : ∀ j : Nat, j ≤ 7 → 0 ≤ sum * H j / 360 := fun j hj => Int.ediv_nonneg (Int.mul_nonneg hsum.1 (hH0 j (by omega) (by omega))) (by decide)
    have hps : ∀ j : Nat, j ≤ 8 → 0 ≤ q_ps sum H j := by
      intro j
      induction j with
      | zero => intro _; exact Int.le_refl 0
      | succ j ihj => intro hj; have := ihj (by omega); have := hnn j (by omega); unfold q_ps; omega
    have hps8 := q_ps8 (s := sum) hH8
    have hmono : ∀ j : Nat, j ≤ 8 → q_ps sum H j ≤ q_ps sum H 8 := by
      intro j hj
      have h0 := hnn 0 (by omega)
      have h1 := hnn 1 (by omega)
      have h2 := hnn 2 (by omega)
      have h3 := hnn 3 (by omega)
      have h4 := hnn 4 (by omega)
      have h5 := hnn 5 (by omega)
      have h6 := hnn 6 (by omega)
      have h7 := hnn 7 (by omega)
      have c9 : j = 0 ∨ j = 1 ∨ j = 2 ∨ j = 3 ∨ j = 4 ∨ j = 5 ∨ j = 6 ∨ j = 7 ∨ j = 8 := by omega
      rcases c9 with rfl | rfl | rfl | rfl | rfl | rfl | rfl | rfl | rfl <;> simp only [q_ps] <;> omega
    refine q_go1 80 4 [4, 42] (fun cl ev hcl hev => ?_)
    refine And.intro (fun hq => ?_) (fun hq => ?_)
    · have e8 : o = 8 := by omega
      subst e8
      refine hev _ (l_M_deals2 hsum hK 200000 σ _ _ _ _ _ _ ?_ (by omega) hf (fun o h1 h2 => ?_) ?_)
      · have := hps 8 (by omega); omega
      · obtain ⟨j, rfl⟩ := Int.eq_ofNat_of_zero_le h1
        rw [hd j (by omega)]
        exact hnn j (by omega)
      · have d0 : σ 145 0 = sum * H 0 / 360 := hd 0 (by omega)
        have d1 : σ 145 1 = sum * H 1 / 360 := hd 1 (by omega)
        have d2 : σ 145 2 = sum * H 2 / 360 := hd 2 (by omega)
        have d3 : σ 145 3 = sum * H 3 / 360 := hd 3 (by omega)
        have d4 : σ 145 4 = sum * H 4 / 360 := hd 4 (by omega)
        have d5 : σ 145 5 = sum * H 5 / 360 := hd 5 (by omega)
        have d6 : σ 145 6 = sum * H 6 / 360 := hd 6 (by omega)
        have d7 : σ 145 7 = sum * H 7 / 360 := hd 7 (by omega)
        have : q_s8 (σ 145) = q_ps sum H 8 := by
          show σ 145 0 + σ 145 1 + σ 145 2 + σ 145 3 + σ 145 4 + σ 145 5 + σ 145 6 + σ 145 7 = 0 + sum * H 0 / 360 + sum * H 1 / 360 + sum * H 2 / 360 + sum * H 3 / 360 + sum * H 4 / 360 + sum * H 5 / 360 + sum * H 6 / 360 + sum * H 7 / 360
          omega
        omega
    · have hfr : ∀ i : Int, σ 107 i = σ0 107 i ∧ σ 108 i = σ0 108 i ∧ σ 109 i = σ0 109 i ∧ σ 110 i = σ0 110 i ∧ σ 111 i = σ0 111 i := fun i => ⟨hf _ _ (by decide) (by decide), hf _ _ (by decide) (by decide), hf _ _ (by decide) (by decide), hf _ _ (by decide) (by decide), hf _ _ (by decide) (by decide)⟩
      refine hcl _ _ _ _ (c_M_heldAll (fun j hj => by rw [(hfr j).2.2.2.1]; exact hp j hj) hk ?_)
      rw [q_hal_fr hfr 30, ← hH]
      have hHo := hH0 o (by omega) (by omega)
      have hHle : H o ≤ 360 := by rw [← hH8]; exact q_s8_le hH0 (by omega)
      have hprod : sum * H o ≤ 100000 * 360 := Int.mul_le_mul hsum.2 hHle hHo (by decide)
      have hprod0 : 0 ≤ sum * H o := Int.mul_nonneg hsum.1 hHo
      have e64 : q_w64 (sum * H o) = sum * H o := q_w64_id (by omega) (by omega)
      have ediv : q_w32 (q_w64 ((q_w64 (sum * H o)).tdiv 360)) = sum * H o / 360 := by
        rw [e64, Int.tdiv_eq_ediv_of_nonneg hprod0, q_w64_id (by omega) (by omega), q_w32_id (by omega) (by omega)]
      have hpo := hps o (by omega)
      have hmo := hmono (o + 1) (by omega)
      have eps : q_ps sum H (o + 1) = q_ps sum H o + sum * H o / 360 := rfl
      refine And.intro (by decide) ?_
      refine And.intro (by omega) ?_
      refine And.intro (by decide) ?_
      refine And.intro (by omega) ?_
      refine And.intro (by omega) ?_
      refine hev _ ?_
      rw [e]
      have erd : q_up (q_up σ 145 o (q_w32 (q_w64 ((q_w64 (sum * H o)).tdiv 360)))) 146 o (q_w32 ((q_w64 (sum * H o)).tmod 360)) 145 o = sum * H o / 360 := by
        rw [q_un (by decide), q_ue, ediv]
      rw [erd, q_w32_id (by omega) (by omega)]
      rw [show sum - q_ps sum H o - sum * H o / 360 = sum - q_ps sum H (o + 1) by omega]
      refine ih _ (o + 1) _ _ (by omega) (by omega) (q_fd_up (q_fd_up hf (Or.inl rfl)) (Or.inr rfl)) (fun j hj => ?_)
      rw [q_un (by decide)]
      by_cases ej : j = o
      · subst ej
        rw [q_ue, ediv]
      · rw [q_un2 (by omega)]
        exact hd j (by omega)
theorem c_M_deals {sum on kn : Int} {σ : q_S} {K : q_R → q_S → Prop} (hI : q_IS σ) (hsum : 0 ≤ sum ∧ sum ≤ 100000) (hk : 0 ≤ kn ∧ kn ≤ σ 100 7)
    (hK : ∀ σ', q_fd σ σ' → (∀ o, 0 ≤ o → o ≤ 7 → 0 ≤ σ' 145 o) → q_s8 (σ' 145) = sum → K none σ') : q_K L xs i_M_deals [(2, 100), (0, sum), (0, on), (0, kn)] σ K := by
  obtain ⟨hs, hrow, hpos⟩ := hI
  refine q_call k_M_deals 8 rfl ?_
  show q_E L xs k_M_deals (0, [(2, 100), (0, sum), (0, on), (0, kn), (9, 0), (9, 0), (9, 0), (9, 0)], [], σ) K
  refine q_go1 60 0 [4] (fun cl ev hcl hev => ?_)
  have l := l_M_deals1 (L := L) (xs := xs) (on := on) (H := fun o => q_hal σ o on kn.toNat 30) hsum (by omega) (fun j hj => by have := (hrow j (by omega)).2.2; omega) (fun _ => rfl) (fun o _ _ => q_hal_pos (hpos kn.toNat (by omega)) 30) (by
    have := q_hal8 (σ := σ) (d := on) (k := kn.toNat) (fun j hj => ⟨(hrow j (by omega)).1, (hrow j (by omega)).2.1⟩) 30
    rw [this]
    rfl) hK 20 σ 0 0 9 (by omega) (by omega) (fun _ _ _ _ => rfl) (fun j hj => by omega)
  have e0 : sum - q_ps sum (fun o => q_hal σ o on kn.toNat 30) 0 = sum := by unfold q_ps; omega
  rw [e0] at l
  exact hev _ l

end P28
