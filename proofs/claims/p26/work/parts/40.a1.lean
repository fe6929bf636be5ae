/-- what always holds of the class, value by value -/
def q_ok (k i v : Int) : Prop := (k = 7 → i = 5 → 0 ≤ v ∧ v ≤ 120) ∧ (k = 17 → i = 9 → 0 ≤ v ∧ v ≤ 24) ∧ (k = 27 → i = 2 → 0 ≤ v ∧ v ≤ 6) ∧ (k = 34 → i = 2 → 0 ≤ v ∧ v ≤ 12) ∧ (k = 88 → i = 7 → 0 ≤ v ∧ v ≤ 60) ∧ (k = 32 → (i = 1 ∨ i = 2) → 0 ≤ v ∧ v ≤ 160) ∧ (k = 18 → 0 ≤ v ∧ v < 30) ∧ (k = 28 → 0 ≤ v ∧ v < 30) ∧ (k = 20 → 0 ≤ v ∧ v ≤ 99) ∧ (k = 95 → -1 ≤ v ∧ v < 60) ∧ ((36 ≤ k ∧ k ≤ 84 ∧ k % 4 = 0) → (i = 8 → 0 ≤ v ∧ v ≤ 10) ∧ (i = 1 → -1 ≤ v ∧ v ≤ 99))
/-- cells of which nothing need hold -/
def q_fre (k : Int) : Prop := k ≠ 7 ∧ k ≠ 17 ∧ k ≠ 27 ∧ k ≠ 34 ∧ k ≠ 88 ∧ k ≠ 32 ∧ k ≠ 18 ∧ k ≠ 28 ∧ k ≠ 20 ∧ k ≠ 95 ∧ ¬ (36 ≤ k ∧ k ≤ 84 ∧ k % 4 = 0)
theorem q_ok_fre {k i v : Int} (h : q_fre k) : q_ok k i v := by unfold q_fre at h; unfold q_ok; omega
/-- the class at work: only what W names has changed, and the class is sound -/
def q_AW (W : Int → Int → Prop) (σ0 σ : q_S) : Prop := (∀ k i, ¬ W k i → σ k i = σ0 k i) ∧ ∀ k i, q_ok k i (σ k i)
theorem q_AWu {W : Int → Int → Prop} {σ0 σ : q_S} {k i v : Int} (h : q_AW W σ0 σ) (hw : W k i) (ho : q_ok k i v) : q_AW W σ0 (q_up σ k i v) := by
  refine ⟨fun k' i' hn => ?_, fun k' i' => ?_⟩
  · unfold q_up
    split
    · split
      · rename_i e1 e2; subst e1; subst e2; exact absurd hw hn
      · exact h.1 k' i' hn
    · exact h.1 k' i' hn
  · unfold q_up
    split
    · split
      · rename_i e1 e2; subst e1; subst e2; exact ho
      · exact h.2 k' i'
    · exact h.2 k' i'
theorem q_AWf {W : Int → Int → Prop} {σ0 σ : q_S} {k i v : Int} (h : q_AW W σ0 σ) (hw : W k i) (hf : q_fre k) : q_AW W σ0 (q_up σ k i v) := q_AWu h hw (q_ok_fre hf)
section QO
variable {W : Int → Int → Prop} {σ0 σ : q_S}
theorem q_oSales (h : q_AW W σ0 σ) : 0 ≤ σ 7 5 ∧ σ 7 5 ≤ 120 := (h.2 7 5).1 rfl rfl
theorem q_oBank (h : q_AW W σ0 σ) : 0 ≤ σ 17 9 ∧ σ 17 9 ≤ 24 := (h.2 17 9).2.1 rfl rfl
theorem q_oHerds (h : q_AW W σ0 σ) : 0 ≤ σ 27 2 ∧ σ 27 2 ≤ 6 := (h.2 27 2).2.2.1 rfl rfl
theorem q_oCourts (h : q_AW W σ0 σ) : 0 ≤ σ 34 2 ∧ σ 34 2 ≤ 12 := (h.2 34 2).2.2.2.1 rfl rfl
theorem q_oFaults (h : q_AW W σ0 σ) : 0 ≤ σ 88 7 ∧ σ 88 7 ≤ 60 := (h.2 88 7).2.2.2.2.1 rfl rfl
theorem q_oTape (h : q_AW W σ0 σ) : 0 ≤ σ 32 1 ∧ σ 32 1 ≤ 160 := (h.2 32 1).2.2.2.2.2.1 rfl (Or.inl rfl)
theorem q_oAt (h : q_AW W σ0 σ) : 0 ≤ σ 32 2 ∧ σ 32 2 ≤ 160 := (h.2 32 2).2.2.2.2.2.1 rfl (Or.inr rfl)
theorem q_oCell (h : q_AW W σ0 σ) (i : Int) : 0 ≤ σ 18 i ∧ σ 18 i < 30 := (h.2 18 i).2.2.2.2.2.2.1 rfl
theorem q_oPlace (h : q_AW W σ0 σ) (i : Int) : 0 ≤ σ 28 i ∧ σ 28 i < 30 := (h.2 28 i).2.2.2.2.2.2.2.1 rfl
theorem q_oHeight (h : q_AW W σ0 σ) (i : Int) : 0 ≤ σ 20 i ∧ σ 20 i ≤ 99 := (h.2 20 i).2.2.2.2.2.2.2.2.1 rfl
theorem q_oOpen (h : q_AW W σ0 σ) (i : Int) : -1 ≤ σ 95 i ∧ σ 95 i < 60 := (h.2 95 i).2.2.2.2.2.2.2.2.2.1 rfl
theorem q_oRules (h : q_AW W σ0 σ) {k : Int} (hk : 36 ≤ k ∧ k ≤ 84 ∧ k % 4 = 0) : 0 ≤ σ k 8 ∧ σ k 8 ≤ 10 := ((h.2 k 8).2.2.2.2.2.2.2.2.2.2 hk).1 rfl
theorem q_oDue (h : q_AW W σ0 σ) {k : Int} (hk : 36 ≤ k ∧ k ≤ 84 ∧ k % 4 = 0) : -1 ≤ σ k 1 ∧ σ k 1 ≤ 99 := ((h.2 k 1).2.2.2.2.2.2.2.2.2.2 hk).2 rfl
end QO
/-- a cell of a custom -/
def q_cu (k : Int) : Prop := k = 36 ∨ k = 40 ∨ k = 44 ∨ k = 48 ∨ k = 52 ∨ k = 56 ∨ k = 60 ∨ k = 64 ∨ k = 68 ∨ k = 72 ∨ k = 76 ∨ k = 80 ∨ k = 84
theorem q_cu_in {k : Int} (h : q_cu k) : 36 ≤ k ∧ k ≤ 84 ∧ k % 4 = 0 := by unfold q_cu at h; omega
/-- the gate between two cells -/
def q_gb (a b : Int) : Int := if q_bes (min a b) 1 = max a b then 2 * min a b else if q_bes (min a b) 3 = max a b then 2 * min a b + 1 else -1
theorem q_gb_in {a b : Int} (ha : 0 ≤ a ∧ a < 30) (hb : 0 ≤ b ∧ b < 30) : -1 ≤ q_gb a b ∧ q_gb a b < 60 := by
  unfold q_gb
  repeat' split
  all_goals omega
section P40
variable {L : Nat} {xs : Int → Int}

theorem c_A_within {v lo hi : Int} {σ : q_S} {K : q_R → q_S → Prop} (h1 : (lo ≤ v ∧ v ≤ hi) → K (some (0, 1)) σ) (h0 : ¬ (lo ≤ v ∧ v ≤ hi) → K (some (0, 0)) σ) : q_K L xs i_A_within [(0, v), (0, lo), (0, hi)] σ K := by
  refine q_call k_A_within 3 rfl ?_
  show q_E L xs k_A_within (0, [(0, v), (0, lo), (0, hi)], [], σ) K
  refine q_go1 200 0 [] (fun cl ev hcl hev => ?_)
  repeat' (first | refine And.intro ?_ ?_ | (intro hq; first | exact absurd hq (by decide) | exact absurd rfl hq | exact absurd hq (show ¬ (1 : Int) = 0 by decide) | exact absurd (show (1 : Int) ≠ 0 by decide) hq | skip))
  all_goals first | omega | exact h1 (by omega) | exact h0 (by omega)

theorem c_A_isCell {v : Int} {σ : q_S} {K : q_R → q_S → Prop} (h1 : (0 ≤ v ∧ v ≤ 29) → K (some (0, 1)) σ) (h0 : ¬ (0 ≤ v ∧ v ≤ 29) → K (some (0, 0)) σ) : q_K L xs i_A_isCell [(0, v)] σ K := by
  refine q_call k_A_isCell 1 rfl ?_
  show q_E L xs k_A_isCell (0, [(0, v)], [], σ) K
  refine q_go1 200 0 [] (fun cl ev hcl hev => ?_)
  repeat' (first | refine And.intro ?_ ?_ | (intro hq; first | exact absurd hq (by decide) | exact absurd rfl hq | exact absurd hq (show ¬ (1 : Int) = 0 by decide) | exact absurd (show (1 : Int) ≠ 0 by decide) hq | skip) | refine hcl _ _ _ _ (c_A_within ?_ ?_))
  all_goals first | omega | exact h1 (by omega) | exact h0 (by omega)

theorem c_A_isOwner {v : Int} {σ : q_S} {K : q_R → q_S → Prop} (h1 : (0 ≤ v ∧ v ≤ 7) → K (some (0, 1)) σ) (h0 : ¬ (0 ≤ v ∧ v ≤ 7) → K (some (0, 0)) σ) : q_K L xs i_A_isOwner [(0, v)] σ K := by
  refine q_call k_A_isOwner 1 rfl ?_
  show q_E L xs k_A_isOwner (0, [(0, v)], [], σ) K
  refine q_go1 200 0 [] (fun cl ev hcl hev => ?_)
  repeat' (first | refine And.intro ?_ ?_ | (intro hq; first | exact absurd hq (by decide) | exact absurd rfl hq | exact absurd hq (show ¬ (1 : Int) = 0 by decide) | exact absurd (show (1 : Int) ≠ 0 by decide) hq | skip) | refine hcl _ _ _ _ (c_A_within ?_ ?_))
  all_goals first | omega | exact h1 (by omega) | exact h0 (by omega)

theorem c_A_isDay {v : Int} {σ : q_S} {K : q_R → q_S → Prop} (h1 : (0 ≤ v ∧ v ≤ 9999) → K (some (0, 1)) σ) (h0 : ¬ (0 ≤ v ∧ v ≤ 9999) → K (some (0, 0)) σ) : q_K L xs i_A_isDay [(0, v)] σ K := by
  refine q_call k_A_isDay 1 rfl ?_
  show q_E L xs k_A_isDay (0, [(0, v)], [], σ) K
  refine q_go1 200 0 [] (fun cl ev hcl hev => ?_)
  repeat' (first | refine And.intro ?_ ?_ | (intro hq; first | exact absurd hq (by decide) | exact absurd rfl hq | exact absurd hq (show ¬ (1 : Int) = 0 by decide) | exact absurd (show (1 : Int) ≠ 0 by decide) hq | skip) | refine hcl _ _ _ _ (c_A_within ?_ ?_))
  all_goals first | omega | exact h1 (by omega) | exact h0 (by omega)

theorem c_A_isRod {v : Int} {σ : q_S} {K : q_R → q_S → Prop} (hb : 0 ≤ σ 17 9 ∧ σ 17 9 ≤ 24) (h1 : (0 ≤ v ∧ v < σ 17 9) → K (some (0, 1)) σ) (h0 : ¬ (0 ≤ v ∧ v < σ 17 9) → K (some (0, 0)) σ) : q_K L xs i_A_isRod [(2, 0), (0, v)] σ K := by
  have e : q_w32 (σ 17 9 - 1) = σ 17 9 - 1 := by rw [q_w32_id] <;> omega
  refine q_call k_A_isRod 2 rfl ?_
  show q_E L xs k_A_isRod (0, [(2, 0), (0, v)], [], σ) K
  refine q_go1 200 0 [] (fun cl ev hcl hev => ?_)
  repeat' (first | refine And.intro ?_ ?_ | (intro hq; first | exact absurd hq (by decide) | exact absurd rfl hq | exact absurd hq (show ¬ (1 : Int) = 0 by decide) | exact absurd (show (1 : Int) ≠ 0 by decide) hq | skip) | refine hcl _ _ _ _ (c_A_within ?_ ?_))
  all_goals first | omega | exact h1 (by omega) | exact h0 (by omega)

theorem c_A_isHerd {v : Int} {σ : q_S} {K : q_R → q_S → Prop} (hb : 0 ≤ σ 27 2 ∧ σ 27 2 ≤ 6) (h1 : (0 ≤ v ∧ v < σ 27 2) → K (some (0, 1)) σ) (h0 : ¬ (0 ≤ v ∧ v < σ 27 2) → K (some (0, 0)) σ) : q_K L xs i_A_isHerd [(2, 0), (0, v)] σ K := by
  have e : q_w32 (σ 27 2 - 1) = σ 27 2 - 1 := by rw [q_w32_id] <;> omega
  refine q_call k_A_isHerd 2 rfl ?_
  show q_E L xs k_A_isHerd (0, [(2, 0), (0, v)], [], σ) K
  refine q_go1 200 0 [] (fun cl ev hcl hev => ?_)
  repeat' (first | refine And.intro ?_ ?_ | (intro hq; first | exact absurd hq (by decide) | exact absurd rfl hq | exact absurd hq (show ¬ (1 : Int) = 0 by decide) | exact absurd (show (1 : Int) ≠ 0 by decide) hq | skip) | refine hcl _ _ _ _ (c_A_within ?_ ?_))
  all_goals first | omega | exact h1 (by omega) | exact h0 (by omega)

theorem c_Land_neighbour {c w : Int} {σ : q_S} {K : q_R → q_S → Prop} (hc : 0 ≤ c ∧ c < 30) (hw : 0 ≤ w ∧ w < 4) (h1 : K (some (0, q_bes c w)) σ) : q_K L xs i_Land_neighbour [(0, c), (0, w)] σ K := by
  have hmd : c.tmod 6 = c % 6 := Int.tmod_eq_emod_of_nonneg hc.1
  have e1 : q_w32 (c - 1) = c - 1 := q_w32_id (by omega) (by omega)
  have e2 : q_w32 (c + 1) = c + 1 := q_w32_id (by omega) (by omega)
  have e3 : q_w32 (c - 6) = c - 6 := q_w32_id (by omega) (by omega)
  have e4 : q_w32 (c + 6) = c + 6 := q_w32_id (by omega) (by omega)
  refine q_call k_Land_neighbour 3 rfl ?_
  show q_E L xs k_Land_neighbour (0, [(0, c), (0, w), (9, 0)], [], σ) K
  refine q_go1 200 0 [] (fun cl ev hcl hev => ?_)
  repeat' (first | refine And.intro ?_ ?_ | (intro hq; first | exact absurd hq (by decide) | exact absurd rfl hq | exact absurd hq (show ¬ (1 : Int) = 0 by decide) | exact absurd (show (1 : Int) ≠ 0 by decide) hq | skip))
  all_goals first | omega | (refine q_kv h1 ?_; unfold q_bes; repeat' split; all_goals omega)

theorem c_Land_gateBetween {a b : Int} {σ : q_S} {K : q_R → q_S → Prop} (ha : 0 ≤ a ∧ a < 30) (hb : 0 ≤ b ∧ b < 30) (h1 : K (some (0, q_gb a b)) σ) : q_K L xs i_Land_gateBetween [(0, a), (0, b)] σ K := by
  have hm : 0 ≤ min a b ∧ min a b < 30 := by omega
  have e1 : q_w32 (2 * min a b) = 2 * min a b := q_w32_id (by omega) (by omega)
  have e2 : q_w32 (2 * min a b + 1) = 2 * min a b + 1 := q_w32_id (by omega) (by omega)
  refine q_call k_Land_gateBetween 4 rfl ?_
  show q_E L xs k_Land_gateBetween (0, [(0, a), (0, b), (9, 0), (9, 0)], [], σ) K
  refine q_go1 200 0 [] (fun cl ev hcl hev => ?_)
  repeat' (first | refine And.intro ?_ ?_ | (intro hq; first | exact absurd hq (by decide) | exact absurd rfl hq | exact absurd hq (show ¬ (1 : Int) = 0 by decide) | exact absurd (show (1 : Int) ≠ 0 by decide) hq | skip) | refine hcl _ _ _ _ (c_Land_neighbour hm (by omega) ?_))
  all_goals first | omega | (refine q_kv h1 ?_; unfold q_gb; rw [if_pos (by omega)]; exact e1) | (refine q_kv h1 ?_; unfold q_gb; rw [if_neg (by omega), if_pos (by omega), e1]; exact e2) | (refine q_kv h1 ?_; unfold q_gb; rw [if_neg (by omega), if_neg (by omega)])

theorem c_Land_isShut {a b : Int} {σ : q_S} {K : q_R → q_S → Prop} (ha : 0 ≤ a ∧ a < 30) (hb : 0 ≤ b ∧ b < 30) (h1 : (q_gb a b = -1 ∨ σ 6 (q_gb a b) ≠ 0) → K (some (0, 1)) σ) (h0 : (q_gb a b ≠ -1 ∧ σ 6 (q_gb a b) = 0) → K (some (0, 0)) σ) : q_K L xs i_Land_isShut [(2, 1), (0, a), (0, b)] σ K := by
  have hg := q_gb_in ha hb
  refine q_call k_Land_isShut 4 rfl ?_
  show q_E L xs k_Land_isShut (0, [(2, 1), (0, a), (0, b), (9, 0)], [], σ) K
  refine q_go1 200 0 [] (fun cl ev hcl hev => ?_)
  repeat' (first | refine And.intro ?_ ?_ | (intro hq; first | exact absurd hq (by decide) | exact absurd rfl hq | exact absurd hq (show ¬ (1 : Int) = 0 by decide) | exact absurd (show (1 : Int) ≠ 0 by decide) hq | skip) | refine hcl _ _ _ _ (c_Land_gateBetween ha hb ?_))
  all_goals first | omega | exact h1 (Or.inl (by assumption)) | exact h1 (Or.inr (by assumption)) | exact h0 ⟨by assumption, by assumption⟩

theorem c_Land_surface {c : Int} {σ : q_S} {K : q_R → q_S → Prop} (hc : 0 ≤ c ∧ c < 30) (h1 : K (some (0, q_w32 (σ 2 c + q_w32 ((σ 3 c).tdiv 100)))) σ) : q_K L xs i_Land_surface [(2, 1), (0, c)] σ K := by
  refine q_call k_Land_surface 2 rfl ?_
  show q_E L xs k_Land_surface (0, [(2, 1), (0, c)], [], σ) K
  refine q_go1 200 0 [] (fun cl ev hcl hev => ?_)
  repeat' (first | refine And.intro ?_ ?_ | (intro hq; first | exact absurd hq (by decide) | exact absurd rfl hq | exact absurd hq (show ¬ (1 : Int) = 0 by decide) | exact absurd (show (1 : Int) ≠ 0 by decide) hq | skip))
  all_goals first | omega | exact h1

end P40
