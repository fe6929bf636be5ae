theorem q_un {σ : q_S} {k i v k' i' : Int} (h : k' ≠ k) : q_up σ k i v k' i' = σ k' i' := by unfold q_up; rw [if_neg h]
theorem q_ue {σ : q_S} {k i v : Int} : q_up σ k i v k i = v := by unfold q_up; rw [if_pos rfl, if_pos rfl]
theorem q_un2 {σ : q_S} {k i v i' : Int} (h : i' ≠ i) : q_up σ k i v k i' = σ k i' := by unfold q_up; rw [if_pos rfl, if_neg h]
theorem q_kv {K : q_R → q_S → Prop} {σ : q_S} {a b : Int} (h : K (some (0, a)) σ) (e : b = a) : K (some (0, b)) σ := e ▸ h
theorem q_ks {K : q_R → q_S → Prop} {σ σ' : q_S} {r : q_R} (h : K r σ) (e : σ' = σ) : K r σ' := e ▸ h
/-- the cell beside: left, right, above, below; -1 none -/
def q_bes (c w : Int) : Int := if w = 0 then (if c % 6 = 0 then -1 else c - 1) else if w = 1 then (if c % 6 = 5 then -1 else c + 1) else if w = 2 then (if c < 6 then -1 else c - 6) else (if 24 ≤ c then -1 else c + 6)
theorem q_bes_in {c w : Int} (hc : 0 ≤ c ∧ c < 30) : -1 ≤ q_bes c w ∧ q_bes c w < 30 := by
  unfold q_bes
  repeat' split
  all_goals omega
/-- the shut mark that the model keeps of a cell's side -/
def q_sht (σ : q_S) (c w : Int) : Int := if w = 0 then σ 105 (c - 1) else if w = 1 then σ 105 c else if w = 2 then σ 106 (c - 6) else σ 106 c
section P21
variable {L : Nat} {xs : Int → Int}
theorem c_M_cell {c w : Int} {σ : q_S} {K : q_R → q_S → Prop} (h0 : ¬ (0 ≤ c ∧ c ≤ 29 ∧ 0 ≤ w ∧ w ≤ 4) → K (some (0, -1)) σ) (h1 : (0 ≤ c ∧ c ≤ 29 ∧ w = 0) → K (some (0, σ 101 c)) σ) (h2 : (0 ≤ c ∧ c ≤ 29 ∧ w = 1) → K (some (0, σ 102 c)) σ) (h3 : (0 ≤ c ∧ c ≤ 29 ∧ w = 2) → K (some (0, q_w32 (σ 101 c + q_w32 ((σ 102 c).tdiv 100)))) σ) (h4 : (0 ≤ c ∧ c ≤ 29 ∧ w = 3) → K (some (0, σ 103 c)) σ) (h5 : (0 ≤ c ∧ c ≤ 29 ∧ w = 4) → K (some (0, σ 104 c)) σ) : q_K L xs i_M_cell [(2, 100), (0, c), (0, w)] σ K := by
  refine q_call k_M_cell 3 rfl ?_
  show q_E L xs k_M_cell (0, [(2, 100), (0, c), (0, w)], [], σ) K
  refine q_go1 200 0 [] (fun cl ev hcl hev => ?_)
  repeat' (first | refine And.intro ?_ ?_ | (intro hq; first | exact absurd hq (by decide) | skip) | refine hcl _ _ _ _ (c_M_in ?_ ?_) | refine hcl _ _ _ _ (c_M_isCell ?_ ?_) | refine hcl _ _ _ _ (c_M_surface (by omega) ?_))
  all_goals first | omega | exact h0 (by omega) | exact h1 (by omega) | exact h2 (by omega) | exact h3 (by omega) | exact h4 (by omega) | exact h5 (by omega)

theorem c_M_sluice {r h : Int} {σ : q_S} {K : q_R → q_S → Prop} (hb : 0 ≤ σ 100 13 ∧ σ 100 13 ≤ 24) (h0 : ¬ (0 ≤ r ∧ r < σ 100 13) → K (some (0, -1)) σ) (h2 : (0 ≤ r ∧ r < σ 100 13 ∧ ¬ (0 ≤ h ∧ h ≤ 3)) → K (some (0, -2)) σ) (h1 : (0 ≤ r ∧ r < σ 100 13 ∧ 0 ≤ h ∧ h ≤ 3) → K (some (0, σ 115 r)) (q_up σ 115 r h)) : q_K L xs i_M_sluice [(2, 100), (0, r), (0, h)] σ K := by
  refine q_call k_M_sluice 4 rfl ?_
  show q_E L xs k_M_sluice (0, [(2, 100), (0, r), (0, h), (9, 0)], [], σ) K
  refine q_go1 200 0 [] (fun cl ev hcl hev => ?_)
  repeat' (first | refine And.intro ?_ ?_ | (intro hq; first | exact absurd hq (by decide) | skip) | refine hcl _ _ _ _ (c_M_in ?_ ?_) | refine hcl _ _ _ _ (c_M_isRod hb ?_ ?_))
  all_goals first | omega | exact h0 (by omega) | exact h2 (by omega) | exact h1 (by omega)

theorem c_M_beside {c w : Int} {σ : q_S} {K : q_R → q_S → Prop} (hc : 0 ≤ c ∧ c < 30) (h1 : K (some (0, q_bes c w)) σ) : q_K L xs i_M_beside [(0, c), (0, w)] σ K := by
  have hmd : c.tmod 6 = c % 6 := Int.tmod_eq_emod_of_nonneg hc.1
  refine q_call k_M_beside 2 rfl ?_
  show q_E L xs k_M_beside (0, [(0, c), (0, w)], [], σ) K
  refine q_go1 200 0 [] (fun cl ev hcl hev => ?_)
  repeat' (first | refine And.intro ?_ ?_ | (intro hq; first | exact absurd hq (by decide) | skip))
  all_goals first | omega | (refine q_kv h1 ?_; unfold q_bes q_w32; repeat' split; all_goals omega) | (refine q_kv h1 ?_; unfold q_bes; repeat' split; all_goals omega)

theorem c_M_isOpen {c w : Int} {σ : q_S} {K : q_R → q_S → Prop} (hc : 0 ≤ c ∧ c < 30) (hn : q_bes c w ≠ -1) (h1 : q_sht σ c w = 0 → K (some (0, 1)) σ) (h0 : q_sht σ c w ≠ 0 → K (some (0, 0)) σ) : q_K L xs i_M_isOpen [(2, 100), (0, c), (0, w)] σ K := by
  have e1 : q_w32 (c - 1) = c - 1 := q_w32_id (by omega) (by omega)
  have e6 : q_w32 (c - 6) = c - 6 := q_w32_id (by omega) (by omega)
  unfold q_bes at hn
  unfold q_sht at h1 h0
  refine q_call k_M_isOpen 3 rfl ?_
  show q_E L xs k_M_isOpen (0, [(2, 100), (0, c), (0, w)], [], σ) K
  refine q_go1 200 0 [] (fun cl ev hcl hev => ?_)
  repeat' (first | refine And.intro ?_ ?_ | (intro hq; first | exact absurd hq (by decide) | skip))
  all_goals first | omega | (rw [e1]; (repeat' split at hn); all_goals omega) | (rw [e6]; (repeat' split at hn); all_goals omega) | (refine h1 ?_; simp_all; done) | (refine h0 ?_; simp_all; done)

theorem c_M_herd {c : Int} {σ : q_S} {K : q_R → q_S → Prop} (hb : 0 ≤ σ 100 22 ∧ σ 100 22 ≤ 6) (h0 : ¬ (0 ≤ c ∧ c ≤ 29) → K (some (0, -1)) σ) (h2 : (0 ≤ c ∧ c ≤ 29 ∧ σ 100 22 = 6) → K (some (0, -4)) σ) (h1 : (0 ≤ c ∧ c ≤ 29 ∧ σ 100 22 < 6) → K (some (0, σ 100 22)) (q_up (q_up σ 120 (σ 100 22) c) 100 22 (σ 100 22 + 1))) : q_K L xs i_M_herd [(2, 100), (0, c)] σ K := by
  have e1 : σ 100 22 < 6 → q_w32 (σ 100 22 + 1) = σ 100 22 + 1 := fun _ => q_w32_id (by omega) (by omega)
  refine q_call k_M_herd 2 rfl ?_
  show q_E L xs k_M_herd (0, [(2, 100), (0, c)], [], σ) K
  refine q_go1 200 0 [] (fun cl ev hcl hev => ?_)
  repeat' (first | refine And.intro ?_ ?_ | (intro hq; first | exact absurd hq (by decide) | skip) | refine hcl _ _ _ _ (c_M_isCell ?_ ?_))
  all_goals first | omega | exact h0 (by omega) | exact h2 (by omega) | (have h1 := h1 (by omega); show K (some (0, _)) _; simp only [q_un (show (100 : Int) ≠ 120 by decide), q_ue, e1 (by omega)]; refine q_kv h1 (by unfold q_w32; omega))

theorem c_M_where {r : Int} {σ : q_S} {K : q_R → q_S → Prop} (hb : 0 ≤ σ 100 22 ∧ σ 100 22 ≤ 6) (h0 : ¬ (0 ≤ r ∧ r < σ 100 22) → K (some (0, -1)) σ) (h2 : (0 ≤ r ∧ r < σ 100 22 ∧ σ 121 r ≠ 0) → K (some (0, -5)) σ) (h1 : (0 ≤ r ∧ r < σ 100 22 ∧ σ 121 r = 0) → K (some (0, σ 120 r)) σ) : q_K L xs i_M_where [(2, 100), (0, r)] σ K := by
  refine q_call k_M_where 2 rfl ?_
  show q_E L xs k_M_where (0, [(2, 100), (0, r)], [], σ) K
  refine q_go1 200 0 [] (fun cl ev hcl hev => ?_)
  repeat' (first | refine And.intro ?_ ?_ | (intro hq; first | exact absurd hq (by decide) | skip) | refine hcl _ _ _ _ (c_M_isHerd hb ?_ ?_))
  all_goals first | omega | exact h0 (by omega) | exact h2 (by omega) | exact h1 (by omega)

theorem c_M_quarters {h : Int} {σ : q_S} {K : q_R → q_S → Prop} (h1 : K (some (0, if h < 3 then q_w32 (h + 2) else q_w32 (6 - h))) σ) : q_K L xs i_M_quarters [(0, h)] σ K := by
  refine q_call k_M_quarters 1 rfl ?_
  show q_E L xs k_M_quarters (0, [(0, h)], [], σ) K
  refine q_go1 200 0 [] (fun cl ev hcl hev => ?_)
  repeat' (first | refine And.intro ?_ ?_ | (intro hq; first | exact absurd hq (by decide) | skip))
  all_goals first | omega | (rw [if_pos (by omega)] at h1; exact h1) | (rw [if_neg (by omega)] at h1; exact h1)

theorem c_M_pass {n : Int} {σ : q_S} {K : q_R → q_S → Prop} (h0 : ¬ (1 ≤ n ∧ n ≤ 400) → K (some (0, -2)) σ) (h2 : (1 ≤ n ∧ n ≤ 400 ∧ 9999 < q_w32 (σ 100 25 + n)) → K (some (0, -4)) σ) (h1 : (1 ≤ n ∧ n ≤ 400 ∧ q_w32 (σ 100 25 + n) ≤ 9999) → K (some (0, q_w32 (σ 100 25 + n))) (q_up σ 100 25 (q_w32 (σ 100 25 + n)))) : q_K L xs i_M_pass [(2, 100), (0, n)] σ K := by
  refine q_call k_M_pass 2 rfl ?_
  show q_E L xs k_M_pass (0, [(2, 100), (0, n)], [], σ) K
  refine q_go1 200 0 [] (fun cl ev hcl hev => ?_)
  repeat' (first | refine And.intro ?_ ?_ | (intro hq; first | exact absurd hq (by decide) | skip) | refine hcl _ _ _ _ (c_M_in ?_ ?_))
  all_goals first | omega | exact h0 (by omega) | exact h2 (by omega) | (simp only [q_ue]; exact h1 (by omega))

theorem c_M_byteAt {σ : q_S} {K : q_R → q_S → Prop} (hp : 0 ≤ σ 100 53) (ht : σ 100 30 ≤ 160) (h1 : σ 100 53 < σ 100 30 → K (some (0, σ 122 (σ 100 53))) σ) (h0 : ¬ σ 100 53 < σ 100 30 → K (some (0, -1)) σ) : q_K L xs i_M_byteAt [(2, 100)] σ K := by
  refine q_call k_M_byteAt 1 rfl ?_
  show q_E L xs k_M_byteAt (0, [(2, 100)], [], σ) K
  refine q_go1 200 0 [] (fun cl ev hcl hev => ?_)
  repeat' (first | refine And.intro ?_ ?_ | (intro hq; first | exact absurd hq (by decide) | skip))
  all_goals first | omega | exact h1 (by omega) | exact h0 (by omega)

theorem c_M_hOf {c : Int} {σ : q_S} {K : q_R → q_S → Prop} (hc : -1 ≤ c ∧ c < 12) (h0 : c = -1 → K (some (0, 0)) σ) (h1 : (0 ≤ c) → K (some (0, σ 124 c)) σ) : q_K L xs i_M_hOf [(2, 100), (0, c)] σ K := by
  refine q_call k_M_hOf 2 rfl ?_
  show q_E L xs k_M_hOf (0, [(2, 100), (0, c)], [], σ) K
  refine q_go1 200 0 [] (fun cl ev hcl hev => ?_)
  repeat' (first | refine And.intro ?_ ?_ | (intro hq; first | exact absurd hq (by decide) | skip))
  all_goals first | omega | exact h0 (by omega) | exact h1 (by omega)

theorem c_M_vOf {c : Int} {σ : q_S} {K : q_R → q_S → Prop} (hc : -1 ≤ c ∧ c < 12) (h0 : c = -1 → K (some (0, 99)) σ) (h1 : (0 ≤ c) → K (some (0, σ 126 c)) σ) : q_K L xs i_M_vOf [(2, 100), (0, c)] σ K := by
  refine q_call k_M_vOf 2 rfl ?_
  show q_E L xs k_M_vOf (0, [(2, 100), (0, c)], [], σ) K
  refine q_go1 200 0 [] (fun cl ev hcl hev => ?_)
  repeat' (first | refine And.intro ?_ ?_ | (intro hq; first | exact absurd hq (by decide) | skip))
  all_goals first | omega | exact h0 (by omega) | exact h1 (by omega)

theorem c_M_comes {c n : Int} {σ : q_S} {K : q_R → q_S → Prop} (hc : 0 ≤ c ∧ c < 30) (h1 : K none (q_up (q_up σ 102 c (q_w32 (σ 102 c + n))) 100 27 ((q_w32 (σ 100 27 + n)).tmod 1000000))) : q_K L xs i_M_comes [(2, 100), (0, c), (0, n)] σ K := by
  refine q_call k_M_comes 3 rfl ?_
  show q_E L xs k_M_comes (0, [(2, 100), (0, c), (0, n)], [], σ) K
  refine q_go1 200 0 [] (fun cl ev hcl hev => ?_)
  repeat' (first | refine And.intro ?_ ?_ | (intro hq; first | exact absurd hq (by decide) | skip))
  all_goals first | omega | (simp only [q_un (show (100 : Int) ≠ 102 by decide)]; exact h1)

theorem c_M_endsFault {r : Int} {σ : q_S} {K : q_R → q_S → Prop} (hr : 0 ≤ r ∧ r < 24) (hf : -1 ≤ σ 119 r ∧ σ 119 r < 60) (h0 : σ 119 r = -1 → K none σ) (h1 : σ 119 r ≠ -1 → K none (q_up (q_up σ 135 (σ 119 r) (σ 100 25)) 119 r (-1))) : q_K L xs i_M_endsFault [(2, 100), (0, r)] σ K := by
  refine q_call k_M_endsFault 2 rfl ?_
  show q_E L xs k_M_endsFault (0, [(2, 100), (0, r)], [], σ) K
  refine q_go1 200 0 [] (fun cl ev hcl hev => ?_)
  repeat' (first | refine And.intro ?_ ?_ | (intro hq; first | exact absurd hq (by decide) | skip))
  all_goals first | omega | exact h0 (by omega) | exact h1 (by omega)

theorem c_M_fineOf {i : Int} {σ : q_S} {K : q_R → q_S → Prop} (hi : 0 ≤ i ∧ i < 60) (h1 : K (some (0, q_w32 (σ 138 i * q_w32 ((if σ 135 i = -1 then σ 100 25 else σ 135 i) - σ 134 i)))) σ) : q_K L xs i_M_fineOf [(2, 100), (0, i)] σ K := by
  refine q_call k_M_fineOf 2 rfl ?_
  show q_E L xs k_M_fineOf (0, [(2, 100), (0, i)], [], σ) K
  refine q_go1 200 0 [] (fun cl ev hcl hev => ?_)
  repeat' (first | refine And.intro ?_ ?_ | (intro hq; first | exact absurd hq (by decide) | skip))
  all_goals first | omega | (rw [if_pos (by omega)] at h1; exact h1) | (rw [if_neg (by omega)] at h1; exact h1)

theorem c_M_mended {r : Int} {σ : q_S} {K : q_R → q_S → Prop} (h0 : ¬ (0 ≤ r ∧ r ≤ 7) → K (some (0, -1)) σ) (h1 : (0 ≤ r ∧ r ≤ 7) → K (some (0, σ 139 r)) σ) : q_K L xs i_M_mended [(2, 100), (0, r)] σ K := by
  refine q_call k_M_mended 2 rfl ?_
  show q_E L xs k_M_mended (0, [(2, 100), (0, r)], [], σ) K
  refine q_go1 200 0 [] (fun cl ev hcl hev => ?_)
  repeat' (first | refine And.intro ?_ ?_ | (intro hq; first | exact absurd hq (by decide) | skip) | refine hcl _ _ _ _ (c_M_isOwner ?_ ?_))
  all_goals first | omega | exact h0 (by omega) | exact h1 (by omega)

theorem c_M_betters {a w b : Int} {σ : q_S} {K : q_R → q_S → Prop} (ha : 0 ≤ a ∧ a < 603) (h0 : ¬ (σ 149 a < w ∨ (w = σ 149 a ∧ b < σ 150 a)) → K none σ) (h1 : (σ 149 a < w ∨ (w = σ 149 a ∧ b < σ 150 a)) → K none (q_up (q_up σ 149 a w) 150 a b)) : q_K L xs i_M_betters [(2, 100), (0, a), (0, w), (0, b)] σ K := by
  refine q_call k_M_betters 4 rfl ?_
  show q_E L xs k_M_betters (0, [(2, 100), (0, a), (0, w), (0, b)], [], σ) K
  refine q_go1 200 0 [] (fun cl ev hcl hev => ?_)
  repeat' (first | refine And.intro ?_ ?_ | (intro hq; first | exact absurd hq (by decide) | skip))
  all_goals first | omega | exact h0 (by omega) | exact h1 (by omega)

end P21
