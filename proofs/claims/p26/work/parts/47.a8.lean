/-- the tape's place; a custom's values -/
def w_tp (k i : Int) : Prop := k = 32 ∧ i = 2
def w_rd (k i : Int) : Prop := (k = 32 ∧ i = 2) ∨ (36 ≤ k ∧ k ≤ 87)
section P47
variable {L : Nat} {xs : Int → Int}

theorem c_coder3 {σ : q_S} {K : q_R → q_S → Prop} (hK : K (some (0, 0)) σ) : q_K L xs i_String_coder [(4, 3)] σ K := by
  refine q_call k_String_coder 1 rfl ?_
  show q_E L xs k_String_coder (0, [(4, 3)], [], σ) K
  refine q_go1 200 0 [] (fun cl ev hcl hev => ?_)
  repeat' (first | refine And.intro ?_ ?_ | (intro hq; first | exact absurd hq (by decide) | exact absurd rfl hq | exact absurd hq (show ¬ (1 : Int) = 0 by decide) | exact absurd (show (1 : Int) ≠ 0 by decide) hq | skip))
  all_goals first | omega | exact hK

theorem c_len3 {σ : q_S} {K : q_R → q_S → Prop} (hK : K (some (0, 2)) σ) : q_K L xs i_String_length [(4, 3)] σ K := by
  refine q_call k_String_length 1 rfl ?_
  show q_E L xs k_String_length (0, [(4, 3)], [], σ) K
  refine q_go1 200 0 [] (fun cl ev hcl hev => ?_)
  repeat' (first | refine And.intro ?_ ?_ | (intro hq; first | exact absurd hq (by decide) | exact absurd rfl hq | exact absurd hq (show ¬ (1 : Int) = 0 by decide) | exact absurd (show (1 : Int) ≠ 0 by decide) hq | skip) | (show cl _ _ _ _; first | refine hcl _ _ _ _ (c_coder3 ?_)))
  all_goals first | omega | exact hK

theorem c_lat3 {σ : q_S} {K : q_R → q_S → Prop} (hK : K (some (0, 1)) σ) : q_K L xs i_String_isLatin1 [(4, 3)] σ K := by
  refine q_call k_String_isLatin1 1 rfl ?_
  show q_E L xs k_String_isLatin1 (0, [(4, 3)], [], σ) K
  refine q_go1 200 0 [] (fun cl ev hcl hev => ?_)
  repeat' (first | refine And.intro ?_ ?_ | (intro hq; first | exact absurd hq (by decide) | exact absurd rfl hq | exact absurd hq (show ¬ (1 : Int) = 0 by decide) | exact absurd (show (1 : Int) ≠ 0 by decide) hq | skip))
  all_goals first | omega | exact hK

theorem c_coder5 {σ : q_S} {K : q_R → q_S → Prop} (hK : K (some (0, 0)) σ) : q_K L xs i_String_coder [(4, 5)] σ K := by
  refine q_call k_String_coder 1 rfl ?_
  show q_E L xs k_String_coder (0, [(4, 5)], [], σ) K
  refine q_go1 200 0 [] (fun cl ev hcl hev => ?_)
  repeat' (first | refine And.intro ?_ ?_ | (intro hq; first | exact absurd hq (by decide) | exact absurd rfl hq | exact absurd hq (show ¬ (1 : Int) = 0 by decide) | exact absurd (show (1 : Int) ≠ 0 by decide) hq | skip))
  all_goals first | omega | exact hK

theorem c_len5 {σ : q_S} {K : q_R → q_S → Prop} (hK : K (some (0, 2)) σ) : q_K L xs i_String_length [(4, 5)] σ K := by
  refine q_call k_String_length 1 rfl ?_
  show q_E L xs k_String_length (0, [(4, 5)], [], σ) K
  refine q_go1 200 0 [] (fun cl ev hcl hev => ?_)
  repeat' (first | refine And.intro ?_ ?_ | (intro hq; first | exact absurd hq (by decide) | exact absurd rfl hq | exact absurd hq (show ¬ (1 : Int) = 0 by decide) | exact absurd (show (1 : Int) ≠ 0 by decide) hq | skip) | (show cl _ _ _ _; first | refine hcl _ _ _ _ (c_coder5 ?_)))
  all_goals first | omega | exact hK

theorem c_lat5 {σ : q_S} {K : q_R → q_S → Prop} (hK : K (some (0, 1)) σ) : q_K L xs i_String_isLatin1 [(4, 5)] σ K := by
  refine q_call k_String_isLatin1 1 rfl ?_
  show q_E L xs k_String_isLatin1 (0, [(4, 5)], [], σ) K
  refine q_go1 200 0 [] (fun cl ev hcl hev => ?_)
  repeat' (first | refine And.intro ?_ ?_ | (intro hq; first | exact absurd hq (by decide) | exact absurd rfl hq | exact absurd hq (show ¬ (1 : Int) = 0 by decide) | exact absurd (show (1 : Int) ≠ 0 by decide) hq | skip))
  all_goals first | omega | exact hK

theorem c_coder7 {σ : q_S} {K : q_R → q_S → Prop} (hK : K (some (0, 0)) σ) : q_K L xs i_String_coder [(4, 7)] σ K := by
  refine q_call k_String_coder 1 rfl ?_
  show q_E L xs k_String_coder (0, [(4, 7)], [], σ) K
  refine q_go1 200 0 [] (fun cl ev hcl hev => ?_)
  repeat' (first | refine And.intro ?_ ?_ | (intro hq; first | exact absurd hq (by decide) | exact absurd rfl hq | exact absurd hq (show ¬ (1 : Int) = 0 by decide) | exact absurd (show (1 : Int) ≠ 0 by decide) hq | skip))
  all_goals first | omega | exact hK

theorem c_len7 {σ : q_S} {K : q_R → q_S → Prop} (hK : K (some (0, 2)) σ) : q_K L xs i_String_length [(4, 7)] σ K := by
  refine q_call k_String_length 1 rfl ?_
  show q_E L xs k_String_length (0, [(4, 7)], [], σ) K
  refine q_go1 200 0 [] (fun cl ev hcl hev => ?_)
  repeat' (first | refine And.intro ?_ ?_ | (intro hq; first | exact absurd hq (by decide) | exact absurd rfl hq | exact absurd hq (show ¬ (1 : Int) = 0 by decide) | exact absurd (show (1 : Int) ≠ 0 by decide) hq | skip) | (show cl _ _ _ _; first | refine hcl _ _ _ _ (c_coder7 ?_)))
  all_goals first | omega | exact hK

theorem c_lat7 {σ : q_S} {K : q_R → q_S → Prop} (hK : K (some (0, 1)) σ) : q_K L xs i_String_isLatin1 [(4, 7)] σ K := by
  refine q_call k_String_isLatin1 1 rfl ?_
  show q_E L xs k_String_isLatin1 (0, [(4, 7)], [], σ) K
  refine q_go1 200 0 [] (fun cl ev hcl hev => ?_)
  repeat' (first | refine And.intro ?_ ?_ | (intro hq; first | exact absurd hq (by decide) | exact absurd rfl hq | exact absurd hq (show ¬ (1 : Int) = 0 by decide) | exact absurd (show (1 : Int) ≠ 0 by decide) hq | skip))
  all_goals first | omega | exact hK

theorem c_coder9 {σ : q_S} {K : q_R → q_S → Prop} (hK : K (some (0, 0)) σ) : q_K L xs i_String_coder [(4, 9)] σ K := by
  refine q_call k_String_coder 1 rfl ?_
  show q_E L xs k_String_coder (0, [(4, 9)], [], σ) K
  refine q_go1 200 0 [] (fun cl ev hcl hev => ?_)
  repeat' (first | refine And.intro ?_ ?_ | (intro hq; first | exact absurd hq (by decide) | exact absurd rfl hq | exact absurd hq (show ¬ (1 : Int) = 0 by decide) | exact absurd (show (1 : Int) ≠ 0 by decide) hq | skip))
  all_goals first | omega | exact hK

theorem c_len9 {σ : q_S} {K : q_R → q_S → Prop} (hK : K (some (0, 2)) σ) : q_K L xs i_String_length [(4, 9)] σ K := by
  refine q_call k_String_length 1 rfl ?_
  show q_E L xs k_String_length (0, [(4, 9)], [], σ) K
  refine q_go1 200 0 [] (fun cl ev hcl hev => ?_)
  repeat' (first | refine And.intro ?_ ?_ | (intro hq; first | exact absurd hq (by decide) | exact absurd rfl hq | exact absurd hq (show ¬ (1 : Int) = 0 by decide) | exact absurd (show (1 : Int) ≠ 0 by decide) hq | skip) | (show cl _ _ _ _; first | refine hcl _ _ _ _ (c_coder9 ?_)))
  all_goals first | omega | exact hK

theorem c_lat9 {σ : q_S} {K : q_R → q_S → Prop} (hK : K (some (0, 1)) σ) : q_K L xs i_String_isLatin1 [(4, 9)] σ K := by
  refine q_call k_String_isLatin1 1 rfl ?_
  show q_E L xs k_String_isLatin1 (0, [(4, 9)], [], σ) K
  refine q_go1 200 0 [] (fun cl ev hcl hev => ?_)
  repeat' (first | refine And.intro ?_ ?_ | (intro hq; first | exact absurd hq (by decide) | exact absurd rfl hq | exact absurd hq (show ¬ (1 : Int) = 0 by decide) | exact absurd (show (1 : Int) ≠ 0 by decide) hq | skip))
  all_goals first | omega | exact hK

theorem c_coder11 {σ : q_S} {K : q_R → q_S → Prop} (hK : K (some (0, 0)) σ) : q_K L xs i_String_coder [(4, 11)] σ K := by
  refine q_call k_String_coder 1 rfl ?_
  show q_E L xs k_String_coder (0, [(4, 11)], [], σ) K
  refine q_go1 200 0 [] (fun cl ev hcl hev => ?_)
  repeat' (first | refine And.intro ?_ ?_ | (intro hq; first | exact absurd hq (by decide) | exact absurd rfl hq | exact absurd hq (show ¬ (1 : Int) = 0 by decide) | exact absurd (show (1 : Int) ≠ 0 by decide) hq | skip))
  all_goals first | omega | exact hK

theorem c_len11 {σ : q_S} {K : q_R → q_S → Prop} (hK : K (some (0, 2)) σ) : q_K L xs i_String_length [(4, 11)] σ K := by
  refine q_call k_String_length 1 rfl ?_
  show q_E L xs k_String_length (0, [(4, 11)], [], σ) K
  refine q_go1 200 0 [] (fun cl ev hcl hev => ?_)
  repeat' (first | refine And.intro ?_ ?_ | (intro hq; first | exact absurd hq (by decide) | exact absurd rfl hq | exact absurd hq (show ¬ (1 : Int) = 0 by decide) | exact absurd (show (1 : Int) ≠ 0 by decide) hq | skip) | (show cl _ _ _ _; first | refine hcl _ _ _ _ (c_coder11 ?_)))
  all_goals first | omega | exact hK

theorem c_lat11 {σ : q_S} {K : q_R → q_S → Prop} (hK : K (some (0, 1)) σ) : q_K L xs i_String_isLatin1 [(4, 11)] σ K := by
  refine q_call k_String_isLatin1 1 rfl ?_
  show q_E L xs k_String_isLatin1 (0, [(4, 11)], [], σ) K
  refine q_go1 200 0 [] (fun cl ev hcl hev => ?_)
  repeat' (first | refine And.intro ?_ ?_ | (intro hq; first | exact absurd hq (by decide) | exact absurd rfl hq | exact absurd hq (show ¬ (1 : Int) = 0 by decide) | exact absurd (show (1 : Int) ≠ 0 by decide) hq | skip))
  all_goals first | omega | exact hK

theorem c_coder13 {σ : q_S} {K : q_R → q_S → Prop} (hK : K (some (0, 0)) σ) : q_K L xs i_String_coder [(4, 13)] σ K := by
  refine q_call k_String_coder 1 rfl ?_
  show q_E L xs k_String_coder (0, [(4, 13)], [], σ) K
  refine q_go1 200 0 [] (fun cl ev hcl hev => ?_)
  repeat' (first | refine And.intro ?_ ?_ | (intro hq; first | exact absurd hq (by decide) | exact absurd rfl hq | exact absurd hq (show ¬ (1 : Int) = 0 by decide) | exact absurd (show (1 : Int) ≠ 0 by decide) hq | skip))
  all_goals first | omega | exact hK

theorem c_len13 {σ : q_S} {K : q_R → q_S → Prop} (hK : K (some (0, 5)) σ) : q_K L xs i_String_length [(4, 13)] σ K := by
  refine q_call k_String_length 1 rfl ?_
  show q_E L xs k_String_length (0, [(4, 13)], [], σ) K
  refine q_go1 200 0 [] (fun cl ev hcl hev => ?_)
  repeat' (first | refine And.intro ?_ ?_ | (intro hq; first | exact absurd hq (by decide) | exact absurd rfl hq | exact absurd hq (show ¬ (1 : Int) = 0 by decide) | exact absurd (show (1 : Int) ≠ 0 by decide) hq | skip) | (show cl _ _ _ _; first | refine hcl _ _ _ _ (c_coder13 ?_)))
  all_goals first | omega | exact hK

theorem c_lat13 {σ : q_S} {K : q_R → q_S → Prop} (hK : K (some (0, 1)) σ) : q_K L xs i_String_isLatin1 [(4, 13)] σ K := by
  refine q_call k_String_isLatin1 1 rfl ?_
  show q_E L xs k_String_isLatin1 (0, [(4, 13)], [], σ) K
  refine q_go1 200 0 [] (fun cl ev hcl hev => ?_)
  repeat' (first | refine And.intro ?_ ?_ | (intro hq; first | exact absurd hq (by decide) | exact absurd rfl hq | exact absurd hq (show ¬ (1 : Int) = 0 by decide) | exact absurd (show (1 : Int) ≠ 0 by decide) hq | skip))
  all_goals first | omega | exact hK

theorem c_coder15 {σ : q_S} {K : q_R → q_S → Prop} (hK : K (some (0, 0)) σ) : q_K L xs i_String_coder [(4, 15)] σ K := by
  refine q_call k_String_coder 1 rfl ?_
  show q_E L xs k_String_coder (0, [(4, 15)], [], σ) K
  refine q_go1 200 0 [] (fun cl ev hcl hev => ?_)
  repeat' (first | refine And.intro ?_ ?_ | (intro hq; first | exact absurd hq (by decide) | exact absurd rfl hq | exact absurd hq (show ¬ (1 : Int) = 0 by decide) | exact absurd (show (1 : Int) ≠ 0 by decide) hq | skip))
  all_goals first | omega | exact hK

theorem c_len15 {σ : q_S} {K : q_R → q_S → Prop} (hK : K (some (0, 5)) σ) : q_K L xs i_String_length [(4, 15)] σ K := by
  refine q_call k_String_length 1 rfl ?_
  show q_E L xs k_String_length (0, [(4, 15)], [], σ) K
  refine q_go1 200 0 [] (fun cl ev hcl hev => ?_)
  repeat' (first | refine And.intro ?_ ?_ | (intro hq; first | exact absurd hq (by decide) | exact absurd rfl hq | exact absurd hq (show ¬ (1 : Int) = 0 by decide) | exact absurd (show (1 : Int) ≠ 0 by decide) hq | skip) | (show cl _ _ _ _; first | refine hcl _ _ _ _ (c_coder15 ?_)))
  all_goals first | omega | exact hK

theorem c_lat15 {σ : q_S} {K : q_R → q_S → Prop} (hK : K (some (0, 1)) σ) : q_K L xs i_String_isLatin1 [(4, 15)] σ K := by
  refine q_call k_String_isLatin1 1 rfl ?_
  show q_E L xs k_String_isLatin1 (0, [(4, 15)], [], σ) K
  refine q_go1 200 0 [] (fun cl ev hcl hev => ?_)
  repeat' (first | refine And.intro ?_ ?_ | (intro hq; first | exact absurd hq (by decide) | exact absurd rfl hq | exact absurd hq (show ¬ (1 : Int) = 0 by decide) | exact absurd (show (1 : Int) ≠ 0 by decide) hq | skip))
  all_goals first | omega | exact hK

theorem c_coder17 {σ : q_S} {K : q_R → q_S → Prop} (hK : K (some (0, 0)) σ) : q_K L xs i_String_coder [(4, 17)] σ K := by
  refine q_call k_String_coder 1 rfl ?_
  show q_E L xs k_String_coder (0, [(4, 17)], [], σ) K
  refine q_go1 200 0 [] (fun cl ev hcl hev => ?_)
  repeat' (first | refine And.intro ?_ ?_ | (intro hq; first | exact absurd hq (by decide) | exact absurd rfl hq | exact absurd hq (show ¬ (1 : Int) = 0 by decide) | exact absurd (show (1 : Int) ≠ 0 by decide) hq | skip))
  all_goals first | omega | exact hK

theorem c_len17 {σ : q_S} {K : q_R → q_S → Prop} (hK : K (some (0, 4)) σ) : q_K L xs i_String_length [(4, 17)] σ K := by
  refine q_call k_String_length 1 rfl ?_
  show q_E L xs k_String_length (0, [(4, 17)], [], σ) K
  refine q_go1 200 0 [] (fun cl ev hcl hev => ?_)
  repeat' (first | refine And.intro ?_ ?_ | (intro hq; first | exact absurd hq (by decide) | exact absurd rfl hq | exact absurd hq (show ¬ (1 : Int) = 0 by decide) | exact absurd (show (1 : Int) ≠ 0 by decide) hq | skip) | (show cl _ _ _ _; first | refine hcl _ _ _ _ (c_coder17 ?_)))
  all_goals first | omega | exact hK

theorem c_lat17 {σ : q_S} {K : q_R → q_S → Prop} (hK : K (some (0, 1)) σ) : q_K L xs i_String_isLatin1 [(4, 17)] σ K := by
  refine q_call k_String_isLatin1 1 rfl ?_
  show q_E L xs k_String_isLatin1 (0, [(4, 17)], [], σ) K
  refine q_go1 200 0 [] (fun cl ev hcl hev => ?_)
  repeat' (first | refine And.intro ?_ ?_ | (intro hq; first | exact absurd hq (by decide) | exact absurd rfl hq | exact absurd hq (show ¬ (1 : Int) = 0 by decide) | exact absurd (show (1 : Int) ≠ 0 by decide) hq | skip))
  all_goals first | omega | exact hK

theorem c_Prec_checkIndex {i n : Int} {σ : q_S} {K : q_R → q_S → Prop} (hi : 0 ≤ i ∧ i < n) (hK : K (some (0, i)) σ) : q_K L xs i_Prec_checkIndex [(0, i), (0, n), (4, 2)] σ K := by
  refine q_call k_Prec_checkIndex 3 rfl ?_
  show q_E L xs k_Prec_checkIndex (0, [(0, i), (0, n), (4, 2)], [], σ) K
  refine q_go1 200 0 [] (fun cl ev hcl hev => ?_)
  repeat' (first | refine And.intro ?_ ?_ | (intro hq; first | exact absurd hq (by decide) | exact absurd rfl hq | exact absurd hq (show ¬ (1 : Int) = 0 by decide) | exact absurd (show (1 : Int) ≠ 0 by decide) hq | skip))
  all_goals first | omega | exact hK

theorem c_String_checkIndex {i n : Int} {σ : q_S} {K : q_R → q_S → Prop} (hi : 0 ≤ i ∧ i < n) (hK : K none σ) : q_K L xs i_String_checkIndex [(0, i), (0, n)] σ K := by
  refine q_call k_String_checkIndex 2 rfl ?_
  show q_E L xs k_String_checkIndex (0, [(0, i), (0, n)], [], σ) K
  refine q_go1 200 0 [] (fun cl ev hcl hev => ?_)
  repeat' (first | refine And.intro ?_ ?_ | (intro hq; first | exact absurd hq (by decide) | exact absurd rfl hq | exact absurd hq (show ¬ (1 : Int) = 0 by decide) | exact absurd (show (1 : Int) ≠ 0 by decide) hq | skip) | (show cl _ _ _ _; first | refine hcl _ _ _ _ (c_Prec_checkIndex hi ?_)))
  all_goals first | omega | exact hK

/-- the text's signs -/
def q_txs (s : List Int) (i : Int) : Int := s.getD i.toNat 0

theorem c_lch3 {i : Int} {σ : q_S} {K : q_R → q_S → Prop} (hi : 0 ≤ i ∧ i < 2) (hK : K (some (0, q_txs [114, 32] i)) σ) : q_K L xs i_Latin_charAt [(4, 4), (0, i)] σ K := by
  have hj : i = 0 ∨ i = 1 := by omega
  refine q_call k_Latin_charAt 2 rfl ?_
  show q_E L xs k_Latin_charAt (0, [(4, 4), (0, i)], [], σ) K
  refine q_go1 200 0 [] (fun cl ev hcl hev => ?_)
  repeat' (first | refine And.intro ?_ ?_ | (intro hq; first | exact absurd hq (by decide) | exact absurd rfl hq | exact absurd hq (show ¬ (1 : Int) = 0 by decide) | exact absurd (show (1 : Int) ≠ 0 by decide) hq | skip) | (show cl _ _ _ _; first | refine hcl _ _ _ _ (c_String_checkIndex (by omega) ?_)))
  all_goals first | omega | (rcases hj with rfl | rfl <;> decide) | (refine q_kv hK ?_; rcases hj with rfl | rfl <;> decide)

theorem c_cha3 {i : Int} {σ : q_S} {K : q_R → q_S → Prop} (hi : 0 ≤ i ∧ i < 2) (hK : K (some (0, q_txs [114, 32] i)) σ) : q_K L xs i_String_charAt [(4, 3), (0, i)] σ K := by
  have hg : 0 ≤ q_txs [114, 32] i ∧ q_txs [114, 32] i < 65536 := by
    have hj : i = 0 ∨ i = 1 := by omega
    rcases hj with rfl | rfl <;> decide
  refine q_call k_String_charAt 2 rfl ?_
  show q_E L xs k_String_charAt (0, [(4, 3), (0, i)], [], σ) K
  refine q_go1 200 0 [] (fun cl ev hcl hev => ?_)
  repeat' (first | refine And.intro ?_ ?_ | (intro hq; first | exact absurd hq (by decide) | exact absurd rfl hq | exact absurd hq (show ¬ (1 : Int) = 0 by decide) | exact absurd (show (1 : Int) ≠ 0 by decide) hq | skip) | (show cl _ _ _ _; first | refine hcl _ _ _ _ (c_lat3 ?_) | refine hcl _ _ _ _ (c_lch3 hi ?_)))
  all_goals first | exact hK | omega | exact hg

theorem c_lch5 {i : Int} {σ : q_S} {K : q_R → q_S → Prop} (hi : 0 ≤ i ∧ i < 2) (hK : K (some (0, q_txs [104, 32] i)) σ) : q_K L xs i_Latin_charAt [(4, 6), (0, i)] σ K := by
  have hj : i = 0 ∨ i = 1 := by omega
  refine q_call k_Latin_charAt 2 rfl ?_
  show q_E L xs k_Latin_charAt (0, [(4, 6), (0, i)], [], σ) K
  refine q_go1 200 0 [] (fun cl ev hcl hev => ?_)
  repeat' (first | refine And.intro ?_ ?_ | (intro hq; first | exact absurd hq (by decide) | exact absurd rfl hq | exact absurd hq (show ¬ (1 : Int) = 0 by decide) | exact absurd (show (1 : Int) ≠ 0 by decide) hq | skip) | (show cl _ _ _ _; first | refine hcl _ _ _ _ (c_String_checkIndex (by omega) ?_)))
  all_goals first | omega | (rcases hj with rfl | rfl <;> decide) | (refine q_kv hK ?_; rcases hj with rfl | rfl <;> decide)

theorem c_cha5 {i : Int} {σ : q_S} {K : q_R → q_S → Prop} (hi : 0 ≤ i ∧ i < 2) (hK : K (some (0, q_txs [104, 32] i)) σ) : q_K L xs i_String_charAt [(4, 5), (0, i)] σ K := by
  have hg : 0 ≤ q_txs [104, 32] i ∧ q_txs [104, 32] i < 65536 := by
    have hj : i = 0 ∨ i = 1 := by omega
    rcases hj with rfl | rfl <;> decide
  refine q_call k_String_charAt 2 rfl ?_
  show q_E L xs k_String_charAt (0, [(4, 5), (0, i)], [], σ) K
  refine q_go1 200 0 [] (fun cl ev hcl hev => ?_)
  repeat' (first | refine And.intro ?_ ?_ | (intro hq; first | exact absurd hq (by decide) | exact absurd rfl hq | exact absurd hq (show ¬ (1 : Int) = 0 by decide) | exact absurd (show (1 : Int) ≠ 0 by decide) hq | skip) | (show cl _ _ _ _; first | refine hcl _ _ _ _ (c_lat5 ?_) | refine hcl _ _ _ _ (c_lch5 hi ?_)))
  all_goals first | exact hK | omega | exact hg

theorem c_lch7 {i : Int} {σ : q_S} {K : q_R → q_S → Prop} (hi : 0 ≤ i ∧ i < 2) (hK : K (some (0, q_txs [102, 32] i)) σ) : q_K L xs i_Latin_charAt [(4, 8), (0, i)] σ K := by
  have hj : i = 0 ∨ i = 1 := by omega
  refine q_call k_Latin_charAt 2 rfl ?_
  show q_E L xs k_Latin_charAt (0, [(4, 8), (0, i)], [], σ) K
  refine q_go1 200 0 [] (fun cl ev hcl hev => ?_)
  repeat' (first | refine And.intro ?_ ?_ | (intro hq; first | exact absurd hq (by decide) | exact absurd rfl hq | exact absurd hq (show ¬ (1 : Int) = 0 by decide) | exact absurd (show (1 : Int) ≠ 0 by decide) hq | skip) | (show cl _ _ _ _; first | refine hcl _ _ _ _ (c_String_checkIndex (by omega) ?_)))
  all_goals first | omega | (rcases hj with rfl | rfl <;> decide) | (refine q_kv hK ?_; rcases hj with rfl | rfl <;> decide)

theorem c_cha7 {i : Int} {σ : q_S} {K : q_R → q_S → Prop} (hi : 0 ≤ i ∧ i < 2) (hK : K (some (0, q_txs [102, 32] i)) σ) : q_K L xs i_String_charAt [(4, 7), (0, i)] σ K := by
  have hg : 0 ≤ q_txs [102, 32] i ∧ q_txs [102, 32] i < 65536 := by
    have hj : i = 0 ∨ i = 1 := by omega
    rcases hj with rfl | rfl <;> decide
  refine q_call k_String_charAt 2 rfl ?_
  show q_E L xs k_String_charAt (0, [(4, 7), (0, i)], [], σ) K
  refine q_go1 200 0 [] (fun cl ev hcl hev => ?_)
  repeat' (first | refine And.intro ?_ ?_ | (intro hq; first | exact absurd hq (by decide) | exact absurd rfl hq | exact absurd hq (show ¬ (1 : Int) = 0 by decide) | exact absurd (show (1 : Int) ≠ 0 by decide) hq | skip) | (show cl _ _ _ _; first | refine hcl _ _ _ _ (c_lat7 ?_) | refine hcl _ _ _ _ (c_lch7 hi ?_)))
  all_goals first | exact hK | omega | exact hg

theorem c_lch9 {i : Int} {σ : q_S} {K : q_R → q_S → Prop} (hi : 0 ≤ i ∧ i < 2) (hK : K (some (0, q_txs [118, 32] i)) σ) : q_K L xs i_Latin_charAt [(4, 10), (0, i)] σ K := by
  have hj : i = 0 ∨ i = 1 := by omega
  refine q_call k_Latin_charAt 2 rfl ?_
  show q_E L xs k_Latin_charAt (0, [(4, 10), (0, i)], [], σ) K
  refine q_go1 200 0 [] (fun cl ev hcl hev => ?_)
  repeat' (first | refine And.intro ?_ ?_ | (intro hq; first | exact absurd hq (by decide) | exact absurd rfl hq | exact absurd hq (show ¬ (1 : Int) = 0 by decide) | exact absurd (show (1 : Int) ≠ 0 by decide) hq | skip) | (show cl _ _ _ _; first | refine hcl _ _ _ _ (c_String_checkIndex (by omega) ?_)))
  all_goals first | omega | (rcases hj with rfl | rfl <;> decide) | (refine q_kv hK ?_; rcases hj with rfl | rfl <;> decide)

theorem c_cha9 {i : Int} {σ : q_S} {K : q_R → q_S → Prop} (hi : 0 ≤ i ∧ i < 2) (hK : K (some (0, q_txs [118, 32] i)) σ) : q_K L xs i_String_charAt [(4, 9), (0, i)] σ K := by
  have hg : 0 ≤ q_txs [118, 32] i ∧ q_txs [118, 32] i < 65536 := by
    have hj : i = 0 ∨ i = 1 := by omega
    rcases hj with rfl | rfl <;> decide
  refine q_call k_String_charAt 2 rfl ?_
  show q_E L xs k_String_charAt (0, [(4, 9), (0, i)], [], σ) K
  refine q_go1 200 0 [] (fun cl ev hcl hev => ?_)
  repeat' (first | refine And.intro ?_ ?_ | (intro hq; first | exact absurd hq (by decide) | exact absurd rfl hq | exact absurd hq (show ¬ (1 : Int) = 0 by decide) | exact absurd (show (1 : Int) ≠ 0 by decide) hq | skip) | (show cl _ _ _ _; first | refine hcl _ _ _ _ (c_lat9 ?_) | refine hcl _ _ _ _ (c_lch9 hi ?_)))
  all_goals first | exact hK | omega | exact hg

theorem c_lch11 {i : Int} {σ : q_S} {K : q_R → q_S → Prop} (hi : 0 ≤ i ∧ i < 2) (hK : K (some (0, q_txs [115, 32] i)) σ) : q_K L xs i_Latin_charAt [(4, 12), (0, i)] σ K := by
  have hj : i = 0 ∨ i = 1 := by omega
  refine q_call k_Latin_charAt 2 rfl ?_
  show q_E L xs k_Latin_charAt (0, [(4, 12), (0, i)], [], σ) K
  refine q_go1 200 0 [] (fun cl ev hcl hev => ?_)
  repeat' (first | refine And.intro ?_ ?_ | (intro hq; first | exact absurd hq (by decide) | exact absurd rfl hq | exact absurd hq (show ¬ (1 : Int) = 0 by decide) | exact absurd (show (1 : Int) ≠ 0 by decide) hq | skip) | (show cl _ _ _ _; first | refine hcl _ _ _ _ (c_String_checkIndex (by omega) ?_)))
  all_goals first | omega | (rcases hj with rfl | rfl <;> decide) | (refine q_kv hK ?_; rcases hj with rfl | rfl <;> decide)

theorem c_cha11 {i : Int} {σ : q_S} {K : q_R → q_S → Prop} (hi : 0 ≤ i ∧ i < 2) (hK : K (some (0, q_txs [115, 32] i)) σ) : q_K L xs i_String_charAt [(4, 11), (0, i)] σ K := by
  have hg : 0 ≤ q_txs [115, 32] i ∧ q_txs [115, 32] i < 65536 := by
    have hj : i = 0 ∨ i = 1 := by omega
    rcases hj with rfl | rfl <;> decide
  refine q_call k_String_charAt 2 rfl ?_
  show q_E L xs k_String_charAt (0, [(4, 11), (0, i)], [], σ) K
  refine q_go1 200 0 [] (fun cl ev hcl hev => ?_)
  repeat' (first | refine And.intro ?_ ?_ | (intro hq; first | exact absurd hq (by decide) | exact absurd rfl hq | exact absurd hq (show ¬ (1 : Int) = 0 by decide) | exact absurd (show (1 : Int) ≠ 0 by decide) hq | skip) | (show cl _ _ _ _; first | refine hcl _ _ _ _ (c_lat11 ?_) | refine hcl _ _ _ _ (c_lch11 hi ?_)))
  all_goals first | exact hK | omega | exact hg

theorem c_lch13 {i : Int} {σ : q_S} {K : q_R → q_S → Prop} (hi : 0 ≤ i ∧ i < 5) (hK : K (some (0, q_txs [102, 114, 111, 110, 116] i)) σ) : q_K L xs i_Latin_charAt [(4, 14), (0, i)] σ K := by
  have hj : i = 0 ∨ i = 1 ∨ i = 2 ∨ i = 3 ∨ i = 4 := by omega
  refine q_call k_Latin_charAt 2 rfl ?_
  show q_E L xs k_Latin_charAt (0, [(4, 14), (0, i)], [], σ) K
  refine q_go1 200 0 [] (fun cl ev hcl hev => ?_)
  repeat' (first | refine And.intro ?_ ?_ | (intro hq; first | exact absurd hq (by decide) | exact absurd rfl hq | exact absurd hq (show ¬ (1 : Int) = 0 by decide) | exact absurd (show (1 : Int) ≠ 0 by decide) hq | skip) | (show cl _ _ _ _; first | refine hcl _ _ _ _ (c_String_checkIndex (by omega) ?_)))
  all_goals first | omega | (rcases hj with rfl | rfl | rfl | rfl | rfl <;> decide) | (refine q_kv hK ?_; rcases hj with rfl | rfl | rfl | rfl | rfl <;> decide)

theorem c_cha13 {i : Int} {σ : q_S} {K : q_R → q_S → Prop} (hi : 0 ≤ i ∧ i < 5) (hK : K (some (0, q_txs [102, 114, 111, 110, 116] i)) σ) : q_K L xs i_String_charAt [(4, 13), (0, i)] σ K := by
  have hg : 0 ≤ q_txs [102, 114, 111, 110, 116] i ∧ q_txs [102, 114, 111, 110, 116] i < 65536 := by
    have hj : i = 0 ∨ i = 1 ∨ i = 2 ∨ i = 3 ∨ i = 4 := by omega
    rcases hj with rfl | rfl | rfl | rfl | rfl <;> decide
  refine q_call k_String_charAt 2 rfl ?_
  show q_E L xs k_String_charAt (0, [(4, 13), (0, i)], [], σ) K
  refine q_go1 200 0 [] (fun cl ev hcl hev => ?_)
  repeat' (first | refine And.intro ?_ ?_ | (intro hq; first | exact absurd hq (by decide) | exact absurd rfl hq | exact absurd hq (show ¬ (1 : Int) = 0 by decide) | exact absurd (show (1 : Int) ≠ 0 by decide) hq | skip) | (show cl _ _ _ _; first | refine hcl _ _ _ _ (c_lat13 ?_) | refine hcl _ _ _ _ (c_lch13 hi ?_)))
  all_goals first | exact hK | omega | exact hg

theorem c_lch15 {i : Int} {σ : q_S} {K : q_R → q_S → Prop} (hi : 0 ≤ i ∧ i < 5) (hK : K (some (0, q_txs [97, 99, 114, 101, 115] i)) σ) : q_K L xs i_Latin_charAt [(4, 16), (0, i)] σ K := by
  have hj : i = 0 ∨ i = 1 ∨ i = 2 ∨ i = 3 ∨ i = 4 := by omega
  refine q_call k_Latin_charAt 2 rfl ?_
  show q_E L xs k_Latin_charAt (0, [(4, 16), (0, i)], [], σ) K
  refine q_go1 200 0 [] (fun cl ev hcl hev => ?_)
  repeat' (first | refine And.intro ?_ ?_ | (intro hq; first | exact absurd hq (by decide) | exact absurd rfl hq | exact absurd hq (show ¬ (1 : Int) = 0 by decide) | exact absurd (show (1 : Int) ≠ 0 by decide) hq | skip) | (show cl _ _ _ _; first | refine hcl _ _ _ _ (c_String_checkIndex (by omega) ?_)))
  all_goals first | omega | (rcases hj with rfl | rfl | rfl | rfl | rfl <;> decide) | (refine q_kv hK ?_; rcases hj with rfl | rfl | rfl | rfl | rfl <;> decide)

theorem c_cha15 {i : Int} {σ : q_S} {K : q_R → q_S → Prop} (hi : 0 ≤ i ∧ i < 5) (hK : K (some (0, q_txs [97, 99, 114, 101, 115] i)) σ) : q_K L xs i_String_charAt [(4, 15), (0, i)] σ K := by
  have hg : 0 ≤ q_txs [97, 99, 114, 101, 115] i ∧ q_txs [97, 99, 114, 101, 115] i < 65536 := by
    have hj : i = 0 ∨ i = 1 ∨ i = 2 ∨ i = 3 ∨ i = 4 := by omega
    rcases hj with rfl | rfl | rfl | rfl | rfl <;> decide
  refine q_call k_String_charAt 2 rfl ?_
  show q_E L xs k_String_charAt (0, [(4, 15), (0, i)], [], σ) K
  refine q_go1 200 0 [] (fun cl ev hcl hev => ?_)
  repeat' (first | refine And.intro ?_ ?_ | (intro hq; first | exact absurd hq (by decide) | exact absurd rfl hq | exact absurd hq (show ¬ (1 : Int) = 0 by decide) | exact absurd (show (1 : Int) ≠ 0 by decide) hq | skip) | (show cl _ _ _ _; first | refine hcl _ _ _ _ (c_lat15 ?_) | refine hcl _ _ _ _ (c_lch15 hi ?_)))
  all_goals first | exact hK | omega | exact hg

theorem c_lch17 {i : Int} {σ : q_S} {K : q_R → q_S → Prop} (hi : 0 ≤ i ∧ i < 4) (hK : K (some (0, q_txs [111, 119, 110, 32] i)) σ) : q_K L xs i_Latin_charAt [(4, 18), (0, i)] σ K := by
  have hj : i = 0 ∨ i = 1 ∨ i = 2 ∨ i = 3 := by omega
  refine q_call k_Latin_charAt 2 rfl ?_
  show q_E L xs k_Latin_charAt (0, [(4, 18), (0, i)], [], σ) K
  refine q_go1 200 0 [] (fun cl ev hcl hev => ?_)
  repeat' (first | refine And.intro ?_ ?_ | (intro hq; first | exact absurd hq (by decide) | exact absurd rfl hq | exact absurd hq (show ¬ (1 : Int) = 0 by decide) | exact absurd (show (1 : Int) ≠ 0 by decide) hq | skip) | (show cl _ _ _ _; first | refine hcl _ _ _ _ (c_String_checkIndex (by omega) ?_)))
  all_goals first | omega | (rcases hj with rfl | rfl | rfl | rfl <;> decide) | (refine q_kv hK ?_; rcases hj with rfl | rfl | rfl | rfl <;> decide)

theorem c_cha17 {i : Int} {σ : q_S} {K : q_R → q_S → Prop} (hi : 0 ≤ i ∧ i < 4) (hK : K (some (0, q_txs [111, 119, 110, 32] i)) σ) : q_K L xs i_String_charAt [(4, 17), (0, i)] σ K := by
  have hg : 0 ≤ q_txs [111, 119, 110, 32] i ∧ q_txs [111, 119, 110, 32] i < 65536 := by
    have hj : i = 0 ∨ i = 1 ∨ i = 2 ∨ i = 3 := by omega
    rcases hj with rfl | rfl | rfl | rfl <;> decide
  refine q_call k_String_charAt 2 rfl ?_
  show q_E L xs k_String_charAt (0, [(4, 17), (0, i)], [], σ) K
  refine q_go1 200 0 [] (fun cl ev hcl hev => ?_)
  repeat' (first | refine And.intro ?_ ?_ | (intro hq; first | exact absurd hq (by decide) | exact absurd rfl hq | exact absurd hq (show ¬ (1 : Int) = 0 by decide) | exact absurd (show (1 : Int) ≠ 0 by decide) hq | skip) | (show cl _ _ _ _; first | refine hcl _ _ _ _ (c_lat17 ?_) | refine hcl _ _ _ _ (c_lch17 hi ?_)))
  all_goals first | exact hK | omega | exact hg

theorem c_Tape_peek {σ : q_S} {K : q_R → q_S → Prop} (hp : 0 ≤ σ 32 2) (hK : ∀ x, (x = -1 ∨ (σ 32 2 < 160 ∧ σ 32 2 < σ 32 1 ∧ x = σ 33 (σ 32 2))) → K (some (0, x)) σ) : q_K L xs i_Tape_peek [(2, 32)] σ K := by
  refine q_call k_Tape_peek 1 rfl ?_
  show q_E L xs k_Tape_peek (0, [(2, 32)], [], σ) K
  refine q_go1 200 0 [] (fun cl ev hcl hev => ?_)
  repeat' (first | refine And.intro ?_ ?_ | (intro hq; first | exact absurd hq (by decide) | exact absurd rfl hq | exact absurd hq (show ¬ (1 : Int) = 0 by decide) | exact absurd (show (1 : Int) ≠ 0 by decide) hq | skip))
  all_goals first | omega | exact hK _ (by omega)

theorem c_Tape_take {c : Int} {W : Int → Int → Prop} {σ0 σ : q_S} {K : q_R → q_S → Prop} (hW : ∀ k i, w_tp k i → W k i) (hc : 0 ≤ c) (h : q_AW W σ0 σ) (hK : ∀ x σ', (x = 0 ∨ x = 1) → q_AW W σ0 σ' → K (some (0, x)) σ') : q_K L xs i_Tape_take [(2, 32), (0, c)] σ K := by
  have hp := q_oAt h
  have e1 : σ 32 2 < 160 → q_w32 (σ 32 2 + 1) = σ 32 2 + 1 := fun _ => by rw [q_w32_id] <;> omega
  refine q_call k_Tape_take 2 rfl ?_
  show q_E L xs k_Tape_take (0, [(2, 32), (0, c)], [], σ) K
  refine q_go1 200 0 [] (fun cl ev hcl hev => ?_)
  repeat' (first | refine And.intro ?_ ?_ | (intro hq; first | exact absurd hq (by decide) | exact absurd rfl hq | exact absurd hq (show ¬ (1 : Int) = 0 by decide) | exact absurd (show (1 : Int) ≠ 0 by decide) hq | skip) | (show cl _ _ _ _; first | refine hcl _ _ _ _ (c_Tape_peek hp.1 (fun x hx => ?_))))
  all_goals first
    | omega
    | exact hK _ _ (Or.inl rfl) h
    | exact hK _ _ (Or.inr rfl) (q_AWu h (hW _ _ ⟨rfl, rfl⟩) (by rw [e1 (by omega)]; unfold q_ok; omega))

theorem l_ta3 {W : Int → Int → Prop} {σ0 : q_S} {K : q_R → q_S → Prop} (hW : ∀ k i, w_tp k i → W k i) (hg : ∀ i, 0 ≤ i ∧ i < 2 → 0 ≤ q_txs [114, 32] i) (hK : ∀ x σ', (x = 0 ∨ x = 1) → q_AW W σ0 σ' → K (some (0, x)) σ') :
    ∀ (m : Nat) (i : Int) (σ : q_S), 2 - i < m → 0 ≤ i → i ≤ 2 → q_AW W σ0 σ → q_E L xs k_Tape_takeAll (2, [(2, 32), (4, 3), (0, i)], [], σ) K := by
  intro m
  induction m with
  | zero => intro i; omega
  | succ m ih =>
    intro i σ hm hi hi2 h
    have e : q_w32 (i + 1) = i + 1 := by rw [q_w32_id] <;> omega
    refine q_go1 200 2 [2] (fun cl ev hcl hev => ?_)
    repeat' (first | refine And.intro ?_ ?_ | (intro hq; first | exact absurd hq (by decide) | exact absurd rfl hq | exact absurd hq (show ¬ (1 : Int) = 0 by decide) | exact absurd (show (1 : Int) ≠ 0 by decide) hq | skip) | (show cl _ _ _ _; first | refine hcl _ _ _ _ (c_len3 ?_) | refine hcl _ _ _ _ (c_cha3 (by omega) ?_) | refine hcl _ _ _ _ (c_Tape_take hW (hg i (by omega)) h (fun x σ1 hx h1 => ?_))))
    all_goals first
      | omega
      | exact hK _ _ (Or.inr rfl) h
      | exact hK _ _ (Or.inl rfl) h1
      | (refine hev _ ?_; rw [e]; exact ih _ _ (by omega) (by omega) (by omega) (by repeat' (first | assumption | refine q_AWf ?_ (hW _ _ (by unfold w_tp; omega)) (by unfold q_fre; omega) | refine q_AWu ?_ (hW _ _ (by unfold w_tp; omega)) (by unfold q_ok; first | omega | (simp (disch := decide) only [q_un, q_ue]; omega)))))

theorem c_ta3 {W : Int → Int → Prop} {σ0 σ : q_S} {K : q_R → q_S → Prop} (hW : ∀ k i, w_tp k i → W k i)  (h : q_AW W σ0 σ) (hK : ∀ x σ', (x = 0 ∨ x = 1) → q_AW W σ0 σ' → K (some (0, x)) σ') : q_K L xs i_Tape_takeAll [(2, 32), (4, 3)] σ K := by
  have hg : ∀ i, 0 ≤ i ∧ i < 2 → 0 ≤ q_txs [114, 32] i := fun i hi => by
    have hj : i = 0 ∨ i = 1 := by omega
    rcases hj with rfl | rfl <;> decide
  refine q_call k_Tape_takeAll 3 rfl ?_
  show q_E L xs k_Tape_takeAll (0, [(2, 32), (4, 3), (9, 0)], [], σ) K
  refine q_go1 200 0 [2] (fun cl ev hcl hev => ?_)
  repeat' (first | refine And.intro ?_ ?_ | (intro hq; first | exact absurd hq (by decide) | exact absurd rfl hq | exact absurd hq (show ¬ (1 : Int) = 0 by decide) | exact absurd (show (1 : Int) ≠ 0 by decide) hq | skip))
  all_goals first
    | omega
    | exact hev _ (l_ta3 hW hg hK 3 0 _ (by omega) (by omega) (by omega) h)

theorem l_ta5 {W : Int → Int → Prop} {σ0 : q_S} {K : q_R → q_S → Prop} (hW : ∀ k i, w_tp k i → W k i) (hg : ∀ i, 0 ≤ i ∧ i < 2 → 0 ≤ q_txs [104, 32] i) (hK : ∀ x σ', (x = 0 ∨ x = 1) → q_AW W σ0 σ' → K (some (0, x)) σ') :
    ∀ (m : Nat) (i : Int) (σ : q_S), 2 - i < m → 0 ≤ i → i ≤ 2 → q_AW W σ0 σ → q_E L xs k_Tape_takeAll (2, [(2, 32), (4, 5), (0, i)], [], σ) K := by
  intro m
  induction m with
  | zero => intro i; omega
  | succ m ih =>
    intro i σ hm hi hi2 h
    have e : q_w32 (i + 1) = i + 1 := by rw [q_w32_id] <;> omega
    refine q_go1 200 2 [2] (fun cl ev hcl hev => ?_)
    repeat' (first | refine And.intro ?_ ?_ | (intro hq; first | exact absurd hq (by decide) | exact absurd rfl hq | exact absurd hq (show ¬ (1 : Int) = 0 by decide) | exact absurd (show (1 : Int) ≠ 0 by decide) hq | skip) | (show cl _ _ _ _; first | refine hcl _ _ _ _ (c_len5 ?_) | refine hcl _ _ _ _ (c_cha5 (by omega) ?_) | refine hcl _ _ _ _ (c_Tape_take hW (hg i (by omega)) h (fun x σ1 hx h1 => ?_))))
    all_goals first
      | omega
      | exact hK _ _ (Or.inr rfl) h
      | exact hK _ _ (Or.inl rfl) h1
      | (refine hev _ ?_; rw [e]; exact ih _ _ (by omega) (by omega) (by omega) (by repeat' (first | assumption | refine q_AWf ?_ (hW _ _ (by unfold w_tp; omega)) (by unfold q_fre; omega) | refine q_AWu ?_ (hW _ _ (by unfold w_tp; omega)) (by unfold q_ok; first | omega | (simp (disch := decide) only [q_un, q_ue]; omega)))))

theorem c_ta5 {W : Int → Int → Prop} {σ0 σ : q_S} {K : q_R → q_S → Prop} (hW : ∀ k i, w_tp k i → W k i)  (h : q_AW W σ0 σ) (hK : ∀ x σ', (x = 0 ∨ x = 1) → q_AW W σ0 σ' → K (some (0, x)) σ') : q_K L xs i_Tape_takeAll [(2, 32), (4, 5)] σ K := by
  have hg : ∀ i, 0 ≤ i ∧ i < 2 → 0 ≤ q_txs [104, 32] i := fun i hi => by
    have hj : i = 0 ∨ i = 1 := by omega
    rcases hj with rfl | rfl <;> decide
  refine q_call k_Tape_takeAll 3 rfl ?_
  show q_E L xs k_Tape_takeAll (0, [(2, 32), (4, 5), (9, 0)], [], σ) K
  refine q_go1 200 0 [2] (fun cl ev hcl hev => ?_)
  repeat' (first | refine And.intro ?_ ?_ | (intro hq; first | exact absurd hq (by decide) | exact absurd rfl hq | exact absurd hq (show ¬ (1 : Int) = 0 by decide) | exact absurd (show (1 : Int) ≠ 0 by decide) hq | skip))
  all_goals first
    | omega
    | exact hev _ (l_ta5 hW hg hK 3 0 _ (by omega) (by omega) (by omega) h)

theorem l_ta7 {W : Int → Int → Prop} {σ0 : q_S} {K : q_R → q_S → Prop} (hW : ∀ k i, w_tp k i → W k i) (hg : ∀ i, 0 ≤ i ∧ i < 2 → 0 ≤ q_txs [102, 32] i) (hK : ∀ x σ', (x = 0 ∨ x = 1) → q_AW W σ0 σ' → K (some (0, x)) σ') :
    ∀ (m : Nat) (i : Int) (σ : q_S), 2 - i < m → 0 ≤ i → i ≤ 2 → q_AW W σ0 σ → q_E L xs k_Tape_takeAll (2, [(2, 32), (4, 7), (0, i)], [], σ) K := by
  intro m
  induction m with
  | zero => intro i; omega
  | succ m ih =>
    intro i σ hm hi hi2 h
    have e : q_w32 (i + 1) = i + 1 := by rw [q_w32_id] <;> omega
    refine q_go1 200 2 [2] (fun cl ev hcl hev => ?_)
    repeat' (first | refine And.intro ?_ ?_ | (intro hq; first | exact absurd hq (by decide) | exact absurd rfl hq | exact absurd hq (show ¬ (1 : Int) = 0 by decide) | exact absurd (show (1 : Int) ≠ 0 by decide) hq | skip) | (show cl _ _ _ _; first | refine hcl _ _ _ _ (c_len7 ?_) | refine hcl _ _ _ _ (c_cha7 (by omega) ?_) | refine hcl _ _ _ _ (c_Tape_take hW (hg i (by omega)) h (fun x σ1 hx h1 => ?_))))
    all_goals first
      | omega
      | exact hK _ _ (Or.inr rfl) h
      | exact hK _ _ (Or.inl rfl) h1
      | (refine hev _ ?_; rw [e]; exact ih _ _ (by omega) (by omega) (by omega) (by repeat' (first | assumption | refine q_AWf ?_ (hW _ _ (by unfold w_tp; omega)) (by unfold q_fre; omega) | refine q_AWu ?_ (hW _ _ (by unfold w_tp; omega)) (by unfold q_ok; first | omega | (simp (disch := decide) only [q_un, q_ue]; omega)))))

theorem c_ta7 {W : Int → Int → Prop} {σ0 σ : q_S} {K : q_R → q_S → Prop} (hW : ∀ k i, w_tp k i → W k i)  (h : q_AW W σ0 σ) (hK : ∀ x σ', (x = 0 ∨ x = 1) → q_AW W σ0 σ' → K (some (0, x)) σ') : q_K L xs i_Tape_takeAll [(2, 32), (4, 7)] σ K := by
  have hg : ∀ i, 0 ≤ i ∧ i < 2 → 0 ≤ q_txs [102, 32] i := fun i hi => by
    have hj : i = 0 ∨ i = 1 := by omega
    rcases hj with rfl | rfl <;> decide
  refine q_call k_Tape_takeAll 3 rfl ?_
  show q_E L xs k_Tape_takeAll (0, [(2, 32), (4, 7), (9, 0)], [], σ) K
  refine q_go1 200 0 [2] (fun cl ev hcl hev => ?_)
  repeat' (first | refine And.intro ?_ ?_ | (intro hq; first | exact absurd hq (by decide) | exact absurd rfl hq | exact absurd hq (show ¬ (1 : Int) = 0 by decide) | exact absurd (show (1 : Int) ≠ 0 by decide) hq | skip))
  all_goals first
    | omega
    | exact hev _ (l_ta7 hW hg hK 3 0 _ (by omega) (by omega) (by omega) h)

theorem l_ta9 {W : Int → Int → Prop} {σ0 : q_S} {K : q_R → q_S → Prop} (hW : ∀ k i, w_tp k i → W k i) (hg : ∀ i, 0 ≤ i ∧ i < 2 → 0 ≤ q_txs [118, 32] i) (hK : ∀ x σ', (x = 0 ∨ x = 1) → q_AW W σ0 σ' → K (some (0, x)) σ') :
    ∀ (m : Nat) (i : Int) (σ : q_S), 2 - i < m → 0 ≤ i → i ≤ 2 → q_AW W σ0 σ → q_E L xs k_Tape_takeAll (2, [(2, 32), (4, 9), (0, i)], [], σ) K := by
  intro m
  induction m with
  | zero => intro i; omega
  | succ m ih =>
    intro i σ hm hi hi2 h
    have e : q_w32 (i + 1) = i + 1 := by rw [q_w32_id] <;> omega
    refine q_go1 200 2 [2] (fun cl ev hcl hev => ?_)
    repeat' (first | refine And.intro ?_ ?_ | (intro hq; first | exact absurd hq (by decide) | exact absurd rfl hq | exact absurd hq (show ¬ (1 : Int) = 0 by decide) | exact absurd (show (1 : Int) ≠ 0 by decide) hq | skip) | (show cl _ _ _ _; first | refine hcl _ _ _ _ (c_len9 ?_) | refine hcl _ _ _ _ (c_cha9 (by omega) ?_) | refine hcl _ _ _ _ (c_Tape_take hW (hg i (by omega)) h (fun x σ1 hx h1 => ?_))))
    all_goals first
      | omega
      | exact hK _ _ (Or.inr rfl) h
      | exact hK _ _ (Or.inl rfl) h1
      | (refine hev _ ?_; rw [e]; exact ih _ _ (by omega) (by omega) (by omega) (by repeat' (first | assumption | refine q_AWf ?_ (hW _ _ (by unfold w_tp; omega)) (by unfold q_fre; omega) | refine q_AWu ?_ (hW _ _ (by unfold w_tp; omega)) (by unfold q_ok; first | omega | (simp (disch := decide) only [q_un, q_ue]; omega)))))

theorem c_ta9 {W : Int → Int → Prop} {σ0 σ : q_S} {K : q_R → q_S → Prop} (hW : ∀ k i, w_tp k i → W k i)  (h : q_AW W σ0 σ) (hK : ∀ x σ', (x = 0 ∨ x = 1) → q_AW W σ0 σ' → K (some (0, x)) σ') : q_K L xs i_Tape_takeAll [(2, 32), (4, 9)] σ K := by
  have hg : ∀ i, 0 ≤ i ∧ i < 2 → 0 ≤ q_txs [118, 32] i := fun i hi => by
    have hj : i = 0 ∨ i = 1 := by omega
    rcases hj with rfl | rfl <;> decide
  refine q_call k_Tape_takeAll 3 rfl ?_
  show q_E L xs k_Tape_takeAll (0, [(2, 32), (4, 9), (9, 0)], [], σ) K
  refine q_go1 200 0 [2] (fun cl ev hcl hev => ?_)
  repeat' (first | refine And.intro ?_ ?_ | (intro hq; first | exact absurd hq (by decide) | exact absurd rfl hq | exact absurd hq (show ¬ (1 : Int) = 0 by decide) | exact absurd (show (1 : Int) ≠ 0 by decide) hq | skip))
  all_goals first
    | omega
    | exact hev _ (l_ta9 hW hg hK 3 0 _ (by omega) (by omega) (by omega) h)

theorem l_ta11 {W : Int → Int → Prop} {σ0 : q_S} {K : q_R → q_S → Prop} (hW : ∀ k i, w_tp k i → W k i) (hg : ∀ i, 0 ≤ i ∧ i < 2 → 0 ≤ q_txs [115, 32] i) (hK : ∀ x σ', (x = 0 ∨ x = 1) → q_AW W σ0 σ' → K (some (0, x)) σ') :
    ∀ (m : Nat) (i : Int) (σ : q_S), 2 - i < m → 0 ≤ i → i ≤ 2 → q_AW W σ0 σ → q_E L xs k_Tape_takeAll (2, [(2, 32), (4, 11), (0, i)], [], σ) K := by
  intro m
  induction m with
  | zero => intro i; omega
  | succ m ih =>
    intro i σ hm hi hi2 h
    have e : q_w32 (i + 1) = i + 1 := by rw [q_w32_id] <;> omega
    refine q_go1 200 2 [2] (fun cl ev hcl hev => ?_)
    repeat' (first | refine And.intro ?_ ?_ | (intro hq; first | exact absurd hq (by decide) | exact absurd rfl hq | exact absurd hq (show ¬ (1 : Int) = 0 by decide) | exact absurd (show (1 : Int) ≠ 0 by decide) hq | skip) | (show cl _ _ _ _; first | refine hcl _ _ _ _ (c_len11 ?_) | refine hcl _ _ _ _ (c_cha11 (by omega) ?_) | refine hcl _ _ _ _ (c_Tape_take hW (hg i (by omega)) h (fun x σ1 hx h1 => ?_))))
    all_goals first
      | omega
      | exact hK _ _ (Or.inr rfl) h
      | exact hK _ _ (Or.inl rfl) h1
      | (refine hev _ ?_; rw [e]; exact ih _ _ (by omega) (by omega) (by omega) (by repeat' (first | assumption | refine q_AWf ?_ (hW _ _ (by unfold w_tp; omega)) (by unfold q_fre; omega) | refine q_AWu ?_ (hW _ _ (by unfold w_tp; omega)) (by unfold q_ok; first | omega | (simp (disch := decide) only [q_un, q_ue]; omega)))))

theorem c_ta11 {W : Int → Int → Prop} {σ0 σ : q_S} {K : q_R → q_S → Prop} (hW : ∀ k i, w_tp k i → W k i)  (h : q_AW W σ0 σ) (hK : ∀ x σ', (x = 0 ∨ x = 1) → q_AW W σ0 σ' → K (some (0, x)) σ') : q_K L xs i_Tape_takeAll [(2, 32), (4, 11)] σ K := by
  have hg : ∀ i, 0 ≤ i ∧ i < 2 → 0 ≤ q_txs [115, 32] i := fun i hi => by
    have hj : i = 0 ∨ i = 1 := by omega
    rcases hj with rfl | rfl <;> decide
  refine q_call k_Tape_takeAll 3 rfl ?_
  show q_E L xs k_Tape_takeAll (0, [(2, 32), (4, 11), (9, 0)], [], σ) K
  refine q_go1 200 0 [2] (fun cl ev hcl hev => ?_)
  repeat' (first | refine And.intro ?_ ?_ | (intro hq; first | exact absurd hq (by decide) | exact absurd rfl hq | exact absurd hq (show ¬ (1 : Int) = 0 by decide) | exact absurd (show (1 : Int) ≠ 0 by decide) hq | skip))
  all_goals first
    | omega
    | exact hev _ (l_ta11 hW hg hK 3 0 _ (by omega) (by omega) (by omega) h)

theorem l_ta13 {W : Int → Int → Prop} {σ0 : q_S} {K : q_R → q_S → Prop} (hW : ∀ k i, w_tp k i → W k i) (hg : ∀ i, 0 ≤ i ∧ i < 5 → 0 ≤ q_txs [102, 114, 111, 110, 116] i) (hK : ∀ x σ', (x = 0 ∨ x = 1) → q_AW W σ0 σ' → K (some (0, x)) σ') :
    ∀ (m : Nat) (i : Int) (σ : q_S), 5 - i < m → 0 ≤ i → i ≤ 5 → q_AW W σ0 σ → q_E L xs k_Tape_takeAll (2, [(2, 32), (4, 13), (0, i)], [], σ) K := by
  intro m
  induction m with
  | zero => intro i; omega
  | succ m ih =>
    intro i σ hm hi hi2 h
    have e : q_w32 (i + 1) = i + 1 := by rw [q_w32_id] <;> omega
    refine q_go1 200 2 [2] (fun cl ev hcl hev => ?_)
    repeat' (first | refine And.intro ?_ ?_ | (intro hq; first | exact absurd hq (by decide) | exact absurd rfl hq | exact absurd hq (show ¬ (1 : Int) = 0 by decide) | exact absurd (show (1 : Int) ≠ 0 by decide) hq | skip) | (show cl _ _ _ _; first | refine hcl _ _ _ _ (c_len13 ?_) | refine hcl _ _ _ _ (c_cha13 (by omega) ?_) | refine hcl _ _ _ _ (c_Tape_take hW (hg i (by omega)) h (fun x σ1 hx h1 => ?_))))
    all_goals first
      | omega
      | exact hK _ _ (Or.inr rfl) h
      | exact hK _ _ (Or.inl rfl) h1
      | (refine hev _ ?_; rw [e]; exact ih _ _ (by omega) (by omega) (by omega) (by repeat' (first | assumption | refine q_AWf ?_ (hW _ _ (by unfold w_tp; omega)) (by unfold q_fre; omega) | refine q_AWu ?_ (hW _ _ (by unfold w_tp; omega)) (by unfold q_ok; first | omega | (simp (disch := decide) only [q_un, q_ue]; omega)))))

theorem c_ta13 {W : Int → Int → Prop} {σ0 σ : q_S} {K : q_R → q_S → Prop} (hW : ∀ k i, w_tp k i → W k i)  (h : q_AW W σ0 σ) (hK : ∀ x σ', (x = 0 ∨ x = 1) → q_AW W σ0 σ' → K (some (0, x)) σ') : q_K L xs i_Tape_takeAll [(2, 32), (4, 13)] σ K := by
  have hg : ∀ i, 0 ≤ i ∧ i < 5 → 0 ≤ q_txs [102, 114, 111, 110, 116] i := fun i hi => by
    have hj : i = 0 ∨ i = 1 ∨ i = 2 ∨ i = 3 ∨ i = 4 := by omega
    rcases hj with rfl | rfl | rfl | rfl | rfl <;> decide
  refine q_call k_Tape_takeAll 3 rfl ?_
  show q_E L xs k_Tape_takeAll (0, [(2, 32), (4, 13), (9, 0)], [], σ) K
  refine q_go1 200 0 [2] (fun cl ev hcl hev => ?_)
  repeat' (first | refine And.intro ?_ ?_ | (intro hq; first | exact absurd hq (by decide) | exact absurd rfl hq | exact absurd hq (show ¬ (1 : Int) = 0 by decide) | exact absurd (show (1 : Int) ≠ 0 by decide) hq | skip))
  all_goals first
    | omega
    | exact hev _ (l_ta13 hW hg hK 6 0 _ (by omega) (by omega) (by omega) h)

theorem l_ta15 {W : Int → Int → Prop} {σ0 : q_S} {K : q_R → q_S → Prop} (hW : ∀ k i, w_tp k i → W k i) (hg : ∀ i, 0 ≤ i ∧ i < 5 → 0 ≤ q_txs [97, 99, 114, 101, 115] i) (hK : ∀ x σ', (x = 0 ∨ x = 1) → q_AW W σ0 σ' → K (some (0, x)) σ') :
    ∀ (m : Nat) (i : Int) (σ : q_S), 5 - i < m → 0 ≤ i → i ≤ 5 → q_AW W σ0 σ → q_E L xs k_Tape_takeAll (2, [(2, 32), (4, 15), (0, i)], [], σ) K := by
  intro m
  induction m with
  | zero => intro i; omega
  | succ m ih =>
    intro i σ hm hi hi2 h
    have e : q_w32 (i + 1) = i + 1 := by rw [q_w32_id] <;> omega
    refine q_go1 200 2 [2] (fun cl ev hcl hev => ?_)
    repeat' (first | refine And.intro ?_ ?_ | (intro hq; first | exact absurd hq (by decide) | exact absurd rfl hq | exact absurd hq (show ¬ (1 : Int) = 0 by decide) | exact absurd (show (1 : Int) ≠ 0 by decide) hq | skip) | (show cl _ _ _ _; first | refine hcl _ _ _ _ (c_len15 ?_) | refine hcl _ _ _ _ (c_cha15 (by omega) ?_) | refine hcl _ _ _ _ (c_Tape_take hW (hg i (by omega)) h (fun x σ1 hx h1 => ?_))))
    all_goals first
      | omega
      | exact hK _ _ (Or.inr rfl) h
      | exact hK _ _ (Or.inl rfl) h1
      | (refine hev _ ?_; rw [e]; exact ih _ _ (by omega) (by omega) (by omega) (by repeat' (first | assumption | refine q_AWf ?_ (hW _ _ (by unfold w_tp; omega)) (by unfold q_fre; omega) | refine q_AWu ?_ (hW _ _ (by unfold w_tp; omega)) (by unfold q_ok; first | omega | (simp (disch := decide) only [q_un, q_ue]; omega)))))

theorem c_ta15 {W : Int → Int → Prop} {σ0 σ : q_S} {K : q_R → q_S → Prop} (hW : ∀ k i, w_tp k i → W k i)  (h : q_AW W σ0 σ) (hK : ∀ x σ', (x = 0 ∨ x = 1) → q_AW W σ0 σ' → K (some (0, x)) σ') : q_K L xs i_Tape_takeAll [(2, 32), (4, 15)] σ K := by
  have hg : ∀ i, 0 ≤ i ∧ i < 5 → 0 ≤ q_txs [97, 99, 114, 101, 115] i := fun i hi => by
    have hj : i = 0 ∨ i = 1 ∨ i = 2 ∨ i = 3 ∨ i = 4 := by omega
    rcases hj with rfl | rfl | rfl | rfl | rfl <;> decide
  refine q_call k_Tape_takeAll 3 rfl ?_
  show q_E L xs k_Tape_takeAll (0, [(2, 32), (4, 15), (9, 0)], [], σ) K
  refine q_go1 200 0 [2] (fun cl ev hcl hev => ?_)
  repeat' (first | refine And.intro ?_ ?_ | (intro hq; first | exact absurd hq (by decide) | exact absurd rfl hq | exact absurd hq (show ¬ (1 : Int) = 0 by decide) | exact absurd (show (1 : Int) ≠ 0 by decide) hq | skip))
  all_goals first
    | omega
    | exact hev _ (l_ta15 hW hg hK 6 0 _ (by omega) (by omega) (by omega) h)

theorem l_ta17 {W : Int → Int → Prop} {σ0 : q_S} {K : q_R → q_S → Prop} (hW : ∀ k i, w_tp k i → W k i) (hg : ∀ i, 0 ≤ i ∧ i < 4 → 0 ≤ q_txs [111, 119, 110, 32] i) (hK : ∀ x σ', (x = 0 ∨ x = 1) → q_AW W σ0 σ' → K (some (0, x)) σ') :
    ∀ (m : Nat) (i : Int) (σ : q_S), 4 - i < m → 0 ≤ i → i ≤ 4 → q_AW W σ0 σ → q_E L xs k_Tape_takeAll (2, [(2, 32), (4, 17), (0, i)], [], σ) K := by
  intro m
  induction m with
  | zero => intro i; omega
  | succ m ih =>
    intro i σ hm hi hi2 h
    have e : q_w32 (i + 1) = i + 1 := by rw [q_w32_id] <;> omega
    refine q_go1 200 2 [2] (fun cl ev hcl hev => ?_)
    repeat' (first | refine And.intro ?_ ?_ | (intro hq; first | exact absurd hq (by decide) | exact absurd rfl hq | exact absurd hq (show ¬ (1 : Int) = 0 by decide) | exact absurd (show (1 : Int) ≠ 0 by decide) hq | skip) | (show cl _ _ _ _; first | refine hcl _ _ _ _ (c_len17 ?_) | refine hcl _ _ _ _ (c_cha17 (by omega) ?_) | refine hcl _ _ _ _ (c_Tape_take hW (hg i (by omega)) h (fun x σ1 hx h1 => ?_))))
    all_goals first
      | omega
      | exact hK _ _ (Or.inr rfl) h
      | exact hK _ _ (Or.inl rfl) h1
      | (refine hev _ ?_; rw [e]; exact ih _ _ (by omega) (by omega) (by omega) (by repeat' (first | assumption | refine q_AWf ?_ (hW _ _ (by unfold w_tp; omega)) (by unfold q_fre; omega) | refine q_AWu ?_ (hW _ _ (by unfold w_tp; omega)) (by unfold q_ok; first | omega | (simp (disch := decide) only [q_un, q_ue]; omega)))))

theorem c_ta17 {W : Int → Int → Prop} {σ0 σ : q_S} {K : q_R → q_S → Prop} (hW : ∀ k i, w_tp k i → W k i)  (h : q_AW W σ0 σ) (hK : ∀ x σ', (x = 0 ∨ x = 1) → q_AW W σ0 σ' → K (some (0, x)) σ') : q_K L xs i_Tape_takeAll [(2, 32), (4, 17)] σ K := by
  have hg : ∀ i, 0 ≤ i ∧ i < 4 → 0 ≤ q_txs [111, 119, 110, 32] i := fun i hi => by
    have hj : i = 0 ∨ i = 1 ∨ i = 2 ∨ i = 3 := by omega
    rcases hj with rfl | rfl | rfl | rfl <;> decide
  refine q_call k_Tape_takeAll 3 rfl ?_
  show q_E L xs k_Tape_takeAll (0, [(2, 32), (4, 17), (9, 0)], [], σ) K
  refine q_go1 200 0 [2] (fun cl ev hcl hev => ?_)
  repeat' (first | refine And.intro ?_ ?_ | (intro hq; first | exact absurd hq (by decide) | exact absurd rfl hq | exact absurd hq (show ¬ (1 : Int) = 0 by decide) | exact absurd (show (1 : Int) ≠ 0 by decide) hq | skip))
  all_goals first
    | omega
    | exact hev _ (l_ta17 hW hg hK 5 0 _ (by omega) (by omega) (by omega) h)

theorem l_takeN {lo hi : Int} {W : Int → Int → Prop} {σ0 : q_S} {K : q_R → q_S → Prop} (hW : ∀ k i, w_tp k i → W k i) (hh : 0 ≤ hi ∧ hi ≤ 999) (hK : ∀ x σ', -1 ≤ x → x ≤ hi → q_AW W σ0 σ' → K (some (0, x)) σ') :
    ∀ (m : Nat) (v : Int) (σ : q_S) (y : Int) (u : Nat), 160 - σ 32 2 < m → 0 ≤ v → v ≤ hi → q_AW W σ0 σ → q_E L xs k_Tape_takeNumber (20, [(2, 32), (0, lo), (0, hi), (0, v), (u, y)], [], σ) K := by
  intro m
  induction m with
  | zero => intro v σ y u hm _ _ h; have := q_oAt h; omega
  | succ m ih =>
    intro v σ y u hm hv0 hv1 h
    have hp := q_oAt h
    have e1 : σ 32 2 < 160 → q_w32 (σ 32 2 + 1) = σ 32 2 + 1 := fun _ => by rw [q_w32_id] <;> omega
    have e10 : q_w32 (10 * v) = 10 * v := by rw [q_w32_id] <;> omega
    refine q_go1 200 20 [20] (fun cl ev hcl hev => ?_)
    repeat' (first | refine And.intro ?_ ?_ | (intro hq; first | exact absurd hq (by decide) | exact absurd rfl hq | exact absurd hq (show ¬ (1 : Int) = 0 by decide) | exact absurd (show (1 : Int) ≠ 0 by decide) hq | skip) | refine hcl _ _ _ _ (c_Tape_peek hp.1 (fun x hx => ?_)) | refine hcl _ _ _ _ (c_A_within ?_ ?_))
    all_goals first
      | omega
      | exact hK _ _ (by omega) (by omega) h
      | (rcases hx with rfl | ⟨hx1, hx2, hx3⟩
         · exfalso
           have e49 : q_w32 (-1 - 48) = -49 := by decide
           omega
         · have e2 : q_w32 (q_w32 (10 * v) + q_w32 (x - 48)) = 10 * v + q_w32 (x - 48) := by rw [e10, q_w32_id] <;> omega
           refine hev _ ?_
           have h1 : q_AW W σ0 (q_up σ 32 2 (q_w32 (σ 32 2 + 1))) := q_AWu h (hW _ _ ⟨rfl, rfl⟩) (by rw [e1 (by omega)]; unfold q_ok; omega)
           exact ih _ _ _ _ (by rw [q_ue, e1 (by omega)]; omega) (by omega) (by omega) h1)

theorem c_Tape_takeNumber {lo hi : Int} {W : Int → Int → Prop} {σ0 σ : q_S} {K : q_R → q_S → Prop} (hW : ∀ k i, w_tp k i → W k i) (hl : 0 ≤ lo) (hh : 0 ≤ hi ∧ hi ≤ 999) (h : q_AW W σ0 σ) (hK : ∀ x σ', -1 ≤ x → x ≤ hi → q_AW W σ0 σ' → K (some (0, x)) σ') : q_K L xs i_Tape_takeNumber [(2, 32), (0, lo), (0, hi)] σ K := by
  have hp := q_oAt h
  have e1 : σ 32 2 < 160 → q_w32 (σ 32 2 + 1) = σ 32 2 + 1 := fun _ => by rw [q_w32_id] <;> omega
  refine q_call k_Tape_takeNumber 5 rfl ?_
  show q_E L xs k_Tape_takeNumber (0, [(2, 32), (0, lo), (0, hi), (9, 0), (9, 0)], [], σ) K
  refine q_go1 200 0 [20] (fun cl ev hcl hev => ?_)
  repeat' (first | refine And.intro ?_ ?_ | (intro hq; first | exact absurd hq (by decide) | exact absurd rfl hq | exact absurd hq (show ¬ (1 : Int) = 0 by decide) | exact absurd (show (1 : Int) ≠ 0 by decide) hq | skip) | (show cl _ _ _ _; first | refine hcl _ _ _ _ (c_Tape_peek hp.1 (fun x hx => ?_)) | refine hcl _ _ _ _ (c_A_within ?_ ?_)))
  all_goals first
    | omega
    | exact hK _ _ (by omega) (by omega) h
    | (rcases hx with rfl | ⟨hx1, hx2, hx3⟩
       · exfalso
         have e49 : q_w32 (-1 - 48) = -49 := by decide
         omega
       · exact hev _ (l_takeN hW hh hK 162 _ _ _ _ (by rw [q_ue, e1 (by omega)]; omega) (by omega) (by omega) (q_AWu h (hW _ _ ⟨rfl, rfl⟩) (by rw [e1 (by omega)]; unfold q_ok; omega))))

end P47
