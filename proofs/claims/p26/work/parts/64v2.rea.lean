theorem u_ws_01 {B : Int → Int} {n : Int} : ∀ (l : List Int) (p : Int), (u_wrd B n l p).1 = 0 ∨ (u_wrd B n l p).1 = 1
  | [], p => Or.inr rfl
  | c :: l, p => by
    unfold u_wrd
    split
    · exact u_ws_01 l (p + 1)
    · exact Or.inl rfl
theorem u_mv {ρ : q_S} {p k i v : Int} (h : k ≠ 32) : q_up (q_up ρ 32 2 p) k i v = q_up (q_up ρ k i v) 32 2 p := q_cmm (fun z => h z.1.symm)
theorem u_pk_in {ρ : q_S} {B : Int → Int} {n p : Int} (t : u_tp ρ B n) : -1 ≤ u_pk B n p ∧ u_pk B n p ≤ 255 := by
  unfold u_pk
  split
  · have := t.2.2.2.2 p; omega
  · omega
section V2
variable {L : Nat} {xs : Int → Int}
theorem u_number {lo hi : Int} {B : Int → Int} {n p : Int} {ρ : q_S} {K : q_R → q_S → Prop} (t : u_tp ρ B n) (hp : 0 ≤ p ∧ p ≤ n) (hl : 0 ≤ lo) (hh : 0 ≤ hi ∧ hi ≤ 999) (hK : K (some (0, (u_num B n lo hi p).1)) (q_up ρ 32 2 (u_num B n lo hi p).2)) : q_K L xs i_Tape_takeNumber [(2, 32), (0, lo), (0, hi)] (q_up ρ 32 2 p) K := by
  have t3 : 0 ≤ n ∧ n ≤ 160 := ⟨t.2.2.1, t.2.2.2.1⟩
  have hpk := u_pk_in (p := p) t
  have e2 : q_up ρ 32 2 p 32 2 = p := q_ue
  have ew : q_w32 (q_up ρ 32 2 p 32 2 + 1) = p + 1 := by rw [e2, q_w32_id] <;> omega
  have ev_ : q_w32 (u_pk B n p - 48) = u_pk B n p - 48 := by rw [q_w32_id] <;> omega
  refine q_call k_Tape_takeNumber 5 rfl ?_
  show q_E L xs k_Tape_takeNumber (0, [(2, 32), (0, lo), (0, hi), (9, 0), (9, 0)], [], q_up ρ 32 2 p) K
  refine q_go1 200 0 [20] (fun cl ev hcl hev => ?_)
  show cl _ _ _ _
  refine hcl _ _ _ _ (u_peek t hp ?_)
  show cl _ _ _ _
  rw [ev_]
  refine hcl _ _ _ _ (c_A_within (fun g => ?_) (fun g => ?_))
  · refine And.intro (fun _ => ?_) (fun z => absurd (show (1 : Int) ≠ 0 by decide) z)
    have hq : p < n := by
      have g1 := g.1
      unfold u_pk at g1
      split at g1
      · assumption
      · omega
    refine hev _ ?_
    rw [ew, q_uu]
    unfold u_num at hK
    rw [if_pos g] at hK
    exact ul_num t hh _ _ _ _ _ (by omega) (by omega) (by omega) (by omega) hK
  · refine And.intro (fun z => absurd rfl z) (fun _ => ?_)
    unfold u_num at hK
    rw [if_neg g] at hK
    exact hK

theorem u_tv5 {lo hi : Int} {B : Int → Int} {n p : Int} {ρ : q_S} {K : q_R → q_S → Prop} (t : u_tp ρ B n) (hp : 0 ≤ p ∧ p ≤ n) (hl : 0 ≤ lo) (hh : 0 ≤ hi ∧ hi ≤ 999) (hK : K (some (0, (u_val B n [104, 32] lo hi p).1)) (q_up ρ 32 2 (u_val B n [104, 32] lo hi p).2)) : q_K L xs i_Tape_takeValue [(2, 32), (4, 5), (0, lo), (0, hi)] (q_up ρ 32 2 p) K := by
  have hi_ := u_ws_in (B := B) [104, 32] p (by decide) hp.1 hp.2
  refine q_call k_Tape_takeValue 4 rfl ?_
  show q_E L xs k_Tape_takeValue (0, [(2, 32), (4, 5), (0, lo), (0, hi)], [], q_up ρ 32 2 p) K
  refine q_go1 200 0 [] (fun cl ev hcl hev => ?_)
  show cl _ _ _ _
  refine hcl _ _ _ _ (u_ta5 t hp ?_)
  rcases u_ws_01 (B := B) (n := n) [104, 32] p with e | e
  · unfold u_val at hK
    rw [if_neg (by rw [e]; decide)] at hK
    rw [e]
    exact And.intro (fun _ => hK) (fun z => absurd rfl z)
  · unfold u_val at hK
    rw [if_pos e] at hK
    rw [e]
    refine And.intro (fun z => absurd z (show ¬ (1 : Int) = 0 by decide)) (fun _ => ?_)
    show cl _ _ _ _
    exact hcl _ _ _ _ (u_number t ⟨by omega, by omega⟩ hl hh hK)

theorem u_tv7 {lo hi : Int} {B : Int → Int} {n p : Int} {ρ : q_S} {K : q_R → q_S → Prop} (t : u_tp ρ B n) (hp : 0 ≤ p ∧ p ≤ n) (hl : 0 ≤ lo) (hh : 0 ≤ hi ∧ hi ≤ 999) (hK : K (some (0, (u_val B n [102, 32] lo hi p).1)) (q_up ρ 32 2 (u_val B n [102, 32] lo hi p).2)) : q_K L xs i_Tape_takeValue [(2, 32), (4, 7), (0, lo), (0, hi)] (q_up ρ 32 2 p) K := by
  have hi_ := u_ws_in (B := B) [102, 32] p (by decide) hp.1 hp.2
  refine q_call k_Tape_takeValue 4 rfl ?_
  show q_E L xs k_Tape_takeValue (0, [(2, 32), (4, 7), (0, lo), (0, hi)], [], q_up ρ 32 2 p) K
  refine q_go1 200 0 [] (fun cl ev hcl hev => ?_)
  show cl _ _ _ _
  refine hcl _ _ _ _ (u_ta7 t hp ?_)
  rcases u_ws_01 (B := B) (n := n) [102, 32] p with e | e
  · unfold u_val at hK
    rw [if_neg (by rw [e]; decide)] at hK
    rw [e]
    exact And.intro (fun _ => hK) (fun z => absurd rfl z)
  · unfold u_val at hK
    rw [if_pos e] at hK
    rw [e]
    refine And.intro (fun z => absurd z (show ¬ (1 : Int) = 0 by decide)) (fun _ => ?_)
    show cl _ _ _ _
    exact hcl _ _ _ _ (u_number t ⟨by omega, by omega⟩ hl hh hK)

theorem u_tv9 {lo hi : Int} {B : Int → Int} {n p : Int} {ρ : q_S} {K : q_R → q_S → Prop} (t : u_tp ρ B n) (hp : 0 ≤ p ∧ p ≤ n) (hl : 0 ≤ lo) (hh : 0 ≤ hi ∧ hi ≤ 999) (hK : K (some (0, (u_val B n [118, 32] lo hi p).1)) (q_up ρ 32 2 (u_val B n [118, 32] lo hi p).2)) : q_K L xs i_Tape_takeValue [(2, 32), (4, 9), (0, lo), (0, hi)] (q_up ρ 32 2 p) K := by
  have hi_ := u_ws_in (B := B) [118, 32] p (by decide) hp.1 hp.2
  refine q_call k_Tape_takeValue 4 rfl ?_
  show q_E L xs k_Tape_takeValue (0, [(2, 32), (4, 9), (0, lo), (0, hi)], [], q_up ρ 32 2 p) K
  refine q_go1 200 0 [] (fun cl ev hcl hev => ?_)
  show cl _ _ _ _
  refine hcl _ _ _ _ (u_ta9 t hp ?_)
  rcases u_ws_01 (B := B) (n := n) [118, 32] p with e | e
  · unfold u_val at hK
    rw [if_neg (by rw [e]; decide)] at hK
    rw [e]
    exact And.intro (fun _ => hK) (fun z => absurd rfl z)
  · unfold u_val at hK
    rw [if_pos e] at hK
    rw [e]
    refine And.intro (fun z => absurd z (show ¬ (1 : Int) = 0 by decide)) (fun _ => ?_)
    show cl _ _ _ _
    exact hcl _ _ _ _ (u_number t ⟨by omega, by omega⟩ hl hh hK)

theorem u_tv11 {lo hi : Int} {B : Int → Int} {n p : Int} {ρ : q_S} {K : q_R → q_S → Prop} (t : u_tp ρ B n) (hp : 0 ≤ p ∧ p ≤ n) (hl : 0 ≤ lo) (hh : 0 ≤ hi ∧ hi ≤ 999) (hK : K (some (0, (u_val B n [115, 32] lo hi p).1)) (q_up ρ 32 2 (u_val B n [115, 32] lo hi p).2)) : q_K L xs i_Tape_takeValue [(2, 32), (4, 11), (0, lo), (0, hi)] (q_up ρ 32 2 p) K := by
  have hi_ := u_ws_in (B := B) [115, 32] p (by decide) hp.1 hp.2
  refine q_call k_Tape_takeValue 4 rfl ?_
  show q_E L xs k_Tape_takeValue (0, [(2, 32), (4, 11), (0, lo), (0, hi)], [], q_up ρ 32 2 p) K
  refine q_go1 200 0 [] (fun cl ev hcl hev => ?_)
  show cl _ _ _ _
  refine hcl _ _ _ _ (u_ta11 t hp ?_)
  rcases u_ws_01 (B := B) (n := n) [115, 32] p with e | e
  · unfold u_val at hK
    rw [if_neg (by rw [e]; decide)] at hK
    rw [e]
    exact And.intro (fun _ => hK) (fun z => absurd rfl z)
  · unfold u_val at hK
    rw [if_pos e] at hK
    rw [e]
    refine And.intro (fun z => absurd z (show ¬ (1 : Int) = 0 by decide)) (fun _ => ?_)
    show cl _ _ _ _
    exact hcl _ _ _ _ (u_number t ⟨by omega, by omega⟩ hl hh hK)

theorem u_hows {B : Int → Int} {n p : Int} {ρ : q_S} {K : q_R → q_S → Prop} (t : u_tp ρ B n) (hp : 0 ≤ p ∧ p ≤ n) (hK : K (some (0, (u_how B n p).1)) (q_up ρ 32 2 (u_how B n p).2)) : q_K L xs i_Tape_takeHow [(2, 32)] (q_up ρ 32 2 p) K := by
  have i17 := u_ws_in (B := B) [111, 119, 110, 32] p (by decide) hp.1 hp.2
  refine q_call k_Tape_takeHow 1 rfl ?_
  show q_E L xs k_Tape_takeHow (0, [(2, 32)], [], q_up ρ 32 2 p) K
  refine q_go1 200 0 [] (fun cl ev hcl hev => ?_)
  show cl _ _ _ _
  refine hcl _ _ _ _ (u_peek t hp ?_)
  unfold u_how at hK
  refine And.intro (fun c1 => ?_) (fun c1 => ?_)
  · rw [if_neg (by omega), if_pos c1] at hK
    show cl _ _ _ _
    refine hcl _ _ _ _ (u_ta15 t hp ?_)
    rcases u_ws_01 (B := B) (n := n) [97, 99, 114, 101, 115] p with e | e
    · rw [if_neg (by rw [e]; decide)] at hK
      rw [e]
      exact And.intro (fun _ => hK) (fun z => absurd rfl z)
    · rw [if_pos e] at hK
      rw [e]
      exact And.intro (fun z => absurd z (show ¬ (1 : Int) = 0 by decide)) (fun _ => hK)
  · refine And.intro (fun c2 => ?_) (fun c2 => ?_)
    · rw [if_pos c2] at hK
      show cl _ _ _ _
      refine hcl _ _ _ _ (u_ta13 t hp ?_)
      rcases u_ws_01 (B := B) (n := n) [102, 114, 111, 110, 116] p with e | e
      · rw [if_neg (by rw [e]; decide)] at hK
        rw [e]
        exact And.intro (fun _ => hK) (fun z => absurd rfl z)
      · rw [if_pos e] at hK
        rw [e]
        exact And.intro (fun z => absurd z (show ¬ (1 : Int) = 0 by decide)) (fun _ => hK)
    · rw [if_neg c2, if_neg c1] at hK
      refine And.intro (fun c3 => ?_) (fun c3 => ?_)
      · rw [if_pos c3] at hK
        show cl _ _ _ _
        refine hcl _ _ _ _ (u_ta17 t hp ?_)
        unfold u_val at hK
        rcases u_ws_01 (B := B) (n := n) [111, 119, 110, 32] p with e | e
        · rw [if_neg (by rw [e]; decide)] at hK
          rw [e]
          exact And.intro (fun _ => hK) (fun z => absurd rfl z)
        · rw [if_pos e] at hK
          rw [e]
          refine And.intro (fun z => absurd z (show ¬ (1 : Int) = 0 by decide)) (fun _ => ?_)
          show cl _ _ _ _
          exact hcl _ _ _ _ (u_number t ⟨by omega, by omega⟩ (by decide) (by decide) hK)
      · rw [if_neg c3] at hK
        exact hK
theorem u_rin {B : Int → Int} {n p : Int} (h0 : 0 ≤ p) (h1 : p ≤ n) : (0 ≤ (u_num B n 0 23 p).2 ∧ (u_num B n 0 23 p).2 ≤ n) ∧ (-1 ≤ (u_num B n 0 23 p).1 ∧ (u_num B n 0 23 p).1 ≤ 23) := by
  have := u_num_in (B := B) (n := n) (lo := 0) (hi := 23) (p := p) (by decide) (by decide) h0 h1
  omega
theorem u_pks {B : Int → Int} {n p c : Int} (hc : 0 ≤ c) (e : u_pk B n p = c) : p < n := by
  unfold u_pk at e
  split at e
  · assumption
  · omega

theorem u_ad36 {f l h p : Int} {ρ : q_S} {K : q_R → q_S → Prop} (hr : 0 ≤ ρ 36 8 ∧ ρ 36 8 ≤ 10) (hK : K none (q_up (u_add ρ 36 f l h) 32 2 p)) : q_K L xs i_Custom_addRule [(2, 36), (0, f), (0, l), (0, h)] (q_up ρ 32 2 p) K := by
  have e8 : q_up ρ 32 2 p 36 8 = ρ 36 8 := q_un (by decide)
  have ew : q_w32 (ρ 36 8 + 1) = ρ 36 8 + 1 := by rw [q_w32_id] <;> omega
  refine q_call k_Custom_addRule 4 rfl ?_
  show q_E L xs k_Custom_addRule (0, [(2, 36), (0, f), (0, l), (0, h)], [], q_up ρ 32 2 p) K
  refine q_go1 100 0 [] (fun cl ev hcl hev => ?_)
  repeat' (first | refine And.intro ?_ ?_ | (intro hq; first | exact absurd hq (by decide) | exact absurd rfl hq | exact absurd hq (show ¬ (1 : Int) = 0 by decide) | exact absurd (show (1 : Int) ≠ 0 by decide) hq | skip))
  all_goals first
    | omega
    | (simp (disch := decide) only [q_un, q_ue]; omega)
    | (unfold u_add at hK; rw [if_pos (by omega)] at hK; exact hK)
    | (refine q_ks hK ?_; unfold u_add; rw [if_neg (by omega)]; simp (disch := decide) only [Int.reduceAdd, q_un, q_ue, e8, ew]; rw [u_mv (by decide), u_mv (by decide), u_mv (by decide), u_mv (by decide)])
theorem u_cr36 {p : Int} {ρ : q_S} {K : q_R → q_S → Prop} (hK : K none (q_up (u_clr ρ 36) 32 2 p)) : q_K L xs i_Custom_clear [(2, 36)] (q_up ρ 32 2 p) K := by
  refine q_call k_Custom_clear 1 rfl ?_
  show q_E L xs k_Custom_clear (0, [(2, 36)], [], q_up ρ 32 2 p) K
  refine q_go1 100 0 [] (fun cl ev hcl hev => ?_)
  refine q_ks hK ?_
  unfold u_clr
  rw [u_mv (by decide), u_mv (by decide), u_mv (by decide), u_mv (by decide), u_mv (by decide)]

theorem u_ad40 {f l h p : Int} {ρ : q_S} {K : q_R → q_S → Prop} (hr : 0 ≤ ρ 40 8 ∧ ρ 40 8 ≤ 10) (hK : K none (q_up (u_add ρ 40 f l h) 32 2 p)) : q_K L xs i_Custom_addRule [(2, 40), (0, f), (0, l), (0, h)] (q_up ρ 32 2 p) K := by
  have e8 : q_up ρ 32 2 p 40 8 = ρ 40 8 := q_un (by decide)
  have ew : q_w32 (ρ 40 8 + 1) = ρ 40 8 + 1 := by rw [q_w32_id] <;> omega
  refine q_call k_Custom_addRule 4 rfl ?_
  show q_E L xs k_Custom_addRule (0, [(2, 40), (0, f), (0, l), (0, h)], [], q_up ρ 32 2 p) K
  refine q_go1 100 0 [] (fun cl ev hcl hev => ?_)
  repeat' (first | refine And.intro ?_ ?_ | (intro hq; first | exact absurd hq (by decide) | exact absurd rfl hq | exact absurd hq (show ¬ (1 : Int) = 0 by decide) | exact absurd (show (1 : Int) ≠ 0 by decide) hq | skip))
  all_goals first
    | omega
    | (simp (disch := decide) only [q_un, q_ue]; omega)
    | (unfold u_add at hK; rw [if_pos (by omega)] at hK; exact hK)
    | (refine q_ks hK ?_; unfold u_add; rw [if_neg (by omega)]; simp (disch := decide) only [Int.reduceAdd, q_un, q_ue, e8, ew]; rw [u_mv (by decide), u_mv (by decide), u_mv (by decide), u_mv (by decide)])
theorem u_cr40 {p : Int} {ρ : q_S} {K : q_R → q_S → Prop} (hK : K none (q_up (u_clr ρ 40) 32 2 p)) : q_K L xs i_Custom_clear [(2, 40)] (q_up ρ 32 2 p) K := by
  refine q_call k_Custom_clear 1 rfl ?_
  show q_E L xs k_Custom_clear (0, [(2, 40)], [], q_up ρ 32 2 p) K
  refine q_go1 100 0 [] (fun cl ev hcl hev => ?_)
  refine q_ks hK ?_
  unfold u_clr
  rw [u_mv (by decide), u_mv (by decide), u_mv (by decide), u_mv (by decide), u_mv (by decide)]

theorem u_ad44 {f l h p : Int} {ρ : q_S} {K : q_R → q_S → Prop} (hr : 0 ≤ ρ 44 8 ∧ ρ 44 8 ≤ 10) (hK : K none (q_up (u_add ρ 44 f l h) 32 2 p)) : q_K L xs i_Custom_addRule [(2, 44), (0, f), (0, l), (0, h)] (q_up ρ 32 2 p) K := by
  have e8 : q_up ρ 32 2 p 44 8 = ρ 44 8 := q_un (by decide)
  have ew : q_w32 (ρ 44 8 + 1) = ρ 44 8 + 1 := by rw [q_w32_id] <;> omega
  refine q_call k_Custom_addRule 4 rfl ?_
  show q_E L xs k_Custom_addRule (0, [(2, 44), (0, f), (0, l), (0, h)], [], q_up ρ 32 2 p) K
  refine q_go1 100 0 [] (fun cl ev hcl hev => ?_)
  repeat' (first | refine And.intro ?_ ?_ | (intro hq; first | exact absurd hq (by decide) | exact absurd rfl hq | exact absurd hq (show ¬ (1 : Int) = 0 by decide) | exact absurd (show (1 : Int) ≠ 0 by decide) hq | skip))
  all_goals first
    | omega
    | (simp (disch := decide) only [q_un, q_ue]; omega)
    | (unfold u_add at hK; rw [if_pos (by omega)] at hK; exact hK)
    | (refine q_ks hK ?_; unfold u_add; rw [if_neg (by omega)]; simp (disch := decide) only [Int.reduceAdd, q_un, q_ue, e8, ew]; rw [u_mv (by decide), u_mv (by decide), u_mv (by decide), u_mv (by decide)])
theorem u_cr44 {p : Int} {ρ : q_S} {K : q_R → q_S → Prop} (hK : K none (q_up (u_clr ρ 44) 32 2 p)) : q_K L xs i_Custom_clear [(2, 44)] (q_up ρ 32 2 p) K := by
  refine q_call k_Custom_clear 1 rfl ?_
  show q_E L xs k_Custom_clear (0, [(2, 44)], [], q_up ρ 32 2 p) K
  refine q_go1 100 0 [] (fun cl ev hcl hev => ?_)
  refine q_ks hK ?_
  unfold u_clr
  rw [u_mv (by decide), u_mv (by decide), u_mv (by decide), u_mv (by decide), u_mv (by decide)]

theorem u_ad48 {f l h p : Int} {ρ : q_S} {K : q_R → q_S → Prop} (hr : 0 ≤ ρ 48 8 ∧ ρ 48 8 ≤ 10) (hK : K none (q_up (u_add ρ 48 f l h) 32 2 p)) : q_K L xs i_Custom_addRule [(2, 48), (0, f), (0, l), (0, h)] (q_up ρ 32 2 p) K := by
  have e8 : q_up ρ 32 2 p 48 8 = ρ 48 8 := q_un (by decide)
  have ew : q_w32 (ρ 48 8 + 1) = ρ 48 8 + 1 := by rw [q_w32_id] <;> omega
  refine q_call k_Custom_addRule 4 rfl ?_
  show q_E L xs k_Custom_addRule (0, [(2, 48), (0, f), (0, l), (0, h)], [], q_up ρ 32 2 p) K
  refine q_go1 100 0 [] (fun cl ev hcl hev => ?_)
  repeat' (first | refine And.intro ?_ ?_ | (intro hq; first | exact absurd hq (by decide) | exact absurd rfl hq | exact absurd hq (show ¬ (1 : Int) = 0 by decide) | exact absurd (show (1 : Int) ≠ 0 by decide) hq | skip))
  all_goals first
    | omega
    | (simp (disch := decide) only [q_un, q_ue]; omega)
    | (unfold u_add at hK; rw [if_pos (by omega)] at hK; exact hK)
    | (refine q_ks hK ?_; unfold u_add; rw [if_neg (by omega)]; simp (disch := decide) only [Int.reduceAdd, q_un, q_ue, e8, ew]; rw [u_mv (by decide), u_mv (by decide), u_mv (by decide), u_mv (by decide)])
theorem u_cr48 {p : Int} {ρ : q_S} {K : q_R → q_S → Prop} (hK : K none (q_up (u_clr ρ 48) 32 2 p)) : q_K L xs i_Custom_clear [(2, 48)] (q_up ρ 32 2 p) K := by
  refine q_call k_Custom_clear 1 rfl ?_
  show q_E L xs k_Custom_clear (0, [(2, 48)], [], q_up ρ 32 2 p) K
  refine q_go1 100 0 [] (fun cl ev hcl hev => ?_)
  refine q_ks hK ?_
  unfold u_clr
  rw [u_mv (by decide), u_mv (by decide), u_mv (by decide), u_mv (by decide), u_mv (by decide)]

theorem u_ad52 {f l h p : Int} {ρ : q_S} {K : q_R → q_S → Prop} (hr : 0 ≤ ρ 52 8 ∧ ρ 52 8 ≤ 10) (hK : K none (q_up (u_add ρ 52 f l h) 32 2 p)) : q_K L xs i_Custom_addRule [(2, 52), (0, f), (0, l), (0, h)] (q_up ρ 32 2 p) K := by
  have e8 : q_up ρ 32 2 p 52 8 = ρ 52 8 := q_un (by decide)
  have ew : q_w32 (ρ 52 8 + 1) = ρ 52 8 + 1 := by rw [q_w32_id] <;> omega
  refine q_call k_Custom_addRule 4 rfl ?_
  show q_E L xs k_Custom_addRule (0, [(2, 52), (0, f), (0, l), (0, h)], [], q_up ρ 32 2 p) K
  refine q_go1 100 0 [] (fun cl ev hcl hev => ?_)
  repeat' (first | refine And.intro ?_ ?_ | (intro hq; first | exact absurd hq (by decide) | exact absurd rfl hq | exact absurd hq (show ¬ (1 : Int) = 0 by decide) | exact absurd (show (1 : Int) ≠ 0 by decide) hq | skip))
  all_goals first
    | omega
    | (simp (disch := decide) only [q_un, q_ue]; omega)
    | (unfold u_add at hK; rw [if_pos (by omega)] at hK; exact hK)
    | (refine q_ks hK ?_; unfold u_add; rw [if_neg (by omega)]; simp (disch := decide) only [Int.reduceAdd, q_un, q_ue, e8, ew]; rw [u_mv (by decide), u_mv (by decide), u_mv (by decide), u_mv (by decide)])
theorem u_cr52 {p : Int} {ρ : q_S} {K : q_R → q_S → Prop} (hK : K none (q_up (u_clr ρ 52) 32 2 p)) : q_K L xs i_Custom_clear [(2, 52)] (q_up ρ 32 2 p) K := by
  refine q_call k_Custom_clear 1 rfl ?_
  show q_E L xs k_Custom_clear (0, [(2, 52)], [], q_up ρ 32 2 p) K
  refine q_go1 100 0 [] (fun cl ev hcl hev => ?_)
  refine q_ks hK ?_
  unfold u_clr
  rw [u_mv (by decide), u_mv (by decide), u_mv (by decide), u_mv (by decide), u_mv (by decide)]

theorem u_ad56 {f l h p : Int} {ρ : q_S} {K : q_R → q_S → Prop} (hr : 0 ≤ ρ 56 8 ∧ ρ 56 8 ≤ 10) (hK : K none (q_up (u_add ρ 56 f l h) 32 2 p)) : q_K L xs i_Custom_addRule [(2, 56), (0, f), (0, l), (0, h)] (q_up ρ 32 2 p) K := by
  have e8 : q_up ρ 32 2 p 56 8 = ρ 56 8 := q_un (by decide)
  have ew : q_w32 (ρ 56 8 + 1) = ρ 56 8 + 1 := by rw [q_w32_id] <;> omega
  refine q_call k_Custom_addRule 4 rfl ?_
  show q_E L xs k_Custom_addRule (0, [(2, 56), (0, f), (0, l), (0, h)], [], q_up ρ 32 2 p) K
  refine q_go1 100 0 [] (fun cl ev hcl hev => ?_)
  repeat' (first | refine And.intro ?_ ?_ | (intro hq; first | exact absurd hq (by decide) | exact absurd rfl hq | exact absurd hq (show ¬ (1 : Int) = 0 by decide) | exact absurd (show (1 : Int) ≠ 0 by decide) hq | skip))
  all_goals first
    | omega
    | (simp (disch := decide) only [q_un, q_ue]; omega)
    | (unfold u_add at hK; rw [if_pos (by omega)] at hK; exact hK)
    | (refine q_ks hK ?_; unfold u_add; rw [if_neg (by omega)]; simp (disch := decide) only [Int.reduceAdd, q_un, q_ue, e8, ew]; rw [u_mv (by decide), u_mv (by decide), u_mv (by decide), u_mv (by decide)])
theorem u_cr56 {p : Int} {ρ : q_S} {K : q_R → q_S → Prop} (hK : K none (q_up (u_clr ρ 56) 32 2 p)) : q_K L xs i_Custom_clear [(2, 56)] (q_up ρ 32 2 p) K := by
  refine q_call k_Custom_clear 1 rfl ?_
  show q_E L xs k_Custom_clear (0, [(2, 56)], [], q_up ρ 32 2 p) K
  refine q_go1 100 0 [] (fun cl ev hcl hev => ?_)
  refine q_ks hK ?_
  unfold u_clr
  rw [u_mv (by decide), u_mv (by decide), u_mv (by decide), u_mv (by decide), u_mv (by decide)]

theorem u_ad60 {f l h p : Int} {ρ : q_S} {K : q_R → q_S → Prop} (hr : 0 ≤ ρ 60 8 ∧ ρ 60 8 ≤ 10) (hK : K none (q_up (u_add ρ 60 f l h) 32 2 p)) : q_K L xs i_Custom_addRule [(2, 60), (0, f), (0, l), (0, h)] (q_up ρ 32 2 p) K := by
  have e8 : q_up ρ 32 2 p 60 8 = ρ 60 8 := q_un (by decide)
  have ew : q_w32 (ρ 60 8 + 1) = ρ 60 8 + 1 := by rw [q_w32_id] <;> omega
  refine q_call k_Custom_addRule 4 rfl ?_
  show q_E L xs k_Custom_addRule (0, [(2, 60), (0, f), (0, l), (0, h)], [], q_up ρ 32 2 p) K
  refine q_go1 100 0 [] (fun cl ev hcl hev => ?_)
  repeat' (first | refine And.intro ?_ ?_ | (intro hq; first | exact absurd hq (by decide) | exact absurd rfl hq | exact absurd hq (show ¬ (1 : Int) = 0 by decide) | exact absurd (show (1 : Int) ≠ 0 by decide) hq | skip))
  all_goals first
    | omega
    | (simp (disch := decide) only [q_un, q_ue]; omega)
    | (unfold u_add at hK; rw [if_pos (by omega)] at hK; exact hK)
    | (refine q_ks hK ?_; unfold u_add; rw [if_neg (by omega)]; simp (disch := decide) only [Int.reduceAdd, q_un, q_ue, e8, ew]; rw [u_mv (by decide), u_mv (by decide), u_mv (by decide), u_mv (by decide)])
theorem u_cr60 {p : Int} {ρ : q_S} {K : q_R → q_S → Prop} (hK : K none (q_up (u_clr ρ 60) 32 2 p)) : q_K L xs i_Custom_clear [(2, 60)] (q_up ρ 32 2 p) K := by
  refine q_call k_Custom_clear 1 rfl ?_
  show q_E L xs k_Custom_clear (0, [(2, 60)], [], q_up ρ 32 2 p) K
  refine q_go1 100 0 [] (fun cl ev hcl hev => ?_)
  refine q_ks hK ?_
  unfold u_clr
  rw [u_mv (by decide), u_mv (by decide), u_mv (by decide), u_mv (by decide), u_mv (by decide)]

theorem u_ad64 {f l h p : Int} {ρ : q_S} {K : q_R → q_S → Prop} (hr : 0 ≤ ρ 64 8 ∧ ρ 64 8 ≤ 10) (hK : K none (q_up (u_add ρ 64 f l h) 32 2 p)) : q_K L xs i_Custom_addRule [(2, 64), (0, f), (0, l), (0, h)] (q_up ρ 32 2 p) K := by
  have e8 : q_up ρ 32 2 p 64 8 = ρ 64 8 := q_un (by decide)
  have ew : q_w32 (ρ 64 8 + 1) = ρ 64 8 + 1 := by rw [q_w32_id] <;> omega
  refine q_call k_Custom_addRule 4 rfl ?_
  show q_E L xs k_Custom_addRule (0, [(2, 64), (0, f), (0, l), (0, h)], [], q_up ρ 32 2 p) K
  refine q_go1 100 0 [] (fun cl ev hcl hev => ?_)
  repeat' (first | refine And.intro ?_ ?_ | (intro hq; first | exact absurd hq (by decide) | exact absurd rfl hq | exact absurd hq (show ¬ (1 : Int) = 0 by decide) | exact absurd (show (1 : Int) ≠ 0 by decide) hq | skip))
  all_goals first
    | omega
    | (simp (disch := decide) only [q_un, q_ue]; omega)
    | (unfold u_add at hK; rw [if_pos (by omega)] at hK; exact hK)
    | (refine q_ks hK ?_; unfold u_add; rw [if_neg (by omega)]; simp (disch := decide) only [Int.reduceAdd, q_un, q_ue, e8, ew]; rw [u_mv (by decide), u_mv (by decide), u_mv (by decide), u_mv (by decide)])
theorem u_cr64 {p : Int} {ρ : q_S} {K : q_R → q_S → Prop} (hK : K none (q_up (u_clr ρ 64) 32 2 p)) : q_K L xs i_Custom_clear [(2, 64)] (q_up ρ 32 2 p) K := by
  refine q_call k_Custom_clear 1 rfl ?_
  show q_E L xs k_Custom_clear (0, [(2, 64)], [], q_up ρ 32 2 p) K
  refine q_go1 100 0 [] (fun cl ev hcl hev => ?_)
  refine q_ks hK ?_
  unfold u_clr
  rw [u_mv (by decide), u_mv (by decide), u_mv (by decide), u_mv (by decide), u_mv (by decide)]

theorem u_ad68 {f l h p : Int} {ρ : q_S} {K : q_R → q_S → Prop} (hr : 0 ≤ ρ 68 8 ∧ ρ 68 8 ≤ 10) (hK : K none (q_up (u_add ρ 68 f l h) 32 2 p)) : q_K L xs i_Custom_addRule [(2, 68), (0, f), (0, l), (0, h)] (q_up ρ 32 2 p) K := by
  have e8 : q_up ρ 32 2 p 68 8 = ρ 68 8 := q_un (by decide)
  have ew : q_w32 (ρ 68 8 + 1) = ρ 68 8 + 1 := by rw [q_w32_id] <;> omega
  refine q_call k_Custom_addRule 4 rfl ?_
  show q_E L xs k_Custom_addRule (0, [(2, 68), (0, f), (0, l), (0, h)], [], q_up ρ 32 2 p) K
  refine q_go1 100 0 [] (fun cl ev hcl hev => ?_)
  repeat' (first | refine And.intro ?_ ?_ | (intro hq; first | exact absurd hq (by decide) | exact absurd rfl hq | exact absurd hq (show ¬ (1 : Int) = 0 by decide) | exact absurd (show (1 : Int) ≠ 0 by decide) hq | skip))
  all_goals first
    | omega
    | (simp (disch := decide) only [q_un, q_ue]; omega)
    | (unfold u_add at hK; rw [if_pos (by omega)] at hK; exact hK)
    | (refine q_ks hK ?_; unfold u_add; rw [if_neg (by omega)]; simp (disch := decide) only [Int.reduceAdd, q_un, q_ue, e8, ew]; rw [u_mv (by decide), u_mv (by decide), u_mv (by decide), u_mv (by decide)])
theorem u_cr68 {p : Int} {ρ : q_S} {K : q_R → q_S → Prop} (hK : K none (q_up (u_clr ρ 68) 32 2 p)) : q_K L xs i_Custom_clear [(2, 68)] (q_up ρ 32 2 p) K := by
  refine q_call k_Custom_clear 1 rfl ?_
  show q_E L xs k_Custom_clear (0, [(2, 68)], [], q_up ρ 32 2 p) K
  refine q_go1 100 0 [] (fun cl ev hcl hev => ?_)
  refine q_ks hK ?_
  unfold u_clr
  rw [u_mv (by decide), u_mv (by decide), u_mv (by decide), u_mv (by decide), u_mv (by decide)]

theorem u_ad72 {f l h p : Int} {ρ : q_S} {K : q_R → q_S → Prop} (hr : 0 ≤ ρ 72 8 ∧ ρ 72 8 ≤ 10) (hK : K none (q_up (u_add ρ 72 f l h) 32 2 p)) : q_K L xs i_Custom_addRule [(2, 72), (0, f), (0, l), (0, h)] (q_up ρ 32 2 p) K := by
  have e8 : q_up ρ 32 2 p 72 8 = ρ 72 8 := q_un (by decide)
  have ew : q_w32 (ρ 72 8 + 1) = ρ 72 8 + 1 := by rw [q_w32_id] <;> omega
  refine q_call k_Custom_addRule 4 rfl ?_
  show q_E L xs k_Custom_addRule (0, [(2, 72), (0, f), (0, l), (0, h)], [], q_up ρ 32 2 p) K
  refine q_go1 100 0 [] (fun cl ev hcl hev => ?_)
  repeat' (first | refine And.intro ?_ ?_ | (intro hq; first | exact absurd hq (by decide) | exact absurd rfl hq | exact absurd hq (show ¬ (1 : Int) = 0 by decide) | exact absurd (show (1 : Int) ≠ 0 by decide) hq | skip))
  all_goals first
    | omega
    | (simp (disch := decide) only [q_un, q_ue]; omega)
    | (unfold u_add at hK; rw [if_pos (by omega)] at hK; exact hK)
    | (refine q_ks hK ?_; unfold u_add; rw [if_neg (by omega)]; simp (disch := decide) only [Int.reduceAdd, q_un, q_ue, e8, ew]; rw [u_mv (by decide), u_mv (by decide), u_mv (by decide), u_mv (by decide)])
theorem u_cr72 {p : Int} {ρ : q_S} {K : q_R → q_S → Prop} (hK : K none (q_up (u_clr ρ 72) 32 2 p)) : q_K L xs i_Custom_clear [(2, 72)] (q_up ρ 32 2 p) K := by
  refine q_call k_Custom_clear 1 rfl ?_
  show q_E L xs k_Custom_clear (0, [(2, 72)], [], q_up ρ 32 2 p) K
  refine q_go1 100 0 [] (fun cl ev hcl hev => ?_)
  refine q_ks hK ?_
  unfold u_clr
  rw [u_mv (by decide), u_mv (by decide), u_mv (by decide), u_mv (by decide), u_mv (by decide)]

theorem u_ad76 {f l h p : Int} {ρ : q_S} {K : q_R → q_S → Prop} (hr : 0 ≤ ρ 76 8 ∧ ρ 76 8 ≤ 10) (hK : K none (q_up (u_add ρ 76 f l h) 32 2 p)) : q_K L xs i_Custom_addRule [(2, 76), (0, f), (0, l), (0, h)] (q_up ρ 32 2 p) K := by
  have e8 : q_up ρ 32 2 p 76 8 = ρ 76 8 := q_un (by decide)
  have ew : q_w32 (ρ 76 8 + 1) = ρ 76 8 + 1 := by rw [q_w32_id] <;> omega
  refine q_call k_Custom_addRule 4 rfl ?_
  show q_E L xs k_Custom_addRule (0, [(2, 76), (0, f), (0, l), (0, h)], [], q_up ρ 32 2 p) K
  refine q_go1 100 0 [] (fun cl ev hcl hev => ?_)
  repeat' (first | refine And.intro ?_ ?_ | (intro hq; first | exact absurd hq (by decide) | exact absurd rfl hq | exact absurd hq (show ¬ (1 : Int) = 0 by decide) | exact absurd (show (1 : Int) ≠ 0 by decide) hq | skip))
  all_goals first
    | omega
    | (simp (disch := decide) only [q_un, q_ue]; omega)
    | (unfold u_add at hK; rw [if_pos (by omega)] at hK; exact hK)
    | (refine q_ks hK ?_; unfold u_add; rw [if_neg (by omega)]; simp (disch := decide) only [Int.reduceAdd, q_un, q_ue, e8, ew]; rw [u_mv (by decide), u_mv (by decide), u_mv (by decide), u_mv (by decide)])
theorem u_cr76 {p : Int} {ρ : q_S} {K : q_R → q_S → Prop} (hK : K none (q_up (u_clr ρ 76) 32 2 p)) : q_K L xs i_Custom_clear [(2, 76)] (q_up ρ 32 2 p) K := by
  refine q_call k_Custom_clear 1 rfl ?_
  show q_E L xs k_Custom_clear (0, [(2, 76)], [], q_up ρ 32 2 p) K
  refine q_go1 100 0 [] (fun cl ev hcl hev => ?_)
  refine q_ks hK ?_
  unfold u_clr
  rw [u_mv (by decide), u_mv (by decide), u_mv (by decide), u_mv (by decide), u_mv (by decide)]

theorem u_ad80 {f l h p : Int} {ρ : q_S} {K : q_R → q_S → Prop} (hr : 0 ≤ ρ 80 8 ∧ ρ 80 8 ≤ 10) (hK : K none (q_up (u_add ρ 80 f l h) 32 2 p)) : q_K L xs i_Custom_addRule [(2, 80), (0, f), (0, l), (0, h)] (q_up ρ 32 2 p) K := by
  have e8 : q_up ρ 32 2 p 80 8 = ρ 80 8 := q_un (by decide)
  have ew : q_w32 (ρ 80 8 + 1) = ρ 80 8 + 1 := by rw [q_w32_id] <;> omega
  refine q_call k_Custom_addRule 4 rfl ?_
  show q_E L xs k_Custom_addRule (0, [(2, 80), (0, f), (0, l), (0, h)], [], q_up ρ 32 2 p) K
  refine q_go1 100 0 [] (fun cl ev hcl hev => ?_)
  repeat' (first | refine And.intro ?_ ?_ | (intro hq; first | exact absurd hq (by decide) | exact absurd rfl hq | exact absurd hq (show ¬ (1 : Int) = 0 by decide) | exact absurd (show (1 : Int) ≠ 0 by decide) hq | skip))
  all_goals first
    | omega
    | (simp (disch := decide) only [q_un, q_ue]; omega)
    | (unfold u_add at hK; rw [if_pos (by omega)] at hK; exact hK)
    | (refine q_ks hK ?_; unfold u_add; rw [if_neg (by omega)]; simp (disch := decide) only [Int.reduceAdd, q_un, q_ue, e8, ew]; rw [u_mv (by decide), u_mv (by decide), u_mv (by decide), u_mv (by decide)])
theorem u_cr80 {p : Int} {ρ : q_S} {K : q_R → q_S → Prop} (hK : K none (q_up (u_clr ρ 80) 32 2 p)) : q_K L xs i_Custom_clear [(2, 80)] (q_up ρ 32 2 p) K := by
  refine q_call k_Custom_clear 1 rfl ?_
  show q_E L xs k_Custom_clear (0, [(2, 80)], [], q_up ρ 32 2 p) K
  refine q_go1 100 0 [] (fun cl ev hcl hev => ?_)
  refine q_ks hK ?_
  unfold u_clr
  rw [u_mv (by decide), u_mv (by decide), u_mv (by decide), u_mv (by decide), u_mv (by decide)]

theorem u_ad84 {f l h p : Int} {ρ : q_S} {K : q_R → q_S → Prop} (hr : 0 ≤ ρ 84 8 ∧ ρ 84 8 ≤ 10) (hK : K none (q_up (u_add ρ 84 f l h) 32 2 p)) : q_K L xs i_Custom_addRule [(2, 84), (0, f), (0, l), (0, h)] (q_up ρ 32 2 p) K := by
  have e8 : q_up ρ 32 2 p 84 8 = ρ 84 8 := q_un (by decide)
  have ew : q_w32 (ρ 84 8 + 1) = ρ 84 8 + 1 := by rw [q_w32_id] <;> omega
  refine q_call k_Custom_addRule 4 rfl ?_
  show q_E L xs k_Custom_addRule (0, [(2, 84), (0, f), (0, l), (0, h)], [], q_up ρ 32 2 p) K
  refine q_go1 100 0 [] (fun cl ev hcl hev => ?_)
  repeat' (first | refine And.intro ?_ ?_ | (intro hq; first | exact absurd hq (by decide) | exact absurd rfl hq | exact absurd hq (show ¬ (1 : Int) = 0 by decide) | exact absurd (show (1 : Int) ≠ 0 by decide) hq | skip))
  all_goals first
    | omega
    | (simp (disch := decide) only [q_un, q_ue]; omega)
    | (unfold u_add at hK; rw [if_pos (by omega)] at hK; exact hK)
    | (refine q_ks hK ?_; unfold u_add; rw [if_neg (by omega)]; simp (disch := decide) only [Int.reduceAdd, q_un, q_ue, e8, ew]; rw [u_mv (by decide), u_mv (by decide), u_mv (by decide), u_mv (by decide)])
theorem u_cr84 {p : Int} {ρ : q_S} {K : q_R → q_S → Prop} (hK : K none (q_up (u_clr ρ 84) 32 2 p)) : q_K L xs i_Custom_clear [(2, 84)] (q_up ρ 32 2 p) K := by
  refine q_call k_Custom_clear 1 rfl ?_
  show q_E L xs k_Custom_clear (0, [(2, 84)], [], q_up ρ 32 2 p) K
  refine q_go1 100 0 [] (fun cl ev hcl hev => ?_)
  refine q_ks hK ?_
  unfold u_clr
  rw [u_mv (by decide), u_mv (by decide), u_mv (by decide), u_mv (by decide), u_mv (by decide)]

theorem u_rules {q : Int} {B : Int → Int} {n p : Int} {ρ : q_S} {K : q_R → q_S → Prop} (t : u_tp ρ B n) (hp : 0 ≤ p ∧ p ≤ n) (hq : q_cu q) (hr : 0 ≤ ρ q 8 ∧ ρ q 8 ≤ 10) (hK : K (some (0, (u_rule B n q p ρ).1)) (q_up (u_rule B n q p ρ).2.2 32 2 (u_rule B n q p ρ).2.1)) : q_K L xs i_Tape_takeRule [(2, 32), (2, q)] (q_up ρ 32 2 p) K := by
  have r1 := u_rin (B := B) hp.1 hp.2
  refine q_call k_Tape_takeRule 5 rfl ?_
  show q_E L xs k_Tape_takeRule (0, [(2, 32), (2, q), (9, 0), (9, 0), (9, 0)], [], q_up ρ 32 2 p) K
  refine q_go1 200 0 [14, 28] (fun cl ev hcl hev => ?_)
  show cl _ _ _ _
  refine hcl _ _ _ _ (u_number t hp (by decide) (by decide) ?_)
  unfold u_rule at hK
  refine And.intro (fun c1 => ?_) (fun c1 => ?_)
  · rw [if_pos c1] at hK
    first | exact hK | exact And.intro (by omega) hK
  · rw [if_neg c1] at hK
    show cl _ _ _ _
    refine hcl _ _ _ _ (u_take t r1.1 (fun e => ?_) (fun e => ?_))
    · refine And.intro (fun _ => ?_) (fun z => absurd (show (1 : Int) ≠ 0 by decide) z)
      rw [if_neg (show ¬ u_pk B n (u_num B n 0 23 p).2 ≠ 45 from fun z => z e)] at hK
      have h45 := u_pks (by decide) e
      have r2 := u_rin (B := B) (n := n) (p := (u_num B n 0 23 p).2 + 1) (by omega) (by omega)
      refine hev _ ?_
      refine q_go1 200 14 [28] (fun cl ev hcl hev => ?_)
      show cl _ _ _ _
      refine hcl _ _ _ _ (u_number t ⟨by omega, by omega⟩ (by decide) (by decide) ?_)
      refine And.intro (fun c2 => ?_) (fun c2 => ?_)
      · rw [if_pos c2] at hK
        first | exact hK | exact And.intro (by omega) hK
      · rw [if_neg c2] at hK
        show cl _ _ _ _
        refine hcl _ _ _ _ (u_take t r2.1 (fun e2 => ?_) (fun e2 => ?_))
        · refine And.intro (fun _ => ?_) (fun z => absurd (show (1 : Int) ≠ 0 by decide) z)
          rw [if_neg (show ¬ u_pk B n (u_num B n 0 23 ((u_num B n 0 23 p).2 + 1)).2 ≠ 32 from fun z => z e2)] at hK
          have h32 := u_pks (by decide) e2
          refine hev _ ?_
          refine q_go1 200 28 [] (fun cl ev hcl hev => ?_)
          show cl _ _ _ _
          refine hcl _ _ _ _ (u_hows t ⟨by omega, by omega⟩ ?_)
          refine And.intro (fun c3 => ?_) (fun c3 => ?_)
          · rw [if_neg c3] at hK
            (unfold q_cu at hq; rcases hq with rfl | rfl | rfl | rfl | rfl | rfl | rfl | rfl | rfl | rfl | rfl | rfl | rfl)
            · show cl _ _ _ _
              refine hcl _ _ _ _ (u_ad36 hr ?_)
              first | exact hK | exact And.intro (by omega) hK
            · show cl _ _ _ _
              refine hcl _ _ _ _ (u_ad40 hr ?_)
              first | exact hK | exact And.intro (by omega) hK
            · show cl _ _ _ _
              refine hcl _ _ _ _ (u_ad44 hr ?_)
              first | exact hK | exact And.intro (by omega) hK
            · show cl _ _ _ _
              refine hcl _ _ _ _ (u_ad48 hr ?_)
              first | exact hK | exact And.intro (by omega) hK
            · show cl _ _ _ _
              refine hcl _ _ _ _ (u_ad52 hr ?_)
              first | exact hK | exact And.intro (by omega) hK
            · show cl _ _ _ _
              refine hcl _ _ _ _ (u_ad56 hr ?_)
              first | exact hK | exact And.intro (by omega) hK
            · show cl _ _ _ _
              refine hcl _ _ _ _ (u_ad60 hr ?_)
              first | exact hK | exact And.intro (by omega) hK
            · show cl _ _ _ _
              refine hcl _ _ _ _ (u_ad64 hr ?_)
              first | exact hK | exact And.intro (by omega) hK
            · show cl _ _ _ _
              refine hcl _ _ _ _ (u_ad68 hr ?_)
              first | exact hK | exact And.intro (by omega) hK
            · show cl _ _ _ _
              refine hcl _ _ _ _ (u_ad72 hr ?_)
              first | exact hK | exact And.intro (by omega) hK
            · show cl _ _ _ _
              refine hcl _ _ _ _ (u_ad76 hr ?_)
              first | exact hK | exact And.intro (by omega) hK
            · show cl _ _ _ _
              refine hcl _ _ _ _ (u_ad80 hr ?_)
              first | exact hK | exact And.intro (by omega) hK
            · show cl _ _ _ _
              refine hcl _ _ _ _ (u_ad84 hr ?_)
              first | exact hK | exact And.intro (by omega) hK
          · rw [if_pos (by omega)] at hK
            first | exact hK | exact And.intro (by omega) hK
        · refine And.intro (fun z => absurd rfl z) (fun _ => ?_)
          rw [if_pos e2] at hK
          first | exact hK | exact And.intro (by omega) hK
    · refine And.intro (fun z => absurd rfl z) (fun _ => ?_)
      rw [if_pos e] at hK
      first | exact hK | exact And.intro (by omega) hK
end V2

