/-! THE READER, EXACT: B the bytes, n how many, p the place -/
def u_pk (B : Int → Int) (n p : Int) : Int := if p < n then B p else -1
/-- the signs of a list: whether they stand there (1), and the place behind the last that does -/
def u_wrd (B : Int → Int) (n : Int) : List Int → Int → Int × Int
  | [], p => (1, p)
  | c :: l, p => if u_pk B n p = c then u_wrd B n l (p + 1) else (0, p)
/-- further digits -/
def u_nl (B : Int → Int) (n hi : Int) : Nat → Int → Int → Int × Int
  | 0, v, p => (v, p)
  | f + 1, v, p => if p < n ∧ 0 < v then (if 48 ≤ B p ∧ B p ≤ 57 then (if hi < 10 * v + (B p - 48) then (-1, p) else u_nl B n hi f (10 * v + (B p - 48)) (p + 1)) else (v, p)) else (v, p)
def u_num (B : Int → Int) (n lo hi p : Int) : Int × Int := if lo ≤ u_pk B n p - 48 ∧ u_pk B n p - 48 ≤ min 9 hi then u_nl B n hi (n - (p + 1)).toNat (u_pk B n p - 48) (p + 1) else (-1, p)
def u_val (B : Int → Int) (n : Int) (l : List Int) (lo hi p : Int) : Int × Int := if (u_wrd B n l p).1 = 1 then u_num B n lo hi (u_wrd B n l p).2 else (-1, (u_wrd B n l p).2)
def u_how (B : Int → Int) (n p : Int) : Int × Int :=
  if u_pk B n p = 102 then (if (u_wrd B n [102, 114, 111, 110, 116] p).1 = 1 then 8 else -1, (u_wrd B n [102, 114, 111, 110, 116] p).2)
  else if u_pk B n p = 97 then (if (u_wrd B n [97, 99, 114, 101, 115] p).1 = 1 then 9 else -1, (u_wrd B n [97, 99, 114, 101, 115] p).2)
  else if u_pk B n p = 111 then u_val B n [111, 119, 110, 32] 0 7 p
  else (-1, p)
/-- a rule more -/
def u_add (ρ : q_S) (q f l h : Int) : q_S := if 10 ≤ ρ q 8 then ρ else q_up (q_up (q_up (q_up ρ (q + 1) (ρ q 8) f) (q + 2) (ρ q 8) l) (q + 3) (ρ q 8) h) q 8 (ρ q 8 + 1)
def u_rule (B : Int → Int) (n q p : Int) (ρ : q_S) : Int × Int × q_S :=
  if (u_num B n 0 23 p).1 = -1 then (0, (u_num B n 0 23 p).2, ρ)
  else if u_pk B n (u_num B n 0 23 p).2 ≠ 45 then (0, (u_num B n 0 23 p).2, ρ)
  else if (u_num B n 0 23 ((u_num B n 0 23 p).2 + 1)).1 = -1 then (0, (u_num B n 0 23 ((u_num B n 0 23 p).2 + 1)).2, ρ)
  else if u_pk B n (u_num B n 0 23 ((u_num B n 0 23 p).2 + 1)).2 ≠ 32 then (0, (u_num B n 0 23 ((u_num B n 0 23 p).2 + 1)).2, ρ)
  else if (u_how B n ((u_num B n 0 23 ((u_num B n 0 23 p).2 + 1)).2 + 1)).1 = -1 then (0, (u_how B n ((u_num B n 0 23 ((u_num B n 0 23 p).2 + 1)).2 + 1)).2, ρ)
  else (1, (u_how B n ((u_num B n 0 23 ((u_num B n 0 23 p).2 + 1)).2 + 1)).2, u_add ρ q (u_num B n 0 23 p).1 (u_num B n 0 23 ((u_num B n 0 23 p).2 + 1)).1 (u_how B n ((u_num B n 0 23 ((u_num B n 0 23 p).2 + 1)).2 + 1)).1)
def u_v (B : Int → Int) (n q i : Int) (l : List Int) (lo hi p : Int) (ρ : q_S) : Int × Int × q_S := (if (u_val B n l lo hi p).1 = -1 then 0 else 1, (u_val B n l lo hi p).2, q_up ρ q i (u_val B n l lo hi p).1)
def u_cl (B : Int → Int) (n q p : Int) (ρ : q_S) : Int × Int × q_S :=
  if u_pk B n p = 114 then (if (u_wrd B n [114, 32] p).1 = 1 then u_rule B n q (u_wrd B n [114, 32] p).2 ρ else (0, (u_wrd B n [114, 32] p).2, ρ))
  else if u_pk B n p = 104 then u_v B n q 1 [104, 32] 0 99 p ρ
  else if u_pk B n p = 102 then u_v B n q 2 [102, 32] 0 999 p ρ
  else if u_pk B n p = 118 then u_v B n q 3 [118, 32] 1 99 p ρ
  else if u_pk B n p = 115 then u_v B n q 4 [115, 32] 0 999 p ρ
  else (0, p, ρ)
/-- k clauses at most from here; a clause stands at p -/
def u_rd (B : Int → Int) (n q : Int) : Nat → Int → q_S → Int × Int × q_S
  | 0, p, ρ => (0, p, ρ)
  | k + 1, p, ρ => if (u_cl B n q p ρ).1 = 0 then (0, (u_cl B n q p ρ).2.1, (u_cl B n q p ρ).2.2)
    else if n ≤ (u_cl B n q p ρ).2.1 then (1, (u_cl B n q p ρ).2.1, (u_cl B n q p ρ).2.2)
    else if k = 0 ∨ B (u_cl B n q p ρ).2.1 ≠ 59 then (0, (u_cl B n q p ρ).2.1, (u_cl B n q p ρ).2.2)
    else u_rd B n q k ((u_cl B n q p ρ).2.1 + 1) (u_cl B n q p ρ).2.2
def u_clr (ρ : q_S) (q : Int) : q_S := q_up (q_up (q_up (q_up (q_up ρ q 1 0) q 2 0) q 3 99) q 4 0) q 8 0
/-- the place stays within the bytes -/
theorem u_ws_in {B : Int → Int} {n : Int} : ∀ (l : List Int) (p : Int), (∀ c ∈ l, 0 ≤ c) → 0 ≤ p → p ≤ n → p ≤ (u_wrd B n l p).2 ∧ (u_wrd B n l p).2 ≤ n
  | [], p, _, h0, h1 => by unfold u_wrd; exact ⟨Int.le_refl _, h1⟩
  | c :: l, p, hl, h0, h1 => by
    unfold u_wrd
    split
    · rename_i e
      have hc := hl c (List.mem_cons_self ..)
      have hp : p < n := by
        unfold u_pk at e
        split at e
        · assumption
        · omega
      have ih := u_ws_in (B := B) (n := n) l (p + 1) (fun c hc => hl c (List.mem_cons_of_mem _ hc)) (by omega) (by omega)
      exact ⟨by omega, ih.2⟩
    · exact ⟨Int.le_refl _, h1⟩
theorem u_nl_in {B : Int → Int} {n hi : Int} : ∀ (f : Nat) (v p : Int), 0 ≤ p → p ≤ n → 0 ≤ v → v ≤ hi → p ≤ (u_nl B n hi f v p).2 ∧ (u_nl B n hi f v p).2 ≤ n ∧ -1 ≤ (u_nl B n hi f v p).1 ∧ (u_nl B n hi f v p).1 ≤ hi
  | 0, v, p, h0, h1, h2, h3 => by unfold u_nl; exact ⟨Int.le_refl _, h1, by omega, h3⟩
  | f + 1, v, p, h0, h1, h2, h3 => by
    unfold u_nl
    split
    · split
      · split
        · exact ⟨Int.le_refl _, h1, by omega, by omega⟩
        · have := u_nl_in (B := B) (n := n) (hi := hi) f (10 * v + (B p - 48)) (p + 1) (by omega) (by omega) (by omega) (by omega)
          exact ⟨by omega, this.2.1, this.2.2⟩
      · exact ⟨Int.le_refl _, h1, by omega, h3⟩
    · exact ⟨Int.le_refl _, h1, by omega, h3⟩
theorem u_num_in {B : Int → Int} {n lo hi p : Int} (hl : 0 ≤ lo) (hh : 0 ≤ hi) (h0 : 0 ≤ p) (h1 : p ≤ n) : p ≤ (u_num B n lo hi p).2 ∧ (u_num B n lo hi p).2 ≤ n ∧ -1 ≤ (u_num B n lo hi p).1 ∧ (u_num B n lo hi p).1 ≤ hi := by
  unfold u_num
  split
  · rename_i g
    have hp : p < n := by
      unfold u_pk at g
      split at g
      · assumption
      · omega
    have := u_nl_in (B := B) (n := n) (hi := hi) (n - (p + 1)).toNat (u_pk B n p - 48) (p + 1) (by omega) (by omega) (by omega) (by omega)
    exact ⟨by omega, this.2.1, this.2.2⟩
  · exact ⟨Int.le_refl _, h1, by omega, by omega⟩
/-- the tape: bytes, how many -/
def u_tp (ρ : q_S) (B : Int → Int) (n : Int) : Prop := (∀ i, ρ 33 i = B i) ∧ ρ 32 1 = n ∧ 0 ≤ n ∧ n ≤ 160 ∧ (∀ i, 0 ≤ B i ∧ B i ≤ 255)
section V1
variable {L : Nat} {xs : Int → Int}
theorem u_peek {B : Int → Int} {n p : Int} {ρ : q_S} {K : q_R → q_S → Prop} (t : u_tp ρ B n) (hp : 0 ≤ p ∧ p ≤ n) (hK : K (some (0, u_pk B n p)) (q_up ρ 32 2 p)) : q_K L xs i_Tape_peek [(2, 32)] (q_up ρ 32 2 p) K := by
  obtain ⟨tB, tn, n0, n1, t4⟩ := t
  have e2 : q_up ρ 32 2 p 32 2 = p := q_ue
  have e1 : q_up ρ 32 2 p 32 1 = n := (q_ui (by decide)).trans tn
  have e3 : ∀ i, q_up ρ 32 2 p 33 i = B i := fun i => (q_un (by decide)).trans (tB i)
  refine q_call k_Tape_peek 1 rfl ?_
  show q_E L xs k_Tape_peek (0, [(2, 32)], [], q_up ρ 32 2 p) K
  refine q_go1 100 0 [] (fun cl ev hcl hev => ?_)
  repeat' (first | refine And.intro ?_ ?_ | (intro hq; first | exact absurd hq (by decide) | exact absurd rfl hq | exact absurd hq (show ¬ (1 : Int) = 0 by decide) | exact absurd (show (1 : Int) ≠ 0 by decide) hq | skip))
  all_goals first
    | omega
    | (unfold u_pk at hK; rw [if_neg (by omega)] at hK; exact hK)
    | (unfold u_pk at hK; rw [if_pos (by omega)] at hK; rw [e2, e3]; exact hK)
theorem u_take {B : Int → Int} {n p c : Int} {ρ : q_S} {K : q_R → q_S → Prop} (t : u_tp ρ B n) (hp : 0 ≤ p ∧ p ≤ n) (h1 : u_pk B n p = c → K (some (0, 1)) (q_up ρ 32 2 (p + 1))) (h0 : u_pk B n p ≠ c → K (some (0, 0)) (q_up ρ 32 2 p)) : q_K L xs i_Tape_take [(2, 32), (0, c)] (q_up ρ 32 2 p) K := by
  have tn : 0 ≤ n ∧ n ≤ 160 := ⟨t.2.2.1, t.2.2.2.1⟩
  have e2 : q_up ρ 32 2 p 32 2 = p := q_ue
  have ew : q_w32 (q_up ρ 32 2 p 32 2 + 1) = p + 1 := by rw [e2, q_w32_id] <;> omega
  refine q_call k_Tape_take 2 rfl ?_
  show q_E L xs k_Tape_take (0, [(2, 32), (0, c)], [], q_up ρ 32 2 p) K
  refine q_go1 100 0 [] (fun cl ev hcl hev => ?_)
  show cl _ _ _ _
  refine hcl _ _ _ _ (u_peek t hp ?_)
  refine And.intro (fun g => ?_) (fun g => h0 g)
  show K (some (0, 1)) (q_up (q_up ρ 32 2 p) 32 2 (q_w32 (q_up ρ 32 2 p 32 2 + 1)))
  rw [ew, q_uu]
  exact h1 g
theorem ul_ta3_2 {B : Int → Int} {n p : Int} {ρ : q_S} {K : q_R → q_S → Prop} (t : u_tp ρ B n) (hp : 0 ≤ p ∧ p ≤ n) (hK : K (some (0, (u_wrd B n [] p).1)) (q_up ρ 32 2 (u_wrd B n [] p).2)) : q_E L xs k_Tape_takeAll (2, [(2, 32), (4, 3), (0, 2)], [], q_up ρ 32 2 p) K := by
  refine q_go1 100 2 [2] (fun cl ev hcl hev => ?_)
  show cl _ _ _ _
  refine hcl _ _ _ _ (c_len3 ?_)
  exact And.intro (fun _ => hK) (fun z => absurd (show (2 : Int) ≥ 2 by decide) z)
theorem ul_ta3_1 {B : Int → Int} {n p : Int} {ρ : q_S} {K : q_R → q_S → Prop} (t : u_tp ρ B n) (hp : 0 ≤ p ∧ p ≤ n) (hK : K (some (0, (u_wrd B n [32] p).1)) (q_up ρ 32 2 (u_wrd B n [32] p).2)) : q_E L xs k_Tape_takeAll (2, [(2, 32), (4, 3), (0, 1)], [], q_up ρ 32 2 p) K := by
  refine q_go1 100 2 [2] (fun cl ev hcl hev => ?_)
  show cl _ _ _ _
  refine hcl _ _ _ _ (c_len3 ?_)
  refine And.intro (fun z => absurd z (show ¬ (1 : Int) ≥ 2 by decide)) (fun _ => ?_)
  show cl _ _ _ _
  refine hcl _ _ _ _ (c_cha3 (by decide) ?_)
  show cl _ _ _ _
  refine hcl _ _ _ _ (u_take (c := 32) t hp (fun e => ?_) (fun e => ?_))
  · refine And.intro (fun _ => ?_) (fun z => absurd (show (1 : Int) ≠ 0 by decide) z)
    have hq : p + 1 ≤ n := by unfold u_pk at e; split at e <;> omega
    refine hev _ (ul_ta3_2 t ⟨by omega, hq⟩ ?_)
    unfold u_wrd at hK
    rw [if_pos e] at hK
    exact hK
  · refine And.intro (fun z => absurd rfl z) (fun _ => ?_)
    unfold u_wrd at hK
    rw [if_neg e] at hK
    exact hK
theorem ul_ta3_0 {B : Int → Int} {n p : Int} {ρ : q_S} {K : q_R → q_S → Prop} (t : u_tp ρ B n) (hp : 0 ≤ p ∧ p ≤ n) (hK : K (some (0, (u_wrd B n [114, 32] p).1)) (q_up ρ 32 2 (u_wrd B n [114, 32] p).2)) : q_E L xs k_Tape_takeAll (2, [(2, 32), (4, 3), (0, 0)], [], q_up ρ 32 2 p) K := by
  refine q_go1 100 2 [2] (fun cl ev hcl hev => ?_)
  show cl _ _ _ _
  refine hcl _ _ _ _ (c_len3 ?_)
  refine And.intro (fun z => absurd z (show ¬ (0 : Int) ≥ 2 by decide)) (fun _ => ?_)
  show cl _ _ _ _
  refine hcl _ _ _ _ (c_cha3 (by decide) ?_)
  show cl _ _ _ _
  refine hcl _ _ _ _ (u_take (c := 114) t hp (fun e => ?_) (fun e => ?_))
  · refine And.intro (fun _ => ?_) (fun z => absurd (show (1 : Int) ≠ 0 by decide) z)
    have hq : p + 1 ≤ n := by unfold u_pk at e; split at e <;> omega
    refine hev _ (ul_ta3_1 t ⟨by omega, hq⟩ ?_)
    unfold u_wrd at hK
    rw [if_pos e] at hK
    exact hK
  · refine And.intro (fun z => absurd rfl z) (fun _ => ?_)
    unfold u_wrd at hK
    rw [if_neg e] at hK
    exact hK
theorem u_ta3 {B : Int → Int} {n p : Int} {ρ : q_S} {K : q_R → q_S → Prop} (t : u_tp ρ B n) (hp : 0 ≤ p ∧ p ≤ n) (hK : K (some (0, (u_wrd B n [114, 32] p).1)) (q_up ρ 32 2 (u_wrd B n [114, 32] p).2)) : q_K L xs i_Tape_takeAll [(2, 32), (4, 3)] (q_up ρ 32 2 p) K := by
  refine q_call k_Tape_takeAll 3 rfl ?_
  show q_E L xs k_Tape_takeAll (0, [(2, 32), (4, 3), (9, 0)], [], q_up ρ 32 2 p) K
  refine q_go1 100 0 [2] (fun cl ev hcl hev => ?_)
  exact hev _ (ul_ta3_0 t hp hK)
theorem ul_ta5_2 {B : Int → Int} {n p : Int} {ρ : q_S} {K : q_R → q_S → Prop} (t : u_tp ρ B n) (hp : 0 ≤ p ∧ p ≤ n) (hK : K (some (0, (u_wrd B n [] p).1)) (q_up ρ 32 2 (u_wrd B n [] p).2)) : q_E L xs k_Tape_takeAll (2, [(2, 32), (4, 5), (0, 2)], [], q_up ρ 32 2 p) K := by
  refine q_go1 100 2 [2] (fun cl ev hcl hev => ?_)
  show cl _ _ _ _
  refine hcl _ _ _ _ (c_len5 ?_)
  exact And.intro (fun _ => hK) (fun z => absurd (show (2 : Int) ≥ 2 by decide) z)
theorem ul_ta5_1 {B : Int → Int} {n p : Int} {ρ : q_S} {K : q_R → q_S → Prop} (t : u_tp ρ B n) (hp : 0 ≤ p ∧ p ≤ n) (hK : K (some (0, (u_wrd B n [32] p).1)) (q_up ρ 32 2 (u_wrd B n [32] p).2)) : q_E L xs k_Tape_takeAll (2, [(2, 32), (4, 5), (0, 1)], [], q_up ρ 32 2 p) K := by
  refine q_go1 100 2 [2] (fun cl ev hcl hev => ?_)
  show cl _ _ _ _
  refine hcl _ _ _ _ (c_len5 ?_)
  refine And.intro (fun z => absurd z (show ¬ (1 : Int) ≥ 2 by decide)) (fun _ => ?_)
  show cl _ _ _ _
  refine hcl _ _ _ _ (c_cha5 (by decide) ?_)
  show cl _ _ _ _
  refine hcl _ _ _ _ (u_take (c := 32) t hp (fun e => ?_) (fun e => ?_))
  · refine And.intro (fun _ => ?_) (fun z => absurd (show (1 : Int) ≠ 0 by decide) z)
    have hq : p + 1 ≤ n := by unfold u_pk at e; split at e <;> omega
    refine hev _ (ul_ta5_2 t ⟨by omega, hq⟩ ?_)
    unfold u_wrd at hK
    rw [if_pos e] at hK
    exact hK
  · refine And.intro (fun z => absurd rfl z) (fun _ => ?_)
    unfold u_wrd at hK
    rw [if_neg e] at hK
    exact hK
theorem ul_ta5_0 {B : Int → Int} {n p : Int} {ρ : q_S} {K : q_R → q_S → Prop} (t : u_tp ρ B n) (hp : 0 ≤ p ∧ p ≤ n) (hK : K (some (0, (u_wrd B n [104, 32] p).1)) (q_up ρ 32 2 (u_wrd B n [104, 32] p).2)) : q_E L xs k_Tape_takeAll (2, [(2, 32), (4, 5), (0, 0)], [], q_up ρ 32 2 p) K := by
  refine q_go1 100 2 [2] (fun cl ev hcl hev => ?_)
  show cl _ _ _ _
  refine hcl _ _ _ _ (c_len5 ?_)
  refine And.intro (fun z => absurd z (show ¬ (0 : Int) ≥ 2 by decide)) (fun _ => ?_)
  show cl _ _ _ _
  refine hcl _ _ _ _ (c_cha5 (by decide) ?_)
  show cl _ _ _ _
  refine hcl _ _ _ _ (u_take (c := 104) t hp (fun e => ?_) (fun e => ?_))
  · refine And.intro (fun _ => ?_) (fun z => absurd (show (1 : Int) ≠ 0 by decide) z)
    have hq : p + 1 ≤ n := by unfold u_pk at e; split at e <;> omega
    refine hev _ (ul_ta5_1 t ⟨by omega, hq⟩ ?_)
    unfold u_wrd at hK
    rw [if_pos e] at hK
    exact hK
  · refine And.intro (fun z => absurd rfl z) (fun _ => ?_)
    unfold u_wrd at hK
    rw [if_neg e] at hK
    exact hK
theorem u_ta5 {B : Int → Int} {n p : Int} {ρ : q_S} {K : q_R → q_S → Prop} (t : u_tp ρ B n) (hp : 0 ≤ p ∧ p ≤ n) (hK : K (some (0, (u_wrd B n [104, 32] p).1)) (q_up ρ 32 2 (u_wrd B n [104, 32] p).2)) : q_K L xs i_Tape_takeAll [(2, 32), (4, 5)] (q_up ρ 32 2 p) K := by
  refine q_call k_Tape_takeAll 3 rfl ?_
  show q_E L xs k_Tape_takeAll (0, [(2, 32), (4, 5), (9, 0)], [], q_up ρ 32 2 p) K
  refine q_go1 100 0 [2] (fun cl ev hcl hev => ?_)
  exact hev _ (ul_ta5_0 t hp hK)
theorem ul_ta7_2 {B : Int → Int} {n p : Int} {ρ : q_S} {K : q_R → q_S → Prop} (t : u_tp ρ B n) (hp : 0 ≤ p ∧ p ≤ n) (hK : K (some (0, (u_wrd B n [] p).1)) (q_up ρ 32 2 (u_wrd B n [] p).2)) : q_E L xs k_Tape_takeAll (2, [(2, 32), (4, 7), (0, 2)], [], q_up ρ 32 2 p) K := by
  refine q_go1 100 2 [2] (fun cl ev hcl hev => ?_)
  show cl _ _ _ _
  refine hcl _ _ _ _ (c_len7 ?_)
  exact And.intro (fun _ => hK) (fun z => absurd (show (2 : Int) ≥ 2 by decide) z)
theorem ul_ta7_1 {B : Int → Int} {n p : Int} {ρ : q_S} {K : q_R → q_S → Prop} (t : u_tp ρ B n) (hp : 0 ≤ p ∧ p ≤ n) (hK : K (some (0, (u_wrd B n [32] p).1)) (q_up ρ 32 2 (u_wrd B n [32] p).2)) : q_E L xs k_Tape_takeAll (2, [(2, 32), (4, 7), (0, 1)], [], q_up ρ 32 2 p) K := by
  refine q_go1 100 2 [2] (fun cl ev hcl hev => ?_)
  show cl _ _ _ _
  refine hcl _ _ _ _ (c_len7 ?_)
  refine And.intro (fun z => absurd z (show ¬ (1 : Int) ≥ 2 by decide)) (fun _ => ?_)
  show cl _ _ _ _
  refine hcl _ _ _ _ (c_cha7 (by decide) ?_)
  show cl _ _ _ _
  refine hcl _ _ _ _ (u_take (c := 32) t hp (fun e => ?_) (fun e => ?_))
  · refine And.intro (fun _ => ?_) (fun z => absurd (show (1 : Int) ≠ 0 by decide) z)
    have hq : p + 1 ≤ n := by unfold u_pk at e; split at e <;> omega
    refine hev _ (ul_ta7_2 t ⟨by omega, hq⟩ ?_)
    unfold u_wrd at hK
    rw [if_pos e] at hK
    exact hK
  · refine And.intro (fun z => absurd rfl z) (fun _ => ?_)
    unfold u_wrd at hK
    rw [if_neg e] at hK
    exact hK
theorem ul_ta7_0 {B : Int → Int} {n p : Int} {ρ : q_S} {K : q_R → q_S → Prop} (t : u_tp ρ B n) (hp : 0 ≤ p ∧ p ≤ n) (hK : K (some (0, (u_wrd B n [102, 32] p).1)) (q_up ρ 32 2 (u_wrd B n [102, 32] p).2)) : q_E L xs k_Tape_takeAll (2, [(2, 32), (4, 7), (0, 0)], [], q_up ρ 32 2 p) K := by
  refine q_go1 100 2 [2] (fun cl ev hcl hev => ?_)
  show cl _ _ _ _
  refine hcl _ _ _ _ (c_len7 ?_)
  refine And.intro (fun z => absurd z (show ¬ (0 : Int) ≥ 2 by decide)) (fun _ => ?_)
  show cl _ _ _ _
  refine hcl _ _ _ _ (c_cha7 (by decide) ?_)
  show cl _ _ _ _
  refine hcl _ _ _ _ (u_take (c := 102) t hp (fun e => ?_) (fun e => ?_))
  · refine And.intro (fun _ => ?_) (fun z => absurd (show (1 : Int) ≠ 0 by decide) z)
    have hq : p + 1 ≤ n := by unfold u_pk at e; split at e <;> omega
    refine hev _ (ul_ta7_1 t ⟨by omega, hq⟩ ?_)
    unfold u_wrd at hK
    rw [if_pos e] at hK
    exact hK
  · refine And.intro (fun z => absurd rfl z) (fun _ => ?_)
    unfold u_wrd at hK
    rw [if_neg e] at hK
    exact hK
theorem u_ta7 {B : Int → Int} {n p : Int} {ρ : q_S} {K : q_R → q_S → Prop} (t : u_tp ρ B n) (hp : 0 ≤ p ∧ p ≤ n) (hK : K (some (0, (u_wrd B n [102, 32] p).1)) (q_up ρ 32 2 (u_wrd B n [102, 32] p).2)) : q_K L xs i_Tape_takeAll [(2, 32), (4, 7)] (q_up ρ 32 2 p) K := by
  refine q_call k_Tape_takeAll 3 rfl ?_
  show q_E L xs k_Tape_takeAll (0, [(2, 32), (4, 7), (9, 0)], [], q_up ρ 32 2 p) K
  refine q_go1 100 0 [2] (fun cl ev hcl hev => ?_)
  exact hev _ (ul_ta7_0 t hp hK)
theorem ul_ta9_2 {B : Int → Int} {n p : Int} {ρ : q_S} {K : q_R → q_S → Prop} (t : u_tp ρ B n) (hp : 0 ≤ p ∧ p ≤ n) (hK : K (some (0, (u_wrd B n [] p).1)) (q_up ρ 32 2 (u_wrd B n [] p).2)) : q_E L xs k_Tape_takeAll (2, [(2, 32), (4, 9), (0, 2)], [], q_up ρ 32 2 p) K := by
  refine q_go1 100 2 [2] (fun cl ev hcl hev => ?_)
  show cl _ _ _ _
  refine hcl _ _ _ _ (c_len9 ?_)
  exact And.intro (fun _ => hK) (fun z => absurd (show (2 : Int) ≥ 2 by decide) z)
theorem ul_ta9_1 {B : Int → Int} {n p : Int} {ρ : q_S} {K : q_R → q_S → Prop} (t : u_tp ρ B n) (hp : 0 ≤ p ∧ p ≤ n) (hK : K (some (0, (u_wrd B n [32] p).1)) (q_up ρ 32 2 (u_wrd B n [32] p).2)) : q_E L xs k_Tape_takeAll (2, [(2, 32), (4, 9), (0, 1)], [], q_up ρ 32 2 p) K := by
  refine q_go1 100 2 [2] (fun cl ev hcl hev => ?_)
  show cl _ _ _ _
  refine hcl _ _ _ _ (c_len9 ?_)
  refine And.intro (fun z => absurd z (show ¬ (1 : Int) ≥ 2 by decide)) (fun _ => ?_)
  show cl _ _ _ _
  refine hcl _ _ _ _ (c_cha9 (by decide) ?_)
  show cl _ _ _ _
  refine hcl _ _ _ _ (u_take (c := 32) t hp (fun e => ?_) (fun e => ?_))
  · refine And.intro (fun _ => ?_) (fun z => absurd (show (1 : Int) ≠ 0 by decide) z)
    have hq : p + 1 ≤ n := by unfold u_pk at e; split at e <;> omega
    refine hev _ (ul_ta9_2 t ⟨by omega, hq⟩ ?_)
    unfold u_wrd at hK
    rw [if_pos e] at hK
    exact hK
  · refine And.intro (fun z => absurd rfl z) (fun _ => ?_)
    unfold u_wrd at hK
    rw [if_neg e] at hK
    exact hK
theorem ul_ta9_0 {B : Int → Int} {n p : Int} {ρ : q_S} {K : q_R → q_S → Prop} (t : u_tp ρ B n) (hp : 0 ≤ p ∧ p ≤ n) (hK : K (some (0, (u_wrd B n [118, 32] p).1)) (q_up ρ 32 2 (u_wrd B n [118, 32] p).2)) : q_E L xs k_Tape_takeAll (2, [(2, 32), (4, 9), (0, 0)], [], q_up ρ 32 2 p) K := by
  refine q_go1 100 2 [2] (fun cl ev hcl hev => ?_)
  show cl _ _ _ _
  refine hcl _ _ _ _ (c_len9 ?_)
  refine And.intro (fun z => absurd z (show ¬ (0 : Int) ≥ 2 by decide)) (fun _ => ?_)
  show cl _ _ _ _
  refine hcl _ _ _ _ (c_cha9 (by decide) ?_)
  show cl _ _ _ _
  refine hcl _ _ _ _ (u_take (c := 118) t hp (fun e => ?_) (fun e => ?_))
  · refine And.intro (fun _ => ?_) (fun z => absurd (show (1 : Int) ≠ 0 by decide) z)
    have hq : p + 1 ≤ n := by unfold u_pk at e; split at e <;> omega
    refine hev _ (ul_ta9_1 t ⟨by omega, hq⟩ ?_)
    unfold u_wrd at hK
    rw [if_pos e] at hK
    exact hK
  · refine And.intro (fun z => absurd rfl z) (fun _ => ?_)
    unfold u_wrd at hK
    rw [if_neg e] at hK
    exact hK
theorem u_ta9 {B : Int → Int} {n p : Int} {ρ : q_S} {K : q_R → q_S → Prop} (t : u_tp ρ B n) (hp : 0 ≤ p ∧ p ≤ n) (hK : K (some (0, (u_wrd B n [118, 32] p).1)) (q_up ρ 32 2 (u_wrd B n [118, 32] p).2)) : q_K L xs i_Tape_takeAll [(2, 32), (4, 9)] (q_up ρ 32 2 p) K := by
  refine q_call k_Tape_takeAll 3 rfl ?_
  show q_E L xs k_Tape_takeAll (0, [(2, 32), (4, 9), (9, 0)], [], q_up ρ 32 2 p) K
  refine q_go1 100 0 [2] (fun cl ev hcl hev => ?_)
  exact hev _ (ul_ta9_0 t hp hK)
theorem ul_ta11_2 {B : Int → Int} {n p : Int} {ρ : q_S} {K : q_R → q_S → Prop} (t : u_tp ρ B n) (hp : 0 ≤ p ∧ p ≤ n) (hK : K (some (0, (u_wrd B n [] p).1)) (q_up ρ 32 2 (u_wrd B n [] p).2)) : q_E L xs k_Tape_takeAll (2, [(2, 32), (4, 11), (0, 2)], [], q_up ρ 32 2 p) K := by
  refine q_go1 100 2 [2] (fun cl ev hcl hev => ?_)
  show cl _ _ _ _
  refine hcl _ _ _ _ (c_len11 ?_)
  exact And.intro (fun _ => hK) (fun z => absurd (show (2 : Int) ≥ 2 by decide) z)
theorem ul_ta11_1 {B : Int → Int} {n p : Int} {ρ : q_S} {K : q_R → q_S → Prop} (t : u_tp ρ B n) (hp : 0 ≤ p ∧ p ≤ n) (hK : K (some (0, (u_wrd B n [32] p).1)) (q_up ρ 32 2 (u_wrd B n [32] p).2)) : q_E L xs k_Tape_takeAll (2, [(2, 32), (4, 11), (0, 1)], [], q_up ρ 32 2 p) K := by
  refine q_go1 100 2 [2] (fun cl ev hcl hev => ?_)
  show cl _ _ _ _
  refine hcl _ _ _ _ (c_len11 ?_)
  refine And.intro (fun z => absurd z (show ¬ (1 : Int) ≥ 2 by decide)) (fun _ => ?_)
  show cl _ _ _ _
  refine hcl _ _ _ _ (c_cha11 (by decide) ?_)
  show cl _ _ _ _
  refine hcl _ _ _ _ (u_take (c := 32) t hp (fun e => ?_) (fun e => ?_))
  · refine And.intro (fun _ => ?_) (fun z => absurd (show (1 : Int) ≠ 0 by decide) z)
    have hq : p + 1 ≤ n := by unfold u_pk at e; split at e <;> omega
    refine hev _ (ul_ta11_2 t ⟨by omega, hq⟩ ?_)
    unfold u_wrd at hK
    rw [if_pos e] at hK
    exact hK
  · refine And.intro (fun z => absurd rfl z) (fun _ => ?_)
    unfold u_wrd at hK
    rw [if_neg e] at hK
    exact hK
theorem ul_ta11_0 {B : Int → Int} {n p : Int} {ρ : q_S} {K : q_R → q_S → Prop} (t : u_tp ρ B n) (hp : 0 ≤ p ∧ p ≤ n) (hK : K (some (0, (u_wrd B n [115, 32] p).1)) (q_up ρ 32 2 (u_wrd B n [115, 32] p).2)) : q_E L xs k_Tape_takeAll (2, [(2, 32), (4, 11), (0, 0)], [], q_up ρ 32 2 p) K := by
  refine q_go1 100 2 [2] (fun cl ev hcl hev => ?_)
  show cl _ _ _ _
  refine hcl _ _ _ _ (c_len11 ?_)
  refine And.intro (fun z => absurd z (show ¬ (0 : Int) ≥ 2 by decide)) (fun _ => ?_)
  show cl _ _ _ _
  refine hcl _ _ _ _ (c_cha11 (by decide) ?_)
  show cl _ _ _ _
  refine hcl _ _ _ _ (u_take (c := 115) t hp (fun e => ?_) (fun e => ?_))
  · refine And.intro (fun _ => ?_) (fun z => absurd (show (1 : Int) ≠ 0 by decide) z)
    have hq : p + 1 ≤ n := by unfold u_pk at e; split at e <;> omega
    refine hev _ (ul_ta11_1 t ⟨by omega, hq⟩ ?_)
    unfold u_wrd at hK
    rw [if_pos e] at hK
    exact hK
  · refine And.intro (fun z => absurd rfl z) (fun _ => ?_)
    unfold u_wrd at hK
    rw [if_neg e] at hK
    exact hK
theorem u_ta11 {B : Int → Int} {n p : Int} {ρ : q_S} {K : q_R → q_S → Prop} (t : u_tp ρ B n) (hp : 0 ≤ p ∧ p ≤ n) (hK : K (some (0, (u_wrd B n [115, 32] p).1)) (q_up ρ 32 2 (u_wrd B n [115, 32] p).2)) : q_K L xs i_Tape_takeAll [(2, 32), (4, 11)] (q_up ρ 32 2 p) K := by
  refine q_call k_Tape_takeAll 3 rfl ?_
  show q_E L xs k_Tape_takeAll (0, [(2, 32), (4, 11), (9, 0)], [], q_up ρ 32 2 p) K
  refine q_go1 100 0 [2] (fun cl ev hcl hev => ?_)
  exact hev _ (ul_ta11_0 t hp hK)
theorem ul_ta13_5 {B : Int → Int} {n p : Int} {ρ : q_S} {K : q_R → q_S → Prop} (t : u_tp ρ B n) (hp : 0 ≤ p ∧ p ≤ n) (hK : K (some (0, (u_wrd B n [] p).1)) (q_up ρ 32 2 (u_wrd B n [] p).2)) : q_E L xs k_Tape_takeAll (2, [(2, 32), (4, 13), (0, 5)], [], q_up ρ 32 2 p) K := by
  refine q_go1 100 2 [2] (fun cl ev hcl hev => ?_)
  show cl _ _ _ _
  refine hcl _ _ _ _ (c_len13 ?_)
  exact And.intro (fun _ => hK) (fun z => absurd (show (5 : Int) ≥ 5 by decide) z)
theorem ul_ta13_4 {B : Int → Int} {n p : Int} {ρ : q_S} {K : q_R → q_S → Prop} (t : u_tp ρ B n) (hp : 0 ≤ p ∧ p ≤ n) (hK : K (some (0, (u_wrd B n [116] p).1)) (q_up ρ 32 2 (u_wrd B n [116] p).2)) : q_E L xs k_Tape_takeAll (2, [(2, 32), (4, 13), (0, 4)], [], q_up ρ 32 2 p) K := by
  refine q_go1 100 2 [2] (fun cl ev hcl hev => ?_)
  show cl _ _ _ _
  refine hcl _ _ _ _ (c_len13 ?_)
  refine And.intro (fun z => absurd z (show ¬ (4 : Int) ≥ 5 by decide)) (fun _ => ?_)
  show cl _ _ _ _
  refine hcl _ _ _ _ (c_cha13 (by decide) ?_)
  show cl _ _ _ _
  refine hcl _ _ _ _ (u_take (c := 116) t hp (fun e => ?_) (fun e => ?_))
  · refine And.intro (fun _ => ?_) (fun z => absurd (show (1 : Int) ≠ 0 by decide) z)
    have hq : p + 1 ≤ n := by unfold u_pk at e; split at e <;> omega
    refine hev _ (ul_ta13_5 t ⟨by omega, hq⟩ ?_)
    unfold u_wrd at hK
    rw [if_pos e] at hK
    exact hK
  · refine And.intro (fun z => absurd rfl z) (fun _ => ?_)
    unfold u_wrd at hK
    rw [if_neg e] at hK
    exact hK
theorem ul_ta13_3 {B : Int → Int} {n p : Int} {ρ : q_S} {K : q_R → q_S → Prop} (t : u_tp ρ B n) (hp : 0 ≤ p ∧ p ≤ n) (hK : K (some (0, (u_wrd B n [110, 116] p).1)) (q_up ρ 32 2 (u_wrd B n [110, 116] p).2)) : q_E L xs k_Tape_takeAll (2, [(2, 32), (4, 13), (0, 3)], [], q_up ρ 32 2 p) K := by
  refine q_go1 100 2 [2] (fun cl ev hcl hev => ?_)
  show cl _ _ _ _
  refine hcl _ _ _ _ (c_len13 ?_)
  refine And.intro (fun z => absurd z (show ¬ (3 : Int) ≥ 5 by decide)) (fun _ => ?_)
  show cl _ _ _ _
  refine hcl _ _ _ _ (c_cha13 (by decide) ?_)
  show cl _ _ _ _
  refine hcl _ _ _ _ (u_take (c := 110) t hp (fun e => ?_) (fun e => ?_))
  · refine And.intro (fun _ => ?_) (fun z => absurd (show (1 : Int) ≠ 0 by decide) z)
    have hq : p + 1 ≤ n := by unfold u_pk at e; split at e <;> omega
    refine hev _ (ul_ta13_4 t ⟨by omega, hq⟩ ?_)
    unfold u_wrd at hK
    rw [if_pos e] at hK
    exact hK
  · refine And.intro (fun z => absurd rfl z) (fun _ => ?_)
    unfold u_wrd at hK
    rw [if_neg e] at hK
    exact hK
theorem ul_ta13_2 {B : Int → Int} {n p : Int} {ρ : q_S} {K : q_R → q_S → Prop} (t : u_tp ρ B n) (hp : 0 ≤ p ∧ p ≤ n) (hK : K (some (0, (u_wrd B n [111, 110, 116] p).1)) (q_up ρ 32 2 (u_wrd B n [111, 110, 116] p).2)) : q_E L xs k_Tape_takeAll (2, [(2, 32), (4, 13), (0, 2)], [], q_up ρ 32 2 p) K := by
  refine q_go1 100 2 [2] (fun cl ev hcl hev => ?_)
  show cl _ _ _ _
  refine hcl _ _ _ _ (c_len13 ?_)
  refine And.intro (fun z => absurd z (show ¬ (2 : Int) ≥ 5 by decide)) (fun _ => ?_)
  show cl _ _ _ _
  refine hcl _ _ _ _ (c_cha13 (by decide) ?_)
  show cl _ _ _ _
  refine hcl _ _ _ _ (u_take (c := 111) t hp (fun e => ?_) (fun e => ?_))
  · refine And.intro (fun _ => ?_) (fun z => absurd (show (1 : Int) ≠ 0 by decide) z)
    have hq : p + 1 ≤ n := by unfold u_pk at e; split at e <;> omega
    refine hev _ (ul_ta13_3 t ⟨by omega, hq⟩ ?_)
    unfold u_wrd at hK
    rw [if_pos e] at hK
    exact hK
  · refine And.intro (fun z => absurd rfl z) (fun _ => ?_)
    unfold u_wrd at hK
    rw [if_neg e] at hK
    exact hK
theorem ul_ta13_1 {B : Int → Int} {n p : Int} {ρ : q_S} {K : q_R → q_S → Prop} (t : u_tp ρ B n) (hp : 0 ≤ p ∧ p ≤ n) (hK : K (some (0, (u_wrd B n [114, 111, 110, 116] p).1)) (q_up ρ 32 2 (u_wrd B n [114, 111, 110, 116] p).2)) : q_E L xs k_Tape_takeAll (2, [(2, 32), (4, 13), (0, 1)], [], q_up ρ 32 2 p) K := by
  refine q_go1 100 2 [2] (fun cl ev hcl hev => ?_)
  show cl _ _ _ _
  refine hcl _ _ _ _ (c_len13 ?_)
  refine And.intro (fun z => absurd z (show ¬ (1 : Int) ≥ 5 by decide)) (fun _ => ?_)
  show cl _ _ _ _
  refine hcl _ _ _ _ (c_cha13 (by decide) ?_)
  show cl _ _ _ _
  refine hcl _ _ _ _ (u_take (c := 114) t hp (fun e => ?_) (fun e => ?_))
  · refine And.intro (fun _ => ?_) (fun z => absurd (show (1 : Int) ≠ 0 by decide) z)
    have hq : p + 1 ≤ n := by unfold u_pk at e; split at e <;> omega
    refine hev _ (ul_ta13_2 t ⟨by omega, hq⟩ ?_)
    unfold u_wrd at hK
    rw [if_pos e] at hK
    exact hK
  · refine And.intro (fun z => absurd rfl z) (fun _ => ?_)
    unfold u_wrd at hK
    rw [if_neg e] at hK
    exact hK
theorem ul_ta13_0 {B : Int → Int} {n p : Int} {ρ : q_S} {K : q_R → q_S → Prop} (t : u_tp ρ B n) (hp : 0 ≤ p ∧ p ≤ n) (hK : K (some (0, (u_wrd B n [102, 114, 111, 110, 116] p).1)) (q_up ρ 32 2 (u_wrd B n [102, 114, 111, 110, 116] p).2)) : q_E L xs k_Tape_takeAll (2, [(2, 32), (4, 13), (0, 0)], [], q_up ρ 32 2 p) K := by
  refine q_go1 100 2 [2] (fun cl ev hcl hev => ?_)
  show cl _ _ _ _
  refine hcl _ _ _ _ (c_len13 ?_)
  refine And.intro (fun z => absurd z (show ¬ (0 : Int) ≥ 5 by decide)) (fun _ => ?_)
  show cl _ _ _ _
  refine hcl _ _ _ _ (c_cha13 (by decide) ?_)
  show cl _ _ _ _
  refine hcl _ _ _ _ (u_take (c := 102) t hp (fun e => ?_) (fun e => ?_))
  · refine And.intro (fun _ => ?_) (fun z => absurd (show (1 : Int) ≠ 0 by decide) z)
    have hq : p + 1 ≤ n := by unfold u_pk at e; split at e <;> omega
    refine hev _ (ul_ta13_1 t ⟨by omega, hq⟩ ?_)
    unfold u_wrd at hK
    rw [if_pos e] at hK
    exact hK
  · refine And.intro (fun z => absurd rfl z) (fun _ => ?_)
    unfold u_wrd at hK
    rw [if_neg e] at hK
    exact hK
theorem u_ta13 {B : Int → Int} {n p : Int} {ρ : q_S} {K : q_R → q_S → Prop} (t : u_tp ρ B n) (hp : 0 ≤ p ∧ p ≤ n) (hK : K (some (0, (u_wrd B n [102, 114, 111, 110, 116] p).1)) (q_up ρ 32 2 (u_wrd B n [102, 114, 111, 110, 116] p).2)) : q_K L xs i_Tape_takeAll [(2, 32), (4, 13)] (q_up ρ 32 2 p) K := by
  refine q_call k_Tape_takeAll 3 rfl ?_
  show q_E L xs k_Tape_takeAll (0, [(2, 32), (4, 13), (9, 0)], [], q_up ρ 32 2 p) K
  refine q_go1 100 0 [2] (fun cl ev hcl hev => ?_)
  exact hev _ (ul_ta13_0 t hp hK)
theorem ul_ta15_5 {B : Int → Int} {n p : Int} {ρ : q_S} {K : q_R → q_S → Prop} (t : u_tp ρ B n) (hp : 0 ≤ p ∧ p ≤ n) (hK : K (some (0, (u_wrd B n [] p).1)) (q_up ρ 32 2 (u_wrd B n [] p).2)) : q_E L xs k_Tape_takeAll (2, [(2, 32), (4, 15), (0, 5)], [], q_up ρ 32 2 p) K := by
  refine q_go1 100 2 [2] (fun cl ev hcl hev => ?_)
  show cl _ _ _ _
  refine hcl _ _ _ _ (c_len15 ?_)
  exact And.intro (fun _ => hK) (fun z => absurd (show (5 : Int) ≥ 5 by decide) z)
theorem ul_ta15_4 {B : Int → Int} {n p : Int} {ρ : q_S} {K : q_R → q_S → Prop} (t : u_tp ρ B n) (hp : 0 ≤ p ∧ p ≤ n) (hK : K (some (0, (u_wrd B n [115] p).1)) (q_up ρ 32 2 (u_wrd B n [115] p).2)) : q_E L xs k_Tape_takeAll (2, [(2, 32), (4, 15), (0, 4)], [], q_up ρ 32 2 p) K := by
  refine q_go1 100 2 [2] (fun cl ev hcl hev => ?_)
  show cl _ _ _ _
  refine hcl _ _ _ _ (c_len15 ?_)
  refine And.intro (fun z => absurd z (show ¬ (4 : Int) ≥ 5 by decide)) (fun _ => ?_)
  show cl _ _ _ _
  refine hcl _ _ _ _ (c_cha15 (by decide) ?_)
  show cl _ _ _ _
  refine hcl _ _ _ _ (u_take (c := 115) t hp (fun e => ?_) (fun e => ?_))
  · refine And.intro (fun _ => ?_) (fun z => absurd (show (1 : Int) ≠ 0 by decide) z)
    have hq : p + 1 ≤ n := by unfold u_pk at e; split at e <;> omega
    refine hev _ (ul_ta15_5 t ⟨by omega, hq⟩ ?_)
    unfold u_wrd at hK
    rw [if_pos e] at hK
    exact hK
  · refine And.intro (fun z => absurd rfl z) (fun _ => ?_)
    unfold u_wrd at hK
    rw [if_neg e] at hK
    exact hK
theorem ul_ta15_3 {B : Int → Int} {n p : Int} {ρ : q_S} {K : q_R → q_S → Prop} (t : u_tp ρ B n) (hp : 0 ≤ p ∧ p ≤ n) (hK : K (some (0, (u_wrd B n [101, 115] p).1)) (q_up ρ 32 2 (u_wrd B n [101, 115] p).2)) : q_E L xs k_Tape_takeAll (2, [(2, 32), (4, 15), (0, 3)], [], q_up ρ 32 2 p) K := by
  refine q_go1 100 2 [2] (fun cl ev hcl hev => ?_)
  show cl _ _ _ _
  refine hcl _ _ _ _ (c_len15 ?_)
  refine And.intro (fun z => absurd z (show ¬ (3 : Int) ≥ 5 by decide)) (fun _ => ?_)
  show cl _ _ _ _
  refine hcl _ _ _ _ (c_cha15 (by decide) ?_)
  show cl _ _ _ _
  refine hcl _ _ _ _ (u_take (c := 101) t hp (fun e => ?_) (fun e => ?_))
  · refine And.intro (fun _ => ?_) (fun z => absurd (show (1 : Int) ≠ 0 by decide) z)
    have hq : p + 1 ≤ n := by unfold u_pk at e; split at e <;> omega
    refine hev _ (ul_ta15_4 t ⟨by omega, hq⟩ ?_)
    unfold u_wrd at hK
    rw [if_pos e] at hK
    exact hK
  · refine And.intro (fun z => absurd rfl z) (fun _ => ?_)
    unfold u_wrd at hK
    rw [if_neg e] at hK
    exact hK
theorem ul_ta15_2 {B : Int → Int} {n p : Int} {ρ : q_S} {K : q_R → q_S → Prop} (t : u_tp ρ B n) (hp : 0 ≤ p ∧ p ≤ n) (hK : K (some (0, (u_wrd B n [114, 101, 115] p).1)) (q_up ρ 32 2 (u_wrd B n [114, 101, 115] p).2)) : q_E L xs k_Tape_takeAll (2, [(2, 32), (4, 15), (0, 2)], [], q_up ρ 32 2 p) K := by
  refine q_go1 100 2 [2] (fun cl ev hcl hev => ?_)
  show cl _ _ _ _
  refine hcl _ _ _ _ (c_len15 ?_)
  refine And.intro (fun z => absurd z (show ¬ (2 : Int) ≥ 5 by decide)) (fun _ => ?_)
  show cl _ _ _ _
  refine hcl _ _ _ _ (c_cha15 (by decide) ?_)
  show cl _ _ _ _
  refine hcl _ _ _ _ (u_take (c := 114) t hp (fun e => ?_) (fun e => ?_))
  · refine And.intro (fun _ => ?_) (fun z => absurd (show (1 : Int) ≠ 0 by decide) z)
    have hq : p + 1 ≤ n := by unfold u_pk at e; split at e <;> omega
    refine hev _ (ul_ta15_3 t ⟨by omega, hq⟩ ?_)
    unfold u_wrd at hK
    rw [if_pos e] at hK
    exact hK
  · refine And.intro (fun z => absurd rfl z) (fun _ => ?_)
    unfold u_wrd at hK
    rw [if_neg e] at hK
    exact hK
theorem ul_ta15_1 {B : Int → Int} {n p : Int} {ρ : q_S} {K : q_R → q_S → Prop} (t : u_tp ρ B n) (hp : 0 ≤ p ∧ p ≤ n) (hK : K (some (0, (u_wrd B n [99, 114, 101, 115] p).1)) (q_up ρ 32 2 (u_wrd B n [99, 114, 101, 115] p).2)) : q_E L xs k_Tape_takeAll (2, [(2, 32), (4, 15), (0, 1)], [], q_up ρ 32 2 p) K := by
  refine q_go1 100 2 [2] (fun cl ev hcl hev => ?_)
  show cl _ _ _ _
  refine hcl _ _ _ _ (c_len15 ?_)
  refine And.intro (fun z => absurd z (show ¬ (1 : Int) ≥ 5 by decide)) (fun _ => ?_)
  show cl _ _ _ _
  refine hcl _ _ _ _ (c_cha15 (by decide) ?_)
  show cl _ _ _ _
  refine hcl _ _ _ _ (u_take (c := 99) t hp (fun e => ?_) (fun e => ?_))
  · refine And.intro (fun _ => ?_) (fun z => absurd (show (1 : Int) ≠ 0 by decide) z)
    have hq : p + 1 ≤ n := by unfold u_pk at e; split at e <;> omega
    refine hev _ (ul_ta15_2 t ⟨by omega, hq⟩ ?_)
    unfold u_wrd at hK
    rw [if_pos e] at hK
    exact hK
  · refine And.intro (fun z => absurd rfl z) (fun _ => ?_)
    unfold u_wrd at hK
    rw [if_neg e] at hK
    exact hK
theorem ul_ta15_0 {B : Int → Int} {n p : Int} {ρ : q_S} {K : q_R → q_S → Prop} (t : u_tp ρ B n) (hp : 0 ≤ p ∧ p ≤ n) (hK : K (some (0, (u_wrd B n [97, 99, 114, 101, 115] p).1)) (q_up ρ 32 2 (u_wrd B n [97, 99, 114, 101, 115] p).2)) : q_E L xs k_Tape_takeAll (2, [(2, 32), (4, 15), (0, 0)], [], q_up ρ 32 2 p) K := by
  refine q_go1 100 2 [2] (fun cl ev hcl hev => ?_)
  show cl _ _ _ _
  refine hcl _ _ _ _ (c_len15 ?_)
  refine And.intro (fun z => absurd z (show ¬ (0 : Int) ≥ 5 by decide)) (fun _ => ?_)
  show cl _ _ _ _
  refine hcl _ _ _ _ (c_cha15 (by decide) ?_)
  show cl _ _ _ _
  refine hcl _ _ _ _ (u_take (c := 97) t hp (fun e => ?_) (fun e => ?_))
  · refine And.intro (fun _ => ?_) (fun z => absurd (show (1 : Int) ≠ 0 by decide) z)
    have hq : p + 1 ≤ n := by unfold u_pk at e; split at e <;> omega
    refine hev _ (ul_ta15_1 t ⟨by omega, hq⟩ ?_)
    unfold u_wrd at hK
    rw [if_pos e] at hK
    exact hK
  · refine And.intro (fun z => absurd rfl z) (fun _ => ?_)
    unfold u_wrd at hK
    rw [if_neg e] at hK
    exact hK
theorem u_ta15 {B : Int → Int} {n p : Int} {ρ : q_S} {K : q_R → q_S → Prop} (t : u_tp ρ B n) (hp : 0 ≤ p ∧ p ≤ n) (hK : K (some (0, (u_wrd B n [97, 99, 114, 101, 115] p).1)) (q_up ρ 32 2 (u_wrd B n [97, 99, 114, 101, 115] p).2)) : q_K L xs i_Tape_takeAll [(2, 32), (4, 15)] (q_up ρ 32 2 p) K := by
  refine q_call k_Tape_takeAll 3 rfl ?_
  show q_E L xs k_Tape_takeAll (0, [(2, 32), (4, 15), (9, 0)], [], q_up ρ 32 2 p) K
  refine q_go1 100 0 [2] (fun cl ev hcl hev => ?_)
  exact hev _ (ul_ta15_0 t hp hK)
theorem ul_ta17_4 {B : Int → Int} {n p : Int} {ρ : q_S} {K : q_R → q_S → Prop} (t : u_tp ρ B n) (hp : 0 ≤ p ∧ p ≤ n) (hK : K (some (0, (u_wrd B n [] p).1)) (q_up ρ 32 2 (u_wrd B n [] p).2)) : q_E L xs k_Tape_takeAll (2, [(2, 32), (4, 17), (0, 4)], [], q_up ρ 32 2 p) K := by
  refine q_go1 100 2 [2] (fun cl ev hcl hev => ?_)
  show cl _ _ _ _
  refine hcl _ _ _ _ (c_len17 ?_)
  exact And.intro (fun _ => hK) (fun z => absurd (show (4 : Int) ≥ 4 by decide) z)
theorem ul_ta17_3 {B : Int → Int} {n p : Int} {ρ : q_S} {K : q_R → q_S → Prop} (t : u_tp ρ B n) (hp : 0 ≤ p ∧ p ≤ n) (hK : K (some (0, (u_wrd B n [32] p).1)) (q_up ρ 32 2 (u_wrd B n [32] p).2)) : q_E L xs k_Tape_takeAll (2, [(2, 32), (4, 17), (0, 3)], [], q_up ρ 32 2 p) K := by
  refine q_go1 100 2 [2] (fun cl ev hcl hev => ?_)
  show cl _ _ _ _
  refine hcl _ _ _ _ (c_len17 ?_)
  refine And.intro (fun z => absurd z (show ¬ (3 : Int) ≥ 4 by decide)) (fun _ => ?_)
  show cl _ _ _ _
  refine hcl _ _ _ _ (c_cha17 (by decide) ?_)
  show cl _ _ _ _
  refine hcl _ _ _ _ (u_take (c := 32) t hp (fun e => ?_) (fun e => ?_))
  · refine And.intro (fun _ => ?_) (fun z => absurd (show (1 : Int) ≠ 0 by decide) z)
    have hq : p + 1 ≤ n := by unfold u_pk at e; split at e <;> omega
    refine hev _ (ul_ta17_4 t ⟨by omega, hq⟩ ?_)
    unfold u_wrd at hK
    rw [if_pos e] at hK
    exact hK
  · refine And.intro (fun z => absurd rfl z) (fun _ => ?_)
    unfold u_wrd at hK
    rw [if_neg e] at hK
    exact hK
theorem ul_ta17_2 {B : Int → Int} {n p : Int} {ρ : q_S} {K : q_R → q_S → Prop} (t : u_tp ρ B n) (hp : 0 ≤ p ∧ p ≤ n) (hK : K (some (0, (u_wrd B n [110, 32] p).1)) (q_up ρ 32 2 (u_wrd B n [110, 32] p).2)) : q_E L xs k_Tape_takeAll (2, [(2, 32), (4, 17), (0, 2)], [], q_up ρ 32 2 p) K := by
  refine q_go1 100 2 [2] (fun cl ev hcl hev => ?_)
  show cl _ _ _ _
  refine hcl _ _ _ _ (c_len17 ?_)
  refine And.intro (fun z => absurd z (show ¬ (2 : Int) ≥ 4 by decide)) (fun _ => ?_)
  show cl _ _ _ _
  refine hcl _ _ _ _ (c_cha17 (by decide) ?_)
  show cl _ _ _ _
  refine hcl _ _ _ _ (u_take (c := 110) t hp (fun e => ?_) (fun e => ?_))
  · refine And.intro (fun _ => ?_) (fun z => absurd (show (1 : Int) ≠ 0 by decide) z)
    have hq : p + 1 ≤ n := by unfold u_pk at e; split at e <;> omega
    refine hev _ (ul_ta17_3 t ⟨by omega, hq⟩ ?_)
    unfold u_wrd at hK
    rw [if_pos e] at hK
    exact hK
  · refine And.intro (fun z => absurd rfl z) (fun _ => ?_)
    unfold u_wrd at hK
    rw [if_neg e] at hK
    exact hK
theorem ul_ta17_1 {B : Int → Int} {n p : Int} {ρ : q_S} {K : q_R → q_S → Prop} (t : u_tp ρ B n) (hp : 0 ≤ p ∧ p ≤ n) (hK : K (some (0, (u_wrd B n [119, 110, 32] p).1)) (q_up ρ 32 2 (u_wrd B n [119, 110, 32] p).2)) : q_E L xs k_Tape_takeAll (2, [(2, 32), (4, 17), (0, 1)], [], q_up ρ 32 2 p) K := by
  refine q_go1 100 2 [2] (fun cl ev hcl hev => ?_)
  show cl _ _ _ _
  refine hcl _ _ _ _ (c_len17 ?_)
  refine And.intro (fun z => absurd z (show ¬ (1 : Int) ≥ 4 by decide)) (fun _ => ?_)
  show cl _ _ _ _
  refine hcl _ _ _ _ (c_cha17 (by decide) ?_)
  show cl _ _ _ _
  refine hcl _ _ _ _ (u_take (c := 119) t hp (fun e => ?_) (fun e => ?_))
  · refine And.intro (fun _ => ?_) (fun z => absurd (show (1 : Int) ≠ 0 by decide) z)
    have hq : p + 1 ≤ n := by unfold u_pk at e; split at e <;> omega
    refine hev _ (ul_ta17_2 t ⟨by omega, hq⟩ ?_)
    unfold u_wrd at hK
    rw [if_pos e] at hK
    exact hK
  · refine And.intro (fun z => absurd rfl z) (fun _ => ?_)
    unfold u_wrd at hK
    rw [if_neg e] at hK
    exact hK
theorem ul_ta17_0 {B : Int → Int} {n p : Int} {ρ : q_S} {K : q_R → q_S → Prop} (t : u_tp ρ B n) (hp : 0 ≤ p ∧ p ≤ n) (hK : K (some (0, (u_wrd B n [111, 119, 110, 32] p).1)) (q_up ρ 32 2 (u_wrd B n [111, 119, 110, 32] p).2)) : q_E L xs k_Tape_takeAll (2, [(2, 32), (4, 17), (0, 0)], [], q_up ρ 32 2 p) K := by
  refine q_go1 100 2 [2] (fun cl ev hcl hev => ?_)
  show cl _ _ _ _
  refine hcl _ _ _ _ (c_len17 ?_)
  refine And.intro (fun z => absurd z (show ¬ (0 : Int) ≥ 4 by decide)) (fun _ => ?_)
  show cl _ _ _ _
  refine hcl _ _ _ _ (c_cha17 (by decide) ?_)
  show cl _ _ _ _
  refine hcl _ _ _ _ (u_take (c := 111) t hp (fun e => ?_) (fun e => ?_))
  · refine And.intro (fun _ => ?_) (fun z => absurd (show (1 : Int) ≠ 0 by decide) z)
    have hq : p + 1 ≤ n := by unfold u_pk at e; split at e <;> omega
    refine hev _ (ul_ta17_1 t ⟨by omega, hq⟩ ?_)
    unfold u_wrd at hK
    rw [if_pos e] at hK
    exact hK
  · refine And.intro (fun z => absurd rfl z) (fun _ => ?_)
    unfold u_wrd at hK
    rw [if_neg e] at hK
    exact hK
theorem u_ta17 {B : Int → Int} {n p : Int} {ρ : q_S} {K : q_R → q_S → Prop} (t : u_tp ρ B n) (hp : 0 ≤ p ∧ p ≤ n) (hK : K (some (0, (u_wrd B n [111, 119, 110, 32] p).1)) (q_up ρ 32 2 (u_wrd B n [111, 119, 110, 32] p).2)) : q_K L xs i_Tape_takeAll [(2, 32), (4, 17)] (q_up ρ 32 2 p) K := by
  refine q_call k_Tape_takeAll 3 rfl ?_
  show q_E L xs k_Tape_takeAll (0, [(2, 32), (4, 17), (9, 0)], [], q_up ρ 32 2 p) K
  refine q_go1 100 0 [2] (fun cl ev hcl hev => ?_)
  exact hev _ (ul_ta17_0 t hp hK)
theorem ul_num {B : Int → Int} {n lo hi : Int} {ρ : q_S} {K : q_R → q_S → Prop} (t : u_tp ρ B n) (hh : 0 ≤ hi ∧ hi ≤ 999) : ∀ (f : Nat) (v p y : Int) (u : Nat), (f : Int) = n - p → 0 ≤ p → 0 ≤ v → v ≤ hi → K (some (0, (u_nl B n hi f v p).1)) (q_up ρ 32 2 (u_nl B n hi f v p).2) →
    q_E L xs k_Tape_takeNumber (20, [(2, 32), (0, lo), (0, hi), (0, v), (u, y)], [], q_up ρ 32 2 p) K := by
  intro f
  have tn := t.2.1
  have t3 : 0 ≤ n ∧ n ≤ 160 := ⟨t.2.2.1, t.2.2.2.1⟩
  induction f with
  | zero =>
    intro v p y u hf hp hv hv2 hK
    have e2 : q_up ρ 32 2 p 32 2 = p := q_ue
    have e1 : q_up ρ 32 2 p 32 1 = n := (q_ui (by decide)).trans tn
    unfold u_nl at hK
    refine q_go1 100 20 [20] (fun cl ev hcl hev => ?_)
    exact And.intro (fun _ => hK) (fun z => by exfalso; omega)
  | succ f ih =>
    intro v p y u hf hp hv hv2 hK
    have e2 : q_up ρ 32 2 p 32 2 = p := q_ue
    have e1 : q_up ρ 32 2 p 32 1 = n := (q_ui (by decide)).trans tn
    have ew : q_w32 (q_up ρ 32 2 p 32 2 + 1) = p + 1 := by rw [e2, q_w32_id] <;> omega
    have epk : u_pk B n p = B p := by unfold u_pk; rw [if_pos (by omega)]
    unfold u_nl at hK
    refine q_go1 200 20 [20] (fun cl ev hcl hev => ?_)
    refine And.intro (fun z => by exfalso; omega) (fun _ => ?_)
    refine And.intro (fun z => ?_) (fun z => ?_)
    · rw [if_neg (by omega)] at hK
      exact hK
    · rw [if_pos (by omega)] at hK
      show cl _ _ _ _
      refine hcl _ _ _ _ (u_peek t (by omega) ?_)
      rw [epk]
      have hB : (48 ≤ B p ∧ B p ≤ 57) → q_w32 (B p - 48) = B p - 48 := fun _ => by rw [q_w32_id] <;> omega
      show cl _ _ _ _
      refine hcl _ _ _ _ (c_A_within (fun g => ?_) (fun g => ?_))
      · refine And.intro (fun _ => ?_) (fun z => absurd (show (1 : Int) ≠ 0 by decide) z)
        by_cases gB : 48 ≤ B p ∧ B p ≤ 57
        · rw [if_pos gB] at hK
          have em : q_w32 (q_w32 (10 * v) + q_w32 (B p - 48)) = 10 * v + (B p - 48) := by rw [hB gB, q_w32_id (x := 10 * v) (by omega) (by omega), q_w32_id] <;> omega
          refine And.intro (fun z2 => ?_) (fun z2 => ?_)
          · rw [em] at z2
            rw [if_neg (by omega)] at hK
            refine hev _ ?_
            rw [em, ew, q_uu]
            exact ih _ _ _ _ (by omega) (by omega) (by omega) (by omega) hK
          · rw [em] at z2
            rw [if_pos (by omega)] at hK
            exact hK
        · exfalso
          have := t.2.2.2.2 p
          have : q_w32 (B p - 48) = B p - 48 := by rw [q_w32_id] <;> omega
          omega
      · refine And.intro (fun z => absurd rfl z) (fun _ => ?_)
        rw [if_neg (fun gB => g (by rw [hB gB]; omega))] at hK
        exact hK
end V1
