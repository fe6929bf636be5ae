/-! THE TIDE, EXACT: each step as a function of the state, in the class's cells -/
theorem q_upf {σ : q_S} {k i v : Int} : q_up σ k i v k = q_fup (σ k) i v := by
  funext j
  unfold q_up q_fup
  rw [if_pos rfl]
theorem q_upn {σ : q_S} {k i v k' : Int} (h : k' ≠ k) : q_up σ k i v k' = σ k' := by
  funext j
  exact q_un h
def y_sea (σ : q_S) (c v : Int) : q_S := q_up (q_up (q_up σ 3 c (σ 3 c + v)) 1 5 ((σ 1 5 + v) % 1000000)) 1 7 1
def y_out (σ : q_S) (c v : Int) : q_S := q_up (q_up σ 3 c (σ 3 c - min v (σ 3 c))) 1 6 ((σ 1 6 + min v (σ 3 c)) % 1000000)
def y_wear (σ : q_S) (r v : Int) : q_S := q_up (q_up σ 20 r (σ 20 r - min v (σ 20 r))) 23 r (q_w32 (σ 23 r + min v (σ 20 r)))
def y_wof (kd wind ov : Int) : Int := if kd = 0 then (if 10 ≤ ov then 2 else 0) + 1 + wind else if kd = 2 then (if 10 ≤ ov then 2 else 0) + (1 + wind) / 2 else (if 10 ≤ ov then 2 else 0)
def y_rst (kd h : Int) : Int := if kd = 1 then 2 * h / 3 else h / 2
def y_brk (σ : q_S) (r : Int) : q_S := q_up (q_up (y_wear σ r (σ 20 r - y_rst (σ 19 r) (σ 20 r))) 22 r (q_w32 (σ 22 r + 1))) 25 r 1
def y_m1 (r sea : Int) (σ : q_S) : q_S := if 0 < sea - σ 20 r then y_sea σ (σ 18 r) (10 * (sea - σ 20 r)) else σ
def y_meet (r sea wind : Int) (σ : q_S) : q_S := if 20 ≤ sea - σ 20 r then y_brk (y_m1 r sea σ) r else if -5 < sea - σ 20 r then y_wear (y_m1 r sea σ) r (y_wof (σ 19 r) wind (sea - σ 20 r)) else y_m1 r sea σ
def y_meets (sea wind : Int) (σ : q_S) : Nat → q_S
  | 0 => σ
  | n + 1 => y_meet n sea wind (y_meets sea wind σ n)
def y_ab (r sea : Int) (σ : q_S) : Int := σ 2 (σ 18 r) + σ 3 (σ 18 r) / 100 - sea
def y_slu (r sea : Int) (σ : q_S) : q_S := if 0 < y_ab r sea σ ∧ (σ 21 r = 2 ∨ σ 21 r = 3) then y_out σ (σ 18 r) (5 * y_ab r sea σ) else if y_ab r sea σ < 0 ∧ σ 21 r = 2 then y_sea σ (σ 18 r) (-5 * y_ab r sea σ) else σ
def y_slus (sea : Int) (σ : q_S) : Nat → q_S
  | 0 => σ
  | n + 1 => y_slu n sea (y_slus sea σ n)
def y_rn (v : Int) (σ : q_S) : Nat → q_S
  | 0 => σ
  | n + 1 => q_up (y_rn v σ n) 3 n (y_rn v σ n 3 n + v)
def y_rain (v : Int) (σ : q_S) : q_S := q_up (y_rn v σ 30) 1 5 ((y_rn v σ 30 1 5 + 30 * v) % 1000000)
def y_flow (σ : q_S) (a b v : Int) : q_S := q_up (q_up σ 3 a (σ 3 a - min v (σ 3 a))) 3 b (q_up σ 3 a (σ 3 a - min v (σ 3 a)) 3 b + min v (σ 3 a))
def y_abv (σ : q_S) (a b : Int) : Int := 100 * (σ 2 a - σ 2 b) + σ 3 a - σ 3 b
def y_set (σ : q_S) (a b : Int) : q_S := if b = -1 then σ else if 0 ≤ y_abv σ a b then y_flow σ a b (y_abv σ a b / 4) else y_flow σ b a (-y_abv σ a b / 4)
def y_spr (σ : q_S) : Nat → q_S
  | 0 => σ
  | n + 1 => y_set (y_set (y_spr σ n) n (q_bes n 1)) n (q_bes n 3)
def y_pk (σ : q_S) : Nat → q_S
  | 0 => σ
  | n + 1 => q_up (y_pk σ n) 4 n (max (y_pk σ n 4 n) (y_pk σ n 3 n))
def y_ref (σ : q_S) (c : Int) : Nat → Int
  | 0 => c
  | w + 1 => if q_bes c w ≠ -1 ∧ (q_gb c (q_bes c w) ≠ -1 ∧ σ 6 (q_gb c (q_bes c w)) = 0) ∧ σ 3 (q_bes c w) < σ 3 (y_ref σ c w) then q_bes c w else y_ref σ c w
def y_f1 (i : Int) (σ : q_S) : q_S := if 200 ≤ σ 3 (σ 28 i) then q_up σ 28 i (y_ref σ (σ 28 i) 4) else σ
def y_fl (i : Int) (σ : q_S) : q_S := if σ 29 i ≠ 0 then σ else q_up (y_f1 i σ) 29 i (if 500 ≤ y_f1 i σ 3 (y_f1 i σ 28 i) then 1 else 0)
def y_fls (σ : q_S) : Nat → q_S
  | 0 => σ
  | n + 1 => y_fl n (y_fls σ n)
def y_hour (sea wind rain : Int) (σ : q_S) : q_S := y_fls (y_pk (y_spr (y_slus sea (y_meets sea wind (y_rain rain σ) (σ 17 9).toNat) (σ 17 9).toNat) 30) 30) (σ 27 2).toNat
def y_fill (k v : Int) (σ : q_S) : Nat → q_S
  | 0 => σ
  | n + 1 => q_up (y_fill k v σ n) k n v
def y_beg (σ : q_S) : q_S := y_fill 25 0 (q_up (y_fill 4 0 σ 30) 1 7 0) 24
def y_qu (h : Nat) : Int := if (h : Int) < 3 then h + 2 else 6 - h
def y_hrs (high wind rain : Int) (σ : q_S) : Nat → q_S
  | 0 => σ
  | h + 1 => y_hour (high * y_qu h / 4) wind rain (y_hrs high wind rain σ h)
def y_sl (σ : q_S) : Nat → q_S
  | 0 => σ
  | n + 1 => q_up (y_sl σ n) 5 n (max (y_sl σ n 5 n) (min 9 (q_w32 ((y_sl σ n 4 n).tdiv 200))))
def y_end (σ : q_S) : q_S := if σ 1 7 = 0 then σ else y_sl σ 30
def y_td (high wind rain : Int) (σ : q_S) : q_S := y_end (y_hrs high wind rain (y_beg σ) 6)
def y_bs (σ : q_S) : Nat → Int
  | 0 => 0
  | n + 1 => y_bs σ n + σ 25 n
/-- sound: b bounds the waters -/
def y_ok (b k i v : Int) : Prop := (k = 3 → 0 ≤ v ∧ v ≤ b) ∧ (k = 2 → 0 ≤ v ∧ v ≤ 60) ∧ (k = 20 → 0 ≤ v ∧ v ≤ 99) ∧ (k = 18 → 0 ≤ v ∧ v < 30) ∧ (k = 28 → 0 ≤ v ∧ v < 30) ∧ (k = 25 → v = 0 ∨ v = 1) ∧ (k = 1 → i = 5 ∨ i = 6 → 0 ≤ v ∧ v < 1000000) ∧ (k = 17 → i = 9 → 0 ≤ v ∧ v ≤ 24) ∧ (k = 27 → i = 2 → 0 ≤ v ∧ v ≤ 6) ∧ (k = 5 → 0 ≤ v ∧ v ≤ 9) ∧ (k = 21 → 0 ≤ v ∧ v ≤ 3) ∧ (k = 22 ∨ k = 23 → -2147483648 ≤ v ∧ v ≤ 2147483647)
def y_S (b : Int) (σ : q_S) : Prop := ∀ k i, y_ok b k i (σ k i)
section Y1
variable {b : Int} {σ : q_S}
theorem S3 (h : y_S b σ) (i : Int) : 0 ≤ σ 3 i ∧ σ 3 i ≤ b := (h 3 i).1 rfl
theorem S2 (h : y_S b σ) (i : Int) : 0 ≤ σ 2 i ∧ σ 2 i ≤ 60 := (h 2 i).2.1 rfl
theorem S20 (h : y_S b σ) (i : Int) : 0 ≤ σ 20 i ∧ σ 20 i ≤ 99 := (h 20 i).2.2.1 rfl
theorem S18 (h : y_S b σ) (i : Int) : 0 ≤ σ 18 i ∧ σ 18 i < 30 := (h 18 i).2.2.2.1 rfl
theorem S28 (h : y_S b σ) (i : Int) : 0 ≤ σ 28 i ∧ σ 28 i < 30 := (h 28 i).2.2.2.2.1 rfl
theorem S25 (h : y_S b σ) (i : Int) : σ 25 i = 0 ∨ σ 25 i = 1 := (h 25 i).2.2.2.2.2.1 rfl
theorem S15 (h : y_S b σ) : 0 ≤ σ 1 5 ∧ σ 1 5 < 1000000 := (h 1 5).2.2.2.2.2.2.1 rfl (Or.inl rfl)
theorem S16 (h : y_S b σ) : 0 ≤ σ 1 6 ∧ σ 1 6 < 1000000 := (h 1 6).2.2.2.2.2.2.1 rfl (Or.inr rfl)
theorem S17 (h : y_S b σ) : 0 ≤ σ 17 9 ∧ σ 17 9 ≤ 24 := (h 17 9).2.2.2.2.2.2.2.1 rfl rfl
theorem S27 (h : y_S b σ) : 0 ≤ σ 27 2 ∧ σ 27 2 ≤ 6 := (h 27 2).2.2.2.2.2.2.2.2.1 rfl rfl
theorem S5 (h : y_S b σ) (i : Int) : 0 ≤ σ 5 i ∧ σ 5 i ≤ 9 := (h 5 i).2.2.2.2.2.2.2.2.2.1 rfl
theorem S21 (h : y_S b σ) (i : Int) : 0 ≤ σ 21 i ∧ σ 21 i ≤ 3 := (h 21 i).2.2.2.2.2.2.2.2.2.2.1 rfl
theorem S22 (h : y_S b σ) (i : Int) : -2147483648 ≤ σ 22 i ∧ σ 22 i ≤ 2147483647 := (h 22 i).2.2.2.2.2.2.2.2.2.2.2 (Or.inl rfl)
theorem S23 (h : y_S b σ) (i : Int) : -2147483648 ≤ σ 23 i ∧ σ 23 i ≤ 2147483647 := (h 23 i).2.2.2.2.2.2.2.2.2.2.2 (Or.inr rfl)
theorem S_up {k i v : Int} (h : y_S b σ) (ho : y_ok b k i v) : y_S b (q_up σ k i v) := by
  intro k' i'
  unfold q_up
  by_cases e : k' = k
  · rw [if_pos e]
    by_cases e2 : i' = i
    · rw [if_pos e2, e, e2]; exact ho
    · rw [if_neg e2]; exact h k' i'
  · rw [if_neg e]; exact h k' i'
theorem S_fr {k i v : Int} (h : y_S b σ) (hk : k ≠ 3 ∧ k ≠ 2 ∧ k ≠ 20 ∧ k ≠ 18 ∧ k ≠ 28 ∧ k ≠ 25 ∧ k ≠ 5 ∧ k ≠ 21 ∧ k ≠ 22 ∧ k ≠ 23 ∧ ¬ (k = 1 ∧ (i = 5 ∨ i = 6)) ∧ ¬ (k = 17 ∧ i = 9) ∧ ¬ (k = 27 ∧ i = 2)) : y_S b (q_up σ k i v) := S_up h (by unfold y_ok; omega)
theorem S_mo {b' : Int} (h : y_S b σ) (hb : b ≤ b') : y_S b' σ := fun k i => ⟨fun e => by have := (h k i).1 e; omega, (h k i).2⟩
theorem S_sea {c v : Int} (h : y_S b σ) (hv : 0 ≤ v) : y_S (b + v) (y_sea σ c v) := by
  have h3 := S3 h c
  have h5 := S15 h
  unfold y_sea
  refine S_fr (S_up (S_up (S_mo h (by omega)) ?_) ?_) (by omega)
  all_goals (unfold y_ok; omega)
theorem S_out {c v : Int} (h : y_S b σ) (hv : 0 ≤ v) : y_S b (y_out σ c v) := by
  have h3 := S3 h c
  have h5 := S16 h
  unfold y_out
  refine S_up (S_up h ?_) ?_
  all_goals (unfold y_ok; omega)
theorem S_wear {r v : Int} (h : y_S b σ) (hv : 0 ≤ v) : y_S b (y_wear σ r v) := by
  have h3 := S20 h r
  have hi := q_w32_in (σ 23 r + min v (σ 20 r))
  unfold q_i32 at hi
  unfold y_wear
  refine S_up (S_up h ?_) ?_
  all_goals (unfold y_ok; omega)
theorem y_rst_in {kd x : Int} (hx : 0 ≤ x) : 0 ≤ y_rst kd x ∧ y_rst kd x ≤ x := by unfold y_rst; split <;> omega
theorem y_wof_in {kd wind ov : Int} (hw : 0 ≤ wind ∧ wind ≤ 3) : 0 ≤ y_wof kd wind ov ∧ y_wof kd wind ov ≤ 6 := by
  unfold y_wof
  repeat' split
  all_goals omega
theorem S_brk {r : Int} (h : y_S b σ) : y_S b (y_brk σ r) := by
  have h3 := S20 h r
  have h4 := y_rst_in (kd := σ 19 r) h3.1
  have hi := q_w32_in (σ 22 r + 1)
  unfold q_i32 at hi
  unfold y_brk
  refine S_up (S_up (S_wear h (by omega)) ?_) ?_
  all_goals (unfold y_ok; omega)
theorem S_m1 {r sea : Int} (h : y_S b σ) (hs : sea ≤ 120) : y_S (b + 1200) (y_m1 r sea σ) := by
  have h3 := S20 h r
  unfold y_m1
  split
  · exact S_mo (S_sea h (by omega)) (by omega)
  · exact S_mo h (by omega)
theorem S_meet {r sea wind : Int} (h : y_S b σ) (hs : sea ≤ 120) (hw : 0 ≤ wind ∧ wind ≤ 3) : y_S (b + 1200) (y_meet r sea wind σ) := by
  have h1 := S_m1 (r := r) h hs
  unfold y_meet
  split
  · exact S_brk h1
  · split
    · exact S_wear h1 (y_wof_in hw).1
    · exact h1
theorem S_meets {sea wind : Int} (h : y_S b σ) (hs : sea ≤ 120) (hw : 0 ≤ wind ∧ wind ≤ 3) : ∀ n : Nat, y_S (b + 1200 * n) (y_meets sea wind σ n)
  | 0 => S_mo h (by omega)
  | n + 1 => S_mo (S_meet (S_meets h hs hw n) hs hw) (by omega)
theorem S_slu {r sea : Int} (h : y_S b σ) (hs : 0 ≤ sea ∧ sea ≤ 120) : y_S (b + 600) (y_slu r sea σ) := by
  have h3 := S3 h (σ 18 r)
  have h2 := S2 h (σ 18 r)
  unfold y_slu
  split
  · rename_i g; exact S_mo (S_out h (by omega)) (by omega)
  · split
    · rename_i g; refine S_mo (S_sea h (by omega)) ?_
      have g1 := g.1
      unfold y_ab at g1 ⊢
      omega
    · exact S_mo h (by omega)
theorem S_slus {sea : Int} (h : y_S b σ) (hs : 0 ≤ sea ∧ sea ≤ 120) : ∀ n : Nat, y_S (b + 600 * n) (y_slus sea σ n)
  | 0 => S_mo h (by omega)
  | n + 1 => S_mo (S_slu (S_slus h hs n) hs) (by omega)
end Y1
section Y2
variable {b : Int} {σ : q_S}
theorem y_rn_lt {v : Int} : ∀ (n : Nat) (j : Int), y_rn v σ n 3 j = if 0 ≤ j ∧ j < n then σ 3 j + v else σ 3 j
  | 0, j => by unfold y_rn; rw [if_neg (by omega)]
  | n + 1, j => by
    unfold y_rn
    by_cases e : j = n
    · rw [e, q_ue, y_rn_lt n, if_neg (by omega), if_pos (by omega)]
    · rw [q_ui e, y_rn_lt n]
      split
      · rw [if_pos (by omega)]
      · rw [if_neg (by omega)]
theorem y_rn_o {v : Int} {k i : Int} (hk : k ≠ 3) : ∀ n : Nat, y_rn v σ n k i = σ k i
  | 0 => rfl
  | n + 1 => by unfold y_rn; rw [q_un hk]; exact y_rn_o hk n
theorem S_rn {v : Int} (h : y_S b σ) (hv : 0 ≤ v) (n : Nat) : y_S (b + v) (y_rn v σ n) := fun k i => by
  by_cases e : k = 3
  · subst e
    rw [y_rn_lt]
    have h3 := S3 h i
    unfold y_ok
    split <;> omega
  · rw [y_rn_o e]; exact S_mo h (by omega) k i
theorem S_rain {v : Int} (h : y_S b σ) (hv : 0 ≤ v) : y_S (b + v) (y_rain v σ) := by
  unfold y_rain
  refine S_up (S_rn h hv 30) ?_
  unfold y_ok; omega
def y_P (b : Int) (σ : q_S) : Prop := ∀ i, 100 * σ 2 i + σ 3 i ≤ b
theorem S_P (h : y_S b σ) : y_S (b + 6000) σ ∧ y_P (b + 6000) σ := ⟨S_mo h (by omega), fun i => by have := S3 h i; have := S2 h i; omega⟩
theorem S_flow {a c v : Int} (h : y_S b σ) (hP : y_P b σ) (hac : c ≠ a) (hv : 0 ≤ v) (hd : v ≤ 100 * (σ 2 a - σ 2 c) + σ 3 a - σ 3 c) : y_S b (y_flow σ a c v) ∧ y_P b (y_flow σ a c v) := by
  have ha := S3 h a
  have hc := S3 h c
  have la := S2 h a
  have lc := S2 h c
  have pa := hP a
  have pc := hP c
  have e3 : q_up σ 3 a (σ 3 a - min v (σ 3 a)) 3 c = σ 3 c := q_ui hac
  unfold y_flow
  rw [e3]
  refine ⟨S_up (S_up h ?_) ?_, fun i => ?_⟩
  · unfold y_ok; omega
  · unfold y_ok; omega
  · rw [q_un (k' := 2) (by decide), q_un (k' := 2) (by decide)]
    by_cases e1 : i = c
    · rw [e1, q_ue]; omega
    · rw [q_ui e1]
      by_cases e2 : i = a
      · rw [e2, q_ue]; omega
      · rw [q_ui e2]; exact hP i
theorem S_set {a c : Int} (h : y_S b σ) (hP : y_P b σ) (hac : c ≠ a) : y_S b (y_set σ a c) ∧ y_P b (y_set σ a c) := by
  unfold y_set
  split
  · exact ⟨h, hP⟩
  · split
    · refine S_flow h hP hac (by omega) ?_
      unfold y_abv at *
      omega
    · refine S_flow h hP (fun e => hac e.symm) (by omega) ?_
      unfold y_abv at *
      omega
theorem q_bes_ne {c w : Int} : q_bes c w ≠ c ∨ c = -1 := by
  unfold q_bes
  repeat' split
  all_goals omega
theorem S_spr (h : y_S b σ) (hP : y_P b σ) : ∀ n : Nat, y_S b (y_spr σ n) ∧ y_P b (y_spr σ n)
  | 0 => ⟨h, hP⟩
  | n + 1 => by
    obtain ⟨h1, p1⟩ := S_spr h hP n
    have a1 : q_bes n 1 ≠ (n : Int) := (q_bes_ne (c := n) (w := 1)).elim (fun e => e) (fun e => by omega)
    have a3 : q_bes n 3 ≠ (n : Int) := (q_bes_ne (c := n) (w := 3)).elim (fun e => e) (fun e => by omega)
    obtain ⟨h2, p2⟩ := S_set h1 p1 a1
    exact S_set h2 p2 a3
theorem S_pk (h : y_S b σ) : ∀ n : Nat, y_S b (y_pk σ n)
  | 0 => h
  | n + 1 => S_fr (S_pk h n) (by omega)
theorem y_ref_in {c : Int} (hc : 0 ≤ c ∧ c < 30) : ∀ w : Nat, 0 ≤ y_ref σ c w ∧ y_ref σ c w < 30
  | 0 => hc
  | w + 1 => by
    unfold y_ref
    split
    · have := q_bes_in (c := c) (w := w) hc; omega
    · exact y_ref_in hc w
theorem S_f1 {i : Int} (h : y_S b σ) : y_S b (y_f1 i σ) := by
  unfold y_f1
  split
  · refine S_up h ?_
    have := y_ref_in (σ := σ) (S28 h i) 4
    unfold y_ok; omega
  · exact h
theorem S_fl {i : Int} (h : y_S b σ) : y_S b (y_fl i σ) := by
  unfold y_fl
  split
  · exact h
  · exact S_fr (S_f1 h) (by omega)
theorem S_fls (h : y_S b σ) : ∀ n : Nat, y_S b (y_fls σ n)
  | 0 => h
  | n + 1 => S_fl (S_fls h n)
theorem S_hour {sea wind rain : Int} (h : y_S b σ) (hs : 0 ≤ sea ∧ sea ≤ 120) (hw : 0 ≤ wind ∧ wind ≤ 3) (hr : 0 ≤ rain ∧ rain ≤ 50) : y_S (b + 49250) (y_hour sea wind rain σ) := by
  have h17 := S17 h
  unfold y_hour
  have a1 := S_slus (sea := sea) (S_meets (sea := sea) (wind := wind) (S_rain h hr.1) hs.2 hw (σ 17 9).toNat) hs (σ 17 9).toNat
  have a2 := S_P (S_mo (b' := b + 43250) a1 (by omega))
  exact S_fls (S_pk (S_mo (S_spr a2.1 a2.2 30).1 (by omega)) 30) _
theorem S_fill4 {v : Int} (h : y_S b σ) : ∀ n : Nat, y_S b (y_fill 4 v σ n)
  | 0 => h
  | n + 1 => S_fr (S_fill4 h n) (by omega)
theorem S_fill25 (h : y_S b σ) : ∀ n : Nat, y_S b (y_fill 25 0 σ n)
  | 0 => h
  | n + 1 => S_up (S_fill25 h n) (by unfold y_ok; omega)
theorem S_beg (h : y_S b σ) : y_S b (y_beg σ) := S_fill25 (S_fr (S_fill4 h 30) (by omega)) 24
theorem y_qu_in {high : Int} (hh : 0 ≤ high ∧ high ≤ 120) {h : Nat} (h6 : h < 6) : 0 ≤ high * y_qu h / 4 ∧ high * y_qu h / 4 ≤ 120 := by
  have : h = 0 ∨ h = 1 ∨ h = 2 ∨ h = 3 ∨ h = 4 ∨ h = 5 := by omega
  rcases this with rfl | rfl | rfl | rfl | rfl | rfl
  all_goals (unfold y_qu; first | rw [if_pos (by decide)] | rw [if_neg (by decide)])
  all_goals omega
theorem S_hrs {high wind rain : Int} (h : y_S b σ) (hh : 0 ≤ high ∧ high ≤ 120) (hw : 0 ≤ wind ∧ wind ≤ 3) (hr : 0 ≤ rain ∧ rain ≤ 50) : ∀ n : Nat, n ≤ 6 → y_S (b + 49250 * n) (y_hrs high wind rain σ n)
  | 0, _ => S_mo h (by omega)
  | n + 1, hn => S_mo (S_hour (S_hrs h hh hw hr n (by omega)) (y_qu_in hh (by omega)) hw hr) (by omega)
theorem S_sl (h : y_S b σ) : ∀ n : Nat, y_S b (y_sl σ n)
  | 0 => h
  | n + 1 => S_up (S_sl h n) (by have := S5 (S_sl h n) n; unfold y_ok; omega)
theorem S_end (h : y_S b σ) : y_S b (y_end σ) := by
  unfold y_end
  split
  · exact h
  · exact S_sl h 30
theorem S_td {high wind rain : Int} (h : y_S b σ) (hh : 0 ≤ high ∧ high ≤ 120) (hw : 0 ≤ wind ∧ wind ≤ 3) (hr : 0 ≤ rain ∧ rain ≤ 50) : y_S (b + 300000) (y_td high wind rain σ) := S_mo (S_end (S_hrs (S_beg h) hh hw hr 6 (by omega))) (by omega)
theorem y_bs_in (h : y_S b σ) : ∀ n : Nat, 0 ≤ y_bs σ n ∧ y_bs σ n ≤ n
  | 0 => by unfold y_bs; omega
  | n + 1 => by
    have := y_bs_in h n
    have := S25 h n
    unfold y_bs
    omega
end Y2
