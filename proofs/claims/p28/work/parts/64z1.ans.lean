def v_due (day v since : Int) : Int := if v ≤ q_w32 (day - (if since = -1 then 0 else since)) then 1 else 0
theorem v_due_01 {day v since : Int} : v_due day v since = 0 ∨ v_due day v since = 1 := by
  unfold v_due
  generalize q_w32 (day - (if since = -1 then 0 else since)) = s
  split
  · exact Or.inr rfl
  · exact Or.inl rfl
def v_ab (a b c d e f g h w : Int) : Int := if w = 0 then a else if w = 1 then b else if w = 2 then c else if w = 3 then d else if w = 4 then e else if w = 5 then f else if w = 6 then g else if w = 7 then h else -1
def v_f4 (a b c d w : Int) : Int := if w = 0 then a else if w = 1 then b else if w = 2 then c else if w = 3 then d else -1
def v_fi (f e b day : Int) : Int := q_w32 (f * q_w32 ((if e = -1 then day else e) - b))
/-- what an owner owes of the first k faults -/
def v_fs (O F E B : Int → Int) (day o : Int) : Nat → Int
  | 0 => 0
  | k + 1 => v_fs O F E B day o k + (if O k = o then v_fi (F k) (E k) (B k) day else 0)
theorem v_fi_b {f e b day : Int} (hf : 0 ≤ f ∧ f ≤ 999) (he : -1 ≤ e ∧ e ≤ 9999) (hb : 0 ≤ b ∧ b ≤ 9999) (hd : 0 ≤ day ∧ day ≤ 9999) : -9989001 ≤ v_fi f e b day ∧ v_fi f e b day ≤ 9989001 := by
  unfold v_fi
  have hx : -9999 ≤ (if e = -1 then day else e) - b ∧ (if e = -1 then day else e) - b ≤ 9999 := by split <;> omega
  generalize (if e = -1 then day else e) - b = x at hx ⊢
  rw [q_w32_id (x := x) (by omega) (by omega)]
  have h1 : f * x ≤ 9989001 := by
    by_cases hx0 : 0 ≤ x
    · exact Int.le_trans (Int.mul_le_mul hf.2 hx.2 hx0 (by decide)) (by decide)
    · have := Int.mul_nonpos_of_nonneg_of_nonpos hf.1 (show x ≤ 0 by omega)
      omega
  have h2 : -9989001 ≤ f * x := by
    by_cases hx0 : 0 ≤ x
    · have := Int.mul_nonneg hf.1 hx0
      omega
    · have h3 : f * (-x) ≤ 9989001 := Int.le_trans (Int.mul_le_mul hf.2 (show -x ≤ 9999 by omega) (by omega) (by decide)) (by decide)
      rw [Int.mul_neg] at h3
      omega
  rw [q_w32_id] <;> omega
theorem v_fs_b {O F E B : Int → Int} {day o : Int} (hd : 0 ≤ day ∧ day ≤ 9999) : ∀ k : Nat, (∀ j : Int, 0 ≤ j → j < k → (0 ≤ F j ∧ F j ≤ 999) ∧ (-1 ≤ E j ∧ E j ≤ 9999) ∧ (0 ≤ B j ∧ B j ≤ 9999)) → -(9989001 * (k : Int)) ≤ v_fs O F E B day o k ∧ v_fs O F E B day o k ≤ 9989001 * (k : Int)
  | 0, _ => by show -(9989001 * ((0 : Nat) : Int)) ≤ 0 ∧ (0 : Int) ≤ 9989001 * ((0 : Nat) : Int); omega
  | k + 1, h => by
    have ih := v_fs_b (O := O) (F := F) (E := E) (B := B) (day := day) (o := o) hd k (fun j h0 h1 => h j h0 (by omega))
    have hk := h k (by omega) (by omega)
    have b := v_fi_b (day := day) hk.1 hk.2.1 hk.2.2 hd
    have e : v_fs O F E B day o (k + 1) = v_fs O F E B day o k + (if O k = o then v_fi (F k) (E k) (B k) day else 0) := rfl
    rw [e]
    split <;> omega
theorem v_fs_c {O F E B O' F' E' B' : Int → Int} {day o : Int} : ∀ k : Nat, (∀ j : Int, 0 ≤ j → j < k → O' j = O j ∧ F' j = F j ∧ E' j = E j ∧ B' j = B j) → v_fs O' F' E' B' day o k = v_fs O F E B day o k
  | 0, _ => rfl
  | k + 1, h => by
    have ih := v_fs_c (O := O) (F := F) (E := E) (B := B) (O' := O') (F' := F') (E' := E') (B' := B') (day := day) (o := o) k (fun j h0 h1 => h j h0 (by omega))
    obtain ⟨h1, h2, h3, h4⟩ := h k (by omega) (by omega)
    have e : v_fs O F E B day o (k + 1) = v_fs O F E B day o k + (if O k = o then v_fi (F k) (E k) (B k) day else 0) := rfl
    have e' : v_fs O' F' E' B' day o (k + 1) = v_fs O' F' E' B' day o k + (if O' k = o then v_fi (F' k) (E' k) (B' k) day else 0) := rfl
    rw [e, e', ih, h1, h2, h3, h4]
def v_al (f : Int → Int) : Nat → Int
  | 0 => 0
  | k + 1 => q_w32 (v_al f k + (if f k = 0 then 1 else 0))
def v_op (f : Int → Int) : Nat → Int
  | 0 => 0
  | k + 1 => q_w32 (v_op f k + (if f k = -1 then 0 else 1))
def v_sw (f : Int → Int) : Nat → Int
  | 0 => 0
  | k + 1 => q_w32 (v_sw f k + f k)
theorem v_al_c {f f' : Int → Int} : ∀ k : Nat, (∀ j : Int, 0 ≤ j → j < k → f' j = f j) → v_al f' k = v_al f k
  | 0, _ => rfl
  | k + 1, h => by
    have e : v_al f (k + 1) = q_w32 (v_al f k + (if f k = 0 then 1 else 0)) := rfl
    have e' : v_al f' (k + 1) = q_w32 (v_al f' k + (if f' k = 0 then 1 else 0)) := rfl
    rw [e, e', v_al_c k (fun j h0 h1 => h j h0 (by omega)), h k (by omega) (by omega)]
theorem v_sw_c {f f' : Int → Int} : ∀ k : Nat, (∀ j : Int, 0 ≤ j → j < k → f' j = f j) → v_sw f' k = v_sw f k
  | 0, _ => rfl
  | k + 1, h => by
    have e : v_sw f (k + 1) = q_w32 (v_sw f k + f k) := rfl
    have e' : v_sw f' (k + 1) = q_w32 (v_sw f' k + f' k) := rfl
    rw [e, e', v_sw_c k (fun j h0 h1 => h j h0 (by omega)), h k (by omega) (by omega)]
theorem v_op_c {f f' : Int → Int} : ∀ k : Nat, (∀ j : Int, 0 ≤ j → j < k → f' j = f j) → v_op f' k = v_op f k
  | 0, _ => rfl
  | k + 1, h => by
    have e : v_op f (k + 1) = q_w32 (v_op f k + (if f k = -1 then 0 else 1)) := rfl
    have e' : v_op f' (k + 1) = q_w32 (v_op f' k + (if f' k = -1 then 0 else 1)) := rfl
    rw [e, e', v_op_c k (fun j h0 h1 => h j h0 (by omega)), h k (by omega) (by omega)]
theorem v_op_b {f : Int → Int} : ∀ k : Nat, (k : Int) ≤ 1000 → 0 ≤ v_op f k ∧ v_op f k ≤ k := by
  intro k
  induction k with
  | zero => intro _; exact ⟨Int.le_refl _, Int.le_refl _⟩
  | succ k ih0 =>
    intro hk
    have ih := ih0 (by omega)
    have e : v_op f (k + 1) = q_w32 (v_op f k + (if f k = -1 then 0 else 1)) := rfl
    rw [e]
    split
    · rw [q_w32_id] <;> omega
    · rw [q_w32_id] <;> omega
/-- what stands behind the last rod counts nothing -/
theorem v_op_x {f : Int → Int} {n : Nat} : ∀ m : Nat, ((n + m : Nat) : Int) ≤ 1000 → (∀ j : Int, (n : Int) ≤ j → j < ((n + m : Nat) : Int) → f j = -1) → v_op f (n + m) = v_op f n := by
  intro m
  induction m with
  | zero => intro _ _; rfl
  | succ m ih =>
    intro hm h
    have e : v_op f (n + (m + 1)) = q_w32 (v_op f (n + m) + (if f ((n + m : Nat) : Int) = -1 then 0 else 1)) := rfl
    have b := v_op_b (f := f) (n + m) (by omega)
    rw [e, if_pos (h _ (by omega) (by omega)), q_w32_id (by omega) (by omega), ih (by omega) (fun j h0 h1 => h j h0 (by omega))]
    omega
section A1
variable {L : Nat} {xs : Int → Int}

theorem x_due {r : Int} {σ : q_S} {K : q_R → q_S → Prop} (rc : y_RC σ) (hr : 0 ≤ r ∧ r < 24) (hK : K (some (0, v_due (σ 0 10) (σ (v_cu σ (q_cof σ (σ 0 10) (σ 34 2).toNat)) 3) (σ 24 r))) σ) : q_K L xs i_A_isDue [(2, 0), (0, r)] σ K := by
  have hcu : q_cu (v_cu σ (q_cof σ (σ 0 10) (σ 34 2).toNat)) := v_cu_q rc.2.1.2.2
  unfold v_due at hK
  have go : ∀ s, s = (if σ 24 r = -1 then 0 else σ 24 r) → q_E L xs k_A_isDue (15, [(2, 0), (0, r), (0, s)], [], σ) K := fun s es => by
    rw [← es] at hK
    refine q_go1 60 15 [21] (fun cl ev hcl hev => ?_)
    show cl _ _ _ _
    refine hcl _ _ _ _ (x_now rc ?_)
    refine hev _ ?_
    generalize v_cu σ (q_cof σ (σ 0 10) (σ 34 2).toNat) = q at hK hcu ⊢
    unfold q_cu at hcu
    rcases hcu with rfl | rfl | rfl | rfl | rfl | rfl | rfl | rfl | rfl | rfl | rfl | rfl | rfl
    all_goals
      refine q_go1 60 21 [] (fun cl ev hcl hev => ?_)
      refine And.intro (fun g => ?_) (fun g => ?_)
      · rw [if_neg (by omega)] at hK
        exact hK
      · rw [if_pos (by omega)] at hK
        exact hK
  refine q_call k_A_isDue 3 rfl ?_
  show q_E L xs k_A_isDue (0, [(2, 0), (0, r), (9, 0)], [], σ) K
  refine q_go1 60 0 [15] (fun cl ev hcl hev => ?_)
  refine And.intro (by omega) ?_
  refine And.intro (fun g => ?_) (fun g => ?_)
  · refine And.intro (by omega) ?_
    exact hev _ (go _ (by rw [if_neg g]))
  · exact hev _ (go _ (by rw [if_pos (Decidable.not_not.mp g)]))
theorem z_due {r : Int} {σ : q_S} {K : q_R → q_S → Prop} (hC0 : 0 ≤ σ 100 31 ∧ σ 100 31 ≤ 12) (hr : 0 ≤ r ∧ r < 24) (hK : K (some (0, v_due (σ 100 25) (if (q_cof σ (σ 100 25) (σ 100 31).toNat) = -1 then 99 else σ 126 (q_cof σ (σ 100 25) (σ 100 31).toNat)) (σ 118 r))) σ) : q_K L xs i_M_isDue [(2, 100), (0, r)] σ K := by
  have hin := q_cof_in (σ := σ) (d := σ 100 25) (σ 100 31).toNat
  unfold v_due at hK
  have go : ∀ s, s = (if σ 118 r = -1 then 0 else σ 118 r) → q_E L xs k_M_isDue (13, [(2, 100), (0, r), (0, s)], [], σ) K := fun s es => by
    rw [← es] at hK
    refine q_go1 60 13 [] (fun cl ev hcl hev => ?_)
    show cl _ _ _ _
    refine hcl _ _ _ _ (c_M_customOf hC0 ?_)
    show cl _ _ _ _
    refine hcl _ _ _ _ (c_M_vOf (by omega) (fun gc => ?_) (fun gc => ?_))
    · rw [if_pos gc] at hK
      refine And.intro (fun g => ?_) (fun g => ?_)
      · rw [if_neg (by omega)] at hK
        exact hK
      · rw [if_pos (by omega)] at hK
        exact hK
    · rw [if_neg (show ¬ (q_cof σ (σ 100 25) (σ 100 31).toNat) = -1 by omega)] at hK
      refine And.intro (fun g => ?_) (fun g => ?_)
      · rw [if_neg (by omega)] at hK
        exact hK
      · rw [if_pos (by omega)] at hK
        exact hK
  refine q_call k_M_isDue 3 rfl ?_
  show q_E L xs k_M_isDue (0, [(2, 100), (0, r), (9, 0)], [], σ) K
  refine q_go1 60 0 [13] (fun cl ev hcl hev => ?_)
  refine And.intro (by omega) ?_
  refine And.intro (fun g => ?_) (fun g => ?_)
  · refine And.intro (by omega) ?_
    exact hev _ (go _ (by rw [if_neg g]))
  · exact hev _ (go _ (by rw [if_pos (Decidable.not_not.mp g)]))
theorem x_about {r w : Int} {σ : q_S} {K : q_R → q_S → Prop} (hb : 0 ≤ σ 17 9 ∧ σ 17 9 ≤ 24) (rc : y_RC σ) (hN : ¬ (0 ≤ r ∧ r < σ 17 9) → K (some (0, -1)) σ) (hK : (0 ≤ r ∧ r < σ 17 9) → K (some (0, v_ab (σ 18 r) (σ 19 r) (σ 20 r) (σ 21 r) (σ 22 r) (σ 23 r) (σ 24 r) (v_due (σ 0 10) (σ (v_cu σ (q_cof σ (σ 0 10) (σ 34 2).toNat)) 3) (σ 24 r)) w)) σ) : q_K L xs i_A_about [(2, 0), (0, r), (0, w)] σ K := by
  refine q_call k_A_about 3 rfl ?_
  show q_E L xs k_A_about (0, [(2, 0), (0, r), (0, w)], [], σ) K
  refine q_go1 200 0 [] (fun cl ev hcl hev => ?_)
  show cl _ _ _ _
  refine hcl _ _ _ _ (c_A_isRod hb (fun gr => ?_) (fun gr => ?_))
  · refine And.intro (fun _ => ?_) (fun z => absurd (show (1 : Int) ≠ 0 by decide) z)
    have hK := hK gr
    unfold v_ab at hK
    refine And.intro (fun e => ?_) (fun e => ?_)
    · rw [if_pos e] at hK
      exact And.intro (by omega) hK
    · rw [if_neg e] at hK
      refine And.intro (fun e => ?_) (fun e => ?_)
      · rw [if_pos e] at hK
        exact And.intro (by omega) hK
      · rw [if_neg e] at hK
        refine And.intro (fun e => ?_) (fun e => ?_)
        · rw [if_pos e] at hK
          exact And.intro (by omega) hK
        · rw [if_neg e] at hK
          refine And.intro (fun e => ?_) (fun e => ?_)
          · rw [if_pos e] at hK
            exact And.intro (by omega) hK
          · rw [if_neg e] at hK
            refine And.intro (fun e => ?_) (fun e => ?_)
            · rw [if_pos e] at hK
              exact And.intro (by omega) hK
            · rw [if_neg e] at hK
              refine And.intro (fun e => ?_) (fun e => ?_)
              · rw [if_pos e] at hK
                exact And.intro (by omega) hK
              · rw [if_neg e] at hK
                refine And.intro (fun e => ?_) (fun e => ?_)
                · rw [if_pos e] at hK
                  exact And.intro (by omega) hK
                · rw [if_neg e] at hK
                  refine And.intro (fun e => ?_) (fun e => ?_)
                  · rw [if_pos e] at hK
                    show cl _ _ _ _
                    refine hcl _ _ _ _ (x_due rc (by omega) ?_)
                    have d01 := v_due_01 (day := (σ 0 10)) (v := (σ (v_cu σ (q_cof σ (σ 0 10) (σ 34 2).toNat)) 3)) (since := (σ 24 r))
                    refine And.intro (fun z => ?_) (fun z => ?_)
                    · rw [z] at hK
                      exact hK
                    · rw [show v_due (σ 0 10) (σ (v_cu σ (q_cof σ (σ 0 10) (σ 34 2).toNat)) 3) (σ 24 r) = 1 by omega] at hK
                      exact hK
                  · rw [if_neg e] at hK
                    exact hK
  · exact And.intro (fun z => absurd rfl z) (fun _ => hN gr)
theorem z_about {r w : Int} {σ : q_S} {K : q_R → q_S → Prop} (hb : 0 ≤ σ 100 13 ∧ σ 100 13 ≤ 24) (hC0 : 0 ≤ σ 100 31 ∧ σ 100 31 ≤ 12) (hN : ¬ (0 ≤ r ∧ r < σ 100 13) → K (some (0, -1)) σ) (hK : (0 ≤ r ∧ r < σ 100 13) → K (some (0, v_ab (σ 112 r) (σ 113 r) (σ 114 r) (σ 115 r) (σ 116 r) (σ 117 r) (σ 118 r) (v_due (σ 100 25) (if (q_cof σ (σ 100 25) (σ 100 31).toNat) = -1 then 99 else σ 126 (q_cof σ (σ 100 25) (σ 100 31).toNat)) (σ 118 r)) w)) σ) : q_K L xs i_M_about [(2, 100), (0, r), (0, w)] σ K := by
  refine q_call k_M_about 3 rfl ?_
  show q_E L xs k_M_about (0, [(2, 100), (0, r), (0, w)], [], σ) K
  refine q_go1 200 0 [] (fun cl ev hcl hev => ?_)
  show cl _ _ _ _
  refine hcl _ _ _ _ (c_M_isRod hb (fun gr => ?_) (fun gr => ?_))
  · refine And.intro (fun _ => ?_) (fun z => absurd (show (1 : Int) ≠ 0 by decide) z)
    have hK := hK gr
    unfold v_ab at hK
    refine And.intro (fun e => ?_) (fun e => ?_)
    · rw [if_pos e] at hK
      exact And.intro (by omega) hK
    · rw [if_neg e] at hK
      refine And.intro (fun e => ?_) (fun e => ?_)
      · rw [if_pos e] at hK
        exact And.intro (by omega) hK
      · rw [if_neg e] at hK
        refine And.intro (fun e => ?_) (fun e => ?_)
        · rw [if_pos e] at hK
          exact And.intro (by omega) hK
        · rw [if_neg e] at hK
          refine And.intro (fun e => ?_) (fun e => ?_)
          · rw [if_pos e] at hK
            exact And.intro (by omega) hK
          · rw [if_neg e] at hK
            refine And.intro (fun e => ?_) (fun e => ?_)
            · rw [if_pos e] at hK
              exact And.intro (by omega) hK
            · rw [if_neg e] at hK
              refine And.intro (fun e => ?_) (fun e => ?_)
              · rw [if_pos e] at hK
                exact And.intro (by omega) hK
              · rw [if_neg e] at hK
                refine And.intro (fun e => ?_) (fun e => ?_)
                · rw [if_pos e] at hK
                  exact And.intro (by omega) hK
                · rw [if_neg e] at hK
                  refine And.intro (fun e => ?_) (fun e => ?_)
                  · rw [if_pos e] at hK
                    show cl _ _ _ _
                    refine hcl _ _ _ _ (z_due hC0 (by omega) ?_)
                    have d01 := v_due_01 (day := (σ 100 25)) (v := (if (q_cof σ (σ 100 25) (σ 100 31).toNat) = -1 then 99 else σ 126 (q_cof σ (σ 100 25) (σ 100 31).toNat))) (since := (σ 118 r))
                    refine And.intro (fun z => ?_) (fun z => ?_)
                    · rw [z] at hK
                      exact hK
                    · rw [show v_due (σ 100 25) (if (q_cof σ (σ 100 25) (σ 100 31).toNat) = -1 then 99 else σ 126 (q_cof σ (σ 100 25) (σ 100 31).toNat)) (σ 118 r) = 1 by omega] at hK
                      exact hK
                  · rw [if_neg e] at hK
                    exact hK
  · exact And.intro (fun z => absurd rfl z) (fun _ => hN gr)
theorem a_6 {a b i : Int} {σ : q_S} (h : q_IN σ) (rt : y_RT i σ) (rc : y_RC σ) (rf : y_RF σ) : q_P2 L xs i_A_about [(2, 0), (0, a), (0, b)] i_M_about [(2, 100), (0, a), (0, b)] σ (fun x y _ => x = y) := by
  have e31 := rc.2.1.1
  have r6 := rc.2.1.2
  have e13 := Ms13 rt.2.1
  have e25 := Ms25 rt.2.1
  have hb := h.2.1.1
  have hin := q_cof_in (σ := σ) (d := σ 0 10) (σ 34 2).toNat
  refine x_about (by omega) rc (fun g => ⟨_, rfl, ?_⟩) (fun g => ⟨_, rfl, ?_⟩)
  · exact z_about hb (by omega) (fun _ => ⟨_, rfl, rfl⟩) (fun k => by exfalso; omega)
  · refine z_about hb (by omega) (fun k => by exfalso; omega) (fun _ => ⟨_, rfl, ?_⟩)
    have e118 := (rf.2.2.2.1 a g.1 g.2).2.1
    rw [M112 rt.2.1 a, M113 rt.2.1 a, M114 rt.2.1 a, M115 rt.2.1 a, M116 rt.2.1 a, M117 rt.2.1 a, e118, e25, e31, (v_cu_H rc (c := (q_cof σ (σ 0 10) (σ 34 2).toNat)) (by omega)).2.2.1]
theorem x_fine {f d : Int} {σ : q_S} {K : q_R → q_S → Prop} (hf : 0 ≤ f ∧ f < 60) (hK : K (some (0, v_fi (σ 93 f) (σ 91 f) (σ 90 f) d)) σ) : q_K L xs i_Faults_fineSoFar [(2, 88), (0, f), (0, d)] σ K := by
  unfold v_fi at hK
  have go : ∀ s, s = (if σ 91 f = -1 then d else σ 91 f) → q_E L xs k_Faults_fineSoFar (13, [(2, 88), (0, f), (0, d), (0, s)], [], σ) K := fun s es => by
    rw [← es] at hK
    refine q_go1 60 13 [] (fun cl ev hcl hev => ?_)
    exact And.intro (by omega) (And.intro (by omega) hK)
  refine q_call k_Faults_fineSoFar 4 rfl ?_
  show q_E L xs k_Faults_fineSoFar (0, [(2, 88), (0, f), (0, d), (9, 0)], [], σ) K
  refine q_go1 60 0 [13] (fun cl ev hcl hev => ?_)
  refine And.intro (by omega) ?_
  refine And.intro (fun g => ?_) (fun g => ?_)
  · refine And.intro (by omega) ?_
    exact hev _ (go _ (by rw [if_neg g]))
  · exact hev _ (go _ (by rw [if_pos (Decidable.not_not.mp g)]))
theorem x_fault {r w : Int} {σ : q_S} {K : q_R → q_S → Prop} (hb : 0 ≤ σ 17 9 ∧ σ 17 9 ≤ 24) (ho : -1 ≤ σ 95 r ∧ σ 95 r < 60) (hN : ¬ ((0 ≤ r ∧ r < σ 17 9) ∧ σ 95 r ≠ -1) → K (some (0, -1)) σ) (hK : ((0 ≤ r ∧ r < σ 17 9) ∧ σ 95 r ≠ -1) → K (some (0, v_f4 (σ 89 (σ 95 r)) (σ 90 (σ 95 r)) (σ 92 (σ 95 r)) (v_fi (σ 93 (σ 95 r)) (σ 91 (σ 95 r)) (σ 90 (σ 95 r)) (σ 0 10)) w)) σ) : q_K L xs i_A_fault [(2, 0), (0, r), (0, w)] σ K := by
  refine q_call k_A_fault 4 rfl ?_
  show q_E L xs k_A_fault (0, [(2, 0), (0, r), (0, w), (9, 0)], [], σ) K
  refine q_go1 200 0 [] (fun cl ev hcl hev => ?_)
  show cl _ _ _ _
  refine hcl _ _ _ _ (c_A_isRod hb (fun gr => ?_) (fun gr => ?_))
  · refine And.intro (fun z => absurd z (show ¬ (1 : Int) = 0 by decide)) (fun _ => ?_)
    refine And.intro (by omega) ?_
    refine And.intro (fun g => ?_) (fun g => hN (fun z => g z.2))
    have hK := hK ⟨gr, g⟩
    unfold v_f4 at hK
    refine And.intro (by omega) ?_
    refine And.intro (fun e => ?_) (fun e => ?_)
    · rw [if_pos e] at hK
      exact And.intro (by omega) hK
    · rw [if_neg e] at hK
      refine And.intro (fun e => ?_) (fun e => ?_)
      · rw [if_pos e] at hK
        exact And.intro (by omega) hK
      · rw [if_neg e] at hK
        refine And.intro (fun e => ?_) (fun e => ?_)
        · rw [if_pos e] at hK
          exact And.intro (by omega) hK
        · rw [if_neg e] at hK
          refine And.intro (fun e => ?_) (fun e => ?_)
          · rw [if_pos e] at hK
            show cl _ _ _ _
            refine hcl _ _ _ _ (x_fine (by omega) ?_)
            exact hK
          · rw [if_neg e] at hK
            exact hK
  · exact And.intro (fun _ => hN (fun z => gr z.1)) (fun z => absurd rfl z)
theorem z_fault {r w : Int} {σ : q_S} {K : q_R → q_S → Prop} (hb : 0 ≤ σ 100 13 ∧ σ 100 13 ≤ 24) (ho : (0 ≤ r ∧ r < σ 100 13) → -1 ≤ σ 119 r ∧ σ 119 r < 60) (hN : ¬ ((0 ≤ r ∧ r < σ 100 13) ∧ σ 119 r ≠ -1) → K (some (0, -1)) σ) (hK : ((0 ≤ r ∧ r < σ 100 13) ∧ σ 119 r ≠ -1) → K (some (0, v_f4 (σ 133 (σ 119 r)) (σ 134 (σ 119 r)) (σ 136 (σ 119 r)) (v_fi (σ 138 (σ 119 r)) (σ 135 (σ 119 r)) (σ 134 (σ 119 r)) (σ 100 25)) w)) σ) : q_K L xs i_M_fault [(2, 100), (0, r), (0, w)] σ K := by
  refine q_call k_M_fault 4 rfl ?_
  show q_E L xs k_M_fault (0, [(2, 100), (0, r), (0, w), (9, 0)], [], σ) K
  refine q_go1 200 0 [] (fun cl ev hcl hev => ?_)
  show cl _ _ _ _
  refine hcl _ _ _ _ (c_M_isRod hb (fun gr => ?_) (fun gr => ?_))
  · have ho := ho gr
    refine And.intro (fun z => absurd z (show ¬ (1 : Int) = 0 by decide)) (fun _ => ?_)
    refine And.intro (by omega) ?_
    refine And.intro (fun g => ?_) (fun g => hN (fun z => g z.2))
    have hK := hK ⟨gr, g⟩
    unfold v_f4 at hK
    refine And.intro (by omega) ?_
    refine And.intro (fun e => ?_) (fun e => ?_)
    · rw [if_neg e] at hK
      refine And.intro (fun e => ?_) (fun e => ?_)
      · rw [if_neg e] at hK
        refine And.intro (fun e => ?_) (fun e => ?_)
        · rw [if_neg e] at hK
          refine And.intro (fun e => ?_) (fun e => ?_)
          · rw [if_neg e] at hK
            exact hK
          · rw [if_pos (Decidable.not_not.mp e)] at hK
            show cl _ _ _ _
            refine hcl _ _ _ _ (c_M_fineOf (by omega) ?_)
            exact hK
        · rw [if_pos (Decidable.not_not.mp e)] at hK
          exact And.intro (by omega) hK
      · rw [if_pos (Decidable.not_not.mp e)] at hK
        exact And.intro (by omega) hK
    · rw [if_pos (Decidable.not_not.mp e)] at hK
      exact And.intro (by omega) hK
  · exact And.intro (fun _ => hN (fun z => gr z.1)) (fun z => absurd rfl z)
theorem a_21 {a b i : Int} {σ : q_S} (h : q_IN σ) (rt : y_RT i σ) (rf : y_RF σ) : q_P2 L xs i_A_fault [(2, 0), (0, a), (0, b)] i_M_fault [(2, 100), (0, a), (0, b)] σ (fun x y _ => x = y) := by
  have e13 := Ms13 rt.2.1
  have e25 := Ms25 rt.2.1
  have hb := h.2.1.1
  have h60 := rf.2.1
  have ho : -1 ≤ σ 95 a ∧ σ 95 a < 60 := by have := h.1 95 a; unfold q_ok at this; omega
  have e119 : (0 ≤ a ∧ a < σ 17 9) → σ 119 a = σ 95 a ∧ σ 95 a < σ 88 7 := fun g => ⟨(rf.2.2.2.1 a g.1 g.2).1, (rf.2.2.2.1 a g.1 g.2).2.2.2⟩
  refine x_fault (by omega) ho (fun g => ⟨_, rfl, ?_⟩) (fun g => ⟨_, rfl, ?_⟩)
  · refine z_fault hb (fun k => by have := e119 (by omega); omega) (fun _ => ⟨_, rfl, rfl⟩) (fun k => absurd ⟨⟨k.1.1, by omega⟩, fun z => k.2 ((e119 (by omega)).1.trans z)⟩ g)
  · have e9 := e119 g.1
    refine z_fault hb (fun k => by omega) (fun k => absurd ⟨⟨g.1.1, by omega⟩, fun z => g.2 (e9.1.symm.trans z)⟩ k) (fun _ => ⟨_, rfl, ?_⟩)
    obtain ⟨r1, r2, r3, r4, r5, r6, _⟩ := rf.2.2.1 (σ 95 a) (by omega) e9.2
    rw [e9.1, r1, r2, r3, r4, r6, e25]
theorem xl_owe {o d : Int} {σ : q_S} {K : q_R → q_S → Prop} (hs : 0 ≤ σ 88 7 ∧ σ 88 7 ≤ 60) (hd : 0 ≤ d ∧ d ≤ 9999) (hB : ∀ j : Int, 0 ≤ j → j < σ 88 7 → (0 ≤ σ 93 j ∧ σ 93 j ≤ 999) ∧ (-1 ≤ σ 91 j ∧ σ 91 j ≤ 9999) ∧ (0 ≤ σ 90 j ∧ σ 90 j ≤ 9999)) (hK : K (some (0, v_fs (σ 89) (σ 93) (σ 91) (σ 90) d o (σ 88 7).toNat)) σ) : ∀ (m k : Nat), σ 88 7 - k < m → (k : Int) ≤ σ 88 7 → q_E L xs k_Faults_owedBy (4, [(2, 88), (0, o), (0, d), (0, v_fs (σ 89) (σ 93) (σ 91) (σ 90) d o k), (0, (k : Int))], [], σ) K := by
  intro m
  induction m with
  | zero => intro k; omega
  | succ m ih =>
    intro k hm hk
    have e : q_w32 ((k : Int) + 1) = ((k + 1 : Nat) : Int) := by rw [q_w32_id] <;> omega
    have es : v_fs (σ 89) (σ 93) (σ 91) (σ 90) d o (k + 1) = v_fs (σ 89) (σ 93) (σ 91) (σ 90) d o k + (if σ 89 k = o then v_fi (σ 93 k) (σ 91 k) (σ 90 k) d else 0) := rfl
    have b0 := v_fs_b (O := σ 89) (F := σ 93) (E := σ 91) (B := σ 90) (day := d) (o := o) hd k (fun j h0 h1 => hB j h0 (by omega))
    refine q_go1 100 4 [4] (fun cl ev hcl hev => ?_)
    refine And.intro (fun g => ?_) (fun g => ?_)
    · rw [show (σ 88 7).toNat = k by omega] at hK
      exact hK
    · have hbk := hB k (by omega) (by omega)
      have bk := v_fi_b (day := d) hbk.1 hbk.2.1 hbk.2.2 hd
      refine And.intro (by omega) ?_
      refine And.intro (fun g2 => ?_) (fun g2 => ?_)
      · rw [if_neg g2] at es
        refine hev _ ?_
        rw [e, q_w32_id (by omega) (by omega), ← es]
        exact ih (k + 1) (by omega) (by omega)
      · rw [if_pos (Decidable.not_not.mp g2)] at es
        show cl _ _ _ _
        refine hcl _ _ _ _ (x_fine (by omega) ?_)
        refine hev _ ?_
        rw [e, q_w32_id (by omega) (by omega), ← es]
        exact ih (k + 1) (by omega) (by omega)
theorem x_fines {o : Int} {σ : q_S} {K : q_R → q_S → Prop} (hs : 0 ≤ σ 88 7 ∧ σ 88 7 ≤ 60) (hd : 0 ≤ σ 0 10 ∧ σ 0 10 ≤ 9999) (hB : ∀ j : Int, 0 ≤ j → j < σ 88 7 → (0 ≤ σ 93 j ∧ σ 93 j ≤ 999) ∧ (-1 ≤ σ 91 j ∧ σ 91 j ≤ 9999) ∧ (0 ≤ σ 90 j ∧ σ 90 j ≤ 9999)) (hN : ¬ (0 ≤ o ∧ o ≤ 7) → K (some (0, -1)) σ) (hK : (0 ≤ o ∧ o ≤ 7) → K (some (0, (v_fs (σ 89) (σ 93) (σ 91) (σ 90) (σ 0 10) o (σ 88 7).toNat).tmod 1000000)) σ) : q_K L xs i_A_fines [(2, 0), (0, o)] σ K := by
  refine q_call k_A_fines 2 rfl ?_
  show q_E L xs k_A_fines (0, [(2, 0), (0, o)], [], σ) K
  refine q_go1 100 0 [] (fun cl ev hcl hev => ?_)
  show cl _ _ _ _
  refine hcl _ _ _ _ (c_A_isOwner (fun g => ?_) (fun g => ?_))
  · refine And.intro (fun _ => ?_) (fun z => absurd (show (1 : Int) ≠ 0 by decide) z)
    show cl _ _ _ _
    refine hcl _ _ _ _ (q_call k_Faults_owedBy 5 rfl ?_)
    show q_E L xs k_Faults_owedBy (0, [(2, 88), (0, o), (0, σ 0 10), (9, 0), (9, 0)], [], σ) _
    refine q_go1 100 0 [4] (fun cl ev hcl hev => ?_)
    refine hev _ (xl_owe hs hd hB ?_ 61 0 (by omega) (by omega))
    exact And.intro (by decide) (hK g)
  · exact And.intro (fun z => absurd rfl z) (fun _ => hN g)
theorem zl_fin {o : Int} {σ : q_S} {K : q_R → q_S → Prop} (hs : 0 ≤ σ 100 42 ∧ σ 100 42 ≤ 60) (hd : 0 ≤ σ 100 25 ∧ σ 100 25 ≤ 9999) (hB : ∀ j : Int, 0 ≤ j → j < σ 100 42 → (0 ≤ σ 138 j ∧ σ 138 j ≤ 999) ∧ (-1 ≤ σ 135 j ∧ σ 135 j ≤ 9999) ∧ (0 ≤ σ 134 j ∧ σ 134 j ≤ 9999)) (hK : K (some (0, q_w32 ((v_fs (σ 133) (σ 138) (σ 135) (σ 134) (σ 100 25) o (σ 100 42).toNat).tmod 1000000))) σ) : ∀ (m k : Nat), σ 100 42 - k < m → (k : Int) ≤ σ 100 42 → q_E L xs k_M_fines (9, [(2, 100), (0, o), (1, v_fs (σ 133) (σ 138) (σ 135) (σ 134) (σ 100 25) o k), (9, 0), (0, (k : Int))], [], σ) K := by
  intro m
  induction m with
  | zero => intro k; omega
  | succ m ih =>
    intro k hm hk
    have e : q_w32 ((k : Int) + 1) = ((k + 1 : Nat) : Int) := by rw [q_w32_id] <;> omega
    have es : v_fs (σ 133) (σ 138) (σ 135) (σ 134) (σ 100 25) o (k + 1) = v_fs (σ 133) (σ 138) (σ 135) (σ 134) (σ 100 25) o k + (if σ 133 k = o then v_fi (σ 138 k) (σ 135 k) (σ 134 k) (σ 100 25) else 0) := rfl
    have b0 := v_fs_b (O := σ 133) (F := σ 138) (E := σ 135) (B := σ 134) (day := σ 100 25) (o := o) hd k (fun j h0 h1 => hB j h0 (by omega))
    refine q_go1 100 9 [9] (fun cl ev hcl hev => ?_)
    refine And.intro (fun g => ?_) (fun g => ?_)
    · rw [show (σ 100 42).toNat = k by omega] at hK
      exact And.intro (by decide) hK
    · have hbk := hB k (by omega) (by omega)
      have bk := v_fi_b (day := σ 100 25) hbk.1 hbk.2.1 hbk.2.2 hd
      refine And.intro (by omega) ?_
      refine And.intro (fun g2 => ?_) (fun g2 => ?_)
      · rw [if_neg g2] at es
        refine hev _ ?_
        rw [e, q_w64_id (by omega) (by omega)]
        have z0 := ih (k + 1) (by omega) (by omega)
        rw [es] at z0
        exact z0
      · rw [if_pos (Decidable.not_not.mp g2)] at es
        show cl _ _ _ _
        refine hcl _ _ _ _ (c_M_fineOf (by omega) ?_)
        refine hev _ ?_
        have bk' : -9989001 ≤ q_w32 (σ 138 k * q_w32 ((if σ 135 k = -1 then σ 100 25 else σ 135 k) - σ 134 k)) ∧ q_w32 (σ 138 k * q_w32 ((if σ 135 k = -1 then σ 100 25 else σ 135 k) - σ 134 k)) ≤ 9989001 := bk
        rw [e, q_w64_id (by omega) (by omega)]
        have := ih (k + 1) (by omega) (by omega)
        rw [es] at this
        exact this
theorem z_fines {o : Int} {σ : q_S} {K : q_R → q_S → Prop} (hs : 0 ≤ σ 100 42 ∧ σ 100 42 ≤ 60) (hd : 0 ≤ σ 100 25 ∧ σ 100 25 ≤ 9999) (hB : ∀ j : Int, 0 ≤ j → j < σ 100 42 → (0 ≤ σ 138 j ∧ σ 138 j ≤ 999) ∧ (-1 ≤ σ 135 j ∧ σ 135 j ≤ 9999) ∧ (0 ≤ σ 134 j ∧ σ 134 j ≤ 9999)) (hN : ¬ (0 ≤ o ∧ o ≤ 7) → K (some (0, -1)) σ) (hK : (0 ≤ o ∧ o ≤ 7) → K (some (0, q_w32 ((v_fs (σ 133) (σ 138) (σ 135) (σ 134) (σ 100 25) o (σ 100 42).toNat).tmod 1000000))) σ) : q_K L xs i_M_fines [(2, 100), (0, o)] σ K := by
  refine q_call k_M_fines 5 rfl ?_
  show q_E L xs k_M_fines (0, [(2, 100), (0, o), (9, 0), (9, 0), (9, 0)], [], σ) K
  refine q_go1 100 0 [9] (fun cl ev hcl hev => ?_)
  show cl _ _ _ _
  refine hcl _ _ _ _ (c_M_isOwner (fun g => ?_) (fun g => ?_))
  · refine And.intro (fun _ => ?_) (fun z => absurd (show (1 : Int) ≠ 0 by decide) z)
    exact hev _ (zl_fin hs hd hB (hK g) 61 0 (by omega) (by omega))
  · exact And.intro (fun z => absurd rfl z) (fun _ => hN g)
theorem a_22 {a i : Int} {σ : q_S} (_h : q_IN σ) (rt : y_RT i σ) (rf : y_RF σ) : q_P2 L xs i_A_fines [(2, 0), (0, a)] i_M_fines [(2, 100), (0, a)] σ (fun x y _ => x = y) := by
  have e25 := Ms25 rt.2.1
  have hd := rt.2.2
  obtain ⟨f1, f2, f3, _⟩ := rf
  have hB : ∀ j : Int, 0 ≤ j → j < σ 88 7 → (0 ≤ σ 93 j ∧ σ 93 j ≤ 999) ∧ (-1 ≤ σ 91 j ∧ σ 91 j ≤ 9999) ∧ (0 ≤ σ 90 j ∧ σ 90 j ≤ 9999) := fun j h0 h1 => by
    obtain ⟨_, _, _, _, _, _, b1, b2, b3⟩ := f3 j h0 h1
    exact ⟨b1, b3, b2⟩
  have hM : ∀ j : Int, 0 ≤ j → j < σ 100 42 → (0 ≤ σ 138 j ∧ σ 138 j ≤ 999) ∧ (-1 ≤ σ 135 j ∧ σ 135 j ≤ 9999) ∧ (0 ≤ σ 134 j ∧ σ 134 j ≤ 9999) := fun j h0 h1 => by
    obtain ⟨_, r2, r3, _, _, r6, b1, b2, b3⟩ := f3 j h0 (by omega)
    rw [r2, r3, r6]
    exact ⟨b1, b3, b2⟩
  refine x_fines f2 hd hB (fun g => ⟨_, rfl, ?_⟩) (fun g => ⟨_, rfl, ?_⟩)
  · exact z_fines (by omega) (by omega) hM (fun _ => ⟨_, rfl, rfl⟩) (fun k => absurd k g)
  · refine z_fines (by omega) (by omega) hM (fun k => absurd g k) (fun _ => ⟨_, rfl, ?_⟩)
    have e : v_fs (σ 133) (σ 138) (σ 135) (σ 134) (σ 100 25) a (σ 100 42).toNat = v_fs (σ 89) (σ 93) (σ 91) (σ 90) (σ 0 10) a (σ 88 7).toNat := by
      rw [e25, f1]
      exact v_fs_c _ (fun j h0 h1 => by
        obtain ⟨r1, r2, r3, _, _, r6, _⟩ := f3 j h0 (by omega)
        exact ⟨r1, r6, r3, r2⟩)
    have b := v_fs_b (O := σ 89) (F := σ 93) (E := σ 91) (B := σ 90) (day := σ 0 10) (o := a) hd (σ 88 7).toNat (fun j h0 h1 => hB j h0 (by omega))
    rw [e]
    generalize v_fs (σ 89) (σ 93) (σ 91) (σ 90) (σ 0 10) a (σ 88 7).toNat = x at b ⊢
    have hx1 := Int.lt_tmod_of_pos x (show (0 : Int) < 1000000 by decide)
    have hx2 := Int.tmod_lt_of_pos x (show (0 : Int) < 1000000 by decide)
    rw [q_w32_id] <;> omega

theorem xl_al {σ : q_S} {K : q_R → q_S → Prop} (hs : 0 ≤ σ 27 2 ∧ σ 27 2 ≤ 6) (hK : K (some (0, v_al (σ 29) (σ 27 2).toNat)) σ) : ∀ (m k : Nat), σ 27 2 - k < m → (k : Int) ≤ σ 27 2 → q_E L xs k_Herds_alive (4, [(2, 27), (0, v_al (σ 29) k), (0, (k : Int))], [], σ) K := by
  intro m
  induction m with
  | zero => intro k; omega
  | succ m ih =>
    intro k hm hk
    have e : q_w32 ((k : Int) + 1) = ((k + 1 : Nat) : Int) := by rw [q_w32_id] <;> omega
    have es : v_al (σ 29) (k + 1) = q_w32 (v_al (σ 29) k + (if σ 29 k = 0 then 1 else 0)) := rfl
    refine q_go1 100 4 [4] (fun cl ev hcl hev => ?_)
    refine And.intro (fun g => ?_) (fun g => ?_)
    · rw [show (σ 27 2).toNat = k by omega] at hK
      exact hK
    · refine And.intro (by omega) ?_
      refine And.intro (fun g2 => ?_) (fun g2 => ?_)
      · rw [if_pos g2] at es
        refine hev _ ?_
        rw [e, ← es]
        exact ih (k + 1) (by omega) (by omega)
      · rw [if_neg g2] at es
        refine hev _ ?_
        rw [e, ← es]
        exact ih (k + 1) (by omega) (by omega)
theorem xl_op {σ : q_S} {K : q_R → q_S → Prop} (hK : K (some (0, v_op (σ 95) 24)) σ) : ∀ (m k : Nat) (y : Int) (u : Nat), (24 : Int) - k < m → (k : Int) ≤ 24 → q_E L xs k_Faults_openOnes (10, [(2, 88), (0, v_op (σ 95) k), (2, 95), (0, 24), (0, (k : Int)), (u, y)], [], σ) K := by
  intro m
  induction m with
  | zero => intro k; omega
  | succ m ih =>
    intro k y u hm hk
    have e : q_w32 ((k : Int) + 1) = ((k + 1 : Nat) : Int) := by rw [q_w32_id] <;> omega
    have es : v_op (σ 95) (k + 1) = q_w32 (v_op (σ 95) k + (if σ 95 k = -1 then 0 else 1)) := rfl
    refine q_go1 100 10 [10] (fun cl ev hcl hev => ?_)
    refine And.intro (fun g => ?_) (fun g => ?_)
    · have ek : k = 24 := by omega
      subst ek
      exact hK
    · refine And.intro (by omega) ?_
      refine And.intro (fun g2 => ?_) (fun g2 => ?_)
      · rw [if_neg g2] at es
        refine hev _ ?_
        rw [e, ← es]
        exact ih (k + 1) _ _ (by omega) (by omega)
      · rw [if_pos (Decidable.not_not.mp g2)] at es
        refine hev _ ?_
        rw [e, ← es]
        exact ih (k + 1) _ _ (by omega) (by omega)
theorem xl_sw {σ : q_S} {K : q_R → q_S → Prop} (hK : K (some (0, v_sw (σ 3) 30)) σ) : ∀ (m k : Nat) (y : Int) (u : Nat), (30 : Int) - k < m → (k : Int) ≤ 30 → q_E L xs k_Land_allWater (10, [(2, 1), (0, v_sw (σ 3) k), (2, 3), (0, 30), (0, (k : Int)), (u, y)], [], σ) K := by
  intro m
  induction m with
  | zero => intro k; omega
  | succ m ih =>
    intro k y u hm hk
    have e : q_w32 ((k : Int) + 1) = ((k + 1 : Nat) : Int) := by rw [q_w32_id] <;> omega
    have es : v_sw (σ 3) (k + 1) = q_w32 (v_sw (σ 3) k + σ 3 k) := rfl
    refine q_go1 100 10 [10] (fun cl ev hcl hev => ?_)
    refine And.intro (fun g => ?_) (fun g => ?_)
    · have ek : k = 30 := by omega
      subst ek
      exact hK
    · refine And.intro (by omega) ?_
      refine hev _ ?_
      rw [e, ← es]
      exact ih (k + 1) _ _ (by omega) (by omega)
theorem zl_al {w : Int} {σ : q_S} {K : q_R → q_S → Prop} (hs : 0 ≤ σ 100 22 ∧ σ 100 22 ≤ 6) (hK : K (some (0, v_al (σ 121) (σ 100 22).toNat)) σ) : ∀ (m k : Nat), σ 100 22 - k < m → (k : Int) ≤ σ 100 22 → q_E L xs k_M_count (18, [(2, 100), (0, w), (0, v_al (σ 121) k), (0, (k : Int))], [], σ) K := by
  intro m
  induction m with
  | zero => intro k; omega
  | succ m ih =>
    intro k hm hk
    have e : q_w32 ((k : Int) + 1) = ((k + 1 : Nat) : Int) := by rw [q_w32_id] <;> omega
    have es : v_al (σ 121) (k + 1) = q_w32 (v_al (σ 121) k + (if σ 121 k = 0 then 1 else 0)) := rfl
    refine q_go1 100 18 [18] (fun cl ev hcl hev => ?_)
    refine And.intro (fun g => ?_) (fun g => ?_)
    · rw [show (σ 100 22).toNat = k by omega] at hK
      exact hK
    · refine And.intro (by omega) ?_
      refine And.intro (fun g2 => ?_) (fun g2 => ?_)
      · rw [if_pos g2] at es
        refine hev _ ?_
        rw [e, ← es]
        exact ih (k + 1) (by omega) (by omega)
      · rw [if_neg g2] at es
        refine hev _ ?_
        rw [e, ← es]
        exact ih (k + 1) (by omega) (by omega)
theorem zl_op {w : Int} {σ : q_S} {K : q_R → q_S → Prop} (hs : 0 ≤ σ 100 13 ∧ σ 100 13 ≤ 24) (hK : K (some (0, v_op (σ 119) (σ 100 13).toNat)) σ) : ∀ (m k : Nat), σ 100 13 - k < m → (k : Int) ≤ σ 100 13 → q_E L xs k_M_count (39, [(2, 100), (0, w), (0, v_op (σ 119) k), (0, (k : Int))], [], σ) K := by
  intro m
  induction m with
  | zero => intro k; omega
  | succ m ih =>
    intro k hm hk
    have e : q_w32 ((k : Int) + 1) = ((k + 1 : Nat) : Int) := by rw [q_w32_id] <;> omega
    have es : v_op (σ 119) (k + 1) = q_w32 (v_op (σ 119) k + (if σ 119 k = -1 then 0 else 1)) := rfl
    refine q_go1 100 39 [39] (fun cl ev hcl hev => ?_)
    refine And.intro (fun g => ?_) (fun g => ?_)
    · rw [show (σ 100 13).toNat = k by omega] at hK
      exact hK
    · refine And.intro (by omega) ?_
      refine And.intro (fun g2 => ?_) (fun g2 => ?_)
      · rw [if_pos g2] at es
        refine hev _ ?_
        rw [e, ← es]
        exact ih (k + 1) (by omega) (by omega)
      · rw [if_neg g2] at es
        refine hev _ ?_
        rw [e, ← es]
        exact ih (k + 1) (by omega) (by omega)
theorem zl_sw {w : Int} {σ : q_S} {K : q_R → q_S → Prop} (hK : K (some (0, v_sw (σ 102) 30)) σ) : ∀ (m k : Nat), (30 : Int) - k < m → (k : Int) ≤ 30 → q_E L xs k_M_count (67, [(2, 100), (0, w), (0, v_sw (σ 102) k), (0, (k : Int))], [], σ) K := by
  intro m
  induction m with
  | zero => intro k; omega
  | succ m ih =>
    intro k hm hk
    have e : q_w32 ((k : Int) + 1) = ((k + 1 : Nat) : Int) := by rw [q_w32_id] <;> omega
    have es : v_sw (σ 102) (k + 1) = q_w32 (v_sw (σ 102) k + σ 102 k) := rfl
    refine q_go1 100 67 [67] (fun cl ev hcl hev => ?_)
    refine And.intro (fun g => ?_) (fun g => ?_)
    · have ek : k = 30 := by omega
      subst ek
      exact hK
    · refine And.intro (by omega) ?_
      refine hev _ ?_
      rw [e, ← es]
      exact ih (k + 1) (by omega) (by omega)
def v_ct (a b c d e f g h i j k w : Int) : Int := if w = 0 then a else if w = 1 then b else if w = 2 then c else if w = 3 then d else if w = 4 then e else if w = 5 then f else if w = 6 then g else if w = 7 then h else if w = 8 then i else if w = 9 then j else if w = 10 then k else -1
theorem x_count {w : Int} {σ : q_S} {K : q_R → q_S → Prop} (hs : 0 ≤ σ 27 2 ∧ σ 27 2 ≤ 6) (hK : K (some (0, v_ct (σ 0 10) (σ 17 9) (σ 7 5) (σ 34 2) (v_al (σ 29) (σ 27 2).toNat) (v_op (σ 95) 24) (σ 1 5) (σ 1 6) (v_sw (σ 3) 30) (σ 32 1) (σ 0 11) w)) σ) : q_K L xs i_A_count [(2, 0), (0, w)] σ K := by
  unfold v_ct at hK
  refine q_call k_A_count 2 rfl ?_
  show q_E L xs k_A_count (0, [(2, 0), (0, w)], [], σ) K
  refine q_go1 200 0 [] (fun cl ev hcl hev => ?_)
  refine And.intro (fun e => ?_) (fun e => ?_)
  · rw [if_pos e] at hK
    exact hK
  · rw [if_neg e] at hK
    refine And.intro (fun e => ?_) (fun e => ?_)
    · rw [if_pos e] at hK
      exact hK
    · rw [if_neg e] at hK
      refine And.intro (fun e => ?_) (fun e => ?_)
      · rw [if_pos e] at hK
        exact hK
      · rw [if_neg e] at hK
        refine And.intro (fun e => ?_) (fun e => ?_)
        · rw [if_pos e] at hK
          exact hK
        · rw [if_neg e] at hK
          refine And.intro (fun e => ?_) (fun e => ?_)
          · rw [if_pos e] at hK
            show cl _ _ _ _
            refine hcl _ _ _ _ (q_call k_Herds_alive 3 rfl ?_)
            show q_E L xs k_Herds_alive (0, [(2, 27), (9, 0), (9, 0)], [], σ) _
            refine q_go1 100 0 [4] (fun cl ev hcl hev => ?_)
            refine hev _ (xl_al hs ?_ 7 0 (by omega) (by omega))
            exact hK
          · rw [if_neg e] at hK
            refine And.intro (fun e => ?_) (fun e => ?_)
            · rw [if_pos e] at hK
              show cl _ _ _ _
              refine hcl _ _ _ _ (q_call k_Faults_openOnes 6 rfl ?_)
              show q_E L xs k_Faults_openOnes (0, [(2, 88), (9, 0), (9, 0), (9, 0), (9, 0), (9, 0)], [], σ) _
              refine q_go1 100 0 [10] (fun cl ev hcl hev => ?_)
              refine hev _ (xl_op ?_ 25 0 0 9 (by omega) (by omega))
              exact hK
            · rw [if_neg e] at hK
              refine And.intro (fun e => ?_) (fun e => ?_)
              · rw [if_pos e] at hK
                exact hK
              · rw [if_neg e] at hK
                refine And.intro (fun e => ?_) (fun e => ?_)
                · rw [if_pos e] at hK
                  exact hK
                · rw [if_neg e] at hK
                  refine And.intro (fun e => ?_) (fun e => ?_)
                  · rw [if_pos e] at hK
                    show cl _ _ _ _
                    refine hcl _ _ _ _ (q_call k_Land_allWater 6 rfl ?_)
                    show q_E L xs k_Land_allWater (0, [(2, 1), (9, 0), (9, 0), (9, 0), (9, 0), (9, 0)], [], σ) _
                    refine q_go1 100 0 [10] (fun cl ev hcl hev => ?_)
                    refine hev _ (xl_sw ?_ 31 0 0 9 (by omega) (by omega))
                    exact hK
                  · rw [if_neg e] at hK
                    refine And.intro (fun e => ?_) (fun e => ?_)
                    · rw [if_pos e] at hK
                      exact hK
                    · rw [if_neg e] at hK
                      refine And.intro (fun e => ?_) (fun e => ?_)
                      · rw [if_pos e] at hK
                        exact hK
                      · rw [if_neg e] at hK
                        exact hK
theorem z_count {w : Int} {σ : q_S} {K : q_R → q_S → Prop} (hs : 0 ≤ σ 100 22 ∧ σ 100 22 ≤ 6) (hb : 0 ≤ σ 100 13 ∧ σ 100 13 ≤ 24) (hK : K (some (0, v_ct (σ 100 25) (σ 100 13) (σ 100 7) (σ 100 31) (v_al (σ 121) (σ 100 22).toNat) (v_op (σ 119) (σ 100 13).toNat) (σ 100 27) (σ 100 28) (v_sw (σ 102) 30) (σ 100 30) (σ 100 26) w)) σ) : q_K L xs i_M_count [(2, 100), (0, w)] σ K := by
  unfold v_ct at hK
  refine q_call k_M_count 4 rfl ?_
  show q_E L xs k_M_count (0, [(2, 100), (0, w), (9, 0), (9, 0)], [], σ) K
  refine q_go1 200 0 [18, 39, 67] (fun cl ev hcl hev => ?_)
  refine And.intro (fun e => ?_) (fun e => ?_)
  · rw [if_pos e] at hK
    exact hK
  · rw [if_neg e] at hK
    refine And.intro (fun e => ?_) (fun e => ?_)
    · rw [if_pos e] at hK
      exact hK
    · rw [if_neg e] at hK
      refine And.intro (fun e => ?_) (fun e => ?_)
      · rw [if_pos e] at hK
        exact hK
      · rw [if_neg e] at hK
        refine And.intro (fun e => ?_) (fun e => ?_)
        · rw [if_pos e] at hK
          exact hK
        · rw [if_neg e] at hK
          refine And.intro (fun e => ?_) (fun e => ?_)
          · rw [if_pos e] at hK
            exact hev _ (zl_al hs hK 7 0 (by omega) (by omega))
          · rw [if_neg e] at hK
            refine And.intro (fun e => ?_) (fun e => ?_)
            · rw [if_pos e] at hK
              exact hev _ (zl_op hb hK 25 0 (by omega) (by omega))
            · rw [if_neg e] at hK
              refine And.intro (fun e => ?_) (fun e => ?_)
              · rw [if_pos e] at hK
                exact hK
              · rw [if_neg e] at hK
                refine And.intro (fun e => ?_) (fun e => ?_)
                · rw [if_pos e] at hK
                  exact hK
                · rw [if_neg e] at hK
                  refine And.intro (fun e => ?_) (fun e => ?_)
                  · rw [if_pos e] at hK
                    exact hev _ (zl_sw hK 31 0 (by omega) (by omega))
                  · rw [if_neg e] at hK
                    refine And.intro (fun e => ?_) (fun e => ?_)
                    · rw [if_pos e] at hK
                      exact hK
                    · rw [if_neg e] at hK
                      refine And.intro (fun e => ?_) (fun e => ?_)
                      · rw [if_pos e] at hK
                        exact hK
                      · rw [if_neg e] at hK
                        exact hK
theorem a_26 {a i : Int} {σ : q_S} (h : q_IN σ) (sc : q_SC σ) (rt : y_RT i σ) (rc : y_RC σ) (rf : y_RF σ) : q_P2 L xs i_A_count [(2, 0), (0, a)] i_M_count [(2, 100), (0, a)] σ (fun x y _ => x = y) := by
  have hb := h.2.1.1
  have hh := h.2.1.2.1
  have e13 := Ms13 rt.2.1
  have e22 := Ms22 rt.2.1
  refine x_count (by omega) ⟨_, rfl, z_count hh hb ⟨_, rfl, ?_⟩⟩
  have e4 : v_al (σ 121) (σ 100 22).toNat = v_al (σ 29) (σ 27 2).toNat := by
    rw [e22]
    exact v_al_c _ (fun j _ _ => M121 rt.2.1 j)
  have e8 : v_sw (σ 102) 30 = v_sw (σ 3) 30 := v_sw_c _ (fun j _ _ => M102 rt.2.1 j)
  have e5 : v_op (σ 119) (σ 100 13).toNat = v_op (σ 95) 24 := by
    rw [e13]
    have a := v_op_x (f := σ 95) (n := (σ 17 9).toNat) (24 - (σ 17 9).toNat) (by omega) (fun j h0 h1 => rf.2.2.2.2 j (by omega) (by omega))
    rw [show (σ 17 9).toNat + (24 - (σ 17 9).toNat) = 24 by omega] at a
    rw [a]
    exact v_op_c _ (fun j h0 h1 => (rf.2.2.2.1 j h0 (by omega)).1)
  rw [e4, e5, e8, Ms25 rt.2.1, e13, sc.1, rc.2.1.1, Ms27 rt.2.1, Ms28 rt.2.1, rc.1.2.1, Ms26 rt.2.1]
end A1
