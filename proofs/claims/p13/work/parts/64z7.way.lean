/-! the way, of the other side -/
def y_f31 (σ0 σ : q_S) : Prop := ∀ k i, k ≠ 31 → σ k i = σ0 k i
theorem R6_31 {σ0 σ : q_S} (h : y_f31 σ0 σ) (r : q_R6 σ0) : q_R6 σ := q_R6c (fun k i hk => h k i (by unfold d_R6 at hk; omega)) r
theorem sht_31 {σ0 σ : q_S} (h : ∀ k i, k ≠ 31 → k ≠ 30 → σ k i = σ0 k i) (c w : Int) : q_sht σ c w = q_sht σ0 c w := by
  unfold q_sht
  repeat' split
  all_goals exact h _ _ (by decide) (by decide)
theorem cs_31 {σ0 σ : q_S} (h : y_f31 σ0 σ) (c w : Int) : y_cs σ c w = y_cs σ0 c w := by
  unfold y_cs
  rw [sht_31 (fun k i a _ => h k i a)]
theorem sol_31 {σ0 σ : q_S} {t : Int} {F : Int → Int} (h : ∀ c w, q_sht σ c w = q_sht σ0 c w) (hF : y_sol σ0 t F) : y_sol σ t F := by
  have e : ∀ c w, q_cst σ c w = q_cst σ0 c w := fun c w => by unfold q_cst; rw [h]
  refine ⟨hF.1, hF.2.1, fun c w a b d f g => ?_, fun c a b d => ?_⟩
  · rw [e]; exact hF.2.2.1 c w a b d f g
  · obtain ⟨w, w0, w1, wb, wt⟩ := hF.2.2.2 c a b d
    exact ⟨w, w0, w1, wb, by rw [e]; exact wt⟩
theorem sol_z {σ : q_S} {t : Int} {F : Int → Int} (hF : y_sol σ t F) {c : Int} (a : 0 ≤ c) (b : c < 30) (h : F c % 100 ≤ 0) : c = t := by
  by_cases e : c = t
  · exact e
  · obtain ⟨w, w0, w1, wb, wt⟩ := hF.2.2.2 c a b e
    have hb := q_bes_in (c := c) (w := w) ⟨a, b⟩
    have h2 := sol_m hF (c := q_bes c w) (by omega) (by omega)
    have hc := q_cst_in σ c w
    omega
section W3
variable {L : Nat} {xs : Int → Int}
theorem x_mc {c w : Int} {σ : q_S} {K : q_R → q_S → Prop} (r6 : q_R6 σ) (hc : 0 ≤ c ∧ c < 30) (hw : 0 ≤ w ∧ w < 4) (hb : q_bes c w ≠ -1) (hK : K (some (0, y_cs σ c w)) σ) : q_K L xs i_Ways_moveCost [(2, 1), (0, c), (0, q_bes c w)] σ K := by
  have hbi := q_bes_in (c := c) (w := w) hc
  have es := q_sht_gb r6 hc (b := q_bes c w) ⟨by omega, by omega⟩ hw rfl
  have eg := q_gb_w hc (b := q_bes c w) ⟨by omega, by omega⟩ hw rfl
  have hg : 0 ≤ q_gb c (q_bes c w) := by
    rw [eg]
    repeat' split
    all_goals omega
  unfold y_cs at hK
  refine q_call k_Ways_moveCost 3 rfl ?_
  show q_E L xs k_Ways_moveCost (0, [(2, 1), (0, c), (0, q_bes c w)], [], σ) K
  refine q_go1 200 0 [] (fun cl ev hcl hev => ?_)
  show cl _ _ _ _
  refine hcl _ _ _ _ (c_Land_isShut hc ⟨by omega, by omega⟩ (fun g => ?_) (fun g => ?_))
  · rw [if_neg (by omega)] at hK
    exact And.intro (fun z => absurd z (show ¬ (1 : Int) = 0 by decide)) (fun _ => hK)
  · rw [if_pos (by omega)] at hK
    exact And.intro (fun _ => hK) (fun z => absurd rfl z)
theorem xl_imp {c t : Int} {F : Int → Int} {σ0 : q_S} {K : q_R → q_S → Prop} (r6 : q_R6 σ0) (hF : y_sol σ0 t F) (hc : 0 ≤ c ∧ c < 30) (LB : ∀ d, 0 ≤ d → d < 30 → y_big F d ≤ σ0 31 d ∧ σ0 31 d ≤ 1000000)
    (hK : ∀ x σ', (∀ k i, ¬ (k = 31 ∧ i = c) → σ' k i = σ0 k i) → y_big F c ≤ σ' 31 c → σ' 31 c ≤ σ0 31 c → (∀ w, 0 ≤ w → w < 4 → q_bes c w ≠ -1 → σ' 31 c ≤ σ0 31 (q_bes c w) + y_cs σ0 c w) → ((x = 1 ∧ σ' 31 c < σ0 31 c) ∨ (x = 0 ∧ σ' 31 c = σ0 31 c)) → K (some (0, x)) σ') :
    ∀ (m : Nat) (i : Int) (σ : q_S) (y : Int) (u : Nat), 4 - i < m → 0 ≤ i → i ≤ 4 → (∀ k j, ¬ (k = 31 ∧ j = c) → σ k j = σ0 k j) → y_big F c ≤ σ 31 c → σ 31 c ≤ σ0 31 c → (∀ w, 0 ≤ w → w < i → q_bes c w ≠ -1 → σ 31 c ≤ σ0 31 (q_bes c w) + y_cs σ0 c w) → q_E L xs k_Ways_improve (7, [(2, 30), (2, 1), (0, c), (0, σ0 31 c), (0, i), (u, y)], [], σ) K := by
  intro m
  induction m with
  | zero => intro i; omega
  | succ m ih =>
    intro i σ y u hm hi hi2 f l1 l2 rx
    have e : q_w32 (i + 1) = i + 1 := by rw [q_w32_id] <;> omega
    have hbs := q_bes_in (c := c) (w := i) hc
    have f31 : y_f31 σ0 σ := fun k j hk => f k j (fun z => hk z.1)
    refine q_go1 200 7 [7] (fun cl ev hcl hev => ?_)
    refine And.intro (fun g => ?_) (fun g => ?_)
    · refine And.intro (by omega) ?_
      refine And.intro (fun g2 => ?_) (fun g2 => ?_)
      · exact hK 0 σ f l1 l2 (fun w a b => rx w a (by omega)) (Or.inr ⟨rfl, by omega⟩)
      · exact hK 1 σ f l1 l2 (fun w a b => rx w a (by omega)) (Or.inl ⟨rfl, by omega⟩)
    · show cl _ _ _ _
      refine hcl _ _ _ _ (c_Land_neighbour hc (by omega) ?_)
      refine And.intro (fun g2 => ?_) (fun g2 => ?_)
      · refine hev _ ?_
        rw [e]
        refine ih _ _ _ _ (by omega) (by omega) (by omega) f l1 l2 (fun w a b z => ?_)
        by_cases ew : w = i
        · rw [ew] at z; exact absurd g2 z
        · exact rx w a (by omega) z
      · have hne : q_bes c i ≠ c := by
          unfold q_bes
          repeat' split
          all_goals omega
        have eb : σ 31 (q_bes c i) = σ0 31 (q_bes c i) := f 31 _ (fun z => hne z.2)
        have lb := LB (q_bes c i) (by omega) (by omega)
        have lc := LB c hc.1 hc.2
        have bl := (big_le hF hc.1 hc.2 hi (by omega) g2).1
        have bb := big_b hF (c := q_bes c i) (by omega) (by omega)
        have ci := y_cs_in σ0 c i
        have ec := cs_31 f31 c i
        have ew : q_w32 (σ 31 (q_bes c i) + y_cs σ c i) = σ0 31 (q_bes c i) + y_cs σ0 c i := by rw [eb, ec, q_w32_id] <;> omega
        refine And.intro (by omega) (And.intro (by omega) ?_)
        show cl _ _ _ _
        refine hcl _ _ _ _ (x_mc (R6_31 f31 r6) hc (by omega) g2 ?_)
        refine And.intro (by omega) ?_
        refine hev _ ?_
        rw [e, ew]
        refine ih _ _ _ _ (by omega) (by omega) (by omega) (fun k j hk => (q_unn hk).trans (f k j hk)) (by rw [q_ue]; omega) (by rw [q_ue]; omega) (fun w a b z => ?_)
        rw [q_ue]
        by_cases ewi : w = i
        · rw [ewi]; omega
        · have := rx w a (by omega) z; omega
theorem x_imp {c t : Int} {F : Int → Int} {σ0 : q_S} {K : q_R → q_S → Prop} (r6 : q_R6 σ0) (hF : y_sol σ0 t F) (hc : 0 ≤ c ∧ c < 30) (LB : ∀ d, 0 ≤ d → d < 30 → y_big F d ≤ σ0 31 d ∧ σ0 31 d ≤ 1000000)
    (hK : ∀ x σ', (∀ k i, ¬ (k = 31 ∧ i = c) → σ' k i = σ0 k i) → y_big F c ≤ σ' 31 c → σ' 31 c ≤ σ0 31 c → (∀ w, 0 ≤ w → w < 4 → q_bes c w ≠ -1 → σ' 31 c ≤ σ0 31 (q_bes c w) + y_cs σ0 c w) → ((x = 1 ∧ σ' 31 c < σ0 31 c) ∨ (x = 0 ∧ σ' 31 c = σ0 31 c)) → K (some (0, x)) σ') : q_K L xs i_Ways_improve [(2, 30), (2, 1), (0, c)] σ0 K := by
  refine q_call k_Ways_improve 6 rfl ?_
  show q_E L xs k_Ways_improve (0, [(2, 30), (2, 1), (0, c), (9, 0), (9, 0), (9, 0)], [], σ0) K
  refine q_go1 200 0 [7] (fun cl ev hcl hev => ?_)
  refine And.intro (by omega) ?_
  exact hev _ (xl_imp r6 hF hc LB hK 5 0 σ0 0 9 (by omega) (by omega) (by omega) (fun _ _ _ => rfl) (LB c hc.1 hc.2).1 (Int.le_refl _) (fun w a b => by omega))
theorem xl_me2 {t j : Int} {F : Int → Int} {σ0 : q_S} {K : q_R → q_S → Prop} (hj0 : 0 ≤ j) (r6 : q_R6 σ0) (hF : y_sol σ0 t F)
    (hN : ∀ (s i : Int) (σ : q_S), (s = 0 ∨ s = 1) → y_f31 σ0 σ → (∀ d, 0 ≤ d → d < 30 → y_big F d ≤ σ 31 d ∧ σ 31 d ≤ 1000000) → (∀ d, 0 ≤ d → d < 30 → F d % 100 ≤ j + 1 → σ 31 d = y_big F d) → (s = 0 → ∀ d w, 0 ≤ d → d < 30 → 0 ≤ w → w < 4 → q_bes d w ≠ -1 → σ 31 d ≤ σ 31 (q_bes d w) + y_cs σ0 d w) → q_E L xs k_Ways_measure (34, [(2, 30), (2, 1), (0, t), (0, s), (0, j), (0, i)], [], σ) K) :
    ∀ (m : Nat) (i s : Int) (σ : q_S), 30 - i < m → 0 ≤ i → i ≤ 30 → (s = 0 ∨ s = 1) → y_f31 σ0 σ → (∀ d, 0 ≤ d → d < 30 → y_big F d ≤ σ 31 d ∧ σ 31 d ≤ 1000000) → (∀ d, 0 ≤ d → d < 30 → F d % 100 ≤ j → σ 31 d = y_big F d) → (∀ d, 0 ≤ d → d < i → F d % 100 ≤ j + 1 → σ 31 d = y_big F d) → (s = 0 → ∀ d w, 0 ≤ d → d < i → 0 ≤ w → w < 4 → q_bes d w ≠ -1 → σ 31 d ≤ σ 31 (q_bes d w) + y_cs σ0 d w) → q_E L xs k_Ways_measure (22, [(2, 30), (2, 1), (0, t), (0, s), (0, j), (0, i)], [], σ) K := by
  intro m
  induction m with
  | zero => intro i; omega
  | succ m ih =>
    intro i s σ hm hi hi2 hs f lb e1 e2 e3
    have e : q_w32 (i + 1) = i + 1 := by rw [q_w32_id] <;> omega
    refine q_go1 200 22 [22, 34] (fun cl ev hcl hev => ?_)
    refine And.intro (fun g => ?_) (fun g => ?_)
    · have ei : i = 30 := by omega
      rw [ei] at e2 e3
      exact hev _ (hN s _ σ hs f lb e2 e3)
    · show cl _ _ _ _
      refine hcl _ _ _ _ (x_imp (t := t) (F := F) (R6_31 f r6) (sol_31 (fun c w => sht_31 (fun k j a _ => f k j a) c w) hF) ⟨hi, by omega⟩ lb (fun x σ1 f1 b1 b2 rx hx => ?_))
      have f' : y_f31 σ0 σ1 := fun k j hk => (f1 k j (fun z => hk z.1)).trans (f k j hk)
      have same : ∀ d, d ≠ i → σ1 31 d = σ 31 d := fun d hd => f1 31 d (fun z => hd z.2)
      have lb' : ∀ d, 0 ≤ d → d < 30 → y_big F d ≤ σ1 31 d ∧ σ1 31 d ≤ 1000000 := fun d a b => by
        by_cases ed : d = i
        · rw [ed]; have := lb i hi (by omega); omega
        · rw [same d ed]; exact lb d a b
      have keep : ∀ d, 0 ≤ d → d < 30 → σ 31 d = y_big F d → σ1 31 d = y_big F d := fun d a b z => by
        by_cases ed : d = i
        · rw [ed] at z ⊢; omega
        · rw [same d ed]; exact z
      have e1' : ∀ d, 0 ≤ d → d < 30 → F d % 100 ≤ j → σ1 31 d = y_big F d := fun d a b z => keep d a b (e1 d a b z)
      have e2' : ∀ d, 0 ≤ d → d < i + 1 → F d % 100 ≤ j + 1 → σ1 31 d = y_big F d := fun d a b z => by
        by_cases ed : d = i
        · rw [ed] at z ⊢
          by_cases et : i = t
          · have h0 : F i % 100 ≤ 0 := by rw [et, hF.1]; decide
            by_cases hj : F i % 100 ≤ j
            · exact e1' i hi (by omega) hj
            · exfalso
              omega
          · obtain ⟨w, w0, w1, wb, wt⟩ := hF.2.2.2 i hi (by omega) et
            have hbi := q_bes_in (c := i) (w := w) ⟨hi, by omega⟩
            have m1 := sol_m hF hi (by omega)
            have m2 := sol_m hF (c := q_bes i w) (by omega) (by omega)
            have hc := q_cst_in σ0 i w
            have eb := e1 (q_bes i w) (by omega) (by omega) (by omega)
            have r := rx w w0 w1 wb
            rw [eb, cs_31 f i w] at r
            have bt := ((big_le hF hi (by omega) w0 w1 wb).2).mp wt
            omega
        · exact keep d a (by omega) (e2 d a (by omega) z)
      rcases hx with ⟨x1, hlt⟩ | ⟨x0, heq⟩
      · subst x1
        refine And.intro (fun z => absurd z (show ¬ (1 : Int) = 0 by decide)) (fun _ => ?_)
        refine hev _ ?_
        rw [e]
        exact ih (i + 1) 1 σ1 (by omega) (by omega) (by omega) (Or.inr rfl) f' lb' e1' e2' (fun z => absurd z (by decide))
      · subst x0
        refine And.intro (fun _ => ?_) (fun z => absurd rfl z)
        refine hev _ ?_
        rw [e]
        have all : ∀ d, σ1 31 d = σ 31 d := fun d => by
          by_cases ed : d = i
          · rw [ed]; exact heq
          · exact same d ed
        refine ih (i + 1) s σ1 (by omega) (by omega) (by omega) hs f' lb' e1' e2' (fun z d w a b w0 w1 wb => ?_)
        rw [all, all]
        by_cases ed : d = i
        · rw [ed] at wb ⊢
          have r := rx w w0 w1 wb
          rw [cs_31 f i w] at r
          omega
        · exact e3 z d w a (by omega) w0 w1 wb
/-- nothing nearer anywhere: the ways are found -/
theorem fp_ex {σ0 : q_S} {t : Int} {F C : Int → Int} (hF : y_sol σ0 t F) (lb : ∀ d, 0 ≤ d → d < 30 → y_big F d ≤ C d) (ht : 0 ≤ t ∧ t < 30) (c0 : C t = y_big F t) (rx : ∀ d w, 0 ≤ d → d < 30 → 0 ≤ w → w < 4 → q_bes d w ≠ -1 → C d ≤ C (q_bes d w) + y_cs σ0 d w) : ∀ (m : Nat) (d : Int), F d < m → 0 ≤ d → d < 30 → C d = y_big F d := by
  intro m
  induction m with
  | zero => intro d hm a b; have := hF.2.1 d a b; omega
  | succ m ih =>
    intro d hm a b
    by_cases e : d = t
    · rw [e]; exact c0
    · obtain ⟨w, w0, w1, wb, wt⟩ := hF.2.2.2 d a b e
      have hbi := q_bes_in (c := d) (w := w) ⟨a, b⟩
      have hc := q_cst_in σ0 d w
      have i := ih (q_bes d w) (by omega) (by omega) (by omega)
      have r := rx d w a b w0 w1 wb
      have bt := ((big_le hF a b w0 w1 wb).2).mp wt
      have := lb d a b
      omega
theorem xl_me1 {t : Int} {F : Int → Int} {σ0 : q_S} {K : q_R → q_S → Prop} (r6 : q_R6 σ0) (hF : y_sol σ0 t F) (ht : 0 ≤ t ∧ t < 30) (hK : ∀ σ', y_f31 σ0 σ' → (∀ d, 0 ≤ d → d < 30 → σ' 31 d = y_big F d) → K none σ') :
    ∀ (m : Nat) (j s : Int) (σ : q_S) (y : Int) (u : Nat), 30 - j < m → 0 ≤ j → j ≤ 30 → (s = 0 ∨ s = 1) → y_f31 σ0 σ → (∀ d, 0 ≤ d → d < 30 → y_big F d ≤ σ 31 d ∧ σ 31 d ≤ 1000000) → (∀ d, 0 ≤ d → d < 30 → F d % 100 ≤ j → σ 31 d = y_big F d) → (s = 0 → ∀ d w, 0 ≤ d → d < 30 → 0 ≤ w → w < 4 → q_bes d w ≠ -1 → σ 31 d ≤ σ 31 (q_bes d w) + y_cs σ0 d w) → q_E L xs k_Ways_measure (13, [(2, 30), (2, 1), (0, t), (0, s), (0, j), (u, y)], [], σ) K := by
  intro m
  induction m with
  | zero => intro j; omega
  | succ m ih =>
    intro j s σ y u hm hj hj2 hs f lb e1 e3
    have e : q_w32 (j + 1) = j + 1 := by rw [q_w32_id] <;> omega
    refine q_go1 200 13 [22] (fun cl ev hcl hev => ?_)
    refine And.intro (fun g => ?_) (fun g => ?_)
    · refine hK σ f (fun d a b => e1 d a b ?_)
      have := sol_m hF a b
      omega
    · refine And.intro (fun z => ?_) (fun z => ?_)
      · exact hK σ f (fun d a b => fp_ex hF (fun d a b => (lb d a b).1) ht (e1 t ht.1 ht.2 (by rw [hF.1]; omega)) (e3 z) ((F d).toNat + 1) d (by omega) a b)
      · refine hev _ (xl_me2 (j := j) hj r6 hF (fun s' i' σ' hs' f' lb' e1' e3' => ?_) 31 0 0 σ (by omega) (by omega) (by omega) (Or.inl rfl) f lb e1 (fun d a b => by omega) (fun _ d w a b => by omega))
        refine q_go1 200 34 [13] (fun cl ev hcl hev => ?_)
        refine hev _ ?_
        rw [e]
        exact ih (j + 1) s' σ' i' 0 (by omega) (by omega) (by omega) hs' f' lb' e1' e3'
theorem xl_fill31 {v : Int} {σ : q_S} {K : q_R → q_S → Prop} (hK : K none (y_fill 31 v σ 30)) : ∀ (m n : Nat), (30 : Int) - n < m → (n : Int) ≤ 30 →
    q_E L xs k_Arrays_fillx (5, [(2, 31), (0, v), (0, (n : Int)), (0, 30)], [], y_fill 31 v σ n) K := by
  intro m
  induction m with
  | zero => intro n; omega
  | succ m ih =>
    intro n hm hn
    have e : q_w32 ((n : Int) + 1) = ((n + 1 : Nat) : Int) := by rw [q_w32_id] <;> omega
    refine q_go1 200 5 [5] (fun cl ev hcl hev => ?_)
    refine And.intro (fun g => ?_) (fun g => ?_)
    · have en : n = 30 := by omega
      subst en
      exact hK
    · refine And.intro (by omega) ?_
      refine hev _ ?_
      rw [e]
      exact ih (n + 1) (by omega) (by omega)
theorem x_meas {t : Int} {F : Int → Int} {σ : q_S} {K : q_R → q_S → Prop} (r6 : q_R6 σ) (hF : y_sol σ t F) (ht : 0 ≤ t ∧ t < 30) (hK : ∀ σ', y_f31 σ σ' → (∀ d, 0 ≤ d → d < 30 → σ' 31 d = y_big F d) → K none σ') : q_K L xs i_Ways_measure [(2, 30), (2, 1), (0, t)] σ K := by
  have f0 : y_f31 σ (q_up (y_fill 31 1000000 σ 30) 31 t 0) := fun k i hk => (q_un hk).trans (F_fill hk 30)
  have v0 : ∀ d, 0 ≤ d → d < 30 → q_up (y_fill 31 1000000 σ 30) 31 t 0 31 d = if d = t then 0 else 1000000 := fun d a b => by
    by_cases e : d = t
    · rw [if_pos e, e, q_ue]
    · rw [if_neg e, q_ui e]; exact y_fill_v 30 d a (by omega)
  have bt : y_big F t = 0 := by unfold y_big; rw [hF.1]; rfl
  refine q_call k_Ways_measure 6 rfl ?_
  show q_E L xs k_Ways_measure (0, [(2, 30), (2, 1), (0, t), (9, 0), (9, 0), (9, 0)], [], σ) K
  refine q_go1 200 0 [4, 13] (fun cl ev hcl hev => ?_)
  show cl _ _ _ _
  refine hcl _ _ _ _ (q_call k_Arrays_fillx 4 rfl ?_)
  show q_E L xs k_Arrays_fillx (0, [(2, 31), (0, 1000000), (9, 0), (9, 0)], [], σ) _
  refine q_go1 200 0 [5] (fun cl2 ev2 hcl2 hev2 => ?_)
  refine hev2 _ (xl_fill31 ?_ 31 0 (by omega) (by omega))
  refine hev _ ?_
  refine q_go1 200 4 [13] (fun cl ev hcl hev => ?_)
  refine And.intro (by omega) ?_
  refine hev _ (xl_me1 r6 hF ht hK 31 0 1 _ _ _ (by omega) (by omega) (by omega) (Or.inr rfl) f0 (fun d a b => ?_) (fun d a b z => ?_) (fun z => absurd z (by decide)))
  · have := big_b hF a b
    rw [v0 d a b]
    by_cases e : d = t
    · rw [if_pos e, e, bt]; omega
    · rw [if_neg e]; omega
  · have e := sol_z hF a b z
    rw [v0 d a b, if_pos e, e, bt]
theorem xl_ne {n : Int} {σ : q_S} {K : q_R → q_S → Prop} (h31 : ∀ d, 0 ≤ d → d < 30 → 0 ≤ σ 31 d) (hK : K (some (0, v_an (σ 2) (σ 31) n 30)) σ) : ∀ (m c : Nat) (y : Int) (u : Nat), (30 : Int) - c < m → (c : Int) ≤ 30 → q_E L xs k_Ways_nearest (4, [(2, 30), (2, 1), (0, n), (0, v_an (σ 2) (σ 31) n c), (0, (c : Int)), (u, y)], [], σ) K := by
  intro m
  induction m with
  | zero => intro c; omega
  | succ m ih =>
    intro c y u hm hc
    have e : q_w32 ((c : Int) + 1) = ((c + 1 : Nat) : Int) := by rw [q_w32_id] <;> omega
    have van := v_an_in (V := σ 2) (Q := σ 31) (n := n) c
    have ea : v_an (σ 2) (σ 31) n (c + 1) = if n ≤ σ 2 c ∧ σ 31 c ≠ -1 ∧ (v_an (σ 2) (σ 31) n c = -1 ∨ σ 31 c < σ 31 (v_an (σ 2) (σ 31) n c)) then (c : Int) else v_an (σ 2) (σ 31) n c := rfl
    have no : ∀ y u, (c : Int) < 30 → ¬ (n ≤ σ 2 c ∧ σ 31 c ≠ -1 ∧ (v_an (σ 2) (σ 31) n c = -1 ∨ σ 31 c < σ 31 (v_an (σ 2) (σ 31) n c))) → q_E L xs k_Ways_nearest (4, [(2, 30), (2, 1), (0, n), (0, v_an (σ 2) (σ 31) n c), (0, q_w32 ((c : Int) + 1)), (u, y)], [], σ) K := fun y u hlt g => by
      rw [if_neg g] at ea
      have i := ih (c + 1) y u (by omega) (by omega)
      rw [ea] at i
      rw [e]
      exact i
    have yes : ∀ y u, (c : Int) < 30 → (n ≤ σ 2 c ∧ σ 31 c ≠ -1 ∧ (v_an (σ 2) (σ 31) n c = -1 ∨ σ 31 c < σ 31 (v_an (σ 2) (σ 31) n c))) → q_E L xs k_Ways_nearest (4, [(2, 30), (2, 1), (0, n), (0, (c : Int)), (0, q_w32 ((c : Int) + 1)), (u, y)], [], σ) K := fun y u hlt g => by
      rw [if_pos g] at ea
      have i := ih (c + 1) y u (by omega) (by omega)
      rw [ea] at i
      rw [e]
      exact i
    refine q_go1 200 4 [4] (fun cl ev hcl hev => ?_)
    refine And.intro (fun g => ?_) (fun g => ?_)
    · rw [show c = 30 by omega]
      exact hK
    · have h3 := h31 c (by omega) (by omega)
      refine And.intro (by omega) ?_
      refine And.intro (fun g2 => ?_) (fun g2 => ?_)
      · refine And.intro (fun _ => ?_) (fun z => absurd rfl z)
        exact hev _ (no _ _ (by omega) (fun z => by omega))
      · refine And.intro (fun z => absurd z (show ¬ (1 : Int) = 0 by decide)) (fun _ => ?_)
        refine And.intro (fun g3 => ?_) (fun g3 => ?_)
        · exact hev _ (yes _ _ (by omega) ⟨by omega, by omega, Or.inl g3⟩)
        · refine And.intro (by omega) (And.intro (by omega) ?_)
          refine And.intro (fun g4 => ?_) (fun g4 => ?_)
          · exact hev _ (no _ _ (by omega) (fun z => by omega))
          · exact hev _ (yes _ _ (by omega) ⟨by omega, by omega, Or.inr (by omega)⟩)
theorem x_ne {n : Int} {σ : q_S} {K : q_R → q_S → Prop} (h31 : ∀ d, 0 ≤ d → d < 30 → 0 ≤ σ 31 d) (hK : K (some (0, v_an (σ 2) (σ 31) n 30)) σ) : q_K L xs i_Ways_nearest [(2, 30), (2, 1), (0, n)] σ K := by
  refine q_call k_Ways_nearest 6 rfl ?_
  show q_E L xs k_Ways_nearest (0, [(2, 30), (2, 1), (0, n), (9, 0), (9, 0), (9, 0)], [], σ) K
  refine q_go1 200 0 [4] (fun cl ev hcl hev => ?_)
  exact hev _ (xl_ne h31 hK 31 0 0 9 (by omega) (by omega))
theorem xl_on {c t : Int} {F : Int → Int} {σ : q_S} {K : q_R → q_S → Prop} (r6 : q_R6 σ) (hF : y_sol σ t F) (hG : ∀ d, 0 ≤ d → d < 30 → σ 31 d = y_big F d) (hc : 0 ≤ c ∧ c < 30) (hK : K (some (0, q_bes c (y_fw σ F c))) σ) :
    ∀ (m : Nat) (w : Int) (y : Int) (u : Nat), 4 - w < m → 0 ≤ w → w ≤ 4 → (∀ v, 0 ≤ v → v < w → ¬ y_tt σ F c v) → (∃ v, w ≤ v ∧ v < 4 ∧ y_tt σ F c v) → q_E L xs k_Ways_onward (2, [(2, 30), (2, 1), (0, c), (0, w), (u, y)], [], σ) K := by
  intro m
  induction m with
  | zero => intro w; omega
  | succ m ih =>
    intro w y u hm hw0 hw4 hn hex
    have hw : w < 4 := by obtain ⟨v, v0, v1, _⟩ := hex; omega
    have e : q_w32 (w + 1) = w + 1 := by rw [q_w32_id] <;> omega
    have hbs := q_bes_in (c := c) (w := w) hc
    have skip : ¬ y_tt σ F c w → ∀ y u, q_E L xs k_Ways_onward (2, [(2, 30), (2, 1), (0, c), (0, q_w32 (w + 1)), (u, y)], [], σ) K := fun z y u => by
      rw [e]
      refine ih (w + 1) y u (by omega) (by omega) (by omega) (fun v a b => ?_) ?_
      · by_cases ev : v = w
        · rw [ev]; exact z
        · exact hn v a (by omega)
      · obtain ⟨v, v0, v1, v2⟩ := hex
        refine ⟨v, ?_, v1, v2⟩
        by_cases ev : v = w
        · rw [ev] at v2; exact absurd v2 z
        · omega
    refine q_go1 200 2 [2] (fun cl ev hcl hev => ?_)
    refine And.intro (fun z => by exfalso; omega) (fun _ => ?_)
    show cl _ _ _ _
    refine hcl _ _ _ _ (c_Land_neighbour hc (by omega) ?_)
    refine And.intro (fun g => ?_) (fun g => ?_)
    · exact hev _ (skip (fun z => z.1 g) _ _)
    · have gc := hG c hc.1 hc.2
      have gb := hG (q_bes c w) (by omega) (by omega)
      have bb := big_b hF (c := q_bes c w) (by omega) (by omega)
      have ci := y_cs_in σ c w
      have bi := (big_le hF hc.1 hc.2 hw0 hw g).2
      have ew : q_w32 (σ 31 (q_bes c w) + y_cs σ c w) = y_big F (q_bes c w) + y_cs σ c w := by rw [gb, q_w32_id] <;> omega
      refine And.intro (by omega) (And.intro (by omega) ?_)
      show cl _ _ _ _
      refine hcl _ _ _ _ (x_mc r6 hc (by omega) g ?_)
      refine And.intro (fun g2 => ?_) (fun g2 => ?_)
      · rw [ew, gc] at g2
        exact hev _ (skip (fun z => g2 (bi.mp z.2.symm)) _ _)
      · rw [ew, gc] at g2
        have fw : y_fw σ F c = w := y_fw_1 ⟨hw0, hw⟩ ⟨g, (bi.mpr (Decidable.not_not.mp g2)).symm⟩ hn
        rw [fw] at hK
        exact hK
theorem x_on {c t : Int} {F : Int → Int} {σ : q_S} {K : q_R → q_S → Prop} (r6 : q_R6 σ) (hF : y_sol σ t F) (hG : ∀ d, 0 ≤ d → d < 30 → σ 31 d = y_big F d) (hc : 0 ≤ c ∧ c < 30) (hne : c ≠ t) (hK : K (some (0, q_bes c (y_fw σ F c))) σ) : q_K L xs i_Ways_onward [(2, 30), (2, 1), (0, c)] σ K := by
  refine q_call k_Ways_onward 5 rfl ?_
  show q_E L xs k_Ways_onward (0, [(2, 30), (2, 1), (0, c), (9, 0), (9, 0)], [], σ) K
  refine q_go1 200 0 [2] (fun cl ev hcl hev => ?_)
  obtain ⟨v, v0, v1, vt⟩ := y_fw_ex hF hc.1 hc.2 hne
  exact hev _ (xl_on r6 hF hG hc hK 5 0 0 9 (by omega) (by omega) (by omega) (fun v a b => by omega) ⟨v, v0, v1, vt⟩)
end W3
