/-! THE WAY: what the two searches find -/
/-- the ways to t: how far each cell is -/
def y_sol (σ : q_S) (t : Int) (F : Int → Int) : Prop := F t = 0 ∧ (∀ c, 0 ≤ c → c < 30 → 0 ≤ F c) ∧ (∀ c w, 0 ≤ c → c < 30 → 0 ≤ w → w < 4 → q_bes c w ≠ -1 → F c ≤ F (q_bes c w) + q_cst σ c w) ∧ (∀ c, 0 ≤ c → c < 30 → c ≠ t → ∃ w, 0 ≤ w ∧ w < 4 ∧ q_bes c w ≠ -1 ∧ F c = F (q_bes c w) + q_cst σ c w)
theorem sol_FX {σ : q_S} {t : Int} {F : Int → Int} (ht : 0 ≤ t ∧ t < 30) (h : q_FX σ t 0 F) : y_sol σ t F := by
  have hall := q_all_set h ht
  refine ⟨h.1.1, fun c a b => ?_, fun c w a b d e f => ?_, fun c a b e => ?_⟩
  · have := hall c a b
    have := q_WF_in h.1 a b
    omega
  · have hb := q_bes_in (c := c) (w := w) ⟨a, b⟩
    exact (h.2 c w a b d e f (hall _ (by omega) (by omega)) (Or.inl rfl)).2
  · obtain ⟨w, b1, b2, b3, b4, b5⟩ := h.1.2.2.2 c a b e (hall c a b)
    have := (h.2 c w a b b1 b2 b3 b4 (Or.inl rfl)).2
    exact ⟨w, b1, b2, b3, by omega⟩
/-- the step back -/
def y_rv (w : Int) : Int := if w = 0 then 1 else if w = 1 then 0 else if w = 2 then 3 else 2
theorem y_rv_ok {σ : q_S} {c w : Int} (hc : 0 ≤ c ∧ c < 30) (hw : 0 ≤ w ∧ w < 4) (hb : q_bes c w ≠ -1) : (0 ≤ y_rv w ∧ y_rv w < 4) ∧ q_bes (q_bes c w) (y_rv w) = c ∧ q_cst σ (q_bes c w) (y_rv w) = q_cst σ c w := by
  have h4 : w = 0 ∨ w = 1 ∨ w = 2 ∨ w = 3 := by omega
  rcases h4 with rfl | rfl | rfl | rfl
  · rw [q_b0] at hb ⊢
    have hne : ¬ c % 6 = 0 := fun z => by rw [if_pos z] at hb; exact hb rfl
    rw [if_neg hne]
    refine ⟨by decide, ?_, ?_⟩
    · show q_bes (c - 1) 1 = c
      rw [q_b1, if_neg (by omega)]; omega
    · show q_cst σ (c - 1) 1 = q_cst σ c 0
      unfold q_cst q_sht
      rfl
  · rw [q_b1] at hb ⊢
    have hne : ¬ c % 6 = 5 := fun z => by rw [if_pos z] at hb; exact hb rfl
    rw [if_neg hne]
    refine ⟨by decide, ?_, ?_⟩
    · show q_bes (c + 1) 0 = c
      rw [q_b0, if_neg (by omega)]; omega
    · show q_cst σ (c + 1) 0 = q_cst σ c 1
      have e : q_sht σ (c + 1) 0 = σ 105 c := by unfold q_sht; rw [if_pos rfl, show c + 1 - 1 = c by omega]
      have e' : q_sht σ c 1 = σ 105 c := rfl
      unfold q_cst
      rw [e, e']
  · rw [q_b2] at hb ⊢
    have hne : ¬ c < 6 := fun z => by rw [if_pos z] at hb; exact hb rfl
    rw [if_neg hne]
    refine ⟨by decide, ?_, ?_⟩
    · show q_bes (c - 6) 3 = c
      rw [q_b3, if_neg (by omega)]; omega
    · show q_cst σ (c - 6) 3 = q_cst σ c 2
      unfold q_cst q_sht
      rfl
  · rw [q_b3] at hb ⊢
    have hne : ¬ 24 ≤ c := fun z => by rw [if_pos z] at hb; exact hb rfl
    rw [if_neg hne]
    refine ⟨by decide, ?_, ?_⟩
    · show q_bes (c + 6) 2 = c
      rw [q_b2, if_neg (by omega)]; omega
    · show q_cst σ (c + 6) 2 = q_cst σ c 3
      have e : q_sht σ (c + 6) 2 = σ 106 c := by unfold q_sht; rw [if_neg (by decide), if_neg (by decide), if_pos rfl, show c + 6 - 6 = c by omega]
      have e' : q_sht σ c 3 = σ 106 c := rfl
      unfold q_cst
      rw [e, e']
/-- one search from each end: the same way -/
theorem sol_sy1 {σ : q_S} {t u : Int} {F G : Int → Int} (hu : 0 ≤ u ∧ u < 30) (hF : y_sol σ t F) (hG : y_sol σ u G) : ∀ (m : Nat) (x : Int), G x < m → 0 ≤ x → x < 30 → F u ≤ F x + G x := by
  intro m
  induction m with
  | zero => intro x hm a b; have := hG.2.1 x a b; omega
  | succ m ih =>
    intro x hm a b
    by_cases e : x = u
    · rw [e, hG.1]; omega
    · obtain ⟨w, w0, w1, wb, wt⟩ := hG.2.2.2 x a b e
      have hb := q_bes_in (c := x) (w := w) ⟨a, b⟩
      have hr := y_rv_ok (σ := σ) ⟨a, b⟩ ⟨w0, w1⟩ wb
      have hc := q_cst_in σ x w
      have := ih (q_bes x w) (by omega) (by omega) (by omega)
      have h2 := hF.2.2.1 (q_bes x w) (y_rv w) (by omega) (by omega) hr.1.1 hr.1.2 (by rw [hr.2.1]; omega)
      rw [hr.2.1, hr.2.2] at h2
      omega
theorem sol_sy {σ : q_S} {t u : Int} {F G : Int → Int} (ht : 0 ≤ t ∧ t < 30) (hu : 0 ≤ u ∧ u < 30) (hF : y_sol σ t F) (hG : y_sol σ u G) : F u = G t := by
  have h1 := sol_sy1 hu hF hG ((G t).toNat + 1) t (by omega) ht.1 ht.2
  have h2 := sol_sy1 ht hG hF ((F u).toNat + 1) u (by omega) hu.1 hu.2
  have := hF.1
  have := hG.1
  omega
theorem sol_le {σ : q_S} {t : Int} {F G : Int → Int} (hF : y_sol σ t F) (hG : y_sol σ t G) : ∀ (m : Nat) (x : Int), G x < m → 0 ≤ x → x < 30 → F x ≤ G x := by
  intro m
  induction m with
  | zero => intro x hm a b; have := hG.2.1 x a b; omega
  | succ m ih =>
    intro x hm a b
    by_cases e : x = t
    · rw [e, hG.1, hF.1]; omega
    · obtain ⟨w, w0, w1, wb, wt⟩ := hG.2.2.2 x a b e
      have hb := q_bes_in (c := x) (w := w) ⟨a, b⟩
      have hc := q_cst_in σ x w
      have := ih (q_bes x w) (by omega) (by omega) (by omega)
      have := hF.2.2.1 x w a b w0 w1 wb
      omega
theorem sol_un {σ : q_S} {t : Int} {F G : Int → Int} (hF : y_sol σ t F) (hG : y_sol σ t G) {x : Int} (a : 0 ≤ x) (b : x < 30) : F x = G x := by
  have h1 := sol_le hF hG ((G x).toNat + 1) x (by omega) a b
  have h2 := sol_le hG hF ((F x).toNat + 1) x (by omega) a b
  omega
/-- how many of the first n cells are nearer than x -/
def y_rk (F : Int → Int) (x : Int) : Nat → Int
  | 0 => 0
  | n + 1 => y_rk F x n + (if F n < x then 1 else 0)
theorem y_rk_b {F : Int → Int} {x : Int} : ∀ n : Nat, 0 ≤ y_rk F x n ∧ y_rk F x n ≤ n
  | 0 => ⟨Int.le_refl _, Int.le_refl _⟩
  | n + 1 => by
    have := y_rk_b (F := F) (x := x) n
    have e : y_rk F x (n + 1) = y_rk F x n + (if F n < x then 1 else 0) := rfl
    rw [e]
    split <;> omega
theorem y_rk_m {F : Int → Int} {x y : Int} (h : x ≤ y) : ∀ n : Nat, y_rk F x n ≤ y_rk F y n
  | 0 => Int.le_refl _
  | n + 1 => by
    have := y_rk_m (F := F) h n
    have e : y_rk F x (n + 1) = y_rk F x n + (if F n < x then 1 else 0) := rfl
    have e' : y_rk F y (n + 1) = y_rk F y n + (if F n < y then 1 else 0) := rfl
    rw [e, e']
    split <;> split <;> omega
theorem y_rk_s {F : Int → Int} {x y b : Int} (h : x ≤ F b) (h2 : F b < y) (hb : 0 ≤ b) : ∀ n : Nat, b < n → y_rk F x n + 1 ≤ y_rk F y n
  | 0, hn => by omega
  | n + 1, hn => by
    have e : y_rk F x (n + 1) = y_rk F x n + (if F n < x then 1 else 0) := rfl
    have e' : y_rk F y (n + 1) = y_rk F y n + (if F n < y then 1 else 0) := rfl
    rw [e, e']
    by_cases eb : b = n
    · have := y_rk_m (F := F) (show x ≤ y by omega) n
      rw [← eb, if_neg (by omega), if_pos h2]
      omega
    · have := y_rk_s (F := F) h h2 hb n (by omega)
      split <;> split <;> omega
theorem y_rk_29 {F : Int → Int} {c : Int} (a : 0 ≤ c) (b : c < 30) : y_rk F (F c) 30 ≤ 29 := by
  have h1 := y_rk_s (F := F) (x := F c) (y := F c + 1) (b := c) (Int.le_refl _) (by omega) a 30 (by omega)
  have h2 := y_rk_b (F := F) (x := F c + 1) 30
  omega
/-- moves are fewer than thirty -/
theorem sol_m1 {σ : q_S} {t : Int} {F : Int → Int} (hF : y_sol σ t F) : ∀ (m : Nat) (c : Int), F c < m → 0 ≤ c → c < 30 → ∃ s k, F c = 100 * s + k ∧ 0 ≤ s ∧ 0 ≤ k ∧ k ≤ y_rk F (F c) 30 := by
  intro m
  induction m with
  | zero => intro c hm a b; have := hF.2.1 c a b; omega
  | succ m ih =>
    intro c hm a b
    by_cases e : c = t
    · exact ⟨0, 0, by rw [e, hF.1]; rfl, by omega, by omega, (y_rk_b 30).1⟩
    · obtain ⟨w, w0, w1, wb, wt⟩ := hF.2.2.2 c a b e
      have hb := q_bes_in (c := c) (w := w) ⟨a, b⟩
      have hc := q_cst_in σ c w
      obtain ⟨s, k, e1, s0, k0, k1⟩ := ih (q_bes c w) (by omega) (by omega) (by omega)
      have hr := y_rk_s (F := F) (x := F (q_bes c w)) (y := F c) (b := q_bes c w) (Int.le_refl _) (by omega) (by omega) 30 (by omega)
      rcases hc with hc | hc
      · exact ⟨s, k + 1, by omega, s0, by omega, by omega⟩
      · exact ⟨s + 1, k + 1, by omega, by omega, by omega, by omega⟩
theorem sol_m {σ : q_S} {t : Int} {F : Int → Int} (hF : y_sol σ t F) {c : Int} (a : 0 ≤ c) (b : c < 30) : F c % 100 ≤ 29 ∧ 0 ≤ F c ∧ F c ≤ 2929 := by
  obtain ⟨s, k, e, s0, k0, k1⟩ := sol_m1 hF ((F c).toNat + 1) c (by omega) a b
  have := y_rk_29 (F := F) a b
  refine ⟨by omega, by omega, ?_⟩
  have sl : ∀ (m : Nat) (c : Int), F c < m → 0 ≤ c → c < 30 → F c ≤ 101 * y_rk F (F c) 30 := by
    intro m
    induction m with
    | zero => intro c hm a b; have := hF.2.1 c a b; omega
    | succ m ih =>
      intro c hm a b
      by_cases e : c = t
      · have := (y_rk_b (F := F) (x := F c) 30).1
        have := hF.1
        rw [← e] at this
        omega
      · obtain ⟨w, w0, w1, wb, wt⟩ := hF.2.2.2 c a b e
        have hb := q_bes_in (c := c) (w := w) ⟨a, b⟩
        have hc := q_cst_in σ c w
        have := ih (q_bes c w) (by omega) (by omega) (by omega)
        have hr := y_rk_s (F := F) (x := F (q_bes c w)) (y := F c) (b := q_bes c w) (Int.le_refl _) (by omega) (by omega) 30 (by omega)
        omega
  have := sl ((F c).toNat + 1) c (by omega) a b
  omega
/-- a shut gate counts a thousand -/
def y_big (F : Int → Int) (c : Int) : Int := F c + 900 * (F c / 100)
def y_cs (σ : q_S) (c w : Int) : Int := if q_sht σ c w = 0 then 1 else 1001
theorem y_cs_in (σ : q_S) (c w : Int) : (q_cst σ c w = 1 ∧ y_cs σ c w = 1) ∨ (q_cst σ c w = 101 ∧ y_cs σ c w = 1001) := by
  unfold q_cst y_cs
  split <;> omega
theorem big_le {σ : q_S} {t : Int} {F : Int → Int} (hF : y_sol σ t F) {c w : Int} (a : 0 ≤ c) (b : c < 30) (w0 : 0 ≤ w) (w1 : w < 4) (wb : q_bes c w ≠ -1) : y_big F c ≤ y_big F (q_bes c w) + y_cs σ c w ∧ (F c = F (q_bes c w) + q_cst σ c w ↔ y_big F c = y_big F (q_bes c w) + y_cs σ c w) := by
  have hb := q_bes_in (c := c) (w := w) ⟨a, b⟩
  have h1 := sol_m hF a b
  have h2 := sol_m hF (c := q_bes c w) (by omega) (by omega)
  have h3 := hF.2.2.1 c w a b w0 w1 wb
  have hc := y_cs_in σ c w
  unfold y_big
  generalize F c = x at *
  generalize F (q_bes c w) = y at *
  omega
theorem big_b {σ : q_S} {t : Int} {F : Int → Int} (hF : y_sol σ t F) {c : Int} (a : 0 ≤ c) (b : c < 30) : 0 ≤ y_big F c ∧ y_big F c ≤ 30000 ∧ y_big F c % 1000 = F c % 100 := by
  have h1 := sol_m hF a b
  unfold y_big
  omega
/-- what is found by open gates alone -/
theorem sol_op {σ : q_S} {t : Int} {F G : Int → Int} (hF : y_sol σ t F) (hG : q_FX σ t 1 G) (hR : ∀ d, 0 ≤ d → d < 30 → G d ≠ -1 → F d < 100) {c : Int} (a : 0 ≤ c) (b : c < 30) : G c = if F c < 100 then F c else -1 := by
  have up : ∀ (m : Nat) (c : Int), F c < m → 0 ≤ c → c < 30 → F c < 100 → G c ≠ -1 ∧ G c ≤ F c := by
    intro m
    induction m with
    | zero => intro c hm a b; have := hF.2.1 c a b; omega
    | succ m ih =>
      intro c hm a b h1
      by_cases e : c = t
      · rw [e, hG.1.1, hF.1]; omega
      · obtain ⟨w, w0, w1, wb, wt⟩ := hF.2.2.2 c a b e
        have hb := q_bes_in (c := c) (w := w) ⟨a, b⟩
        have hn := hF.2.1 (q_bes c w) (by omega) (by omega)
        have hc := q_cst_in σ c w
        have hop : q_sht σ c w = 0 ∧ q_cst σ c w = 1 := by
          unfold q_cst at *
          by_cases z : q_sht σ c w = 0
          · rw [if_pos z]; exact ⟨z, rfl⟩
          · rw [if_neg z] at *; omega
        have i := ih (q_bes c w) (by omega) (by omega) (by omega) (by omega)
        have := hG.2 c w a b w0 w1 wb i.1 (Or.inr hop.1)
        omega
  have dn : ∀ (m : Nat) (c : Int), G c < m → 0 ≤ c → c < 30 → G c ≠ -1 → F c ≤ G c := by
    intro m
    induction m with
    | zero => intro c hm a b h1; have := q_WF_in hG.1 a b; omega
    | succ m ih =>
      intro c hm a b h1
      by_cases e : c = t
      · rw [e, hG.1.1, hF.1]; omega
      · obtain ⟨w, w0, w1, wb, wn, wt⟩ := hG.1.2.2.2 c a b e h1
        have hb := q_bes_in (c := c) (w := w) ⟨a, b⟩
        have hc := q_cst_in σ c w
        have i := ih (q_bes c w) (by omega) (by omega) (by omega) wn
        have := hF.2.2.1 c w a b w0 w1 wb
        omega
  by_cases h : F c < 100
  · rw [if_pos h]
    have h1 := up ((F c).toNat + 1) c (by omega) a b h
    have h2 := dn ((G c).toNat + 1) c (by omega) a b h1.1
    omega
  · rw [if_neg h]
    by_cases z : G c = -1
    · exact z
    · exact absurd (hR c a b z) h
/-- the nearest of the first n cells that are high enough: Q is how far, -1 is no way -/
def v_an (V Q : Int → Int) (n : Int) : Nat → Int
  | 0 => -1
  | k + 1 => if n ≤ V k ∧ Q k ≠ -1 ∧ (v_an V Q n k = -1 ∨ Q k < Q (v_an V Q n k)) then (k : Int) else v_an V Q n k
theorem v_an_in {V Q : Int → Int} {n : Int} : ∀ k : Nat, -1 ≤ v_an V Q n k ∧ v_an V Q n k < k ∧ (v_an V Q n k ≠ -1 → n ≤ V (v_an V Q n k) ∧ Q (v_an V Q n k) ≠ -1)
  | 0 => ⟨Int.le_refl _, show (-1 : Int) < ((0 : Nat) : Int) by decide, fun z => absurd rfl z⟩
  | k + 1 => by
    have ih := v_an_in (V := V) (Q := Q) (n := n) k
    have e : v_an V Q n (k + 1) = if n ≤ V k ∧ Q k ≠ -1 ∧ (v_an V Q n k = -1 ∨ Q k < Q (v_an V Q n k)) then (k : Int) else v_an V Q n k := rfl
    by_cases g : n ≤ V k ∧ Q k ≠ -1 ∧ (v_an V Q n k = -1 ∨ Q k < Q (v_an V Q n k))
    · rw [e, if_pos g]
      exact ⟨by omega, by omega, fun _ => ⟨g.1, g.2.1⟩⟩
    · rw [e, if_neg g]
      exact ⟨ih.1, by omega, ih.2.2⟩
theorem v_an_c {V V' Q Q' : Int → Int} {n : Int} : ∀ k : Nat, (∀ j : Int, 0 ≤ j → j < k → V' j = V j ∧ Q' j = Q j) → v_an V' Q' n k = v_an V Q n k
  | 0, _ => rfl
  | k + 1, h => by
    have ih := v_an_c (V := V) (V' := V') (Q := Q) (Q' := Q') (n := n) k (fun j h0 h1 => h j h0 (by omega))
    have hi := v_an_in (V := V) (Q := Q) (n := n) k
    have hk := h k (by omega) (by omega)
    have e : v_an V Q n (k + 1) = if n ≤ V k ∧ Q k ≠ -1 ∧ (v_an V Q n k = -1 ∨ Q k < Q (v_an V Q n k)) then (k : Int) else v_an V Q n k := rfl
    have e' : v_an V' Q' n (k + 1) = if n ≤ V' k ∧ Q' k ≠ -1 ∧ (v_an V' Q' n k = -1 ∨ Q' k < Q' (v_an V' Q' n k)) then (k : Int) else v_an V' Q' n k := rfl
    rw [e, e', ih, hk.1, hk.2]
    by_cases z : v_an V Q n k = -1
    · simp only [z, true_or]
    · rw [(h _ (by omega) (by omega)).2]
/-- greater numbers in the same order: the same cell -/
theorem v_an_mo {V Q Q' : Int → Int} {n : Int} : ∀ k : Nat, (∀ j : Int, 0 ≤ j → j < k → 0 ≤ Q j ∧ 0 ≤ Q' j) → (∀ i j : Int, 0 ≤ i → i < k → 0 ≤ j → j < k → (Q i < Q j ↔ Q' i < Q' j)) → v_an V Q' n k = v_an V Q n k
  | 0, _, _ => rfl
  | k + 1, h, hm => by
    have ih := v_an_mo (V := V) (Q := Q) (Q' := Q') (n := n) k (fun j h0 h1 => h j h0 (by omega)) (fun i j a b c d => hm i j a (by omega) c (by omega))
    have hi := v_an_in (V := V) (Q := Q) (n := n) k
    have hk := h k (by omega) (by omega)
    have e : v_an V Q n (k + 1) = if n ≤ V k ∧ Q k ≠ -1 ∧ (v_an V Q n k = -1 ∨ Q k < Q (v_an V Q n k)) then (k : Int) else v_an V Q n k := rfl
    have e' : v_an V Q' n (k + 1) = if n ≤ V k ∧ Q' k ≠ -1 ∧ (v_an V Q' n k = -1 ∨ Q' k < Q' (v_an V Q' n k)) then (k : Int) else v_an V Q' n k := rfl
    rw [e, e', ih]
    have hq : (v_an V Q n k = -1 ∨ Q k < Q (v_an V Q n k)) ↔ (v_an V Q n k = -1 ∨ Q' k < Q' (v_an V Q n k)) := by
      by_cases z : v_an V Q n k = -1
      · exact ⟨fun _ => Or.inl z, fun _ => Or.inl z⟩
      · have := hm k (v_an V Q n k) (by omega) (by omega) (by omega) (by omega)
        exact ⟨fun y => y.elim Or.inl (fun y => Or.inr (this.mp y)), fun y => y.elim Or.inl (fun y => Or.inr (this.mpr y))⟩
    by_cases g : n ≤ V k ∧ Q k ≠ -1 ∧ (v_an V Q n k = -1 ∨ Q k < Q (v_an V Q n k))
    · rw [if_pos g, if_pos ⟨g.1, by omega, hq.mp g.2.2⟩]
    · rw [if_neg g, if_neg (fun y => g ⟨y.1, by omega, hq.mpr y.2.2⟩)]
/-- those by open gates come first -/
theorem v_an_op {V P : Int → Int} {n : Int} : ∀ k : Nat, (∀ j : Int, 0 ≤ j → j < k → 0 ≤ P j) → v_an V (fun c => if P c < 100 then P c else -1) n k = if v_an V P n k ≠ -1 ∧ P (v_an V P n k) < 100 then v_an V P n k else -1
  | 0, _ => by rw [if_neg (fun z => z.1 rfl)]; rfl
  | k + 1, h => by
    have ih := v_an_op (V := V) (P := P) (n := n) k (fun j h0 h1 => h j h0 (by omega))
    have hi := v_an_in (V := V) (Q := P) (n := n) k
    have hk := h k (by omega) (by omega)
    have e : v_an V P n (k + 1) = if n ≤ V k ∧ P k ≠ -1 ∧ (v_an V P n k = -1 ∨ P k < P (v_an V P n k)) then (k : Int) else v_an V P n k := rfl
    have e' : v_an V (fun c => if P c < 100 then P c else -1) n (k + 1) = if n ≤ V k ∧ (if P k < 100 then P k else -1) ≠ -1 ∧ (v_an V (fun c => if P c < 100 then P c else -1) n k = -1 ∨ (if P k < 100 then P k else -1) < (if P (v_an V (fun c => if P c < 100 then P c else -1) n k) < 100 then P (v_an V (fun c => if P c < 100 then P c else -1) n k) else -1)) then (k : Int) else v_an V (fun c => if P c < 100 then P c else -1) n k := rfl
    rw [e', ih, e]
    have hb : v_an V P n k ≠ -1 → 0 ≤ P (v_an V P n k) := fun z => h _ (by omega) (by omega)
    generalize v_an V P n k = b at *
    by_cases kp : P k < 100
    · rw [if_pos kp]
      by_cases hb1 : b ≠ -1 ∧ P b < 100
      · rw [if_pos hb1, if_pos hb1.2]
        by_cases g : n ≤ V k ∧ P k ≠ -1 ∧ (b = -1 ∨ P k < P b)
        · rw [if_pos g, if_pos ⟨by omega, kp⟩]
        · rw [if_neg g, if_pos hb1]
      · rw [if_neg hb1]
        by_cases g : n ≤ V k
        · have g1 : n ≤ V k ∧ P k ≠ -1 ∧ (b = -1 ∨ P k < P b) := ⟨g, by omega, by by_cases z : b = -1; exact Or.inl z; exact Or.inr (by by_cases y : P b < 100; exact absurd ⟨z, y⟩ hb1; omega)⟩
          rw [if_pos g1, if_pos ⟨g, by omega, Or.inl rfl⟩, if_pos ⟨by omega, kp⟩]
        · rw [if_neg (fun z => g z.1), if_neg (show ¬ (n ≤ V k ∧ P k ≠ -1 ∧ (b = -1 ∨ P k < P b)) from fun z => g z.1), if_neg hb1]
    · rw [if_neg kp, if_neg (fun z => z.2.1 rfl)]
      by_cases hb1 : b ≠ -1 ∧ P b < 100
      · rw [if_neg (show ¬ (n ≤ V k ∧ P k ≠ -1 ∧ (b = -1 ∨ P k < P b)) by omega)]
      · rw [if_neg hb1]
        by_cases g : n ≤ V k ∧ P k ≠ -1 ∧ (b = -1 ∨ P k < P b)
        · rw [if_pos g, if_neg (fun z => kp z.2)]
        · rw [if_neg g, if_neg hb1]
