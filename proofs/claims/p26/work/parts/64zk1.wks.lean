/-! WORKS: the best weights, for so many hands, by how many of the latest rods are in -/
def w_V (N G : Int → Int) : Nat → Int → Nat → Int
  | 0, _, s => if s = 0 then 16777215 else -1
  | r + 1, n, s => if s = 0 then max (w_V N G r n 0) (max (w_V N G r n 1) (w_V N G r n 2)) else if s = 1 then (if 0 < N r ∧ N r ≤ n then w_V N G r (n - N r) 0 + G r else -1) else (if (0 < N r ∧ N r ≤ n) ∧ w_V N G r (n - N r) 1 ≠ -1 then w_V N G r (n - N r) 1 + G r else -1)
section V1a
variable {N G : Int → Int} {r : Nat} {n : Int}
theorem w_V_0 : w_V N G (r + 1) n 0 = max (w_V N G r n 0) (max (w_V N G r n 1) (w_V N G r n 2)) := rfl
theorem w_V_1 : w_V N G (r + 1) n 1 = if 0 < N r ∧ N r ≤ n then w_V N G r (n - N r) 0 + G r else -1 := rfl
theorem w_V_2 : w_V N G (r + 1) n 2 = if (0 < N r ∧ N r ≤ n) ∧ w_V N G r (n - N r) 1 ≠ -1 then w_V N G r (n - N r) 1 + G r else -1 := rfl
end V1a
theorem p2_b {r : Nat} (h : r ≤ 24) : 1 ≤ (2 : Int) ^ r ∧ (2 : Int) ^ r ≤ 16777216 := by
  have h25 : r = 0 ∨ r = 1 ∨ r = 2 ∨ r = 3 ∨ r = 4 ∨ r = 5 ∨ r = 6 ∨ r = 7 ∨ r = 8 ∨ r = 9 ∨ r = 10 ∨ r = 11 ∨ r = 12 ∨ r = 13 ∨ r = 14 ∨ r = 15 ∨ r = 16 ∨ r = 17 ∨ r = 18 ∨ r = 19 ∨ r = 20 ∨ r = 21 ∨ r = 22 ∨ r = 23 ∨ r = 24 := by omega
  rcases h25 with rfl | rfl | rfl | rfl | rfl | rfl | rfl | rfl | rfl | rfl | rfl | rfl | rfl | rfl | rfl | rfl | rfl | rfl | rfl | rfl | rfl | rfl | rfl | rfl | rfl
  all_goals decide
theorem p2_s (r : Nat) : (2 : Int) ^ (r + 1) = 2 * (2 : Int) ^ r := by rw [Int.pow_succ, Int.mul_comm]
/-- a weight, its worth and its bits -/
def w_R (r : Nat) (v m b : Int) : Prop := (v = -1 ∧ m = -1) ∨ (0 ≤ m ∧ m ≤ 600 * (r : Int) ∧ 0 ≤ b ∧ b < (2 : Int) ^ r ∧ v = m * 16777216 + (16777215 - b))
/-- a rod's gain -/
def w_G (G : Int → Int) (R : Nat) : Prop := ∀ j : Nat, j < R → ∃ w, G j = w * 16777216 - (2 : Int) ^ j ∧ 0 ≤ w ∧ w ≤ 600
theorem w_R_up {r : Nat} {v m b : Int} (h : w_R r v m b) : w_R (r + 1) v m b := by
  rcases h with h | ⟨a, b', c, d, e⟩
  · exact Or.inl h
  · refine Or.inr ⟨a, by omega, c, ?_, e⟩
    rw [p2_s]
    generalize (2 : Int) ^ r = p at *
    omega
theorem w_R_ad {r : Nat} {v m b w : Int} (h : w_R r v m b) (hv : v ≠ -1) (hw : 0 ≤ w ∧ w ≤ 600) : w_R (r + 1) (v + (w * 16777216 - (2 : Int) ^ r)) (m + w) (b + (2 : Int) ^ r) := by
  rcases h with h | ⟨a, b', c, d, e⟩
  · exact absurd h.1 hv
  · refine Or.inr ⟨by omega, by omega, ?_, ?_, ?_⟩
    · generalize (2 : Int) ^ r = p at *
      omega
    · rw [p2_s]
      generalize (2 : Int) ^ r = p at *
      omega
    · rw [e]
      generalize (2 : Int) ^ r = p at *
      omega
theorem w_R_b {r : Nat} {v m b : Int} (hr : r ≤ 24) (h : w_R r v m b) : -1 ≤ v ∧ v ≤ 300000000000 ∧ (v = -1 ↔ m = -1) ∧ (v ≠ -1 → m = v / 16777216 ∧ b = 16777215 - v % 16777216 ∧ 0 ≤ m ∧ m ≤ 14400 ∧ 0 ≤ b ∧ b < 16777216) := by
  have hp := p2_b hr
  rcases h with h | ⟨a, b', c, d, e⟩
  · refine ⟨by omega, by omega, ⟨fun _ => h.2, fun _ => h.1⟩, fun z => absurd h.1 z⟩
  · generalize (2 : Int) ^ r = p at *
    refine ⟨by omega, by omega, by omega, fun _ => ⟨by omega, by omega, a, by omega, c, by omega⟩⟩
/-- every weight has its shape; there is always the empty set -/
theorem w_V_R {N G : Int → Int} : ∀ r : Nat, r ≤ 24 → w_G G r → ∀ (n : Int) (s : Nat), s ≤ 2 → (∃ m b, w_R r (w_V N G r n s) m b) ∧ (s = 0 → w_V N G r n s ≠ -1)
  | 0, _, _, n, s, _ => by
    by_cases e : s = 0
    · subst e
      exact ⟨⟨0, 0, Or.inr ⟨by decide, by decide, by decide, by decide, rfl⟩⟩, fun _ => by show (16777215 : Int) ≠ -1; decide⟩
    · have ev : w_V N G 0 n s = -1 := by unfold w_V; rw [if_neg e]
      exact ⟨⟨-1, 0, Or.inl ⟨ev, rfl⟩⟩, fun z => absurd z e⟩
  | r + 1, hr, hG, n, s, hs => by
    have ih := w_V_R (N := N) (G := G) r (by omega) (fun j hj => hG j (by omega))
    obtain ⟨w, eG, w0, w1⟩ := hG r (by omega)
    have h3 : s = 0 ∨ s = 1 ∨ s = 2 := by omega
    rcases h3 with rfl | rfl | rfl
    · rw [w_V_0]
      obtain ⟨⟨m0, b0, r0⟩, n0⟩ := ih n 0 (by omega)
      obtain ⟨⟨m1, b1, r1⟩, _⟩ := ih n 1 (by omega)
      obtain ⟨⟨m2, b2, r2⟩, _⟩ := ih n 2 (by omega)
      have q0 := w_R_b (by omega) r0
      have q1 := w_R_b (by omega) r1
      have q2 := w_R_b (by omega) r2
      have n0 := n0 rfl
      refine ⟨?_, fun _ => by omega⟩
      by_cases c1 : w_V N G r n 1 ≤ w_V N G r n 0 ∧ w_V N G r n 2 ≤ w_V N G r n 0
      · rw [show max (w_V N G r n 0) (max (w_V N G r n 1) (w_V N G r n 2)) = w_V N G r n 0 by omega]
        exact ⟨m0, b0, w_R_up r0⟩
      · by_cases c2 : w_V N G r n 2 ≤ w_V N G r n 1
        · rw [show max (w_V N G r n 0) (max (w_V N G r n 1) (w_V N G r n 2)) = w_V N G r n 1 by omega]
          exact ⟨m1, b1, w_R_up r1⟩
        · rw [show max (w_V N G r n 0) (max (w_V N G r n 1) (w_V N G r n 2)) = w_V N G r n 2 by omega]
          exact ⟨m2, b2, w_R_up r2⟩
    · rw [w_V_1]
      refine ⟨?_, fun z => absurd z (by decide)⟩
      by_cases c : 0 < N r ∧ N r ≤ n
      · rw [if_pos c, eG]
        obtain ⟨⟨m0, b0, r0⟩, n0⟩ := ih (n - N r) 0 (by omega)
        exact ⟨_, _, w_R_ad r0 (n0 rfl) ⟨w0, w1⟩⟩
      · rw [if_neg c]
        exact ⟨-1, 0, Or.inl ⟨rfl, rfl⟩⟩
    · rw [w_V_2]
      refine ⟨?_, fun z => absurd z (by decide)⟩
      by_cases c : (0 < N r ∧ N r ≤ n) ∧ w_V N G r (n - N r) 1 ≠ -1
      · rw [if_pos c, eG]
        obtain ⟨⟨m1, b1, r1⟩, _⟩ := ih (n - N r) 1 (by omega)
        exact ⟨_, _, w_R_ad r1 c.2 ⟨w0, w1⟩⟩
      · rw [if_neg c]
        exact ⟨-1, 0, Or.inl ⟨rfl, rfl⟩⟩
theorem w_V_b {N G : Int → Int} {r : Nat} (hr : r ≤ 24) (hG : w_G G r) (n : Int) {s : Nat} (hs : s ≤ 2) : -1 ≤ w_V N G r n s ∧ w_V N G r n s ≤ 300000000000 ∧ (s = 0 → 0 ≤ w_V N G r n s) := by
  obtain ⟨⟨m, b, h⟩, h0⟩ := w_V_R (N := N) (G := G) r hr hG n s hs
  have q := w_R_b hr h
  exact ⟨q.1, q.2.1, fun z => by have := h0 z; omega⟩
/-- more hands: no less -/
theorem w_V_mo {N G : Int → Int} : ∀ r : Nat, r ≤ 24 → w_G G r → ∀ (n n' : Int) (s : Nat), s ≤ 2 → n ≤ n' → w_V N G r n s ≤ w_V N G r n' s
  | 0, _, _, n, n', s, _, _ => Int.le_refl _
  | r + 1, hr, hG, n, n', s, hs, hn => by
    have ih := w_V_mo (N := N) (G := G) r (by omega) (fun j hj => hG j (by omega))
    have hG' : w_G G r := fun j hj => hG j (by omega)
    have hb := fun n' (s : Nat) (hs : s ≤ 2) => w_V_b (N := N) (G := G) (r := r) (by omega) hG' n' hs
    obtain ⟨w, eG, w0, w1⟩ := hG r (by omega)
    have hp := p2_b (r := r) (by omega)
    have h3 : s = 0 ∨ s = 1 ∨ s = 2 := by omega
    rcases h3 with rfl | rfl | rfl
    · rw [w_V_0, w_V_0]
      have a0 := ih n n' 0 (by omega) hn
      have a1 := ih n n' 1 (by omega) hn
      have a2 := ih n n' 2 (by omega) hn
      omega
    · rw [w_V_1, w_V_1]
      by_cases c : 0 < N r ∧ N r ≤ n
      · rw [if_pos c, if_pos (by omega)]
        have := ih (n - N r) (n' - N r) 0 (by omega) (by omega)
        omega
      · rw [if_neg c]
        by_cases c' : 0 < N r ∧ N r ≤ n'
        · rw [if_pos c']
          obtain ⟨⟨m0, b0, r0⟩, n0⟩ := w_V_R (N := N) (G := G) r (by omega) hG' (n' - N r) 0 (by omega)
          have := (w_R_b (by omega) (w_R_ad r0 (n0 rfl) ⟨w0, w1⟩)).1
          rw [eG]
          exact this
        · rw [if_neg c']; exact Int.le_refl _
    · rw [w_V_2, w_V_2]
      by_cases c : (0 < N r ∧ N r ≤ n) ∧ w_V N G r (n - N r) 1 ≠ -1
      · have a := ih (n - N r) (n' - N r) 1 (by omega) (by omega)
        have b := (hb (n - N r) 1 (by omega)).1
        rw [if_pos c, if_pos (by omega)]
        omega
      · rw [if_neg c]
        by_cases c' : (0 < N r ∧ N r ≤ n') ∧ w_V N G r (n' - N r) 1 ≠ -1
        · rw [if_pos c']
          obtain ⟨⟨m0, b0, r0⟩, _⟩ := w_V_R (N := N) (G := G) r (by omega) hG' (n' - N r) 1 (by omega)
          have := (w_R_b (by omega) (w_R_ad r0 c'.2 ⟨w0, w1⟩)).1
          rw [eG]
          exact this
        · rw [if_neg c']; exact Int.le_refl _
/-- what all the first r rods need -/
def w_A (N : Int → Int) : Nat → Int
  | 0 => 0
  | r + 1 => w_A N r + max 0 (N r)
theorem w_A_nn {N : Int → Int} : ∀ r : Nat, 0 ≤ w_A N r
  | 0 => Int.le_refl _
  | r + 1 => by
    have := w_A_nn (N := N) r
    show 0 ≤ w_A N r + max 0 (N r)
    omega
/-- more hands than all need change nothing -/
theorem w_V_sat {N G : Int → Int} : ∀ (r : Nat) (n : Int) (s : Nat), s ≤ 2 → w_A N r ≤ n → w_V N G r n s = w_V N G r (w_A N r) s
  | 0, n, s, _, _ => rfl
  | r + 1, n, s, hs, hn => by
    have ih := w_V_sat (N := N) (G := G) r
    have eA : w_A N (r + 1) = w_A N r + max 0 (N r) := rfl
    have h3 : s = 0 ∨ s = 1 ∨ s = 2 := by omega
    rcases h3 with rfl | rfl | rfl
    · rw [w_V_0, w_V_0, ih n 0 (by omega) (by omega), ih n 1 (by omega) (by omega), ih n 2 (by omega) (by omega), ih (w_A N (r + 1)) 0 (by omega) (by omega), ih (w_A N (r + 1)) 1 (by omega) (by omega), ih (w_A N (r + 1)) 2 (by omega) (by omega)]
    · rw [w_V_1, w_V_1]
      have nn := w_A_nn (N := N) r
      by_cases c : 0 < N r
      · rw [if_pos ⟨c, by omega⟩, if_pos ⟨c, by omega⟩, ih (n - N r) 0 (by omega) (by omega), ih (w_A N (r + 1) - N r) 0 (by omega) (by omega)]
      · rw [if_neg (fun z => c z.1), if_neg (fun z => c z.1)]
    · rw [w_V_2, w_V_2]
      have nn := w_A_nn (N := N) r
      by_cases c : 0 < N r
      · rw [ih (n - N r) 1 (by omega) (by omega), ih (w_A N (r + 1) - N r) 1 (by omega) (by omega)]
        by_cases d : w_V N G r (w_A N r) 1 ≠ -1
        · rw [if_pos ⟨⟨c, by omega⟩, d⟩, if_pos ⟨⟨c, by omega⟩, d⟩]
        · rw [if_neg (fun z => d z.2), if_neg (fun z => d z.2)]
      · rw [if_neg (fun z => c z.1.1), if_neg (fun z => c z.1.1)]
/-- the best of all -/
def w_M (N G : Int → Int) (R : Nat) (n : Int) : Int := max (w_V N G R n 0) (max (w_V N G R n 1) (w_V N G R n 2))
theorem w_M_sat {N G : Int → Int} {R : Nat} {n : Int} : w_M N G R n = w_M N G R (min n (w_A N R)) := by
  unfold w_M
  by_cases h : w_A N R ≤ n
  · rw [show min n (w_A N R) = w_A N R by omega, w_V_sat R n 0 (by omega) h, w_V_sat R n 1 (by omega) h, w_V_sat R n 2 (by omega) h]
  · rw [show min n (w_A N R) = n by omega]
/-- a row's worth: six cells -/
def w_wo (l : Int → Int) (f h : Int) : Nat → Int
  | 0 => 0
  | k + 1 => w_wo l f h k + max 0 (h - l (f + k))
theorem w_wo_b {l : Int → Int} {f h : Int} (hh : h ≤ 99) (hl : ∀ i, 0 ≤ l i) : ∀ k : Nat, 0 ≤ w_wo l f h k ∧ w_wo l f h k ≤ 99 * (k : Int)
  | 0 => ⟨Int.le_refl _, by show (0 : Int) ≤ 99 * ((0 : Nat) : Int); omega⟩
  | k + 1 => by
    have ih := w_wo_b (f := f) hh hl k
    have := hl (f + k)
    show 0 ≤ w_wo l f h k + max 0 (h - l (f + k)) ∧ w_wo l f h k + max 0 (h - l (f + k)) ≤ 99 * ((k + 1 : Nat) : Int)
    omega
/-- how many hands a set takes -/
def w_hf (H : Int → Int) (set h : Int) : Nat → Int
  | 0 => 0
  | k + 1 => q_w32 (w_hf H set h k + (if q_and32 (set / 2 ^ (((k : Int) % 32).toNat)) 1 = 1 then q_w32 (h - H k) else 0))
theorem w_hf_c {H H' : Int → Int} {set h : Int} : ∀ k : Nat, (∀ j : Int, 0 ≤ j → j < k → H' j = H j) → w_hf H' set h k = w_hf H set h k
  | 0, _ => rfl
  | k + 1, e => by
    have e1 : w_hf H set h (k + 1) = q_w32 (w_hf H set h k + (if q_and32 (set / 2 ^ (((k : Int) % 32).toNat)) 1 = 1 then q_w32 (h - H k) else 0)) := rfl
    have e2 : w_hf H' set h (k + 1) = q_w32 (w_hf H' set h k + (if q_and32 (set / 2 ^ (((k : Int) % 32).toNat)) 1 = 1 then q_w32 (h - H' k) else 0)) := rfl
    rw [e1, e2, w_hf_c k (fun j h0 h1 => e j h0 (by omega)), e k (by omega) (by omega)]
