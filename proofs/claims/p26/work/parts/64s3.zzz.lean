/-- the model's choice among the sides -/
def y_bm (τ : q_S) (c : Int) : Nat → Int
  | 0 => -1
  | w + 1 => if q_bes c w ≠ -1 ∧ (q_gb c (q_bes c w) ≠ -1 ∧ τ 6 (q_gb c (q_bes c w)) = 0) ∧ (y_bm τ c w = -1 ∨ τ 3 (q_bes c w) < τ 3 (y_bm τ c w)) then q_bes c w else y_bm τ c w
theorem y_bm_ref {τ : q_S} {c : Int} (hc : 0 ≤ c ∧ c < 30) : ∀ w : Nat, (y_bm τ c w = -1 ∧ y_ref τ c w = c) ∨ ((0 ≤ y_bm τ c w ∧ y_bm τ c w < 30) ∧ ((τ 3 (y_bm τ c w) < τ 3 c ∧ y_ref τ c w = y_bm τ c w) ∨ (¬ τ 3 (y_bm τ c w) < τ 3 c ∧ y_ref τ c w = c)))
  | 0 => Or.inl ⟨rfl, rfl⟩
  | w + 1 => by
    have ih := y_bm_ref (τ := τ) hc w
    have hb := q_bes_in (c := c) (w := w) hc
    unfold y_bm y_ref
    by_cases g : q_bes c w ≠ -1 ∧ (q_gb c (q_bes c w) ≠ -1 ∧ τ 6 (q_gb c (q_bes c w)) = 0)
    · rcases ih with ⟨i1, i2⟩ | ⟨i1, ⟨i2, i3⟩ | ⟨i2, i3⟩⟩
      · rw [i1, i2, if_pos ⟨g.1, g.2, Or.inl rfl⟩]
        by_cases c1 : τ 3 (q_bes c w) < τ 3 c
        · rw [if_pos ⟨g.1, g.2, c1⟩]; exact Or.inr ⟨by omega, Or.inl ⟨c1, rfl⟩⟩
        · rw [if_neg (fun z => c1 z.2.2)]; exact Or.inr ⟨by omega, Or.inr ⟨c1, rfl⟩⟩
      · rw [i3]
        by_cases c1 : τ 3 (q_bes c w) < τ 3 (y_bm τ c w)
        · rw [if_pos ⟨g.1, g.2, Or.inr c1⟩, if_pos ⟨g.1, g.2, c1⟩]; exact Or.inr ⟨by omega, Or.inl ⟨by omega, rfl⟩⟩
        · rw [if_neg (fun z => z.2.2.elim (fun y => by omega) c1), if_neg (fun z => c1 z.2.2)]; exact Or.inr ⟨i1, Or.inl ⟨i2, rfl⟩⟩
      · rw [i3]
        by_cases c1 : τ 3 (q_bes c w) < τ 3 c
        · rw [if_pos ⟨g.1, g.2, Or.inr (by omega)⟩, if_pos ⟨g.1, g.2, c1⟩]; exact Or.inr ⟨by omega, Or.inl ⟨c1, rfl⟩⟩
        · rw [if_neg (c := q_bes c w ≠ -1 ∧ (q_gb c (q_bes c w) ≠ -1 ∧ τ 6 (q_gb c (q_bes c w)) = 0) ∧ τ 3 (q_bes c w) < τ 3 c) (fun z => c1 z.2.2)]
          split
          · exact Or.inr ⟨by omega, Or.inr ⟨c1, rfl⟩⟩
          · exact Or.inr ⟨i1, Or.inr ⟨i2, rfl⟩⟩
    · rw [if_neg (fun z => g ⟨z.1, z.2.1⟩), if_neg (fun z => g ⟨z.1, z.2.1⟩)]
      exact ih
section Z2
variable {L : Nat} {xs : Int → Int}
theorem zl_flees {i b : Int} {σ τ : q_S} {K : q_R → q_S → Prop} (hi : 0 ≤ i ∧ i < 6) (M : y_M σ τ) (h : y_S b τ) (h9 : ¬ σ 121 i ≠ 0) (h2 : 200 ≤ τ 3 (τ 28 i)) (hK : ∀ σ', y_M σ' (y_fl i τ) → K none σ') :
    ∀ (m w : Nat) (x5 : Int) (u5 : Nat), (4 : Int) - w < m → (w : Int) ≤ 4 → q_E L xs k_M_flees (21, [(2, 100), (0, i), (0, τ 28 i), (0, y_bm τ (τ 28 i) w), (0, (w : Int)), (u5, x5)], [], σ) K := by
  intro m
  induction m with
  | zero => intro w; omega
  | succ m ih =>
    intro w x5 u5 hm hw2
    have ha := S28 h i
    have e : q_w32 ((w : Int) + 1) = ((w + 1 : Nat) : Int) := by rw [q_w32_id] <;> omega
    have hbs := q_bes_in (c := τ 28 i) (w := w) ha
    have hbr := y_bm_ref (τ := τ) ha w
    have hbm : -1 ≤ y_bm τ (τ 28 i) w ∧ y_bm τ (τ 28 i) w < 30 := by omega
    have eb := M102 M (q_bes (τ 28 i) w)
    have em := M102 M (y_bm τ (τ 28 i) w)
    have ec := M102 M (τ 28 i)
    have sh : (w : Int) < 4 → q_bes (τ 28 i) w ≠ -1 → _ := fun hlt hne => q_sht_M M ha (⟨by omega, hlt⟩ : 0 ≤ (w : Int) ∧ (w : Int) < 4) hne
    have st : ∀ x x5 u5, (w : Int) < 4 → x = y_bm τ (τ 28 i) (w + 1) → q_E L xs k_M_flees (21, [(2, 100), (0, i), (0, τ 28 i), (0, x), (0, q_w32 ((w : Int) + 1)), (u5, x5)], [], σ) K := fun x x5 u5 hlt ex => by
      rw [e, ex]
      exact ih (w + 1) _ _ (by omega) (by omega)
    have e121 := M121 M i
    have fin : ∀ v d, (w : Int) = 4 → v = y_ref τ (τ 28 i) 4 → d = (if 500 ≤ τ 3 v then 1 else 0) → K none (q_up (q_up σ 120 i v) 121 i d) := fun v d e4 hv hd => by
      refine hK _ ?_
      unfold y_fl y_f1
      rw [if_neg (by omega), if_pos h2, q_ue, q_un (k' := 3) (by decide), ← hv, ← hd]
      exact M_up (M_up M (by simp [y_rel])) (by simp [y_rel])
    have w4 : (w : Int) = 4 → w = 4 := fun z => by omega
    have u120 : ∀ v, q_up σ 120 i v 120 i = v := fun v => q_ue
    have u102 : ∀ v j, q_up σ 120 i v 102 j = τ 3 j := fun v j => (q_un (by decide)).trans (M102 M j)
    refine q_go1 200 21 [21] (fun cl ev hcl hev => ?_)
    repeat' (first | refine And.intro ?_ ?_ | (intro hq; first | exact absurd hq (by decide) | exact absurd rfl hq | exact absurd hq (show ¬ (1 : Int) = 0 by decide) | exact absurd (show (1 : Int) ≠ 0 by decide) hq | skip) | refine hcl _ _ _ _ (c_M_beside ha ?_) | refine hcl _ _ _ _ (c_M_isOpen ha (by omega) ?_ ?_))
    all_goals first
      | omega
      | (simp only [u120]; omega)
      | (have e4 : (w : Int) = 4 := by omega
         have e4' := w4 e4
         subst e4'
         simp only [u120, u102] at *
         refine fin _ _ e4 (by omega) ?_
         first
           | (rw [if_pos (by omega)]; done)
           | (rw [if_neg (by omega)]; done))
      | (refine hev _ (st _ _ _ (by omega) ?_)
         have sh := sh (by omega)
         show _ = if q_bes (τ 28 i) w ≠ -1 ∧ (q_gb (τ 28 i) (q_bes (τ 28 i) w) ≠ -1 ∧ τ 6 (q_gb (τ 28 i) (q_bes (τ 28 i) w)) = 0) ∧ (y_bm τ (τ 28 i) w = -1 ∨ τ 3 (q_bes (τ 28 i) w) < τ 3 (y_bm τ (τ 28 i) w)) then q_bes (τ 28 i) w else y_bm τ (τ 28 i) w
         first
           | (rw [if_neg (by omega)]; done)
           | (have sh := sh (by omega)
              first
                | (rw [if_pos (by omega)]; done)
                | (rw [if_neg (by omega)]; done)))
theorem z_flees {i b : Int} {σ τ : q_S} {K : q_R → q_S → Prop} (hi : 0 ≤ i ∧ i < 6) (M : y_M σ τ) (h : y_S b τ) (hK : ∀ σ', y_M σ' (y_fl i τ) → K none σ') : q_K L xs i_M_flees [(2, 100), (0, i)] σ K := by
  have ha := S28 h i
  have e120 := M120 M i
  have e121 := M121 M i
  have e102 := M102 M (τ 28 i)
  have e102' : σ 102 (σ 120 i) = τ 3 (τ 28 i) := by rw [e120]; exact e102
  refine q_call k_M_flees 6 rfl ?_
  show q_E L xs k_M_flees (0, [(2, 100), (0, i), (9, 0), (9, 0), (9, 0), (9, 0)], [], σ) K
  refine q_go1 200 0 [21] (fun cl ev hcl hev => ?_)
  refine And.intro (by omega) ?_
  rw [e120]
  have f2 : ∀ d, ¬ τ 29 i ≠ 0 → ¬ 200 ≤ τ 3 (τ 28 i) → d = (if 500 ≤ τ 3 (τ 28 i) then 1 else 0) → K none (q_up σ 121 i d) := fun d c1 c2 hd => by
    refine hK _ ?_
    unfold y_fl y_f1
    rw [if_neg c1, if_neg c2, ← hd]
    exact M_up M (by simp [y_rel])
  repeat' (first | refine And.intro ?_ ?_ | (intro hq; first | exact absurd hq (by decide) | exact absurd rfl hq | exact absurd hq (show ¬ (1 : Int) = 0 by decide) | exact absurd (show (1 : Int) ≠ 0 by decide) hq | skip))
  all_goals first
    | omega
    | (refine hK _ ?_; unfold y_fl; rw [if_pos (by omega)]; exact M)
    | exact hev _ (zl_flees hi M h (by omega) (by omega) hK 20 0 0 9 (by omega) (by omega))
    | (refine f2 _ (by omega) (by omega) ?_
       first
         | (rw [if_pos (by omega)]; done)
         | (rw [if_neg (by omega)]; done))
end Z2

