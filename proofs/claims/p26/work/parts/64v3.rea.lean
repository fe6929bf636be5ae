theorem u_rule_01 {B : Int → Int} {n q p : Int} {ρ : q_S} : (u_rule B n q p ρ).1 = 0 ∨ (u_rule B n q p ρ).1 = 1 := by
  unfold u_rule
  repeat' split
  all_goals first | exact Or.inl rfl | exact Or.inr rfl
section V3
variable {L : Nat} {xs : Int → Int}
theorem u_clause {q : Int} {B : Int → Int} {n p : Int} {ρ : q_S} {K : q_R → q_S → Prop} (t : u_tp ρ B n) (hp : 0 ≤ p ∧ p ≤ n) (hq : q_cu q) (hr : 0 ≤ ρ q 8 ∧ ρ q 8 ≤ 10) (hK : K (some (0, (u_cl B n q p ρ).1)) (q_up (u_cl B n q p ρ).2.2 32 2 (u_cl B n q p ρ).2.1)) : q_K L xs i_Tape_takeClause [(2, 32), (2, q)] (q_up ρ 32 2 p) K := by
  have i3 := u_ws_in (B := B) [114, 32] p (by decide) hp.1 hp.2
  refine q_call k_Tape_takeClause 2 rfl ?_
  show q_E L xs k_Tape_takeClause (0, [(2, 32), (2, q)], [], q_up ρ 32 2 p) K
  refine q_go1 200 0 [] (fun cl ev hcl hev => ?_)
  show cl _ _ _ _
  refine hcl _ _ _ _ (u_peek t hp ?_)
  unfold u_cl at hK
  refine And.intro (fun c1 => ?_) (fun c1 => ?_)
  · rw [if_neg (by omega), if_neg (by omega), if_pos c1] at hK
    unfold u_v at hK
    show cl _ _ _ _
    refine hcl _ _ _ _ (u_tv7 t hp (by decide) (by decide) ?_)
    unfold q_cu at hq
    rcases hq with rfl | rfl | rfl | rfl | rfl | rfl | rfl | rfl | rfl | rfl | rfl | rfl | rfl
    all_goals
      refine And.intro (fun c => ?_) (fun c => ?_)
      · rw [q_ue] at c
        rw [if_pos c] at hK
        rw [u_mv (by decide)]
        first | exact hK | exact And.intro (by omega) hK
      · rw [q_ue] at c
        rw [if_neg c] at hK
        rw [u_mv (by decide)]
        first | exact hK | exact And.intro (by omega) hK
  · refine And.intro (fun c2 => ?_) (fun c2 => ?_)
    · rw [if_neg (by omega), if_pos c2] at hK
      unfold u_v at hK
      show cl _ _ _ _
      refine hcl _ _ _ _ (u_tv5 t hp (by decide) (by decide) ?_)
      unfold q_cu at hq
      rcases hq with rfl | rfl | rfl | rfl | rfl | rfl | rfl | rfl | rfl | rfl | rfl | rfl | rfl
      all_goals
        refine And.intro (fun c => ?_) (fun c => ?_)
        · rw [q_ue] at c
          rw [if_pos c] at hK
          rw [u_mv (by decide)]
          first | exact hK | exact And.intro (by omega) hK
        · rw [q_ue] at c
          rw [if_neg c] at hK
          rw [u_mv (by decide)]
          first | exact hK | exact And.intro (by omega) hK
    · refine And.intro (fun c3 => ?_) (fun c3 => ?_)
      · rw [if_pos c3] at hK
        show cl _ _ _ _
        refine hcl _ _ _ _ (u_ta3 t hp ?_)
        rcases u_ws_01 (B := B) (n := n) [114, 32] p with e | e
        · rw [if_neg (by rw [e]; decide)] at hK
          rw [e]
          exact And.intro (fun _ => by first | exact hK | exact And.intro (by omega) hK) (fun z => absurd rfl z)
        · rw [if_pos e] at hK
          rw [e]
          refine And.intro (fun z => absurd z (show ¬ (1 : Int) = 0 by decide)) (fun _ => ?_)
          show cl _ _ _ _
          refine hcl _ _ _ _ (u_rules t ⟨by omega, by omega⟩ hq hr ?_)
          rcases u_rule_01 (B := B) (n := n) (q := q) (p := (u_wrd B n [114, 32] p).2) (ρ := ρ) with e2 | e2
          · rw [e2] at hK ⊢
            exact And.intro (fun _ => by first | exact hK | exact And.intro (by omega) hK) (fun z => absurd rfl z)
          · rw [e2] at hK ⊢
            exact And.intro (fun z => absurd z (show ¬ (1 : Int) = 0 by decide)) (fun _ => by first | exact hK | exact And.intro (by omega) hK)
      · refine And.intro (fun c4 => ?_) (fun c4 => ?_)
        · rw [if_neg (by omega), if_neg (by omega), if_neg (by omega), if_neg (by omega), if_pos c4] at hK
          unfold u_v at hK
          show cl _ _ _ _
          refine hcl _ _ _ _ (u_tv11 t hp (by decide) (by decide) ?_)
          unfold q_cu at hq
          rcases hq with rfl | rfl | rfl | rfl | rfl | rfl | rfl | rfl | rfl | rfl | rfl | rfl | rfl
          all_goals
            refine And.intro (fun c => ?_) (fun c => ?_)
            · rw [q_ue] at c
              rw [if_pos c] at hK
              rw [u_mv (by decide)]
              first | exact hK | exact And.intro (by omega) hK
            · rw [q_ue] at c
              rw [if_neg c] at hK
              rw [u_mv (by decide)]
              first | exact hK | exact And.intro (by omega) hK
        · refine And.intro (fun c5 => ?_) (fun c5 => ?_)
          · rw [if_neg (by omega), if_neg (by omega), if_neg (by omega), if_pos c5] at hK
            unfold u_v at hK
            show cl _ _ _ _
            refine hcl _ _ _ _ (u_tv9 t hp (by decide) (by decide) ?_)
            unfold q_cu at hq
            rcases hq with rfl | rfl | rfl | rfl | rfl | rfl | rfl | rfl | rfl | rfl | rfl | rfl | rfl
            all_goals
              refine And.intro (fun c => ?_) (fun c => ?_)
              · rw [q_ue] at c
                rw [if_pos c] at hK
                rw [u_mv (by decide)]
                first | exact hK | exact And.intro (by omega) hK
              · rw [q_ue] at c
                rw [if_neg c] at hK
                rw [u_mv (by decide)]
                first | exact hK | exact And.intro (by omega) hK
          · rw [if_neg c3, if_neg c2, if_neg c1, if_neg c5, if_neg c4] at hK
            first | exact hK | exact And.intro (by omega) hK

end V3
