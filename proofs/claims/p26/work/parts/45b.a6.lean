section P45B
variable {L : Nat} {xs : Int → Int}

theorem c_A_view {r : Int} {W : Int → Int → Prop} {σ0 σ : q_S} {K : q_R → q_S → Prop} (hW : ∀ k i, w_vi k i → W k i)  (h : q_AW W σ0 σ) (hK : ∀ x σ', q_AW W σ0 σ' → K (some (0, x)) σ') : q_K L xs i_A_view [(2, 0), (0, r)] σ K := by
  have hn := q_oBank h
  have hc := q_oCourts h
  refine q_call k_A_view 5 rfl ?_
  show q_E L xs k_A_view (0, [(2, 0), (0, r), (9, 0), (9, 0), (9, 0)], [], σ) K
  refine q_go1 200 0 [] (fun cl ev hcl hev => ?_)
  repeat' (first | (unfold q_cu at hq1; rcases hq1 with rfl | rfl | rfl | rfl | rfl | rfl | rfl | rfl | rfl | rfl | rfl | rfl | rfl) | refine And.intro ?_ ?_ | (intro hq; first | exact absurd hq (by decide) | exact absurd rfl hq | exact absurd hq (show ¬ (1 : Int) = 0 by decide) | exact absurd (show (1 : Int) ≠ 0 by decide) hq | skip) | (show cl _ _ _ _; first | refine hcl _ _ _ _ (c_A_isRod hn ?_ ?_) | refine hcl _ _ _ _ (c_A_customNow hc (fun q hq1 => ?_)) | refine hcl _ _ _ _ (c_Faults_end (r := r) (fun k i hk => hW k i (by unfold w_vi; unfold w_fa at hk; omega)) (by omega) h (fun σ1 h1 => ?_)) | refine hcl _ _ _ _ (c_A_whoMends (σ0 := σ0) (r := r) (fun k i hk => hW k i (by unfold w_vi; unfold w_sh at hk; omega)) (by omega) (by repeat' (first | assumption | refine q_AWf ?_ (hW _ _ (by unfold w_vi; omega)) (by unfold q_fre; omega) | refine q_AWu ?_ (hW _ _ (by unfold w_vi; omega)) (by unfold q_ok; first | omega | (simp (disch := decide) only [q_un, q_ue]; omega)))) (fun x σ2 h2 => ?_)) | refine hcl _ _ _ _ (c_Faults_begin (r := r) (fun k i hk => hW k i (by unfold w_vi; unfold w_fa at hk; omega)) (by omega) (by unfold q_cu; omega) h2 (fun σ3 h3 => ?_))))
  all_goals first
    | omega
    | exact hK _ _ (by repeat' (first | assumption | refine q_AWf ?_ (hW _ _ (by unfold w_vi; omega)) (by unfold q_fre; omega) | refine q_AWu ?_ (hW _ _ (by unfold w_vi; omega)) (by unfold q_ok; first | omega | (simp (disch := decide) only [q_un, q_ue]; omega))))

theorem c_A_mend {r w n : Int} {W : Int → Int → Prop} {σ0 σ : q_S} {K : q_R → q_S → Prop} (hW : ∀ k i, w_me k i → W k i)  (h : q_AW W σ0 σ) (hK : ∀ x σ', q_AW W σ0 σ' → K (some (0, x)) σ') : q_K L xs i_A_mend [(2, 0), (0, r), (0, w), (0, n)] σ K := by
  have hn := q_oBank h
  have hh := q_oHeight h r
  have e : 1 ≤ n → n ≤ 99 → q_w32 (σ 20 r + n) = σ 20 r + n := fun _ _ => by rw [q_w32_id] <;> omega
  refine q_call k_A_mend 4 rfl ?_
  show q_E L xs k_A_mend (0, [(2, 0), (0, r), (0, w), (0, n)], [], σ) K
  refine q_go1 200 0 [] (fun cl ev hcl hev => ?_)
  repeat' (first | refine And.intro ?_ ?_ | (intro hq; first | exact absurd hq (by decide) | exact absurd rfl hq | exact absurd hq (show ¬ (1 : Int) = 0 by decide) | exact absurd (show (1 : Int) ≠ 0 by decide) hq | skip) | (show cl _ _ _ _; first | refine hcl _ _ _ _ (c_A_isRod hn ?_ ?_) | refine hcl _ _ _ _ (c_A_isOwner ?_ ?_) | refine hcl _ _ _ _ (c_A_within ?_ ?_) | refine hcl _ _ _ _ (c_Faults_endIfMended (σ0 := σ0) (r := r) (fun k i hk => hW k i (by unfold w_me; unfold w_fa at hk; omega)) (by omega) (by repeat' (first | assumption | refine q_AWf ?_ (hW _ _ (by unfold w_me; omega)) (by unfold q_fre; omega) | refine q_AWu ?_ (hW _ _ (by unfold w_me; omega)) (by unfold q_ok; first | omega | (simp (disch := decide) only [q_un, q_ue]; omega)))) (fun σ1 h1 => ?_))))
  all_goals first
    | omega
    | exact hK _ _ (by repeat' (first | assumption | refine q_AWf ?_ (hW _ _ (by unfold w_me; omega)) (by unfold q_fre; omega) | refine q_AWu ?_ (hW _ _ (by unfold w_me; omega)) (by unfold q_ok; first | omega | (simp (disch := decide) only [q_un, q_ue]; omega))))

end P45B
