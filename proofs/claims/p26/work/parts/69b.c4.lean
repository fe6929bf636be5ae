set_option maxHeartbeats 4000000 in
set_option maxRecDepth 100000 in
theorem z_wP {cl : List vw_C} {H : Heap} {D : va_G} {tI tZ tJ tQ : ClassId} {hA : Nat} {uA : List Nat × List (List Nat)} {hM : Nat} {uM : List Nat} {X : Nat → Value} (hP : va_P D cl (z_A tI tZ tJ tQ hA uA ++ z_M tI tZ tJ tQ hM uM) H) : va_P D cl (q_ws (z_G D tI tZ tJ tQ hA uA hM uM X) q_lay q_s0) H := by
  refine z_sim_ok ?_ hP
  rw [q_ws_eq, q_lay_s]
  rw [q_wsr_app, q_wsr_app, q_wsr_app, q_wsr_app, q_wsr_app, q_wsr_app, q_wsr_app, q_wsr_app, q_wsr_app, q_wsr_app, q_wsr_app]
  refine z_sim_app ?_ (z_s_M rfl rfl rfl rfl rfl rfl rfl rfl rfl rfl rfl rfl rfl rfl rfl rfl rfl rfl rfl rfl rfl rfl rfl rfl rfl rfl rfl rfl rfl rfl rfl rfl rfl rfl rfl rfl rfl rfl rfl rfl rfl rfl rfl rfl rfl rfl rfl rfl rfl rfl rfl)
  refine z_sim_app ?_ (z_s_Plan rfl rfl rfl rfl)
  refine z_sim_app ?_ (z_s_Faults rfl rfl rfl rfl rfl rfl rfl rfl)
  refine z_sim_app ?_ ?c34
  refine z_sim_app ?_ (z_s_Tape rfl rfl)
  refine z_sim_app ?_ (z_s_Ways rfl rfl)
  refine z_sim_app ?_ (z_s_Herds rfl rfl rfl)
  refine z_sim_app ?_ (z_s_Bank rfl rfl rfl rfl rfl rfl rfl rfl rfl rfl)
  refine z_sim_app ?_ (z_s_Shares rfl rfl rfl rfl)
  refine z_sim_app ?_ (z_s_Sales rfl rfl rfl rfl rfl rfl)
  refine z_sim_app ?_ (z_s_Land rfl rfl rfl rfl rfl rfl)
  · exact ⟨fun _ _ _ h => h, trivial⟩
  case c34 =>
    rw [q_lay_c]
    rw [q_wsr_app, q_wsr_app, q_wsr_app, q_wsr_app, q_wsr_app, q_wsr_app, q_wsr_app, q_wsr_app, q_wsr_app, q_wsr_app, q_wsr_app, q_wsr_app, q_wsr_app]
    refine z_sim_app ?_ (z_s_84 rfl rfl rfl rfl)
    refine z_sim_app ?_ (z_s_80 rfl rfl rfl rfl)
    refine z_sim_app ?_ (z_s_76 rfl rfl rfl rfl)
    refine z_sim_app ?_ (z_s_72 rfl rfl rfl rfl)
    refine z_sim_app ?_ (z_s_68 rfl rfl rfl rfl)
    refine z_sim_app ?_ (z_s_64 rfl rfl rfl rfl)
    refine z_sim_app ?_ (z_s_60 rfl rfl rfl rfl)
    refine z_sim_app ?_ (z_s_56 rfl rfl rfl rfl)
    refine z_sim_app ?_ (z_s_52 rfl rfl rfl rfl)
    refine z_sim_app ?_ (z_s_48 rfl rfl rfl rfl)
    refine z_sim_app ?_ (z_s_44 rfl rfl rfl rfl)
    refine z_sim_app ?_ (z_s_40 rfl rfl rfl rfl)
    refine z_sim_app ?_ (z_s_36 rfl rfl rfl rfl)
    exact z_s_34 rfl rfl rfl rfl rfl rfl rfl rfl rfl rfl rfl rfl rfl rfl rfl
set_option maxHeartbeats 2000000 in
set_option maxRecDepth 100000 in
theorem z_fin {D : va_G} {tI tZ tJ tQ : ClassId} {qA : Nat} {uA : List Nat × List (List Nat)} {qM : Nat} {uM : List Nat} {X : Nat → Value} {H : Heap} {A : Nat → Prop} {s : State} (hK : va_K D q_cl (z_t tI tZ tJ tQ) s) (hP : va_P D q_cl (z_A tI tZ tJ tQ qA uA ++ z_M tI tZ tJ tQ qM uM) H) (hD : va_D A (z_A tI tZ tJ tQ qA uA ++ z_M tI tZ tJ tQ qM uM)) :
    ∃ G : q_G, va_P G.1 q_cl (q_ws G q_lay q_s0) H ∧ (∀ σ, va_D A (q_ws G q_lay σ)) ∧ va_K G.1 q_cl (q_tys G) s ∧ G.2.2.2 = X ∧ q_cv G (2, 0) = .ref qA ∧ q_cv G (2, 100) = .ref qM := by
  have h1 := z_wP (X := X) hP
  have h2 := fun σ => z_dd (z_fst (D := D) (X := X) (σ := σ)) hD
  exact ⟨z_G D tI tZ tJ tQ qA uA qM uM X, h1, h2, hK, rfl, rfl, rfl⟩
