theorem y_fw_s {σ σ' : q_S} {F : Int → Int} (h : ∀ c w, q_sht σ' c w = q_sht σ c w) (c : Int) : y_fw σ' F c = y_fw σ F c := by
  have e : ∀ c w, q_cst σ' c w = q_cst σ c w := fun c w => by unfold q_cst; rw [h]
  unfold y_fw
  simp only [e]
theorem v_wk_s {σ σ' : q_S} {F : Int → Int} (h : ∀ c w, q_sht σ' c w = q_sht σ c w) : ∀ (k : Nat) (c : Int), v_wk σ' F k c = v_wk σ F k c
  | 0, c => rfl
  | k + 1, c => by
    have e1 : v_wk σ' F (k + 1) c = if q_sht σ' c (y_fw σ' F c) = 0 then v_wk σ' F k (q_bes c (y_fw σ' F c)) else (c, q_bes c (y_fw σ' F c)) := rfl
    have e2 : v_wk σ F (k + 1) c = if q_sht σ c (y_fw σ F c) = 0 then v_wk σ F k (q_bes c (y_fw σ F c)) else (c, q_bes c (y_fw σ F c)) := rfl
    rw [e1, e2, y_fw_s h, h, v_wk_s h k]
theorem v_wk_in {σ : q_S} {t : Int} {F : Int → Int} (hF : y_sol σ t F) : ∀ (k : Nat) (c : Int), F c % 100 < k → 0 ≤ c → c < 30 → 100 ≤ F c → (0 ≤ (v_wk σ F k c).1 ∧ (v_wk σ F k c).1 < 30) ∧ (0 ≤ (v_wk σ F k c).2 ∧ (v_wk σ F k c).2 < 30)
  | 0, c, h, a, b, h1 => by omega
  | k + 1, c, h, a, b, h1 => by
    have hne : c ≠ t := fun z => by rw [z, hF.1] at h1; omega
    obtain ⟨f0, f1, fb, fe⟩ := y_fw_t hF a b hne
    have hbs := q_bes_in (c := c) (w := y_fw σ F c) ⟨a, b⟩
    have e2 : v_wk σ F (k + 1) c = if q_sht σ c (y_fw σ F c) = 0 then v_wk σ F k (q_bes c (y_fw σ F c)) else (c, q_bes c (y_fw σ F c)) := rfl
    rw [e2]
    by_cases s : q_sht σ c (y_fw σ F c) = 0
    · rw [if_pos s]
      have cs : q_cst σ c (y_fw σ F c) = 1 := by unfold q_cst; rw [if_pos s]
      have m1 := sol_m hF a b
      have m2 := sol_m hF (c := q_bes c (y_fw σ F c)) (by omega) (by omega)
      exact v_wk_in hF k _ (by omega) (by omega) (by omega) (by omega)
    · rw [if_neg s]
      exact ⟨⟨a, b⟩, by show 0 ≤ q_bes c (y_fw σ F c) ∧ q_bes c (y_fw σ F c) < 30; omega⟩
theorem big_mo (x y : Int) : x < y ↔ x + 900 * (x / 100) < y + 900 * (y / 100) := by omega
section W4
variable {L : Nat} {xs : Int → Int}
theorem xl_wk0 {fr c i : Int} {σ : q_S} {y : Int} {u : Nat} {K : q_R → q_S → Prop} (h3 : σ 30 3 ≠ -1) (hK : K none σ) : q_E L xs k_Ways_walkToGate (4, [(2, 30), (2, 1), (0, fr), (0, c), (0, i), (u, y)], [], σ) K := by
  refine q_go1 200 4 [] (fun cl ev hcl hev => ?_)
  exact And.intro (fun _ => hK) (fun _ => And.intro (fun _ => hK) (fun _ => And.intro (fun _ => hK) (fun z => absurd h3 z)))
theorem xl_wk {t fr : Int} {F : Int → Int} {σ : q_S} {K : q_R → q_S → Prop} (r6 : q_R6 σ) (hF : y_sol σ t F) (hG : ∀ d, 0 ≤ d → d < 30 → σ 31 d = y_big F d) (h3 : σ 30 3 = -1) :
    ∀ (k : Nat) (c y : Int) (u : Nat), (k : Int) ≤ 30 → F c % 100 < k → 0 ≤ c → c < 30 → 100 ≤ F c → K none (q_up (q_up σ 30 3 (v_wk σ F k c).1) 30 4 (v_wk σ F k c).2) → q_E L xs k_Ways_walkToGate (4, [(2, 30), (2, 1), (0, fr), (0, c), (0, 30 - (k : Int)), (u, y)], [], σ) K := by
  intro k
  induction k with
  | zero => intro c y u h30 hm; omega
  | succ k ih =>
    intro c y u h30 hm a b h1 hK
    have hne : c ≠ t := fun z => by rw [z, hF.1] at h1; omega
    obtain ⟨f0, f1, fb, fe⟩ := y_fw_t hF a b hne
    have hbs := q_bes_in (c := c) (w := y_fw σ F c) ⟨a, b⟩
    have e : q_w32 (30 - ((k + 1 : Nat) : Int) + 1) = 30 - (k : Int) := by rw [q_w32_id] <;> omega
    have ev_ : v_wk σ F (k + 1) c = if q_sht σ c (y_fw σ F c) = 0 then v_wk σ F k (q_bes c (y_fw σ F c)) else (c, q_bes c (y_fw σ F c)) := rfl
    rw [ev_] at hK
    have es := q_sht_gb r6 ⟨a, b⟩ (b := q_bes c (y_fw σ F c)) ⟨by omega, by omega⟩ ⟨f0, f1⟩ rfl
    have eg := q_gb_w ⟨a, b⟩ (b := q_bes c (y_fw σ F c)) ⟨by omega, by omega⟩ ⟨f0, f1⟩ rfl
    have hg : 0 ≤ q_gb c (q_bes c (y_fw σ F c)) := by
      rw [eg]
      repeat' split
      all_goals omega
    refine q_go1 200 4 [4] (fun cl ev hcl hev => ?_)
    refine And.intro (fun z => by exfalso; omega) (fun _ => ?_)
    refine And.intro (fun z => by exfalso; omega) (fun _ => ?_)
    refine And.intro (fun z => absurd h3 z) (fun _ => ?_)
    show cl _ _ _ _
    refine hcl _ _ _ _ (x_on r6 hF hG ⟨a, b⟩ hne ?_)
    refine And.intro (fun z => absurd z fb) (fun _ => ?_)
    show cl _ _ _ _
    refine hcl _ _ _ _ (c_Land_isShut ⟨a, b⟩ ⟨by omega, by omega⟩ (fun g => ?_) (fun g => ?_))
    · rw [if_neg (by omega)] at hK
      refine And.intro (fun z => absurd z (show ¬ (1 : Int) = 0 by decide)) (fun _ => ?_)
      refine hev _ (xl_wk0 ?_ hK)
      rw [q_ui (by decide), q_ue]
      omega
    · have s : q_sht σ c (y_fw σ F c) = 0 := by omega
      rw [if_pos s] at hK
      have cs : q_cst σ c (y_fw σ F c) = 1 := by unfold q_cst; rw [if_pos s]
      have m1 := sol_m hF a b
      have m2 := sol_m hF (c := q_bes c (y_fw σ F c)) (by omega) (by omega)
      refine And.intro (fun _ => ?_) (fun z => absurd rfl z)
      refine hev _ ?_
      rw [e]
      exact ih _ _ _ (by omega) (by omega) (by omega) (by omega) (by omega) hK
theorem x_wk {t fr : Int} {F : Int → Int} {σ : q_S} {K : q_R → q_S → Prop} (r6 : q_R6 σ) (hF : y_sol σ t F) (hG : ∀ d, 0 ≤ d → d < 30 → σ 31 d = y_big F d) (h3 : σ 30 3 = -1) (hfr : 0 ≤ fr ∧ fr < 30) (h1 : 100 ≤ F fr) (hK : K none (q_up (q_up σ 30 3 (v_wk σ F 30 fr).1) 30 4 (v_wk σ F 30 fr).2)) : q_K L xs i_Ways_walkToGate [(2, 30), (2, 1), (0, fr)] σ K := by
  have m1 := sol_m hF hfr.1 hfr.2
  refine q_call k_Ways_walkToGate 6 rfl ?_
  show q_E L xs k_Ways_walkToGate (0, [(2, 30), (2, 1), (0, fr), (9, 0), (9, 0), (9, 0)], [], σ) K
  refine q_go1 200 0 [4] (fun cl ev hcl hev => ?_)
  exact hev _ (xl_wk (fr := fr) r6 hF hG h3 30 fr 0 9 (by omega) (by omega) hfr.1 hfr.2 h1 hK)
theorem x_seek {fr lv : Int} {P F : Int → Int} {σ : q_S} {K : q_R → q_S → Prop} (r6 : q_R6 σ) (hfr : 0 ≤ fr ∧ fr < 30) (hP : y_sol σ fr P) (hF : v_an (σ 2) P lv 30 ≠ -1 → y_sol σ (v_an (σ 2) P lv 30) F)
    (h0 : v_an (σ 2) P lv 30 = -1 → ∀ σ', (∀ k i, k ≠ 31 → k ≠ 30 → σ' k i = σ k i) → σ' 30 1 = -1 → K none σ')
    (hO : v_an (σ 2) P lv 30 ≠ -1 → P (v_an (σ 2) P lv 30) < 100 → ∀ σ', (∀ k i, k ≠ 31 → k ≠ 30 → σ' k i = σ k i) → σ' 30 1 = v_an (σ 2) P lv 30 → σ' 30 2 = P (v_an (σ 2) P lv 30) → σ' 30 3 = -1 → K none σ')
    (hS : v_an (σ 2) P lv 30 ≠ -1 → ¬ P (v_an (σ 2) P lv 30) < 100 → ∀ σ', (∀ k i, k ≠ 31 → k ≠ 30 → σ' k i = σ k i) → σ' 30 1 = v_an (σ 2) P lv 30 → σ' 30 3 = (v_wk σ F 30 fr).1 → σ' 30 4 = (v_wk σ F 30 fr).2 → (0 ≤ (v_wk σ F 30 fr).1 ∧ (v_wk σ F 30 fr).1 < 30) → (0 ≤ (v_wk σ F 30 fr).2 ∧ (v_wk σ F 30 fr).2 < 30) → K none σ') : q_K L xs i_Ways_seek [(2, 30), (2, 1), (0, fr), (0, lv)] σ K := by
  have van := v_an_in (V := σ 2) (Q := P) (n := lv) 30
  refine q_call k_Ways_seek 4 rfl ?_
  show q_E L xs k_Ways_seek (0, [(2, 30), (2, 1), (0, fr), (0, lv)], [], σ) K
  refine q_go1 200 0 [16] (fun cl ev hcl hev => ?_)
  show cl _ _ _ _
  refine hcl _ _ _ _ (x_meas r6 hP hfr (fun σ1 f1 g1 => ?_))
  have eb : v_an (σ1 2) (σ1 31) lv 30 = v_an (σ 2) P lv 30 := by
    rw [v_an_c (V := σ 2) (Q := y_big P) 30 (fun j a b => ⟨f1 2 j (by decide), g1 j a (by omega)⟩)]
    exact v_an_mo 30 (fun j a b => ⟨(sol_m hP a (by omega)).2.1, (big_b hP a (by omega)).1⟩) (fun i j _ _ _ _ => by unfold y_big; exact big_mo _ _)
  show cl _ _ _ _
  refine hcl _ _ _ _ (x_ne (fun d a b => by rw [g1 d a b]; exact (big_b hP a b).1) ?_)
  rw [eb]
  generalize hbb : v_an (σ 2) P lv 30 = b at *
  refine hev _ ?_
  obtain ⟨S, hS_⟩ : ∃ S, S = q_up (q_up (q_up σ1 30 1 b) 30 3 (-1)) 30 4 (-1) := ⟨_, rfl⟩
  rw [← hS_]
  have s1 : S 30 1 = b := by rw [hS_, q_ui (by decide), q_ui (by decide), q_ue]
  have s3 : S 30 3 = -1 := by rw [hS_, q_ui (by decide), q_ue]
  have sk : ∀ k i, k ≠ 30 → S k i = σ1 k i := fun k i hk => by rw [hS_, q_un hk, q_un hk, q_un hk]
  have sf : ∀ k i, k ≠ 31 → k ≠ 30 → S k i = σ k i := fun k i h1 h2 => (sk k i h2).trans (f1 k i h1)
  by_cases z : b = -1
  · refine q_go1 200 16 [29] (fun cl ev hcl hev => ?_)
    refine And.intro (fun y => absurd (s1.trans z) y) (fun _ => ?_)
    refine hev _ ?_
    refine q_go1 200 29 [] (fun cl ev hcl hev => ?_)
    refine And.intro (fun _ => ?_) (fun y => absurd (show q_up S 30 2 0 30 2 < 1000 by rw [q_ue]; decide) y)
    exact h0 z _ (fun k i h1 h2 => (q_un h2).trans (sf k i h1 h2)) ((q_ui (by decide)).trans (s1.trans z))
  · have hF := hF z
    have gb : S 31 (S 30 1) = y_big P b := by rw [s1, sk 31 b (by decide)]; exact g1 b (by omega) (by omega)
    have bP := sol_m hP (c := b) (by omega) (by omega)
    refine q_go1 200 16 [29] (fun cl ev hcl hev => ?_)
    refine And.intro (fun _ => ?_) (fun y => absurd (fun w => z (s1.symm.trans w)) y)
    refine And.intro (by omega) ?_
    refine hev _ ?_
    rw [gb]
    have u1 : q_up S 30 2 (y_big P b) 30 1 = b := (q_ui (by decide)).trans s1
    have u2 : q_up S 30 2 (y_big P b) 30 2 = y_big P b := q_ue
    have u3 : q_up S 30 2 (y_big P b) 30 3 = -1 := (q_ui (by decide)).trans s3
    have uf : ∀ k i, k ≠ 31 → k ≠ 30 → q_up S 30 2 (y_big P b) k i = σ k i := fun k i h1 h2 => (q_un h2).trans (sf k i h1 h2)
    refine q_go1 200 29 [38] (fun cl ev hcl hev => ?_)
    by_cases p : P b < 100
    · have e : y_big P b = P b := by unfold y_big; omega
      refine And.intro (fun _ => ?_) (fun y => absurd (show q_up S 30 2 (y_big P b) 30 2 < 1000 by rw [u2, e]; omega) y)
      exact hO z p _ uf u1 (u2.trans e) u3
    · have e : 1000 ≤ y_big P b := by unfold y_big; omega
      refine And.intro (fun y => absurd y (show ¬ q_up S 30 2 (y_big P b) 30 2 < 1000 by rw [u2]; omega)) (fun _ => ?_)
      have hsh : ∀ c w, q_sht (q_up S 30 2 (y_big P b)) c w = q_sht σ c w := fun c w => sht_31 uf c w
      have hF' := sol_31 hsh hF
      have r6' : q_R6 (q_up S 30 2 (y_big P b)) := q_R6c (fun k i hk => uf k i (by unfold d_R6 at hk; omega) (by unfold d_R6 at hk; omega)) r6
      have esy := sol_sy (by omega) hfr hF hP
      show cl _ _ _ _
      rw [u1]
      refine hcl _ _ _ _ (x_meas r6' hF' (by omega) (fun σ2 f2 g2 => ?_))
      have hsh2 : ∀ c w, q_sht σ2 c w = q_sht σ c w := fun c w => (sht_31 (fun k i h1 _ => f2 k i h1) c w).trans (hsh c w)
      have r62 : q_R6 σ2 := R6_31 f2 r6'
      have hF2 := sol_31 hsh2 hF
      have win := v_wk_in hF 30 fr (by have := sol_m hF hfr.1 hfr.2; omega) hfr.1 hfr.2 (by omega)
      refine hev _ ?_
      refine q_go1 200 38 [] (fun cl ev hcl hev => ?_)
      show cl _ _ _ _
      refine hcl _ _ _ _ (x_wk r62 hF2 g2 ((f2 30 3 (by decide)).trans u3) hfr (by omega) ?_)
      rw [v_wk_s hsh2]
      exact hS z p _ (fun k i h1 h2 => (q_un h2).trans ((q_un h2).trans ((f2 k i h1).trans (uf k i h1 h2)))) ((q_ui (by decide)).trans ((q_ui (by decide)).trans ((f2 30 1 (by decide)).trans u1))) ((q_ui (by decide)).trans q_ue) q_ue win.1 win.2
theorem x_way {hd lv wh : Int} {P F : Int → Int} {σ : q_S} {K : q_R → q_S → Prop} (hb : 0 ≤ σ 27 2 ∧ σ 27 2 ≤ 6) (hi : (0 ≤ hd ∧ hd < σ 27 2) → 0 ≤ σ 28 hd ∧ σ 28 hd < 30) (r6 : q_R6 σ) (hP : (0 ≤ hd ∧ hd < σ 27 2) → y_sol σ (σ 28 hd) P) (hF : v_an (σ 2) P lv 30 ≠ -1 → y_sol σ (v_an (σ 2) P lv 30) F)
    (hN : ¬ ((0 ≤ hd ∧ hd < σ 27 2) ∧ (0 ≤ wh ∧ wh ≤ 1)) → K (some (0, -1)) σ)
    (h2 : ((0 ≤ hd ∧ hd < σ 27 2) ∧ (0 ≤ wh ∧ wh ≤ 1)) → ¬ (0 ≤ lv ∧ lv ≤ 60) → K (some (0, -2)) σ)
    (h3 : ((0 ≤ hd ∧ hd < σ 27 2) ∧ (0 ≤ wh ∧ wh ≤ 1)) → (0 ≤ lv ∧ lv ≤ 60) → σ 29 hd ≠ 0 → K (some (0, -3)) σ)
    (h50 : ((0 ≤ hd ∧ hd < σ 27 2) ∧ (0 ≤ wh ∧ wh ≤ 1)) → (0 ≤ lv ∧ lv ≤ 60) → σ 29 hd = 0 → v_an (σ 2) P lv 30 = -1 → ∀ σ', (∀ k i, k ≠ 31 → k ≠ 30 → σ' k i = σ k i) → K (some (0, -50)) σ')
    (hO : ((0 ≤ hd ∧ hd < σ 27 2) ∧ (0 ≤ wh ∧ wh ≤ 1)) → (0 ≤ lv ∧ lv ≤ 60) → σ 29 hd = 0 → v_an (σ 2) P lv 30 ≠ -1 → P (v_an (σ 2) P lv 30) < 100 → ∀ σ', (∀ k i, k ≠ 31 → k ≠ 30 → σ' k i = σ k i) → K (some (0, if wh = 0 then P (v_an (σ 2) P lv 30) else v_an (σ 2) P lv 30)) σ')
    (hS : ((0 ≤ hd ∧ hd < σ 27 2) ∧ (0 ≤ wh ∧ wh ≤ 1)) → (0 ≤ lv ∧ lv ≤ 60) → σ 29 hd = 0 → v_an (σ 2) P lv 30 ≠ -1 → ¬ P (v_an (σ 2) P lv 30) < 100 → ∀ σ', (∀ k i, k ≠ 31 → k ≠ 30 → σ' k i = σ k i) → K (some (0, -100 - (if wh = 0 then (v_wk σ F 30 (σ 28 hd)).1 else (v_wk σ F 30 (σ 28 hd)).2))) σ') : q_K L xs i_A_way [(2, 0), (0, hd), (0, lv), (0, wh)] σ K := by
  refine q_call k_A_way 4 rfl ?_
  show q_E L xs k_A_way (0, [(2, 0), (0, hd), (0, lv), (0, wh)], [], σ) K
  refine q_go1 200 0 [11] (fun cl ev hcl hev => ?_)
  show cl _ _ _ _
  refine hcl _ _ _ _ (c_A_isHerd hb (fun g1 => ?_) (fun g1 => ?_))
  · refine And.intro (fun z => absurd z (show ¬ (1 : Int) = 0 by decide)) (fun _ => ?_)
    show cl _ _ _ _
    refine hcl _ _ _ _ (c_A_within (fun g2 => ?_) (fun g2 => ?_))
    · refine And.intro (fun _ => ?_) (fun z => absurd (show (1 : Int) ≠ 0 by decide) z)
      refine hev _ ?_
      have hi := hi g1
      have hP := hP g1
      have h2 := h2 ⟨g1, g2⟩
      have h3 := h3 ⟨g1, g2⟩
      have h50 := h50 ⟨g1, g2⟩
      have hO := hO ⟨g1, g2⟩
      have hS := hS ⟨g1, g2⟩
      have van := v_an_in (V := σ 2) (Q := P) (n := lv) 30
      refine q_go1 200 11 [26] (fun cl ev hcl hev => ?_)
      show cl _ _ _ _
      refine hcl _ _ _ _ (c_A_within (fun g3 => ?_) (fun g3 => ?_))
      · refine And.intro (fun _ => ?_) (fun z => absurd (show (1 : Int) ≠ 0 by decide) z)
        refine And.intro (by omega) ?_
        refine And.intro (fun g4 => ?_) (fun g4 => h3 g3 g4)
        refine hev _ ?_
        refine q_go1 200 26 [37] (fun cl ev hcl hev => ?_)
        refine And.intro (by omega) ?_
        show cl _ _ _ _
        refine hcl _ _ _ _ (x_seek (P := P) (F := F) r6 hi hP hF (fun z σ' f e1 => ?_) (fun z p σ' f e1 e2 e3 => ?_) (fun z p σ' f e1 e3 e4 i1 i2 => ?_))
        · refine hev _ ?_
          refine q_go1 200 37 [] (fun cl ev hcl hev => ?_)
          exact And.intro (fun y => absurd e1 y) (fun _ => h50 g3 g4 z σ' f)
        · refine hev _ ?_
          have hO := hO g3 g4 z p σ' f
          refine q_go1 200 37 [] (fun cl ev hcl hev => ?_)
          refine And.intro (fun _ => ?_) (fun y => absurd (fun w => z (e1.symm.trans w)) y)
          refine And.intro (fun y => absurd e3 y) (fun _ => ?_)
          refine And.intro (fun y => ?_) (fun y => ?_)
          · rw [if_neg y] at hO
            show K (some (0, σ' 30 1)) σ'
            rw [e1]
            exact hO
          · rw [if_pos (Decidable.not_not.mp y)] at hO
            show K (some (0, σ' 30 2)) σ'
            rw [e2]
            exact hO
        · refine hev _ ?_
          have hS := hS g3 g4 z p σ' f
          refine q_go1 200 37 [] (fun cl ev hcl hev => ?_)
          refine And.intro (fun _ => ?_) (fun y => absurd (fun w => z (e1.symm.trans w)) y)
          refine And.intro (fun _ => ?_) (fun y => absurd (show σ' 30 3 ≠ -1 by rw [e3]; omega) y)
          refine And.intro (fun y => ?_) (fun y => ?_)
          · rw [if_neg y] at hS
            show K (some (0, q_w32 (-100 - σ' 30 4))) σ'
            rw [e4, q_w32_id (by omega) (by omega)]
            exact hS
          · rw [if_pos (Decidable.not_not.mp y)] at hS
            show K (some (0, q_w32 (-100 - σ' 30 3))) σ'
            rw [e3, q_w32_id (by omega) (by omega)]
            exact hS
      · exact And.intro (fun z => absurd rfl z) (fun _ => h2 g3)
    · exact And.intro (fun z => absurd rfl z) (fun _ => hN (fun z => g2 z.2))
  · exact And.intro (fun _ => hN (fun z => g1 z.1)) (fun z => absurd rfl z)
theorem a_11 {a b c i : Int} {σ : q_S} (h : q_IN σ) (rt : y_RT i σ) : q_P2 L xs i_A_way [(2, 0), (0, a), (0, b), (0, c)] i_M_way [(2, 100), (0, a), (0, b), (0, c)] σ (fun x y _ => x = y) := by
  have hh := h.2.1.2.1
  have e22 := Ms22 rt.2.1
  have e120 := M120 rt.2.1 a
  have e121 := M121 rt.2.1 a
  have e101 : σ 101 = σ 2 := funext (fun j => M101 rt.2.1 j)
  have r6 := M_R6 rt.2.1
  have hi : (0 ≤ a ∧ a < σ 27 2) → 0 ≤ σ 28 a ∧ σ 28 a < 30 := fun _ => by have := h.1 28 a; unfold q_ok at this; omega
  obtain ⟨P, hP⟩ : ∃ P : Int → Int, (0 ≤ a ∧ a < σ 27 2) → y_sol σ (σ 28 a) P := by
    by_cases g : 0 ≤ a ∧ a < σ 27 2
    · obtain ⟨P, hX⟩ := y_ex (σ := σ) (t := σ 28 a) (hi g)
      exact ⟨P, fun _ => sol_FX (hi g) hX⟩
    · exact ⟨fun _ => 0, fun z => absurd z g⟩
  have van := v_an_in (V := σ 2) (Q := P) (n := b) 30
  obtain ⟨F, hF⟩ : ∃ F : Int → Int, v_an (σ 2) P b 30 ≠ -1 → y_sol σ (v_an (σ 2) P b 30) F := by
    by_cases g : v_an (σ 2) P b 30 = -1
    · exact ⟨fun _ => 0, fun z => absurd g z⟩
    · obtain ⟨F, hX⟩ := y_ex (σ := σ) (t := v_an (σ 2) P b 30) (by omega)
      exact ⟨F, fun _ => sol_FX (by omega) hX⟩
  -- the model's call, from a state that has its cells as before
  have mod : ∀ σ1 : q_S, (∀ k j, k ≠ 31 → k ≠ 30 → σ1 k j = σ k j) → ∀ K : q_R → q_S → Prop,
      (¬ ((0 ≤ a ∧ a < σ 27 2) ∧ (0 ≤ c ∧ c ≤ 1)) → K (some (0, -1)) σ1) →
      (((0 ≤ a ∧ a < σ 27 2) ∧ (0 ≤ c ∧ c ≤ 1)) → ¬ (0 ≤ b ∧ b ≤ 60) → K (some (0, -2)) σ1) →
      (((0 ≤ a ∧ a < σ 27 2) ∧ (0 ≤ c ∧ c ≤ 1)) → (0 ≤ b ∧ b ≤ 60) → σ 29 a ≠ 0 → K (some (0, -3)) σ1) →
      (((0 ≤ a ∧ a < σ 27 2) ∧ (0 ≤ c ∧ c ≤ 1)) → (0 ≤ b ∧ b ≤ 60) → σ 29 a = 0 → v_an (σ 2) P b 30 = -1 → ∀ σ', K (some (0, -50)) σ') →
      (((0 ≤ a ∧ a < σ 27 2) ∧ (0 ≤ c ∧ c ≤ 1)) → (0 ≤ b ∧ b ≤ 60) → σ 29 a = 0 → v_an (σ 2) P b 30 ≠ -1 → P (v_an (σ 2) P b 30) < 100 → ∀ σ', K (some (0, if c = 0 then P (v_an (σ 2) P b 30) else v_an (σ 2) P b 30)) σ') →
      (((0 ≤ a ∧ a < σ 27 2) ∧ (0 ≤ c ∧ c ≤ 1)) → (0 ≤ b ∧ b ≤ 60) → σ 29 a = 0 → v_an (σ 2) P b 30 ≠ -1 → ¬ P (v_an (σ 2) P b 30) < 100 → ∀ σ', K (some (0, -100 - (if c = 0 then (v_wk σ F 30 (σ 28 a)).1 else (v_wk σ F 30 (σ 28 a)).2))) σ') →
      q_K L xs i_M_way [(2, 100), (0, a), (0, b), (0, c)] σ1 K := fun σ1 f K kN k2 k3 k50 kO kS => by
    have g22 := (f 100 22 (by decide) (by decide)).trans e22
    have g120 := (f 120 a (by decide) (by decide)).trans e120
    have g121 := (f 121 a (by decide) (by decide)).trans e121
    have g101 : σ1 101 = σ 2 := (funext (fun j => f 101 j (by decide) (by decide))).trans e101
    have hsh : ∀ c w, q_sht σ1 c w = q_sht σ c w := fun c w => sht_31 f c w
    refine z_way (P := P) (F := F) (by omega) (fun g => by rw [g120]; exact hi (by omega)) (fun g => by rw [g120]; exact sol_31 hsh (hP (by omega))) (fun z => by rw [g101] at z ⊢; exact sol_31 hsh (hF z)) (fun g => kN (by omega)) (fun g g2 => k2 (by omega) g2) (fun g g2 g3 => k3 (by omega) g2 (by omega)) (fun g g2 g3 z σ' => ?_) (fun g g2 g3 z p σ' => ?_) (fun g g2 g3 z p σ' => ?_)
    · rw [g101] at z
      exact k50 (by omega) g2 (by omega) z σ'
    · rw [g101] at z p ⊢
      exact kO (by omega) g2 (by omega) z p σ'
    · rw [g101] at z p
      rw [g120, v_wk_s hsh]
      exact kS (by omega) g2 (by omega) z p σ'
  refine x_way (P := P) (F := F) (by omega) hi r6 hP hF (fun g => ⟨_, rfl, ?_⟩) (fun g g2 => ⟨_, rfl, ?_⟩) (fun g g2 g3 => ⟨_, rfl, ?_⟩) (fun g g2 g3 z σ' f => ⟨_, rfl, ?_⟩) (fun g g2 g3 z p σ' f => ⟨_, rfl, ?_⟩) (fun g g2 g3 z p σ' f => ⟨_, rfl, ?_⟩)
  · exact mod σ (fun _ _ _ _ => rfl) _ (fun _ => ⟨_, rfl, rfl⟩) (fun k => absurd k g) (fun k => absurd k g) (fun k => absurd k g) (fun k => absurd k g) (fun k => absurd k g)
  · exact mod σ (fun _ _ _ _ => rfl) _ (fun k => absurd g k) (fun _ _ => ⟨_, rfl, rfl⟩) (fun _ k => absurd k g2) (fun _ k => absurd k g2) (fun _ k => absurd k g2) (fun _ k => absurd k g2)
  · exact mod σ (fun _ _ _ _ => rfl) _ (fun k => absurd g k) (fun _ k => absurd g2 k) (fun _ _ _ => ⟨_, rfl, rfl⟩) (fun _ _ k => absurd k g3) (fun _ _ k => absurd k g3) (fun _ _ k => absurd k g3)
  · exact mod σ' f _ (fun k => absurd g k) (fun _ k => absurd g2 k) (fun _ _ k => absurd g3 k) (fun _ _ _ _ σ2 => ⟨_, rfl, rfl⟩) (fun _ _ _ k => absurd z k) (fun _ _ _ k => absurd z k)
  · exact mod σ' f _ (fun k => absurd g k) (fun _ k => absurd g2 k) (fun _ _ k => absurd g3 k) (fun _ _ _ k => absurd k z) (fun _ _ _ _ _ σ2 => ⟨_, rfl, rfl⟩) (fun _ _ _ _ k => absurd p k)
  · exact mod σ' f _ (fun k => absurd g k) (fun _ k => absurd g2 k) (fun _ _ k => absurd g3 k) (fun _ _ _ k => absurd k z) (fun _ _ _ _ k => absurd k p) (fun _ _ _ _ _ σ2 => ⟨_, rfl, rfl⟩)
end W4
