section P80
variable {L : Nat} {xs : Int → Int}
/-- a weaker end -/
theorem q_Kw {mi : Nat} {as : List q_V} {σ : q_S} {P Q : q_R → q_S → Prop} (h : q_K L xs mi as σ P) (w : ∀ r σ', P r σ' → Q r σ') : q_K L xs mi as σ Q := by
  obtain ⟨m, hm, n, r, σ', h1, h2⟩ := h
  exact ⟨m, hm, n, r, σ', h1, w _ _ h2⟩
/-- a run has one end: two things said of it hold together -/
theorem q_Kand {mi : Nat} {as : List q_V} {σ : q_S} {P Q : q_R → q_S → Prop} (h : q_K L xs mi as σ P) (h' : q_K L xs mi as σ Q) : q_K L xs mi as σ (fun r σ' => P r σ' ∧ Q r σ') := by
  obtain ⟨m, hm, n, r, σ1, h1, h2⟩ := h
  obtain ⟨m', hm', n', r', σ1', h1', h2'⟩ := h'
  rw [hm] at hm'
  cases hm'
  have a := q_mono (Nat.le_max_left n n') h1
  have b := q_mono (Nat.le_max_right n n') h1'
  rw [a] at b
  cases b
  exact ⟨m, hm, n, r, σ1, h1, h2, h2'⟩
end P80
/-- a call of the class, and the same one of the model behind it -/
def q_P2 (L : Nat) (xs : Int → Int) (i1 : Nat) (a1 : List q_V) (i2 : Nat) (a2 : List q_V) (σ : q_S) (Q : Int → Int → q_S → Prop) : Prop :=
  q_K L xs i1 a1 σ (fun r1 σ1 => ∃ x, r1 = some (0, x) ∧ q_K L xs i2 a2 σ1 (fun r2 σ2 => ∃ y, r2 = some (0, y) ∧ Q x y σ2))
section P80b
variable {L : Nat} {xs : Int → Int} {i1 i2 : Nat} {a1 a2 : List q_V} {σ : q_S}
theorem q_P2w {P Q : Int → Int → q_S → Prop} (h : q_P2 L xs i1 a1 i2 a2 σ P) (w : ∀ x y σ', P x y σ' → Q x y σ') : q_P2 L xs i1 a1 i2 a2 σ Q := by
  refine q_Kw h (fun r σ1 hA => ?_)
  obtain ⟨x, e, hB⟩ := hA
  refine ⟨x, e, q_Kw hB (fun r2 σ2 hC => ?_)⟩
  obtain ⟨y, e2, hD⟩ := hC
  exact ⟨y, e2, w _ _ _ hD⟩
theorem q_P2and {P Q : Int → Int → q_S → Prop} (h : q_P2 L xs i1 a1 i2 a2 σ P) (h' : q_P2 L xs i1 a1 i2 a2 σ Q) : q_P2 L xs i1 a1 i2 a2 σ (fun x y σ' => P x y σ' ∧ Q x y σ') := by
  refine q_Kw (q_Kand h h') (fun r σ1 hA => ?_)
  obtain ⟨⟨x, e, hB⟩, x', e', hB'⟩ := hA
  rw [e] at e'
  cases e'
  refine ⟨x, e, q_Kw (q_Kand hB hB') (fun r2 σ2 hC => ?_)⟩
  obtain ⟨⟨y, e2, hD⟩, y', e2', hD'⟩ := hC
  rw [e2] at e2'
  cases e2'
  exact ⟨y, e2, hD, hD'⟩
/-- what neither writes stays -/
theorem q_fr2 {w v : Int → Int → Prop} (h : q_IN σ) (hw : ∀ k i, w k i → k < 100) (A : q_K L xs i1 a1 σ (fun r σ1 => ∃ x, r = some (0, x) ∧ ∀ k i, ¬ w k i → σ1 k i = σ k i)) (B : ∀ σ1, q_MI σ1 → q_K L xs i2 a2 σ1 (fun r σ2 => ∃ y, r = some (0, y) ∧ ∀ k i, ¬ v k i → σ2 k i = σ1 k i)) : q_P2 L xs i1 a1 i2 a2 σ (fun _ _ σ2 => ∀ k i, ¬ w k i → ¬ v k i → σ2 k i = σ k i) := by
  refine q_Kw A (fun r σ1 hA => ?_)
  obtain ⟨x, e, hf⟩ := hA
  refine ⟨x, e, q_Kw (B σ1 (q_MIc (fun k i hk => hf k i (fun z => by have := hw k i z; unfold q_rel at hk; omega)) h.2.1)) (fun r2 σ2 hB => ?_)⟩
  obtain ⟨y, e2, hg⟩ := hB
  exact ⟨y, e2, fun k i h1 h2 => (hg k i h2).trans (hf k i h1)⟩
/-- what rests on cells that neither writes stays -/
theorem q_fr3 {w v D : Int → Int → Prop} {R : q_S → Prop} (f : q_P2 L xs i1 a1 i2 a2 σ (fun _ _ σ2 => ∀ k i, ¬ w k i → ¬ v k i → σ2 k i = σ k i)) (hR : ∀ σ σ', (∀ k i, D k i → σ' k i = σ k i) → R σ → R σ') (hd : ∀ k i, D k i → ¬ w k i ∧ ¬ v k i) (r : R σ) : q_P2 L xs i1 a1 i2 a2 σ (fun _ _ σ2 => R σ2) :=
  q_P2w f (fun _ _ σ2 e => hR σ σ2 (fun k i hk => e k i (hd k i hk).1 (hd k i hk).2) r)
end P80b
def w_no (k _i : Int) : Prop := k < 0 ∧ 0 < k
section P80c
variable {L : Nat} {xs : Int → Int}

theorem t_1 {a b : Int} {σ : q_S} (h : q_IN σ) : q_P2 L xs i_A_cell [(2, 0), (0, a), (0, b)] i_M_cell [(2, 100), (0, a), (0, b)] σ (fun x y σ2 => q_IN σ2) := by
  refine c_A_cell (fun x => ?_)
  exact ⟨x, rfl, m_cell h.2.1 (fun y σ2 hM hF => ⟨y, rfl, q_INm h hM hF⟩)⟩
theorem t_2 {a b c d e : Int} {σ : q_S} (h : q_IN σ) : q_P2 L xs i_A_sell [(2, 0), (0, a), (0, b), (0, c), (0, d), (0, e)] i_M_sell [(2, 100), (0, a), (0, b), (0, c), (0, d), (0, e)] σ (fun x y σ2 => q_IN σ2) := by
  refine c_A_sell (W := q_W0) (σ0 := σ) (fun k i hk => by unfold w_sa at hk; unfold q_W0 q_cp; omega) (q_AW0 h) (fun x σ1 h1 => ?_)
  exact ⟨x, rfl, m_sell (q_INa h h1).2.1 (fun y σ2 hM hF => ⟨y, rfl, q_INm (q_INa h h1) hM hF⟩)⟩
theorem t_3 {a b c d : Int} {σ : q_S} (h : q_IN σ) : q_P2 L xs i_A_held [(2, 0), (0, a), (0, b), (0, c), (0, d)] i_M_held [(2, 100), (0, a), (0, b), (0, c), (0, d)] σ (fun x y σ2 => q_IN σ2) := by
  refine c_A_held (q_oSales (q_AW0 (W := q_W0) h)) (fun x => ?_)
  exact ⟨x, rfl, m_held h.2.1 (fun y σ2 hM hF => ⟨y, rfl, q_INm h hM hF⟩)⟩
theorem t_6 {a b : Int} {σ : q_S} (h : q_IN σ) : q_P2 L xs i_A_about [(2, 0), (0, a), (0, b)] i_M_about [(2, 100), (0, a), (0, b)] σ (fun x y σ2 => q_IN σ2) := by
  refine c_A_about (q_oBank (q_AW0 (W := q_W0) h)) (q_oCourts (q_AW0 (W := q_W0) h)) (fun x => ?_)
  exact ⟨x, rfl, m_about h.2.1 (fun y σ2 hM hF => ⟨y, rfl, q_INm h hM hF⟩)⟩
theorem t_7 {a b c : Int} {σ : q_S} (h : q_IN σ) : q_P2 L xs i_A_gate [(2, 0), (0, a), (0, b), (0, c)] i_M_gate [(2, 100), (0, a), (0, b), (0, c)] σ (fun x y σ2 => q_IN σ2) := by
  refine n_gate (W := q_W0) (σ0 := σ) (fun i => by unfold q_W0 q_cp; omega) (q_AW0 h) (fun x σ1 h1 => ?_)
  exact ⟨x, rfl, m_gate (q_INa h h1).2.1 (fun y σ2 hM hF => ⟨y, rfl, q_INm (q_INa h h1) hM hF⟩)⟩
theorem t_9 {a b : Int} {σ : q_S} (h : q_IN σ) : q_P2 L xs i_A_drive [(2, 0), (0, a), (0, b)] i_M_drive [(2, 100), (0, a), (0, b)] σ (fun x y σ2 => q_IN σ2) := by
  refine c_A_drive (W := q_W0) (σ0 := σ) (fun k i hk => by unfold w_hd at hk; unfold q_W0 q_cp; omega) (q_AW0 h) (fun x σ1 h1 => ?_)
  exact ⟨x, rfl, m_drive (q_INa h h1).2.1 (fun y σ2 hM hF => ⟨y, rfl, q_INm (q_INa h h1) hM hF⟩)⟩
theorem t_10 {a : Int} {σ : q_S} (h : q_IN σ) : q_P2 L xs i_A_where [(2, 0), (0, a)] i_M_where [(2, 100), (0, a)] σ (fun x y σ2 => q_IN σ2) := by
  refine c_A_where (q_oHerds (q_AW0 (W := q_W0) h)) (fun x => ?_)
  exact ⟨x, rfl, m_where h.2.1 (fun y σ2 hM hF => ⟨y, rfl, q_INm h hM hF⟩)⟩
theorem t_11 {a b c : Int} {σ : q_S} (h : q_IN σ) : q_P2 L xs i_A_way [(2, 0), (0, a), (0, b), (0, c)] i_M_way [(2, 100), (0, a), (0, b), (0, c)] σ (fun x y σ2 => q_IN σ2) := by
  refine c_A_way (W := q_W0) (σ0 := σ) (fun k i hk => by unfold w_wy at hk; unfold q_W0 q_cp; omega) (q_AW0 h) (fun x σ1 h1 => ?_)
  exact ⟨x, rfl, m_way (q_INa h h1).2.1 (fun y σ2 hM hF => ⟨y, rfl, q_INm (q_INa h h1) hM hF⟩)⟩
theorem t_12 {a b c : Int} {σ : q_S} (h : q_IN σ) : q_P2 L xs i_A_tide [(2, 0), (0, a), (0, b), (0, c)] i_M_tide [(2, 100), (0, a), (0, b), (0, c)] σ (fun x y σ2 => q_IN σ2) := by
  refine n_tide (W := q_W0) (σ0 := σ) (fun k i hk => by unfold w_tide at hk; unfold q_W0 q_cp; omega) (by unfold q_W0 q_cp; omega) (q_AW0 h) (fun x σ1 h1 => ?_)
  exact ⟨x, rfl, m_tide (q_INa h h1).2.1 (fun y σ2 hM hF => ⟨y, rfl, q_INm (q_INa h h1) hM hF⟩)⟩
theorem t_13 {a : Int} {σ : q_S} (h : q_IN σ) : q_P2 L xs i_A_pass [(2, 0), (0, a)] i_M_pass [(2, 100), (0, a)] σ (fun x y σ2 => q_IN σ2) := by
  refine n_pass (W := q_W0) (σ0 := σ) (by unfold q_W0 q_cp; omega) (q_AW0 h) (fun x σ1 h1 => ?_)
  exact ⟨x, rfl, m_pass (q_INa h h1).2.1 (fun y σ2 hM hF => ⟨y, rfl, q_INm (q_INa h h1) hM hF⟩)⟩
theorem t_14 {σ : q_S} (h : q_IN σ) : q_P2 L xs i_A_year [(2, 0)] i_M_year [(2, 100)] σ (fun x y σ2 => q_IN σ2) := by
  refine c_A_year (W := q_W0) (σ0 := σ) (fun k i hk => by unfold w_tide at hk; unfold q_W0 q_cp; omega) (q_AW0 h) (fun x σ1 h1 => ?_)
  exact ⟨x, rfl, m_year (q_INa h h1).2.1 (fun y σ2 hM hF => ⟨y, rfl, q_INm (q_INa h h1) hM hF⟩)⟩
theorem t_15 {a b : Int} {σ : q_S} (h : q_IN σ) : q_P2 L xs i_A_feed [(2, 0), (1, a), (0, b)] i_M_feed [(2, 100), (1, a), (0, b)] σ (fun x y σ2 => q_IN σ2) := by
  refine c_A_feed (W := q_W0) (σ0 := σ) (fun k i hk => by unfold w_fe at hk; unfold q_W0 q_cp; omega) (q_AW0 h) (fun x σ1 h1 => ?_)
  exact ⟨x, rfl, m_feed (q_INa h h1).2.1 (fun y σ2 hM hF => ⟨y, rfl, q_INm (q_INa h h1) hM hF⟩)⟩
theorem t_16 {a : Int} {σ : q_S} (h : q_IN σ) : q_P2 L xs i_A_court [(2, 0), (0, a)] i_M_court [(2, 100), (0, a)] σ (fun x y σ2 => q_IN σ2) := by
  refine c_A_court (W := q_W0) (σ0 := σ) (fun k i hk => by unfold w_co at hk; unfold q_W0 q_cp; omega) (q_AW0 h) (fun x σ1 h1 => ?_)
  exact ⟨x, rfl, m_court (q_INa h h1).2.1 (fun y σ2 hM hF => ⟨y, rfl, q_INm (q_INa h h1) hM hF⟩)⟩
theorem t_17 {a b c : Int} {σ : q_S} (h : q_IN σ) : q_P2 L xs i_A_custom [(2, 0), (0, a), (0, b), (0, c)] i_M_custom [(2, 100), (0, a), (0, b), (0, c)] σ (fun x y σ2 => q_IN σ2) := by
  refine c_A_custom (q_oCourts (q_AW0 (W := q_W0) h)) (fun x => ?_)
  exact ⟨x, rfl, m_custom h.2.1 (fun y σ2 hM hF => ⟨y, rfl, q_INm h hM hF⟩)⟩
theorem t_18 {a b c d : Int} {σ : q_S} (h : q_IN σ) : q_P2 L xs i_A_mender [(2, 0), (0, a), (0, b), (0, c), (0, d)] i_M_mender [(2, 100), (0, a), (0, b), (0, c), (0, d)] σ (fun x y σ2 => q_IN σ2) := by
  refine c_A_mender (W := q_W0) (σ0 := σ) (fun k i hk => by unfold w_sh at hk; unfold q_W0 q_cp; omega) (q_AW0 h) (fun x σ1 h1 => ?_)
  exact ⟨x, rfl, m_mender (q_INa h h1).2.1 (fun y σ2 hM hF => ⟨y, rfl, q_INm (q_INa h h1) hM hF⟩)⟩
theorem t_19 {a : Int} {σ : q_S} (h : q_IN σ) : q_P2 L xs i_A_view [(2, 0), (0, a)] i_M_view [(2, 100), (0, a)] σ (fun x y σ2 => q_IN σ2) := by
  refine c_A_view (W := q_W0) (σ0 := σ) (fun k i hk => by unfold w_vi at hk; unfold q_W0 q_cp; omega) (q_AW0 h) (fun x σ1 h1 => ?_)
  exact ⟨x, rfl, m_view (q_INa h h1).2.1 (fun y σ2 hM hF => ⟨y, rfl, q_INm (q_INa h h1) hM hF⟩)⟩
theorem t_20 {a b c : Int} {σ : q_S} (h : q_IN σ) : q_P2 L xs i_A_mend [(2, 0), (0, a), (0, b), (0, c)] i_M_mend [(2, 100), (0, a), (0, b), (0, c)] σ (fun x y σ2 => q_IN σ2) := by
  refine c_A_mend (W := q_W0) (σ0 := σ) (fun k i hk => by unfold w_me at hk; unfold q_W0 q_cp; omega) (q_AW0 h) (fun x σ1 h1 => ?_)
  exact ⟨x, rfl, m_mend (q_INa h h1).2.1 (fun y σ2 hM hF => ⟨y, rfl, q_INm (q_INa h h1) hM hF⟩)⟩
theorem t_21 {a b : Int} {σ : q_S} (h : q_IN σ) : q_P2 L xs i_A_fault [(2, 0), (0, a), (0, b)] i_M_fault [(2, 100), (0, a), (0, b)] σ (fun x y σ2 => q_IN σ2) := by
  refine c_A_fault (q_oBank (q_AW0 (W := q_W0) h)) (q_oOpen (q_AW0 (W := q_W0) h) _) (fun x => ?_)
  exact ⟨x, rfl, m_fault h.2.1 (fun y σ2 hM hF => ⟨y, rfl, q_INm h hM hF⟩)⟩
theorem t_22 {a : Int} {σ : q_S} (h : q_IN σ) : q_P2 L xs i_A_fines [(2, 0), (0, a)] i_M_fines [(2, 100), (0, a)] σ (fun x y σ2 => q_IN σ2) := by
  refine c_A_fines (q_oFaults (q_AW0 (W := q_W0) h)) (fun x => ?_)
  exact ⟨x, rfl, m_fines h.2.1 (fun y σ2 hM hF => ⟨y, rfl, q_INm h hM hF⟩)⟩
theorem t_23 {a : Int} {σ : q_S} (h : q_IN σ) : q_P2 L xs i_A_mended [(2, 0), (0, a)] i_M_mended [(2, 100), (0, a)] σ (fun x y σ2 => q_IN σ2) := by
  refine c_A_mended (fun x => ?_)
  exact ⟨x, rfl, m_mended h.2.1 (fun y σ2 hM hF => ⟨y, rfl, q_INm h hM hF⟩)⟩
theorem t_24 {a b : Int} {σ : q_S} (h : q_IN σ) : q_P2 L xs i_A_works [(2, 0), (0, a), (0, b)] i_M_works [(2, 100), (0, a), (0, b)] σ (fun x y σ2 => q_IN σ2) := by
  refine c_A_works (W := q_W0) (σ0 := σ) (fun k i hk => by unfold w_pl at hk; unfold q_W0 q_cp; omega) (q_AW0 h) (fun x σ1 h1 => ?_)
  exact ⟨x, rfl, m_works (q_INa h h1).2.1 (fun y σ2 hM hF => ⟨y, rfl, q_INm (q_INa h h1) hM hF⟩)⟩
theorem t_25 {a b : Int} {σ : q_S} (h : q_IN σ) : q_P2 L xs i_A_scot [(2, 0), (0, a), (0, b)] i_M_scot [(2, 100), (0, a), (0, b)] σ (fun x y σ2 => q_IN σ2) := by
  refine c_A_scot (W := q_W0) (σ0 := σ) (fun k i hk => by unfold w_sh at hk; unfold q_W0 q_cp; omega) (q_AW0 h) (fun x σ1 h1 => ?_)
  exact ⟨x, rfl, m_scot (q_INa h h1).2.1 (fun y σ2 hM hF => ⟨y, rfl, q_INm (q_INa h h1) hM hF⟩)⟩
theorem t_26 {a : Int} {σ : q_S} (h : q_IN σ) : q_P2 L xs i_A_count [(2, 0), (0, a)] i_M_count [(2, 100), (0, a)] σ (fun x y σ2 => q_IN σ2) := by
  refine c_A_count (q_oHerds (q_AW0 (W := q_W0) h)) (fun x => ?_)
  exact ⟨x, rfl, m_count h.2.1 (fun y σ2 hM hF => ⟨y, rfl, q_INm h hM hF⟩)⟩
theorem t_0 {a b : Int} {σ : q_S} (h : q_IN σ) : q_P2 L xs i_A_level [(2, 0), (0, a), (0, b)] i_M_level [(2, 100), (0, a), (0, b)] σ (fun x y σ2 => q_IN σ2 ∧ x = y) := by
  refine c_A_level (fun g => ⟨_, rfl, ?_⟩) (fun g => ⟨_, rfl, ?_⟩) (fun g => ⟨_, rfl, ?_⟩)
  · exact c_M_level (fun k => ⟨_, rfl, h, rfl⟩) (fun k => by exfalso; omega) (fun k => by exfalso; omega)
  · exact c_M_level (fun k => by exfalso; omega) (fun k => ⟨_, rfl, h, rfl⟩) (fun k => by exfalso; omega)
  · exact c_M_level (fun k => by exfalso; omega) (fun k => by exfalso; omega) (fun k => ⟨_, rfl, q_INl h, by rw [q_un (by decide)]; exact h.2.2.1 _ (by omega) (by omega)⟩)
theorem t_5 {a b : Int} {σ : q_S} (h : q_IN σ) : q_P2 L xs i_A_sluice [(2, 0), (0, a), (0, b)] i_M_sluice [(2, 100), (0, a), (0, b)] σ (fun x y σ2 => q_IN σ2 ∧ x = y) := by
  refine c_A_sluice (q_oBank (q_AW0 (W := q_W0) h)) (fun g => ⟨_, rfl, ?_⟩) (fun g => ⟨_, rfl, ?_⟩) (fun g => ⟨_, rfl, ?_⟩)
  · exact c_M_sluice h.2.1.1 (fun k => ⟨_, rfl, h, rfl⟩) (fun k => by have := h.2.2.2.1; exfalso; omega) (fun k => by have := h.2.2.2.1; exfalso; omega)
  · exact c_M_sluice h.2.1.1 (fun k => by have := h.2.2.2.1; exfalso; omega) (fun k => ⟨_, rfl, h, rfl⟩) (fun k => by have := h.2.2.2.1; exfalso; omega)
  · exact c_M_sluice (by rw [q_un (by decide)]; exact h.2.1.1) (fun k => by rw [q_un (by decide)] at k; have := h.2.2.2.1; exfalso; omega) (fun k => by rw [q_un (by decide)] at k; have := h.2.2.2.1; exfalso; omega) (fun k => ⟨_, rfl, q_INs h, by rw [q_un (by decide)]; exact h.2.2.2.2.1 _ (by omega) (by have := h.2.1.1; have := h.2.2.2.1; omega)⟩)
theorem t_4 {a b c : Int} {σ : q_S} (h : q_IN σ) : q_P2 L xs i_A_rod [(2, 0), (0, a), (0, b), (0, c)] i_M_rod [(2, 100), (0, a), (0, b), (0, c)] σ (fun x y σ2 => q_IN σ2 ∧ x = y) := by
  refine n_rod h (fun g => ⟨_, rfl, ?_⟩) (fun g => ⟨_, rfl, ?_⟩) (fun g => ⟨_, rfl, ?_⟩) (fun g σ1 hA h9 => ⟨_, rfl, ?_⟩)
  · exact m_rod h.2.1 (fun k => ⟨_, rfl, h, rfl⟩) (fun k => by have := h.2.2.2.1; exfalso; omega) (fun k => by have := h.2.2.2.1; exfalso; omega) (fun k σ2 hM hF h13 => by have := h.2.2.2.1; exfalso; omega)
  · exact m_rod h.2.1 (fun k => by have := h.2.2.2.1; exfalso; omega) (fun k => ⟨_, rfl, h, rfl⟩) (fun k => by have := h.2.2.2.1; exfalso; omega) (fun k σ2 hM hF h13 => by have := h.2.2.2.1; exfalso; omega)
  · exact m_rod h.2.1 (fun k => by have := h.2.2.2.1; exfalso; omega) (fun k => by have := h.2.2.2.1; exfalso; omega) (fun k => ⟨_, rfl, h, rfl⟩) (fun k σ2 hM hF h13 => by have := h.2.2.2.1; exfalso; omega)
  · exact m_rod (q_INa1 h hA) (fun k => by have := h.2.2.2.1; have := hA.1 100 13 (by unfold q_W1 q_W0; omega); exfalso; omega) (fun k => by have := h.2.2.2.1; have := hA.1 100 13 (by unfold q_W1 q_W0; omega); exfalso; omega) (fun k => by have := h.2.2.2.1; have := hA.1 100 13 (by unfold q_W1 q_W0; omega); exfalso; omega) (fun k σ2 hM hF h13 => ⟨_, rfl, q_INr h hA h9 hM hF h13, by rw [hA.1 100 13 (by unfold q_W1 q_W0; omega)]; exact h.2.2.2.1⟩)
theorem t_8 {a : Int} {σ : q_S} (h : q_IN σ) : q_P2 L xs i_A_herd [(2, 0), (0, a)] i_M_herd [(2, 100), (0, a)] σ (fun x y σ2 => q_IN σ2 ∧ x = y) := by
  refine n_herd h (fun g => ⟨_, rfl, ?_⟩) (fun g => ⟨_, rfl, ?_⟩) (fun g σ1 hA h9 => ⟨_, rfl, ?_⟩)
  · exact m_herd h.2.1 (fun k => ⟨_, rfl, h, rfl⟩) (fun k => by have := h.2.2.2.2.2; exfalso; omega) (fun k σ2 hM hF h13 => by have := h.2.2.2.2.2; exfalso; omega)
  · exact m_herd h.2.1 (fun k => by have := h.2.2.2.2.2; exfalso; omega) (fun k => ⟨_, rfl, h, rfl⟩) (fun k σ2 hM hF h13 => by have := h.2.2.2.2.2; exfalso; omega)
  · exact m_herd (q_INa2 h hA) (fun k => by have := h.2.2.2.2.2; have := hA.1 100 22 (by unfold q_W2 q_W0; omega); exfalso; omega) (fun k => by have := h.2.2.2.2.2; have := hA.1 100 22 (by unfold q_W2 q_W0; omega); exfalso; omega) (fun k σ2 hM hF h13 => ⟨_, rfl, q_INh h hA h9 hM hF h13, by rw [hA.1 100 22 (by unfold q_W2 q_W0; omega)]; exact h.2.2.2.2.2⟩)
end P80c
