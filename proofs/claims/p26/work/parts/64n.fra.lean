/-! what each call writes at most: of the class (f_a), of the model (f_m) -/
def f_a0 (k _i : Int) : Prop := k = 2
def f_a5 (k _i : Int) : Prop := k = 21
def f_a7 (k _i : Int) : Prop := k = 6
def f_a8 (k i : Int) : Prop := k = 28 ∨ (k = 27 ∧ i = 2)
def f_a12 (k i : Int) : Prop := w_tide k i ∨ (k = 0 ∧ (i = 10 ∨ i = 11))
def f_a13 (k i : Int) : Prop := k = 0 ∧ i = 10
def f_m0 (k _i : Int) : Prop := k = 101
def f_m2 (k i : Int) : Prop := (107 ≤ k ∧ k ≤ 111) ∨ (k = 100 ∧ i = 7)
def f_m4 (k i : Int) : Prop := k = 112 ∨ k = 113 ∨ k = 114 ∨ k = 118 ∨ k = 119 ∨ (k = 100 ∧ i = 13)
def f_m5 (k _i : Int) : Prop := k = 115
def f_m7 (k _i : Int) : Prop := k = 105 ∨ k = 106
def f_m8 (k i : Int) : Prop := k = 120 ∨ (k = 100 ∧ i = 22)
def f_m9 (k _i : Int) : Prop := k = 120
def f_m11 (k _i : Int) : Prop := k = 140
def f_m12 (k i : Int) : Prop := q_okT k i
def f_m13 (k i : Int) : Prop := k = 100 ∧ i = 25
def f_m14 (k _i : Int) : Prop := k = 104
def f_m15 (k i : Int) : Prop := k = 122 ∨ (k = 100 ∧ i = 30)
def f_m16 (k i : Int) : Prop := (123 ≤ k ∧ k ≤ 132) ∨ (k = 100 ∧ (i = 30 ∨ i = 31 ∨ i = 53 ∨ i = 54))
def f_m18 (k _i : Int) : Prop := k = 145 ∨ k = 146
def f_m19 (k i : Int) : Prop := (k = 118 ∨ k = 119 ∨ (133 ≤ k ∧ k ≤ 138) ∨ k = 145 ∨ k = 146) ∨ (k = 100 ∧ i = 42)
def f_m20 (k _i : Int) : Prop := k = 114 ∨ k = 119 ∨ k = 135 ∨ k = 139
def f_m24 (k _i : Int) : Prop := 147 ≤ k ∧ k ≤ 150
def f_m25 (k _i : Int) : Prop := k = 145 ∨ k = 146
section P80d
variable {L : Nat} {xs : Int → Int}
theorem fm_0 {a b : Int} {σ : q_S} (hI : q_MI σ) : q_K L xs i_M_level [(2, 100), (0, a), (0, b)] σ (fun r σ2 => ∃ y, r = some (0, y) ∧ ∀ k i, ¬ f_m0 k i → σ2 k i = σ k i) := by
  exact c_M_level (fun _ => ⟨_, rfl, fun _ _ _ => rfl⟩) (fun _ => ⟨_, rfl, fun _ _ _ => rfl⟩) (fun _ => ⟨_, rfl, fun k i hk => (q_un (fun e => hk (by unfold f_m0; omega)))⟩)
theorem fa_0 {a b : Int} {σ : q_S} (h : q_IN σ) : q_K L xs i_A_level [(2, 0), (0, a), (0, b)] σ (fun r σ2 => ∃ y, r = some (0, y) ∧ ∀ k i, ¬ f_a0 k i → σ2 k i = σ k i) := by
  exact c_A_level (fun _ => ⟨_, rfl, fun _ _ _ => rfl⟩) (fun _ => ⟨_, rfl, fun _ _ _ => rfl⟩) (fun _ => ⟨_, rfl, fun k i hk => (q_un (fun e => hk (by unfold f_a0; omega)))⟩)
theorem f_0 {a b : Int} {σ : q_S} (h : q_IN σ) : q_P2 L xs i_A_level [(2, 0), (0, a), (0, b)] i_M_level [(2, 100), (0, a), (0, b)] σ (fun _ _ σ2 => ∀ k i, ¬ f_a0 k i → ¬ f_m0 k i → σ2 k i = σ k i) :=
  q_fr2 h (fun k i z => by unfold f_a0 at z; omega) (fa_0 h) (fun _ hI => fm_0 hI)
theorem fm_1 {a b : Int} {σ : q_S} (hI : q_MI σ) : q_K L xs i_M_cell [(2, 100), (0, a), (0, b)] σ (fun r σ2 => ∃ y, r = some (0, y) ∧ ∀ k i, ¬ w_no k i → σ2 k i = σ k i) := by
  exact c_M_cell (fun _ => ⟨_, rfl, fun _ _ _ => rfl⟩) (fun _ => ⟨_, rfl, fun _ _ _ => rfl⟩) (fun _ => ⟨_, rfl, fun _ _ _ => rfl⟩) (fun _ => ⟨_, rfl, fun _ _ _ => rfl⟩) (fun _ => ⟨_, rfl, fun _ _ _ => rfl⟩) (fun _ => ⟨_, rfl, fun _ _ _ => rfl⟩)
theorem fa_1 {a b : Int} {σ : q_S} (h : q_IN σ) : q_K L xs i_A_cell [(2, 0), (0, a), (0, b)] σ (fun r σ2 => ∃ y, r = some (0, y) ∧ ∀ k i, ¬ w_no k i → σ2 k i = σ k i) := by
  exact c_A_cell (fun _ => ⟨_, rfl, fun _ _ _ => rfl⟩)
theorem f_1 {a b : Int} {σ : q_S} (h : q_IN σ) : q_P2 L xs i_A_cell [(2, 0), (0, a), (0, b)] i_M_cell [(2, 100), (0, a), (0, b)] σ (fun _ _ σ2 => ∀ k i, ¬ w_no k i → ¬ w_no k i → σ2 k i = σ k i) :=
  q_fr2 h (fun k i z => by unfold w_no at z; omega) (fa_1 h) (fun _ hI => fm_1 hI)
theorem fm_2 {a b c d e : Int} {σ : q_S} (hI : q_MI σ) : q_K L xs i_M_sell [(2, 100), (0, a), (0, b), (0, c), (0, d), (0, e)] σ (fun r σ2 => ∃ y, r = some (0, y) ∧ ∀ k i, ¬ f_m2 k i → σ2 k i = σ k i) := by
  refine c_M_sell hI.2.2.2.1 (fun _ => ⟨_, rfl, fun _ _ _ => rfl⟩) (fun _ => ⟨_, rfl, fun _ _ _ => rfl⟩) (fun _ => ⟨_, rfl, fun _ _ _ => rfl⟩) (fun _ => ⟨_, rfl, fun k i hk => q_srow_o (fun e => hk (by unfold f_m2; omega))⟩) (fun _ _ => ⟨_, rfl, fun k i hk => (q_unn (fun e => hk (by unfold f_m2; omega))).trans (q_srow_o (fun e => hk (by unfold f_m2; omega)))⟩)
theorem fa_2 {a b c d e : Int} {σ : q_S} (h : q_IN σ) : q_K L xs i_A_sell [(2, 0), (0, a), (0, b), (0, c), (0, d), (0, e)] σ (fun r σ2 => ∃ y, r = some (0, y) ∧ ∀ k i, ¬ w_sa k i → σ2 k i = σ k i) := by
  exact c_A_sell (W := w_sa) (σ0 := σ) (fun _ _ hk => hk) (q_AW0 h) (fun _ _ h1 => ⟨_, rfl, h1.1⟩)
theorem f_2 {a b c d e : Int} {σ : q_S} (h : q_IN σ) : q_P2 L xs i_A_sell [(2, 0), (0, a), (0, b), (0, c), (0, d), (0, e)] i_M_sell [(2, 100), (0, a), (0, b), (0, c), (0, d), (0, e)] σ (fun _ _ σ2 => ∀ k i, ¬ w_sa k i → ¬ f_m2 k i → σ2 k i = σ k i) :=
  q_fr2 h (fun k i z => by unfold w_sa at z; omega) (fa_2 h) (fun _ hI => fm_2 hI)
theorem fm_3 {a b c d : Int} {σ : q_S} (hI : q_MI σ) : q_K L xs i_M_held [(2, 100), (0, a), (0, b), (0, c), (0, d)] σ (fun r σ2 => ∃ y, r = some (0, y) ∧ ∀ k i, ¬ w_no k i → σ2 k i = σ k i) := by
  exact c_M_held hI.2.2.2.1.1 (fun j hj => by have := hI.2.2.2.1.2.1 j hj; omega) (fun _ => ⟨_, rfl, fun _ _ _ => rfl⟩) (fun _ => ⟨_, rfl, fun _ _ _ => rfl⟩) (fun _ => ⟨_, rfl, fun _ _ _ => rfl⟩) (fun _ => ⟨_, rfl, fun _ _ _ => rfl⟩)
theorem fa_3 {a b c d : Int} {σ : q_S} (h : q_IN σ) : q_K L xs i_A_held [(2, 0), (0, a), (0, b), (0, c), (0, d)] σ (fun r σ2 => ∃ y, r = some (0, y) ∧ ∀ k i, ¬ w_no k i → σ2 k i = σ k i) := by
  exact c_A_held (q_oSales (q_AW0 (W := q_W0) h)) (fun _ => ⟨_, rfl, fun _ _ _ => rfl⟩)
theorem f_3 {a b c d : Int} {σ : q_S} (h : q_IN σ) : q_P2 L xs i_A_held [(2, 0), (0, a), (0, b), (0, c), (0, d)] i_M_held [(2, 100), (0, a), (0, b), (0, c), (0, d)] σ (fun _ _ σ2 => ∀ k i, ¬ w_no k i → ¬ w_no k i → σ2 k i = σ k i) :=
  q_fr2 h (fun k i z => by unfold w_no at z; omega) (fa_3 h) (fun _ hI => fm_3 hI)
theorem fm_4 {a b c : Int} {σ : q_S} (hI : q_MI σ) : q_K L xs i_M_rod [(2, 100), (0, a), (0, b), (0, c)] σ (fun r σ2 => ∃ y, r = some (0, y) ∧ ∀ k i, ¬ f_m4 k i → σ2 k i = σ k i) := by
  exact c_M_rod hI.1 (fun _ => ⟨_, rfl, fun _ _ _ => rfl⟩) (fun _ => ⟨_, rfl, fun _ _ _ => rfl⟩) (fun _ => ⟨_, rfl, fun _ _ _ => rfl⟩) (fun _ => ⟨_, rfl, fun k i hk => ((q_unn (fun e => hk (by unfold f_m4; omega))).trans ((q_un (fun e => hk (by unfold f_m4; omega))).trans ((q_un (fun e => hk (by unfold f_m4; omega))).trans ((q_un (fun e => hk (by unfold f_m4; omega))).trans ((q_un (fun e => hk (by unfold f_m4; omega))).trans (q_un (fun e => hk (by unfold f_m4; omega))))))))⟩)
theorem fa_4 {a b c : Int} {σ : q_S} (h : q_IN σ) : q_K L xs i_A_rod [(2, 0), (0, a), (0, b), (0, c)] σ (fun r σ2 => ∃ y, r = some (0, y) ∧ ∀ k i, ¬ w_rod k i → σ2 k i = σ k i) := by
  exact c_A_rod (q_oBank (q_AW0 (W := q_W0) h)) (fun _ => ⟨_, rfl, fun _ _ _ => rfl⟩) (fun _ => ⟨_, rfl, fun _ _ _ => rfl⟩) (fun _ => ⟨_, rfl, fun _ _ _ => rfl⟩) (fun _ => ⟨_, rfl, fun k i hk => ((q_unn (fun e => hk (by unfold w_rod; omega))).trans ((q_un (fun e => hk (by unfold w_rod; omega))).trans ((q_un (fun e => hk (by unfold w_rod; omega))).trans ((q_un (fun e => hk (by unfold w_rod; omega))).trans (q_un (fun e => hk (by unfold w_rod; omega)))))))⟩)
theorem f_4 {a b c : Int} {σ : q_S} (h : q_IN σ) : q_P2 L xs i_A_rod [(2, 0), (0, a), (0, b), (0, c)] i_M_rod [(2, 100), (0, a), (0, b), (0, c)] σ (fun _ _ σ2 => ∀ k i, ¬ w_rod k i → ¬ f_m4 k i → σ2 k i = σ k i) :=
  q_fr2 h (fun k i z => by unfold w_rod at z; omega) (fa_4 h) (fun _ hI => fm_4 hI)
theorem fm_5 {a b : Int} {σ : q_S} (hI : q_MI σ) : q_K L xs i_M_sluice [(2, 100), (0, a), (0, b)] σ (fun r σ2 => ∃ y, r = some (0, y) ∧ ∀ k i, ¬ f_m5 k i → σ2 k i = σ k i) := by
  exact c_M_sluice hI.1 (fun _ => ⟨_, rfl, fun _ _ _ => rfl⟩) (fun _ => ⟨_, rfl, fun _ _ _ => rfl⟩) (fun _ => ⟨_, rfl, fun k i hk => (q_un (fun e => hk (by unfold f_m5; omega)))⟩)
theorem fa_5 {a b : Int} {σ : q_S} (h : q_IN σ) : q_K L xs i_A_sluice [(2, 0), (0, a), (0, b)] σ (fun r σ2 => ∃ y, r = some (0, y) ∧ ∀ k i, ¬ f_a5 k i → σ2 k i = σ k i) := by
  exact c_A_sluice (q_oBank (q_AW0 (W := q_W0) h)) (fun _ => ⟨_, rfl, fun _ _ _ => rfl⟩) (fun _ => ⟨_, rfl, fun _ _ _ => rfl⟩) (fun _ => ⟨_, rfl, fun k i hk => (q_un (fun e => hk (by unfold f_a5; omega)))⟩)
theorem f_5 {a b : Int} {σ : q_S} (h : q_IN σ) : q_P2 L xs i_A_sluice [(2, 0), (0, a), (0, b)] i_M_sluice [(2, 100), (0, a), (0, b)] σ (fun _ _ σ2 => ∀ k i, ¬ f_a5 k i → ¬ f_m5 k i → σ2 k i = σ k i) :=
  q_fr2 h (fun k i z => by unfold f_a5 at z; omega) (fa_5 h) (fun _ hI => fm_5 hI)
theorem fm_6 {a b : Int} {σ : q_S} (hI : q_MI σ) : q_K L xs i_M_about [(2, 100), (0, a), (0, b)] σ (fun r σ2 => ∃ y, r = some (0, y) ∧ ∀ k i, ¬ w_no k i → σ2 k i = σ k i) := by
  exact c_M_about hI.1 hI.2.2.2.2.1.1 (fun _ => ⟨_, rfl, fun _ _ _ => rfl⟩)
theorem fa_6 {a b : Int} {σ : q_S} (h : q_IN σ) : q_K L xs i_A_about [(2, 0), (0, a), (0, b)] σ (fun r σ2 => ∃ y, r = some (0, y) ∧ ∀ k i, ¬ w_no k i → σ2 k i = σ k i) := by
  exact c_A_about (q_oBank (q_AW0 (W := q_W0) h)) (q_oCourts (q_AW0 (W := q_W0) h)) (fun _ => ⟨_, rfl, fun _ _ _ => rfl⟩)
theorem f_6 {a b : Int} {σ : q_S} (h : q_IN σ) : q_P2 L xs i_A_about [(2, 0), (0, a), (0, b)] i_M_about [(2, 100), (0, a), (0, b)] σ (fun _ _ σ2 => ∀ k i, ¬ w_no k i → ¬ w_no k i → σ2 k i = σ k i) :=
  q_fr2 h (fun k i z => by unfold w_no at z; omega) (fa_6 h) (fun _ hI => fm_6 hI)
theorem fm_7 {a b c : Int} {σ : q_S} (hI : q_MI σ) : q_K L xs i_M_gate [(2, 100), (0, a), (0, b), (0, c)] σ (fun r σ2 => ∃ y, r = some (0, y) ∧ ∀ k i, ¬ f_m7 k i → σ2 k i = σ k i) := by
  exact c_M_gate (fun _ => ⟨_, rfl, fun _ _ _ => rfl⟩) (fun _ k i v hk0 => ⟨_, rfl, fun k i hk => q_un (fun e => hk (by unfold f_m7; omega))⟩)
theorem fa_7 {a b c : Int} {σ : q_S} (h : q_IN σ) : q_K L xs i_A_gate [(2, 0), (0, a), (0, b), (0, c)] σ (fun r σ2 => ∃ y, r = some (0, y) ∧ ∀ k i, ¬ f_a7 k i → σ2 k i = σ k i) := by
  exact c_A_gate (fun _ => ⟨_, rfl, fun _ _ _ => rfl⟩) (fun _ => ⟨_, rfl, fun _ _ _ => rfl⟩) (fun _ => ⟨_, rfl, fun k i hk => (q_un (fun e => hk (by unfold f_a7; omega)))⟩)
theorem f_7 {a b c : Int} {σ : q_S} (h : q_IN σ) : q_P2 L xs i_A_gate [(2, 0), (0, a), (0, b), (0, c)] i_M_gate [(2, 100), (0, a), (0, b), (0, c)] σ (fun _ _ σ2 => ∀ k i, ¬ f_a7 k i → ¬ f_m7 k i → σ2 k i = σ k i) :=
  q_fr2 h (fun k i z => by unfold f_a7 at z; omega) (fa_7 h) (fun _ hI => fm_7 hI)
theorem fm_8 {a : Int} {σ : q_S} (hI : q_MI σ) : q_K L xs i_M_herd [(2, 100), (0, a)] σ (fun r σ2 => ∃ y, r = some (0, y) ∧ ∀ k i, ¬ f_m8 k i → σ2 k i = σ k i) := by
  exact c_M_herd hI.2.1 (fun _ => ⟨_, rfl, fun _ _ _ => rfl⟩) (fun _ => ⟨_, rfl, fun _ _ _ => rfl⟩) (fun _ => ⟨_, rfl, fun k i hk => ((q_unn (fun e => hk (by unfold f_m8; omega))).trans (q_un (fun e => hk (by unfold f_m8; omega))))⟩)
theorem fa_8 {a : Int} {σ : q_S} (h : q_IN σ) : q_K L xs i_A_herd [(2, 0), (0, a)] σ (fun r σ2 => ∃ y, r = some (0, y) ∧ ∀ k i, ¬ f_a8 k i → σ2 k i = σ k i) := by
  exact c_A_herd (q_oHerds (q_AW0 (W := q_W0) h)) (fun _ => ⟨_, rfl, fun _ _ _ => rfl⟩) (fun _ => ⟨_, rfl, fun _ _ _ => rfl⟩) (fun _ => ⟨_, rfl, fun k i hk => ((q_unn (fun e => hk (by unfold f_a8; omega))).trans (q_un (fun e => hk (by unfold f_a8; omega))))⟩)
theorem f_8 {a : Int} {σ : q_S} (h : q_IN σ) : q_P2 L xs i_A_herd [(2, 0), (0, a)] i_M_herd [(2, 100), (0, a)] σ (fun _ _ σ2 => ∀ k i, ¬ f_a8 k i → ¬ f_m8 k i → σ2 k i = σ k i) :=
  q_fr2 h (fun k i z => by unfold f_a8 at z; omega) (fa_8 h) (fun _ hI => fm_8 hI)
theorem fm_9 {a b : Int} {σ : q_S} (hI : q_MI σ) : q_K L xs i_M_drive [(2, 100), (0, a), (0, b)] σ (fun r σ2 => ∃ y, r = some (0, y) ∧ ∀ k i, ¬ f_m9 k i → σ2 k i = σ k i) := by
  exact c_M_drive hI.2.1 hI.2.2.2.2.2.2.2.2.1 (fun _ => ⟨_, rfl, fun _ _ _ => rfl⟩) (fun _ _ _ => ⟨_, rfl, fun k i hk => (q_un (fun e => hk (by unfold f_m9; omega)))⟩)
theorem fa_9 {a b : Int} {σ : q_S} (h : q_IN σ) : q_K L xs i_A_drive [(2, 0), (0, a), (0, b)] σ (fun r σ2 => ∃ y, r = some (0, y) ∧ ∀ k i, ¬ w_hd k i → σ2 k i = σ k i) := by
  exact c_A_drive (W := w_hd) (σ0 := σ) (fun _ _ hk => hk) (q_AW0 h) (fun _ _ h1 => ⟨_, rfl, h1.1⟩)
theorem f_9 {a b : Int} {σ : q_S} (h : q_IN σ) : q_P2 L xs i_A_drive [(2, 0), (0, a), (0, b)] i_M_drive [(2, 100), (0, a), (0, b)] σ (fun _ _ σ2 => ∀ k i, ¬ w_hd k i → ¬ f_m9 k i → σ2 k i = σ k i) :=
  q_fr2 h (fun k i z => by unfold w_hd at z; omega) (fa_9 h) (fun _ hI => fm_9 hI)
theorem fm_10 {a : Int} {σ : q_S} (hI : q_MI σ) : q_K L xs i_M_where [(2, 100), (0, a)] σ (fun r σ2 => ∃ y, r = some (0, y) ∧ ∀ k i, ¬ w_no k i → σ2 k i = σ k i) := by
  exact c_M_where hI.2.1 (fun _ => ⟨_, rfl, fun _ _ _ => rfl⟩) (fun _ => ⟨_, rfl, fun _ _ _ => rfl⟩) (fun _ => ⟨_, rfl, fun _ _ _ => rfl⟩)
theorem fa_10 {a : Int} {σ : q_S} (h : q_IN σ) : q_K L xs i_A_where [(2, 0), (0, a)] σ (fun r σ2 => ∃ y, r = some (0, y) ∧ ∀ k i, ¬ w_no k i → σ2 k i = σ k i) := by
  exact c_A_where (q_oHerds (q_AW0 (W := q_W0) h)) (fun _ => ⟨_, rfl, fun _ _ _ => rfl⟩)
theorem f_10 {a : Int} {σ : q_S} (h : q_IN σ) : q_P2 L xs i_A_where [(2, 0), (0, a)] i_M_where [(2, 100), (0, a)] σ (fun _ _ σ2 => ∀ k i, ¬ w_no k i → ¬ w_no k i → σ2 k i = σ k i) :=
  q_fr2 h (fun k i z => by unfold w_no at z; omega) (fa_10 h) (fun _ hI => fm_10 hI)
theorem fm_11 {a b c : Int} {σ : q_S} (hI : q_MI σ) : q_K L xs i_M_way [(2, 100), (0, a), (0, b), (0, c)] σ (fun r σ2 => ∃ y, r = some (0, y) ∧ ∀ k i, ¬ f_m11 k i → σ2 k i = σ k i) := by
  exact c_M_way hI.2.1 hI.2.2.2.2.2.2.2.2.1 (fun _ _ f => ⟨_, rfl, fun k i hk => f k i (fun e => hk e)⟩)
theorem fa_11 {a b c : Int} {σ : q_S} (h : q_IN σ) : q_K L xs i_A_way [(2, 0), (0, a), (0, b), (0, c)] σ (fun r σ2 => ∃ y, r = some (0, y) ∧ ∀ k i, ¬ w_wy k i → σ2 k i = σ k i) := by
  exact c_A_way (W := w_wy) (σ0 := σ) (fun _ _ hk => hk) (q_AW0 h) (fun _ _ h1 => ⟨_, rfl, h1.1⟩)
theorem f_11 {a b c : Int} {σ : q_S} (h : q_IN σ) : q_P2 L xs i_A_way [(2, 0), (0, a), (0, b), (0, c)] i_M_way [(2, 100), (0, a), (0, b), (0, c)] σ (fun _ _ σ2 => ∀ k i, ¬ w_wy k i → ¬ f_m11 k i → σ2 k i = σ k i) :=
  q_fr2 h (fun k i z => by unfold w_wy at z; omega) (fa_11 h) (fun _ hI => fm_11 hI)
theorem fm_12 {a b c : Int} {σ : q_S} (hI : q_MI σ) : q_K L xs i_M_tide [(2, 100), (0, a), (0, b), (0, c)] σ (fun r σ2 => ∃ y, r = some (0, y) ∧ ∀ k i, ¬ f_m12 k i → σ2 k i = σ k i) := by
  exact c_M_tide ⟨hI.1, hI.2.1, hI.2.2.2.2.2.2.2.1⟩ ⟨fun _ _ _ => rfl, hI.2.2.2.2.2.2.1, hI.2.2.2.2.2.2.2.2.1⟩ (fun _ _ f => ⟨_, rfl, fun k i hk => f.1 k i hk⟩)
theorem fa_12 {a b c : Int} {σ : q_S} (h : q_IN σ) : q_K L xs i_A_tide [(2, 0), (0, a), (0, b), (0, c)] σ (fun r σ2 => ∃ y, r = some (0, y) ∧ ∀ k i, ¬ f_a12 k i → σ2 k i = σ k i) := by
  exact n_tide (W := f_a12) (σ0 := σ) (fun k i hk => Or.inl hk) ⟨Or.inr (by omega), Or.inr (by omega)⟩ (q_AW0 h) (fun _ _ h1 => ⟨_, rfl, h1.1⟩)
theorem f_12 {a b c : Int} {σ : q_S} (h : q_IN σ) : q_P2 L xs i_A_tide [(2, 0), (0, a), (0, b), (0, c)] i_M_tide [(2, 100), (0, a), (0, b), (0, c)] σ (fun _ _ σ2 => ∀ k i, ¬ f_a12 k i → ¬ f_m12 k i → σ2 k i = σ k i) :=
  q_fr2 h (fun k i z => by unfold f_a12 w_tide at z; omega) (fa_12 h) (fun _ hI => fm_12 hI)
theorem fm_13 {a : Int} {σ : q_S} (hI : q_MI σ) : q_K L xs i_M_pass [(2, 100), (0, a)] σ (fun r σ2 => ∃ y, r = some (0, y) ∧ ∀ k i, ¬ f_m13 k i → σ2 k i = σ k i) := by
  exact c_M_pass (fun _ => ⟨_, rfl, fun _ _ _ => rfl⟩) (fun _ => ⟨_, rfl, fun _ _ _ => rfl⟩) (fun _ => ⟨_, rfl, fun k i hk => (q_unn (fun e => hk (by unfold f_m13; omega)))⟩)
theorem fa_13 {a : Int} {σ : q_S} (h : q_IN σ) : q_K L xs i_A_pass [(2, 0), (0, a)] σ (fun r σ2 => ∃ y, r = some (0, y) ∧ ∀ k i, ¬ f_a13 k i → σ2 k i = σ k i) := by
  exact c_A_pass (fun _ => ⟨_, rfl, fun _ _ _ => rfl⟩) (fun _ => ⟨_, rfl, fun _ _ _ => rfl⟩) (fun _ => ⟨_, rfl, fun k i hk => (q_unn (fun e => hk (by unfold f_a13; omega)))⟩)
theorem f_13 {a : Int} {σ : q_S} (h : q_IN σ) : q_P2 L xs i_A_pass [(2, 0), (0, a)] i_M_pass [(2, 100), (0, a)] σ (fun _ _ σ2 => ∀ k i, ¬ f_a13 k i → ¬ f_m13 k i → σ2 k i = σ k i) :=
  q_fr2 h (fun k i z => by unfold f_a13 at z; omega) (fa_13 h) (fun _ hI => fm_13 hI)
theorem fm_14 {σ : q_S} (hI : q_MI σ) : q_K L xs i_M_year [(2, 100)] σ (fun r σ2 => ∃ y, r = some (0, y) ∧ ∀ k i, ¬ f_m14 k i → σ2 k i = σ k i) := by
  exact c_M_year (fun _ _ f => ⟨_, rfl, fun k i hk => f k i (fun e => hk (by unfold f_m14; omega))⟩)
theorem fa_14 {σ : q_S} (h : q_IN σ) : q_K L xs i_A_year [(2, 0)] σ (fun r σ2 => ∃ y, r = some (0, y) ∧ ∀ k i, ¬ w_tide k i → σ2 k i = σ k i) := by
  exact c_A_year (W := w_tide) (σ0 := σ) (fun _ _ hk => hk) (q_AW0 h) (fun _ _ h1 => ⟨_, rfl, h1.1⟩)
theorem f_14 {σ : q_S} (h : q_IN σ) : q_P2 L xs i_A_year [(2, 0)] i_M_year [(2, 100)] σ (fun _ _ σ2 => ∀ k i, ¬ w_tide k i → ¬ f_m14 k i → σ2 k i = σ k i) :=
  q_fr2 h (fun k i z => by unfold w_tide at z; omega) (fa_14 h) (fun _ hI => fm_14 hI)
theorem fm_15 {a b : Int} {σ : q_S} (hI : q_MI σ) : q_K L xs i_M_feed [(2, 100), (1, a), (0, b)] σ (fun r σ2 => ∃ y, r = some (0, y) ∧ ∀ k i, ¬ f_m15 k i → σ2 k i = σ k i) := by
  exact c_M_feed hI.2.2.1 (fun _ _ f _ => ⟨_, rfl, fun k i hk => f k i hk⟩)
theorem fa_15 {a b : Int} {σ : q_S} (h : q_IN σ) : q_K L xs i_A_feed [(2, 0), (1, a), (0, b)] σ (fun r σ2 => ∃ y, r = some (0, y) ∧ ∀ k i, ¬ w_fe k i → σ2 k i = σ k i) := by
  exact c_A_feed (W := w_fe) (σ0 := σ) (fun _ _ hk => hk) (q_AW0 h) (fun _ _ h1 => ⟨_, rfl, h1.1⟩)
theorem f_15 {a b : Int} {σ : q_S} (h : q_IN σ) : q_P2 L xs i_A_feed [(2, 0), (1, a), (0, b)] i_M_feed [(2, 100), (1, a), (0, b)] σ (fun _ _ σ2 => ∀ k i, ¬ w_fe k i → ¬ f_m15 k i → σ2 k i = σ k i) :=
  q_fr2 h (fun k i z => by unfold w_fe at z; omega) (fa_15 h) (fun _ hI => fm_15 hI)
theorem fm_16 {a : Int} {σ : q_S} (hI : q_MI σ) : q_K L xs i_M_court [(2, 100), (0, a)] σ (fun r σ2 => ∃ y, r = some (0, y) ∧ ∀ k i, ¬ f_m16 k i → σ2 k i = σ k i) := by
  refine c_M_court hI.2.2.2.2.1.1 hI.2.2.2.2.2.2.2.2.2 hI.2.2.1 hI.2.2.2.2.1.2.2.2 hI.2.2.2.2.1.2.2.1 (fun _ => ⟨_, rfl, fun _ _ _ => rfl⟩) (fun _ => ⟨_, rfl, fun _ _ _ => rfl⟩) (fun hh σ' n' hS hn hw => ⟨_, rfl, fun k i hk => ?_⟩) (fun hh σ' n' hS hn hw => ⟨_, rfl, fun k i hk => ?_⟩)
  all_goals unfold f_m16 at hk
  · rw [q_unn (by omega)]; exact hS.1 k i (by omega) (by omega)
  · rw [q_unn (by omega), q_un (by omega), q_unn (by omega)]; exact hS.1 k i (by omega) (by omega)
theorem fa_16 {a : Int} {σ : q_S} (h : q_IN σ) : q_K L xs i_A_court [(2, 0), (0, a)] σ (fun r σ2 => ∃ y, r = some (0, y) ∧ ∀ k i, ¬ w_co k i → σ2 k i = σ k i) := by
  exact c_A_court (W := w_co) (σ0 := σ) (fun _ _ hk => hk) (q_AW0 h) (fun _ _ h1 => ⟨_, rfl, h1.1⟩)
theorem f_16 {a : Int} {σ : q_S} (h : q_IN σ) : q_P2 L xs i_A_court [(2, 0), (0, a)] i_M_court [(2, 100), (0, a)] σ (fun _ _ σ2 => ∀ k i, ¬ w_co k i → ¬ f_m16 k i → σ2 k i = σ k i) :=
  q_fr2 h (fun k i z => by unfold w_co at z; omega) (fa_16 h) (fun _ hI => fm_16 hI)
theorem fm_17 {a b c : Int} {σ : q_S} (hI : q_MI σ) : q_K L xs i_M_custom [(2, 100), (0, a), (0, b), (0, c)] σ (fun r σ2 => ∃ y, r = some (0, y) ∧ ∀ k i, ¬ w_no k i → σ2 k i = σ k i) := by
  exact c_M_custom hI.2.2.2.2.1.1 (fun _ => ⟨_, rfl, fun _ _ _ => rfl⟩)
theorem fa_17 {a b c : Int} {σ : q_S} (h : q_IN σ) : q_K L xs i_A_custom [(2, 0), (0, a), (0, b), (0, c)] σ (fun r σ2 => ∃ y, r = some (0, y) ∧ ∀ k i, ¬ w_no k i → σ2 k i = σ k i) := by
  exact c_A_custom (q_oCourts (q_AW0 (W := q_W0) h)) (fun _ => ⟨_, rfl, fun _ _ _ => rfl⟩)
theorem f_17 {a b c : Int} {σ : q_S} (h : q_IN σ) : q_P2 L xs i_A_custom [(2, 0), (0, a), (0, b), (0, c)] i_M_custom [(2, 100), (0, a), (0, b), (0, c)] σ (fun _ _ σ2 => ∀ k i, ¬ w_no k i → ¬ w_no k i → σ2 k i = σ k i) :=
  q_fr2 h (fun k i z => by unfold w_no at z; omega) (fa_17 h) (fun _ hI => fm_17 hI)
theorem fm_18 {a b c d : Int} {σ : q_S} (hI : q_MI σ) : q_K L xs i_M_mender [(2, 100), (0, a), (0, b), (0, c), (0, d)] σ (fun r σ2 => ∃ y, r = some (0, y) ∧ ∀ k i, ¬ f_m18 k i → σ2 k i = σ k i) := by
  exact c_M_mender hI.1 hI.2.2.2.1 hI.2.2.2.2.1 (fun _ _ f => ⟨_, rfl, fun k i hk => f k i (fun e => hk (Or.inl e)) (fun e => hk (Or.inr e))⟩)
theorem fa_18 {a b c d : Int} {σ : q_S} (h : q_IN σ) : q_K L xs i_A_mender [(2, 0), (0, a), (0, b), (0, c), (0, d)] σ (fun r σ2 => ∃ y, r = some (0, y) ∧ ∀ k i, ¬ w_sh k i → σ2 k i = σ k i) := by
  exact c_A_mender (W := w_sh) (σ0 := σ) (fun _ _ hk => hk) (q_AW0 h) (fun _ _ h1 => ⟨_, rfl, h1.1⟩)
theorem f_18 {a b c d : Int} {σ : q_S} (h : q_IN σ) : q_P2 L xs i_A_mender [(2, 0), (0, a), (0, b), (0, c), (0, d)] i_M_mender [(2, 100), (0, a), (0, b), (0, c), (0, d)] σ (fun _ _ σ2 => ∀ k i, ¬ w_sh k i → ¬ f_m18 k i → σ2 k i = σ k i) :=
  q_fr2 h (fun k i z => by unfold w_sh at z; omega) (fa_18 h) (fun _ hI => fm_18 hI)
theorem fm_19 {a : Int} {σ : q_S} (hI : q_MI σ) : q_K L xs i_M_view [(2, 100), (0, a)] σ (fun r σ2 => ∃ y, r = some (0, y) ∧ ∀ k i, ¬ f_m19 k i → σ2 k i = σ k i) := by
  exact c_M_view hI.1 hI.2.2.2.2.2.2.1 hI.2.2.2.1 hI.2.2.2.2.1 hI.2.2.2.2.2.1 (fun _ _ f _ => ⟨_, rfl, fun k i hk => f k i (fun e => hk (Or.inl e)) (fun e => hk (Or.inr e))⟩)
theorem fa_19 {a : Int} {σ : q_S} (h : q_IN σ) : q_K L xs i_A_view [(2, 0), (0, a)] σ (fun r σ2 => ∃ y, r = some (0, y) ∧ ∀ k i, ¬ w_vi k i → σ2 k i = σ k i) := by
  exact c_A_view (W := w_vi) (σ0 := σ) (fun _ _ hk => hk) (q_AW0 h) (fun _ _ h1 => ⟨_, rfl, h1.1⟩)
theorem f_19 {a : Int} {σ : q_S} (h : q_IN σ) : q_P2 L xs i_A_view [(2, 0), (0, a)] i_M_view [(2, 100), (0, a)] σ (fun _ _ σ2 => ∀ k i, ¬ w_vi k i → ¬ f_m19 k i → σ2 k i = σ k i) :=
  q_fr2 h (fun k i z => by unfold w_vi at z; omega) (fa_19 h) (fun _ hI => fm_19 hI)
theorem fm_20 {a b c : Int} {σ : q_S} (hI : q_MI σ) : q_K L xs i_M_mend [(2, 100), (0, a), (0, b), (0, c)] σ (fun r σ2 => ∃ y, r = some (0, y) ∧ ∀ k i, ¬ f_m20 k i → σ2 k i = σ k i) := by
  exact c_M_mend hI.1 hI.2.2.2.2.2.2.1 (fun i h0 h1 => by have := hI.2.2.2.2.2.1.2 i h0 h1; have := hI.2.2.2.2.2.1.1; omega) (fun _ => ⟨_, rfl, fun _ _ _ => rfl⟩) (fun _ => ⟨_, rfl, fun _ _ _ => rfl⟩) (fun _ _ => ⟨_, rfl, fun k i hk => ((q_un (fun e => hk (by unfold f_m20; omega))).trans (q_un (fun e => hk (by unfold f_m20; omega))))⟩) (fun _ _ => ⟨_, rfl, fun k i hk => ((q_un (fun e => hk (by unfold f_m20; omega))).trans ((q_un (fun e => hk (by unfold f_m20; omega))).trans ((q_un (fun e => hk (by unfold f_m20; omega))).trans (q_un (fun e => hk (by unfold f_m20; omega))))))⟩)
theorem fa_20 {a b c : Int} {σ : q_S} (h : q_IN σ) : q_K L xs i_A_mend [(2, 0), (0, a), (0, b), (0, c)] σ (fun r σ2 => ∃ y, r = some (0, y) ∧ ∀ k i, ¬ w_me k i → σ2 k i = σ k i) := by
  exact c_A_mend (W := w_me) (σ0 := σ) (fun _ _ hk => hk) (q_AW0 h) (fun _ _ h1 => ⟨_, rfl, h1.1⟩)
theorem f_20 {a b c : Int} {σ : q_S} (h : q_IN σ) : q_P2 L xs i_A_mend [(2, 0), (0, a), (0, b), (0, c)] i_M_mend [(2, 100), (0, a), (0, b), (0, c)] σ (fun _ _ σ2 => ∀ k i, ¬ w_me k i → ¬ f_m20 k i → σ2 k i = σ k i) :=
  q_fr2 h (fun k i z => by unfold w_me at z; omega) (fa_20 h) (fun _ hI => fm_20 hI)
theorem fm_21 {a b : Int} {σ : q_S} (hI : q_MI σ) : q_K L xs i_M_fault [(2, 100), (0, a), (0, b)] σ (fun r σ2 => ∃ y, r = some (0, y) ∧ ∀ k i, ¬ w_no k i → σ2 k i = σ k i) := by
  exact c_M_fault hI.1 (fun i h0 h1 => by have := hI.2.2.2.2.2.1.2 i h0 h1; have := hI.2.2.2.2.2.1.1; omega) (fun _ => ⟨_, rfl, fun _ _ _ => rfl⟩)
theorem fa_21 {a b : Int} {σ : q_S} (h : q_IN σ) : q_K L xs i_A_fault [(2, 0), (0, a), (0, b)] σ (fun r σ2 => ∃ y, r = some (0, y) ∧ ∀ k i, ¬ w_no k i → σ2 k i = σ k i) := by
  exact c_A_fault (q_oBank (q_AW0 (W := q_W0) h)) (q_oOpen (q_AW0 (W := q_W0) h) _) (fun _ => ⟨_, rfl, fun _ _ _ => rfl⟩)
theorem f_21 {a b : Int} {σ : q_S} (h : q_IN σ) : q_P2 L xs i_A_fault [(2, 0), (0, a), (0, b)] i_M_fault [(2, 100), (0, a), (0, b)] σ (fun _ _ σ2 => ∀ k i, ¬ w_no k i → ¬ w_no k i → σ2 k i = σ k i) :=
  q_fr2 h (fun k i z => by unfold w_no at z; omega) (fa_21 h) (fun _ hI => fm_21 hI)
theorem fm_22 {a : Int} {σ : q_S} (hI : q_MI σ) : q_K L xs i_M_fines [(2, 100), (0, a)] σ (fun r σ2 => ∃ y, r = some (0, y) ∧ ∀ k i, ¬ w_no k i → σ2 k i = σ k i) := by
  exact c_M_fines hI.2.2.2.2.2.1.1 (fun _ => ⟨_, rfl, fun _ _ _ => rfl⟩)
theorem fa_22 {a : Int} {σ : q_S} (h : q_IN σ) : q_K L xs i_A_fines [(2, 0), (0, a)] σ (fun r σ2 => ∃ y, r = some (0, y) ∧ ∀ k i, ¬ w_no k i → σ2 k i = σ k i) := by
  exact c_A_fines (q_oFaults (q_AW0 (W := q_W0) h)) (fun _ => ⟨_, rfl, fun _ _ _ => rfl⟩)
theorem f_22 {a : Int} {σ : q_S} (h : q_IN σ) : q_P2 L xs i_A_fines [(2, 0), (0, a)] i_M_fines [(2, 100), (0, a)] σ (fun _ _ σ2 => ∀ k i, ¬ w_no k i → ¬ w_no k i → σ2 k i = σ k i) :=
  q_fr2 h (fun k i z => by unfold w_no at z; omega) (fa_22 h) (fun _ hI => fm_22 hI)
theorem fm_23 {a : Int} {σ : q_S} (hI : q_MI σ) : q_K L xs i_M_mended [(2, 100), (0, a)] σ (fun r σ2 => ∃ y, r = some (0, y) ∧ ∀ k i, ¬ w_no k i → σ2 k i = σ k i) := by
  exact c_M_mended (fun _ => ⟨_, rfl, fun _ _ _ => rfl⟩) (fun _ => ⟨_, rfl, fun _ _ _ => rfl⟩)
theorem fa_23 {a : Int} {σ : q_S} (h : q_IN σ) : q_K L xs i_A_mended [(2, 0), (0, a)] σ (fun r σ2 => ∃ y, r = some (0, y) ∧ ∀ k i, ¬ w_no k i → σ2 k i = σ k i) := by
  exact c_A_mended (fun _ => ⟨_, rfl, fun _ _ _ => rfl⟩)
theorem f_23 {a : Int} {σ : q_S} (h : q_IN σ) : q_P2 L xs i_A_mended [(2, 0), (0, a)] i_M_mended [(2, 100), (0, a)] σ (fun _ _ σ2 => ∀ k i, ¬ w_no k i → ¬ w_no k i → σ2 k i = σ k i) :=
  q_fr2 h (fun k i z => by unfold w_no at z; omega) (fa_23 h) (fun _ hI => fm_23 hI)
theorem fm_24 {a b : Int} {σ : q_S} (hI : q_MI σ) : q_K L xs i_M_works [(2, 100), (0, a), (0, b)] σ (fun r σ2 => ∃ y, r = some (0, y) ∧ ∀ k i, ¬ f_m24 k i → σ2 k i = σ k i) := by
  exact c_M_works hI.1 hI.2.2.2.2.1 hI.2.2.2.2.2.2.1 hI.2.2.2.2.2.2.2.1 (fun _ _ f => ⟨_, rfl, fun k i hk => f k i hk⟩)
theorem fa_24 {a b : Int} {σ : q_S} (h : q_IN σ) : q_K L xs i_A_works [(2, 0), (0, a), (0, b)] σ (fun r σ2 => ∃ y, r = some (0, y) ∧ ∀ k i, ¬ w_pl k i → σ2 k i = σ k i) := by
  exact c_A_works (W := w_pl) (σ0 := σ) (fun _ _ hk => hk) (q_AW0 h) (fun _ _ h1 => ⟨_, rfl, h1.1⟩)
theorem f_24 {a b : Int} {σ : q_S} (h : q_IN σ) : q_P2 L xs i_A_works [(2, 0), (0, a), (0, b)] i_M_works [(2, 100), (0, a), (0, b)] σ (fun _ _ σ2 => ∀ k i, ¬ w_pl k i → ¬ f_m24 k i → σ2 k i = σ k i) :=
  q_fr2 h (fun k i z => by unfold w_pl at z; omega) (fa_24 h) (fun _ hI => fm_24 hI)
theorem fm_25 {a b : Int} {σ : q_S} (hI : q_MI σ) : q_K L xs i_M_scot [(2, 100), (0, a), (0, b)] σ (fun r σ2 => ∃ y, r = some (0, y) ∧ ∀ k i, ¬ f_m25 k i → σ2 k i = σ k i) := by
  exact c_M_scot hI.2.2.2.1 (fun _ _ f => ⟨_, rfl, fun k i hk => f k i (fun e => hk (Or.inl e)) (fun e => hk (Or.inr e))⟩)
theorem fa_25 {a b : Int} {σ : q_S} (h : q_IN σ) : q_K L xs i_A_scot [(2, 0), (0, a), (0, b)] σ (fun r σ2 => ∃ y, r = some (0, y) ∧ ∀ k i, ¬ w_sh k i → σ2 k i = σ k i) := by
  exact c_A_scot (W := w_sh) (σ0 := σ) (fun _ _ hk => hk) (q_AW0 h) (fun _ _ h1 => ⟨_, rfl, h1.1⟩)
theorem f_25 {a b : Int} {σ : q_S} (h : q_IN σ) : q_P2 L xs i_A_scot [(2, 0), (0, a), (0, b)] i_M_scot [(2, 100), (0, a), (0, b)] σ (fun _ _ σ2 => ∀ k i, ¬ w_sh k i → ¬ f_m25 k i → σ2 k i = σ k i) :=
  q_fr2 h (fun k i z => by unfold w_sh at z; omega) (fa_25 h) (fun _ hI => fm_25 hI)
theorem fm_26 {a : Int} {σ : q_S} (hI : q_MI σ) : q_K L xs i_M_count [(2, 100), (0, a)] σ (fun r σ2 => ∃ y, r = some (0, y) ∧ ∀ k i, ¬ w_no k i → σ2 k i = σ k i) := by
  exact c_M_count hI.2.1 hI.1 (fun _ => ⟨_, rfl, fun _ _ _ => rfl⟩)
theorem fa_26 {a : Int} {σ : q_S} (h : q_IN σ) : q_K L xs i_A_count [(2, 0), (0, a)] σ (fun r σ2 => ∃ y, r = some (0, y) ∧ ∀ k i, ¬ w_no k i → σ2 k i = σ k i) := by
  exact c_A_count (q_oHerds (q_AW0 (W := q_W0) h)) (fun _ => ⟨_, rfl, fun _ _ _ => rfl⟩)
theorem f_26 {a : Int} {σ : q_S} (h : q_IN σ) : q_P2 L xs i_A_count [(2, 0), (0, a)] i_M_count [(2, 100), (0, a)] σ (fun _ _ σ2 => ∀ k i, ¬ w_no k i → ¬ w_no k i → σ2 k i = σ k i) :=
  q_fr2 h (fun k i z => by unfold w_no at z; omega) (fa_26 h) (fun _ hI => fm_26 hI)
end P80d
