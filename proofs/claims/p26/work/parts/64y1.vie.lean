/-! faults -/
def v_en (τ : q_S) (r d : Int) : q_S := if τ 95 r = -1 then τ else q_up (q_up τ 91 (τ 95 r) d) 95 r (-1)
def m_en (σ : q_S) (r d : Int) : q_S := if σ 119 r = -1 then σ else q_up (q_up σ 135 (σ 119 r) d) 119 r (-1)
def v_be (τ : q_S) (r o d m f h : Int) : q_S := q_up (q_up (q_up (q_up (q_up (q_up (q_up (q_up τ 89 (τ 88 7) o) 90 (τ 88 7) d) 91 (τ 88 7) (-1)) 92 (τ 88 7) m) 93 (τ 88 7) f) 94 (τ 88 7) h) 95 r (τ 88 7)) 88 7 (τ 88 7 + 1)
def m_be (σ : q_S) (r o d m h f : Int) : q_S := q_up (q_up (q_up (q_up (q_up (q_up (q_up (q_up σ 133 (σ 100 42) o) 134 (σ 100 42) d) 135 (σ 100 42) (-1)) 136 (σ 100 42) m) 137 (σ 100 42) h) 138 (σ 100 42) f) 119 r (σ 100 42)) 100 42 (σ 100 42 + 1)
/-- the faults of the model's cells of σ are those of the other's cells of τ -/
def y_F (σ τ : q_S) : Prop := σ 100 42 = τ 88 7 ∧ (0 ≤ τ 88 7 ∧ τ 88 7 ≤ 60) ∧ (∀ i, 0 ≤ i → i < τ 88 7 → σ 133 i = τ 89 i ∧ σ 134 i = τ 90 i ∧ σ 135 i = τ 91 i ∧ σ 136 i = τ 92 i ∧ σ 137 i = τ 94 i ∧ σ 138 i = τ 93 i ∧ (0 ≤ τ 93 i ∧ τ 93 i ≤ 999) ∧ (0 ≤ τ 90 i ∧ τ 90 i ≤ 9999) ∧ (-1 ≤ τ 91 i ∧ τ 91 i ≤ 9999)) ∧ (∀ r, 0 ≤ r → r < τ 17 9 → σ 119 r = τ 95 r ∧ σ 118 r = τ 24 r ∧ -1 ≤ τ 95 r ∧ τ 95 r < τ 88 7) ∧ (∀ r, τ 17 9 ≤ r → r < 24 → τ 95 r = -1)
section Z1
variable {σ τ σ' τ' : q_S} {r d o m f h : Int}
theorem en_0 {k i : Int} (h1 : k ≠ 95) (h2 : k ≠ 91) : v_en τ r d k i = τ k i := by
  unfold v_en
  split
  · rfl
  · exact (q_un h1).trans (q_un h2)
theorem men_0 {k i : Int} (h1 : k ≠ 119) (h2 : k ≠ 135) : m_en σ r d k i = σ k i := by
  unfold m_en
  split
  · rfl
  · exact (q_un h1).trans (q_un h2)
theorem F_c (F : y_F σ τ) (a : ∀ k i, (k = 100 ∧ i = 42) ∨ (133 ≤ k ∧ k ≤ 138) ∨ k = 118 ∨ k = 119 → σ' k i = σ k i) (b : ∀ k i, (k = 88 ∧ i = 7) ∨ (89 ≤ k ∧ k ≤ 95) ∨ k = 24 ∨ (k = 17 ∧ i = 9) → τ' k i = τ k i) : y_F σ' τ' := by
  obtain ⟨f1, f2, f3, f4, f5⟩ := F
  have e7 := b 88 7 (by omega)
  have e9 := b 17 9 (by omega)
  refine ⟨by rw [a 100 42 (by omega), e7]; exact f1, by rw [e7]; exact f2, fun i i0 i1 => ?_, fun s s0 s1 => ?_, fun s s0 s1 => ?_⟩
  · rw [e7] at i1
    rw [a 133 i (by omega), a 134 i (by omega), a 135 i (by omega), a 136 i (by omega), a 137 i (by omega), a 138 i (by omega), b 89 i (by omega), b 90 i (by omega), b 91 i (by omega), b 92 i (by omega), b 93 i (by omega), b 94 i (by omega)]
    exact f3 i i0 i1
  · rw [e9] at s1
    rw [a 119 s (by omega), a 118 s (by omega), b 95 s (by omega), b 24 s (by omega), e7]
    exact f4 s s0 s1
  · rw [e9] at s0
    rw [b 95 s (by omega)]
    exact f5 s s0 s1
theorem F_en (F : y_F σ τ) (hr : 0 ≤ r ∧ r < τ 17 9) (hd : 0 ≤ d ∧ d ≤ 9999) : y_F (m_en σ r d) (v_en τ r d) := by
  obtain ⟨f1, f2, f3, f4, f5⟩ := id F
  obtain ⟨e9, e8, o1, o2⟩ := f4 r hr.1 hr.2
  unfold m_en v_en
  by_cases g : τ 95 r = -1
  · rw [if_pos g, if_pos (e9.trans g)]; exact F
  · rw [if_neg g, if_neg (fun z => g (e9.symm.trans z)), e9]
    have a : ∀ k i, k ≠ 119 → k ≠ 135 → q_up (q_up σ 135 (τ 95 r) d) 119 r (-1) k i = σ k i := fun k i h1 h2 => (q_un h1).trans (q_un h2)
    have b : ∀ k i, k ≠ 95 → k ≠ 91 → q_up (q_up τ 91 (τ 95 r) d) 95 r (-1) k i = τ k i := fun k i h1 h2 => (q_un h1).trans (q_un h2)
    have ae : ∀ i, q_up (q_up σ 135 (τ 95 r) d) 119 r (-1) 135 i = q_up σ 135 (τ 95 r) d 135 i := fun i => q_un (by decide)
    have be : ∀ i, q_up (q_up τ 91 (τ 95 r) d) 95 r (-1) 91 i = q_up τ 91 (τ 95 r) d 91 i := fun i => q_un (by decide)
    refine ⟨?_, ?_, fun i i0 i1 => ?_, fun s s0 s1 => ?_, fun s s0 s1 => ?_⟩
    · rw [a 100 42 (by decide) (by decide), b 88 7 (by decide) (by decide)]; exact f1
    · rw [b 88 7 (by decide) (by decide)]; exact f2
    · rw [b 88 7 (by decide) (by decide)] at i1
      obtain ⟨r1, r2, r3, r4, r5, r6, b1, b2, b3⟩ := f3 i i0 i1
      rw [a 133 i (by decide) (by decide), a 134 i (by decide) (by decide), a 136 i (by decide) (by decide), a 137 i (by decide) (by decide), a 138 i (by decide) (by decide), b 89 i (by decide) (by decide), b 90 i (by decide) (by decide), b 92 i (by decide) (by decide), b 93 i (by decide) (by decide), b 94 i (by decide) (by decide), ae, be]
      by_cases ei : i = τ 95 r
      · subst ei
        rw [q_ue, q_ue]
        exact ⟨r1, r2, rfl, r4, r5, r6, b1, b2, by omega⟩
      · rw [q_ui ei, q_ui ei]
        exact ⟨r1, r2, r3, r4, r5, r6, b1, b2, b3⟩
    · rw [b 17 9 (by decide) (by decide)] at s1
      obtain ⟨p1, p2, p3, p4⟩ := f4 s s0 s1
      rw [a 118 s (by decide) (by decide), b 24 s (by decide) (by decide), b 88 7 (by decide) (by decide)]
      by_cases es : s = r
      · rw [es, q_ue, q_ue]
        rw [es] at p2
        exact ⟨rfl, p2, by decide, by omega⟩
      · rw [q_ui es, q_ui es, q_un (by decide), q_un (by decide)]
        exact ⟨p1, p2, p3, p4⟩
    · rw [b 17 9 (by decide) (by decide)] at s0
      rw [q_ui (by omega), q_un (by decide)]
      exact f5 s s0 s1
theorem F_vw {v : Int} (F : y_F σ τ) (_hr : 0 ≤ r ∧ r < τ 17 9) : y_F (q_up σ 118 r v) (q_up τ 24 r v) := by
  obtain ⟨f1, f2, f3, f4, f5⟩ := F
  have a : ∀ k i, k ≠ 118 → q_up σ 118 r v k i = σ k i := fun k i h1 => q_un h1
  have b : ∀ k i, k ≠ 24 → q_up τ 24 r v k i = τ k i := fun k i h1 => q_un h1
  refine ⟨by rw [a 100 42 (by decide), b 88 7 (by decide)]; exact f1, by rw [b 88 7 (by decide)]; exact f2, fun i i0 i1 => ?_, fun s s0 s1 => ?_, fun s s0 s1 => ?_⟩
  · rw [b 88 7 (by decide)] at i1
    rw [a 133 i (by decide), a 134 i (by decide), a 135 i (by decide), a 136 i (by decide), a 137 i (by decide), a 138 i (by decide), b 89 i (by decide), b 90 i (by decide), b 91 i (by decide), b 92 i (by decide), b 93 i (by decide), b 94 i (by decide)]
    exact f3 i i0 i1
  · rw [b 17 9 (by decide)] at s1
    obtain ⟨p1, p2, p3, p4⟩ := f4 s s0 s1
    rw [a 119 s (by decide), b 95 s (by decide), b 88 7 (by decide)]
    by_cases es : s = r
    · rw [es, q_ue, q_ue]
      rw [es] at p1 p3 p4
      exact ⟨p1, rfl, p3, p4⟩
    · rw [q_ui es, q_ui es]
      exact ⟨p1, p2, p3, p4⟩
  · rw [b 17 9 (by decide)] at s0
    rw [b 95 s (by decide)]
    exact f5 s s0 s1
theorem F_be (F : y_F σ τ) (hr : 0 ≤ r ∧ r < τ 17 9) (h60 : τ 88 7 < 60) (hd : 0 ≤ d ∧ d ≤ 9999) (hf : 0 ≤ f ∧ f ≤ 999) : y_F (m_be σ r o d m h f) (v_be τ r o d m f h) := by
  obtain ⟨f1, f2, f3, f4, f5⟩ := F
  unfold m_be v_be
  rw [f1]
  generalize hn : τ 88 7 = n at *
  refine ⟨?_, ?_, fun i i0 i1 => ?_, fun s s0 s1 => ?_, fun s s0 s1 => ?_⟩
  · rw [q_ue, q_ue]
  · rw [q_ue]; omega
  · rw [q_ue] at i1
    simp (disch := decide) only [q_un]
    by_cases ei : i = n
    · subst ei
      simp only [q_ue]
      exact ⟨trivial, trivial, trivial, trivial, trivial, trivial, hf, hd, by decide⟩
    · simp only [q_ui ei]
      exact f3 i i0 (by omega)
  · have s1 : s < τ 17 9 := by simp (disch := decide) only [q_un] at s1; exact s1
    obtain ⟨p1, p2, p3, p4⟩ := f4 s s0 s1
    rw [q_ue (k := 88)]
    simp (disch := decide) only [q_un]
    by_cases es : s = r
    · rw [es, q_ue, q_ue]
      rw [es] at p2
      exact ⟨rfl, p2, by omega, by omega⟩
    · rw [q_ui es, q_ui es]
      simp (disch := decide) only [q_un]
      exact ⟨p1, p2, p3, by omega⟩
  · have s0 : τ 17 9 ≤ s := by simp (disch := decide) only [q_un] at s0; exact s0
    simp (disch := decide) only [q_un]
    rw [q_ui (by omega)]
    simp (disch := decide) only [q_un]
    exact f5 s s0 s1
end Z1
section Z2
variable {L : Nat} {xs : Int → Int}
theorem x_fend {r d : Int} {σ : q_S} {K : q_R → q_S → Prop} (hr : 0 ≤ r ∧ r < 24) (ho : -1 ≤ σ 95 r ∧ σ 95 r < 60) (hK : K none (v_en σ r d)) : q_K L xs i_Faults_end [(2, 88), (0, r), (0, d)] σ K := by
  unfold v_en at hK
  refine q_call k_Faults_end 3 rfl ?_
  show q_E L xs k_Faults_end (0, [(2, 88), (0, r), (0, d)], [], σ) K
  refine q_go1 100 0 [] (fun cl ev hcl hev => ?_)
  refine And.intro (by omega) ?_
  refine And.intro (fun g => ?_) (fun g => ?_)
  · rw [if_pos g] at hK
    exact hK
  · rw [if_neg g] at hK
    exact And.intro (by omega) (And.intro (by omega) (And.intro (by omega) hK))
theorem z_fend {r : Int} {σ : q_S} {K : q_R → q_S → Prop} (hr : 0 ≤ r ∧ r < 24) (ho : -1 ≤ σ 119 r ∧ σ 119 r < 60) (hK : K none (m_en σ r (σ 100 25))) : q_K L xs i_M_endsFault [(2, 100), (0, r)] σ K := by
  unfold m_en at hK
  refine c_M_endsFault hr ho (fun g => ?_) (fun g => ?_)
  · rw [if_pos g] at hK
    exact hK
  · rw [if_neg g] at hK
    exact hK
def v_em (τ : q_S) (r x d : Int) : q_S := if τ 95 r ≠ -1 ∧ τ 94 (τ 95 r) ≤ x then v_en τ r d else τ
theorem x_em {r x d : Int} {σ : q_S} {K : q_R → q_S → Prop} (hr : 0 ≤ r ∧ r < 24) (ho : -1 ≤ σ 95 r ∧ σ 95 r < 60) (hK : K none (v_em σ r x d)) : q_K L xs i_Faults_endIfMended [(2, 88), (0, r), (0, x), (0, d)] σ K := by
  unfold v_em at hK
  refine q_call k_Faults_endIfMended 4 rfl ?_
  show q_E L xs k_Faults_endIfMended (0, [(2, 88), (0, r), (0, x), (0, d)], [], σ) K
  refine q_go1 100 0 [] (fun cl ev hcl hev => ?_)
  refine And.intro (by omega) ?_
  refine And.intro (fun g => ?_) (fun g => ?_)
  · rw [if_neg (fun z => z.1 g)] at hK
    exact hK
  · refine And.intro (by omega) (And.intro (by omega) ?_)
    refine And.intro (fun g2 => ?_) (fun g2 => ?_)
    · rw [if_neg (fun z => by omega)] at hK
      exact hK
    · rw [if_pos ⟨g, by omega⟩] at hK
      show cl _ _ _ _
      exact hcl _ _ _ _ (x_fend hr ho hK)
theorem x_be36 {r o d m : Int} {σ : q_S} {K : q_R → q_S → Prop} (hr : 0 ≤ r ∧ r < 24) (h60 : 0 ≤ σ 88 7 ∧ σ 88 7 < 60) (hK : K none (v_be σ r o d m (σ 36 2) (σ 36 1))) : q_K L xs i_Faults_begin [(2, 88), (0, r), (0, o), (0, d), (0, m), (2, 36)] σ K := by
  have ew : q_w32 (σ 88 7 + 1) = σ 88 7 + 1 := by rw [q_w32_id] <;> omega
  unfold v_be at hK
  refine q_call k_Faults_begin 6 rfl ?_
  show q_E L xs k_Faults_begin (0, [(2, 88), (0, r), (0, o), (0, d), (0, m), (2, 36)], [], σ) K
  refine q_go1 100 0 [] (fun cl ev hcl hev => ?_)
  refine And.intro (fun g => ?_) (fun z => by exfalso; omega)
  refine And.intro (by omega) ?_
  refine And.intro (by simp (disch := decide) only [q_un]; omega) ?_
  refine And.intro (by simp (disch := decide) only [q_un]; omega) ?_
  refine And.intro (by simp (disch := decide) only [q_un]; omega) ?_
  refine And.intro (by simp (disch := decide) only [q_un]; omega) ?_
  refine And.intro (by simp (disch := decide) only [q_un]; omega) ?_
  refine And.intro (by omega) ?_
  refine q_ks hK ?_
  simp (disch := decide) only [q_un, ew]
theorem x_be40 {r o d m : Int} {σ : q_S} {K : q_R → q_S → Prop} (hr : 0 ≤ r ∧ r < 24) (h60 : 0 ≤ σ 88 7 ∧ σ 88 7 < 60) (hK : K none (v_be σ r o d m (σ 40 2) (σ 40 1))) : q_K L xs i_Faults_begin [(2, 88), (0, r), (0, o), (0, d), (0, m), (2, 40)] σ K := by
  have ew : q_w32 (σ 88 7 + 1) = σ 88 7 + 1 := by rw [q_w32_id] <;> omega
  unfold v_be at hK
  refine q_call k_Faults_begin 6 rfl ?_
  show q_E L xs k_Faults_begin (0, [(2, 88), (0, r), (0, o), (0, d), (0, m), (2, 40)], [], σ) K
  refine q_go1 100 0 [] (fun cl ev hcl hev => ?_)
  refine And.intro (fun g => ?_) (fun z => by exfalso; omega)
  refine And.intro (by omega) ?_
  refine And.intro (by simp (disch := decide) only [q_un]; omega) ?_
  refine And.intro (by simp (disch := decide) only [q_un]; omega) ?_
  refine And.intro (by simp (disch := decide) only [q_un]; omega) ?_
  refine And.intro (by simp (disch := decide) only [q_un]; omega) ?_
  refine And.intro (by simp (disch := decide) only [q_un]; omega) ?_
  refine And.intro (by omega) ?_
  refine q_ks hK ?_
  simp (disch := decide) only [q_un, ew]
theorem x_be44 {r o d m : Int} {σ : q_S} {K : q_R → q_S → Prop} (hr : 0 ≤ r ∧ r < 24) (h60 : 0 ≤ σ 88 7 ∧ σ 88 7 < 60) (hK : K none (v_be σ r o d m (σ 44 2) (σ 44 1))) : q_K L xs i_Faults_begin [(2, 88), (0, r), (0, o), (0, d), (0, m), (2, 44)] σ K := by
  have ew : q_w32 (σ 88 7 + 1) = σ 88 7 + 1 := by rw [q_w32_id] <;> omega
  unfold v_be at hK
  refine q_call k_Faults_begin 6 rfl ?_
  show q_E L xs k_Faults_begin (0, [(2, 88), (0, r), (0, o), (0, d), (0, m), (2, 44)], [], σ) K
  refine q_go1 100 0 [] (fun cl ev hcl hev => ?_)
  refine And.intro (fun g => ?_) (fun z => by exfalso; omega)
  refine And.intro (by omega) ?_
  refine And.intro (by simp (disch := decide) only [q_un]; omega) ?_
  refine And.intro (by simp (disch := decide) only [q_un]; omega) ?_
  refine And.intro (by simp (disch := decide) only [q_un]; omega) ?_
  refine And.intro (by simp (disch := decide) only [q_un]; omega) ?_
  refine And.intro (by simp (disch := decide) only [q_un]; omega) ?_
  refine And.intro (by omega) ?_
  refine q_ks hK ?_
  simp (disch := decide) only [q_un, ew]
theorem x_be48 {r o d m : Int} {σ : q_S} {K : q_R → q_S → Prop} (hr : 0 ≤ r ∧ r < 24) (h60 : 0 ≤ σ 88 7 ∧ σ 88 7 < 60) (hK : K none (v_be σ r o d m (σ 48 2) (σ 48 1))) : q_K L xs i_Faults_begin [(2, 88), (0, r), (0, o), (0, d), (0, m), (2, 48)] σ K := by
  have ew : q_w32 (σ 88 7 + 1) = σ 88 7 + 1 := by rw [q_w32_id] <;> omega
  unfold v_be at hK
  refine q_call k_Faults_begin 6 rfl ?_
  show q_E L xs k_Faults_begin (0, [(2, 88), (0, r), (0, o), (0, d), (0, m), (2, 48)], [], σ) K
  refine q_go1 100 0 [] (fun cl ev hcl hev => ?_)
  refine And.intro (fun g => ?_) (fun z => by exfalso; omega)
  refine And.intro (by omega) ?_
  refine And.intro (by simp (disch := decide) only [q_un]; omega) ?_
  refine And.intro (by simp (disch := decide) only [q_un]; omega) ?_
  refine And.intro (by simp (disch := decide) only [q_un]; omega) ?_
  refine And.intro (by simp (disch := decide) only [q_un]; omega) ?_
  refine And.intro (by simp (disch := decide) only [q_un]; omega) ?_
  refine And.intro (by omega) ?_
  refine q_ks hK ?_
  simp (disch := decide) only [q_un, ew]
theorem x_be52 {r o d m : Int} {σ : q_S} {K : q_R → q_S → Prop} (hr : 0 ≤ r ∧ r < 24) (h60 : 0 ≤ σ 88 7 ∧ σ 88 7 < 60) (hK : K none (v_be σ r o d m (σ 52 2) (σ 52 1))) : q_K L xs i_Faults_begin [(2, 88), (0, r), (0, o), (0, d), (0, m), (2, 52)] σ K := by
  have ew : q_w32 (σ 88 7 + 1) = σ 88 7 + 1 := by rw [q_w32_id] <;> omega
  unfold v_be at hK
  refine q_call k_Faults_begin 6 rfl ?_
  show q_E L xs k_Faults_begin (0, [(2, 88), (0, r), (0, o), (0, d), (0, m), (2, 52)], [], σ) K
  refine q_go1 100 0 [] (fun cl ev hcl hev => ?_)
  refine And.intro (fun g => ?_) (fun z => by exfalso; omega)
  refine And.intro (by omega) ?_
  refine And.intro (by simp (disch := decide) only [q_un]; omega) ?_
  refine And.intro (by simp (disch := decide) only [q_un]; omega) ?_
  refine And.intro (by simp (disch := decide) only [q_un]; omega) ?_
  refine And.intro (by simp (disch := decide) only [q_un]; omega) ?_
  refine And.intro (by simp (disch := decide) only [q_un]; omega) ?_
  refine And.intro (by omega) ?_
  refine q_ks hK ?_
  simp (disch := decide) only [q_un, ew]
theorem x_be56 {r o d m : Int} {σ : q_S} {K : q_R → q_S → Prop} (hr : 0 ≤ r ∧ r < 24) (h60 : 0 ≤ σ 88 7 ∧ σ 88 7 < 60) (hK : K none (v_be σ r o d m (σ 56 2) (σ 56 1))) : q_K L xs i_Faults_begin [(2, 88), (0, r), (0, o), (0, d), (0, m), (2, 56)] σ K := by
  have ew : q_w32 (σ 88 7 + 1) = σ 88 7 + 1 := by rw [q_w32_id] <;> omega
  unfold v_be at hK
  refine q_call k_Faults_begin 6 rfl ?_
  show q_E L xs k_Faults_begin (0, [(2, 88), (0, r), (0, o), (0, d), (0, m), (2, 56)], [], σ) K
  refine q_go1 100 0 [] (fun cl ev hcl hev => ?_)
  refine And.intro (fun g => ?_) (fun z => by exfalso; omega)
  refine And.intro (by omega) ?_
  refine And.intro (by simp (disch := decide) only [q_un]; omega) ?_
  refine And.intro (by simp (disch := decide) only [q_un]; omega) ?_
  refine And.intro (by simp (disch := decide) only [q_un]; omega) ?_
  refine And.intro (by simp (disch := decide) only [q_un]; omega) ?_
  refine And.intro (by simp (disch := decide) only [q_un]; omega) ?_
  refine And.intro (by omega) ?_
  refine q_ks hK ?_
  simp (disch := decide) only [q_un, ew]
theorem x_be60 {r o d m : Int} {σ : q_S} {K : q_R → q_S → Prop} (hr : 0 ≤ r ∧ r < 24) (h60 : 0 ≤ σ 88 7 ∧ σ 88 7 < 60) (hK : K none (v_be σ r o d m (σ 60 2) (σ 60 1))) : q_K L xs i_Faults_begin [(2, 88), (0, r), (0, o), (0, d), (0, m), (2, 60)] σ K := by
  have ew : q_w32 (σ 88 7 + 1) = σ 88 7 + 1 := by rw [q_w32_id] <;> omega
  unfold v_be at hK
  refine q_call k_Faults_begin 6 rfl ?_
  show q_E L xs k_Faults_begin (0, [(2, 88), (0, r), (0, o), (0, d), (0, m), (2, 60)], [], σ) K
  refine q_go1 100 0 [] (fun cl ev hcl hev => ?_)
  refine And.intro (fun g => ?_) (fun z => by exfalso; omega)
  refine And.intro (by omega) ?_
  refine And.intro (by simp (disch := decide) only [q_un]; omega) ?_
  refine And.intro (by simp (disch := decide) only [q_un]; omega) ?_
  refine And.intro (by simp (disch := decide) only [q_un]; omega) ?_
  refine And.intro (by simp (disch := decide) only [q_un]; omega) ?_
  refine And.intro (by simp (disch := decide) only [q_un]; omega) ?_
  refine And.intro (by omega) ?_
  refine q_ks hK ?_
  simp (disch := decide) only [q_un, ew]
theorem x_be64 {r o d m : Int} {σ : q_S} {K : q_R → q_S → Prop} (hr : 0 ≤ r ∧ r < 24) (h60 : 0 ≤ σ 88 7 ∧ σ 88 7 < 60) (hK : K none (v_be σ r o d m (σ 64 2) (σ 64 1))) : q_K L xs i_Faults_begin [(2, 88), (0, r), (0, o), (0, d), (0, m), (2, 64)] σ K := by
  have ew : q_w32 (σ 88 7 + 1) = σ 88 7 + 1 := by rw [q_w32_id] <;> omega
  unfold v_be at hK
  refine q_call k_Faults_begin 6 rfl ?_
  show q_E L xs k_Faults_begin (0, [(2, 88), (0, r), (0, o), (0, d), (0, m), (2, 64)], [], σ) K
  refine q_go1 100 0 [] (fun cl ev hcl hev => ?_)
  refine And.intro (fun g => ?_) (fun z => by exfalso; omega)
  refine And.intro (by omega) ?_
  refine And.intro (by simp (disch := decide) only [q_un]; omega) ?_
  refine And.intro (by simp (disch := decide) only [q_un]; omega) ?_
  refine And.intro (by simp (disch := decide) only [q_un]; omega) ?_
  refine And.intro (by simp (disch := decide) only [q_un]; omega) ?_
  refine And.intro (by simp (disch := decide) only [q_un]; omega) ?_
  refine And.intro (by omega) ?_
  refine q_ks hK ?_
  simp (disch := decide) only [q_un, ew]
theorem x_be68 {r o d m : Int} {σ : q_S} {K : q_R → q_S → Prop} (hr : 0 ≤ r ∧ r < 24) (h60 : 0 ≤ σ 88 7 ∧ σ 88 7 < 60) (hK : K none (v_be σ r o d m (σ 68 2) (σ 68 1))) : q_K L xs i_Faults_begin [(2, 88), (0, r), (0, o), (0, d), (0, m), (2, 68)] σ K := by
  have ew : q_w32 (σ 88 7 + 1) = σ 88 7 + 1 := by rw [q_w32_id] <;> omega
  unfold v_be at hK
  refine q_call k_Faults_begin 6 rfl ?_
  show q_E L xs k_Faults_begin (0, [(2, 88), (0, r), (0, o), (0, d), (0, m), (2, 68)], [], σ) K
  refine q_go1 100 0 [] (fun cl ev hcl hev => ?_)
  refine And.intro (fun g => ?_) (fun z => by exfalso; omega)
  refine And.intro (by omega) ?_
  refine And.intro (by simp (disch := decide) only [q_un]; omega) ?_
  refine And.intro (by simp (disch := decide) only [q_un]; omega) ?_
  refine And.intro (by simp (disch := decide) only [q_un]; omega) ?_
  refine And.intro (by simp (disch := decide) only [q_un]; omega) ?_
  refine And.intro (by simp (disch := decide) only [q_un]; omega) ?_
  refine And.intro (by omega) ?_
  refine q_ks hK ?_
  simp (disch := decide) only [q_un, ew]
theorem x_be72 {r o d m : Int} {σ : q_S} {K : q_R → q_S → Prop} (hr : 0 ≤ r ∧ r < 24) (h60 : 0 ≤ σ 88 7 ∧ σ 88 7 < 60) (hK : K none (v_be σ r o d m (σ 72 2) (σ 72 1))) : q_K L xs i_Faults_begin [(2, 88), (0, r), (0, o), (0, d), (0, m), (2, 72)] σ K := by
  have ew : q_w32 (σ 88 7 + 1) = σ 88 7 + 1 := by rw [q_w32_id] <;> omega
  unfold v_be at hK
  refine q_call k_Faults_begin 6 rfl ?_
  show q_E L xs k_Faults_begin (0, [(2, 88), (0, r), (0, o), (0, d), (0, m), (2, 72)], [], σ) K
  refine q_go1 100 0 [] (fun cl ev hcl hev => ?_)
  refine And.intro (fun g => ?_) (fun z => by exfalso; omega)
  refine And.intro (by omega) ?_
  refine And.intro (by simp (disch := decide) only [q_un]; omega) ?_
  refine And.intro (by simp (disch := decide) only [q_un]; omega) ?_
  refine And.intro (by simp (disch := decide) only [q_un]; omega) ?_
  refine And.intro (by simp (disch := decide) only [q_un]; omega) ?_
  refine And.intro (by simp (disch := decide) only [q_un]; omega) ?_
  refine And.intro (by omega) ?_
  refine q_ks hK ?_
  simp (disch := decide) only [q_un, ew]
theorem x_be76 {r o d m : Int} {σ : q_S} {K : q_R → q_S → Prop} (hr : 0 ≤ r ∧ r < 24) (h60 : 0 ≤ σ 88 7 ∧ σ 88 7 < 60) (hK : K none (v_be σ r o d m (σ 76 2) (σ 76 1))) : q_K L xs i_Faults_begin [(2, 88), (0, r), (0, o), (0, d), (0, m), (2, 76)] σ K := by
  have ew : q_w32 (σ 88 7 + 1) = σ 88 7 + 1 := by rw [q_w32_id] <;> omega
  unfold v_be at hK
  refine q_call k_Faults_begin 6 rfl ?_
  show q_E L xs k_Faults_begin (0, [(2, 88), (0, r), (0, o), (0, d), (0, m), (2, 76)], [], σ) K
  refine q_go1 100 0 [] (fun cl ev hcl hev => ?_)
  refine And.intro (fun g => ?_) (fun z => by exfalso; omega)
  refine And.intro (by omega) ?_
  refine And.intro (by simp (disch := decide) only [q_un]; omega) ?_
  refine And.intro (by simp (disch := decide) only [q_un]; omega) ?_
  refine And.intro (by simp (disch := decide) only [q_un]; omega) ?_
  refine And.intro (by simp (disch := decide) only [q_un]; omega) ?_
  refine And.intro (by simp (disch := decide) only [q_un]; omega) ?_
  refine And.intro (by omega) ?_
  refine q_ks hK ?_
  simp (disch := decide) only [q_un, ew]
theorem x_be80 {r o d m : Int} {σ : q_S} {K : q_R → q_S → Prop} (hr : 0 ≤ r ∧ r < 24) (h60 : 0 ≤ σ 88 7 ∧ σ 88 7 < 60) (hK : K none (v_be σ r o d m (σ 80 2) (σ 80 1))) : q_K L xs i_Faults_begin [(2, 88), (0, r), (0, o), (0, d), (0, m), (2, 80)] σ K := by
  have ew : q_w32 (σ 88 7 + 1) = σ 88 7 + 1 := by rw [q_w32_id] <;> omega
  unfold v_be at hK
  refine q_call k_Faults_begin 6 rfl ?_
  show q_E L xs k_Faults_begin (0, [(2, 88), (0, r), (0, o), (0, d), (0, m), (2, 80)], [], σ) K
  refine q_go1 100 0 [] (fun cl ev hcl hev => ?_)
  refine And.intro (fun g => ?_) (fun z => by exfalso; omega)
  refine And.intro (by omega) ?_
  refine And.intro (by simp (disch := decide) only [q_un]; omega) ?_
  refine And.intro (by simp (disch := decide) only [q_un]; omega) ?_
  refine And.intro (by simp (disch := decide) only [q_un]; omega) ?_
  refine And.intro (by simp (disch := decide) only [q_un]; omega) ?_
  refine And.intro (by simp (disch := decide) only [q_un]; omega) ?_
  refine And.intro (by omega) ?_
  refine q_ks hK ?_
  simp (disch := decide) only [q_un, ew]
theorem x_be84 {r o d m : Int} {σ : q_S} {K : q_R → q_S → Prop} (hr : 0 ≤ r ∧ r < 24) (h60 : 0 ≤ σ 88 7 ∧ σ 88 7 < 60) (hK : K none (v_be σ r o d m (σ 84 2) (σ 84 1))) : q_K L xs i_Faults_begin [(2, 88), (0, r), (0, o), (0, d), (0, m), (2, 84)] σ K := by
  have ew : q_w32 (σ 88 7 + 1) = σ 88 7 + 1 := by rw [q_w32_id] <;> omega
  unfold v_be at hK
  refine q_call k_Faults_begin 6 rfl ?_
  show q_E L xs k_Faults_begin (0, [(2, 88), (0, r), (0, o), (0, d), (0, m), (2, 84)], [], σ) K
  refine q_go1 100 0 [] (fun cl ev hcl hev => ?_)
  refine And.intro (fun g => ?_) (fun z => by exfalso; omega)
  refine And.intro (by omega) ?_
  refine And.intro (by simp (disch := decide) only [q_un]; omega) ?_
  refine And.intro (by simp (disch := decide) only [q_un]; omega) ?_
  refine And.intro (by simp (disch := decide) only [q_un]; omega) ?_
  refine And.intro (by simp (disch := decide) only [q_un]; omega) ?_
  refine And.intro (by simp (disch := decide) only [q_un]; omega) ?_
  refine And.intro (by omega) ?_
  refine q_ks hK ?_
  simp (disch := decide) only [q_un, ew]
theorem xv_36 {r w : Int} {σ : q_S} {K : q_R → q_S → Prop} (hr : 0 ≤ r ∧ r < 24) (ho : -1 ≤ σ 95 r ∧ σ 95 r < 60) (h20 : 0 ≤ σ 20 r ∧ σ 20 r ≤ 99) (hq1 : -1 ≤ σ 36 1 ∧ σ 36 1 ≤ 99) (hsz : 0 ≤ σ 88 7 ∧ σ 88 7 ≤ 60)
    (hw : ∀ K' : q_R → q_S → Prop, (∀ σ', (∀ k i, k ≠ 14 → k ≠ 15 → k ≠ 16 → σ' k i = (q_up (v_en σ r (σ 0 10)) 24 r (σ 0 10)) k i) → K' (some (0, w)) σ') → q_K L xs i_A_whoMends [(2, 0), (0, r), (0, σ 0 10), (0, σ 34 2), (0, σ 7 5)] (q_up (v_en σ r (σ 0 10)) 24 r (σ 0 10)) K')
    (h4 : σ 20 r < σ 36 1 → 60 ≤ σ 88 7 → K (some (0, -4)) σ)
    (h0 : σ 36 1 ≤ σ 20 r → K (some (0, 0)) (q_up (v_en σ r (σ 0 10)) 24 r (σ 0 10)))
    (h1 : σ 20 r < σ 36 1 → σ 88 7 < 60 → ∀ σ', (∀ k i, k ≠ 14 → k ≠ 15 → k ≠ 16 → σ' k i = (q_up (v_en σ r (σ 0 10)) 24 r (σ 0 10)) k i) → K (some (0, σ 36 1 - σ 20 r)) (v_be σ' r w (σ 0 10) (σ 36 1 - σ 20 r) (σ 36 2) (σ 36 1))) : q_E L xs k_A_view (9, [(2, 0), (0, r), (2, 36), (9, 0), (9, 0)], [], σ) K := by
  have e : q_w32 (σ 36 1 - σ 20 r) = σ 36 1 - σ 20 r := by rw [q_w32_id] <;> omega
  have en : v_en σ r (σ 0 10) 0 10 = σ 0 10 := en_0 (by decide) (by decide)
  have a0 : (q_up (v_en σ r (σ 0 10)) 24 r (σ 0 10)) 0 10 = σ 0 10 := (q_un (by decide)).trans en
  have a34 : (q_up (v_en σ r (σ 0 10)) 24 r (σ 0 10)) 34 2 = σ 34 2 := (q_un (by decide)).trans (en_0 (by decide) (by decide))
  have a7 : (q_up (v_en σ r (σ 0 10)) 24 r (σ 0 10)) 7 5 = σ 7 5 := (q_un (by decide)).trans (en_0 (by decide) (by decide))
  refine q_go1 200 9 [20] (fun cl ev hcl hev => ?_)
  refine And.intro (by omega) ?_
  refine hev _ ?_
  rw [e]
  by_cases g : σ 36 1 ≤ σ 20 r
  · rw [show max 0 (σ 36 1 - σ 20 r) = 0 by omega]
    refine q_go1 200 20 [35] (fun cl ev hcl hev => ?_)
    refine And.intro (fun _ => ?_) (fun z => absurd (show (0 : Int) ≤ 0 by decide) z)
    show cl _ _ _ _
    refine hcl _ _ _ _ (x_fend hr ho ?_)
    refine hev _ ?_
    refine q_go1 200 35 [42] (fun cl ev hcl hev => ?_)
    refine And.intro (by omega) ?_
    refine hev _ ?_
    rw [en]
    refine q_go1 200 42 [] (fun cl ev hcl hev => ?_)
    exact And.intro (fun _ => h0 g) (fun z => absurd (show (0 : Int) ≤ 0 by decide) z)
  · rw [show max 0 (σ 36 1 - σ 20 r) = σ 36 1 - σ 20 r by omega]
    refine q_go1 200 20 [35] (fun cl ev hcl hev => ?_)
    refine And.intro (fun z => by exfalso; omega) (fun _ => ?_)
    refine And.intro (fun g2 => ?_) (fun g2 => h4 (by omega) (by omega))
    show cl _ _ _ _
    refine hcl _ _ _ _ (x_fend hr ho ?_)
    refine hev _ ?_
    refine q_go1 200 35 [42] (fun cl ev hcl hev => ?_)
    refine And.intro (by omega) ?_
    refine hev _ ?_
    rw [en]
    refine q_go1 200 42 [] (fun cl ev hcl hev => ?_)
    refine And.intro (fun z => by exfalso; omega) (fun _ => ?_)
    show cl _ _ _ _
    rw [a0, a34, a7]
    refine hcl _ _ _ _ (hw _ (fun σ' f => ?_))
    have f0 : σ' 0 10 = σ 0 10 := (f 0 10 (by decide) (by decide) (by decide)).trans a0
    have f1 : σ' 36 1 = σ 36 1 := (f 36 1 (by decide) (by decide) (by decide)).trans ((q_un (by decide)).trans (en_0 (by decide) (by decide)))
    have f2 : σ' 36 2 = σ 36 2 := (f 36 2 (by decide) (by decide) (by decide)).trans ((q_un (by decide)).trans (en_0 (by decide) (by decide)))
    have f7 : σ' 88 7 = σ 88 7 := (f 88 7 (by decide) (by decide) (by decide)).trans ((q_un (by decide)).trans (en_0 (by decide) (by decide)))
    show cl _ _ _ _
    rw [f0]
    refine hcl _ _ _ _ (x_be36 hr (by omega) ?_)
    rw [f1, f2]
    exact h1 (by omega) (by omega) σ' f
theorem xv_40 {r w : Int} {σ : q_S} {K : q_R → q_S → Prop} (hr : 0 ≤ r ∧ r < 24) (ho : -1 ≤ σ 95 r ∧ σ 95 r < 60) (h20 : 0 ≤ σ 20 r ∧ σ 20 r ≤ 99) (hq1 : -1 ≤ σ 40 1 ∧ σ 40 1 ≤ 99) (hsz : 0 ≤ σ 88 7 ∧ σ 88 7 ≤ 60)
    (hw : ∀ K' : q_R → q_S → Prop, (∀ σ', (∀ k i, k ≠ 14 → k ≠ 15 → k ≠ 16 → σ' k i = (q_up (v_en σ r (σ 0 10)) 24 r (σ 0 10)) k i) → K' (some (0, w)) σ') → q_K L xs i_A_whoMends [(2, 0), (0, r), (0, σ 0 10), (0, σ 34 2), (0, σ 7 5)] (q_up (v_en σ r (σ 0 10)) 24 r (σ 0 10)) K')
    (h4 : σ 20 r < σ 40 1 → 60 ≤ σ 88 7 → K (some (0, -4)) σ)
    (h0 : σ 40 1 ≤ σ 20 r → K (some (0, 0)) (q_up (v_en σ r (σ 0 10)) 24 r (σ 0 10)))
    (h1 : σ 20 r < σ 40 1 → σ 88 7 < 60 → ∀ σ', (∀ k i, k ≠ 14 → k ≠ 15 → k ≠ 16 → σ' k i = (q_up (v_en σ r (σ 0 10)) 24 r (σ 0 10)) k i) → K (some (0, σ 40 1 - σ 20 r)) (v_be σ' r w (σ 0 10) (σ 40 1 - σ 20 r) (σ 40 2) (σ 40 1))) : q_E L xs k_A_view (9, [(2, 0), (0, r), (2, 40), (9, 0), (9, 0)], [], σ) K := by
  have e : q_w32 (σ 40 1 - σ 20 r) = σ 40 1 - σ 20 r := by rw [q_w32_id] <;> omega
  have en : v_en σ r (σ 0 10) 0 10 = σ 0 10 := en_0 (by decide) (by decide)
  have a0 : (q_up (v_en σ r (σ 0 10)) 24 r (σ 0 10)) 0 10 = σ 0 10 := (q_un (by decide)).trans en
  have a34 : (q_up (v_en σ r (σ 0 10)) 24 r (σ 0 10)) 34 2 = σ 34 2 := (q_un (by decide)).trans (en_0 (by decide) (by decide))
  have a7 : (q_up (v_en σ r (σ 0 10)) 24 r (σ 0 10)) 7 5 = σ 7 5 := (q_un (by decide)).trans (en_0 (by decide) (by decide))
  refine q_go1 200 9 [20] (fun cl ev hcl hev => ?_)
  refine And.intro (by omega) ?_
  refine hev _ ?_
  rw [e]
  by_cases g : σ 40 1 ≤ σ 20 r
  · rw [show max 0 (σ 40 1 - σ 20 r) = 0 by omega]
    refine q_go1 200 20 [35] (fun cl ev hcl hev => ?_)
    refine And.intro (fun _ => ?_) (fun z => absurd (show (0 : Int) ≤ 0 by decide) z)
    show cl _ _ _ _
    refine hcl _ _ _ _ (x_fend hr ho ?_)
    refine hev _ ?_
    refine q_go1 200 35 [42] (fun cl ev hcl hev => ?_)
    refine And.intro (by omega) ?_
    refine hev _ ?_
    rw [en]
    refine q_go1 200 42 [] (fun cl ev hcl hev => ?_)
    exact And.intro (fun _ => h0 g) (fun z => absurd (show (0 : Int) ≤ 0 by decide) z)
  · rw [show max 0 (σ 40 1 - σ 20 r) = σ 40 1 - σ 20 r by omega]
    refine q_go1 200 20 [35] (fun cl ev hcl hev => ?_)
    refine And.intro (fun z => by exfalso; omega) (fun _ => ?_)
    refine And.intro (fun g2 => ?_) (fun g2 => h4 (by omega) (by omega))
    show cl _ _ _ _
    refine hcl _ _ _ _ (x_fend hr ho ?_)
    refine hev _ ?_
    refine q_go1 200 35 [42] (fun cl ev hcl hev => ?_)
    refine And.intro (by omega) ?_
    refine hev _ ?_
    rw [en]
    refine q_go1 200 42 [] (fun cl ev hcl hev => ?_)
    refine And.intro (fun z => by exfalso; omega) (fun _ => ?_)
    show cl _ _ _ _
    rw [a0, a34, a7]
    refine hcl _ _ _ _ (hw _ (fun σ' f => ?_))
    have f0 : σ' 0 10 = σ 0 10 := (f 0 10 (by decide) (by decide) (by decide)).trans a0
    have f1 : σ' 40 1 = σ 40 1 := (f 40 1 (by decide) (by decide) (by decide)).trans ((q_un (by decide)).trans (en_0 (by decide) (by decide)))
    have f2 : σ' 40 2 = σ 40 2 := (f 40 2 (by decide) (by decide) (by decide)).trans ((q_un (by decide)).trans (en_0 (by decide) (by decide)))
    have f7 : σ' 88 7 = σ 88 7 := (f 88 7 (by decide) (by decide) (by decide)).trans ((q_un (by decide)).trans (en_0 (by decide) (by decide)))
    show cl _ _ _ _
    rw [f0]
    refine hcl _ _ _ _ (x_be40 hr (by omega) ?_)
    rw [f1, f2]
    exact h1 (by omega) (by omega) σ' f
theorem xv_44 {r w : Int} {σ : q_S} {K : q_R → q_S → Prop} (hr : 0 ≤ r ∧ r < 24) (ho : -1 ≤ σ 95 r ∧ σ 95 r < 60) (h20 : 0 ≤ σ 20 r ∧ σ 20 r ≤ 99) (hq1 : -1 ≤ σ 44 1 ∧ σ 44 1 ≤ 99) (hsz : 0 ≤ σ 88 7 ∧ σ 88 7 ≤ 60)
    (hw : ∀ K' : q_R → q_S → Prop, (∀ σ', (∀ k i, k ≠ 14 → k ≠ 15 → k ≠ 16 → σ' k i = (q_up (v_en σ r (σ 0 10)) 24 r (σ 0 10)) k i) → K' (some (0, w)) σ') → q_K L xs i_A_whoMends [(2, 0), (0, r), (0, σ 0 10), (0, σ 34 2), (0, σ 7 5)] (q_up (v_en σ r (σ 0 10)) 24 r (σ 0 10)) K')
    (h4 : σ 20 r < σ 44 1 → 60 ≤ σ 88 7 → K (some (0, -4)) σ)
    (h0 : σ 44 1 ≤ σ 20 r → K (some (0, 0)) (q_up (v_en σ r (σ 0 10)) 24 r (σ 0 10)))
    (h1 : σ 20 r < σ 44 1 → σ 88 7 < 60 → ∀ σ', (∀ k i, k ≠ 14 → k ≠ 15 → k ≠ 16 → σ' k i = (q_up (v_en σ r (σ 0 10)) 24 r (σ 0 10)) k i) → K (some (0, σ 44 1 - σ 20 r)) (v_be σ' r w (σ 0 10) (σ 44 1 - σ 20 r) (σ 44 2) (σ 44 1))) : q_E L xs k_A_view (9, [(2, 0), (0, r), (2, 44), (9, 0), (9, 0)], [], σ) K := by
  have e : q_w32 (σ 44 1 - σ 20 r) = σ 44 1 - σ 20 r := by rw [q_w32_id] <;> omega
  have en : v_en σ r (σ 0 10) 0 10 = σ 0 10 := en_0 (by decide) (by decide)
  have a0 : (q_up (v_en σ r (σ 0 10)) 24 r (σ 0 10)) 0 10 = σ 0 10 := (q_un (by decide)).trans en
  have a34 : (q_up (v_en σ r (σ 0 10)) 24 r (σ 0 10)) 34 2 = σ 34 2 := (q_un (by decide)).trans (en_0 (by decide) (by decide))
  have a7 : (q_up (v_en σ r (σ 0 10)) 24 r (σ 0 10)) 7 5 = σ 7 5 := (q_un (by decide)).trans (en_0 (by decide) (by decide))
  refine q_go1 200 9 [20] (fun cl ev hcl hev => ?_)
  refine And.intro (by omega) ?_
  refine hev _ ?_
  rw [e]
  by_cases g : σ 44 1 ≤ σ 20 r
  · rw [show max 0 (σ 44 1 - σ 20 r) = 0 by omega]
    refine q_go1 200 20 [35] (fun cl ev hcl hev => ?_)
    refine And.intro (fun _ => ?_) (fun z => absurd (show (0 : Int) ≤ 0 by decide) z)
    show cl _ _ _ _
    refine hcl _ _ _ _ (x_fend hr ho ?_)
    refine hev _ ?_
    refine q_go1 200 35 [42] (fun cl ev hcl hev => ?_)
    refine And.intro (by omega) ?_
    refine hev _ ?_
    rw [en]
    refine q_go1 200 42 [] (fun cl ev hcl hev => ?_)
    exact And.intro (fun _ => h0 g) (fun z => absurd (show (0 : Int) ≤ 0 by decide) z)
  · rw [show max 0 (σ 44 1 - σ 20 r) = σ 44 1 - σ 20 r by omega]
    refine q_go1 200 20 [35] (fun cl ev hcl hev => ?_)
    refine And.intro (fun z => by exfalso; omega) (fun _ => ?_)
    refine And.intro (fun g2 => ?_) (fun g2 => h4 (by omega) (by omega))
    show cl _ _ _ _
    refine hcl _ _ _ _ (x_fend hr ho ?_)
    refine hev _ ?_
    refine q_go1 200 35 [42] (fun cl ev hcl hev => ?_)
    refine And.intro (by omega) ?_
    refine hev _ ?_
    rw [en]
    refine q_go1 200 42 [] (fun cl ev hcl hev => ?_)
    refine And.intro (fun z => by exfalso; omega) (fun _ => ?_)
    show cl _ _ _ _
    rw [a0, a34, a7]
    refine hcl _ _ _ _ (hw _ (fun σ' f => ?_))
    have f0 : σ' 0 10 = σ 0 10 := (f 0 10 (by decide) (by decide) (by decide)).trans a0
    have f1 : σ' 44 1 = σ 44 1 := (f 44 1 (by decide) (by decide) (by decide)).trans ((q_un (by decide)).trans (en_0 (by decide) (by decide)))
    have f2 : σ' 44 2 = σ 44 2 := (f 44 2 (by decide) (by decide) (by decide)).trans ((q_un (by decide)).trans (en_0 (by decide) (by decide)))
    have f7 : σ' 88 7 = σ 88 7 := (f 88 7 (by decide) (by decide) (by decide)).trans ((q_un (by decide)).trans (en_0 (by decide) (by decide)))
    show cl _ _ _ _
    rw [f0]
    refine hcl _ _ _ _ (x_be44 hr (by omega) ?_)
    rw [f1, f2]
    exact h1 (by omega) (by omega) σ' f
theorem xv_48 {r w : Int} {σ : q_S} {K : q_R → q_S → Prop} (hr : 0 ≤ r ∧ r < 24) (ho : -1 ≤ σ 95 r ∧ σ 95 r < 60) (h20 : 0 ≤ σ 20 r ∧ σ 20 r ≤ 99) (hq1 : -1 ≤ σ 48 1 ∧ σ 48 1 ≤ 99) (hsz : 0 ≤ σ 88 7 ∧ σ 88 7 ≤ 60)
    (hw : ∀ K' : q_R → q_S → Prop, (∀ σ', (∀ k i, k ≠ 14 → k ≠ 15 → k ≠ 16 → σ' k i = (q_up (v_en σ r (σ 0 10)) 24 r (σ 0 10)) k i) → K' (some (0, w)) σ') → q_K L xs i_A_whoMends [(2, 0), (0, r), (0, σ 0 10), (0, σ 34 2), (0, σ 7 5)] (q_up (v_en σ r (σ 0 10)) 24 r (σ 0 10)) K')
    (h4 : σ 20 r < σ 48 1 → 60 ≤ σ 88 7 → K (some (0, -4)) σ)
    (h0 : σ 48 1 ≤ σ 20 r → K (some (0, 0)) (q_up (v_en σ r (σ 0 10)) 24 r (σ 0 10)))
    (h1 : σ 20 r < σ 48 1 → σ 88 7 < 60 → ∀ σ', (∀ k i, k ≠ 14 → k ≠ 15 → k ≠ 16 → σ' k i = (q_up (v_en σ r (σ 0 10)) 24 r (σ 0 10)) k i) → K (some (0, σ 48 1 - σ 20 r)) (v_be σ' r w (σ 0 10) (σ 48 1 - σ 20 r) (σ 48 2) (σ 48 1))) : q_E L xs k_A_view (9, [(2, 0), (0, r), (2, 48), (9, 0), (9, 0)], [], σ) K := by
  have e : q_w32 (σ 48 1 - σ 20 r) = σ 48 1 - σ 20 r := by rw [q_w32_id] <;> omega
  have en : v_en σ r (σ 0 10) 0 10 = σ 0 10 := en_0 (by decide) (by decide)
  have a0 : (q_up (v_en σ r (σ 0 10)) 24 r (σ 0 10)) 0 10 = σ 0 10 := (q_un (by decide)).trans en
  have a34 : (q_up (v_en σ r (σ 0 10)) 24 r (σ 0 10)) 34 2 = σ 34 2 := (q_un (by decide)).trans (en_0 (by decide) (by decide))
  have a7 : (q_up (v_en σ r (σ 0 10)) 24 r (σ 0 10)) 7 5 = σ 7 5 := (q_un (by decide)).trans (en_0 (by decide) (by decide))
  refine q_go1 200 9 [20] (fun cl ev hcl hev => ?_)
  refine And.intro (by omega) ?_
  refine hev _ ?_
  rw [e]
  by_cases g : σ 48 1 ≤ σ 20 r
  · rw [show max 0 (σ 48 1 - σ 20 r) = 0 by omega]
    refine q_go1 200 20 [35] (fun cl ev hcl hev => ?_)
    refine And.intro (fun _ => ?_) (fun z => absurd (show (0 : Int) ≤ 0 by decide) z)
    show cl _ _ _ _
    refine hcl _ _ _ _ (x_fend hr ho ?_)
    refine hev _ ?_
    refine q_go1 200 35 [42] (fun cl ev hcl hev => ?_)
    refine And.intro (by omega) ?_
    refine hev _ ?_
    rw [en]
    refine q_go1 200 42 [] (fun cl ev hcl hev => ?_)
    exact And.intro (fun _ => h0 g) (fun z => absurd (show (0 : Int) ≤ 0 by decide) z)
  · rw [show max 0 (σ 48 1 - σ 20 r) = σ 48 1 - σ 20 r by omega]
    refine q_go1 200 20 [35] (fun cl ev hcl hev => ?_)
    refine And.intro (fun z => by exfalso; omega) (fun _ => ?_)
    refine And.intro (fun g2 => ?_) (fun g2 => h4 (by omega) (by omega))
    show cl _ _ _ _
    refine hcl _ _ _ _ (x_fend hr ho ?_)
    refine hev _ ?_
    refine q_go1 200 35 [42] (fun cl ev hcl hev => ?_)
    refine And.intro (by omega) ?_
    refine hev _ ?_
    rw [en]
    refine q_go1 200 42 [] (fun cl ev hcl hev => ?_)
    refine And.intro (fun z => by exfalso; omega) (fun _ => ?_)
    show cl _ _ _ _
    rw [a0, a34, a7]
    refine hcl _ _ _ _ (hw _ (fun σ' f => ?_))
    have f0 : σ' 0 10 = σ 0 10 := (f 0 10 (by decide) (by decide) (by decide)).trans a0
    have f1 : σ' 48 1 = σ 48 1 := (f 48 1 (by decide) (by decide) (by decide)).trans ((q_un (by decide)).trans (en_0 (by decide) (by decide)))
    have f2 : σ' 48 2 = σ 48 2 := (f 48 2 (by decide) (by decide) (by decide)).trans ((q_un (by decide)).trans (en_0 (by decide) (by decide)))
    have f7 : σ' 88 7 = σ 88 7 := (f 88 7 (by decide) (by decide) (by decide)).trans ((q_un (by decide)).trans (en_0 (by decide) (by decide)))
    show cl _ _ _ _
    rw [f0]
    refine hcl _ _ _ _ (x_be48 hr (by omega) ?_)
    rw [f1, f2]
    exact h1 (by omega) (by omega) σ' f
theorem xv_52 {r w : Int} {σ : q_S} {K : q_R → q_S → Prop} (hr : 0 ≤ r ∧ r < 24) (ho : -1 ≤ σ 95 r ∧ σ 95 r < 60) (h20 : 0 ≤ σ 20 r ∧ σ 20 r ≤ 99) (hq1 : -1 ≤ σ 52 1 ∧ σ 52 1 ≤ 99) (hsz : 0 ≤ σ 88 7 ∧ σ 88 7 ≤ 60)
    (hw : ∀ K' : q_R → q_S → Prop, (∀ σ', (∀ k i, k ≠ 14 → k ≠ 15 → k ≠ 16 → σ' k i = (q_up (v_en σ r (σ 0 10)) 24 r (σ 0 10)) k i) → K' (some (0, w)) σ') → q_K L xs i_A_whoMends [(2, 0), (0, r), (0, σ 0 10), (0, σ 34 2), (0, σ 7 5)] (q_up (v_en σ r (σ 0 10)) 24 r (σ 0 10)) K')
    (h4 : σ 20 r < σ 52 1 → 60 ≤ σ 88 7 → K (some (0, -4)) σ)
    (h0 : σ 52 1 ≤ σ 20 r → K (some (0, 0)) (q_up (v_en σ r (σ 0 10)) 24 r (σ 0 10)))
    (h1 : σ 20 r < σ 52 1 → σ 88 7 < 60 → ∀ σ', (∀ k i, k ≠ 14 → k ≠ 15 → k ≠ 16 → σ' k i = (q_up (v_en σ r (σ 0 10)) 24 r (σ 0 10)) k i) → K (some (0, σ 52 1 - σ 20 r)) (v_be σ' r w (σ 0 10) (σ 52 1 - σ 20 r) (σ 52 2) (σ 52 1))) : q_E L xs k_A_view (9, [(2, 0), (0, r), (2, 52), (9, 0), (9, 0)], [], σ) K := by
  have e : q_w32 (σ 52 1 - σ 20 r) = σ 52 1 - σ 20 r := by rw [q_w32_id] <;> omega
  have en : v_en σ r (σ 0 10) 0 10 = σ 0 10 := en_0 (by decide) (by decide)
  have a0 : (q_up (v_en σ r (σ 0 10)) 24 r (σ 0 10)) 0 10 = σ 0 10 := (q_un (by decide)).trans en
  have a34 : (q_up (v_en σ r (σ 0 10)) 24 r (σ 0 10)) 34 2 = σ 34 2 := (q_un (by decide)).trans (en_0 (by decide) (by decide))
  have a7 : (q_up (v_en σ r (σ 0 10)) 24 r (σ 0 10)) 7 5 = σ 7 5 := (q_un (by decide)).trans (en_0 (by decide) (by decide))
  refine q_go1 200 9 [20] (fun cl ev hcl hev => ?_)
  refine And.intro (by omega) ?_
  refine hev _ ?_
  rw [e]
  by_cases g : σ 52 1 ≤ σ 20 r
  · rw [show max 0 (σ 52 1 - σ 20 r) = 0 by omega]
    refine q_go1 200 20 [35] (fun cl ev hcl hev => ?_)
    refine And.intro (fun _ => ?_) (fun z => absurd (show (0 : Int) ≤ 0 by decide) z)
    show cl _ _ _ _
    refine hcl _ _ _ _ (x_fend hr ho ?_)
    refine hev _ ?_
    refine q_go1 200 35 [42] (fun cl ev hcl hev => ?_)
    refine And.intro (by omega) ?_
    refine hev _ ?_
    rw [en]
    refine q_go1 200 42 [] (fun cl ev hcl hev => ?_)
    exact And.intro (fun _ => h0 g) (fun z => absurd (show (0 : Int) ≤ 0 by decide) z)
  · rw [show max 0 (σ 52 1 - σ 20 r) = σ 52 1 - σ 20 r by omega]
    refine q_go1 200 20 [35] (fun cl ev hcl hev => ?_)
    refine And.intro (fun z => by exfalso; omega) (fun _ => ?_)
    refine And.intro (fun g2 => ?_) (fun g2 => h4 (by omega) (by omega))
    show cl _ _ _ _
    refine hcl _ _ _ _ (x_fend hr ho ?_)
    refine hev _ ?_
    refine q_go1 200 35 [42] (fun cl ev hcl hev => ?_)
    refine And.intro (by omega) ?_
    refine hev _ ?_
    rw [en]
    refine q_go1 200 42 [] (fun cl ev hcl hev => ?_)
    refine And.intro (fun z => by exfalso; omega) (fun _ => ?_)
    show cl _ _ _ _
    rw [a0, a34, a7]
    refine hcl _ _ _ _ (hw _ (fun σ' f => ?_))
    have f0 : σ' 0 10 = σ 0 10 := (f 0 10 (by decide) (by decide) (by decide)).trans a0
    have f1 : σ' 52 1 = σ 52 1 := (f 52 1 (by decide) (by decide) (by decide)).trans ((q_un (by decide)).trans (en_0 (by decide) (by decide)))
    have f2 : σ' 52 2 = σ 52 2 := (f 52 2 (by decide) (by decide) (by decide)).trans ((q_un (by decide)).trans (en_0 (by decide) (by decide)))
    have f7 : σ' 88 7 = σ 88 7 := (f 88 7 (by decide) (by decide) (by decide)).trans ((q_un (by decide)).trans (en_0 (by decide) (by decide)))
    show cl _ _ _ _
    rw [f0]
    refine hcl _ _ _ _ (x_be52 hr (by omega) ?_)
    rw [f1, f2]
    exact h1 (by omega) (by omega) σ' f
theorem xv_56 {r w : Int} {σ : q_S} {K : q_R → q_S → Prop} (hr : 0 ≤ r ∧ r < 24) (ho : -1 ≤ σ 95 r ∧ σ 95 r < 60) (h20 : 0 ≤ σ 20 r ∧ σ 20 r ≤ 99) (hq1 : -1 ≤ σ 56 1 ∧ σ 56 1 ≤ 99) (hsz : 0 ≤ σ 88 7 ∧ σ 88 7 ≤ 60)
    (hw : ∀ K' : q_R → q_S → Prop, (∀ σ', (∀ k i, k ≠ 14 → k ≠ 15 → k ≠ 16 → σ' k i = (q_up (v_en σ r (σ 0 10)) 24 r (σ 0 10)) k i) → K' (some (0, w)) σ') → q_K L xs i_A_whoMends [(2, 0), (0, r), (0, σ 0 10), (0, σ 34 2), (0, σ 7 5)] (q_up (v_en σ r (σ 0 10)) 24 r (σ 0 10)) K')
    (h4 : σ 20 r < σ 56 1 → 60 ≤ σ 88 7 → K (some (0, -4)) σ)
    (h0 : σ 56 1 ≤ σ 20 r → K (some (0, 0)) (q_up (v_en σ r (σ 0 10)) 24 r (σ 0 10)))
    (h1 : σ 20 r < σ 56 1 → σ 88 7 < 60 → ∀ σ', (∀ k i, k ≠ 14 → k ≠ 15 → k ≠ 16 → σ' k i = (q_up (v_en σ r (σ 0 10)) 24 r (σ 0 10)) k i) → K (some (0, σ 56 1 - σ 20 r)) (v_be σ' r w (σ 0 10) (σ 56 1 - σ 20 r) (σ 56 2) (σ 56 1))) : q_E L xs k_A_view (9, [(2, 0), (0, r), (2, 56), (9, 0), (9, 0)], [], σ) K := by
  have e : q_w32 (σ 56 1 - σ 20 r) = σ 56 1 - σ 20 r := by rw [q_w32_id] <;> omega
  have en : v_en σ r (σ 0 10) 0 10 = σ 0 10 := en_0 (by decide) (by decide)
  have a0 : (q_up (v_en σ r (σ 0 10)) 24 r (σ 0 10)) 0 10 = σ 0 10 := (q_un (by decide)).trans en
  have a34 : (q_up (v_en σ r (σ 0 10)) 24 r (σ 0 10)) 34 2 = σ 34 2 := (q_un (by decide)).trans (en_0 (by decide) (by decide))
  have a7 : (q_up (v_en σ r (σ 0 10)) 24 r (σ 0 10)) 7 5 = σ 7 5 := (q_un (by decide)).trans (en_0 (by decide) (by decide))
  refine q_go1 200 9 [20] (fun cl ev hcl hev => ?_)
  refine And.intro (by omega) ?_
  refine hev _ ?_
  rw [e]
  by_cases g : σ 56 1 ≤ σ 20 r
  · rw [show max 0 (σ 56 1 - σ 20 r) = 0 by omega]
    refine q_go1 200 20 [35] (fun cl ev hcl hev => ?_)
    refine And.intro (fun _ => ?_) (fun z => absurd (show (0 : Int) ≤ 0 by decide) z)
    show cl _ _ _ _
    refine hcl _ _ _ _ (x_fend hr ho ?_)
    refine hev _ ?_
    refine q_go1 200 35 [42] (fun cl ev hcl hev => ?_)
    refine And.intro (by omega) ?_
    refine hev _ ?_
    rw [en]
    refine q_go1 200 42 [] (fun cl ev hcl hev => ?_)
    exact And.intro (fun _ => h0 g) (fun z => absurd (show (0 : Int) ≤ 0 by decide) z)
  · rw [show max 0 (σ 56 1 - σ 20 r) = σ 56 1 - σ 20 r by omega]
    refine q_go1 200 20 [35] (fun cl ev hcl hev => ?_)
    refine And.intro (fun z => by exfalso; omega) (fun _ => ?_)
    refine And.intro (fun g2 => ?_) (fun g2 => h4 (by omega) (by omega))
    show cl _ _ _ _
    refine hcl _ _ _ _ (x_fend hr ho ?_)
    refine hev _ ?_
    refine q_go1 200 35 [42] (fun cl ev hcl hev => ?_)
    refine And.intro (by omega) ?_
    refine hev _ ?_
    rw [en]
    refine q_go1 200 42 [] (fun cl ev hcl hev => ?_)
    refine And.intro (fun z => by exfalso; omega) (fun _ => ?_)
    show cl _ _ _ _
    rw [a0, a34, a7]
    refine hcl _ _ _ _ (hw _ (fun σ' f => ?_))
    have f0 : σ' 0 10 = σ 0 10 := (f 0 10 (by decide) (by decide) (by decide)).trans a0
    have f1 : σ' 56 1 = σ 56 1 := (f 56 1 (by decide) (by decide) (by decide)).trans ((q_un (by decide)).trans (en_0 (by decide) (by decide)))
    have f2 : σ' 56 2 = σ 56 2 := (f 56 2 (by decide) (by decide) (by decide)).trans ((q_un (by decide)).trans (en_0 (by decide) (by decide)))
    have f7 : σ' 88 7 = σ 88 7 := (f 88 7 (by decide) (by decide) (by decide)).trans ((q_un (by decide)).trans (en_0 (by decide) (by decide)))
    show cl _ _ _ _
    rw [f0]
    refine hcl _ _ _ _ (x_be56 hr (by omega) ?_)
    rw [f1, f2]
    exact h1 (by omega) (by omega) σ' f
theorem xv_60 {r w : Int} {σ : q_S} {K : q_R → q_S → Prop} (hr : 0 ≤ r ∧ r < 24) (ho : -1 ≤ σ 95 r ∧ σ 95 r < 60) (h20 : 0 ≤ σ 20 r ∧ σ 20 r ≤ 99) (hq1 : -1 ≤ σ 60 1 ∧ σ 60 1 ≤ 99) (hsz : 0 ≤ σ 88 7 ∧ σ 88 7 ≤ 60)
    (hw : ∀ K' : q_R → q_S → Prop, (∀ σ', (∀ k i, k ≠ 14 → k ≠ 15 → k ≠ 16 → σ' k i = (q_up (v_en σ r (σ 0 10)) 24 r (σ 0 10)) k i) → K' (some (0, w)) σ') → q_K L xs i_A_whoMends [(2, 0), (0, r), (0, σ 0 10), (0, σ 34 2), (0, σ 7 5)] (q_up (v_en σ r (σ 0 10)) 24 r (σ 0 10)) K')
    (h4 : σ 20 r < σ 60 1 → 60 ≤ σ 88 7 → K (some (0, -4)) σ)
    (h0 : σ 60 1 ≤ σ 20 r → K (some (0, 0)) (q_up (v_en σ r (σ 0 10)) 24 r (σ 0 10)))
    (h1 : σ 20 r < σ 60 1 → σ 88 7 < 60 → ∀ σ', (∀ k i, k ≠ 14 → k ≠ 15 → k ≠ 16 → σ' k i = (q_up (v_en σ r (σ 0 10)) 24 r (σ 0 10)) k i) → K (some (0, σ 60 1 - σ 20 r)) (v_be σ' r w (σ 0 10) (σ 60 1 - σ 20 r) (σ 60 2) (σ 60 1))) : q_E L xs k_A_view (9, [(2, 0), (0, r), (2, 60), (9, 0), (9, 0)], [], σ) K := by
  have e : q_w32 (σ 60 1 - σ 20 r) = σ 60 1 - σ 20 r := by rw [q_w32_id] <;> omega
  have en : v_en σ r (σ 0 10) 0 10 = σ 0 10 := en_0 (by decide) (by decide)
  have a0 : (q_up (v_en σ r (σ 0 10)) 24 r (σ 0 10)) 0 10 = σ 0 10 := (q_un (by decide)).trans en
  have a34 : (q_up (v_en σ r (σ 0 10)) 24 r (σ 0 10)) 34 2 = σ 34 2 := (q_un (by decide)).trans (en_0 (by decide) (by decide))
  have a7 : (q_up (v_en σ r (σ 0 10)) 24 r (σ 0 10)) 7 5 = σ 7 5 := (q_un (by decide)).trans (en_0 (by decide) (by decide))
  refine q_go1 200 9 [20] (fun cl ev hcl hev => ?_)
  refine And.intro (by omega) ?_
  refine hev _ ?_
  rw [e]
  by_cases g : σ 60 1 ≤ σ 20 r
  · rw [show max 0 (σ 60 1 - σ 20 r) = 0 by omega]
    refine q_go1 200 20 [35] (fun cl ev hcl hev => ?_)
    refine And.intro (fun _ => ?_) (fun z => absurd (show (0 : Int) ≤ 0 by decide) z)
    show cl _ _ _ _
    refine hcl _ _ _ _ (x_fend hr ho ?_)
    refine hev _ ?_
    refine q_go1 200 35 [42] (fun cl ev hcl hev => ?_)
    refine And.intro (by omega) ?_
    refine hev _ ?_
    rw [en]
    refine q_go1 200 42 [] (fun cl ev hcl hev => ?_)
    exact And.intro (fun _ => h0 g) (fun z => absurd (show (0 : Int) ≤ 0 by decide) z)
  · rw [show max 0 (σ 60 1 - σ 20 r) = σ 60 1 - σ 20 r by omega]
    refine q_go1 200 20 [35] (fun cl ev hcl hev => ?_)
    refine And.intro (fun z => by exfalso; omega) (fun _ => ?_)
    refine And.intro (fun g2 => ?_) (fun g2 => h4 (by omega) (by omega))
    show cl _ _ _ _
    refine hcl _ _ _ _ (x_fend hr ho ?_)
    refine hev _ ?_
    refine q_go1 200 35 [42] (fun cl ev hcl hev => ?_)
    refine And.intro (by omega) ?_
    refine hev _ ?_
    rw [en]
    refine q_go1 200 42 [] (fun cl ev hcl hev => ?_)
    refine And.intro (fun z => by exfalso; omega) (fun _ => ?_)
    show cl _ _ _ _
    rw [a0, a34, a7]
    refine hcl _ _ _ _ (hw _ (fun σ' f => ?_))
    have f0 : σ' 0 10 = σ 0 10 := (f 0 10 (by decide) (by decide) (by decide)).trans a0
    have f1 : σ' 60 1 = σ 60 1 := (f 60 1 (by decide) (by decide) (by decide)).trans ((q_un (by decide)).trans (en_0 (by decide) (by decide)))
    have f2 : σ' 60 2 = σ 60 2 := (f 60 2 (by decide) (by decide) (by decide)).trans ((q_un (by decide)).trans (en_0 (by decide) (by decide)))
    have f7 : σ' 88 7 = σ 88 7 := (f 88 7 (by decide) (by decide) (by decide)).trans ((q_un (by decide)).trans (en_0 (by decide) (by decide)))
    show cl _ _ _ _
    rw [f0]
    refine hcl _ _ _ _ (x_be60 hr (by omega) ?_)
    rw [f1, f2]
    exact h1 (by omega) (by omega) σ' f
theorem xv_64 {r w : Int} {σ : q_S} {K : q_R → q_S → Prop} (hr : 0 ≤ r ∧ r < 24) (ho : -1 ≤ σ 95 r ∧ σ 95 r < 60) (h20 : 0 ≤ σ 20 r ∧ σ 20 r ≤ 99) (hq1 : -1 ≤ σ 64 1 ∧ σ 64 1 ≤ 99) (hsz : 0 ≤ σ 88 7 ∧ σ 88 7 ≤ 60)
    (hw : ∀ K' : q_R → q_S → Prop, (∀ σ', (∀ k i, k ≠ 14 → k ≠ 15 → k ≠ 16 → σ' k i = (q_up (v_en σ r (σ 0 10)) 24 r (σ 0 10)) k i) → K' (some (0, w)) σ') → q_K L xs i_A_whoMends [(2, 0), (0, r), (0, σ 0 10), (0, σ 34 2), (0, σ 7 5)] (q_up (v_en σ r (σ 0 10)) 24 r (σ 0 10)) K')
    (h4 : σ 20 r < σ 64 1 → 60 ≤ σ 88 7 → K (some (0, -4)) σ)
    (h0 : σ 64 1 ≤ σ 20 r → K (some (0, 0)) (q_up (v_en σ r (σ 0 10)) 24 r (σ 0 10)))
    (h1 : σ 20 r < σ 64 1 → σ 88 7 < 60 → ∀ σ', (∀ k i, k ≠ 14 → k ≠ 15 → k ≠ 16 → σ' k i = (q_up (v_en σ r (σ 0 10)) 24 r (σ 0 10)) k i) → K (some (0, σ 64 1 - σ 20 r)) (v_be σ' r w (σ 0 10) (σ 64 1 - σ 20 r) (σ 64 2) (σ 64 1))) : q_E L xs k_A_view (9, [(2, 0), (0, r), (2, 64), (9, 0), (9, 0)], [], σ) K := by
  have e : q_w32 (σ 64 1 - σ 20 r) = σ 64 1 - σ 20 r := by rw [q_w32_id] <;> omega
  have en : v_en σ r (σ 0 10) 0 10 = σ 0 10 := en_0 (by decide) (by decide)
  have a0 : (q_up (v_en σ r (σ 0 10)) 24 r (σ 0 10)) 0 10 = σ 0 10 := (q_un (by decide)).trans en
  have a34 : (q_up (v_en σ r (σ 0 10)) 24 r (σ 0 10)) 34 2 = σ 34 2 := (q_un (by decide)).trans (en_0 (by decide) (by decide))
  have a7 : (q_up (v_en σ r (σ 0 10)) 24 r (σ 0 10)) 7 5 = σ 7 5 := (q_un (by decide)).trans (en_0 (by decide) (by decide))
  refine q_go1 200 9 [20] (fun cl ev hcl hev => ?_)
  refine And.intro (by omega) ?_
  refine hev _ ?_
  rw [e]
  by_cases g : σ 64 1 ≤ σ 20 r
  · rw [show max 0 (σ 64 1 - σ 20 r) = 0 by omega]
    refine q_go1 200 20 [35] (fun cl ev hcl hev => ?_)
    refine And.intro (fun _ => ?_) (fun z => absurd (show (0 : Int) ≤ 0 by decide) z)
    show cl _ _ _ _
    refine hcl _ _ _ _ (x_fend hr ho ?_)
    refine hev _ ?_
    refine q_go1 200 35 [42] (fun cl ev hcl hev => ?_)
    refine And.intro (by omega) ?_
    refine hev _ ?_
    rw [en]
    refine q_go1 200 42 [] (fun cl ev hcl hev => ?_)
    exact And.intro (fun _ => h0 g) (fun z => absurd (show (0 : Int) ≤ 0 by decide) z)
  · rw [show max 0 (σ 64 1 - σ 20 r) = σ 64 1 - σ 20 r by omega]
    refine q_go1 200 20 [35] (fun cl ev hcl hev => ?_)
    refine And.intro (fun z => by exfalso; omega) (fun _ => ?_)
    refine And.intro (fun g2 => ?_) (fun g2 => h4 (by omega) (by omega))
    show cl _ _ _ _
    refine hcl _ _ _ _ (x_fend hr ho ?_)
    refine hev _ ?_
    refine q_go1 200 35 [42] (fun cl ev hcl hev => ?_)
    refine And.intro (by omega) ?_
    refine hev _ ?_
    rw [en]
    refine q_go1 200 42 [] (fun cl ev hcl hev => ?_)
    refine And.intro (fun z => by exfalso; omega) (fun _ => ?_)
    show cl _ _ _ _
    rw [a0, a34, a7]
    refine hcl _ _ _ _ (hw _ (fun σ' f => ?_))
    have f0 : σ' 0 10 = σ 0 10 := (f 0 10 (by decide) (by decide) (by decide)).trans a0
    have f1 : σ' 64 1 = σ 64 1 := (f 64 1 (by decide) (by decide) (by decide)).trans ((q_un (by decide)).trans (en_0 (by decide) (by decide)))
    have f2 : σ' 64 2 = σ 64 2 := (f 64 2 (by decide) (by decide) (by decide)).trans ((q_un (by decide)).trans (en_0 (by decide) (by decide)))
    have f7 : σ' 88 7 = σ 88 7 := (f 88 7 (by decide) (by decide) (by decide)).trans ((q_un (by decide)).trans (en_0 (by decide) (by decide)))
    show cl _ _ _ _
    rw [f0]
    refine hcl _ _ _ _ (x_be64 hr (by omega) ?_)
    rw [f1, f2]
    exact h1 (by omega) (by omega) σ' f
theorem xv_68 {r w : Int} {σ : q_S} {K : q_R → q_S → Prop} (hr : 0 ≤ r ∧ r < 24) (ho : -1 ≤ σ 95 r ∧ σ 95 r < 60) (h20 : 0 ≤ σ 20 r ∧ σ 20 r ≤ 99) (hq1 : -1 ≤ σ 68 1 ∧ σ 68 1 ≤ 99) (hsz : 0 ≤ σ 88 7 ∧ σ 88 7 ≤ 60)
    (hw : ∀ K' : q_R → q_S → Prop, (∀ σ', (∀ k i, k ≠ 14 → k ≠ 15 → k ≠ 16 → σ' k i = (q_up (v_en σ r (σ 0 10)) 24 r (σ 0 10)) k i) → K' (some (0, w)) σ') → q_K L xs i_A_whoMends [(2, 0), (0, r), (0, σ 0 10), (0, σ 34 2), (0, σ 7 5)] (q_up (v_en σ r (σ 0 10)) 24 r (σ 0 10)) K')
    (h4 : σ 20 r < σ 68 1 → 60 ≤ σ 88 7 → K (some (0, -4)) σ)
    (h0 : σ 68 1 ≤ σ 20 r → K (some (0, 0)) (q_up (v_en σ r (σ 0 10)) 24 r (σ 0 10)))
    (h1 : σ 20 r < σ 68 1 → σ 88 7 < 60 → ∀ σ', (∀ k i, k ≠ 14 → k ≠ 15 → k ≠ 16 → σ' k i = (q_up (v_en σ r (σ 0 10)) 24 r (σ 0 10)) k i) → K (some (0, σ 68 1 - σ 20 r)) (v_be σ' r w (σ 0 10) (σ 68 1 - σ 20 r) (σ 68 2) (σ 68 1))) : q_E L xs k_A_view (9, [(2, 0), (0, r), (2, 68), (9, 0), (9, 0)], [], σ) K := by
  have e : q_w32 (σ 68 1 - σ 20 r) = σ 68 1 - σ 20 r := by rw [q_w32_id] <;> omega
  have en : v_en σ r (σ 0 10) 0 10 = σ 0 10 := en_0 (by decide) (by decide)
  have a0 : (q_up (v_en σ r (σ 0 10)) 24 r (σ 0 10)) 0 10 = σ 0 10 := (q_un (by decide)).trans en
  have a34 : (q_up (v_en σ r (σ 0 10)) 24 r (σ 0 10)) 34 2 = σ 34 2 := (q_un (by decide)).trans (en_0 (by decide) (by decide))
  have a7 : (q_up (v_en σ r (σ 0 10)) 24 r (σ 0 10)) 7 5 = σ 7 5 := (q_un (by decide)).trans (en_0 (by decide) (by decide))
  refine q_go1 200 9 [20] (fun cl ev hcl hev => ?_)
  refine And.intro (by omega) ?_
  refine hev _ ?_
  rw [e]
  by_cases g : σ 68 1 ≤ σ 20 r
  · rw [show max 0 (σ 68 1 - σ 20 r) = 0 by omega]
    refine q_go1 200 20 [35] (fun cl ev hcl hev => ?_)
    refine And.intro (fun _ => ?_) (fun z => absurd (show (0 : Int) ≤ 0 by decide) z)
    show cl _ _ _ _
    refine hcl _ _ _ _ (x_fend hr ho ?_)
    refine hev _ ?_
    refine q_go1 200 35 [42] (fun cl ev hcl hev => ?_)
    refine And.intro (by omega) ?_
    refine hev _ ?_
    rw [en]
    refine q_go1 200 42 [] (fun cl ev hcl hev => ?_)
    exact And.intro (fun _ => h0 g) (fun z => absurd (show (0 : Int) ≤ 0 by decide) z)
  · rw [show max 0 (σ 68 1 - σ 20 r) = σ 68 1 - σ 20 r by omega]
    refine q_go1 200 20 [35] (fun cl ev hcl hev => ?_)
    refine And.intro (fun z => by exfalso; omega) (fun _ => ?_)
    refine And.intro (fun g2 => ?_) (fun g2 => h4 (by omega) (by omega))
    show cl _ _ _ _
    refine hcl _ _ _ _ (x_fend hr ho ?_)
    refine hev _ ?_
    refine q_go1 200 35 [42] (fun cl ev hcl hev => ?_)
    refine And.intro (by omega) ?_
    refine hev _ ?_
    rw [en]
    refine q_go1 200 42 [] (fun cl ev hcl hev => ?_)
    refine And.intro (fun z => by exfalso; omega) (fun _ => ?_)
    show cl _ _ _ _
    rw [a0, a34, a7]
    refine hcl _ _ _ _ (hw _ (fun σ' f => ?_))
    have f0 : σ' 0 10 = σ 0 10 := (f 0 10 (by decide) (by decide) (by decide)).trans a0
    have f1 : σ' 68 1 = σ 68 1 := (f 68 1 (by decide) (by decide) (by decide)).trans ((q_un (by decide)).trans (en_0 (by decide) (by decide)))
    have f2 : σ' 68 2 = σ 68 2 := (f 68 2 (by decide) (by decide) (by decide)).trans ((q_un (by decide)).trans (en_0 (by decide) (by decide)))
    have f7 : σ' 88 7 = σ 88 7 := (f 88 7 (by decide) (by decide) (by decide)).trans ((q_un (by decide)).trans (en_0 (by decide) (by decide)))
    show cl _ _ _ _
    rw [f0]
    refine hcl _ _ _ _ (x_be68 hr (by omega) ?_)
    rw [f1, f2]
    exact h1 (by omega) (by omega) σ' f
theorem xv_72 {r w : Int} {σ : q_S} {K : q_R → q_S → Prop} (hr : 0 ≤ r ∧ r < 24) (ho : -1 ≤ σ 95 r ∧ σ 95 r < 60) (h20 : 0 ≤ σ 20 r ∧ σ 20 r ≤ 99) (hq1 : -1 ≤ σ 72 1 ∧ σ 72 1 ≤ 99) (hsz : 0 ≤ σ 88 7 ∧ σ 88 7 ≤ 60)
    (hw : ∀ K' : q_R → q_S → Prop, (∀ σ', (∀ k i, k ≠ 14 → k ≠ 15 → k ≠ 16 → σ' k i = (q_up (v_en σ r (σ 0 10)) 24 r (σ 0 10)) k i) → K' (some (0, w)) σ') → q_K L xs i_A_whoMends [(2, 0), (0, r), (0, σ 0 10), (0, σ 34 2), (0, σ 7 5)] (q_up (v_en σ r (σ 0 10)) 24 r (σ 0 10)) K')
    (h4 : σ 20 r < σ 72 1 → 60 ≤ σ 88 7 → K (some (0, -4)) σ)
    (h0 : σ 72 1 ≤ σ 20 r → K (some (0, 0)) (q_up (v_en σ r (σ 0 10)) 24 r (σ 0 10)))
    (h1 : σ 20 r < σ 72 1 → σ 88 7 < 60 → ∀ σ', (∀ k i, k ≠ 14 → k ≠ 15 → k ≠ 16 → σ' k i = (q_up (v_en σ r (σ 0 10)) 24 r (σ 0 10)) k i) → K (some (0, σ 72 1 - σ 20 r)) (v_be σ' r w (σ 0 10) (σ 72 1 - σ 20 r) (σ 72 2) (σ 72 1))) : q_E L xs k_A_view (9, [(2, 0), (0, r), (2, 72), (9, 0), (9, 0)], [], σ) K := by
  have e : q_w32 (σ 72 1 - σ 20 r) = σ 72 1 - σ 20 r := by rw [q_w32_id] <;> omega
  have en : v_en σ r (σ 0 10) 0 10 = σ 0 10 := en_0 (by decide) (by decide)
  have a0 : (q_up (v_en σ r (σ 0 10)) 24 r (σ 0 10)) 0 10 = σ 0 10 := (q_un (by decide)).trans en
  have a34 : (q_up (v_en σ r (σ 0 10)) 24 r (σ 0 10)) 34 2 = σ 34 2 := (q_un (by decide)).trans (en_0 (by decide) (by decide))
  have a7 : (q_up (v_en σ r (σ 0 10)) 24 r (σ 0 10)) 7 5 = σ 7 5 := (q_un (by decide)).trans (en_0 (by decide) (by decide))
  refine q_go1 200 9 [20] (fun cl ev hcl hev => ?_)
  refine And.intro (by omega) ?_
  refine hev _ ?_
  rw [e]
  by_cases g : σ 72 1 ≤ σ 20 r
  · rw [show max 0 (σ 72 1 - σ 20 r) = 0 by omega]
    refine q_go1 200 20 [35] (fun cl ev hcl hev => ?_)
    refine And.intro (fun _ => ?_) (fun z => absurd (show (0 : Int) ≤ 0 by decide) z)
    show cl _ _ _ _
    refine hcl _ _ _ _ (x_fend hr ho ?_)
    refine hev _ ?_
    refine q_go1 200 35 [42] (fun cl ev hcl hev => ?_)
    refine And.intro (by omega) ?_
    refine hev _ ?_
    rw [en]
    refine q_go1 200 42 [] (fun cl ev hcl hev => ?_)
    exact And.intro (fun _ => h0 g) (fun z => absurd (show (0 : Int) ≤ 0 by decide) z)
  · rw [show max 0 (σ 72 1 - σ 20 r) = σ 72 1 - σ 20 r by omega]
    refine q_go1 200 20 [35] (fun cl ev hcl hev => ?_)
    refine And.intro (fun z => by exfalso; omega) (fun _ => ?_)
    refine And.intro (fun g2 => ?_) (fun g2 => h4 (by omega) (by omega))
    show cl _ _ _ _
    refine hcl _ _ _ _ (x_fend hr ho ?_)
    refine hev _ ?_
    refine q_go1 200 35 [42] (fun cl ev hcl hev => ?_)
    refine And.intro (by omega) ?_
    refine hev _ ?_
    rw [en]
    refine q_go1 200 42 [] (fun cl ev hcl hev => ?_)
    refine And.intro (fun z => by exfalso; omega) (fun _ => ?_)
    show cl _ _ _ _
    rw [a0, a34, a7]
    refine hcl _ _ _ _ (hw _ (fun σ' f => ?_))
    have f0 : σ' 0 10 = σ 0 10 := (f 0 10 (by decide) (by decide) (by decide)).trans a0
    have f1 : σ' 72 1 = σ 72 1 := (f 72 1 (by decide) (by decide) (by decide)).trans ((q_un (by decide)).trans (en_0 (by decide) (by decide)))
    have f2 : σ' 72 2 = σ 72 2 := (f 72 2 (by decide) (by decide) (by decide)).trans ((q_un (by decide)).trans (en_0 (by decide) (by decide)))
    have f7 : σ' 88 7 = σ 88 7 := (f 88 7 (by decide) (by decide) (by decide)).trans ((q_un (by decide)).trans (en_0 (by decide) (by decide)))
    show cl _ _ _ _
    rw [f0]
    refine hcl _ _ _ _ (x_be72 hr (by omega) ?_)
    rw [f1, f2]
    exact h1 (by omega) (by omega) σ' f
theorem xv_76 {r w : Int} {σ : q_S} {K : q_R → q_S → Prop} (hr : 0 ≤ r ∧ r < 24) (ho : -1 ≤ σ 95 r ∧ σ 95 r < 60) (h20 : 0 ≤ σ 20 r ∧ σ 20 r ≤ 99) (hq1 : -1 ≤ σ 76 1 ∧ σ 76 1 ≤ 99) (hsz : 0 ≤ σ 88 7 ∧ σ 88 7 ≤ 60)
    (hw : ∀ K' : q_R → q_S → Prop, (∀ σ', (∀ k i, k ≠ 14 → k ≠ 15 → k ≠ 16 → σ' k i = (q_up (v_en σ r (σ 0 10)) 24 r (σ 0 10)) k i) → K' (some (0, w)) σ') → q_K L xs i_A_whoMends [(2, 0), (0, r), (0, σ 0 10), (0, σ 34 2), (0, σ 7 5)] (q_up (v_en σ r (σ 0 10)) 24 r (σ 0 10)) K')
    (h4 : σ 20 r < σ 76 1 → 60 ≤ σ 88 7 → K (some (0, -4)) σ)
    (h0 : σ 76 1 ≤ σ 20 r → K (some (0, 0)) (q_up (v_en σ r (σ 0 10)) 24 r (σ 0 10)))
    (h1 : σ 20 r < σ 76 1 → σ 88 7 < 60 → ∀ σ', (∀ k i, k ≠ 14 → k ≠ 15 → k ≠ 16 → σ' k i = (q_up (v_en σ r (σ 0 10)) 24 r (σ 0 10)) k i) → K (some (0, σ 76 1 - σ 20 r)) (v_be σ' r w (σ 0 10) (σ 76 1 - σ 20 r) (σ 76 2) (σ 76 1))) : q_E L xs k_A_view (9, [(2, 0), (0, r), (2, 76), (9, 0), (9, 0)], [], σ) K := by
  have e : q_w32 (σ 76 1 - σ 20 r) = σ 76 1 - σ 20 r := by rw [q_w32_id] <;> omega
  have en : v_en σ r (σ 0 10) 0 10 = σ 0 10 := en_0 (by decide) (by decide)
  have a0 : (q_up (v_en σ r (σ 0 10)) 24 r (σ 0 10)) 0 10 = σ 0 10 := (q_un (by decide)).trans en
  have a34 : (q_up (v_en σ r (σ 0 10)) 24 r (σ 0 10)) 34 2 = σ 34 2 := (q_un (by decide)).trans (en_0 (by decide) (by decide))
  have a7 : (q_up (v_en σ r (σ 0 10)) 24 r (σ 0 10)) 7 5 = σ 7 5 := (q_un (by decide)).trans (en_0 (by decide) (by decide))
  refine q_go1 200 9 [20] (fun cl ev hcl hev => ?_)
  refine And.intro (by omega) ?_
  refine hev _ ?_
  rw [e]
  by_cases g : σ 76 1 ≤ σ 20 r
  · rw [show max 0 (σ 76 1 - σ 20 r) = 0 by omega]
    refine q_go1 200 20 [35] (fun cl ev hcl hev => ?_)
    refine And.intro (fun _ => ?_) (fun z => absurd (show (0 : Int) ≤ 0 by decide) z)
    show cl _ _ _ _
    refine hcl _ _ _ _ (x_fend hr ho ?_)
    refine hev _ ?_
    refine q_go1 200 35 [42] (fun cl ev hcl hev => ?_)
    refine And.intro (by omega) ?_
    refine hev _ ?_
    rw [en]
    refine q_go1 200 42 [] (fun cl ev hcl hev => ?_)
    exact And.intro (fun _ => h0 g) (fun z => absurd (show (0 : Int) ≤ 0 by decide) z)
  · rw [show max 0 (σ 76 1 - σ 20 r) = σ 76 1 - σ 20 r by omega]
    refine q_go1 200 20 [35] (fun cl ev hcl hev => ?_)
    refine And.intro (fun z => by exfalso; omega) (fun _ => ?_)
    refine And.intro (fun g2 => ?_) (fun g2 => h4 (by omega) (by omega))
    show cl _ _ _ _
    refine hcl _ _ _ _ (x_fend hr ho ?_)
    refine hev _ ?_
    refine q_go1 200 35 [42] (fun cl ev hcl hev => ?_)
    refine And.intro (by omega) ?_
    refine hev _ ?_
    rw [en]
    refine q_go1 200 42 [] (fun cl ev hcl hev => ?_)
    refine And.intro (fun z => by exfalso; omega) (fun _ => ?_)
    show cl _ _ _ _
    rw [a0, a34, a7]
    refine hcl _ _ _ _ (hw _ (fun σ' f => ?_))
    have f0 : σ' 0 10 = σ 0 10 := (f 0 10 (by decide) (by decide) (by decide)).trans a0
    have f1 : σ' 76 1 = σ 76 1 := (f 76 1 (by decide) (by decide) (by decide)).trans ((q_un (by decide)).trans (en_0 (by decide) (by decide)))
    have f2 : σ' 76 2 = σ 76 2 := (f 76 2 (by decide) (by decide) (by decide)).trans ((q_un (by decide)).trans (en_0 (by decide) (by decide)))
    have f7 : σ' 88 7 = σ 88 7 := (f 88 7 (by decide) (by decide) (by decide)).trans ((q_un (by decide)).trans (en_0 (by decide) (by decide)))
    show cl _ _ _ _
    rw [f0]
    refine hcl _ _ _ _ (x_be76 hr (by omega) ?_)
    rw [f1, f2]
    exact h1 (by omega) (by omega) σ' f
theorem xv_80 {r w : Int} {σ : q_S} {K : q_R → q_S → Prop} (hr : 0 ≤ r ∧ r < 24) (ho : -1 ≤ σ 95 r ∧ σ 95 r < 60) (h20 : 0 ≤ σ 20 r ∧ σ 20 r ≤ 99) (hq1 : -1 ≤ σ 80 1 ∧ σ 80 1 ≤ 99) (hsz : 0 ≤ σ 88 7 ∧ σ 88 7 ≤ 60)
    (hw : ∀ K' : q_R → q_S → Prop, (∀ σ', (∀ k i, k ≠ 14 → k ≠ 15 → k ≠ 16 → σ' k i = (q_up (v_en σ r (σ 0 10)) 24 r (σ 0 10)) k i) → K' (some (0, w)) σ') → q_K L xs i_A_whoMends [(2, 0), (0, r), (0, σ 0 10), (0, σ 34 2), (0, σ 7 5)] (q_up (v_en σ r (σ 0 10)) 24 r (σ 0 10)) K')
    (h4 : σ 20 r < σ 80 1 → 60 ≤ σ 88 7 → K (some (0, -4)) σ)
    (h0 : σ 80 1 ≤ σ 20 r → K (some (0, 0)) (q_up (v_en σ r (σ 0 10)) 24 r (σ 0 10)))
    (h1 : σ 20 r < σ 80 1 → σ 88 7 < 60 → ∀ σ', (∀ k i, k ≠ 14 → k ≠ 15 → k ≠ 16 → σ' k i = (q_up (v_en σ r (σ 0 10)) 24 r (σ 0 10)) k i) → K (some (0, σ 80 1 - σ 20 r)) (v_be σ' r w (σ 0 10) (σ 80 1 - σ 20 r) (σ 80 2) (σ 80 1))) : q_E L xs k_A_view (9, [(2, 0), (0, r), (2, 80), (9, 0), (9, 0)], [], σ) K := by
  have e : q_w32 (σ 80 1 - σ 20 r) = σ 80 1 - σ 20 r := by rw [q_w32_id] <;> omega
  have en : v_en σ r (σ 0 10) 0 10 = σ 0 10 := en_0 (by decide) (by decide)
  have a0 : (q_up (v_en σ r (σ 0 10)) 24 r (σ 0 10)) 0 10 = σ 0 10 := (q_un (by decide)).trans en
  have a34 : (q_up (v_en σ r (σ 0 10)) 24 r (σ 0 10)) 34 2 = σ 34 2 := (q_un (by decide)).trans (en_0 (by decide) (by decide))
  have a7 : (q_up (v_en σ r (σ 0 10)) 24 r (σ 0 10)) 7 5 = σ 7 5 := (q_un (by decide)).trans (en_0 (by decide) (by decide))
  refine q_go1 200 9 [20] (fun cl ev hcl hev => ?_)
  refine And.intro (by omega) ?_
  refine hev _ ?_
  rw [e]
  by_cases g : σ 80 1 ≤ σ 20 r
  · rw [show max 0 (σ 80 1 - σ 20 r) = 0 by omega]
    refine q_go1 200 20 [35] (fun cl ev hcl hev => ?_)
    refine And.intro (fun _ => ?_) (fun z => absurd (show (0 : Int) ≤ 0 by decide) z)
    show cl _ _ _ _
    refine hcl _ _ _ _ (x_fend hr ho ?_)
    refine hev _ ?_
    refine q_go1 200 35 [42] (fun cl ev hcl hev => ?_)
    refine And.intro (by omega) ?_
    refine hev _ ?_
    rw [en]
    refine q_go1 200 42 [] (fun cl ev hcl hev => ?_)
    exact And.intro (fun _ => h0 g) (fun z => absurd (show (0 : Int) ≤ 0 by decide) z)
  · rw [show max 0 (σ 80 1 - σ 20 r) = σ 80 1 - σ 20 r by omega]
    refine q_go1 200 20 [35] (fun cl ev hcl hev => ?_)
    refine And.intro (fun z => by exfalso; omega) (fun _ => ?_)
    refine And.intro (fun g2 => ?_) (fun g2 => h4 (by omega) (by omega))
    show cl _ _ _ _
    refine hcl _ _ _ _ (x_fend hr ho ?_)
    refine hev _ ?_
    refine q_go1 200 35 [42] (fun cl ev hcl hev => ?_)
    refine And.intro (by omega) ?_
    refine hev _ ?_
    rw [en]
    refine q_go1 200 42 [] (fun cl ev hcl hev => ?_)
    refine And.intro (fun z => by exfalso; omega) (fun _ => ?_)
    show cl _ _ _ _
    rw [a0, a34, a7]
    refine hcl _ _ _ _ (hw _ (fun σ' f => ?_))
    have f0 : σ' 0 10 = σ 0 10 := (f 0 10 (by decide) (by decide) (by decide)).trans a0
    have f1 : σ' 80 1 = σ 80 1 := (f 80 1 (by decide) (by decide) (by decide)).trans ((q_un (by decide)).trans (en_0 (by decide) (by decide)))
    have f2 : σ' 80 2 = σ 80 2 := (f 80 2 (by decide) (by decide) (by decide)).trans ((q_un (by decide)).trans (en_0 (by decide) (by decide)))
    have f7 : σ' 88 7 = σ 88 7 := (f 88 7 (by decide) (by decide) (by decide)).trans ((q_un (by decide)).trans (en_0 (by decide) (by decide)))
    show cl _ _ _ _
    rw [f0]
    refine hcl _ _ _ _ (x_be80 hr (by omega) ?_)
    rw [f1, f2]
    exact h1 (by omega) (by omega) σ' f
theorem xv_84 {r w : Int} {σ : q_S} {K : q_R → q_S → Prop} (hr : 0 ≤ r ∧ r < 24) (ho : -1 ≤ σ 95 r ∧ σ 95 r < 60) (h20 : 0 ≤ σ 20 r ∧ σ 20 r ≤ 99) (hq1 : -1 ≤ σ 84 1 ∧ σ 84 1 ≤ 99) (hsz : 0 ≤ σ 88 7 ∧ σ 88 7 ≤ 60)
    (hw : ∀ K' : q_R → q_S → Prop, (∀ σ', (∀ k i, k ≠ 14 → k ≠ 15 → k ≠ 16 → σ' k i = (q_up (v_en σ r (σ 0 10)) 24 r (σ 0 10)) k i) → K' (some (0, w)) σ') → q_K L xs i_A_whoMends [(2, 0), (0, r), (0, σ 0 10), (0, σ 34 2), (0, σ 7 5)] (q_up (v_en σ r (σ 0 10)) 24 r (σ 0 10)) K')
    (h4 : σ 20 r < σ 84 1 → 60 ≤ σ 88 7 → K (some (0, -4)) σ)
    (h0 : σ 84 1 ≤ σ 20 r → K (some (0, 0)) (q_up (v_en σ r (σ 0 10)) 24 r (σ 0 10)))
    (h1 : σ 20 r < σ 84 1 → σ 88 7 < 60 → ∀ σ', (∀ k i, k ≠ 14 → k ≠ 15 → k ≠ 16 → σ' k i = (q_up (v_en σ r (σ 0 10)) 24 r (σ 0 10)) k i) → K (some (0, σ 84 1 - σ 20 r)) (v_be σ' r w (σ 0 10) (σ 84 1 - σ 20 r) (σ 84 2) (σ 84 1))) : q_E L xs k_A_view (9, [(2, 0), (0, r), (2, 84), (9, 0), (9, 0)], [], σ) K := by
  have e : q_w32 (σ 84 1 - σ 20 r) = σ 84 1 - σ 20 r := by rw [q_w32_id] <;> omega
  have en : v_en σ r (σ 0 10) 0 10 = σ 0 10 := en_0 (by decide) (by decide)
  have a0 : (q_up (v_en σ r (σ 0 10)) 24 r (σ 0 10)) 0 10 = σ 0 10 := (q_un (by decide)).trans en
  have a34 : (q_up (v_en σ r (σ 0 10)) 24 r (σ 0 10)) 34 2 = σ 34 2 := (q_un (by decide)).trans (en_0 (by decide) (by decide))
  have a7 : (q_up (v_en σ r (σ 0 10)) 24 r (σ 0 10)) 7 5 = σ 7 5 := (q_un (by decide)).trans (en_0 (by decide) (by decide))
  refine q_go1 200 9 [20] (fun cl ev hcl hev => ?_)
  refine And.intro (by omega) ?_
  refine hev _ ?_
  rw [e]
  by_cases g : σ 84 1 ≤ σ 20 r
  · rw [show max 0 (σ 84 1 - σ 20 r) = 0 by omega]
    refine q_go1 200 20 [35] (fun cl ev hcl hev => ?_)
    refine And.intro (fun _ => ?_) (fun z => absurd (show (0 : Int) ≤ 0 by decide) z)
    show cl _ _ _ _
    refine hcl _ _ _ _ (x_fend hr ho ?_)
    refine hev _ ?_
    refine q_go1 200 35 [42] (fun cl ev hcl hev => ?_)
    refine And.intro (by omega) ?_
    refine hev _ ?_
    rw [en]
    refine q_go1 200 42 [] (fun cl ev hcl hev => ?_)
    exact And.intro (fun _ => h0 g) (fun z => absurd (show (0 : Int) ≤ 0 by decide) z)
  · rw [show max 0 (σ 84 1 - σ 20 r) = σ 84 1 - σ 20 r by omega]
    refine q_go1 200 20 [35] (fun cl ev hcl hev => ?_)
    refine And.intro (fun z => by exfalso; omega) (fun _ => ?_)
    refine And.intro (fun g2 => ?_) (fun g2 => h4 (by omega) (by omega))
    show cl _ _ _ _
    refine hcl _ _ _ _ (x_fend hr ho ?_)
    refine hev _ ?_
    refine q_go1 200 35 [42] (fun cl ev hcl hev => ?_)
    refine And.intro (by omega) ?_
    refine hev _ ?_
    rw [en]
    refine q_go1 200 42 [] (fun cl ev hcl hev => ?_)
    refine And.intro (fun z => by exfalso; omega) (fun _ => ?_)
    show cl _ _ _ _
    rw [a0, a34, a7]
    refine hcl _ _ _ _ (hw _ (fun σ' f => ?_))
    have f0 : σ' 0 10 = σ 0 10 := (f 0 10 (by decide) (by decide) (by decide)).trans a0
    have f1 : σ' 84 1 = σ 84 1 := (f 84 1 (by decide) (by decide) (by decide)).trans ((q_un (by decide)).trans (en_0 (by decide) (by decide)))
    have f2 : σ' 84 2 = σ 84 2 := (f 84 2 (by decide) (by decide) (by decide)).trans ((q_un (by decide)).trans (en_0 (by decide) (by decide)))
    have f7 : σ' 88 7 = σ 88 7 := (f 88 7 (by decide) (by decide) (by decide)).trans ((q_un (by decide)).trans (en_0 (by decide) (by decide)))
    show cl _ _ _ _
    rw [f0]
    refine hcl _ _ _ _ (x_be84 hr (by omega) ?_)
    rw [f1, f2]
    exact h1 (by omega) (by omega) σ' f
end Z2
