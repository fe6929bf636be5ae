theorem q_SA_pick {T : q_T} {WG : q_KT} {WP : Prop} {d : q_N} : ∀ {l : List (Prop × q_N)}, q_SA T WG WP d l → q_can T (q_pick d l).2.1 (q_pick d l).2.2.1 (q_pick d l).2.2.2 ∧ (WG (q_pick d l).1 (q_pick d l).2.1 (q_pick d l).2.2.1 (q_pick d l).2.2.2 → WP)
  | [], h => h
  | (c, a) :: l, h => by
    unfold q_pick
    by_cases hc : c
    · rw [if_pos hc]; exact h.1 hc
    · rw [if_neg hc]; exact q_SA_pick (h.2 hc)
/-- a method's table is checked -/
def q_mOK (T : q_T) (zs : List (List Int)) (y : q_Y) (m0 : q_M) : Prop := m0.2 = y.2.2.1 ∧ q_pc m0.1 0 = 0 ∧ ∀ (i : Nat) (ins : q_I), m0.1[i]? = some ins → ins.1 = i ∧ q_ck T y.1.cls y.2.1 y.2.2.2.1 zs y.2.2.2.2.1 y.2.2.2.2.2 m0.1 ins = true
/-- all of them -/
def q_allOK (T : q_T) (zs : List (List Int)) (mt : List q_M) : Prop := q_yOK T zs ∧ q_lzOK T ∧ q_clOK T ∧ q_lyOK T ∧ q_cx (q_tx T) ∧ ∀ (mi : Nat) (m0 : q_M), mt[mi]? = some m0 → ∃ y, (q_ty T)[mi]? = some y ∧ q_mOK T zs y m0
def q_Cal (l : Launch) (T : q_T) (G : q_G) (mt : List q_M) (k : Nat) : Prop := ∀ (mi : Nat) (y : q_Y) (m0 : q_M) (as : List q_V) (σ : q_S) (r : q_R) (σ' : q_S), (q_ty T)[mi]? = some y → mt[mi]? = some m0 → q_run (q_tl T) (q_tx T) mt k m0.1 (q_ent m0.2 as σ) = some (r, σ') → q_cs as → q_cm (q_tl T) σ → (q_sl as).length ≤ y.2.2.1 → q_CM l T G y as σ r σ'
theorem q_cs_psh {r : q_R} {st : List q_V} (h : q_cs st) (hr : q_cr r) : q_cs (q_psh r st) := by
  cases r with
  | none => exact h
  | some v => exact q_cs_cons.mpr ⟨hr, h⟩
section QSO
variable {p : Program} {l : Launch} {e : Env} {R : Room} {s : State} {m : MethodId} {args : Array Value} {below : List Frame} {meth : Method} {c : Code} {cells slots : Nat} {Q : State → Prop}
variable {T : q_T} {G : q_G} {A : Nat → Prop} {bytes : ByteArray} {own : String} {nL : Nat} {code : List q_I} {ret : Option FieldType}
/-- the end of a body: the return itself -/
def q_End (p : Program) (l : Launch) (e : Env) (R : Room) (s : State) (m : MethodId) (args : Array Value) (below : List Frame) (meth : Method) (c : Code) (cells slots : Nat) (Q : State → Prop) (T : q_T) (G : q_G) (A : Nat → Prop) (bytes : ByteArray) (ret : Option FieldType) (r : q_R) (σ : q_S) : Prop :=
  q_cr r → q_cm (q_tl T) σ → ∀ (pc : Nat), q_RT bytes ret pc r → ∀ (H : Heap) (locs : List Loc) (sl : Array Slot), va_P G.1 (q_tc T) (q_ws G (q_tl T) σ) H → va_S A s.heap H locs → W p l e R s m args below meth c H locs cells slots Q (F0 m pc sl (r.toList.map (q_cv G)))
theorem q_body (X : q_Cx p s m args c T G A bytes own nL) {zs : List (List Int)} {fr lo : Nat} (hY : q_yOK T zs) (hZ : q_lzOK T) (hroom : cells ≤ R.cells ∧ slots ≤ R.slots) (hR : fr ≤ R.frames ∧ lo ≤ R.locals) {mt : List q_M}
    (hck : ∀ (i : Nat) (ins : q_I), code[i]? = some ins → ins.1 = i ∧ q_ck T own bytes ret zs fr lo code ins = true) (K : Nat) (IH : ∀ k, k < K → q_Cal l T G mt k) :
    ∀ (k : Nat), k ≤ K → ∀ (i : Nat) (ls st : List q_V) (σ : q_S) (r : q_R) (σ' : q_S), q_run (q_tl T) (q_tx T) mt k code (i, ls, st, σ) = some (r, σ') → q_can T ls st σ →
      q_End p l e R s m args below meth c cells slots Q T G A bytes ret r σ' → q_WP p l e R s m args below meth c cells slots Q T G A nL (q_pc code i) ls st σ := by
  intro k
  induction k with
  | zero => intro _ i ls st σ r σ' h; simp [q_run] at h
  | succ k ih =>
    intro hkK i ls st σ r σ' h hc E
    have ih := ih (by omega)
    rw [q_run] at h
    cases hi : code[i]? with
    | none => rw [hi] at h; cases h
    | some ins =>
      obtain ⟨h1, h2⟩ := hck i ins hi
      obtain ⟨i1, pc, op, inf⟩ := ins
      dsimp only at h1
      subst h1
      have hpc : q_pc code i1 = pc := by unfold q_pc; rw [hi]
      have S := q_step (Q := Q) (l := l) (e := e) (R := R) (below := below) (meth := meth) X hY hZ hroom hR h2 hc
      rw [hpc]
      rw [hi] at h
      dsimp only at h
      cases hd : q_des (q_tl T) (q_tx T) (i1, pc, op, inf) ls st σ with
      | inl a =>
        obtain ⟨i2, ls2, st2, σ2⟩ := a
        rw [hd] at h S
        obtain ⟨S1, S2⟩ := S
        exact S2 (ih i2 ls2 st2 σ2 r σ' h S1 E)
      | inr d =>
        cases d with
        | inl g =>
          obtain ⟨g, i2, ls2, st2, σ2⟩ := g
          rw [hd] at h S
          dsimp only at h
          by_cases hg : g
          · rw [if_pos hg] at h
            obtain ⟨S1, S2⟩ := S hg
            exact S2 (ih i2 ls2 st2 σ2 r σ' h S1 E)
          · rw [if_neg hg] at h; cases h
        | inr d =>
          cases d with
          | inl al =>
            obtain ⟨al, d⟩ := al
            rw [hd] at h S
            obtain ⟨S1, S2⟩ := q_SA_pick S
            exact S2 (ih _ _ _ _ r σ' h S1 E)
          | inr d =>
            cases d with
            | inl ca =>
              obtain ⟨mi, as, i2, ls2, st2, σ2⟩ := ca
              rw [hd] at h S
              dsimp only at h
              obtain ⟨y, hy, S0, S1, S3, S2⟩ := S
              cases hm : mt[mi]? with
              | none => rw [hm] at h; cases h
              | some m0 =>
                rw [hm] at h
                dsimp only at h
                cases hr : q_run (q_tl T) (q_tx T) mt k m0.1 (q_ent m0.2 as σ2) with
                | none => rw [hr] at h; cases h
                | some x =>
                  obtain ⟨r1, σ1⟩ := x
                  rw [hr] at h
                  have c1 := IH k (by omega) mi y m0 as σ2 r1 σ1 hy hm hr S0 S1.2.2 S3
                  exact S2 r1 σ1 c1 (fun c2 c3 => ih i2 ls2 (q_psh r1 st2) σ1 r σ' h ⟨S1.1, q_cs_psh S1.2.1 c2, c3⟩ E)
            | inr rt =>
              cases rt with
              | inl rt =>
                rw [hd] at h S
                cases rt with
                | none => cases h
                | some x =>
                  obtain ⟨r1, σ1⟩ := x
                  cases h
                  obtain ⟨s1, s2, s3, s4⟩ := S
                  subst s2
                  subst s3
                  exact fun H locs sl hP hS hL => E s1 hc.2.2 pc s4 H locs sl hP hS
              | inr rt =>
                obtain ⟨g, r1, σ1⟩ := rt
                rw [hd] at h S
                dsimp only at h
                by_cases hg : g
                · rw [if_pos hg] at h
                  cases h
                  obtain ⟨s1, s2, s3, s4⟩ := S hg
                  subst s2
                  subst s3
                  exact fun H locs sl hP hS hL => E s1 hc.2.2 pc s4 H locs sl hP hS
                · rw [if_neg hg] at h; cases h
end QSO
theorem q_cs_sl : ∀ {as : List q_V}, q_cs as → q_cs (q_sl as) := by
  intro as
  induction as with
  | nil => exact fun h => h
  | cons v as ih =>
    intro h
    obtain ⟨h1, h2⟩ := q_cs_cons.mp h
    obtain ⟨n, x⟩ := v
    rw [q_sl.eq_def]
    split
    · rename_i e; cases e; exact q_cs_cons.mpr ⟨h1, q_cs_cons.mpr ⟨q_c1_o (by decide), ih h2⟩⟩
    · rename_i e; cases e; exact q_cs_cons.mpr ⟨h1, ih h2⟩
    · rename_i e; cases e
theorem q_cs_app {a b : List q_V} (ha : q_cs a) (hb : q_cs b) : q_cs (a ++ b) := fun v hv => (List.mem_append.mp hv).elim (ha v) (hb v)
set_option maxHeartbeats 4000000 in
theorem q_callee {l : Launch} {T : q_T} {G : q_G} {zs : List (List Int)} {mt : List q_M} (hO : q_allOK T zs mt) (hx : q_xr G) (K : Nat) (IH : ∀ k, k < K → q_Cal l T G mt k) : q_Cal l T G mt K := by
  intro mi y m0 as σ r σ' hy hm hrun hcs hcm hlen
  obtain ⟨hY, hZ, hcl, hly, hcx, hms⟩ := hO
  obtain ⟨y2, hy2, hnl, hpc0, hck⟩ := hms mi m0 hm
  rw [hy] at hy2
  cases hy2
  obtain ⟨z, hz, hyc⟩ := hY mi y hy
  have hplain : plainName y.1.cls = true := by
    unfold q_yc at hyc
    split at hyc
    · obtain ⟨hyc, -⟩ := Bool.and_eq_true_iff.mp hyc
      exact (Bool.and_eq_true_iff.mp hyc).2
    · cases hyc
  have hcan : q_can T (q_sl as ++ List.replicate (m0.2 - (q_sl as).length) (9, 0)) [] σ := ⟨q_cs_app (q_cs_sl hcs) (fun v hv => by rw [(List.mem_replicate.mp hv).2]; exact q_c1_o (by decide)), q_cs_nil, hcm⟩
  have hent : q_ent m0.2 as σ = (0, q_sl as ++ List.replicate (m0.2 - (q_sl as).length) (9, 0), [], σ) := rfl
  rw [hent] at hrun
  intro sz
  refine Met.ofW (cc := y.2.1) (maxL := y.2.2.1) (ret := y.2.2.2.1) hplain rfl ?_
  intro p e s m args below meth c s₁ B hml hv
  obtain ⟨rfl, hsz, hP, hK, hD, hE⟩ := hv
  subst hsz
  have hts := atoms_spec (ws := q_wy T y) B.pre
  have hlocks := B.notSynchronized
  have X : q_Cx p s m (as.map (q_cv G)).toArray c T G (q_A T G s.heap.size) y.2.1 y.1.cls y.2.2.1 :=
    ⟨B.exec, B.bytes, hml, findClass_of_methodNamed B.named, fun w hw => hts w (List.mem_cons_of_mem _ hw), hK, fun σ => q_A_D (hD σ), hx, hE, fun _ h => h, hcl, hly, hcx⟩
  have E : q_End p l e (headSpec (q_wy T y) (q_rm y)).room s m (as.map (q_cv G)).toArray below meth c 0 0 (MQ below (q_Qc T G r σ' s.heap.size) (as.map (q_cv G)).toArray s 0 0 (q_A T G s.heap.size)) T G (q_A T G s.heap.size) y.2.1 y.2.2.2.1 r σ' := by
    intro hcr hcm' pc hRT H locs sl hP1 hS1
    have hr := B.returns
    rcases hRT with ⟨x, rfl, hd, ty, hty, hna⟩ | ⟨x, rfl, hd, hty⟩ | ⟨x, rfl, hd, n, hty⟩ | ⟨rfl, hd, hty⟩
    · exact W.zret B.exec B.bytes (by rw [hr, hty]) hna (fun t ht hW => ⟨rfl, by rw [ht]; exact hP1, hS1.F ht, hcr, hcm'⟩) hS1.2.2 hd
    · exact W.lret B.exec B.bytes (by rw [hr, hty]) (fun t ht hW => ⟨rfl, by rw [ht]; exact hP1, hS1.F ht, hcr, hcm'⟩) hS1.2.2 hd
    · exact W.aret B.exec B.bytes (by rw [hr, hty]) (Or.inl ⟨n, rfl⟩) (Or.inr ⟨_, rfl⟩) (fun t ht hW => ⟨rfl, by rw [ht]; exact hP1, hS1.F ht, hcr, hcm'⟩) hS1.2.2 hd
    · exact W.vret B.exec B.bytes (by rw [hr, hty]) (fun t ht hW => ⟨rfl, by rw [ht]; exact hP1, hS1.F ht, hcr, hcm'⟩) hS1.2.2 hd
  have W0 := q_body (R := (headSpec (q_wy T y) (q_rm y)).room) (below := below) (meth := meth) (e := e) (l := l) (cells := 0) (slots := 0) (Q := MQ below (q_Qc T G r σ' s.heap.size) (as.map (q_cv G)).toArray s 0 0 (q_A T G s.heap.size)) X hY hZ ⟨Nat.zero_le _, Nat.zero_le _⟩ ⟨Nat.le_refl _, Nat.le_refl _⟩ hck K IH K (Nat.le_refl _) 0 _ _ _ r σ' hrun hcan E s.heap [] _ hP va_S.rf (by rw [hnl]; exact q_HL_ent hx hlen)
  rw [hpc0] at W0
  rw [lg_entry_eq]
  exact W0
/-- a run of the layout machine is a run of the method, from every state that holds the world -/
theorem q_sound {l : Launch} {T : q_T} {G : q_G} {zs : List (List Int)} {mt : List q_M} (hO : q_allOK T zs mt) (hx : q_xr G) (K : Nat) : q_Cal l T G mt K := by
  induction K using Nat.strongRecOn with
  | _ K ih => exact q_callee hO hx K ih
