def q_ylaw : q_Y := (x, code, 4, ret, 11, 238)
theorem zn_all : ∀ e ∈ q_nst, (Cond.methodLinkNest e.1 e.2.1 e.2.2.1 e.2.2.2) ∈ lw_tbl := by decide +kernel
theorem q_mc_ch {T : q_T} {zs : List (List Int)} {y : q_Y} {code : List q_I} {j n : Nat} (h : q_mc T zs y code j ((code.drop j).take n) = true) {i : Nat} {ins : q_I} (h1 : j ≤ i) (h2 : i < j + n) (hi : code[i]? = some ins) : ins.1 = i ∧ q_ck T y.1.cls y.2.1 y.2.2.2.1 zs y.2.2.2.2.1 y.2.2.2.2.2 code ins = true := by
  have e : ((code.drop j).take n)[i - j]? = some ins := by
    rw [List.getElem?_take, if_pos (by omega), List.getElem?_drop, show j + (i - j) = i by omega]
    exact hi
  obtain ⟨a1, a2⟩ := q_mc_ok _ j h (i - j) ins e
  exact ⟨by omega, a2⟩
