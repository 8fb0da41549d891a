/-! ===== calls: shelves asked ===== -/
theorem mI_lt {k : Nat} (h : k < 2147483648) : (mI < nI k) = True := by
  rw [Int32.lt_iff_toInt_lt, mI_ti, n_ti h]
  exact eq_true (by omega)
theorem mI_le {k : Nat} (h : k < 2147483648) : (mI ≤ nI k) = True := by
  rw [Int32.le_iff_toInt_le, mI_ti, n_ti h]
  exact eq_true (by omega)
theorem nI_mIlt {k l : Nat} (h : k < 2147483648) : (nI k < mI) = False := by
  rw [Int32.lt_iff_toInt_lt, mI_ti, n_ti h]
  exact eq_false (by omega)
section PSH
variable {A : pu_L} {σ : am_S} {s t n p : Nat}
theorem c_isRow0 (hs : s < 8) (h : sh0 σ s) : fn_X2_isRow (nI s) σ = some (nI 0, σ) := by
  unfold fn_X2_isRow
  simp -implicitDefEqProofs (maxSteps := 2000000) (disch := omega) only [z0, z1, z2, z3, z4, z5, z6, z7, z8, z9, z10, z12, z15, z18, z20, z40, z64, z128, z250, z999, z1000, zn, if_true, if_false, n_eq_f, Nat.reduceAdd, n_in_t, n_cl, h.1, mI_lt, cond_true]
theorem c_isRow1 (hs : s < 8) (h : sh1 σ s t n) : fn_X2_isRow (nI s) σ = some (nI 1, σ) := by
  have := h.1
  unfold fn_X2_isRow
  simp -implicitDefEqProofs (maxSteps := 2000000) (disch := omega) only [z0, z1, z2, z3, z4, z5, z6, z7, z8, z9, z10, z12, z15, z18, z20, z40, z64, z128, z250, z999, z1000, zn, if_true, if_false, n_eq_f, Nat.reduceAdd, n_in_t, n_cl, h.2.2.1, n_lt_f, n_le_f, cond_true]
theorem c_isRow2 (hk : pu_k A) (hs : s < 8) (h : sh2 A σ s p) : fn_X2_isRow (nI s) σ = some (nI 0, σ) := by
  have := h.1
  have := hk.2.1
  unfold fn_X2_isRow
  simp -implicitDefEqProofs (maxSteps := 2000000) (disch := omega) only [z0, z1, z2, z3, z4, z5, z6, z7, z8, z9, z10, z12, z15, z18, z20, z40, z64, z128, z250, z999, z1000, zn, if_true, if_false, n_eq_f, Nat.reduceAdd, n_in_t, n_cl, h.2.1, n_lt_f, n_le_t, cond_true]
theorem c_hasE0 {a : Int32} (hs : s < 8) (hr : fn_X2_isRow (nI s) σ = some (nI 0, σ)) : fn_X2_hasElement (nI s) a σ = some (nI 0, σ) := by
  unfold fn_X2_hasElement
  simp -implicitDefEqProofs (maxSteps := 2000000) (disch := omega) only [z0, z1, z2, z3, z4, z5, z6, z7, z8, z9, z10, z12, z15, z18, z20, z40, z64, z128, z250, z999, z1000, zn, if_true, if_false, n_eq_f, Nat.reduceAdd, c_gshelf, gN_nI, Option.bind_some, g_if, decide_true, Bool.and_true, Nat.zero_le, show s ≤ 7 by omega, cond_true, cond_false, hr]
theorem c_hasE1 {a : Int32} (hs : s < 8) (h : sh1 σ s t n) : fn_X2_hasElement (nI s) a σ = some (cond (gL n a) (nI 1) (nI 0), σ) := by
  obtain ⟨h1, h2, h3, h4, h5⟩ := h
  unfold fn_X2_hasElement
  simp -implicitDefEqProofs (maxSteps := 2000000) (disch := omega) only [z0, z1, z2, z3, z4, z5, z6, z7, z8, z9, z10, z12, z15, z18, z20, z40, z64, z128, z250, z999, z1000, zn, if_true, if_false, n_eq_f, Nat.reduceAdd, c_gshelf, gN_nI, Option.bind_some, g_if, decide_true, Bool.and_true, Nat.zero_le, show s ≤ 7 by omega, cond_true, cond_false, c_isRow1 hs ⟨h1, h2, h3, h4, h5⟩, n_in_t, n_cl, h4]
  cases c : gL n a
  · by_cases c0 : a < nI 0
    · rw [if_pos c0]; rfl
    · rw [if_neg c0, if_pos]
      · rfl
      · have c := of_decide_eq_false c
        rw [Int32.lt_iff_toInt_lt, n_ti (by decide)] at c0
        rw [Int32.le_iff_toInt_le, n_ti (by omega)]
        omega
  · obtain ⟨j, rfl, hj⟩ := gL_n c
    simp -implicitDefEqProofs (maxSteps := 2000000) (disch := omega) only [z0, z1, z2, z3, z4, z5, z6, z7, z8, z9, z10, z12, z15, z18, z20, z40, z64, z128, z250, z999, z1000, zn, if_true, if_false, n_eq_f, Nat.reduceAdd, n_lt_f, n_le_f, cond_true]
end PSH
theorem pv_holds (a1 : Int32) (σ : am_S) (hI : pu_Inv σ) : ∃ (r : Int32) (σ1 σ2 : am_S), fn_X7_holds a1 σ = some (r, σ1) ∧ fn_X8_holds 5 a1 σ1 = some (r, σ2) ∧ pu_Inv σ2 := by
  obtain ⟨A, hI⟩ := hI
  have hk := hI.1.1
  have hne := hk.2.1
  have hc := hI.1.2.1
  have hm := hI.1.2.2.1
  unfold fn_X7_holds fn_X8_holds
  cases h1 : gN 0 7 a1
  · refine pv_q0 hI (r := mI) ?_ ⟨σ, ?_, fr.rf⟩
    · simp -implicitDefEqProofs (maxSteps := 2000000) (disch := omega) only [z0, z1, z2, z3, z4, z5, z6, z7, z8, z9, z10, z12, z15, z18, z20, z40, z64, z128, z250, z999, z1000, zn, if_true, if_false, n_eq_f, Nat.reduceAdd, c_gperson hc hk, c_gvalley, c_gshelf, c_gpass hc hk, c_within, Option.bind_some, g_if, g_eta, cond_true, cond_false, n_in_t, n_cl, h1]
    · simp -implicitDefEqProofs (maxSteps := 2000000) (disch := omega) only [z0, z1, z2, z3, z4, z5, z6, z7, z8, z9, z10, z12, z15, z18, z20, z40, z64, z128, z250, z999, z1000, zn, if_true, if_false, n_eq_f, Nat.reduceAdd, m_gone hm hk, m_gvalley, m_in_0_1, m_in_0_2, m_in_0_20, m_in_0_255, m_in_0_3, m_in_0_4, m_in_0_40, m_in_0_5, m_in_0_6, m_in_0_7, m_in_0_9, m_in_0_999, m_in_1_12, m_in_1_60, m_in_12_16, m_inl, hm.np, hm.ne, Option.bind_some, g_if, g_eta, cond_true, cond_false, n_in_t, n_cl, h1]
  · obtain ⟨s, rfl, -, hs⟩ := gN_n h1
    rcases pu_s1_of.mp (hI.1.2.2.2.2.2.2 s (by omega)) with ⟨c1, c2⟩ | ⟨t, n, c1, c2, c3, c4, c5, c6, c7, c8⟩ | ⟨p, c1, c2, c3, c4⟩
    · refine pv_q0 hI (r := mI) ?_ ⟨σ, ?_, fr.rf⟩
      · simp -implicitDefEqProofs (maxSteps := 2000000) (disch := omega) only [z0, z1, z2, z3, z4, z5, z6, z7, z8, z9, z10, z12, z15, z18, z20, z40, z64, z128, z250, z999, z1000, zn, if_true, if_false, n_eq_f, Nat.reduceAdd, c_gperson hc hk, c_gvalley, c_gshelf, c_gpass hc hk, c_within, Option.bind_some, g_if, g_eta, cond_true, cond_false, n_in_t, n_cl, h1, c1]
      · simp -implicitDefEqProofs (maxSteps := 2000000) (disch := omega) only [z0, z1, z2, z3, z4, z5, z6, z7, z8, z9, z10, z12, z15, z18, z20, z40, z64, z128, z250, z999, z1000, zn, if_true, if_false, n_eq_f, Nat.reduceAdd, m_gone hm hk, m_gvalley, m_in_0_1, m_in_0_2, m_in_0_20, m_in_0_255, m_in_0_3, m_in_0_4, m_in_0_40, m_in_0_5, m_in_0_6, m_in_0_7, m_in_0_9, m_in_0_999, m_in_1_12, m_in_1_60, m_in_12_16, m_inl, hm.np, hm.ne, Option.bind_some, g_if, g_eta, cond_true, cond_false, n_in_t, n_cl, h1, c2, n_eq_t]
    · refine pv_q0 hI (r := nI t) ?_ ⟨σ, ?_, fr.rf⟩
      · simp -implicitDefEqProofs (maxSteps := 2000000) (disch := omega) only [z0, z1, z2, z3, z4, z5, z6, z7, z8, z9, z10, z12, z15, z18, z20, z40, z64, z128, z250, z999, z1000, zn, if_true, if_false, n_eq_f, Nat.reduceAdd, c_gperson hc hk, c_gvalley, c_gshelf, c_gpass hc hk, c_within, Option.bind_some, g_if, g_eta, cond_true, cond_false, n_in_t, n_cl, h1, c3]
      · simp -implicitDefEqProofs (maxSteps := 2000000) (disch := omega) only [z0, z1, z2, z3, z4, z5, z6, z7, z8, z9, z10, z12, z15, z18, z20, z40, z64, z128, z250, z999, z1000, zn, if_true, if_false, n_eq_f, Nat.reduceAdd, m_gone hm hk, m_gvalley, m_in_0_1, m_in_0_2, m_in_0_20, m_in_0_255, m_in_0_3, m_in_0_4, m_in_0_40, m_in_0_5, m_in_0_6, m_in_0_7, m_in_0_9, m_in_0_999, m_in_1_12, m_in_1_60, m_in_12_16, m_inl, hm.np, hm.ne, Option.bind_some, g_if, g_eta, cond_true, cond_false, n_in_t, n_cl, h1, c5, c6, n_eq_t]
    · refine pv_q0 hI (r := nI (10 + p)) ?_ ⟨σ, ?_, fr.rf⟩
      · simp -implicitDefEqProofs (maxSteps := 2000000) (disch := omega) only [z0, z1, z2, z3, z4, z5, z6, z7, z8, z9, z10, z12, z15, z18, z20, z40, z64, z128, z250, z999, z1000, zn, if_true, if_false, n_eq_f, Nat.reduceAdd, c_gperson hc hk, c_gvalley, c_gshelf, c_gpass hc hk, c_within, Option.bind_some, g_if, g_eta, cond_true, cond_false, n_in_t, n_cl, h1, c2]
      · simp -implicitDefEqProofs (maxSteps := 2000000) (disch := omega) only [z0, z1, z2, z3, z4, z5, z6, z7, z8, z9, z10, z12, z15, z18, z20, z40, z64, z128, z250, z999, z1000, zn, if_true, if_false, n_eq_f, Nat.reduceAdd, m_gone hm hk, m_gvalley, m_in_0_1, m_in_0_2, m_in_0_20, m_in_0_255, m_in_0_3, m_in_0_4, m_in_0_40, m_in_0_5, m_in_0_6, m_in_0_7, m_in_0_9, m_in_0_999, m_in_1_12, m_in_1_60, m_in_12_16, m_inl, hm.np, hm.ne, Option.bind_some, g_if, g_eta, cond_true, cond_false, n_in_t, n_cl, h1, c3, c4, n_eq_t, nI_add]
theorem pv_element (a1 : Int32) (a2 : Int32) (σ : am_S) (hI : pu_Inv σ) : ∃ (r : Int64) (σ1 σ2 : am_S), fn_X7_element a1 a2 σ = some (r, σ1) ∧ fn_X8_element 5 a1 a2 σ1 = some (r, σ2) ∧ pu_Inv σ2 := by
  obtain ⟨A, hI⟩ := hI
  have hk := hI.1.1
  have hne := hk.2.1
  have hc := hI.1.2.1
  have hm := hI.1.2.2.1
  unfold fn_X7_element fn_X8_element fn_X2_elementAt jn_X8_element_51
  cases h1 : gN 0 7 a1
  · refine pv_q0 hI (r := 0) ?_ ⟨σ, ?_, fr.rf⟩
    · unfold fn_X2_hasElement
      simp -implicitDefEqProofs (maxSteps := 2000000) (disch := omega) only [z0, z1, z2, z3, z4, z5, z6, z7, z8, z9, z10, z12, z15, z18, z20, z40, z64, z128, z250, z999, z1000, zn, if_true, if_false, n_eq_f, Nat.reduceAdd, c_gperson hc hk, c_gvalley, c_gshelf, c_gpass hc hk, c_within, Option.bind_some, g_if, g_eta, cond_true, cond_false, n_in_t, n_cl, h1]
    · simp -implicitDefEqProofs (maxSteps := 2000000) (disch := omega) only [z0, z1, z2, z3, z4, z5, z6, z7, z8, z9, z10, z12, z15, z18, z20, z40, z64, z128, z250, z999, z1000, zn, if_true, if_false, n_eq_f, Nat.reduceAdd, m_gone hm hk, m_gvalley, m_in_0_1, m_in_0_2, m_in_0_20, m_in_0_255, m_in_0_3, m_in_0_4, m_in_0_40, m_in_0_5, m_in_0_6, m_in_0_7, m_in_0_9, m_in_0_999, m_in_1_12, m_in_1_60, m_in_12_16, m_inl, hm.np, hm.ne, Option.bind_some, g_if, g_eta, cond_true, cond_false, n_in_t, n_cl, h1]
  · obtain ⟨s, rfl, -, hs⟩ := gN_n h1
    have hs8 : s < 8 := by omega
    rcases pu_s1_of.mp (hI.1.2.2.2.2.2.2 s (by omega)) with c | ⟨t, n, c⟩ | ⟨p, c⟩
    · refine pv_q0 hI (r := 0) ?_ ⟨σ, ?_, fr.rf⟩
      · simp -implicitDefEqProofs (maxSteps := 2000000) (disch := omega) only [z0, z1, z2, z3, z4, z5, z6, z7, z8, z9, z10, z12, z15, z18, z20, z40, z64, z128, z250, z999, z1000, zn, if_true, if_false, n_eq_f, Nat.reduceAdd, c_gperson hc hk, c_gvalley, c_gshelf, c_gpass hc hk, c_within, Option.bind_some, g_if, g_eta, cond_true, cond_false, n_in_t, n_cl, c_hasE0 hs8 (c_isRow0 hs8 c), n_eq_t]
      · simp -implicitDefEqProofs (maxSteps := 2000000) (disch := omega) only [z0, z1, z2, z3, z4, z5, z6, z7, z8, z9, z10, z12, z15, z18, z20, z40, z64, z128, z250, z999, z1000, zn, if_true, if_false, n_eq_f, Nat.reduceAdd, m_gone hm hk, m_gvalley, m_in_0_1, m_in_0_2, m_in_0_20, m_in_0_255, m_in_0_3, m_in_0_4, m_in_0_40, m_in_0_5, m_in_0_6, m_in_0_7, m_in_0_9, m_in_0_999, m_in_1_12, m_in_1_60, m_in_12_16, m_inl, hm.np, hm.ne, Option.bind_some, g_if, g_eta, cond_true, cond_false, n_in_t, n_cl, h1, c.2]
    · obtain ⟨c1, c2, c3, c4, c5, c6, c7, c8⟩ := id c
      cases h2 : gL n a2
      · refine pv_q0 hI (r := 0) ?_ ⟨σ, ?_, fr.rf⟩
        · simp -implicitDefEqProofs (maxSteps := 2000000) (disch := omega) only [z0, z1, z2, z3, z4, z5, z6, z7, z8, z9, z10, z12, z15, z18, z20, z40, z64, z128, z250, z999, z1000, zn, if_true, if_false, n_eq_f, Nat.reduceAdd, c_gperson hc hk, c_gvalley, c_gshelf, c_gpass hc hk, c_within, Option.bind_some, g_if, g_eta, cond_true, cond_false, n_in_t, n_cl, c_hasE1 hs8 c, h2]
        · simp -implicitDefEqProofs (maxSteps := 2000000) (disch := omega) only [z0, z1, z2, z3, z4, z5, z6, z7, z8, z9, z10, z12, z15, z18, z20, z40, z64, z128, z250, z999, z1000, zn, if_true, if_false, n_eq_f, Nat.reduceAdd, m_gone hm hk, m_gvalley, m_in_0_1, m_in_0_2, m_in_0_20, m_in_0_255, m_in_0_3, m_in_0_4, m_in_0_40, m_in_0_5, m_in_0_6, m_in_0_7, m_in_0_9, m_in_0_999, m_in_1_12, m_in_1_60, m_in_12_16, m_inl, hm.np, hm.ne, Option.bind_some, g_if, g_eta, cond_true, cond_false, n_in_t, n_cl, h1, c5, c7, n_eq_t, h2]
      · obtain ⟨j, rfl, hj⟩ := gL_n h2
        refine pv_q0 hI (r := σ.2 10 13 s j) ?_ ⟨σ, ?_, fr.rf⟩
        · simp -implicitDefEqProofs (maxSteps := 2000000) (disch := omega) only [z0, z1, z2, z3, z4, z5, z6, z7, z8, z9, z10, z12, z15, z18, z20, z40, z64, z128, z250, z999, z1000, zn, if_true, if_false, n_eq_f, Nat.reduceAdd, c_gperson hc hk, c_gvalley, c_gshelf, c_gpass hc hk, c_within, Option.bind_some, g_if, g_eta, cond_true, cond_false, n_in_t, n_cl, c_hasE1 hs8 c, h2]
        · simp -implicitDefEqProofs (maxSteps := 2000000) (disch := omega) only [z0, z1, z2, z3, z4, z5, z6, z7, z8, z9, z10, z12, z15, z18, z20, z40, z64, z128, z250, z999, z1000, zn, if_true, if_false, n_eq_f, Nat.reduceAdd, m_gone hm hk, m_gvalley, m_in_0_1, m_in_0_2, m_in_0_20, m_in_0_255, m_in_0_3, m_in_0_4, m_in_0_40, m_in_0_5, m_in_0_6, m_in_0_7, m_in_0_9, m_in_0_999, m_in_1_12, m_in_1_60, m_in_12_16, m_inl, hm.np, hm.ne, Option.bind_some, g_if, g_eta, cond_true, cond_false, n_in_t, n_cl, h1, c5, c7, n_eq_t, h2, c8 j (by omega)]
    · refine pv_q0 hI (r := 0) ?_ ⟨σ, ?_, fr.rf⟩
      · simp -implicitDefEqProofs (maxSteps := 2000000) (disch := omega) only [z0, z1, z2, z3, z4, z5, z6, z7, z8, z9, z10, z12, z15, z18, z20, z40, z64, z128, z250, z999, z1000, zn, if_true, if_false, n_eq_f, Nat.reduceAdd, c_gperson hc hk, c_gvalley, c_gshelf, c_gpass hc hk, c_within, Option.bind_some, g_if, g_eta, cond_true, cond_false, n_in_t, n_cl, c_hasE0 hs8 (c_isRow2 hk hs8 c), n_eq_t]
      · simp -implicitDefEqProofs (maxSteps := 2000000) (disch := omega) only [z0, z1, z2, z3, z4, z5, z6, z7, z8, z9, z10, z12, z15, z18, z20, z40, z64, z128, z250, z999, z1000, zn, if_true, if_false, n_eq_f, Nat.reduceAdd, m_gone hm hk, m_gvalley, m_in_0_1, m_in_0_2, m_in_0_20, m_in_0_255, m_in_0_3, m_in_0_4, m_in_0_40, m_in_0_5, m_in_0_6, m_in_0_7, m_in_0_9, m_in_0_999, m_in_1_12, m_in_1_60, m_in_12_16, m_inl, hm.np, hm.ne, Option.bind_some, g_if, g_eta, cond_true, cond_false, n_in_t, n_cl, h1, c.2.2.1]
