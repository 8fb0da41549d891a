/-! ===== calls: people told, the draft ===== -/
theorem z255 : (255 : Int32) = nI 255 := rfl
theorem pv_tell (a1 : Int32) (a2 : Int32) (a3 : Int32) (σ : am_S) (hI : pu_Inv σ) : ∃ (r : Int32) (σ1 σ2 : am_S), fn_X7_tell a1 a2 a3 σ = some (r, σ1) ∧ fn_X8_tell 5 a1 a2 a3 σ1 = some (r, σ2) ∧ pu_Inv σ2 := by
  obtain ⟨A, hI⟩ := hI
  have hk := hI.1.1
  have hm := hI.1.2.2.1
  have hne := hk.2.1
  have hnp := hk.1
  have hc := hI.1.2.1
  cases hp : gL (lne A) a1
  · obtain ⟨x, hx⟩ : ∃ x, fn_X7_toldFact a2 σ = some (x, σ) := by
      unfold fn_X7_toldFact
      split
      · exact ⟨_, rfl⟩
      · split
        · exact ⟨_, rfl⟩
        · split
          · exact ⟨_, rfl⟩
          · split <;> exact ⟨_, rfl⟩
    · refine pv_t hI 0 (by decide) ?_ (fun σ1 hJ hF => ?_)
      · unfold fn_X7_tell jn_X7_tell_36
        simp -implicitDefEqProofs (maxSteps := 2000000) (disch := omega) only [z0, z1, z2, z3, z4, z5, z6, z7, z8, z9, z10, z12, z15, z18, z20, z40, z64, z128, z250, z999, z1000, zn, if_true, if_false, n_eq_f, Nat.reduceAdd, c_gperson hc hk, c_gvalley, c_gshelf, c_gpass hc hk, c_within, Option.bind_some, g_if, g_eta, cond_true, cond_false, n_in_t, n_cl, true_or, or_true, z255, n_neg1, n_eq_t, n_eq_f, Nat.reduceEqDiff, g_or, hp, hx]
      · have hm := hJ.2.2.1
        unfold fn_X8_tell jn_X8_tell_17 jn_X8_tell_25 jn_X8_tell_42 jn_X8_tell_59 jn_X8_tell_63 jn_X8_tell_64
        simp -implicitDefEqProofs (maxSteps := 2000000) (disch := omega) only [z0, z1, z2, z3, z4, z5, z6, z7, z8, z9, z10, z12, z15, z18, z20, z40, z64, z128, z250, z999, z1000, zn, if_true, if_false, n_eq_f, Nat.reduceAdd, m_gone hm hk, m_gvalley, m_in_0_1, m_in_0_2, m_in_0_20, m_in_0_255, m_in_0_3, m_in_0_4, m_in_0_40, m_in_0_5, m_in_0_6, m_in_0_7, m_in_0_9, m_in_0_999, m_in_1_12, m_in_1_60, m_in_12_16, m_inl, hm.np, hm.ne, Option.bind_some, g_if, g_eta, cond_true, cond_false, n_in_t, n_cl, true_or, or_true, z255, n_neg1, n_eq_t, n_eq_f, Nat.reduceEqDiff, g_or, hp]
  obtain ⟨p, rfl, lp⟩ := gL_n hp
  by_cases c0 : a2 = nI 0
  · subst c0
    cases g : gN 0 6 a3
    · refine pv_t hI 0 (by decide) ?_ (fun σ1 hJ hF => ?_)
      · unfold fn_X7_tell jn_X7_tell_36 fn_X7_toldFact fn_X7_mostOfFact
        simp -implicitDefEqProofs (maxSteps := 2000000) (disch := omega) only [z0, z1, z2, z3, z4, z5, z6, z7, z8, z9, z10, z12, z15, z18, z20, z40, z64, z128, z250, z999, z1000, zn, if_true, if_false, n_eq_f, Nat.reduceAdd, c_gperson hc hk, c_gvalley, c_gshelf, c_gpass hc hk, c_within, Option.bind_some, g_if, g_eta, cond_true, cond_false, n_in_t, n_cl, true_or, or_true, z255, n_neg1, n_eq_t, n_eq_f, Nat.reduceEqDiff, g_or, hp, g]
      · have hm := hJ.2.2.1
        unfold fn_X8_tell jn_X8_tell_17 jn_X8_tell_25 jn_X8_tell_42 jn_X8_tell_59 jn_X8_tell_63 jn_X8_tell_64
        simp -implicitDefEqProofs (maxSteps := 2000000) (disch := omega) only [z0, z1, z2, z3, z4, z5, z6, z7, z8, z9, z10, z12, z15, z18, z20, z40, z64, z128, z250, z999, z1000, zn, if_true, if_false, n_eq_f, Nat.reduceAdd, m_gone hm hk, m_gvalley, m_in_0_1, m_in_0_2, m_in_0_20, m_in_0_255, m_in_0_3, m_in_0_4, m_in_0_40, m_in_0_5, m_in_0_6, m_in_0_7, m_in_0_9, m_in_0_999, m_in_1_12, m_in_1_60, m_in_12_16, m_inl, hm.np, hm.ne, Option.bind_some, g_if, g_eta, cond_true, cond_false, n_in_t, n_cl, true_or, or_true, z255, n_neg1, n_eq_t, n_eq_f, Nat.reduceEqDiff, g_or, hp, g]
    · obtain ⟨x, rfl, -, hx⟩ := gN_n g
      refine ⟨nI (lE A p 3), am_u σ 1 8 p 3 (nI x), am_u (am_u σ 1 8 p 3 (nI x)) 5 (55 + 3) 0 p (nI x), ?_, ?_, _, hI.sE (by decide) (hk.sE (by omega))⟩
      · unfold fn_X7_tell jn_X7_tell_36 fn_X7_toldFact fn_X7_mostOfFact
        simp -implicitDefEqProofs (maxSteps := 2000000) (disch := omega) only [z0, z1, z2, z3, z4, z5, z6, z7, z8, z9, z10, z12, z15, z18, z20, z40, z64, z128, z250, z999, z1000, zn, if_true, if_false, n_eq_f, Nat.reduceAdd, c_gperson hc hk, c_gvalley, c_gshelf, c_gpass hc hk, c_within, Option.bind_some, g_if, g_eta, cond_true, cond_false, n_in_t, n_cl, true_or, or_true, z255, n_neg1, n_eq_t, n_eq_f, Nat.reduceEqDiff, g_or, hp, g, hc.E]
      · have hm1 : pu_m A 5 (am_u σ 1 8 p 3 (nI x)) := fr1.m1 (fun _ _ _ _ => by omega) hm
        unfold fn_X8_tell jn_X8_tell_17 jn_X8_tell_25 jn_X8_tell_42 jn_X8_tell_59 jn_X8_tell_63 jn_X8_tell_64
        simp -implicitDefEqProofs (maxSteps := 2000000) (disch := omega) only [z0, z1, z2, z3, z4, z5, z6, z7, z8, z9, z10, z12, z15, z18, z20, z40, z64, z128, z250, z999, z1000, zn, if_true, if_false, n_eq_f, Nat.reduceAdd, m_gone hm1 hk, m_gvalley, m_in_0_1, m_in_0_2, m_in_0_20, m_in_0_255, m_in_0_3, m_in_0_4, m_in_0_40, m_in_0_5, m_in_0_6, m_in_0_7, m_in_0_9, m_in_0_999, m_in_1_12, m_in_1_60, m_in_12_16, m_inl, hm1.np, hm1.ne, Option.bind_some, g_if, g_eta, cond_true, cond_false, n_in_t, n_cl, true_or, or_true, z255, n_neg1, n_eq_t, n_eq_f, Nat.reduceEqDiff, g_or, hp, g, hm1.E3]
  by_cases c1 : a2 = nI 1
  · subst c1
    cases g : gN 0 999 a3
    · refine pv_t hI 0 (by decide) ?_ (fun σ1 hJ hF => ?_)
      · unfold fn_X7_tell jn_X7_tell_36 fn_X7_toldFact fn_X7_mostOfFact
        simp -implicitDefEqProofs (maxSteps := 2000000) (disch := omega) only [z0, z1, z2, z3, z4, z5, z6, z7, z8, z9, z10, z12, z15, z18, z20, z40, z64, z128, z250, z999, z1000, zn, if_true, if_false, n_eq_f, Nat.reduceAdd, c_gperson hc hk, c_gvalley, c_gshelf, c_gpass hc hk, c_within, Option.bind_some, g_if, g_eta, cond_true, cond_false, n_in_t, n_cl, true_or, or_true, z255, n_neg1, n_eq_t, n_eq_f, Nat.reduceEqDiff, g_or, hp, g]
      · have hm := hJ.2.2.1
        unfold fn_X8_tell jn_X8_tell_17 jn_X8_tell_25 jn_X8_tell_42 jn_X8_tell_59 jn_X8_tell_63 jn_X8_tell_64
        simp -implicitDefEqProofs (maxSteps := 2000000) (disch := omega) only [z0, z1, z2, z3, z4, z5, z6, z7, z8, z9, z10, z12, z15, z18, z20, z40, z64, z128, z250, z999, z1000, zn, if_true, if_false, n_eq_f, Nat.reduceAdd, m_gone hm hk, m_gvalley, m_in_0_1, m_in_0_2, m_in_0_20, m_in_0_255, m_in_0_3, m_in_0_4, m_in_0_40, m_in_0_5, m_in_0_6, m_in_0_7, m_in_0_9, m_in_0_999, m_in_1_12, m_in_1_60, m_in_12_16, m_inl, hm.np, hm.ne, Option.bind_some, g_if, g_eta, cond_true, cond_false, n_in_t, n_cl, true_or, or_true, z255, n_neg1, n_eq_t, n_eq_f, Nat.reduceEqDiff, g_or, hp, g]
    · obtain ⟨x, rfl, -, hx⟩ := gN_n g
      refine ⟨nI (lE A p 5), am_u σ 1 8 p 5 (nI x), am_u (am_u σ 1 8 p 5 (nI x)) 5 (55 + 5) 0 p (nI x), ?_, ?_, _, hI.sE (by decide) (hk.sE (by omega))⟩
      · unfold fn_X7_tell jn_X7_tell_36 fn_X7_toldFact fn_X7_mostOfFact
        simp -implicitDefEqProofs (maxSteps := 2000000) (disch := omega) only [z0, z1, z2, z3, z4, z5, z6, z7, z8, z9, z10, z12, z15, z18, z20, z40, z64, z128, z250, z999, z1000, zn, if_true, if_false, n_eq_f, Nat.reduceAdd, c_gperson hc hk, c_gvalley, c_gshelf, c_gpass hc hk, c_within, Option.bind_some, g_if, g_eta, cond_true, cond_false, n_in_t, n_cl, true_or, or_true, z255, n_neg1, n_eq_t, n_eq_f, Nat.reduceEqDiff, g_or, hp, g, hc.E]
      · have hm1 : pu_m A 5 (am_u σ 1 8 p 5 (nI x)) := fr1.m1 (fun _ _ _ _ => by omega) hm
        unfold fn_X8_tell jn_X8_tell_17 jn_X8_tell_25 jn_X8_tell_42 jn_X8_tell_59 jn_X8_tell_63 jn_X8_tell_64
        simp -implicitDefEqProofs (maxSteps := 2000000) (disch := omega) only [z0, z1, z2, z3, z4, z5, z6, z7, z8, z9, z10, z12, z15, z18, z20, z40, z64, z128, z250, z999, z1000, zn, if_true, if_false, n_eq_f, Nat.reduceAdd, m_gone hm1 hk, m_gvalley, m_in_0_1, m_in_0_2, m_in_0_20, m_in_0_255, m_in_0_3, m_in_0_4, m_in_0_40, m_in_0_5, m_in_0_6, m_in_0_7, m_in_0_9, m_in_0_999, m_in_1_12, m_in_1_60, m_in_12_16, m_inl, hm1.np, hm1.ne, Option.bind_some, g_if, g_eta, cond_true, cond_false, n_in_t, n_cl, true_or, or_true, z255, n_neg1, n_eq_t, n_eq_f, Nat.reduceEqDiff, g_or, hp, g, hm1.E5]
  by_cases c2 : a2 = nI 2
  · subst c2
    cases g : gN 0 20 a3
    · refine pv_t hI 0 (by decide) ?_ (fun σ1 hJ hF => ?_)
      · unfold fn_X7_tell jn_X7_tell_36 fn_X7_toldFact fn_X7_mostOfFact
        simp -implicitDefEqProofs (maxSteps := 2000000) (disch := omega) only [z0, z1, z2, z3, z4, z5, z6, z7, z8, z9, z10, z12, z15, z18, z20, z40, z64, z128, z250, z999, z1000, zn, if_true, if_false, n_eq_f, Nat.reduceAdd, c_gperson hc hk, c_gvalley, c_gshelf, c_gpass hc hk, c_within, Option.bind_some, g_if, g_eta, cond_true, cond_false, n_in_t, n_cl, true_or, or_true, z255, n_neg1, n_eq_t, n_eq_f, Nat.reduceEqDiff, g_or, hp, g]
      · have hm := hJ.2.2.1
        unfold fn_X8_tell jn_X8_tell_17 jn_X8_tell_25 jn_X8_tell_42 jn_X8_tell_59 jn_X8_tell_63 jn_X8_tell_64
        simp -implicitDefEqProofs (maxSteps := 2000000) (disch := omega) only [z0, z1, z2, z3, z4, z5, z6, z7, z8, z9, z10, z12, z15, z18, z20, z40, z64, z128, z250, z999, z1000, zn, if_true, if_false, n_eq_f, Nat.reduceAdd, m_gone hm hk, m_gvalley, m_in_0_1, m_in_0_2, m_in_0_20, m_in_0_255, m_in_0_3, m_in_0_4, m_in_0_40, m_in_0_5, m_in_0_6, m_in_0_7, m_in_0_9, m_in_0_999, m_in_1_12, m_in_1_60, m_in_12_16, m_inl, hm.np, hm.ne, Option.bind_some, g_if, g_eta, cond_true, cond_false, n_in_t, n_cl, true_or, or_true, z255, n_neg1, n_eq_t, n_eq_f, Nat.reduceEqDiff, g_or, hp, g]
    · obtain ⟨x, rfl, -, hx⟩ := gN_n g
      refine ⟨nI (lE A p 6), am_u σ 1 8 p 6 (nI x), am_u (am_u σ 1 8 p 6 (nI x)) 5 (55 + 6) 0 p (nI x), ?_, ?_, _, hI.sE (by decide) (hk.sE (by omega))⟩
      · unfold fn_X7_tell jn_X7_tell_36 fn_X7_toldFact fn_X7_mostOfFact
        simp -implicitDefEqProofs (maxSteps := 2000000) (disch := omega) only [z0, z1, z2, z3, z4, z5, z6, z7, z8, z9, z10, z12, z15, z18, z20, z40, z64, z128, z250, z999, z1000, zn, if_true, if_false, n_eq_f, Nat.reduceAdd, c_gperson hc hk, c_gvalley, c_gshelf, c_gpass hc hk, c_within, Option.bind_some, g_if, g_eta, cond_true, cond_false, n_in_t, n_cl, true_or, or_true, z255, n_neg1, n_eq_t, n_eq_f, Nat.reduceEqDiff, g_or, hp, g, hc.E]
      · have hm1 : pu_m A 5 (am_u σ 1 8 p 6 (nI x)) := fr1.m1 (fun _ _ _ _ => by omega) hm
        unfold fn_X8_tell jn_X8_tell_17 jn_X8_tell_25 jn_X8_tell_42 jn_X8_tell_59 jn_X8_tell_63 jn_X8_tell_64
        simp -implicitDefEqProofs (maxSteps := 2000000) (disch := omega) only [z0, z1, z2, z3, z4, z5, z6, z7, z8, z9, z10, z12, z15, z18, z20, z40, z64, z128, z250, z999, z1000, zn, if_true, if_false, n_eq_f, Nat.reduceAdd, m_gone hm1 hk, m_gvalley, m_in_0_1, m_in_0_2, m_in_0_20, m_in_0_255, m_in_0_3, m_in_0_4, m_in_0_40, m_in_0_5, m_in_0_6, m_in_0_7, m_in_0_9, m_in_0_999, m_in_1_12, m_in_1_60, m_in_12_16, m_inl, hm1.np, hm1.ne, Option.bind_some, g_if, g_eta, cond_true, cond_false, n_in_t, n_cl, true_or, or_true, z255, n_neg1, n_eq_t, n_eq_f, Nat.reduceEqDiff, g_or, hp, g, hm1.E6]
  by_cases c3 : a2 = nI 3
  · subst c3
    cases g : gN 0 6 a3
    · refine pv_t hI 0 (by decide) ?_ (fun σ1 hJ hF => ?_)
      · unfold fn_X7_tell jn_X7_tell_36 fn_X7_toldFact fn_X7_mostOfFact
        simp -implicitDefEqProofs (maxSteps := 2000000) (disch := omega) only [z0, z1, z2, z3, z4, z5, z6, z7, z8, z9, z10, z12, z15, z18, z20, z40, z64, z128, z250, z999, z1000, zn, if_true, if_false, n_eq_f, Nat.reduceAdd, c_gperson hc hk, c_gvalley, c_gshelf, c_gpass hc hk, c_within, Option.bind_some, g_if, g_eta, cond_true, cond_false, n_in_t, n_cl, true_or, or_true, z255, n_neg1, n_eq_t, n_eq_f, Nat.reduceEqDiff, g_or, hp, g]
      · have hm := hJ.2.2.1
        unfold fn_X8_tell jn_X8_tell_17 jn_X8_tell_25 jn_X8_tell_42 jn_X8_tell_59 jn_X8_tell_63 jn_X8_tell_64
        simp -implicitDefEqProofs (maxSteps := 2000000) (disch := omega) only [z0, z1, z2, z3, z4, z5, z6, z7, z8, z9, z10, z12, z15, z18, z20, z40, z64, z128, z250, z999, z1000, zn, if_true, if_false, n_eq_f, Nat.reduceAdd, m_gone hm hk, m_gvalley, m_in_0_1, m_in_0_2, m_in_0_20, m_in_0_255, m_in_0_3, m_in_0_4, m_in_0_40, m_in_0_5, m_in_0_6, m_in_0_7, m_in_0_9, m_in_0_999, m_in_1_12, m_in_1_60, m_in_12_16, m_inl, hm.np, hm.ne, Option.bind_some, g_if, g_eta, cond_true, cond_false, n_in_t, n_cl, true_or, or_true, z255, n_neg1, n_eq_t, n_eq_f, Nat.reduceEqDiff, g_or, hp, g]
    · obtain ⟨x, rfl, -, hx⟩ := gN_n g
      refine ⟨nI (lE A p 2), am_u σ 1 8 p 2 (nI x), am_u (am_u σ 1 8 p 2 (nI x)) 5 (55 + 2) 0 p (nI x), ?_, ?_, _, hI.sE (by decide) (hk.sE (by omega))⟩
      · unfold fn_X7_tell jn_X7_tell_36 fn_X7_toldFact fn_X7_mostOfFact
        simp -implicitDefEqProofs (maxSteps := 2000000) (disch := omega) only [z0, z1, z2, z3, z4, z5, z6, z7, z8, z9, z10, z12, z15, z18, z20, z40, z64, z128, z250, z999, z1000, zn, if_true, if_false, n_eq_f, Nat.reduceAdd, c_gperson hc hk, c_gvalley, c_gshelf, c_gpass hc hk, c_within, Option.bind_some, g_if, g_eta, cond_true, cond_false, n_in_t, n_cl, true_or, or_true, z255, n_neg1, n_eq_t, n_eq_f, Nat.reduceEqDiff, g_or, hp, g, hc.E]
      · have hm1 : pu_m A 5 (am_u σ 1 8 p 2 (nI x)) := fr1.m1 (fun _ _ _ _ => by omega) hm
        unfold fn_X8_tell jn_X8_tell_17 jn_X8_tell_25 jn_X8_tell_42 jn_X8_tell_59 jn_X8_tell_63 jn_X8_tell_64
        simp -implicitDefEqProofs (maxSteps := 2000000) (disch := omega) only [z0, z1, z2, z3, z4, z5, z6, z7, z8, z9, z10, z12, z15, z18, z20, z40, z64, z128, z250, z999, z1000, zn, if_true, if_false, n_eq_f, Nat.reduceAdd, m_gone hm1 hk, m_gvalley, m_in_0_1, m_in_0_2, m_in_0_20, m_in_0_255, m_in_0_3, m_in_0_4, m_in_0_40, m_in_0_5, m_in_0_6, m_in_0_7, m_in_0_9, m_in_0_999, m_in_1_12, m_in_1_60, m_in_12_16, m_inl, hm1.np, hm1.ne, Option.bind_some, g_if, g_eta, cond_true, cond_false, n_in_t, n_cl, true_or, or_true, z255, n_neg1, n_eq_t, n_eq_f, Nat.reduceEqDiff, g_or, hp, g, hm1.E2]
  · refine pv_t hI 0 (by decide) ?_ (fun σ1 hJ hF => ?_)
    · unfold fn_X7_tell jn_X7_tell_36 fn_X7_toldFact fn_X7_mostOfFact
      simp -implicitDefEqProofs (maxSteps := 2000000) (disch := omega) only [z0, z1, z2, z3, z4, z5, z6, z7, z8, z9, z10, z12, z15, z18, z20, z40, z64, z128, z250, z999, z1000, zn, if_true, if_false, n_eq_f, Nat.reduceAdd, c_gperson hc hk, c_gvalley, c_gshelf, c_gpass hc hk, c_within, Option.bind_some, g_if, g_eta, cond_true, cond_false, n_in_t, n_cl, true_or, or_true, z255, n_neg1, n_eq_t, n_eq_f, Nat.reduceEqDiff, g_or, hp, c0, c1, c2, c3]
    · have hm := hJ.2.2.1
      unfold fn_X8_tell jn_X8_tell_17 jn_X8_tell_25 jn_X8_tell_42 jn_X8_tell_59 jn_X8_tell_63 jn_X8_tell_64
      simp -implicitDefEqProofs (maxSteps := 2000000) (disch := omega) only [z0, z1, z2, z3, z4, z5, z6, z7, z8, z9, z10, z12, z15, z18, z20, z40, z64, z128, z250, z999, z1000, zn, if_true, if_false, n_eq_f, Nat.reduceAdd, m_gone hm hk, m_gvalley, m_in_0_1, m_in_0_2, m_in_0_20, m_in_0_255, m_in_0_3, m_in_0_4, m_in_0_40, m_in_0_5, m_in_0_6, m_in_0_7, m_in_0_9, m_in_0_999, m_in_1_12, m_in_1_60, m_in_12_16, m_inl, hm.np, hm.ne, Option.bind_some, g_if, g_eta, cond_true, cond_false, n_in_t, n_cl, true_or, or_true, z255, n_neg1, n_eq_t, n_eq_f, Nat.reduceEqDiff, g_or, hp, c0, c1, c2, c3]
section PTP
variable {A : pu_L} {σ : am_S} {n b : Nat}
theorem STp_tp {σ' : am_S} {n : Nat} (hn : n ≤ 250) (h1 : σ'.1 11 14 0 2 = nI n) (h2 : σ'.1 5 40 0 7 = nI n) (h3 : ∀ i, i < n → ∃ b, b < 256 ∧ σ'.1 11 15 0 i = nI b ∧ σ'.1 5 48 0 i = nI b) : pu_tp σ' := ⟨n, hn, h1, h2, h3⟩
end PTP
theorem pv_wipe  (σ : am_S) (hI : pu_Inv σ) : ∃ (r : Int32) (σ1 σ2 : am_S), fn_X7_wipe  σ = some (r, σ1) ∧ fn_X8_wipe 5  σ1 = some (r, σ2) ∧ pu_Inv σ2 := by
  obtain ⟨A, hI⟩ := hI
  have hk := hI.1.1
  have hm := hI.1.2.2.1
  have hne := hk.2.1
  have hnp := hk.1
  have hc := hI.1.2.1
  obtain ⟨n, t1, t2, t3, t4⟩ := hI.1.2.2.2.2.2.1
  have f : fr STp σ (am_u (am_u σ 11 14 0 2 0) 5 40 0 7 0) := (fr.u (by unfold STp; omega)).tr (fr.u (by unfold STp; omega))
  refine ⟨nI n, am_u σ 11 14 0 2 0, am_u (am_u σ 11 14 0 2 0) 5 40 0 7 0, ?_, ?_, A, f.IT hI (STp_tp (n := 0) (by omega) ?_ ?_ (fun i hi => absurd hi (Nat.not_lt_zero _)))⟩
  · unfold fn_X7_wipe
    rw [t2]
  · unfold fn_X8_wipe
    rw [u_ne (by omega), t3]
  · rw [u_ne (by omega), u_at]; rfl
  · rw [u_at]; rfl
theorem pv_feed (a1 : Int32) (σ : am_S) (hI : pu_Inv σ) : ∃ (r : Int32) (σ1 σ2 : am_S), fn_X7_feed a1 σ = some (r, σ1) ∧ fn_X8_feed 5 a1 σ1 = some (r, σ2) ∧ pu_Inv σ2 := by
  obtain ⟨A, hI⟩ := hI
  have hk := hI.1.1
  have hm := hI.1.2.2.1
  have hne := hk.2.1
  have hnp := hk.1
  have hc := hI.1.2.1
  obtain ⟨n, t1, t2, t3, t4⟩ := hI.1.2.2.2.2.2.1
  cases h : gN 0 255 a1
  · refine pv_t hI 0 (by decide) ?_ (fun σ1 hJ hF => ?_)
    · unfold fn_X7_feed fn_X4_putByte
      simp -implicitDefEqProofs (maxSteps := 2000000) (disch := omega) only [z0, z1, z2, z3, z4, z5, z6, z7, z8, z9, z10, z12, z15, z18, z20, z40, z64, z128, z250, z999, z1000, zn, if_true, if_false, n_eq_f, Nat.reduceAdd, c_gperson hc hk, c_gvalley, c_gshelf, c_gpass hc hk, c_within, Option.bind_some, g_if, g_eta, cond_true, cond_false, n_in_t, n_cl, true_or, or_true, z255, n_neg1, n_eq_t, n_eq_f, Nat.reduceEqDiff, g_or, h]
    · have hm := hJ.2.2.1
      unfold fn_X8_feed
      simp -implicitDefEqProofs (maxSteps := 2000000) (disch := omega) only [z0, z1, z2, z3, z4, z5, z6, z7, z8, z9, z10, z12, z15, z18, z20, z40, z64, z128, z250, z999, z1000, zn, if_true, if_false, n_eq_f, Nat.reduceAdd, m_gone hm hk, m_gvalley, m_in_0_1, m_in_0_2, m_in_0_20, m_in_0_255, m_in_0_3, m_in_0_4, m_in_0_40, m_in_0_5, m_in_0_6, m_in_0_7, m_in_0_9, m_in_0_999, m_in_1_12, m_in_1_60, m_in_12_16, m_inl, hm.np, hm.ne, Option.bind_some, g_if, g_eta, cond_true, cond_false, n_in_t, n_cl, true_or, or_true, z255, n_neg1, n_eq_t, n_eq_f, Nat.reduceEqDiff, g_or, h]
  obtain ⟨b, rfl, -, hb⟩ := gN_n h
  by_cases q : n = 250
  · subst q
    refine pv_t hI 4 (by decide) ?_ (fun σ1 hJ hF => ?_)
    · unfold fn_X7_feed fn_X4_putByte
      simp -implicitDefEqProofs (maxSteps := 2000000) (disch := omega) only [z0, z1, z2, z3, z4, z5, z6, z7, z8, z9, z10, z12, z15, z18, z20, z40, z64, z128, z250, z999, z1000, zn, if_true, if_false, n_eq_f, Nat.reduceAdd, c_gperson hc hk, c_gvalley, c_gshelf, c_gpass hc hk, c_within, Option.bind_some, g_if, g_eta, cond_true, cond_false, n_in_t, n_cl, true_or, or_true, z255, n_neg1, n_eq_t, n_eq_f, Nat.reduceEqDiff, g_or, h, t2, n_lt_f]
    · have hm := hJ.2.2.1
      have t9 : σ1.1 5 40 0 7 = nI 250 := (hF 5 40 0 7 (by unfold SJ SX; omega)).1.trans t3
      unfold fn_X8_feed
      simp -implicitDefEqProofs (maxSteps := 2000000) (disch := omega) only [z0, z1, z2, z3, z4, z5, z6, z7, z8, z9, z10, z12, z15, z18, z20, z40, z64, z128, z250, z999, z1000, zn, if_true, if_false, n_eq_f, Nat.reduceAdd, m_gone hm hk, m_gvalley, m_in_0_1, m_in_0_2, m_in_0_20, m_in_0_255, m_in_0_3, m_in_0_4, m_in_0_40, m_in_0_5, m_in_0_6, m_in_0_7, m_in_0_9, m_in_0_999, m_in_1_12, m_in_1_60, m_in_12_16, m_inl, hm.np, hm.ne, Option.bind_some, g_if, g_eta, cond_true, cond_false, n_in_t, n_cl, true_or, or_true, z255, n_neg1, n_eq_t, n_eq_f, Nat.reduceEqDiff, g_or, h, t9]
  · have f : fr STp σ (am_u (am_u σ 11 15 0 n (nI b)) 11 14 0 2 (nI (n + 1))) := (fr.u (by unfold STp; omega)).tr (fr.u (by unfold STp; omega))
    have f2 : fr STp (am_u (am_u σ 11 15 0 n (nI b)) 11 14 0 2 (nI (n + 1))) (am_u (am_u (am_u (am_u σ 11 15 0 n (nI b)) 11 14 0 2 (nI (n + 1))) 5 40 0 7 (nI (n + 1))) 5 48 0 n (nI b)) := (fr.u (by unfold STp; omega)).tr (fr.u (by unfold STp; omega))
    have e1 : (am_u (am_u σ 11 15 0 n (nI b)) 11 14 0 2 (nI (n + 1))).1 5 40 0 7 = nI n := by rw [u_ne (by omega), u_ne (by omega), t3]
    refine ⟨nI (n + 1), am_u (am_u σ 11 15 0 n (nI b)) 11 14 0 2 (nI (n + 1)), _, ?_, ?_, A, (f.tr f2).IT hI (STp_tp (n := n + 1) (by omega) ?_ ?_ (fun i hi => ?_))⟩
    · unfold fn_X7_feed fn_X4_putByte
      simp -implicitDefEqProofs (maxSteps := 2000000) (disch := omega) only [z0, z1, z2, z3, z4, z5, z6, z7, z8, z9, z10, z12, z15, z18, z20, z40, z64, z128, z250, z999, z1000, zn, if_true, if_false, n_eq_f, Nat.reduceAdd, c_gperson hc hk, c_gvalley, c_gshelf, c_gpass hc hk, c_within, Option.bind_some, g_if, g_eta, cond_true, cond_false, n_in_t, n_cl, true_or, or_true, z255, n_neg1, n_eq_t, n_eq_f, Nat.reduceEqDiff, g_or, h, t2, n_lt_t, n_le_f, nI_add, u_at]
    · unfold fn_X8_feed
      simp -implicitDefEqProofs (maxSteps := 2000000) (disch := omega) only [z0, z1, z2, z3, z4, z5, z6, z7, z8, z9, z10, z12, z15, z18, z20, z40, z64, z128, z250, z999, z1000, zn, if_true, if_false, n_eq_f, Nat.reduceAdd, m_gone hm hk, m_gvalley, m_in_0_1, m_in_0_2, m_in_0_20, m_in_0_255, m_in_0_3, m_in_0_4, m_in_0_40, m_in_0_5, m_in_0_6, m_in_0_7, m_in_0_9, m_in_0_999, m_in_1_12, m_in_1_60, m_in_12_16, m_inl, hm.np, hm.ne, Option.bind_some, g_if, g_eta, cond_true, cond_false, n_in_t, n_cl, true_or, or_true, z255, n_neg1, n_eq_t, n_eq_f, Nat.reduceEqDiff, g_or, h, e1, n_eq_f, nI_add, u_at]
    · rw [u_ne (by omega), u_ne (by omega), u_at]
    · rw [u_ne (by omega), u_at]
    · by_cases c : i = n
      · subst c
        refine ⟨b, by omega, ?_, u_at⟩
        rw [u_ne (by omega), u_ne (by omega), u_ne (by omega), u_at]
      · obtain ⟨b', b1, b2, b3⟩ := t4 i (by omega)
        refine ⟨b', b1, ?_, ?_⟩
        · rw [u_ne (by omega), u_ne (by omega), u_ne (by omega), u_ne (by omega), b2]
        · rw [u_ne (by omega), u_ne (by omega), u_ne (by omega), u_ne (by omega), b3]
theorem bits0 : (List.range 128).all (fun x => (List.range 7).all fun v => ((if nI x &&& ((1 : Int32) <<< (nI v &&& 31)) = 0 then (0 : Int32) else 1) == ((nI x >>> (nI v &&& 31)) &&& 1)) && ((nI x &&& (((1 : Int32) <<< (nI v &&& 31)) ^^^ (-1 : Int32))) == nI (nI x &&& (((1 : Int32) <<< (nI v &&& 31)) ^^^ (-1 : Int32))).toNatClampNeg) && ((nI x ||| ((1 : Int32) <<< (nI v &&& 31))) == nI (nI x ||| ((1 : Int32) <<< (nI v &&& 31))).toNatClampNeg) && Nat.ble (nI x &&& (((1 : Int32) <<< (nI v &&& 31)) ^^^ (-1 : Int32))).toNatClampNeg 127 && Nat.ble (nI x ||| ((1 : Int32) <<< (nI v &&& 31))).toNatClampNeg 127) = true := by decide +kernel
theorem bits {x v : Nat} (hx : x < 128) (hv : v < 7) : (if nI x &&& ((1 : Int32) <<< (nI v &&& 31)) = 0 then (0 : Int32) else 1) = ((nI x >>> (nI v &&& 31)) &&& 1) ∧ (∃ y, y < 128 ∧ nI x &&& (((1 : Int32) <<< (nI v &&& 31)) ^^^ (-1 : Int32)) = nI y) ∧ (∃ y, y < 128 ∧ nI x ||| ((1 : Int32) <<< (nI v &&& 31)) = nI y) := by
  have h := List.all_eq_true.mp (List.all_eq_true.mp bits0 x (List.mem_range.mpr hx)) v (List.mem_range.mpr hv)
  simp only [Bool.and_eq_true, beq_iff_eq, Nat.ble_eq] at h
  obtain ⟨⟨⟨⟨h1, h2⟩, h3⟩, h4⟩, h5⟩ := h
  exact ⟨h1, ⟨_, Nat.lt_succ_of_le h4, h2⟩, ⟨_, Nat.lt_succ_of_le h5, h3⟩⟩
theorem pv_duty (a1 : Int32) (a2 : Int32) (a3 : Int32) (σ : am_S) (hI : pu_Inv σ) (hb : a3 = 0 ∨ a3 = 1) : ∃ (r : Int32) (σ1 σ2 : am_S), fn_X7_duty a1 a2 a3 σ = some (r, σ1) ∧ fn_X8_duty 5 a1 a2 a3 σ1 = some (r, σ2) ∧ pu_Inv σ2 := by
  obtain ⟨A, hI⟩ := hI
  have hk := hI.1.1
  have hm := hI.1.2.2.1
  have hne := hk.2.1
  have hnp := hk.1
  have hc := hI.1.2.1
  cases hp : gL (lne A) a1
  · refine pv_t hI 0 (by decide) ?_ (fun σ1 hJ hF => ?_)
    · unfold fn_X7_duty jn_X7_duty_18 jn_X7_duty_56 jn_X7_duty_84
      simp -implicitDefEqProofs (maxSteps := 2000000) (disch := omega) only [z0, z1, z2, z3, z4, z5, z6, z7, z8, z9, z10, z12, z15, z18, z20, z40, z64, z128, z250, z999, z1000, zn, if_true, if_false, n_eq_f, Nat.reduceAdd, c_gperson hc hk, c_gvalley, c_gshelf, c_gpass hc hk, c_within, Option.bind_some, g_if, g_eta, cond_true, cond_false, n_in_t, n_cl, true_or, or_true, z255, n_neg1, n_eq_t, n_eq_f, Nat.reduceEqDiff, g_or, hp]
    · have hm := hJ.2.2.1
      unfold fn_X8_duty jn_X8_duty_16 jn_X8_duty_69
      simp -implicitDefEqProofs (maxSteps := 2000000) (disch := omega) only [z0, z1, z2, z3, z4, z5, z6, z7, z8, z9, z10, z12, z15, z18, z20, z40, z64, z128, z250, z999, z1000, zn, if_true, if_false, n_eq_f, Nat.reduceAdd, m_gone hm hk, m_gvalley, m_in_0_1, m_in_0_2, m_in_0_20, m_in_0_255, m_in_0_3, m_in_0_4, m_in_0_40, m_in_0_5, m_in_0_6, m_in_0_7, m_in_0_9, m_in_0_999, m_in_1_12, m_in_1_60, m_in_12_16, m_inl, hm.np, hm.ne, Option.bind_some, g_if, g_eta, cond_true, cond_false, n_in_t, n_cl, true_or, or_true, z255, n_neg1, n_eq_t, n_eq_f, Nat.reduceEqDiff, g_or, hp]
  obtain ⟨p, rfl, lp⟩ := gL_n hp
  cases h : gN 0 6 a2
  · refine pv_t hI 0 (by decide) ?_ (fun σ1 hJ hF => ?_)
    · unfold fn_X7_duty jn_X7_duty_18 jn_X7_duty_56 jn_X7_duty_84
      simp -implicitDefEqProofs (maxSteps := 2000000) (disch := omega) only [z0, z1, z2, z3, z4, z5, z6, z7, z8, z9, z10, z12, z15, z18, z20, z40, z64, z128, z250, z999, z1000, zn, if_true, if_false, n_eq_f, Nat.reduceAdd, c_gperson hc hk, c_gvalley, c_gshelf, c_gpass hc hk, c_within, Option.bind_some, g_if, g_eta, cond_true, cond_false, n_in_t, n_cl, true_or, or_true, z255, n_neg1, n_eq_t, n_eq_f, Nat.reduceEqDiff, g_or, hp, h]
    · have hm := hJ.2.2.1
      unfold fn_X8_duty jn_X8_duty_16 jn_X8_duty_69
      simp -implicitDefEqProofs (maxSteps := 2000000) (disch := omega) only [z0, z1, z2, z3, z4, z5, z6, z7, z8, z9, z10, z12, z15, z18, z20, z40, z64, z128, z250, z999, z1000, zn, if_true, if_false, n_eq_f, Nat.reduceAdd, m_gone hm hk, m_gvalley, m_in_0_1, m_in_0_2, m_in_0_20, m_in_0_255, m_in_0_3, m_in_0_4, m_in_0_40, m_in_0_5, m_in_0_6, m_in_0_7, m_in_0_9, m_in_0_999, m_in_1_12, m_in_1_60, m_in_12_16, m_inl, hm.np, hm.ne, Option.bind_some, g_if, g_eta, cond_true, cond_false, n_in_t, n_cl, true_or, or_true, z255, n_neg1, n_eq_t, n_eq_f, Nat.reduceEqDiff, g_or, hp, h]
  obtain ⟨v, rfl, -, hv⟩ := gN_n h
  have hx := (hk.2.2.2.2.2 p lp).2.2.2.2.1
  obtain ⟨b1, ⟨y, y1, y2⟩, ⟨z, z1, z2⟩⟩ := bits hx (v := v) (by omega)
  have e7 : fn_X7_duty (nI p) (nI v) a3 σ = some ((if nI (lE A p 4) &&& ((1 : Int32) <<< (nI v &&& 31)) = 0 then (0 : Int32) else 1), am_u σ 1 8 p 4 (if a3 = 0 then nI y else nI z)) := by
    unfold fn_X7_duty jn_X7_duty_56 jn_X7_duty_84
    rw [c_gperson hc hk, hp, Option.bind_some]
    show (fn_X7_isValley (nI v) σ).bind _ = _
    rw [c_gvalley, h, Option.bind_some]
    show (bif am_in (nI p) 6 then _ else _) = _
    rw [n_in_t (show p < 6 by omega) (by omega), n_cl (by omega), hc.E (by omega) (by omega)]
    dsimp only [cond_true]
    rw [y2, z2]
    by_cases q : nI (lE A p 4) &&& ((1 : Int32) <<< (nI v &&& 31)) = 0 <;> by_cases q2 : a3 = 0 <;> simp only [q, q2, if_true, if_false] <;> rfl
  have e8 : ∀ τ, pu_m A 5 τ → fn_X8_duty 5 (nI p) (nI v) a3 τ = some ((if nI (lE A p 4) &&& ((1 : Int32) <<< (nI v &&& 31)) = 0 then (0 : Int32) else 1), am_u τ 5 59 0 p (if a3 = 0 then nI y else nI z)) := fun τ hm => by
    unfold fn_X8_duty jn_X8_duty_69
    rw [m_gone hm hk, hp, Option.bind_some]
    show (fn_X8_isValley (nI v).toInt64 τ).bind _ = _
    rw [m_gvalley, h, Option.bind_some]
    show (bif am_in (nI p) 6 then _ else _) = _
    rw [n_in_t (show p < 6 by omega) (by omega), n_cl (by omega), hm.E4 (by omega)]
    dsimp only [cond_true]
    rw [b1, y2, z2]
    by_cases q2 : a3 = 0 <;> simp only [q2, if_true, if_false] <;> rfl
  rcases hb with rfl | rfl
  · refine ⟨_, _, _, e7, e8 _ (fr1.m1 (fun _ _ _ _ => by omega) hm), sE A p 4 y, ?_⟩
    rw [if_pos rfl]
    exact hI.sE (j := 4) (by decide) (hk.sE (by omega))
  · refine ⟨_, _, _, e7, e8 _ (fr1.m1 (fun _ _ _ _ => by omega) hm), sE A p 4 z, ?_⟩
    rw [if_neg (by decide)]
    exact hI.sE (j := 4) (by decide) (hk.sE (by omega))
