/-! ===== calls: prices, says, status ===== -/
theorem z16 : (16 : Int32) = nI 16 := rfl
theorem pv_price (a1 : Int32) (a2 : Int32) (a3 : Int32) (σ : am_S) (hI : pu_Inv σ) : ∃ (r : Int32) (σ1 σ2 : am_S), fn_X7_price a1 a2 a3 σ = some (r, σ1) ∧ fn_X8_price 5 a1 a2 a3 σ1 = some (r, σ2) ∧ pu_Inv σ2 := by
  obtain ⟨A, hI⟩ := hI
  have hk := hI.1.1
  have hc := hI.1.2.1
  cases h1 : gL (lne A) a1
  · refine pv_r hI 0 (by decide) ⟨σ, fr.rf, ?_⟩ (fun σ1 hJ => ⟨σ1, fr.rf, ?_⟩)
    · unfold fn_X7_price jn_X7_price_27
      simp -implicitDefEqProofs (maxSteps := 2000000) (disch := omega) only [z0, z1, z2, z3, z4, z5, z6, z7, z8, z9, z10, z12, z15, z18, z20, z40, z64, z128, z250, z999, z1000, zn, if_true, if_false, n_eq_f, Nat.reduceAdd, c_gperson hc hk, c_gvalley, c_gshelf, c_gpass hc hk, c_within, Option.bind_some, g_if, g_eta, cond_true, cond_false, h1]
    · have hm := hJ.2.2.1
      have hne := hk.2.1
      have hnp := hk.1
      unfold fn_X8_price jn_X8_price_28
      simp -implicitDefEqProofs (maxSteps := 2000000) (disch := omega) only [z0, z1, z2, z3, z4, z5, z6, z7, z8, z9, z10, z12, z15, z18, z20, z40, z64, z128, z250, z999, z1000, zn, if_true, if_false, n_eq_f, Nat.reduceAdd, m_gone hm hk, m_gvalley, m_in_0_1, m_in_0_2, m_in_0_20, m_in_0_255, m_in_0_3, m_in_0_4, m_in_0_40, m_in_0_5, m_in_0_6, m_in_0_7, m_in_0_9, m_in_0_999, m_in_1_12, m_in_1_60, m_in_12_16, m_inl, hm.np, hm.ne, Option.bind_some, g_if, g_eta, cond_true, cond_false, h1]
  obtain ⟨p, rfl, lp⟩ := gL_n h1
  cases h2 : gN 0 6 a2
  · refine pv_r hI 0 (by decide) ⟨σ, fr.rf, ?_⟩ (fun σ1 hJ => ⟨σ1, fr.rf, ?_⟩)
    · unfold fn_X7_price jn_X7_price_27
      simp -implicitDefEqProofs (maxSteps := 2000000) (disch := omega) only [z0, z1, z2, z3, z4, z5, z6, z7, z8, z9, z10, z12, z15, z18, z20, z40, z64, z128, z250, z999, z1000, zn, if_true, if_false, n_eq_f, Nat.reduceAdd, c_gperson hc hk, c_gvalley, c_gshelf, c_gpass hc hk, c_within, Option.bind_some, g_if, g_eta, cond_true, cond_false, h1, h2]
    · have hm := hJ.2.2.1
      have hne := hk.2.1
      have hnp := hk.1
      unfold fn_X8_price jn_X8_price_28
      simp -implicitDefEqProofs (maxSteps := 2000000) (disch := omega) only [z0, z1, z2, z3, z4, z5, z6, z7, z8, z9, z10, z12, z15, z18, z20, z40, z64, z128, z250, z999, z1000, zn, if_true, if_false, n_eq_f, Nat.reduceAdd, m_gone hm hk, m_gvalley, m_in_0_1, m_in_0_2, m_in_0_20, m_in_0_255, m_in_0_3, m_in_0_4, m_in_0_40, m_in_0_5, m_in_0_6, m_in_0_7, m_in_0_9, m_in_0_999, m_in_1_12, m_in_1_60, m_in_12_16, m_inl, hm.np, hm.ne, Option.bind_some, g_if, g_eta, cond_true, cond_false, h1, h2]
  obtain ⟨v, rfl, lv, uv⟩ := gN_n h2
  cases h3 : gN 0 4 a3
  · refine pv_r hI 0 (by decide) ⟨σ, fr.rf, ?_⟩ (fun σ1 hJ => ⟨σ1, fr.rf, ?_⟩)
    · unfold fn_X7_price jn_X7_price_27
      simp -implicitDefEqProofs (maxSteps := 2000000) (disch := omega) only [z0, z1, z2, z3, z4, z5, z6, z7, z8, z9, z10, z12, z15, z18, z20, z40, z64, z128, z250, z999, z1000, zn, if_true, if_false, n_eq_f, Nat.reduceAdd, c_gperson hc hk, c_gvalley, c_gshelf, c_gpass hc hk, c_within, Option.bind_some, g_if, g_eta, cond_true, cond_false, h1, h2, h3]
    · have hm := hJ.2.2.1
      have hne := hk.2.1
      have hnp := hk.1
      unfold fn_X8_price jn_X8_price_28
      simp -implicitDefEqProofs (maxSteps := 2000000) (disch := omega) only [z0, z1, z2, z3, z4, z5, z6, z7, z8, z9, z10, z12, z15, z18, z20, z40, z64, z128, z250, z999, z1000, zn, if_true, if_false, n_eq_f, Nat.reduceAdd, m_gone hm hk, m_gvalley, m_in_0_1, m_in_0_2, m_in_0_20, m_in_0_255, m_in_0_3, m_in_0_4, m_in_0_40, m_in_0_5, m_in_0_6, m_in_0_7, m_in_0_9, m_in_0_999, m_in_1_12, m_in_1_60, m_in_12_16, m_inl, hm.np, hm.ne, Option.bind_some, g_if, g_eta, cond_true, cond_false, h1, h2, h3]
  obtain ⟨s, rfl, ls, us⟩ := gN_n h3
  have hv7 : v < 7 := by omega
  have hs5 : s < 5 := by omega
  have hne := hk.2.1
  cases e : eoN A v s
  · refine pv_t hI 3 (by decide) ?_ (fun σ1 hJ hF => ?_)
    · unfold fn_X7_price jn_X7_price_27
      simp -implicitDefEqProofs (maxSteps := 2000000) (disch := omega) only [z0, z1, z2, z3, z4, z5, z6, z7, z8, z9, z10, z12, z15, z18, z20, z40, z64, z128, z250, z999, z1000, zn, if_true, if_false, n_eq_f, Nat.reduceAdd, c_gperson hc hk, c_gvalley, c_gshelf, c_gpass hc hk, c_within, Option.bind_some, g_if, g_eta, cond_true, cond_false, n_in_t, n_cl, true_or, or_true, z255, z16, n_neg1, n_eq_t, n_eq_f, Nat.reduceEqDiff, g_or, h1, h2, h3, c_endOf hc hk hv7 hs5, e, oI]
    · have hm := hJ.2.2.1
      unfold fn_X8_price jn_X8_price_28
      simp -implicitDefEqProofs (maxSteps := 2000000) (disch := omega) only [z0, z1, z2, z3, z4, z5, z6, z7, z8, z9, z10, z12, z15, z18, z20, z40, z64, z128, z250, z999, z1000, zn, if_true, if_false, n_eq_f, Nat.reduceAdd, m_gone hm hk, m_gvalley, m_in_0_1, m_in_0_2, m_in_0_20, m_in_0_255, m_in_0_3, m_in_0_4, m_in_0_40, m_in_0_5, m_in_0_6, m_in_0_7, m_in_0_9, m_in_0_999, m_in_1_12, m_in_1_60, m_in_12_16, m_inl, hm.np, hm.ne, Option.bind_some, g_if, g_eta, cond_true, cond_false, n_in_t, n_cl, true_or, or_true, z255, z16, n_neg1, n_eq_t, n_eq_f, Nat.reduceEqDiff, g_or, h1, h2, h3, m_nextOf hm hk hv7 hs5, e, oI]
  · rename_i u
    have hu := eo_lt hk e
    have he : eoN A v s ≠ none := by rw [e]; simp
    have hm := hI.1.2.2.1
    obtain ⟨f, f1, f2, f3⟩ := c_priceFor (s := s) hc hk lp hv7 hs5
    have f3 := f3 he
    subst f3
    refine pv_q0 hI (r := nI (prN A p v s)) ?_ ⟨σ, ?_, fr.rf⟩
    · unfold fn_X7_price jn_X7_price_27
      simp -implicitDefEqProofs (maxSteps := 2000000) (disch := omega) only [z0, z1, z2, z3, z4, z5, z6, z7, z8, z9, z10, z12, z15, z18, z20, z40, z64, z128, z250, z999, z1000, zn, if_true, if_false, n_eq_f, Nat.reduceAdd, c_gperson hc hk, c_gvalley, c_gshelf, c_gpass hc hk, c_within, Option.bind_some, g_if, g_eta, cond_true, cond_false, n_in_t, n_cl, true_or, or_true, z255, z16, n_neg1, n_eq_t, n_eq_f, Nat.reduceEqDiff, g_or, h1, h2, h3, c_endOf hc hk hv7 hs5, e, oI, f2]
    · unfold fn_X8_price jn_X8_price_28
      simp -implicitDefEqProofs (maxSteps := 2000000) (disch := omega) only [z0, z1, z2, z3, z4, z5, z6, z7, z8, z9, z10, z12, z15, z18, z20, z40, z64, z128, z250, z999, z1000, zn, if_true, if_false, n_eq_f, Nat.reduceAdd, m_gone hm hk, m_gvalley, m_in_0_1, m_in_0_2, m_in_0_20, m_in_0_255, m_in_0_3, m_in_0_4, m_in_0_40, m_in_0_5, m_in_0_6, m_in_0_7, m_in_0_9, m_in_0_999, m_in_1_12, m_in_1_60, m_in_12_16, m_inl, hm.np, hm.ne, Option.bind_some, g_if, g_eta, cond_true, cond_false, n_in_t, n_cl, true_or, or_true, z255, z16, n_neg1, n_eq_t, n_eq_f, Nat.reduceEqDiff, g_or, h1, h2, h3, m_nextOf hm hk hv7 hs5, e, oI, m_priceOf hm hk lp hv7 hs5 he]
/-- a person of kind k is asked as kind a -/
def kuB (k a : Nat) : Bool := decide (a = 0) || decide (k = a) || (decide (a = 1) && decide (k = 3)) || (decide (a = 2) && decide (k = 4))
theorem c_ofKind {k a : Nat} {σ : am_S} (hk : k < 6) (ha : a < 6) : fn_X7_isOfKind (nI k) (nI a) σ = some (cond (kuB k a) (nI 1) (nI 0), σ) := by
  rcases (show k = 0 ∨ k = 1 ∨ k = 2 ∨ k = 3 ∨ k = 4 ∨ k = 5 by omega) with rfl | rfl | rfl | rfl | rfl | rfl <;> rcases (show a = 0 ∨ a = 1 ∨ a = 2 ∨ a = 3 ∨ a = 4 ∨ a = 5 by omega) with rfl | rfl | rfl | rfl | rfl | rfl <;> rfl
theorem m_ofKind {k a : Nat} {σ : am_S} (hk : k < 6) (ha : a < 6) : fn_X8_isUnder (nI k) (nI a) σ = some (cond (kuB k a) (nI 1) (nI 0), σ) := by
  rcases (show k = 0 ∨ k = 1 ∨ k = 2 ∨ k = 3 ∨ k = 4 ∨ k = 5 by omega) with rfl | rfl | rfl | rfl | rfl | rfl <;> rcases (show a = 0 ∨ a = 1 ∨ a = 2 ∨ a = 3 ∨ a = 4 ∨ a = 5 by omega) with rfl | rfl | rfl | rfl | rfl | rfl <;> rfl
theorem pv_says (a1 : Int32) (a2 : Int32) (σ : am_S) (hI : pu_Inv σ) : ∃ (r : Int32) (σ1 σ2 : am_S), fn_X7_says a1 a2 σ = some (r, σ1) ∧ fn_X8_says 5 a1 a2 σ1 = some (r, σ2) ∧ pu_Inv σ2 := by
  obtain ⟨A, hI⟩ := hI
  have hk := hI.1.1
  have hc := hI.1.2.1
  cases h1 : gN 0 7 a1
  · refine pv_r hI 0 (by decide) ⟨σ, fr.rf, ?_⟩ (fun σ1 hJ => ⟨σ1, fr.rf, ?_⟩)
    · unfold fn_X7_says jn_X7_says_16 jn_X7_says_82
      simp -implicitDefEqProofs (maxSteps := 2000000) (disch := omega) only [z0, z1, z2, z3, z4, z5, z6, z7, z8, z9, z10, z12, z15, z18, z20, z40, z64, z128, z250, z999, z1000, zn, if_true, if_false, n_eq_f, Nat.reduceAdd, c_gperson hc hk, c_gvalley, c_gshelf, c_gpass hc hk, c_within, Option.bind_some, g_if, g_eta, cond_true, cond_false, h1]
    · have hm := hJ.2.2.1
      have hne := hk.2.1
      have hnp := hk.1
      unfold fn_X8_says jn_X8_says_24 jn_X8_says_69 jn_X8_says_76
      simp -implicitDefEqProofs (maxSteps := 2000000) (disch := omega) only [z0, z1, z2, z3, z4, z5, z6, z7, z8, z9, z10, z12, z15, z18, z20, z40, z64, z128, z250, z999, z1000, zn, if_true, if_false, n_eq_f, Nat.reduceAdd, m_gone hm hk, m_gvalley, m_in_0_1, m_in_0_2, m_in_0_20, m_in_0_255, m_in_0_3, m_in_0_4, m_in_0_40, m_in_0_5, m_in_0_6, m_in_0_7, m_in_0_9, m_in_0_999, m_in_1_12, m_in_1_60, m_in_12_16, m_inl, hm.np, hm.ne, Option.bind_some, g_if, g_eta, cond_true, cond_false, h1]
  obtain ⟨s, rfl, ls, us⟩ := gN_n h1
  cases h2 : gN 0 5 a2
  · refine pv_r hI 0 (by decide) ⟨σ, fr.rf, ?_⟩ (fun σ1 hJ => ⟨σ1, fr.rf, ?_⟩)
    · unfold fn_X7_says jn_X7_says_16 jn_X7_says_82
      simp -implicitDefEqProofs (maxSteps := 2000000) (disch := omega) only [z0, z1, z2, z3, z4, z5, z6, z7, z8, z9, z10, z12, z15, z18, z20, z40, z64, z128, z250, z999, z1000, zn, if_true, if_false, n_eq_f, Nat.reduceAdd, c_gperson hc hk, c_gvalley, c_gshelf, c_gpass hc hk, c_within, Option.bind_some, g_if, g_eta, cond_true, cond_false, h1, h2]
    · have hm := hJ.2.2.1
      have hne := hk.2.1
      have hnp := hk.1
      unfold fn_X8_says jn_X8_says_24 jn_X8_says_69 jn_X8_says_76
      simp -implicitDefEqProofs (maxSteps := 2000000) (disch := omega) only [z0, z1, z2, z3, z4, z5, z6, z7, z8, z9, z10, z12, z15, z18, z20, z40, z64, z128, z250, z999, z1000, zn, if_true, if_false, n_eq_f, Nat.reduceAdd, m_gone hm hk, m_gvalley, m_in_0_1, m_in_0_2, m_in_0_20, m_in_0_255, m_in_0_3, m_in_0_4, m_in_0_40, m_in_0_5, m_in_0_6, m_in_0_7, m_in_0_9, m_in_0_999, m_in_1_12, m_in_1_60, m_in_12_16, m_inl, hm.np, hm.ne, Option.bind_some, g_if, g_eta, cond_true, cond_false, h1, h2]
  obtain ⟨a, rfl, la, ua⟩ := gN_n h2
  have hs8 : s < 8 := by omega
  have ha6 : a < 6 := by omega
  have hne := hk.2.1
  have hm := hI.1.2.2.1
  rcases pu_s1_of.mp (hI.1.2.2.2.2.2.2 s hs8) with c | ⟨t, n, c⟩ | ⟨p, c⟩
  · refine pv_t hI 2 (by decide) ?_ (fun σ1 hJ hF => ?_)
    · unfold fn_X7_says jn_X7_says_16 jn_X7_says_82
      simp -implicitDefEqProofs (maxSteps := 2000000) (disch := omega) only [z0, z1, z2, z3, z4, z5, z6, z7, z8, z9, z10, z12, z15, z18, z20, z40, z64, z128, z250, z999, z1000, zn, if_true, if_false, n_eq_f, Nat.reduceAdd, c_gperson hc hk, c_gvalley, c_gshelf, c_gpass hc hk, c_within, Option.bind_some, g_if, g_eta, cond_true, cond_false, n_in_t, n_cl, true_or, or_true, z255, z16, n_neg1, n_eq_t, n_eq_f, Nat.reduceEqDiff, g_or, h1, h2, c.1]
    · have hm := hJ.2.2.1
      have d := hF.s0J c
      unfold fn_X8_says jn_X8_says_24 jn_X8_says_69 jn_X8_says_76
      simp -implicitDefEqProofs (maxSteps := 2000000) (disch := omega) only [z0, z1, z2, z3, z4, z5, z6, z7, z8, z9, z10, z12, z15, z18, z20, z40, z64, z128, z250, z999, z1000, zn, if_true, if_false, n_eq_f, Nat.reduceAdd, m_gone hm hk, m_gvalley, m_in_0_1, m_in_0_2, m_in_0_20, m_in_0_255, m_in_0_3, m_in_0_4, m_in_0_40, m_in_0_5, m_in_0_6, m_in_0_7, m_in_0_9, m_in_0_999, m_in_1_12, m_in_1_60, m_in_12_16, m_inl, hm.np, hm.ne, Option.bind_some, g_if, g_eta, cond_true, cond_false, n_in_t, n_cl, true_or, or_true, z255, z16, n_neg1, n_eq_t, n_eq_f, Nat.reduceEqDiff, g_or, h1, h2, d.2]
  · have ht := c.1
    have g : gL (lne A) (nI t - nI 10) = false := by
      unfold gL
      rw [Int32.toInt_sub, n_ti (by omega), n_ti (by decide), Int.bmod_eq_of_le (by omega) (by omega)]
      exact decide_eq_false (by omega)
    · refine pv_t hI 1 (by decide) ?_ (fun σ1 hJ hF => ?_)
      · unfold fn_X7_says jn_X7_says_16 jn_X7_says_82
        simp -implicitDefEqProofs (maxSteps := 2000000) (disch := omega) only [z0, z1, z2, z3, z4, z5, z6, z7, z8, z9, z10, z12, z15, z18, z20, z40, z64, z128, z250, z999, z1000, zn, if_true, if_false, n_eq_f, Nat.reduceAdd, c_gperson hc hk, c_gvalley, c_gshelf, c_gpass hc hk, c_within, Option.bind_some, g_if, g_eta, cond_true, cond_false, n_in_t, n_cl, true_or, or_true, z255, z16, n_neg1, n_eq_t, n_eq_f, Nat.reduceEqDiff, g_or, h1, h2, c.2.2.1, g]
      · have hm := hJ.2.2.1
        have d := hF.s1J c
        unfold fn_X8_says jn_X8_says_24 jn_X8_says_69 jn_X8_says_76
        simp -implicitDefEqProofs (maxSteps := 2000000) (disch := omega) only [z0, z1, z2, z3, z4, z5, z6, z7, z8, z9, z10, z12, z15, z18, z20, z40, z64, z128, z250, z999, z1000, zn, if_true, if_false, n_eq_f, Nat.reduceAdd, m_gone hm hk, m_gvalley, m_in_0_1, m_in_0_2, m_in_0_20, m_in_0_255, m_in_0_3, m_in_0_4, m_in_0_40, m_in_0_5, m_in_0_6, m_in_0_7, m_in_0_9, m_in_0_999, m_in_1_12, m_in_1_60, m_in_12_16, m_inl, hm.np, hm.ne, Option.bind_some, g_if, g_eta, cond_true, cond_false, n_in_t, n_cl, true_or, or_true, z255, z16, n_neg1, n_eq_t, n_eq_f, Nat.reduceEqDiff, g_or, h1, h2, d.2.2.2.2.1]
  · obtain ⟨c1, c2, c3, c4⟩ := id c
    have g : gL (lne A) (nI p) = true := by rw [gL_nI (by omega)]; exact decide_eq_true c1
    have hE := hk.2.2.2.2.2 p c1
    have hk6 : lE A p 0 < 6 := by omega
    cases b : kuB (lE A p 0) a
    · refine pv_t hI 1 (by decide) ?_ (fun σ1 hJ hF => ?_)
      · unfold fn_X7_says jn_X7_says_16 jn_X7_says_82
        simp -implicitDefEqProofs (maxSteps := 2000000) (disch := omega) only [z0, z1, z2, z3, z4, z5, z6, z7, z8, z9, z10, z12, z15, z18, z20, z40, z64, z128, z250, z999, z1000, zn, if_true, if_false, n_eq_f, Nat.reduceAdd, c_gperson hc hk, c_gvalley, c_gshelf, c_gpass hc hk, c_within, Option.bind_some, g_if, g_eta, cond_true, cond_false, n_in_t, n_cl, true_or, or_true, z255, z16, n_neg1, n_eq_t, n_eq_f, Nat.reduceEqDiff, g_or, h1, h2, c2, n_sub, Nat.add_sub_cancel_left, g, hc.E, c_ofKind hk6 ha6, b]
      · have hm := hJ.2.2.1
        have d := hF.s2J c
        unfold fn_X8_says jn_X8_says_24 jn_X8_says_69 jn_X8_says_76
        simp -implicitDefEqProofs (maxSteps := 2000000) (disch := omega) only [z0, z1, z2, z3, z4, z5, z6, z7, z8, z9, z10, z12, z15, z18, z20, z40, z64, z128, z250, z999, z1000, zn, if_true, if_false, n_eq_f, Nat.reduceAdd, m_gone hm hk, m_gvalley, m_in_0_1, m_in_0_2, m_in_0_20, m_in_0_255, m_in_0_3, m_in_0_4, m_in_0_40, m_in_0_5, m_in_0_6, m_in_0_7, m_in_0_9, m_in_0_999, m_in_1_12, m_in_1_60, m_in_12_16, m_inl, hm.np, hm.ne, Option.bind_some, g_if, g_eta, cond_true, cond_false, n_in_t, n_cl, true_or, or_true, z255, z16, n_neg1, n_eq_t, n_eq_f, Nat.reduceEqDiff, g_or, h1, h2, d.2.2.1, d.2.2.2, hm.E0, m_ofKind hk6 ha6, b]
    · by_cases a0 : a = 0
      · subst a0
        refine pv_q0 hI (r := nI (lE A p 1)) ?_ ⟨σ, ?_, fr.rf⟩
        · unfold fn_X7_says jn_X7_says_16 jn_X7_says_82
          simp -implicitDefEqProofs (maxSteps := 2000000) (disch := omega) only [z0, z1, z2, z3, z4, z5, z6, z7, z8, z9, z10, z12, z15, z18, z20, z40, z64, z128, z250, z999, z1000, zn, if_true, if_false, n_eq_f, Nat.reduceAdd, c_gperson hc hk, c_gvalley, c_gshelf, c_gpass hc hk, c_within, Option.bind_some, g_if, g_eta, cond_true, cond_false, n_in_t, n_cl, true_or, or_true, z255, z16, n_neg1, n_eq_t, n_eq_f, Nat.reduceEqDiff, g_or, h1, h2, c2, n_sub, Nat.add_sub_cancel_left, g, hc.E, c_ofKind hk6 ha6, b]
        · unfold fn_X8_says jn_X8_says_24 jn_X8_says_69 jn_X8_says_76
          simp -implicitDefEqProofs (maxSteps := 2000000) (disch := omega) only [z0, z1, z2, z3, z4, z5, z6, z7, z8, z9, z10, z12, z15, z18, z20, z40, z64, z128, z250, z999, z1000, zn, if_true, if_false, n_eq_f, Nat.reduceAdd, m_gone hm hk, m_gvalley, m_in_0_1, m_in_0_2, m_in_0_20, m_in_0_255, m_in_0_3, m_in_0_4, m_in_0_40, m_in_0_5, m_in_0_6, m_in_0_7, m_in_0_9, m_in_0_999, m_in_1_12, m_in_1_60, m_in_12_16, m_inl, hm.np, hm.ne, Option.bind_some, g_if, g_eta, cond_true, cond_false, n_in_t, n_cl, true_or, or_true, z255, z16, n_neg1, n_eq_t, n_eq_f, Nat.reduceEqDiff, g_or, h1, h2, c3, c4, hm.E0, hm.E1, m_ofKind hk6 ha6, b]
      · have hv := hE.2.2.2.1
        obtain ⟨f, f1, f2, f3⟩ := c_priceFor (v := lE A p 3) (s := 0) hc hk c1 hv (by decide)
        have f3 := f3 eo_0
        subst f3
        refine pv_q0 hI (r := nI (prN A p (lE A p 3) 0)) ?_ ⟨σ, ?_, fr.rf⟩
        · unfold fn_X7_says jn_X7_says_16 jn_X7_says_82
          simp -implicitDefEqProofs (maxSteps := 2000000) (disch := omega) only [z0, z1, z2, z3, z4, z5, z6, z7, z8, z9, z10, z12, z15, z18, z20, z40, z64, z128, z250, z999, z1000, zn, if_true, if_false, n_eq_f, Nat.reduceAdd, c_gperson hc hk, c_gvalley, c_gshelf, c_gpass hc hk, c_within, Option.bind_some, g_if, g_eta, cond_true, cond_false, n_in_t, n_cl, true_or, or_true, z255, z16, n_neg1, n_eq_t, n_eq_f, Nat.reduceEqDiff, g_or, h1, h2, c2, n_sub, Nat.add_sub_cancel_left, g, hc.E, c_ofKind hk6 ha6, b, f2]
        · unfold fn_X8_says jn_X8_says_24 jn_X8_says_69 jn_X8_says_76
          simp -implicitDefEqProofs (maxSteps := 2000000) (disch := omega) only [z0, z1, z2, z3, z4, z5, z6, z7, z8, z9, z10, z12, z15, z18, z20, z40, z64, z128, z250, z999, z1000, zn, if_true, if_false, n_eq_f, Nat.reduceAdd, m_gone hm hk, m_gvalley, m_in_0_1, m_in_0_2, m_in_0_20, m_in_0_255, m_in_0_3, m_in_0_4, m_in_0_40, m_in_0_5, m_in_0_6, m_in_0_7, m_in_0_9, m_in_0_999, m_in_1_12, m_in_1_60, m_in_12_16, m_inl, hm.np, hm.ne, Option.bind_some, g_if, g_eta, cond_true, cond_false, n_in_t, n_cl, true_or, or_true, z255, z16, n_neg1, n_eq_t, n_eq_f, Nat.reduceEqDiff, g_or, h1, h2, c3, c4, hm.E0, hm.E3, m_ofKind hk6 ha6, b, m_priceOf hm hk c1 hv (show 0 < 5 by decide) eo_0]
/-- how many shelves hold below n -/
def hdN (σ : am_S) (n : Nat) : Nat := smN (fun s => if σ.1 10 10 0 s = mI then 0 else 1) n
theorem hdN_le {σ : am_S} (n : Nat) : hdN σ n ≤ n := by
  have := smN_le (f := fun s => if σ.1 10 10 0 s = mI then 0 else 1) (B := 1) n (fun i _ => by show (if σ.1 10 10 0 i = mI then 0 else 1) ≤ 1; split <;> omega)
  unfold hdN
  omega
section PST8
variable {A : pu_L} {σ : am_S}
theorem c_hold  : ∀ (m k fuel : Nat), k + m = 8 → m < fuel → lp_X2_howManyHold_4 fuel  (nI (hdN σ k)) (nI k)  σ = some (nI (hdN σ 8), σ) := by
  intro m
  induction m with
  | zero =>
    intro k fuel hs hf
    obtain ⟨f, rfl⟩ : ∃ f, fuel = f + 1 := ⟨fuel - 1, by omega⟩
    obtain rfl : k = 8 := by omega
    rw [lp_X2_howManyHold_4.eq_2]
    unfold lb_X2_howManyHold_4 jn_X2_howManyHold_23
    simp -implicitDefEqProofs (maxSteps := 2000000) (disch := omega) only [z0, z1, z2, z3, z4, z5, z6, z7, z8, z9, z10, z12, z15, z18, z20, z40, z64, z128, z250, z999, z1000, zn, if_true, if_false, n_eq_f, Nat.reduceAdd, n_le_t, n_le_f, n_lt_t, n_lt_f, n_in_t, n_cl, n_eq_t, nI_add, n_mul, n_sub, cond_true, cond_false, Option.bind_some, ]
  | succ m ih =>
    intro k fuel hs hf
    obtain ⟨f, rfl⟩ : ∃ f, fuel = f + 1 := ⟨fuel - 1, by omega⟩
    refine Eq.trans ?_ (ih (k + 1) f (by omega) (by omega))
    rw [lp_X2_howManyHold_4.eq_2]
    unfold lb_X2_howManyHold_4 jn_X2_howManyHold_23
    have e : hdN σ (k + 1) = hdN σ k + if σ.1 10 10 0 k = mI then 0 else 1 := rfl
    rw [e]
    simp -implicitDefEqProofs (maxSteps := 2000000) (disch := omega) only [z0, z1, z2, z3, z4, z5, z6, z7, z8, z9, z10, z12, z15, z18, z20, z40, z64, z128, z250, z999, z1000, zn, if_true, if_false, n_eq_f, Nat.reduceAdd, n_le_t, n_le_f, n_lt_t, n_lt_f, n_in_t, n_cl, n_eq_t, nI_add, n_mul, n_sub, cond_true, cond_false, Option.bind_some, nI_add, n_le_f]
    by_cases c : σ.1 10 10 0 k = mI
    · simp only [c, if_true, Nat.add_zero]
    · simp only [c, if_false]
theorem m_hold (hp : pu_k A) (hS : pu_sh A σ) : ∀ (m k fuel : Nat), k + m = 8 → m < fuel → lp_X8_status_108 fuel 5 (nI (hdN σ k)) (nI k)  σ = some (nI (hdN σ 8), σ) := by
  intro m
  induction m with
  | zero =>
    intro k fuel hs hf
    obtain ⟨f, rfl⟩ : ∃ f, fuel = f + 1 := ⟨fuel - 1, by omega⟩
    obtain rfl : k = 8 := by omega
    rw [lp_X8_status_108.eq_2]
    unfold lb_X8_status_108 jn_X8_status_129
    simp -implicitDefEqProofs (maxSteps := 2000000) (disch := omega) only [z0, z1, z2, z3, z4, z5, z6, z7, z8, z9, z10, z12, z15, z18, z20, z40, z64, z128, z250, z999, z1000, zn, if_true, if_false, n_eq_f, Nat.reduceAdd, n_le_t, n_le_f, n_lt_t, n_lt_f, n_in_t, n_cl, n_eq_t, nI_add, n_mul, n_sub, cond_true, cond_false, Option.bind_some, ]
  | succ m ih =>
    intro k fuel hs hf
    obtain ⟨f, rfl⟩ : ∃ f, fuel = f + 1 := ⟨fuel - 1, by omega⟩
    refine Eq.trans ?_ (ih (k + 1) f (by omega) (by omega))
    rw [lp_X8_status_108.eq_2]
    unfold lb_X8_status_108 jn_X8_status_129
    have e : hdN σ (k + 1) = hdN σ k + if σ.1 10 10 0 k = mI then 0 else 1 := rfl
    have hk8 : k < 8 := by omega
    have g : (σ.1 10 10 0 k = mI ∧ σ.1 5 41 0 k = nI 0) ∨ (¬ σ.1 10 10 0 k = mI ∧ ¬ σ.1 5 41 0 k = nI 0) := by
      rcases pu_s1_of.mp (hS k hk8) with c | ⟨t, n, c⟩ | ⟨p, c⟩
      · exact Or.inl c
      · refine Or.inr ⟨?_, ?_⟩
        · rw [c.2.2.1]; exact fun q => cast (n_neg1 (by have := c.1; omega)) q
        · rw [c.2.2.2.2.1]; decide
      · refine Or.inr ⟨?_, ?_⟩
        · rw [c.2.1]; exact fun q => cast (n_neg1 (by have := c.1; have := hp.2.1; omega)) q
        · rw [c.2.2.1]; decide
    rw [e]
    simp -implicitDefEqProofs (maxSteps := 2000000) (disch := omega) only [z0, z1, z2, z3, z4, z5, z6, z7, z8, z9, z10, z12, z15, z18, z20, z40, z64, z128, z250, z999, z1000, zn, if_true, if_false, n_eq_f, Nat.reduceAdd, n_le_t, n_le_f, n_lt_t, n_lt_f, n_in_t, n_cl, n_eq_t, nI_add, n_mul, n_sub, cond_true, cond_false, Option.bind_some, nI_add, n_le_f]
    rcases g with ⟨c, d⟩ | ⟨c, d⟩
    · simp only [c, d, if_true, Nat.add_zero]
    · simp only [c, d, if_false]
end PST8
theorem pv_status (a1 : Int32) (σ : am_S) (hI : pu_Inv σ) : ∃ (r : Int32) (σ1 σ2 : am_S), fn_X7_status a1 σ = some (r, σ1) ∧ fn_X8_status 5 a1 σ1 = some (r, σ2) ∧ pu_Inv σ2 := by
  obtain ⟨A, hI⟩ := hI
  have hk := hI.1.1
  have hm := hI.1.2.2.1
  have hne := hk.2.1
  have hnp := hk.1
  have hc := hI.1.2.1
  obtain ⟨n, t1, t2, t3, t4⟩ := hI.1.2.2.2.2.2.1
  have hs := hI.1.2.2.2.2.2.2
  by_cases c0 : a1 = nI 0
  · subst c0
    refine pv_q0 hI (r := nI (lne A)) ?_ ⟨σ, ?_, fr.rf⟩
    · unfold fn_X7_status
      simp -implicitDefEqProofs (maxSteps := 2000000) (disch := omega) only [z0, z1, z2, z3, z4, z5, z6, z7, z8, z9, z10, z12, z15, z18, z20, z40, z64, z128, z250, z999, z1000, zn, if_true, if_false, n_eq_f, Nat.reduceAdd, c_gperson hc hk, c_gvalley, c_gshelf, c_gpass hc hk, c_within, Option.bind_some, g_if, g_eta, cond_true, cond_false, n_in_t, n_cl, true_or, or_true, z255, z16, n_neg1, n_eq_t, n_eq_f, Nat.reduceEqDiff, g_or, hc.ne]
    · unfold fn_X8_status
      simp -implicitDefEqProofs (maxSteps := 2000000) (disch := omega) only [z0, z1, z2, z3, z4, z5, z6, z7, z8, z9, z10, z12, z15, z18, z20, z40, z64, z128, z250, z999, z1000, zn, if_true, if_false, n_eq_f, Nat.reduceAdd, m_gone hm hk, m_gvalley, m_in_0_1, m_in_0_2, m_in_0_20, m_in_0_255, m_in_0_3, m_in_0_4, m_in_0_40, m_in_0_5, m_in_0_6, m_in_0_7, m_in_0_9, m_in_0_999, m_in_1_12, m_in_1_60, m_in_12_16, m_inl, hm.np, hm.ne, Option.bind_some, g_if, g_eta, cond_true, cond_false, n_in_t, n_cl, true_or, or_true, z255, z16, n_neg1, n_eq_t, n_eq_f, Nat.reduceEqDiff, g_or, hm.ne]
  by_cases c1 : a1 = nI 1
  · subst c1
    refine pv_q0 hI (r := nI (lnp A)) ?_ ⟨σ, ?_, fr.rf⟩
    · unfold fn_X7_status
      simp -implicitDefEqProofs (maxSteps := 2000000) (disch := omega) only [z0, z1, z2, z3, z4, z5, z6, z7, z8, z9, z10, z12, z15, z18, z20, z40, z64, z128, z250, z999, z1000, zn, if_true, if_false, n_eq_f, Nat.reduceAdd, c_gperson hc hk, c_gvalley, c_gshelf, c_gpass hc hk, c_within, Option.bind_some, g_if, g_eta, cond_true, cond_false, n_in_t, n_cl, true_or, or_true, z255, z16, n_neg1, n_eq_t, n_eq_f, Nat.reduceEqDiff, g_or, hc.np]
    · unfold fn_X8_status
      simp -implicitDefEqProofs (maxSteps := 2000000) (disch := omega) only [z0, z1, z2, z3, z4, z5, z6, z7, z8, z9, z10, z12, z15, z18, z20, z40, z64, z128, z250, z999, z1000, zn, if_true, if_false, n_eq_f, Nat.reduceAdd, m_gone hm hk, m_gvalley, m_in_0_1, m_in_0_2, m_in_0_20, m_in_0_255, m_in_0_3, m_in_0_4, m_in_0_40, m_in_0_5, m_in_0_6, m_in_0_7, m_in_0_9, m_in_0_999, m_in_1_12, m_in_1_60, m_in_12_16, m_inl, hm.np, hm.ne, Option.bind_some, g_if, g_eta, cond_true, cond_false, n_in_t, n_cl, true_or, or_true, z255, z16, n_neg1, n_eq_t, n_eq_f, Nat.reduceEqDiff, g_or, hm.np]
  by_cases c2 : a1 = nI 2
  · subst c2
    refine pv_q0 hI (r := nI (lbk A)) ?_ ⟨σ, ?_, fr.rf⟩
    · unfold fn_X7_status
      simp -implicitDefEqProofs (maxSteps := 2000000) (disch := omega) only [z0, z1, z2, z3, z4, z5, z6, z7, z8, z9, z10, z12, z15, z18, z20, z40, z64, z128, z250, z999, z1000, zn, if_true, if_false, n_eq_f, Nat.reduceAdd, c_gperson hc hk, c_gvalley, c_gshelf, c_gpass hc hk, c_within, Option.bind_some, g_if, g_eta, cond_true, cond_false, n_in_t, n_cl, true_or, or_true, z255, z16, n_neg1, n_eq_t, n_eq_f, Nat.reduceEqDiff, g_or, hc.bk]
    · unfold fn_X8_status
      simp -implicitDefEqProofs (maxSteps := 2000000) (disch := omega) only [z0, z1, z2, z3, z4, z5, z6, z7, z8, z9, z10, z12, z15, z18, z20, z40, z64, z128, z250, z999, z1000, zn, if_true, if_false, n_eq_f, Nat.reduceAdd, m_gone hm hk, m_gvalley, m_in_0_1, m_in_0_2, m_in_0_20, m_in_0_255, m_in_0_3, m_in_0_4, m_in_0_40, m_in_0_5, m_in_0_6, m_in_0_7, m_in_0_9, m_in_0_999, m_in_1_12, m_in_1_60, m_in_12_16, m_inl, hm.np, hm.ne, Option.bind_some, g_if, g_eta, cond_true, cond_false, n_in_t, n_cl, true_or, or_true, z255, z16, n_neg1, n_eq_t, n_eq_f, Nat.reduceEqDiff, g_or, hm.bk]
  by_cases c3 : a1 = nI 3
  · subst c3
    refine pv_q0 hI (r := nI (smN (fun p => lE A p 5) (lne A))) ?_ ⟨σ, ?_, fr.rf⟩
    · have e7 : fn_X0_together 1 (nI 5) σ = some (nI (smN (fun p => lE A p 5) (lne A)), σ) := by
        unfold fn_X0_together
        exact c_sum hk hc (j := 5) (by decide) (lne A) 0 1000 (by omega) (by omega)
      unfold fn_X7_status
      simp -implicitDefEqProofs (maxSteps := 2000000) (disch := omega) only [z0, z1, z2, z3, z4, z5, z6, z7, z8, z9, z10, z12, z15, z18, z20, z40, z64, z128, z250, z999, z1000, zn, if_true, if_false, n_eq_f, Nat.reduceAdd, c_gperson hc hk, c_gvalley, c_gshelf, c_gpass hc hk, c_within, Option.bind_some, g_if, g_eta, cond_true, cond_false, n_in_t, n_cl, true_or, or_true, z255, z16, n_neg1, n_eq_t, n_eq_f, Nat.reduceEqDiff, g_or, e7]
    · have e8 : fn_X8_sumOf_60 5 (nI (lne A)) σ = some (nI (smN (fun p => lE A p 5) (lne A)), σ) := by
        unfold fn_X8_sumOf_60
        exact m_sum60 hk hm (lne A) 0 1000 (by omega) (by omega)
      unfold fn_X8_status
      simp -implicitDefEqProofs (maxSteps := 2000000) (disch := omega) only [z0, z1, z2, z3, z4, z5, z6, z7, z8, z9, z10, z12, z15, z18, z20, z40, z64, z128, z250, z999, z1000, zn, if_true, if_false, n_eq_f, Nat.reduceAdd, m_gone hm hk, m_gvalley, m_in_0_1, m_in_0_2, m_in_0_20, m_in_0_255, m_in_0_3, m_in_0_4, m_in_0_40, m_in_0_5, m_in_0_6, m_in_0_7, m_in_0_9, m_in_0_999, m_in_1_12, m_in_1_60, m_in_12_16, m_inl, hm.np, hm.ne, Option.bind_some, g_if, g_eta, cond_true, cond_false, n_in_t, n_cl, true_or, or_true, z255, z16, n_neg1, n_eq_t, n_eq_f, Nat.reduceEqDiff, g_or, e8]
  by_cases c4 : a1 = nI 4
  · subst c4
    refine pv_q0 hI (r := nI (smN (fun p => lE A p 7) (lne A))) ?_ ⟨σ, ?_, fr.rf⟩
    · have e7 : fn_X0_together 1 (nI 7) σ = some (nI (smN (fun p => lE A p 7) (lne A)), σ) := by
        unfold fn_X0_together
        exact c_sum hk hc (j := 7) (by decide) (lne A) 0 1000 (by omega) (by omega)
      unfold fn_X7_status
      simp -implicitDefEqProofs (maxSteps := 2000000) (disch := omega) only [z0, z1, z2, z3, z4, z5, z6, z7, z8, z9, z10, z12, z15, z18, z20, z40, z64, z128, z250, z999, z1000, zn, if_true, if_false, n_eq_f, Nat.reduceAdd, c_gperson hc hk, c_gvalley, c_gshelf, c_gpass hc hk, c_within, Option.bind_some, g_if, g_eta, cond_true, cond_false, n_in_t, n_cl, true_or, or_true, z255, z16, n_neg1, n_eq_t, n_eq_f, Nat.reduceEqDiff, g_or, e7]
    · have e8 : fn_X8_sumOf_62 5 (nI (lne A)) σ = some (nI (smN (fun p => lE A p 7) (lne A)), σ) := by
        unfold fn_X8_sumOf_62
        exact m_sum62 hk hm (lne A) 0 1000 (by omega) (by omega)
      unfold fn_X8_status
      simp -implicitDefEqProofs (maxSteps := 2000000) (disch := omega) only [z0, z1, z2, z3, z4, z5, z6, z7, z8, z9, z10, z12, z15, z18, z20, z40, z64, z128, z250, z999, z1000, zn, if_true, if_false, n_eq_f, Nat.reduceAdd, m_gone hm hk, m_gvalley, m_in_0_1, m_in_0_2, m_in_0_20, m_in_0_255, m_in_0_3, m_in_0_4, m_in_0_40, m_in_0_5, m_in_0_6, m_in_0_7, m_in_0_9, m_in_0_999, m_in_1_12, m_in_1_60, m_in_12_16, m_inl, hm.np, hm.ne, Option.bind_some, g_if, g_eta, cond_true, cond_false, n_in_t, n_cl, true_or, or_true, z255, z16, n_neg1, n_eq_t, n_eq_f, Nat.reduceEqDiff, g_or, e8]
  by_cases c5 : a1 = nI 5
  · subst c5
    refine pv_q0 hI (r := lac A) ?_ ⟨σ, ?_, fr.rf⟩
    · unfold fn_X7_status
      simp -implicitDefEqProofs (maxSteps := 2000000) (disch := omega) only [z0, z1, z2, z3, z4, z5, z6, z7, z8, z9, z10, z12, z15, z18, z20, z40, z64, z128, z250, z999, z1000, zn, if_true, if_false, n_eq_f, Nat.reduceAdd, c_gperson hc hk, c_gvalley, c_gshelf, c_gpass hc hk, c_within, Option.bind_some, g_if, g_eta, cond_true, cond_false, n_in_t, n_cl, true_or, or_true, z255, z16, n_neg1, n_eq_t, n_eq_f, Nat.reduceEqDiff, g_or, hc.ac]
    · unfold fn_X8_status
      simp -implicitDefEqProofs (maxSteps := 2000000) (disch := omega) only [z0, z1, z2, z3, z4, z5, z6, z7, z8, z9, z10, z12, z15, z18, z20, z40, z64, z128, z250, z999, z1000, zn, if_true, if_false, n_eq_f, Nat.reduceAdd, m_gone hm hk, m_gvalley, m_in_0_1, m_in_0_2, m_in_0_20, m_in_0_255, m_in_0_3, m_in_0_4, m_in_0_40, m_in_0_5, m_in_0_6, m_in_0_7, m_in_0_9, m_in_0_999, m_in_1_12, m_in_1_60, m_in_12_16, m_inl, hm.np, hm.ne, Option.bind_some, g_if, g_eta, cond_true, cond_false, n_in_t, n_cl, true_or, or_true, z255, z16, n_neg1, n_eq_t, n_eq_f, Nat.reduceEqDiff, g_or, hm.ac]
  by_cases c6 : a1 = nI 6
  · subst c6
    refine pv_q0 hI (r := nI n) ?_ ⟨σ, ?_, fr.rf⟩
    · unfold fn_X7_status
      simp -implicitDefEqProofs (maxSteps := 2000000) (disch := omega) only [z0, z1, z2, z3, z4, z5, z6, z7, z8, z9, z10, z12, z15, z18, z20, z40, z64, z128, z250, z999, z1000, zn, if_true, if_false, n_eq_f, Nat.reduceAdd, c_gperson hc hk, c_gvalley, c_gshelf, c_gpass hc hk, c_within, Option.bind_some, g_if, g_eta, cond_true, cond_false, n_in_t, n_cl, true_or, or_true, z255, z16, n_neg1, n_eq_t, n_eq_f, Nat.reduceEqDiff, g_or, t2]
    · unfold fn_X8_status
      simp -implicitDefEqProofs (maxSteps := 2000000) (disch := omega) only [z0, z1, z2, z3, z4, z5, z6, z7, z8, z9, z10, z12, z15, z18, z20, z40, z64, z128, z250, z999, z1000, zn, if_true, if_false, n_eq_f, Nat.reduceAdd, m_gone hm hk, m_gvalley, m_in_0_1, m_in_0_2, m_in_0_20, m_in_0_255, m_in_0_3, m_in_0_4, m_in_0_40, m_in_0_5, m_in_0_6, m_in_0_7, m_in_0_9, m_in_0_999, m_in_1_12, m_in_1_60, m_in_12_16, m_inl, hm.np, hm.ne, Option.bind_some, g_if, g_eta, cond_true, cond_false, n_in_t, n_cl, true_or, or_true, z255, z16, n_neg1, n_eq_t, n_eq_f, Nat.reduceEqDiff, g_or, t3]
  by_cases c7 : a1 = nI 7
  · subst c7
    refine pv_q0 hI (r := lsd A) ?_ ⟨σ, ?_, fr.rf⟩
    · unfold fn_X7_status
      simp -implicitDefEqProofs (maxSteps := 2000000) (disch := omega) only [z0, z1, z2, z3, z4, z5, z6, z7, z8, z9, z10, z12, z15, z18, z20, z40, z64, z128, z250, z999, z1000, zn, if_true, if_false, n_eq_f, Nat.reduceAdd, c_gperson hc hk, c_gvalley, c_gshelf, c_gpass hc hk, c_within, Option.bind_some, g_if, g_eta, cond_true, cond_false, n_in_t, n_cl, true_or, or_true, z255, z16, n_neg1, n_eq_t, n_eq_f, Nat.reduceEqDiff, g_or, hc.sd]
    · unfold fn_X8_status
      simp -implicitDefEqProofs (maxSteps := 2000000) (disch := omega) only [z0, z1, z2, z3, z4, z5, z6, z7, z8, z9, z10, z12, z15, z18, z20, z40, z64, z128, z250, z999, z1000, zn, if_true, if_false, n_eq_f, Nat.reduceAdd, m_gone hm hk, m_gvalley, m_in_0_1, m_in_0_2, m_in_0_20, m_in_0_255, m_in_0_3, m_in_0_4, m_in_0_40, m_in_0_5, m_in_0_6, m_in_0_7, m_in_0_9, m_in_0_999, m_in_1_12, m_in_1_60, m_in_12_16, m_inl, hm.np, hm.ne, Option.bind_some, g_if, g_eta, cond_true, cond_false, n_in_t, n_cl, true_or, or_true, z255, z16, n_neg1, n_eq_t, n_eq_f, Nat.reduceEqDiff, g_or, hm.sd]
  by_cases c8 : a1 = nI 8
  · subst c8
    refine pv_q0 hI (r := nI (hdN σ 8)) ?_ ⟨σ, ?_, fr.rf⟩
    · have e7 : fn_X2_howManyHold σ = some (nI (hdN σ 8), σ) := by
        unfold fn_X2_howManyHold
        exact c_hold 8 0 1000 rfl (by decide)
      unfold fn_X7_status
      simp -implicitDefEqProofs (maxSteps := 2000000) (disch := omega) only [z0, z1, z2, z3, z4, z5, z6, z7, z8, z9, z10, z12, z15, z18, z20, z40, z64, z128, z250, z999, z1000, zn, if_true, if_false, n_eq_f, Nat.reduceAdd, c_gperson hc hk, c_gvalley, c_gshelf, c_gpass hc hk, c_within, Option.bind_some, g_if, g_eta, cond_true, cond_false, n_in_t, n_cl, true_or, or_true, z255, z16, n_neg1, n_eq_t, n_eq_f, Nat.reduceEqDiff, g_or, e7]
    · have e8 : lp_X8_status_108 1000 5 (nI 0) (nI 0) σ = some (nI (hdN σ 8), σ) := m_hold hk hs 8 0 1000 rfl (by decide)
      unfold fn_X8_status
      simp -implicitDefEqProofs (maxSteps := 2000000) (disch := omega) only [z0, z1, z2, z3, z4, z5, z6, z7, z8, z9, z10, z12, z15, z18, z20, z40, z64, z128, z250, z999, z1000, zn, if_true, if_false, n_eq_f, Nat.reduceAdd, m_gone hm hk, m_gvalley, m_in_0_1, m_in_0_2, m_in_0_20, m_in_0_255, m_in_0_3, m_in_0_4, m_in_0_40, m_in_0_5, m_in_0_6, m_in_0_7, m_in_0_9, m_in_0_999, m_in_1_12, m_in_1_60, m_in_12_16, m_inl, hm.np, hm.ne, Option.bind_some, g_if, g_eta, cond_true, cond_false, n_in_t, n_cl, true_or, or_true, z255, z16, n_neg1, n_eq_t, n_eq_f, Nat.reduceEqDiff, g_or, e8]
  cases g : gN 12 16 a1
  · refine pv_q0 hI (r := mI) ?_ ⟨σ, ?_, fr.rf⟩
    · unfold fn_X7_status
      simp -implicitDefEqProofs (maxSteps := 2000000) (disch := omega) only [z0, z1, z2, z3, z4, z5, z6, z7, z8, z9, z10, z12, z15, z18, z20, z40, z64, z128, z250, z999, z1000, zn, if_true, if_false, n_eq_f, Nat.reduceAdd, c_gperson hc hk, c_gvalley, c_gshelf, c_gpass hc hk, c_within, Option.bind_some, g_if, g_eta, cond_true, cond_false, n_in_t, n_cl, true_or, or_true, z255, z16, n_neg1, n_eq_t, n_eq_f, Nat.reduceEqDiff, g_or, c0, c1, c2, c3, c4, c5, c6, c7, c8, g]
    · unfold fn_X8_status
      simp -implicitDefEqProofs (maxSteps := 2000000) (disch := omega) only [z0, z1, z2, z3, z4, z5, z6, z7, z8, z9, z10, z12, z15, z18, z20, z40, z64, z128, z250, z999, z1000, zn, if_true, if_false, n_eq_f, Nat.reduceAdd, m_gone hm hk, m_gvalley, m_in_0_1, m_in_0_2, m_in_0_20, m_in_0_255, m_in_0_3, m_in_0_4, m_in_0_40, m_in_0_5, m_in_0_6, m_in_0_7, m_in_0_9, m_in_0_999, m_in_1_12, m_in_1_60, m_in_12_16, m_inl, hm.np, hm.ne, Option.bind_some, g_if, g_eta, cond_true, cond_false, n_in_t, n_cl, true_or, or_true, z255, z16, n_neg1, n_eq_t, n_eq_f, Nat.reduceEqDiff, g_or, c0, c1, c2, c3, c4, c5, c6, c7, c8, g]
  · obtain ⟨k, rfl, lk, uk⟩ := gN_n g
    refine pv_q0 hI (r := σ.1 0 1 0 (k - 12)) ?_ ⟨σ, ?_, fr.rf⟩
    · unfold fn_X7_status
      simp -implicitDefEqProofs (maxSteps := 2000000) (disch := omega) only [z0, z1, z2, z3, z4, z5, z6, z7, z8, z9, z10, z12, z15, z18, z20, z40, z64, z128, z250, z999, z1000, zn, if_true, if_false, n_eq_f, Nat.reduceAdd, c_gperson hc hk, c_gvalley, c_gshelf, c_gpass hc hk, c_within, Option.bind_some, g_if, g_eta, cond_true, cond_false, n_in_t, n_cl, true_or, or_true, z255, z16, n_neg1, n_eq_t, n_eq_f, Nat.reduceEqDiff, g_or, c0, c1, c2, c3, c4, c5, c6, c7, c8, g, n_sub]
    · have e := hI.2 (k - 12) (by omega)
      rw [show k - 12 + 2 = k - 10 by omega] at e
      unfold fn_X8_status
      simp -implicitDefEqProofs (maxSteps := 2000000) (disch := omega) only [z0, z1, z2, z3, z4, z5, z6, z7, z8, z9, z10, z12, z15, z18, z20, z40, z64, z128, z250, z999, z1000, zn, if_true, if_false, n_eq_f, Nat.reduceAdd, m_gone hm hk, m_gvalley, m_in_0_1, m_in_0_2, m_in_0_20, m_in_0_255, m_in_0_3, m_in_0_4, m_in_0_40, m_in_0_5, m_in_0_6, m_in_0_7, m_in_0_9, m_in_0_999, m_in_1_12, m_in_1_60, m_in_12_16, m_inl, hm.np, hm.ne, Option.bind_some, g_if, g_eta, cond_true, cond_false, n_in_t, n_cl, true_or, or_true, z255, z16, n_neg1, n_eq_t, n_eq_f, Nat.reduceEqDiff, g_or, c0, c1, c2, c3, c4, c5, c6, c7, c8, g, n_sub, e]
