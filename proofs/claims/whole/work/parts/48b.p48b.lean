/-! ===== calls: passes, people ===== -/
section PPP
variable {A : pu_L} {σ : am_S} {o r j x np ne bk : Nat}
theorem pu_c.sP (h : pu_c A o σ) : pu_c (sP A r j x) o (am_u σ o 6 r j (nI x)) := by
  refine ⟨fun w' hw' v' hv' => ?_, fun r' hr' j' hj' => ?_, fun p' hp' j' hj' => ?_, ?_, ?_, ?_, ?_, ?_⟩
  rotate_left 1
  · show _ = nI (if r' = r ∧ j' = j then x else lP A r' j')
    by_cases c : r' = r ∧ j' = j
    · rw [if_pos c, c.1, c.2, u_at]
    · rw [if_neg c, u_ne (by omega)]; exact h.P hr' hj'
  all_goals rw [u_ne (by omega)]
  · exact h.E hp' hj'
  · exact h.np
  · exact h.ne
  · exact h.bk
  · exact h.sd
  · exact h.ac
  · exact h.V hw' hv'
theorem pu_m.sP (h : pu_m A o σ) : pu_m (sP A r j x) o (am_u σ o 54 r j (nI x)) := by
  refine ⟨fun w' hw' v' hv' => ?_, fun r' hr' j' hj' => ?_, fun p' hp' j' hj' => ?_, ?_, ?_, ?_, ?_, ?_⟩
  rotate_left 1
  · show _ = nI (if r' = r ∧ j' = j then x else lP A r' j')
    by_cases c : r' = r ∧ j' = j
    · rw [if_pos c, c.1, c.2, u_at]
    · rw [if_neg c, u_ne (by omega)]; exact h.P hr' hj'
  all_goals rw [u_ne (by omega)]
  · exact h.2.2.1 p' hp' j' hj'
  · exact h.np
  · exact h.ne
  · exact h.bk
  · exact h.sd
  · exact h.ac
  · exact h.1 w' hw' v' hv'
theorem pu_c.sNp (h : pu_c A o σ) : pu_c (sN A np (lne A) (lbk A)) o (am_u σ o 2 0 3 (nI np)) := by
  refine ⟨fun w' hw' v' hv' => ?_, fun r' hr' j' hj' => ?_, fun p' hp' j' hj' => ?_, ?_, ?_, ?_, ?_, ?_⟩
  rotate_left 3
  · exact u_at
  all_goals rw [u_ne (by omega)]
  · exact h.ne
  · exact h.bk
  · exact h.sd
  · exact h.ac
  · exact h.V hw' hv'
  · exact h.P hr' hj'
  · exact h.E hp' hj'
theorem pu_m.sNp (h : pu_m A o σ) : pu_m (sN A np (lne A) (lbk A)) o (am_u σ o 40 0 13 (nI np)) := by
  refine ⟨fun w' hw' v' hv' => ?_, fun r' hr' j' hj' => ?_, fun p' hp' j' hj' => ?_, ?_, ?_, ?_, ?_, ?_⟩
  rotate_left 3
  · exact u_at
  all_goals rw [u_ne (by omega)]
  · exact h.ne
  · exact h.bk
  · exact h.sd
  · exact h.ac
  · exact h.1 w' hw' v' hv'
  · exact h.P hr' hj'
  · exact h.2.2.1 p' hp' j' hj'
theorem pu_c.sNe (h : pu_c A o σ) : pu_c (sN A (lnp A) ne (lbk A)) o (am_u σ o 2 0 4 (nI ne)) := by
  refine ⟨fun w' hw' v' hv' => ?_, fun r' hr' j' hj' => ?_, fun p' hp' j' hj' => ?_, ?_, ?_, ?_, ?_, ?_⟩
  rotate_left 4
  · exact u_at
  all_goals rw [u_ne (by omega)]
  · exact h.bk
  · exact h.sd
  · exact h.ac
  · exact h.V hw' hv'
  · exact h.P hr' hj'
  · exact h.E hp' hj'
  · exact h.np
theorem pu_m.sNe (h : pu_m A o σ) : pu_m (sN A (lnp A) ne (lbk A)) o (am_u σ o 40 0 15 (nI ne)) := by
  refine ⟨fun w' hw' v' hv' => ?_, fun r' hr' j' hj' => ?_, fun p' hp' j' hj' => ?_, ?_, ?_, ?_, ?_, ?_⟩
  rotate_left 4
  · exact u_at
  all_goals rw [u_ne (by omega)]
  · exact h.bk
  · exact h.sd
  · exact h.ac
  · exact h.1 w' hw' v' hv'
  · exact h.P hr' hj'
  · exact h.2.2.1 p' hp' j' hj'
  · exact h.np
end PPP
theorem pv_pass (a1 : Int32) (a2 : Int32) (a3 : Int32) (a4 : Int32) (σ : am_S) (hI : pu_Inv σ) : ∃ (r : Int32) (σ1 σ2 : am_S), fn_X7_pass a1 a2 a3 a4 σ = some (r, σ1) ∧ fn_X8_pass 5 a1 a2 a3 a4 σ1 = some (r, σ2) ∧ pu_Inv σ2 := by
  obtain ⟨A, hI⟩ := hI
  have hk := hI.1.1
  have hc := hI.1.2.1
  cases h1 : gN 0 6 a1
  · refine pv_r hI 0 (by decide) ⟨σ, fr.rf, ?_⟩ (fun σ1 hJ => ⟨σ1, fr.rf, ?_⟩)
    · unfold fn_X7_pass jn_X7_pass_40
      simp -implicitDefEqProofs (maxSteps := 2000000) (disch := omega) only [z0, z1, z2, z3, z4, z5, z6, z7, z8, z9, z10, z12, z15, z18, z20, z40, z64, z128, z250, z999, z1000, zn, if_true, if_false, n_eq_f, Nat.reduceAdd, c_gperson hc hk, c_gvalley, c_gshelf, c_gpass hc hk, c_within, Option.bind_some, g_if, g_eta, cond_true, cond_false, h1]
    · have hm := hJ.2.2.1
      have hne := hk.2.1
      have hnp := hk.1
      unfold fn_X8_pass jn_X8_pass_46
      simp -implicitDefEqProofs (maxSteps := 2000000) (disch := omega) only [z0, z1, z2, z3, z4, z5, z6, z7, z8, z9, z10, z12, z15, z18, z20, z40, z64, z128, z250, z999, z1000, zn, if_true, if_false, n_eq_f, Nat.reduceAdd, m_gone hm hk, m_gvalley, m_in_0_1, m_in_0_2, m_in_0_20, m_in_0_255, m_in_0_3, m_in_0_4, m_in_0_40, m_in_0_5, m_in_0_6, m_in_0_7, m_in_0_9, m_in_0_999, m_in_1_12, m_in_1_60, m_in_12_16, m_inl, hm.np, hm.ne, Option.bind_some, g_if, g_eta, cond_true, cond_false, h1]
  obtain ⟨v, rfl, lv, uv⟩ := gN_n h1
  cases h2 : gN 0 6 a2
  · refine pv_r hI 0 (by decide) ⟨σ, fr.rf, ?_⟩ (fun σ1 hJ => ⟨σ1, fr.rf, ?_⟩)
    · unfold fn_X7_pass jn_X7_pass_40
      simp -implicitDefEqProofs (maxSteps := 2000000) (disch := omega) only [z0, z1, z2, z3, z4, z5, z6, z7, z8, z9, z10, z12, z15, z18, z20, z40, z64, z128, z250, z999, z1000, zn, if_true, if_false, n_eq_f, Nat.reduceAdd, c_gperson hc hk, c_gvalley, c_gshelf, c_gpass hc hk, c_within, Option.bind_some, g_if, g_eta, cond_true, cond_false, h1, h2]
    · have hm := hJ.2.2.1
      have hne := hk.2.1
      have hnp := hk.1
      unfold fn_X8_pass jn_X8_pass_46
      simp -implicitDefEqProofs (maxSteps := 2000000) (disch := omega) only [z0, z1, z2, z3, z4, z5, z6, z7, z8, z9, z10, z12, z15, z18, z20, z40, z64, z128, z250, z999, z1000, zn, if_true, if_false, n_eq_f, Nat.reduceAdd, m_gone hm hk, m_gvalley, m_in_0_1, m_in_0_2, m_in_0_20, m_in_0_255, m_in_0_3, m_in_0_4, m_in_0_40, m_in_0_5, m_in_0_6, m_in_0_7, m_in_0_9, m_in_0_999, m_in_1_12, m_in_1_60, m_in_12_16, m_inl, hm.np, hm.ne, Option.bind_some, g_if, g_eta, cond_true, cond_false, h1, h2]
  obtain ⟨u, rfl, lu, uu⟩ := gN_n h2
  have hnp := hk.1
  have hm := hI.1.2.2.1
  by_cases q : u = v
  · subst q
    · refine pv_t hI 0 (by decide) ?_ (fun σ1 hJ hF => ?_)
      · unfold fn_X7_pass jn_X7_pass_40
        simp -implicitDefEqProofs (maxSteps := 2000000) (disch := omega) only [z0, z1, z2, z3, z4, z5, z6, z7, z8, z9, z10, z12, z15, z18, z20, z40, z64, z128, z250, z999, z1000, zn, if_true, if_false, n_eq_f, Nat.reduceAdd, c_gperson hc hk, c_gvalley, c_gshelf, c_gpass hc hk, c_within, Option.bind_some, g_if, g_eta, cond_true, cond_false, n_in_t, n_cl, true_or, or_true, z255, z16, n_neg1, n_eq_t, n_eq_f, Nat.reduceEqDiff, g_or, h1, h2]
      · have hm := hJ.2.2.1
        unfold fn_X8_pass jn_X8_pass_46
        simp -implicitDefEqProofs (maxSteps := 2000000) (disch := omega) only [z0, z1, z2, z3, z4, z5, z6, z7, z8, z9, z10, z12, z15, z18, z20, z40, z64, z128, z250, z999, z1000, zn, if_true, if_false, n_eq_f, Nat.reduceAdd, m_gone hm hk, m_gvalley, m_in_0_1, m_in_0_2, m_in_0_20, m_in_0_255, m_in_0_3, m_in_0_4, m_in_0_40, m_in_0_5, m_in_0_6, m_in_0_7, m_in_0_9, m_in_0_999, m_in_1_12, m_in_1_60, m_in_12_16, m_inl, hm.np, hm.ne, Option.bind_some, g_if, g_eta, cond_true, cond_false, n_in_t, n_cl, true_or, or_true, z255, z16, n_neg1, n_eq_t, n_eq_f, Nat.reduceEqDiff, g_or, h1, h2]
  have hvu : (nI v = nI u) = False := n_eq_f (fun z => q z.symm) (by omega) (by omega)
  cases h3 : gN 0 9 a3
  · refine pv_t hI 0 (by decide) ?_ (fun σ1 hJ hF => ?_)
    · unfold fn_X7_pass jn_X7_pass_40
      simp -implicitDefEqProofs (maxSteps := 2000000) (disch := omega) only [z0, z1, z2, z3, z4, z5, z6, z7, z8, z9, z10, z12, z15, z18, z20, z40, z64, z128, z250, z999, z1000, zn, if_true, if_false, n_eq_f, Nat.reduceAdd, c_gperson hc hk, c_gvalley, c_gshelf, c_gpass hc hk, c_within, Option.bind_some, g_if, g_eta, cond_true, cond_false, n_in_t, n_cl, true_or, or_true, z255, z16, n_neg1, n_eq_t, n_eq_f, Nat.reduceEqDiff, g_or, h1, h2, hvu, h3]
    · have hm := hJ.2.2.1
      unfold fn_X8_pass jn_X8_pass_46
      simp -implicitDefEqProofs (maxSteps := 2000000) (disch := omega) only [z0, z1, z2, z3, z4, z5, z6, z7, z8, z9, z10, z12, z15, z18, z20, z40, z64, z128, z250, z999, z1000, zn, if_true, if_false, n_eq_f, Nat.reduceAdd, m_gone hm hk, m_gvalley, m_in_0_1, m_in_0_2, m_in_0_20, m_in_0_255, m_in_0_3, m_in_0_4, m_in_0_40, m_in_0_5, m_in_0_6, m_in_0_7, m_in_0_9, m_in_0_999, m_in_1_12, m_in_1_60, m_in_12_16, m_inl, hm.np, hm.ne, Option.bind_some, g_if, g_eta, cond_true, cond_false, n_in_t, n_cl, true_or, or_true, z255, z16, n_neg1, n_eq_t, n_eq_f, Nat.reduceEqDiff, g_or, h1, h2, hvu, h3]
  obtain ⟨f, rfl, -, uf⟩ := gN_n h3
  cases h4 : gN 1 12 a4
  · refine pv_t hI 0 (by decide) ?_ (fun σ1 hJ hF => ?_)
    · unfold fn_X7_pass jn_X7_pass_40
      simp -implicitDefEqProofs (maxSteps := 2000000) (disch := omega) only [z0, z1, z2, z3, z4, z5, z6, z7, z8, z9, z10, z12, z15, z18, z20, z40, z64, z128, z250, z999, z1000, zn, if_true, if_false, n_eq_f, Nat.reduceAdd, c_gperson hc hk, c_gvalley, c_gshelf, c_gpass hc hk, c_within, Option.bind_some, g_if, g_eta, cond_true, cond_false, n_in_t, n_cl, true_or, or_true, z255, z16, n_neg1, n_eq_t, n_eq_f, Nat.reduceEqDiff, g_or, h1, h2, hvu, h3, h4]
    · have hm := hJ.2.2.1
      unfold fn_X8_pass jn_X8_pass_46
      simp -implicitDefEqProofs (maxSteps := 2000000) (disch := omega) only [z0, z1, z2, z3, z4, z5, z6, z7, z8, z9, z10, z12, z15, z18, z20, z40, z64, z128, z250, z999, z1000, zn, if_true, if_false, n_eq_f, Nat.reduceAdd, m_gone hm hk, m_gvalley, m_in_0_1, m_in_0_2, m_in_0_20, m_in_0_255, m_in_0_3, m_in_0_4, m_in_0_40, m_in_0_5, m_in_0_6, m_in_0_7, m_in_0_9, m_in_0_999, m_in_1_12, m_in_1_60, m_in_12_16, m_inl, hm.np, hm.ne, Option.bind_some, g_if, g_eta, cond_true, cond_false, n_in_t, n_cl, true_or, or_true, z255, z16, n_neg1, n_eq_t, n_eq_f, Nat.reduceEqDiff, g_or, h1, h2, hvu, h3, h4]
  obtain ⟨h, rfl, lh, uh⟩ := gN_n h4
  by_cases qn : lnp A = 3
  · refine pv_t hI 4 (by decide) ?_ (fun σ1 hJ hF => ?_)
    · unfold fn_X7_pass jn_X7_pass_40
      simp -implicitDefEqProofs (maxSteps := 2000000) (disch := omega) only [z0, z1, z2, z3, z4, z5, z6, z7, z8, z9, z10, z12, z15, z18, z20, z40, z64, z128, z250, z999, z1000, zn, if_true, if_false, n_eq_f, Nat.reduceAdd, c_gperson hc hk, c_gvalley, c_gshelf, c_gpass hc hk, c_within, Option.bind_some, g_if, g_eta, cond_true, cond_false, n_in_t, n_cl, true_or, or_true, z255, z16, n_neg1, n_eq_t, n_eq_f, Nat.reduceEqDiff, g_or, h1, h2, hvu, h3, h4, hc.np, qn, n_lt_f]
    · have hm := hJ.2.2.1
      unfold fn_X8_pass jn_X8_pass_46
      simp -implicitDefEqProofs (maxSteps := 2000000) (disch := omega) only [z0, z1, z2, z3, z4, z5, z6, z7, z8, z9, z10, z12, z15, z18, z20, z40, z64, z128, z250, z999, z1000, zn, if_true, if_false, n_eq_f, Nat.reduceAdd, m_gone hm hk, m_gvalley, m_in_0_1, m_in_0_2, m_in_0_20, m_in_0_255, m_in_0_3, m_in_0_4, m_in_0_40, m_in_0_5, m_in_0_6, m_in_0_7, m_in_0_9, m_in_0_999, m_in_1_12, m_in_1_60, m_in_12_16, m_inl, hm.np, hm.ne, Option.bind_some, g_if, g_eta, cond_true, cond_false, n_in_t, n_cl, true_or, or_true, z255, z16, n_neg1, n_eq_t, n_eq_f, Nat.reduceEqDiff, g_or, h1, h2, hvu, h3, h4, qn]
  · have e7 : fn_X7_pass (nI v) (nI u) (nI f) (nI h) σ = some (nI (lnp A), (am_u (am_u (am_u (am_u (am_u σ 1 6 (lnp A) 0 (nI v)) 1 6 (lnp A) 1 (nI u)) 1 6 (lnp A) 2 (nI f)) 1 6 (lnp A) 3 (nI h)) 1 2 0 3 (nI (lnp A + 1)))) := by
      unfold fn_X7_pass jn_X7_pass_40 fn_X0_addPass
      simp -implicitDefEqProofs (maxSteps := 2000000) (disch := omega) only [z0, z1, z2, z3, z4, z5, z6, z7, z8, z9, z10, z12, z15, z18, z20, z40, z64, z128, z250, z999, z1000, zn, if_true, if_false, n_eq_f, Nat.reduceAdd, c_gperson hc hk, c_gvalley, c_gshelf, c_gpass hc hk, c_within, Option.bind_some, g_if, g_eta, cond_true, cond_false, n_in_t, n_cl, true_or, or_true, z255, z16, n_neg1, n_eq_t, n_eq_f, Nat.reduceEqDiff, g_or, h1, h2, hvu, h3, h4, hc.np, n_lt_t, nI_add]
    have e8 : ∀ τ, pu_m A 5 τ → fn_X8_pass 5 (nI v) (nI u) (nI f) (nI h) τ = some (nI (lnp A), (am_u (am_u (am_u (am_u (am_u τ 5 54 (lnp A) 0 (nI v)) 5 54 (lnp A) 1 (nI u)) 5 54 (lnp A) 2 (nI f)) 5 54 (lnp A) 3 (nI h)) 5 40 0 13 (nI (lnp A + 1)))) := fun τ hm => by
      unfold fn_X8_pass jn_X8_pass_46 fn_X8_addPass
      simp -implicitDefEqProofs (maxSteps := 2000000) (disch := omega) only [z0, z1, z2, z3, z4, z5, z6, z7, z8, z9, z10, z12, z15, z18, z20, z40, z64, z128, z250, z999, z1000, zn, if_true, if_false, n_eq_f, Nat.reduceAdd, m_gone hm hk, m_gvalley, m_in_0_1, m_in_0_2, m_in_0_20, m_in_0_255, m_in_0_3, m_in_0_4, m_in_0_40, m_in_0_5, m_in_0_6, m_in_0_7, m_in_0_9, m_in_0_999, m_in_1_12, m_in_1_60, m_in_12_16, m_inl, hm.np, hm.ne, Option.bind_some, g_if, g_eta, cond_true, cond_false, n_in_t, n_cl, true_or, or_true, z255, z16, n_neg1, n_eq_t, n_eq_f, Nat.reduceEqDiff, g_or, h1, h2, hvu, h3, h4, n_eq_f, nI_add, n_sub, u_at, Nat.add_sub_cancel]
    have f7 : fr (fun o _ _ _ => o = 1) σ (am_u (am_u (am_u (am_u (am_u σ 1 6 (lnp A) 0 (nI v)) 1 6 (lnp A) 1 (nI u)) 1 6 (lnp A) 2 (nI f)) 1 6 (lnp A) 3 (nI h)) 1 2 0 3 (nI (lnp A + 1))) := fr1.tr (fr1.tr (fr1.tr (fr1.tr fr1)))
    have m1 := f7.m1 (fun _ _ _ _ => by omega) hm
    have f8 : fr (fun o k i j => o = 5 ∧ ((50 ≤ k ∧ k < 63) ∨ (k = 40 ∧ j = 13))) (am_u (am_u (am_u (am_u (am_u σ 1 6 (lnp A) 0 (nI v)) 1 6 (lnp A) 1 (nI u)) 1 6 (lnp A) 2 (nI f)) 1 6 (lnp A) 3 (nI h)) 1 2 0 3 (nI (lnp A + 1))) (am_u (am_u (am_u (am_u (am_u (am_u (am_u (am_u (am_u (am_u σ 1 6 (lnp A) 0 (nI v)) 1 6 (lnp A) 1 (nI u)) 1 6 (lnp A) 2 (nI f)) 1 6 (lnp A) 3 (nI h)) 1 2 0 3 (nI (lnp A + 1))) 5 54 (lnp A) 0 (nI v)) 5 54 (lnp A) 1 (nI u)) 5 54 (lnp A) 2 (nI f)) 5 54 (lnp A) 3 (nI h)) 5 40 0 13 (nI (lnp A + 1))) := (fr.u (by omega)).tr ((fr.u (by omega)).tr ((fr.u (by omega)).tr ((fr.u (by omega)).tr (fr.u (by omega)))))
    have c2 := f8.c (fun _ _ _ => by omega) hc.sP.sP.sP.sP.sNp
    refine ⟨_, _, _, e7, e8 _ m1, _, fr.IL (B := sN (sP (sP (sP (sP A (lnp A) 0 v) (lnp A) 1 u) (lnp A) 2 f) (lnp A) 3 h) (lnp A + 1) (lne A) (lbk A)) ((f7.mono fun o k i j q => by unfold SLn; omega).tr (f8.mono fun o k i j q => by unfold SLn; omega)) hI ⟨by show lnp A + 1 ≤ 3; omega, hk.2.1, hk.2.2.1, hk.2.2.2.1, fun r hr => ?_, hk.2.2.2.2.2⟩ c2 m1.sP.sP.sP.sP.sNp (Nat.le_refl _)⟩
    have hr : r < lnp A + 1 := hr
    by_cases c : r = lnp A
    · subst c
      refine ⟨?_, ?_, ?_, ?_, ?_⟩ <;> simp [lP, sP, sN] <;> omega
    · have hh := hk.2.2.2.2.1 r (by omega)
      refine ⟨?_, ?_, ?_, ?_, ?_⟩ <;> simp [lP, sP, sN, c] <;> simp only [lP] at hh <;> omega
theorem pv_person (a1 : Int32) (a2 : Int32) (a3 : Int32) (σ : am_S) (hI : pu_Inv σ) : ∃ (r : Int32) (σ1 σ2 : am_S), fn_X7_person a1 a2 a3 σ = some (r, σ1) ∧ fn_X8_person 5 a1 a2 a3 σ1 = some (r, σ2) ∧ pu_Inv σ2 := by
  obtain ⟨A, hI⟩ := hI
  have hk := hI.1.1
  have hc := hI.1.2.1
  cases h1 : gN 0 5 a1
  · refine pv_r hI 0 (by decide) ⟨σ, fr.rf, ?_⟩ (fun σ1 hJ => ⟨σ1, fr.rf, ?_⟩)
    · unfold fn_X7_person jn_X7_person_26
      simp -implicitDefEqProofs (maxSteps := 2000000) (disch := omega) only [z0, z1, z2, z3, z4, z5, z6, z7, z8, z9, z10, z12, z15, z18, z20, z40, z64, z128, z250, z999, z1000, zn, if_true, if_false, n_eq_f, Nat.reduceAdd, c_gperson hc hk, c_gvalley, c_gshelf, c_gpass hc hk, c_within, Option.bind_some, g_if, g_eta, cond_true, cond_false, h1]
    · have hm := hJ.2.2.1
      have hne := hk.2.1
      have hnp := hk.1
      unfold fn_X8_person jn_X8_person_32
      simp -implicitDefEqProofs (maxSteps := 2000000) (disch := omega) only [z0, z1, z2, z3, z4, z5, z6, z7, z8, z9, z10, z12, z15, z18, z20, z40, z64, z128, z250, z999, z1000, zn, if_true, if_false, n_eq_f, Nat.reduceAdd, m_gone hm hk, m_gvalley, m_in_0_1, m_in_0_2, m_in_0_20, m_in_0_255, m_in_0_3, m_in_0_4, m_in_0_40, m_in_0_5, m_in_0_6, m_in_0_7, m_in_0_9, m_in_0_999, m_in_1_12, m_in_1_60, m_in_12_16, m_inl, hm.np, hm.ne, Option.bind_some, g_if, g_eta, cond_true, cond_false, h1]
  obtain ⟨k, rfl, lk, uk⟩ := gN_n h1
  cases h2 : gN 0 9 a2
  · refine pv_r hI 0 (by decide) ⟨σ, fr.rf, ?_⟩ (fun σ1 hJ => ⟨σ1, fr.rf, ?_⟩)
    · unfold fn_X7_person jn_X7_person_26
      simp -implicitDefEqProofs (maxSteps := 2000000) (disch := omega) only [z0, z1, z2, z3, z4, z5, z6, z7, z8, z9, z10, z12, z15, z18, z20, z40, z64, z128, z250, z999, z1000, zn, if_true, if_false, n_eq_f, Nat.reduceAdd, c_gperson hc hk, c_gvalley, c_gshelf, c_gpass hc hk, c_within, Option.bind_some, g_if, g_eta, cond_true, cond_false, h1, h2]
    · have hm := hJ.2.2.1
      have hne := hk.2.1
      have hnp := hk.1
      unfold fn_X8_person jn_X8_person_32
      simp -implicitDefEqProofs (maxSteps := 2000000) (disch := omega) only [z0, z1, z2, z3, z4, z5, z6, z7, z8, z9, z10, z12, z15, z18, z20, z40, z64, z128, z250, z999, z1000, zn, if_true, if_false, n_eq_f, Nat.reduceAdd, m_gone hm hk, m_gvalley, m_in_0_1, m_in_0_2, m_in_0_20, m_in_0_255, m_in_0_3, m_in_0_4, m_in_0_40, m_in_0_5, m_in_0_6, m_in_0_7, m_in_0_9, m_in_0_999, m_in_1_12, m_in_1_60, m_in_12_16, m_inl, hm.np, hm.ne, Option.bind_some, g_if, g_eta, cond_true, cond_false, h1, h2]
  obtain ⟨a, rfl, la, ua⟩ := gN_n h2
  cases h3 : gN 0 6 a3
  · refine pv_r hI 0 (by decide) ⟨σ, fr.rf, ?_⟩ (fun σ1 hJ => ⟨σ1, fr.rf, ?_⟩)
    · unfold fn_X7_person jn_X7_person_26
      simp -implicitDefEqProofs (maxSteps := 2000000) (disch := omega) only [z0, z1, z2, z3, z4, z5, z6, z7, z8, z9, z10, z12, z15, z18, z20, z40, z64, z128, z250, z999, z1000, zn, if_true, if_false, n_eq_f, Nat.reduceAdd, c_gperson hc hk, c_gvalley, c_gshelf, c_gpass hc hk, c_within, Option.bind_some, g_if, g_eta, cond_true, cond_false, h1, h2, h3]
    · have hm := hJ.2.2.1
      have hne := hk.2.1
      have hnp := hk.1
      unfold fn_X8_person jn_X8_person_32
      simp -implicitDefEqProofs (maxSteps := 2000000) (disch := omega) only [z0, z1, z2, z3, z4, z5, z6, z7, z8, z9, z10, z12, z15, z18, z20, z40, z64, z128, z250, z999, z1000, zn, if_true, if_false, n_eq_f, Nat.reduceAdd, m_gone hm hk, m_gvalley, m_in_0_1, m_in_0_2, m_in_0_20, m_in_0_255, m_in_0_3, m_in_0_4, m_in_0_40, m_in_0_5, m_in_0_6, m_in_0_7, m_in_0_9, m_in_0_999, m_in_1_12, m_in_1_60, m_in_12_16, m_inl, hm.np, hm.ne, Option.bind_some, g_if, g_eta, cond_true, cond_false, h1, h2, h3]
  obtain ⟨v, rfl, lv, uv⟩ := gN_n h3
  have hne := hk.2.1
  have hm := hI.1.2.2.1
  by_cases qn : lne A = 6
  · refine pv_t hI 4 (by decide) ?_ (fun σ1 hJ hF => ?_)
    · unfold fn_X7_person jn_X7_person_26
      simp -implicitDefEqProofs (maxSteps := 2000000) (disch := omega) only [z0, z1, z2, z3, z4, z5, z6, z7, z8, z9, z10, z12, z15, z18, z20, z40, z64, z128, z250, z999, z1000, zn, if_true, if_false, n_eq_f, Nat.reduceAdd, c_gperson hc hk, c_gvalley, c_gshelf, c_gpass hc hk, c_within, Option.bind_some, g_if, g_eta, cond_true, cond_false, n_in_t, n_cl, true_or, or_true, z255, z16, n_neg1, n_eq_t, n_eq_f, Nat.reduceEqDiff, g_or, h1, h2, h3, hc.ne, qn, n_lt_f]
    · have hm := hJ.2.2.1
      unfold fn_X8_person jn_X8_person_32
      simp -implicitDefEqProofs (maxSteps := 2000000) (disch := omega) only [z0, z1, z2, z3, z4, z5, z6, z7, z8, z9, z10, z12, z15, z18, z20, z40, z64, z128, z250, z999, z1000, zn, if_true, if_false, n_eq_f, Nat.reduceAdd, m_gone hm hk, m_gvalley, m_in_0_1, m_in_0_2, m_in_0_20, m_in_0_255, m_in_0_3, m_in_0_4, m_in_0_40, m_in_0_5, m_in_0_6, m_in_0_7, m_in_0_9, m_in_0_999, m_in_1_12, m_in_1_60, m_in_12_16, m_inl, hm.np, hm.ne, Option.bind_some, g_if, g_eta, cond_true, cond_false, n_in_t, n_cl, true_or, or_true, z255, z16, n_neg1, n_eq_t, n_eq_f, Nat.reduceEqDiff, g_or, h1, h2, h3, qn]
  · have e7 : fn_X7_person (nI k) (nI a) (nI v) σ = some (nI (lne A), (am_u (am_u (am_u (am_u (am_u (am_u (am_u (am_u (am_u σ 1 8 (lne A) 0 (nI k)) 1 8 (lne A) 1 (nI a)) 1 8 (lne A) 2 (nI v)) 1 8 (lne A) 3 (nI v)) 1 8 (lne A) 4 (nI 0)) 1 8 (lne A) 5 (nI 20)) 1 8 (lne A) 6 (nI 0)) 1 8 (lne A) 7 (nI 0)) 1 2 0 4 (nI (lne A + 1)))) := by
      unfold fn_X7_person jn_X7_person_26 fn_X0_addPerson
      simp -implicitDefEqProofs (maxSteps := 2000000) (disch := omega) only [z0, z1, z2, z3, z4, z5, z6, z7, z8, z9, z10, z12, z15, z18, z20, z40, z64, z128, z250, z999, z1000, zn, if_true, if_false, n_eq_f, Nat.reduceAdd, c_gperson hc hk, c_gvalley, c_gshelf, c_gpass hc hk, c_within, Option.bind_some, g_if, g_eta, cond_true, cond_false, n_in_t, n_cl, true_or, or_true, z255, z16, n_neg1, n_eq_t, n_eq_f, Nat.reduceEqDiff, g_or, h1, h2, h3, hc.ne, n_lt_t, nI_add]
    have e8 : ∀ τ, pu_m A 5 τ → fn_X8_person 5 (nI k) (nI a) (nI v) τ = some (nI (lne A), (am_u (am_u (am_u (am_u (am_u (am_u (am_u (am_u (am_u τ 5 55 0 (lne A) (nI k)) 5 56 0 (lne A) (nI a)) 5 57 0 (lne A) (nI v)) 5 58 0 (lne A) (nI v)) 5 59 0 (lne A) (nI 0)) 5 60 0 (lne A) (nI 20)) 5 61 0 (lne A) (nI 0)) 5 62 0 (lne A) (nI 0)) 5 40 0 15 (nI (lne A + 1)))) := fun τ hm => by
      unfold fn_X8_person jn_X8_person_32 fn_X8_addPerson
      simp -implicitDefEqProofs (maxSteps := 2000000) (disch := omega) only [z0, z1, z2, z3, z4, z5, z6, z7, z8, z9, z10, z12, z15, z18, z20, z40, z64, z128, z250, z999, z1000, zn, if_true, if_false, n_eq_f, Nat.reduceAdd, m_gone hm hk, m_gvalley, m_in_0_1, m_in_0_2, m_in_0_20, m_in_0_255, m_in_0_3, m_in_0_4, m_in_0_40, m_in_0_5, m_in_0_6, m_in_0_7, m_in_0_9, m_in_0_999, m_in_1_12, m_in_1_60, m_in_12_16, m_inl, hm.np, hm.ne, Option.bind_some, g_if, g_eta, cond_true, cond_false, n_in_t, n_cl, true_or, or_true, z255, z16, n_neg1, n_eq_t, n_eq_f, Nat.reduceEqDiff, g_or, h1, h2, h3, n_eq_f, nI_add, n_sub, u_at, Nat.add_sub_cancel]
    have f7 : fr (fun o _ _ _ => o = 1) σ (am_u (am_u (am_u (am_u (am_u (am_u (am_u (am_u (am_u σ 1 8 (lne A) 0 (nI k)) 1 8 (lne A) 1 (nI a)) 1 8 (lne A) 2 (nI v)) 1 8 (lne A) 3 (nI v)) 1 8 (lne A) 4 (nI 0)) 1 8 (lne A) 5 (nI 20)) 1 8 (lne A) 6 (nI 0)) 1 8 (lne A) 7 (nI 0)) 1 2 0 4 (nI (lne A + 1))) := fr1.tr (fr1.tr (fr1.tr (fr1.tr (fr1.tr (fr1.tr (fr1.tr (fr1.tr fr1)))))))
    have m1 := f7.m1 (fun _ _ _ _ => by omega) hm
    have f8 : fr (fun o k i j => o = 5 ∧ ((50 ≤ k ∧ k < 63) ∨ (k = 40 ∧ j = 15))) (am_u (am_u (am_u (am_u (am_u (am_u (am_u (am_u (am_u σ 1 8 (lne A) 0 (nI k)) 1 8 (lne A) 1 (nI a)) 1 8 (lne A) 2 (nI v)) 1 8 (lne A) 3 (nI v)) 1 8 (lne A) 4 (nI 0)) 1 8 (lne A) 5 (nI 20)) 1 8 (lne A) 6 (nI 0)) 1 8 (lne A) 7 (nI 0)) 1 2 0 4 (nI (lne A + 1))) (am_u (am_u (am_u (am_u (am_u (am_u (am_u (am_u (am_u (am_u (am_u (am_u (am_u (am_u (am_u (am_u (am_u (am_u σ 1 8 (lne A) 0 (nI k)) 1 8 (lne A) 1 (nI a)) 1 8 (lne A) 2 (nI v)) 1 8 (lne A) 3 (nI v)) 1 8 (lne A) 4 (nI 0)) 1 8 (lne A) 5 (nI 20)) 1 8 (lne A) 6 (nI 0)) 1 8 (lne A) 7 (nI 0)) 1 2 0 4 (nI (lne A + 1))) 5 55 0 (lne A) (nI k)) 5 56 0 (lne A) (nI a)) 5 57 0 (lne A) (nI v)) 5 58 0 (lne A) (nI v)) 5 59 0 (lne A) (nI 0)) 5 60 0 (lne A) (nI 20)) 5 61 0 (lne A) (nI 0)) 5 62 0 (lne A) (nI 0)) 5 40 0 15 (nI (lne A + 1))) := (fr.u (by omega)).tr ((fr.u (by omega)).tr ((fr.u (by omega)).tr ((fr.u (by omega)).tr ((fr.u (by omega)).tr ((fr.u (by omega)).tr ((fr.u (by omega)).tr ((fr.u (by omega)).tr (fr.u (by omega)))))))))
    have c2 := f8.c (fun _ _ _ => by omega) hc.sE.sE.sE.sE.sE.sE.sE.sE.sNe
    refine ⟨_, _, _, e7, e8 _ m1, _, fr.IL (B := sN (sE (sE (sE (sE (sE (sE (sE (sE A (lne A) 0 k) (lne A) 1 a) (lne A) 2 v) (lne A) 3 v) (lne A) 4 0) (lne A) 5 20) (lne A) 6 0) (lne A) 7 0) (lnp A) (lne A + 1) (lbk A)) ((f7.mono fun o k i j q => by unfold SLn; omega).tr (f8.mono fun o k i j q => by unfold SLn; omega)) hI ⟨hk.1, by show lne A + 1 ≤ 6; omega, hk.2.2.1, hk.2.2.2.1, hk.2.2.2.2.1, fun r hr => ?_⟩ c2 ((((((((m1.sE (j := 0) (by decide)).sE (j := 1) (by decide)).sE (j := 2) (by decide)).sE (j := 3) (by decide)).sE (j := 4) (by decide)).sE (j := 5) (by decide)).sE (j := 6) (by decide)).sE (j := 7) (by decide)).sNe (by show lne A ≤ lne A + 1; omega)⟩
    have hr : r < lne A + 1 := hr
    by_cases c : r = lne A
    · subst c
      refine ⟨?_, ?_, ?_, ?_, ?_, ?_, ?_, ?_⟩ <;> simp [lE, sE, sN] <;> omega
    · have hh := hk.2.2.2.2.2 r (by omega)
      refine ⟨?_, ?_, ?_, ?_, ?_, ?_, ?_, ?_⟩ <;> simp [lE, sE, sN, c] <;> simp only [lE] at hh <;> omega
