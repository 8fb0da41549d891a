/-! ===== calls: ways ===== -/
theorem S12_X : ∀ o k i j, S12 o k i j → SX o k i j := fun o k i j h => by unfold S12 at h; unfold SX; omega
theorem S65_X : ∀ o k i j, S65 o k i j → SX o k i j := fun o k i j h => by unfold S65 at h; unfold SX; omega
section PCW
variable {A : pu_L} {σ : am_S} {p w v : Nat}
theorem c_between {a b : Nat} (ha : a < 7) (hb : b < 7) : fn_X6_between (nI a) (nI b) σ = some (σ.1 12 19 a b, σ) := by
  unfold fn_X6_between
  rw [c_valley ha]
  simp -implicitDefEqProofs only [Option.bind_some]
  rw [c_valley hb]
  simp -implicitDefEqProofs (disch := omega) only [z0, z1, Option.bind_some, n_eq_f, if_false, n_in_t, cond_true, n_cl]
theorem c_leastWay (hk : pu_k A) (hc : pu_c A 1 σ) (hp : p < lne A) (hw : w < 5) (hv : v < 7) : ∃ τ, fn_X7_leastWay (nI p) (nI v) (nI w) σ = some (nI (DN A p w 64 1000000 none (lE A p 3) v), τ) ∧ fr S12 σ τ := by
  have hne := hk.2.1
  have hat := (hk.2.2.2.2.2 p hp).2.2.2.1
  obtain ⟨τ, e1, e2, e3⟩ := c_measure (wo := none) hk hp hw (by simp) hc
  have hc2 : pu_c A 1 τ := e2.c (fun k i j q => by unfold S12 at q; omega) hc
  refine ⟨τ, ?_, e2⟩
  unfold fn_X7_leastWay
  simp only [oI] at e1
  simp -implicitDefEqProofs (disch := omega) only [z1, zn, n_in_t, cond_true, n_cl, e1, Option.bind_some, hc2.E, c_between, e3]
theorem m_far (hk : pu_k A) (hm : pu_m A 5 σ) (hp : p < lne A) (hw : w < 5) : ∃ τ, fn_X8_findFar 5 (nI p) (nI w) mI σ = some τ ∧ fr S65 σ τ ∧ pu_m A 5 τ ∧ ∀ a b, a < 7 → b < 7 → τ.1 5 65 a b = nI (DN A p w 1000 10000000 none a b) := by
  obtain ⟨τ, e1, e2, e3⟩ := m_findFar (wo := none) hk hp hw (by simp) hm
  exact ⟨τ, e1, e2, e2.m (fun k i j h1 _ _ _ q => by unfold S65 at q; omega) hm, e3⟩
end PCW
theorem pv_way (a1 : Int32) (a2 : Int32) (a3 : Int32) (σ : am_S) (hI : pu_Inv σ) : ∃ (r : Int32) (σ1 σ2 : am_S), fn_X7_way a1 a2 a3 σ = some (r, σ1) ∧ fn_X8_way 5 a1 a2 a3 σ1 = some (r, σ2) ∧ pu_Inv σ2 := by
  obtain ⟨A, hI⟩ := hI
  have hk := hI.1.1
  have hc := hI.1.2.1
  cases h1 : gL (lne A) a1
  · refine pv_r hI 0 (by decide) ⟨σ, fr.rf, ?_⟩ (fun σ1 hJ => ⟨σ1, fr.rf, ?_⟩)
    · unfold fn_X7_way jn_X7_way_27
      simp -implicitDefEqProofs (disch := omega) only [z0, z1, z2, z3, z4, z5, z6, z7, z8, z9, z10, z12, z15, z18, z20, z40, z64, z128, z250, z999, z1000, zn, if_true, if_false, n_eq_f, Nat.reduceAdd, c_gperson hc hk, c_gvalley, c_gshelf, c_gpass hc hk, c_within, Option.bind_some, g_if, g_eta, cond_true, cond_false, h1]
    · have hm := hJ.2.2.1
      have hne := hk.2.1
      have hnp := hk.1
      unfold fn_X8_way jn_X8_way_28
      simp -implicitDefEqProofs (disch := omega) only [z0, z1, z2, z3, z4, z5, z6, z7, z8, z9, z10, z12, z15, z18, z20, z40, z64, z128, z250, z999, z1000, zn, if_true, if_false, n_eq_f, Nat.reduceAdd, m_gone hm hk, m_gvalley, m_in_0_1, m_in_0_2, m_in_0_20, m_in_0_255, m_in_0_3, m_in_0_4, m_in_0_40, m_in_0_5, m_in_0_6, m_in_0_7, m_in_0_9, m_in_0_999, m_in_1_12, m_in_1_60, m_in_12_16, m_inl, hm.np, hm.ne, Option.bind_some, g_if, g_eta, cond_true, cond_false, h1]
  obtain ⟨p, rfl, lp⟩ := gL_n h1
  cases h2 : gN 0 6 a2
  · refine pv_r hI 0 (by decide) ⟨σ, fr.rf, ?_⟩ (fun σ1 hJ => ⟨σ1, fr.rf, ?_⟩)
    · unfold fn_X7_way jn_X7_way_27
      simp -implicitDefEqProofs (disch := omega) only [z0, z1, z2, z3, z4, z5, z6, z7, z8, z9, z10, z12, z15, z18, z20, z40, z64, z128, z250, z999, z1000, zn, if_true, if_false, n_eq_f, Nat.reduceAdd, c_gperson hc hk, c_gvalley, c_gshelf, c_gpass hc hk, c_within, Option.bind_some, g_if, g_eta, cond_true, cond_false, h1, h2]
    · have hm := hJ.2.2.1
      have hne := hk.2.1
      have hnp := hk.1
      unfold fn_X8_way jn_X8_way_28
      simp -implicitDefEqProofs (disch := omega) only [z0, z1, z2, z3, z4, z5, z6, z7, z8, z9, z10, z12, z15, z18, z20, z40, z64, z128, z250, z999, z1000, zn, if_true, if_false, n_eq_f, Nat.reduceAdd, m_gone hm hk, m_gvalley, m_in_0_1, m_in_0_2, m_in_0_20, m_in_0_255, m_in_0_3, m_in_0_4, m_in_0_40, m_in_0_5, m_in_0_6, m_in_0_7, m_in_0_9, m_in_0_999, m_in_1_12, m_in_1_60, m_in_12_16, m_inl, hm.np, hm.ne, Option.bind_some, g_if, g_eta, cond_true, cond_false, h1, h2]
  obtain ⟨v, rfl, lv, uv⟩ := gN_n h2
  cases h3 : gN 0 2 a3
  · refine pv_r hI 0 (by decide) ⟨σ, fr.rf, ?_⟩ (fun σ1 hJ => ⟨σ1, fr.rf, ?_⟩)
    · unfold fn_X7_way jn_X7_way_27
      simp -implicitDefEqProofs (disch := omega) only [z0, z1, z2, z3, z4, z5, z6, z7, z8, z9, z10, z12, z15, z18, z20, z40, z64, z128, z250, z999, z1000, zn, if_true, if_false, n_eq_f, Nat.reduceAdd, c_gperson hc hk, c_gvalley, c_gshelf, c_gpass hc hk, c_within, Option.bind_some, g_if, g_eta, cond_true, cond_false, h1, h2, h3]
    · have hm := hJ.2.2.1
      have hne := hk.2.1
      have hnp := hk.1
      unfold fn_X8_way jn_X8_way_28
      simp -implicitDefEqProofs (disch := omega) only [z0, z1, z2, z3, z4, z5, z6, z7, z8, z9, z10, z12, z15, z18, z20, z40, z64, z128, z250, z999, z1000, zn, if_true, if_false, n_eq_f, Nat.reduceAdd, m_gone hm hk, m_gvalley, m_in_0_1, m_in_0_2, m_in_0_20, m_in_0_255, m_in_0_3, m_in_0_4, m_in_0_40, m_in_0_5, m_in_0_6, m_in_0_7, m_in_0_9, m_in_0_999, m_in_1_12, m_in_1_60, m_in_12_16, m_inl, hm.np, hm.ne, Option.bind_some, g_if, g_eta, cond_true, cond_false, h1, h2, h3]
  obtain ⟨w, rfl, lw, uw⟩ := gN_n h3
  refine pv_q hI (r := nI (DN A p w 64 1000000 none (lE A p 3) v)) ?_ (fun σ1 hI1 => ?_)
  · obtain ⟨τ, e1, e2⟩ := c_leastWay (σ := σ) hk hc lp (w := w) (by omega) (v := v) (by omega)
    refine ⟨τ, ?_, e2.mono S12_X⟩
    unfold fn_X7_way jn_X7_way_27
    simp -implicitDefEqProofs (disch := omega) only [z0, z1, z2, z3, z4, z5, z6, z7, z8, z9, z10, z12, z15, z18, z20, z40, z64, z128, z250, z999, z1000, zn, if_true, if_false, n_eq_f, Nat.reduceAdd, c_gperson hc hk, c_gvalley, c_gshelf, c_gpass hc hk, c_within, Option.bind_some, g_if, g_eta, cond_true, cond_false, h1, h2, h3, e1]
  · have hc1 := hI1.1.2.1
    have hm := hI1.1.2.2.1
    have hne := hk.2.1
    have hnp := hk.1
    have hat := (hk.2.2.2.2.2 p lp).2.2.2.1
    obtain ⟨τ, e1, e2, e3, e4⟩ := m_far hk hm lp (w := w) (by omega)
    refine ⟨τ, ?_, e2.mono S65_X⟩
    unfold fn_X8_way jn_X8_way_28
    simp -implicitDefEqProofs (disch := omega) only [z0, z1, z2, z3, z4, z5, z6, z7, z8, z9, z10, z12, z15, z18, z20, z40, z64, z128, z250, z999, z1000, zn, if_true, if_false, n_eq_f, Nat.reduceAdd, m_gone hm hk, m_gvalley, m_in_0_1, m_in_0_2, m_in_0_20, m_in_0_255, m_in_0_3, m_in_0_4, m_in_0_40, m_in_0_5, m_in_0_6, m_in_0_7, m_in_0_9, m_in_0_999, m_in_1_12, m_in_1_60, m_in_12_16, m_inl, hm.np, hm.ne, Option.bind_some, g_if, g_eta, cond_true, cond_false, h1, h2, h3, e1, n_in_t, n_cl, e3.E3, e4, DN_eq hk lp (show ∀ r, (none : Option Nat) = some r → r < 3 by simp)]
theorem pv_steps (a1 : Int32) (a2 : Int32) (σ : am_S) (hI : pu_Inv σ) : ∃ (r : Int32) (σ1 σ2 : am_S), fn_X7_steps a1 a2 σ = some (r, σ1) ∧ fn_X8_steps 5 a1 a2 σ1 = some (r, σ2) ∧ pu_Inv σ2 := by
  obtain ⟨A, hI⟩ := hI
  have hk := hI.1.1
  have hc := hI.1.2.1
  cases h1 : gL (lne A) a1
  · refine pv_r hI 0 (by decide) ⟨σ, fr.rf, ?_⟩ (fun σ1 hJ => ⟨σ1, fr.rf, ?_⟩)
    · unfold fn_X7_steps jn_X7_steps_18
      simp -implicitDefEqProofs (disch := omega) only [z0, z1, z2, z3, z4, z5, z6, z7, z8, z9, z10, z12, z15, z18, z20, z40, z64, z128, z250, z999, z1000, zn, if_true, if_false, n_eq_f, Nat.reduceAdd, c_gperson hc hk, c_gvalley, c_gshelf, c_gpass hc hk, c_within, Option.bind_some, g_if, g_eta, cond_true, cond_false, h1]
    · have hm := hJ.2.2.1
      have hne := hk.2.1
      have hnp := hk.1
      unfold fn_X8_steps jn_X8_steps_16
      simp -implicitDefEqProofs (disch := omega) only [z0, z1, z2, z3, z4, z5, z6, z7, z8, z9, z10, z12, z15, z18, z20, z40, z64, z128, z250, z999, z1000, zn, if_true, if_false, n_eq_f, Nat.reduceAdd, m_gone hm hk, m_gvalley, m_in_0_1, m_in_0_2, m_in_0_20, m_in_0_255, m_in_0_3, m_in_0_4, m_in_0_40, m_in_0_5, m_in_0_6, m_in_0_7, m_in_0_9, m_in_0_999, m_in_1_12, m_in_1_60, m_in_12_16, m_inl, hm.np, hm.ne, Option.bind_some, g_if, g_eta, cond_true, cond_false, h1]
  obtain ⟨p, rfl, lp⟩ := gL_n h1
  cases h2 : gN 0 6 a2
  · refine pv_r hI 0 (by decide) ⟨σ, fr.rf, ?_⟩ (fun σ1 hJ => ⟨σ1, fr.rf, ?_⟩)
    · unfold fn_X7_steps jn_X7_steps_18
      simp -implicitDefEqProofs (disch := omega) only [z0, z1, z2, z3, z4, z5, z6, z7, z8, z9, z10, z12, z15, z18, z20, z40, z64, z128, z250, z999, z1000, zn, if_true, if_false, n_eq_f, Nat.reduceAdd, c_gperson hc hk, c_gvalley, c_gshelf, c_gpass hc hk, c_within, Option.bind_some, g_if, g_eta, cond_true, cond_false, h1, h2]
    · have hm := hJ.2.2.1
      have hne := hk.2.1
      have hnp := hk.1
      unfold fn_X8_steps jn_X8_steps_16
      simp -implicitDefEqProofs (disch := omega) only [z0, z1, z2, z3, z4, z5, z6, z7, z8, z9, z10, z12, z15, z18, z20, z40, z64, z128, z250, z999, z1000, zn, if_true, if_false, n_eq_f, Nat.reduceAdd, m_gone hm hk, m_gvalley, m_in_0_1, m_in_0_2, m_in_0_20, m_in_0_255, m_in_0_3, m_in_0_4, m_in_0_40, m_in_0_5, m_in_0_6, m_in_0_7, m_in_0_9, m_in_0_999, m_in_1_12, m_in_1_60, m_in_12_16, m_inl, hm.np, hm.ne, Option.bind_some, g_if, g_eta, cond_true, cond_false, h1, h2]
  obtain ⟨v, rfl, lv, uv⟩ := gN_n h2
  refine pv_q hI (r := nI (DN A p 3 64 1000000 none (lE A p 3) v)) ?_ (fun σ1 hI1 => ?_)
  · obtain ⟨τ, e1, e2⟩ := c_leastWay (σ := σ) hk hc lp (w := 3) (by omega) (v := v) (by omega)
    refine ⟨τ, ?_, e2.mono S12_X⟩
    unfold fn_X7_steps jn_X7_steps_18
    simp -implicitDefEqProofs (disch := omega) only [z0, z1, z2, z3, z4, z5, z6, z7, z8, z9, z10, z12, z15, z18, z20, z40, z64, z128, z250, z999, z1000, zn, if_true, if_false, n_eq_f, Nat.reduceAdd, c_gperson hc hk, c_gvalley, c_gshelf, c_gpass hc hk, c_within, Option.bind_some, g_if, g_eta, cond_true, cond_false, h1, h2, e1]
  · have hc1 := hI1.1.2.1
    have hm := hI1.1.2.2.1
    have hne := hk.2.1
    have hnp := hk.1
    have hat := (hk.2.2.2.2.2 p lp).2.2.2.1
    obtain ⟨τ, e1, e2, e3, e4⟩ := m_far hk hm lp (w := 3) (by omega)
    refine ⟨τ, ?_, e2.mono S65_X⟩
    unfold fn_X8_steps jn_X8_steps_16
    simp -implicitDefEqProofs (disch := omega) only [z0, z1, z2, z3, z4, z5, z6, z7, z8, z9, z10, z12, z15, z18, z20, z40, z64, z128, z250, z999, z1000, zn, if_true, if_false, n_eq_f, Nat.reduceAdd, m_gone hm hk, m_gvalley, m_in_0_1, m_in_0_2, m_in_0_20, m_in_0_255, m_in_0_3, m_in_0_4, m_in_0_40, m_in_0_5, m_in_0_6, m_in_0_7, m_in_0_9, m_in_0_999, m_in_1_12, m_in_1_60, m_in_12_16, m_inl, hm.np, hm.ne, Option.bind_some, g_if, g_eta, cond_true, cond_false, h1, h2, e1, n_in_t, n_cl, e3.E3, e4, DN_eq hk lp (show ∀ r, (none : Option Nat) = some r → r < 3 by simp)]
