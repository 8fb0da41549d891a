/-! ===== calls: shelves changed ===== -/
theorem ul_1 {σ : am_S} {o k i j : Nat} {x : Int64} : (am_ul σ o k i j x).1 = σ.1 := rfl
theorem u_2 {σ : am_S} {o k i j : Nat} {x : Int32} : (am_u σ o k i j x).2 = σ.2 := rfl
theorem ul_at {σ : am_S} {o k i j : Nat} {x : Int64} : (am_ul σ o k i j x).2 o k i j = x := if_pos ⟨rfl, rfl, rfl, rfl⟩
theorem ul_ne {σ : am_S} {o k i j o' k' i' j' : Nat} {x : Int64} (h : ¬ (k' = k ∧ j' = j ∧ i' = i ∧ o' = o)) : (am_ul σ o k i j x).2 o' k' i' j' = σ.2 o' k' i' j' := if_neg h
section PSC
variable {A : pu_L} {σ : am_S} {s t n p : Nat}
theorem fr.s0J {σ' : am_S} (h : fr SJ σ σ') (c : sh0 σ s) : sh0 σ' s := h.h0 SJ_hS SJ_hT c
theorem fr.s1J {σ' : am_S} (h : fr SJ σ σ') (c : sh1 σ s t n) : sh1 σ' s t n := h.h1 SJ_hS SJ_hT SJ_hU c
theorem fr.s2J {σ' : am_S} (h : fr SJ σ σ') (c : sh2 A σ s p) : sh2 A σ' s p := h.h2 SJ_hS SJ_hT (Nat.le_refl _) c
/-- the class fills a row -/
theorem c_fill0 (hs : s < 8) {x : Int64} : ∀ (m k fuel : Nat) (σ : am_S), k + m = 40 → m < fuel → (∀ j, j < k → σ.2 10 13 s j = x) → ∃ τ, lp_J7_fill_d0a16_13_6 fuel s x (nI k) (nI 40) σ = some τ ∧ τ.1 = σ.1 ∧ fr (fun o k i _ => o = 10 ∧ k = 13 ∧ i = s) σ τ ∧ ∀ j, j < 40 → τ.2 10 13 s j = x := by
  intro m
  induction m with
  | zero =>
    intro k fuel σ hs hf hx
    obtain ⟨f, rfl⟩ : ∃ f, fuel = f + 1 := ⟨fuel - 1, by omega⟩
    obtain rfl : k = 40 := by omega
    refine ⟨σ, ?_, rfl, fr.rf, hx⟩
    rw [lp_J7_fill_d0a16_13_6.eq_2]
    unfold lb_J7_fill_d0a16_13_6
    simp -implicitDefEqProofs (maxSteps := 2000000) (disch := omega) only [z0, z1, z2, z3, z4, z5, z6, z7, z8, z9, z10, z12, z15, z18, z20, z40, z64, z128, z250, z999, z1000, zn, if_true, if_false, n_eq_f, Nat.reduceAdd, n_le_t]
  | succ m ih =>
    intro k fuel σ hs hf hx
    obtain ⟨f, rfl⟩ : ∃ f, fuel = f + 1 := ⟨fuel - 1, by omega⟩
    obtain ⟨τ, e1, e2, e3, e4⟩ := ih (k + 1) f (am_ul σ 10 13 s k x) (by omega) (by omega) (fun j hj => by
      by_cases c : j = k
      · subst c; exact ul_at
      · rw [ul_ne (by omega)]; exact hx j (by omega))
    refine ⟨τ, ?_, e2, (fr.ul ⟨rfl, rfl, rfl⟩).tr e3, e4⟩
    rw [lp_J7_fill_d0a16_13_6.eq_2]
    unfold lb_J7_fill_d0a16_13_6
    simp -implicitDefEqProofs (maxSteps := 2000000) (disch := omega) only [z0, z1, z2, z3, z4, z5, z6, z7, z8, z9, z10, z12, z15, z18, z20, z40, z64, z128, z250, z999, z1000, zn, if_true, if_false, n_eq_f, Nat.reduceAdd, n_le_f, n_in_t, n_cl, cond_true, nI_add, e1]
/-- the reference fills a row -/
theorem m_fill0 (hs : s < 8) : ∀ (m k fuel : Nat) (σ : am_S), k + m = 40 → m < fuel → (∀ j, j < k → σ.2 5 45 s j = 0) → ∃ τ, lp_X8_row_67 fuel 5 (nI s) (nI k) σ = some (nI 1, τ) ∧ τ.1 = σ.1 ∧ fr (fun o k i _ => o = 5 ∧ k = 45 ∧ i = s) σ τ ∧ ∀ j, j < 40 → τ.2 5 45 s j = 0 := by
  intro m
  induction m with
  | zero =>
    intro k fuel σ hs hf hx
    obtain ⟨f, rfl⟩ : ∃ f, fuel = f + 1 := ⟨fuel - 1, by omega⟩
    obtain rfl : k = 40 := by omega
    refine ⟨σ, ?_, rfl, fr.rf, hx⟩
    rw [lp_X8_row_67.eq_2]
    unfold lb_X8_row_67
    simp -implicitDefEqProofs (maxSteps := 2000000) (disch := omega) only [z0, z1, z2, z3, z4, z5, z6, z7, z8, z9, z10, z12, z15, z18, z20, z40, z64, z128, z250, z999, z1000, zn, if_true, if_false, n_eq_f, Nat.reduceAdd, n_le_t]
  | succ m ih =>
    intro k fuel σ hs hf hx
    obtain ⟨f, rfl⟩ : ∃ f, fuel = f + 1 := ⟨fuel - 1, by omega⟩
    obtain ⟨τ, e1, e2, e3, e4⟩ := ih (k + 1) f (am_ul σ 5 45 s k 0) (by omega) (by omega) (fun j hj => by
      by_cases c : j = k
      · subst c; exact ul_at
      · rw [ul_ne (by omega)]; exact hx j (by omega))
    refine ⟨τ, ?_, e2, (fr.ul ⟨rfl, rfl, rfl⟩).tr e3, e4⟩
    rw [lp_X8_row_67.eq_2]
    unfold lb_X8_row_67
    simp -implicitDefEqProofs (maxSteps := 2000000) (disch := omega) only [z0, z1, z2, z3, z4, z5, z6, z7, z8, z9, z10, z12, z15, z18, z20, z40, z64, z128, z250, z999, z1000, zn, if_true, if_false, n_eq_f, Nat.reduceAdd, n_le_f, n_in_t, n_cl, cond_true, nI_add, e1]
theorem c_narrow {a : Int64} : ∃ x, (∀ τ, fn_X2_narrowed (nI t) a τ = some (x, τ)) ∧ ∀ τ, fn_X8_fit (nI t) a τ = some (x, τ) := by
  unfold fn_X2_narrowed fn_X8_fit
  by_cases c0 : nI t = 0
  · simp only [c0, if_true]; exact ⟨_, fun _ => rfl, fun _ => rfl⟩
  · by_cases c1 : nI t = 1
    · simp only [c0, c1, if_true, if_false]; exact ⟨_, fun _ => rfl, fun _ => rfl⟩
    · by_cases c2 : nI t = 2
      · simp only [c0, c1, c2, if_true, if_false]; exact ⟨_, fun _ => rfl, fun _ => rfl⟩
      · by_cases c3 : nI t = 3
        · simp only [c0, c1, c2, c3, if_true, if_false]; exact ⟨_, fun _ => rfl, fun _ => rfl⟩
        · by_cases c4 : lg_cmp a 0 = 0
          · simp only [c0, c1, c2, c3, c4, if_true, if_false]; exact ⟨_, fun _ => rfl, fun _ => rfl⟩
          · simp only [c0, c1, c2, c3, c4, if_true, if_false]; exact ⟨_, fun _ => rfl, fun _ => rfl⟩
theorem c_refR0 (hs : s < 8) (h : sh0 σ s) : fn_X2_refusalOfRow (nI s) σ = some (-nI 4, σ) := by
  unfold fn_X2_refusalOfRow
  simp -implicitDefEqProofs (maxSteps := 2000000) (disch := omega) only [z0, z1, z2, z3, z4, z5, z6, z7, z8, z9, z10, z12, z15, z18, z20, z40, z64, z128, z250, z999, z1000, zn, if_true, if_false, n_eq_f, Nat.reduceAdd, n_in_t, n_cl, h.1, cond_true]
theorem c_refR1 (hs : s < 8) (h : sh1 σ s t n) : fn_X2_refusalOfRow (nI s) σ = some (nI 0, σ) := by
  have := h.1
  unfold fn_X2_refusalOfRow
  simp -implicitDefEqProofs (maxSteps := 2000000) (disch := omega) only [z0, z1, z2, z3, z4, z5, z6, z7, z8, z9, z10, z12, z15, z18, z20, z40, z64, z128, z250, z999, z1000, zn, if_true, if_false, n_eq_f, Nat.reduceAdd, n_in_t, n_cl, h.2.2.1, n_neg1, c_isRow1 hs h, Option.bind_some, cond_true]
theorem c_refR2 (hk : pu_k A) (hs : s < 8) (h : sh2 A σ s p) : fn_X2_refusalOfRow (nI s) σ = some (-nI 3, σ) := by
  have := h.1
  have := hk.2.1
  unfold fn_X2_refusalOfRow
  simp -implicitDefEqProofs (maxSteps := 2000000) (disch := omega) only [z0, z1, z2, z3, z4, z5, z6, z7, z8, z9, z10, z12, z15, z18, z20, z40, z64, z128, z250, z999, z1000, zn, if_true, if_false, n_eq_f, Nat.reduceAdd, n_in_t, n_cl, h.2.1, n_neg1, c_isRow2 hk hs h, Option.bind_some, cond_true]
theorem n_m {k l : Nat} (hk : k ≤ 6) (hl : l ≤ 6) (h : k ≠ l) : (-nI k = -nI l) = False := by
  have h2 : (List.range 7).all (fun k => (List.range 7).all fun l => k == l || !(-nI k == -nI l)) = true := by decide
  have h3 := List.all_eq_true.mp (List.all_eq_true.mp h2 k (List.mem_range.mpr (by omega))) l (List.mem_range.mpr (by omega))
  exact eq_false fun q => by rw [q] at h3; simp [h] at h3
theorem n_mz {k : Nat} (hk : 0 < k) (hl : k ≤ 6) : (-nI k = nI 0) = False := n_m hl (by decide : 0 ≤ 6) (by omega)
end PSC
theorem pv_row (a1 : Int32) (a2 : Int32) (a3 : Int32) (σ : am_S) (hI : pu_Inv σ) : ∃ (r : Int32) (σ1 σ2 : am_S), fn_X7_row a1 a2 a3 σ = some (r, σ1) ∧ fn_X8_row 5 a1 a2 a3 σ1 = some (r, σ2) ∧ pu_Inv σ2 := by
  obtain ⟨A, hI⟩ := hI
  have hk := hI.1.1
  have hc := hI.1.2.1
  cases h1 : gN 0 7 a1
  · refine pv_r hI 0 (by decide) ⟨σ, fr.rf, ?_⟩ (fun σ1 hJ => ⟨σ1, fr.rf, ?_⟩)
    · unfold fn_X7_row jn_X7_row_26
      simp -implicitDefEqProofs (maxSteps := 2000000) (disch := omega) only [z0, z1, z2, z3, z4, z5, z6, z7, z8, z9, z10, z12, z15, z18, z20, z40, z64, z128, z250, z999, z1000, zn, if_true, if_false, n_eq_f, Nat.reduceAdd, c_gperson hc hk, c_gvalley, c_gshelf, c_gpass hc hk, c_within, Option.bind_some, g_if, g_eta, cond_true, cond_false, h1]
    · have hm := hJ.2.2.1
      have hne := hk.2.1
      have hnp := hk.1
      unfold fn_X8_row jn_X8_row_36
      simp -implicitDefEqProofs (maxSteps := 2000000) (disch := omega) only [z0, z1, z2, z3, z4, z5, z6, z7, z8, z9, z10, z12, z15, z18, z20, z40, z64, z128, z250, z999, z1000, zn, if_true, if_false, n_eq_f, Nat.reduceAdd, m_gone hm hk, m_gvalley, m_in_0_1, m_in_0_2, m_in_0_20, m_in_0_255, m_in_0_3, m_in_0_4, m_in_0_40, m_in_0_5, m_in_0_6, m_in_0_7, m_in_0_9, m_in_0_999, m_in_1_12, m_in_1_60, m_in_12_16, m_inl, hm.np, hm.ne, Option.bind_some, g_if, g_eta, cond_true, cond_false, h1]
  obtain ⟨s, rfl, ls, us⟩ := gN_n h1
  cases h2 : gN 0 4 a2
  · refine pv_r hI 0 (by decide) ⟨σ, fr.rf, ?_⟩ (fun σ1 hJ => ⟨σ1, fr.rf, ?_⟩)
    · unfold fn_X7_row jn_X7_row_26
      simp -implicitDefEqProofs (maxSteps := 2000000) (disch := omega) only [z0, z1, z2, z3, z4, z5, z6, z7, z8, z9, z10, z12, z15, z18, z20, z40, z64, z128, z250, z999, z1000, zn, if_true, if_false, n_eq_f, Nat.reduceAdd, c_gperson hc hk, c_gvalley, c_gshelf, c_gpass hc hk, c_within, Option.bind_some, g_if, g_eta, cond_true, cond_false, h1, h2]
    · have hm := hJ.2.2.1
      have hne := hk.2.1
      have hnp := hk.1
      unfold fn_X8_row jn_X8_row_36
      simp -implicitDefEqProofs (maxSteps := 2000000) (disch := omega) only [z0, z1, z2, z3, z4, z5, z6, z7, z8, z9, z10, z12, z15, z18, z20, z40, z64, z128, z250, z999, z1000, zn, if_true, if_false, n_eq_f, Nat.reduceAdd, m_gone hm hk, m_gvalley, m_in_0_1, m_in_0_2, m_in_0_20, m_in_0_255, m_in_0_3, m_in_0_4, m_in_0_40, m_in_0_5, m_in_0_6, m_in_0_7, m_in_0_9, m_in_0_999, m_in_1_12, m_in_1_60, m_in_12_16, m_inl, hm.np, hm.ne, Option.bind_some, g_if, g_eta, cond_true, cond_false, h1, h2]
  obtain ⟨t, rfl, lt, ut⟩ := gN_n h2
  cases h3 : gN 0 40 a3
  · refine pv_r hI 0 (by decide) ⟨σ, fr.rf, ?_⟩ (fun σ1 hJ => ⟨σ1, fr.rf, ?_⟩)
    · unfold fn_X7_row jn_X7_row_26
      simp -implicitDefEqProofs (maxSteps := 2000000) (disch := omega) only [z0, z1, z2, z3, z4, z5, z6, z7, z8, z9, z10, z12, z15, z18, z20, z40, z64, z128, z250, z999, z1000, zn, if_true, if_false, n_eq_f, Nat.reduceAdd, c_gperson hc hk, c_gvalley, c_gshelf, c_gpass hc hk, c_within, Option.bind_some, g_if, g_eta, cond_true, cond_false, h1, h2, h3]
    · have hm := hJ.2.2.1
      have hne := hk.2.1
      have hnp := hk.1
      unfold fn_X8_row jn_X8_row_36
      simp -implicitDefEqProofs (maxSteps := 2000000) (disch := omega) only [z0, z1, z2, z3, z4, z5, z6, z7, z8, z9, z10, z12, z15, z18, z20, z40, z64, z128, z250, z999, z1000, zn, if_true, if_false, n_eq_f, Nat.reduceAdd, m_gone hm hk, m_gvalley, m_in_0_1, m_in_0_2, m_in_0_20, m_in_0_255, m_in_0_3, m_in_0_4, m_in_0_40, m_in_0_5, m_in_0_6, m_in_0_7, m_in_0_9, m_in_0_999, m_in_1_12, m_in_1_60, m_in_12_16, m_inl, hm.np, hm.ne, Option.bind_some, g_if, g_eta, cond_true, cond_false, h1, h2, h3]
  obtain ⟨n, rfl, ln, un⟩ := gN_n h3
  have hs8 : s < 8 := by omega
  have hm := hI.1.2.2.1
  obtain ⟨τ, e1, e2, e3, e4⟩ := c_fill0 hs8 (x := 0) 40 0 1000 (am_u (am_u σ 10 10 0 s (nI t)) 10 11 0 s (nI n)) rfl (by decide) (fun j hj => absurd hj (Nat.not_lt_zero _))
  obtain ⟨ρ, d1, d2, d3, d4⟩ := m_fill0 hs8 40 0 1000 (am_u (am_u (am_u τ 5 41 0 s (nI 1)) 5 42 0 s (nI t)) 5 43 0 s (nI n)) rfl (by decide) (fun j hj => absurd hj (Nat.not_lt_zero _))
  have f1 : fr (SHs s) σ τ := (fr.u (by unfold SHs; omega)).tr ((fr.u (by unfold SHs; omega)).tr (e3.mono fun o k i j q => by unfold SHs; omega))
  have f2 : fr (SHs s) τ ρ := (fr.u (by unfold SHs; omega)).tr ((fr.u (by unfold SHs; omega)).tr ((fr.u (by unfold SHs; omega)).tr (d3.mono fun o k i j q => by unfold SHs; omega)))
  refine ⟨nI 1, τ, ρ, ?_, ?_, A, (f1.tr f2).IHs hI (pu_s1_of.mpr (Or.inr (Or.inl ⟨t, n, by omega, by omega, ?_, ?_, ?_, ?_, ?_, fun i hi => ?_⟩)))⟩
  · unfold fn_X7_row fn_X2_putRow fn_J7_fill_d0a16_13
    simp -implicitDefEqProofs (maxSteps := 2000000) (disch := omega) only [z0, z1, z2, z3, z4, z5, z6, z7, z8, z9, z10, z12, z15, z18, z20, z40, z64, z128, z250, z999, z1000, zn, if_true, if_false, n_eq_f, Nat.reduceAdd, c_gperson hc hk, c_gvalley, c_gshelf, c_gpass hc hk, c_within, Option.bind_some, g_if, g_eta, cond_true, cond_false, n_in_t, n_cl, h1, h2, h3, e1]
  · unfold fn_X8_row
    simp -implicitDefEqProofs (maxSteps := 2000000) (disch := omega) only [z0, z1, z2, z3, z4, z5, z6, z7, z8, z9, z10, z12, z15, z18, z20, z40, z64, z128, z250, z999, z1000, zn, if_true, if_false, n_eq_f, Nat.reduceAdd, m_gone hm hk, m_gvalley, m_in_0_1, m_in_0_2, m_in_0_20, m_in_0_255, m_in_0_3, m_in_0_4, m_in_0_40, m_in_0_5, m_in_0_6, m_in_0_7, m_in_0_9, m_in_0_999, m_in_1_12, m_in_1_60, m_in_12_16, m_inl, hm.np, hm.ne, Option.bind_some, g_if, g_eta, cond_true, cond_false, n_in_t, n_cl, h1, h2, h3, d1]
  · rw [d2, u_ne (by omega), u_ne (by omega), u_ne (by omega), e2, u_ne (by omega), u_at]
  · rw [d2, u_ne (by omega), u_ne (by omega), u_ne (by omega), e2, u_at]
  · rw [d2, u_ne (by omega), u_ne (by omega), u_at]
  · rw [d2, u_ne (by omega), u_at]
  · rw [d2, u_at]
  · rw [d4 i hi, (d3 10 13 s i (by omega)).2, u_2, u_2, u_2, e4 i hi]
theorem pv_set (a1 : Int32) (a2 : Int32) (a3 : Int64) (σ : am_S) (hI : pu_Inv σ) : ∃ (r : Int32) (σ1 σ2 : am_S), fn_X7_set a1 a2 a3 σ = some (r, σ1) ∧ fn_X8_set 5 a1 a2 a3 σ1 = some (r, σ2) ∧ pu_Inv σ2 := by
  obtain ⟨A, hI⟩ := hI
  have hk := hI.1.1
  have hm := hI.1.2.2.1
  have hne := hk.2.1
  have hc := hI.1.2.1
  cases h1 : gN 0 7 a1
  · refine pv_t hI 0 (by decide) ?_ (fun σ1 hJ hF => ?_)
    · unfold fn_X7_set jn_X7_set_20 jn_X7_set_43
      simp -implicitDefEqProofs (maxSteps := 2000000) (disch := omega) only [z0, z1, z2, z3, z4, z5, z6, z7, z8, z9, z10, z12, z15, z18, z20, z40, z64, z128, z250, z999, z1000, zn, if_true, if_false, n_eq_f, Nat.reduceAdd, c_gperson hc hk, c_gvalley, c_gshelf, c_gpass hc hk, c_within, Option.bind_some, g_if, g_eta, cond_true, cond_false, n_in_t, n_cl, h1, n_mz, n_eq_t]
    · have hm := hJ.2.2.1
      unfold fn_X8_set fn_X8_noRow
      simp -implicitDefEqProofs (maxSteps := 2000000) (disch := omega) only [z0, z1, z2, z3, z4, z5, z6, z7, z8, z9, z10, z12, z15, z18, z20, z40, z64, z128, z250, z999, z1000, zn, if_true, if_false, n_eq_f, Nat.reduceAdd, m_gone hm hk, m_gvalley, m_in_0_1, m_in_0_2, m_in_0_20, m_in_0_255, m_in_0_3, m_in_0_4, m_in_0_40, m_in_0_5, m_in_0_6, m_in_0_7, m_in_0_9, m_in_0_999, m_in_1_12, m_in_1_60, m_in_12_16, m_inl, hm.np, hm.ne, Option.bind_some, g_if, g_eta, cond_true, cond_false, n_in_t, n_cl, h1, n_mz, n_eq_t, m_rf2]
  · obtain ⟨s, rfl, -, hs⟩ := gN_n h1
    have hs8 : s < 8 := by omega
    rcases pu_s1_of.mp (hI.1.2.2.2.2.2.2 s hs8) with c | ⟨t, n, c⟩ | ⟨p, c⟩
    · refine pv_t hI 2 (by decide) ?_ (fun σ1 hJ hF => ?_)
      · unfold fn_X7_set jn_X7_set_20 jn_X7_set_43
        simp -implicitDefEqProofs (maxSteps := 2000000) (disch := omega) only [z0, z1, z2, z3, z4, z5, z6, z7, z8, z9, z10, z12, z15, z18, z20, z40, z64, z128, z250, z999, z1000, zn, if_true, if_false, n_eq_f, Nat.reduceAdd, c_gperson hc hk, c_gvalley, c_gshelf, c_gpass hc hk, c_within, Option.bind_some, g_if, g_eta, cond_true, cond_false, n_in_t, n_cl, h1, n_mz, n_eq_t, c_refR0 hs8 c]
      · have hm := hJ.2.2.1
        have d := hF.s0J c
        unfold fn_X8_set fn_X8_noRow
        simp -implicitDefEqProofs (maxSteps := 2000000) (disch := omega) only [z0, z1, z2, z3, z4, z5, z6, z7, z8, z9, z10, z12, z15, z18, z20, z40, z64, z128, z250, z999, z1000, zn, if_true, if_false, n_eq_f, Nat.reduceAdd, m_gone hm hk, m_gvalley, m_in_0_1, m_in_0_2, m_in_0_20, m_in_0_255, m_in_0_3, m_in_0_4, m_in_0_40, m_in_0_5, m_in_0_6, m_in_0_7, m_in_0_9, m_in_0_999, m_in_1_12, m_in_1_60, m_in_12_16, m_inl, hm.np, hm.ne, Option.bind_some, g_if, g_eta, cond_true, cond_false, n_in_t, n_cl, h1, n_mz, n_eq_t, d.2, n_eq_f, m_rf4]
    · obtain ⟨c1, c2, c3, c4, c5, c6, c7, c8⟩ := id c
      cases h2 : gL n a2
      · refine pv_t hI 0 (by decide) ?_ (fun σ1 hJ hF => ?_)
        · unfold fn_X7_set jn_X7_set_20 jn_X7_set_43
          simp -implicitDefEqProofs (maxSteps := 2000000) (disch := omega) only [z0, z1, z2, z3, z4, z5, z6, z7, z8, z9, z10, z12, z15, z18, z20, z40, z64, z128, z250, z999, z1000, zn, if_true, if_false, n_eq_f, Nat.reduceAdd, c_gperson hc hk, c_gvalley, c_gshelf, c_gpass hc hk, c_within, Option.bind_some, g_if, g_eta, cond_true, cond_false, n_in_t, n_cl, h1, n_mz, n_eq_t, c_refR1 hs8 c, c_hasE1 hs8 c, h2]
        · have hm := hJ.2.2.1
          have d := hF.s1J c
          unfold fn_X8_set fn_X8_noRow
          simp -implicitDefEqProofs (maxSteps := 2000000) (disch := omega) only [z0, z1, z2, z3, z4, z5, z6, z7, z8, z9, z10, z12, z15, z18, z20, z40, z64, z128, z250, z999, z1000, zn, if_true, if_false, n_eq_f, Nat.reduceAdd, m_gone hm hk, m_gvalley, m_in_0_1, m_in_0_2, m_in_0_20, m_in_0_255, m_in_0_3, m_in_0_4, m_in_0_40, m_in_0_5, m_in_0_6, m_in_0_7, m_in_0_9, m_in_0_999, m_in_1_12, m_in_1_60, m_in_12_16, m_inl, hm.np, hm.ne, Option.bind_some, g_if, g_eta, cond_true, cond_false, n_in_t, n_cl, h1, n_mz, n_eq_t, d.2.2.2.2.1, d.2.2.2.2.2.2.1, h2]
      · obtain ⟨j, rfl, hj⟩ := gL_n h2
        obtain ⟨x, x1, x2⟩ := c_narrow (t := t) (a := a3)
        have f1 : fr (SHs s) σ (am_ul σ 10 13 s j x) := fr.ul (by unfold SHs; omega)
        have f2 : fr (SHs s) (am_ul σ 10 13 s j x) (am_ul (am_ul σ 10 13 s j x) 5 45 s j x) := fr.ul (by unfold SHs; omega)
        refine ⟨nI 1, am_ul σ 10 13 s j x, am_ul (am_ul σ 10 13 s j x) 5 45 s j x, ?_, ?_, A, (f1.tr f2).IHs hI (pu_s1_of.mpr (Or.inr (Or.inl ⟨t, n, c1, c2, c3, c4, c5, c6, c7, fun i hi => ?_⟩)))⟩
        · unfold fn_X7_set jn_X7_set_20 jn_X7_set_43 fn_X2_putElement
          simp -implicitDefEqProofs (maxSteps := 2000000) (disch := omega) only [z0, z1, z2, z3, z4, z5, z6, z7, z8, z9, z10, z12, z15, z18, z20, z40, z64, z128, z250, z999, z1000, zn, if_true, if_false, n_eq_f, Nat.reduceAdd, c_gperson hc hk, c_gvalley, c_gshelf, c_gpass hc hk, c_within, Option.bind_some, g_if, g_eta, cond_true, cond_false, n_in_t, n_cl, h1, n_mz, n_eq_t, c_refR1 hs8 c, c_hasE1 hs8 c, h2, c3, x1]
        · unfold fn_X8_set fn_X8_noRow
          simp -implicitDefEqProofs (maxSteps := 2000000) (disch := omega) only [z0, z1, z2, z3, z4, z5, z6, z7, z8, z9, z10, z12, z15, z18, z20, z40, z64, z128, z250, z999, z1000, zn, if_true, if_false, n_eq_f, Nat.reduceAdd, m_gone hm hk, m_gvalley, m_in_0_1, m_in_0_2, m_in_0_20, m_in_0_255, m_in_0_3, m_in_0_4, m_in_0_40, m_in_0_5, m_in_0_6, m_in_0_7, m_in_0_9, m_in_0_999, m_in_1_12, m_in_1_60, m_in_12_16, m_inl, hm.np, hm.ne, Option.bind_some, g_if, g_eta, cond_true, cond_false, n_in_t, n_cl, ul_1, h1, n_mz, n_eq_t, c5, c6, c7, h2, x2]
        · by_cases q : i = j
          · subst q
            rw [ul_at, ul_ne (by omega), ul_at]
          · rw [ul_ne (by omega), ul_ne (by omega), ul_ne (by omega), ul_ne (by omega)]
            exact c8 i hi
    · refine pv_t hI 1 (by decide) ?_ (fun σ1 hJ hF => ?_)
      · unfold fn_X7_set jn_X7_set_20 jn_X7_set_43
        simp -implicitDefEqProofs (maxSteps := 2000000) (disch := omega) only [z0, z1, z2, z3, z4, z5, z6, z7, z8, z9, z10, z12, z15, z18, z20, z40, z64, z128, z250, z999, z1000, zn, if_true, if_false, n_eq_f, Nat.reduceAdd, c_gperson hc hk, c_gvalley, c_gshelf, c_gpass hc hk, c_within, Option.bind_some, g_if, g_eta, cond_true, cond_false, n_in_t, n_cl, h1, n_mz, n_eq_t, c_refR2 hk hs8 c]
      · have hm := hJ.2.2.1
        have d := hF.s2J c
        unfold fn_X8_set fn_X8_noRow
        simp -implicitDefEqProofs (maxSteps := 2000000) (disch := omega) only [z0, z1, z2, z3, z4, z5, z6, z7, z8, z9, z10, z12, z15, z18, z20, z40, z64, z128, z250, z999, z1000, zn, if_true, if_false, n_eq_f, Nat.reduceAdd, m_gone hm hk, m_gvalley, m_in_0_1, m_in_0_2, m_in_0_20, m_in_0_255, m_in_0_3, m_in_0_4, m_in_0_40, m_in_0_5, m_in_0_6, m_in_0_7, m_in_0_9, m_in_0_999, m_in_1_12, m_in_1_60, m_in_12_16, m_inl, hm.np, hm.ne, Option.bind_some, g_if, g_eta, cond_true, cond_false, n_in_t, n_cl, h1, n_mz, n_eq_t, d.2.2.1, m_rf3]
