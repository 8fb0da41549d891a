/-! ===== calls: the seed, firsts ===== -/
section PSX
variable {A : pu_L} {σ : am_S} {o : Nat} {x : Int32}
theorem pu_c.sS (h : pu_c A o σ) : pu_c (sX A x (lac A)) o (am_u σ o 2 0 6 x) := by
  refine ⟨fun w' hw' v' hv' => ?_, fun r' hr' j' hj' => ?_, fun p' hp' j' hj' => ?_, ?_, ?_, ?_, ?_, ?_⟩
  rotate_left 6
  · exact u_at
  all_goals rw [u_ne (by omega)]
  · exact h.ac
  · exact h.V hw' hv'
  · exact h.P hr' hj'
  · exact h.E hp' hj'
  · exact h.np
  · exact h.ne
  · exact h.bk
theorem pu_m.sS (h : pu_m A o σ) : pu_m (sX A x (lac A)) o (am_u σ o 40 0 25 x) := by
  refine ⟨fun w' hw' v' hv' => ?_, fun r' hr' j' hj' => ?_, fun p' hp' j' hj' => ?_, ?_, ?_, ?_, ?_, ?_⟩
  rotate_left 6
  · exact u_at
  all_goals rw [u_ne (by omega)]
  · exact h.ac
  · exact h.1 w' hw' v' hv'
  · exact h.P hr' hj'
  · exact h.2.2.1 p' hp' j' hj'
  · exact h.np
  · exact h.ne
  · exact h.bk
theorem pu_c.sA (h : pu_c A o σ) : pu_c (sX A (lsd A) x) o (am_u σ o 2 0 7 x) := by
  refine ⟨fun w' hw' v' hv' => ?_, fun r' hr' j' hj' => ?_, fun p' hp' j' hj' => ?_, ?_, ?_, ?_, ?_, ?_⟩
  rotate_left 7
  · exact u_at
  all_goals rw [u_ne (by omega)]
  · exact h.V hw' hv'
  · exact h.P hr' hj'
  · exact h.E hp' hj'
  · exact h.np
  · exact h.ne
  · exact h.bk
  · exact h.sd
theorem pu_m.sA (h : pu_m A o σ) : pu_m (sX A (lsd A) x) o (am_u σ o 40 0 24 x) := by
  refine ⟨fun w' hw' v' hv' => ?_, fun r' hr' j' hj' => ?_, fun p' hp' j' hj' => ?_, ?_, ?_, ?_, ?_, ?_⟩
  rotate_left 7
  · exact u_at
  all_goals rw [u_ne (by omega)]
  · exact h.1 w' hw' v' hv'
  · exact h.P hr' hj'
  · exact h.2.2.1 p' hp' j' hj'
  · exact h.np
  · exact h.ne
  · exact h.bk
  · exact h.sd
theorem pu_k.sX {sd ac : Int32} (hk : pu_k A) : pu_k (sX A sd ac) := hk
end PSX
theorem pv_seed (a1 : Int32) (σ : am_S) (hI : pu_Inv σ) : ∃ (r : Int32) (σ1 σ2 : am_S), fn_X7_seed a1 σ = some (r, σ1) ∧ fn_X8_seed 5 a1 σ1 = some (r, σ2) ∧ pu_Inv σ2 := by
  obtain ⟨A, hI⟩ := hI
  have hk := hI.1.1
  have hm := hI.1.2.2.1
  have hne := hk.2.1
  have hnp := hk.1
  have hc := hI.1.2.1
  have f1 : fr (fun o _ _ _ => o = 1) σ (am_u σ 1 2 0 6 a1) := fr1
  have m1 := f1.m1 (fun _ _ _ _ => by omega) hm
  refine ⟨lsd A, am_u σ 1 2 0 6 a1, am_u (am_u σ 1 2 0 6 a1) 5 40 0 25 a1, ?_, ?_, _, fr.IL (B := sX A a1 (lac A)) ((fr.u (S := SLn) (by unfold SLn; omega)).tr (fr.u (by unfold SLn; omega))) hI hk.sX (fr5.c (fun _ _ _ => by omega) hc.sS) m1.sS (Nat.le_refl _)⟩
  · unfold fn_X7_seed
    rw [hc.sd]
  · unfold fn_X8_seed
    rw [m1.sd]
section PFS
variable {A : pu_L} {σ : am_S}
theorem nI_mIle {k : Nat} (h : k < 2147483648) : (nI k ≤ mI) = False := by
  rw [Int32.le_iff_toInt_le, mI_ti, n_ti h]
  exact eq_false (by omega)
theorem c_first (hk : pu_k A) (hc : pu_c A 1 σ) {w : Nat} (hw : w < 3) (h0 : 0 < lne A) : ∀ (m k fuel : Nat), k + m = lne A → m < fuel → lp_X7_first_23 fuel (nI w) (if k = 0 then mI else nI (mxN (fun p => lE A p (5 + w)) k)) (if k = 0 then mI else nI (lE A (mxN (fun p => lE A p (5 + w)) k) (5 + w))) (nI k)  σ = some (nI (mxN (fun p => lE A p (5 + w)) (lne A)), σ) := by
  intro m
  induction m with
  | zero =>
    intro k fuel hs hf
    obtain ⟨f, rfl⟩ : ∃ f, fuel = f + 1 := ⟨fuel - 1, by omega⟩
    obtain rfl : k = lne A := by omega
    rw [lp_X7_first_23.eq_2]
    unfold lb_X7_first_23 jn_X7_first_63
    have hne := hk.2.1
    have hx : ¬ lne A = 0 := by omega
    have hl := mxN_lt (f := fun p => lE A p (5 + w)) (lne A)
    simp -implicitDefEqProofs (maxSteps := 2000000) (disch := omega) only [z0, z1, z2, z3, z4, z5, z6, z7, z8, z9, z10, z12, z15, z18, z20, z40, z64, z128, z250, z999, z1000, zn, if_true, if_false, n_eq_f, Nat.reduceAdd, n_le_t, n_le_f, n_lt_t, n_lt_f, n_in_t, n_cl, n_eq_t, nI_add, n_mul, n_sub, cond_true, cond_false, Option.bind_some, hc.ne, hx, if_false, n_neg1]
  | succ m ih =>
    intro k fuel hs hf
    obtain ⟨f, rfl⟩ : ∃ f, fuel = f + 1 := ⟨fuel - 1, by omega⟩
    refine Eq.trans ?_ (ih (k + 1) f (by omega) (by omega))
    rw [lp_X7_first_23.eq_2]
    unfold lb_X7_first_23 jn_X7_first_63
    have hne := hk.2.1
    have e : mxN (fun p => lE A p (5 + w)) (k + 1) = if lE A (mxN (fun p => lE A p (5 + w)) k) (5 + w) < lE A k (5 + w) then k else mxN (fun p => lE A p (5 + w)) k := rfl
    have hB : ∀ q, q < lne A → lE A q (5 + w) ≤ 999 := fun q hq => by
      have := hk.2.2.2.2.2 q hq
      rcases (show w = 0 ∨ w = 1 ∨ w = 2 by omega) with rfl | rfl | rfl <;> simp only [Nat.add_zero, Nat.reduceAdd] <;> omega
    have hkk := hB k (by omega)
    rw [e]
    simp -implicitDefEqProofs (maxSteps := 2000000) (disch := omega) only [z0, z1, z2, z3, z4, z5, z6, z7, z8, z9, z10, z12, z15, z18, z20, z40, z64, z128, z250, z999, z1000, zn, if_true, if_false, n_eq_f, Nat.reduceAdd, n_le_t, n_le_f, n_lt_t, n_lt_f, n_in_t, n_cl, n_eq_t, nI_add, n_mul, n_sub, cond_true, cond_false, Option.bind_some, hc.ne, hc.E, nI_add]
    by_cases k0 : k = 0
    · subst k0
      have e0 : mxN (fun p => lE A p (5 + w)) 0 = 0 := rfl
      simp -implicitDefEqProofs (maxSteps := 2000000) (disch := omega) only [z0, z1, z2, z3, z4, z5, z6, z7, z8, z9, z10, z12, z15, z18, z20, z40, z64, z128, z250, z999, z1000, zn, if_true, if_false, n_eq_f, Nat.reduceAdd, n_le_t, n_le_f, n_lt_t, n_lt_f, n_in_t, n_cl, n_eq_t, nI_add, n_mul, n_sub, cond_true, cond_false, Option.bind_some, e0, if_true, if_false, Nat.succ_ne_zero, ite_self, nI_mIle]
    · have hb := hB (mxN (fun p => lE A p (5 + w)) k) (Nat.lt_of_le_of_lt (mxN_lt k) (by omega))
      simp -implicitDefEqProofs (maxSteps := 2000000) (disch := omega) only [z0, z1, z2, z3, z4, z5, z6, z7, z8, z9, z10, z12, z15, z18, z20, z40, z64, z128, z250, z999, z1000, zn, if_true, if_false, n_eq_f, Nat.reduceAdd, n_le_t, n_le_f, n_lt_t, n_lt_f, n_in_t, n_cl, n_eq_t, nI_add, n_mul, n_sub, cond_true, cond_false, Option.bind_some, k0, if_true, if_false, Nat.succ_ne_zero, n_le_i]
      by_cases z : lE A k (5 + w) ≤ lE A (mxN (fun p => lE A p (5 + w)) k) (5 + w)
      · rw [if_pos z, if_neg (by omega)]
      · rw [if_neg z, if_pos (by omega)]
theorem m_value {p w : Nat} (hk : pu_k A) (hm : pu_m A 5 σ) (hp : p < 6) (hw : w < 3) : fn_X8_valueOf 5 (nI p) (nI w) σ = some (nI (lE A p (5 + w)), σ) := by
  unfold fn_X8_valueOf
  rcases (show w = 0 ∨ w = 1 ∨ w = 2 by omega) with rfl | rfl | rfl
  · simp -implicitDefEqProofs (maxSteps := 2000000) (disch := omega) only [z0, z1, z2, z3, z4, z5, z6, z7, z8, z9, z10, z12, z15, z18, z20, z40, z64, z128, z250, z999, z1000, zn, if_true, if_false, n_eq_f, Nat.reduceAdd, n_le_t, n_le_f, n_lt_t, n_lt_f, n_in_t, n_cl, n_eq_t, nI_add, n_mul, n_sub, cond_true, cond_false, Option.bind_some, n_eq_t, n_eq_f, hm.E5, Nat.add_zero]
  · simp -implicitDefEqProofs (maxSteps := 2000000) (disch := omega) only [z0, z1, z2, z3, z4, z5, z6, z7, z8, z9, z10, z12, z15, z18, z20, z40, z64, z128, z250, z999, z1000, zn, if_true, if_false, n_eq_f, Nat.reduceAdd, n_le_t, n_le_f, n_lt_t, n_lt_f, n_in_t, n_cl, n_eq_t, nI_add, n_mul, n_sub, cond_true, cond_false, Option.bind_some, n_eq_t, n_eq_f, hm.E6, Nat.add_zero]
  · simp -implicitDefEqProofs (maxSteps := 2000000) (disch := omega) only [z0, z1, z2, z3, z4, z5, z6, z7, z8, z9, z10, z12, z15, z18, z20, z40, z64, z128, z250, z999, z1000, zn, if_true, if_false, n_eq_f, Nat.reduceAdd, n_le_t, n_le_f, n_lt_t, n_lt_f, n_in_t, n_cl, n_eq_t, nI_add, n_mul, n_sub, cond_true, cond_false, Option.bind_some, n_eq_t, n_eq_f, hm.E7, Nat.add_zero]
theorem m_first (hk : pu_k A) (hm : pu_m A 5 σ) {w : Nat} (hw : w < 3) : ∀ (m k fuel : Nat), k + m = lne A → m < fuel → lp_X8_first_37 fuel 5 (nI w) (nI (mxN (fun p => lE A p (5 + w)) k)) (nI k)  σ = some (nI (mxN (fun p => lE A p (5 + w)) (lne A)), σ) := by
  intro m
  induction m with
  | zero =>
    intro k fuel hs hf
    obtain ⟨f, rfl⟩ : ∃ f, fuel = f + 1 := ⟨fuel - 1, by omega⟩
    obtain rfl : k = lne A := by omega
    rw [lp_X8_first_37.eq_2]
    unfold lb_X8_first_37 jn_X8_first_65
    have hne := hk.2.1
    simp -implicitDefEqProofs (maxSteps := 2000000) (disch := omega) only [z0, z1, z2, z3, z4, z5, z6, z7, z8, z9, z10, z12, z15, z18, z20, z40, z64, z128, z250, z999, z1000, zn, if_true, if_false, n_eq_f, Nat.reduceAdd, n_le_t, n_le_f, n_lt_t, n_lt_f, n_in_t, n_cl, n_eq_t, nI_add, n_mul, n_sub, cond_true, cond_false, Option.bind_some, hm.ne]
  | succ m ih =>
    intro k fuel hs hf
    obtain ⟨f, rfl⟩ : ∃ f, fuel = f + 1 := ⟨fuel - 1, by omega⟩
    refine Eq.trans ?_ (ih (k + 1) f (by omega) (by omega))
    rw [lp_X8_first_37.eq_2]
    unfold lb_X8_first_37 jn_X8_first_65
    have hne := hk.2.1
    have hB : ∀ q, q < lne A → lE A q (5 + w) ≤ 999 := fun q hq => by
      have := hk.2.2.2.2.2 q hq
      rcases (show w = 0 ∨ w = 1 ∨ w = 2 by omega) with rfl | rfl | rfl <;> simp only [Nat.add_zero, Nat.reduceAdd] <;> omega
    have hkk := hB k (by omega)
    have hl := mxN_lt (f := fun p => lE A p (5 + w)) k
    have hb := hB (mxN (fun p => lE A p (5 + w)) k) (by omega)
    have e : mxN (fun p => lE A p (5 + w)) (k + 1) = if lE A (mxN (fun p => lE A p (5 + w)) k) (5 + w) < lE A k (5 + w) then k else mxN (fun p => lE A p (5 + w)) k := rfl
    rw [e]
    simp -implicitDefEqProofs (maxSteps := 2000000) (disch := omega) only [z0, z1, z2, z3, z4, z5, z6, z7, z8, z9, z10, z12, z15, z18, z20, z40, z64, z128, z250, z999, z1000, zn, if_true, if_false, n_eq_f, Nat.reduceAdd, n_le_t, n_le_f, n_lt_t, n_lt_f, n_in_t, n_cl, n_eq_t, nI_add, n_mul, n_sub, cond_true, cond_false, Option.bind_some, hm.ne, m_value hk hm (show k < 6 by omega) hw, m_value hk hm (show mxN (fun p => lE A p (5 + w)) k < 6 by omega) hw, n_le_i, nI_add]
    by_cases z : lE A k (5 + w) ≤ lE A (mxN (fun p => lE A p (5 + w)) k) (5 + w)
    · rw [if_pos z, if_neg (by omega)]
    · rw [if_neg z, if_pos (by omega)]
end PFS
theorem pv_first (a1 : Int32) (σ : am_S) (hI : pu_Inv σ) : ∃ (r : Int32) (σ1 σ2 : am_S), fn_X7_first a1 σ = some (r, σ1) ∧ fn_X8_first 5 a1 σ1 = some (r, σ2) ∧ pu_Inv σ2 := by
  obtain ⟨A, hI⟩ := hI
  have hk := hI.1.1
  have hc := hI.1.2.1
  cases h1 : gN 0 2 a1
  · refine pv_r hI 0 (by decide) ⟨σ, fr.rf, ?_⟩ (fun σ1 hJ => ⟨σ1, fr.rf, ?_⟩)
    · unfold fn_X7_first
      simp -implicitDefEqProofs (maxSteps := 2000000) (disch := omega) only [z0, z1, z2, z3, z4, z5, z6, z7, z8, z9, z10, z12, z15, z18, z20, z40, z64, z128, z250, z999, z1000, zn, if_true, if_false, n_eq_f, Nat.reduceAdd, c_gperson hc hk, c_gvalley, c_gshelf, c_gpass hc hk, c_within, Option.bind_some, g_if, g_eta, cond_true, cond_false, h1]
    · have hm := hJ.2.2.1
      have hne := hk.2.1
      have hnp := hk.1
      unfold fn_X8_first
      simp -implicitDefEqProofs (maxSteps := 2000000) (disch := omega) only [z0, z1, z2, z3, z4, z5, z6, z7, z8, z9, z10, z12, z15, z18, z20, z40, z64, z128, z250, z999, z1000, zn, if_true, if_false, n_eq_f, Nat.reduceAdd, m_gone hm hk, m_gvalley, m_in_0_1, m_in_0_2, m_in_0_20, m_in_0_255, m_in_0_3, m_in_0_4, m_in_0_40, m_in_0_5, m_in_0_6, m_in_0_7, m_in_0_9, m_in_0_999, m_in_1_12, m_in_1_60, m_in_12_16, m_inl, hm.np, hm.ne, Option.bind_some, g_if, g_eta, cond_true, cond_false, h1]
  obtain ⟨w, rfl, lw, uw⟩ := gN_n h1
  have hne := hk.2.1
  have hm := hI.1.2.2.1
  have hw : w < 3 := by omega
  by_cases q : lne A = 0
  · refine pv_t hI 3 (by decide) ?_ (fun σ1 hJ hF => ?_)
    · unfold fn_X7_first
      rw [lp_X7_first_23.eq_2]
      unfold lb_X7_first_23
      simp -implicitDefEqProofs (maxSteps := 2000000) (disch := omega) only [z0, z1, z2, z3, z4, z5, z6, z7, z8, z9, z10, z12, z15, z18, z20, z40, z64, z128, z250, z999, z1000, zn, if_true, if_false, n_eq_f, Nat.reduceAdd, c_gperson hc hk, c_gvalley, c_gshelf, c_gpass hc hk, c_within, Option.bind_some, g_if, g_eta, cond_true, cond_false, n_in_t, n_cl, true_or, or_true, z255, z16, n_neg1, n_eq_t, n_eq_f, Nat.reduceEqDiff, g_or, h1, hc.ne, q, n_le_t]
    · have hm := hJ.2.2.1
      unfold fn_X8_first
      simp -implicitDefEqProofs (maxSteps := 2000000) (disch := omega) only [z0, z1, z2, z3, z4, z5, z6, z7, z8, z9, z10, z12, z15, z18, z20, z40, z64, z128, z250, z999, z1000, zn, if_true, if_false, n_eq_f, Nat.reduceAdd, m_gone hm hk, m_gvalley, m_in_0_1, m_in_0_2, m_in_0_20, m_in_0_255, m_in_0_3, m_in_0_4, m_in_0_40, m_in_0_5, m_in_0_6, m_in_0_7, m_in_0_9, m_in_0_999, m_in_1_12, m_in_1_60, m_in_12_16, m_inl, hm.np, hm.ne, Option.bind_some, g_if, g_eta, cond_true, cond_false, n_in_t, n_cl, true_or, or_true, z255, z16, n_neg1, n_eq_t, n_eq_f, Nat.reduceEqDiff, g_or, h1, q]
  · refine pv_q0 hI (r := nI (mxN (fun p => lE A p (5 + w)) (lne A))) ?_ ⟨σ, ?_, fr.rf⟩
    · have h := c_first hk hc hw (by omega) (lne A) 0 1000 (by omega) (by omega)
      rw [if_pos rfl, if_pos rfl] at h
      unfold fn_X7_first
      simp -implicitDefEqProofs (maxSteps := 2000000) (disch := omega) only [z0, z1, z2, z3, z4, z5, z6, z7, z8, z9, z10, z12, z15, z18, z20, z40, z64, z128, z250, z999, z1000, zn, if_true, if_false, n_eq_f, Nat.reduceAdd, c_gperson hc hk, c_gvalley, c_gshelf, c_gpass hc hk, c_within, Option.bind_some, g_if, g_eta, cond_true, cond_false, n_in_t, n_cl, true_or, or_true, z255, z16, n_neg1, n_eq_t, n_eq_f, Nat.reduceEqDiff, g_or, h1, h]
    · have e0 : mxN (fun p => lE A p (5 + w)) 1 ≤ 0 := mxN_lt' (f := fun p => lE A p (5 + w)) 0
      have h := m_first hk hm hw (lne A - 1) 1 1000 (by omega) (by omega)
      rw [show mxN (fun p => lE A p (5 + w)) 1 = 0 by omega] at h
      unfold fn_X8_first
      simp -implicitDefEqProofs (maxSteps := 2000000) (disch := omega) only [z0, z1, z2, z3, z4, z5, z6, z7, z8, z9, z10, z12, z15, z18, z20, z40, z64, z128, z250, z999, z1000, zn, if_true, if_false, n_eq_f, Nat.reduceAdd, m_gone hm hk, m_gvalley, m_in_0_1, m_in_0_2, m_in_0_20, m_in_0_255, m_in_0_3, m_in_0_4, m_in_0_40, m_in_0_5, m_in_0_6, m_in_0_7, m_in_0_9, m_in_0_999, m_in_1_12, m_in_1_60, m_in_12_16, m_inl, hm.np, hm.ne, Option.bind_some, g_if, g_eta, cond_true, cond_false, n_in_t, n_cl, true_or, or_true, z255, z16, n_neg1, n_eq_t, n_eq_f, Nat.reduceEqDiff, g_or, h1, q, n_eq_i, h]
