/-! ===== calls: the dearest step ===== -/
theorem mxN_ge {f : Nat → Nat} : ∀ n i, i < n → f i ≤ f (mxN f n)
  | 0, _, h => absurd h (Nat.not_lt_zero _)
  | n + 1, i, h => by
    show f i ≤ f (if f (mxN f n) < f n then n else mxN f n)
    by_cases c : i = n
    · subst c
      split <;> omega
    · have := mxN_ge (f := f) n i (by omega)
      split <;> omega
/-- what a step costs, and one; 0 where there is none -/
def deN (A : pu_L) (p s : Nat) : Nat := if eoN A (lE A p 3) s = none then 0 else prN A p (lE A p 3) s + 1
section PDE
variable {A : pu_L} {σ : am_S} {p : Nat}
theorem deN_0 : 1 ≤ deN A p 0 := by
  unfold deN
  rw [if_neg eo_0]
  omega
theorem deN_of {s : Nat} (h : 1 ≤ deN A p s) : eoN A (lE A p 3) s ≠ none ∧ deN A p s = prN A p (lE A p 3) s + 1 := by
  unfold deN at h ⊢
  by_cases c : eoN A (lE A p 3) s = none
  · rw [if_pos c] at h; omega
  · exact ⟨c, if_neg c⟩
theorem deN_k {k : Nat} (h : 1 ≤ k) : 1 ≤ deN A p (mxN (deN A p) k) := Nat.le_trans deN_0 (mxN_ge k 0 (by omega))
theorem c_dear (hk : pu_k A) (hc : pu_c A 1 σ) (hp : p < lne A) : ∀ (m k fuel : Nat), k + m = 5 → m < fuel → lp_X7_dearest_36 fuel 1 p (if k = 0 then mI else nI (mxN (deN A p) k)) (if k = 0 then mI else nI (deN A p (mxN (deN A p) k) - 1)) (nI k)  σ = some (nI (mxN (deN A p) 5), σ) := by
  intro m
  induction m with
  | zero =>
    intro k fuel hs hf
    obtain ⟨f, rfl⟩ : ∃ f, fuel = f + 1 := ⟨fuel - 1, by omega⟩
    obtain rfl : k = 5 := by omega
    rw [lp_X7_dearest_36.eq_2]
    unfold lb_X7_dearest_36 jn_X7_dearest_75 jn_X7_dearest_91
    simp -implicitDefEqProofs (maxSteps := 2000000) (disch := omega) only [z0, z1, z2, z3, z4, z5, z6, z7, z8, z9, z10, z12, z15, z18, z20, z40, z64, z128, z250, z999, z1000, zn, if_true, if_false, n_eq_f, Nat.reduceAdd, n_le_t, n_le_f, n_lt_t, n_lt_f, n_in_t, n_cl, n_eq_t, nI_add, n_mul, n_sub, cond_true, cond_false, Option.bind_some, if_false, Nat.succ_ne_zero]
  | succ m ih =>
    intro k fuel hs hf
    obtain ⟨f, rfl⟩ : ∃ f, fuel = f + 1 := ⟨fuel - 1, by omega⟩
    refine Eq.trans ?_ (ih (k + 1) f (by omega) (by omega))
    rw [lp_X7_dearest_36.eq_2]
    unfold lb_X7_dearest_36 jn_X7_dearest_75 jn_X7_dearest_91
    have hne := hk.2.1
    have hv := (hk.2.2.2.2.2 p hp).2.2.2.1
    have hk5 : k < 5 := by omega
    have e : mxN (deN A p) (k + 1) = if deN A p (mxN (deN A p) k) < deN A p k then k else mxN (deN A p) k := rfl
    have hl := mxN_lt (f := deN A p) k
    have hd : ∀ s, s < 5 → deN A p s ≤ 37 := fun s hs => by
      obtain ⟨g, g1, g2, g3⟩ := c_priceFor (s := s) hc hk hp hv hs
      unfold deN
      by_cases c : eoN A (lE A p 3) s = none
      · rw [if_pos c]; omega
      · rw [if_neg c, ← g3 c]; omega
    have hd1 := hd _ (show mxN (deN A p) k < 5 by omega)
    rw [e]
    obtain ⟨g, g1, g2, g3⟩ := c_priceFor (s := k) hc hk hp hv hk5
    simp -implicitDefEqProofs (maxSteps := 2000000) (disch := omega) only [z0, z1, z2, z3, z4, z5, z6, z7, z8, z9, z10, z12, z15, z18, z20, z40, z64, z128, z250, z999, z1000, zn, if_true, if_false, n_eq_f, Nat.reduceAdd, n_le_t, n_le_f, n_lt_t, n_lt_f, n_in_t, n_cl, n_eq_t, nI_add, n_mul, n_sub, cond_true, cond_false, Option.bind_some, hc.E, c_endOf hc hk hv hk5, nI_add]
    cases w : eoN A (lE A p 3) k
    · have k0 : ¬ k = 0 := fun q => by subst q; exact eo_0 w
      have d0 : deN A p k = 0 := by unfold deN; rw [if_pos w]
      simp -implicitDefEqProofs (maxSteps := 2000000) (disch := omega) only [z0, z1, z2, z3, z4, z5, z6, z7, z8, z9, z10, z12, z15, z18, z20, z40, z64, z128, z250, z999, z1000, zn, if_true, if_false, n_eq_f, Nat.reduceAdd, n_le_t, n_le_f, n_lt_t, n_lt_f, n_in_t, n_cl, n_eq_t, nI_add, n_mul, n_sub, cond_true, cond_false, Option.bind_some, oI, k0, if_true, if_false, mI_le, d0, Nat.not_lt_zero, Nat.succ_ne_zero]
    · rename_i u
      have hu := eo_lt hk w
      have g3 := g3 (by rw [w]; simp)
      have d0 : deN A p k = g + 1 := by unfold deN; rw [if_neg (by rw [w]; simp), g3]
      simp -implicitDefEqProofs (maxSteps := 2000000) (disch := omega) only [z0, z1, z2, z3, z4, z5, z6, z7, z8, z9, z10, z12, z15, z18, z20, z40, z64, z128, z250, z999, z1000, zn, if_true, if_false, n_eq_f, Nat.reduceAdd, n_le_t, n_le_f, n_lt_t, n_lt_f, n_in_t, n_cl, n_eq_t, nI_add, n_mul, n_sub, cond_true, cond_false, Option.bind_some, oI, n_neg1, g2, if_false]
      by_cases k0 : k = 0
      · subst k0
        have e0 : mxN (deN A p) 0 = 0 := rfl
        simp -implicitDefEqProofs (maxSteps := 2000000) (disch := omega) only [z0, z1, z2, z3, z4, z5, z6, z7, z8, z9, z10, z12, z15, z18, z20, z40, z64, z128, z250, z999, z1000, zn, if_true, if_false, n_eq_f, Nat.reduceAdd, n_le_t, n_le_f, n_lt_t, n_lt_f, n_in_t, n_cl, n_eq_t, nI_add, n_mul, n_sub, cond_true, cond_false, Option.bind_some, e0, if_true, if_false, Nat.succ_ne_zero, ite_self, nI_mIle, d0, Nat.add_sub_cancel]
      · have h1 := deN_k (A := A) (p := p) (show 1 ≤ k by omega)
        simp -implicitDefEqProofs (maxSteps := 2000000) (disch := omega) only [z0, z1, z2, z3, z4, z5, z6, z7, z8, z9, z10, z12, z15, z18, z20, z40, z64, z128, z250, z999, z1000, zn, if_true, if_false, n_eq_f, Nat.reduceAdd, n_le_t, n_le_f, n_lt_t, n_lt_f, n_in_t, n_cl, n_eq_t, nI_add, n_mul, n_sub, cond_true, cond_false, Option.bind_some, k0, if_true, if_false, Nat.succ_ne_zero, n_le_i]
        by_cases z : g ≤ deN A p (mxN (deN A p) k) - 1
        · rw [if_pos z, if_neg (by omega)]
        · rw [if_neg z, if_pos (by omega), d0, Nat.add_sub_cancel]
theorem m_dear (hk : pu_k A) (hm : pu_m A 5 σ) (hp : p < lne A) (hc : pu_c A 1 σ) : ∀ (m k fuel : Nat), k + m = 5 → m < fuel → lp_X8_dearest_19 fuel 5 (nI p) (nI (mxN (deN A p) k)) (nI k)  σ = some (nI (mxN (deN A p) 5), σ) := by
  intro m
  induction m with
  | zero =>
    intro k fuel hs hf
    obtain ⟨f, rfl⟩ : ∃ f, fuel = f + 1 := ⟨fuel - 1, by omega⟩
    obtain rfl : k = 5 := by omega
    rw [lp_X8_dearest_19.eq_2]
    unfold lb_X8_dearest_19 jn_X8_dearest_44 jn_X8_dearest_82 jn_X8_dearest_83
    simp -implicitDefEqProofs (maxSteps := 2000000) (disch := omega) only [z0, z1, z2, z3, z4, z5, z6, z7, z8, z9, z10, z12, z15, z18, z20, z40, z64, z128, z250, z999, z1000, zn, if_true, if_false, n_eq_f, Nat.reduceAdd, n_le_t, n_le_f, n_lt_t, n_lt_f, n_in_t, n_cl, n_eq_t, nI_add, n_mul, n_sub, cond_true, cond_false, Option.bind_some, ]
  | succ m ih =>
    intro k fuel hs hf
    obtain ⟨f, rfl⟩ : ∃ f, fuel = f + 1 := ⟨fuel - 1, by omega⟩
    refine Eq.trans ?_ (ih (k + 1) f (by omega) (by omega))
    rw [lp_X8_dearest_19.eq_2]
    unfold lb_X8_dearest_19 jn_X8_dearest_44 jn_X8_dearest_82 jn_X8_dearest_83
    have hne := hk.2.1
    have hv := (hk.2.2.2.2.2 p hp).2.2.2.1
    have hk5 : k < 5 := by omega
    have e : mxN (deN A p) (k + 1) = if deN A p (mxN (deN A p) k) < deN A p k then k else mxN (deN A p) k := rfl
    have hl := mxN_lt (f := deN A p) k
    rw [e]
    simp -implicitDefEqProofs (maxSteps := 2000000) (disch := omega) only [z0, z1, z2, z3, z4, z5, z6, z7, z8, z9, z10, z12, z15, z18, z20, z40, z64, z128, z250, z999, z1000, zn, if_true, if_false, n_eq_f, Nat.reduceAdd, n_le_t, n_le_f, n_lt_t, n_lt_f, n_in_t, n_cl, n_eq_t, nI_add, n_mul, n_sub, cond_true, cond_false, Option.bind_some, hm.E3, m_nextOf hm hk hv hk5, nI_add]
    cases w : eoN A (lE A p 3) k
    · have d0 : deN A p k = 0 := by unfold deN; rw [if_pos w]
      simp -implicitDefEqProofs (maxSteps := 2000000) (disch := omega) only [z0, z1, z2, z3, z4, z5, z6, z7, z8, z9, z10, z12, z15, z18, z20, z40, z64, z128, z250, z999, z1000, zn, if_true, if_false, n_eq_f, Nat.reduceAdd, n_le_t, n_le_f, n_lt_t, n_lt_f, n_in_t, n_cl, n_eq_t, nI_add, n_mul, n_sub, cond_true, cond_false, Option.bind_some, oI, if_true, if_false, d0, Nat.not_lt_zero]
    · rename_i u
      have hu := eo_lt hk w
      have hw : eoN A (lE A p 3) k ≠ none := by rw [w]; simp
      have d0 : deN A p k = prN A p (lE A p 3) k + 1 := by unfold deN; rw [if_neg hw]
      have b : 1 ≤ deN A p (mxN (deN A p) k) := by
        by_cases k0 : k = 0
        · subst k0; exact deN_0
        · exact deN_k (by omega)
      obtain ⟨hw2, d1⟩ := deN_of b
      obtain ⟨g, g1, -, g3⟩ := c_priceFor (s := k) hc hk hp hv hk5
      obtain ⟨g', g1', -, g3'⟩ := c_priceFor (s := mxN (deN A p) k) hc hk hp hv (by omega)
      have g3 := g3 hw
      have g3' := g3' hw2
      simp -implicitDefEqProofs (maxSteps := 2000000) (disch := omega) only [z0, z1, z2, z3, z4, z5, z6, z7, z8, z9, z10, z12, z15, z18, z20, z40, z64, z128, z250, z999, z1000, zn, if_true, if_false, n_eq_f, Nat.reduceAdd, n_le_t, n_le_f, n_lt_t, n_lt_f, n_in_t, n_cl, n_eq_t, nI_add, n_mul, n_sub, cond_true, cond_false, Option.bind_some, hm.E3, oI, n_neg1, if_false, m_priceOf hm hk hp hv hk5 hw, m_priceOf hm hk hp hv (show mxN (deN A p) k < 5 by omega) hw2, n_le_i]
      by_cases z : prN A p (lE A p 3) k ≤ prN A p (lE A p 3) (mxN (deN A p) k)
      · rw [if_pos z, if_neg (by omega)]
      · rw [if_neg z, if_pos (by omega)]
end PDE
theorem pv_dearest (a1 : Int32) (σ : am_S) (hI : pu_Inv σ) : ∃ (r : Int32) (σ1 σ2 : am_S), fn_X7_dearest a1 σ = some (r, σ1) ∧ fn_X8_dearest 5 a1 σ1 = some (r, σ2) ∧ pu_Inv σ2 := by
  obtain ⟨A, hI⟩ := hI
  have hk := hI.1.1
  have hc := hI.1.2.1
  cases h1 : gL (lne A) a1
  · refine pv_r hI 0 (by decide) ⟨σ, fr.rf, ?_⟩ (fun σ1 hJ => ⟨σ1, fr.rf, ?_⟩)
    · unfold fn_X7_dearest
      simp -implicitDefEqProofs (maxSteps := 2000000) (disch := omega) only [z0, z1, z2, z3, z4, z5, z6, z7, z8, z9, z10, z12, z15, z18, z20, z40, z64, z128, z250, z999, z1000, zn, if_true, if_false, n_eq_f, Nat.reduceAdd, c_gperson hc hk, c_gvalley, c_gshelf, c_gpass hc hk, c_within, Option.bind_some, g_if, g_eta, cond_true, cond_false, h1]
    · have hm := hJ.2.2.1
      have hne := hk.2.1
      have hnp := hk.1
      unfold fn_X8_dearest
      simp -implicitDefEqProofs (maxSteps := 2000000) (disch := omega) only [z0, z1, z2, z3, z4, z5, z6, z7, z8, z9, z10, z12, z15, z18, z20, z40, z64, z128, z250, z999, z1000, zn, if_true, if_false, n_eq_f, Nat.reduceAdd, m_gone hm hk, m_gvalley, m_in_0_1, m_in_0_2, m_in_0_20, m_in_0_255, m_in_0_3, m_in_0_4, m_in_0_40, m_in_0_5, m_in_0_6, m_in_0_7, m_in_0_9, m_in_0_999, m_in_1_12, m_in_1_60, m_in_12_16, m_inl, hm.np, hm.ne, Option.bind_some, g_if, g_eta, cond_true, cond_false, h1]
  obtain ⟨p, rfl, lp⟩ := gL_n h1
  have hne := hk.2.1
  have hm := hI.1.2.2.1
  refine pv_q0 hI (r := nI (mxN (deN A p) 5)) ?_ ⟨σ, ?_, fr.rf⟩
  · have h := c_dear hk hc lp 5 0 1000 rfl (by decide)
    rw [if_pos rfl, if_pos rfl] at h
    unfold fn_X7_dearest
    simp -implicitDefEqProofs (maxSteps := 2000000) (disch := omega) only [z0, z1, z2, z3, z4, z5, z6, z7, z8, z9, z10, z12, z15, z18, z20, z40, z64, z128, z250, z999, z1000, zn, if_true, if_false, n_eq_f, Nat.reduceAdd, c_gperson hc hk, c_gvalley, c_gshelf, c_gpass hc hk, c_within, Option.bind_some, g_if, g_eta, cond_true, cond_false, n_in_t, n_cl, true_or, or_true, z255, z16, n_neg1, n_eq_t, n_eq_f, Nat.reduceEqDiff, g_or, h1, h]
  · have e0 : mxN (deN A p) 1 ≤ 0 := mxN_lt' (f := deN A p) 0
    have h := m_dear hk hm lp hc 4 1 1000 rfl (by decide)
    rw [show mxN (deN A p) 1 = 0 by omega] at h
    unfold fn_X8_dearest
    simp -implicitDefEqProofs (maxSteps := 2000000) (disch := omega) only [z0, z1, z2, z3, z4, z5, z6, z7, z8, z9, z10, z12, z15, z18, z20, z40, z64, z128, z250, z999, z1000, zn, if_true, if_false, n_eq_f, Nat.reduceAdd, m_gone hm hk, m_gvalley, m_in_0_1, m_in_0_2, m_in_0_20, m_in_0_255, m_in_0_3, m_in_0_4, m_in_0_40, m_in_0_5, m_in_0_6, m_in_0_7, m_in_0_9, m_in_0_999, m_in_1_12, m_in_1_60, m_in_12_16, m_inl, hm.np, hm.ne, Option.bind_some, g_if, g_eta, cond_true, cond_false, n_in_t, n_cl, true_or, or_true, z255, z16, n_neg1, n_eq_t, n_eq_f, Nat.reduceEqDiff, g_or, h1, h]
