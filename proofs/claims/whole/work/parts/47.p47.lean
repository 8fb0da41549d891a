/-! ===== calls: the land and the draft changed ===== -/
def sV (A : pu_L) (w v x : Nat) : pu_L := (fun w' v' => if w' = w ∧ v' = v then x else lV A w' v', A.2)
def sP (A : pu_L) (r j x : Nat) : pu_L := (A.1, fun r' j' => if r' = r ∧ j' = j then x else lP A r' j', A.2.2)
def sE (A : pu_L) (p j x : Nat) : pu_L := (A.1, A.2.1, fun p' j' => if p' = p ∧ j' = j then x else lE A p' j', A.2.2.2)
def sN (A : pu_L) (np ne bk : Nat) : pu_L := (A.1, A.2.1, A.2.2.1, (np, ne, bk), A.2.2.2.2)
def sX (A : pu_L) (sd ac : Int32) : pu_L := (A.1, A.2.1, A.2.2.1, A.2.2.2.1, (sd, ac))
section PLS
variable {A : pu_L} {σ : am_S} {o w v x p j np ne bk : Nat}
theorem pu_c.sV (h : pu_c A o σ) : pu_c (sV A w v x) o (am_u σ o 4 w v (nI x)) := by
  refine ⟨fun w' hw' v' hv' => ?_, fun r hr j hj => ?_, fun p hp j hj => ?_, ?_, ?_, ?_, ?_, ?_⟩
  · show _ = nI (if w' = w ∧ v' = v then x else lV A w' v')
    by_cases c : w' = w ∧ v' = v
    · rw [if_pos c, c.1, c.2, u_at]
    · rw [if_neg c, u_ne (by omega)]; exact h.V hw' hv'
  all_goals rw [u_ne (by omega)]
  · exact h.P hr hj
  · exact h.E hp hj
  · exact h.np
  · exact h.ne
  · exact h.bk
  · exact h.sd
  · exact h.ac
theorem pu_m.sV (h : pu_m A o σ) (hw : w < 3) : pu_m (sV A w v x) o (am_u σ o (50 + w) 0 v (nI x)) := by
  refine ⟨fun w' hw' v' hv' => ?_, fun r hr j hj => ?_, fun p hp j hj => ?_, ?_, ?_, ?_, ?_, ?_⟩
  · show _ = nI (if w' = w ∧ v' = v then x else lV A w' v')
    by_cases c : w' = w ∧ v' = v
    · rw [if_pos c, c.1, c.2, u_at]
    · rw [if_neg c, u_ne (by omega)]; exact h.1 w' hw' v' hv'
  all_goals rw [u_ne (by omega)]
  · exact h.P hr hj
  · exact h.2.2.1 p hp j hj
  · exact h.np
  · exact h.ne
  · exact h.bk
  · exact h.sd
  · exact h.ac
theorem pu_c.sE (h : pu_c A o σ) : pu_c (sE A p j x) o (am_u σ o 8 p j (nI x)) := by
  refine ⟨fun w' hw' v' hv' => ?_, fun r hr j hj => ?_, fun p' hp' j' hj' => ?_, ?_, ?_, ?_, ?_, ?_⟩
  rotate_left 2
  · show _ = nI (if p' = p ∧ j' = j then x else lE A p' j')
    by_cases c : p' = p ∧ j' = j
    · rw [if_pos c, c.1, c.2, u_at]
    · rw [if_neg c, u_ne (by omega)]; exact h.E hp' hj'
  all_goals rw [u_ne (by omega)]
  · exact h.np
  · exact h.ne
  · exact h.bk
  · exact h.sd
  · exact h.ac
  · exact h.V hw' hv'
  · exact h.P hr hj
theorem pu_m.sE (h : pu_m A o σ) (hj : j < 8) : pu_m (sE A p j x) o (am_u σ o (55 + j) 0 p (nI x)) := by
  refine ⟨fun w' hw' v' hv' => ?_, fun r hr j hj => ?_, fun p' hp' j' hj' => ?_, ?_, ?_, ?_, ?_, ?_⟩
  rotate_left 2
  · show _ = nI (if p' = p ∧ j' = j then x else lE A p' j')
    by_cases c : p' = p ∧ j' = j
    · rw [if_pos c, c.1, c.2, u_at]
    · rw [if_neg c, u_ne (by omega)]; exact h.2.2.1 p' hp' j' hj'
  all_goals rw [u_ne (by omega)]
  · exact h.np
  · exact h.ne
  · exact h.bk
  · exact h.sd
  · exact h.ac
  · exact h.1 w' hw' v' hv'
  · exact h.P hr hj
theorem pu_c.sB (h : pu_c A o σ) : pu_c (sN A (lnp A) (lne A) bk) o (am_u σ o 2 0 5 (nI bk)) := by
  refine ⟨fun w' hw' v' hv' => ?_, fun r hr j hj => ?_, fun p' hp' j' hj' => ?_, ?_, ?_, ?_, ?_, ?_⟩
  rotate_left 5
  · exact u_at
  all_goals rw [u_ne (by omega)]
  · exact h.sd
  · exact h.ac
  · exact h.V hw' hv'
  · exact h.P hr hj
  · exact h.E hp' hj'
  · exact h.np
  · exact h.ne
theorem pu_m.sB (h : pu_m A o σ) : pu_m (sN A (lnp A) (lne A) bk) o (am_u σ o 40 0 12 (nI bk)) := by
  refine ⟨fun w' hw' v' hv' => ?_, fun r hr j hj => ?_, fun p' hp' j' hj' => ?_, ?_, ?_, ?_, ?_, ?_⟩
  rotate_left 5
  · exact u_at
  all_goals rw [u_ne (by omega)]
  · exact h.sd
  · exact h.ac
  · exact h.1 w' hw' v' hv'
  · exact h.P hr hj
  · exact h.2.2.1 p' hp' j' hj'
  · exact h.np
  · exact h.ne
theorem fr1 {σ : am_S} {k i j : Nat} {x : Int32} : fr (fun o _ _ _ => o = 1) σ (am_u σ 1 k i j x) := fr.u rfl
theorem fr5 {σ : am_S} {k i j : Nat} {x : Int32} : fr (fun o _ _ _ => o = 5) σ (am_u σ 5 k i j x) := fr.u rfl
theorem pu_I.sV (hI : pu_I A σ) (hw : w < 3) (hk : pu_k (sV A w v x)) : pu_I (sV A w v x) (am_u (am_u σ 1 4 w v (nI x)) 5 (50 + w) 0 v (nI x)) :=
  fr.IL ((fr.u (S := SLn) (by unfold SLn; omega)).tr (fr.u (by unfold SLn; omega))) hI hk
    ((fr5.c (fun _ _ _ => by omega) hI.1.2.1.sV)) ((fr1.m1 (fun _ _ _ _ => by omega) hI.1.2.2.1).sV hw) (Nat.le_refl _)
theorem pu_I.sE (hI : pu_I A σ) (hj : j < 8) (hk : pu_k (sE A p j x)) : pu_I (sE A p j x) (am_u (am_u σ 1 8 p j (nI x)) 5 (55 + j) 0 p (nI x)) :=
  fr.IL ((fr.u (S := SLn) (by unfold SLn; omega)).tr (fr.u (by unfold SLn; omega))) hI hk
    ((fr5.c (fun _ _ _ => by omega) hI.1.2.1.sE)) ((fr1.m1 (fun _ _ _ _ => by omega) hI.1.2.2.1).sE hj) (Nat.le_refl _)
theorem pu_I.sB (hI : pu_I A σ) (hk : pu_k (sN A (lnp A) (lne A) bk)) : pu_I (sN A (lnp A) (lne A) bk) (am_u (am_u σ 1 2 0 5 (nI bk)) 5 40 0 12 (nI bk)) :=
  fr.IL ((fr.u (S := SLn) (by unfold SLn; omega)).tr (fr.u (by unfold SLn; omega))) hI hk
    ((fr5.c (fun _ _ _ => by omega) hI.1.2.1.sB)) ((fr1.m1 (fun _ _ _ _ => by omega) hI.1.2.2.1).sB) (Nat.le_refl _)
theorem pu_k.sV (hk : pu_k A) (hx : (w = 0 ∧ x ≤ 9) ∨ (w = 1 ∧ 1 ≤ x ∧ x ≤ 12) ∨ (w = 2 ∧ x ≤ 20)) : pu_k (sV A w v x) := by
  obtain ⟨h1, h2, h3, h4, h5, h6⟩ := hk
  refine ⟨h1, h2, h3, fun u hu => ?_, h5, h6⟩
  have := h4 u hu
  show (if 0 = w ∧ u = v then x else lV A 0 u) ≤ 9 ∧ 1 ≤ (if 1 = w ∧ u = v then x else lV A 1 u) ∧ (if 1 = w ∧ u = v then x else lV A 1 u) ≤ 12 ∧ (if 2 = w ∧ u = v then x else lV A 2 u) ≤ 20
  split <;> split <;> split <;> omega
theorem pu_k.sE (hk : pu_k A) (hx : (j = 0 ∧ x ≤ 5) ∨ (j = 1 ∧ x ≤ 9) ∨ (j = 2 ∧ x < 7) ∨ (j = 3 ∧ x < 7) ∨ (j = 4 ∧ x < 128) ∨ (j = 5 ∧ x ≤ 999) ∨ (j = 6 ∧ x ≤ 20) ∨ (j = 7 ∧ x ≤ 999)) : pu_k (sE A p j x) := by
  obtain ⟨h1, h2, h3, h4, h5, h6⟩ := hk
  refine ⟨h1, h2, h3, h4, h5, fun q hq => ?_⟩
  have := h6 q hq
  show (if q = p ∧ 0 = j then x else lE A q 0) ≤ 5 ∧ (if q = p ∧ 1 = j then x else lE A q 1) ≤ 9 ∧ (if q = p ∧ 2 = j then x else lE A q 2) < 7 ∧ (if q = p ∧ 3 = j then x else lE A q 3) < 7 ∧ (if q = p ∧ 4 = j then x else lE A q 4) < 128 ∧ (if q = p ∧ 5 = j then x else lE A q 5) ≤ 999 ∧ (if q = p ∧ 6 = j then x else lE A q 6) ≤ 20 ∧ (if q = p ∧ 7 = j then x else lE A q 7) ≤ 999
  refine ⟨?_, ?_, ?_, ?_, ?_, ?_, ?_, ?_⟩ <;> split <;> omega
theorem pu_k.sB (hk : pu_k A) (hx : bk ≤ 9) : pu_k (sN A (lnp A) (lne A) bk) := ⟨hk.1, hk.2.1, hx, hk.2.2.2.1, hk.2.2.2.2.1, hk.2.2.2.2.2⟩
end PLS
theorem pv_ask (a1 : Int32) (a2 : Int32) (a3 : Int32) (σ : am_S) (hI : pu_Inv σ) : ∃ (r : Int32) (σ1 σ2 : am_S), fn_X7_ask a1 a2 a3 σ = some (r, σ1) ∧ fn_X8_ask 5 a1 a2 a3 σ1 = some (r, σ2) ∧ pu_Inv σ2 := by
  obtain ⟨A, hI⟩ := hI
  have hk := hI.1.1
  have hm := hI.1.2.2.1
  have hne := hk.2.1
  have hnp := hk.1
  have hc := hI.1.2.1
  by_cases c3 : a2 = nI 3
  · subst c3
    by_cases c0 : a1 = nI 0
    · subst c0
      cases h : gN 0 9 a3
      · refine pv_t hI 0 (by decide) ?_ (fun σ1 hJ hF => ?_)
        · unfold fn_X7_ask jn_X7_ask_39 jn_X7_ask_54 fn_X7_mayBeOfValley
          simp -implicitDefEqProofs (maxSteps := 2000000) (disch := omega) only [z0, z1, z2, z3, z4, z5, z6, z7, z8, z9, z10, z12, z15, z18, z20, z40, z64, z128, z250, z999, z1000, zn, if_true, if_false, n_eq_f, Nat.reduceAdd, c_gperson hc hk, c_gvalley, c_gshelf, c_gpass hc hk, c_within, Option.bind_some, g_if, g_eta, cond_true, cond_false, n_in_t, n_cl, true_or, or_true, n_eq_t, n_eq_f, Nat.reduceEqDiff, g_or, h, gN_nI, decide_true, Bool.and_self, Nat.zero_le]
        · have hm := hJ.2.2.1
          unfold fn_X8_ask jn_X8_ask_24 jn_X8_ask_41 jn_X8_ask_58 jn_X8_ask_79 jn_X8_ask_83 jn_X8_ask_84
          simp -implicitDefEqProofs (maxSteps := 2000000) (disch := omega) only [z0, z1, z2, z3, z4, z5, z6, z7, z8, z9, z10, z12, z15, z18, z20, z40, z64, z128, z250, z999, z1000, zn, if_true, if_false, n_eq_f, Nat.reduceAdd, m_gone hm hk, m_gvalley, m_in_0_1, m_in_0_2, m_in_0_20, m_in_0_255, m_in_0_3, m_in_0_4, m_in_0_40, m_in_0_5, m_in_0_6, m_in_0_7, m_in_0_9, m_in_0_999, m_in_1_12, m_in_1_60, m_in_12_16, m_inl, hm.np, hm.ne, Option.bind_some, g_if, g_eta, cond_true, cond_false, n_in_t, n_cl, true_or, or_true, n_eq_t, n_eq_f, Nat.reduceEqDiff, g_or, h, gN_nI, decide_true, Bool.and_self, Nat.zero_le]
      · obtain ⟨x, rfl, -, hx⟩ := gN_n h
        refine ⟨nI (lbk A), am_u σ 1 2 0 5 (nI x), am_u (am_u σ 1 2 0 5 (nI x)) 5 40 0 12 (nI x), ?_, ?_, _, hI.sB (hk.sB hx)⟩
        · unfold fn_X7_ask jn_X7_ask_39 jn_X7_ask_54 fn_X7_mayBeOfValley
          simp -implicitDefEqProofs (maxSteps := 2000000) (disch := omega) only [z0, z1, z2, z3, z4, z5, z6, z7, z8, z9, z10, z12, z15, z18, z20, z40, z64, z128, z250, z999, z1000, zn, if_true, if_false, n_eq_f, Nat.reduceAdd, c_gperson hc hk, c_gvalley, c_gshelf, c_gpass hc hk, c_within, Option.bind_some, g_if, g_eta, cond_true, cond_false, n_in_t, n_cl, true_or, or_true, n_eq_t, n_eq_f, Nat.reduceEqDiff, g_or, h, hc.bk]
        · have hm1 : pu_m A 5 (am_u σ 1 2 0 5 (nI x)) := fr1.m1 (fun _ _ _ _ => by omega) hm
          unfold fn_X8_ask jn_X8_ask_24 jn_X8_ask_41 jn_X8_ask_58 jn_X8_ask_79 jn_X8_ask_83 jn_X8_ask_84
          simp -implicitDefEqProofs (maxSteps := 2000000) (disch := omega) only [z0, z1, z2, z3, z4, z5, z6, z7, z8, z9, z10, z12, z15, z18, z20, z40, z64, z128, z250, z999, z1000, zn, if_true, if_false, n_eq_f, Nat.reduceAdd, m_gone hm hk, m_gvalley, m_in_0_1, m_in_0_2, m_in_0_20, m_in_0_255, m_in_0_3, m_in_0_4, m_in_0_40, m_in_0_5, m_in_0_6, m_in_0_7, m_in_0_9, m_in_0_999, m_in_1_12, m_in_1_60, m_in_12_16, m_inl, hm.np, hm.ne, Option.bind_some, g_if, g_eta, cond_true, cond_false, n_in_t, n_cl, true_or, or_true, n_eq_t, n_eq_f, Nat.reduceEqDiff, g_or, h, gN_nI, decide_true, Bool.and_self, Nat.zero_le, hm1.bk]
    · cases h : gN 0 6 a1
      · refine pv_t hI 0 (by decide) ?_ (fun σ1 hJ hF => ?_)
        · unfold fn_X7_ask jn_X7_ask_39 jn_X7_ask_54 fn_X7_mayBeOfValley
          simp -implicitDefEqProofs (maxSteps := 2000000) (disch := omega) only [z0, z1, z2, z3, z4, z5, z6, z7, z8, z9, z10, z12, z15, z18, z20, z40, z64, z128, z250, z999, z1000, zn, if_true, if_false, n_eq_f, Nat.reduceAdd, c_gperson hc hk, c_gvalley, c_gshelf, c_gpass hc hk, c_within, Option.bind_some, g_if, g_eta, cond_true, cond_false, n_in_t, n_cl, true_or, or_true, n_eq_t, n_eq_f, Nat.reduceEqDiff, g_or, h, c0]
        · have hm := hJ.2.2.1
          unfold fn_X8_ask jn_X8_ask_24 jn_X8_ask_41 jn_X8_ask_58 jn_X8_ask_79 jn_X8_ask_83 jn_X8_ask_84
          simp -implicitDefEqProofs (maxSteps := 2000000) (disch := omega) only [z0, z1, z2, z3, z4, z5, z6, z7, z8, z9, z10, z12, z15, z18, z20, z40, z64, z128, z250, z999, z1000, zn, if_true, if_false, n_eq_f, Nat.reduceAdd, m_gone hm hk, m_gvalley, m_in_0_1, m_in_0_2, m_in_0_20, m_in_0_255, m_in_0_3, m_in_0_4, m_in_0_40, m_in_0_5, m_in_0_6, m_in_0_7, m_in_0_9, m_in_0_999, m_in_1_12, m_in_1_60, m_in_12_16, m_inl, hm.np, hm.ne, Option.bind_some, g_if, g_eta, cond_true, cond_false, n_in_t, n_cl, true_or, or_true, n_eq_t, n_eq_f, Nat.reduceEqDiff, g_or, h, c0]
      · refine pv_t hI 0 (by decide) ?_ (fun σ1 hJ hF => ?_)
        · unfold fn_X7_ask jn_X7_ask_39 jn_X7_ask_54 fn_X7_mayBeOfValley
          simp -implicitDefEqProofs (maxSteps := 2000000) (disch := omega) only [z0, z1, z2, z3, z4, z5, z6, z7, z8, z9, z10, z12, z15, z18, z20, z40, z64, z128, z250, z999, z1000, zn, if_true, if_false, n_eq_f, Nat.reduceAdd, c_gperson hc hk, c_gvalley, c_gshelf, c_gpass hc hk, c_within, Option.bind_some, g_if, g_eta, cond_true, cond_false, n_in_t, n_cl, true_or, or_true, n_eq_t, n_eq_f, Nat.reduceEqDiff, g_or, h, c0]
        · have hm := hJ.2.2.1
          unfold fn_X8_ask jn_X8_ask_24 jn_X8_ask_41 jn_X8_ask_58 jn_X8_ask_79 jn_X8_ask_83 jn_X8_ask_84
          simp -implicitDefEqProofs (maxSteps := 2000000) (disch := omega) only [z0, z1, z2, z3, z4, z5, z6, z7, z8, z9, z10, z12, z15, z18, z20, z40, z64, z128, z250, z999, z1000, zn, if_true, if_false, n_eq_f, Nat.reduceAdd, m_gone hm hk, m_gvalley, m_in_0_1, m_in_0_2, m_in_0_20, m_in_0_255, m_in_0_3, m_in_0_4, m_in_0_40, m_in_0_5, m_in_0_6, m_in_0_7, m_in_0_9, m_in_0_999, m_in_1_12, m_in_1_60, m_in_12_16, m_inl, hm.np, hm.ne, Option.bind_some, g_if, g_eta, cond_true, cond_false, n_in_t, n_cl, true_or, or_true, n_eq_t, n_eq_f, Nat.reduceEqDiff, g_or, h, c0]
  cases h : gN 0 6 a1
  · refine pv_t hI 0 (by decide) ?_ (fun σ1 hJ hF => ?_)
    · unfold fn_X7_ask jn_X7_ask_39 jn_X7_ask_54 fn_X7_mayBeOfValley
      simp -implicitDefEqProofs (maxSteps := 2000000) (disch := omega) only [z0, z1, z2, z3, z4, z5, z6, z7, z8, z9, z10, z12, z15, z18, z20, z40, z64, z128, z250, z999, z1000, zn, if_true, if_false, n_eq_f, Nat.reduceAdd, c_gperson hc hk, c_gvalley, c_gshelf, c_gpass hc hk, c_within, Option.bind_some, g_if, g_eta, cond_true, cond_false, n_in_t, n_cl, true_or, or_true, n_eq_t, n_eq_f, Nat.reduceEqDiff, g_or, h, c3]
    · have hm := hJ.2.2.1
      unfold fn_X8_ask jn_X8_ask_24 jn_X8_ask_41 jn_X8_ask_58 jn_X8_ask_79 jn_X8_ask_83 jn_X8_ask_84
      simp -implicitDefEqProofs (maxSteps := 2000000) (disch := omega) only [z0, z1, z2, z3, z4, z5, z6, z7, z8, z9, z10, z12, z15, z18, z20, z40, z64, z128, z250, z999, z1000, zn, if_true, if_false, n_eq_f, Nat.reduceAdd, m_gone hm hk, m_gvalley, m_in_0_1, m_in_0_2, m_in_0_20, m_in_0_255, m_in_0_3, m_in_0_4, m_in_0_40, m_in_0_5, m_in_0_6, m_in_0_7, m_in_0_9, m_in_0_999, m_in_1_12, m_in_1_60, m_in_12_16, m_inl, hm.np, hm.ne, Option.bind_some, g_if, g_eta, cond_true, cond_false, n_in_t, n_cl, true_or, or_true, n_eq_t, n_eq_f, Nat.reduceEqDiff, g_or, h, c3]
  obtain ⟨v, rfl, -, hv⟩ := gN_n h
  have hv7 : v < 7 := by omega
  by_cases c0 : a2 = nI 0
  · subst c0
    cases g : gN 0 9 a3
    · refine pv_t hI 0 (by decide) ?_ (fun σ1 hJ hF => ?_)
      · unfold fn_X7_ask jn_X7_ask_39 jn_X7_ask_54 fn_X7_mayBeOfValley
        simp -implicitDefEqProofs (maxSteps := 2000000) (disch := omega) only [z0, z1, z2, z3, z4, z5, z6, z7, z8, z9, z10, z12, z15, z18, z20, z40, z64, z128, z250, z999, z1000, zn, if_true, if_false, n_eq_f, Nat.reduceAdd, c_gperson hc hk, c_gvalley, c_gshelf, c_gpass hc hk, c_within, Option.bind_some, g_if, g_eta, cond_true, cond_false, n_in_t, n_cl, true_or, or_true, n_eq_t, n_eq_f, Nat.reduceEqDiff, g_or, h, g]
      · have hm := hJ.2.2.1
        unfold fn_X8_ask jn_X8_ask_24 jn_X8_ask_41 jn_X8_ask_58 jn_X8_ask_79 jn_X8_ask_83 jn_X8_ask_84
        simp -implicitDefEqProofs (maxSteps := 2000000) (disch := omega) only [z0, z1, z2, z3, z4, z5, z6, z7, z8, z9, z10, z12, z15, z18, z20, z40, z64, z128, z250, z999, z1000, zn, if_true, if_false, n_eq_f, Nat.reduceAdd, m_gone hm hk, m_gvalley, m_in_0_1, m_in_0_2, m_in_0_20, m_in_0_255, m_in_0_3, m_in_0_4, m_in_0_40, m_in_0_5, m_in_0_6, m_in_0_7, m_in_0_9, m_in_0_999, m_in_1_12, m_in_1_60, m_in_12_16, m_inl, hm.np, hm.ne, Option.bind_some, g_if, g_eta, cond_true, cond_false, n_in_t, n_cl, true_or, or_true, n_eq_t, n_eq_f, Nat.reduceEqDiff, g_or, h, g]
    · obtain ⟨x, rfl, lx, hx⟩ := gN_n g
      refine ⟨nI (lV A 0 v), am_u σ 1 4 0 v (nI x), am_u (am_u σ 1 4 0 v (nI x)) 5 (50 + 0) 0 v (nI x), ?_, ?_, _, hI.sV (by decide) (hk.sV (by omega))⟩
      · unfold fn_X7_ask jn_X7_ask_39 jn_X7_ask_54 fn_X7_mayBeOfValley
        simp -implicitDefEqProofs (maxSteps := 2000000) (disch := omega) only [z0, z1, z2, z3, z4, z5, z6, z7, z8, z9, z10, z12, z15, z18, z20, z40, z64, z128, z250, z999, z1000, zn, if_true, if_false, n_eq_f, Nat.reduceAdd, c_gperson hc hk, c_gvalley, c_gshelf, c_gpass hc hk, c_within, Option.bind_some, g_if, g_eta, cond_true, cond_false, n_in_t, n_cl, true_or, or_true, n_eq_t, n_eq_f, Nat.reduceEqDiff, g_or, h, g, hc.V]
      · have hm1 : pu_m A 5 (am_u σ 1 4 0 v (nI x)) := fr1.m1 (fun _ _ _ _ => by omega) hm
        unfold fn_X8_ask jn_X8_ask_24 jn_X8_ask_41 jn_X8_ask_58 jn_X8_ask_79 jn_X8_ask_83 jn_X8_ask_84
        simp -implicitDefEqProofs (maxSteps := 2000000) (disch := omega) only [z0, z1, z2, z3, z4, z5, z6, z7, z8, z9, z10, z12, z15, z18, z20, z40, z64, z128, z250, z999, z1000, zn, if_true, if_false, n_eq_f, Nat.reduceAdd, m_gone hm hk, m_gvalley, m_in_0_1, m_in_0_2, m_in_0_20, m_in_0_255, m_in_0_3, m_in_0_4, m_in_0_40, m_in_0_5, m_in_0_6, m_in_0_7, m_in_0_9, m_in_0_999, m_in_1_12, m_in_1_60, m_in_12_16, m_inl, hm.np, hm.ne, Option.bind_some, g_if, g_eta, cond_true, cond_false, n_in_t, n_cl, true_or, or_true, n_eq_t, n_eq_f, Nat.reduceEqDiff, g_or, h, g, hm1.fare]
  by_cases c1 : a2 = nI 1
  · subst c1
    cases g : gN 1 12 a3
    · refine pv_t hI 0 (by decide) ?_ (fun σ1 hJ hF => ?_)
      · unfold fn_X7_ask jn_X7_ask_39 jn_X7_ask_54 fn_X7_mayBeOfValley
        simp -implicitDefEqProofs (maxSteps := 2000000) (disch := omega) only [z0, z1, z2, z3, z4, z5, z6, z7, z8, z9, z10, z12, z15, z18, z20, z40, z64, z128, z250, z999, z1000, zn, if_true, if_false, n_eq_f, Nat.reduceAdd, c_gperson hc hk, c_gvalley, c_gshelf, c_gpass hc hk, c_within, Option.bind_some, g_if, g_eta, cond_true, cond_false, n_in_t, n_cl, true_or, or_true, n_eq_t, n_eq_f, Nat.reduceEqDiff, g_or, h, g]
      · have hm := hJ.2.2.1
        unfold fn_X8_ask jn_X8_ask_24 jn_X8_ask_41 jn_X8_ask_58 jn_X8_ask_79 jn_X8_ask_83 jn_X8_ask_84
        simp -implicitDefEqProofs (maxSteps := 2000000) (disch := omega) only [z0, z1, z2, z3, z4, z5, z6, z7, z8, z9, z10, z12, z15, z18, z20, z40, z64, z128, z250, z999, z1000, zn, if_true, if_false, n_eq_f, Nat.reduceAdd, m_gone hm hk, m_gvalley, m_in_0_1, m_in_0_2, m_in_0_20, m_in_0_255, m_in_0_3, m_in_0_4, m_in_0_40, m_in_0_5, m_in_0_6, m_in_0_7, m_in_0_9, m_in_0_999, m_in_1_12, m_in_1_60, m_in_12_16, m_inl, hm.np, hm.ne, Option.bind_some, g_if, g_eta, cond_true, cond_false, n_in_t, n_cl, true_or, or_true, n_eq_t, n_eq_f, Nat.reduceEqDiff, g_or, h, g]
    · obtain ⟨x, rfl, lx, hx⟩ := gN_n g
      refine ⟨nI (lV A 1 v), am_u σ 1 4 1 v (nI x), am_u (am_u σ 1 4 1 v (nI x)) 5 (50 + 1) 0 v (nI x), ?_, ?_, _, hI.sV (by decide) (hk.sV (by omega))⟩
      · unfold fn_X7_ask jn_X7_ask_39 jn_X7_ask_54 fn_X7_mayBeOfValley
        simp -implicitDefEqProofs (maxSteps := 2000000) (disch := omega) only [z0, z1, z2, z3, z4, z5, z6, z7, z8, z9, z10, z12, z15, z18, z20, z40, z64, z128, z250, z999, z1000, zn, if_true, if_false, n_eq_f, Nat.reduceAdd, c_gperson hc hk, c_gvalley, c_gshelf, c_gpass hc hk, c_within, Option.bind_some, g_if, g_eta, cond_true, cond_false, n_in_t, n_cl, true_or, or_true, n_eq_t, n_eq_f, Nat.reduceEqDiff, g_or, h, g, hc.V]
      · have hm1 : pu_m A 5 (am_u σ 1 4 1 v (nI x)) := fr1.m1 (fun _ _ _ _ => by omega) hm
        unfold fn_X8_ask jn_X8_ask_24 jn_X8_ask_41 jn_X8_ask_58 jn_X8_ask_79 jn_X8_ask_83 jn_X8_ask_84
        simp -implicitDefEqProofs (maxSteps := 2000000) (disch := omega) only [z0, z1, z2, z3, z4, z5, z6, z7, z8, z9, z10, z12, z15, z18, z20, z40, z64, z128, z250, z999, z1000, zn, if_true, if_false, n_eq_f, Nat.reduceAdd, m_gone hm hk, m_gvalley, m_in_0_1, m_in_0_2, m_in_0_20, m_in_0_255, m_in_0_3, m_in_0_4, m_in_0_40, m_in_0_5, m_in_0_6, m_in_0_7, m_in_0_9, m_in_0_999, m_in_1_12, m_in_1_60, m_in_12_16, m_inl, hm.np, hm.ne, Option.bind_some, g_if, g_eta, cond_true, cond_false, n_in_t, n_cl, true_or, or_true, n_eq_t, n_eq_f, Nat.reduceEqDiff, g_or, h, g, hm1.hours]
  by_cases c2 : a2 = nI 2
  · subst c2
    cases g : gN 0 20 a3
    · refine pv_t hI 0 (by decide) ?_ (fun σ1 hJ hF => ?_)
      · unfold fn_X7_ask jn_X7_ask_39 jn_X7_ask_54 fn_X7_mayBeOfValley
        simp -implicitDefEqProofs (maxSteps := 2000000) (disch := omega) only [z0, z1, z2, z3, z4, z5, z6, z7, z8, z9, z10, z12, z15, z18, z20, z40, z64, z128, z250, z999, z1000, zn, if_true, if_false, n_eq_f, Nat.reduceAdd, c_gperson hc hk, c_gvalley, c_gshelf, c_gpass hc hk, c_within, Option.bind_some, g_if, g_eta, cond_true, cond_false, n_in_t, n_cl, true_or, or_true, n_eq_t, n_eq_f, Nat.reduceEqDiff, g_or, h, g]
      · have hm := hJ.2.2.1
        unfold fn_X8_ask jn_X8_ask_24 jn_X8_ask_41 jn_X8_ask_58 jn_X8_ask_79 jn_X8_ask_83 jn_X8_ask_84
        simp -implicitDefEqProofs (maxSteps := 2000000) (disch := omega) only [z0, z1, z2, z3, z4, z5, z6, z7, z8, z9, z10, z12, z15, z18, z20, z40, z64, z128, z250, z999, z1000, zn, if_true, if_false, n_eq_f, Nat.reduceAdd, m_gone hm hk, m_gvalley, m_in_0_1, m_in_0_2, m_in_0_20, m_in_0_255, m_in_0_3, m_in_0_4, m_in_0_40, m_in_0_5, m_in_0_6, m_in_0_7, m_in_0_9, m_in_0_999, m_in_1_12, m_in_1_60, m_in_12_16, m_inl, hm.np, hm.ne, Option.bind_some, g_if, g_eta, cond_true, cond_false, n_in_t, n_cl, true_or, or_true, n_eq_t, n_eq_f, Nat.reduceEqDiff, g_or, h, g]
    · obtain ⟨x, rfl, lx, hx⟩ := gN_n g
      refine ⟨nI (lV A 2 v), am_u σ 1 4 2 v (nI x), am_u (am_u σ 1 4 2 v (nI x)) 5 (50 + 2) 0 v (nI x), ?_, ?_, _, hI.sV (by decide) (hk.sV (by omega))⟩
      · unfold fn_X7_ask jn_X7_ask_39 jn_X7_ask_54 fn_X7_mayBeOfValley
        simp -implicitDefEqProofs (maxSteps := 2000000) (disch := omega) only [z0, z1, z2, z3, z4, z5, z6, z7, z8, z9, z10, z12, z15, z18, z20, z40, z64, z128, z250, z999, z1000, zn, if_true, if_false, n_eq_f, Nat.reduceAdd, c_gperson hc hk, c_gvalley, c_gshelf, c_gpass hc hk, c_within, Option.bind_some, g_if, g_eta, cond_true, cond_false, n_in_t, n_cl, true_or, or_true, n_eq_t, n_eq_f, Nat.reduceEqDiff, g_or, h, g, hc.V]
      · have hm1 : pu_m A 5 (am_u σ 1 4 2 v (nI x)) := fr1.m1 (fun _ _ _ _ => by omega) hm
        unfold fn_X8_ask jn_X8_ask_24 jn_X8_ask_41 jn_X8_ask_58 jn_X8_ask_79 jn_X8_ask_83 jn_X8_ask_84
        simp -implicitDefEqProofs (maxSteps := 2000000) (disch := omega) only [z0, z1, z2, z3, z4, z5, z6, z7, z8, z9, z10, z12, z15, z18, z20, z40, z64, z128, z250, z999, z1000, zn, if_true, if_false, n_eq_f, Nat.reduceAdd, m_gone hm hk, m_gvalley, m_in_0_1, m_in_0_2, m_in_0_20, m_in_0_255, m_in_0_3, m_in_0_4, m_in_0_40, m_in_0_5, m_in_0_6, m_in_0_7, m_in_0_9, m_in_0_999, m_in_1_12, m_in_1_60, m_in_12_16, m_inl, hm.np, hm.ne, Option.bind_some, g_if, g_eta, cond_true, cond_false, n_in_t, n_cl, true_or, or_true, n_eq_t, n_eq_f, Nat.reduceEqDiff, g_or, h, g, hm1.pay]
  · refine pv_t hI 0 (by decide) ?_ (fun σ1 hJ hF => ?_)
    · unfold fn_X7_ask jn_X7_ask_39 jn_X7_ask_54 fn_X7_mayBeOfValley
      simp -implicitDefEqProofs (maxSteps := 2000000) (disch := omega) only [z0, z1, z2, z3, z4, z5, z6, z7, z8, z9, z10, z12, z15, z18, z20, z40, z64, z128, z250, z999, z1000, zn, if_true, if_false, n_eq_f, Nat.reduceAdd, c_gperson hc hk, c_gvalley, c_gshelf, c_gpass hc hk, c_within, Option.bind_some, g_if, g_eta, cond_true, cond_false, n_in_t, n_cl, true_or, or_true, n_eq_t, n_eq_f, Nat.reduceEqDiff, g_or, h, c0, c1, c2, c3]
    · have hm := hJ.2.2.1
      unfold fn_X8_ask jn_X8_ask_24 jn_X8_ask_41 jn_X8_ask_58 jn_X8_ask_79 jn_X8_ask_83 jn_X8_ask_84
      simp -implicitDefEqProofs (maxSteps := 2000000) (disch := omega) only [z0, z1, z2, z3, z4, z5, z6, z7, z8, z9, z10, z12, z15, z18, z20, z40, z64, z128, z250, z999, z1000, zn, if_true, if_false, n_eq_f, Nat.reduceAdd, m_gone hm hk, m_gvalley, m_in_0_1, m_in_0_2, m_in_0_20, m_in_0_255, m_in_0_3, m_in_0_4, m_in_0_40, m_in_0_5, m_in_0_6, m_in_0_7, m_in_0_9, m_in_0_999, m_in_1_12, m_in_1_60, m_in_12_16, m_inl, hm.np, hm.ne, Option.bind_some, g_if, g_eta, cond_true, cond_false, n_in_t, n_cl, true_or, or_true, n_eq_t, n_eq_f, Nat.reduceEqDiff, g_or, h, c0, c1, c2, c3]
