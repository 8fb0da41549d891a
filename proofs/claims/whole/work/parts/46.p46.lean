/-! ===== calls: shelves shown, copied ===== -/
theorem pv_show (a1 : Int32) (a2 : Int32) (σ : am_S) (hI : pu_Inv σ) : ∃ (r : Int32) (σ1 σ2 : am_S), fn_X7_show a1 a2 σ = some (r, σ1) ∧ fn_X8_show 5 a1 a2 σ1 = some (r, σ2) ∧ pu_Inv σ2 := by
  obtain ⟨A, hI⟩ := hI
  have hk := hI.1.1
  have hm := hI.1.2.2.1
  have hne := hk.2.1
  have hc := hI.1.2.1
  cases h1 : gN 0 7 a1
  · refine pv_t hI 0 (by decide) ?_ (fun σ1 hJ hF => ?_)
    · unfold fn_X7_show jn_X7_show_23 jn_X7_show_30 jn_X7_show_51
      simp -implicitDefEqProofs (maxSteps := 2000000) (disch := omega) only [z0, z1, z2, z3, z4, z5, z6, z7, z8, z9, z10, z12, z15, z18, z20, z40, z64, z128, z250, z999, z1000, zn, if_true, if_false, n_eq_f, Nat.reduceAdd, c_gperson hc hk, c_gvalley, c_gshelf, c_gpass hc hk, c_within, Option.bind_some, g_if, g_eta, cond_true, cond_false, n_in_t, n_cl, h1]
    · have hm := hJ.2.2.1
      unfold fn_X8_show jn_X8_show_25 jn_X8_show_32 jn_X8_show_47
      simp -implicitDefEqProofs (maxSteps := 2000000) (disch := omega) only [z0, z1, z2, z3, z4, z5, z6, z7, z8, z9, z10, z12, z15, z18, z20, z40, z64, z128, z250, z999, z1000, zn, if_true, if_false, n_eq_f, Nat.reduceAdd, m_gone hm hk, m_gvalley, m_in_0_1, m_in_0_2, m_in_0_20, m_in_0_255, m_in_0_3, m_in_0_4, m_in_0_40, m_in_0_5, m_in_0_6, m_in_0_7, m_in_0_9, m_in_0_999, m_in_1_12, m_in_1_60, m_in_12_16, m_inl, hm.np, hm.ne, Option.bind_some, g_if, g_eta, cond_true, cond_false, n_in_t, n_cl, h1]
  · obtain ⟨s, rfl, -, hs⟩ := gN_n h1
    have hs8 : s < 8 := by omega
    by_cases c : a2 = mI
    · subst c
      have f1 : fr (SHs s) σ (am_u σ 10 10 0 s mI) := fr.u (by unfold SHs; omega)
      have f2 : fr (SHs s) (am_u σ 10 10 0 s mI) (am_u (am_u (am_u σ 10 10 0 s mI) 5 41 0 s (nI 0)) 5 47 0 s mI) := (fr.u (by unfold SHs; omega)).tr (fr.u (by unfold SHs; omega))
      refine ⟨nI 1, am_u σ 10 10 0 s mI, _, ?_, ?_, A, (f1.tr f2).IHs hI (pu_s1_of.mpr (Or.inl ⟨?_, ?_⟩))⟩
      · unfold fn_X7_show jn_X7_show_23 jn_X7_show_30 jn_X7_show_51
        simp -implicitDefEqProofs (maxSteps := 2000000) (disch := omega) only [z0, z1, z2, z3, z4, z5, z6, z7, z8, z9, z10, z12, z15, z18, z20, z40, z64, z128, z250, z999, z1000, zn, if_true, if_false, n_eq_f, Nat.reduceAdd, c_gperson hc hk, c_gvalley, c_gshelf, c_gpass hc hk, c_within, Option.bind_some, g_if, g_eta, cond_true, cond_false, n_in_t, n_cl, h1]
      · unfold fn_X8_show jn_X8_show_25 jn_X8_show_32 jn_X8_show_47
        simp -implicitDefEqProofs (maxSteps := 2000000) (disch := omega) only [z0, z1, z2, z3, z4, z5, z6, z7, z8, z9, z10, z12, z15, z18, z20, z40, z64, z128, z250, z999, z1000, zn, if_true, if_false, n_eq_f, Nat.reduceAdd, m_gone hm hk, m_gvalley, m_in_0_1, m_in_0_2, m_in_0_20, m_in_0_255, m_in_0_3, m_in_0_4, m_in_0_40, m_in_0_5, m_in_0_6, m_in_0_7, m_in_0_9, m_in_0_999, m_in_1_12, m_in_1_60, m_in_12_16, m_inl, hm.np, hm.ne, Option.bind_some, g_if, g_eta, cond_true, cond_false, n_in_t, n_cl, h1]
      · rw [u_ne (by omega), u_ne (by omega), u_at]
      · rw [u_ne (by omega), u_at]
    · cases h2 : gL (lne A) a2
      · refine pv_t hI 0 (by decide) ?_ (fun σ1 hJ hF => ?_)
        · unfold fn_X7_show jn_X7_show_23 jn_X7_show_30 jn_X7_show_51
          simp -implicitDefEqProofs (maxSteps := 2000000) (disch := omega) only [z0, z1, z2, z3, z4, z5, z6, z7, z8, z9, z10, z12, z15, z18, z20, z40, z64, z128, z250, z999, z1000, zn, if_true, if_false, n_eq_f, Nat.reduceAdd, c_gperson hc hk, c_gvalley, c_gshelf, c_gpass hc hk, c_within, Option.bind_some, g_if, g_eta, cond_true, cond_false, n_in_t, n_cl, h1, c, h2]
        · have hm := hJ.2.2.1
          unfold fn_X8_show jn_X8_show_25 jn_X8_show_32 jn_X8_show_47
          simp -implicitDefEqProofs (maxSteps := 2000000) (disch := omega) only [z0, z1, z2, z3, z4, z5, z6, z7, z8, z9, z10, z12, z15, z18, z20, z40, z64, z128, z250, z999, z1000, zn, if_true, if_false, n_eq_f, Nat.reduceAdd, m_gone hm hk, m_gvalley, m_in_0_1, m_in_0_2, m_in_0_20, m_in_0_255, m_in_0_3, m_in_0_4, m_in_0_40, m_in_0_5, m_in_0_6, m_in_0_7, m_in_0_9, m_in_0_999, m_in_1_12, m_in_1_60, m_in_12_16, m_inl, hm.np, hm.ne, Option.bind_some, g_if, g_eta, cond_true, cond_false, n_in_t, n_cl, h1, c, h2]
      · obtain ⟨p, rfl, lp⟩ := gL_n h2
        have f1 : fr (SHs s) σ (am_u σ 10 10 0 s (nI (10 + p))) := fr.u (by unfold SHs; omega)
        have f2 : fr (SHs s) (am_u σ 10 10 0 s (nI (10 + p))) (am_u (am_u (am_u σ 10 10 0 s (nI (10 + p))) 5 41 0 s (nI 2)) 5 47 0 s (nI p)) := (fr.u (by unfold SHs; omega)).tr (fr.u (by unfold SHs; omega))
        have i1 : pu_m A 5 (am_u σ 10 10 0 s (nI (10 + p))) := f1.m1 (fun k i j _ q => by unfold SHs at q; omega) hm
        refine ⟨nI 1, am_u σ 10 10 0 s (nI (10 + p)), _, ?_, ?_, A, (f1.tr f2).IHs hI (pu_s1_of.mpr (Or.inr (Or.inr ⟨p, lp, ?_, ?_, ?_⟩)))⟩
        · unfold fn_X7_show jn_X7_show_23 jn_X7_show_30 jn_X7_show_51
          simp -implicitDefEqProofs (maxSteps := 2000000) (disch := omega) only [z0, z1, z2, z3, z4, z5, z6, z7, z8, z9, z10, z12, z15, z18, z20, z40, z64, z128, z250, z999, z1000, zn, if_true, if_false, n_eq_f, Nat.reduceAdd, c_gperson hc hk, c_gvalley, c_gshelf, c_gpass hc hk, c_within, Option.bind_some, g_if, g_eta, cond_true, cond_false, n_in_t, n_cl, h1, c, h2, nI_add]
        · unfold fn_X8_show jn_X8_show_25 jn_X8_show_32 jn_X8_show_47
          simp -implicitDefEqProofs (maxSteps := 2000000) (disch := omega) only [z0, z1, z2, z3, z4, z5, z6, z7, z8, z9, z10, z12, z15, z18, z20, z40, z64, z128, z250, z999, z1000, zn, if_true, if_false, n_eq_f, Nat.reduceAdd, m_gone i1 hk, m_gvalley, m_in_0_1, m_in_0_2, m_in_0_20, m_in_0_255, m_in_0_3, m_in_0_4, m_in_0_40, m_in_0_5, m_in_0_6, m_in_0_7, m_in_0_9, m_in_0_999, m_in_1_12, m_in_1_60, m_in_12_16, m_inl, i1.np, i1.ne, Option.bind_some, g_if, g_eta, cond_true, cond_false, n_in_t, n_cl, h1, c, h2]
        · rw [u_ne (by omega), u_ne (by omega), u_at]
        · rw [u_ne (by omega), u_at]
        · rw [u_at]
/-- a .. a + c lies in n -/
def gC (n : Nat) (a c : Int32) : Bool := decide (0 ≤ a.toInt ∧ 0 ≤ c.toInt ∧ a.toInt + c.toInt ≤ n)
theorem gC_n {n : Nat} {a c : Int32} (h : gC n a c = true) : ∃ i l, a = nI i ∧ c = nI l ∧ i + l ≤ n := by
  have h := of_decide_eq_true h
  exact ⟨_, _, nI_mk h.1, nI_mk h.2.1, by omega⟩
theorem lt0 {a : Int32} : (a < nI 0) = (a.toInt < 0) := by
  rw [Int32.lt_iff_toInt_lt, n_ti (by decide)]
  rfl
theorem n_zm {k : Nat} (hk : 0 < k) (hl : k ≤ 6) : (nI 0 = -nI k) = False := n_m (by decide : 0 ≤ 6) hl (by omega)
theorem fr.rol {S : Nat → Nat → Nat → Nat → Prop} {σ : am_S} {o k i : Nat} {f : Nat → Int64} (h : ∀ j, S o k i j) : fr S σ (am_rol σ o k i f) := fun o' k' i' j' hn => ⟨rfl, if_neg fun q => hn (by obtain ⟨rfl, rfl, rfl⟩ := q; exact h j')⟩
theorem rol_1 {σ : am_S} {o k i : Nat} {f : Nat → Int64} : (am_rol σ o k i f).1 = σ.1 := rfl
theorem rol_at {σ : am_S} {o k i j : Nat} {f : Nat → Int64} : (am_rol σ o k i f).2 o k i j = f j := if_pos ⟨rfl, rfl, rfl⟩
theorem n_cok {i d l : Nat} (hi : i + l ≤ 40) (hd : d + l ≤ 40) : am_cok (nI i) (nI d) (nI l) 40 40 = true := by
  unfold am_cok
  simp -implicitDefEqProofs (disch := omega) only [z0, n_lt_f, n_cl, decide_false, Bool.not_false, Bool.true_and, Bool.and_eq_true, Nat.ble_eq]
  omega
section PCP
variable {A : pu_L} {σ : am_S} {s s1 s2 t t2 n n2 p : Nat}
theorem c_hasEs0 {a c : Int32} (hs : s < 8) (hr : fn_X2_isRow (nI s) σ = some (nI 0, σ)) : fn_X2_hasElements (nI s) a c σ = some (nI 0, σ) := by
  unfold fn_X2_hasElements
  simp -implicitDefEqProofs (maxSteps := 2000000) (disch := omega) only [z0, z1, z2, z3, z4, z5, z6, z7, z8, z9, z10, z12, z15, z18, z20, z40, z64, z128, z250, z999, z1000, zn, if_true, if_false, n_eq_f, Nat.reduceAdd, c_gshelf, gN_nI, Option.bind_some, g_if, decide_true, Bool.and_true, Nat.zero_le, show s ≤ 7 by omega, cond_true, cond_false, hr]
theorem c_hasEs1 {a c : Int32} (hs : s < 8) (h : sh1 σ s t n) : fn_X2_hasElements (nI s) a c σ = some (cond (gC n a c) (nI 1) (nI 0), σ) := by
  obtain ⟨h1, h2, h3, h4, h5⟩ := h
  unfold fn_X2_hasElements
  simp -implicitDefEqProofs (maxSteps := 2000000) (disch := omega) only [z0, z1, z2, z3, z4, z5, z6, z7, z8, z9, z10, z12, z15, z18, z20, z40, z64, z128, z250, z999, z1000, zn, if_true, if_false, n_eq_f, Nat.reduceAdd, c_gshelf, gN_nI, Option.bind_some, g_if, decide_true, Bool.and_true, Nat.zero_le, show s ≤ 7 by omega, cond_true, cond_false, c_isRow1 hs ⟨h1, h2, h3, h4, h5⟩, n_in_t, n_cl, h4, lt0]
  by_cases c0 : a.toInt < 0
  · rw [if_pos c0, show gC n a c = false from decide_eq_false (by omega)]; rfl
  · by_cases c1 : c.toInt < 0
    · rw [if_neg c0, if_pos c1, show gC n a c = false from decide_eq_false (by omega)]; rfl
    · rw [if_neg c0, if_neg c1]
      have ha := Int32.toInt_lt a
      have hc := Int32.toInt_lt c
      have g : gC n a c = decide (a.toInt.toNat + c.toInt.toNat ≤ n) := decide_eq_decide.mpr (by omega)
      rw [g]
      obtain ⟨i, hi, i2⟩ : ∃ i, a = nI i ∧ i < 2147483648 := ⟨_, nI_mk (by omega), by omega⟩
      obtain ⟨l, hl, l2⟩ : ∃ i, c = nI i ∧ i < 2147483648 := ⟨_, nI_mk (by omega), by omega⟩
      subst hi; subst hl
      simp -implicitDefEqProofs (disch := omega) only [n_ti, n_lt_i, Int.toNat_natCast]
      by_cases c2 : n < i
      · rw [if_pos c2, decide_eq_false (by omega)]; rfl
      · rw [if_neg c2]
        simp -implicitDefEqProofs (disch := omega) only [n_sub, n_lt_i]
        by_cases c3 : n - i < l
        · rw [if_pos c3, decide_eq_false (by omega)]; rfl
        · rw [if_neg c3, decide_eq_true (by omega)]; rfl
/-- what the copy leaves -/
def cpN (f g : Nat → Int64) (i d l : Nat) : Nat → Int64 := fun j => if d ≤ j ∧ j < d + l then f (i + (j - d)) else g j
theorem m_cp2 (hs : s2 < 8) {d l : Nat} (hd : d + l ≤ 40) : ∀ (m k fuel : Nat) (σ : am_S), k + m = l → m < fuel → ∃ τ, lp_X8_copy_225 fuel 5 (nI s2) (nI d) (nI l) (nI k) σ = some (nI l, τ) ∧ τ.1 = σ.1 ∧ fr (fun o k i _ => o = 5 ∧ k = 45 ∧ i = s2) σ τ ∧ ∀ j, j < 40 → τ.2 5 45 s2 j = if d + k ≤ j ∧ j < d + l then σ.2 5 46 0 (j - d) else σ.2 5 45 s2 j := by
  intro m
  induction m with
  | zero =>
    intro k fuel σ hs hf
    obtain ⟨f, rfl⟩ : ∃ f, fuel = f + 1 := ⟨fuel - 1, by omega⟩
    obtain rfl : k = l := by omega
    refine ⟨σ, ?_, rfl, fr.rf, fun j hj => by rw [if_neg (by omega)]⟩
    rw [lp_X8_copy_225.eq_2]
    unfold lb_X8_copy_225
    simp -implicitDefEqProofs (maxSteps := 2000000) (disch := omega) only [z0, z1, z2, z3, z4, z5, z6, z7, z8, z9, z10, z12, z15, z18, z20, z40, z64, z128, z250, z999, z1000, zn, if_true, if_false, n_eq_f, Nat.reduceAdd, n_le_t]
  | succ m ih =>
    intro k fuel σ hs hf
    obtain ⟨f, rfl⟩ : ∃ f, fuel = f + 1 := ⟨fuel - 1, by omega⟩
    obtain ⟨τ, e1, e2, e3, e4⟩ := ih (k + 1) f (am_ul σ 5 45 s2 (d + k) (σ.2 5 46 0 k)) (by omega) (by omega)
    refine ⟨τ, ?_, e2, (fr.ul ⟨rfl, rfl, rfl⟩).tr e3, fun j hj => ?_⟩
    · rw [lp_X8_copy_225.eq_2]
      unfold lb_X8_copy_225
      simp -implicitDefEqProofs (maxSteps := 2000000) (disch := omega) only [z0, z1, z2, z3, z4, z5, z6, z7, z8, z9, z10, z12, z15, z18, z20, z40, z64, z128, z250, z999, z1000, zn, if_true, if_false, n_eq_f, Nat.reduceAdd, n_le_f, n_in_t, n_cl, cond_true, nI_add, e1]
    · rw [e4 j hj]
      by_cases q : j = d + k
      · subst q
        rw [if_neg (by omega), if_pos (by omega), ul_at, Nat.add_sub_cancel_left]
      · rw [ul_ne (by omega), ul_ne (by omega)]
        by_cases q2 : d + k ≤ j ∧ j < d + l
        · rw [if_pos q2, if_pos (by omega)]
        · rw [if_neg q2, if_neg (by omega)]
theorem m_cp1 (hs : s1 < 8) (hs2 : s2 < 8) {i d l : Nat} (hi : i + l ≤ 40) (hd : d + l ≤ 40) : ∀ (m k fuel : Nat) (σ : am_S), k + m = l → m < fuel → ∃ τ, lp_X8_copy_191 fuel 5 (nI s1) (nI s2) (nI i) (nI d) (nI l) (nI k) σ = some (nI l, τ) ∧ τ.1 = σ.1 ∧ fr (fun o k i _ => o = 5 ∧ ((k = 45 ∧ i = s2) ∨ k = 46)) σ τ ∧ ∀ j, j < 40 → τ.2 5 45 s2 j = if d + k ≤ j ∧ j < d + l then σ.2 5 45 s1 (i + (j - d)) else if d ≤ j ∧ j < d + l then σ.2 5 46 0 (j - d) else σ.2 5 45 s2 j := by
  intro m
  induction m with
  | zero =>
    intro k fuel σ hs hf
    obtain ⟨f, rfl⟩ : ∃ f, fuel = f + 1 := ⟨fuel - 1, by omega⟩
    obtain rfl : k = l := by omega
    obtain ⟨τ, e1, e2, e3, e4⟩ := m_cp2 hs2 hd k 0 1000 σ (by omega) (by omega)
    refine ⟨τ, ?_, e2, e3.mono fun o k i j q => ⟨q.1, Or.inl q.2⟩, fun j hj => by
      have e := e4 j hj
      rw [Nat.add_zero] at e
      exact e.trans (if_neg (by omega)).symm⟩
    rw [lp_X8_copy_191.eq_2]
    unfold lb_X8_copy_191
    simp -implicitDefEqProofs (maxSteps := 2000000) (disch := omega) only [z0, z1, z2, z3, z4, z5, z6, z7, z8, z9, z10, z12, z15, z18, z20, z40, z64, z128, z250, z999, z1000, zn, if_true, if_false, n_eq_f, Nat.reduceAdd, n_le_t, e1]
  | succ m ih =>
    intro k fuel σ hs hf
    obtain ⟨f, rfl⟩ : ∃ f, fuel = f + 1 := ⟨fuel - 1, by omega⟩
    obtain ⟨τ, e1, e2, e3, e4⟩ := ih (k + 1) f (am_ul σ 5 46 0 k (σ.2 5 45 s1 (i + k))) (by omega) (by omega)
    refine ⟨τ, ?_, e2, (fr.ul ⟨rfl, Or.inr rfl⟩).tr e3, fun j hj => ?_⟩
    · rw [lp_X8_copy_191.eq_2]
      unfold lb_X8_copy_191
      simp -implicitDefEqProofs (maxSteps := 2000000) (disch := omega) only [z0, z1, z2, z3, z4, z5, z6, z7, z8, z9, z10, z12, z15, z18, z20, z40, z64, z128, z250, z999, z1000, zn, if_true, if_false, n_eq_f, Nat.reduceAdd, n_le_f, n_in_t, n_cl, cond_true, nI_add, e1]
    · have n1 : ∀ r j', (am_ul σ 5 46 0 k (σ.2 5 45 s1 (i + k))).2 5 45 r j' = σ.2 5 45 r j' := fun _ _ => ul_ne (by omega)
      rw [e4 j hj]
      simp only [n1]
      by_cases q : j = d + k
      · subst q
        rw [if_neg (by omega), if_pos (by omega), if_pos (by omega), Nat.add_sub_cancel_left, ul_at]
      · by_cases q3 : d ≤ j ∧ j < d + l
        · rw [ul_ne (by omega)]
          by_cases q2 : d + k ≤ j ∧ j < d + l
          · rw [if_pos q2, if_pos (by omega)]
          · rw [if_neg q2, if_neg (by omega)]
        · rw [if_neg q3, if_neg (by omega), if_neg (by omega), if_neg q3]
/-- the reference's last tests -/
theorem m_cpT (hs : s1 < 8) (hs2 : s2 < 8) {a3 a4 a5 : Int32} (b1 : n ≤ 40) (b2 : n2 ≤ 40) (g5 : σ.1 5 41 0 s1 = nI 1) (d5 : σ.1 5 41 0 s2 = nI 1) (g7 : σ.1 5 43 0 s1 = nI n) (d7 : σ.1 5 43 0 s2 = nI n2) : jn_X8_copy_93 5 (nI s1) (nI s2) a3 a4 a5 σ = cond (gC n a3 a5 && gC n2 a4 a5) (lp_X8_copy_191 1000 5 (nI s1) (nI s2) a3 a4 a5 (nI 0) σ) (fn_X8_refuse 5 (-nI 2) σ) := by
  unfold jn_X8_copy_93 jn_X8_copy_181 jn_X8_copy_111
  simp -implicitDefEqProofs (maxSteps := 2000000) (disch := omega) only [z0, z1, z2, z3, z4, z5, z6, z7, z8, z9, z10, z12, z15, z18, z20, z40, z64, z128, z250, z999, z1000, zn, if_true, if_false, n_eq_f, Nat.reduceAdd, n_in_t, n_cl, cond_true, g5, d5, g7, d7, n_eq_f, lt0, g_eta]
  by_cases c5 : a5.toInt < 0
  · rw [if_pos c5, show gC n a3 a5 = false from decide_eq_false (by omega)]; rfl
  · by_cases c3 : a3.toInt < 0
    · rw [if_neg c5, if_pos c3, show gC n a3 a5 = false from decide_eq_false (by omega)]; rfl
    · by_cases c4 : a4.toInt < 0
      · rw [if_neg c5, if_neg c3, if_pos c4, show gC n2 a4 a5 = false from decide_eq_false (by omega), Bool.and_false]; rfl
      · rw [if_neg c5, if_neg c3, if_neg c4]
        have ha := Int32.toInt_lt a3
        have hb := Int32.toInt_lt a4
        have hc := Int32.toInt_lt a5
        have g : gC n a3 a5 = decide (a3.toInt.toNat + a5.toInt.toNat ≤ n) := decide_eq_decide.mpr (by omega)
        have g2 : gC n2 a4 a5 = decide (a4.toInt.toNat + a5.toInt.toNat ≤ n2) := decide_eq_decide.mpr (by omega)
        rw [g, g2]
        obtain ⟨i, hi, i2⟩ : ∃ i, a3 = nI i ∧ i < 2147483648 := ⟨_, nI_mk (by omega), by omega⟩
        obtain ⟨d, hd, d2⟩ : ∃ i, a4 = nI i ∧ i < 2147483648 := ⟨_, nI_mk (by omega), by omega⟩
        obtain ⟨l, hl, l2⟩ : ∃ i, a5 = nI i ∧ i < 2147483648 := ⟨_, nI_mk (by omega), by omega⟩
        subst hi; subst hl; subst hd
        simp -implicitDefEqProofs (disch := omega) only [n_ti, n_lt_i, Int.toNat_natCast]
        by_cases k1 : n < l
        · rw [if_pos k1, decide_eq_false (by omega)]; rfl
        · by_cases k2 : n2 < l
          · rw [if_neg k1, if_pos k2, show decide (d + l ≤ n2) = false from decide_eq_false (by omega), Bool.and_false]; rfl
          · rw [if_neg k1, if_neg k2]
            simp -implicitDefEqProofs (disch := omega) only [n_sub, n_lt_i, n_le_i]
            by_cases k3 : n - l < i
            · rw [if_pos k3, decide_eq_false (by omega)]; rfl
            · by_cases k4 : d ≤ n2 - l
              · rw [if_neg k3, if_pos k4, decide_eq_true (by omega), decide_eq_true (by omega)]; rfl
              · rw [if_neg k3, if_neg k4, show decide (d + l ≤ n2) = false from decide_eq_false (by omega), Bool.and_false]; rfl
theorem m_cp93 (hs : s1 < 8) (hs2 : s2 < 8) {a3 a4 a5 : Int32} (g : σ.1 5 41 0 s1 = nI 0 ∨ (σ.1 5 41 0 s1 = nI 1 ∧ σ.1 5 41 0 s2 = nI 0)) : jn_X8_copy_93 5 (nI s1) (nI s2) a3 a4 a5 σ = fn_X8_refuse 5 (-nI 4) σ := by
  unfold jn_X8_copy_93 jn_X8_copy_111
  rcases g with g | ⟨g, g2⟩
  · rw [n_in_t hs (by omega), cond_true, n_cl (by omega), g, if_pos (show nI 0 = (0 : Int32) from rfl), g_eta]
    rfl
  · rw [n_in_t hs (by omega), cond_true, n_cl (by omega), g, if_neg (by decide), n_in_t hs2 (by omega), cond_true, n_cl (by omega), g2, if_pos (show nI 0 = (0 : Int32) from rfl), g_eta]
    rfl
theorem c_two {x y : Int32} (h1 : fn_X2_refusalOfRow (nI s1) σ = some (x, σ)) (h2 : fn_X2_refusalOfRow (nI s2) σ = some (y, σ)) (hxy : ¬ (x = nI 0 ∧ y = nI 0)) (hx : x = nI 0 ∨ x = -nI 3 ∨ x = -nI 4) (hy : y = nI 0 ∨ y = -nI 3 ∨ y = -nI 4) : fn_X2_refusalOfTwoRows (nI s1) (nI s2) σ = some (if x = -nI 3 ∨ y = -nI 3 then -nI 3 else -nI 4, σ) := by
  unfold fn_X2_refusalOfTwoRows jn_X2_refusalOfTwoRows_41 jn_X2_refusalOfTwoRows_42 jn_X2_refusalOfTwoRows_78
  rw [h1, Option.bind_some, h2, Option.bind_some]
  rcases hx with rfl | rfl | rfl <;> rcases hy with rfl | rfl | rfl
  · exact absurd ⟨rfl, rfl⟩ hxy
  all_goals rfl
theorem c_two1 (hs : s1 < 8) (hs2 : s2 < 8) (c : sh1 σ s1 t n) (d : sh1 σ s2 t2 n2) : fn_X2_refusalOfTwoRows (nI s1) (nI s2) σ = some (if t = t2 then nI 0 else -nI 3, σ) := by
  obtain ⟨c1, c2, c3, c4, c5, c6, c7, c8⟩ := id c
  obtain ⟨d1, d2, d3, d4, d5, d6, d7, d8⟩ := id d
  unfold fn_X2_refusalOfTwoRows jn_X2_refusalOfTwoRows_41 jn_X2_refusalOfTwoRows_42 jn_X2_refusalOfTwoRows_78
  rw [c_refR1 hs c, Option.bind_some, c_refR1 hs2 d, Option.bind_some]
  simp -implicitDefEqProofs (disch := omega) only [z0, z1, n_in_t, n_cl, c3, d3, cond_true, n_eq_i]
  by_cases q : t = t2
  · rw [if_pos q]; simp only [q, if_true]; rfl
  · simp only [q, if_false]; rfl
theorem c_cpR {a3 a4 a5 : Int32} {k : Nat} (hs : s1 < 8) (hs2 : s2 < 8) (h0 : 0 < k) (h6 : k ≤ 6) (h : fn_X2_refusalOfTwoRows (nI s1) (nI s2) σ = some (-nI k, σ)) : fn_X7_copy (nI s1) (nI s2) a3 a4 a5 σ = fn_X7_refuse (-nI k) σ := by
  unfold fn_X7_copy jn_X7_copy_28 jn_X7_copy_68
  rw [c_gshelf, gN_nI (by omega), decide_eq_true (Nat.zero_le _), decide_eq_true (by omega), Option.bind_some, c_gshelf, gN_nI (by omega), decide_eq_true (Nat.zero_le _), decide_eq_true (by omega), Option.bind_some]
  show (fn_X2_refusalOfTwoRows (nI s1) (nI s2) σ).bind _ = _
  rw [h, Option.bind_some]
  have e : ¬ (-nI k = (0 : Int32)) := fun q => cast (n_mz h0 h6) q
  dsimp only
  rw [if_neg e, if_neg e, g_eta]
theorem c_cpA {a3 a4 a5 : Int32} (hs : s1 < 8) (hs2 : s2 < 8) (h : fn_X2_refusalOfTwoRows (nI s1) (nI s2) σ = some (nI 0, σ)) (c : sh1 σ s1 t n) (d : sh1 σ s2 t2 n2) : fn_X7_copy (nI s1) (nI s2) a3 a4 a5 σ = cond (gC n a3 a5 && gC n2 a4 a5) ((fn_X2_copyElements (nI s1) (nI s2) a3 a4 a5 σ).bind fun q => some (a5, q)) (fn_X7_refuse (-nI 2) σ) := by
  unfold fn_X7_copy jn_X7_copy_28 jn_X7_copy_64 jn_X7_copy_68
  rw [c_gshelf, gN_nI (by omega), decide_eq_true (Nat.zero_le _), decide_eq_true (by omega), Option.bind_some, c_gshelf, gN_nI (by omega), decide_eq_true (Nat.zero_le _), decide_eq_true (by omega), Option.bind_some]
  show (fn_X2_refusalOfTwoRows (nI s1) (nI s2) σ).bind _ = _
  rw [h, Option.bind_some]
  dsimp only
  rw [if_pos (show nI 0 = (0 : Int32) from rfl), c_hasEs1 hs c, Option.bind_some]
  show (if cond (gC n a3 a5) (nI 1) (nI 0) = nI 0 then _ else _) = _
  rw [g_if]
  cases gC n a3 a5
  · show (fn_X7_refuse (-nI 2) σ).bind _ = _
    exact g_eta _
  · show (fn_X2_hasElements (nI s2) a4 a5 σ).bind _ = _
    rw [c_hasEs1 hs2 d, Option.bind_some]
    show (if cond (gC n2 a4 a5) (nI 1) (nI 0) = nI 0 then _ else _) = _
    rw [g_if]
    cases gC n2 a4 a5
    · show (fn_X7_refuse (-nI 2) σ).bind _ = _
      exact g_eta _
    · rfl
/-- the reference before its last tests -/
theorem m_cpG {a3 a4 a5 : Int32} (hs : s1 < 8) (hs2 : s2 < 8) : fn_X8_copy 5 (nI s1) (nI s2) a3 a4 a5 σ = (if σ.1 5 41 0 s1 = nI 2 then fn_X8_refuse 5 (-nI 3) σ else if σ.1 5 41 0 s2 = nI 2 then fn_X8_refuse 5 (-nI 3) σ else if σ.1 5 41 0 s1 = nI 1 then (if σ.1 5 41 0 s2 = nI 1 then (if σ.1 5 42 0 s1 = σ.1 5 42 0 s2 then jn_X8_copy_93 5 (nI s1) (nI s2) a3 a4 a5 σ else fn_X8_refuse 5 (-nI 3) σ) else jn_X8_copy_93 5 (nI s1) (nI s2) a3 a4 a5 σ) else jn_X8_copy_93 5 (nI s1) (nI s2) a3 a4 a5 σ) := by
  unfold fn_X8_copy jn_X8_copy_86
  rw [m_in_0_7, gN_nI (by omega), decide_eq_true (Nat.zero_le _), decide_eq_true (by omega), Option.bind_some, m_in_0_7, gN_nI (by omega), decide_eq_true (Nat.zero_le _), decide_eq_true (by omega), Option.bind_some]
  show (bif am_in (nI s1) 8 then _ else _) = _
  simp -implicitDefEqProofs (disch := omega) only [z0, z1, z2, z3, n_in_t, n_cl, cond_true, g_eta]
end PCP
theorem pv_copy (a1 : Int32) (a2 : Int32) (a3 : Int32) (a4 : Int32) (a5 : Int32) (σ : am_S) (hI : pu_Inv σ) : ∃ (r : Int32) (σ1 σ2 : am_S), fn_X7_copy a1 a2 a3 a4 a5 σ = some (r, σ1) ∧ fn_X8_copy 5 a1 a2 a3 a4 a5 σ1 = some (r, σ2) ∧ pu_Inv σ2 := by
  obtain ⟨A, hI⟩ := hI
  have hk := hI.1.1
  cases h1 : gN 0 7 a1
  · refine pv_t hI 0 (by decide) ?_ (fun σ1 hJ hF => ?_)
    · unfold fn_X7_copy jn_X7_copy_26 jn_X7_copy_28 jn_X7_copy_68
      rw [c_gshelf, h1, Option.bind_some]
      show (fn_X7_refuse (-nI 2) σ).bind _ = _
      exact g_eta _
    · unfold fn_X8_copy jn_X8_copy_24
      rw [m_in_0_7, h1, Option.bind_some]
      show (fn_X8_refuse 5 (-nI 2) σ1).bind _ = _
      exact g_eta _
  obtain ⟨s1, rfl, -, hs1⟩ := gN_n h1
  have l1 : s1 < 8 := by omega
  cases h2 : gN 0 7 a2
  · refine pv_t hI 0 (by decide) ?_ (fun σ1 hJ hF => ?_)
    · unfold fn_X7_copy jn_X7_copy_26 jn_X7_copy_28 jn_X7_copy_68
      rw [c_gshelf, h1, Option.bind_some]
      show (fn_X7_isShelf a2 σ).bind _ = _
      rw [c_gshelf, h2, Option.bind_some]
      show (fn_X7_refuse (-nI 2) σ).bind _ = _
      exact g_eta _
    · unfold fn_X8_copy jn_X8_copy_24
      rw [m_in_0_7, h1, Option.bind_some]
      show (fn_X8_in a2.toInt64 0 7 σ1).bind _ = _
      rw [m_in_0_7, h2, Option.bind_some]
      show (fn_X8_refuse 5 (-nI 2) σ1).bind _ = _
      exact g_eta _
  obtain ⟨s2, rfl, -, hs2⟩ := gN_n h2
  have l2 : s2 < 8 := by omega
  rcases pu_s1_of.mp (hI.1.2.2.2.2.2.2 s1 l1) with c | ⟨t, n, c⟩ | ⟨p, c⟩ <;> rcases pu_s1_of.mp (hI.1.2.2.2.2.2.2 s2 l2) with d | ⟨t2, n2, d⟩ | ⟨p2, d⟩
  · refine pv_t hI 2 (by decide) (c_cpR l1 l2 (by decide) (by decide) ((c_two (c_refR0 l1 c) (c_refR0 l2 d) (by decide) (Or.inr (Or.inr rfl)) (Or.inr (Or.inr rfl))).trans rfl)) (fun σ1 hJ hF => ?_)
    have c9 := hF.s0J c
    have d9 := hF.s0J d
    rw [m_cpG l1 l2]
    rw [m_cp93 l1 l2 (Or.inl c9.2), c9.2, d9.2, if_neg (by decide), if_neg (by decide)]
    exact if_neg (by decide)
  · refine pv_t hI 2 (by decide) (c_cpR l1 l2 (by decide) (by decide) ((c_two (c_refR0 l1 c) (c_refR1 l2 d) (by decide) (Or.inr (Or.inr rfl)) (Or.inl rfl)).trans rfl)) (fun σ1 hJ hF => ?_)
    have c9 := hF.s0J c
    have d9 := hF.s1J d
    rw [m_cpG l1 l2]
    rw [m_cp93 l1 l2 (Or.inl c9.2), c9.2, d9.2.2.2.2.1, if_neg (by decide), if_neg (by decide)]
    exact if_neg (by decide)
  · refine pv_t hI 1 (by decide) (c_cpR l1 l2 (by decide) (by decide) ((c_two (c_refR0 l1 c) (c_refR2 hk l2 d) (by decide) (Or.inr (Or.inr rfl)) (Or.inr (Or.inl rfl))).trans rfl)) (fun σ1 hJ hF => ?_)
    have c9 := hF.s0J c
    have d9 := hF.s2J d
    rw [m_cpG l1 l2]
    rw [c9.2, d9.2.2.1, if_neg (by decide)]
    exact if_pos rfl
  · refine pv_t hI 2 (by decide) (c_cpR l1 l2 (by decide) (by decide) ((c_two (c_refR1 l1 c) (c_refR0 l2 d) (by decide) (Or.inl rfl) (Or.inr (Or.inr rfl))).trans rfl)) (fun σ1 hJ hF => ?_)
    have c9 := hF.s1J c
    have d9 := hF.s0J d
    rw [m_cpG l1 l2]
    rw [m_cp93 l1 l2 (Or.inr ⟨c9.2.2.2.2.1, d9.2⟩), c9.2.2.2.2.1, d9.2, if_neg (by decide), if_neg (by decide)]
    rw [if_pos rfl]
    exact if_neg (by decide)
  · obtain ⟨c1, c2, c3, c4, c5, c6, c7, c8⟩ := id c
    obtain ⟨d1, d2, d3, d4, d5, d6, d7, d8⟩ := id d
    have w := c_two1 l1 l2 c d
    by_cases q : t = t2
    · rw [if_pos q] at w
      subst q
      have w7 := c_cpA (a3 := a3) (a4 := a4) (a5 := a5) l1 l2 w c d
      cases g : gC n a3 a5 && gC n2 a4 a5
      · rw [g] at w7
        refine pv_t hI 0 (by decide) w7 (fun σ1 hJ hF => ?_)
        have c9 := hF.s1J c
        have d9 := hF.s1J d
        rw [m_cpG l1 l2, m_cpT l1 l2 c9.2.1 d9.2.1 c9.2.2.2.2.1 d9.2.2.2.2.1 c9.2.2.2.2.2.2.1 d9.2.2.2.2.2.2.1, g, c9.2.2.2.2.1, d9.2.2.2.2.1, c9.2.2.2.2.2.1, d9.2.2.2.2.2.1, if_neg (by decide), if_neg (by decide), if_pos rfl, if_pos rfl, if_pos rfl]
        rfl
      · rw [g] at w7
        have g1 : gC n a3 a5 = true := by revert g; cases gC n a3 a5 <;> simp
        have g2 : gC n2 a4 a5 = true := by revert g; cases gC n2 a4 a5 <;> simp
        obtain ⟨i, l, rfl, rfl, z1⟩ := gC_n g1
        obtain ⟨i2, rfl, z2⟩ : ∃ i2, a4 = nI i2 ∧ i2 + l ≤ n2 := by
          have z := of_decide_eq_true g2
          rw [n_ti (by omega)] at z
          exact ⟨_, nI_mk z.1, by omega⟩
        have f1 : fr (SHs s2) σ (am_rol σ 10 13 s2 (va_cpy (σ.2 10 13 s1) (σ.2 10 13 s2) i i2 l)) := fr.rol (fun j => by unfold SHs; omega)
        obtain ⟨ρ, e1, e2, e3, e4⟩ := m_cp1 l1 l2 (i := i) (d := i2) (l := l) (by omega) (by omega) l 0 1000 (am_rol σ 10 13 s2 (va_cpy (σ.2 10 13 s1) (σ.2 10 13 s2) i i2 l)) (by omega) (by omega)
        have f2 : fr (SHs s2) (am_rol σ 10 13 s2 (va_cpy (σ.2 10 13 s1) (σ.2 10 13 s2) i i2 l)) ρ := e3.mono fun o k i j q => by unfold SHs; omega
        refine ⟨nI l, am_rol σ 10 13 s2 (va_cpy (σ.2 10 13 s1) (σ.2 10 13 s2) i i2 l), ρ, w7.trans ?_, ?_, A, (f1.tr f2).IHs hI (pu_s1_of.mpr (Or.inr (Or.inl ⟨t, n2, d1, d2, ?_, ?_, ?_, ?_, ?_, fun j hj => ?_⟩)))⟩
        · rw [cond_true]
          unfold fn_X2_copyElements
          rw [c_hasEs1 l1 c, g1, Option.bind_some]
          show ((fn_X2_hasElements (nI s2) (nI i2) (nI l) σ).bind _).bind _ = _
          rw [c_hasEs1 l2 d, g2, Option.bind_some]
          show (bif am_in (nI s1) 8 then _ else _ : Option am_S).bind _ = _
          rw [n_in_t l1 (by omega), n_in_t l2 (by omega), n_cok (by omega) (by omega), n_cl (by omega), n_cl (by omega), n_cl (by omega), n_cl (by omega), n_cl (by omega)]
          rfl
        · rw [m_cpG l1 l2, m_cpT (n := n) (n2 := n2) l1 l2 c2 d2 (by exact c5) (by exact d5) (by exact c7) (by exact d7), g, rol_1, c5, d5, c6, d6, if_neg (by decide), if_neg (by decide), if_pos rfl, if_pos rfl, if_pos rfl]
          exact e1
        · rw [e2]; exact d3
        · rw [e2]; exact d4
        · rw [e2]; exact d5
        · rw [e2]; exact d6
        · rw [e2]; exact d7
        · rw [e4 j hj, Nat.add_zero, (e3 10 13 s2 j (by omega)).2, rol_at, ((fr.rol (S := fun o _ _ _ => o = 10) (fun _ => rfl)) 5 45 s1 (i + (j - i2)) (by omega)).2, ((fr.rol (S := fun o _ _ _ => o = 10) (fun _ => rfl)) 5 45 s2 j (by omega)).2]
          unfold va_cpy
          by_cases q : i2 ≤ j ∧ j < i2 + l
          · rw [if_pos q, if_pos q]; exact c8 _ (by omega)
          · rw [if_neg q, if_neg q, if_neg q]; exact d8 j hj
    · rw [if_neg q] at w
      refine pv_t hI 1 (by decide) (c_cpR l1 l2 (by decide) (by decide) w) (fun σ1 hJ hF => ?_)
      have c9 := hF.s1J c
      have d9 := hF.s1J d
      rw [m_cpG l1 l2, c9.2.2.2.2.1, d9.2.2.2.2.1, c9.2.2.2.2.2.1, d9.2.2.2.2.2.1, if_neg (by decide), if_neg (by decide), if_pos rfl, if_pos rfl]
      exact if_neg fun z => q ((nI_eq (by omega) (by omega)).mp z)
  · refine pv_t hI 1 (by decide) (c_cpR l1 l2 (by decide) (by decide) ((c_two (c_refR1 l1 c) (c_refR2 hk l2 d) (by decide) (Or.inl rfl) (Or.inr (Or.inl rfl))).trans rfl)) (fun σ1 hJ hF => ?_)
    have c9 := hF.s1J c
    have d9 := hF.s2J d
    rw [m_cpG l1 l2]
    rw [c9.2.2.2.2.1, d9.2.2.1, if_neg (by decide)]
    exact if_pos rfl
  · refine pv_t hI 1 (by decide) (c_cpR l1 l2 (by decide) (by decide) ((c_two (c_refR2 hk l1 c) (c_refR0 l2 d) (by decide) (Or.inr (Or.inl rfl)) (Or.inr (Or.inr rfl))).trans rfl)) (fun σ1 hJ hF => ?_)
    have c9 := hF.s2J c
    have d9 := hF.s0J d
    rw [m_cpG l1 l2]
    exact if_pos c9.2.2.1
  · refine pv_t hI 1 (by decide) (c_cpR l1 l2 (by decide) (by decide) ((c_two (c_refR2 hk l1 c) (c_refR1 l2 d) (by decide) (Or.inr (Or.inl rfl)) (Or.inl rfl)).trans rfl)) (fun σ1 hJ hF => ?_)
    have c9 := hF.s2J c
    have d9 := hF.s1J d
    rw [m_cpG l1 l2]
    exact if_pos c9.2.2.1
  · refine pv_t hI 1 (by decide) (c_cpR l1 l2 (by decide) (by decide) ((c_two (c_refR2 hk l1 c) (c_refR2 hk l2 d) (by decide) (Or.inr (Or.inl rfl)) (Or.inr (Or.inl rfl))).trans rfl)) (fun σ1 hJ hF => ?_)
    have c9 := hF.s2J c
    have d9 := hF.s2J d
    rw [m_cpG l1 l2]
    exact if_pos c9.2.2.1
