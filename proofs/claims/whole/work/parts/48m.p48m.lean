/-! ===== calls: tours ===== -/
theorem no_w : ∀ r, (none : Option Nat) = some r → r < 3 := by simp
def STo : Nat → Nat → Nat → Nat → Prop := fun o k _ _ => (o = 12 ∧ k = 19) ∨ (o = 13 ∧ k = 23)
def STm : Nat → Nat → Nat → Nat → Prop := fun o k i j => S65 o k i j ∨ S6t o k i j
theorem STo_X : ∀ o k i j, STo o k i j → SX o k i j := fun o k i j h => by unfold STo at h; unfold SX; omega
theorem STm_X : ∀ o k i j, STm o k i j → SX o k i j := fun o k i j h => by unfold STm S65 S6t at h; unfold SX; omega
theorem i_pos {α : Type} {a b : Nat} {x y : α} (ha : a < 1073741824) (hb : b < 1073741824) : (if (0 : Int32) < nI a - nI b then x else y) = if b < a then x else y := by
  have h : ((0 : Int32) < nI a - nI b) = (b < a) := by
    rw [Int32.lt_iff_toInt_lt, Int32.toInt_sub, n_ti (by omega), n_ti (by omega)]
    show ((0 : Int) < ((a : Int) - (b : Int)).bmod 4294967296) = _
    rw [Int.bmod_eq_of_le (by omega) (by omega)]
    apply propext
    omega
  simp only [h]
section PT2
variable {A : pu_L} {σ τ : am_S} {p r : Nat}
theorem c_pay {v : Nat} (hk : pu_k A) (hc : pu_c A 1 σ) (hv : v < 7) : fn_X0_payAt 1 (nI v) σ = some (nI (if v = 6 then 0 else lV A 2 v), σ) := by
  unfold fn_X0_payAt
  rw [c_valley hv, Option.bind_some]
  dsimp only
  rw [if_neg (show ¬ (1 : Int32) = 0 by decide), z6, i_eq (by omega) (by omega)]
  by_cases c : v = 6
  · rw [if_pos c, if_pos c]; rfl
  · rw [if_neg c, if_neg c, n_in_t hv (by omega), cond_true, n_cl (by omega), hc.V (by decide) hv]
end PT2
theorem pv_tour (a1 : Int32) (a2 : Int32) (σ : am_S) (hI : pu_Inv σ) : ∃ (r : Int32) (σ1 σ2 : am_S), fn_X7_tour a1 a2 σ = some (r, σ1) ∧ fn_X8_tour 5 a1 a2 σ1 = some (r, σ2) ∧ pu_Inv σ2 := by
  obtain ⟨A, hI⟩ := hI
  have hk := hI.1.1
  have hc := hI.1.2.1
  cases h1 : gL (lne A) a1
  · refine pv_r hI 0 (by decide) ⟨σ, fr.rf, ?_⟩ (fun σ1 hJ => ⟨σ1, fr.rf, ?_⟩)
    · unfold fn_X7_tour jn_X7_tour_20
      simp -implicitDefEqProofs (maxSteps := 2000000) (disch := omega) only [z0, z1, z2, z3, z4, z5, z6, z7, z8, z9, z10, z12, z15, z18, z20, z40, z64, z128, z250, z999, z1000, zn, if_true, if_false, n_eq_f, Nat.reduceAdd, c_gperson hc hk, c_gvalley, c_gshelf, c_gpass hc hk, c_within, Option.bind_some, g_if, g_eta, cond_true, cond_false, h1]
    · have hm := hJ.2.2.1
      have hne := hk.2.1
      have hnp := hk.1
      unfold fn_X8_tour jn_X8_tour_18
      simp -implicitDefEqProofs (maxSteps := 2000000) (disch := omega) only [z0, z1, z2, z3, z4, z5, z6, z7, z8, z9, z10, z12, z15, z18, z20, z40, z64, z128, z250, z999, z1000, zn, if_true, if_false, n_eq_f, Nat.reduceAdd, m_gone hm hk, m_gvalley, m_in_0_1, m_in_0_2, m_in_0_20, m_in_0_255, m_in_0_3, m_in_0_4, m_in_0_40, m_in_0_5, m_in_0_6, m_in_0_7, m_in_0_9, m_in_0_999, m_in_1_12, m_in_1_60, m_in_12_16, m_inl, hm.np, hm.ne, Option.bind_some, g_if, g_eta, cond_true, cond_false, h1]
  obtain ⟨p, rfl, lp⟩ := gL_n h1
  cases h2 : gN 0 1 a2
  · refine pv_r hI 0 (by decide) ⟨σ, fr.rf, ?_⟩ (fun σ1 hJ => ⟨σ1, fr.rf, ?_⟩)
    · unfold fn_X7_tour jn_X7_tour_20
      simp -implicitDefEqProofs (maxSteps := 2000000) (disch := omega) only [z0, z1, z2, z3, z4, z5, z6, z7, z8, z9, z10, z12, z15, z18, z20, z40, z64, z128, z250, z999, z1000, zn, if_true, if_false, n_eq_f, Nat.reduceAdd, c_gperson hc hk, c_gvalley, c_gshelf, c_gpass hc hk, c_within, Option.bind_some, g_if, g_eta, cond_true, cond_false, h1, h2]
    · have hm := hJ.2.2.1
      have hne := hk.2.1
      have hnp := hk.1
      unfold fn_X8_tour jn_X8_tour_18
      simp -implicitDefEqProofs (maxSteps := 2000000) (disch := omega) only [z0, z1, z2, z3, z4, z5, z6, z7, z8, z9, z10, z12, z15, z18, z20, z40, z64, z128, z250, z999, z1000, zn, if_true, if_false, n_eq_f, Nat.reduceAdd, m_gone hm hk, m_gvalley, m_in_0_1, m_in_0_2, m_in_0_20, m_in_0_255, m_in_0_3, m_in_0_4, m_in_0_40, m_in_0_5, m_in_0_6, m_in_0_7, m_in_0_9, m_in_0_999, m_in_1_12, m_in_1_60, m_in_12_16, m_inl, hm.np, hm.ne, Option.bind_some, g_if, g_eta, cond_true, cond_false, h1, h2]
  obtain ⟨x, rfl, lx, ux⟩ := gN_n h2
  have hne := hk.2.1
  have hp6 : p < 6 := by omega
  have hpu := (pb_of hk lp).2.2.2.2.2.1
  have hto := to_le hk lp no_w
  refine pv_q hI (r := nI (if x = 0 then toN A p none else if lE A p 5 < toN A p none then 0 else 1)) ?_ (fun σ1 hI1 => ?_)
  · obtain ⟨τ, e1, e2, e3, -, -⟩ := c_leastTour hk hc lp no_w
    refine ⟨τ, ?_, e2.mono STo_X⟩
    have e1 : fn_X5_leastTour 1 (nI p) (-1) σ = some (nI (toN A p none), τ) := e1
    unfold fn_X7_tour
    rw [c_gperson hc hk, h1, Option.bind_some]
    dsimp only
    rw [if_neg (show ¬ (cond true (nI 1) (nI 0) = 0) by decide), z0, z1, c_within (by decide) (by decide), h2, Option.bind_some]
    dsimp only
    rw [if_neg (show ¬ (cond true (nI 1) (nI 0) = nI 0) by decide), ← z1, e1, Option.bind_some]
    dsimp only
    rw [i_eq (by omega) (by omega), n_in_t hp6 (by omega), cond_true, n_cl (by omega), e3.E hp6 (by decide), i_lt (by omega) (by omega)]
    by_cases c : x = 0
    · rw [if_pos c, if_pos c]
    · rw [if_neg c, if_neg c]
      by_cases d : lE A p 5 < toN A p none
      · rw [if_pos d, if_pos d]
      · rw [if_neg d, if_neg d]; rfl
  · have hm := hI1.1.2.2.1
    obtain ⟨τ, e1, e2, e3, -⟩ := m_tourNow hk hm lp no_w
    refine ⟨τ, ?_, e2.mono STm_X⟩
    have e1 : fn_X8_tourNow 5 (nI p) (-1) σ1 = some (nI (toN A p none), τ) := e1
    unfold fn_X8_tour
    rw [m_gone hm hk, h1, Option.bind_some]
    dsimp only
    rw [if_neg (show ¬ (cond true (nI 1) (nI 0) = 0) by decide), m_in_0_1, h2, Option.bind_some]
    dsimp only
    rw [if_neg (show ¬ (cond true (nI 1) (nI 0) = 0) by decide), e1, Option.bind_some]
    dsimp only
    rw [z0, i_eq (by omega) (by omega), n_in_t hp6 (by omega), cond_true, n_cl (by omega), e3.E5 hp6, i_lt (by omega) (by omega)]
    by_cases c : x = 0
    · rw [if_pos c, if_pos c]
    · rw [if_neg c, if_neg c]
      by_cases d : lE A p 5 < toN A p none
      · rw [if_pos d, if_pos d]
      · rw [if_neg d, if_neg d]; rfl
theorem pv_works (a1 : Int32) (σ : am_S) (hI : pu_Inv σ) : ∃ (r : Int32) (σ1 σ2 : am_S), fn_X7_works a1 σ = some (r, σ1) ∧ fn_X8_works 5 a1 σ1 = some (r, σ2) ∧ pu_Inv σ2 := by
  obtain ⟨A, hI⟩ := hI
  have hk := hI.1.1
  have hc := hI.1.2.1
  cases h1 : gL (lne A) a1
  · refine pv_r hI 0 (by decide) ⟨σ, fr.rf, ?_⟩ (fun σ1 hJ => ⟨σ1, fr.rf, ?_⟩)
    · unfold fn_X7_works jn_X7_works_84
      simp -implicitDefEqProofs (maxSteps := 2000000) (disch := omega) only [z0, z1, z2, z3, z4, z5, z6, z7, z8, z9, z10, z12, z15, z18, z20, z40, z64, z128, z250, z999, z1000, zn, if_true, if_false, n_eq_f, Nat.reduceAdd, c_gperson hc hk, c_gvalley, c_gshelf, c_gpass hc hk, c_within, Option.bind_some, g_if, g_eta, cond_true, cond_false, h1]
    · have hm := hJ.2.2.1
      have hne := hk.2.1
      have hnp := hk.1
      unfold fn_X8_works jn_X8_works_61
      simp -implicitDefEqProofs (maxSteps := 2000000) (disch := omega) only [z0, z1, z2, z3, z4, z5, z6, z7, z8, z9, z10, z12, z15, z18, z20, z40, z64, z128, z250, z999, z1000, zn, if_true, if_false, n_eq_f, Nat.reduceAdd, m_gone hm hk, m_gvalley, m_in_0_1, m_in_0_2, m_in_0_20, m_in_0_255, m_in_0_3, m_in_0_4, m_in_0_40, m_in_0_5, m_in_0_6, m_in_0_7, m_in_0_9, m_in_0_999, m_in_1_12, m_in_1_60, m_in_12_16, m_inl, hm.np, hm.ne, Option.bind_some, g_if, g_eta, cond_true, cond_false, h1]
  obtain ⟨p, rfl, lp⟩ := gL_n h1
  have hne := hk.2.1
  have hp6 : p < 6 := by omega
  obtain ⟨b0, b1, b2, b3, b4, b5, b6, b7⟩ := pb_of hk lp
  have hto := to_le hk lp no_w
  have hpay := (hk.2.2.2.1 (lE A p 3) b3).2.2.2
  have hpy : (if lE A p 3 = 6 then 0 else lV A 2 (lE A p 3)) ≤ 20 := by split <;> omega
  refine pv_q hI (r := if lE A p 5 < toN A p none then (if (if lE A p 3 = 6 then 0 else lV A 2 (lE A p 3)) = 0 then mI else nI ((toN A p none - lE A p 5 + (if lE A p 3 = 6 then 0 else lV A 2 (lE A p 3)) - 1) / (if lE A p 3 = 6 then 0 else lV A 2 (lE A p 3)))) else nI 0) ?_ (fun σ1 hI1 => ?_)
  · obtain ⟨τ, e1, e2, e3, -, -⟩ := c_leastTour hk hc lp no_w
    refine ⟨τ, ?_, e2.mono STo_X⟩
    have e1 : fn_X5_leastTour 1 (nI p) (-1) σ = some (nI (toN A p none), τ) := e1
    unfold fn_X7_works jn_X7_works_84
    rw [c_gperson hc hk, h1, Option.bind_some]
    dsimp only
    rw [if_neg (show ¬ (cond true (nI 1) (nI 0) = 0) by decide), n_in_t hp6 (by omega), cond_true, e1, Option.bind_some]
    dsimp only
    rw [n_cl (by omega), e3.E hp6 (by decide), e3.E hp6 (by decide), i_pos (by omega) (by omega), c_pay hk e3 b3, Option.bind_some]
    dsimp only
    generalize (if lE A p 3 = 6 then 0 else lV A 2 (lE A p 3)) = y at hpy ⊢
    by_cases c : lE A p 5 < toN A p none
    · rw [if_pos c, if_pos c, z0, i_le (by omega) (by omega), i_eq (by omega) (by omega), z999, i_le (by omega) (by omega), n_sub (by omega), nI_add]
      by_cases d : y = 0
      · rw [if_pos (show y ≤ 0 by omega), if_pos d]; rfl
      · rw [if_neg (show ¬ y ≤ 0 by omega), if_neg d, if_pos (show toN A p none ≤ 999 by omega), if_neg d, z1, n_sub (by omega), n_div (by omega) (by omega)]
    · rw [if_neg c, if_neg c]; rfl
  · have hm := hI1.1.2.2.1
    obtain ⟨τ, e1, e2, e3, -⟩ := m_tourNow hk hm lp no_w
    refine ⟨τ, ?_, e2.mono STm_X⟩
    have e1 : fn_X8_tourNow 5 (nI p) (-1) σ1 = some (nI (toN A p none), τ) := e1
    unfold fn_X8_works jn_X8_works_61
    rw [m_gone hm hk, h1, Option.bind_some]
    dsimp only
    rw [if_neg (show ¬ (cond true (nI 1) (nI 0) = 0) by decide), e1, Option.bind_some]
    dsimp only
    rw [n_in_t hp6 (by omega), cond_true, cond_true, cond_true, n_cl (by omega), e3.E3 hp6, e3.E5 hp6, i_pos (by omega) (by omega), n_in_t b3 (by omega), cond_true, n_cl (by omega), e3.pay b3]
    by_cases c : lE A p 5 < toN A p none
    · rw [if_pos c, if_pos c, n_sub (by omega), z6, i_eq (by omega) (by omega)]
      by_cases d : lE A p 3 = 6
      · rw [if_pos d, if_pos d, if_pos (show (0 : Int32) = 0 from rfl), if_pos rfl]; rfl
      · rw [if_neg d, if_neg d, z0, i_eq (by omega) (by omega)]
        by_cases d2 : lV A 2 (lE A p 3) = 0
        · rw [if_pos d2, if_pos d2]; rfl
        · rw [if_neg d2, if_neg d2, i_eq (by omega) (by omega), if_neg d2, nI_add, z1, n_sub (by omega), n_div (by omega) (by omega)]
    · rw [if_neg c, if_neg c]; rfl
/-- what a pass saves in all tours -/
def svN (A : pu_L) (r : Nat) (n : Nat) : Nat := smN (fun p => toN A p (some r) - toN A p none) n
section PT3
variable {A : pu_L} {r : Nat}
theorem sv_le (hk : pu_k A) (hr : r < 3) : ∀ n, n ≤ lne A → svN A r n ≤ n * 756 := fun n hn => smN_le n fun i hi => by
  have := to_le hk (show i < lne A by omega) (wo := some r) (fun q hq => by cases hq; exact hr)
  show toN A i (some r) - toN A i none ≤ 756
  omega
theorem c_saved0 (hk : pu_k A) (hr : r < 3) : ∀ (m k fuel : Nat) (σ : am_S), k + m = lne A → m < fuel → pu_c A 1 σ → ∃ τ, lp_X5_savedBy_6 fuel 1 (nI r) (nI (svN A r k)) (nI k) σ = some (nI (svN A r (lne A)), τ) ∧ fr STo σ τ ∧ pu_c A 1 τ := by
  have hne := hk.2.1
  have hwo : ∀ q, some r = some q → q < 3 := fun q hq => by cases hq; exact hr
  intro m
  induction m with
  | zero =>
    intro k fuel σ hs hf hc
    obtain ⟨f, rfl⟩ : ∃ f, fuel = f + 1 := ⟨fuel - 1, by omega⟩
    obtain rfl : k = lne A := by omega
    refine ⟨σ, ?_, fr.rf, hc⟩
    rw [lp_X5_savedBy_6.eq_2]
    unfold lb_X5_savedBy_6
    rw [hc.ne, if_pos (pt (n_le_t (by omega) (by omega)))]
  | succ m ih =>
    intro k fuel σ hs hf hc
    obtain ⟨f, rfl⟩ : ∃ f, fuel = f + 1 := ⟨fuel - 1, by omega⟩
    have hp : k < lne A := by omega
    obtain ⟨τ, e1, e2, e3, -, -⟩ := c_leastTour hk hc hp hwo
    obtain ⟨ρ, d1, d2, d3, -, -⟩ := c_leastTour hk e3 hp no_w
    obtain ⟨θ, g1, g2, g3⟩ := ih (k + 1) f ρ (by omega) (by omega) d3
    refine ⟨θ, ?_, (e2.tr d2).tr g2, g3⟩
    have e1 : fn_X5_leastTour 1 (nI k) (nI r) σ = some (nI (toN A k (some r)), τ) := e1
    have d1 : fn_X5_leastTour 1 (nI k) (-1) τ = some (nI (toN A k none), ρ) := d1
    rw [lp_X5_savedBy_6.eq_2]
    unfold lb_X5_savedBy_6
    rw [hc.ne, if_neg (nf (n_le_f (by omega) (by omega))), e1, Option.bind_some]
    dsimp only
    rw [d1, Option.bind_some]
    dsimp only
    rw [n_sub (to_mono hk hp hr), nI_add, n_suc]
    exact g1
theorem c_saved (hk : pu_k A) (hr : r < 3) {σ : am_S} (hc : pu_c A 1 σ) : ∃ τ, fn_X5_savedBy 1 (nI r) σ = some (nI (svN A r (lne A)), τ) ∧ fr STo σ τ ∧ pu_c A 1 τ := by
  have hne := hk.2.1
  exact c_saved0 hk hr (lne A) 0 1000 σ (by omega) (by omega) hc
theorem m_saved0 (hk : pu_k A) (hr : r < 3) : ∀ (m k fuel : Nat) (σ : am_S), k + m = lne A → m < fuel → pu_m A 5 σ → ∃ τ, lp_X8_savedBy_4 fuel 5 (nI r) (nI (svN A r k)) (nI k) σ = some (nI (svN A r (lne A)), τ) ∧ fr STm σ τ ∧ pu_m A 5 τ := by
  have hne := hk.2.1
  have hwo : ∀ q, some r = some q → q < 3 := fun q hq => by cases hq; exact hr
  intro m
  induction m with
  | zero =>
    intro k fuel σ hs hf hc
    obtain ⟨f, rfl⟩ : ∃ f, fuel = f + 1 := ⟨fuel - 1, by omega⟩
    obtain rfl : k = lne A := by omega
    refine ⟨σ, ?_, fr.rf, hc⟩
    rw [lp_X8_savedBy_4.eq_2]
    unfold lb_X8_savedBy_4
    rw [hc.ne, if_pos (pt (n_le_t (by omega) (by omega)))]
  | succ m ih =>
    intro k fuel σ hs hf hc
    obtain ⟨f, rfl⟩ : ∃ f, fuel = f + 1 := ⟨fuel - 1, by omega⟩
    have hp : k < lne A := by omega
    obtain ⟨τ, e1, e2, e3, -⟩ := m_tourNow hk hc hp hwo
    obtain ⟨ρ, d1, d2, d3, -⟩ := m_tourNow hk e3 hp no_w
    obtain ⟨θ, g1, g2, g3⟩ := ih (k + 1) f ρ (by omega) (by omega) d3
    refine ⟨θ, ?_, (e2.tr d2).tr g2, g3⟩
    have e1 : fn_X8_tourNow 5 (nI k) (nI r) σ = some (nI (toN A k (some r)), τ) := e1
    have d1 : fn_X8_tourNow 5 (nI k) (-1) τ = some (nI (toN A k none), ρ) := d1
    rw [lp_X8_savedBy_4.eq_2]
    unfold lb_X8_savedBy_4
    rw [hc.ne, if_neg (nf (n_le_f (by omega) (by omega))), e1, Option.bind_some]
    dsimp only
    rw [d1, Option.bind_some]
    dsimp only
    rw [n_sub (to_mono hk hp hr), nI_add, n_suc]
    exact g1
theorem m_saved (hk : pu_k A) (hr : r < 3) {σ : am_S} (hm : pu_m A 5 σ) : ∃ τ, fn_X8_savedBy 5 (nI r) σ = some (nI (svN A r (lne A)), τ) ∧ fr STm σ τ ∧ pu_m A 5 τ := by
  have hne := hk.2.1
  exact m_saved0 hk hr (lne A) 0 1000 σ (by omega) (by omega) hm
def svA (A : pu_L) : Nat → Nat := fun r => svN A r (lne A)
theorem svA_le (hk : pu_k A) (hr : r < 3) : svA A r ≤ 4536 := by
  have h1 := sv_le hk hr (lne A) (Nat.le_refl _)
  have h2 := hk.2.1
  have h3 : lne A * 756 ≤ 6 * 756 := Nat.mul_le_mul_right _ h2
  unfold svA
  omega
theorem c_bestP (hk : pu_k A) (h0 : 0 < lnp A) : ∀ (m k fuel : Nat) (σ : am_S), k + m = lnp A → m < fuel → pu_c A 1 σ → ∃ τ, lp_X7_bestPass_6 fuel (if k = 0 then mI else nI (mxN (svA A) k)) (if k = 0 then mI else nI (svA A (mxN (svA A) k))) (nI k) σ = some (nI (mxN (svA A) (lnp A)), τ) ∧ fr STo σ τ := by
  have hnp := hk.1
  intro m
  induction m with
  | zero =>
    intro k fuel σ hs hf hc
    obtain ⟨f, rfl⟩ : ∃ f, fuel = f + 1 := ⟨fuel - 1, by omega⟩
    obtain rfl : k = lnp A := by omega
    have hl := mxN_lt (f := svA A) (lnp A)
    refine ⟨σ, ?_, fr.rf⟩
    rw [lp_X7_bestPass_6.eq_2]
    unfold lb_X7_bestPass_6
    rw [hc.np, if_pos (pt (n_le_t (by omega) (by omega))), if_neg (show ¬ lnp A = 0 by omega), if_neg (show ¬ nI (mxN (svA A) (lnp A)) = (-1 : Int32) from nf (n_neg1 (by omega)))]
  | succ m ih =>
    intro k fuel σ hs hf hc
    obtain ⟨f, rfl⟩ : ∃ f, fuel = f + 1 := ⟨fuel - 1, by omega⟩
    have hr : k < 3 := by omega
    obtain ⟨τ, e1, e2, e3⟩ := c_saved hk hr hc
    obtain ⟨ρ, d1, d2⟩ := ih (k + 1) f τ (by omega) (by omega) e3
    refine ⟨ρ, ?_, e2.tr d2⟩
    have hk1 := svA_le hk hr
    have e : mxN (svA A) (k + 1) = if svA A (mxN (svA A) k) < svA A k then k else mxN (svA A) k := rfl
    rw [lp_X7_bestPass_6.eq_2]
    unfold lb_X7_bestPass_6 jn_X7_bestPass_46
    rw [hc.np, if_neg (nf (n_le_f (by omega) (by omega))), e1, Option.bind_some]
    dsimp only
    rw [n_suc]
    rw [if_neg (Nat.succ_ne_zero k), if_neg (Nat.succ_ne_zero k), e] at d1
    have hsv : svN A k (lne A) = svA A k := rfl
    rw [hsv]
    by_cases k0 : k = 0
    · subst k0
      rw [if_pos rfl, if_pos rfl, if_neg (show ¬ nI (svA A 0) ≤ mI from nf (nI_mIle (by omega)))]
      have e0 : mxN (svA A) 0 = 0 := rfl
      rw [e0, ite_self] at d1
      exact d1
    · rw [if_neg k0, if_neg k0]
      have hl := mxN_lt' (f := svA A) (k - 1)
      rw [show k - 1 + 1 = k by omega] at hl
      have hk2 := svA_le hk (show mxN (svA A) k < 3 by omega)
      rw [i_le (by omega) (by omega)]
      by_cases c : svA A k ≤ svA A (mxN (svA A) k)
      · rw [if_pos c]
        rw [if_neg (by omega)] at d1
        exact d1
      · rw [if_neg c]
        rw [if_pos (by omega)] at d1
        exact d1
theorem m_bestP (hk : pu_k A) : ∀ (m k fuel : Nat) (σ : am_S), k + m = lnp A → 0 < k → m < fuel → pu_m A 5 σ → ∃ τ, lp_X8_bestPass_18 fuel 5 (nI (mxN (svA A) k)) (nI k) σ = some (nI (mxN (svA A) (lnp A)), τ) ∧ fr STm σ τ := by
  have hnp := hk.1
  intro m
  induction m with
  | zero =>
    intro k fuel σ hs h0 hf hc
    obtain ⟨f, rfl⟩ : ∃ f, fuel = f + 1 := ⟨fuel - 1, by omega⟩
    obtain rfl : k = lnp A := by omega
    refine ⟨σ, ?_, fr.rf⟩
    rw [lp_X8_bestPass_18.eq_2]
    unfold lb_X8_bestPass_18
    rw [hc.np, if_pos (pt (n_le_t (by omega) (by omega)))]
  | succ m ih =>
    intro k fuel σ hs h0 hf hc
    obtain ⟨f, rfl⟩ : ∃ f, fuel = f + 1 := ⟨fuel - 1, by omega⟩
    have hr : k < 3 := by omega
    have hl := mxN_lt' (f := svA A) (k - 1)
    rw [show k - 1 + 1 = k by omega] at hl
    have hr2 : mxN (svA A) k < 3 := by omega
    obtain ⟨τ, e1, e2, e3⟩ := m_saved hk hr hc
    obtain ⟨θ, g1, g2, g3⟩ := m_saved hk hr2 e3
    obtain ⟨ρ, d1, d2⟩ := ih (k + 1) f θ (by omega) (by omega) (by omega) g3
    refine ⟨ρ, ?_, (e2.tr g2).tr d2⟩
    have hk1 := svA_le hk hr
    have hk2 := svA_le hk hr2
    have e : mxN (svA A) (k + 1) = if svA A (mxN (svA A) k) < svA A k then k else mxN (svA A) k := rfl
    rw [lp_X8_bestPass_18.eq_2]
    unfold lb_X8_bestPass_18 jn_X8_bestPass_44
    rw [hc.np, if_neg (nf (n_le_f (by omega) (by omega))), e1, Option.bind_some]
    dsimp only
    rw [g1, Option.bind_some]
    dsimp only
    rw [n_suc]
    rw [e] at d1
    have hsv : svN A k (lne A) = svA A k := rfl
    have hsv2 : svN A (mxN (svA A) k) (lne A) = svA A (mxN (svA A) k) := rfl
    rw [hsv, hsv2, i_le (by omega) (by omega)]
    by_cases c : svA A k ≤ svA A (mxN (svA A) k)
    · rw [if_pos c]
      rw [if_neg (by omega)] at d1
      exact d1
    · rw [if_neg c]
      rw [if_pos (by omega)] at d1
      exact d1
end PT3
theorem pv_saved (a1 : Int32) (σ : am_S) (hI : pu_Inv σ) : ∃ (r : Int32) (σ1 σ2 : am_S), fn_X7_saved a1 σ = some (r, σ1) ∧ fn_X8_saved 5 a1 σ1 = some (r, σ2) ∧ pu_Inv σ2 := by
  obtain ⟨A, hI⟩ := hI
  have hk := hI.1.1
  have hc := hI.1.2.1
  cases h1 : gL (lnp A) a1
  · refine pv_r hI 0 (by decide) ⟨σ, fr.rf, ?_⟩ (fun σ1 hJ => ⟨σ1, fr.rf, ?_⟩)
    · unfold fn_X7_saved
      simp -implicitDefEqProofs (maxSteps := 2000000) (disch := omega) only [z0, z1, z2, z3, z4, z5, z6, z7, z8, z9, z10, z12, z15, z18, z20, z40, z64, z128, z250, z999, z1000, zn, if_true, if_false, n_eq_f, Nat.reduceAdd, c_gperson hc hk, c_gvalley, c_gshelf, c_gpass hc hk, c_within, Option.bind_some, g_if, g_eta, cond_true, cond_false, h1]
    · have hm := hJ.2.2.1
      have hne := hk.2.1
      have hnp := hk.1
      unfold fn_X8_saved
      simp -implicitDefEqProofs (maxSteps := 2000000) (disch := omega) only [z0, z1, z2, z3, z4, z5, z6, z7, z8, z9, z10, z12, z15, z18, z20, z40, z64, z128, z250, z999, z1000, zn, if_true, if_false, n_eq_f, Nat.reduceAdd, m_gone hm hk, m_gvalley, m_in_0_1, m_in_0_2, m_in_0_20, m_in_0_255, m_in_0_3, m_in_0_4, m_in_0_40, m_in_0_5, m_in_0_6, m_in_0_7, m_in_0_9, m_in_0_999, m_in_1_12, m_in_1_60, m_in_12_16, m_inl, hm.np, hm.ne, Option.bind_some, g_if, g_eta, cond_true, cond_false, h1]
  obtain ⟨r, rfl, lr⟩ := gL_n h1
  have hnp := hk.1
  have hr : r < 3 := by omega
  refine pv_q hI (r := nI (svN A r (lne A))) ?_ (fun σ1 hI1 => ?_)
  · obtain ⟨τ, e1, e2, e3⟩ := c_saved hk hr hc
    refine ⟨τ, ?_, e2.mono STo_X⟩
    unfold fn_X7_saved
    rw [c_gpass hc hk, h1, Option.bind_some]
    dsimp only
    rw [if_neg (show ¬ (cond true (nI 1) (nI 0) = 0) by decide), e1]
    rfl
  · have hm := hI1.1.2.2.1
    obtain ⟨τ, e1, e2, e3⟩ := m_saved hk hr hm
    refine ⟨τ, ?_, e2.mono STm_X⟩
    unfold fn_X8_saved
    rw [hm.np, z1, m_inl (by omega), h1, Option.bind_some]
    dsimp only
    rw [if_neg (show ¬ (cond true (nI 1) (nI 0) = 0) by decide), e1]
    rfl
theorem pv_bestPass  (σ : am_S) (hI : pu_Inv σ) : ∃ (r : Int32) (σ1 σ2 : am_S), fn_X7_bestPass  σ = some (r, σ1) ∧ fn_X8_bestPass 5  σ1 = some (r, σ2) ∧ pu_Inv σ2 := by
  obtain ⟨A, hI⟩ := hI
  have hk := hI.1.1
  have hm := hI.1.2.2.1
  have hne := hk.2.1
  have hnp := hk.1
  have hc := hI.1.2.1
  by_cases q : lnp A = 0
  · refine pv_t hI 3 (by decide) ?_ (fun σ1 hJ hF => ?_)
    · unfold fn_X7_bestPass
      rw [lp_X7_bestPass_6.eq_2]
      unfold lb_X7_bestPass_6
      rw [hc.np, q, if_pos (show nI 0 ≤ (0 : Int32) by decide), if_pos rfl]
      exact g_eta _
    · have hm := hJ.2.2.1
      unfold fn_X8_bestPass
      rw [hm.np, q, if_pos (show nI 0 = (0 : Int32) from rfl)]
      exact g_eta _
  · refine pv_q hI (r := nI (mxN (svA A) (lnp A))) ?_ (fun σ1 hI1 => ?_)
    · obtain ⟨τ, e1, e2⟩ := c_bestP hk (by omega) (lnp A) 0 1000 σ (by omega) (by omega) hc
      rw [if_pos rfl, if_pos rfl] at e1
      exact ⟨τ, e1, e2.mono STo_X⟩
    · have hm := hI1.1.2.2.1
      obtain ⟨τ, e1, e2⟩ := m_bestP hk (lnp A - 1) 1 1000 σ1 (by omega) (by decide) (by omega) hm
      have e0 : mxN (svA A) 1 ≤ 0 := mxN_lt' (f := svA A) 0
      rw [show mxN (svA A) 1 = 0 by omega] at e1
      refine ⟨τ, ?_, e2.mono STm_X⟩
      unfold fn_X8_bestPass
      rw [hm.np, if_neg (show ¬ nI (lnp A) = (0 : Int32) from nf (n_eq_f q (by omega) (by decide)))]
      exact e1
/-! the order of a tour -/
/-- downwards: the last place found is the least -/
def scN (P : Nat → Bool) (b : Nat) : Nat → Nat
  | 0 => b
  | m + 1 => scN P (if P m = true then m else b) m
theorem sc_no {P : Nat → Bool} {b : Nat} : ∀ m, (∀ i, i < m → P i = false) → scN P b m = b
  | 0, _ => rfl
  | m + 1, h => by
    show scN P (if P m = true then m else b) m = b
    rw [if_neg (by rw [h m (by omega)]; decide)]
    exact sc_no m (fun i hi => h i (by omega))
theorem sc_at {P : Nat → Bool} {j : Nat} (hj : P j = true) (hn : ∀ i, i < j → P i = false) : ∀ m b, j < m → scN P b m = j
  | 0, b, h => absurd h (Nat.not_lt_zero _)
  | m + 1, b, h => by
    show scN P (if P m = true then m else b) m = j
    by_cases c : j = m
    · subst c
      rw [if_pos hj]
      exact sc_no j hn
    · exact sc_at hj hn m _ (by omega)
/-- the place ahead of m -/
def pI (m : Nat) : Int32 := match m with
  | 0 => mI
  | m + 1 => nI m
theorem pI_pre {m : Nat} : nI m + (-1 : Int32) = pI m := by
  cases m with
  | zero => rfl
  | succ m =>
    show nI (m + 1) + -1 = nI m
    rw [← n_suc, Int32.add_assoc]
    exact Int32.add_zero _
section PT4
variable {A : pu_L} {σ : am_S} {D : Nat → Nat → Nat} {h f s v w y j : Nat}
theorem c_fnx (hs : s < 128) (hv : v < 7) (hT : ∀ a b, a < 7 → b < 7 → σ.1 12 19 a b = nI (D a b)) (hst : ∀ u, u < 7 → btN s u = true → σ.1 13 23 0 (clN s u * 7 + u) = nI (tuT D h f (clN s u) u)) (hb : ∀ u, u < 7 → tuG D h f s v u < 1000000) (hj : j < 7) (hy : σ.1 13 23 0 (s * 7 + v) = nI (tuG D h f s v j)) : ∀ (m fuel best : Nat), m ≤ 7 → m < fuel → lp_X5_firstNext_7 fuel (nI s) (nI v) (nI best) (pI m) σ = some (nI (scN (fun u => btN s u && decide (tuG D h f s v u = tuG D h f s v j)) best m), σ) := by
  intro m
  induction m with
  | zero =>
    intro fuel best hm hf
    obtain ⟨fu, rfl⟩ : ∃ f, fuel = f + 1 := ⟨fuel - 1, by omega⟩
    rw [lp_X5_firstNext_7.eq_2]
    unfold lb_X5_firstNext_7
    rw [if_pos (show pI 0 < 0 by decide)]
    rfl
  | succ m ih =>
    intro fuel best hm hf
    obtain ⟨fu, rfl⟩ : ∃ f, fuel = f + 1 := ⟨fuel - 1, by omega⟩
    have hm7 : m < 7 := by omega
    rw [lp_X5_firstNext_7.eq_2]
    unfold lb_X5_firstNext_7 jn_X5_firstNext_48
    rw [show pI (m + 1) = nI m from rfl, if_neg (show ¬ nI m < (0 : Int32) from nf (n_lt0 (by omega))), i_band hs hm7, pI_pre]
    have e : scN (fun u => btN s u && decide (tuG D h f s v u = tuG D h f s v j)) best (m + 1) = scN (fun u => btN s u && decide (tuG D h f s v u = tuG D h f s v j)) (if (btN s m && decide (tuG D h f s v m = tuG D h f s v j)) = true then m else best) m := rfl
    rw [e]
    cases hbm : btN s m
    · rw [if_pos rfl, Bool.false_and, if_neg (by decide)]
      exact ih fu best (by omega) (by omega)
    · have b1 := hb m hm7
      have b2 := hb j hj
      rw [if_neg (by decide), c_lo hs hv hm7 hT (hst m hm7 hbm), Option.bind_some]
      dsimp only
      have eg : D v m + tuT D h f (clN s m) m = tuG D h f s v m := rfl
      rw [eg, z7, n_mul, nI_add, n_in_t (show s * 7 + v < 896 by omega) (by omega), cond_true, n_cl (by omega), hy, i_eq (by omega) (by omega), Bool.true_and]
      by_cases c : tuG D h f s v m = tuG D h f s v j
      · rw [if_pos c, decide_eq_true c, if_pos rfl]
        exact ih fu m (by omega) (by omega)
      · rw [if_neg c, decide_eq_false c, if_neg (by decide)]
        exact ih fu best (by omega) (by omega)
theorem c_fo (hy : y < 128) (hh : h < 7) (hD : ∀ a b, a < 7 → b < 7 → D a b ≤ 108) : ∀ (f s v n fuel : Nat) (σ : am_S), s < 128 → pcN s = f → n + f ≤ 7 → f < fuel → v < 7 → s < y + 1 → sub s y → (btN y v = true ∧ btN s v = false ∨ v = w) → (∀ a b, a < 7 → b < 7 → σ.1 12 19 a b = nI (D a b)) → stI D h y w (y + 1) σ →
    ∃ τ, lp_X5_findOrder_39 fuel (nI v) (nI s) (nI n) σ = some (nI (n + f), τ) ∧ fr (fun o k i j => o = 13 ∧ k = 24 ∧ i = 0 ∧ n ≤ j) σ τ ∧ (tuO D h f s v).length = f ∧ ∀ i, i < f → τ.1 13 24 0 (n + i) = nI ((tuO D h f s v).getD i 0) := by
  intro f
  induction f with
  | zero =>
    intro s v n fuel σ hs hpc hn hf hv hsy hsub hvv hT hI
    obtain ⟨fu, rfl⟩ : ∃ f, fuel = f + 1 := ⟨fuel - 1, by omega⟩
    have hs0 := pc_0 hs hpc
    subst hs0
    refine ⟨σ, ?_, fr.rf, rfl, fun i hi => absurd hi (Nat.not_lt_zero _)⟩
    rw [lp_X5_findOrder_39.eq_2]
    unfold lb_X5_findOrder_39
    by_cases c : 7 ≤ n
    · rw [if_pos (show (7 : Int32) ≤ nI n from pt (n_le_t (a := 7) (b := n) c (by omega)))]; rfl
    · rw [if_neg (show ¬ (7 : Int32) ≤ nI n from nf (n_le_f (a := 7) (b := n) (by omega) (by omega))), if_pos (show nI 0 = (0 : Int32) from rfl)]; rfl
  | succ f ih =>
    intro s v n fuel σ hs hpc hn hf hv hsy hsub hvv hT hI
    obtain ⟨fu, rfl⟩ : ∃ f, fuel = f + 1 := ⟨fuel - 1, by omega⟩
    have hs0 : s ≠ 0 := fun q => by rw [q, pc_00] at hpc; omega
    obtain ⟨i0, i1, i2⟩ := bt_ex hs hs0
    rcases ta_ok (g := tuG D h f s v) (b := btN s) 7 with ⟨h1, h2⟩ | ⟨j, h1, h2, h3, h4, h5⟩
    · rw [h2 i0 i1] at i2; cases i2
    · have hct := cl_t hs h2 h3
      have hcl : ∀ u, u < 7 → btN s u = true → σ.1 13 23 0 (clN s u * 7 + u) = nI (tuT D h f (clN s u) u) := fun u hu hub => by
        have hcu := cl_t hs hu hub
        have e := hI (clN s u) (by omega) (fun x hx hxb => hsub x hx (by
          rw [(bt_cl hs hu hx).1, Bool.and_eq_true] at hxb
          exact hxb.1)) u hu (Or.inl ⟨hsub u hu hub, by rw [(bt_cl hs hu hu).1, decide_eq_true rfl, Bool.not_true, Bool.and_false]⟩)
        rw [e, show pcN (clN s u) = f by omega]
      have hgb : ∀ u, u < 7 → tuG D h f s v u < 1000000 := fun u hu => by
        have q1 := hD v u hv hu
        have q2 := tu_le hD hh f (clN s u) u hu
        show D v u + tuT D h f (clN s u) u < _
        have q3 : f * 108 ≤ 7 * 108 := Nat.mul_le_mul_right _ (by omega)
        omega
      have hys : σ.1 13 23 0 (s * 7 + v) = nI (tuG D h f s v j) := by
        rw [hI s hsy hsub v hv hvv, hpc, (tu_1 h1).1]
      have e1 := c_fnx hs hv hT hcl hgb h2 hys 7 1000 0 (Nat.le_refl _) (by decide)
      rw [sc_at (j := j) (by simp [h3]) (fun i hi => by
        cases hb : btN s i
        · rfl
        · have := h5 i hi hb
          simp
          omega) 7 0 h2] at e1
      have e1 : fn_X5_firstNext (nI s) (nI v) σ = some (nI j, σ) := e1
      have hcs : clN s j < 128 := by omega
      obtain ⟨τ, g1, g2, g3, g4⟩ := ih (clN s j) j (n + 1) fu (am_u σ 13 24 0 n (nI j)) hcs (by omega) (by omega) (by omega) h2 (by omega) (fun x hx hxb => hsub x hx (by
          rw [(bt_cl hs h2 hx).1, Bool.and_eq_true] at hxb
          exact hxb.1)) (Or.inl ⟨hsub j h2 h3, by rw [(bt_cl hs h2 h2).1, decide_eq_true rfl, Bool.not_true, Bool.and_false]⟩) (fun a b ha hb => by rw [u_ne (by omega)]; exact hT a b ha hb) (fun s' hs' hsub' v' hv' hvv' => by rw [u_ne (by omega)]; exact hI s' hs' hsub' v' hv' hvv')
      refine ⟨τ, ?_, (fr.u (by omega)).tr (g2.mono fun o k i j q => by omega), ?_, fun i hi => ?_⟩
      · rw [lp_X5_findOrder_39.eq_2]
        unfold lb_X5_findOrder_39
        rw [if_neg (show ¬ (7 : Int32) ≤ nI n from nf (n_le_f (a := 7) (b := n) (by omega) (by omega))), if_neg (show ¬ nI s = (0 : Int32) from nf (n_eq_f hs0 (by omega) (by decide))), e1, Option.bind_some]
        dsimp only
        rw [n_in_t (show n < 7 by omega) (by omega), cond_true, n_cl (by omega), b_cl hs h2, n_suc, g1, show n + 1 + f = n + (f + 1) by omega]
      · rw [(tu_1 h1).2, List.length_cons, g3]
      · rw [(tu_1 h1).2]
        cases i with
        | zero =>
          rw [Nat.add_zero, (g2 13 24 0 n (by omega)).1, u_at]
          rfl
        | succ i =>
          rw [show n + (i + 1) = n + 1 + i by omega, g4 i (by omega)]
          rfl
end PT4
theorem c_order {A : pu_L} {σ : am_S} {p : Nat} (hk : pu_k A) (hc : pu_c A 1 σ) (hp : p < lne A) : ∃ τ, fn_X5_findOrder 1 (nI p) σ = some (nI (toO A p none).length, τ) ∧ fr (fun o k _ _ => (o = 12 ∧ k = 19) ∨ (o = 13 ∧ (k = 23 ∨ k = 24))) σ τ ∧ (toO A p none).length ≤ 6 ∧ ∀ i, i < (toO A p none).length → τ.1 13 24 0 i = nI ((toO A p none).getD i 0) := by
  have hp6 : p < 6 := by have := hk.2.1; omega
  obtain ⟨b0, b1, b2, b3, b4, b5, b6, b7⟩ := pb_of hk hp
  obtain ⟨h1, h2⟩ := tW_lt hk hp
  obtain ⟨τ, e1, e2, e3, e4, e5⟩ := c_leastTour hk hc hp no_w
  obtain ⟨ρ, d1, d2, d3, d4⟩ := c_fo (D := tD A p none) (h := lE A p 2) (y := tW A p) (w := lE A p 3) h1 b2 (fun a b ha hb => tD_le hk hp no_w ha hb) (pcN (tW A p)) (tW A p) (lE A p 3) 0 1000 τ h1 rfl (by omega) (by omega) b3 (by omega) (fun _ _ q => q) (Or.inr rfl) e4 e5
  have hlen : (toO A p none).length = pcN (tW A p) := d3
  refine ⟨ρ, ?_, (e2.mono fun o k i j q => by omega).tr (d2.mono fun o k i j q => by omega), by omega, fun i hi => ?_⟩
  · have e1 : fn_X5_leastTour 1 (nI p) (-1) σ = some (nI (toN A p none), τ) := e1
    unfold fn_X5_findOrder
    rw [e1, Option.bind_some]
    dsimp only
    rw [n_in_t hp6 (by omega), cond_true, cond_true, n_cl (by omega), e3.E hp6 (by decide), e3.E hp6 (by decide), b_cl b4 b3, hlen]
    have d1 : lp_X5_findOrder_39 1000 (nI (lE A p 3)) (nI (tW A p)) (nI 0) τ = some (nI (0 + pcN (tW A p)), ρ) := d1
    rw [Nat.zero_add] at d1
    exact d1
  · have := d4 i (by omega)
    rw [Nat.zero_add] at this
    exact this
theorem pv_tourOf (a1 : Int32) (a2 : Int32) (σ : am_S) (hI : pu_Inv σ) : ∃ (r : Int32) (σ1 σ2 : am_S), fn_X7_tourOf a1 a2 σ = some (r, σ1) ∧ fn_X8_tourOf 5 a1 a2 σ1 = some (r, σ2) ∧ pu_Inv σ2 := by
  obtain ⟨A, hI⟩ := hI
  have hk := hI.1.1
  have hm := hI.1.2.2.1
  have hne := hk.2.1
  have hnp := hk.1
  have hc := hI.1.2.1
  cases h1 : gL (lne A) a1
  · refine pv_t hI 0 (by decide) ?_ (fun σ1 hJ hF => ?_)
    · unfold fn_X7_tourOf jn_X7_tourOf_16
      rw [c_gperson hc hk, h1, Option.bind_some]
      exact g_eta (fn_X7_refuse (-nI 2) σ)
    · have hm := hJ.2.2.1
      unfold fn_X8_tourOf jn_X8_tourOf_13
      rw [m_gone hm hk, h1, Option.bind_some]
      exact g_eta (fn_X8_refuse 5 (-nI 2) σ1)
  obtain ⟨p, rfl, lp⟩ := gL_n h1
  have hp6 : p < 6 := by omega
  by_cases h2 : (-1 : Int32) ≤ a2
  rotate_left 1
  · refine pv_t hI 0 (by decide) ?_ (fun σ1 hJ hF => ?_)
    · unfold fn_X7_tourOf jn_X7_tourOf_16
      rw [c_gperson hc hk, h1, Option.bind_some]
      dsimp only
      rw [if_neg (show ¬ (cond true (nI 1) (nI 0) = 0) by decide), if_neg h2]
      exact g_eta _
    · have hm := hJ.2.2.1
      unfold fn_X8_tourOf jn_X8_tourOf_13
      rw [m_gone hm hk, h1, Option.bind_some]
      dsimp only
      rw [if_neg (show ¬ (cond true (nI 1) (nI 0) = 0) by decide), if_neg h2]
      exact g_eta _
  obtain ⟨τ, e1, e2, e3, e4⟩ := c_order hk hc lp
  have e2X : fr SX σ τ := e2.mono fun o k i j q => by unfold SX; omega
  have e7 : fn_X7_tourOf (nI p) a2 σ = (if a2 = (-1) then some (nI (toO A p none).length, τ) else (if nI (toO A p none).length ≤ a2 then jn_X7_tourOf_70 τ else (if 7 ≤ a2 then jn_X7_tourOf_70 τ else (bif am_in a2 7 then some ((τ.1 13 24 0 ((a2 : Int32).toNatClampNeg)), τ) else none)))) := by
    unfold fn_X7_tourOf
    rw [c_gperson hc hk, h1, Option.bind_some]
    dsimp only
    rw [if_neg (show ¬ (cond true (nI 1) (nI 0) = 0) by decide), if_pos h2, e1, Option.bind_some]
  have e8 : ∀ σ1, pu_m A 5 σ1 → ∃ ρ, tS (some (toN A p none, toO A p none)) ρ ∧ fr STm σ1 ρ ∧ fn_X8_tourOf 5 (nI p) a2 σ1 = (if a2 < nI (toO A p none).length then (if a2 = (-1) then some (nI (toO A p none).length, ρ) else (bif am_in a2 7 then some ((ρ.1 5 68 0 ((a2 : Int32).toNatClampNeg)), ρ) else none)) else fn_X8_refuse 5 (-5) ρ) := fun σ1 hm => by
    obtain ⟨ρ, d1, d2, d3, d4⟩ := m_tourNow hk hm lp no_w
    refine ⟨ρ, d4, d2, ?_⟩
    have d1 : fn_X8_tourNow 5 (nI p) (-1) σ1 = some (nI (toN A p none), ρ) := d1
    unfold fn_X8_tourOf
    rw [m_gone hm hk, h1, Option.bind_some]
    dsimp only
    rw [if_neg (show ¬ (cond true (nI 1) (nI 0) = 0) by decide), if_pos h2, d1, Option.bind_some]
    dsimp only
    rw [d4.2.2.2.1, g_eta]
  by_cases c : a2 = mI
  · subst c
    refine pv_q hI (r := nI (toO A p none).length) ⟨τ, ?_, e2X⟩ (fun σ1 hI1 => ?_)
    · rw [e7, if_pos (show mI = (-1 : Int32) from rfl)]
    · obtain ⟨ρ, d1, d2, d3⟩ := e8 σ1 hI1.1.2.2.1
      refine ⟨ρ, ?_, d2.mono STm_X⟩
      rw [d3, if_pos (pt (mI_lt (by omega))), if_pos (show mI = (-1 : Int32) from rfl)]
  · have h0 : 0 ≤ a2.toInt := by
      have q := Int32.le_iff_toInt_le.mp h2
      have q1 : (-1 : Int32).toInt = -1 := by decide
      have q2 : a2.toInt ≠ -1 := fun z => c (Int32.toInt_inj.mp (by rw [z]; decide))
      omega
    have hlt := Int32.toInt_lt a2
    obtain ⟨i, hi, hi2⟩ : ∃ i, a2 = nI i ∧ i < 2147483648 := ⟨_, nI_mk h0, by omega⟩
    subst hi
    by_cases d : i < (toO A p none).length
    · have hi7 : i < 7 := by omega
      refine pv_q hI (r := nI ((toO A p none).getD i 0)) ⟨τ, ?_, e2X⟩ (fun σ1 hI1 => ?_)
      · rw [e7, if_neg (show ¬ nI i = (-1 : Int32) from c), if_neg (nf (n_le_f d (by omega))), if_neg (show ¬ (7 : Int32) ≤ nI i from nf (n_le_f (a := 7) (b := i) hi7 (by omega))), n_in_t hi7 (by omega), cond_true, n_cl (by omega), e4 i d]
      · obtain ⟨ρ, d1, d2, d3⟩ := e8 σ1 hI1.1.2.2.1
        refine ⟨ρ, ?_, d2.mono STm_X⟩
        rw [d3, if_pos (pt (n_lt_t d (by omega))), if_neg (show ¬ nI i = (-1 : Int32) from c), n_in_t hi7 (by omega), cond_true, n_cl (by omega), d1.2.2.2.2 i d]
    · refine pv_r hI 3 (by decide) ⟨τ, e2X, ?_⟩ (fun σ1 hJ => ?_)
      · rw [e7, if_neg (show ¬ nI i = (-1 : Int32) from c), if_pos (pt (n_le_t (by omega) (by omega)))]
        exact g_eta _
      · obtain ⟨ρ, d1, d2, d3⟩ := e8 σ1 hJ.2.2.1
        refine ⟨ρ, d2.mono STm_X, ?_⟩
        rw [d3, if_neg (nf (n_lt_f (by omega) (by omega)))]
        rfl
