/-! ===== calls: which valleys ===== -/
theorem or0 {x : Int32} : x ||| nI 0 = x := Int32.or_zero
/-- the set of those below n with P, as bits -/
def msI (P : Nat → Bool) : Nat → Int32
  | 0 => nI 0
  | n + 1 => cond (P n) (msI P n ||| nI 1 <<< (nI n &&& 31)) (msI P n)
theorem DN_far {A : pu_L} {p w M far : Nat} {wo : Option Nat} {v u : Nat} : DN A p w M far wo v u ≤ far := Nat.le_trans (fwN_le 7 v u) (rwN_le 5 u)
theorem no_r : ∀ r, (none : Option Nat) = some r → r < 3 := by simp
section PWI
variable {A : pu_L} {σ : am_S} {p q n w : Nat} {D : Nat → Nat → Nat}
theorem m_far' (hk : pu_k A) (hm : pu_m A 5 σ) (hp : p < lne A) (hw : w < 4) : ∃ τ, fn_X8_findFar 5 (nI p) (nI w) mI σ = some τ ∧ fr S65 σ τ ∧ pu_m A 5 τ ∧ ∀ a b, a < 7 → b < 7 → τ.1 5 65 a b = nI (DN A p w 64 1000000 none a b) := by
  obtain ⟨τ, e1, e2, e3, e4⟩ := m_far hk hm hp (w := w) (by omega)
  exact ⟨τ, e1, e2, e3, fun a b ha hb => by rw [e4 a b ha hb, DN_eq hk hp no_r hw ha hb]⟩
theorem c_meas (hk : pu_k A) (hc : pu_c A 1 σ) (hp : p < lne A) (hw : w < 5) : ∃ τ, fn_X6_measure_8 1 1 p (nI w) mI σ = some τ ∧ fr S12 σ τ ∧ pu_c A 1 τ ∧ ∀ a b, a < 7 → b < 7 → τ.1 12 19 a b = nI (DN A p w 64 1000000 none a b) := by
  obtain ⟨τ, e1, e2, e3⟩ := c_measure (wo := none) hk hp hw no_r hc
  exact ⟨τ, e1, e2, e2.c (fun k i j q => by unfold S12 at q; omega) hc, fun a b ha hb => e3 a b ha hb⟩
theorem c_with (hk : pu_k A) (hc : pu_c A 1 σ) (hp : p < lne A) (hn : n < 2147483648) (hD : ∀ a b, D a b < 2147483648) (hT : ∀ a b, a < 7 → b < 7 → σ.1 12 19 a b = nI (D a b)) : ∀ (m k fuel : Nat), k + m = 7 → m < fuel → lp_X7_within_78 fuel (nI n) 1 p (msI (fun v => decide (D (lE A p 3) v ≤ n)) k) (nI k)  σ = some (msI (fun v => decide (D (lE A p 3) v ≤ n)) 7, σ) := by
  intro m
  induction m with
  | zero =>
    intro k fuel hs hf
    obtain ⟨f, rfl⟩ : ∃ f, fuel = f + 1 := ⟨fuel - 1, by omega⟩
    obtain rfl : k = 7 := by omega
    rw [lp_X7_within_78.eq_2]
    unfold lb_X7_within_78 jn_X7_within_111
    simp -implicitDefEqProofs (maxSteps := 2000000) (disch := omega) only [z0, z1, z2, z3, z4, z5, z6, z7, z8, z9, z10, z12, z15, z18, z20, z40, z64, z128, z250, z999, z1000, zn, if_true, if_false, n_eq_f, Nat.reduceAdd, n_le_t, n_le_f, n_lt_t, n_lt_f, n_in_t, n_cl, n_eq_t, nI_add, n_mul, n_sub, cond_true, cond_false, Option.bind_some, ]
  | succ m ih =>
    intro k fuel hs hf
    obtain ⟨f, rfl⟩ : ∃ f, fuel = f + 1 := ⟨fuel - 1, by omega⟩
    refine Eq.trans ?_ (ih (k + 1) f (by omega) (by omega))
    rw [lp_X7_within_78.eq_2]
    unfold lb_X7_within_78 jn_X7_within_111
    have hne := hk.2.1
    have hv := (hk.2.2.2.2.2 p hp).2.2.2.1
    have hk7 : k < 7 := by omega
    have e : msI (fun v => decide (D (lE A p 3) v ≤ n)) (k + 1) = cond (decide (D (lE A p 3) k ≤ n)) (msI (fun v => decide (D (lE A p 3) v ≤ n)) k ||| nI 1 <<< (nI k &&& 31)) (msI (fun v => decide (D (lE A p 3) v ≤ n)) k) := rfl
    have hd := hD (lE A p 3) k
    rw [e]
    simp -implicitDefEqProofs (maxSteps := 2000000) (disch := omega) only [z0, z1, z2, z3, z4, z5, z6, z7, z8, z9, z10, z12, z15, z18, z20, z40, z64, z128, z250, z999, z1000, zn, if_true, if_false, n_eq_f, Nat.reduceAdd, n_le_t, n_le_f, n_lt_t, n_lt_f, n_in_t, n_cl, n_eq_t, nI_add, n_mul, n_sub, cond_true, cond_false, Option.bind_some, hc.E, c_between hv hk7, hT _ _ hv hk7, n_lt_i]
    by_cases z : D (lE A p 3) k ≤ n
    · rw [if_neg (by omega), decide_eq_true z]; rfl
    · rw [if_pos (by omega), decide_eq_false z]; rfl
theorem m_with (hk : pu_k A) (hm : pu_m A 5 σ) (hp : p < lne A) (hn : n < 2147483648) (hD : ∀ a b, D a b < 2147483648) (hT : ∀ a b, a < 7 → b < 7 → σ.1 5 65 a b = nI (D a b)) : ∀ (m k fuel : Nat), k + m = 7 → m < fuel → lp_X8_within_58 fuel 5 (nI p) (nI n) (msI (fun v => decide (D (lE A p 3) v ≤ n)) k) (nI k)  σ = some (msI (fun v => decide (D (lE A p 3) v ≤ n)) 7, σ) := by
  intro m
  induction m with
  | zero =>
    intro k fuel hs hf
    obtain ⟨f, rfl⟩ : ∃ f, fuel = f + 1 := ⟨fuel - 1, by omega⟩
    obtain rfl : k = 7 := by omega
    rw [lp_X8_within_58.eq_2]
    unfold lb_X8_within_58 jn_X8_within_93
    simp -implicitDefEqProofs (maxSteps := 2000000) (disch := omega) only [z0, z1, z2, z3, z4, z5, z6, z7, z8, z9, z10, z12, z15, z18, z20, z40, z64, z128, z250, z999, z1000, zn, if_true, if_false, n_eq_f, Nat.reduceAdd, n_le_t, n_le_f, n_lt_t, n_lt_f, n_in_t, n_cl, n_eq_t, nI_add, n_mul, n_sub, cond_true, cond_false, Option.bind_some, ]
  | succ m ih =>
    intro k fuel hs hf
    obtain ⟨f, rfl⟩ : ∃ f, fuel = f + 1 := ⟨fuel - 1, by omega⟩
    refine Eq.trans ?_ (ih (k + 1) f (by omega) (by omega))
    rw [lp_X8_within_58.eq_2]
    unfold lb_X8_within_58 jn_X8_within_93
    have hne := hk.2.1
    have hv := (hk.2.2.2.2.2 p hp).2.2.2.1
    have hk7 : k < 7 := by omega
    have e : msI (fun v => decide (D (lE A p 3) v ≤ n)) (k + 1) = cond (decide (D (lE A p 3) k ≤ n)) (msI (fun v => decide (D (lE A p 3) v ≤ n)) k ||| nI 1 <<< (nI k &&& 31)) (msI (fun v => decide (D (lE A p 3) v ≤ n)) k) := rfl
    have hd := hD (lE A p 3) k
    rw [e]
    simp -implicitDefEqProofs (maxSteps := 2000000) (disch := omega) only [z0, z1, z2, z3, z4, z5, z6, z7, z8, z9, z10, z12, z15, z18, z20, z40, z64, z128, z250, z999, z1000, zn, if_true, if_false, n_eq_f, Nat.reduceAdd, n_le_t, n_le_f, n_lt_t, n_lt_f, n_in_t, n_cl, n_eq_t, nI_add, n_mul, n_sub, cond_true, cond_false, Option.bind_some, hm.E3, hT _ _ hv hk7, n_lt_i, or0]
    by_cases z : D (lE A p 3) k ≤ n
    · rw [if_neg (by omega), decide_eq_true z]; rfl
    · rw [if_pos (by omega), decide_eq_false z]; rfl
theorem c_alike (hk : pu_k A) (hp : p < lne A) (hq : q < lne A) : ∀ (m k fuel : Nat) (σ : am_S), pu_c A 1 σ → k + m = 7 → m < fuel → ∃ τ, lp_X7_alike_39 fuel (nI p) (nI q) (msI (fun v => decide (DN A p 0 64 1000000 none (lE A p 3) v = DN A q 0 64 1000000 none (lE A q 3) v)) k) (nI k) σ = some (msI (fun v => decide (DN A p 0 64 1000000 none (lE A p 3) v = DN A q 0 64 1000000 none (lE A q 3) v)) 7, τ) ∧ fr S12 σ τ := by
  intro m
  induction m with
  | zero =>
    intro k fuel σ hc hs hf
    obtain ⟨f, rfl⟩ : ∃ f, fuel = f + 1 := ⟨fuel - 1, by omega⟩
    obtain rfl : k = 7 := by omega
    refine ⟨σ, ?_, fr.rf⟩
    rw [lp_X7_alike_39.eq_2]
    unfold lb_X7_alike_39
    simp -implicitDefEqProofs (maxSteps := 2000000) (disch := omega) only [z0, z1, z2, z3, z4, z5, z6, z7, z8, z9, z10, z12, z15, z18, z20, z40, z64, z128, z250, z999, z1000, zn, if_true, if_false, n_eq_f, Nat.reduceAdd, n_le_t, n_le_f, n_lt_t, n_lt_f, n_in_t, n_cl, n_eq_t, nI_add, n_mul, n_sub, cond_true, cond_false, Option.bind_some, ]
  | succ m ih =>
    intro k fuel σ hc hs hf
    obtain ⟨f, rfl⟩ : ∃ f, fuel = f + 1 := ⟨fuel - 1, by omega⟩
    have hk7 : k < 7 := by omega
    obtain ⟨τ, e1, e2⟩ := c_leastWay hk hc hp (w := 0) (by decide) hk7
    have hc2 : pu_c A 1 τ := e2.c (fun k i j q => by unfold S12 at q; omega) hc
    obtain ⟨ρ, d1, d2⟩ := c_leastWay hk hc2 hq (w := 0) (by decide) hk7
    have hc3 : pu_c A 1 ρ := d2.c (fun k i j q => by unfold S12 at q; omega) hc2
    obtain ⟨θ, b1, b2⟩ := ih (k + 1) f ρ hc3 (by omega) (by omega)
    refine ⟨θ, ?_, e2.tr (d2.tr b2)⟩
    refine Eq.trans ?_ b1
    have e : msI (fun v => decide (DN A p 0 64 1000000 none (lE A p 3) v = DN A q 0 64 1000000 none (lE A q 3) v)) (k + 1) = cond (decide (DN A p 0 64 1000000 none (lE A p 3) k = DN A q 0 64 1000000 none (lE A q 3) k)) (msI (fun v => decide (DN A p 0 64 1000000 none (lE A p 3) v = DN A q 0 64 1000000 none (lE A q 3) v)) k ||| nI 1 <<< (nI k &&& 31)) (msI (fun v => decide (DN A p 0 64 1000000 none (lE A p 3) v = DN A q 0 64 1000000 none (lE A q 3) v)) k) := rfl
    have h1 : DN A p 0 64 1000000 none (lE A p 3) k ≤ 1000000 := DN_far
    have h2 : DN A q 0 64 1000000 none (lE A q 3) k ≤ 1000000 := DN_far
    rw [lp_X7_alike_39.eq_2, e]
    unfold lb_X7_alike_39 jn_X7_alike_72
    simp -implicitDefEqProofs (maxSteps := 2000000) (disch := omega) only [z0, z1, z2, z3, z4, z5, z6, z7, z8, z9, z10, z12, z15, z18, z20, z40, z64, z128, z250, z999, z1000, zn, if_true, if_false, n_eq_f, Nat.reduceAdd, n_le_t, n_le_f, n_lt_t, n_lt_f, n_in_t, n_cl, n_eq_t, nI_add, n_mul, n_sub, cond_true, cond_false, Option.bind_some, e1, d1, n_eq_i]
    by_cases z : DN A p 0 64 1000000 none (lE A p 3) k = DN A q 0 64 1000000 none (lE A q 3) k
    · rw [if_pos z, decide_eq_true z]; rfl
    · rw [if_neg z, decide_eq_false z]; rfl
theorem m_copied {a : Nat} (ha : a < 7) : ∀ (m k fuel : Nat) (σ : am_S), k + m = 7 → m < fuel → ∃ τ, lp_X8_copied_65_66_2 fuel 5 a 5 (nI k) σ = some τ ∧ fr (fun o k _ _ => o = 5 ∧ k = 66) σ τ ∧ ∀ j, k ≤ j → j < 7 → τ.1 5 66 0 j = σ.1 5 65 a j := by
  intro m
  induction m with
  | zero =>
    intro k fuel σ hs hf
    obtain ⟨f, rfl⟩ : ∃ f, fuel = f + 1 := ⟨fuel - 1, by omega⟩
    obtain rfl : k = 7 := by omega
    refine ⟨σ, ?_, fr.rf, fun j h1 h2 => by omega⟩
    rw [lp_X8_copied_65_66_2.eq_2]
    unfold lb_X8_copied_65_66_2
    simp -implicitDefEqProofs (maxSteps := 2000000) (disch := omega) only [z0, z1, z2, z3, z4, z5, z6, z7, z8, z9, z10, z12, z15, z18, z20, z40, z64, z128, z250, z999, z1000, zn, if_true, if_false, n_eq_f, Nat.reduceAdd, n_le_t, n_le_f, n_lt_t, n_lt_f, n_in_t, n_cl, n_eq_t, nI_add, n_mul, n_sub, cond_true, cond_false, Option.bind_some, ]
  | succ m ih =>
    intro k fuel σ hs hf
    obtain ⟨f, rfl⟩ : ∃ f, fuel = f + 1 := ⟨fuel - 1, by omega⟩
    obtain ⟨τ, e1, e2, e3⟩ := ih (k + 1) f (am_u σ 5 66 0 k (σ.1 5 65 a k)) (by omega) (by omega)
    refine ⟨τ, ?_, (fr.u ⟨rfl, rfl⟩).tr e2, fun j h1 h2 => ?_⟩
    · rw [lp_X8_copied_65_66_2.eq_2]
      unfold lb_X8_copied_65_66_2
      simp -implicitDefEqProofs (maxSteps := 2000000) (disch := omega) only [z0, z1, z2, z3, z4, z5, z6, z7, z8, z9, z10, z12, z15, z18, z20, z40, z64, z128, z250, z999, z1000, zn, if_true, if_false, n_eq_f, Nat.reduceAdd, n_le_t, n_le_f, n_lt_t, n_lt_f, n_in_t, n_cl, n_eq_t, nI_add, n_mul, n_sub, cond_true, cond_false, Option.bind_some, e1]
    · by_cases c : j = k
      · subst c
        have : ∀ (m k fuel : Nat) (σ τ : am_S), k + m = 7 → m < fuel → lp_X8_copied_65_66_2 fuel 5 a 5 (nI k) σ = some τ → ∀ j, j < k → τ.1 5 66 0 j = σ.1 5 66 0 j := by
          intro m
          induction m with
          | zero =>
            intro k fuel σ τ hs hf h j hj
            obtain ⟨f, rfl⟩ : ∃ f, fuel = f + 1 := ⟨fuel - 1, by omega⟩
            obtain rfl : k = 7 := by omega
            rw [lp_X8_copied_65_66_2.eq_2] at h
            unfold lb_X8_copied_65_66_2 at h
            simp -implicitDefEqProofs (disch := omega) only [z7, n_le_t, if_true, Option.some.injEq] at h
            rw [h]
          | succ m ih =>
            intro k fuel σ τ hs hf h j hj
            obtain ⟨f, rfl⟩ : ∃ f, fuel = f + 1 := ⟨fuel - 1, by omega⟩
            rw [lp_X8_copied_65_66_2.eq_2] at h
            unfold lb_X8_copied_65_66_2 at h
            simp -implicitDefEqProofs (disch := omega) only [z7, z1, n_le_f, if_false, n_in_t, n_cl, cond_true, nI_add] at h
            rw [ih (k + 1) f _ _ (by omega) (by omega) h j (by omega), u_ne (by omega)]
        rw [this m (j + 1) f _ τ (by omega) (by omega) e1 j (by omega), u_at]
      · rw [e3 j (by omega) h2, u_ne (by omega)]
theorem m_alike (hk : pu_k A) (hm : pu_m A 5 σ) (hq : q < lne A) {F G : Nat → Nat} (hF : ∀ v, F v < 2147483648) (hG : ∀ v, G v < 2147483648) (hT : ∀ b, b < 7 → σ.1 5 65 (lE A q 3) b = nI (G b)) (hU : ∀ b, b < 7 → σ.1 5 66 0 b = nI (F b)) : ∀ (m k fuel : Nat), k + m = 7 → m < fuel → lp_X8_alike_65 fuel 5 (nI q) (msI (fun v => decide (F v = G v)) k) (nI k)  σ = some (msI (fun v => decide (F v = G v)) 7, σ) := by
  intro m
  induction m with
  | zero =>
    intro k fuel hs hf
    obtain ⟨f, rfl⟩ : ∃ f, fuel = f + 1 := ⟨fuel - 1, by omega⟩
    obtain rfl : k = 7 := by omega
    rw [lp_X8_alike_65.eq_2]
    unfold lb_X8_alike_65 jn_X8_alike_105
    simp -implicitDefEqProofs (maxSteps := 2000000) (disch := omega) only [z0, z1, z2, z3, z4, z5, z6, z7, z8, z9, z10, z12, z15, z18, z20, z40, z64, z128, z250, z999, z1000, zn, if_true, if_false, n_eq_f, Nat.reduceAdd, n_le_t, n_le_f, n_lt_t, n_lt_f, n_in_t, n_cl, n_eq_t, nI_add, n_mul, n_sub, cond_true, cond_false, Option.bind_some, ]
  | succ m ih =>
    intro k fuel hs hf
    obtain ⟨f, rfl⟩ : ∃ f, fuel = f + 1 := ⟨fuel - 1, by omega⟩
    refine Eq.trans ?_ (ih (k + 1) f (by omega) (by omega))
    rw [lp_X8_alike_65.eq_2]
    unfold lb_X8_alike_65 jn_X8_alike_105
    have hne := hk.2.1
    have hv := (hk.2.2.2.2.2 q hq).2.2.2.1
    have hk7 : k < 7 := by omega
    have e : msI (fun v => decide (F v = G v)) (k + 1) = cond (decide (F k = G k)) (msI (fun v => decide (F v = G v)) k ||| nI 1 <<< (nI k &&& 31)) (msI (fun v => decide (F v = G v)) k) := rfl
    have h1 := hF k
    have h2 := hG k
    rw [e]
    simp -implicitDefEqProofs (maxSteps := 2000000) (disch := omega) only [z0, z1, z2, z3, z4, z5, z6, z7, z8, z9, z10, z12, z15, z18, z20, z40, z64, z128, z250, z999, z1000, zn, if_true, if_false, n_eq_f, Nat.reduceAdd, n_le_t, n_le_f, n_lt_t, n_lt_f, n_in_t, n_cl, n_eq_t, nI_add, n_mul, n_sub, cond_true, cond_false, Option.bind_some, hm.E3, hT k hk7, hU k hk7, n_eq_i, or0]
    by_cases z : F k = G k
    · rw [if_pos z.symm, decide_eq_true z]; rfl
    · rw [if_neg (fun q => z q.symm), decide_eq_false z]; rfl
end PWI
theorem pv_within (a1 : Int32) (a2 : Int32) (a3 : Int32) (σ : am_S) (hI : pu_Inv σ) : ∃ (r : Int32) (σ1 σ2 : am_S), fn_X7_within a1 a2 a3 σ = some (r, σ1) ∧ fn_X8_within 5 a1 a2 a3 σ1 = some (r, σ2) ∧ pu_Inv σ2 := by
  obtain ⟨A, hI⟩ := hI
  have hk := hI.1.1
  have hc := hI.1.2.1
  cases h1 : gL (lne A) a1
  · refine pv_r hI 0 (by decide) ⟨σ, fr.rf, ?_⟩ (fun σ1 hJ => ⟨σ1, fr.rf, ?_⟩)
    · unfold fn_X7_within jn_X7_within_31
      simp -implicitDefEqProofs (maxSteps := 2000000) (disch := omega) only [z0, z1, z2, z3, z4, z5, z6, z7, z8, z9, z10, z12, z15, z18, z20, z40, z64, z128, z250, z999, z1000, zn, if_true, if_false, n_eq_f, Nat.reduceAdd, c_gperson hc hk, c_gvalley, c_gshelf, c_gpass hc hk, c_within, Option.bind_some, g_if, g_eta, cond_true, cond_false, h1]
    · have hm := hJ.2.2.1
      have hne := hk.2.1
      have hnp := hk.1
      unfold fn_X8_within jn_X8_within_30
      simp -implicitDefEqProofs (maxSteps := 2000000) (disch := omega) only [z0, z1, z2, z3, z4, z5, z6, z7, z8, z9, z10, z12, z15, z18, z20, z40, z64, z128, z250, z999, z1000, zn, if_true, if_false, n_eq_f, Nat.reduceAdd, m_gone hm hk, m_gvalley, m_in_0_1, m_in_0_2, m_in_0_20, m_in_0_255, m_in_0_3, m_in_0_4, m_in_0_40, m_in_0_5, m_in_0_6, m_in_0_7, m_in_0_9, m_in_0_999, m_in_1_12, m_in_1_60, m_in_12_16, m_inl, hm.np, hm.ne, Option.bind_some, g_if, g_eta, cond_true, cond_false, h1]
  obtain ⟨p, rfl, lp⟩ := gL_n h1
  cases h2 : gN 0 999 a2
  · refine pv_r hI 0 (by decide) ⟨σ, fr.rf, ?_⟩ (fun σ1 hJ => ⟨σ1, fr.rf, ?_⟩)
    · unfold fn_X7_within jn_X7_within_31
      simp -implicitDefEqProofs (maxSteps := 2000000) (disch := omega) only [z0, z1, z2, z3, z4, z5, z6, z7, z8, z9, z10, z12, z15, z18, z20, z40, z64, z128, z250, z999, z1000, zn, if_true, if_false, n_eq_f, Nat.reduceAdd, c_gperson hc hk, c_gvalley, c_gshelf, c_gpass hc hk, c_within, Option.bind_some, g_if, g_eta, cond_true, cond_false, h1, h2]
    · have hm := hJ.2.2.1
      have hne := hk.2.1
      have hnp := hk.1
      unfold fn_X8_within jn_X8_within_30
      simp -implicitDefEqProofs (maxSteps := 2000000) (disch := omega) only [z0, z1, z2, z3, z4, z5, z6, z7, z8, z9, z10, z12, z15, z18, z20, z40, z64, z128, z250, z999, z1000, zn, if_true, if_false, n_eq_f, Nat.reduceAdd, m_gone hm hk, m_gvalley, m_in_0_1, m_in_0_2, m_in_0_20, m_in_0_255, m_in_0_3, m_in_0_4, m_in_0_40, m_in_0_5, m_in_0_6, m_in_0_7, m_in_0_9, m_in_0_999, m_in_1_12, m_in_1_60, m_in_12_16, m_inl, hm.np, hm.ne, Option.bind_some, g_if, g_eta, cond_true, cond_false, h1, h2]
  obtain ⟨n, rfl, ln, un⟩ := gN_n h2
  cases h3 : gN 0 1 a3
  · refine pv_r hI 0 (by decide) ⟨σ, fr.rf, ?_⟩ (fun σ1 hJ => ⟨σ1, fr.rf, ?_⟩)
    · unfold fn_X7_within jn_X7_within_31
      simp -implicitDefEqProofs (maxSteps := 2000000) (disch := omega) only [z0, z1, z2, z3, z4, z5, z6, z7, z8, z9, z10, z12, z15, z18, z20, z40, z64, z128, z250, z999, z1000, zn, if_true, if_false, n_eq_f, Nat.reduceAdd, c_gperson hc hk, c_gvalley, c_gshelf, c_gpass hc hk, c_within, Option.bind_some, g_if, g_eta, cond_true, cond_false, h1, h2, h3]
    · have hm := hJ.2.2.1
      have hne := hk.2.1
      have hnp := hk.1
      unfold fn_X8_within jn_X8_within_30
      simp -implicitDefEqProofs (maxSteps := 2000000) (disch := omega) only [z0, z1, z2, z3, z4, z5, z6, z7, z8, z9, z10, z12, z15, z18, z20, z40, z64, z128, z250, z999, z1000, zn, if_true, if_false, n_eq_f, Nat.reduceAdd, m_gone hm hk, m_gvalley, m_in_0_1, m_in_0_2, m_in_0_20, m_in_0_255, m_in_0_3, m_in_0_4, m_in_0_40, m_in_0_5, m_in_0_6, m_in_0_7, m_in_0_9, m_in_0_999, m_in_1_12, m_in_1_60, m_in_12_16, m_inl, hm.np, hm.ne, Option.bind_some, g_if, g_eta, cond_true, cond_false, h1, h2, h3]
  obtain ⟨i, rfl, li, ui⟩ := gN_n h3
  have hne := hk.2.1
  have hw : (if i = 0 then 1 else 0) < 4 := by split <;> omega
  have hD : ∀ a b, DN A p (if i = 0 then 1 else 0) 64 1000000 none a b < 2147483648 := fun a b => Nat.lt_of_le_of_lt DN_far (by decide)
  refine pv_q hI (r := msI (fun v => decide (DN A p (if i = 0 then 1 else 0) 64 1000000 none (lE A p 3) v ≤ n)) 7) ?_ (fun σ1 hI1 => ?_)
  · obtain ⟨τ, e1, e2, e3, e4⟩ := c_meas hk hc lp (w := if i = 0 then 1 else 0) (by omega)
    refine ⟨τ, ?_, e2.mono S12_X⟩
    have h := c_with hk e3 lp (by omega : n < 2147483648) hD e4 7 0 1000 rfl (by decide)
    rw [show msI (fun v => decide (DN A p (if i = 0 then 1 else 0) 64 1000000 none (lE A p 3) v ≤ n)) 0 = nI 0 from rfl] at h
    unfold fn_X7_within jn_X7_within_68
    by_cases c : i = 0
    · subst c
      rw [if_pos rfl] at e1 h ⊢
      simp -implicitDefEqProofs (maxSteps := 2000000) (disch := omega) only [z0, z1, z2, z3, z4, z5, z6, z7, z8, z9, z10, z12, z15, z18, z20, z40, z64, z128, z250, z999, z1000, zn, if_true, if_false, n_eq_f, Nat.reduceAdd, c_gperson hc hk, c_gvalley, c_gshelf, c_gpass hc hk, c_within, Option.bind_some, g_if, g_eta, cond_true, cond_false, n_in_t, n_cl, true_or, or_true, z255, z16, n_neg1, n_eq_t, n_eq_f, Nat.reduceEqDiff, g_or, h1, h2, h3, e1, h]
    · rw [if_neg c] at e1 h ⊢
      simp -implicitDefEqProofs (maxSteps := 2000000) (disch := omega) only [z0, z1, z2, z3, z4, z5, z6, z7, z8, z9, z10, z12, z15, z18, z20, z40, z64, z128, z250, z999, z1000, zn, if_true, if_false, n_eq_f, Nat.reduceAdd, c_gperson hc hk, c_gvalley, c_gshelf, c_gpass hc hk, c_within, Option.bind_some, g_if, g_eta, cond_true, cond_false, n_in_t, n_cl, true_or, or_true, z255, z16, n_neg1, n_eq_t, n_eq_f, Nat.reduceEqDiff, g_or, h1, h2, h3, n_eq_i, c, e1, h]
  · have hm := hI1.1.2.2.1
    obtain ⟨τ, e1, e2, e3, e4⟩ := m_far' hk hm lp hw
    refine ⟨τ, ?_, e2.mono S65_X⟩
    have h := m_with hk e3 lp (by omega : n < 2147483648) hD e4 7 0 1000 rfl (by decide)
    rw [show msI (fun v => decide (DN A p (if i = 0 then 1 else 0) 64 1000000 none (lE A p 3) v ≤ n)) 0 = nI 0 from rfl] at h
    unfold fn_X8_within jn_X8_within_48
    by_cases c : i = 0
    · subst c
      rw [if_pos rfl] at e1 h ⊢
      simp -implicitDefEqProofs (maxSteps := 2000000) (disch := omega) only [z0, z1, z2, z3, z4, z5, z6, z7, z8, z9, z10, z12, z15, z18, z20, z40, z64, z128, z250, z999, z1000, zn, if_true, if_false, n_eq_f, Nat.reduceAdd, m_gone hm hk, m_gvalley, m_in_0_1, m_in_0_2, m_in_0_20, m_in_0_255, m_in_0_3, m_in_0_4, m_in_0_40, m_in_0_5, m_in_0_6, m_in_0_7, m_in_0_9, m_in_0_999, m_in_1_12, m_in_1_60, m_in_12_16, m_inl, hm.np, hm.ne, Option.bind_some, g_if, g_eta, cond_true, cond_false, n_in_t, n_cl, true_or, or_true, z255, z16, n_neg1, n_eq_t, n_eq_f, Nat.reduceEqDiff, g_or, h1, h2, h3, e1, h]
    · rw [if_neg c] at e1 h ⊢
      simp -implicitDefEqProofs (maxSteps := 2000000) (disch := omega) only [z0, z1, z2, z3, z4, z5, z6, z7, z8, z9, z10, z12, z15, z18, z20, z40, z64, z128, z250, z999, z1000, zn, if_true, if_false, n_eq_f, Nat.reduceAdd, m_gone hm hk, m_gvalley, m_in_0_1, m_in_0_2, m_in_0_20, m_in_0_255, m_in_0_3, m_in_0_4, m_in_0_40, m_in_0_5, m_in_0_6, m_in_0_7, m_in_0_9, m_in_0_999, m_in_1_12, m_in_1_60, m_in_12_16, m_inl, hm.np, hm.ne, Option.bind_some, g_if, g_eta, cond_true, cond_false, n_in_t, n_cl, true_or, or_true, z255, z16, n_neg1, n_eq_t, n_eq_f, Nat.reduceEqDiff, g_or, h1, h2, h3, n_eq_i, c, e1, h]
theorem pv_alike (a1 : Int32) (a2 : Int32) (σ : am_S) (hI : pu_Inv σ) : ∃ (r : Int32) (σ1 σ2 : am_S), fn_X7_alike a1 a2 σ = some (r, σ1) ∧ fn_X8_alike 5 a1 a2 σ1 = some (r, σ2) ∧ pu_Inv σ2 := by
  obtain ⟨A, hI⟩ := hI
  have hk := hI.1.1
  have hc := hI.1.2.1
  cases h1 : gL (lne A) a1
  · refine pv_r hI 0 (by decide) ⟨σ, fr.rf, ?_⟩ (fun σ1 hJ => ⟨σ1, fr.rf, ?_⟩)
    · unfold fn_X7_alike jn_X7_alike_27
      simp -implicitDefEqProofs (maxSteps := 2000000) (disch := omega) only [z0, z1, z2, z3, z4, z5, z6, z7, z8, z9, z10, z12, z15, z18, z20, z40, z64, z128, z250, z999, z1000, zn, if_true, if_false, n_eq_f, Nat.reduceAdd, c_gperson hc hk, c_gvalley, c_gshelf, c_gpass hc hk, c_within, Option.bind_some, g_if, g_eta, cond_true, cond_false, h1]
    · have hm := hJ.2.2.1
      have hne := hk.2.1
      have hnp := hk.1
      unfold fn_X8_alike jn_X8_alike_21
      simp -implicitDefEqProofs (maxSteps := 2000000) (disch := omega) only [z0, z1, z2, z3, z4, z5, z6, z7, z8, z9, z10, z12, z15, z18, z20, z40, z64, z128, z250, z999, z1000, zn, if_true, if_false, n_eq_f, Nat.reduceAdd, m_gone hm hk, m_gvalley, m_in_0_1, m_in_0_2, m_in_0_20, m_in_0_255, m_in_0_3, m_in_0_4, m_in_0_40, m_in_0_5, m_in_0_6, m_in_0_7, m_in_0_9, m_in_0_999, m_in_1_12, m_in_1_60, m_in_12_16, m_inl, hm.np, hm.ne, Option.bind_some, g_if, g_eta, cond_true, cond_false, h1]
  obtain ⟨p, rfl, lp⟩ := gL_n h1
  cases h2 : gL (lne A) a2
  · refine pv_r hI 0 (by decide) ⟨σ, fr.rf, ?_⟩ (fun σ1 hJ => ⟨σ1, fr.rf, ?_⟩)
    · unfold fn_X7_alike jn_X7_alike_27
      simp -implicitDefEqProofs (maxSteps := 2000000) (disch := omega) only [z0, z1, z2, z3, z4, z5, z6, z7, z8, z9, z10, z12, z15, z18, z20, z40, z64, z128, z250, z999, z1000, zn, if_true, if_false, n_eq_f, Nat.reduceAdd, c_gperson hc hk, c_gvalley, c_gshelf, c_gpass hc hk, c_within, Option.bind_some, g_if, g_eta, cond_true, cond_false, h1, h2]
    · have hm := hJ.2.2.1
      have hne := hk.2.1
      have hnp := hk.1
      unfold fn_X8_alike jn_X8_alike_21
      simp -implicitDefEqProofs (maxSteps := 2000000) (disch := omega) only [z0, z1, z2, z3, z4, z5, z6, z7, z8, z9, z10, z12, z15, z18, z20, z40, z64, z128, z250, z999, z1000, zn, if_true, if_false, n_eq_f, Nat.reduceAdd, m_gone hm hk, m_gvalley, m_in_0_1, m_in_0_2, m_in_0_20, m_in_0_255, m_in_0_3, m_in_0_4, m_in_0_40, m_in_0_5, m_in_0_6, m_in_0_7, m_in_0_9, m_in_0_999, m_in_1_12, m_in_1_60, m_in_12_16, m_inl, hm.np, hm.ne, Option.bind_some, g_if, g_eta, cond_true, cond_false, h1, h2]
  obtain ⟨q, rfl, lq⟩ := gL_n h2
  have hne := hk.2.1
  have hm := hI.1.2.2.1
  by_cases c : p = q
  · subst c
    · refine pv_t hI 0 (by decide) ?_ (fun σ1 hJ hF => ?_)
      · unfold fn_X7_alike jn_X7_alike_27
        simp -implicitDefEqProofs (maxSteps := 2000000) (disch := omega) only [z0, z1, z2, z3, z4, z5, z6, z7, z8, z9, z10, z12, z15, z18, z20, z40, z64, z128, z250, z999, z1000, zn, if_true, if_false, n_eq_f, Nat.reduceAdd, c_gperson hc hk, c_gvalley, c_gshelf, c_gpass hc hk, c_within, Option.bind_some, g_if, g_eta, cond_true, cond_false, n_in_t, n_cl, true_or, or_true, z255, z16, n_neg1, n_eq_t, n_eq_f, Nat.reduceEqDiff, g_or, h1, h2]
      · have hm := hJ.2.2.1
        unfold fn_X8_alike jn_X8_alike_21
        simp -implicitDefEqProofs (maxSteps := 2000000) (disch := omega) only [z0, z1, z2, z3, z4, z5, z6, z7, z8, z9, z10, z12, z15, z18, z20, z40, z64, z128, z250, z999, z1000, zn, if_true, if_false, n_eq_f, Nat.reduceAdd, m_gone hm hk, m_gvalley, m_in_0_1, m_in_0_2, m_in_0_20, m_in_0_255, m_in_0_3, m_in_0_4, m_in_0_40, m_in_0_5, m_in_0_6, m_in_0_7, m_in_0_9, m_in_0_999, m_in_1_12, m_in_1_60, m_in_12_16, m_inl, hm.np, hm.ne, Option.bind_some, g_if, g_eta, cond_true, cond_false, n_in_t, n_cl, true_or, or_true, z255, z16, n_neg1, n_eq_t, n_eq_f, Nat.reduceEqDiff, g_or, h1, h2]
  have hpq : (nI p = nI q) = False := n_eq_f c (by omega) (by omega)
  refine pv_q hI (r := msI (fun v => decide (DN A p 0 64 1000000 none (lE A p 3) v = DN A q 0 64 1000000 none (lE A q 3) v)) 7) ?_ (fun σ1 hI1 => ?_)
  · obtain ⟨τ, e1, e2⟩ := c_alike hk lp lq 7 0 1000 σ hc rfl (by decide)
    rw [show msI (fun v => decide (DN A p 0 64 1000000 none (lE A p 3) v = DN A q 0 64 1000000 none (lE A q 3) v)) 0 = nI 0 from rfl] at e1
    refine ⟨τ, ?_, e2.mono S12_X⟩
    unfold fn_X7_alike jn_X7_alike_27
    simp -implicitDefEqProofs (maxSteps := 2000000) (disch := omega) only [z0, z1, z2, z3, z4, z5, z6, z7, z8, z9, z10, z12, z15, z18, z20, z40, z64, z128, z250, z999, z1000, zn, if_true, if_false, n_eq_f, Nat.reduceAdd, c_gperson hc hk, c_gvalley, c_gshelf, c_gpass hc hk, c_within, Option.bind_some, g_if, g_eta, cond_true, cond_false, n_in_t, n_cl, true_or, or_true, z255, z16, n_neg1, n_eq_t, n_eq_f, Nat.reduceEqDiff, g_or, h1, h2, hpq, e1]
  · have hm := hI1.1.2.2.1
    have hv := (hk.2.2.2.2.2 p lp).2.2.2.1
    have hv2 := (hk.2.2.2.2.2 q lq).2.2.2.1
    obtain ⟨τ, e1, e2, e3, e4⟩ := m_far' hk hm lp (w := 0) (by decide)
    obtain ⟨ρ, d1, d2, d3⟩ := m_copied hv 7 0 1000 τ rfl (by decide)
    have hmr : pu_m A 5 ρ := d2.m1 (fun _ _ _ _ => by omega) e3
    obtain ⟨θ, b1, b2, b3, b4⟩ := m_far' hk hmr lq (w := 0) (by decide)
    refine ⟨θ, ?_, (e2.mono S65_X).tr ((d2.mono fun o k i j q => by unfold SX; omega).tr (b2.mono S65_X))⟩
    have h := m_alike hk b3 lq (F := fun v => DN A p 0 64 1000000 none (lE A p 3) v) (G := fun v => DN A q 0 64 1000000 none (lE A q 3) v) (fun v => Nat.lt_of_le_of_lt DN_far (by decide)) (fun v => Nat.lt_of_le_of_lt DN_far (by decide)) (fun b hb => b4 _ _ hv2 hb) (fun b hb => by rw [(b2 5 66 0 b (by unfold S65; omega)).1, d3 b (Nat.zero_le _) hb, e4 _ _ hv hb]) 7 0 1000 rfl (by decide)
    rw [show msI (fun v => decide (DN A p 0 64 1000000 none (lE A p 3) v = DN A q 0 64 1000000 none (lE A q 3) v)) 0 = nI 0 from rfl] at h
    unfold fn_X8_alike fn_X8_copied_65_66
    simp -implicitDefEqProofs (maxSteps := 2000000) (disch := omega) only [z0, z1, z2, z3, z4, z5, z6, z7, z8, z9, z10, z12, z15, z18, z20, z40, z64, z128, z250, z999, z1000, zn, if_true, if_false, n_eq_f, Nat.reduceAdd, m_gone hm hk, m_gvalley, m_in_0_1, m_in_0_2, m_in_0_20, m_in_0_255, m_in_0_3, m_in_0_4, m_in_0_40, m_in_0_5, m_in_0_6, m_in_0_7, m_in_0_9, m_in_0_999, m_in_1_12, m_in_1_60, m_in_12_16, m_inl, hm.np, hm.ne, Option.bind_some, g_if, g_eta, cond_true, cond_false, n_in_t, n_cl, true_or, or_true, z255, z16, n_neg1, n_eq_t, n_eq_f, Nat.reduceEqDiff, g_or, h1, h2, hpq, e1, e3.E3, d1, b1, h]
