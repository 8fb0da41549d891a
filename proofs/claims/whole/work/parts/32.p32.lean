/-! ===== prices, hours, weights ===== -/
theorem fa_le {A : pu_L} (hk : pu_k A) {v s : Nat} (hv : v < 7) (h : eoN A v s ≠ none) : faN A v s ≤ 18 := by
  obtain ⟨h1, h2, h3, h4, h5, h6⟩ := hk
  unfold eoN at h
  unfold faN
  by_cases e0 : s = 0
  · rw [if_pos e0]
    have := (h4 v hv).1
    omega
  · rw [if_neg e0] at h ⊢
    by_cases e1 : s = 1
    · rw [if_pos e1]
      have := (h4 ((v + 6) % 7) (Nat.mod_lt _ (by decide))).1
      omega
    · rw [if_neg e1] at h ⊢
      by_cases c : s - 2 < lnp A ∧ lP A (s - 2) 0 = v
      · have := (h5 (s - 2) c.1).2.2.1
        omega
      · rw [if_neg c] at h
        exact absurd rfl h
theorem ho_le {A : pu_L} (hk : pu_k A) {v s : Nat} (hv : v < 7) (h : eoN A v s ≠ none) : 1 ≤ hoN A v s ∧ hoN A v s ≤ 12 := by
  obtain ⟨h1, h2, h3, h4, h5, h6⟩ := hk
  unfold eoN at h
  unfold hoN
  by_cases e0 : s = 0
  · rw [if_pos e0]
    have := h4 v hv
    omega
  · rw [if_neg e0] at h ⊢
    by_cases e1 : s = 1
    · rw [if_pos e1]
      have := h4 ((v + 6) % 7) (Nat.mod_lt _ (by decide))
      omega
    · rw [if_neg e1] at h ⊢
      by_cases c : s - 2 < lnp A ∧ lP A (s - 2) 0 = v
      · have := h5 (s - 2) c.1
        omega
      · rw [if_neg c] at h
        exact absurd rfl h
theorem pr_le {k a s f : Nat} (ha : a ≤ 9) (hf : f ≤ 18) : prK k a s f ≤ 36 := by
  unfold prK
  split
  · omega
  · split
    · omega
    · split
      · omega
      · split
        · split <;> omega
        · split <;> omega
theorem eo_lt {A : pu_L} (hk : pu_k A) {v s u : Nat} (h : eoN A v s = some u) : u < 7 := by
  unfold eoN at h
  split at h
  · cases h
    exact Nat.mod_lt _ (by decide)
  · split at h
    · cases h
      exact Nat.mod_lt _ (by decide)
    · split at h
      · rename_i c
        cases h
        exact (hk.2.2.2.2.1 _ c.1).2.1
      · cases h
/-- what a step counts: prices, hours, age, and each as one, M times the price and 1 -/
def wtN (A : pu_L) (p what M v s : Nat) : Nat := if what = 0 then prN A p v s else if what = 1 then hoN A v s else if what = 2 then (if s = 0 then 1 else 0) else if what = 3 then 1 else M * prN A p v s + 1
section PPR
variable {A : pu_L} {o : Nat} {σ : am_S}
theorem c_fareOf (h : pu_c A o σ) (hk : pu_k A) {v s : Nat} (hv : v < 7) (hs : s < 5) : ∃ f, f ≤ 18 ∧ fn_X0_fareOf o (nI v) (nI s) σ = some (nI f, σ) ∧ (eoN A v s ≠ none → f = faN A v s) := by
  unfold fn_X0_fareOf fn_X0_valleyAhead
  rw [c_valley hv]
  simp -implicitDefEqProofs only [Option.bind_some]
  rcases (show s = 0 ∨ s = 1 ∨ 2 ≤ s by omega) with rfl | rfl | h2
  · refine ⟨lV A 0 v, by have := (hk.2.2.2.1 v hv).1; omega, ?_, fun _ => rfl⟩
    simp -implicitDefEqProofs (disch := omega) only [z0, z1, n_eq_f, if_false, if_true, n_in_t, cond_true, n_cl, h.V]
  · have hv6 : (v + 6) % 7 < 7 := Nat.mod_lt _ (by decide)
    refine ⟨lV A 0 ((v + 6) % 7) + lbk A, by have := (hk.2.2.2.1 _ hv6).1; have := hk.2.2.1; omega, ?_, fun _ => rfl⟩
    simp -implicitDefEqProofs (disch := omega) only [z0, z1, z7, n_eq_f, if_false, if_true, nI_add, n_sub, n_mod7, show v + 7 - 1 = v + 6 from rfl, n_in_t, cond_true, n_cl, h.V, h.bk]
  · rw [c_passFrom h hk hv ⟨h2, hs⟩]
    have e0 : ¬ s = 0 := by omega
    have e1 : ¬ s = 1 := by omega
    have hnp := hk.1
    simp -implicitDefEqProofs (disch := omega) only [z0, z1, zn, n_eq_f, if_false, e0, e1, Option.bind_some]
    by_cases c : s - 2 < lnp A ∧ lP A (s - 2) 0 = v
    · refine ⟨lP A (s - 2) 2, by have := hk.2.2.2.2.1 _ c.1; omega, ?_, fun _ => ?_⟩
      · simp -implicitDefEqProofs (disch := omega) only [c, and_self, if_true, n_neg1, if_false, n_in_t, cond_true, n_cl, h.P]
      · unfold faN
        rw [if_neg e0, if_neg e1]
    · refine ⟨0, by omega, ?_, fun q => absurd ?_ q⟩
      · simp only [c, if_false, if_true]
      · unfold eoN
        rw [if_neg e0, if_neg e1, if_neg c]
theorem c_priceFor (h : pu_c A o σ) (hk : pu_k A) {p v s : Nat} (hp : p < lne A) (hv : v < 7) (hs : s < 5) : ∃ f, f ≤ 36 ∧ fn_X0_priceFor_8 o o p (nI v) (nI s) σ = some (nI f, σ) ∧ (eoN A v s ≠ none → f = prN A p v s) := by
  obtain ⟨f, f1, f2, f3⟩ := c_fareOf h hk hv hs
  have hE := hk.2.2.2.2.2 p hp
  have hp6 : p < 6 := by have := hk.2.1; omega
  refine ⟨prK (lE A p 0) (lE A p 1) s f, pr_le hE.2.1 f1, ?_, fun q => by rw [f3 q]; rfl⟩
  unfold fn_X0_priceFor_8
  rw [f2]
  simp -implicitDefEqProofs only [Option.bind_some]
  have h5 := hE.1
  have h9 := hE.2.1
  simp -implicitDefEqProofs (disch := omega) only [h.E, z0, z1, z2, z3, z4, z5, n_eq_i, n_div, nI_add, n_mul]
  unfold prK
  split
  · rfl
  · split
    · rfl
    · split
      · rename_i e
        rcases Nat.lt_or_ge (lE A p 1) (f / 2) with q | q
        · simp -implicitDefEqProofs (disch := omega) only [n_sub, n_lt_t, if_true]
        · have : ¬ (nI 0 < nI (f / 2) - nI (lE A p 1)) := by
            rw [Int32.lt_iff_toInt_lt, Int32.toInt_sub, n_ti (by omega), n_ti (by omega), n_ti (by omega)]
            show ¬ ((0 : Int) < (((f / 2 : Nat) : Int) - (lE A p 1 : Int)).bmod 4294967296)
            rw [Int.bmod_eq_of_le (by omega) (by omega)]
            omega
          rw [if_neg this, Nat.sub_eq_zero_of_le q]
      · split
        · rcases Nat.lt_or_ge s 2 with q | q
          · simp -implicitDefEqProofs (disch := omega) only [n_lt_t, if_true, q]
          · have q2 : ¬ s < 2 := by omega
            simp -implicitDefEqProofs (disch := omega) only [n_lt_f, if_false, q2]
        · split <;> rfl
theorem c_hoursOf (h : pu_c A o σ) (hk : pu_k A) {v s : Nat} (hv : v < 7) (hs : s < 5) : ∃ f, f ≤ 12 ∧ fn_X0_hoursOf o (nI v) (nI s) σ = some (nI f, σ) ∧ (eoN A v s ≠ none → f = hoN A v s) := by
  unfold fn_X0_hoursOf fn_X0_valleyAhead
  rw [c_valley hv]
  simp -implicitDefEqProofs only [Option.bind_some]
  rcases (show s = 0 ∨ s = 1 ∨ 2 ≤ s by omega) with rfl | rfl | h2
  · refine ⟨lV A 1 v, by have := (hk.2.2.2.1 v hv); omega, ?_, fun _ => rfl⟩
    simp -implicitDefEqProofs (disch := omega) only [z0, z1, n_eq_f, if_false, if_true, n_in_t, cond_true, n_cl, h.V]
  · have hv6 : (v + 6) % 7 < 7 := Nat.mod_lt _ (by decide)
    refine ⟨lV A 1 ((v + 6) % 7), by have := (hk.2.2.2.1 _ hv6); omega, ?_, fun _ => rfl⟩
    simp -implicitDefEqProofs (disch := omega) only [z0, z1, z7, n_eq_f, if_false, if_true, nI_add, n_sub, n_mod7, show v + 7 - 1 = v + 6 from rfl, n_in_t, cond_true, n_cl, h.V]
  · rw [c_passFrom h hk hv ⟨h2, hs⟩]
    have e0 : ¬ s = 0 := by omega
    have e1 : ¬ s = 1 := by omega
    have hnp := hk.1
    simp -implicitDefEqProofs (disch := omega) only [z0, z1, zn, n_eq_f, if_false, e0, e1, Option.bind_some]
    by_cases c : s - 2 < lnp A ∧ lP A (s - 2) 0 = v
    · refine ⟨lP A (s - 2) 3, by have := hk.2.2.2.2.1 _ c.1; omega, ?_, fun _ => ?_⟩
      · simp -implicitDefEqProofs (disch := omega) only [c, and_self, if_true, n_neg1, if_false, n_in_t, cond_true, n_cl, h.P]
      · unfold hoN
        rw [if_neg e0, if_neg e1]
    · refine ⟨0, by omega, ?_, fun q => absurd ?_ q⟩
      · simp only [c, if_false, if_true]
      · unfold eoN
        rw [if_neg e0, if_neg e1, if_neg c]
theorem c_weight (h : pu_c A o σ) (hk : pu_k A) {p w v s : Nat} (hp : p < lne A) (hw : w < 5) (hv : v < 7) (hs : s < 5) : ∃ f, f ≤ 3000 ∧ fn_X6_weight_8 o o p (nI v) (nI s) (nI w) σ = some (nI f, σ) ∧ (eoN A v s ≠ none → f = wtN A p w 64 v s) := by
  obtain ⟨f, f1, f2, f3⟩ := c_priceFor h hk hp hv hs
  obtain ⟨g, g1, g2, g3⟩ := c_hoursOf h hk hv hs
  unfold fn_X6_weight_8 wtN
  rcases (show w = 0 ∨ w = 1 ∨ w = 2 ∨ w = 3 ∨ w = 4 by omega) with rfl | rfl | rfl | rfl | rfl
  · refine ⟨f, by omega, ?_, fun q => by simpa using f3 q⟩
    rw [f2]
    simp only [z0, if_true, Option.bind_some]
  · refine ⟨g, by omega, ?_, fun q => by simpa using g3 q⟩
    rw [g2]
    simp -implicitDefEqProofs (disch := omega) only [z0, z1, if_true, n_eq_f, if_false, Option.bind_some]
  · refine ⟨if s = 0 then 1 else 0, by split <;> omega, ?_, fun q => by simp⟩
    simp -implicitDefEqProofs (disch := omega) only [z0, z1, z2, if_true, n_eq_f, if_false, n_eq_i]
    split <;> rfl
  · refine ⟨1, by omega, ?_, fun q => by simp⟩
    simp -implicitDefEqProofs (disch := omega) only [z0, z1, z2, z3, if_true, n_eq_f, if_false]
  · refine ⟨64 * f + 1, by omega, ?_, fun q => by rw [f3 q]; simp⟩
    rw [f2]
    simp -implicitDefEqProofs (disch := omega) only [z0, z1, z2, z3, z4, z64, if_true, n_eq_f, if_false, Option.bind_some, n_mul, nI_add, Nat.mul_comm f 64]
theorem m_fareOf (h : pu_m A o σ) (hk : pu_k A) {v s : Nat} (hv : v < 7) (hs : s < 5) : fn_X8_fareOf o (nI v) (nI s) σ = some (nI (faN A v s), σ) := by
  unfold fn_X8_fareOf faN
  rcases (show s = 0 ∨ s = 1 ∨ 2 ≤ s by omega) with rfl | rfl | h2
  · simp -implicitDefEqProofs (disch := omega) only [z0, if_true, n_in_t, cond_true, n_cl, h.fare]
  · have hv6 : (v + 6) % 7 < 7 := Nat.mod_lt _ (by decide)
    simp -implicitDefEqProofs (disch := omega) only [z0, z1, n_eq_f, if_false, if_true, m_nextOf h hk, Option.bind_some, eoN, oI, n_in_t, cond_true, n_cl, h.fare, h.bk, nI_add, Nat.one_ne_zero]
  · have e0 : ¬ s = 0 := by omega
    have e1 : ¬ s = 1 := by omega
    simp -implicitDefEqProofs (disch := omega) only [z0, z1, z2, n_eq_f, if_false, e0, e1, n_sub, n_in_t, cond_true, n_cl, h.P]
theorem m_hoursOf (h : pu_m A o σ) (hk : pu_k A) {v s : Nat} (hv : v < 7) (hs : s < 5) : fn_X8_hoursOf o (nI v) (nI s) σ = some (nI (hoN A v s), σ) := by
  unfold fn_X8_hoursOf hoN
  rcases (show s = 0 ∨ s = 1 ∨ 2 ≤ s by omega) with rfl | rfl | h2
  · simp -implicitDefEqProofs (disch := omega) only [z0, if_true, n_in_t, cond_true, n_cl, h.hours]
  · have hv6 : (v + 6) % 7 < 7 := Nat.mod_lt _ (by decide)
    simp -implicitDefEqProofs (disch := omega) only [z0, z1, n_eq_f, if_false, if_true, m_nextOf h hk, Option.bind_some, eoN, oI, n_in_t, cond_true, n_cl, h.hours, Nat.one_ne_zero]
  · have e0 : ¬ s = 0 := by omega
    have e1 : ¬ s = 1 := by omega
    simp -implicitDefEqProofs (disch := omega) only [z0, z1, z2, n_eq_f, if_false, e0, e1, n_sub, n_in_t, cond_true, n_cl, h.P]
theorem m_priceOf (h : pu_m A o σ) (hk : pu_k A) {p v s : Nat} (hp : p < lne A) (hv : v < 7) (hs : s < 5) (he : eoN A v s ≠ none) : fn_X8_priceOf o (nI p) (nI v) (nI s) σ = some (nI (prN A p v s), σ) := by
  have hE := hk.2.2.2.2.2 p hp
  have hp6 : p < 6 := by have := hk.2.1; omega
  have hf := fa_le hk hv he
  unfold fn_X8_priceOf prN
  rw [m_fareOf h hk hv hs]
  simp -implicitDefEqProofs only [Option.bind_some]
  generalize faN A v s = f at hf
  have h5 := hE.1
  have h9 := hE.2.1
  simp -implicitDefEqProofs (disch := omega) only [n_in_t, cond_true, n_cl, h.E0, h.E1, z0, z1, z2, z3, z4, z5, n_eq_i, n_le_i, n_div, nI_add, n_mul]
  unfold prK
  split
  · rfl
  · split
    · rfl
    · split
      · split
        · rename_i q
          rw [Nat.sub_eq_zero_of_le q]
        · rename_i q
          rw [n_sub (by omega)]
      · split
        · rcases Nat.lt_or_ge s 2 with q | q
          · rw [if_pos (by omega), if_pos q]
          · rw [if_neg (by omega), if_neg (by omega)]
        · split <;> rfl
theorem m_weight (h : pu_m A o σ) (hk : pu_k A) {p w v s : Nat} (hp : p < lne A) (hw : w < 5) (hv : v < 7) (hs : s < 5) (he : eoN A v s ≠ none) : fn_X8_weight o (nI p) (nI v) (nI s) (nI w) σ = some (nI (wtN A p w 1000 v s), σ) := by
  unfold fn_X8_weight wtN
  rcases (show w = 0 ∨ w = 1 ∨ w = 2 ∨ w = 3 ∨ w = 4 by omega) with rfl | rfl | rfl | rfl | rfl
  · rw [m_priceOf h hk hp hv hs he]
    simp only [z0, if_true, Option.bind_some]
  · rw [m_hoursOf h hk hv hs]
    simp -implicitDefEqProofs (disch := omega) only [z0, z1, if_true, n_eq_f, if_false, Option.bind_some, Nat.one_ne_zero]
  · simp -implicitDefEqProofs (disch := omega) only [z0, z1, z2, if_true, n_eq_f, if_false, n_eq_i]
    simp
    split <;> rfl
  · simp -implicitDefEqProofs (disch := omega) only [z0, z1, z2, z3, if_true, n_eq_f, if_false]
    simp
  · rw [m_priceOf h hk hp hv hs he]
    simp -implicitDefEqProofs (disch := omega) only [z0, z1, z2, z3, z1000, if_true, n_eq_f, if_false, Option.bind_some, n_mul, nI_add]
    simp
theorem pr_le2 (hk : pu_k A) {p v s : Nat} (hp : p < lne A) (hv : v < 7) (he : eoN A v s ≠ none) : prN A p v s ≤ 36 := pr_le (hk.2.2.2.2.2 p hp).2.1 (fa_le hk hv he)
theorem wt_le (hk : pu_k A) {p w M v s : Nat} (hp : p < lne A) (hM : M ≤ 1000) (hv : v < 7) (he : eoN A v s ≠ none) : wtN A p w M v s ≤ 40000 := by
  have h1 := pr_le2 hk hp hv he
  have h2 := (ho_le hk hv he).2
  have h3 : M * prN A p v s ≤ 1000 * 36 := Nat.mul_le_mul hM h1
  unfold wtN
  split
  · omega
  · split
    · omega
    · split
      · split <;> omega
      · split <;> omega
end PPR
