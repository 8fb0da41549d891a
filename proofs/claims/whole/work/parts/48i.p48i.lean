/-! ===== copies ===== -/
/-- τ is σ, but for b's cells in S, which hold what a's hold -/
def cpS (a b : Nat) (S : Nat → Nat → Nat → Prop) (σ τ : am_S) : Prop := fr (fun o k i j => o = b ∧ S k i j) σ τ ∧ ∀ k i j, S k i j → τ.1 b k i j = σ.1 a k i j
section PCY
variable {a b : Nat} {S T : Nat → Nat → Nat → Prop} {σ τ ρ : am_S} {A : pu_L}
theorem cpS.rf (h : ∀ k i j, ¬ S k i j) : cpS a b S σ σ := ⟨fr.rf, fun k i j q => absurd q (h k i j)⟩
theorem cpS.tr (hab : a ≠ b) (h : cpS a b S σ τ) (h2 : cpS a b T τ ρ) : cpS a b (fun k i j => S k i j ∨ T k i j) σ ρ := by
  refine ⟨(h.1.mono fun o k i j q => ⟨q.1, Or.inl q.2⟩).tr (h2.1.mono fun o k i j q => ⟨q.1, Or.inr q.2⟩), fun k i j q => ?_⟩
  by_cases c : T k i j
  · rw [h2.2 k i j c]
    exact (h.1 a k i j (fun z => hab z.1)).1
  · rw [(h2.1 b k i j (fun z => c z.2)).1]
    exact h.2 k i j (q.resolve_right c)
theorem cpS.w (h : cpS a b S σ τ) (hS : ∀ k i j, S k i j ↔ T k i j) : cpS a b T σ τ := ⟨h.1.mono fun o k i j q => ⟨q.1, (hS k i j).mp q.2⟩, fun k i j q => h.2 k i j ((hS k i j).mpr q)⟩
theorem cpS.u {k i j : Nat} : cpS a b (fun k' i' j' => k' = k ∧ i' = i ∧ j' = j) σ (am_u σ b k i j (σ.1 a k i j)) := by
  refine ⟨fr.u ⟨rfl, rfl, rfl, rfl⟩, fun k' i' j' q => ?_⟩
  obtain ⟨rfl, rfl, rfl⟩ := q
  exact u_at
theorem cpS.row {k i n : Nat} : cpS a b (fun k' i' j' => k' = k ∧ i' = i ∧ j' < n) σ (am_row σ b k i (va_cpy (σ.1 a k i) (σ.1 b k i) 0 0 n)) := by
  refine ⟨fun o' k' i' j' hn => ⟨?_, rfl⟩, fun k' i' j' q => ?_⟩
  · show (if k' = k ∧ i' = i ∧ o' = b then va_cpy (σ.1 a k i) (σ.1 b k i) 0 0 n j' else σ.1 o' k' i' j') = _
    by_cases c : k' = k ∧ i' = i ∧ o' = b
    · obtain ⟨rfl, rfl, rfl⟩ := c
      rw [if_pos ⟨rfl, rfl, rfl⟩]
      unfold va_cpy
      rw [if_neg (fun z => hn ⟨rfl, rfl, rfl, by omega⟩)]
    · rw [if_neg c]
  · obtain ⟨rfl, rfl, hj⟩ := q
    show (if k' = k' ∧ i' = i' ∧ b = b then va_cpy (σ.1 a k' i') (σ.1 b k' i') 0 0 n j' else σ.1 b k' i' j') = _
    rw [if_pos ⟨rfl, rfl, rfl⟩]
    unfold va_cpy
    rw [if_pos (by omega), Nat.zero_add, Nat.sub_zero]
theorem cpS.m (h : cpS a b S σ τ) (hS : ∀ k i j, (50 ≤ k ∧ k < 53 ∧ i = 0 ∧ j < 7) ∨ (k = 54 ∧ i < 3 ∧ j < 4) ∨ (55 ≤ k ∧ k < 63 ∧ i = 0 ∧ j < 6) ∨ (k = 40 ∧ i = 0 ∧ (j = 12 ∨ j = 13 ∨ j = 15 ∨ j = 24 ∨ j = 25)) → S k i j) (hm : pu_m A a σ) : pu_m A b τ := by
  refine ⟨fun w hw v hv => ?_, fun r hr j hj => ?_, fun p hp j hj => ?_, ?_, ?_, ?_, ?_, ?_⟩ <;> rw [h.2 _ _ _ (hS _ _ _ (by omega))]
  · exact hm.1 w hw v hv
  · exact hm.P hr hj
  · exact hm.2.2.1 p hp j hj
  · exact hm.np
  · exact hm.ne
  · exact hm.bk
  · exact hm.sd
  · exact hm.ac
theorem cpS.c (h : cpS a b S σ τ) (hS : ∀ k i j, (k = 4 ∧ i < 3 ∧ j < 7) ∨ (k = 6 ∧ i < 3 ∧ j < 4) ∨ (k = 8 ∧ i < 6 ∧ j < 8) ∨ (k = 2 ∧ i = 0 ∧ 3 ≤ j ∧ j < 8) → S k i j) (hm : pu_c A a σ) : pu_c A b τ := by
  refine ⟨fun w hw v hv => ?_, fun r hr j hj => ?_, fun p hp j hj => ?_, ?_, ?_, ?_, ?_, ?_⟩ <;> rw [h.2 _ _ _ (hS _ _ _ (by omega))]
  · exact hm.V hw hv
  · exact hm.P hr hj
  · exact hm.E hp hj
  · exact hm.np
  · exact hm.ne
  · exact hm.bk
  · exact hm.sd
  · exact hm.ac
theorem m_cp500 (hab : a ≠ b) : ∀ (m x fuel : Nat) (σ : am_S), x + m = 7 → m < fuel → ∃ τ, lp_X8_copied_50_50_2 fuel a b (nI x) σ = some τ ∧ cpS a b (fun k i j => k = 50 ∧ i = 0 ∧ x ≤ j ∧ j < 7) σ τ := by
  intro m
  induction m with
  | zero =>
    intro x fuel σ hs hf
    obtain ⟨f, rfl⟩ : ∃ f, fuel = f + 1 := ⟨fuel - 1, by omega⟩
    refine ⟨σ, ?_, cpS.rf (by omega)⟩
    rw [lp_X8_copied_50_50_2.eq_2]
    unfold lb_X8_copied_50_50_2
    simp -implicitDefEqProofs (disch := omega) only [z7, z6, z4, n_le_t, ↓reduceIte]
  | succ m ih =>
    intro x fuel σ hs hf
    obtain ⟨f, rfl⟩ : ∃ f, fuel = f + 1 := ⟨fuel - 1, by omega⟩
    obtain ⟨τ, e1, e2⟩ := ih (x + 1) f (am_u σ b 50 0 x (σ.1 a 50 0 x)) (by omega) (by omega)
    have e3 := cpS.tr hab (cpS.u (a := a) (b := b) (σ := σ) (k := 50) (i := 0) (j := x)) e2
    refine ⟨τ, ?_, e3.1.mono fun o k i j q => ⟨q.1, by omega⟩, fun k i j q => e3.2 k i j (by omega)⟩
    rw [lp_X8_copied_50_50_2.eq_2]
    unfold lb_X8_copied_50_50_2
    simp -implicitDefEqProofs (disch := omega) only [z1, z7, z6, z4, n_le_f, ↓reduceIte, n_in_t, cond_true, n_cl, nI_add]
    exact e1
theorem m_cp50 (hab : a ≠ b) : ∃ τ, fn_X8_copied_50_50 a b σ = some τ ∧ cpS a b (fun k i j => k = 50 ∧ i = 0 ∧ j < 7) σ τ := by
  obtain ⟨τ, e1, e2⟩ := m_cp500 hab 7 0 1000 σ rfl (by decide)
  exact ⟨τ, e1, e2.1.mono fun o k i j q => ⟨q.1, by omega⟩, fun k i j q => e2.2 k i j (by omega)⟩
theorem m_cp510 (hab : a ≠ b) : ∀ (m x fuel : Nat) (σ : am_S), x + m = 7 → m < fuel → ∃ τ, lp_X8_copied_51_51_2 fuel a b (nI x) σ = some τ ∧ cpS a b (fun k i j => k = 51 ∧ i = 0 ∧ x ≤ j ∧ j < 7) σ τ := by
  intro m
  induction m with
  | zero =>
    intro x fuel σ hs hf
    obtain ⟨f, rfl⟩ : ∃ f, fuel = f + 1 := ⟨fuel - 1, by omega⟩
    refine ⟨σ, ?_, cpS.rf (by omega)⟩
    rw [lp_X8_copied_51_51_2.eq_2]
    unfold lb_X8_copied_51_51_2
    simp -implicitDefEqProofs (disch := omega) only [z7, z6, z4, n_le_t, ↓reduceIte]
  | succ m ih =>
    intro x fuel σ hs hf
    obtain ⟨f, rfl⟩ : ∃ f, fuel = f + 1 := ⟨fuel - 1, by omega⟩
    obtain ⟨τ, e1, e2⟩ := ih (x + 1) f (am_u σ b 51 0 x (σ.1 a 51 0 x)) (by omega) (by omega)
    have e3 := cpS.tr hab (cpS.u (a := a) (b := b) (σ := σ) (k := 51) (i := 0) (j := x)) e2
    refine ⟨τ, ?_, e3.1.mono fun o k i j q => ⟨q.1, by omega⟩, fun k i j q => e3.2 k i j (by omega)⟩
    rw [lp_X8_copied_51_51_2.eq_2]
    unfold lb_X8_copied_51_51_2
    simp -implicitDefEqProofs (disch := omega) only [z1, z7, z6, z4, n_le_f, ↓reduceIte, n_in_t, cond_true, n_cl, nI_add]
    exact e1
theorem m_cp51 (hab : a ≠ b) : ∃ τ, fn_X8_copied_51_51 a b σ = some τ ∧ cpS a b (fun k i j => k = 51 ∧ i = 0 ∧ j < 7) σ τ := by
  obtain ⟨τ, e1, e2⟩ := m_cp510 hab 7 0 1000 σ rfl (by decide)
  exact ⟨τ, e1, e2.1.mono fun o k i j q => ⟨q.1, by omega⟩, fun k i j q => e2.2 k i j (by omega)⟩
theorem m_cp520 (hab : a ≠ b) : ∀ (m x fuel : Nat) (σ : am_S), x + m = 7 → m < fuel → ∃ τ, lp_X8_copied_52_52_2 fuel a b (nI x) σ = some τ ∧ cpS a b (fun k i j => k = 52 ∧ i = 0 ∧ x ≤ j ∧ j < 7) σ τ := by
  intro m
  induction m with
  | zero =>
    intro x fuel σ hs hf
    obtain ⟨f, rfl⟩ : ∃ f, fuel = f + 1 := ⟨fuel - 1, by omega⟩
    refine ⟨σ, ?_, cpS.rf (by omega)⟩
    rw [lp_X8_copied_52_52_2.eq_2]
    unfold lb_X8_copied_52_52_2
    simp -implicitDefEqProofs (disch := omega) only [z7, z6, z4, n_le_t, ↓reduceIte]
  | succ m ih =>
    intro x fuel σ hs hf
    obtain ⟨f, rfl⟩ : ∃ f, fuel = f + 1 := ⟨fuel - 1, by omega⟩
    obtain ⟨τ, e1, e2⟩ := ih (x + 1) f (am_u σ b 52 0 x (σ.1 a 52 0 x)) (by omega) (by omega)
    have e3 := cpS.tr hab (cpS.u (a := a) (b := b) (σ := σ) (k := 52) (i := 0) (j := x)) e2
    refine ⟨τ, ?_, e3.1.mono fun o k i j q => ⟨q.1, by omega⟩, fun k i j q => e3.2 k i j (by omega)⟩
    rw [lp_X8_copied_52_52_2.eq_2]
    unfold lb_X8_copied_52_52_2
    simp -implicitDefEqProofs (disch := omega) only [z1, z7, z6, z4, n_le_f, ↓reduceIte, n_in_t, cond_true, n_cl, nI_add]
    exact e1
theorem m_cp52 (hab : a ≠ b) : ∃ τ, fn_X8_copied_52_52 a b σ = some τ ∧ cpS a b (fun k i j => k = 52 ∧ i = 0 ∧ j < 7) σ τ := by
  obtain ⟨τ, e1, e2⟩ := m_cp520 hab 7 0 1000 σ rfl (by decide)
  exact ⟨τ, e1, e2.1.mono fun o k i j q => ⟨q.1, by omega⟩, fun k i j q => e2.2 k i j (by omega)⟩
theorem m_cp550 (hab : a ≠ b) : ∀ (m x fuel : Nat) (σ : am_S), x + m = 6 → m < fuel → ∃ τ, lp_X8_copied_55_55_2 fuel a b (nI x) σ = some τ ∧ cpS a b (fun k i j => k = 55 ∧ i = 0 ∧ x ≤ j ∧ j < 6) σ τ := by
  intro m
  induction m with
  | zero =>
    intro x fuel σ hs hf
    obtain ⟨f, rfl⟩ : ∃ f, fuel = f + 1 := ⟨fuel - 1, by omega⟩
    refine ⟨σ, ?_, cpS.rf (by omega)⟩
    rw [lp_X8_copied_55_55_2.eq_2]
    unfold lb_X8_copied_55_55_2
    simp -implicitDefEqProofs (disch := omega) only [z7, z6, z4, n_le_t, ↓reduceIte]
  | succ m ih =>
    intro x fuel σ hs hf
    obtain ⟨f, rfl⟩ : ∃ f, fuel = f + 1 := ⟨fuel - 1, by omega⟩
    obtain ⟨τ, e1, e2⟩ := ih (x + 1) f (am_u σ b 55 0 x (σ.1 a 55 0 x)) (by omega) (by omega)
    have e3 := cpS.tr hab (cpS.u (a := a) (b := b) (σ := σ) (k := 55) (i := 0) (j := x)) e2
    refine ⟨τ, ?_, e3.1.mono fun o k i j q => ⟨q.1, by omega⟩, fun k i j q => e3.2 k i j (by omega)⟩
    rw [lp_X8_copied_55_55_2.eq_2]
    unfold lb_X8_copied_55_55_2
    simp -implicitDefEqProofs (disch := omega) only [z1, z7, z6, z4, n_le_f, ↓reduceIte, n_in_t, cond_true, n_cl, nI_add]
    exact e1
theorem m_cp55 (hab : a ≠ b) : ∃ τ, fn_X8_copied_55_55 a b σ = some τ ∧ cpS a b (fun k i j => k = 55 ∧ i = 0 ∧ j < 6) σ τ := by
  obtain ⟨τ, e1, e2⟩ := m_cp550 hab 6 0 1000 σ rfl (by decide)
  exact ⟨τ, e1, e2.1.mono fun o k i j q => ⟨q.1, by omega⟩, fun k i j q => e2.2 k i j (by omega)⟩
theorem m_cp560 (hab : a ≠ b) : ∀ (m x fuel : Nat) (σ : am_S), x + m = 6 → m < fuel → ∃ τ, lp_X8_copied_56_56_2 fuel a b (nI x) σ = some τ ∧ cpS a b (fun k i j => k = 56 ∧ i = 0 ∧ x ≤ j ∧ j < 6) σ τ := by
  intro m
  induction m with
  | zero =>
    intro x fuel σ hs hf
    obtain ⟨f, rfl⟩ : ∃ f, fuel = f + 1 := ⟨fuel - 1, by omega⟩
    refine ⟨σ, ?_, cpS.rf (by omega)⟩
    rw [lp_X8_copied_56_56_2.eq_2]
    unfold lb_X8_copied_56_56_2
    simp -implicitDefEqProofs (disch := omega) only [z7, z6, z4, n_le_t, ↓reduceIte]
  | succ m ih =>
    intro x fuel σ hs hf
    obtain ⟨f, rfl⟩ : ∃ f, fuel = f + 1 := ⟨fuel - 1, by omega⟩
    obtain ⟨τ, e1, e2⟩ := ih (x + 1) f (am_u σ b 56 0 x (σ.1 a 56 0 x)) (by omega) (by omega)
    have e3 := cpS.tr hab (cpS.u (a := a) (b := b) (σ := σ) (k := 56) (i := 0) (j := x)) e2
    refine ⟨τ, ?_, e3.1.mono fun o k i j q => ⟨q.1, by omega⟩, fun k i j q => e3.2 k i j (by omega)⟩
    rw [lp_X8_copied_56_56_2.eq_2]
    unfold lb_X8_copied_56_56_2
    simp -implicitDefEqProofs (disch := omega) only [z1, z7, z6, z4, n_le_f, ↓reduceIte, n_in_t, cond_true, n_cl, nI_add]
    exact e1
theorem m_cp56 (hab : a ≠ b) : ∃ τ, fn_X8_copied_56_56 a b σ = some τ ∧ cpS a b (fun k i j => k = 56 ∧ i = 0 ∧ j < 6) σ τ := by
  obtain ⟨τ, e1, e2⟩ := m_cp560 hab 6 0 1000 σ rfl (by decide)
  exact ⟨τ, e1, e2.1.mono fun o k i j q => ⟨q.1, by omega⟩, fun k i j q => e2.2 k i j (by omega)⟩
theorem m_cp570 (hab : a ≠ b) : ∀ (m x fuel : Nat) (σ : am_S), x + m = 6 → m < fuel → ∃ τ, lp_X8_copied_57_57_2 fuel a b (nI x) σ = some τ ∧ cpS a b (fun k i j => k = 57 ∧ i = 0 ∧ x ≤ j ∧ j < 6) σ τ := by
  intro m
  induction m with
  | zero =>
    intro x fuel σ hs hf
    obtain ⟨f, rfl⟩ : ∃ f, fuel = f + 1 := ⟨fuel - 1, by omega⟩
    refine ⟨σ, ?_, cpS.rf (by omega)⟩
    rw [lp_X8_copied_57_57_2.eq_2]
    unfold lb_X8_copied_57_57_2
    simp -implicitDefEqProofs (disch := omega) only [z7, z6, z4, n_le_t, ↓reduceIte]
  | succ m ih =>
    intro x fuel σ hs hf
    obtain ⟨f, rfl⟩ : ∃ f, fuel = f + 1 := ⟨fuel - 1, by omega⟩
    obtain ⟨τ, e1, e2⟩ := ih (x + 1) f (am_u σ b 57 0 x (σ.1 a 57 0 x)) (by omega) (by omega)
    have e3 := cpS.tr hab (cpS.u (a := a) (b := b) (σ := σ) (k := 57) (i := 0) (j := x)) e2
    refine ⟨τ, ?_, e3.1.mono fun o k i j q => ⟨q.1, by omega⟩, fun k i j q => e3.2 k i j (by omega)⟩
    rw [lp_X8_copied_57_57_2.eq_2]
    unfold lb_X8_copied_57_57_2
    simp -implicitDefEqProofs (disch := omega) only [z1, z7, z6, z4, n_le_f, ↓reduceIte, n_in_t, cond_true, n_cl, nI_add]
    exact e1
theorem m_cp57 (hab : a ≠ b) : ∃ τ, fn_X8_copied_57_57 a b σ = some τ ∧ cpS a b (fun k i j => k = 57 ∧ i = 0 ∧ j < 6) σ τ := by
  obtain ⟨τ, e1, e2⟩ := m_cp570 hab 6 0 1000 σ rfl (by decide)
  exact ⟨τ, e1, e2.1.mono fun o k i j q => ⟨q.1, by omega⟩, fun k i j q => e2.2 k i j (by omega)⟩
theorem m_cp580 (hab : a ≠ b) : ∀ (m x fuel : Nat) (σ : am_S), x + m = 6 → m < fuel → ∃ τ, lp_X8_copied_58_58_2 fuel a b (nI x) σ = some τ ∧ cpS a b (fun k i j => k = 58 ∧ i = 0 ∧ x ≤ j ∧ j < 6) σ τ := by
  intro m
  induction m with
  | zero =>
    intro x fuel σ hs hf
    obtain ⟨f, rfl⟩ : ∃ f, fuel = f + 1 := ⟨fuel - 1, by omega⟩
    refine ⟨σ, ?_, cpS.rf (by omega)⟩
    rw [lp_X8_copied_58_58_2.eq_2]
    unfold lb_X8_copied_58_58_2
    simp -implicitDefEqProofs (disch := omega) only [z7, z6, z4, n_le_t, ↓reduceIte]
  | succ m ih =>
    intro x fuel σ hs hf
    obtain ⟨f, rfl⟩ : ∃ f, fuel = f + 1 := ⟨fuel - 1, by omega⟩
    obtain ⟨τ, e1, e2⟩ := ih (x + 1) f (am_u σ b 58 0 x (σ.1 a 58 0 x)) (by omega) (by omega)
    have e3 := cpS.tr hab (cpS.u (a := a) (b := b) (σ := σ) (k := 58) (i := 0) (j := x)) e2
    refine ⟨τ, ?_, e3.1.mono fun o k i j q => ⟨q.1, by omega⟩, fun k i j q => e3.2 k i j (by omega)⟩
    rw [lp_X8_copied_58_58_2.eq_2]
    unfold lb_X8_copied_58_58_2
    simp -implicitDefEqProofs (disch := omega) only [z1, z7, z6, z4, n_le_f, ↓reduceIte, n_in_t, cond_true, n_cl, nI_add]
    exact e1
theorem m_cp58 (hab : a ≠ b) : ∃ τ, fn_X8_copied_58_58 a b σ = some τ ∧ cpS a b (fun k i j => k = 58 ∧ i = 0 ∧ j < 6) σ τ := by
  obtain ⟨τ, e1, e2⟩ := m_cp580 hab 6 0 1000 σ rfl (by decide)
  exact ⟨τ, e1, e2.1.mono fun o k i j q => ⟨q.1, by omega⟩, fun k i j q => e2.2 k i j (by omega)⟩
theorem m_cp590 (hab : a ≠ b) : ∀ (m x fuel : Nat) (σ : am_S), x + m = 6 → m < fuel → ∃ τ, lp_X8_copied_59_59_2 fuel a b (nI x) σ = some τ ∧ cpS a b (fun k i j => k = 59 ∧ i = 0 ∧ x ≤ j ∧ j < 6) σ τ := by
  intro m
  induction m with
  | zero =>
    intro x fuel σ hs hf
    obtain ⟨f, rfl⟩ : ∃ f, fuel = f + 1 := ⟨fuel - 1, by omega⟩
    refine ⟨σ, ?_, cpS.rf (by omega)⟩
    rw [lp_X8_copied_59_59_2.eq_2]
    unfold lb_X8_copied_59_59_2
    simp -implicitDefEqProofs (disch := omega) only [z7, z6, z4, n_le_t, ↓reduceIte]
  | succ m ih =>
    intro x fuel σ hs hf
    obtain ⟨f, rfl⟩ : ∃ f, fuel = f + 1 := ⟨fuel - 1, by omega⟩
    obtain ⟨τ, e1, e2⟩ := ih (x + 1) f (am_u σ b 59 0 x (σ.1 a 59 0 x)) (by omega) (by omega)
    have e3 := cpS.tr hab (cpS.u (a := a) (b := b) (σ := σ) (k := 59) (i := 0) (j := x)) e2
    refine ⟨τ, ?_, e3.1.mono fun o k i j q => ⟨q.1, by omega⟩, fun k i j q => e3.2 k i j (by omega)⟩
    rw [lp_X8_copied_59_59_2.eq_2]
    unfold lb_X8_copied_59_59_2
    simp -implicitDefEqProofs (disch := omega) only [z1, z7, z6, z4, n_le_f, ↓reduceIte, n_in_t, cond_true, n_cl, nI_add]
    exact e1
theorem m_cp59 (hab : a ≠ b) : ∃ τ, fn_X8_copied_59_59 a b σ = some τ ∧ cpS a b (fun k i j => k = 59 ∧ i = 0 ∧ j < 6) σ τ := by
  obtain ⟨τ, e1, e2⟩ := m_cp590 hab 6 0 1000 σ rfl (by decide)
  exact ⟨τ, e1, e2.1.mono fun o k i j q => ⟨q.1, by omega⟩, fun k i j q => e2.2 k i j (by omega)⟩
theorem m_cp600 (hab : a ≠ b) : ∀ (m x fuel : Nat) (σ : am_S), x + m = 6 → m < fuel → ∃ τ, lp_X8_copied_60_60_2 fuel a b (nI x) σ = some τ ∧ cpS a b (fun k i j => k = 60 ∧ i = 0 ∧ x ≤ j ∧ j < 6) σ τ := by
  intro m
  induction m with
  | zero =>
    intro x fuel σ hs hf
    obtain ⟨f, rfl⟩ : ∃ f, fuel = f + 1 := ⟨fuel - 1, by omega⟩
    refine ⟨σ, ?_, cpS.rf (by omega)⟩
    rw [lp_X8_copied_60_60_2.eq_2]
    unfold lb_X8_copied_60_60_2
    simp -implicitDefEqProofs (disch := omega) only [z7, z6, z4, n_le_t, ↓reduceIte]
  | succ m ih =>
    intro x fuel σ hs hf
    obtain ⟨f, rfl⟩ : ∃ f, fuel = f + 1 := ⟨fuel - 1, by omega⟩
    obtain ⟨τ, e1, e2⟩ := ih (x + 1) f (am_u σ b 60 0 x (σ.1 a 60 0 x)) (by omega) (by omega)
    have e3 := cpS.tr hab (cpS.u (a := a) (b := b) (σ := σ) (k := 60) (i := 0) (j := x)) e2
    refine ⟨τ, ?_, e3.1.mono fun o k i j q => ⟨q.1, by omega⟩, fun k i j q => e3.2 k i j (by omega)⟩
    rw [lp_X8_copied_60_60_2.eq_2]
    unfold lb_X8_copied_60_60_2
    simp -implicitDefEqProofs (disch := omega) only [z1, z7, z6, z4, n_le_f, ↓reduceIte, n_in_t, cond_true, n_cl, nI_add]
    exact e1
theorem m_cp60 (hab : a ≠ b) : ∃ τ, fn_X8_copied_60_60 a b σ = some τ ∧ cpS a b (fun k i j => k = 60 ∧ i = 0 ∧ j < 6) σ τ := by
  obtain ⟨τ, e1, e2⟩ := m_cp600 hab 6 0 1000 σ rfl (by decide)
  exact ⟨τ, e1, e2.1.mono fun o k i j q => ⟨q.1, by omega⟩, fun k i j q => e2.2 k i j (by omega)⟩
theorem m_cp610 (hab : a ≠ b) : ∀ (m x fuel : Nat) (σ : am_S), x + m = 6 → m < fuel → ∃ τ, lp_X8_copied_61_61_2 fuel a b (nI x) σ = some τ ∧ cpS a b (fun k i j => k = 61 ∧ i = 0 ∧ x ≤ j ∧ j < 6) σ τ := by
  intro m
  induction m with
  | zero =>
    intro x fuel σ hs hf
    obtain ⟨f, rfl⟩ : ∃ f, fuel = f + 1 := ⟨fuel - 1, by omega⟩
    refine ⟨σ, ?_, cpS.rf (by omega)⟩
    rw [lp_X8_copied_61_61_2.eq_2]
    unfold lb_X8_copied_61_61_2
    simp -implicitDefEqProofs (disch := omega) only [z7, z6, z4, n_le_t, ↓reduceIte]
  | succ m ih =>
    intro x fuel σ hs hf
    obtain ⟨f, rfl⟩ : ∃ f, fuel = f + 1 := ⟨fuel - 1, by omega⟩
    obtain ⟨τ, e1, e2⟩ := ih (x + 1) f (am_u σ b 61 0 x (σ.1 a 61 0 x)) (by omega) (by omega)
    have e3 := cpS.tr hab (cpS.u (a := a) (b := b) (σ := σ) (k := 61) (i := 0) (j := x)) e2
    refine ⟨τ, ?_, e3.1.mono fun o k i j q => ⟨q.1, by omega⟩, fun k i j q => e3.2 k i j (by omega)⟩
    rw [lp_X8_copied_61_61_2.eq_2]
    unfold lb_X8_copied_61_61_2
    simp -implicitDefEqProofs (disch := omega) only [z1, z7, z6, z4, n_le_f, ↓reduceIte, n_in_t, cond_true, n_cl, nI_add]
    exact e1
theorem m_cp61 (hab : a ≠ b) : ∃ τ, fn_X8_copied_61_61 a b σ = some τ ∧ cpS a b (fun k i j => k = 61 ∧ i = 0 ∧ j < 6) σ τ := by
  obtain ⟨τ, e1, e2⟩ := m_cp610 hab 6 0 1000 σ rfl (by decide)
  exact ⟨τ, e1, e2.1.mono fun o k i j q => ⟨q.1, by omega⟩, fun k i j q => e2.2 k i j (by omega)⟩
theorem m_cp620 (hab : a ≠ b) : ∀ (m x fuel : Nat) (σ : am_S), x + m = 6 → m < fuel → ∃ τ, lp_X8_copied_62_62_2 fuel a b (nI x) σ = some τ ∧ cpS a b (fun k i j => k = 62 ∧ i = 0 ∧ x ≤ j ∧ j < 6) σ τ := by
  intro m
  induction m with
  | zero =>
    intro x fuel σ hs hf
    obtain ⟨f, rfl⟩ : ∃ f, fuel = f + 1 := ⟨fuel - 1, by omega⟩
    refine ⟨σ, ?_, cpS.rf (by omega)⟩
    rw [lp_X8_copied_62_62_2.eq_2]
    unfold lb_X8_copied_62_62_2
    simp -implicitDefEqProofs (disch := omega) only [z7, z6, z4, n_le_t, ↓reduceIte]
  | succ m ih =>
    intro x fuel σ hs hf
    obtain ⟨f, rfl⟩ : ∃ f, fuel = f + 1 := ⟨fuel - 1, by omega⟩
    obtain ⟨τ, e1, e2⟩ := ih (x + 1) f (am_u σ b 62 0 x (σ.1 a 62 0 x)) (by omega) (by omega)
    have e3 := cpS.tr hab (cpS.u (a := a) (b := b) (σ := σ) (k := 62) (i := 0) (j := x)) e2
    refine ⟨τ, ?_, e3.1.mono fun o k i j q => ⟨q.1, by omega⟩, fun k i j q => e3.2 k i j (by omega)⟩
    rw [lp_X8_copied_62_62_2.eq_2]
    unfold lb_X8_copied_62_62_2
    simp -implicitDefEqProofs (disch := omega) only [z1, z7, z6, z4, n_le_f, ↓reduceIte, n_in_t, cond_true, n_cl, nI_add]
    exact e1
theorem m_cp62 (hab : a ≠ b) : ∃ τ, fn_X8_copied_62_62 a b σ = some τ ∧ cpS a b (fun k i j => k = 62 ∧ i = 0 ∧ j < 6) σ τ := by
  obtain ⟨τ, e1, e2⟩ := m_cp620 hab 6 0 1000 σ rfl (by decide)
  exact ⟨τ, e1, e2.1.mono fun o k i j q => ⟨q.1, by omega⟩, fun k i j q => e2.2 k i j (by omega)⟩
theorem m_cp540 (hab : a ≠ b) {r : Nat} : ∀ (m x fuel : Nat) (σ : am_S), x + m = 4 → m < fuel → ∃ τ, lp_X8_copied_54_54_2 fuel a r b r (nI x) σ = some τ ∧ cpS a b (fun k i j => k = 54 ∧ i = r ∧ x ≤ j ∧ j < 4) σ τ := by
  intro m
  induction m with
  | zero =>
    intro x fuel σ hs hf
    obtain ⟨f, rfl⟩ : ∃ f, fuel = f + 1 := ⟨fuel - 1, by omega⟩
    refine ⟨σ, ?_, cpS.rf (by omega)⟩
    rw [lp_X8_copied_54_54_2.eq_2]
    unfold lb_X8_copied_54_54_2
    simp -implicitDefEqProofs (disch := omega) only [z7, z6, z4, n_le_t, ↓reduceIte]
  | succ m ih =>
    intro x fuel σ hs hf
    obtain ⟨f, rfl⟩ : ∃ f, fuel = f + 1 := ⟨fuel - 1, by omega⟩
    obtain ⟨τ, e1, e2⟩ := ih (x + 1) f (am_u σ b 54 r x (σ.1 a 54 r x)) (by omega) (by omega)
    have e3 := cpS.tr hab (cpS.u (a := a) (b := b) (σ := σ) (k := 54) (i := r) (j := x)) e2
    refine ⟨τ, ?_, e3.1.mono fun o k i j q => ⟨q.1, by omega⟩, fun k i j q => e3.2 k i j (by omega)⟩
    rw [lp_X8_copied_54_54_2.eq_2]
    unfold lb_X8_copied_54_54_2
    simp -implicitDefEqProofs (disch := omega) only [z1, z7, z6, z4, n_le_f, ↓reduceIte, n_in_t, cond_true, n_cl, nI_add]
    exact e1
theorem m_cp54 (hab : a ≠ b) {r : Nat} : ∃ τ, fn_X8_copied_54_54 a r b r σ = some τ ∧ cpS a b (fun k i j => k = 54 ∧ i = r ∧ j < 4) σ τ := by
  obtain ⟨τ, e1, e2⟩ := m_cp540 hab (r := r) 4 0 1000 σ rfl (by decide)
  exact ⟨τ, e1, e2.1.mono fun o k i j q => ⟨q.1, by omega⟩, fun k i j q => e2.2 k i j (by omega)⟩
theorem m_tk51 (hab : a ≠ b) : ∀ (m r fuel : Nat) (σ : am_S), r + m = 3 → m < fuel → ∃ τ, lp_X8_takeFrom_51 fuel b a (nI r) σ = lb_X8_takeFrom_51 (fun _ _ _ _ => none) b a (nI 3) τ ∧ cpS a b (fun k i j => k = 54 ∧ r ≤ i ∧ i < 3 ∧ j < 4) σ τ := by
  intro m
  induction m with
  | zero =>
    intro r fuel σ hs hf
    obtain ⟨f, rfl⟩ : ∃ f, fuel = f + 1 := ⟨fuel - 1, by omega⟩
    obtain rfl : r = 3 := by omega
    refine ⟨σ, ?_, cpS.rf (by omega)⟩
    rw [lp_X8_takeFrom_51.eq_2]
    unfold lb_X8_takeFrom_51
    rw [if_pos (by decide), if_pos (by decide)]
  | succ m ih =>
    intro r fuel σ hs hf
    obtain ⟨f, rfl⟩ : ∃ f, fuel = f + 1 := ⟨fuel - 1, by omega⟩
    obtain ⟨τ, e1, e2⟩ := m_cp54 (σ := σ) hab (r := r)
    obtain ⟨ρ, d1, d2⟩ := ih (r + 1) f τ (by omega) (by omega)
    have e3 := cpS.tr hab e2 d2
    refine ⟨ρ, ?_, e3.1.mono fun o k i j q => ⟨q.1, by omega⟩, fun k i j q => e3.2 k i j (by omega)⟩
    rw [← d1, lp_X8_takeFrom_51.eq_2]
    rw [lb_X8_takeFrom_51.eq_def, z3, if_neg (fun q => absurd q (by rw [n_le_i (by omega) (by omega)]; omega)), n_in_t (show r < 3 by omega) (by omega), cond_true, cond_true, n_cl (by omega), e1, Option.bind_some, z1, nI_add]
def STk : Nat → Nat → Nat → Prop := fun k i j => (50 ≤ k ∧ k < 53 ∧ i = 0 ∧ j < 7) ∨ (k = 54 ∧ i < 3 ∧ j < 4) ∨ (55 ≤ k ∧ k < 63 ∧ i = 0 ∧ j < 6) ∨ (k = 40 ∧ i = 0 ∧ (j = 12 ∨ j = 13 ∨ j = 15 ∨ j = 24 ∨ j = 25))
theorem m_take (hab : a ≠ b) : ∃ τ, fn_X8_takeFrom b a σ = some τ ∧ cpS a b STk σ τ := by
  obtain ⟨τ0, e0, c0⟩ := m_cp50 (σ := σ) hab
  obtain ⟨τ1, e1, c1⟩ := m_cp51 (σ := τ0) hab
  have d1 := (c0.tr hab c1).w (T := fun k i j => 50 ≤ k ∧ k < 52 ∧ i = 0 ∧ j < 7) (fun k i j => by omega)
  obtain ⟨τ2, e2, c2⟩ := m_cp52 (σ := τ1) hab
  have d2 := (d1.tr hab c2).w (T := fun k i j => 50 ≤ k ∧ k < 53 ∧ i = 0 ∧ j < 7) (fun k i j => by omega)
  have c3 := cpS.u (a := a) (b := b) (σ := τ2) (k := 40) (i := 0) (j := 12)
  have h13 : (am_u τ2 b 40 0 12 (τ2.1 a 40 0 12)).1 a 40 0 13 = τ2.1 a 40 0 13 := u_ne (by omega)
  have c4 := cpS.u (a := a) (b := b) (σ := am_u τ2 b 40 0 12 (τ2.1 a 40 0 12)) (k := 40) (i := 0) (j := 13)
  rw [h13] at c4
  have d4 := (c3.tr hab c4).w (T := fun k i j => k = 40 ∧ i = 0 ∧ (j = 12 ∨ j = 13)) (fun k i j => by omega)
  obtain ⟨τ5, e5, c5⟩ := m_tk51 hab 3 0 1000 (am_u (am_u τ2 b 40 0 12 (τ2.1 a 40 0 12)) b 40 0 13 (τ2.1 a 40 0 13)) rfl (by decide)
  have c6 := cpS.u (a := a) (b := b) (σ := τ5) (k := 40) (i := 0) (j := 15)
  have d6 := (d4.tr hab (c5.tr hab c6)).w (T := fun k i j => (k = 40 ∧ i = 0 ∧ (j = 12 ∨ j = 13 ∨ j = 15)) ∨ (k = 54 ∧ i < 3 ∧ j < 4)) (fun k i j => by omega)
  obtain ⟨ρ55, f55, g55⟩ := m_cp55 (σ := am_u τ5 b 40 0 15 (τ5.1 a 40 0 15)) hab
  obtain ⟨ρ56, f56, g56⟩ := m_cp56 (σ := ρ55) hab
  have h56 := (g55.tr hab g56).w (T := fun k i j => 55 ≤ k ∧ k < 57 ∧ i = 0 ∧ j < 6) (fun k i j => by omega)
  obtain ⟨ρ57, f57, g57⟩ := m_cp57 (σ := ρ56) hab
  have h57 := (h56.tr hab g57).w (T := fun k i j => 55 ≤ k ∧ k < 58 ∧ i = 0 ∧ j < 6) (fun k i j => by omega)
  obtain ⟨ρ58, f58, g58⟩ := m_cp58 (σ := ρ57) hab
  have h58 := (h57.tr hab g58).w (T := fun k i j => 55 ≤ k ∧ k < 59 ∧ i = 0 ∧ j < 6) (fun k i j => by omega)
  obtain ⟨ρ59, f59, g59⟩ := m_cp59 (σ := ρ58) hab
  have h59 := (h58.tr hab g59).w (T := fun k i j => 55 ≤ k ∧ k < 60 ∧ i = 0 ∧ j < 6) (fun k i j => by omega)
  obtain ⟨ρ60, f60, g60⟩ := m_cp60 (σ := ρ59) hab
  have h60 := (h59.tr hab g60).w (T := fun k i j => 55 ≤ k ∧ k < 61 ∧ i = 0 ∧ j < 6) (fun k i j => by omega)
  obtain ⟨ρ61, f61, g61⟩ := m_cp61 (σ := ρ60) hab
  have h61 := (h60.tr hab g61).w (T := fun k i j => 55 ≤ k ∧ k < 62 ∧ i = 0 ∧ j < 6) (fun k i j => by omega)
  obtain ⟨ρ62, f62, g62⟩ := m_cp62 (σ := ρ61) hab
  have h62 := (h61.tr hab g62).w (T := fun k i j => 55 ≤ k ∧ k < 63 ∧ i = 0 ∧ j < 6) (fun k i j => by omega)
  have c7 := cpS.u (a := a) (b := b) (σ := ρ62) (k := 40) (i := 0) (j := 24)
  have h25 : (am_u ρ62 b 40 0 24 (ρ62.1 a 40 0 24)).1 a 40 0 25 = ρ62.1 a 40 0 25 := u_ne (by omega)
  have c8 := cpS.u (a := a) (b := b) (σ := am_u ρ62 b 40 0 24 (ρ62.1 a 40 0 24)) (k := 40) (i := 0) (j := 25)
  rw [h25] at c8
  have d8 := (c7.tr hab c8).w (T := fun k i j => k = 40 ∧ i = 0 ∧ (j = 24 ∨ j = 25)) (fun k i j => by omega)
  have d9 := (d2.tr hab d6).w (T := fun k i j => (50 ≤ k ∧ k < 53 ∧ i = 0 ∧ j < 7) ∨ (k = 54 ∧ i < 3 ∧ j < 4) ∨ (k = 40 ∧ i = 0 ∧ (j = 12 ∨ j = 13 ∨ j = 15))) (fun k i j => by omega)
  have d10 := (h62.tr hab d8).w (T := fun k i j => (55 ≤ k ∧ k < 63 ∧ i = 0 ∧ j < 6) ∨ (k = 40 ∧ i = 0 ∧ (j = 24 ∨ j = 25))) (fun k i j => by omega)
  refine ⟨_, ?_, (d9.tr hab d10).w (T := STk) (fun k i j => by unfold STk; omega)⟩
  unfold fn_X8_takeFrom
  rw [e0, Option.bind_some, e1, Option.bind_some, e2, Option.bind_some, z0, e5, lb_X8_takeFrom_51.eq_def, if_pos (by decide), f55, Option.bind_some, f56, Option.bind_some, f57, Option.bind_some, f58, Option.bind_some, f59, Option.bind_some, f60, Option.bind_some, f61, Option.bind_some, f62, Option.bind_some]
theorem c_cpT4 (hab : a ≠ b) : ∀ (m x fuel : Nat) (σ : am_S), x + m = 3 → m < fuel → ∃ τ, lp_X0_copyTable_3_3_3 fuel a b (nI 3) (nI 7) (nI x) σ = some τ ∧ cpS a b (fun k i j => k = 4 ∧ x ≤ i ∧ i < 3 ∧ j < 7) σ τ := by
  intro m
  induction m with
  | zero =>
    intro x fuel σ hs hf
    obtain ⟨f, rfl⟩ : ∃ f, fuel = f + 1 := ⟨fuel - 1, by omega⟩
    refine ⟨σ, ?_, cpS.rf (by omega)⟩
    rw [lp_X0_copyTable_3_3_3.eq_2]
    unfold lb_X0_copyTable_3_3_3
    rw [if_pos (by rw [n_le_i (by omega) (by omega)]; omega)]
  | succ m ih =>
    intro x fuel σ hs hf
    obtain ⟨f, rfl⟩ : ∃ f, fuel = f + 1 := ⟨fuel - 1, by omega⟩
    obtain ⟨τ, e1, e2⟩ := ih (x + 1) f (am_row σ b 4 x (va_cpy (σ.1 a 4 x) (σ.1 b 4 x) 0 0 7)) (by omega) (by omega)
    have e3 := cpS.tr hab (cpS.row (a := a) (b := b) (σ := σ) (k := 4) (i := x) (n := 7)) e2
    refine ⟨τ, ?_, e3.1.mono fun o k i j q => ⟨q.1, by omega⟩, fun k i j q => e3.2 k i j (by omega)⟩
    rw [lp_X0_copyTable_3_3_3.eq_2]
    unfold lb_X0_copyTable_3_3_3
    rw [if_neg (fun q => absurd q (by rw [n_le_i (by omega) (by omega)]; omega)), n_in_t (show x < 3 by omega) (by omega), cond_true, cond_true, show am_cok 0 0 (nI 7) 7 7 = true from rfl, cond_true, n_cl (by omega), n_cl (by omega), z1, nI_add]
    exact e1
theorem c_cpT6 (hab : a ≠ b) : ∀ (m x fuel : Nat) (σ : am_S), x + m = 3 → m < fuel → ∃ τ, lp_X0_copyTable_5_5_3 fuel a b (nI 3) (nI 4) (nI x) σ = some τ ∧ cpS a b (fun k i j => k = 6 ∧ x ≤ i ∧ i < 3 ∧ j < 4) σ τ := by
  intro m
  induction m with
  | zero =>
    intro x fuel σ hs hf
    obtain ⟨f, rfl⟩ : ∃ f, fuel = f + 1 := ⟨fuel - 1, by omega⟩
    refine ⟨σ, ?_, cpS.rf (by omega)⟩
    rw [lp_X0_copyTable_5_5_3.eq_2]
    unfold lb_X0_copyTable_5_5_3
    rw [if_pos (by rw [n_le_i (by omega) (by omega)]; omega)]
  | succ m ih =>
    intro x fuel σ hs hf
    obtain ⟨f, rfl⟩ : ∃ f, fuel = f + 1 := ⟨fuel - 1, by omega⟩
    obtain ⟨τ, e1, e2⟩ := ih (x + 1) f (am_row σ b 6 x (va_cpy (σ.1 a 6 x) (σ.1 b 6 x) 0 0 4)) (by omega) (by omega)
    have e3 := cpS.tr hab (cpS.row (a := a) (b := b) (σ := σ) (k := 6) (i := x) (n := 4)) e2
    refine ⟨τ, ?_, e3.1.mono fun o k i j q => ⟨q.1, by omega⟩, fun k i j q => e3.2 k i j (by omega)⟩
    rw [lp_X0_copyTable_5_5_3.eq_2]
    unfold lb_X0_copyTable_5_5_3
    rw [if_neg (fun q => absurd q (by rw [n_le_i (by omega) (by omega)]; omega)), n_in_t (show x < 3 by omega) (by omega), cond_true, cond_true, show am_cok 0 0 (nI 4) 4 4 = true from rfl, cond_true, n_cl (by omega), n_cl (by omega), z1, nI_add]
    exact e1
theorem c_cpT8 (hab : a ≠ b) : ∀ (m x fuel : Nat) (σ : am_S), x + m = 6 → m < fuel → ∃ τ, lp_X0_copyTable_7_7_3 fuel a b (nI 6) (nI 8) (nI x) σ = some τ ∧ cpS a b (fun k i j => k = 8 ∧ x ≤ i ∧ i < 6 ∧ j < 8) σ τ := by
  intro m
  induction m with
  | zero =>
    intro x fuel σ hs hf
    obtain ⟨f, rfl⟩ : ∃ f, fuel = f + 1 := ⟨fuel - 1, by omega⟩
    refine ⟨σ, ?_, cpS.rf (by omega)⟩
    rw [lp_X0_copyTable_7_7_3.eq_2]
    unfold lb_X0_copyTable_7_7_3
    rw [if_pos (by rw [n_le_i (by omega) (by omega)]; omega)]
  | succ m ih =>
    intro x fuel σ hs hf
    obtain ⟨f, rfl⟩ : ∃ f, fuel = f + 1 := ⟨fuel - 1, by omega⟩
    obtain ⟨τ, e1, e2⟩ := ih (x + 1) f (am_row σ b 8 x (va_cpy (σ.1 a 8 x) (σ.1 b 8 x) 0 0 8)) (by omega) (by omega)
    have e3 := cpS.tr hab (cpS.row (a := a) (b := b) (σ := σ) (k := 8) (i := x) (n := 8)) e2
    refine ⟨τ, ?_, e3.1.mono fun o k i j q => ⟨q.1, by omega⟩, fun k i j q => e3.2 k i j (by omega)⟩
    rw [lp_X0_copyTable_7_7_3.eq_2]
    unfold lb_X0_copyTable_7_7_3
    rw [if_neg (fun q => absurd q (by rw [n_le_i (by omega) (by omega)]; omega)), n_in_t (show x < 6 by omega) (by omega), cond_true, cond_true, show am_cok 0 0 (nI 8) 8 8 = true from rfl, cond_true, n_cl (by omega), n_cl (by omega), z1, nI_add]
    exact e1
def SBc : Nat → Nat → Nat → Prop := fun k i j => (k = 4 ∧ i < 3 ∧ j < 7) ∨ (k = 6 ∧ i < 3 ∧ j < 4) ∨ (k = 8 ∧ i < 6 ∧ j < 8) ∨ (k = 2 ∧ i = 0 ∧ 3 ≤ j ∧ j < 8)
theorem c_becomes (hab : a ≠ b) : ∃ τ, fn_X0_becomes b a σ = some τ ∧ cpS a b SBc σ τ := by
  obtain ⟨τ0, e0, c0⟩ := c_cpT4 hab 3 0 1000 σ rfl (by decide)
  obtain ⟨τ1, e1, c1⟩ := c_cpT6 hab 3 0 1000 τ0 rfl (by decide)
  obtain ⟨τ2, e2, c2⟩ := c_cpT8 hab 6 0 1000 τ1 rfl (by decide)
  have d2 := (c0.tr hab (c1.tr hab c2)).w (T := fun k i j => (k = 4 ∧ i < 3 ∧ j < 7) ∨ (k = 6 ∧ i < 3 ∧ j < 4) ∨ (k = 8 ∧ i < 6 ∧ j < 8)) (fun k i j => by omega)
  have s3 := cpS.u (a := a) (b := b) (σ := τ2) (k := 2) (i := 0) (j := 3)
  have h4 : (am_u τ2 b 2 0 3 (τ2.1 a 2 0 3)).1 a 2 0 4 = τ2.1 a 2 0 4 := by repeat rw [u_ne (by omega)]
  have s4 := cpS.u (a := a) (b := b) (σ := (am_u τ2 b 2 0 3 (τ2.1 a 2 0 3))) (k := 2) (i := 0) (j := 4)
  rw [h4] at s4
  have t4 := (s3.tr hab s4).w (T := fun k i j => k = 2 ∧ i = 0 ∧ 3 ≤ j ∧ j < 5) (fun k i j => by omega)
  have h5 : (am_u (am_u τ2 b 2 0 3 (τ2.1 a 2 0 3)) b 2 0 4 (τ2.1 a 2 0 4)).1 a 2 0 5 = τ2.1 a 2 0 5 := by repeat rw [u_ne (by omega)]
  have s5 := cpS.u (a := a) (b := b) (σ := (am_u (am_u τ2 b 2 0 3 (τ2.1 a 2 0 3)) b 2 0 4 (τ2.1 a 2 0 4))) (k := 2) (i := 0) (j := 5)
  rw [h5] at s5
  have t5 := (t4.tr hab s5).w (T := fun k i j => k = 2 ∧ i = 0 ∧ 3 ≤ j ∧ j < 6) (fun k i j => by omega)
  have h6 : (am_u (am_u (am_u τ2 b 2 0 3 (τ2.1 a 2 0 3)) b 2 0 4 (τ2.1 a 2 0 4)) b 2 0 5 (τ2.1 a 2 0 5)).1 a 2 0 6 = τ2.1 a 2 0 6 := by repeat rw [u_ne (by omega)]
  have s6 := cpS.u (a := a) (b := b) (σ := (am_u (am_u (am_u τ2 b 2 0 3 (τ2.1 a 2 0 3)) b 2 0 4 (τ2.1 a 2 0 4)) b 2 0 5 (τ2.1 a 2 0 5))) (k := 2) (i := 0) (j := 6)
  rw [h6] at s6
  have t6 := (t5.tr hab s6).w (T := fun k i j => k = 2 ∧ i = 0 ∧ 3 ≤ j ∧ j < 7) (fun k i j => by omega)
  have h7 : (am_u (am_u (am_u (am_u τ2 b 2 0 3 (τ2.1 a 2 0 3)) b 2 0 4 (τ2.1 a 2 0 4)) b 2 0 5 (τ2.1 a 2 0 5)) b 2 0 6 (τ2.1 a 2 0 6)).1 a 2 0 7 = τ2.1 a 2 0 7 := by repeat rw [u_ne (by omega)]
  have s7 := cpS.u (a := a) (b := b) (σ := (am_u (am_u (am_u (am_u τ2 b 2 0 3 (τ2.1 a 2 0 3)) b 2 0 4 (τ2.1 a 2 0 4)) b 2 0 5 (τ2.1 a 2 0 5)) b 2 0 6 (τ2.1 a 2 0 6))) (k := 2) (i := 0) (j := 7)
  rw [h7] at s7
  have t7 := (t6.tr hab s7).w (T := fun k i j => k = 2 ∧ i = 0 ∧ 3 ≤ j ∧ j < 8) (fun k i j => by omega)
  refine ⟨_, ?_, (d2.tr hab t7).w (T := SBc) (fun k i j => by unfold SBc; omega)⟩
  unfold fn_X0_becomes fn_X0_copyTable_3_3 fn_X0_copyTable_5_5 fn_X0_copyTable_7_7
  rw [z0, z3, z7, z4, z6, z8, e0, Option.bind_some, e1, Option.bind_some, e2, Option.bind_some]
/-- a second and a third reference are made -/
theorem m_in6 : ∀ (m x fuel : Nat) (σ : am_S), x + m = 7 → m < fuel → ∃ τ, lp_X8_init_6_278 fuel 6 (nI x) σ = some τ ∧ fr (fun o _ _ _ => o = 6) σ τ := by
  intro m
  induction m with
  | zero =>
    intro x fuel σ hs hf
    obtain ⟨f, rfl⟩ : ∃ f, fuel = f + 1 := ⟨fuel - 1, by omega⟩
    refine ⟨σ, ?_, fr.rf⟩
    rw [lp_X8_init_6_278.eq_2]
    unfold lb_X8_init_6_278
    simp -implicitDefEqProofs (disch := omega) only [z7, n_le_t, ↓reduceIte]
  | succ m ih =>
    intro x fuel σ hs hf
    obtain ⟨f, rfl⟩ : ∃ f, fuel = f + 1 := ⟨fuel - 1, by omega⟩
    obtain ⟨τ, e1, e2⟩ := ih (x + 1) f (am_u (am_u (am_u σ 6 50 0 x 1) 6 51 0 x 3) 6 52 0 x 4) (by omega) (by omega)
    refine ⟨τ, ?_, ((fr.u rfl).tr ((fr.u rfl).tr (fr.u rfl))).tr e2⟩
    rw [lp_X8_init_6_278.eq_2]
    unfold lb_X8_init_6_278
    rw [z7, if_neg (fun q => absurd q (by rw [n_le_i (by omega) (by omega)]; omega)), n_in_t (show x < 7 by omega) (by omega), cond_true, cond_true, cond_true, n_cl (by omega)]
    rw [z1] at e1 ⊢
    rw [nI_add]
    exact e1
theorem m_mk6 (hg : σ.1 5 40 0 26 = nI 0 → σ.1 99 40 0 26 = nI 0) : ∃ τ, fn_X8_mk6 σ = some τ ∧ fr (fun o k i j => o = 6 ∨ ((o = 99 ∨ o = 5) ∧ k = 40 ∧ i = 0 ∧ j = 26)) σ τ ∧ τ.1 5 40 0 26 ≠ nI 0 := by
  unfold fn_X8_mk6
  by_cases c : σ.1 5 40 0 26 = nI 0
  · rw [if_pos (show σ.1 5 40 0 26 = (0 : Int32) from c), if_pos (show σ.1 99 40 0 26 = (0 : Int32) from hg c)]
    unfold fn_X8_init_6 ft_X8_init_6
    have fi : ∀ (l : List Int32) (q : am_S), fr (fun o _ _ _ => o = 6) q (am_i0 6 40 l q) := fun l q o' k' i' j' hn => ⟨if_neg hn, if_neg hn⟩
    obtain ⟨τ, e1, e2⟩ := m_in6 7 0 1000 (am_i0 6 40 [0, 0, 0, 0, 0, 0, 0, 0, 0, 0, 0, 0, 2, 0, 0, 0, 0, 0, 0, 0, 0, 0, 0, 0, 0, 1, 0, 0, 0, 0, 0, 0, 0, 0, 0, 0, 0, 0, 0, 0, 0, 0, 0, 0, 0, 0, 0, 0] (am_u σ 99 40 0 26 1)) rfl (by decide)
    refine ⟨am_u τ 5 40 0 26 1, ?_, (fr.u (by omega)).tr (((fi _ _).mono fun o k i j q => Or.inl q).tr ((e2.mono fun o k i j q => Or.inl q).tr (fr.u (by omega)))), ?_⟩
    · rw [z0] at e1 ⊢
      rw [e1, Option.bind_some]
    · rw [u_at]
      decide
  · rw [if_neg (show ¬ σ.1 5 40 0 26 = (0 : Int32) from c)]
    exact ⟨σ, rfl, fr.rf, c⟩
theorem m_in7 : ∀ (m x fuel : Nat) (σ : am_S), x + m = 7 → m < fuel → ∃ τ, lp_X8_init_7_278 fuel 7 (nI x) σ = some τ ∧ fr (fun o _ _ _ => o = 7) σ τ := by
  intro m
  induction m with
  | zero =>
    intro x fuel σ hs hf
    obtain ⟨f, rfl⟩ : ∃ f, fuel = f + 1 := ⟨fuel - 1, by omega⟩
    refine ⟨σ, ?_, fr.rf⟩
    rw [lp_X8_init_7_278.eq_2]
    unfold lb_X8_init_7_278
    simp -implicitDefEqProofs (disch := omega) only [z7, n_le_t, ↓reduceIte]
  | succ m ih =>
    intro x fuel σ hs hf
    obtain ⟨f, rfl⟩ : ∃ f, fuel = f + 1 := ⟨fuel - 1, by omega⟩
    obtain ⟨τ, e1, e2⟩ := ih (x + 1) f (am_u (am_u (am_u σ 7 50 0 x 1) 7 51 0 x 3) 7 52 0 x 4) (by omega) (by omega)
    refine ⟨τ, ?_, ((fr.u rfl).tr ((fr.u rfl).tr (fr.u rfl))).tr e2⟩
    rw [lp_X8_init_7_278.eq_2]
    unfold lb_X8_init_7_278
    rw [z7, if_neg (fun q => absurd q (by rw [n_le_i (by omega) (by omega)]; omega)), n_in_t (show x < 7 by omega) (by omega), cond_true, cond_true, cond_true, n_cl (by omega)]
    rw [z1] at e1 ⊢
    rw [nI_add]
    exact e1
theorem m_mk7 (hg : σ.1 5 40 0 27 = nI 0 → σ.1 99 40 0 27 = nI 0) : ∃ τ, fn_X8_mk7 σ = some τ ∧ fr (fun o k i j => o = 7 ∨ ((o = 99 ∨ o = 5) ∧ k = 40 ∧ i = 0 ∧ j = 27)) σ τ ∧ τ.1 5 40 0 27 ≠ nI 0 := by
  unfold fn_X8_mk7
  by_cases c : σ.1 5 40 0 27 = nI 0
  · rw [if_pos (show σ.1 5 40 0 27 = (0 : Int32) from c), if_pos (show σ.1 99 40 0 27 = (0 : Int32) from hg c)]
    unfold fn_X8_init_7 ft_X8_init_7
    have fi : ∀ (l : List Int32) (q : am_S), fr (fun o _ _ _ => o = 7) q (am_i0 7 40 l q) := fun l q o' k' i' j' hn => ⟨if_neg hn, if_neg hn⟩
    obtain ⟨τ, e1, e2⟩ := m_in7 7 0 1000 (am_i0 7 40 [0, 0, 0, 0, 0, 0, 0, 0, 0, 0, 0, 0, 2, 0, 0, 0, 0, 0, 0, 0, 0, 0, 0, 0, 0, 1, 0, 0, 0, 0, 0, 0, 0, 0, 0, 0, 0, 0, 0, 0, 0, 0, 0, 0, 0, 0, 0, 0] (am_u σ 99 40 0 27 1)) rfl (by decide)
    refine ⟨am_u τ 5 40 0 27 1, ?_, (fr.u (by omega)).tr (((fi _ _).mono fun o k i j q => Or.inl q).tr ((e2.mono fun o k i j q => Or.inl q).tr (fr.u (by omega)))), ?_⟩
    · rw [z0] at e1 ⊢
      rw [e1, Option.bind_some]
    · rw [u_at]
      decide
  · rw [if_neg (show ¬ σ.1 5 40 0 27 = (0 : Int32) from c)]
    exact ⟨σ, rfl, fr.rf, c⟩
end PCY
theorem pv_image  (σ : am_S) (hI : pu_Inv σ) : ∃ (r : Int32) (σ1 σ2 : am_S), fn_X7_image  σ = some (r, σ1) ∧ fn_X8_image  σ1 = some (r, σ2) ∧ pu_Inv σ2 := by
  obtain ⟨A, hI⟩ := hI
  have hk := hI.1.1
  have hm := hI.1.2.2.1
  have hne := hk.2.1
  have hnp := hk.1
  have hc := hI.1.2.1
  obtain ⟨τ, e1, c1⟩ := c_becomes (a := 1) (b := 2) (σ := σ) (by decide)
  have f1 : fr (fun o k _ j => o = 2 ∨ (o = 0 ∧ k = 0 ∧ j = 2)) σ (am_u τ 0 0 0 2 1) := (c1.1.mono fun o k i j q => Or.inl q.1).tr (fr.u (by omega))
  have hg := hI.1.2.2.2.2.1
  have hg1 := f1.gh1 (fun _ _ _ _ => by omega) hg
  obtain ⟨ρ, d1, d2, d3⟩ := m_mk6 (σ := am_u τ 0 0 0 2 1) hg1.1
  obtain ⟨θ, b1, c2⟩ := m_take (a := 5) (b := 6) (σ := ρ) (by decide)
  have f2 : fr (fun o k i j => o = 6 ∨ ((o = 99 ∨ o = 5) ∧ k = 40 ∧ i = 0 ∧ j = 26)) (am_u τ 0 0 0 2 1) θ := d2.tr (c2.1.mono fun o k i j q => Or.inl q.1)
  have F := (f1.mono (T := fun o k i j => (o = 2 ∨ (o = 0 ∧ k = 0 ∧ j = 2)) ∨ (o = 6 ∨ ((o = 99 ∨ o = 5) ∧ k = 40 ∧ i = 0 ∧ j = 26))) fun o k i j q => Or.inl q).tr (f2.mono fun o k i j q => Or.inr q)
  have hmρ : pu_m A 5 ρ := d2.m1 (fun _ _ _ _ => by omega) (f1.m1 (fun _ _ _ _ => by omega) hm)
  have hm6 : pu_m A 6 θ := c2.m (fun k i j q => q) hmρ
  have hc2 : pu_c A 2 θ := f2.c (fun _ _ _ => by omega) ((fr.u (S := fun o k _ j => o = 0 ∧ k = 0 ∧ j = 2) ⟨rfl, rfl, rfl⟩).c (fun _ _ _ => by omega) (c1.c (fun k i j q => q) hc))
  obtain ⟨⟨h1, h2, h3, h4, h5, h6, h7⟩, h8⟩ := hI
  refine ⟨nI 1, am_u τ 0 0 0 2 1, θ, ?_, ?_, A, ⟨⟨hk, F.c (fun k i j q => by omega) hc, F.m1 (fun k i j _ q => by omega) hm, Or.inr ⟨?_, ?_, A, hk, hc2, hm6⟩, ⟨fun q => ?_, ?_⟩, F.tp1 (fun o k j _ q => by omega) h6, fun s hs => F.s1 (fun k _ q => by omega) (fun k _ q => by omega) (fun i _ => ⟨fun q => by omega, fun q => by omega⟩) (Nat.le_refl _) (h7 s hs)⟩, F.rf1 (fun o k j _ q => by omega) h8⟩⟩
  · unfold fn_X7_image
    rw [e1]
    rfl
  · unfold fn_X8_image
    rw [d1, Option.bind_some, b1]
    rfl
  · rw [(f2 0 0 0 2 (by omega)).1, u_at]; rfl
  · rw [(c2.1 5 40 0 26 (by omega)).1]; exact d3
  · exact absurd q (by rw [(c2.1 5 40 0 26 (by omega)).1]; exact d3)
  · rw [(F 5 40 0 27 (by omega)).1, (F 99 40 0 27 (by omega)).1]; exact h5.2
/-- who is no more is taken from the shelves -/
theorem c_keep {n : Nat} (hn : n ≤ 6) : ∀ (m k fuel : Nat) (σ : am_S), k + m = 8 → m < fuel → ∃ τ, lp_X2_keepPeopleBelow_2 fuel (nI n) (nI k) σ = some τ ∧ fr (fun o k' i j => o = 10 ∧ k' = 10 ∧ i = 0 ∧ k ≤ j ∧ j < 8) σ τ ∧ ∀ j, k ≤ j → j < 8 → τ.1 10 10 0 j = if σ.1 10 10 0 j < nI (10 + n) then σ.1 10 10 0 j else mI := by
  intro m
  induction m with
  | zero =>
    intro k fuel σ hs hf
    obtain ⟨f, rfl⟩ : ∃ f, fuel = f + 1 := ⟨fuel - 1, by omega⟩
    refine ⟨σ, ?_, fr.rf, fun j _ _ => by omega⟩
    rw [lp_X2_keepPeopleBelow_2.eq_2]
    unfold lb_X2_keepPeopleBelow_2
    simp -implicitDefEqProofs (disch := omega) only [z8, n_le_t, ↓reduceIte]
  | succ m ih =>
    intro k fuel σ hs hf
    obtain ⟨f, rfl⟩ : ∃ f, fuel = f + 1 := ⟨fuel - 1, by omega⟩
    rw [lp_X2_keepPeopleBelow_2.eq_2]
    unfold lb_X2_keepPeopleBelow_2 jn_X2_keepPeopleBelow_28
    rw [z8, if_neg (fun q => absurd q (by rw [n_le_i (by omega) (by omega)]; omega)), n_in_t (show k < 8 by omega) (by omega), cond_true, cond_true, n_cl (by omega), z1, nI_add, z10, nI_add]
    by_cases c : σ.1 10 10 0 k < nI (10 + n)
    · rw [if_pos c]
      obtain ⟨τ, e1, e2, e3⟩ := ih (k + 1) f σ (by omega) (by omega)
      refine ⟨τ, e1, e2.mono fun o k' i j q => by omega, fun j h1 h2 => ?_⟩
      by_cases q : j = k
      · subst q
        rw [(e2 10 10 0 j (by omega)).1, if_pos c]
      · exact e3 j (by omega) h2
    · rw [if_neg c]
      obtain ⟨τ, e1, e2, e3⟩ := ih (k + 1) f (am_u σ 10 10 0 k mI) (by omega) (by omega)
      refine ⟨τ, e1, (fr.u (by omega)).tr (e2.mono fun o k' i j q => by omega), fun j h1 h2 => ?_⟩
      by_cases q : j = k
      · subst q
        rw [(e2 10 10 0 j (by omega)).1, u_at, if_neg c]
      · rw [e3 j (by omega) h2, u_ne (by omega)]
theorem m_keep {n : Nat} (hn : n ≤ 6) : ∀ (m k fuel : Nat) (σ : am_S), k + m = 8 → m < fuel → σ.1 5 40 0 15 = nI n → ∃ τ, lp_X8_back_24 fuel 5 (nI k) σ = some (nI 1, τ) ∧ fr (fun o k' i j => o = 5 ∧ k' = 41 ∧ i = 0 ∧ k ≤ j ∧ j < 8) σ τ ∧ ∀ j, k ≤ j → j < 8 → τ.1 5 41 0 j = if σ.1 5 41 0 j = nI 2 ∧ ¬ (σ.1 5 47 0 j < nI n) then nI 0 else σ.1 5 41 0 j := by
  intro m
  induction m with
  | zero =>
    intro k fuel σ hs hf hN
    obtain ⟨f, rfl⟩ : ∃ f, fuel = f + 1 := ⟨fuel - 1, by omega⟩
    refine ⟨σ, ?_, fr.rf, fun j _ _ => by omega⟩
    rw [lp_X8_back_24.eq_2]
    unfold lb_X8_back_24
    simp -implicitDefEqProofs (disch := omega) only [z8, z1, n_le_t, ↓reduceIte]
  | succ m ih =>
    intro k fuel σ hs hf hN
    obtain ⟨f, rfl⟩ : ∃ f, fuel = f + 1 := ⟨fuel - 1, by omega⟩
    rw [lp_X8_back_24.eq_2]
    unfold lb_X8_back_24 jn_X8_back_60
    rw [z8, if_neg (fun q => absurd q (by rw [n_le_i (by omega) (by omega)]; omega)), n_in_t (show k < 8 by omega) (by omega), cond_true, cond_true, cond_true, n_cl (by omega), z1, nI_add, hN, z2]
    by_cases c : σ.1 5 41 0 k = nI 2
    · rw [if_pos c]
      by_cases d : σ.1 5 47 0 k < nI n
      · rw [if_pos d]
        obtain ⟨τ, e1, e2, e3⟩ := ih (k + 1) f σ (by omega) (by omega) hN
        refine ⟨τ, e1, e2.mono fun o k' i j q => by omega, fun j h1 h2 => ?_⟩
        by_cases q : j = k
        · subst q
          rw [(e2 5 41 0 j (by omega)).1, if_neg (fun z => z.2 d)]
        · exact e3 j (by omega) h2
      · rw [if_neg d]
        obtain ⟨τ, e1, e2, e3⟩ := ih (k + 1) f (am_u σ 5 41 0 k (nI 0)) (by omega) (by omega) (by rw [u_ne (by omega)]; exact hN)
        refine ⟨τ, e1, (fr.u (by omega)).tr (e2.mono fun o k' i j q => by omega), fun j h1 h2 => ?_⟩
        by_cases q : j = k
        · subst q
          rw [(e2 5 41 0 j (by omega)).1, u_at, if_pos ⟨c, d⟩]
        · rw [e3 j (by omega) h2, u_ne (by omega), u_ne (by omega)]
    · rw [if_neg c]
      obtain ⟨τ, e1, e2, e3⟩ := ih (k + 1) f σ (by omega) (by omega) hN
      refine ⟨τ, e1, e2.mono fun o k' i j q => by omega, fun j h1 h2 => ?_⟩
      by_cases q : j = k
      · subst q
        rw [(e2 5 41 0 j (by omega)).1, if_neg (fun z => c z.1)]
      · exact e3 j (by omega) h2
theorem pv_back  (σ : am_S) (hI : pu_Inv σ) : ∃ (r : Int32) (σ1 σ2 : am_S), fn_X7_back  σ = some (r, σ1) ∧ fn_X8_back 5  σ1 = some (r, σ2) ∧ pu_Inv σ2 := by
  obtain ⟨A, hI⟩ := hI
  have hk := hI.1.1
  have hm := hI.1.2.2.1
  have hne := hk.2.1
  have hnp := hk.1
  have hc := hI.1.2.1
  rcases id hI.1.2.2.2.1 with ⟨k1, k2⟩ | ⟨k1, k2, K, hkK, cK, mK⟩
  · refine pv_t hI 3 (by decide) ?_ (fun σ1 hJ hF => ?_)
    · unfold fn_X7_back
      rw [k1, if_pos (show nI 0 = (0 : Int32) from rfl)]
      exact g_eta (fn_X7_refuse (-nI 5) σ)
    · unfold fn_X8_back
      rw [(hF 5 40 0 26 (by unfold SJ SX; omega)).1, k2, if_pos (show nI 0 = (0 : Int32) from rfl)]
      exact g_eta (fn_X8_refuse 5 (-nI 5) σ1)
  · obtain ⟨τ, e1, c1⟩ := c_becomes (a := 2) (b := 1) (σ := σ) (by decide)
    have hc1 : pu_c K 1 τ := c1.c (fun k i j q => q) cK
    have hneK := hkK.2.1
    obtain ⟨ρ, d1, d2, d3⟩ := c_keep hneK 8 0 1000 τ rfl (by decide)
    have f1 : fr (fun o k i _ => o = 1 ∨ (o = 10 ∧ k = 10 ∧ i = 0)) σ ρ := (c1.1.mono fun o k i j q => Or.inl q.1).tr (d2.mono fun o k i j q => by omega)
    have hcρ : pu_c K 1 ρ := d2.c (fun _ _ _ => by omega) hc1
    have mKρ : pu_m K 6 ρ := f1.m1 (fun _ _ _ _ => by omega) mK
    obtain ⟨θ, b1, c2⟩ := m_take (a := 6) (b := 5) (σ := ρ) (by decide)
    have hm5 : pu_m K 5 θ := c2.m (fun k i j q => q) mKρ
    obtain ⟨φ, g1, g2, g3⟩ := m_keep hneK 8 0 1000 θ rfl (by decide) hm5.ne
    have f2 : fr (fun o k i j => o = 5 ∧ (STk k i j ∨ (k = 41 ∧ i = 0))) ρ φ := (c2.1.mono fun o k i j q => ⟨q.1, Or.inl q.2⟩).tr (g2.mono fun o k i j q => by omega)
    have F := (f1.mono (T := fun o k i j => (o = 1 ∨ (o = 10 ∧ k = 10 ∧ i = 0)) ∨ (o = 5 ∧ (STk k i j ∨ (k = 41 ∧ i = 0)))) fun o k i j q => Or.inl q).tr (f2.mono fun o k i j q => Or.inr q)
    obtain ⟨⟨h1, h2, h3, h4, h5, h6, h7⟩, h8⟩ := hI
    have c10 : ∀ s, s < 8 → φ.1 10 10 0 s = if σ.1 10 10 0 s < nI (10 + lne K) then σ.1 10 10 0 s else mI := fun s hs => by
      rw [(f2 10 10 0 s (by omega)).1, d3 s (Nat.zero_le _) hs, (c1.1 10 10 0 s (by omega)).1]
    have c41 : ∀ s, s < 8 → φ.1 5 41 0 s = if σ.1 5 41 0 s = nI 2 ∧ ¬ (σ.1 5 47 0 s < nI (lne K)) then nI 0 else σ.1 5 41 0 s := fun s hs => by
      rw [g3 s (Nat.zero_le _) hs, (c2.1 5 41 0 s (by unfold STk; omega)).1, (c2.1 5 47 0 s (by unfold STk; omega)).1, (f1 5 41 0 s (by omega)).1, (f1 5 47 0 s (by omega)).1]
    refine ⟨nI 1, ρ, φ, ?_, ?_, K, ⟨⟨hkK, f2.c (fun _ _ _ => by omega) hcρ, g2.m1 (fun _ _ _ _ => by omega) hm5, F.kp1 (fun o k i j _ q => by unfold STk at q; omega) h4, F.gh1 (fun o j _ _ q => by unfold STk at q; omega) h5, F.tp1 (fun o k j _ q => by unfold STk at q; omega) h6, fun s hs => ?_⟩, F.rf1 (fun o k j _ q => by unfold STk at q; omega) h8⟩⟩
    · unfold fn_X7_back fn_X2_keepPeopleBelow
      rw [k1, if_neg (show ¬ nI 1 = (0 : Int32) by decide), e1, Option.bind_some, hc1.ne, z0, d1]
      rfl
    · unfold fn_X8_back
      rw [(f1 5 40 0 26 (by omega)).1, if_neg (show ¬ σ.1 5 40 0 26 = (0 : Int32) from k2), if_neg (show ¬ σ.1 5 40 0 26 = (0 : Int32) from k2), b1, Option.bind_some]
      exact g1
    · have e47 : φ.1 5 47 0 s = σ.1 5 47 0 s := (F 5 47 0 s (by unfold STk; omega)).1
      have e11 : φ.1 10 11 0 s = σ.1 10 11 0 s := (F 10 11 0 s (by omega)).1
      have e42 : φ.1 5 42 0 s = σ.1 5 42 0 s := (F 5 42 0 s (by unfold STk; omega)).1
      have e43 : φ.1 5 43 0 s = σ.1 5 43 0 s := (F 5 43 0 s (by unfold STk; omega)).1
      rcases pu_s1_of.mp (h7 s hs) with ⟨q1, q2⟩ | ⟨t, n, q1, q2, q3, q4, q5, q6, q7, q8⟩ | ⟨p, q1, q2, q3, q4⟩
      · refine pu_s1_of.mpr (Or.inl ⟨?_, ?_⟩)
        · rw [c10 s hs, q1]; exact ite_self _
        · rw [c41 s hs, q2]; exact ite_self _
      · refine pu_s1_of.mpr (Or.inr (Or.inl ⟨t, n, q1, q2, ?_, ?_, ?_, ?_, ?_, fun i hi => ?_⟩))
        · rw [c10 s hs, q3, if_pos (by rw [n_lt_i (by omega) (by omega)]; omega)]
        · rw [e11, q4]
        · rw [c41 s hs, q5, if_neg (fun z => absurd z.1 (by decide))]
        · rw [e42, q6]
        · rw [e43, q7]
        · rw [(F 10 13 s i (by omega)).2, (F 5 45 s i (by unfold STk; omega)).2]; exact q8 i hi
      · have hp6 : p < 6 := by omega
        by_cases c : p < lne K
        · refine pu_s1_of.mpr (Or.inr (Or.inr ⟨p, c, ?_, ?_, ?_⟩))
          · rw [c10 s hs, q2, if_pos (by rw [n_lt_i (by omega) (by omega)]; omega)]
          · rw [c41 s hs, q3, q4, if_neg (fun z => z.2 (by rw [n_lt_i (by omega) (by omega)]; exact c))]
          · rw [e47, q4]
        · refine pu_s1_of.mpr (Or.inl ⟨?_, ?_⟩)
          · rw [c10 s hs, q2, if_neg (by rw [n_lt_i (by omega) (by omega)]; omega)]
          · rw [c41 s hs, q3, q4, if_pos ⟨rfl, by rw [n_lt_i (by omega) (by omega)]; exact c⟩]
/-! the beginning -/
def ckI (q : am_S) : Bool := (List.range 3).all (fun w => (List.range 7).all fun v => (q.1 1 4 w v == nI (if w = 0 then 1 else if w = 1 then 3 else 4)) && (q.1 5 (50 + w) 0 v == nI (if w = 0 then 1 else if w = 1 then 3 else 4))) &&
  ((List.range 3).all (fun r => (List.range 4).all fun j => (q.1 1 6 r j == nI 0) && (q.1 5 54 r j == nI 0)) &&
  ((List.range 6).all (fun p => (List.range 8).all fun j => (q.1 1 8 p j == nI 0) && (q.1 5 (55 + j) 0 p == nI 0)) &&
  ((q.1 1 2 0 3 == nI 0) && ((q.1 1 2 0 4 == nI 0) && ((q.1 1 2 0 5 == nI 2) && ((q.1 1 2 0 6 == nI 1) && ((q.1 1 2 0 7 == nI 0) &&
  ((q.1 5 40 0 13 == nI 0) && ((q.1 5 40 0 15 == nI 0) && ((q.1 5 40 0 12 == nI 2) && ((q.1 5 40 0 25 == nI 1) && ((q.1 5 40 0 24 == nI 0) &&
  ((q.1 0 0 0 2 == nI 0) && ((q.1 5 40 0 26 == nI 0) && ((q.1 99 40 0 26 == nI 0) && ((q.1 99 40 0 27 == nI 0) && ((q.1 11 14 0 2 == nI 0) && ((q.1 5 40 0 7 == nI 0) &&
  ((List.range 8).all (fun s => (q.1 10 10 0 s == mI) && (q.1 5 41 0 s == nI 0)) &&
  (List.range 5).all (fun k => q.1 0 1 0 k == q.1 5 49 0 (k + 2)))))))))))))))))))))
theorem ckI_I {q : am_S} (h : ckI q = true) : pu_Inv q := by
  unfold ckI at h
  simp only [Bool.and_eq_true, List.all_eq_true, List.mem_range, beq_iff_eq] at h
  obtain ⟨hV, hP, hE, c1, c2, c3, c4, c5, m1, m2, m3, m4, m5, k1, k2, g1, g2, t1, t2, hs, hr⟩ := h
  refine ⟨(fun w _ => if w = 0 then 1 else if w = 1 then 3 else 4, fun _ _ => 0, fun _ _ => 0, (0, 0, 2), (nI 1, nI 0)), ⟨⟨by decide, by decide, by decide, fun v _ => ⟨by show 1 ≤ 9; decide, by show 1 ≤ 3; decide, by show 3 ≤ 12; decide, by show 4 ≤ 20; decide⟩, fun r hr => absurd hr (Nat.not_lt_zero _), fun p hp => absurd hp (Nat.not_lt_zero _)⟩, ⟨fun w hw v hv => (hV w hw v hv).1, fun r hr j hj => (hP r hr j hj).1, fun p hp j hj => (hE p hp j hj).1, c1, c2, c3, c4, c5⟩, ⟨fun w hw v hv => (hV w hw v hv).2, fun r hr j hj => (hP r hr j hj).2, fun p hp j hj => (hE p hp j hj).2, m1, m2, m3, m4, m5⟩, Or.inl ⟨k1, k2⟩, ⟨fun _ => g1, fun _ => g2⟩, ⟨0, by omega, t1, t2, fun i hi => absurd hi (Nat.not_lt_zero _)⟩, fun s hsl => Or.inl (hs s hsl)⟩, hr⟩
def ck2 : Bool := match fn_X7_init_0 st_s0 with
  | none => false
  | some q1 => match fn_X8_init_5 q1 with
    | none => false
    | some q2 => ckI q2
theorem ck2_t : ck2 = true := by decide +kernel
theorem pv_init : ∃ q1, fn_X7_init_0 st_s0 = some q1 ∧ ∃ q2, fn_X8_init_5 q1 = some q2 ∧ pu_Inv q2 := by
  have h := ck2_t
  unfold ck2 at h
  cases e : fn_X7_init_0 st_s0 with
  | none => rw [e] at h; cases h
  | some q1 =>
    rw [e] at h
    refine ⟨q1, rfl, ?_⟩
    cases e2 : fn_X8_init_5 q1 with
    | none => simp only [e2] at h; cases h
    | some q2 =>
      simp only [e2] at h
      exact ⟨q2, rfl, ckI_I h⟩
