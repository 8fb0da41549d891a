/-! ===== Ways.measure whole ===== -/
theorem fwm_in {k v w : Nat} {D : Nat → Nat → Nat} {a b : Nat} (h : a < v ∨ (a = v ∧ b < w)) : fwm k v w D a b = fwp k D a b := if_pos h
theorem fwm_out {k v w : Nat} {D : Nat → Nat → Nat} {a b : Nat} (h : ¬ (a < v ∨ (a = v ∧ b < w))) : fwm k v w D a b = D a b := if_neg h
theorem fwm_col {k v w : Nat} {D : Nat → Nat → Nat} (h : D k k = 0) (a : Nat) : fwm k v w D a k = D a k := by
  unfold fwm
  rw [fwp_col h]
  split <;> rfl
theorem fwm_row {k v w : Nat} {D : Nat → Nat → Nat} (h : D k k = 0) (b : Nat) : fwm k v w D k b = D k b := by
  unfold fwm
  rw [fwp_row h]
  split <;> rfl
theorem fwm_next {k v w : Nat} {D : Nat → Nat → Nat} (a b : Nat) : fwm k v (w + 1) D a b = if a = v ∧ b = w then fwp k D v w else fwm k v w D a b := by
  unfold fwm
  by_cases c : a = v ∧ b = w
  · rw [if_pos c, if_pos (by omega), c.1, c.2]
  · rw [if_neg c]
    by_cases d : a < v ∨ (a = v ∧ b < w)
    · rw [if_pos (by omega), if_pos d]
    · rw [if_neg (by omega), if_neg d]
theorem c_sh10 {k2 : Int32 → Int32 → am_S → Option am_S} {k v : Nat} {D : Nat → Nat → Nat} (hk : k < 7) (hv : v < 7) (hD : D k k = 0) (hB : ∀ a b, D a b ≤ 10000000) : ∀ (m w : Nat) (σ : am_S) (fuel : Nat), w + m = 7 → m < fuel → (∀ a b, a < 7 → b < 7 → σ.1 12 19 a b = nI (fwm k v w D a b)) →
    ∃ σ', lp_X6_shortenBy_10 k2 fuel (nI k) (nI v) (nI w) σ = k2 (nI k) (nI (v + 1)) σ' ∧ fr S12 σ σ' ∧ ∀ a b, a < 7 → b < 7 → σ'.1 12 19 a b = nI (fwm k v 7 D a b) := by
  intro m
  induction m with
  | zero =>
    intro w σ fuel hs hf hr
    obtain ⟨f, rfl⟩ : ∃ f, fuel = f + 1 := ⟨fuel - 1, by omega⟩
    obtain rfl : w = 7 := by omega
    refine ⟨σ, ?_, fr.rf, hr⟩
    show lb_X6_shortenBy_10 _ _ _ _ _ _ = _
    unfold lb_X6_shortenBy_10
    simp -implicitDefEqProofs (disch := omega) only [z1, z7, n_le_t, if_true, nI_add]
  | succ m ih =>
    intro w σ fuel hs hf hr
    obtain ⟨f, rfl⟩ : ∃ f, fuel = f + 1 := ⟨fuel - 1, by omega⟩
    have hw : w < 7 := by omega
    have b1 := hB v w
    have b2 := hB v k
    have b3 := hB k w
    have hr2 : ∀ a b, a < 7 → b < 7 → (am_u σ 12 19 v w (nI (fwp k D v w))).1 12 19 a b = nI (fwm k v (w + 1) D a b) := fun a b ha hb => by
      rw [fwm_next]
      by_cases c : a = v ∧ b = w
      · rw [if_pos c, c.1, c.2, u_at]
      · rw [if_neg c, u_ne (by omega), hr a b ha hb]
    obtain ⟨σ', e1, e2, e3⟩ := ih (w + 1) _ f (by omega) (by omega) hr2
    refine ⟨σ', ?_, (fr.u ⟨rfl, rfl⟩).tr e2, e3⟩
    rw [← e1]
    show lb_X6_shortenBy_10 _ _ _ _ _ _ = _
    unfold lb_X6_shortenBy_10
    have hx : (if nI (D v k + D k w) < nI (D v w) then nI (D v k + D k w) else nI (D v w)) = nI (fwp k D v w) := by
      simp -implicitDefEqProofs (disch := omega) only [n_lt_i]
      unfold fwp
      split
      · rw [Nat.min_eq_right (by omega)]
      · rw [Nat.min_eq_left (by omega)]
    simp -implicitDefEqProofs (disch := omega) only [z1, z7, n_le_f, if_false, n_in_t, cond_true, n_cl, hr, fwm_col hD, fwm_row hD, fwm_out, hx, nI_add]
theorem fwm_7 {k v : Nat} {D : Nat → Nat → Nat} {a b : Nat} (hb : b < 7) : fwm k v 7 D a b = fwm k (v + 1) 0 D a b := by
  unfold fwm
  by_cases c : a < v ∨ (a = v ∧ b < 7)
  · rw [if_pos c, if_pos (by omega)]
  · rw [if_neg c, if_neg (by omega)]
theorem c_sh2 {k : Nat} {D : Nat → Nat → Nat} (hk : k < 7) (hD : D k k = 0) (hB : ∀ a b, D a b ≤ 10000000) : ∀ (m v : Nat) (σ : am_S) (fuel : Nat), v + m = 7 → m < fuel → (∀ a b, a < 7 → b < 7 → σ.1 12 19 a b = nI (fwm k v 0 D a b)) →
    ∃ σ', lp_X6_shortenBy_2 fuel (nI k) (nI v) σ = some σ' ∧ fr S12 σ σ' ∧ ∀ a b, a < 7 → b < 7 → σ'.1 12 19 a b = nI (fwp k D a b) := by
  intro m
  induction m with
  | zero =>
    intro v σ fuel hs hf hr
    obtain ⟨f, rfl⟩ : ∃ f, fuel = f + 1 := ⟨fuel - 1, by omega⟩
    obtain rfl : v = 7 := by omega
    refine ⟨σ, ?_, fr.rf, fun a b ha hb => by rw [hr a b ha hb, fwm_in (Or.inl ha)]⟩
    show lb_X6_shortenBy_2 _ _ _ _ = _
    unfold lb_X6_shortenBy_2
    simp -implicitDefEqProofs (disch := omega) only [z7, n_le_t, if_true]
  | succ m ih =>
    intro v σ fuel hs hf hr
    obtain ⟨f, rfl⟩ : ∃ f, fuel = f + 1 := ⟨fuel - 1, by omega⟩
    obtain ⟨σ1, e1, e2, e3⟩ := c_sh10 (k2 := lp_X6_shortenBy_2 f) (v := v) hk (by omega) hD hB 7 0 σ 1000 rfl (by decide) hr
    obtain ⟨σ', e4, e5, e6⟩ := ih (v + 1) σ1 f (by omega) (by omega) (fun a b ha hb => by rw [e3 a b ha hb, fwm_7 hb])
    refine ⟨σ', ?_, e2.tr e5, e6⟩
    rw [← e4, ← e1]
    show lb_X6_shortenBy_2 _ _ _ _ = _
    unfold lb_X6_shortenBy_2
    simp -implicitDefEqProofs (disch := omega) only [z0, z7, n_le_f, if_false]
theorem c_sh {k : Nat} {D : Nat → Nat → Nat} {σ : am_S} (hk : k < 7) (hD : D k k = 0) (hB : ∀ a b, D a b ≤ 10000000) (hr : ∀ a b, a < 7 → b < 7 → σ.1 12 19 a b = nI (D a b)) :
    ∃ σ', fn_X6_shortenBy (nI k) σ = some σ' ∧ fr S12 σ σ' ∧ ∀ a b, a < 7 → b < 7 → σ'.1 12 19 a b = nI (fwp k D a b) := by
  unfold fn_X6_shortenBy
  rw [z0]
  exact c_sh2 hk hD hB 7 0 σ 1000 rfl (by decide) fun a b ha hb => by rw [hr a b ha hb, fwm_out (by omega)]
theorem c_ms133 {D : Nat → Nat → Nat} (hD : ∀ v, D v v = 0) (hB : ∀ a b, D a b ≤ 10000000) : ∀ (m k : Nat) (σ : am_S) (fuel : Nat), k + m = 7 → m < fuel → (∀ a b, a < 7 → b < 7 → σ.1 12 19 a b = nI (fwN k D a b)) →
    ∃ σ', lp_X6_measure_8_133 fuel (nI k) σ = some σ' ∧ fr S12 σ σ' ∧ ∀ a b, a < 7 → b < 7 → σ'.1 12 19 a b = nI (fwN 7 D a b) := by
  intro m
  induction m with
  | zero =>
    intro k σ fuel hs hf hr
    obtain ⟨f, rfl⟩ : ∃ f, fuel = f + 1 := ⟨fuel - 1, by omega⟩
    obtain rfl : k = 7 := by omega
    refine ⟨σ, ?_, fr.rf, hr⟩
    show lb_X6_measure_8_133 _ _ _ = _
    unfold lb_X6_measure_8_133
    simp -implicitDefEqProofs (disch := omega) only [z7, n_le_t, if_true]
  | succ m ih =>
    intro k σ fuel hs hf hr
    obtain ⟨f, rfl⟩ : ∃ f, fuel = f + 1 := ⟨fuel - 1, by omega⟩
    obtain ⟨σ1, e1, e2, e3⟩ := c_sh (k := k) (D := fwN k D) (by omega) (fwN_0 hD k k) (fun a b => Nat.le_trans (fwN_le k a b) (hB a b)) hr
    obtain ⟨σ', e4, e5, e6⟩ := ih (k + 1) σ1 f (by omega) (by omega) e3
    refine ⟨σ', ?_, e2.tr e5, e6⟩
    rw [← e4]
    show lb_X6_measure_8_133 _ _ _ = _
    unfold lb_X6_measure_8_133
    simp -implicitDefEqProofs (disch := omega) only [z1, z7, n_le_f, if_false, e1, Option.bind_some, nI_add]
/-- the table at the start, for a way of counting -/
def M0 (A : pu_L) (p w M far : Nat) (wo : Option Nat) : Nat → Nat → Nat := fun v u => rwN far (nxN A wo v) (wtN A p w M v) v 5 u
/-- the table of all ways -/
def DN (A : pu_L) (p w M far : Nat) (wo : Option Nat) : Nat → Nat → Nat := fwN 7 (M0 A p w M far wo)
section PME
variable {A : pu_L} {p w : Nat}
theorem c_ms3 (hk : pu_k A) (hp : p < lne A) (hw : w < 5) {wo : Option Nat} (hwo : ∀ r, wo = some r → r < 3) : ∀ (m v : Nat) (σ : am_S) (fuel : Nat), v + m = 7 → m < fuel → pu_c A 1 σ → (∀ a b, a < v → b < 7 → σ.1 12 19 a b = nI (M0 A p w 64 1000000 wo a b)) →
    ∃ σ', lp_X6_measure_8_3 fuel 1 1 p (nI w) (oI wo) (nI v) σ = some σ' ∧ fr S12 σ σ' ∧ ∀ a b, a < 7 → b < 7 → σ'.1 12 19 a b = nI (DN A p w 64 1000000 wo a b) := by
  intro m
  induction m with
  | zero =>
    intro v σ fuel hs hf hc hr
    obtain ⟨f, rfl⟩ : ∃ f, fuel = f + 1 := ⟨fuel - 1, by omega⟩
    obtain rfl : v = 7 := by omega
    obtain ⟨σ', e1, e2, e3⟩ := c_ms133 (D := M0 A p w 64 1000000 wo) (fun v => rwN_0 5) (fun a b => Nat.le_trans (rwN_le 5 b) (by decide)) 7 0 σ 1000 rfl (by decide) hr
    refine ⟨σ', ?_, e2, e3⟩
    show lb_X6_measure_8_3 _ _ _ _ _ _ _ _ = _
    unfold lb_X6_measure_8_3
    simp -implicitDefEqProofs (disch := omega) only [z0, z7, n_le_t, if_true, e1]
  | succ m ih =>
    intro v σ fuel hs hf hc hr
    obtain ⟨f, rfl⟩ : ∃ f, fuel = f + 1 := ⟨fuel - 1, by omega⟩
    have hv : v < 7 := by omega
    obtain ⟨σ1, a1, a2, a3, a4⟩ := c_fill19 (v := v) (x := nI 1000000) 7 0 σ 1000 rfl (by decide)
    have hc1 : pu_c A 1 (am_u σ1 12 19 v v (nI 0)) := (a2.tr (fr.u ⟨rfl, rfl, rfl⟩)).c (fun k i j q => by obtain ⟨q, -⟩ := q; cases q) hc
    obtain ⟨σ2, b1, b2, b3⟩ := c_ms36 (k3 := lp_X6_measure_8_3 f) hk hp hw hwo hv 5 0 (am_u σ1 12 19 v v (nI 0)) 1000 rfl (by decide) hc1 (fun u hu => by
      unfold rwN
      by_cases c : u = v
      · rw [if_pos c, c, u_at]
      · rw [if_neg c, u_ne (by omega), a3 u (Nat.zero_le _) hu])
    have hfr : fr (S12r v) σ σ2 := (a2.tr (fr.u ⟨rfl, rfl, rfl⟩)).tr b2
    obtain ⟨σ', e4, e5, e6⟩ := ih (v + 1) σ2 f (by omega) (by omega) (hfr.c (fun k i j q => by obtain ⟨q, -⟩ := q; cases q) hc) (fun a b ha hb => by
      by_cases c : a = v
      · subst c
        exact b3 b hb
      · rw [(hfr 12 19 a b (fun q => c q.2.2)).1]
        exact hr a b (by omega) hb)
    refine ⟨σ', ?_, (hfr.mono S12r_S).tr e5, e6⟩
    rw [← e4, ← b1]
    show lb_X6_measure_8_3 _ _ _ _ _ _ _ _ = _
    unfold lb_X6_measure_8_3 fn_J7_fill_53178_19
    simp -implicitDefEqProofs (disch := omega) only [z0, z7, z106, n_le_f, if_false, n_in_t, cond_true, n_cl, a1, Option.bind_some]
theorem c_measure (hk : pu_k A) (hp : p < lne A) (hw : w < 5) {wo : Option Nat} (hwo : ∀ r, wo = some r → r < 3) {σ : am_S} (hc : pu_c A 1 σ) :
    ∃ σ', fn_X6_measure_8 1 1 p (nI w) (oI wo) σ = some σ' ∧ fr S12 σ σ' ∧ ∀ a b, a < 7 → b < 7 → σ'.1 12 19 a b = nI (DN A p w 64 1000000 wo a b) := by
  unfold fn_X6_measure_8
  rw [z0]
  exact c_ms3 hk hp hw hwo 7 0 σ 1000 rfl (by decide) hc fun a b ha _ => absurd ha (Nat.not_lt_zero _)
end PME
