/-! ===== calls: the best place ===== -/
/-- paid together (x = 0), or the longest (x = 1) -/
def bxN (x a d : Nat) : Nat := if x = 0 then a + d else if a < d then d else a
def acN (x : Nat) (D : Nat → Nat → Nat) (v : Nat) : Nat → Nat
  | 0 => 0
  | n + 1 => bxN x (acN x D v n) (D n v)
theorem bx_le {x a d : Nat} : bxN x a d ≤ a + d := by
  unfold bxN
  by_cases h : x = 0
  · rw [if_pos h]; exact Nat.le_refl _
  · rw [if_neg h]
    by_cases c : a < d
    · rw [if_pos c]; omega
    · rw [if_neg c]; omega
theorem acN_le {x v B : Nat} {D : Nat → Nat → Nat} (h : ∀ p, D p v ≤ B) : ∀ n, acN x D v n ≤ n * B
  | 0 => Nat.zero_le _
  | n + 1 => by
    have h1 := acN_le (x := x) h n
    have h2 := h n
    have h3 : acN x D v (n + 1) ≤ acN x D v n + D n v := bx_le
    rw [Nat.succ_mul]
    omega
/-- the first place below n with the least f -/
def mnN (f : Nat → Nat) : Nat → Nat
  | 0 => 0
  | n + 1 => if f n < f (mnN f n) then n else mnN f n
theorem mnN_lt {f : Nat → Nat} : ∀ n, mnN f (n + 1) ≤ n
  | 0 => by show (if f 0 < f 0 then 0 else 0) ≤ 0; split <;> omega
  | n + 1 => by
    show (if f (n + 1) < f (mnN f (n + 1)) then n + 1 else mnN f (n + 1)) ≤ n + 1
    have := mnN_lt (f := f) n
    split <;> omega
/-- what a person at home pays to v -/
def hmN (A : pu_L) (x p v : Nat) : Nat := DN A p x 64 1000000 none (lE A p 3) v
theorem hm_le {A : pu_L} {x p v : Nat} : hmN A x p v ≤ 1000000 := DN_far
section PBP
variable {A : pu_L} {σ : am_S} {p x : Nat}
theorem c_fill7  : ∀ (m k fuel : Nat) (σ : am_S), k + m = 7 → m < fuel → (∀ v, v < k → σ.1 12 21 0 v = nI 0) → ∃ τ, lp_J7_fill_53178_21_5 fuel (nI 0) (nI k) (nI 7) σ = some τ ∧ fr (fun o k _ _ => o = 12 ∧ k = 21) σ τ ∧ ∀ v, v < 7 → τ.1 12 21 0 v = nI 0 := by
  intro m
  induction m with
  | zero =>
    intro k fuel σ hs hf h0
    obtain ⟨f, rfl⟩ : ∃ f, fuel = f + 1 := ⟨fuel - 1, by omega⟩
    obtain rfl : k = 7 := by omega
    refine ⟨σ, ?_, fr.rf, h0⟩
    rw [lp_J7_fill_53178_21_5.eq_2]
    unfold lb_J7_fill_53178_21_5
    simp -implicitDefEqProofs (maxSteps := 2000000) (disch := omega) only [z0, z1, z2, z3, z4, z5, z6, z7, z8, z9, z10, z12, z15, z18, z20, z40, z64, z128, z250, z999, z1000, zn, if_true, if_false, n_eq_f, Nat.reduceAdd, n_le_t, n_le_f, n_lt_t, n_lt_f, n_in_t, n_cl, n_eq_t, nI_add, n_mul, n_sub, cond_true, cond_false, Option.bind_some, ]
  | succ m ih =>
    intro k fuel σ hs hf h0
    obtain ⟨f, rfl⟩ : ∃ f, fuel = f + 1 := ⟨fuel - 1, by omega⟩
    obtain ⟨τ, e1, e2, e3⟩ := ih (k + 1) f (am_u σ 12 21 0 k (nI 0)) (by omega) (by omega) (fun v hv => by
      by_cases c : v = k
      · subst c; exact u_at
      · rw [u_ne (by omega)]; exact h0 v (by omega))
    refine ⟨τ, ?_, (fr.u ⟨rfl, rfl⟩).tr e2, e3⟩
    rw [lp_J7_fill_53178_21_5.eq_2]
    unfold lb_J7_fill_53178_21_5
    simp -implicitDefEqProofs (maxSteps := 2000000) (disch := omega) only [z0, z1, z2, z3, z4, z5, z6, z7, z8, z9, z10, z12, z15, z18, z20, z40, z64, z128, z250, z999, z1000, zn, if_true, if_false, n_eq_f, Nat.reduceAdd, n_le_t, n_le_f, n_lt_t, n_lt_f, n_in_t, n_cl, n_eq_t, nI_add, n_mul, n_sub, cond_true, cond_false, Option.bind_some, e1]
theorem m_fillA  : ∀ (m k fuel : Nat) (σ : am_S), k + m = 7 → m < fuel → (∀ v, v < k → σ.1 5 66 0 v = nI 0) → ∃ τ, lp_X8_market_2 fuel 5 (nI k) σ = lp_X8_market_23 1000 5 (nI 0) τ ∧ fr (fun o k _ _ => o = 5 ∧ k = 66) σ τ ∧ ∀ v, v < 7 → τ.1 5 66 0 v = nI 0 := by
  intro m
  induction m with
  | zero =>
    intro k fuel σ hs hf h0
    obtain ⟨f, rfl⟩ : ∃ f, fuel = f + 1 := ⟨fuel - 1, by omega⟩
    obtain rfl : k = 7 := by omega
    refine ⟨σ, ?_, fr.rf, h0⟩
    rw [lp_X8_market_2.eq_2]
    unfold lb_X8_market_2
    simp -implicitDefEqProofs (maxSteps := 2000000) (disch := omega) only [z0, z1, z2, z3, z4, z5, z6, z7, z8, z9, z10, z12, z15, z18, z20, z40, z64, z128, z250, z999, z1000, zn, if_true, if_false, n_eq_f, Nat.reduceAdd, n_le_t, n_le_f, n_lt_t, n_lt_f, n_in_t, n_cl, n_eq_t, nI_add, n_mul, n_sub, cond_true, cond_false, Option.bind_some, ]
  | succ m ih =>
    intro k fuel σ hs hf h0
    obtain ⟨f, rfl⟩ : ∃ f, fuel = f + 1 := ⟨fuel - 1, by omega⟩
    obtain ⟨τ, e1, e2, e3⟩ := ih (k + 1) f (am_u σ 5 66 0 k (nI 0)) (by omega) (by omega) (fun v hv => by
      by_cases c : v = k
      · subst c; exact u_at
      · rw [u_ne (by omega)]; exact h0 v (by omega))
    refine ⟨τ, ?_, (fr.u ⟨rfl, rfl⟩).tr e2, e3⟩
    rw [lp_X8_market_2.eq_2]
    unfold lb_X8_market_2
    simp -implicitDefEqProofs (maxSteps := 2000000) (disch := omega) only [z0, z1, z2, z3, z4, z5, z6, z7, z8, z9, z10, z12, z15, z18, z20, z40, z64, z128, z250, z999, z1000, zn, if_true, if_false, n_eq_f, Nat.reduceAdd, n_le_t, n_le_f, n_lt_t, n_lt_f, n_in_t, n_cl, n_eq_t, nI_add, n_mul, n_sub, cond_true, cond_false, Option.bind_some, e1]
theorem m_fillB  : ∀ (m k fuel : Nat) (σ : am_S), k + m = 7 → m < fuel → (∀ v, v < k → σ.1 5 66 0 v = nI 0) → ∃ τ, lp_X8_meet_19 fuel 5 (nI x) (nI k) σ = lp_X8_meet_40 1000 5 (nI x) (nI 0) τ ∧ fr (fun o k _ _ => o = 5 ∧ k = 66) σ τ ∧ ∀ v, v < 7 → τ.1 5 66 0 v = nI 0 := by
  intro m
  induction m with
  | zero =>
    intro k fuel σ hs hf h0
    obtain ⟨f, rfl⟩ : ∃ f, fuel = f + 1 := ⟨fuel - 1, by omega⟩
    obtain rfl : k = 7 := by omega
    refine ⟨σ, ?_, fr.rf, h0⟩
    rw [lp_X8_meet_19.eq_2]
    unfold lb_X8_meet_19
    simp -implicitDefEqProofs (maxSteps := 2000000) (disch := omega) only [z0, z1, z2, z3, z4, z5, z6, z7, z8, z9, z10, z12, z15, z18, z20, z40, z64, z128, z250, z999, z1000, zn, if_true, if_false, n_eq_f, Nat.reduceAdd, n_le_t, n_le_f, n_lt_t, n_lt_f, n_in_t, n_cl, n_eq_t, nI_add, n_mul, n_sub, cond_true, cond_false, Option.bind_some, ]
  | succ m ih =>
    intro k fuel σ hs hf h0
    obtain ⟨f, rfl⟩ : ∃ f, fuel = f + 1 := ⟨fuel - 1, by omega⟩
    obtain ⟨τ, e1, e2, e3⟩ := ih (k + 1) f (am_u σ 5 66 0 k (nI 0)) (by omega) (by omega) (fun v hv => by
      by_cases c : v = k
      · subst c; exact u_at
      · rw [u_ne (by omega)]; exact h0 v (by omega))
    refine ⟨τ, ?_, (fr.u ⟨rfl, rfl⟩).tr e2, e3⟩
    rw [lp_X8_meet_19.eq_2]
    unfold lb_X8_meet_19
    simp -implicitDefEqProofs (maxSteps := 2000000) (disch := omega) only [z0, z1, z2, z3, z4, z5, z6, z7, z8, z9, z10, z12, z15, z18, z20, z40, z64, z128, z250, z999, z1000, zn, if_true, if_false, n_eq_f, Nat.reduceAdd, n_le_t, n_le_f, n_lt_t, n_lt_f, n_in_t, n_cl, n_eq_t, nI_add, n_mul, n_sub, cond_true, cond_false, Option.bind_some, e1]
theorem c_bp {K : Nat → Int32 → Int32 → am_S → Option (Int32 × am_S)} (hx : x < 2) (hk : pu_k A) (hp : p < lne A) : ∀ (m k fuel : Nat) (σ : am_S) (F : Nat → Nat), k + m = 7 → m < fuel → pu_c A 1 σ → (∀ v, k ≤ v → F v ≤ 8000000) → (∀ b, b < 7 → σ.1 12 19 (lE A p 3) b = nI (hmN A x p b)) → (∀ v, v < 7 → σ.1 12 21 0 v = nI (F v)) → ∃ τ, lp_X6_bestPlace_38 K fuel 1 (nI x) (nI p) 1 p (nI k) σ = K 1 (nI x) (nI (p + 1)) τ ∧ fr (fun o k _ _ => o = 12 ∧ k = 21) σ τ ∧ ∀ v, v < 7 → τ.1 12 21 0 v = nI (if k ≤ v then bxN x (F v) (hmN A x p v) else F v) := by
  intro m
  induction m with
  | zero =>
    intro k fuel σ F hs hf hc hF hT hU
    obtain ⟨f, rfl⟩ : ∃ f, fuel = f + 1 := ⟨fuel - 1, by omega⟩
    obtain rfl : k = 7 := by omega
    refine ⟨σ, ?_, fr.rf, fun v hv => by rw [if_neg (by omega)]; exact hU v hv⟩
    rw [lp_X6_bestPlace_38.eq_2]
    unfold lb_X6_bestPlace_38 jn_X6_bestPlace_92
    simp -implicitDefEqProofs (maxSteps := 2000000) (disch := omega) only [z0, z1, z2, z3, z4, z5, z6, z7, z8, z9, z10, z12, z15, z18, z20, z40, z64, z128, z250, z999, z1000, zn, if_true, if_false, n_eq_f, Nat.reduceAdd, n_le_t, n_le_f, n_lt_t, n_lt_f, n_in_t, n_cl, n_eq_t, nI_add, n_mul, n_sub, cond_true, cond_false, Option.bind_some, ]
  | succ m ih =>
    intro k fuel σ F hs hf hc hF hT hU
    obtain ⟨f, rfl⟩ : ∃ f, fuel = f + 1 := ⟨fuel - 1, by omega⟩
    have hne := hk.2.1
    have hk7 : k < 7 := by omega
    have hv := (hk.2.2.2.2.2 p hp).2.2.2.1
    have h1 := hF k (Nat.le_refl _)
    have h2 : hmN A x p k ≤ 1000000 := hm_le
    obtain ⟨τ, e1, e2, e3⟩ := ih (k + 1) f (am_u σ 12 21 0 k (nI (bxN x (F k) (hmN A x p k)))) (fun v => if v = k then bxN x (F k) (hmN A x p k) else F v) (by omega) (by omega) ((fr.u (S := fun o _ _ _ => o = 12) rfl).c (fun _ _ _ => by omega) hc) (fun v hv => by rw [if_neg (by omega)]; exact hF v (by omega)) (fun b hb => by rw [u_ne (by omega)]; exact hT b hb) (fun v hv => by
      by_cases c : v = k
      · subst c; rw [if_pos rfl]; exact u_at
      · rw [if_neg c, u_ne (by omega)]; exact hU v hv)
    refine ⟨τ, ?_, (fr.u ⟨rfl, rfl⟩).tr e2, fun v hv => ?_⟩
    · rw [lp_X6_bestPlace_38.eq_2]
      unfold lb_X6_bestPlace_38 jn_X6_bestPlace_92
      by_cases x0 : x = 0
      · subst x0
        simp -implicitDefEqProofs (maxSteps := 2000000) (disch := omega) only [z0, z1, z2, z3, z4, z5, z6, z7, z8, z9, z10, z12, z15, z18, z20, z40, z64, z128, z250, z999, z1000, zn, if_true, if_false, n_eq_f, Nat.reduceAdd, n_le_t, n_le_f, n_lt_t, n_lt_f, n_in_t, n_cl, n_eq_t, nI_add, n_mul, n_sub, cond_true, cond_false, Option.bind_some, hc.E, c_between hv hk7, hT _ hk7, hU _ hk7]
        exact e1
      · have e9 : bxN x (F k) (hmN A x p k) = if F k < hmN A x p k then hmN A x p k else F k := if_neg x0
        rw [e9] at e1
        simp -implicitDefEqProofs (maxSteps := 2000000) (disch := omega) only [z0, z1, z2, z3, z4, z5, z6, z7, z8, z9, z10, z12, z15, z18, z20, z40, z64, z128, z250, z999, z1000, zn, if_true, if_false, n_eq_f, Nat.reduceAdd, n_le_t, n_le_f, n_lt_t, n_lt_f, n_in_t, n_cl, n_eq_t, nI_add, n_mul, n_sub, cond_true, cond_false, Option.bind_some, hc.E, c_between hv hk7, hT _ hk7, hU _ hk7, n_eq_i, x0, n_lt_i]
        by_cases z : F k < hmN A x p k
        · rw [if_pos z]
          simp only [if_pos z] at e1
          exact e1
        · rw [if_neg z]
          simp only [if_neg z] at e1
          exact e1
    · rw [e3 v hv]
      by_cases c : v = k
      · subst c
        rw [if_pos rfl, if_neg (by omega), if_pos (Nat.le_refl _)]
      · rw [if_neg c]
        by_cases d : k ≤ v
        · rw [if_pos d, if_pos (by omega)]
        · rw [if_neg d, if_neg (by omega)]
theorem m_bpA {K : Nat → Int32 → am_S → Option (Int32 × am_S)} (hk : pu_k A) (hp : p < lne A) : ∀ (m k fuel : Nat) (σ : am_S) (F : Nat → Nat), k + m = 7 → m < fuel → pu_m A 5 σ → (∀ v, k ≤ v → F v ≤ 8000000) → (∀ b, b < 7 → σ.1 5 65 (lE A p 3) b = nI (hmN A 0 p b)) → (∀ v, v < 7 → σ.1 5 66 0 v = nI (F v)) → ∃ τ, lp_X8_market_40 K fuel 5 (nI p) (nI k) σ = K 5 (nI (p + 1)) τ ∧ fr (fun o k _ _ => o = 5 ∧ k = 66) σ τ ∧ ∀ v, v < 7 → τ.1 5 66 0 v = nI (if k ≤ v then bxN 0 (F v) (hmN A 0 p v) else F v) := by
  intro m
  induction m with
  | zero =>
    intro k fuel σ F hs hf hc hF hT hU
    obtain ⟨f, rfl⟩ : ∃ f, fuel = f + 1 := ⟨fuel - 1, by omega⟩
    obtain rfl : k = 7 := by omega
    refine ⟨σ, ?_, fr.rf, fun v hv => by rw [if_neg (by omega)]; exact hU v hv⟩
    rw [lp_X8_market_40.eq_2]
    unfold lb_X8_market_40
    simp -implicitDefEqProofs (maxSteps := 2000000) (disch := omega) only [z0, z1, z2, z3, z4, z5, z6, z7, z8, z9, z10, z12, z15, z18, z20, z40, z64, z128, z250, z999, z1000, zn, if_true, if_false, n_eq_f, Nat.reduceAdd, n_le_t, n_le_f, n_lt_t, n_lt_f, n_in_t, n_cl, n_eq_t, nI_add, n_mul, n_sub, cond_true, cond_false, Option.bind_some, ]
  | succ m ih =>
    intro k fuel σ F hs hf hc hF hT hU
    obtain ⟨f, rfl⟩ : ∃ f, fuel = f + 1 := ⟨fuel - 1, by omega⟩
    have hne := hk.2.1
    have hk7 : k < 7 := by omega
    have hv := (hk.2.2.2.2.2 p hp).2.2.2.1
    have h1 := hF k (Nat.le_refl _)
    have h2 : hmN A 0 p k ≤ 1000000 := hm_le
    obtain ⟨τ, e1, e2, e3⟩ := ih (k + 1) f (am_u σ 5 66 0 k (nI (bxN 0 (F k) (hmN A 0 p k)))) (fun v => if v = k then bxN 0 (F k) (hmN A 0 p k) else F v) (by omega) (by omega) ((fr.u (S := fun o k _ _ => o = 5 ∧ k = 66) ⟨rfl, rfl⟩).m1 (fun _ _ _ _ => by omega) hc) (fun v hv => by rw [if_neg (by omega)]; exact hF v (by omega)) (fun b hb => by rw [u_ne (by omega)]; exact hT b hb) (fun v hv => by
      by_cases c : v = k
      · subst c; rw [if_pos rfl]; exact u_at
      · rw [if_neg c, u_ne (by omega)]; exact hU v hv)
    refine ⟨τ, ?_, (fr.u ⟨rfl, rfl⟩).tr e2, fun v hv => ?_⟩
    · rw [lp_X8_market_40.eq_2]
      unfold lb_X8_market_40
      simp -implicitDefEqProofs (maxSteps := 2000000) (disch := omega) only [z0, z1, z2, z3, z4, z5, z6, z7, z8, z9, z10, z12, z15, z18, z20, z40, z64, z128, z250, z999, z1000, zn, if_true, if_false, n_eq_f, Nat.reduceAdd, n_le_t, n_le_f, n_lt_t, n_lt_f, n_in_t, n_cl, n_eq_t, nI_add, n_mul, n_sub, cond_true, cond_false, Option.bind_some, hc.E3, hT _ hk7, hU _ hk7]
      exact e1
    · rw [e3 v hv]
      by_cases c : v = k
      · subst c
        rw [if_pos rfl, if_neg (by omega), if_pos (Nat.le_refl _)]
      · rw [if_neg c]
        by_cases d : k ≤ v
        · rw [if_pos d, if_pos (by omega)]
        · rw [if_neg d, if_neg (by omega)]
theorem m_bpB {K : Nat → Int32 → Int32 → am_S → Option (Int32 × am_S)} (hk : pu_k A) (hp : p < lne A) : ∀ (m k fuel : Nat) (σ : am_S) (F : Nat → Nat), k + m = 7 → m < fuel → pu_m A 5 σ → (∀ v, k ≤ v → F v ≤ 8000000) → (∀ b, b < 7 → σ.1 5 65 (lE A p 3) b = nI (hmN A 1 p b)) → (∀ v, v < 7 → σ.1 5 66 0 v = nI (F v)) → ∃ τ, lp_X8_meet_57 K fuel 5 (nI x) (nI p) (nI k) σ = K 5 (nI x) (nI (p + 1)) τ ∧ fr (fun o k _ _ => o = 5 ∧ k = 66) σ τ ∧ ∀ v, v < 7 → τ.1 5 66 0 v = nI (if k ≤ v then bxN 1 (F v) (hmN A 1 p v) else F v) := by
  intro m
  induction m with
  | zero =>
    intro k fuel σ F hs hf hc hF hT hU
    obtain ⟨f, rfl⟩ : ∃ f, fuel = f + 1 := ⟨fuel - 1, by omega⟩
    obtain rfl : k = 7 := by omega
    refine ⟨σ, ?_, fr.rf, fun v hv => by rw [if_neg (by omega)]; exact hU v hv⟩
    rw [lp_X8_meet_57.eq_2]
    unfold lb_X8_meet_57 jn_X8_meet_112
    simp -implicitDefEqProofs (maxSteps := 2000000) (disch := omega) only [z0, z1, z2, z3, z4, z5, z6, z7, z8, z9, z10, z12, z15, z18, z20, z40, z64, z128, z250, z999, z1000, zn, if_true, if_false, n_eq_f, Nat.reduceAdd, n_le_t, n_le_f, n_lt_t, n_lt_f, n_in_t, n_cl, n_eq_t, nI_add, n_mul, n_sub, cond_true, cond_false, Option.bind_some, ]
  | succ m ih =>
    intro k fuel σ F hs hf hc hF hT hU
    obtain ⟨f, rfl⟩ : ∃ f, fuel = f + 1 := ⟨fuel - 1, by omega⟩
    have hne := hk.2.1
    have hk7 : k < 7 := by omega
    have hv := (hk.2.2.2.2.2 p hp).2.2.2.1
    have h1 := hF k (Nat.le_refl _)
    have h2 : hmN A 1 p k ≤ 1000000 := hm_le
    obtain ⟨τ, e1, e2, e3⟩ := ih (k + 1) f (am_u σ 5 66 0 k (nI (bxN 1 (F k) (hmN A 1 p k)))) (fun v => if v = k then bxN 1 (F k) (hmN A 1 p k) else F v) (by omega) (by omega) ((fr.u (S := fun o k _ _ => o = 5 ∧ k = 66) ⟨rfl, rfl⟩).m1 (fun _ _ _ _ => by omega) hc) (fun v hv => by rw [if_neg (by omega)]; exact hF v (by omega)) (fun b hb => by rw [u_ne (by omega)]; exact hT b hb) (fun v hv => by
      by_cases c : v = k
      · subst c; rw [if_pos rfl]; exact u_at
      · rw [if_neg c, u_ne (by omega)]; exact hU v hv)
    refine ⟨τ, ?_, (fr.u ⟨rfl, rfl⟩).tr e2, fun v hv => ?_⟩
    · rw [lp_X8_meet_57.eq_2]
      unfold lb_X8_meet_57 jn_X8_meet_112
      have e9 : bxN 1 (F k) (hmN A 1 p k) = if F k < hmN A 1 p k then hmN A 1 p k else F k := if_neg (by decide)
      rw [e9] at e1
      simp -implicitDefEqProofs (maxSteps := 2000000) (disch := omega) only [z0, z1, z2, z3, z4, z5, z6, z7, z8, z9, z10, z12, z15, z18, z20, z40, z64, z128, z250, z999, z1000, zn, if_true, if_false, n_eq_f, Nat.reduceAdd, n_le_t, n_le_f, n_lt_t, n_lt_f, n_in_t, n_cl, n_eq_t, nI_add, n_mul, n_sub, cond_true, cond_false, Option.bind_some, hc.E3, hT _ hk7, hU _ hk7, n_le_i]
      by_cases z : F k < hmN A 1 p k
      · rw [if_neg (by omega)]
        simp only [if_pos z] at e1
        exact e1
      · rw [if_pos (by omega)]
        simp only [if_neg z] at e1
        exact e1
    · rw [e3 v hv]
      by_cases c : v = k
      · subst c
        rw [if_pos rfl, if_neg (by omega), if_pos (Nat.le_refl _)]
      · rw [if_neg c]
        by_cases d : k ≤ v
        · rw [if_pos d, if_pos (by omega)]
        · rw [if_neg d, if_neg (by omega)]
theorem c_least {F : Nat → Nat} (hF : ∀ v, F v < 2147483648) (hU : ∀ v, v < 7 → σ.1 12 21 0 v = nI (F v)) (h0 : 0 < 7) : ∀ (m k fuel : Nat), k + m = 7 → m < fuel → lp_X6_bestPlace_110 fuel  (nI (mnN F k)) (nI k)  σ = some (nI (mnN F 7), σ) := by
  intro m
  induction m with
  | zero =>
    intro k fuel hs hf
    obtain ⟨f, rfl⟩ : ∃ f, fuel = f + 1 := ⟨fuel - 1, by omega⟩
    obtain rfl : k = 7 := by omega
    rw [lp_X6_bestPlace_110.eq_2]
    unfold lb_X6_bestPlace_110 jn_X6_bestPlace_136
    simp -implicitDefEqProofs (maxSteps := 2000000) (disch := omega) only [z0, z1, z2, z3, z4, z5, z6, z7, z8, z9, z10, z12, z15, z18, z20, z40, z64, z128, z250, z999, z1000, zn, if_true, if_false, n_eq_f, Nat.reduceAdd, n_le_t, n_le_f, n_lt_t, n_lt_f, n_in_t, n_cl, n_eq_t, nI_add, n_mul, n_sub, cond_true, cond_false, Option.bind_some, ]
  | succ m ih =>
    intro k fuel hs hf
    obtain ⟨f, rfl⟩ : ∃ f, fuel = f + 1 := ⟨fuel - 1, by omega⟩
    refine Eq.trans ?_ (ih (k + 1) f (by omega) (by omega))
    rw [lp_X6_bestPlace_110.eq_2]
    unfold lb_X6_bestPlace_110 jn_X6_bestPlace_136
    have hk7 : k < 7 := by omega
    have hl : mnN F k < 7 := by
      cases k with
      | zero => exact h0
      | succ k => exact Nat.lt_of_le_of_lt (mnN_lt (f := F) k) (by omega)
    have h1 := hF k
    have h2 := hF (mnN F k)
    have e : mnN F (k + 1) = if F k < F (mnN F k) then k else mnN F k := rfl
    rw [e]
    simp -implicitDefEqProofs (maxSteps := 2000000) (disch := omega) only [z0, z1, z2, z3, z4, z5, z6, z7, z8, z9, z10, z12, z15, z18, z20, z40, z64, z128, z250, z999, z1000, zn, if_true, if_false, n_eq_f, Nat.reduceAdd, n_le_t, n_le_f, n_lt_t, n_lt_f, n_in_t, n_cl, n_eq_t, nI_add, n_mul, n_sub, cond_true, cond_false, Option.bind_some, hU _ hk7, hU _ hl, n_le_i]
    by_cases z : F (mnN F k) ≤ F k
    · rw [if_pos z, if_neg (by omega)]
    · rw [if_neg z, if_pos (by omega)]
theorem m_least0 {F : Nat → Nat} (hF : ∀ v, F v < 2147483648) (hU : ∀ v, v < 7 → σ.1 5 66 0 v = nI (F v)) (h0 : 0 < 7) : ∀ (m k fuel : Nat), k + m = 7 → m < fuel → lp_X8_leastPaid_4 fuel 5 (nI (mnN F k)) (nI k)  σ = some (nI (mnN F 7), σ) := by
  intro m
  induction m with
  | zero =>
    intro k fuel hs hf
    obtain ⟨f, rfl⟩ : ∃ f, fuel = f + 1 := ⟨fuel - 1, by omega⟩
    obtain rfl : k = 7 := by omega
    rw [lp_X8_leastPaid_4.eq_2]
    unfold lb_X8_leastPaid_4 jn_X8_leastPaid_30
    simp -implicitDefEqProofs (maxSteps := 2000000) (disch := omega) only [z0, z1, z2, z3, z4, z5, z6, z7, z8, z9, z10, z12, z15, z18, z20, z40, z64, z128, z250, z999, z1000, zn, if_true, if_false, n_eq_f, Nat.reduceAdd, n_le_t, n_le_f, n_lt_t, n_lt_f, n_in_t, n_cl, n_eq_t, nI_add, n_mul, n_sub, cond_true, cond_false, Option.bind_some, ]
  | succ m ih =>
    intro k fuel hs hf
    obtain ⟨f, rfl⟩ : ∃ f, fuel = f + 1 := ⟨fuel - 1, by omega⟩
    refine Eq.trans ?_ (ih (k + 1) f (by omega) (by omega))
    rw [lp_X8_leastPaid_4.eq_2]
    unfold lb_X8_leastPaid_4 jn_X8_leastPaid_30
    have hk7 : k < 7 := by omega
    have hl : mnN F k < 7 := by
      cases k with
      | zero => exact h0
      | succ k => exact Nat.lt_of_le_of_lt (mnN_lt (f := F) k) (by omega)
    have h1 := hF k
    have h2 := hF (mnN F k)
    have e : mnN F (k + 1) = if F k < F (mnN F k) then k else mnN F k := rfl
    rw [e]
    simp -implicitDefEqProofs (maxSteps := 2000000) (disch := omega) only [z0, z1, z2, z3, z4, z5, z6, z7, z8, z9, z10, z12, z15, z18, z20, z40, z64, z128, z250, z999, z1000, zn, if_true, if_false, n_eq_f, Nat.reduceAdd, n_le_t, n_le_f, n_lt_t, n_lt_f, n_in_t, n_cl, n_eq_t, nI_add, n_mul, n_sub, cond_true, cond_false, Option.bind_some, hU _ hk7, hU _ hl, n_le_i]
    by_cases z : F (mnN F k) ≤ F k
    · rw [if_pos z, if_neg (by omega)]
    · rw [if_neg z, if_pos (by omega)]
theorem mnN_1 {F : Nat → Nat} : mnN F 1 = 0 := Nat.le_zero.mp (mnN_lt (f := F) 0)
theorem m_least {F : Nat → Nat} (hF : ∀ v, F v < 2147483648) (hU : ∀ v, v < 7 → σ.1 5 66 0 v = nI (F v)) : fn_X8_leastPaid 5 σ = some (nI (mnN F 7), σ) := by
  unfold fn_X8_leastPaid
  have h := m_least0 hF hU (by decide) 6 1 1000 rfl (by decide)
  rw [mnN_1] at h
  exact h
theorem c_bpO (hx : x < 2) (hk : pu_k A) : ∀ (m k fuel : Nat) (σ : am_S), k + m = lne A → m < fuel → pu_c A 1 σ → (∀ v, v < 7 → σ.1 12 21 0 v = nI (acN x (hmN A x) v k)) → ∃ τ, lp_X6_bestPlace_10 fuel 1 (nI x) (nI k) σ = lp_X6_bestPlace_110 1000 (nI 0) (nI 1) τ ∧ fr (fun o k _ _ => o = 12 ∧ (k = 21 ∨ k = 19)) σ τ ∧ ∀ v, v < 7 → τ.1 12 21 0 v = nI (acN x (hmN A x) v (lne A)) := by
  intro m
  induction m with
  | zero =>
    intro k fuel σ hs hf hc hU
    obtain ⟨f, rfl⟩ : ∃ f, fuel = f + 1 := ⟨fuel - 1, by omega⟩
    obtain rfl : k = lne A := by omega
    have hne := hk.2.1
    refine ⟨σ, ?_, fr.rf, hU⟩
    rw [lp_X6_bestPlace_10.eq_2]
    unfold lb_X6_bestPlace_10
    simp -implicitDefEqProofs (maxSteps := 2000000) (disch := omega) only [z0, z1, z2, z3, z4, z5, z6, z7, z8, z9, z10, z12, z15, z18, z20, z40, z64, z128, z250, z999, z1000, zn, if_true, if_false, n_eq_f, Nat.reduceAdd, n_le_t, n_le_f, n_lt_t, n_lt_f, n_in_t, n_cl, n_eq_t, nI_add, n_mul, n_sub, cond_true, cond_false, Option.bind_some, hc.ne]
  | succ m ih =>
    intro k fuel σ hs hf hc hU
    obtain ⟨f, rfl⟩ : ∃ f, fuel = f + 1 := ⟨fuel - 1, by omega⟩
    have hne := hk.2.1
    have hkl : k < lne A := by omega
    have hv := (hk.2.2.2.2.2 k hkl).2.2.2.1
    obtain ⟨τ, e1, e2, e3, e4⟩ := c_meas hk hc hkl (w := x) (by omega)
    obtain ⟨ρ, d1, d2, d3⟩ := c_bp (K := lp_X6_bestPlace_10 f) hx hk hkl 7 0 1000 τ (fun v => acN x (hmN A x) v k) rfl (by decide) e3 (fun v _ => Nat.le_trans (acN_le (B := 1000000) (fun p => hm_le) k) (by omega)) (fun b hb => e4 _ _ hv hb) (fun v hv => by rw [(e2 12 21 0 v (by unfold S12; omega)).1]; exact hU v hv)
    have hcr : pu_c A 1 ρ := d2.c (fun _ _ _ => by omega) e3
    obtain ⟨θ, b1, b2, b3⟩ := ih (k + 1) f ρ (by omega) (by omega) hcr (fun v hv => by rw [d3 v hv, if_pos (Nat.zero_le _)]; rfl)
    refine ⟨θ, ?_, (e2.mono fun o k i j q => by unfold S12 at q; omega).tr ((d2.mono fun o k i j q => by omega).tr b2), b3⟩
    rw [lp_X6_bestPlace_10.eq_2]
    unfold lb_X6_bestPlace_10
    simp -implicitDefEqProofs (maxSteps := 2000000) (disch := omega) only [z0, z1, z2, z3, z4, z5, z6, z7, z8, z9, z10, z12, z15, z18, z20, z40, z64, z128, z250, z999, z1000, zn, if_true, if_false, n_eq_f, Nat.reduceAdd, n_le_t, n_le_f, n_lt_t, n_lt_f, n_in_t, n_cl, n_eq_t, nI_add, n_mul, n_sub, cond_true, cond_false, Option.bind_some, hc.ne, e1, d1]
    exact b1
theorem m_bpAO  (hk : pu_k A) : ∀ (m k fuel : Nat) (σ : am_S), k + m = lne A → m < fuel → pu_m A 5 σ → (∀ v, v < 7 → σ.1 5 66 0 v = nI (acN 0 (hmN A 0) v k)) → ∃ τ, lp_X8_market_23 fuel 5 (nI k) σ = some (nI (mnN (fun v => acN 0 (hmN A 0) v (lne A)) 7), τ) ∧ fr (fun o k _ _ => o = 5 ∧ (k = 66 ∨ k = 65)) σ τ ∧ ∀ v, v < 7 → τ.1 5 66 0 v = nI (acN 0 (hmN A 0) v (lne A)) := by
  intro m
  induction m with
  | zero =>
    intro k fuel σ hs hf hc hU
    obtain ⟨f, rfl⟩ : ∃ f, fuel = f + 1 := ⟨fuel - 1, by omega⟩
    obtain rfl : k = lne A := by omega
    have hne := hk.2.1
    refine ⟨σ, ?_, fr.rf, hU⟩
    rw [lp_X8_market_23.eq_2]
    unfold lb_X8_market_23
    simp -implicitDefEqProofs (maxSteps := 2000000) (disch := omega) only [z0, z1, z2, z3, z4, z5, z6, z7, z8, z9, z10, z12, z15, z18, z20, z40, z64, z128, z250, z999, z1000, zn, if_true, if_false, n_eq_f, Nat.reduceAdd, n_le_t, n_le_f, n_lt_t, n_lt_f, n_in_t, n_cl, n_eq_t, nI_add, n_mul, n_sub, cond_true, cond_false, Option.bind_some, hc.ne, m_least (F := fun v => acN 0 (hmN A 0) v (lne A)) (fun v => Nat.lt_of_le_of_lt (acN_le (B := 1000000) (fun p => hm_le) _) (by omega)) hU]
  | succ m ih =>
    intro k fuel σ hs hf hc hU
    obtain ⟨f, rfl⟩ : ∃ f, fuel = f + 1 := ⟨fuel - 1, by omega⟩
    have hne := hk.2.1
    have hkl : k < lne A := by omega
    have hv := (hk.2.2.2.2.2 k hkl).2.2.2.1
    obtain ⟨τ, e1, e2, e3, e4⟩ := m_far' hk hc hkl (w := 0) (by decide)
    obtain ⟨ρ, d1, d2, d3⟩ := m_bpA (K := lp_X8_market_23 f) hk hkl 7 0 1000 τ (fun v => acN 0 (hmN A 0) v k) rfl (by decide) e3 (fun v _ => Nat.le_trans (acN_le (B := 1000000) (fun p => hm_le) k) (by omega)) (fun b hb => e4 _ _ hv hb) (fun v hv => by rw [(e2 5 66 0 v (by unfold S65; omega)).1]; exact hU v hv)
    have hcr : pu_m A 5 ρ := d2.m1 (fun _ _ _ _ => by omega) e3
    obtain ⟨θ, b1, b2, b3⟩ := ih (k + 1) f ρ (by omega) (by omega) hcr (fun v hv => by rw [d3 v hv, if_pos (Nat.zero_le _)]; rfl)
    refine ⟨θ, ?_, (e2.mono fun o k i j q => by unfold S65 at q; omega).tr ((d2.mono fun o k i j q => by omega).tr b2), b3⟩
    rw [lp_X8_market_23.eq_2]
    unfold lb_X8_market_23
    simp -implicitDefEqProofs (maxSteps := 2000000) (disch := omega) only [z0, z1, z2, z3, z4, z5, z6, z7, z8, z9, z10, z12, z15, z18, z20, z40, z64, z128, z250, z999, z1000, zn, if_true, if_false, n_eq_f, Nat.reduceAdd, n_le_t, n_le_f, n_lt_t, n_lt_f, n_in_t, n_cl, n_eq_t, nI_add, n_mul, n_sub, cond_true, cond_false, Option.bind_some, hc.ne, e1, d1]
    exact b1
theorem m_bpBO (hx : x < 2) (hk : pu_k A) : ∀ (m k fuel : Nat) (σ : am_S), k + m = lne A → m < fuel → pu_m A 5 σ → (∀ v, v < 7 → σ.1 5 66 0 v = nI (acN 1 (hmN A 1) v k)) → ∃ τ, lp_X8_meet_40 fuel 5 (nI x) (nI k) σ = some (nI (if x = 0 then mnN (fun v => acN 1 (hmN A 1) v (lne A)) 7 else acN 1 (hmN A 1) (mnN (fun v => acN 1 (hmN A 1) v (lne A)) 7) (lne A)), τ) ∧ fr (fun o k _ _ => o = 5 ∧ (k = 66 ∨ k = 65)) σ τ ∧ ∀ v, v < 7 → τ.1 5 66 0 v = nI (acN 1 (hmN A 1) v (lne A)) := by
  intro m
  induction m with
  | zero =>
    intro k fuel σ hs hf hc hU
    obtain ⟨f, rfl⟩ : ∃ f, fuel = f + 1 := ⟨fuel - 1, by omega⟩
    obtain rfl : k = lne A := by omega
    have hne := hk.2.1
    refine ⟨σ, ?_, fr.rf, hU⟩
    rw [lp_X8_meet_40.eq_2]
    unfold lb_X8_meet_40
    have h7 : mnN (fun v => acN 1 (hmN A 1) v (lne A)) 7 < 7 := Nat.lt_succ_of_le (mnN_lt 6)
    simp -implicitDefEqProofs (maxSteps := 2000000) (disch := omega) only [z0, z1, z2, z3, z4, z5, z6, z7, z8, z9, z10, z12, z15, z18, z20, z40, z64, z128, z250, z999, z1000, zn, if_true, if_false, n_eq_f, Nat.reduceAdd, n_le_t, n_le_f, n_lt_t, n_lt_f, n_in_t, n_cl, n_eq_t, nI_add, n_mul, n_sub, cond_true, cond_false, Option.bind_some, hc.ne, n_eq_i, m_least (F := fun v => acN 1 (hmN A 1) v (lne A)) (fun v => Nat.lt_of_le_of_lt (acN_le (B := 1000000) (fun p => hm_le) _) (by omega)) hU, hU _ h7]
    by_cases c : x = 0
    · rw [if_pos c, if_pos c]
    · rw [if_neg c, if_neg c]
  | succ m ih =>
    intro k fuel σ hs hf hc hU
    obtain ⟨f, rfl⟩ : ∃ f, fuel = f + 1 := ⟨fuel - 1, by omega⟩
    have hne := hk.2.1
    have hkl : k < lne A := by omega
    have hv := (hk.2.2.2.2.2 k hkl).2.2.2.1
    obtain ⟨τ, e1, e2, e3, e4⟩ := m_far' hk hc hkl (w := 1) (by decide)
    obtain ⟨ρ, d1, d2, d3⟩ := m_bpB (x := x) (K := lp_X8_meet_40 f) hk hkl 7 0 1000 τ (fun v => acN 1 (hmN A 1) v k) rfl (by decide) e3 (fun v _ => Nat.le_trans (acN_le (B := 1000000) (fun p => hm_le) k) (by omega)) (fun b hb => e4 _ _ hv hb) (fun v hv => by rw [(e2 5 66 0 v (by unfold S65; omega)).1]; exact hU v hv)
    have hcr : pu_m A 5 ρ := d2.m1 (fun _ _ _ _ => by omega) e3
    obtain ⟨θ, b1, b2, b3⟩ := ih (k + 1) f ρ (by omega) (by omega) hcr (fun v hv => by rw [d3 v hv, if_pos (Nat.zero_le _)]; rfl)
    refine ⟨θ, ?_, (e2.mono fun o k i j q => by unfold S65 at q; omega).tr ((d2.mono fun o k i j q => by omega).tr b2), b3⟩
    rw [lp_X8_meet_40.eq_2]
    unfold lb_X8_meet_40
    simp -implicitDefEqProofs (maxSteps := 2000000) (disch := omega) only [z0, z1, z2, z3, z4, z5, z6, z7, z8, z9, z10, z12, z15, z18, z20, z40, z64, z128, z250, z999, z1000, zn, if_true, if_false, n_eq_f, Nat.reduceAdd, n_le_t, n_le_f, n_lt_t, n_lt_f, n_in_t, n_cl, n_eq_t, nI_add, n_mul, n_sub, cond_true, cond_false, Option.bind_some, hc.ne, e1, d1]
    exact b1
theorem c_best (hk : pu_k A) (hc : pu_c A 1 σ) (hx : x < 2) : ∃ τ, fn_X6_bestPlace 1 (nI x) σ = some (nI (mnN (fun v => acN x (hmN A x) v (lne A)) 7), τ) ∧ fr (fun o k _ _ => o = 12 ∧ (k = 21 ∨ k = 19)) σ τ ∧ ∀ v, v < 7 → τ.1 12 21 0 v = nI (acN x (hmN A x) v (lne A)) := by
  have hne := hk.2.1
  obtain ⟨τ, e1, e2, e3⟩ := c_fill7 7 0 1000 σ rfl (by decide) (fun v hv => absurd hv (Nat.not_lt_zero _))
  obtain ⟨ρ, d1, d2, d3⟩ := c_bpO hx hk (lne A) 0 1000 τ (by omega) (by omega) (e2.c (fun _ _ _ => by omega) hc) (fun v hv => e3 v hv)
  refine ⟨ρ, ?_, (e2.mono fun o k i j q => by omega).tr d2, d3⟩
  have h := c_least (σ := ρ) (F := fun v => acN x (hmN A x) v (lne A)) (fun v => Nat.lt_of_le_of_lt (acN_le (B := 1000000) (fun p => hm_le) _) (by omega)) d3 (by decide) 6 1 1000 rfl (by decide)
  rw [mnN_1] at h
  unfold fn_X6_bestPlace fn_J7_fill_53178_21
  simp -implicitDefEqProofs (maxSteps := 2000000) (disch := omega) only [z0, z1, z2, z3, z4, z5, z6, z7, z8, z9, z10, z12, z15, z18, z20, z40, z64, z128, z250, z999, z1000, zn, if_true, if_false, n_eq_f, Nat.reduceAdd, n_le_t, n_le_f, n_lt_t, n_lt_f, n_in_t, n_cl, n_eq_t, nI_add, n_mul, n_sub, cond_true, cond_false, Option.bind_some, e1, d1, h]
end PBP
theorem pv_market  (σ : am_S) (hI : pu_Inv σ) : ∃ (r : Int32) (σ1 σ2 : am_S), fn_X7_market  σ = some (r, σ1) ∧ fn_X8_market 5  σ1 = some (r, σ2) ∧ pu_Inv σ2 := by
  obtain ⟨A, hI⟩ := hI
  have hk := hI.1.1
  have hm := hI.1.2.2.1
  have hne := hk.2.1
  have hnp := hk.1
  have hc := hI.1.2.1
  refine pv_q hI (r := nI (mnN (fun v => acN 0 (hmN A 0) v (lne A)) 7)) ?_ (fun σ1 hI1 => ?_)
  · obtain ⟨τ, e1, e2, e3⟩ := c_best hk hc (x := 0) (by decide)
    refine ⟨τ, ?_, e2.mono fun o k i j q => by unfold SX; omega⟩
    unfold fn_X7_market
    rw [z0, e1]
    rfl
  · have hm := hI1.1.2.2.1
    obtain ⟨τ, e1, e2, e3⟩ := m_fillA 7 0 1000 σ1 rfl (by decide) (fun v hv => absurd hv (Nat.not_lt_zero _))
    obtain ⟨ρ, d1, d2, d3⟩ := m_bpAO hk (lne A) 0 1000 τ (by omega) (by omega) (e2.m1 (fun _ _ _ _ => by omega) hm) (fun v hv => e3 v hv)
    refine ⟨ρ, ?_, (e2.mono fun o k i j q => by unfold SX; omega).tr (d2.mono fun o k i j q => by unfold SX; omega)⟩
    unfold fn_X8_market
    rw [z0, e1, d1]
theorem pv_meet (a1 : Int32) (σ : am_S) (hI : pu_Inv σ) : ∃ (r : Int32) (σ1 σ2 : am_S), fn_X7_meet a1 σ = some (r, σ1) ∧ fn_X8_meet 5 a1 σ1 = some (r, σ2) ∧ pu_Inv σ2 := by
  obtain ⟨A, hI⟩ := hI
  have hk := hI.1.1
  have hc := hI.1.2.1
  cases h1 : gN 0 1 a1
  · refine pv_r hI 0 (by decide) ⟨σ, fr.rf, ?_⟩ (fun σ1 hJ => ⟨σ1, fr.rf, ?_⟩)
    · unfold fn_X7_meet
      simp -implicitDefEqProofs (maxSteps := 2000000) (disch := omega) only [z0, z1, z2, z3, z4, z5, z6, z7, z8, z9, z10, z12, z15, z18, z20, z40, z64, z128, z250, z999, z1000, zn, if_true, if_false, n_eq_f, Nat.reduceAdd, c_gperson hc hk, c_gvalley, c_gshelf, c_gpass hc hk, c_within, Option.bind_some, g_if, g_eta, cond_true, cond_false, h1]
    · have hm := hJ.2.2.1
      have hne := hk.2.1
      have hnp := hk.1
      unfold fn_X8_meet
      simp -implicitDefEqProofs (maxSteps := 2000000) (disch := omega) only [z0, z1, z2, z3, z4, z5, z6, z7, z8, z9, z10, z12, z15, z18, z20, z40, z64, z128, z250, z999, z1000, zn, if_true, if_false, n_eq_f, Nat.reduceAdd, m_gone hm hk, m_gvalley, m_in_0_1, m_in_0_2, m_in_0_20, m_in_0_255, m_in_0_3, m_in_0_4, m_in_0_40, m_in_0_5, m_in_0_6, m_in_0_7, m_in_0_9, m_in_0_999, m_in_1_12, m_in_1_60, m_in_12_16, m_inl, hm.np, hm.ne, Option.bind_some, g_if, g_eta, cond_true, cond_false, h1]
  obtain ⟨x, rfl, lx, ux⟩ := gN_n h1
  have hne := hk.2.1
  have hx : x < 2 := by omega
  have h7 : mnN (fun v => acN 1 (hmN A 1) v (lne A)) 7 < 7 := Nat.lt_succ_of_le (mnN_lt 6)
  refine pv_q hI (r := nI (if x = 0 then mnN (fun v => acN 1 (hmN A 1) v (lne A)) 7 else acN 1 (hmN A 1) (mnN (fun v => acN 1 (hmN A 1) v (lne A)) 7) (lne A))) ?_ (fun σ1 hI1 => ?_)
  · obtain ⟨τ, e1, e2, e3⟩ := c_best hk hc (x := 1) (by decide)
    refine ⟨τ, ?_, e2.mono fun o k i j q => by unfold SX; omega⟩
    unfold fn_X7_meet
    simp -implicitDefEqProofs (maxSteps := 2000000) (disch := omega) only [z0, z1, z2, z3, z4, z5, z6, z7, z8, z9, z10, z12, z15, z18, z20, z40, z64, z128, z250, z999, z1000, zn, if_true, if_false, n_eq_f, Nat.reduceAdd, c_gperson hc hk, c_gvalley, c_gshelf, c_gpass hc hk, c_within, Option.bind_some, g_if, g_eta, cond_true, cond_false, n_in_t, n_cl, true_or, or_true, z255, z16, n_neg1, n_eq_t, n_eq_f, Nat.reduceEqDiff, g_or, h1, e1, n_eq_i, e3 _ h7]
    by_cases c : x = 0
    · rw [if_pos c, if_pos c]
    · rw [if_neg c, if_neg c]
  · have hm := hI1.1.2.2.1
    obtain ⟨τ, e1, e2, e3⟩ := m_fillB (x := x) 7 0 1000 σ1 rfl (by decide) (fun v hv => absurd hv (Nat.not_lt_zero _))
    obtain ⟨ρ, d1, d2, d3⟩ := m_bpBO hx hk (lne A) 0 1000 τ (by omega) (by omega) (e2.m1 (fun _ _ _ _ => by omega) hm) (fun v hv => e3 v hv)
    refine ⟨ρ, ?_, (e2.mono fun o k i j q => by unfold SX; omega).tr (d2.mono fun o k i j q => by unfold SX; omega)⟩
    unfold fn_X8_meet
    simp -implicitDefEqProofs (maxSteps := 2000000) (disch := omega) only [z0, z1, z2, z3, z4, z5, z6, z7, z8, z9, z10, z12, z15, z18, z20, z40, z64, z128, z250, z999, z1000, zn, if_true, if_false, n_eq_f, Nat.reduceAdd, m_gone hm hk, m_gvalley, m_in_0_1, m_in_0_2, m_in_0_20, m_in_0_255, m_in_0_3, m_in_0_4, m_in_0_40, m_in_0_5, m_in_0_6, m_in_0_7, m_in_0_9, m_in_0_999, m_in_1_12, m_in_1_60, m_in_12_16, m_inl, hm.np, hm.ne, Option.bind_some, g_if, g_eta, cond_true, cond_false, n_in_t, n_cl, true_or, or_true, z255, z16, n_neg1, n_eq_t, n_eq_f, Nat.reduceEqDiff, g_or, h1, e1, d1]
