/-! ===== sums and counts ===== -/
theorem pv_s {A : pu_L} {σ : am_S} (hI : pu_I A σ) (k : Nat) (hk : k < 5) {f7 : Option (Int32 × am_S)} {f8 : am_S → Option (Int32 × am_S)} (h7 : f7 = fn_X7_refuse (-nI (k + 2)) σ) (h8 : ∀ σ1, pu_J A σ1 → f8 σ1 = fn_X8_refuse 5 (-nI (k + 2)) σ1) : ∃ (r : Int32) (σ1 σ2 : am_S), f7 = some (r, σ1) ∧ f8 σ1 = some (r, σ2) ∧ pu_Inv σ2 := pv_r hI k hk ⟨σ, fr.rf, h7⟩ (fun σ1 hJ => ⟨σ1, fr.rf, h8 σ1 hJ⟩)
theorem gN_ne {l h i : Nat} {a : Int32} (q : gN l h a = false) (h1 : l ≤ i) (h2 : i ≤ h) (h3 : i < 2147483648 := by decide) : (a = nI i) = False := eq_false fun e => by
  rw [e, gN_nI h3] at q
  simp [h1, h2] at q
/-- the sum of f below n -/
def smN (f : Nat → Nat) : Nat → Nat
  | 0 => 0
  | n + 1 => smN f n + f n
theorem smN_le {f : Nat → Nat} {B : Nat} : ∀ n, (∀ i, i < n → f i ≤ B) → smN f n ≤ n * B
  | 0, _ => Nat.zero_le _
  | n + 1, h => by
    have h1 := smN_le n (fun i hi => h i (by omega))
    have h2 := h n (by omega)
    show smN f n + f n ≤ (n + 1) * B
    rw [Nat.succ_mul]
    omega
theorem smN_mono {f : Nat → Nat} {a b : Nat} (h : a ≤ b) : smN f a ≤ smN f b := by
  induction h with
  | refl => exact Nat.le_refl _
  | step _ ih => exact Nat.le_trans ih (Nat.le_add_right _ _)
/-- how many are at v -/
def atN (A : pu_L) (v : Nat) (n : Nat) : Nat := smN (fun p => if lE A p 3 = v then 1 else 0) n
theorem atN_le {A : pu_L} {v n : Nat} : atN A v n ≤ n := by
  have := smN_le (f := fun p => if lE A p 3 = v then 1 else 0) (B := 1) n (fun i _ => by show (if lE A i 3 = v then 1 else 0) ≤ 1; split <;> omega)
  unfold atN
  omega
section PSU
variable {A : pu_L} {σ : am_S} {p v : Nat}
theorem c_ring (hk : pu_k A) (hc : pu_c A 1 σ) (hp : p < lne A) : ∀ (m k fuel : Nat), k + m = 7 → m < fuel → lp_X7_ring_22 fuel  (nI p) (nI (smN (fun v => prN A p v 0) k)) (nI k)  σ = some (nI (smN (fun v => prN A p v 0) 7), σ) := by
  intro m
  induction m with
  | zero =>
    intro k fuel hs hf
    obtain ⟨f, rfl⟩ : ∃ f, fuel = f + 1 := ⟨fuel - 1, by omega⟩
    obtain rfl : k = 7 := by omega
    rw [lp_X7_ring_22.eq_2]
    unfold lb_X7_ring_22
    simp -implicitDefEqProofs (maxSteps := 2000000) (disch := omega) only [z0, z1, z2, z3, z4, z5, z6, z7, z8, z9, z10, z12, z15, z18, z20, z40, z64, z128, z250, z999, z1000, zn, if_true, if_false, n_eq_f, Nat.reduceAdd, n_le_t, n_le_f, n_lt_t, n_lt_f, n_in_t, n_cl, n_eq_t, nI_add, n_mul, n_sub, cond_true, cond_false, Option.bind_some, ]
  | succ m ih =>
    intro k fuel hs hf
    obtain ⟨f, rfl⟩ : ∃ f, fuel = f + 1 := ⟨fuel - 1, by omega⟩
    refine Eq.trans ?_ (ih (k + 1) f (by omega) (by omega))
    rw [lp_X7_ring_22.eq_2]
    unfold lb_X7_ring_22
    have hne := hk.2.1
    have hk7 : k < 7 := by omega
    obtain ⟨g, g1, g2, g3⟩ := c_priceFor (s := 0) hc hk hp hk7 (by decide)
    have g3 := g3 (by unfold eoN; simp)
    subst g3
    simp -implicitDefEqProofs (maxSteps := 2000000) (disch := omega) only [z0, z1, z2, z3, z4, z5, z6, z7, z8, z9, z10, z12, z15, z18, z20, z40, z64, z128, z250, z999, z1000, zn, if_true, if_false, n_eq_f, Nat.reduceAdd, n_le_t, n_le_f, n_lt_t, n_lt_f, n_in_t, n_cl, n_eq_t, nI_add, n_mul, n_sub, cond_true, cond_false, Option.bind_some, g2]
    rfl
theorem eo_0 {v : Nat} : eoN A v 0 ≠ none := by unfold eoN; simp
theorem m_ring (hk : pu_k A) (hm : pu_m A 5 σ) (hp : p < lne A) : ∀ (m k fuel : Nat), k + m = 7 → m < fuel → lp_X8_ring_19 fuel 5 (nI p) (nI (smN (fun v => prN A p v 0) k)) (nI k)  σ = some (nI (smN (fun v => prN A p v 0) 7), σ) := by
  intro m
  induction m with
  | zero =>
    intro k fuel hs hf
    obtain ⟨f, rfl⟩ : ∃ f, fuel = f + 1 := ⟨fuel - 1, by omega⟩
    obtain rfl : k = 7 := by omega
    rw [lp_X8_ring_19.eq_2]
    unfold lb_X8_ring_19
    simp -implicitDefEqProofs (maxSteps := 2000000) (disch := omega) only [z0, z1, z2, z3, z4, z5, z6, z7, z8, z9, z10, z12, z15, z18, z20, z40, z64, z128, z250, z999, z1000, zn, if_true, if_false, n_eq_f, Nat.reduceAdd, n_le_t, n_le_f, n_lt_t, n_lt_f, n_in_t, n_cl, n_eq_t, nI_add, n_mul, n_sub, cond_true, cond_false, Option.bind_some, ]
  | succ m ih =>
    intro k fuel hs hf
    obtain ⟨f, rfl⟩ : ∃ f, fuel = f + 1 := ⟨fuel - 1, by omega⟩
    refine Eq.trans ?_ (ih (k + 1) f (by omega) (by omega))
    rw [lp_X8_ring_19.eq_2]
    unfold lb_X8_ring_19
    have hk7 : k < 7 := by omega
    simp -implicitDefEqProofs (maxSteps := 2000000) (disch := omega) only [z0, z1, z2, z3, z4, z5, z6, z7, z8, z9, z10, z12, z15, z18, z20, z40, z64, z128, z250, z999, z1000, zn, if_true, if_false, n_eq_f, Nat.reduceAdd, n_le_t, n_le_f, n_lt_t, n_lt_f, n_in_t, n_cl, n_eq_t, nI_add, n_mul, n_sub, cond_true, cond_false, Option.bind_some, m_priceOf hm hk hp hk7 (show 0 < 5 by decide) eo_0]
    rfl
theorem c_sum (hk : pu_k A) (hc : pu_c A 1 σ) {j : Nat} (hj : j < 8) : ∀ (m k fuel : Nat), k + m = lne A → m < fuel → lp_X0_together_4 fuel 1 (nI j) (nI (smN (fun p => lE A p j) k)) (nI k)  σ = some (nI (smN (fun p => lE A p j) (lne A)), σ) := by
  intro m
  induction m with
  | zero =>
    intro k fuel hs hf
    obtain ⟨f, rfl⟩ : ∃ f, fuel = f + 1 := ⟨fuel - 1, by omega⟩
    obtain rfl : k = lne A := by omega
    rw [lp_X0_together_4.eq_2]
    unfold lb_X0_together_4
    have hne := hk.2.1
    simp -implicitDefEqProofs (maxSteps := 2000000) (disch := omega) only [z0, z1, z2, z3, z4, z5, z6, z7, z8, z9, z10, z12, z15, z18, z20, z40, z64, z128, z250, z999, z1000, zn, if_true, if_false, n_eq_f, Nat.reduceAdd, n_le_t, n_le_f, n_lt_t, n_lt_f, n_in_t, n_cl, n_eq_t, nI_add, n_mul, n_sub, cond_true, cond_false, Option.bind_some, hc.ne]
  | succ m ih =>
    intro k fuel hs hf
    obtain ⟨f, rfl⟩ : ∃ f, fuel = f + 1 := ⟨fuel - 1, by omega⟩
    refine Eq.trans ?_ (ih (k + 1) f (by omega) (by omega))
    rw [lp_X0_together_4.eq_2]
    unfold lb_X0_together_4
    have hne := hk.2.1
    simp -implicitDefEqProofs (maxSteps := 2000000) (disch := omega) only [z0, z1, z2, z3, z4, z5, z6, z7, z8, z9, z10, z12, z15, z18, z20, z40, z64, z128, z250, z999, z1000, zn, if_true, if_false, n_eq_f, Nat.reduceAdd, n_le_t, n_le_f, n_lt_t, n_lt_f, n_in_t, n_cl, n_eq_t, nI_add, n_mul, n_sub, cond_true, cond_false, Option.bind_some, hc.ne, hc.E]
    rfl
theorem m_sum60 (hk : pu_k A) (hm : pu_m A 5 σ) : ∀ (m k fuel : Nat), k + m = lne A → m < fuel → lp_X8_sumOf_60_4 fuel 5 (nI (lne A)) (nI (smN (fun p => lE A p 5) k)) (nI k)  σ = some (nI (smN (fun p => lE A p 5) (lne A)), σ) := by
  intro m
  induction m with
  | zero =>
    intro k fuel hs hf
    obtain ⟨f, rfl⟩ : ∃ f, fuel = f + 1 := ⟨fuel - 1, by omega⟩
    obtain rfl : k = lne A := by omega
    rw [lp_X8_sumOf_60_4.eq_2]
    unfold lb_X8_sumOf_60_4
    have hne := hk.2.1
    simp -implicitDefEqProofs (maxSteps := 2000000) (disch := omega) only [z0, z1, z2, z3, z4, z5, z6, z7, z8, z9, z10, z12, z15, z18, z20, z40, z64, z128, z250, z999, z1000, zn, if_true, if_false, n_eq_f, Nat.reduceAdd, n_le_t, n_le_f, n_lt_t, n_lt_f, n_in_t, n_cl, n_eq_t, nI_add, n_mul, n_sub, cond_true, cond_false, Option.bind_some, ]
  | succ m ih =>
    intro k fuel hs hf
    obtain ⟨f, rfl⟩ : ∃ f, fuel = f + 1 := ⟨fuel - 1, by omega⟩
    refine Eq.trans ?_ (ih (k + 1) f (by omega) (by omega))
    rw [lp_X8_sumOf_60_4.eq_2]
    unfold lb_X8_sumOf_60_4
    have hne := hk.2.1
    simp -implicitDefEqProofs (maxSteps := 2000000) (disch := omega) only [z0, z1, z2, z3, z4, z5, z6, z7, z8, z9, z10, z12, z15, z18, z20, z40, z64, z128, z250, z999, z1000, zn, if_true, if_false, n_eq_f, Nat.reduceAdd, n_le_t, n_le_f, n_lt_t, n_lt_f, n_in_t, n_cl, n_eq_t, nI_add, n_mul, n_sub, cond_true, cond_false, Option.bind_some, hm.E5]
    rfl
theorem m_sum62 (hk : pu_k A) (hm : pu_m A 5 σ) : ∀ (m k fuel : Nat), k + m = lne A → m < fuel → lp_X8_sumOf_62_4 fuel 5 (nI (lne A)) (nI (smN (fun p => lE A p 7) k)) (nI k)  σ = some (nI (smN (fun p => lE A p 7) (lne A)), σ) := by
  intro m
  induction m with
  | zero =>
    intro k fuel hs hf
    obtain ⟨f, rfl⟩ : ∃ f, fuel = f + 1 := ⟨fuel - 1, by omega⟩
    obtain rfl : k = lne A := by omega
    rw [lp_X8_sumOf_62_4.eq_2]
    unfold lb_X8_sumOf_62_4
    have hne := hk.2.1
    simp -implicitDefEqProofs (maxSteps := 2000000) (disch := omega) only [z0, z1, z2, z3, z4, z5, z6, z7, z8, z9, z10, z12, z15, z18, z20, z40, z64, z128, z250, z999, z1000, zn, if_true, if_false, n_eq_f, Nat.reduceAdd, n_le_t, n_le_f, n_lt_t, n_lt_f, n_in_t, n_cl, n_eq_t, nI_add, n_mul, n_sub, cond_true, cond_false, Option.bind_some, ]
  | succ m ih =>
    intro k fuel hs hf
    obtain ⟨f, rfl⟩ : ∃ f, fuel = f + 1 := ⟨fuel - 1, by omega⟩
    refine Eq.trans ?_ (ih (k + 1) f (by omega) (by omega))
    rw [lp_X8_sumOf_62_4.eq_2]
    unfold lb_X8_sumOf_62_4
    have hne := hk.2.1
    simp -implicitDefEqProofs (maxSteps := 2000000) (disch := omega) only [z0, z1, z2, z3, z4, z5, z6, z7, z8, z9, z10, z12, z15, z18, z20, z40, z64, z128, z250, z999, z1000, zn, if_true, if_false, n_eq_f, Nat.reduceAdd, n_le_t, n_le_f, n_lt_t, n_lt_f, n_in_t, n_cl, n_eq_t, nI_add, n_mul, n_sub, cond_true, cond_false, Option.bind_some, hm.E7]
    rfl
theorem c_many0 (hk : pu_k A) (hc : pu_c A 1 σ) (hv : v < 7) : ∀ (m k fuel : Nat), k + m = lne A → m < fuel → lp_X0_peopleAt_4 fuel 1 (nI v) (nI (atN A v k)) (nI k)  σ = some (nI (atN A v (lne A)), σ) := by
  intro m
  induction m with
  | zero =>
    intro k fuel hs hf
    obtain ⟨f, rfl⟩ : ∃ f, fuel = f + 1 := ⟨fuel - 1, by omega⟩
    obtain rfl : k = lne A := by omega
    rw [lp_X0_peopleAt_4.eq_2]
    unfold lb_X0_peopleAt_4 jn_X0_peopleAt_27
    have hne := hk.2.1
    simp -implicitDefEqProofs (maxSteps := 2000000) (disch := omega) only [z0, z1, z2, z3, z4, z5, z6, z7, z8, z9, z10, z12, z15, z18, z20, z40, z64, z128, z250, z999, z1000, zn, if_true, if_false, n_eq_f, Nat.reduceAdd, n_le_t, n_le_f, n_lt_t, n_lt_f, n_in_t, n_cl, n_eq_t, nI_add, n_mul, n_sub, cond_true, cond_false, Option.bind_some, hc.ne]
  | succ m ih =>
    intro k fuel hs hf
    obtain ⟨f, rfl⟩ : ∃ f, fuel = f + 1 := ⟨fuel - 1, by omega⟩
    refine Eq.trans ?_ (ih (k + 1) f (by omega) (by omega))
    rw [lp_X0_peopleAt_4.eq_2]
    unfold lb_X0_peopleAt_4 jn_X0_peopleAt_27
    have hne := hk.2.1
    have ha := (hk.2.2.2.2.2 k (by omega)).2.2.2.1
    have e : atN A v (k + 1) = atN A v k + if lE A k 3 = v then 1 else 0 := rfl
    rw [e]
    simp -implicitDefEqProofs (maxSteps := 2000000) (disch := omega) only [z0, z1, z2, z3, z4, z5, z6, z7, z8, z9, z10, z12, z15, z18, z20, z40, z64, z128, z250, z999, z1000, zn, if_true, if_false, n_eq_f, Nat.reduceAdd, n_le_t, n_le_f, n_lt_t, n_lt_f, n_in_t, n_cl, n_eq_t, nI_add, n_mul, n_sub, cond_true, cond_false, Option.bind_some, hc.ne, hc.E, n_eq_i]
    split <;> rfl
theorem m_many0 (hk : pu_k A) (hm : pu_m A 5 σ) (hv : v < 7) : ∀ (m k fuel : Nat), k + m = lne A → m < fuel → lp_X8_manyAt_4 fuel 5 (nI v) (nI (atN A v k)) (nI k)  σ = some (nI (atN A v (lne A)), σ) := by
  intro m
  induction m with
  | zero =>
    intro k fuel hs hf
    obtain ⟨f, rfl⟩ : ∃ f, fuel = f + 1 := ⟨fuel - 1, by omega⟩
    obtain rfl : k = lne A := by omega
    rw [lp_X8_manyAt_4.eq_2]
    unfold lb_X8_manyAt_4 jn_X8_manyAt_28
    have hne := hk.2.1
    simp -implicitDefEqProofs (maxSteps := 2000000) (disch := omega) only [z0, z1, z2, z3, z4, z5, z6, z7, z8, z9, z10, z12, z15, z18, z20, z40, z64, z128, z250, z999, z1000, zn, if_true, if_false, n_eq_f, Nat.reduceAdd, n_le_t, n_le_f, n_lt_t, n_lt_f, n_in_t, n_cl, n_eq_t, nI_add, n_mul, n_sub, cond_true, cond_false, Option.bind_some, hm.ne]
  | succ m ih =>
    intro k fuel hs hf
    obtain ⟨f, rfl⟩ : ∃ f, fuel = f + 1 := ⟨fuel - 1, by omega⟩
    refine Eq.trans ?_ (ih (k + 1) f (by omega) (by omega))
    rw [lp_X8_manyAt_4.eq_2]
    unfold lb_X8_manyAt_4 jn_X8_manyAt_28
    have hne := hk.2.1
    have ha := (hk.2.2.2.2.2 k (by omega)).2.2.2.1
    have e : atN A v (k + 1) = atN A v k + if lE A k 3 = v then 1 else 0 := rfl
    rw [e]
    simp -implicitDefEqProofs (maxSteps := 2000000) (disch := omega) only [z0, z1, z2, z3, z4, z5, z6, z7, z8, z9, z10, z12, z15, z18, z20, z40, z64, z128, z250, z999, z1000, zn, if_true, if_false, n_eq_f, Nat.reduceAdd, n_le_t, n_le_f, n_lt_t, n_lt_f, n_in_t, n_cl, n_eq_t, nI_add, n_mul, n_sub, cond_true, cond_false, Option.bind_some, hm.ne, hm.E3, n_eq_i]
    split <;> rfl
theorem c_many (hk : pu_k A) (hc : pu_c A 1 σ) (hv : v < 7) : fn_X0_peopleAt 1 (nI v) σ = some (nI (atN A v (lne A)), σ) := by
  unfold fn_X0_peopleAt
  have hne := hk.2.1
  exact c_many0 hk hc hv (lne A) 0 1000 (by omega) (by omega)
theorem m_many (hk : pu_k A) (hm : pu_m A 5 σ) (hv : v < 7) : fn_X8_manyAt 5 (nI v) σ = some (nI (atN A v (lne A)), σ) := by
  unfold fn_X8_manyAt
  have hne := hk.2.1
  exact m_many0 hk hm hv (lne A) 0 1000 (by omega) (by omega)
/-- the first place below n with the greatest f -/
def mxN (f : Nat → Nat) : Nat → Nat
  | 0 => 0
  | n + 1 => if f (mxN f n) < f n then n else mxN f n
theorem mxN_lt {f : Nat → Nat} : ∀ n, mxN f n ≤ n
  | 0 => Nat.le_refl _
  | n + 1 => by
    show (if f (mxN f n) < f n then n else mxN f n) ≤ n + 1
    have := mxN_lt (f := f) n
    split <;> omega
theorem mxN_lt' {f : Nat → Nat} : ∀ n, mxN f (n + 1) ≤ n
  | n => by
    show (if f (mxN f n) < f n then n else mxN f n) ≤ n
    have := mxN_lt (f := f) n
    split <;> omega
theorem c_crowd0 (hk : pu_k A) (hc : pu_c A 1 σ) : ∀ (m k fuel : Nat), k + m = 7 → m < fuel → lp_X7_crowd_6 fuel  (nI (mxN (fun v => atN A v (lne A)) k)) (nI (if k = 0 then 0 else atN A (mxN (fun v => atN A v (lne A)) k) (lne A))) (nI k)  σ = some (nI (mxN (fun v => atN A v (lne A)) 7), σ) := by
  intro m
  induction m with
  | zero =>
    intro k fuel hs hf
    obtain ⟨f, rfl⟩ : ∃ f, fuel = f + 1 := ⟨fuel - 1, by omega⟩
    obtain rfl : k = 7 := by omega
    rw [lp_X7_crowd_6.eq_2]
    unfold lb_X7_crowd_6 jn_X7_crowd_33
    simp -implicitDefEqProofs (maxSteps := 2000000) (disch := omega) only [z0, z1, z2, z3, z4, z5, z6, z7, z8, z9, z10, z12, z15, z18, z20, z40, z64, z128, z250, z999, z1000, zn, if_true, if_false, n_eq_f, Nat.reduceAdd, n_le_t, n_le_f, n_lt_t, n_lt_f, n_in_t, n_cl, n_eq_t, nI_add, n_mul, n_sub, cond_true, cond_false, Option.bind_some, ]
  | succ m ih =>
    intro k fuel hs hf
    obtain ⟨f, rfl⟩ : ∃ f, fuel = f + 1 := ⟨fuel - 1, by omega⟩
    refine Eq.trans ?_ (ih (k + 1) f (by omega) (by omega))
    rw [lp_X7_crowd_6.eq_2]
    unfold lb_X7_crowd_6 jn_X7_crowd_33
    have hne := hk.2.1
    have hk7 : k < 7 := by omega
    have h1 := atN_le (A := A) (v := k) (n := lne A)
    have h2 := atN_le (A := A) (v := mxN (fun v => atN A v (lne A)) k) (n := lne A)
    have e : mxN (fun v => atN A v (lne A)) (k + 1) = if atN A (mxN (fun v => atN A v (lne A)) k) (lne A) < atN A k (lne A) then k else mxN (fun v => atN A v (lne A)) k := rfl
    rw [e, if_neg (Nat.succ_ne_zero k)]
    have hx : (if k = 0 then 0 else atN A (mxN (fun v => atN A v (lne A)) k) (lne A)) < 2147483648 := by split <;> omega
    simp -implicitDefEqProofs (maxSteps := 2000000) (disch := omega) only [z0, z1, z2, z3, z4, z5, z6, z7, z8, z9, z10, z12, z15, z18, z20, z40, z64, z128, z250, z999, z1000, zn, if_true, if_false, n_eq_f, Nat.reduceAdd, n_le_t, n_le_f, n_lt_t, n_lt_f, n_in_t, n_cl, n_eq_t, nI_add, n_mul, n_sub, cond_true, cond_false, Option.bind_some, c_many hk hc hk7, n_le_i, nI_add]
    by_cases k0 : k = 0
    · subst k0
      have e0 : mxN (fun v => atN A v (lne A)) 0 = 0 := rfl
      rw [if_pos rfl, e0]
      by_cases z : atN A 0 (lne A) ≤ 0
      · rw [if_pos z, if_neg (by omega), show atN A 0 (lne A) = 0 by omega]
      · rw [if_neg z, if_neg (by omega)]
    · rw [if_neg k0]
      by_cases z : atN A k (lne A) ≤ atN A (mxN (fun v => atN A v (lne A)) k) (lne A)
      · rw [if_pos z, if_neg (by omega)]
      · rw [if_neg z, if_pos (by omega)]
theorem m_crowd0 (hk : pu_k A) (hm : pu_m A 5 σ) : ∀ (m k fuel : Nat), k + m = 7 → m < fuel → lp_X8_crowd_4 fuel 5 (nI (mxN (fun v => atN A v (lne A)) (k))) (nI k)  σ = some (nI (mxN (fun v => atN A v (lne A)) 7), σ) := by
  intro m
  induction m with
  | zero =>
    intro k fuel hs hf
    obtain ⟨f, rfl⟩ : ∃ f, fuel = f + 1 := ⟨fuel - 1, by omega⟩
    obtain rfl : k = 7 := by omega
    rw [lp_X8_crowd_4.eq_2]
    unfold lb_X8_crowd_4 jn_X8_crowd_28
    simp -implicitDefEqProofs (maxSteps := 2000000) (disch := omega) only [z0, z1, z2, z3, z4, z5, z6, z7, z8, z9, z10, z12, z15, z18, z20, z40, z64, z128, z250, z999, z1000, zn, if_true, if_false, n_eq_f, Nat.reduceAdd, n_le_t, n_le_f, n_lt_t, n_lt_f, n_in_t, n_cl, n_eq_t, nI_add, n_mul, n_sub, cond_true, cond_false, Option.bind_some, ]
  | succ m ih =>
    intro k fuel hs hf
    obtain ⟨f, rfl⟩ : ∃ f, fuel = f + 1 := ⟨fuel - 1, by omega⟩
    refine Eq.trans ?_ (ih (k + 1) f (by omega) (by omega))
    rw [lp_X8_crowd_4.eq_2]
    unfold lb_X8_crowd_4 jn_X8_crowd_28
    have hne := hk.2.1
    have hk7 : k < 7 := by omega
    have h1 := atN_le (A := A) (v := k) (n := lne A)
    have h2 := atN_le (A := A) (v := mxN (fun v => atN A v (lne A)) k) (n := lne A)
    have h3 : mxN (fun v => atN A v (lne A)) k < 7 := Nat.lt_of_le_of_lt (mxN_lt k) hk7
    have e : mxN (fun v => atN A v (lne A)) (k + 1) = if atN A (mxN (fun v => atN A v (lne A)) k) (lne A) < atN A k (lne A) then k else mxN (fun v => atN A v (lne A)) k := rfl
    rw [e]
    simp -implicitDefEqProofs (maxSteps := 2000000) (disch := omega) only [z0, z1, z2, z3, z4, z5, z6, z7, z8, z9, z10, z12, z15, z18, z20, z40, z64, z128, z250, z999, z1000, zn, if_true, if_false, n_eq_f, Nat.reduceAdd, n_le_t, n_le_f, n_lt_t, n_lt_f, n_in_t, n_cl, n_eq_t, nI_add, n_mul, n_sub, cond_true, cond_false, Option.bind_some, m_many hk hm hk7, m_many hk hm h3, n_le_i, nI_add]
    by_cases z : atN A k (lne A) ≤ atN A (mxN (fun v => atN A v (lne A)) k) (lne A)
    · rw [if_pos z, if_neg (by omega)]
    · rw [if_neg z, if_pos (by omega)]
end PSU
theorem pv_crowd  (σ : am_S) (hI : pu_Inv σ) : ∃ (r : Int32) (σ1 σ2 : am_S), fn_X7_crowd  σ = some (r, σ1) ∧ fn_X8_crowd 5  σ1 = some (r, σ2) ∧ pu_Inv σ2 := by
  obtain ⟨A, hI⟩ := hI
  have hk := hI.1.1
  refine pv_q hI (r := nI (mxN (fun v => atN A v (lne A)) 7)) ⟨σ, ?_, fr.rf⟩ (fun σ1 hI1 => ⟨σ1, ?_, fr.rf⟩)
  · exact c_crowd0 hk hI.1.2.1 7 0 1000 rfl (by decide)
  · have := m_crowd0 hk hI1.1.2.2.1 6 1 1000 rfl (by decide)
    have e0 : mxN (fun v => atN A v (lne A)) 1 ≤ 0 := mxN_lt' (f := fun v => atN A v (lne A)) 0
    have e : mxN (fun v => atN A v (lne A)) 1 = 0 := by omega
    rw [e] at this
    exact this
theorem pv_ring (a1 : Int32) (σ : am_S) (hI : pu_Inv σ) : ∃ (r : Int32) (σ1 σ2 : am_S), fn_X7_ring a1 σ = some (r, σ1) ∧ fn_X8_ring 5 a1 σ1 = some (r, σ2) ∧ pu_Inv σ2 := by
  obtain ⟨A, hI⟩ := hI
  have hk := hI.1.1
  have hc := hI.1.2.1
  cases h1 : gL (lne A) a1
  · refine pv_r hI 0 (by decide) ⟨σ, fr.rf, ?_⟩ (fun σ1 hJ => ⟨σ1, fr.rf, ?_⟩)
    · unfold fn_X7_ring
      simp -implicitDefEqProofs (maxSteps := 2000000) (disch := omega) only [z0, z1, z2, z3, z4, z5, z6, z7, z8, z9, z10, z12, z15, z18, z20, z40, z64, z128, z250, z999, z1000, zn, if_true, if_false, n_eq_f, Nat.reduceAdd, c_gperson hc hk, c_gvalley, c_gshelf, c_gpass hc hk, c_within, Option.bind_some, g_if, g_eta, cond_true, cond_false, h1]
    · have hm := hJ.2.2.1
      have hne := hk.2.1
      have hnp := hk.1
      unfold fn_X8_ring
      simp -implicitDefEqProofs (maxSteps := 2000000) (disch := omega) only [z0, z1, z2, z3, z4, z5, z6, z7, z8, z9, z10, z12, z15, z18, z20, z40, z64, z128, z250, z999, z1000, zn, if_true, if_false, n_eq_f, Nat.reduceAdd, m_gone hm hk, m_gvalley, m_in_0_1, m_in_0_2, m_in_0_20, m_in_0_255, m_in_0_3, m_in_0_4, m_in_0_40, m_in_0_5, m_in_0_6, m_in_0_7, m_in_0_9, m_in_0_999, m_in_1_12, m_in_1_60, m_in_12_16, m_inl, hm.np, hm.ne, Option.bind_some, g_if, g_eta, cond_true, cond_false, h1]
  obtain ⟨p, rfl, lp⟩ := gL_n h1
  refine pv_q hI (r := nI (smN (fun v => prN A p v 0) 7)) ?_ (fun σ1 hI1 => ?_)
  · refine ⟨σ, ?_, fr.rf⟩
    have hne := hk.2.1
    have hnp := hk.1
    unfold fn_X7_ring
    simp -implicitDefEqProofs (maxSteps := 2000000) (disch := omega) only [z0, z1, z2, z3, z4, z5, z6, z7, z8, z9, z10, z12, z15, z18, z20, z40, z64, z128, z250, z999, z1000, zn, if_true, if_false, n_eq_f, Nat.reduceAdd, c_gperson hc hk, c_gvalley, c_gshelf, c_gpass hc hk, c_within, Option.bind_some, g_if, g_eta, cond_true, cond_false, h1, n_in_t, n_cl, cond_true]
    have h := c_ring hk hc lp 7 0 1000 rfl (by decide)
    rw [show smN (fun v => prN A p v 0) 0 = 0 from rfl] at h
    exact h
  · have hc1 := hI1.1.2.1
    have hm := hI1.1.2.2.1
    have hne := hk.2.1
    have hnp := hk.1
    refine ⟨σ1, ?_, fr.rf⟩
    unfold fn_X8_ring
    simp -implicitDefEqProofs (maxSteps := 2000000) (disch := omega) only [z0, z1, z2, z3, z4, z5, z6, z7, z8, z9, z10, z12, z15, z18, z20, z40, z64, z128, z250, z999, z1000, zn, if_true, if_false, n_eq_f, Nat.reduceAdd, m_gone hm hk, m_gvalley, m_in_0_1, m_in_0_2, m_in_0_20, m_in_0_255, m_in_0_3, m_in_0_4, m_in_0_40, m_in_0_5, m_in_0_6, m_in_0_7, m_in_0_9, m_in_0_999, m_in_1_12, m_in_1_60, m_in_12_16, m_inl, hm.np, hm.ne, Option.bind_some, g_if, g_eta, cond_true, cond_false, h1, n_in_t, n_cl, cond_true]
    have h := m_ring hk hm lp 7 0 1000 rfl (by decide)
    rw [show smN (fun v => prN A p v 0) 0 = 0 from rfl] at h
    exact h
theorem pv_passOf (a1 : Int32) (a2 : Int32) (σ : am_S) (hI : pu_Inv σ) : ∃ (r : Int32) (σ1 σ2 : am_S), fn_X7_passOf a1 a2 σ = some (r, σ1) ∧ fn_X8_passOf 5 a1 a2 σ1 = some (r, σ2) ∧ pu_Inv σ2 := by
  obtain ⟨A, hI⟩ := hI
  have hk := hI.1.1
  have hc := hI.1.2.1
  cases h1 : gL (lnp A) a1
  · refine pv_r hI 0 (by decide) ⟨σ, fr.rf, ?_⟩ (fun σ1 hJ => ⟨σ1, fr.rf, ?_⟩)
    · unfold fn_X7_passOf jn_X7_passOf_20
      simp -implicitDefEqProofs (maxSteps := 2000000) (disch := omega) only [z0, z1, z2, z3, z4, z5, z6, z7, z8, z9, z10, z12, z15, z18, z20, z40, z64, z128, z250, z999, z1000, zn, if_true, if_false, n_eq_f, Nat.reduceAdd, c_gperson hc hk, c_gvalley, c_gshelf, c_gpass hc hk, c_within, Option.bind_some, g_if, g_eta, cond_true, cond_false, h1]
    · have hm := hJ.2.2.1
      have hne := hk.2.1
      have hnp := hk.1
      unfold fn_X8_passOf jn_X8_passOf_39
      simp -implicitDefEqProofs (maxSteps := 2000000) (disch := omega) only [z0, z1, z2, z3, z4, z5, z6, z7, z8, z9, z10, z12, z15, z18, z20, z40, z64, z128, z250, z999, z1000, zn, if_true, if_false, n_eq_f, Nat.reduceAdd, m_gone hm hk, m_gvalley, m_in_0_1, m_in_0_2, m_in_0_20, m_in_0_255, m_in_0_3, m_in_0_4, m_in_0_40, m_in_0_5, m_in_0_6, m_in_0_7, m_in_0_9, m_in_0_999, m_in_1_12, m_in_1_60, m_in_12_16, m_inl, hm.np, hm.ne, Option.bind_some, g_if, g_eta, cond_true, cond_false, h1]
  obtain ⟨r, rfl, lr⟩ := gL_n h1
  cases h2 : gN 0 3 a2
  · refine pv_r hI 0 (by decide) ⟨σ, fr.rf, ?_⟩ (fun σ1 hJ => ⟨σ1, fr.rf, ?_⟩)
    · unfold fn_X7_passOf jn_X7_passOf_20
      simp -implicitDefEqProofs (maxSteps := 2000000) (disch := omega) only [z0, z1, z2, z3, z4, z5, z6, z7, z8, z9, z10, z12, z15, z18, z20, z40, z64, z128, z250, z999, z1000, zn, if_true, if_false, n_eq_f, Nat.reduceAdd, c_gperson hc hk, c_gvalley, c_gshelf, c_gpass hc hk, c_within, Option.bind_some, g_if, g_eta, cond_true, cond_false, h1, h2]
    · have hm := hJ.2.2.1
      have hne := hk.2.1
      have hnp := hk.1
      unfold fn_X8_passOf jn_X8_passOf_39
      simp -implicitDefEqProofs (maxSteps := 2000000) (disch := omega) only [z0, z1, z2, z3, z4, z5, z6, z7, z8, z9, z10, z12, z15, z18, z20, z40, z64, z128, z250, z999, z1000, zn, if_true, if_false, n_eq_f, Nat.reduceAdd, m_gone hm hk, m_gvalley, m_in_0_1, m_in_0_2, m_in_0_20, m_in_0_255, m_in_0_3, m_in_0_4, m_in_0_40, m_in_0_5, m_in_0_6, m_in_0_7, m_in_0_9, m_in_0_999, m_in_1_12, m_in_1_60, m_in_12_16, m_inl, hm.np, hm.ne, Option.bind_some, g_if, g_eta, cond_true, cond_false, h1, h2]
  obtain ⟨j, rfl, lj, uj⟩ := gN_n h2
  refine pv_q hI (r := nI (lP A r j)) ?_ (fun σ1 hI1 => ?_)
  · refine ⟨σ, ?_, fr.rf⟩
    have hne := hk.2.1
    have hnp := hk.1
    unfold fn_X7_passOf jn_X7_passOf_20
    simp -implicitDefEqProofs (maxSteps := 2000000) (disch := omega) only [z0, z1, z2, z3, z4, z5, z6, z7, z8, z9, z10, z12, z15, z18, z20, z40, z64, z128, z250, z999, z1000, zn, if_true, if_false, n_eq_f, Nat.reduceAdd, c_gperson hc hk, c_gvalley, c_gshelf, c_gpass hc hk, c_within, Option.bind_some, g_if, g_eta, cond_true, cond_false, h1, h2, n_in_t, n_cl, hc.P]
  · have hc1 := hI1.1.2.1
    have hm := hI1.1.2.2.1
    have hne := hk.2.1
    have hnp := hk.1
    refine ⟨σ1, ?_, fr.rf⟩
    unfold fn_X8_passOf jn_X8_passOf_39
    simp -implicitDefEqProofs (maxSteps := 2000000) (disch := omega) only [z0, z1, z2, z3, z4, z5, z6, z7, z8, z9, z10, z12, z15, z18, z20, z40, z64, z128, z250, z999, z1000, zn, if_true, if_false, n_eq_f, Nat.reduceAdd, m_gone hm hk, m_gvalley, m_in_0_1, m_in_0_2, m_in_0_20, m_in_0_255, m_in_0_3, m_in_0_4, m_in_0_40, m_in_0_5, m_in_0_6, m_in_0_7, m_in_0_9, m_in_0_999, m_in_1_12, m_in_1_60, m_in_12_16, m_inl, hm.np, hm.ne, Option.bind_some, g_if, g_eta, cond_true, cond_false, h1, h2, n_in_t, n_cl, hm.P]
theorem pv_longest (a1 : Int32) (σ : am_S) (hI : pu_Inv σ) : ∃ (r : Int32) (σ1 σ2 : am_S), fn_X7_longest a1 σ = some (r, σ1) ∧ fn_X8_longest 5 a1 σ1 = some (r, σ2) ∧ pu_Inv σ2 := by
  obtain ⟨A, hI⟩ := hI
  have hk := hI.1.1
  have hc := hI.1.2.1
  cases h1 : gL (lne A) a1
  · refine pv_r hI 0 (by decide) ⟨σ, fr.rf, ?_⟩ (fun σ1 hJ => ⟨σ1, fr.rf, ?_⟩)
    · unfold fn_X7_longest
      simp -implicitDefEqProofs (maxSteps := 2000000) (disch := omega) only [z0, z1, z2, z3, z4, z5, z6, z7, z8, z9, z10, z12, z15, z18, z20, z40, z64, z128, z250, z999, z1000, zn, if_true, if_false, n_eq_f, Nat.reduceAdd, c_gperson hc hk, c_gvalley, c_gshelf, c_gpass hc hk, c_within, Option.bind_some, g_if, g_eta, cond_true, cond_false, h1]
    · have hm := hJ.2.2.1
      have hne := hk.2.1
      have hnp := hk.1
      unfold fn_X8_longest
      simp -implicitDefEqProofs (maxSteps := 2000000) (disch := omega) only [z0, z1, z2, z3, z4, z5, z6, z7, z8, z9, z10, z12, z15, z18, z20, z40, z64, z128, z250, z999, z1000, zn, if_true, if_false, n_eq_f, Nat.reduceAdd, m_gone hm hk, m_gvalley, m_in_0_1, m_in_0_2, m_in_0_20, m_in_0_255, m_in_0_3, m_in_0_4, m_in_0_40, m_in_0_5, m_in_0_6, m_in_0_7, m_in_0_9, m_in_0_999, m_in_1_12, m_in_1_60, m_in_12_16, m_inl, hm.np, hm.ne, Option.bind_some, g_if, g_eta, cond_true, cond_false, h1]
  obtain ⟨p, rfl, lp⟩ := gL_n h1
  refine pv_q hI (r := nI (if lE A p 3 = 6 then 0 else (20 - lE A p 6) / 2)) ?_ (fun σ1 hI1 => ?_)
  · refine ⟨σ, ?_, fr.rf⟩
    have hne := hk.2.1
    have h6 := hk.2.2.2.2.2 p lp
    unfold fn_X7_longest
    simp -implicitDefEqProofs (maxSteps := 2000000) (disch := omega) only [z0, z1, z2, z3, z4, z5, z6, z7, z8, z9, z10, z12, z15, z18, z20, z40, z64, z128, z250, z999, z1000, zn, if_true, if_false, n_eq_f, Nat.reduceAdd, c_gperson hc hk, c_gvalley, c_gshelf, c_gpass hc hk, c_within, Option.bind_some, g_if, g_eta, cond_true, cond_false, h1, n_in_t, n_cl, hc.E, n_eq_i, n_sub, n_div]
    split <;> rfl
  · have hc1 := hI1.1.2.1
    have hm := hI1.1.2.2.1
    have hne := hk.2.1
    have hnp := hk.1
    refine ⟨σ1, ?_, fr.rf⟩
    unfold fn_X8_longest
    have h6 := hk.2.2.2.2.2 p lp
    simp -implicitDefEqProofs (maxSteps := 2000000) (disch := omega) only [z0, z1, z2, z3, z4, z5, z6, z7, z8, z9, z10, z12, z15, z18, z20, z40, z64, z128, z250, z999, z1000, zn, if_true, if_false, n_eq_f, Nat.reduceAdd, m_gone hm hk, m_gvalley, m_in_0_1, m_in_0_2, m_in_0_20, m_in_0_255, m_in_0_3, m_in_0_4, m_in_0_40, m_in_0_5, m_in_0_6, m_in_0_7, m_in_0_9, m_in_0_999, m_in_1_12, m_in_1_60, m_in_12_16, m_inl, hm.np, hm.ne, Option.bind_some, g_if, g_eta, cond_true, cond_false, h1, n_in_t, n_cl, hm.E3, hm.E6, n_eq_i, n_sub, n_div]
    split <;> rfl
theorem pv_personOf (a1 : Int32) (a2 : Int32) (σ : am_S) (hI : pu_Inv σ) : ∃ (r : Int32) (σ1 σ2 : am_S), fn_X7_personOf a1 a2 σ = some (r, σ1) ∧ fn_X8_personOf 5 a1 a2 σ1 = some (r, σ2) ∧ pu_Inv σ2 := by
  obtain ⟨A, hI⟩ := hI
  have hk := hI.1.1
  have hc := hI.1.2.1
  cases h1 : gL (lne A) a1
  · refine pv_r hI 0 (by decide) ⟨σ, fr.rf, ?_⟩ (fun σ1 hJ => ⟨σ1, fr.rf, ?_⟩)
    · unfold fn_X7_personOf jn_X7_personOf_21
      simp -implicitDefEqProofs (maxSteps := 2000000) (disch := omega) only [z0, z1, z2, z3, z4, z5, z6, z7, z8, z9, z10, z12, z15, z18, z20, z40, z64, z128, z250, z999, z1000, zn, if_true, if_false, n_eq_f, Nat.reduceAdd, c_gperson hc hk, c_gvalley, c_gshelf, c_gpass hc hk, c_within, Option.bind_some, g_if, g_eta, cond_true, cond_false, h1]
    · have hm := hJ.2.2.1
      have hne := hk.2.1
      have hnp := hk.1
      unfold fn_X8_personOf
      simp -implicitDefEqProofs (maxSteps := 2000000) (disch := omega) only [z0, z1, z2, z3, z4, z5, z6, z7, z8, z9, z10, z12, z15, z18, z20, z40, z64, z128, z250, z999, z1000, zn, if_true, if_false, n_eq_f, Nat.reduceAdd, m_gone hm hk, m_gvalley, m_in_0_1, m_in_0_2, m_in_0_20, m_in_0_255, m_in_0_3, m_in_0_4, m_in_0_40, m_in_0_5, m_in_0_6, m_in_0_7, m_in_0_9, m_in_0_999, m_in_1_12, m_in_1_60, m_in_12_16, m_inl, hm.np, hm.ne, Option.bind_some, g_if, g_eta, cond_true, cond_false, h1]
  obtain ⟨p, rfl, lp⟩ := gL_n h1
  cases h2 : gN 0 7 a2
  · refine pv_r hI 0 (by decide) ⟨σ, fr.rf, ?_⟩ (fun σ1 hJ => ⟨σ1, fr.rf, ?_⟩)
    · unfold fn_X7_personOf jn_X7_personOf_21
      simp -implicitDefEqProofs (maxSteps := 2000000) (disch := omega) only [z0, z1, z2, z3, z4, z5, z6, z7, z8, z9, z10, z12, z15, z18, z20, z40, z64, z128, z250, z999, z1000, zn, if_true, if_false, n_eq_f, Nat.reduceAdd, c_gperson hc hk, c_gvalley, c_gshelf, c_gpass hc hk, c_within, Option.bind_some, g_if, g_eta, cond_true, cond_false, h1, h2]
    · have hm := hJ.2.2.1
      have hne := hk.2.1
      have hnp := hk.1
      unfold fn_X8_personOf
      simp -implicitDefEqProofs (maxSteps := 2000000) (disch := omega) only [z0, z1, z2, z3, z4, z5, z6, z7, z8, z9, z10, z12, z15, z18, z20, z40, z64, z128, z250, z999, z1000, zn, if_true, if_false, n_eq_f, Nat.reduceAdd, m_gone hm hk, m_gvalley, m_in_0_1, m_in_0_2, m_in_0_20, m_in_0_255, m_in_0_3, m_in_0_4, m_in_0_40, m_in_0_5, m_in_0_6, m_in_0_7, m_in_0_9, m_in_0_999, m_in_1_12, m_in_1_60, m_in_12_16, m_inl, hm.np, hm.ne, Option.bind_some, g_if, g_eta, cond_true, cond_false, h1, h2, gN_ne h2 (i := 0) (by decide) (by decide), gN_ne h2 (i := 1) (by decide) (by decide), gN_ne h2 (i := 2) (by decide) (by decide), gN_ne h2 (i := 3) (by decide) (by decide), gN_ne h2 (i := 4) (by decide) (by decide), gN_ne h2 (i := 5) (by decide) (by decide), gN_ne h2 (i := 6) (by decide) (by decide), gN_ne h2 (i := 7) (by decide) (by decide)]
  obtain ⟨j, rfl, lj, uj⟩ := gN_n h2
  refine pv_q hI (r := nI (lE A p j)) ?_ (fun σ1 hI1 => ?_)
  · refine ⟨σ, ?_, fr.rf⟩
    have hne := hk.2.1
    have hnp := hk.1
    unfold fn_X7_personOf jn_X7_personOf_21
    simp -implicitDefEqProofs (maxSteps := 2000000) (disch := omega) only [z0, z1, z2, z3, z4, z5, z6, z7, z8, z9, z10, z12, z15, z18, z20, z40, z64, z128, z250, z999, z1000, zn, if_true, if_false, n_eq_f, Nat.reduceAdd, c_gperson hc hk, c_gvalley, c_gshelf, c_gpass hc hk, c_within, Option.bind_some, g_if, g_eta, cond_true, cond_false, h1, h2, n_in_t, n_cl, hc.E]
  · have hc1 := hI1.1.2.1
    have hm := hI1.1.2.2.1
    have hne := hk.2.1
    have hnp := hk.1
    refine ⟨σ1, ?_, fr.rf⟩
    unfold fn_X8_personOf
    rcases (show j = 0 ∨ j = 1 ∨ j = 2 ∨ j = 3 ∨ j = 4 ∨ j = 5 ∨ j = 6 ∨ j = 7 by omega) with rfl | rfl | rfl | rfl | rfl | rfl | rfl | rfl <;> simp -implicitDefEqProofs (maxSteps := 2000000) (disch := omega) only [z0, z1, z2, z3, z4, z5, z6, z7, z8, z9, z10, z12, z15, z18, z20, z40, z64, z128, z250, z999, z1000, zn, if_true, if_false, n_eq_f, Nat.reduceAdd, m_gone hm hk, m_gvalley, m_in_0_1, m_in_0_2, m_in_0_20, m_in_0_255, m_in_0_3, m_in_0_4, m_in_0_40, m_in_0_5, m_in_0_6, m_in_0_7, m_in_0_9, m_in_0_999, m_in_1_12, m_in_1_60, m_in_12_16, m_inl, hm.np, hm.ne, Option.bind_some, g_if, g_eta, cond_true, cond_false, h1, h2, n_in_t, n_cl, hm.E0, hm.E1, hm.E2, hm.E3, hm.E4, hm.E5, hm.E6, hm.E7]
