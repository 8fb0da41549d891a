/-! ===== arithmetic of small numbers ===== -/
theorem n_lt_t {a b : Nat} (h : a < b) (hb : b < 2147483648) : (nI a < nI b) = True := eq_true (nI_lt h hb)
theorem n_lt_f {a b : Nat} (h : b ≤ a) (hb : a < 2147483648) : (nI a < nI b) = False := eq_false (nI_nlt h hb)
theorem n_le_t {a b : Nat} (h : a ≤ b) (hb : b < 2147483648) : (nI a ≤ nI b) = True := eq_true (nI_le h hb)
theorem n_le_f {a b : Nat} (h : b < a) (hb : a < 2147483648) : (nI a ≤ nI b) = False := eq_false (nI_ge h hb)
theorem n_eq_t {a b : Nat} (h : a = b) : (nI a = nI b) = True := eq_true (congrArg nI h)
theorem n_eq_f {a b : Nat} (h : a ≠ b) (ha : a < 2147483648) (hb : b < 2147483648) : (nI a = nI b) = False := eq_false fun q => h ((nI_eq ha hb).mp q)
theorem n_lt_i {a b : Nat} (ha : a < 2147483648) (hb : b < 2147483648) : (nI a < nI b) = (a < b) := by
  rcases Nat.lt_or_ge a b with h | h
  · rw [n_lt_t h hb, eq_true h]
  · rw [n_lt_f h ha, eq_false (Nat.not_lt.mpr h)]
theorem n_le_i {a b : Nat} (ha : a < 2147483648) (hb : b < 2147483648) : (nI a ≤ nI b) = (a ≤ b) := by
  rcases Nat.lt_or_ge b a with h | h
  · rw [n_le_f h ha, eq_false (Nat.not_le.mpr h)]
  · rw [n_le_t h hb, eq_true (show a ≤ b from h)]
theorem n_eq_i {a b : Nat} (ha : a < 2147483648) (hb : b < 2147483648) : (nI a = nI b) = (a = b) := propext (nI_eq ha hb)
theorem n_cl {a : Nat} (h : a < 2147483648) : (nI a).toNatClampNeg = a := nI_clamp h
theorem n_ti {a : Nat} (h : a < 2147483648) : (nI a).toInt = (a : Int) := nI_toInt h
theorem n_sub {a b : Nat} (h : b ≤ a) : nI a - nI b = nI (a - b) := by
  have : nI a = nI (a - b) + nI b := by rw [nI_add, Nat.sub_add_cancel h]
  rw [this]
  simp
theorem n_mul (a b : Nat) : nI a * nI b = nI (a * b) := (Int32.ofNat_mul a b).symm
theorem n_in_t {a n : Nat} (h : a < n) (hn : a < 2147483648) : am_in (nI a) n = true := by
  unfold am_in
  rw [n_cl hn]
  simp only [Bool.and_eq_true, Bool.not_eq_true', decide_eq_false_iff_not]
  exact ⟨nI_pos hn, Nat.ble_eq_true_of_le h⟩
theorem n_div {a b : Nat} (ha : a < 2147483648) (hb : b < 2147483648) : nI a / nI b = nI (a / b) := by
  apply Int32.toInt_inj.mp
  rw [Int32.toInt_div_of_ne_left _ _ (by
    intro e
    have := congrArg Int32.toInt e
    rw [n_ti ha] at this
    have h2 : Int32.minValue.toInt = -2147483648 := by decide
    omega), n_ti ha, n_ti hb, n_ti (Nat.lt_of_le_of_lt (Nat.div_le_self a b) ha)]
  exact (Int.ofNat_tdiv a b).symm
theorem n_mod7 {a : Nat} (ha : a < 2147483648) : nI a - nI a / nI 7 * nI 7 = nI (a % 7) := by
  rw [n_div ha (by decide), n_mul, n_sub (Nat.div_mul_le_self a 7)]
  congr 1
  have := Nat.mod_add_div a 7
  omega
/-- NONE -/
def mI : Int32 := -1
theorem zn : -nI 1 = mI := rfl
theorem mI_ti : mI.toInt = -1 := by decide
theorem n_neg1 {a : Nat} (h : a < 2147483648) : (nI a = mI) = False := eq_false fun q => by
  have := congrArg Int32.toInt q
  rw [n_ti h, mI_ti] at this
  omega
theorem n_neg1' {a : Nat} (h : a < 2147483648) : (mI = nI a) = False := eq_false fun q => by
  have := congrArg Int32.toInt q
  rw [n_ti h, mI_ti] at this
  omega
theorem n_lt0 {a : Nat} (h : a < 2147483648) : (nI a < nI 0) = False := n_lt_f (Nat.zero_le _) h
/-- the numbers that are written out -/
theorem z0 : (0 : Int32) = nI 0 := rfl
theorem z1 : (1 : Int32) = nI 1 := rfl
theorem z2 : (2 : Int32) = nI 2 := rfl
theorem z3 : (3 : Int32) = nI 3 := rfl
theorem z4 : (4 : Int32) = nI 4 := rfl
theorem z5 : (5 : Int32) = nI 5 := rfl
theorem z6 : (6 : Int32) = nI 6 := rfl
theorem z7 : (7 : Int32) = nI 7 := rfl
theorem z8 : (8 : Int32) = nI 8 := rfl
theorem z9 : (9 : Int32) = nI 9 := rfl
theorem z10 : (10 : Int32) = nI 10 := rfl
theorem z12 : (12 : Int32) = nI 12 := rfl
theorem z15 : (15 : Int32) = nI 15 := rfl
theorem z18 : (18 : Int32) = nI 18 := rfl
theorem z20 : (20 : Int32) = nI 20 := rfl
theorem z40 : (40 : Int32) = nI 40 := rfl
theorem z64 : (64 : Int32) = nI 64 := rfl
theorem z128 : (128 : Int32) = nI 128 := rfl
theorem z250 : (250 : Int32) = nI 250 := rfl
theorem z999 : (999 : Int32) = nI 999 := rfl
theorem z1000 : (1000 : Int32) = nI 1000 := rfl
theorem z106 : (1000000 : Int32) = nI 1000000 := rfl
theorem z107 : (10000000 : Int32) = nI 10000000 := rfl
/-! ===== the land in mind ===== -/
/-- facts of valleys, passes, people; how many passes, people, BACK; SEED, acts -/
abbrev pu_L : Type := (Nat → Nat → Nat) × (Nat → Nat → Nat) × (Nat → Nat → Nat) × (Nat × Nat × Nat) × (Int32 × Int32)
def lV (A : pu_L) (w v : Nat) : Nat := A.1 w v
def lP (A : pu_L) (r j : Nat) : Nat := A.2.1 r j
def lE (A : pu_L) (p j : Nat) : Nat := A.2.2.1 p j
def lnp (A : pu_L) : Nat := A.2.2.2.1.1
def lne (A : pu_L) : Nat := A.2.2.2.1.2.1
def lbk (A : pu_L) : Nat := A.2.2.2.1.2.2
def lsd (A : pu_L) : Int32 := A.2.2.2.2.1
def lac (A : pu_L) : Int32 := A.2.2.2.2.2
/-- the class's land o holds A -/
def pu_c (A : pu_L) (o : Nat) (σ : am_S) : Prop := (∀ w, w < 3 → ∀ v, v < 7 → σ.1 o 4 w v = nI (lV A w v)) ∧ (∀ r, r < 3 → ∀ j, j < 4 → σ.1 o 6 r j = nI (lP A r j)) ∧ (∀ p, p < 6 → ∀ j, j < 8 → σ.1 o 8 p j = nI (lE A p j)) ∧
  (σ.1 o 2 0 3 = nI (lnp A) ∧ σ.1 o 2 0 4 = nI (lne A) ∧ σ.1 o 2 0 5 = nI (lbk A) ∧ σ.1 o 2 0 6 = lsd A ∧ σ.1 o 2 0 7 = lac A)
/-- the reference o holds A -/
def pu_m (A : pu_L) (o : Nat) (σ : am_S) : Prop := (∀ w, w < 3 → ∀ v, v < 7 → σ.1 o (50 + w) 0 v = nI (lV A w v)) ∧ (∀ r, r < 3 → ∀ j, j < 4 → σ.1 o 54 r j = nI (lP A r j)) ∧ (∀ p, p < 6 → ∀ j, j < 8 → σ.1 o (55 + j) 0 p = nI (lE A p j)) ∧
  (σ.1 o 40 0 13 = nI (lnp A) ∧ σ.1 o 40 0 15 = nI (lne A) ∧ σ.1 o 40 0 12 = nI (lbk A) ∧ σ.1 o 40 0 25 = lsd A ∧ σ.1 o 40 0 24 = lac A)
/-- what may be -/
def pu_k (A : pu_L) : Prop := lnp A ≤ 3 ∧ lne A ≤ 6 ∧ lbk A ≤ 9 ∧ (∀ v, v < 7 → lV A 0 v ≤ 9 ∧ 1 ≤ lV A 1 v ∧ lV A 1 v ≤ 12 ∧ lV A 2 v ≤ 20) ∧ (∀ r, r < lnp A → lP A r 0 < 7 ∧ lP A r 1 < 7 ∧ lP A r 2 ≤ 9 ∧ 1 ≤ lP A r 3 ∧ lP A r 3 ≤ 12) ∧
  ∀ p, p < lne A → lE A p 0 ≤ 5 ∧ lE A p 1 ≤ 9 ∧ lE A p 2 < 7 ∧ lE A p 3 < 7 ∧ lE A p 4 < 128 ∧ lE A p 5 ≤ 999 ∧ lE A p 6 ≤ 20 ∧ lE A p 7 ≤ 999
section PCM
variable {A : pu_L} {o : Nat} {σ : am_S}
theorem pu_c.V (h : pu_c A o σ) {w v : Nat} (hw : w < 3) (hv : v < 7) : σ.1 o 4 w v = nI (lV A w v) := h.1 w hw v hv
theorem pu_c.P (h : pu_c A o σ) {r j : Nat} (hr : r < 3) (hj : j < 4) : σ.1 o 6 r j = nI (lP A r j) := h.2.1 r hr j hj
theorem pu_c.E (h : pu_c A o σ) {p j : Nat} (hp : p < 6) (hj : j < 8) : σ.1 o 8 p j = nI (lE A p j) := h.2.2.1 p hp j hj
theorem pu_c.np (h : pu_c A o σ) : σ.1 o 2 0 3 = nI (lnp A) := h.2.2.2.1
theorem pu_c.ne (h : pu_c A o σ) : σ.1 o 2 0 4 = nI (lne A) := h.2.2.2.2.1
theorem pu_c.bk (h : pu_c A o σ) : σ.1 o 2 0 5 = nI (lbk A) := h.2.2.2.2.2.1
theorem pu_m.fare (h : pu_m A o σ) {v : Nat} (hv : v < 7) : σ.1 o 50 0 v = nI (lV A 0 v) := h.1 0 (by decide) v hv
theorem pu_m.hours (h : pu_m A o σ) {v : Nat} (hv : v < 7) : σ.1 o 51 0 v = nI (lV A 1 v) := h.1 1 (by decide) v hv
theorem pu_m.pay (h : pu_m A o σ) {v : Nat} (hv : v < 7) : σ.1 o 52 0 v = nI (lV A 2 v) := h.1 2 (by decide) v hv
theorem pu_m.P (h : pu_m A o σ) {r j : Nat} (hr : r < 3) (hj : j < 4) : σ.1 o 54 r j = nI (lP A r j) := h.2.1 r hr j hj
theorem pu_m.E0 (h : pu_m A o σ) {p : Nat} (hp : p < 6) : σ.1 o 55 0 p = nI (lE A p 0) := h.2.2.1 p hp 0 (by decide)
theorem pu_m.E1 (h : pu_m A o σ) {p : Nat} (hp : p < 6) : σ.1 o 56 0 p = nI (lE A p 1) := h.2.2.1 p hp 1 (by decide)
theorem pu_m.E2 (h : pu_m A o σ) {p : Nat} (hp : p < 6) : σ.1 o 57 0 p = nI (lE A p 2) := h.2.2.1 p hp 2 (by decide)
theorem pu_m.E3 (h : pu_m A o σ) {p : Nat} (hp : p < 6) : σ.1 o 58 0 p = nI (lE A p 3) := h.2.2.1 p hp 3 (by decide)
theorem pu_m.E4 (h : pu_m A o σ) {p : Nat} (hp : p < 6) : σ.1 o 59 0 p = nI (lE A p 4) := h.2.2.1 p hp 4 (by decide)
theorem pu_m.E5 (h : pu_m A o σ) {p : Nat} (hp : p < 6) : σ.1 o 60 0 p = nI (lE A p 5) := h.2.2.1 p hp 5 (by decide)
theorem pu_m.E6 (h : pu_m A o σ) {p : Nat} (hp : p < 6) : σ.1 o 61 0 p = nI (lE A p 6) := h.2.2.1 p hp 6 (by decide)
theorem pu_m.E7 (h : pu_m A o σ) {p : Nat} (hp : p < 6) : σ.1 o 62 0 p = nI (lE A p 7) := h.2.2.1 p hp 7 (by decide)
theorem pu_m.np (h : pu_m A o σ) : σ.1 o 40 0 13 = nI (lnp A) := h.2.2.2.1
theorem pu_m.ne (h : pu_m A o σ) : σ.1 o 40 0 15 = nI (lne A) := h.2.2.2.2.1
theorem pu_m.bk (h : pu_m A o σ) : σ.1 o 40 0 12 = nI (lbk A) := h.2.2.2.2.2.1
end PCM
/-! ===== steps, their ends, fares, prices ===== -/
def eoN (A : pu_L) (v s : Nat) : Option Nat := if s = 0 then some ((v + 1) % 7) else if s = 1 then some ((v + 6) % 7) else if s - 2 < lnp A ∧ lP A (s - 2) 0 = v then some (lP A (s - 2) 1) else none
def oI (x : Option Nat) : Int32 := match x with
  | some u => nI u
  | none => mI
def faN (A : pu_L) (v s : Nat) : Nat := if s = 0 then lV A 0 v else if s = 1 then lV A 0 ((v + 6) % 7) + lbk A else lP A (s - 2) 2
def hoN (A : pu_L) (v s : Nat) : Nat := if s = 0 then lV A 1 v else if s = 1 then lV A 1 ((v + 6) % 7) else lP A (s - 2) 3
/-- the price, of a fare, by kind and a -/
def prK (k a s f : Nat) : Nat := if k = 1 then f / 2 else if k = 2 then f + a else if k = 3 then f / 2 - a else if k = 4 then (if s < 2 then f + a else 0) else if k = 5 then 2 * f else f
def prN (A : pu_L) (p v s : Nat) : Nat := prK (lE A p 0) (lE A p 1) s (faN A v s)
section PST
variable {A : pu_L} {o : Nat} {σ : am_S}
theorem c_valley {v : Nat} (hv : v < 7) : fn_X7_isValley (nI v) σ = some (1, σ) := by
  unfold fn_X7_isValley
  simp -implicitDefEqProofs (disch := omega) only [z0, z7, n_lt_f, n_le_f, if_false]
theorem c_person {p : Nat} (h : pu_c A o σ) (hk : pu_k A) (hp : p < lne A) : fn_X0_hasPerson o (nI p) σ = some (1, σ) := by
  have := hk.2.1
  unfold fn_X0_hasPerson
  simp -implicitDefEqProofs (disch := omega) only [z0, z6, h.ne, n_lt_f, n_le_f, if_false]
theorem c_passFrom (h : pu_c A o σ) (hk : pu_k A) {v s : Nat} (hv : v < 7) (hs : 2 ≤ s ∧ s < 5) : fn_X0_passFrom o (nI v) (nI s) σ = some (if s - 2 < lnp A ∧ lP A (s - 2) 0 = v then nI (s - 2) else mI, σ) := by
  have h1 := hk.1
  unfold fn_X0_passFrom jn_X0_passFrom_25 jn_X0_passFrom_26
  by_cases c : s - 2 < lnp A
  · have hP := (hk.2.2.2.2.1 (s - 2) c).1
    simp -implicitDefEqProofs (disch := omega) only [z0, z1, zn, z2, z3, h.np, h.P, n_sub, n_lt_f, n_le_f, n_le_t, n_in_t, n_cl, if_false, n_eq_f, cond_true, c, true_and, n_eq_i]
    split <;> rfl
  · simp -implicitDefEqProofs (disch := omega) only [z0, z1, zn, z2, z3, h.np, n_sub, n_lt_f, n_le_t, if_false, if_true, c, false_and, n_eq_t]
theorem c_endOf (h : pu_c A o σ) (hk : pu_k A) {v s : Nat} (hv : v < 7) (hs : s < 5) : fn_X0_endOf o (nI v) (nI s) σ = some (oI (eoN A v s), σ) := by
  unfold fn_X0_endOf fn_X0_valleyAhead
  rw [c_valley hv]
  simp -implicitDefEqProofs only [Option.bind_some]
  unfold eoN
  rcases (show s = 0 ∨ s = 1 ∨ 2 ≤ s by omega) with rfl | rfl | h2
  · simp -implicitDefEqProofs (disch := omega) only [z0, z1, zn, z7, n_eq_f, if_false, n_eq_t, if_true, nI_add, n_mod7, oI]
  · simp -implicitDefEqProofs (disch := omega) only [z0, z1, zn, z7, n_eq_f, if_false, n_eq_t, if_true, nI_add, n_sub, n_mod7, oI]
    rfl
  · rw [c_passFrom h hk hv ⟨h2, hs⟩]
    simp -implicitDefEqProofs only [Option.bind_some]
    have e0 : ¬ s = 0 := by omega
    have e1 : ¬ s = 1 := by omega
    simp -implicitDefEqProofs (disch := omega) only [z0, z1, zn, n_eq_f, if_false, e0, e1]
    by_cases c : s - 2 < lnp A ∧ lP A (s - 2) 0 = v
    · have := hk.1
      simp -implicitDefEqProofs (disch := omega) only [c, and_self, if_true, n_neg1, if_false, n_in_t, cond_true, n_cl, h.P, oI]
    · simp only [c, if_false, if_true, oI]
theorem m_nextOf (h : pu_m A o σ) (hk : pu_k A) {v s : Nat} (hv : v < 7) (hs : s < 5) : fn_X8_nextOf o (nI v) (nI s) σ = some (oI (eoN A v s), σ) := by
  have h1 := hk.1
  unfold fn_X8_nextOf eoN
  rcases (show s = 0 ∨ s = 1 ∨ 2 ≤ s by omega) with rfl | rfl | h2
  · simp -implicitDefEqProofs (disch := omega) only [z0, z1, zn, z7, n_eq_f, if_false, n_eq_t, if_true, nI_add, n_mod7, oI]
  · simp -implicitDefEqProofs (disch := omega) only [z0, z1, zn, z7, n_eq_f, if_false, n_eq_t, if_true, nI_add, n_sub, n_mod7, oI]
    rfl
  · have e0 : ¬ s = 0 := by omega
    have e1 : ¬ s = 1 := by omega
    by_cases c : s - 2 < lnp A
    · have hP := (hk.2.2.2.2.1 (s - 2) c).1
      simp -implicitDefEqProofs (disch := omega) only [z0, z1, zn, z2, h.np, h.P, n_sub, n_eq_f, if_false, e0, e1, n_le_f, n_in_t, cond_true, n_cl, n_eq_i, c, true_and]
      split <;> rfl
    · simp -implicitDefEqProofs (disch := omega) only [z0, z1, zn, z2, h.np, n_sub, n_eq_f, if_false, e0, e1, n_le_t, if_true, c, false_and, oI]
end PST
