/-! ===== guards ===== -/
/-- l ≤ a ≤ h -/
def gN (l h : Nat) (a : Int32) : Bool := decide ((l : Int) ≤ a.toInt ∧ a.toInt ≤ (h : Int))
/-- 0 ≤ a < n -/
def gL (n : Nat) (a : Int32) : Bool := decide (0 ≤ a.toInt ∧ a.toInt < (n : Int))
theorem g_if {α : Type} {b : Bool} {x y : α} : (if (cond b (nI 1) (nI 0)) = nI 0 then x else y) = cond b y x := by cases b <;> rfl
theorem g_or {α : Type} {b : Bool} {x y : α} : (if (cond b (nI 1) (nI 0)) = nI 0 ∨ (cond b (nI 1) (nI 0)) = nI 1 then x else y) = x := by cases b <;> rfl
theorem g_eta {α β : Type} (x : Option (α × β)) : (x.bind fun q => some (q.1, q.2)) = x := by cases x <;> rfl
theorem nI_mk {a : Int32} (h : 0 ≤ a.toInt) : a = nI a.toInt.toNat := by
  apply Int32.toInt_inj.mp
  have h2 := Int32.toInt_lt a
  rw [n_ti (by omega)]
  omega
theorem gN_n {l h : Nat} {a : Int32} (q : gN l h a = true) : ∃ n, a = nI n ∧ l ≤ n ∧ n ≤ h := by
  have q := of_decide_eq_true q
  exact ⟨a.toInt.toNat, nI_mk (by omega), by omega, by omega⟩
theorem gL_n {n : Nat} {a : Int32} (q : gL n a = true) : ∃ k, a = nI k ∧ k < n := by
  have q := of_decide_eq_true q
  exact ⟨a.toInt.toNat, nI_mk (by omega), by omega⟩
theorem gN_nI {l h k : Nat} (hk : k < 2147483648) : gN l h (nI k) = (decide (l ≤ k) && decide (k ≤ h)) := by
  unfold gN
  rw [n_ti hk]
  by_cases a : l ≤ k <;> by_cases b : k ≤ h <;> simp [a, b]
theorem gL_nI {n k : Nat} (hk : k < 2147483648) : gL n (nI k) = decide (k < n) := by
  unfold gL
  rw [n_ti hk]
  by_cases a : k < n <;> simp [a]
section PGU
variable {σ : am_S}
theorem c_within {a : Int32} {l h : Nat} (hl : l < 2147483648) (hh : h < 2147483648) : fn_X7_isWithin a (nI l) (nI h) σ = some (cond (gN l h a) (nI 1) (nI 0), σ) := by
  unfold fn_X7_isWithin gN
  simp only [Int32.lt_iff_toInt_lt, n_ti hl, n_ti hh]
  by_cases c1 : a.toInt < l
  · rw [if_pos c1, decide_eq_false (by omega)]; rfl
  · by_cases c2 : (h : Int) < a.toInt
    · rw [if_neg c1, if_pos c2, decide_eq_false (by omega)]; rfl
    · rw [if_neg c1, if_neg c2, decide_eq_true (by omega)]; rfl
theorem c_gshelf {a : Int32} : fn_X7_isShelf a σ = some (cond (gN 0 7 a) (nI 1) (nI 0), σ) := by
  unfold fn_X7_isShelf gN
  simp only [Int32.lt_iff_toInt_lt, Int32.le_iff_toInt_le, show (0 : Int32).toInt = 0 from rfl, show (8 : Int32).toInt = 8 from rfl]
  by_cases c1 : a.toInt < 0
  · rw [if_pos c1, decide_eq_false (by omega)]; rfl
  · by_cases c2 : (8 : Int) ≤ a.toInt
    · rw [if_neg c1, if_pos c2, decide_eq_false (by omega)]; rfl
    · rw [if_neg c1, if_neg c2, decide_eq_true (by omega)]; rfl
theorem c_gvalley {a : Int32} : fn_X7_isValley a σ = some (cond (gN 0 6 a) (nI 1) (nI 0), σ) := by
  unfold fn_X7_isValley gN
  simp only [Int32.lt_iff_toInt_lt, Int32.le_iff_toInt_le, show (0 : Int32).toInt = 0 from rfl, show (7 : Int32).toInt = 7 from rfl]
  by_cases c1 : a.toInt < 0
  · rw [if_pos c1, decide_eq_false (by omega)]; rfl
  · by_cases c2 : (7 : Int) ≤ a.toInt
    · rw [if_neg c1, if_pos c2, decide_eq_false (by omega)]; rfl
    · rw [if_neg c1, if_neg c2, decide_eq_true (by omega)]; rfl
theorem c_gperson {A : pu_L} {o : Nat} {a : Int32} (h : pu_c A o σ) (hk : pu_k A) : fn_X0_hasPerson o a σ = some (cond (gL (lne A) a) (nI 1) (nI 0), σ) := by
  have h6 := hk.2.1
  unfold fn_X0_hasPerson gL
  rw [h.ne]
  simp only [Int32.lt_iff_toInt_lt, Int32.le_iff_toInt_le, show (0 : Int32).toInt = 0 from rfl, show (6 : Int32).toInt = 6 from rfl, n_ti (show lne A < 2147483648 by omega)]
  by_cases c1 : a.toInt < 0
  · rw [if_pos c1, decide_eq_false (by omega)]; rfl
  · by_cases c2 : ((lne A : Nat) : Int) ≤ a.toInt
    · rw [if_neg c1, if_pos c2, decide_eq_false (by omega)]; rfl
    · rw [if_neg c1, if_neg c2, if_neg (by omega), decide_eq_true (by omega)]; rfl
theorem c_gpass {A : pu_L} {o : Nat} {a : Int32} (h : pu_c A o σ) (hk : pu_k A) : fn_X0_hasPass o a σ = some (cond (gL (lnp A) a) (nI 1) (nI 0), σ) := by
  have h6 := hk.1
  unfold fn_X0_hasPass gL
  rw [h.np]
  simp only [Int32.lt_iff_toInt_lt, Int32.le_iff_toInt_le, show (0 : Int32).toInt = 0 from rfl, show (3 : Int32).toInt = 3 from rfl, n_ti (show lnp A < 2147483648 by omega)]
  by_cases c1 : a.toInt < 0
  · rw [if_pos c1, decide_eq_false (by omega)]; rfl
  · by_cases c2 : ((lnp A : Nat) : Int) ≤ a.toInt
    · rw [if_neg c1, if_pos c2, decide_eq_false (by omega)]; rfl
    · rw [if_neg c1, if_neg c2, if_neg (by omega), decide_eq_true (by omega)]; rfl
theorem m_in64 {a L U : Int64} : fn_X8_in a L U σ = some (if L.toInt ≤ a.toInt ∧ a.toInt ≤ U.toInt then 1 else 0, σ) := pu_in64
theorem m_ing {a : Int32} {L U : Int64} {l h : Nat} (hl : L.toInt = l) (hh : U.toInt = h) : fn_X8_in a.toInt64 L U σ = some (cond (gN l h a) (nI 1) (nI 0), σ) := by
  rw [m_in64, Int32.toInt_toInt64, hl, hh]
  unfold gN
  by_cases c : (l : Int) ≤ a.toInt ∧ a.toInt ≤ (h : Int)
  · rw [if_pos c, decide_eq_true c]; rfl
  · rw [if_neg c, decide_eq_false c]; rfl
theorem m_in_0_1 {a : Int32} : fn_X8_in a.toInt64 0 1 σ = some (cond (gN 0 1 a) (nI 1) (nI 0), σ) := m_ing rfl rfl
theorem m_in_0_2 {a : Int32} : fn_X8_in a.toInt64 0 2 σ = some (cond (gN 0 2 a) (nI 1) (nI 0), σ) := m_ing rfl rfl
theorem m_in_0_20 {a : Int32} : fn_X8_in a.toInt64 0 20 σ = some (cond (gN 0 20 a) (nI 1) (nI 0), σ) := m_ing rfl rfl
theorem m_in_0_255 {a : Int32} : fn_X8_in a.toInt64 0 255 σ = some (cond (gN 0 255 a) (nI 1) (nI 0), σ) := m_ing rfl rfl
theorem m_in_0_3 {a : Int32} : fn_X8_in a.toInt64 0 3 σ = some (cond (gN 0 3 a) (nI 1) (nI 0), σ) := m_ing rfl rfl
theorem m_in_0_4 {a : Int32} : fn_X8_in a.toInt64 0 4 σ = some (cond (gN 0 4 a) (nI 1) (nI 0), σ) := m_ing rfl rfl
theorem m_in_0_40 {a : Int32} : fn_X8_in a.toInt64 0 40 σ = some (cond (gN 0 40 a) (nI 1) (nI 0), σ) := m_ing rfl rfl
theorem m_in_0_5 {a : Int32} : fn_X8_in a.toInt64 0 5 σ = some (cond (gN 0 5 a) (nI 1) (nI 0), σ) := m_ing rfl rfl
theorem m_in_0_6 {a : Int32} : fn_X8_in a.toInt64 0 6 σ = some (cond (gN 0 6 a) (nI 1) (nI 0), σ) := m_ing rfl rfl
theorem m_in_0_7 {a : Int32} : fn_X8_in a.toInt64 0 7 σ = some (cond (gN 0 7 a) (nI 1) (nI 0), σ) := m_ing rfl rfl
theorem m_in_0_9 {a : Int32} : fn_X8_in a.toInt64 0 9 σ = some (cond (gN 0 9 a) (nI 1) (nI 0), σ) := m_ing rfl rfl
theorem m_in_0_999 {a : Int32} : fn_X8_in a.toInt64 0 999 σ = some (cond (gN 0 999 a) (nI 1) (nI 0), σ) := m_ing rfl rfl
theorem m_in_1_12 {a : Int32} : fn_X8_in a.toInt64 1 12 σ = some (cond (gN 1 12 a) (nI 1) (nI 0), σ) := m_ing rfl rfl
theorem m_in_1_60 {a : Int32} : fn_X8_in a.toInt64 1 60 σ = some (cond (gN 1 60 a) (nI 1) (nI 0), σ) := m_ing rfl rfl
theorem m_in_12_16 {a : Int32} : fn_X8_in a.toInt64 12 16 σ = some (cond (gN 12 16 a) (nI 1) (nI 0), σ) := m_ing rfl rfl
theorem m_inl {a : Int32} {n : Nat} (hn : n < 2147483648) : fn_X8_in a.toInt64 0 (nI n - nI 1).toInt64 σ = some (cond (gL n a) (nI 1) (nI 0), σ) := by
  rw [m_in64, Int32.toInt_toInt64, Int32.toInt_toInt64]
  have e : (nI n - nI 1).toInt = (n : Int) - 1 := by
    rw [Int32.toInt_sub, n_ti hn, n_ti (by decide)]
    show ((n : Int) - 1).bmod 4294967296 = _
    rw [Int.bmod_eq_of_le (by omega) (by omega)]
  rw [e, show (0 : Int64).toInt = 0 from rfl]
  unfold gL
  by_cases c : 0 ≤ a.toInt ∧ a.toInt < (n : Int)
  · rw [if_pos (by omega), decide_eq_true c]; rfl
  · rw [if_neg (by omega), decide_eq_false c]; rfl
theorem m_gvalley {a : Int32} : fn_X8_isValley a.toInt64 σ = some (cond (gN 0 6 a) (nI 1) (nI 0), σ) := by
  unfold fn_X8_isValley
  rw [m_in_0_6]
  cases gN 0 6 a <;> rfl
theorem m_gone {A : pu_L} {o : Nat} {a : Int32} (h : pu_m A o σ) (hk : pu_k A) : fn_X8_isOne o a σ = some (cond (gL (lne A) a) (nI 1) (nI 0), σ) := by
  have h6 := hk.2.1
  unfold fn_X8_isOne
  rw [h.ne, z1, m_inl (by omega)]
  cases gL (lne A) a <;> rfl
theorem c_rf2 : fn_X7_refuse (-nI 2) σ = some (-nI 2, am_u σ 0 1 0 0 (σ.1 0 1 0 0 + 1)) := by
  have := pu_refuse (σ := σ) 0 (by decide)
  exact this
theorem m_rf2 {o : Nat} : fn_X8_refuse o (-nI 2) σ = some (-nI 2, am_u σ o 49 0 2 (σ.1 o 49 0 2 + 1)) := by
  have := pu_mrefuse (σ := σ) (o := o) 0 (by decide)
  exact this
theorem c_rf3 : fn_X7_refuse (-nI 3) σ = some (-nI 3, am_u σ 0 1 0 1 (σ.1 0 1 0 1 + 1)) := by
  have := pu_refuse (σ := σ) 1 (by decide)
  exact this
theorem m_rf3 {o : Nat} : fn_X8_refuse o (-nI 3) σ = some (-nI 3, am_u σ o 49 0 3 (σ.1 o 49 0 3 + 1)) := by
  have := pu_mrefuse (σ := σ) (o := o) 1 (by decide)
  exact this
theorem c_rf4 : fn_X7_refuse (-nI 4) σ = some (-nI 4, am_u σ 0 1 0 2 (σ.1 0 1 0 2 + 1)) := by
  have := pu_refuse (σ := σ) 2 (by decide)
  exact this
theorem m_rf4 {o : Nat} : fn_X8_refuse o (-nI 4) σ = some (-nI 4, am_u σ o 49 0 4 (σ.1 o 49 0 4 + 1)) := by
  have := pu_mrefuse (σ := σ) (o := o) 2 (by decide)
  exact this
theorem c_rf5 : fn_X7_refuse (-nI 5) σ = some (-nI 5, am_u σ 0 1 0 3 (σ.1 0 1 0 3 + 1)) := by
  have := pu_refuse (σ := σ) 3 (by decide)
  exact this
theorem m_rf5 {o : Nat} : fn_X8_refuse o (-nI 5) σ = some (-nI 5, am_u σ o 49 0 5 (σ.1 o 49 0 5 + 1)) := by
  have := pu_mrefuse (σ := σ) (o := o) 3 (by decide)
  exact this
theorem c_rf6 : fn_X7_refuse (-nI 6) σ = some (-nI 6, am_u σ 0 1 0 4 (σ.1 0 1 0 4 + 1)) := by
  have := pu_refuse (σ := σ) 4 (by decide)
  exact this
theorem m_rf6 {o : Nat} : fn_X8_refuse o (-nI 6) σ = some (-nI 6, am_u σ o 49 0 6 (σ.1 o 49 0 6 + 1)) := by
  have := pu_mrefuse (σ := σ) (o := o) 4 (by decide)
  exact this
end PGU
/-! ===== how class and reference stand to each other between the calls ===== -/
def pu_kp (σ : am_S) : Prop := (σ.1 0 0 0 2 = nI 0 ∧ σ.1 5 40 0 26 = nI 0) ∨ (σ.1 0 0 0 2 = nI 1 ∧ σ.1 5 40 0 26 ≠ nI 0 ∧ ∃ K, pu_k K ∧ pu_c K 2 σ ∧ pu_m K 6 σ)
def pu_gh (σ : am_S) : Prop := (σ.1 5 40 0 26 = nI 0 → σ.1 99 40 0 26 = nI 0) ∧ (σ.1 5 40 0 27 = nI 0 → σ.1 99 40 0 27 = nI 0)
def pu_rf (σ : am_S) : Prop := ∀ k, k < 5 → σ.1 0 1 0 k = σ.1 5 49 0 (k + 2)
def pu_tp (σ : am_S) : Prop := ∃ n, n ≤ 250 ∧ σ.1 11 14 0 2 = nI n ∧ σ.1 5 40 0 7 = nI n ∧ ∀ i, i < n → ∃ b, b < 256 ∧ σ.1 11 15 0 i = nI b ∧ σ.1 5 48 0 i = nI b
def pu_s1 (A : pu_L) (σ : am_S) (s : Nat) : Prop := (σ.1 10 10 0 s = mI ∧ σ.1 5 41 0 s = nI 0) ∨
  (∃ t n, t < 5 ∧ n ≤ 40 ∧ σ.1 10 10 0 s = nI t ∧ σ.1 10 11 0 s = nI n ∧ σ.1 5 41 0 s = nI 1 ∧ σ.1 5 42 0 s = nI t ∧ σ.1 5 43 0 s = nI n ∧ ∀ i, i < 40 → σ.2 10 13 s i = σ.2 5 45 s i) ∨
  (∃ p, p < lne A ∧ σ.1 10 10 0 s = nI (10 + p) ∧ σ.1 5 41 0 s = nI 2 ∧ σ.1 5 47 0 s = nI p)
def pu_sh (A : pu_L) (σ : am_S) : Prop := ∀ s, s < 8 → pu_s1 A σ s
/-- all but the counts of refusals -/
def pu_J (A : pu_L) (σ : am_S) : Prop := pu_k A ∧ pu_c A 1 σ ∧ pu_m A 5 σ ∧ pu_kp σ ∧ pu_gh σ ∧ pu_tp σ ∧ pu_sh A σ
def pu_I (A : pu_L) (σ : am_S) : Prop := pu_J A σ ∧ pu_rf σ
def pu_Inv (σ : am_S) : Prop := ∃ A, pu_I A σ
/-- places that no call finds again -/
def SX : Nat → Nat → Nat → Nat → Prop := fun o k _ j => o = 3 ∨ o = 7 ∨ (12 ≤ o ∧ o < 16) ∨ (o = 11 ∧ (k = 16 ∨ (k = 14 ∧ 3 ≤ j))) ∨ (o = 5 ∧ (k = 46 ∨ 63 ≤ k ∨ (k = 40 ∧ 28 ≤ j)))
def SJ : Nat → Nat → Nat → Nat → Prop := fun o k i j => SX o k i j ∨ (o = 0 ∧ k = 1) ∨ (o = 5 ∧ k = 49)
theorem SX_J : ∀ o k i j, SX o k i j → SJ o k i j := fun _ _ _ _ h => Or.inl h
theorem fr.kp {S : Nat → Nat → Nat → Nat → Prop} {σ σ' : am_S} (h : fr S σ σ') (hS : ∀ o k i j, S o k i j → SJ o k i j) (hq : pu_kp σ) : pu_kp σ' := by
  have e : ∀ o k i j, ¬ SJ o k i j → σ'.1 o k i j = σ.1 o k i j := fun o k i j q => (h o k i j fun z => q (hS o k i j z)).1
  rcases hq with ⟨h1, h2⟩ | ⟨h1, h2, K, h3, h4, h5⟩
  · left
    rw [e _ _ _ _ (by unfold SJ SX; omega), e _ _ _ _ (by unfold SJ SX; omega)]
    exact ⟨h1, h2⟩
  · right
    rw [e _ _ _ _ (by unfold SJ SX; omega), e _ _ _ _ (by unfold SJ SX; omega)]
    exact ⟨h1, h2, K, h3, h.c (o := 2) (fun k i j q => by have := hS _ _ _ _ q; unfold SJ SX at this; omega) h4, h.m (o := 6) (fun k i j h1 h2 h2' h3 q => by have := hS _ _ _ _ q; unfold SJ SX at this; omega) h5⟩
theorem fr.J {S : Nat → Nat → Nat → Nat → Prop} {A : pu_L} {σ σ' : am_S} (h : fr S σ σ') (hS : ∀ o k i j, S o k i j → SJ o k i j) (hq : pu_J A σ) : pu_J A σ' := by
  have e : ∀ o k i j, ¬ SJ o k i j → σ'.1 o k i j = σ.1 o k i j := fun o k i j q => (h o k i j fun z => q (hS o k i j z)).1
  have e2 : ∀ o k i j, ¬ SJ o k i j → σ'.2 o k i j = σ.2 o k i j := fun o k i j q => (h o k i j fun z => q (hS o k i j z)).2
  obtain ⟨h1, h2, h3, h4, h5, ⟨n, t1, t2, t3, t4⟩, h7⟩ := hq
  refine ⟨h1, h.c (o := 1) (fun k i j q => by have := hS _ _ _ _ q; unfold SJ SX at this; omega) h2, h.m (o := 5) (fun k i j h1 h2 h2' h3 q => by have := hS _ _ _ _ q; unfold SJ SX at this; omega) h3, h.kp hS h4, ?_, ⟨n, t1, ?_, ?_, fun i hi => ?_⟩, fun s hs => ?_⟩
  · unfold pu_gh
    rw [e _ _ _ _ (by unfold SJ SX; omega), e _ _ _ _ (by unfold SJ SX; omega), e _ _ _ _ (by unfold SJ SX; omega), e _ _ _ _ (by unfold SJ SX; omega)]
    exact h5
  · rw [e _ _ _ _ (by unfold SJ SX; omega)]; exact t2
  · rw [e _ _ _ _ (by unfold SJ SX; omega)]; exact t3
  · rw [e _ _ _ _ (by unfold SJ SX; omega), e _ _ _ _ (by unfold SJ SX; omega)]; exact t4 i hi
  · have := h7 s hs
    unfold pu_s1 at this ⊢
    rw [e _ _ _ _ (by unfold SJ SX; omega), e _ _ _ _ (by unfold SJ SX; omega), e _ _ _ _ (by unfold SJ SX; omega), e _ _ _ _ (by unfold SJ SX; omega), e _ _ _ _ (by unfold SJ SX; omega), e _ _ _ _ (by unfold SJ SX; omega)]
    have e3 : ∀ i, σ'.2 10 13 s i = σ.2 10 13 s i := fun i => e2 _ _ _ _ (by unfold SJ SX; omega)
    have e4 : ∀ i, σ'.2 5 45 s i = σ.2 5 45 s i := fun i => e2 _ _ _ _ (by unfold SJ SX; omega)
    simp only [e3, e4]
    exact this
theorem fr.I {S : Nat → Nat → Nat → Nat → Prop} {A : pu_L} {σ σ' : am_S} (h : fr S σ σ') (hS : ∀ o k i j, S o k i j → SX o k i j) (hq : pu_I A σ) : pu_I A σ' := by
  refine ⟨h.J (fun o k i j z => Or.inl (hS o k i j z)) hq.1, fun k hk => ?_⟩
  rw [(h 0 1 0 k fun z => by have := hS _ _ _ _ z; unfold SX at this; omega).1, (h 5 49 0 (k + 2) fun z => by have := hS _ _ _ _ z; unfold SX at this; omega).1]
  exact hq.2 k hk
/-- a question: nothing is changed that a call finds again -/
theorem pv_q {α : Type} {A : pu_L} {σ : am_S} (hI : pu_I A σ) {r : α} {f7 : Option (α × am_S)} {f8 : am_S → Option (α × am_S)} (h7 : ∃ σ1, f7 = some (r, σ1) ∧ fr SX σ σ1) (h8 : ∀ σ1, pu_I A σ1 → ∃ σ2, f8 σ1 = some (r, σ2) ∧ fr SX σ1 σ2) : ∃ (r : α) (σ1 σ2 : am_S), f7 = some (r, σ1) ∧ f8 σ1 = some (r, σ2) ∧ pu_Inv σ2 := by
  obtain ⟨σ1, e1, e2⟩ := h7
  have i1 := e2.I (fun _ _ _ _ h => h) hI
  obtain ⟨σ2, e3, e4⟩ := h8 σ1 i1
  exact ⟨r, σ1, σ2, e1, e3, A, e4.I (fun _ _ _ _ h => h) i1⟩
/-- a refusal, behind what leaves only scratch -/
theorem pv_r {A : pu_L} {σ : am_S} (hI : pu_I A σ) (k : Nat) (hk : k < 5) {f7 : Option (Int32 × am_S)} {f8 : am_S → Option (Int32 × am_S)} (h7 : ∃ σ0, fr SX σ σ0 ∧ f7 = fn_X7_refuse (-nI (k + 2)) σ0) (h8 : ∀ σ1, pu_J A σ1 → ∃ σ0, fr SX σ1 σ0 ∧ f8 σ1 = fn_X8_refuse 5 (-nI (k + 2)) σ0) : ∃ (r : Int32) (σ1 σ2 : am_S), f7 = some (r, σ1) ∧ f8 σ1 = some (r, σ2) ∧ pu_Inv σ2 := by
  obtain ⟨σ0, a1, a2⟩ := h7
  have i0 := a1.I (fun _ _ _ _ h => h) hI
  have c1 : fn_X7_refuse (-nI (k + 2)) σ0 = some (-nI (k + 2), am_u σ0 0 1 0 k (σ0.1 0 1 0 k + 1)) := by
    rcases (show k = 0 ∨ k = 1 ∨ k = 2 ∨ k = 3 ∨ k = 4 by omega) with rfl | rfl | rfl | rfl | rfl
    · exact c_rf2
    · exact c_rf3
    · exact c_rf4
    · exact c_rf5
    · exact c_rf6
  have m1 : ∀ τ, fn_X8_refuse 5 (-nI (k + 2)) τ = some (-nI (k + 2), am_u τ 5 49 0 (k + 2) (τ.1 5 49 0 (k + 2) + 1)) := fun τ => by
    rcases (show k = 0 ∨ k = 1 ∨ k = 2 ∨ k = 3 ∨ k = 4 by omega) with rfl | rfl | rfl | rfl | rfl
    · exact m_rf2
    · exact m_rf3
    · exact m_rf4
    · exact m_rf5
    · exact m_rf6
  have f1 : fr SJ σ0 (am_u σ0 0 1 0 k (σ0.1 0 1 0 k + 1)) := fr.u (Or.inr (Or.inl ⟨rfl, rfl⟩))
  have j1 := f1.J (fun _ _ _ _ h => h) i0.1
  obtain ⟨σ3, b1, b2⟩ := h8 _ j1
  have j3 := b1.J SX_J j1
  have f4 : fr SJ σ3 (am_u σ3 5 49 0 (k + 2) (σ3.1 5 49 0 (k + 2) + 1)) := fr.u (Or.inr (Or.inr ⟨rfl, rfl⟩))
  refine ⟨_, _, _, a2.trans c1, b2.trans (m1 σ3), A, f4.J (fun _ _ _ _ h => h) j3, fun q hq => ?_⟩
  have g1 : ∀ j, σ3.1 0 1 0 j = (am_u σ0 0 1 0 k (σ0.1 0 1 0 k + 1)).1 0 1 0 j := fun j => (b1 0 1 0 j (by unfold SX; omega)).1
  have g2 : ∀ j, σ3.1 5 49 0 j = σ0.1 5 49 0 j := fun j => ((b1 5 49 0 j (by unfold SX; omega)).1).trans (u_ne (by omega))
  rw [u_ne (by omega), g1]
  have i2 := i0.2 q hq
  by_cases c : q = k
  · subst c
    rw [u_at, u_at, g2, i2]
  · rw [u_ne (by omega), u_ne (by omega), g2, i2]
