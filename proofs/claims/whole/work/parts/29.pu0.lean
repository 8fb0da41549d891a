/-! ===== PURE PART: what the functions answer ===== -/
theorem pu_lt0 (x : Int32) : x < 0 ↔ x.toInt < 0 := Int32.lt_iff_toInt_lt
theorem pu_ain {a : Int32} {n : Nat} (h0 : 0 ≤ a.toInt) (h1 : a.toInt < n) : am_in a n = true := by
  unfold am_in
  simp only [Bool.and_eq_true, Bool.not_eq_true', decide_eq_false_iff_not]
  refine ⟨fun q => ?_, Nat.ble_eq_true_of_le ?_⟩
  · have := (pu_lt0 a).mp q
    omega
  · show a.toInt.toNat + 1 ≤ n
    omega
theorem pu_within {a lo hi : Int32} {σ : am_S} {l h : Int} (hl : lo.toInt = l) (hh : hi.toInt = h) : fn_X7_isWithin a lo hi σ = some (if l ≤ a.toInt ∧ a.toInt ≤ h then 1 else 0, σ) := by
  subst hl; subst hh
  unfold fn_X7_isWithin
  simp only [Int32.lt_iff_toInt_lt]
  split
  · rw [if_neg (by omega)]
  · split
    · rw [if_neg (by omega)]
    · rw [if_pos (by omega)]
theorem pu_i7 : (7 : Int32).toInt = 7 := by decide
theorem pu_i8 : (8 : Int32).toInt = 8 := by decide
theorem pu_i0 : (0 : Int32).toInt = 0 := by decide
theorem pu_shelf {a : Int32} {σ : am_S} : fn_X7_isShelf a σ = some (if 0 ≤ a.toInt ∧ a.toInt ≤ 7 then 1 else 0, σ) := by
  unfold fn_X7_isShelf
  simp only [Int32.lt_iff_toInt_lt, Int32.le_iff_toInt_le, pu_i8, pu_i0]
  split
  · rw [if_neg (by omega)]
  · split
    · rw [if_neg (by omega)]
    · rw [if_pos (by omega)]
theorem pu_valley {a : Int32} {σ : am_S} : fn_X7_isValley a σ = some (if 0 ≤ a.toInt ∧ a.toInt ≤ 6 then 1 else 0, σ) := by
  unfold fn_X7_isValley
  simp only [Int32.lt_iff_toInt_lt, Int32.le_iff_toInt_le, pu_i7, pu_i0]
  split
  · rw [if_neg (by omega)]
  · split
    · rw [if_neg (by omega)]
    · rw [if_pos (by omega)]
theorem pu_in64 {a L U : Int64} {σ : am_S} : fn_X8_in a L U σ = some (if L.toInt ≤ a.toInt ∧ a.toInt ≤ U.toInt then 1 else 0, σ) := by
  unfold fn_X8_in lg_cmp
  simp only [gt_iff_lt, Int64.lt_iff_toInt_lt, ← Int64.toInt_inj]
  by_cases h1 : a.toInt < L.toInt
  · have e0 : (if L.toInt < a.toInt then (1 : Int32) else if a.toInt = L.toInt then 0 else -1) < 0 := by
      rw [if_neg (by omega), if_neg (by omega)]
      decide
    rw [if_pos e0, if_neg (by omega)]
  · have e1 : ¬ ((if L.toInt < a.toInt then (1 : Int32) else if a.toInt = L.toInt then 0 else -1) < 0) := by
      split
      · decide
      · rw [if_pos (by omega)]; decide
    rw [if_neg e1]
    by_cases h2 : U.toInt < a.toInt
    · rw [if_pos h2, if_pos (by decide), if_neg (by omega)]
    · have e2 : ¬ (0 < (if U.toInt < a.toInt then (1 : Int32) else if a.toInt = U.toInt then 0 else -1)) := by
        rw [if_neg h2]
        split <;> decide
      rw [if_neg e2, if_pos (by omega)]
theorem pu_toInt64 (a : Int32) : a.toInt64.toInt = a.toInt := by simp
theorem pu_in {a : Int32} {L U : Int64} {σ : am_S} {l h : Int} (hl : L.toInt = l) (hh : U.toInt = h) : fn_X8_in a.toInt64 L U σ = some (if l ≤ a.toInt ∧ a.toInt ≤ h then 1 else 0, σ) := by
  subst hl; subst hh
  rw [pu_in64, pu_toInt64]
theorem pu_mvalley {a : Int32} {σ : am_S} : fn_X8_isValley a.toInt64 σ = some (if 0 ≤ a.toInt ∧ a.toInt ≤ 6 then 1 else 0, σ) := by
  unfold fn_X8_isValley
  rw [pu_in (l := 0) (h := 6) (by decide) (by decide)]
  simp only [Option.bind_some]
  split <;> simp
theorem pu_refuse {σ : am_S} (k : Nat) (hk : k < 5) : fn_X7_refuse (-2 - nI k) σ = some (-2 - nI k, am_u σ 0 1 0 k (σ.1 0 1 0 k + 1)) := by
  have h5 : ∀ k, k < 5 → ((-2 : Int32) - (-2 - nI k)) = nI k := by decide
  unfold fn_X7_refuse
  rw [h5 k hk, pu_within (l := 0) (h := 4) (by decide) (by decide)]
  have h6 : ∀ k, k < 5 → (0 ≤ (nI k).toInt ∧ (nI k).toInt ≤ 4) ∧ am_in (nI k) 5 = true ∧ (nI k).toNatClampNeg = k := by decide
  obtain ⟨h7, h8, h9⟩ := h6 k hk
  rw [if_pos h7]
  simp [h8, h9]
theorem pu_mrefuse {σ : am_S} {o : Nat} (k : Nat) (hk : k < 5) : fn_X8_refuse o (-2 - nI k) σ = some (-2 - nI k, am_u σ o 49 0 (k + 2) (σ.1 o 49 0 (k + 2) + 1)) := by
  have h6 : ∀ k, k < 5 → am_in (-(-2 - nI k)) 8 = true ∧ (-(-2 - nI k)).toNatClampNeg = k + 2 := by decide
  obtain ⟨h8, h9⟩ := h6 k hk
  unfold fn_X8_refuse
  rw [h8]
  simp only [cond_true]
  rw [h9]
