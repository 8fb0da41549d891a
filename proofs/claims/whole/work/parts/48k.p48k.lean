/-! ===== sets of valleys, searches ===== -/
def btN (x v : Nat) : Bool := decide (x / 2 ^ v % 2 = 1)
def clN (x v : Nat) : Nat := if btN x v = true then x - 2 ^ v else x
def stN (x v : Nat) : Nat := if btN x v = true then x else x + 2 ^ v
def pcN (x : Nat) : Nat := smN (fun v => if btN x v = true then 1 else 0) 7
def dfN (y x : Nat) : Nat := smN (fun v => if btN y v = true ∧ btN x v = false then 2 ^ v else 0) 7
theorem al2 {n m : Nat} {P : Nat → Nat → Bool} (h : ((List.range n).all fun x => (List.range m).all fun v => P x v) = true) {x v : Nat} (hx : x < n) (hv : v < m) : P x v = true := List.all_eq_true.mp (List.all_eq_true.mp h x (List.mem_range.mpr hx)) v (List.mem_range.mpr hv)
theorem bs1 : ((List.range 128).all fun x => (List.range 7).all fun v => (decide (nI x &&& ((1 : Int32) <<< (nI v &&& 31)) = 0) == !btN x v) && ((nI x >>> (nI v &&& 31)) &&& 1 == (if btN x v = true then nI 1 else nI 0)) && (nI x &&& (((1 : Int32) <<< (nI v &&& 31)) ^^^ (-1 : Int32)) == nI (clN x v)) && (nI x ||| ((1 : Int32) <<< (nI v &&& 31)) == nI (stN x v))) = true := by decide +kernel
theorem bs2 : ((List.range 128).all fun x => (List.range 7).all fun v => Nat.ble (clN x v) x && Nat.ble (stN x v) 127 && (if btN x v = true then decide (pcN x = pcN (clN x v) + 1) && Nat.ble (clN x v + 1) x else decide (pcN (stN x v) = pcN x + 1) && Nat.ble (pcN x) 6 && Nat.ble (x + 1) (stN x v)) && Nat.ble (pcN x) 7) = true := by decide +kernel
theorem bs3 : ((List.range 128).all fun x => (List.range 7).all fun v => (List.range 7).all fun u => (btN (clN x v) u == (btN x u && !decide (u = v))) && (btN (stN x v) u == (btN x u || decide (u = v)))) = true := by decide +kernel
theorem bs4 : ((List.range 128).all fun x => (match fn_J6_bitCount_0f7a4 (nI x) (fun _ _ _ _ => 0, fun _ _ _ _ => 0) with
    | none => false
    | some q => q.1 == nI (pcN x)) && (decide (x = 0) || Nat.ble 1 (pcN x))) = true := by decide +kernel
theorem bs5 : ((List.range 128).all fun y => (List.range 128).all fun x => (nI y &&& (nI x ^^^ (-1 : Int32)) == nI (dfN y x)) && Nat.ble (dfN y x) 127 && (List.range 7).all fun u => btN (dfN y x) u == (btN y u && !btN x u)) = true := by decide +kernel
theorem b_and {x v : Nat} (hx : x < 128) (hv : v < 7) : (nI x &&& ((1 : Int32) <<< (nI v &&& 31)) = 0) = (btN x v = false) := by
  have h := al2 bs1 hx hv
  simp only [Bool.and_eq_true, beq_iff_eq] at h
  have h := h.1.1.1
  apply propext
  cases b : btN x v
  · rw [b] at h
    exact ⟨fun _ => rfl, fun _ => of_decide_eq_true h⟩
  · rw [b] at h
    exact ⟨fun q => absurd q (of_decide_eq_false h), fun q => by cases q⟩
theorem i_band {α : Type} {p q : α} {x v : Nat} (hx : x < 128) (hv : v < 7) : (if nI x &&& ((1 : Int32) <<< (nI v &&& 31)) = 0 then p else q) = if btN x v = false then p else q := by simp only [b_and hx hv]
theorem b_shr {x v : Nat} (hx : x < 128) (hv : v < 7) : (nI x >>> (nI v &&& 31)) &&& 1 = if btN x v = true then nI 1 else nI 0 := by
  have h := al2 bs1 hx hv
  simp only [Bool.and_eq_true, beq_iff_eq] at h
  exact h.1.1.2
theorem b_cl {x v : Nat} (hx : x < 128) (hv : v < 7) : nI x &&& (((1 : Int32) <<< (nI v &&& 31)) ^^^ (-1 : Int32)) = nI (clN x v) := by
  have h := al2 bs1 hx hv
  simp only [Bool.and_eq_true, beq_iff_eq] at h
  exact h.1.2
theorem b_st {x v : Nat} (hx : x < 128) (hv : v < 7) : nI x ||| ((1 : Int32) <<< (nI v &&& 31)) = nI (stN x v) := by
  have h := al2 bs1 hx hv
  simp only [Bool.and_eq_true, beq_iff_eq] at h
  exact h.2
theorem cl_le {x v : Nat} (hx : x < 128) (hv : v < 7) : clN x v ≤ x ∧ stN x v < 128 ∧ pcN x ≤ 7 := by
  have h := al2 bs2 hx hv
  simp only [Bool.and_eq_true, Nat.ble_eq] at h
  omega
theorem cl_t {x v : Nat} (hx : x < 128) (hv : v < 7) (b : btN x v = true) : pcN x = pcN (clN x v) + 1 ∧ clN x v < x := by
  have h := al2 bs2 hx hv
  rw [if_pos b] at h
  simp only [Bool.and_eq_true, Nat.ble_eq, decide_eq_true_eq] at h
  omega
theorem st_f {x v : Nat} (hx : x < 128) (hv : v < 7) (b : btN x v = false) : pcN (stN x v) = pcN x + 1 ∧ pcN x ≤ 6 ∧ x < stN x v := by
  have h := al2 bs2 hx hv
  rw [if_neg (by rw [b]; decide)] at h
  simp only [Bool.and_eq_true, Nat.ble_eq, decide_eq_true_eq] at h
  omega
theorem bt_cl {x v u : Nat} (hx : x < 128) (hv : v < 7) (hu : u < 7) : btN (clN x v) u = (btN x u && !decide (u = v)) ∧ btN (stN x v) u = (btN x u || decide (u = v)) := by
  have h := List.all_eq_true.mp (al2 bs3 hx hv) u (List.mem_range.mpr hu)
  simp only [Bool.and_eq_true, beq_iff_eq] at h
  exact h
theorem b_df {y x : Nat} (hy : y < 128) (hx : x < 128) : nI y &&& (nI x ^^^ (-1 : Int32)) = nI (dfN y x) ∧ dfN y x < 128 ∧ ∀ u, u < 7 → btN (dfN y x) u = (btN y u && !btN x u) := by
  have h := al2 bs5 hy hx
  simp only [Bool.and_eq_true, Nat.ble_eq, beq_iff_eq, List.all_eq_true, List.mem_range] at h
  exact ⟨h.1.1, by omega, h.2⟩
theorem pc_0 {x : Nat} (hx : x < 128) (h : pcN x = 0) : x = 0 := by
  have h2 := List.all_eq_true.mp bs4 x (List.mem_range.mpr hx)
  simp only [Bool.and_eq_true, Bool.or_eq_true, Nat.ble_eq, decide_eq_true_eq] at h2
  omega
theorem pc_00 : pcN 0 = 0 := by decide
theorem c_bits {x : Nat} (hx : x < 128) (σ : am_S) : fn_J6_bitCount_0f7a4 (nI x) σ = some (nI (pcN x), σ) := by
  have h2 := List.all_eq_true.mp bs4 x (List.mem_range.mpr hx)
  simp only [Bool.and_eq_true] at h2
  have h3 := h2.1
  unfold fn_J6_bitCount_0f7a4 at h3 ⊢
  dsimp only at h3
  exact congrArg (fun z => some (z, σ)) (eq_of_beq h3)
/-! the first of the least -/
/-- the first place below n in B where g is least -/
def taN (g : Nat → Nat) (b : Nat → Bool) : Nat → Option Nat
  | 0 => none
  | k + 1 => if b k = true then (match taN g b k with
      | none => some k
      | some j => if g k < g j then some k else some j) else taN g b k
section PTA
variable {g g' : Nat → Nat} {b : Nat → Bool}
theorem ta_f {k : Nat} (h : b k = false) : taN g b (k + 1) = taN g b k := by
  show (if b k = true then _ else _) = _
  rw [if_neg (by rw [h]; decide)]
theorem ta_t0 {k : Nat} (h : b k = true) (h2 : taN g b k = none) : taN g b (k + 1) = some k := by
  show (if b k = true then _ else _) = _
  rw [if_pos h, h2]
theorem ta_t1 {k j : Nat} (h : b k = true) (h2 : taN g b k = some j) : taN g b (k + 1) = if g k < g j then some k else some j := by
  show (if b k = true then _ else _) = _
  rw [if_pos h, h2]
theorem ta_ok : ∀ k, (taN g b k = none ∧ ∀ i, i < k → b i = false) ∨ ∃ j, taN g b k = some j ∧ j < k ∧ b j = true ∧ (∀ i, i < k → b i = true → g j ≤ g i) ∧ ∀ i, i < j → b i = true → g j < g i
  | 0 => Or.inl ⟨rfl, fun i hi => absurd hi (Nat.not_lt_zero _)⟩
  | k + 1 => by
    cases hb : b k
    · rw [ta_f hb]
      rcases ta_ok k with ⟨h1, h2⟩ | ⟨j, h1, h2, h3, h4, h5⟩
      · refine Or.inl ⟨h1, fun i hi => ?_⟩
        by_cases c : i = k
        · rw [c]; exact hb
        · exact h2 i (by omega)
      · refine Or.inr ⟨j, h1, by omega, h3, fun i hi hbi => ?_, h5⟩
        by_cases c : i = k
        · rw [c, hb] at hbi; cases hbi
        · exact h4 i (by omega) hbi
    · rcases ta_ok k with ⟨h1, h2⟩ | ⟨j, h1, h2, h3, h4, h5⟩
      · rw [ta_t0 hb h1]
        refine Or.inr ⟨k, rfl, by omega, hb, fun i hi hbi => ?_, fun i hi hbi => ?_⟩
        · by_cases c : i = k
          · rw [c]; exact Nat.le_refl _
          · rw [h2 i (by omega)] at hbi; cases hbi
        · rw [h2 i hi] at hbi; cases hbi
      · rw [ta_t1 hb h1]
        by_cases c : g k < g j
        · rw [if_pos c]
          refine Or.inr ⟨k, rfl, by omega, hb, fun i hi hbi => ?_, fun i hi hbi => ?_⟩
          · by_cases d : i = k
            · rw [d]; exact Nat.le_refl _
            · have := h4 i (by omega) hbi; omega
          · have := h4 i hi hbi; omega
        · rw [if_neg c]
          refine Or.inr ⟨j, rfl, by omega, h3, fun i hi hbi => ?_, h5⟩
          by_cases d : i = k
          · rw [d]; omega
          · exact h4 i (by omega) hbi
theorem ta_congr : ∀ k, (∀ i, i < k → b i = true → g i = g' i) → taN g b k = taN g' b k
  | 0, _ => rfl
  | k + 1, h => by
    have ih := ta_congr k (fun i hi => h i (by omega))
    cases hb : b k
    · rw [ta_f hb, ta_f hb, ih]
    · rcases ta_ok (g := g) (b := b) k with ⟨h1, h2⟩ | ⟨j, h1, h2, h3, h4, h5⟩
      · rw [ta_t0 hb h1, ta_t0 hb (ih ▸ h1)]
      · rw [ta_t1 hb h1, ta_t1 hb (ih ▸ h1), h k (by omega) hb, h j (by omega) h3]
end PTA
/-- the better of two: cheaper, or first -/
def btr (x : Option (Nat × List Nat)) (y : Nat × List Nat) : Option (Nat × List Nat) := match x with
  | none => some y
  | some z => if y.1 < z.1 then some y else some z
def fldN (b : Nat → Bool) (X : Nat → Nat × List Nat) (x : Option (Nat × List Nat)) : Nat → Option (Nat × List Nat)
  | 0 => x
  | k + 1 => if b k = true then btr (fldN b X x k) (X k) else fldN b X x k
theorem fld_ta {b : Nat → Bool} {X : Nat → Nat × List Nat} {x : Option (Nat × List Nat)} : ∀ k, fldN b X x k = match taN (fun u => (X u).1) b k with
    | none => x
    | some j => btr x (X j)
  | 0 => rfl
  | k + 1 => by
    have ih := fld_ta (b := b) (X := X) (x := x) k
    show (if b k = true then btr (fldN b X x k) (X k) else fldN b X x k) = _
    cases hb : b k
    · rw [ta_f hb, if_neg (by decide), ih]
    · rw [if_pos rfl]
      rcases ta_ok (g := fun u => (X u).1) (b := b) k with ⟨h1, -⟩ | ⟨j, h1, -⟩
      · rw [h1] at ih
        rw [ta_t0 hb h1, ih]
      · rw [h1] at ih
        rw [ta_t1 hb h1, ih]
        show btr (btr x (X j)) (X k) = match (if (X k).1 < (X j).1 then some k else some j) with
          | none => x
          | some j => btr x (X j)
        cases x with
        | none =>
          show (if (X k).1 < (X j).1 then some (X k) else some (X j)) = _
          by_cases c : (X k).1 < (X j).1
          · rw [if_pos c, if_pos c]; rfl
          · rw [if_neg c, if_neg c]; rfl
        | some z =>
          show btr (if (X j).1 < z.1 then some (X j) else some z) (X k) = _
          by_cases d : (X j).1 < z.1
          · rw [if_pos d]
            show (if (X k).1 < (X j).1 then some (X k) else some (X j)) = _
            by_cases c : (X k).1 < (X j).1
            · rw [if_pos c, if_pos c]
              show _ = if (X k).1 < z.1 then some (X k) else some z
              rw [if_pos (by omega)]
            · rw [if_neg c, if_neg c]
              show _ = if (X j).1 < z.1 then some (X j) else some z
              rw [if_pos d]
          · rw [if_neg d]
            show (if (X k).1 < z.1 then some (X k) else some z) = _
            by_cases c : (X k).1 < (X j).1
            · rw [if_pos c]
              rfl
            · rw [if_neg c]
              show _ = if (X j).1 < z.1 then some (X j) else some z
              rw [if_neg d, if_neg (by omega)]
/-! a search by steps: what may be taken, what it costs, where it leads, what the end costs -/
def srT {S : Type} (b : S → Nat → Bool) (c : S → Nat → Nat) (nx : S → Nat → S) (e : S → Nat) : Nat → S → Nat
  | 0, s => e s
  | f + 1, s => match taN (fun u => c s u + srT b c nx e f (nx s u)) (b s) 7 with
    | none => 0
    | some j => c s j + srT b c nx e f (nx s j)
def srO {S : Type} (b : S → Nat → Bool) (c : S → Nat → Nat) (nx : S → Nat → S) (e : S → Nat) : Nat → S → List Nat
  | 0, _ => []
  | f + 1, s => match taN (fun u => c s u + srT b c nx e f (nx s u)) (b s) 7 with
    | none => []
    | some j => j :: srO b c nx e f (nx s j)
section PSR
variable {S : Type} {b : S → Nat → Bool} {c : S → Nat → Nat} {nx : S → Nat → S} {e : S → Nat}
theorem sr_1 {f : Nat} {s : S} {j : Nat} (h : taN (fun u => c s u + srT b c nx e f (nx s u)) (b s) 7 = some j) : srT b c nx e (f + 1) s = c s j + srT b c nx e f (nx s j) ∧ srO b c nx e (f + 1) s = j :: srO b c nx e f (nx s j) := by
  constructor
  · show (match taN (fun u => c s u + srT b c nx e f (nx s u)) (b s) 7 with
      | none => 0
      | some j => c s j + srT b c nx e f (nx s j)) = _
    rw [h]
  · show (match taN (fun u => c s u + srT b c nx e f (nx s u)) (b s) 7 with
      | none => []
      | some j => j :: srO b c nx e f (nx s j)) = _
    rw [h]
/-- all candidates of a search, each behind x -/
theorem sr_fld {f : Nat} {s : S} {x : Option (Nat × List Nat)} {w : Nat} {pre : List Nat} (hb : ∃ i, i < 7 ∧ b s i = true) : fldN (b s) (fun u => (w + c s u + srT b c nx e f (nx s u), (pre ++ [u]) ++ srO b c nx e f (nx s u))) x 7 = btr x (w + srT b c nx e (f + 1) s, pre ++ srO b c nx e (f + 1) s) := by
  rw [fld_ta]
  have hc : taN (fun u => w + c s u + srT b c nx e f (nx s u)) (b s) 7 = taN (fun u => c s u + srT b c nx e f (nx s u)) (b s) 7 := by
    have key : ∀ k, taN (fun u => w + c s u + srT b c nx e f (nx s u)) (b s) k = taN (fun u => c s u + srT b c nx e f (nx s u)) (b s) k := by
      intro k
      induction k with
      | zero => rfl
      | succ k ih =>
        cases hb : b s k
        · rw [ta_f hb, ta_f hb, ih]
        · rcases ta_ok (g := fun u => c s u + srT b c nx e f (nx s u)) (b := b s) k with ⟨h1, h2⟩ | ⟨j, h1, h2, h3, h4, h5⟩
          · rw [ta_t0 hb h1, ta_t0 hb (ih.trans h1)]
          · rw [ta_t1 hb h1, ta_t1 hb (ih.trans h1)]
            by_cases q : c s k + srT b c nx e f (nx s k) < c s j + srT b c nx e f (nx s j)
            · rw [if_pos q, if_pos (by omega)]
            · rw [if_neg q, if_neg (by omega)]
    exact key 7
  show (match taN (fun u => w + c s u + srT b c nx e f (nx s u)) (b s) 7 with
    | none => x
    | some j => btr x (w + c s j + srT b c nx e f (nx s j), (pre ++ [j]) ++ srO b c nx e f (nx s j))) = _
  rw [hc]
  rcases ta_ok (g := fun u => c s u + srT b c nx e f (nx s u)) (b := b s) 7 with ⟨h1, h2⟩ | ⟨j, h1, h2, h3, h4, h5⟩
  · obtain ⟨i, i1, i2⟩ := hb
    rw [h2 i i1] at i2
    cases i2
  · rw [h1]
    show btr x (w + c s j + srT b c nx e f (nx s j), (pre ++ [j]) ++ srO b c nx e f (nx s j)) = _
    rw [(sr_1 h1).1, (sr_1 h1).2, Nat.add_assoc, List.append_assoc]
    rfl
theorem sr_le {B C : Nat} (hc : ∀ s u, u < 7 → c s u ≤ B) (he : ∀ s, e s ≤ C) : ∀ f s, srT b c nx e f s ≤ f * B + C
  | 0, s => by
    show e s ≤ _
    have := he s
    omega
  | f + 1, s => by
    rcases ta_ok (g := fun u => c s u + srT b c nx e f (nx s u)) (b := b s) 7 with ⟨h1, h2⟩ | ⟨j, h1, h2, h3, h4, h5⟩
    · show (match taN (fun u => c s u + srT b c nx e f (nx s u)) (b s) 7 with
        | none => 0
        | some j => c s j + srT b c nx e f (nx s j)) ≤ _
      rw [h1]
      exact Nat.zero_le _
    · rw [(sr_1 h1).1]
      have q1 := hc s j h2
      have q2 := sr_le hc he f (nx s j)
      rw [Nat.succ_mul]
      omega
theorem sr_mono {c' : S → Nat → Nat} {e' : S → Nat} (hc : ∀ s u, u < 7 → c s u ≤ c' s u) (he : ∀ s, e s ≤ e' s) : ∀ f s, srT b c nx e f s ≤ srT b c' nx e' f s
  | 0, s => he s
  | f + 1, s => by
    rcases ta_ok (g := fun u => c' s u + srT b c' nx e' f (nx s u)) (b := b s) 7 with ⟨h1, h2⟩ | ⟨j, h1, h2, h3, h4, h5⟩
    · rcases ta_ok (g := fun u => c s u + srT b c nx e f (nx s u)) (b := b s) 7 with ⟨k1, k2⟩ | ⟨i, k1, k2, k3, k4, k5⟩
      · show (match taN (fun u => c s u + srT b c nx e f (nx s u)) (b s) 7 with
          | none => 0
          | some j => c s j + srT b c nx e f (nx s j)) ≤ _
        rw [k1]
        exact Nat.zero_le _
      · rw [h2 i k2] at k3; cases k3
    · rw [(sr_1 h1).1]
      rcases ta_ok (g := fun u => c s u + srT b c nx e f (nx s u)) (b := b s) 7 with ⟨k1, k2⟩ | ⟨i, k1, k2, k3, k4, k5⟩
      · rw [k2 j h2] at h3; cases h3
      · rw [(sr_1 k1).1]
        have q1 := k4 j h2 h3
        have q2 := hc s j h2
        have q3 := sr_mono hc he f (nx s j)
        have q4 : c s i + srT b c nx e f (nx s i) ≤ c s j + srT b c nx e f (nx s j) := q1
        omega
theorem srO_len : ∀ f s, (srO b c nx e f s).length ≤ f
  | 0, s => Nat.le_refl _
  | f + 1, s => by
    rcases ta_ok (g := fun u => c s u + srT b c nx e f (nx s u)) (b := b s) 7 with ⟨h1, h2⟩ | ⟨j, h1, h2, h3, h4, h5⟩
    · show (match taN (fun u => c s u + srT b c nx e f (nx s u)) (b s) 7 with
        | none => []
        | some j => j :: srO b c nx e f (nx s j)).length ≤ _
      rw [h1]
      exact Nat.zero_le _
    · rw [(sr_1 h1).2, List.length_cons]
      have := srO_len f (nx s j)
      omega
end PSR
