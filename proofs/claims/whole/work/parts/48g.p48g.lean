/-! ===== deeds ===== -/
theorem i_le {α : Type} {a b : Nat} {x y : α} (ha : a < 2147483648) (hb : b < 2147483648) : (if nI a ≤ nI b then x else y) = if a ≤ b then x else y := by simp only [n_le_i ha hb]
theorem i_lt {α : Type} {a b : Nat} {x y : α} (ha : a < 2147483648) (hb : b < 2147483648) : (if nI a < nI b then x else y) = if a < b then x else y := by simp only [n_lt_i ha hb]
theorem i_eq {α : Type} {a b : Nat} {x y : α} (ha : a < 2147483648) (hb : b < 2147483648) : (if nI a = nI b then x else y) = if a = b then x else y := by simp only [n_eq_i ha hb]
/-- what a person's facts may be -/
def pb (f : Nat → Nat) : Prop := f 0 ≤ 5 ∧ f 1 ≤ 9 ∧ f 2 < 7 ∧ f 3 < 7 ∧ f 4 < 128 ∧ f 5 ≤ 999 ∧ f 6 ≤ 20 ∧ f 7 ≤ 999
/-- the facts behind a step a to u that costs x -/
def stF (f : Nat → Nat) (a u x : Nat) : Nat → Nat := fun j => if j = 5 then f 5 - x else if j = 6 then f 6 + 1 else if j = 3 then u else if j = 7 then (if a = 0 then (if f 7 + 1 < 999 then f 7 + 1 else 999) else f 7) else f j
def woF (A : pu_L) (f : Nat → Nat) : Nat → Nat := fun j => if j = 5 then (if f 5 + lV A 2 (f 3) < 999 then f 5 + lV A 2 (f 3) else 999) else if j = 6 then f 6 + 2 else f j
def reF (f : Nat → Nat) : Nat → Nat := fun j => if j = 6 then (if kuB (f 0) 2 = true then f 6 / 2 else 0) else f j
def dStep (A : pu_L) (f : Nat → Nat) (a : Nat) : Option (Nat → Nat) := (eoN A (f 3) a).bind fun u => if f 6 + 1 ≤ 20 ∧ prK (f 0) (f 1) a (faN A (f 3) a) ≤ f 5 then some (stF f a u (prK (f 0) (f 1) a (faN A (f 3) a))) else none
def dWork (A : pu_L) (f : Nat → Nat) : Option (Nat → Nat) := if f 3 = 6 then none else if f 6 + 2 ≤ 20 then some (woF A f) else none
def dRest (f : Nat → Nat) : Option (Nat → Nat) := if f 3 = 6 then some (reF f) else none
/-- an act: the facts behind it, or none -/
def dF (A : pu_L) (f : Nat → Nat) (a : Nat) : Option (Nat → Nat) := if a = 8 then dWork A f else if a = 9 then dRest f else dStep A f a
/-- the land in which p's facts are f -/
def sR (A : pu_L) (p : Nat) (f : Nat → Nat) : pu_L := (A.1, A.2.1, fun p' j' => if p' = p then f j' else lE A p' j', A.2.2.2)
theorem pb_of {A : pu_L} {p : Nat} (hk : pu_k A) (hp : p < lne A) : pb (lE A p) := hk.2.2.2.2.2 p hp
theorem j8 {P : Nat → Prop} (h0 : P 0) (h1 : P 1) (h2 : P 2) (h3 : P 3) (h4 : P 4) (h5 : P 5) (h6 : P 6) (h7 : P 7) : ∀ j, j < 8 → P j := fun j hj => by
  rcases (show j = 0 ∨ j = 1 ∨ j = 2 ∨ j = 3 ∨ j = 4 ∨ j = 5 ∨ j = 6 ∨ j = 7 by omega) with rfl | rfl | rfl | rfl | rfl | rfl | rfl | rfl <;> assumption
section PDD
variable {A : pu_L} {σ τ : am_S} {o p a v s : Nat} {f g : Nat → Nat}
theorem pu_k.row (hk : pu_k A) (hb : pb g) : pu_k (sR A p g) := by
  obtain ⟨h1, h2, h3, h4, h5, h6⟩ := hk
  refine ⟨h1, h2, h3, h4, h5, fun q hq => ?_⟩
  show pb (fun j => if q = p then g j else lE A q j)
  by_cases c : q = p
  · simp only [c, if_true]; exact hb
  · simp only [c, if_false]; exact h6 q hq
theorem pu_c.row (h : pu_c A o σ) (hf : fr (fun o' k i _ => o' = o ∧ k = 8 ∧ i = p) σ τ) (hg : ∀ j, j < 8 → τ.1 o 8 p j = nI (g j)) : pu_c (sR A p g) o τ := by
  refine ⟨fun w' hw' v' hv' => ?_, fun r hr j hj => ?_, fun p' hp' j' hj' => ?_, ?_, ?_, ?_, ?_, ?_⟩
  rotate_left 2
  · show _ = nI (if p' = p then g j' else lE A p' j')
    by_cases c : p' = p
    · rw [if_pos c, c]; exact hg j' hj'
    · rw [if_neg c, (hf _ _ _ _ (by omega)).1]; exact h.E hp' hj'
  all_goals rw [(hf _ _ _ _ (by omega)).1]
  · exact h.np
  · exact h.ne
  · exact h.bk
  · exact h.sd
  · exact h.ac
  · exact h.V hw' hv'
  · exact h.P hr hj
theorem pu_m.row (h : pu_m A o σ) (hf : fr (fun o' k i j => o' = o ∧ 55 ≤ k ∧ k ≤ 62 ∧ i = 0 ∧ j = p) σ τ) (hg : ∀ j, j < 8 → τ.1 o (55 + j) 0 p = nI (g j)) : pu_m (sR A p g) o τ := by
  refine ⟨fun w' hw' v' hv' => ?_, fun r hr j hj => ?_, fun p' hp' j' hj' => ?_, ?_, ?_, ?_, ?_, ?_⟩
  rotate_left 2
  · show _ = nI (if p' = p then g j' else lE A p' j')
    by_cases c : p' = p
    · rw [if_pos c, c]; exact hg j' hj'
    · rw [if_neg c, (hf _ _ _ _ (by omega)).1]; exact h.2.2.1 p' hp' j' hj'
  all_goals rw [(hf _ _ _ _ (by omega)).1]
  · exact h.np
  · exact h.ne
  · exact h.bk
  · exact h.sd
  · exact h.ac
  · exact h.1 w' hw' v' hv'
  · exact h.P hr hj
theorem dF_pb (hk : pu_k A) (hb : pb f) (h : dF A f a = some g) : pb g ∧ g 0 = f 0 ∧ g 1 = f 1 ∧ g 2 = f 2 ∧ g 4 = f 4 := by
  obtain ⟨b0, b1, b2, b3, b4, b5, b6, b7⟩ := hb
  unfold dF at h
  by_cases c8 : a = 8
  · rw [if_pos c8] at h
    unfold dWork at h
    by_cases c : f 3 = 6
    · rw [if_pos c] at h; cases h
    · rw [if_neg c] at h
      by_cases d : f 6 + 2 ≤ 20
      · rw [if_pos d] at h
        cases h
        have q : (if f 5 + lV A 2 (f 3) < 999 then f 5 + lV A 2 (f 3) else 999) ≤ 999 := by split <;> omega
        exact ⟨⟨b0, b1, b2, b3, b4, q, d, b7⟩, rfl, rfl, rfl, rfl⟩
      · rw [if_neg d] at h; cases h
  · rw [if_neg c8] at h
    by_cases c9 : a = 9
    · rw [if_pos c9] at h
      unfold dRest at h
      by_cases c : f 3 = 6
      · rw [if_pos c] at h
        cases h
        have q : (if kuB (f 0) 2 = true then f 6 / 2 else 0) ≤ 20 := by split <;> omega
        exact ⟨⟨b0, b1, b2, b3, b4, b5, q, b7⟩, rfl, rfl, rfl, rfl⟩
      · rw [if_neg c] at h; cases h
    · rw [if_neg c9] at h
      unfold dStep at h
      cases e : eoN A (f 3) a with
      | none => rw [e] at h; cases h
      | some u =>
        rw [e, Option.bind_some] at h
        have hu := eo_lt hk e
        by_cases d : f 6 + 1 ≤ 20 ∧ prK (f 0) (f 1) a (faN A (f 3) a) ≤ f 5
        · rw [if_pos d] at h
          cases h
          have q : (if a = 0 then (if f 7 + 1 < 999 then f 7 + 1 else 999) else f 7) ≤ 999 := by split <;> (try split) <;> omega
          have q2 : f 5 - prK (f 0) (f 1) a (faN A (f 3) a) ≤ 999 := by omega
          exact ⟨⟨b0, b1, b2, hu, b4, q2, d.1, q⟩, rfl, rfl, rfl, rfl⟩
        · rw [if_neg d] at h; cases h
theorem c_prR_8 (hk : pu_k A) (hc : pu_c A 1 σ) (hb : pb f) (hr : ∀ j, j < 8 → σ.1 1 8 p j = nI (f j)) (hv : v < 7) (hs : s < 5) (he : eoN A v s ≠ none) : fn_X0_priceFor_8 1 1 p (nI v) (nI s) σ = some (nI (prK (f 0) (f 1) s (faN A v s)), σ) := by
  obtain ⟨x, f1, f2, f3⟩ := c_fareOf hc hk hv hs
  have f3 := f3 he
  subst f3
  obtain ⟨h5, h9, -⟩ := hb
  unfold fn_X0_priceFor_8
  rw [f2]
  simp -implicitDefEqProofs only [Option.bind_some]
  generalize faN A v s = x at f1
  simp -implicitDefEqProofs (disch := omega) only [hr, z0, z1, z2, z3, z4, z5, n_eq_i, n_div, nI_add, n_mul]
  unfold prK
  split
  · rfl
  · split
    · rfl
    · split
      · rcases Nat.lt_or_ge (f 1) (x / 2) with q | q
        · simp -implicitDefEqProofs (disch := omega) only [n_sub, n_lt_t, if_true]
        · have : ¬ (nI 0 < nI (x / 2) - nI (f 1)) := by
            rw [Int32.lt_iff_toInt_lt, Int32.toInt_sub, n_ti (by omega), n_ti (by omega), n_ti (by omega)]
            show ¬ ((0 : Int) < (((x / 2 : Nat) : Int) - (f 1 : Int)).bmod 4294967296)
            rw [Int.bmod_eq_of_le (by omega) (by omega)]
            omega
          rw [if_neg this, Nat.sub_eq_zero_of_le q]
      · split
        · rcases Nat.lt_or_ge s 2 with q | q
          · simp -implicitDefEqProofs (disch := omega) only [n_lt_t, if_true, q]
          · have q2 : ¬ s < 2 := by omega
            simp -implicitDefEqProofs (disch := omega) only [n_lt_f, if_false, q2]
        · split <;> rfl
theorem c_step_8 (hk : pu_k A) (hc : pu_c A 1 σ) (hb : pb f) (hr : ∀ j, j < 8 → σ.1 1 8 p j = nI (f j)) (ha : a < 5) : (dStep A f a = none ∧ fn_X0_tryStep_8 1 1 p (nI a) σ = some (nI 0, σ)) ∨ ∃ g τ, dStep A f a = some g ∧ fn_X0_tryStep_8 1 1 p (nI a) σ = some (nI 1, τ) ∧ fr (fun o k i _ => o = 1 ∧ k = 8 ∧ i = p) σ τ ∧ ∀ j, j < 8 → τ.1 1 8 p j = nI (g j) := by
  obtain ⟨b0, b1, b2, b3, b4, b5, b6, b7⟩ := id hb
  have r3 := hr 3 (by decide)
  have r5 := hr 5 (by decide)
  have r6 := hr 6 (by decide)
  have r7 := hr 7 (by decide)
  unfold dStep fn_X0_tryStep_8
  rw [r3, c_endOf hc hk b3 ha]
  cases e : eoN A (f 3) a with
  | none => exact Or.inl ⟨rfl, rfl⟩
  | some u =>
    have hu := eo_lt hk e
    have hp := c_prR_8 (s := a) hk hc hb hr b3 ha (by rw [e]; simp)
    have hx : prK (f 0) (f 1) a (faN A (f 3) a) ≤ 36 := pr_le b1 (fa_le hk b3 (by rw [e]; simp))
    generalize prK (f 0) (f 1) a (faN A (f 3) a) = x at hp hx
    simp -implicitDefEqProofs (disch := omega) only [Option.bind_some, oI, z1, zn, n_neg1, z20, ↓reduceIte, r3, r5, r6, nI_add, n_le_i, hp, z0, n_eq_i]
    by_cases d : f 6 + 1 ≤ 20
    · rw [if_pos d]
      by_cases d2 : x ≤ f 5
      · rw [if_pos d2, if_pos ⟨d, d2⟩]
        refine Or.inr ⟨stF f a u x, ?_⟩
        by_cases a0 : a = 0
        · rw [if_pos a0]
          refine ⟨_, rfl, rfl, ((fr.u ⟨rfl, rfl, rfl⟩).tr (fr.u ⟨rfl, rfl, rfl⟩)).tr ((fr.u ⟨rfl, rfl, rfl⟩).tr (fr.u ⟨rfl, rfl, rfl⟩)), ?_⟩
          have q7 : (if nI (f 7 + 1) < (999 : Int32) then nI (f 7 + 1) else 999) = nI (if f 7 + 1 < 999 then f 7 + 1 else 999) := by
            rw [z999, i_lt (by omega) (by omega)]
            split <;> rfl
          simp only [r5, r6, r7, nI_add, q7]
          refine j8 ?_ ?_ ?_ ?_ ?_ ?_ ?_ ?_
          · rw [u_ne (by omega), u_ne (by omega), u_ne (by omega), u_ne (by omega)]; exact hr 0 (by decide)
          · rw [u_ne (by omega), u_ne (by omega), u_ne (by omega), u_ne (by omega)]; exact hr 1 (by decide)
          · rw [u_ne (by omega), u_ne (by omega), u_ne (by omega), u_ne (by omega)]; exact hr 2 (by decide)
          · rw [u_ne (by omega), u_at]; rfl
          · rw [u_ne (by omega), u_ne (by omega), u_ne (by omega), u_ne (by omega)]; exact hr 4 (by decide)
          · rw [u_ne (by omega), u_ne (by omega), u_ne (by omega), u_at, n_sub d2]; rfl
          · rw [u_ne (by omega), u_ne (by omega), u_at]; rfl
          · rw [u_at]
            show _ = nI (if a = 0 then (if f 7 + 1 < 999 then f 7 + 1 else 999) else f 7)
            rw [if_pos a0]
        · rw [if_neg a0]
          refine ⟨_, rfl, rfl, ((fr.u ⟨rfl, rfl, rfl⟩).tr (fr.u ⟨rfl, rfl, rfl⟩)).tr (fr.u ⟨rfl, rfl, rfl⟩), ?_⟩
          refine j8 ?_ ?_ ?_ ?_ ?_ ?_ ?_ ?_
          · rw [u_ne (by omega), u_ne (by omega), u_ne (by omega)]; exact hr 0 (by decide)
          · rw [u_ne (by omega), u_ne (by omega), u_ne (by omega)]; exact hr 1 (by decide)
          · rw [u_ne (by omega), u_ne (by omega), u_ne (by omega)]; exact hr 2 (by decide)
          · rw [u_at]; rfl
          · rw [u_ne (by omega), u_ne (by omega), u_ne (by omega)]; exact hr 4 (by decide)
          · rw [u_ne (by omega), u_ne (by omega), u_at, n_sub d2]; rfl
          · rw [u_ne (by omega), u_at]; rfl
          · rw [u_ne (by omega), u_ne (by omega), u_ne (by omega)]
            show _ = nI (if a = 0 then (if f 7 + 1 < 999 then f 7 + 1 else 999) else f 7)
            rw [if_neg a0]; exact r7
      · rw [if_neg d2, if_neg (by omega)]
        exact Or.inl ⟨rfl, rfl⟩
    · rw [if_neg d, if_neg (by omega)]
      exact Or.inl ⟨rfl, rfl⟩
theorem c_work_8 (hk : pu_k A) (hc : pu_c A 1 σ) (hb : pb f) (hr : ∀ j, j < 8 → σ.1 1 8 p j = nI (f j)) : (dWork A f = none ∧ fn_X0_tryWork_8 1 1 p σ = some (nI 0, σ)) ∨ ∃ g τ, dWork A f = some g ∧ fn_X0_tryWork_8 1 1 p σ = some (nI 1, τ) ∧ fr (fun o k i _ => o = 1 ∧ k = 8 ∧ i = p) σ τ ∧ ∀ j, j < 8 → τ.1 1 8 p j = nI (g j) := by
  obtain ⟨b0, b1, b2, b3, b4, b5, b6, b7⟩ := id hb
  have r3 := hr 3 (by decide)
  have r5 := hr 5 (by decide)
  have r6 := hr 6 (by decide)
  unfold dWork fn_X0_tryWork_8
  by_cases c : f 3 = 6
  · refine Or.inl ⟨if_pos c, ?_⟩
    rw [r3, c]
    rfl
  · have hpay : fn_X0_payAt 1 (nI (f 3)) σ = some (nI (lV A 2 (f 3)), σ) := by
      unfold fn_X0_payAt
      rw [c_valley b3, Option.bind_some]
      simp -implicitDefEqProofs (disch := omega) only [z0, z1, z6, n_eq_f, n_eq_i, c, ↓reduceIte, n_in_t, cond_true, n_cl, hc.V]
    have hx := (hk.2.2.2.1 (f 3) b3).2.2.2
    rw [if_neg c]
    simp -implicitDefEqProofs (disch := omega) only [r3, r5, r6, z6, n_eq_i, c, ↓reduceIte, z2, nI_add, z20, n_le_i, hpay, Option.bind_some]
    by_cases d : f 6 + 2 ≤ 20
    · rw [if_pos d, if_pos d]
      refine Or.inr ⟨_, _, rfl, rfl, (fr.u ⟨rfl, rfl, rfl⟩).tr (fr.u ⟨rfl, rfl, rfl⟩), ?_⟩
      have q5 : (if nI (f 5 + lV A 2 (f 3)) < (999 : Int32) then nI (f 5 + lV A 2 (f 3)) else 999) = nI (if f 5 + lV A 2 (f 3) < 999 then f 5 + lV A 2 (f 3) else 999) := by
        rw [z999, i_lt (by omega) (by omega)]
        split <;> rfl
      rw [q5]
      refine j8 ?_ ?_ ?_ ?_ ?_ ?_ ?_ ?_
      · rw [u_ne (by omega), u_ne (by omega)]; exact hr 0 (by decide)
      · rw [u_ne (by omega), u_ne (by omega)]; exact hr 1 (by decide)
      · rw [u_ne (by omega), u_ne (by omega)]; exact hr 2 (by decide)
      · rw [u_ne (by omega), u_ne (by omega)]; exact hr 3 (by decide)
      · rw [u_ne (by omega), u_ne (by omega)]; exact hr 4 (by decide)
      · rw [u_ne (by omega), u_at]; rfl
      · rw [u_at]; rfl
      · rw [u_ne (by omega), u_ne (by omega)]; exact hr 7 (by decide)
    · rw [if_neg d, if_neg d]
      exact Or.inl ⟨rfl, rfl⟩
theorem c_rest_8 (hk : pu_k A) (hc : pu_c A 1 σ) (hb : pb f) (hr : ∀ j, j < 8 → σ.1 1 8 p j = nI (f j)) : (dRest f = none ∧ fn_X0_tryRest_8 1 p σ = some (nI 0, σ)) ∨ ∃ g τ, dRest f = some g ∧ fn_X0_tryRest_8 1 p σ = some (nI 1, τ) ∧ fr (fun o k i _ => o = 1 ∧ k = 8 ∧ i = p) σ τ ∧ ∀ j, j < 8 → τ.1 1 8 p j = nI (g j) := by
  obtain ⟨b0, b1, b2, b3, b4, b5, b6, b7⟩ := id hb
  have r0 := hr 0 (by decide)
  have r3 := hr 3 (by decide)
  have r6 := hr 6 (by decide)
  unfold dRest fn_X0_tryRest_8 jn_X0_tryRest_8_33
  by_cases c : f 3 = 6
  · rw [if_pos c, r3, c]
    have key : ∀ x : Nat, (∃ τ, some ((1 : Int32), am_u σ 1 8 p 6 (nI x)) = some (nI 1, τ) ∧ fr (fun o k i _ => o = 1 ∧ k = 8 ∧ i = p) σ τ ∧ τ.1 1 8 p 6 = nI x ∧ ∀ j, j < 8 → j ≠ 6 → τ.1 1 8 p j = nI (f j)) := fun x => ⟨_, rfl, fr.u ⟨rfl, rfl, rfl⟩, u_at, fun j hj h6 => by rw [u_ne (by omega)]; exact hr j hj⟩
    have fin : ∀ τ : am_S, τ.1 1 8 p 6 = nI (if kuB (f 0) 2 = true then f 6 / 2 else 0) → (∀ j, j < 8 → j ≠ 6 → τ.1 1 8 p j = nI (f j)) → ∀ j, j < 8 → τ.1 1 8 p j = nI (reF f j) := fun τ k6 kj j hj => by
      by_cases q : j = 6
      · subst q; exact k6
      · rw [kj j hj q]
        show _ = nI (if j = 6 then _ else f j)
        rw [if_neg q]
    refine Or.inr ⟨reF f, ?_⟩
    rw [if_pos (show nI 6 = (6 : Int32) from rfl), r0, z2, c_ofKind (by omega) (by decide), Option.bind_some]
    cases b : kuB (f 0) 2
    · obtain ⟨τ, e1, e2, e3, e4⟩ := key 0
      exact ⟨τ, rfl, e1, e2, fin τ (by rw [b]; exact e3) e4⟩
    · obtain ⟨τ, e1, e2, e3, e4⟩ := key (f 6 / 2)
      refine ⟨τ, rfl, ?_, e2, fin τ (by rw [b]; exact e3) e4⟩
      rw [← e1]
      show (bif am_in 6 8 then some (1, am_u σ 1 8 p (6 : Int32).toNatClampNeg (σ.1 1 8 p 6 / 2)) else none) = _
      rw [r6, z2, n_div (by omega) (by decide)]
      rfl
  · refine Or.inl ⟨if_neg c, ?_⟩
    rw [r3, z6, if_neg (fun q => c ((nI_eq (by omega) (by decide)).mp q))]
    rfl
theorem c_act_8 (hk : pu_k A) (hc : pu_c A 1 σ) (hb : pb f) (hr : ∀ j, j < 8 → σ.1 1 8 p j = nI (f j)) (ha : a < 5 ∨ a = 8 ∨ a = 9) : (dF A f a = none ∧ fn_X0_tryAct_8 1 1 p (nI a) σ = some (nI 0, σ)) ∨ ∃ g τ, dF A f a = some g ∧ fn_X0_tryAct_8 1 1 p (nI a) σ = some (nI 1, τ) ∧ fr (fun o k i _ => o = 1 ∧ k = 8 ∧ i = p) σ τ ∧ ∀ j, j < 8 → τ.1 1 8 p j = nI (g j) := by
  unfold dF fn_X0_tryAct_8
  rcases ha with ha | rfl | rfl
  · rw [if_neg (by omega), if_neg (by omega), if_neg (show ¬ nI a = (8 : Int32) from fun q => absurd ((nI_eq (a := a) (b := 8) (by omega) (by decide)).mp q) (by omega)), if_neg (show ¬ nI a = (9 : Int32) from fun q => absurd ((nI_eq (a := a) (b := 9) (by omega) (by decide)).mp q) (by omega))]
    rcases c_step_8 hk hc hb hr ha with ⟨h1, h2⟩ | ⟨g, τ, h1, h2, h3⟩
    · exact Or.inl ⟨h1, by rw [h2]; rfl⟩
    · exact Or.inr ⟨g, τ, h1, by rw [h2]; rfl, h3⟩
  · rw [if_pos rfl, if_pos (show nI 8 = (8 : Int32) from rfl)]
    rcases c_work_8 hk hc hb hr with ⟨h1, h2⟩ | ⟨g, τ, h1, h2, h3⟩
    · exact Or.inl ⟨h1, by rw [h2]; rfl⟩
    · exact Or.inr ⟨g, τ, h1, by rw [h2]; rfl, h3⟩
  · rw [if_neg (by decide), if_pos rfl, if_neg (show ¬ nI 9 = (8 : Int32) by decide), if_pos (show nI 9 = (9 : Int32) from rfl)]
    rcases c_rest_8 hk hc hb hr with ⟨h1, h2⟩ | ⟨g, τ, h1, h2, h3⟩
    · exact Or.inl ⟨h1, by rw [h2]; rfl⟩
    · exact Or.inr ⟨g, τ, h1, by rw [h2]; rfl, h3⟩
theorem c_prR_33 (hk : pu_k A) (hc : pu_c A 1 σ) (hb : pb f) (hr : ∀ j, j < 8 → σ.1 15 33 0 j = nI (f j)) (hv : v < 7) (hs : s < 5) (he : eoN A v s ≠ none) : fn_X0_priceFor_33 1 (nI v) (nI s) σ = some (nI (prK (f 0) (f 1) s (faN A v s)), σ) := by
  obtain ⟨x, f1, f2, f3⟩ := c_fareOf hc hk hv hs
  have f3 := f3 he
  subst f3
  obtain ⟨h5, h9, -⟩ := hb
  unfold fn_X0_priceFor_33
  rw [f2]
  simp -implicitDefEqProofs only [Option.bind_some]
  generalize faN A v s = x at f1
  simp -implicitDefEqProofs (disch := omega) only [hr, z0, z1, z2, z3, z4, z5, n_eq_i, n_div, nI_add, n_mul]
  unfold prK
  split
  · rfl
  · split
    · rfl
    · split
      · rcases Nat.lt_or_ge (f 1) (x / 2) with q | q
        · simp -implicitDefEqProofs (disch := omega) only [n_sub, n_lt_t, if_true]
        · have : ¬ (nI 0 < nI (x / 2) - nI (f 1)) := by
            rw [Int32.lt_iff_toInt_lt, Int32.toInt_sub, n_ti (by omega), n_ti (by omega), n_ti (by omega)]
            show ¬ ((0 : Int) < (((x / 2 : Nat) : Int) - (f 1 : Int)).bmod 4294967296)
            rw [Int.bmod_eq_of_le (by omega) (by omega)]
            omega
          rw [if_neg this, Nat.sub_eq_zero_of_le q]
      · split
        · rcases Nat.lt_or_ge s 2 with q | q
          · simp -implicitDefEqProofs (disch := omega) only [n_lt_t, if_true, q]
          · have q2 : ¬ s < 2 := by omega
            simp -implicitDefEqProofs (disch := omega) only [n_lt_f, if_false, q2]
        · split <;> rfl
theorem c_step_33 (hk : pu_k A) (hc : pu_c A 1 σ) (hb : pb f) (hr : ∀ j, j < 8 → σ.1 15 33 0 j = nI (f j)) (ha : a < 5) : (dStep A f a = none ∧ fn_X0_tryStep_33 1 (nI a) σ = some (nI 0, σ)) ∨ ∃ g τ, dStep A f a = some g ∧ fn_X0_tryStep_33 1 (nI a) σ = some (nI 1, τ) ∧ fr (fun o k i _ => o = 15 ∧ k = 33 ∧ i = 0) σ τ ∧ ∀ j, j < 8 → τ.1 15 33 0 j = nI (g j) := by
  obtain ⟨b0, b1, b2, b3, b4, b5, b6, b7⟩ := id hb
  have r3 := hr 3 (by decide)
  have r5 := hr 5 (by decide)
  have r6 := hr 6 (by decide)
  have r7 := hr 7 (by decide)
  unfold dStep fn_X0_tryStep_33
  rw [r3, c_endOf hc hk b3 ha]
  cases e : eoN A (f 3) a with
  | none => exact Or.inl ⟨rfl, rfl⟩
  | some u =>
    have hu := eo_lt hk e
    have hp := c_prR_33 (s := a) hk hc hb hr b3 ha (by rw [e]; simp)
    have hx : prK (f 0) (f 1) a (faN A (f 3) a) ≤ 36 := pr_le b1 (fa_le hk b3 (by rw [e]; simp))
    generalize prK (f 0) (f 1) a (faN A (f 3) a) = x at hp hx
    simp -implicitDefEqProofs (disch := omega) only [Option.bind_some, oI, z1, zn, n_neg1, z20, ↓reduceIte, r3, r5, r6, nI_add, n_le_i, hp, z0, n_eq_i]
    by_cases d : f 6 + 1 ≤ 20
    · rw [if_pos d]
      by_cases d2 : x ≤ f 5
      · rw [if_pos d2, if_pos ⟨d, d2⟩]
        refine Or.inr ⟨stF f a u x, ?_⟩
        by_cases a0 : a = 0
        · rw [if_pos a0]
          refine ⟨_, rfl, rfl, ((fr.u ⟨rfl, rfl, rfl⟩).tr (fr.u ⟨rfl, rfl, rfl⟩)).tr ((fr.u ⟨rfl, rfl, rfl⟩).tr (fr.u ⟨rfl, rfl, rfl⟩)), ?_⟩
          have q7 : (if nI (f 7 + 1) < (999 : Int32) then nI (f 7 + 1) else 999) = nI (if f 7 + 1 < 999 then f 7 + 1 else 999) := by
            rw [z999, i_lt (by omega) (by omega)]
            split <;> rfl
          simp only [r5, r6, r7, nI_add, q7]
          refine j8 ?_ ?_ ?_ ?_ ?_ ?_ ?_ ?_
          · rw [u_ne (by omega), u_ne (by omega), u_ne (by omega), u_ne (by omega)]; exact hr 0 (by decide)
          · rw [u_ne (by omega), u_ne (by omega), u_ne (by omega), u_ne (by omega)]; exact hr 1 (by decide)
          · rw [u_ne (by omega), u_ne (by omega), u_ne (by omega), u_ne (by omega)]; exact hr 2 (by decide)
          · rw [u_ne (by omega), u_at]; rfl
          · rw [u_ne (by omega), u_ne (by omega), u_ne (by omega), u_ne (by omega)]; exact hr 4 (by decide)
          · rw [u_ne (by omega), u_ne (by omega), u_ne (by omega), u_at, n_sub d2]; rfl
          · rw [u_ne (by omega), u_ne (by omega), u_at]; rfl
          · rw [u_at]
            show _ = nI (if a = 0 then (if f 7 + 1 < 999 then f 7 + 1 else 999) else f 7)
            rw [if_pos a0]
        · rw [if_neg a0]
          refine ⟨_, rfl, rfl, ((fr.u ⟨rfl, rfl, rfl⟩).tr (fr.u ⟨rfl, rfl, rfl⟩)).tr (fr.u ⟨rfl, rfl, rfl⟩), ?_⟩
          refine j8 ?_ ?_ ?_ ?_ ?_ ?_ ?_ ?_
          · rw [u_ne (by omega), u_ne (by omega), u_ne (by omega)]; exact hr 0 (by decide)
          · rw [u_ne (by omega), u_ne (by omega), u_ne (by omega)]; exact hr 1 (by decide)
          · rw [u_ne (by omega), u_ne (by omega), u_ne (by omega)]; exact hr 2 (by decide)
          · rw [u_at]; rfl
          · rw [u_ne (by omega), u_ne (by omega), u_ne (by omega)]; exact hr 4 (by decide)
          · rw [u_ne (by omega), u_ne (by omega), u_at, n_sub d2]; rfl
          · rw [u_ne (by omega), u_at]; rfl
          · rw [u_ne (by omega), u_ne (by omega), u_ne (by omega)]
            show _ = nI (if a = 0 then (if f 7 + 1 < 999 then f 7 + 1 else 999) else f 7)
            rw [if_neg a0]; exact r7
      · rw [if_neg d2, if_neg (by omega)]
        exact Or.inl ⟨rfl, rfl⟩
    · rw [if_neg d, if_neg (by omega)]
      exact Or.inl ⟨rfl, rfl⟩
theorem c_work_33 (hk : pu_k A) (hc : pu_c A 1 σ) (hb : pb f) (hr : ∀ j, j < 8 → σ.1 15 33 0 j = nI (f j)) : (dWork A f = none ∧ fn_X0_tryWork_33 1 σ = some (nI 0, σ)) ∨ ∃ g τ, dWork A f = some g ∧ fn_X0_tryWork_33 1 σ = some (nI 1, τ) ∧ fr (fun o k i _ => o = 15 ∧ k = 33 ∧ i = 0) σ τ ∧ ∀ j, j < 8 → τ.1 15 33 0 j = nI (g j) := by
  obtain ⟨b0, b1, b2, b3, b4, b5, b6, b7⟩ := id hb
  have r3 := hr 3 (by decide)
  have r5 := hr 5 (by decide)
  have r6 := hr 6 (by decide)
  unfold dWork fn_X0_tryWork_33
  by_cases c : f 3 = 6
  · refine Or.inl ⟨if_pos c, ?_⟩
    rw [r3, c]
    rfl
  · have hpay : fn_X0_payAt 1 (nI (f 3)) σ = some (nI (lV A 2 (f 3)), σ) := by
      unfold fn_X0_payAt
      rw [c_valley b3, Option.bind_some]
      simp -implicitDefEqProofs (disch := omega) only [z0, z1, z6, n_eq_f, n_eq_i, c, ↓reduceIte, n_in_t, cond_true, n_cl, hc.V]
    have hx := (hk.2.2.2.1 (f 3) b3).2.2.2
    rw [if_neg c]
    simp -implicitDefEqProofs (disch := omega) only [r3, r5, r6, z6, n_eq_i, c, ↓reduceIte, z2, nI_add, z20, n_le_i, hpay, Option.bind_some]
    by_cases d : f 6 + 2 ≤ 20
    · rw [if_pos d, if_pos d]
      refine Or.inr ⟨_, _, rfl, rfl, (fr.u ⟨rfl, rfl, rfl⟩).tr (fr.u ⟨rfl, rfl, rfl⟩), ?_⟩
      have q5 : (if nI (f 5 + lV A 2 (f 3)) < (999 : Int32) then nI (f 5 + lV A 2 (f 3)) else 999) = nI (if f 5 + lV A 2 (f 3) < 999 then f 5 + lV A 2 (f 3) else 999) := by
        rw [z999, i_lt (by omega) (by omega)]
        split <;> rfl
      rw [q5]
      refine j8 ?_ ?_ ?_ ?_ ?_ ?_ ?_ ?_
      · rw [u_ne (by omega), u_ne (by omega)]; exact hr 0 (by decide)
      · rw [u_ne (by omega), u_ne (by omega)]; exact hr 1 (by decide)
      · rw [u_ne (by omega), u_ne (by omega)]; exact hr 2 (by decide)
      · rw [u_ne (by omega), u_ne (by omega)]; exact hr 3 (by decide)
      · rw [u_ne (by omega), u_ne (by omega)]; exact hr 4 (by decide)
      · rw [u_ne (by omega), u_at]; rfl
      · rw [u_at]; rfl
      · rw [u_ne (by omega), u_ne (by omega)]; exact hr 7 (by decide)
    · rw [if_neg d, if_neg d]
      exact Or.inl ⟨rfl, rfl⟩
theorem c_rest_33 (hk : pu_k A) (hc : pu_c A 1 σ) (hb : pb f) (hr : ∀ j, j < 8 → σ.1 15 33 0 j = nI (f j)) : (dRest f = none ∧ fn_X0_tryRest_33  σ = some (nI 0, σ)) ∨ ∃ g τ, dRest f = some g ∧ fn_X0_tryRest_33  σ = some (nI 1, τ) ∧ fr (fun o k i _ => o = 15 ∧ k = 33 ∧ i = 0) σ τ ∧ ∀ j, j < 8 → τ.1 15 33 0 j = nI (g j) := by
  obtain ⟨b0, b1, b2, b3, b4, b5, b6, b7⟩ := id hb
  have r0 := hr 0 (by decide)
  have r3 := hr 3 (by decide)
  have r6 := hr 6 (by decide)
  unfold dRest fn_X0_tryRest_33 jn_X0_tryRest_33_33
  by_cases c : f 3 = 6
  · rw [if_pos c, r3, c]
    have key : ∀ x : Nat, (∃ τ, some ((1 : Int32), am_u σ 15 33 0 6 (nI x)) = some (nI 1, τ) ∧ fr (fun o k i _ => o = 15 ∧ k = 33 ∧ i = 0) σ τ ∧ τ.1 15 33 0 6 = nI x ∧ ∀ j, j < 8 → j ≠ 6 → τ.1 15 33 0 j = nI (f j)) := fun x => ⟨_, rfl, fr.u ⟨rfl, rfl, rfl⟩, u_at, fun j hj h6 => by rw [u_ne (by omega)]; exact hr j hj⟩
    have fin : ∀ τ : am_S, τ.1 15 33 0 6 = nI (if kuB (f 0) 2 = true then f 6 / 2 else 0) → (∀ j, j < 8 → j ≠ 6 → τ.1 15 33 0 j = nI (f j)) → ∀ j, j < 8 → τ.1 15 33 0 j = nI (reF f j) := fun τ k6 kj j hj => by
      by_cases q : j = 6
      · subst q; exact k6
      · rw [kj j hj q]
        show _ = nI (if j = 6 then _ else f j)
        rw [if_neg q]
    refine Or.inr ⟨reF f, ?_⟩
    rw [if_pos (show nI 6 = (6 : Int32) from rfl), r0, z2, c_ofKind (by omega) (by decide), Option.bind_some]
    cases b : kuB (f 0) 2
    · obtain ⟨τ, e1, e2, e3, e4⟩ := key 0
      exact ⟨τ, rfl, e1, e2, fin τ (by rw [b]; exact e3) e4⟩
    · obtain ⟨τ, e1, e2, e3, e4⟩ := key (f 6 / 2)
      refine ⟨τ, rfl, ?_, e2, fin τ (by rw [b]; exact e3) e4⟩
      rw [← e1]
      show (bif am_in 6 8 then some (1, am_u σ 15 33 0 (6 : Int32).toNatClampNeg (σ.1 15 33 0 6 / 2)) else none) = _
      rw [r6, z2, n_div (by omega) (by decide)]
      rfl
  · refine Or.inl ⟨if_neg c, ?_⟩
    rw [r3, z6, if_neg (fun q => c ((nI_eq (by omega) (by decide)).mp q))]
    rfl
theorem c_act_33 (hk : pu_k A) (hc : pu_c A 1 σ) (hb : pb f) (hr : ∀ j, j < 8 → σ.1 15 33 0 j = nI (f j)) (ha : a < 5 ∨ a = 8 ∨ a = 9) : (dF A f a = none ∧ fn_X0_tryAct_33 1 (nI a) σ = some (nI 0, σ)) ∨ ∃ g τ, dF A f a = some g ∧ fn_X0_tryAct_33 1 (nI a) σ = some (nI 1, τ) ∧ fr (fun o k i _ => o = 15 ∧ k = 33 ∧ i = 0) σ τ ∧ ∀ j, j < 8 → τ.1 15 33 0 j = nI (g j) := by
  unfold dF fn_X0_tryAct_33
  rcases ha with ha | rfl | rfl
  · rw [if_neg (by omega), if_neg (by omega), if_neg (show ¬ nI a = (8 : Int32) from fun q => absurd ((nI_eq (a := a) (b := 8) (by omega) (by decide)).mp q) (by omega)), if_neg (show ¬ nI a = (9 : Int32) from fun q => absurd ((nI_eq (a := a) (b := 9) (by omega) (by decide)).mp q) (by omega))]
    rcases c_step_33 hk hc hb hr ha with ⟨h1, h2⟩ | ⟨g, τ, h1, h2, h3⟩
    · exact Or.inl ⟨h1, by rw [h2]; rfl⟩
    · exact Or.inr ⟨g, τ, h1, by rw [h2]; rfl, h3⟩
  · rw [if_pos rfl, if_pos (show nI 8 = (8 : Int32) from rfl)]
    rcases c_work_33 hk hc hb hr with ⟨h1, h2⟩ | ⟨g, τ, h1, h2, h3⟩
    · exact Or.inl ⟨h1, by rw [h2]; rfl⟩
    · exact Or.inr ⟨g, τ, h1, by rw [h2]; rfl, h3⟩
  · rw [if_neg (by decide), if_pos rfl, if_neg (show ¬ nI 9 = (8 : Int32) by decide), if_pos (show nI 9 = (9 : Int32) from rfl)]
    rcases c_rest_33 hk hc hb hr with ⟨h1, h2⟩ | ⟨g, τ, h1, h2, h3⟩
    · exact Or.inl ⟨h1, by rw [h2]; rfl⟩
    · exact Or.inr ⟨g, τ, h1, by rw [h2]; rfl, h3⟩
/-- the reference's act, on now (5) or on what is tried (7) -/
theorem m_acts (hk : pu_k A) (hm : pu_m A o σ) (hp : p < lne A) (ha : a < 5 ∨ a = 8 ∨ a = 9) : (dF A (lE A p) a = none ∧ fn_X8_acts o (nI p) (nI a) σ = some (nI 0, σ)) ∨ ∃ g τ, dF A (lE A p) a = some g ∧ fn_X8_acts o (nI p) (nI a) σ = some (nI 1, τ) ∧ fr (fun o' k i j => o' = o ∧ 55 ≤ k ∧ k ≤ 62 ∧ i = 0 ∧ j = p) σ τ ∧ ∀ j, j < 8 → τ.1 o (55 + j) 0 p = nI (g j) := by
  have hp6 : p < 6 := by have := hk.2.1; omega
  obtain ⟨b0, b1, b2, b3, b4, b5, b6, b7⟩ := pb_of hk hp
  have rj : ∀ j, j < 8 → σ.1 o (55 + j) 0 p = nI (lE A p j) := fun j hj => hm.2.2.1 p hp6 j hj
  have r0 := hm.E0 hp6
  have r3 := hm.E3 hp6
  have r5 := hm.E5 hp6
  have r6 := hm.E6 hp6
  have r7 := hm.E7 hp6
  unfold dF fn_X8_acts
  rw [n_in_t hp6 (by omega), cond_true, n_cl (by omega)]
  rcases ha with ha | rfl | rfl
  · rw [if_neg (by omega), if_neg (by omega), if_neg (show ¬ nI a = (9 : Int32) from fun q => absurd ((nI_eq (a := a) (b := 9) (by omega) (by decide)).mp q) (by omega)), if_neg (show ¬ nI a = (8 : Int32) from fun q => absurd ((nI_eq (a := a) (b := 8) (by omega) (by decide)).mp q) (by omega))]
    unfold dStep
    rw [r3, m_nextOf hm hk b3 ha]
    cases e : eoN A (lE A p 3) a with
    | none => exact Or.inl ⟨rfl, rfl⟩
    | some u =>
      have hu := eo_lt hk e
      have he : eoN A (lE A p 3) a ≠ none := by rw [e]; simp
      have hpr := m_priceOf hm hk hp b3 ha he
      have hx := pr_le2 hk hp b3 he
      have ex : prN A p (lE A p 3) a = prK (lE A p 0) (lE A p 1) a (faN A (lE A p 3) a) := rfl
      rw [← ex]
      generalize prN A p (lE A p 3) a = x at hpr hx ⊢
      rw [Option.bind_some, Option.bind_some]
      simp -implicitDefEqProofs (disch := omega) only [oI, z1, zn, n_neg1, z20, ↓reduceIte, cond_true, r5, r6, n_eq_i, hpr, Option.bind_some, n_le_i, z0]
      by_cases d : lE A p 6 + 1 ≤ 20
      · rw [if_neg (show ¬ lE A p 6 = 20 by omega)]
        by_cases d2 : x ≤ lE A p 5
        · rw [if_pos d2, if_pos ⟨d, d2⟩]
          have fin : ∀ (y : Nat) (τ : am_S), τ = am_u (am_u (am_u (am_u σ o 60 0 p (nI (lE A p 5) - nI x)) o 61 0 p (nI (lE A p 6) + nI 1)) o 62 0 p (nI y)) o 58 0 p (nI u) → y = (if a = 0 then (if lE A p 7 + 1 < 999 then lE A p 7 + 1 else 999) else lE A p 7) → fr (fun o' k i j => o' = o ∧ 55 ≤ k ∧ k ≤ 62 ∧ i = 0 ∧ j = p) σ τ ∧ ∀ j, j < 8 → τ.1 o (55 + j) 0 p = nI (stF (lE A p) a u x j) := fun y τ hτ hy => by
            subst hτ
            refine ⟨((fr.u (by omega)).tr (fr.u (by omega))).tr ((fr.u (by omega)).tr (fr.u (by omega))), ?_⟩
            refine j8 ?_ ?_ ?_ ?_ ?_ ?_ ?_ ?_
            · rw [u_ne (by omega), u_ne (by omega), u_ne (by omega), u_ne (by omega)]; exact rj 0 (by decide)
            · rw [u_ne (by omega), u_ne (by omega), u_ne (by omega), u_ne (by omega)]; exact rj 1 (by decide)
            · rw [u_ne (by omega), u_ne (by omega), u_ne (by omega), u_ne (by omega)]; exact rj 2 (by decide)
            · rw [u_at]; rfl
            · rw [u_ne (by omega), u_ne (by omega), u_ne (by omega), u_ne (by omega)]; exact rj 4 (by decide)
            · rw [u_ne (by omega), u_ne (by omega), u_ne (by omega), u_at, n_sub d2]; rfl
            · rw [u_ne (by omega), u_ne (by omega), u_at, nI_add]; rfl
            · rw [u_ne (by omega), u_at, hy]; rfl
          refine Or.inr ⟨stF (lE A p) a u x, ?_⟩
          have r62 : ∀ (x y : Int32), (am_u (am_u σ o 60 0 p x) o 61 0 p y).1 o 62 0 p = nI (lE A p 7) := fun x y => by rw [u_ne (by omega), u_ne (by omega)]; exact r7
          by_cases a0 : a = 0
          · rw [if_pos a0, r7]
            by_cases c7 : lE A p 7 < 999
            · refine ⟨_, rfl, ?_, fin (lE A p 7 + 1) _ rfl (by rw [if_pos a0]; split <;> omega)⟩
              rw [z999, if_neg (fun q => absurd q (by rw [n_le_i (by omega) (by omega)]; omega))]
              unfold jn_X8_acts_251
              simp -implicitDefEqProofs (disch := omega) only [n_in_t, cond_true, n_cl, nI_add, z1]
            · refine ⟨_, rfl, ?_, fin (lE A p 7) _ rfl (by rw [if_pos a0]; split <;> omega)⟩
              rw [z999, if_pos (by rw [n_le_i (by omega) (by omega)]; omega)]
              unfold jn_X8_acts_250 jn_X8_acts_251
              simp -implicitDefEqProofs (disch := omega) only [n_in_t, cond_true, n_cl, nI_add, z1, z0, Nat.add_zero]
          · rw [if_neg a0, r7]
            refine ⟨_, rfl, ?_, fin (lE A p 7) _ rfl (by rw [if_neg a0])⟩
            unfold jn_X8_acts_250 jn_X8_acts_251
            simp -implicitDefEqProofs (disch := omega) only [n_in_t, cond_true, n_cl, nI_add, z1, z0, Nat.add_zero]
        · rw [if_neg d2, if_neg (show ¬ (lE A p 6 + 1 ≤ 20 ∧ x ≤ lE A p 5) by omega)]
          exact Or.inl ⟨rfl, rfl⟩
      · rw [if_pos (show lE A p 6 = 20 by omega), if_neg (show ¬ (lE A p 6 + 1 ≤ 20 ∧ x ≤ lE A p 5) by omega)]
        exact Or.inl ⟨rfl, rfl⟩
  · rw [if_pos rfl, if_neg (show ¬ nI 8 = (9 : Int32) by decide), if_pos (show nI 8 = (8 : Int32) from rfl), r3, r6]
    unfold dWork
    by_cases c : lE A p 3 = 6
    · refine Or.inl ⟨if_pos c, ?_⟩
      rw [c]
      rfl
    · have hx := (hk.2.2.2.1 (lE A p 3) b3).2.2.2
      have r2 := hm.pay b3
      rw [if_neg c, z6, if_neg (fun q => c ((nI_eq (by omega) (by decide)).mp q)), cond_true, z18]
      by_cases d : lE A p 6 + 2 ≤ 20
      · rw [if_pos d, if_neg (fun q => absurd q (by rw [n_lt_i (by omega) (by omega)]; omega))]
        have fin : ∀ (y : Nat) (τ : am_S), τ = am_u (am_u σ o 60 0 p (nI y)) o 61 0 p (nI (lE A p 6) + nI 2) → y = (if lE A p 5 + lV A 2 (lE A p 3) < 999 then lE A p 5 + lV A 2 (lE A p 3) else 999) → fr (fun o' k i j => o' = o ∧ 55 ≤ k ∧ k ≤ 62 ∧ i = 0 ∧ j = p) σ τ ∧ ∀ j, j < 8 → τ.1 o (55 + j) 0 p = nI (woF A (lE A p) j) := fun y τ hτ hy => by
          subst hτ
          refine ⟨(fr.u (by omega)).tr (fr.u (by omega)), ?_⟩
          refine j8 ?_ ?_ ?_ ?_ ?_ ?_ ?_ ?_
          · rw [u_ne (by omega), u_ne (by omega)]; exact rj 0 (by decide)
          · rw [u_ne (by omega), u_ne (by omega)]; exact rj 1 (by decide)
          · rw [u_ne (by omega), u_ne (by omega)]; exact rj 2 (by decide)
          · rw [u_ne (by omega), u_ne (by omega)]; exact rj 3 (by decide)
          · rw [u_ne (by omega), u_ne (by omega)]; exact rj 4 (by decide)
          · rw [u_ne (by omega), u_at, hy]; rfl
          · rw [u_at, nI_add]; rfl
          · rw [u_ne (by omega), u_ne (by omega)]; exact rj 7 (by decide)
        refine Or.inr ⟨woF A (lE A p), ?_⟩
        unfold jn_X8_acts_97 jn_X8_acts_140
        by_cases c9 : lE A p 5 + lV A 2 (lE A p 3) < 999
        · refine ⟨_, rfl, ?_, fin (lE A p 5 + lV A 2 (lE A p 3)) _ rfl (by rw [if_pos c9])⟩
          rw [if_neg (by decide)]
          simp -implicitDefEqProofs (disch := omega) only [n_in_t, cond_true, n_cl, r5, r6, r2, nI_add, z999, n_le_f, ↓reduceIte, z1, z2, n_eq_t, or_true]
        · refine ⟨_, rfl, ?_, fin 999 _ rfl (by rw [if_neg c9])⟩
          rw [if_neg (by decide)]
          simp -implicitDefEqProofs (disch := omega) only [n_in_t, cond_true, n_cl, r5, r6, r2, nI_add, z999, n_le_t, ↓reduceIte, z1, z2, n_eq_t, or_true]
      · rw [if_neg d, if_pos (by rw [n_lt_i (by omega) (by omega)]; omega)]
        exact Or.inl ⟨rfl, rfl⟩
  · rw [if_neg (by decide), if_pos rfl, if_pos (show nI 9 = (9 : Int32) from rfl), r3, r0]
    unfold dRest
    by_cases c : lE A p 3 = 6
    · rw [if_pos c, c, if_pos (show nI 6 = (6 : Int32) from rfl), cond_true, cond_true]
      have fin : ∀ (y : Nat) (τ : am_S), τ = am_u σ o 61 0 p (nI y) → y = (if kuB (lE A p 0) 2 = true then lE A p 6 / 2 else 0) → fr (fun o' k i j => o' = o ∧ 55 ≤ k ∧ k ≤ 62 ∧ i = 0 ∧ j = p) σ τ ∧ ∀ j, j < 8 → τ.1 o (55 + j) 0 p = nI (reF (lE A p) j) := fun y τ hτ hy => by
        subst hτ
        refine ⟨fr.u (by omega), ?_⟩
        refine j8 ?_ ?_ ?_ ?_ ?_ ?_ ?_ ?_
        · rw [u_ne (by omega)]; exact rj 0 (by decide)
        · rw [u_ne (by omega)]; exact rj 1 (by decide)
        · rw [u_ne (by omega)]; exact rj 2 (by decide)
        · rw [u_ne (by omega)]; exact rj 3 (by decide)
        · rw [u_ne (by omega)]; exact rj 4 (by decide)
        · rw [u_ne (by omega)]; exact rj 5 (by decide)
        · rw [u_at, hy]; rfl
        · rw [u_ne (by omega)]; exact rj 7 (by decide)
      refine Or.inr ⟨reF (lE A p), ?_⟩
      unfold jn_X8_acts_44 jn_X8_acts_56 jn_X8_acts_57
      have k5 : lE A p 0 < 2147483648 := by omega
      by_cases k2 : lE A p 0 = 2
      · refine ⟨_, rfl, ?_, fin (lE A p 6 / 2) _ rfl (by rw [k2]; rfl)⟩
        simp -implicitDefEqProofs (disch := omega) only [n_in_t, cond_true, n_cl, r6, z2, z4, z6, z0, z1, n_eq_i, k2, ↓reduceIte, n_div, n_eq_t]
      · by_cases k4 : lE A p 0 = 4
        · refine ⟨_, rfl, ?_, fin (lE A p 6 / 2) _ rfl (by rw [k4]; rfl)⟩
          simp -implicitDefEqProofs (disch := omega) only [n_in_t, cond_true, n_cl, r6, z2, z4, z6, z0, z1, n_eq_i, k2, k4, ↓reduceIte, n_div, n_eq_t, Nat.reduceEqDiff]
        · refine ⟨_, rfl, ?_, fin 0 _ rfl ?_⟩
          · simp -implicitDefEqProofs (disch := omega) only [n_in_t, cond_true, n_cl, r6, z2, z4, z6, z0, z1, n_eq_i, k2, k4, ↓reduceIte, n_div, n_eq_t]
          · rw [if_neg]
            unfold kuB
            simp only [k2, k4, decide_false, Bool.and_false, Bool.or_false, Bool.or_eq_true, Bool.and_eq_true, decide_eq_true_eq]
            omega
    · refine Or.inl ⟨if_neg c, ?_⟩
      rw [z6, if_neg (fun q => c ((nI_eq (by omega) (by decide)).mp q))]
      unfold jn_X8_acts_57
      rw [z6, if_neg (fun q => c ((nI_eq (by omega) (by decide)).mp q))]
      rfl
end PDD
