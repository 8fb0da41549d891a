/-! ===== what stays: frames ===== -/
/-- σ' is σ but for the places of S (group, kind, row, place) -/
def fr (S : Nat → Nat → Nat → Nat → Prop) (σ σ' : am_S) : Prop := ∀ o k i j, ¬ S o k i j → σ'.1 o k i j = σ.1 o k i j ∧ σ'.2 o k i j = σ.2 o k i j
theorem fr.rf {S : Nat → Nat → Nat → Nat → Prop} {σ : am_S} : fr S σ σ := fun _ _ _ _ _ => ⟨rfl, rfl⟩
theorem fr.tr {S : Nat → Nat → Nat → Nat → Prop} {a b c : am_S} (h : fr S a b) (h2 : fr S b c) : fr S a c := fun o k i j hn => ⟨(h2 o k i j hn).1.trans (h o k i j hn).1, (h2 o k i j hn).2.trans (h o k i j hn).2⟩
theorem fr.mono {S T : Nat → Nat → Nat → Nat → Prop} {a b : am_S} (h : fr S a b) (hS : ∀ o k i j, S o k i j → T o k i j) : fr T a b := fun o k i j hn => h o k i j fun q => hn (hS o k i j q)
theorem fr.u {S : Nat → Nat → Nat → Nat → Prop} {σ : am_S} {o k i j : Nat} {x : Int32} (h : S o k i j) : fr S σ (am_u σ o k i j x) := fun o' k' i' j' hn => ⟨if_neg fun q => hn (by obtain ⟨rfl, rfl, rfl, rfl⟩ := q; exact h), rfl⟩
theorem fr.ul {S : Nat → Nat → Nat → Nat → Prop} {σ : am_S} {o k i j : Nat} {x : Int64} (h : S o k i j) : fr S σ (am_ul σ o k i j x) := fun o' k' i' j' hn => ⟨rfl, if_neg fun q => hn (by obtain ⟨rfl, rfl, rfl, rfl⟩ := q; exact h)⟩
theorem u_at {σ : am_S} {o k i j : Nat} {x : Int32} : (am_u σ o k i j x).1 o k i j = x := if_pos ⟨rfl, rfl, rfl, rfl⟩
theorem u_ne {σ : am_S} {o k i j o' k' i' j' : Nat} {x : Int32} (h : ¬ (k' = k ∧ j' = j ∧ i' = i ∧ o' = o)) : (am_u σ o k i j x).1 o' k' i' j' = σ.1 o' k' i' j' := if_neg h
theorem fr.c {S : Nat → Nat → Nat → Nat → Prop} {A : pu_L} {o : Nat} {σ σ' : am_S} (h : fr S σ σ') (hS : ∀ k i j, ¬ S o k i j) (hc : pu_c A o σ) : pu_c A o σ' := by
  have e : ∀ k i j, σ'.1 o k i j = σ.1 o k i j := fun k i j => (h o k i j (hS k i j)).1
  unfold pu_c
  simp only [e]
  exact hc
theorem fr.m {S : Nat → Nat → Nat → Nat → Prop} {A : pu_L} {o : Nat} {σ σ' : am_S} (h : fr S σ σ') (hS : ∀ k i j, k < 63 → k ≠ 46 → k ≠ 49 → (k = 40 → j < 28) → ¬ S o k i j) (hc : pu_m A o σ) : pu_m A o σ' := by
  have e : ∀ k i j, k < 63 → k ≠ 46 → k ≠ 49 → (k = 40 → j < 28) → σ'.1 o k i j = σ.1 o k i j := fun k i j h1 h2 h2' h3 => (h o k i j (hS k i j h1 h2 h2' h3)).1
  obtain ⟨a1, a2, a3, a4, a5, a6, a7, a8⟩ := hc
  refine ⟨fun w hw v hv => ?_, fun r hr j hj => ?_, fun p hp j hj => ?_, ?_, ?_, ?_, ?_, ?_⟩
  · rw [e _ _ _ (by omega) (by omega) (by omega) (by omega)]; exact a1 w hw v hv
  · rw [e _ _ _ (by omega) (by omega) (by omega) (by omega)]; exact a2 r hr j hj
  · rw [e _ _ _ (by omega) (by omega) (by omega) (by omega)]; exact a3 p hp j hj
  · rw [e _ _ _ (by omega) (by omega) (by omega) (by omega)]; exact a4
  · rw [e _ _ _ (by omega) (by omega) (by omega) (by omega)]; exact a5
  · rw [e _ _ _ (by omega) (by omega) (by omega) (by omega)]; exact a6
  · rw [e _ _ _ (by omega) (by omega) (by omega) (by omega)]; exact a7
  · rw [e _ _ _ (by omega) (by omega) (by omega) (by omega)]; exact a8
/-! ===== all ways: the table and how it is shortened, in numbers ===== -/
/-- a row of the table behind s steps: nx where a step leads, w what it counts -/
def rwN (far : Nat) (nx : Nat → Option Nat) (w : Nat → Nat) (v : Nat) : Nat → Nat → Nat
  | 0, u => if u = v then 0 else far
  | s + 1, u => if nx s = some u then min (rwN far nx w v s u) (w s) else rwN far nx w v s u
theorem rwN_le {far : Nat} {nx : Nat → Option Nat} {w : Nat → Nat} {v : Nat} : ∀ s u, rwN far nx w v s u ≤ far
  | 0, u => by unfold rwN; split <;> omega
  | s + 1, u => by
    unfold rwN
    have := rwN_le (far := far) (nx := nx) (w := w) (v := v) s u
    split <;> omega
theorem rwN_0 {far : Nat} {nx : Nat → Option Nat} {w : Nat → Nat} {v : Nat} : ∀ s, rwN far nx w v s v = 0
  | 0 => by unfold rwN; rw [if_pos rfl]
  | s + 1 => by
    unfold rwN
    rw [rwN_0 s]
    split <;> omega
def fwp (k : Nat) (D : Nat → Nat → Nat) : Nat → Nat → Nat := fun v u => min (D v u) (D v k + D k u)
def fwN : Nat → (Nat → Nat → Nat) → Nat → Nat → Nat
  | 0, D => D
  | k + 1, D => fwp k (fwN k D)
theorem fwp_le {k : Nat} {D : Nat → Nat → Nat} (v u : Nat) : fwp k D v u ≤ D v u := by unfold fwp; omega
theorem fwN_le {D : Nat → Nat → Nat} : ∀ k v u, fwN k D v u ≤ D v u
  | 0, v, u => Nat.le_refl _
  | k + 1, v, u => Nat.le_trans (fwp_le v u) (fwN_le k v u)
theorem fwp_col {k : Nat} {D : Nat → Nat → Nat} (h : D k k = 0) (v : Nat) : fwp k D v k = D v k := by unfold fwp; omega
theorem fwp_row {k : Nat} {D : Nat → Nat → Nat} (h : D k k = 0) (u : Nat) : fwp k D k u = D k u := by unfold fwp; omega
theorem fwN_0 {D : Nat → Nat → Nat} (h : ∀ v, D v v = 0) : ∀ k v, fwN k D v v = 0
  | 0, v => h v
  | k + 1, v => by
    have := fwN_0 h k v
    show fwp k (fwN k D) v v = 0
    unfold fwp
    omega
/-- the cells in the midst of a phase: those ahead of (v, w) are done -/
def fwm (k v w : Nat) (D : Nat → Nat → Nat) : Nat → Nat → Nat := fun a b => if a < v ∨ (a = v ∧ b < w) then fwp k D a b else D a b
/-! ===== the class: Ways.measure ===== -/
def S12 : Nat → Nat → Nat → Nat → Prop := fun o k _ _ => o = 12 ∧ k = 19
def S12r (v : Nat) : Nat → Nat → Nat → Nat → Prop := fun o k i _ => o = 12 ∧ k = 19 ∧ i = v
theorem S12r_S {v : Nat} : ∀ o k i j, S12r v o k i j → S12 o k i j := fun _ _ _ _ h => ⟨h.1, h.2.1⟩
theorem c_fill19 {v : Nat} {x : Int32} : ∀ (m k : Nat) (σ : am_S) (fuel : Nat), k + m = 7 → m < fuel → ∃ σ', lp_J7_fill_53178_19_5 fuel v x (nI k) (nI 7) σ = some σ' ∧ fr (S12r v) σ σ' ∧ (∀ j, k ≤ j → j < 7 → σ'.1 12 19 v j = x) ∧ ∀ j, j < k → σ'.1 12 19 v j = σ.1 12 19 v j := by
  intro m
  induction m with
  | zero =>
    intro k σ fuel hk hf
    obtain ⟨f, rfl⟩ : ∃ f, fuel = f + 1 := ⟨fuel - 1, by omega⟩
    refine ⟨σ, ?_, fr.rf, fun j h1 h2 => by omega, fun _ _ => rfl⟩
    show lb_J7_fill_53178_19_5 _ _ _ _ _ _ = _
    unfold lb_J7_fill_53178_19_5
    simp -implicitDefEqProofs (disch := omega) only [n_le_t, if_true]
  | succ m ih =>
    intro k σ fuel hk hf
    obtain ⟨f, rfl⟩ : ∃ f, fuel = f + 1 := ⟨fuel - 1, by omega⟩
    obtain ⟨σ', e, h1, h2, h3⟩ := ih (k + 1) (am_u σ 12 19 v k x) f (by omega) (by omega)
    refine ⟨σ', ?_, (fr.u ⟨rfl, rfl, rfl⟩).tr h1, fun j q1 q2 => ?_, fun j q => ?_⟩
    · show lb_J7_fill_53178_19_5 _ _ _ _ _ _ = _
      unfold lb_J7_fill_53178_19_5
      simp -implicitDefEqProofs (disch := omega) only [z1, n_le_f, if_false, n_in_t, cond_true, n_cl, nI_add, e]
    · by_cases c : j = k
      · subst c
        rw [h3 j (by omega), u_at]
      · exact h2 j (by omega) q2
    · rw [h3 j (by omega), u_ne (by omega)]
section PMS
variable {A : pu_L} {p w : Nat} {wo : Int32} {nxa : Nat → Nat → Option Nat}
/-- the steps that are looked at: one pass may be left out -/
def nxN (A : pu_L) (wo : Option Nat) (v s : Nat) : Option Nat := if wo.map (fun r => r + 2) = some s then none else eoN A v s
theorem nx_eo {A : pu_L} {wo : Option Nat} {v s u : Nat} (h : nxN A wo v s = some u) : eoN A v s = some u := by
  unfold nxN at h
  split at h
  · cases h
  · exact h
theorem c_ms36 {k3 : Nat → Nat → Nat → Int32 → Int32 → Int32 → am_S → Option am_S} (hk : pu_k A) (hp : p < lne A) (hw : w < 5) {wo : Option Nat} (hwo : ∀ r, wo = some r → r < 3) {v : Nat} (hv : v < 7) : ∀ (m s : Nat) (σ : am_S) (fuel : Nat), s + m = 5 → m < fuel → pu_c A 1 σ → (∀ u, u < 7 → σ.1 12 19 v u = nI (rwN 1000000 (nxN A wo v) (wtN A p w 64 v) v s u)) →
    ∃ σ', lp_X6_measure_8_36 k3 fuel 1 1 p (nI w) (oI wo) (nI v) (nI s) σ = k3 1 1 p (nI w) (oI wo) (nI (v + 1)) σ' ∧ fr (S12r v) σ σ' ∧ ∀ u, u < 7 → σ'.1 12 19 v u = nI (rwN 1000000 (nxN A wo v) (wtN A p w 64 v) v 5 u) := by
  intro m
  induction m with
  | zero =>
    intro s σ fuel hs hf hc hr
    obtain ⟨f, rfl⟩ : ∃ f, fuel = f + 1 := ⟨fuel - 1, by omega⟩
    obtain rfl : s = 5 := by omega
    refine ⟨σ, ?_, fr.rf, hr⟩
    show lb_X6_measure_8_36 _ _ _ _ _ _ _ _ _ _ = _
    unfold lb_X6_measure_8_36
    simp -implicitDefEqProofs (disch := omega) only [z1, z5, n_le_t, if_true, nI_add]
  | succ m ih =>
    intro s σ fuel hs hf hc hr
    obtain ⟨f, rfl⟩ : ∃ f, fuel = f + 1 := ⟨fuel - 1, by omega⟩
    have hs5 : s < 5 := by omega
    -- what one step does
    have key : ∃ σ1, lb_X6_measure_8_36 k3 (lp_X6_measure_8_36 k3 f) 1 1 p (nI w) (oI wo) (nI v) (nI s) σ = lp_X6_measure_8_36 k3 f 1 1 p (nI w) (oI wo) (nI v) (nI (s + 1)) σ1 ∧ fr (S12r v) σ σ1 ∧ ∀ u, u < 7 → σ1.1 12 19 v u = nI (rwN 1000000 (nxN A wo v) (wtN A p w 64 v) v (s + 1) u) := by
      unfold lb_X6_measure_8_36 jn_X6_measure_8_71 jn_X6_measure_8_72 jn_X6_measure_8_118
      rw [c_endOf hc hk hv hs5]
      simp -implicitDefEqProofs (disch := omega) only [Option.bind_some, z1, z2, z5, zn, n_le_f, if_false, nI_add]
      -- is it left out?
      by_cases left : wo.map (fun r => r + 2) = some s
      · refine ⟨σ, ?_, fr.rf, fun u hu => ?_⟩
        · obtain ⟨r, hr1, hr2⟩ := Option.map_eq_some_iff.mp left
          subst hr1
          have hr3 := hwo r rfl
          simp -implicitDefEqProofs (disch := omega) only [oI, n_neg1, if_false, nI_add]
          rw [← hr2]
          simp -implicitDefEqProofs (disch := omega) only [if_true, n_eq_t]
          simp -implicitDefEqProofs (disch := omega) only [z0, n_eq_f, if_false, ite_self]
        · rw [hr u hu]
          unfold rwN nxN
          rw [if_pos left, if_neg (by simp)]
          rw [← rwN.eq_def]
      · have hnx : nxN A wo v s = eoN A v s := if_neg left
        cases he : eoN A v s with
        | none =>
          refine ⟨σ, ?_, fr.rf, fun u hu => ?_⟩
          · simp only [oI, if_true, ite_self]
          · rw [hr u hu]
            show _ = nI (if nxN A wo v s = some u then _ else _)
            rw [hnx, he, if_neg (by simp)]
        | some t =>
          have ht := eo_lt hk he
          obtain ⟨g, g1, g2, g3⟩ := c_weight (w := w) hc hk hp hw hv hs5
          have g4 := g3 (by rw [he]; simp)
          have hD := rwN_le (far := 1000000) (nx := nxN A wo v) (w := wtN A p w 64 v) (v := v) s t
          refine ⟨am_u σ 12 19 v t (nI (min (rwN 1000000 (nxN A wo v) (wtN A p w 64 v) v s t) g)), ?_, fr.u ⟨rfl, rfl, rfl⟩, fun u hu => ?_⟩
          · have hx : (if nI g < nI (rwN 1000000 (nxN A wo v) (wtN A p w 64 v) v s t) then nI g else nI (rwN 1000000 (nxN A wo v) (wtN A p w 64 v) v s t)) = nI (min (rwN 1000000 (nxN A wo v) (wtN A p w 64 v) v s t) g) := by
              simp -implicitDefEqProofs (disch := omega) only [n_lt_i]
              split
              · rw [Nat.min_eq_right (by omega)]
              · rw [Nat.min_eq_left (by omega)]
            have hz : ∀ b : Int32, (if b = nI 0 then (1 : Nat) else 1) = 1 := fun b => by split <;> rfl
            simp -implicitDefEqProofs (disch := omega) only [oI, n_neg1, if_false, n_in_t, cond_true, n_cl, g2, Option.bind_some, hr t ht, hx, z0, if_true]
            cases wo with
            | none => simp only [oI, if_true]
            | some r =>
              have hr3 := hwo r rfl
              have hne : ¬ s = r + 2 := fun q => left (by rw [q]; rfl)
              simp -implicitDefEqProofs (disch := omega) only [oI, n_neg1, if_false, nI_add, n_eq_f]
          · show _ = nI (if nxN A wo v s = some u then _ else _)
            rw [hnx, he]
            by_cases c : t = u
            · subst c
              rw [u_at, if_pos rfl, ← g4]
            · rw [u_ne (by omega), if_neg (by simpa using c), hr u hu]
    obtain ⟨σ1, e1, e2, e3⟩ := key
    obtain ⟨σ', e4, e5, e6⟩ := ih (s + 1) σ1 f (by omega) (by omega) (e2.c (fun k i j q => by obtain ⟨q, -⟩ := q; cases q) hc) e3
    exact ⟨σ', e1.trans e4, e2.tr e5, e6⟩
end PMS
