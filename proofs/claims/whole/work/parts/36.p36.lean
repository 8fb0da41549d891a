/-! ===== walks, and that the table holds the least of them ===== -/
/-- where a row of steps leads from v, and what it costs -/
def wkN (nx : Nat → Nat → Option Nat) (w : Nat → Nat → Nat) : List Nat → Nat → Option (Nat × Nat)
  | [], v => some (v, 0)
  | s :: t, v => (nx v s).bind fun x => (wkN nx w t x).bind fun q => some (q.1, w v s + q.2)
theorem wk_cons {nx : Nat → Nat → Option Nat} {w : Nat → Nat → Nat} {s : Nat} {t : List Nat} {v u c : Nat} (h : wkN nx w (s :: t) v = some (u, c)) : ∃ x c', nx v s = some x ∧ wkN nx w t x = some (u, c') ∧ c = w v s + c' := by
  have h : ((nx v s).bind fun x => (wkN nx w t x).bind fun q => some (q.1, w v s + q.2)) = some (u, c) := h
  cases e : nx v s with
  | none => rw [e] at h; cases h
  | some x =>
    rw [e, Option.bind_some] at h
    cases e2 : wkN nx w t x with
    | none => rw [e2] at h; cases h
    | some q =>
      rw [e2, Option.bind_some] at h
      cases h
      exact ⟨x, q.2, rfl, by rw [e2], rfl⟩
theorem wk_mk {nx : Nat → Nat → Option Nat} {w : Nat → Nat → Nat} {s : Nat} {t : List Nat} {v x u c : Nat} (h1 : nx v s = some x) (h2 : wkN nx w t x = some (u, c)) : wkN nx w (s :: t) v = some (u, w v s + c) := by
  show ((nx v s).bind fun x => (wkN nx w t x).bind fun q => some (q.1, w v s + q.2)) = _
  rw [h1, Option.bind_some, h2, Option.bind_some]
theorem wk_app {nx : Nat → Nat → Option Nat} {w : Nat → Nat → Nat} : ∀ {a b : List Nat} {v x u c d : Nat}, wkN nx w a v = some (x, c) → wkN nx w b x = some (u, d) → wkN nx w (a ++ b) v = some (u, c + d)
  | [], b, v, x, u, c, d, h1, h2 => by
    cases h1
    rw [Nat.zero_add]
    exact h2
  | s :: t, b, v, x, u, c, d, h1, h2 => by
    obtain ⟨y, c', e1, e2, e3⟩ := wk_cons h1
    rw [e3, Nat.add_assoc]
    exact wk_mk e1 (wk_app e2 h2)
theorem wk_split {nx : Nat → Nat → Option Nat} {w : Nat → Nat → Nat} : ∀ {a b : List Nat} {v u c : Nat}, wkN nx w (a ++ b) v = some (u, c) → ∃ x c1 c2, wkN nx w a v = some (x, c1) ∧ wkN nx w b x = some (u, c2) ∧ c = c1 + c2
  | [], b, v, u, c, h => ⟨v, 0, c, rfl, h, by omega⟩
  | s :: t, b, v, u, c, h => by
    obtain ⟨y, c', e1, e2, e3⟩ := wk_cons h
    obtain ⟨x, c1, c2, f1, f2, f3⟩ := wk_split e2
    exact ⟨x, w v s + c1, c2, wk_mk e1 f1, f2, by omega⟩
/-- all that is come to is a valley -/
def nx7 (nx : Nat → Nat → Option Nat) : Prop := ∀ v s x, nx v s = some x → x < 7 ∧ s < 5
theorem wk_lt {nx : Nat → Nat → Option Nat} {w : Nat → Nat → Nat} (h7 : nx7 nx) : ∀ {a : List Nat} {v u c : Nat}, v < 7 → wkN nx w a v = some (u, c) → u < 7
  | [], v, u, c, hv, h => by cases h; exact hv
  | s :: t, v, u, c, hv, h => by
    obtain ⟨y, c', e1, e2, e3⟩ := wk_cons h
    exact wk_lt h7 (h7 _ _ _ e1).1 e2
/-- a pigeon's row -/
theorem ph7 : ∀ (n : Nat) (x : Nat → Nat), (∀ i, i ≤ n → x i < n) → ∃ i j, i < j ∧ j ≤ n ∧ x i = x j
  | 0, x, h => absurd (h 0 (Nat.le_refl _)) (Nat.not_lt_zero _)
  | n + 1, x, h => by
    by_cases c : ∃ i, i ≤ n ∧ x i = x (n + 1)
    · obtain ⟨i, h1, h2⟩ := c
      exact ⟨i, n + 1, by omega, Nat.le_refl _, h2⟩
    · have hne : ∀ i, i ≤ n → x i ≠ x (n + 1) := fun i hi q => c ⟨i, hi, q⟩
      obtain ⟨i, j, h1, h2, h3⟩ := ph7 n (fun i => if x i = n then x (n + 1) else x i) (fun i hi => by
        have h1 := h i (by omega)
        have h2 := h (n + 1) (by omega)
        have h3 := hne i hi
        show (if x i = n then x (n + 1) else x i) < n
        split <;> omega)
      refine ⟨i, j, h1, by omega, ?_⟩
      have n1 := hne i (by omega)
      have n2 := hne j h2
      have h3 : (if x i = n then x (n + 1) else x i) = (if x j = n then x (n + 1) else x j) := h3
      split at h3 <;> split at h3 <;> omega
theorem wk_short {nx : Nat → Nat → Option Nat} {w : Nat → Nat → Nat} (h7 : nx7 nx) : ∀ (n : Nat) (l : List Nat) (v u c : Nat), l.length ≤ n → v < 7 → wkN nx w l v = some (u, c) → ∃ l' c', l'.length ≤ 6 ∧ l'.length ≤ l.length ∧ c' ≤ c ∧ wkN nx w l' v = some (u, c') := by
  intro n
  induction n with
  | zero =>
    intro l v u c hl hv h
    exact ⟨l, c, by omega, Nat.le_refl _, Nat.le_refl _, h⟩
  | succ n ih =>
    intro l v u c hl hv h
    by_cases h6 : l.length ≤ 6
    · exact ⟨l, c, h6, Nat.le_refl _, Nat.le_refl _, h⟩
    · have hs : ∀ i, ∃ x, i ≤ 7 → ∃ c1 c2, wkN nx w (l.take i) v = some (x, c1) ∧ wkN nx w (l.drop i) x = some (u, c2) ∧ c = c1 + c2 := fun i => by
        have h2 := h
        rw [← List.take_append_drop i l] at h2
        obtain ⟨x, c1, c2, e⟩ := wk_split h2
        exact ⟨x, fun _ => ⟨c1, c2, e⟩⟩
      obtain ⟨i, j, h1, h2, h3⟩ := ph7 7 (fun i => Classical.choose (hs i)) (fun i hi => by
        obtain ⟨c1, c2, e1, -⟩ := Classical.choose_spec (hs i) hi
        exact wk_lt h7 hv e1)
      obtain ⟨c1, c2, e1, e2, e3⟩ := Classical.choose_spec (hs i) (by omega)
      obtain ⟨d1, d2, f1, f2, f3⟩ := Classical.choose_spec (hs j) h2
      have h3 : Classical.choose (hs i) = Classical.choose (hs j) := h3
      generalize Classical.choose (hs i) = xi at e1 e2 h3
      generalize Classical.choose (hs j) = xj at f1 f2 h3
      subst h3
      -- the way up to j goes over that up to i
      have hcd : c1 ≤ d1 := by
        have e : l.take j = l.take i ++ (l.drop i).take (j - i) := by
          rw [← List.take_add]
          congr 1
          omega
        rw [e] at f1
        obtain ⟨y, g1, g2, k1, k2, k3⟩ := wk_split f1
        rw [e1] at k1
        cases k1
        omega
      have hcut := wk_app e1 f2
      have hlen : (l.take i ++ l.drop j).length ≤ n := by
        rw [List.length_append, List.length_take, List.length_drop]
        omega
      obtain ⟨l', c', g1, g2, g3, g4⟩ := ih _ v u _ hlen hv hcut
      refine ⟨l', c', g1, ?_, by omega, g4⟩
      have : (l.take i ++ l.drop j).length ≤ l.length := by
        rw [List.length_append, List.length_take, List.length_drop]
        omega
      omega
/-! the table -/
theorem rw_step {far : Nat} {nx : Nat → Option Nat} {w : Nat → Nat} {v u s : Nat} (h : nx s = some u) : ∀ t, s < t → rwN far nx w v t u ≤ w s
  | 0, q => absurd q (Nat.not_lt_zero _)
  | t + 1, q => by
    show (if nx t = some u then min (rwN far nx w v t u) (w t) else rwN far nx w v t u) ≤ w s
    by_cases c : s = t
    · subst c
      rw [if_pos h]
      omega
    · have := rw_step (far := far) (w := w) (v := v) h t (by omega)
      split <;> omega
theorem rw_real {far : Nat} {nx : Nat → Option Nat} {w : Nat → Nat} {v u : Nat} : ∀ t, rwN far nx w v t u = far ∨ (u = v ∧ rwN far nx w v t u = 0) ∨ ∃ s, nx s = some u ∧ rwN far nx w v t u = w s
  | 0 => by
    show (if u = v then 0 else far) = far ∨ (u = v ∧ (if u = v then 0 else far) = 0) ∨ _
    by_cases c : u = v
    · exact Or.inr (Or.inl ⟨c, if_pos c⟩)
    · exact Or.inl (if_neg c)
  | t + 1 => by
    have h := rw_real (far := far) (nx := nx) (w := w) (v := v) (u := u) t
    have e : rwN far nx w v (t + 1) u = if nx t = some u then min (rwN far nx w v t u) (w t) else rwN far nx w v t u := rfl
    rw [e]
    by_cases c : nx t = some u
    · rw [if_pos c]
      rcases Nat.le_total (rwN far nx w v t u) (w t) with q | q
      · rw [Nat.min_eq_left q]
        exact h
      · rw [Nat.min_eq_right q]
        exact Or.inr (Or.inr ⟨t, c, rfl⟩)
    · rw [if_neg c]
      exact h
/-- shortened over all: no detour over those is shorter -/
theorem fw_tri {D : Nat → Nat → Nat} (h0 : ∀ v, D v v = 0) : ∀ k j, j < k → ∀ v u, fwN k D v u ≤ fwN k D v j + fwN k D j u
  | 0, j, h, v, u => absurd h (Nat.not_lt_zero _)
  | k + 1, j, h, v, u => by
    have e : ∀ a b, fwN (k + 1) D a b = min (fwN k D a b) (fwN k D a k + fwN k D k b) := fun _ _ => rfl
    have z := fwN_0 h0 k k
    rw [e, e, e]
    by_cases c : j = k
    · subst c
      omega
    · have ih := fw_tri h0 k j (by omega)
      have i1 := ih v u
      have i2 := ih k u
      have i3 := ih v k
      omega
theorem fw_real {nx : Nat → Nat → Option Nat} {w : Nat → Nat → Nat} {far : Nat} {D : Nat → Nat → Nat} (hle : ∀ v u, D v u ≤ far) (h : ∀ v u, v < 7 → D v u = far ∨ ∃ l, wkN nx w l v = some (u, D v u)) : ∀ k, k ≤ 7 → ∀ v u, v < 7 → fwN k D v u = far ∨ ∃ l, wkN nx w l v = some (u, fwN k D v u)
  | 0, _, v, u, hv => h v u hv
  | k + 1, hk, v, u, hv => by
    have ih := fw_real hle h k (by omega)
    have e : fwN (k + 1) D v u = min (fwN k D v u) (fwN k D v k + fwN k D k u) := rfl
    rw [e]
    have i1 := ih v u hv
    have le : fwN k D v u ≤ far := Nat.le_trans (fwN_le k v u) (hle v u)
    rcases Nat.le_total (fwN k D v u) (fwN k D v k + fwN k D k u) with q | q
    · rw [Nat.min_eq_left q]
      exact i1
    · rcases ih v k hv with i2 | ⟨l1, i2⟩
      · rw [Nat.min_eq_left (by omega)]
        exact i1
      · rcases ih k u (by omega) with i3 | ⟨l2, i3⟩
        · rw [Nat.min_eq_left (by omega)]
          exact i1
        · rw [Nat.min_eq_right q]
          exact Or.inr ⟨l1 ++ l2, wk_app i2 i3⟩
/-- what is below all steps and knows no detour is below all walks -/
theorem wk_low {nx : Nat → Nat → Option Nat} {w : Nat → Nat → Nat} {D : Nat → Nat → Nat} (h7 : nx7 nx) (h0 : ∀ v, D v v = 0) (htri : ∀ j, j < 7 → ∀ v u, D v u ≤ D v j + D j u) (hst : ∀ v s x, v < 7 → nx v s = some x → D v x ≤ w v s) : ∀ {l : List Nat} {v u c : Nat}, v < 7 → wkN nx w l v = some (u, c) → D v u ≤ c
  | [], v, u, c, hv, h => by
    cases h
    rw [h0]
    exact Nat.le_refl _
  | s :: t, v, u, c, hv, h => by
    obtain ⟨y, c', e1, e2, e3⟩ := wk_cons h
    have hy := (h7 _ _ _ e1).1
    have i1 := wk_low h7 h0 htri hst hy e2
    have i2 := hst v s y hv e1
    have i3 := htri y hy v u
    omega
section PTB
variable {A : pu_L} {p w M far : Nat} {wo : Option Nat}
theorem nx_7 (hk : pu_k A) : nx7 (nxN A wo) := fun v s x h => by
  have he := nx_eo h
  refine ⟨eo_lt hk he, ?_⟩
  unfold eoN at he
  have := hk.1
  split at he
  · omega
  · split at he
    · omega
    · split at he
      · omega
      · cases he
theorem DN_0 (v : Nat) : DN A p w M far wo v v = 0 := fwN_0 (fun v => rwN_0 5) 7 v
theorem DN_tri {j : Nat} (hj : j < 7) (v u : Nat) : DN A p w M far wo v u ≤ DN A p w M far wo v j + DN A p w M far wo j u := fw_tri (fun v => rwN_0 5) 7 j hj v u
theorem DN_step (hk : pu_k A) {v s x : Nat} (h : nxN A wo v s = some x) : DN A p w M far wo v x ≤ wtN A p w M v s := Nat.le_trans (fwN_le 7 v x) (rw_step h 5 ((nx_7 hk) _ _ _ h).2)
theorem DN_low (hk : pu_k A) {l : List Nat} {v u c : Nat} (hv : v < 7) (h : wkN (nxN A wo) (wtN A p w M) l v = some (u, c)) : DN A p w M far wo v u ≤ c := wk_low (nx_7 hk) DN_0 (fun j hj v u => DN_tri hj v u) (fun v s x _ h => DN_step hk h) hv h
/-- once round the ring, FORWARD -/
theorem ring_wk (hwo : ∀ r, wo = some r → r < 3) {wf : Nat → Nat → Nat} {B : Nat} (hB : ∀ v, v < 7 → wf v 0 ≤ B) : ∀ (n v : Nat), v < 7 → ∃ c, c ≤ n * B ∧ wkN (nxN A wo) wf (List.replicate n 0) v = some ((v + n) % 7, c)
  | 0, v, hv => ⟨0, Nat.zero_le _, by show some (v, 0) = _; rw [Nat.add_zero, Nat.mod_eq_of_lt hv]⟩
  | n + 1, v, hv => by
    obtain ⟨c, h1, h2⟩ := ring_wk hwo hB n ((v + 1) % 7) (Nat.mod_lt _ (by decide))
    have e : nxN A wo v 0 = some ((v + 1) % 7) := by
      unfold nxN eoN
      rw [if_neg (by
        cases wo with
        | none => simp
        | some r => simp), if_pos rfl]
    refine ⟨wf v 0 + c, ?_, ?_⟩
    · have := hB v hv
      rw [Nat.succ_mul]
      omega
    · show wkN _ _ (0 :: List.replicate n 0) v = _
      rw [wk_mk e h2]
      congr 2
      omega
theorem DN_ring (hk : pu_k A) (hwo : ∀ r, wo = some r → r < 3) {B : Nat} (hB : ∀ v, v < 7 → wtN A p w M v 0 ≤ B) {v u : Nat} (hv : v < 7) (hu : u < 7) : DN A p w M far wo v u ≤ 6 * B := by
  obtain ⟨c, h1, h2⟩ := ring_wk (A := A) (wo := wo) hwo hB ((u + 7 - v) % 7) v hv
  have e : (v + (u + 7 - v) % 7) % 7 = u := by omega
  rw [e] at h2
  have h3 := DN_low (far := far) hk hv h2
  have h4 : (u + 7 - v) % 7 ≤ 6 := by omega
  have h5 : (u + 7 - v) % 7 * B ≤ 6 * B := Nat.mul_le_mul_right B h4
  omega
theorem wt0_le (hk : pu_k A) (hp : p < lne A) {v : Nat} (hv : v < 7) : prN A p v 0 ≤ 18 ∧ hoN A v 0 ≤ 12 := by
  have h1 := hk.2.2.2.1 v hv
  have h2 := (hk.2.2.2.2.2 p hp).2.1
  refine ⟨?_, h1.2.2.1⟩
  unfold prN prK faN
  rw [if_pos rfl]
  split
  · omega
  · split
    · omega
    · split
      · omega
      · split
        · split <;> omega
        · split <;> omega
theorem wtM_le (hk : pu_k A) (hp : p < lne A) {v : Nat} (hv : v < 7) : wtN A p w M v 0 ≤ M * 18 + 19 := by
  have h1 := wt0_le hk hp hv
  have h3 : M * prN A p v 0 ≤ M * 18 := Nat.mul_le_mul_left M h1.1
  unfold wtN
  split
  · omega
  · split
    · omega
    · split
      · split <;> omega
      · split <;> omega
/-- the table's numbers are walks' -/
theorem DN_real (hk : pu_k A) (hp : p < lne A) (hwo : ∀ r, wo = some r → r < 3) (hfar : 6 * (M * 18 + 19) < far) {v u : Nat} (hv : v < 7) (hu : u < 7) : ∃ l, wkN (nxN A wo) (wtN A p w M) l v = some (u, DN A p w M far wo v u) := by
  have h := fw_real (nx := nxN A wo) (w := wtN A p w M) (far := far) (D := M0 A p w M far wo) (fun v u => rwN_le 5 u) (fun v u hv => by
    rcases rw_real (far := far) (nx := nxN A wo v) (w := wtN A p w M v) (v := v) (u := u) 5 with q | ⟨q1, q2⟩ | ⟨s, q1, q2⟩
    · exact Or.inl q
    · refine Or.inr ⟨[], ?_⟩
      show some (v, 0) = some (u, rwN far (nxN A wo v) (wtN A p w M v) v 5 u)
      rw [q2, q1]
    · refine Or.inr ⟨[s], ?_⟩
      have := wk_mk (w := wtN A p w M) (t := []) q1 rfl
      rw [this]
      show some (u, wtN A p w M v s + 0) = some (u, rwN far (nxN A wo v) (wtN A p w M v) v 5 u)
      rw [q2, Nat.add_zero]) 7 (Nat.le_refl _) v u hv
  rcases h with h | h
  · have h2 : DN A p w M far wo v u = far := h
    have := DN_ring (far := far) hk hwo (fun v hv => wtM_le (w := w) (M := M) hk hp hv) hv hu
    omega
  · exact h
/-- both tables are one, where what is counted is the same -/
theorem DN_eq (hk : pu_k A) (hp : p < lne A) (hwo : ∀ r, wo = some r → r < 3) (hw : w < 4) {v u : Nat} (hv : v < 7) (hu : u < 7) : DN A p w 1000 10000000 wo v u = DN A p w 64 1000000 wo v u := by
  have e : wtN A p w 1000 = wtN A p w 64 := by
    funext a b
    unfold wtN
    rcases (show w = 0 ∨ w = 1 ∨ w = 2 ∨ w = 3 by omega) with rfl | rfl | rfl | rfl <;> simp
  obtain ⟨l1, h1⟩ := DN_real (w := w) (M := 1000) (far := 10000000) hk hp hwo (by decide) hv hu
  obtain ⟨l2, h2⟩ := DN_real (w := w) (M := 64) (far := 1000000) hk hp hwo (by decide) hv hu
  have g1 := DN_low (far := 1000000) hk hv (by rw [e] at h1; exact h1)
  have g2 := DN_low (far := 10000000) hk hv (by rw [← e] at h2; exact h2)
  omega
theorem wk_M : ∀ {l : List Nat} {v u c : Nat}, wkN (nxN A wo) (wtN A p 4 M) l v = some (u, c) → ∃ P, wkN (nxN A wo) (prN A p) l v = some (u, P) ∧ c = M * P + l.length
  | [], v, u, c, h => by cases h; exact ⟨0, rfl, rfl⟩
  | s :: t, v, u, c, h => by
    obtain ⟨y, c', e1, e2, e3⟩ := wk_cons h
    obtain ⟨P, e4, e5⟩ := wk_M e2
    refine ⟨prN A p v s + P, wk_mk e1 e4, ?_⟩
    have : wtN A p 4 M v s = M * prN A p v s + 1 := by unfold wtN; simp
    rw [e3, this, e5, Nat.mul_add, List.length_cons]
    omega
theorem wk_Mb : ∀ {l : List Nat} {v u P : Nat}, wkN (nxN A wo) (prN A p) l v = some (u, P) → wkN (nxN A wo) (wtN A p 4 M) l v = some (u, M * P + l.length)
  | [], v, u, c, h => by cases h; rfl
  | s :: t, v, u, c, h => by
    obtain ⟨y, c', e1, e2, e3⟩ := wk_cons h
    rw [wk_mk e1 (wk_Mb e2)]
    have : wtN A p 4 M v s = M * prN A p v s + 1 := by unfold wtN; simp
    rw [e3, this, Nat.mul_add, List.length_cons]
    congr 2
    omega
/-- prices ahead of steps: the table's number is M times a price and a number of steps, at most six -/
theorem DN_lex (hk : pu_k A) (hp : p < lne A) (hwo : ∀ r, wo = some r → r < 3) (hfar : 6 * (M * 18 + 19) < far) {v u : Nat} (hv : v < 7) (hu : u < 7) :
    ∃ P l, l.length ≤ 6 ∧ wkN (nxN A wo) (prN A p) l v = some (u, P) ∧ DN A p 4 M far wo v u = M * P + l.length ∧ ∀ l' P', wkN (nxN A wo) (prN A p) l' v = some (u, P') → M * P + l.length ≤ M * P' + l'.length := by
  obtain ⟨l1, h1⟩ := DN_real (w := 4) (M := M) (far := far) hk hp hwo hfar hv hu
  obtain ⟨P1, h2, h3⟩ := wk_M h1
  have low : ∀ l' P', wkN (nxN A wo) (prN A p) l' v = some (u, P') → DN A p 4 M far wo v u ≤ M * P' + l'.length := fun l' P' h => DN_low hk hv (wk_Mb h)
  obtain ⟨l2, P2, g1, g2, g3, g4⟩ := wk_short (nx_7 hk) l1.length l1 v u P1 (Nat.le_refl _) hv h2
  have i1 := low l2 P2 g4
  have i2 : M * P2 ≤ M * P1 := Nat.mul_le_mul_left M g3
  have i3 : DN A p 4 M far wo v u = M * P2 + l2.length := by omega
  exact ⟨P2, l2, g1, g4, i3, fun l' P' h => by rw [← i3]; exact low l' P' h⟩
/-- one price and one number of steps for both tables -/
theorem DN_two (hk : pu_k A) (hp : p < lne A) (hwo : ∀ r, wo = some r → r < 3) {v u : Nat} (hv : v < 7) (hu : u < 7) : ∃ P N, N ≤ 6 ∧ DN A p 4 64 1000000 wo v u = 64 * P + N ∧ DN A p 4 1000 10000000 wo v u = 1000 * P + N ∧ (N = 0 → v = u) := by
  obtain ⟨P, l, h1, h2, h3, h4⟩ := DN_lex (M := 64) (far := 1000000) hk hp hwo (by decide) hv hu
  obtain ⟨Q, k, g1, g2, g3, g4⟩ := DN_lex (M := 1000) (far := 10000000) hk hp hwo (by decide) hv hu
  have i1 := h4 k Q g2
  have i2 := g4 l P h2
  have e1 : P = Q := by omega
  subst e1
  have e2 : l.length = k.length := by omega
  refine ⟨P, l.length, h1, h3, by omega, fun q => ?_⟩
  have : l = [] := List.length_eq_zero_iff.mp q
  rw [this] at h2
  cases h2
  rfl
end PTB
