/-! ===== calls: the route ===== -/
def rD (A : pu_L) (p v u : Nat) : Nat := DN A p 4 64 1000000 none v u
def rE (A : pu_L) (p v u : Nat) : Nat := DN A p 4 1000 10000000 none v u
/-- the price of the way, and how many steps -/
def rP (A : pu_L) (p v u : Nat) : Nat := rE A p v u / 1000
def rN (A : pu_L) (p v u : Nat) : Nat := rE A p v u % 1000
/-- a step that can begin the way to u -/
def rB (A : pu_L) (p u v s : Nat) : Bool := match eoN A v s with
  | none => false
  | some e => decide (prN A p v s + rP A p e u = rP A p v u ∧ rN A p e u + 1 = rN A p v u)
/-- the first from k on -/
def fsN (P : Nat → Bool) : Nat → Nat → Nat
  | 0, k => k
  | m + 1, k => if P k = true then k else fsN P m (k + 1)
theorem fs_ok {P : Nat → Bool} : ∀ m k, (∃ i, k ≤ i ∧ i < k + m ∧ P i = true) → P (fsN P m k) = true ∧ k ≤ fsN P m k ∧ fsN P m k < k + m ∧ ∀ i, k ≤ i → i < fsN P m k → P i = false
  | 0, k, ⟨i, h1, h2, _⟩ => by omega
  | m + 1, k, ⟨i, h1, h2, h3⟩ => by
    show P (if P k = true then k else fsN P m (k + 1)) = true ∧ _
    by_cases c : P k = true
    · have e : fsN P (m + 1) k = k := if_pos c
      rw [e, if_pos c]
      exact ⟨c, by omega, by omega, fun i h1 h2 => by omega⟩
    · have e : fsN P (m + 1) k = fsN P m (k + 1) := if_neg c
      rw [e, if_neg c]
      have hk : ¬ i = k := fun q => c (by rw [← q]; exact h3)
      obtain ⟨a1, a2, a3, a4⟩ := fs_ok m (k + 1) ⟨i, by omega, by omega, h3⟩
      refine ⟨a1, by omega, by omega, fun x x1 x2 => ?_⟩
      by_cases d : x = k
      · rw [d]
        cases hp : P k
        · rfl
        · exact absurd hp c
      · exact a4 x (by omega) x2
/-- the step from v to u -/
def rS (A : pu_L) (p u v : Nat) : Nat := fsN (rB A p u v) 5 0
def rX (A : pu_L) (p u v : Nat) : Nat := match eoN A v (rS A p u v) with
  | none => v
  | some e => e
def rtN (A : pu_L) (p u : Nat) : Nat → Nat → List Nat
  | 0, _ => []
  | m + 1, v => rS A p u v :: rtN A p u m (rX A p u v)
theorem rt_len {A : pu_L} {p u : Nat} : ∀ m v, (rtN A p u m v).length = m
  | 0, _ => rfl
  | m + 1, v => by
    show (rtN A p u m (rX A p u v)).length + 1 = m + 1
    rw [rt_len m]
section PRT
variable {A : pu_L} {σ : am_S} {p u v s e : Nat}
theorem r_two (hk : pu_k A) (hp : p < lne A) (hv : v < 7) (hu : u < 7) : rN A p v u ≤ 6 ∧ rD A p v u = 64 * rP A p v u + rN A p v u ∧ rE A p v u = 1000 * rP A p v u + rN A p v u ∧ (rN A p v u = 0 ↔ v = u) ∧ rD A p v u ≤ 1000000 ∧ rE A p v u ≤ 10000000 := by
  obtain ⟨P, N, h1, h2, h3, h4⟩ := DN_two (A := A) (p := p) (wo := none) hk hp no_r hv hu
  have h2 : rD A p v u = 64 * P + N := h2
  have h3 : rE A p v u = 1000 * P + N := h3
  have b1 : rD A p v u ≤ 1000000 := DN_far
  have b2 : rE A p v u ≤ 10000000 := DN_far
  unfold rP rN
  refine ⟨by omega, by omega, by omega, ⟨fun q => h4 (by omega), fun q => ?_⟩, b1, b2⟩
  have h0 : rE A p v v = 0 := DN_0 v
  rw [← q, h0]
theorem r_c64 (hk : pu_k A) (hp : p < lne A) (hv : v < 7) (hu : u < 7) (he : e < 7) {x : Nat} : (64 * x + 1 + rD A p e u = rD A p v u) = (x + rP A p e u = rP A p v u ∧ rN A p e u + 1 = rN A p v u) := by
  obtain ⟨a1, a2, -⟩ := r_two hk hp hv hu
  obtain ⟨b1, b2, -⟩ := r_two hk hp he hu
  apply propext
  omega
theorem r_c1000 (hk : pu_k A) (hp : p < lne A) (hv : v < 7) (hu : u < 7) (he : e < 7) {x : Nat} : (1000 * x + 1 + rE A p e u = rE A p v u) = (x + rP A p e u = rP A p v u ∧ rN A p e u + 1 = rN A p v u) := by
  obtain ⟨a1, -, a2, -⟩ := r_two hk hp hv hu
  obtain ⟨b1, -, b2, -⟩ := r_two hk hp he hu
  apply propext
  omega
theorem wt4 {M : Nat} : wtN A p 4 M v s = M * prN A p v s + 1 := by unfold wtN; simp
theorem r_ex (hk : pu_k A) (hp : p < lne A) (hv : v < 7) (hu : u < 7) (hne : v ≠ u) : ∃ s, s < 5 ∧ rB A p u v s = true := by
  obtain ⟨l, h1⟩ := DN_real (A := A) (p := p) (w := 4) (M := 64) (far := 1000000) (wo := none) hk hp no_r (by decide) hv hu
  cases l with
  | nil =>
    have h1 : some (v, 0) = some (u, _) := h1
    exact absurd (congrArg Prod.fst (Option.some.inj h1)) hne
  | cons s t =>
    obtain ⟨y, c', e1, e2, e3⟩ := wk_cons h1
    have hs := nx_7 hk _ _ _ e1
    have hy : y < 7 := hs.1
    have i1 : rD A p y u ≤ c' := DN_low hk hy e2
    have i2 := DN_tri (A := A) (p := p) (w := 4) (M := 64) (far := 1000000) (wo := none) hy v u
    have i3 := DN_step (A := A) (p := p) (w := 4) (M := 64) (far := 1000000) (wo := none) hk e1
    have e3 : rD A p v u = wtN A p 4 64 v s + c' := e3
    have i2 : rD A p v u ≤ DN A p 4 64 1000000 none v y + rD A p y u := i2
    have heq : wtN A p 4 64 v s + rD A p y u = rD A p v u := by omega
    rw [wt4, r_c64 hk hp hv hu hy] at heq
    refine ⟨s, hs.2, ?_⟩
    unfold rB
    rw [nx_eo e1]
    exact decide_eq_true heq
theorem r_step (hk : pu_k A) (hp : p < lne A) (hv : v < 7) (hu : u < 7) (hne : v ≠ u) : rB A p u v (rS A p u v) = true ∧ rS A p u v < 5 ∧ (∀ i, i < rS A p u v → rB A p u v i = false) ∧ eoN A v (rS A p u v) = some (rX A p u v) ∧ rX A p u v < 7 ∧ rN A p (rX A p u v) u + 1 = rN A p v u := by
  obtain ⟨s, h1, h2⟩ := r_ex hk hp hv hu hne
  obtain ⟨a1, a2, a3, a4⟩ := fs_ok (P := rB A p u v) 5 0 ⟨s, Nat.zero_le _, by omega, h2⟩
  have a1 : rB A p u v (rS A p u v) = true := a1
  refine ⟨a1, by unfold rS; omega, fun i hi => a4 i (Nat.zero_le _) hi, ?_⟩
  unfold rX
  unfold rB at a1
  cases e : eoN A v (rS A p u v) with
  | none => rw [e] at a1; cases a1
  | some y =>
    rw [e] at a1
    exact ⟨rfl, eo_lt hk e, (of_decide_eq_true a1).2⟩
/-! the class -/
theorem c_fs1 (hk : pu_k A) (hc : pu_c A 1 σ) (hp : p < lne A) (hv : v < 7) (hu : u < 7) (hT : ∀ a b, a < 7 → b < 7 → σ.1 12 19 a b = nI (rD A p a b)) {j : Nat} (hj : j < 5) (hjb : rB A p u v j = true) : ∀ (m s fuel : Nat), s + m = j → m < fuel → (∀ i, s ≤ i → i < j → rB A p u v i = false) → lp_X6_firstStep_8_3 fuel 1 1 p (nI v) (nI u) (nI s) σ = some (nI j, σ) := by
  intro m
  induction m with
  | zero =>
    intro s fuel hs hf hn
    obtain ⟨fu, rfl⟩ : ∃ f, fuel = f + 1 := ⟨fuel - 1, by omega⟩
    obtain rfl : s = j := by omega
    have hb2 := hjb
    unfold rB at hjb
    rw [lp_X6_firstStep_8_3.eq_2]
    unfold lb_X6_firstStep_8_3
    rw [z5, if_neg (nf (n_le_f (by omega) (by omega))), c_endOf hc hk hv hj, Option.bind_some]
    dsimp only
    cases e : eoN A v s with
    | none => rw [e] at hjb; cases hjb
    | some y =>
      rw [e] at hjb
      have hy := eo_lt hk e
      obtain ⟨g, g1, g2, g3⟩ := c_weight (w := 4) hc hk hp (by decide) hv hj
      have g3 := g3 (by rw [e]; simp)
      rw [wt4] at g3
      obtain ⟨-, -, -, -, b1, -⟩ := r_two hk hp hv hu
      obtain ⟨-, -, -, -, b2, -⟩ := r_two hk hp hy hu
      have g2 : fn_X6_weight_8 1 1 p (nI v) (nI s) 4 σ = some (nI g, σ) := g2
      rw [g2, Option.bind_some]
      dsimp only
      rw [if_neg (show ¬ oI (some y) = (-1 : Int32) from oI_m (by omega)), show oI (some y) = nI y from rfl, c_between hy hu, Option.bind_some]
      dsimp only
      rw [c_between hv hu, Option.bind_some]
      dsimp only
      rw [hT y u hy hu, hT v u hv hu, nI_add, i_eq (by omega) (by omega), g3, if_pos (by rw [r_c64 hk hp hv hu hy]; exact of_decide_eq_true hjb)]
  | succ m ih =>
    intro s fuel hs hf hn
    obtain ⟨fu, rfl⟩ : ∃ f, fuel = f + 1 := ⟨fuel - 1, by omega⟩
    have hs5 : s < 5 := by omega
    have hsb := hn s (Nat.le_refl _) (by omega)
    have go := ih (s + 1) fu (by omega) (by omega) (fun i h1 h2 => hn i (by omega) h2)
    rw [lp_X6_firstStep_8_3.eq_2]
    unfold lb_X6_firstStep_8_3 jn_X6_firstStep_8_59
    obtain ⟨g, g1, g2, g3⟩ := c_weight (w := 4) hc hk hp (by decide) hv hs5
    have g2 : fn_X6_weight_8 1 1 p (nI v) (nI s) 4 σ = some (nI g, σ) := g2
    rw [z5, if_neg (nf (n_le_f (by omega) (by omega))), c_endOf hc hk hv hs5, Option.bind_some]
    dsimp only
    rw [g2, Option.bind_some]
    dsimp only
    rw [n_suc]
    cases e : eoN A v s with
    | none =>
      rw [if_pos (show oI none = (-1 : Int32) from rfl)]
      exact go
    | some y =>
      have hy := eo_lt hk e
      have g3 := g3 (by rw [e]; simp)
      rw [wt4] at g3
      obtain ⟨-, -, -, -, b1, -⟩ := r_two hk hp hv hu
      obtain ⟨-, -, -, -, b2, -⟩ := r_two hk hp hy hu
      unfold rB at hsb
      rw [e] at hsb
      rw [if_neg (show ¬ oI (some y) = (-1 : Int32) from oI_m (by omega)), show oI (some y) = nI y from rfl, c_between hy hu, Option.bind_some]
      dsimp only
      rw [c_between hv hu, Option.bind_some]
      dsimp only
      rw [hT y u hy hu, hT v u hv hu, nI_add, i_eq (by omega) (by omega), g3, if_neg (by rw [r_c64 hk hp hv hu hy]; exact of_decide_eq_false hsb)]
      exact go
theorem c_rt (hk : pu_k A) (hp : p < lne A) (hu : u < 7) : ∀ (m v n fuel : Nat) (σ : am_S), rN A p v u = m → n + m ≤ 6 → m < fuel → v < 7 → pu_c A 1 σ → (∀ a b, a < 7 → b < 7 → σ.1 12 19 a b = nI (rD A p a b)) →
    ∃ τ, lp_X6_findRoute_8_16 fuel 1 1 p (nI u) (nI v) (nI n) σ = some (nI (n + m), τ) ∧ fr (fun o k i j => o = 12 ∧ k = 20 ∧ i = 0 ∧ n ≤ j) σ τ ∧ ∀ i, i < m → τ.1 12 20 0 (n + i) = nI ((rtN A p u m v).getD i 0) := by
  intro m
  induction m with
  | zero =>
    intro v n fuel σ hN hn hf hv hc hT
    obtain ⟨fu, rfl⟩ : ∃ f, fuel = f + 1 := ⟨fuel - 1, by omega⟩
    have hvu := (r_two hk hp hv hu).2.2.2.1.mp hN
    refine ⟨σ, ?_, fr.rf, fun i hi => absurd hi (Nat.not_lt_zero _)⟩
    rw [lp_X6_findRoute_8_16.eq_2]
    unfold lb_X6_findRoute_8_16
    rw [if_neg (show ¬ (7 : Int32) ≤ nI n from nf (n_le_f (a := 7) (b := n) (by omega) (by omega))), if_pos (by rw [hvu])]
    rfl
  | succ m ih =>
    intro v n fuel σ hN hn hf hv hc hT
    obtain ⟨fu, rfl⟩ : ∃ f, fuel = f + 1 := ⟨fuel - 1, by omega⟩
    have hvu : v ≠ u := fun q => by
      have := (r_two hk hp hv hu).2.2.2.1.mpr q
      omega
    obtain ⟨s1, s2, s3, s4, s5, s6⟩ := r_step hk hp hv hu hvu
    have e1 := c_fs1 hk hc hp hv hu hT s2 s1 (rS A p u v) 0 1000 (by omega) (by omega) (fun i _ hi => s3 i hi)
    have e1 : fn_X6_firstStep_8 1 1 p (nI v) (nI u) σ = some (nI (rS A p u v), σ) := e1
    have f1 : fr (fun o k i j => o = 12 ∧ k = 20 ∧ i = 0 ∧ n ≤ j) σ (am_u σ 12 20 0 n (nI (rS A p u v))) := fr.u (by omega)
    have hc1 : pu_c A 1 (am_u σ 12 20 0 n (nI (rS A p u v))) := f1.c (fun _ _ _ q => by omega) hc
    obtain ⟨τ, g1, g2, g3⟩ := ih (rX A p u v) (n + 1) fu (am_u σ 12 20 0 n (nI (rS A p u v))) (by omega) (by omega) (by omega) s5 hc1 (fun a b ha hb => by rw [u_ne (by omega)]; exact hT a b ha hb)
    refine ⟨τ, ?_, f1.tr (g2.mono fun o k i j q => by omega), fun i hi => ?_⟩
    · rw [lp_X6_findRoute_8_16.eq_2]
      unfold lb_X6_findRoute_8_16
      rw [if_neg (show ¬ (7 : Int32) ≤ nI n from nf (n_le_f (a := 7) (b := n) (by omega) (by omega))), if_neg (nf (n_eq_f hvu (by omega) (by omega))), e1, Option.bind_some]
      dsimp only
      rw [n_in_t (show n < 7 by omega) (by omega), cond_true, n_cl (by omega), c_endOf hc1 hk hv s2, Option.bind_some]
      dsimp only
      rw [s4, show oI (some (rX A p u v)) = nI (rX A p u v) from rfl, n_suc, g1, show n + 1 + m = n + (m + 1) by omega]
    · show _ = nI ((rS A p u v :: rtN A p u m (rX A p u v)).getD i 0)
      cases i with
      | zero =>
        rw [Nat.add_zero, (g2 12 20 0 n (by omega)).1, u_at]
        rfl
      | succ i =>
        rw [show n + (i + 1) = n + 1 + i by omega, g3 i (by omega)]
        rfl
theorem c_route (hk : pu_k A) (hc : pu_c A 1 σ) (hp : p < lne A) (hu : u < 7) : ∃ τ, fn_X6_findRoute_8 1 1 p (nI u) σ = some (nI (rN A p (lE A p 3) u), τ) ∧ fr (fun o k _ _ => o = 12 ∧ (k = 19 ∨ k = 20)) σ τ ∧ ∀ i, i < rN A p (lE A p 3) u → τ.1 12 20 0 i = nI ((rtN A p u (rN A p (lE A p 3) u) (lE A p 3)).getD i 0) := by
  have hp6 : p < 6 := by have := hk.2.1; omega
  have hv := (pb_of hk hp).2.2.2.1
  have h6 := (r_two hk hp hv hu).1
  obtain ⟨τ, e1, e2, e3, e4⟩ := c_meas hk hc hp (w := 4) (by decide)
  obtain ⟨ρ, d1, d2, d3⟩ := c_rt hk hp hu (rN A p (lE A p 3) u) (lE A p 3) 0 1000 τ rfl (by omega) (by omega) hv e3 e4
  rw [Nat.zero_add] at d1
  refine ⟨ρ, ?_, (e2.mono fun o k i j q => by unfold S12 at q; omega).tr (d2.mono fun o k i j q => by omega), fun i hi => by
    have := d3 i hi
    rw [Nat.zero_add] at this
    exact this⟩
  unfold fn_X6_findRoute_8
  have e1 : fn_X6_measure_8 1 1 p 4 (-1) σ = some τ := e1
  rw [e1, Option.bind_some, e3.E hp6 (by decide)]
  exact d1
/-! the reference -/
theorem m_rt1 {k89 : Nat → Int32 → Int32 → Int32 → Int32 → Int32 → Int32 → am_S → Option (Int32 × am_S)} {x3 x7 : Int32} (hk : pu_k A) (hm : pu_m A 5 σ) (hp : p < lne A) (hv : v < 7) (hu : u < 7) (hT : ∀ a b, a < 7 → b < 7 → σ.1 5 65 a b = nI (rE A p a b)) {j y : Nat} (hj : j < 5) (hjb : rB A p u v j = true) (hy : eoN A v j = some y) : ∀ (m s fuel : Nat), s + m = j → m < fuel → (∀ i, s ≤ i → i < j → rB A p u v i = false) → lp_X8_route_98 k89 fuel 5 (nI p) (nI u) x3 (nI v) (nI s) x7 σ = k89 5 (nI p) (nI u) x3 (nI y) (nI j) (x7 + 1) σ := by
  intro m
  induction m with
  | zero =>
    intro s fuel hs hf hn
    obtain ⟨fu, rfl⟩ : ∃ f, fuel = f + 1 := ⟨fuel - 1, by omega⟩
    obtain rfl : s = j := by omega
    unfold rB at hjb
    rw [hy] at hjb
    have hy7 := eo_lt hk hy
    have hE : eoN A v s ≠ none := by rw [hy]; simp
    have hw := m_weight (w := 4) hm hk hp (by decide) hv hj hE
    have hwl := wt_le (w := 4) (M := 1000) hk hp (by decide) hv hE
    have hw : fn_X8_weight 5 (nI p) (nI v) (nI s) 4 σ = some (nI (wtN A p 4 1000 v s), σ) := hw
    obtain ⟨-, -, -, -, -, b1⟩ := r_two hk hp hv hu
    obtain ⟨-, -, -, -, -, b2⟩ := r_two hk hp hy7 hu
    rw [lp_X8_route_98.eq_2]
    unfold lb_X8_route_98
    rw [m_nextOf hm hk hv hj, hy, show oI (some y) = nI y from rfl, Option.bind_some]
    dsimp only
    rw [if_neg (show ¬ nI y = (-1 : Int32) from nf (n_neg1 (by omega))), hw, Option.bind_some]
    dsimp only
    rw [m_nextOf hm hk hv hj, hy, show oI (some y) = nI y from rfl, Option.bind_some]
    dsimp only
    rw [n_in_t hy7 (by omega), n_in_t hu (by omega), n_in_t hv (by omega), cond_true, cond_true, cond_true, cond_true, n_cl (by omega), n_cl (by omega), n_cl (by omega), hT y u hy7 hu, hT v u hv hu, nI_add, i_eq (by omega) (by omega), if_pos (by rw [wt4, r_c1000 hk hp hv hu hy7]; exact of_decide_eq_true hjb), m_nextOf hm hk hv hj, hy, show oI (some y) = nI y from rfl, Option.bind_some]
  | succ m ih =>
    intro s fuel hs hf hn
    obtain ⟨fu, rfl⟩ : ∃ f, fuel = f + 1 := ⟨fuel - 1, by omega⟩
    have hs5 : s < 5 := by omega
    have hsb := hn s (Nat.le_refl _) (by omega)
    have go := ih (s + 1) fu (by omega) (by omega) (fun i h1 h2 => hn i (by omega) h2)
    rw [lp_X8_route_98.eq_2]
    unfold lb_X8_route_98 jn_X8_route_148
    rw [m_nextOf hm hk hv hs5, Option.bind_some]
    dsimp only
    rw [n_suc]
    cases e : eoN A v s with
    | none =>
      rw [if_pos (show oI none = (-1 : Int32) from rfl)]
      exact go
    | some z =>
      have hz := eo_lt hk e
      have hE : eoN A v s ≠ none := by rw [e]; simp
      have hw := m_weight (w := 4) hm hk hp (by decide) hv hs5 hE
      have hwl := wt_le (w := 4) (M := 1000) hk hp (by decide) hv hE
      have hw : fn_X8_weight 5 (nI p) (nI v) (nI s) 4 σ = some (nI (wtN A p 4 1000 v s), σ) := hw
      obtain ⟨-, -, -, -, -, b1⟩ := r_two hk hp hv hu
      obtain ⟨-, -, -, -, -, b2⟩ := r_two hk hp hz hu
      unfold rB at hsb
      rw [e] at hsb
      rw [show oI (some z) = nI z from rfl, if_neg (show ¬ nI z = (-1 : Int32) from nf (n_neg1 (by omega))), hw, Option.bind_some]
      dsimp only
      rw [m_nextOf hm hk hv hs5, e, show oI (some z) = nI z from rfl, Option.bind_some]
      dsimp only
      rw [n_in_t hz (by omega), n_in_t hu (by omega), n_in_t hv (by omega), cond_true, cond_true, cond_true, cond_true, n_cl (by omega), n_cl (by omega), n_cl (by omega), hT z u hz hu, hT v u hv hu, nI_add, i_eq (by omega) (by omega), if_neg (by rw [wt4, r_c1000 hk hp hv hu hz]; exact of_decide_eq_false hsb)]
      exact go
theorem m_rt (hk : pu_k A) (hm : pu_m A 5 σ) (hp : p < lne A) (hu : u < 7) (hT : ∀ a b, a < 7 → b < 7 → σ.1 5 65 a b = nI (rE A p a b)) {i : Nat} (hi : i < 7) : ∀ (r k v s fuel : Nat), k + r = i + 1 → r ≤ rN A p v u → r < fuel → v < 7 → lp_X8_route_89 fuel 5 (nI p) (nI u) (nI i) (nI v) (nI s) (nI k) σ = some (nI (if r = 0 then s else (rtN A p u (rN A p v u) v).getD (r - 1) 0), σ) := by
  intro r
  induction r with
  | zero =>
    intro k v s fuel hs hr hf hv
    obtain ⟨fu, rfl⟩ : ∃ f, fuel = f + 1 := ⟨fuel - 1, by omega⟩
    rw [lp_X8_route_89.eq_2]
    unfold lb_X8_route_89
    rw [if_pos (pt (n_lt_t (by omega) (by omega))), if_pos rfl]
  | succ r ih =>
    intro k v s fuel hs hr hf hv
    obtain ⟨fu, rfl⟩ : ∃ f, fuel = f + 1 := ⟨fuel - 1, by omega⟩
    have hvu : v ≠ u := fun q => by
      have := (r_two hk hp hv hu).2.2.2.1.mpr q
      omega
    obtain ⟨s1, s2, s3, s4, s5, s6⟩ := r_step hk hp hv hu hvu
    rw [lp_X8_route_89.eq_2]
    unfold lb_X8_route_89
    have e1 := m_rt1 (k89 := lp_X8_route_89 fu) (x3 := nI i) (x7 := nI k) hk hm hp hv hu hT s2 s1 s4 (rS A p u v) 0 1000 (by omega) (by omega) (fun i _ hi => s3 i hi)
    have e1 : lp_X8_route_98 (lp_X8_route_89 fu) 1000 5 (nI p) (nI u) (nI i) (nI v) 0 (nI k) σ = lp_X8_route_89 fu 5 (nI p) (nI u) (nI i) (nI (rX A p u v)) (nI (rS A p u v)) (nI k + 1) σ := e1
    rw [if_neg (nf (n_lt_f (by omega) (by omega))), e1, n_suc, ih (k + 1) (rX A p u v) (rS A p u v) fu (by omega) (by omega) (by omega) s5, if_neg (Nat.succ_ne_zero r), Nat.add_sub_cancel, ← s6]
    show _ = some (nI ((rS A p u v :: rtN A p u (rN A p (rX A p u v) u) (rX A p u v)).getD r 0), σ)
    cases r with
    | zero => rfl
    | succ r => rfl
theorem n_mod1000 {a : Nat} (ha : a < 2147483648) : nI a - nI a / 1000 * 1000 = nI (a % 1000) := by
  rw [z1000, n_div ha (by decide), n_mul, n_sub (Nat.div_mul_le_self a 1000)]
  congr 1
  have := Nat.mod_add_div a 1000
  omega
end PRT
theorem pv_route (a1 : Int32) (a2 : Int32) (a3 : Int32) (σ : am_S) (hI : pu_Inv σ) : ∃ (r : Int32) (σ1 σ2 : am_S), fn_X7_route a1 a2 a3 σ = some (r, σ1) ∧ fn_X8_route 5 a1 a2 a3 σ1 = some (r, σ2) ∧ pu_Inv σ2 := by
  obtain ⟨A, hI⟩ := hI
  have hk := hI.1.1
  have hm := hI.1.2.2.1
  have hne := hk.2.1
  have hnp := hk.1
  have hc := hI.1.2.1
  cases h1 : gL (lne A) a1
  · refine pv_t hI 0 (by decide) ?_ (fun σ1 hJ hF => ?_)
    · unfold fn_X7_route jn_X7_route_23
      rw [c_gperson hc hk, h1, Option.bind_some]
      exact g_eta (fn_X7_refuse (-nI 2) σ)
    · have hm := hJ.2.2.1
      unfold fn_X8_route jn_X8_route_21
      rw [m_gone hm hk, h1, Option.bind_some]
      exact g_eta (fn_X8_refuse 5 (-nI 2) σ1)
  obtain ⟨p, rfl, lp⟩ := gL_n h1
  have hp6 : p < 6 := by omega
  cases h2 : gN 0 6 a2
  · refine pv_t hI 0 (by decide) ?_ (fun σ1 hJ hF => ?_)
    · unfold fn_X7_route jn_X7_route_23
      rw [c_gperson hc hk, h1, Option.bind_some]
      dsimp only
      rw [if_neg (show ¬ (cond true (nI 1) (nI 0) = 0) by decide), c_gvalley, h2, Option.bind_some]
      exact g_eta (fn_X7_refuse (-nI 2) σ)
    · have hm := hJ.2.2.1
      unfold fn_X8_route jn_X8_route_21
      rw [m_gone hm hk, h1, Option.bind_some]
      dsimp only
      rw [if_neg (show ¬ (cond true (nI 1) (nI 0) = 0) by decide), m_gvalley, h2, Option.bind_some]
      exact g_eta (fn_X8_refuse 5 (-nI 2) σ1)
  obtain ⟨u, rfl, -, hu⟩ := gN_n h2
  have hu7 : u < 7 := by omega
  by_cases h3 : (-1 : Int32) ≤ a3
  rotate_left 1
  · refine pv_t hI 0 (by decide) ?_ (fun σ1 hJ hF => ?_)
    · unfold fn_X7_route jn_X7_route_23
      rw [c_gperson hc hk, h1, Option.bind_some]
      dsimp only
      rw [if_neg (show ¬ (cond true (nI 1) (nI 0) = 0) by decide), c_gvalley, h2, Option.bind_some]
      dsimp only
      rw [if_neg (show ¬ (cond true (nI 1) (nI 0) = 0) by decide), if_neg h3]
      exact g_eta _
    · have hm := hJ.2.2.1
      unfold fn_X8_route jn_X8_route_21
      rw [m_gone hm hk, h1, Option.bind_some]
      dsimp only
      rw [if_neg (show ¬ (cond true (nI 1) (nI 0) = 0) by decide), m_gvalley, h2, Option.bind_some]
      dsimp only
      rw [if_neg (show ¬ (cond true (nI 1) (nI 0) = 0) by decide), if_neg h3]
      exact g_eta _
  have hv := (pb_of hk lp).2.2.2.1
  obtain ⟨r6, -, -, -, -, rE7⟩ := r_two hk lp hv hu7
  obtain ⟨τ, e1, e2, e4⟩ := c_route hk hc lp hu7
  have e2X : fr SX σ τ := e2.mono fun o k i j q => by unfold SX; omega
  have e7 : fn_X7_route (nI p) (nI u) a3 σ = (if a3 = (-1) then some (nI (rN A p (lE A p 3) u), τ) else (if nI (rN A p (lE A p 3) u) ≤ a3 then jn_X7_route_85 τ else (if 7 ≤ a3 then jn_X7_route_85 τ else (bif am_in a3 7 then some ((τ.1 12 20 0 ((a3 : Int32).toNatClampNeg)), τ) else none)))) := by
    unfold fn_X7_route
    rw [c_gperson hc hk, h1, Option.bind_some]
    dsimp only
    rw [if_neg (show ¬ (cond true (nI 1) (nI 0) = 0) by decide), c_gvalley, h2, Option.bind_some]
    dsimp only
    rw [if_neg (show ¬ (cond true (nI 1) (nI 0) = 0) by decide), if_pos h3, n_in_t hp6 (by omega), cond_true, n_cl (by omega), e1, Option.bind_some]
  have e8 : ∀ σ1, pu_m A 5 σ1 → ∃ ρ, pu_m A 5 ρ ∧ (∀ a b, a < 7 → b < 7 → ρ.1 5 65 a b = nI (rE A p a b)) ∧ fr S65 σ1 ρ ∧ fn_X8_route 5 (nI p) (nI u) a3 σ1 = (if a3 < nI (rN A p (lE A p 3) u) then (if a3 = (-1) then some (nI (rN A p (lE A p 3) u), ρ) else lp_X8_route_89 1000 5 (nI p) (nI u) a3 (nI (lE A p 3)) 0 0 ρ) else fn_X8_refuse 5 (-5) ρ) := fun σ1 hm => by
    obtain ⟨ρ, d1, d2, d3, d4⟩ := m_far hk hm lp (w := 4) (by decide)
    refine ⟨ρ, d3, d4, d2, ?_⟩
    have d1 : fn_X8_findFar 5 (nI p) 4 (-1) σ1 = some ρ := d1
    have d5 : ρ.1 5 65 (lE A p 3) u = nI (rE A p (lE A p 3) u) := d4 _ _ hv hu7
    unfold fn_X8_route
    rw [m_gone hm hk, h1, Option.bind_some]
    dsimp only
    rw [if_neg (show ¬ (cond true (nI 1) (nI 0) = 0) by decide), m_gvalley, h2, Option.bind_some]
    dsimp only
    rw [if_neg (show ¬ (cond true (nI 1) (nI 0) = 0) by decide), if_pos h3, d1, Option.bind_some, n_in_t hp6 (by omega), cond_true, cond_true, n_cl (by omega), d3.E3 hp6, n_in_t hv (by omega), cond_true, n_in_t hu7 (by omega), cond_true, n_cl (by omega), n_cl (by omega), d5, n_mod1000 (by omega), g_eta]
    rfl
  by_cases c : a3 = mI
  · subst c
    refine pv_q hI (r := nI (rN A p (lE A p 3) u)) ⟨τ, ?_, e2X⟩ (fun σ1 hI1 => ?_)
    · rw [e7, if_pos (show mI = (-1 : Int32) from rfl)]
    · obtain ⟨ρ, d1, d2, d3, d4⟩ := e8 σ1 hI1.1.2.2.1
      refine ⟨ρ, ?_, d3.mono S65_X⟩
      rw [d4, if_pos (pt (mI_lt (by omega))), if_pos (show mI = (-1 : Int32) from rfl)]
  · have h0 : 0 ≤ a3.toInt := by
      have q := Int32.le_iff_toInt_le.mp h3
      have q1 : (-1 : Int32).toInt = -1 := by decide
      have q2 : a3.toInt ≠ -1 := fun z => c (Int32.toInt_inj.mp (by rw [z]; decide))
      omega
    have hlt := Int32.toInt_lt a3
    obtain ⟨i, hi, hi2⟩ : ∃ i, a3 = nI i ∧ i < 2147483648 := ⟨_, nI_mk h0, by omega⟩
    subst hi
    by_cases d : i < rN A p (lE A p 3) u
    · have hi7 : i < 7 := by omega
      refine pv_q hI (r := nI ((rtN A p u (rN A p (lE A p 3) u) (lE A p 3)).getD i 0)) ⟨τ, ?_, e2X⟩ (fun σ1 hI1 => ?_)
      · rw [e7, if_neg (show ¬ nI i = (-1 : Int32) from c), if_neg (nf (n_le_f d (by omega))), if_neg (show ¬ (7 : Int32) ≤ nI i from nf (n_le_f (a := 7) (b := i) hi7 (by omega))), n_in_t hi7 (by omega), cond_true, n_cl (by omega), e4 i d]
      · obtain ⟨ρ, d1, d2, d3, d4⟩ := e8 σ1 hI1.1.2.2.1
        refine ⟨ρ, ?_, d3.mono S65_X⟩
        have g := m_rt hk d1 lp hu7 d2 hi7 (i + 1) 0 (lE A p 3) 0 1000 (by omega) (by omega) (by omega) hv
        rw [if_neg (Nat.succ_ne_zero i), Nat.add_sub_cancel] at g
        rw [d4, if_pos (pt (n_lt_t d (by omega))), if_neg (show ¬ nI i = (-1 : Int32) from c)]
        exact g
    · refine pv_r hI 3 (by decide) ⟨τ, e2X, ?_⟩ (fun σ1 hJ => ?_)
      · rw [e7, if_neg (show ¬ nI i = (-1 : Int32) from c), if_pos (pt (n_le_t (by omega) (by omega)))]
        exact g_eta _
      · obtain ⟨ρ, d1, d2, d3, d4⟩ := e8 σ1 hJ.2.2.1
        refine ⟨ρ, d3.mono S65_X, ?_⟩
        rw [d4, if_neg (nf (n_lt_f (by omega) (by omega)))]
        rfl
