/-! ===== the reference: findFar ===== -/
def S65 : Nat → Nat → Nat → Nat → Prop := fun o k _ _ => o = 5 ∧ k = 65
def S65r (v : Nat) : Nat → Nat → Nat → Nat → Prop := fun o k i _ => o = 5 ∧ k = 65 ∧ i = v
theorem S65r_S {v : Nat} : ∀ o k i j, S65r v o k i j → S65 o k i j := fun _ _ _ _ h => ⟨h.1, h.2.1⟩
theorem fr.m65 {A : pu_L} {v : Nat} {σ σ' : am_S} (h : fr (S65r v) σ σ') (hc : pu_m A 5 σ) : pu_m A 5 σ' := h.m (fun k i j h1 _ _ _ q => by obtain ⟨-, q, -⟩ := q; omega) hc
theorem m_ff183 {k163 : Nat → Int32 → am_S → Option am_S} {k173 : Nat → Int32 → Int32 → am_S → Option am_S} {k v : Nat} {D : Nat → Nat → Nat} (hk : k < 7) (hv : v < 7) (hD : D k k = 0) (hB : ∀ a b, D a b ≤ 10000000) : ∀ (m w : Nat) (σ : am_S) (fuel : Nat), w + m = 7 → m < fuel → (∀ a b, a < 7 → b < 7 → σ.1 5 65 a b = nI (fwm k v w D a b)) →
    ∃ σ', lp_X8_findFar_183 k163 k173 fuel 5 (nI k) (nI v) (nI w) σ = k173 5 (nI k) (nI (v + 1)) σ' ∧ fr S65 σ σ' ∧ ∀ a b, a < 7 → b < 7 → σ'.1 5 65 a b = nI (fwm k v 7 D a b) := by
  intro m
  induction m with
  | zero =>
    intro w σ fuel hs hf hr
    obtain ⟨f, rfl⟩ : ∃ f, fuel = f + 1 := ⟨fuel - 1, by omega⟩
    obtain rfl : w = 7 := by omega
    refine ⟨σ, ?_, fr.rf, hr⟩
    show lb_X8_findFar_183 _ _ _ _ _ _ _ _ = _
    unfold lb_X8_findFar_183
    simp -implicitDefEqProofs (disch := omega) only [z1, z7, n_le_t, if_true, nI_add]
  | succ m ih =>
    intro w σ fuel hs hf hr
    obtain ⟨f, rfl⟩ : ∃ f, fuel = f + 1 := ⟨fuel - 1, by omega⟩
    have hw : w < 7 := by omega
    have b1 := hB v w
    have b2 := hB v k
    have b3 := hB k w
    have hr2 : ∀ a b, a < 7 → b < 7 → (am_u σ 5 65 v w (nI (fwp k D v w))).1 5 65 a b = nI (fwm k v (w + 1) D a b) := fun a b ha hb => by
      rw [fwm_next]
      by_cases c : a = v ∧ b = w
      · rw [if_pos c, c.1, c.2, u_at]
      · rw [if_neg c, u_ne (by omega), hr a b ha hb]
    obtain ⟨σ', e1, e2, e3⟩ := ih (w + 1) _ f (by omega) (by omega) hr2
    refine ⟨σ', ?_, (fr.u ⟨rfl, rfl⟩).tr e2, e3⟩
    rw [← e1]
    show lb_X8_findFar_183 _ _ _ _ _ _ _ _ = _
    unfold lb_X8_findFar_183 jn_X8_findFar_252
    simp -implicitDefEqProofs (disch := omega) only [z1, z7, n_le_f, if_false, n_in_t, cond_true, n_cl, hr, fwm_col hD, fwm_row hD, fwm_out, nI_add, n_le_i]
    unfold fwp
    split
    · rw [Nat.min_eq_left (by omega)]
    · rw [Nat.min_eq_right (by omega)]
theorem m_ff173 {k163 : Nat → Int32 → am_S → Option am_S} {k : Nat} {D : Nat → Nat → Nat} (hk : k < 7) (hD : D k k = 0) (hB : ∀ a b, D a b ≤ 10000000) : ∀ (m v : Nat) (σ : am_S) (fuel : Nat), v + m = 7 → m < fuel → (∀ a b, a < 7 → b < 7 → σ.1 5 65 a b = nI (fwm k v 0 D a b)) →
    ∃ σ', lp_X8_findFar_173 k163 fuel 5 (nI k) (nI v) σ = k163 5 (nI (k + 1)) σ' ∧ fr S65 σ σ' ∧ ∀ a b, a < 7 → b < 7 → σ'.1 5 65 a b = nI (fwp k D a b) := by
  intro m
  induction m with
  | zero =>
    intro v σ fuel hs hf hr
    obtain ⟨f, rfl⟩ : ∃ f, fuel = f + 1 := ⟨fuel - 1, by omega⟩
    obtain rfl : v = 7 := by omega
    refine ⟨σ, ?_, fr.rf, fun a b ha hb => by rw [hr a b ha hb, fwm_in (Or.inl ha)]⟩
    show lb_X8_findFar_173 _ _ _ _ _ _ = _
    unfold lb_X8_findFar_173
    simp -implicitDefEqProofs (disch := omega) only [z1, z7, n_le_t, if_true, nI_add]
  | succ m ih =>
    intro v σ fuel hs hf hr
    obtain ⟨f, rfl⟩ : ∃ f, fuel = f + 1 := ⟨fuel - 1, by omega⟩
    obtain ⟨σ1, e1, e2, e3⟩ := m_ff183 (k163 := k163) (k173 := lp_X8_findFar_173 k163 f) (v := v) hk (by omega) hD hB 7 0 σ 1000 rfl (by decide) hr
    obtain ⟨σ', e4, e5, e6⟩ := ih (v + 1) σ1 f (by omega) (by omega) (fun a b ha hb => by rw [e3 a b ha hb, fwm_7 hb])
    refine ⟨σ', ?_, e2.tr e5, e6⟩
    rw [← e4, ← e1]
    show lb_X8_findFar_173 _ _ _ _ _ _ = _
    unfold lb_X8_findFar_173
    simp -implicitDefEqProofs (disch := omega) only [z0, z7, n_le_f, if_false]
theorem m_ff163 {D : Nat → Nat → Nat} (hD : ∀ v, D v v = 0) (hB : ∀ a b, D a b ≤ 10000000) : ∀ (m k : Nat) (σ : am_S) (fuel : Nat), k + m = 7 → m < fuel → (∀ a b, a < 7 → b < 7 → σ.1 5 65 a b = nI (fwN k D a b)) →
    ∃ σ', lp_X8_findFar_163 fuel 5 (nI k) σ = some σ' ∧ fr S65 σ σ' ∧ ∀ a b, a < 7 → b < 7 → σ'.1 5 65 a b = nI (fwN 7 D a b) := by
  intro m
  induction m with
  | zero =>
    intro k σ fuel hs hf hr
    obtain ⟨f, rfl⟩ : ∃ f, fuel = f + 1 := ⟨fuel - 1, by omega⟩
    obtain rfl : k = 7 := by omega
    refine ⟨σ, ?_, fr.rf, hr⟩
    show lb_X8_findFar_163 _ _ _ _ = _
    unfold lb_X8_findFar_163
    simp -implicitDefEqProofs (disch := omega) only [z7, n_le_t, if_true]
  | succ m ih =>
    intro k σ fuel hs hf hr
    obtain ⟨f, rfl⟩ : ∃ f, fuel = f + 1 := ⟨fuel - 1, by omega⟩
    obtain ⟨σ1, e1, e2, e3⟩ := m_ff173 (k163 := lp_X8_findFar_163 f) (k := k) (D := fwN k D) (by omega) (fwN_0 hD k k) (fun a b => Nat.le_trans (fwN_le k a b) (hB a b)) 7 0 σ 1000 rfl (by decide) (fun a b ha hb => by rw [hr a b ha hb, fwm_out (by omega)])
    obtain ⟨σ', e4, e5, e6⟩ := ih (k + 1) σ1 f (by omega) (by omega) e3
    refine ⟨σ', ?_, e2.tr e5, e6⟩
    rw [← e4, ← e1]
    show lb_X8_findFar_163 _ _ _ _ = _
    unfold lb_X8_findFar_163
    simp -implicitDefEqProofs (disch := omega) only [z0, z7, n_le_f, if_false]
section PFF
variable {A : pu_L} {p w : Nat}
theorem rwN_past {far : Nat} {nx : Nat → Option Nat} {wt : Nat → Nat} {v u : Nat} {s : Nat} (h : ∀ t, s ≤ t → nx t = none) : ∀ m, rwN far nx wt v (s + m) u = rwN far nx wt v s u
  | 0 => rfl
  | m + 1 => by
    show (if nx (s + m) = some u then _ else rwN far nx wt v (s + m) u) = _
    rw [h (s + m) (by omega), if_neg (by simp), rwN_past h m]
theorem nx_past {wo : Option Nat} {v s : Nat} (h : lnp A + 2 ≤ s) : nxN A wo v s = none := by
  unfold nxN
  split
  · rfl
  · unfold eoN
    rw [if_neg (by omega), if_neg (by omega), if_neg (by omega)]
theorem m_ff53 {k3 : Nat → Int32 → Int32 → Int32 → Int32 → am_S → Option am_S} (hk : pu_k A) (hp : p < lne A) (hw : w < 5) {wo : Option Nat} (hwo : ∀ r, wo = some r → r < 3) {v : Nat} (hv : v < 7) : ∀ (m s : Nat) (σ : am_S) (fuel : Nat), s + m = lnp A + 2 → m < fuel → pu_m A 5 σ → (∀ u, u < 7 → σ.1 5 65 v u = nI (rwN 10000000 (nxN A wo v) (wtN A p w 1000 v) v s u)) →
    ∃ σ', lp_X8_findFar_53 k3 fuel 5 (nI p) (nI w) (oI wo) (nI v) (nI s) σ = k3 5 (nI p) (nI w) (oI wo) (nI (v + 1)) σ' ∧ fr (S65r v) σ σ' ∧ ∀ u, u < 7 → σ'.1 5 65 v u = nI (rwN 10000000 (nxN A wo v) (wtN A p w 1000 v) v 5 u) := by
  have hnp := hk.1
  intro m
  induction m with
  | zero =>
    intro s σ fuel hs hf hc hr
    obtain ⟨f, rfl⟩ : ∃ f, fuel = f + 1 := ⟨fuel - 1, by omega⟩
    refine ⟨σ, ?_, fr.rf, fun u hu => ?_⟩
    · show lb_X8_findFar_53 _ _ _ _ _ _ _ _ _ = _
      unfold lb_X8_findFar_53
      simp -implicitDefEqProofs (disch := omega) only [z1, z2, hc.np, nI_add, n_le_t, if_true]
    · rw [hr u hu]
      have := rwN_past (far := 10000000) (nx := nxN A wo v) (wt := wtN A p w 1000 v) (v := v) (u := u) (s := s) (fun t ht => nx_past (by omega)) (5 - s)
      rw [show s + (5 - s) = 5 by omega] at this
      rw [this]
  | succ m ih =>
    intro s σ fuel hs hf hc hr
    obtain ⟨f, rfl⟩ : ∃ f, fuel = f + 1 := ⟨fuel - 1, by omega⟩
    have hs5 : s < 5 := by omega
    have key : ∃ σ1, lb_X8_findFar_53 k3 (lp_X8_findFar_53 k3 f) 5 (nI p) (nI w) (oI wo) (nI v) (nI s) σ = lp_X8_findFar_53 k3 f 5 (nI p) (nI w) (oI wo) (nI v) (nI (s + 1)) σ1 ∧ fr (S65r v) σ σ1 ∧ ∀ u, u < 7 → σ1.1 5 65 v u = nI (rwN 10000000 (nxN A wo v) (wtN A p w 1000 v) v (s + 1) u) := by
      unfold lb_X8_findFar_53 jn_X8_findFar_80 jn_X8_findFar_88 jn_X8_findFar_147 jn_X8_findFar_148
      rw [m_nextOf hc hk hv hs5]
      simp -implicitDefEqProofs (disch := omega) only [Option.bind_some, z1, z2, zn, hc.np, n_le_f, if_false, if_true, nI_add]
      by_cases left : wo.map (fun r => r + 2) = some s
      · refine ⟨σ, ?_, fr.rf, fun u hu => ?_⟩
        · obtain ⟨r, hr1, hr2⟩ := Option.map_eq_some_iff.mp left
          subst hr1
          have hr3 := hwo r rfl
          simp only [oI, nI_add]
          rw [← hr2]
          simp -implicitDefEqProofs (disch := omega) only [if_true, n_eq_t, z0, n_lt_f, if_false]
        · rw [hr u hu]
          show _ = nI (if nxN A wo v s = some u then _ else _)
          unfold nxN
          rw [if_pos left, if_neg (by simp)]
      · have hnx : nxN A wo v s = eoN A v s := if_neg left
        have hskip : ∀ (X Y : Option am_S), (if nI s = oI wo + nI 2 then (if oI wo < 0 then X else Y) else X) = X := fun X Y => by
          cases wo with
          | none =>
            have : mI < 0 := by decide
            simp only [oI, this, if_true, ite_self]
          | some r =>
            have hr3 := hwo r rfl
            have hne : ¬ s = r + 2 := fun q => left (by rw [q]; rfl)
            simp -implicitDefEqProofs (disch := omega) only [oI, nI_add, n_eq_f, if_false]
        rw [hskip]
        cases he : eoN A v s with
        | none =>
          refine ⟨σ, ?_, fr.rf, fun u hu => ?_⟩
          · simp only [oI, if_true]
          · rw [hr u hu]
            show _ = nI (if nxN A wo v s = some u then _ else _)
            rw [hnx, he, if_neg (by simp)]
        | some t =>
          have ht := eo_lt hk he
          have hE : eoN A v s ≠ none := by rw [he]; simp
          have g2 := m_weight (w := w) hc hk hp hw hv hs5 hE
          have g1 := wt_le (w := w) (M := 1000) hk hp (by decide) hv hE
          have hD := rwN_le (far := 10000000) (nx := nxN A wo v) (w := wtN A p w 1000 v) (v := v) s t
          refine ⟨am_u σ 5 65 v t (nI (min (rwN 10000000 (nxN A wo v) (wtN A p w 1000 v) v s t) (wtN A p w 1000 v s))), ?_, fr.u ⟨rfl, rfl, rfl⟩, fun u hu => ?_⟩
          · simp -implicitDefEqProofs (disch := omega) only [oI, n_neg1, if_false, n_in_t, cond_true, n_cl, g2, Option.bind_some, hr t ht, n_le_i]
            split
            · rw [Nat.min_eq_left (by omega)]
            · rw [Nat.min_eq_right (by omega)]
          · show _ = nI (if nxN A wo v s = some u then _ else _)
            rw [hnx, he]
            by_cases c : t = u
            · subst c
              rw [u_at, if_pos rfl]
            · rw [u_ne (by omega), if_neg (by simpa using c), hr u hu]
    obtain ⟨σ1, e1, e2, e3⟩ := key
    obtain ⟨σ', e4, e5, e6⟩ := ih (s + 1) σ1 f (by omega) (by omega) (e2.m65 hc) e3
    exact ⟨σ', e1.trans e4, e2.tr e5, e6⟩
theorem m_ff13 {k3 : Nat → Int32 → Int32 → Int32 → Int32 → am_S → Option am_S} {a2 a3 a4 : Int32} {v : Nat} (hv : v < 7) : ∀ (m u : Nat) (σ : am_S) (fuel : Nat), u + m = 7 → m < fuel → (∀ x, x < u → σ.1 5 65 v x = nI (if x = v then 0 else 10000000)) →
    ∃ σ', lp_X8_findFar_13 k3 fuel 5 a2 a3 a4 (nI v) (nI u) σ = lp_X8_findFar_53 k3 1000 5 a2 a3 a4 (nI v) (nI 0) σ' ∧ fr (S65r v) σ σ' ∧ ∀ x, x < 7 → σ'.1 5 65 v x = nI (if x = v then 0 else 10000000) := by
  intro m
  induction m with
  | zero =>
    intro u σ fuel hs hf hr
    obtain ⟨f, rfl⟩ : ∃ f, fuel = f + 1 := ⟨fuel - 1, by omega⟩
    obtain rfl : u = 7 := by omega
    refine ⟨σ, ?_, fr.rf, hr⟩
    show lb_X8_findFar_13 _ _ _ _ _ _ _ _ _ = _
    unfold lb_X8_findFar_13
    simp -implicitDefEqProofs (disch := omega) only [z0, z7, n_le_t, if_true]
  | succ m ih =>
    intro u σ fuel hs hf hr
    obtain ⟨f, rfl⟩ : ∃ f, fuel = f + 1 := ⟨fuel - 1, by omega⟩
    have hu : u < 7 := by omega
    obtain ⟨σ', e1, e2, e3⟩ := ih (u + 1) (am_u σ 5 65 v u (nI (if u = v then 0 else 10000000))) f (by omega) (by omega) (fun x hx => by
      by_cases c : x = u
      · subst c
        rw [u_at]
      · rw [u_ne (by omega)]
        exact hr x (by omega))
    refine ⟨σ', ?_, (fr.u ⟨rfl, rfl, rfl⟩).tr e2, e3⟩
    rw [← e1]
    show lb_X8_findFar_13 _ _ _ _ _ _ _ _ _ = _
    unfold lb_X8_findFar_13 jn_X8_findFar_43
    simp -implicitDefEqProofs (disch := omega) only [z0, z1, z7, z107, n_le_f, if_false, n_in_t, cond_true, n_cl, n_eq_i, nI_add]
    split <;> rfl
theorem m_ff3 (hk : pu_k A) (hp : p < lne A) (hw : w < 5) {wo : Option Nat} (hwo : ∀ r, wo = some r → r < 3) : ∀ (m v : Nat) (σ : am_S) (fuel : Nat), v + m = 7 → m < fuel → pu_m A 5 σ → (∀ a b, a < v → b < 7 → σ.1 5 65 a b = nI (M0 A p w 1000 10000000 wo a b)) →
    ∃ σ', lp_X8_findFar_3 fuel 5 (nI p) (nI w) (oI wo) (nI v) σ = some σ' ∧ fr S65 σ σ' ∧ ∀ a b, a < 7 → b < 7 → σ'.1 5 65 a b = nI (DN A p w 1000 10000000 wo a b) := by
  intro m
  induction m with
  | zero =>
    intro v σ fuel hs hf hc hr
    obtain ⟨f, rfl⟩ : ∃ f, fuel = f + 1 := ⟨fuel - 1, by omega⟩
    obtain rfl : v = 7 := by omega
    obtain ⟨σ', e1, e2, e3⟩ := m_ff163 (D := M0 A p w 1000 10000000 wo) (fun v => rwN_0 5) (fun a b => rwN_le 5 b) 7 0 σ 1000 rfl (by decide) hr
    refine ⟨σ', ?_, e2, e3⟩
    show lb_X8_findFar_3 _ _ _ _ _ _ _ = _
    unfold lb_X8_findFar_3
    simp -implicitDefEqProofs (disch := omega) only [z0, z7, n_le_t, if_true, e1]
  | succ m ih =>
    intro v σ fuel hs hf hc hr
    obtain ⟨f, rfl⟩ : ∃ f, fuel = f + 1 := ⟨fuel - 1, by omega⟩
    have hv : v < 7 := by omega
    have hnp := hk.1
    obtain ⟨σ1, a1, a2, a3⟩ := m_ff13 (k3 := lp_X8_findFar_3 f) (a2 := nI p) (a3 := nI w) (a4 := oI wo) hv 7 0 σ 1000 rfl (by decide) (fun x hx => absurd hx (Nat.not_lt_zero _))
    obtain ⟨σ2, b1, b2, b3⟩ := m_ff53 (k3 := lp_X8_findFar_3 f) hk hp hw hwo hv (lnp A + 2) 0 σ1 1000 (by omega) (by omega) (a2.m65 hc) (fun u hu => by rw [a3 u hu]; unfold rwN; rfl)
    have hfr : fr (S65r v) σ σ2 := a2.tr b2
    obtain ⟨σ', e4, e5, e6⟩ := ih (v + 1) σ2 f (by omega) (by omega) (hfr.m65 hc) (fun a b ha hb => by
      by_cases c : a = v
      · subst c
        exact b3 b hb
      · rw [(hfr 5 65 a b (fun q => c q.2.2)).1]
        exact hr a b (by omega) hb)
    refine ⟨σ', ?_, (hfr.mono S65r_S).tr e5, e6⟩
    rw [← e4, ← b1, ← a1]
    show lb_X8_findFar_3 _ _ _ _ _ _ _ = _
    unfold lb_X8_findFar_3
    simp -implicitDefEqProofs (disch := omega) only [z0, z7, n_le_f, if_false]
theorem m_findFar (hk : pu_k A) (hp : p < lne A) (hw : w < 5) {wo : Option Nat} (hwo : ∀ r, wo = some r → r < 3) {σ : am_S} (hc : pu_m A 5 σ) :
    ∃ σ', fn_X8_findFar 5 (nI p) (nI w) (oI wo) σ = some σ' ∧ fr S65 σ σ' ∧ ∀ a b, a < 7 → b < 7 → σ'.1 5 65 a b = nI (DN A p w 1000 10000000 wo a b) := by
  unfold fn_X8_findFar
  rw [z0]
  exact m_ff3 hk hp hw hwo 7 0 σ 1000 rfl (by decide) hc fun a b ha _ => absurd ha (Nat.not_lt_zero _)
end PFF
