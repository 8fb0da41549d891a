/-! ===== calls: journeys, the reference ===== -/
def bI (b : Bool) : Int32 := cond b (nI 1) (nI 0)
theorem nar_or {a b : Bool} : vp_nar .boolean (bI a ||| bI b) = bI (a || b) := by cases a <;> cases b <;> decide
theorem nar_b {a : Bool} : vp_nar .boolean (bI a) = bI a := by cases a <;> decide
theorem bI_0 {α : Type} {b : Bool} {x y : α} : (if bI b = 0 then x else y) = cond b y x := by cases b <;> rfl
theorem m_fits {x : Int64} {u : Nat} {σ : am_S} (hu : u < 7) : fn_X8_fits x (nI u) σ = some (bI (fB x u), σ) := by
  unfold fn_X8_fits jn_X8_fits_15 fB
  rw [i_lgeq, i_lgeq, l_m1, l_nI (by omega)]
  by_cases c1 : x.toInt = -1
  · rw [if_pos c1, decide_eq_true c1, Bool.true_or]; rfl
  · rw [if_neg c1, decide_eq_false c1, Bool.false_or]
    by_cases c2 : x.toInt = (u : Int)
    · rw [if_pos c2, decide_eq_true c2]; rfl
    · rw [if_neg c2, decide_eq_false c2]; rfl
section PJR
variable {A : pu_L} {σ : am_S} {x : Int64} {c v s w st n i k : Nat} {F C : Nat → Nat} {G : Nat → Bool} {r : Nat → Int64}
theorem m_i12 {K : Nat → Nat → Nat → Int32 → Int32 → Int32 → am_S → Option am_S} (hk : k ≤ 40) (hn : n ≤ 40) (hst : st < 7) : ∀ (m v fuel : Nat) (σ : am_S), v + m = 7 → m < fuel →
    ∃ τ, lp_X8_findJourneys_45_12 K fuel 5 5 s (nI n) (nI st) (nI k) (nI v) σ = K 5 5 s (nI n) (nI st) (nI (k + 1)) τ ∧ fr (fun o kk i j => o = 5 ∧ (kk = 74 ∨ kk = 76) ∧ i = k ∧ v ≤ j) σ τ ∧ ∀ u, v ≤ u → u < 7 → τ.1 5 74 k u = nI (if k = 0 ∧ u = st then 1 else 0) ∧ τ.1 5 76 k u = bI (decide (k = n)) := by
  intro m
  induction m with
  | zero =>
    intro v fuel σ hs hf
    obtain ⟨f, rfl⟩ : ∃ f, fuel = f + 1 := ⟨fuel - 1, by omega⟩
    obtain rfl : v = 7 := by omega
    refine ⟨σ, ?_, fr.rf, fun u h1 h2 => by omega⟩
    rw [lp_X8_findJourneys_45_12.eq_2]
    unfold lb_X8_findJourneys_45_12
    rw [if_pos (by decide), n_suc]
  | succ m ih =>
    intro v fuel σ hs hf
    obtain ⟨f, rfl⟩ : ∃ f, fuel = f + 1 := ⟨fuel - 1, by omega⟩
    have hv : v < 7 := by omega
    have go : ∀ a, a = (if k = 0 ∧ v = st then 1 else 0) → ∃ τ, jn_X8_findJourneys_45_44 K (lp_X8_findJourneys_45_12 K f) 5 5 s (nI n) (nI st) (nI k) (nI v) (nI a) (nI v) 5 k σ = K 5 5 s (nI n) (nI st) (nI (k + 1)) τ ∧ fr (fun o kk i j => o = 5 ∧ (kk = 74 ∨ kk = 76) ∧ i = k ∧ v ≤ j) σ τ ∧ ∀ u, v ≤ u → u < 7 → τ.1 5 74 k u = nI (if k = 0 ∧ u = st then 1 else 0) ∧ τ.1 5 76 k u = bI (decide (k = n)) := fun a ha => by
      obtain ⟨τ, e1, e2, e3⟩ := ih (v + 1) f (am_u (am_u σ 5 74 k v (nI a)) 5 76 k v (bI (decide (k = n)))) (by omega) (by omega)
      refine ⟨τ, ?_, (fr.u (by omega)).tr ((fr.u (by omega)).tr (e2.mono fun o kk i j q => by omega)), fun u h1 h2 => ?_⟩
      · unfold jn_X8_findJourneys_45_44 jn_X8_findJourneys_45_65
        rw [n_in_t hv (by omega), n_in_t (show k < 41 by omega) (by omega), cond_true, cond_true, cond_true, cond_true, n_cl (by omega), n_cl (by omega), i_eq (by omega) (by omega), n_suc]
        by_cases c : k = n
        · rw [if_pos c]
          rw [decide_eq_true c] at e1
          exact e1
        · rw [if_neg c]
          rw [decide_eq_false c] at e1
          exact e1
      · by_cases c : u = v
        · subst c
          rw [(e2 5 74 k u (by omega)).1, (e2 5 76 k u (by omega)).1, u_ne (by omega), u_at, u_at, ha]
          exact ⟨rfl, rfl⟩
        · exact e3 u (by omega) h2
    rw [lp_X8_findJourneys_45_12.eq_2]
    unfold lb_X8_findJourneys_45_12 jn_X8_findJourneys_45_43
    rw [if_neg (show ¬ (7 : Int32) ≤ nI v from nf (n_le_f (a := 7) (b := v) hv (by omega))), n_in_t (show k < 41 by omega) (by omega), cond_true, n_cl (by omega), z0, i_eq (by omega) (by omega), i_eq (by omega) (by omega)]
    by_cases k0 : k = 0
    · rw [if_pos k0]
      by_cases v0 : v = st
      · rw [if_pos v0]
        exact go 1 (by rw [if_pos ⟨k0, v0⟩])
      · rw [if_neg v0]
        exact go 0 (by rw [if_neg (fun z => v0 z.2)])
    · rw [if_neg k0]
      exact go 0 (by rw [if_neg (fun z => k0 z.1)])
theorem m_i3 (hn : n ≤ 40) (hst : st < 7) : ∀ (m k fuel : Nat) (σ : am_S), k + m = n + 1 → m < fuel → (∀ j, j < k → ∀ u, u < 7 → σ.1 5 74 j u = nI (if j = 0 ∧ u = st then 1 else 0) ∧ σ.1 5 76 j u = bI (decide (j = n))) →
    ∃ τ, lp_X8_findJourneys_45_3 fuel 5 5 s (nI n) (nI st) (nI k) σ = lp_X8_findJourneys_45_81 1000 5 5 s (nI n) (nI 0) τ ∧ fr (fun o kk _ _ => o = 5 ∧ (kk = 74 ∨ kk = 76)) σ τ ∧ ∀ j, j ≤ n → ∀ u, u < 7 → τ.1 5 74 j u = nI (if j = 0 ∧ u = st then 1 else 0) ∧ τ.1 5 76 j u = bI (decide (j = n)) := by
  intro m
  induction m with
  | zero =>
    intro k fuel σ hs hf hI
    obtain ⟨f, rfl⟩ : ∃ f, fuel = f + 1 := ⟨fuel - 1, by omega⟩
    refine ⟨σ, ?_, fr.rf, fun j hj => hI j (by omega)⟩
    rw [lp_X8_findJourneys_45_3.eq_2]
    unfold lb_X8_findJourneys_45_3
    rw [if_pos (pt (n_lt_t (by omega) (by omega)))]
    rfl
  | succ m ih =>
    intro k fuel σ hs hf hI
    obtain ⟨f, rfl⟩ : ∃ f, fuel = f + 1 := ⟨fuel - 1, by omega⟩
    obtain ⟨τ, e1, e2, e3⟩ := m_i12 (s := s) (K := lp_X8_findJourneys_45_3 f) (show k ≤ 40 by omega) hn hst 7 0 1000 σ rfl (by decide)
    obtain ⟨ρ, d1, d2, d3⟩ := ih (k + 1) f τ (by omega) (by omega) (fun j hj u hu => by
      by_cases c : j = k
      · subst c
        exact e3 u (Nat.zero_le _) hu
      · rw [(e2 5 74 j u (by omega)).1, (e2 5 76 j u (by omega)).1]
        exact hI j (by omega) u hu)
    refine ⟨ρ, ?_, (e2.mono fun o kk i j q => ⟨q.1, q.2.1⟩).tr d2, d3⟩
    rw [← d1, ← e1]
    rw [lp_X8_findJourneys_45_3.eq_2]
    rw [lb_X8_findJourneys_45_3.eq_def, if_neg (nf (n_lt_f (by omega) (by omega)))]
    rfl
theorem m_100 {K1 : Nat → Nat → Nat → Int32 → Int32 → am_S → Option am_S} {K : Nat → Nat → Nat → Int32 → Int32 → Int32 → am_S → Option am_S} (hk : pu_k A) (hi : i < 40) (hv : v < 7) (hc6 : c ≤ 1000000) (hF : ∀ w, F w ≤ 1000000) : ∀ (m t fuel : Nat) (σ : am_S), t + m = lnp A + 2 → m < fuel → pu_m A 5 σ → σ.2 5 45 s i = x → σ.1 5 74 i v = nI c → (∀ u, u < 7 → σ.1 5 74 (i + 1) u = nI (jV A x c v F t u)) →
    ∃ τ, lp_X8_findJourneys_45_100 K1 K fuel 5 5 s (nI n) (nI i) (nI v) (nI t) σ = K 5 5 s (nI n) (nI i) (nI (v + 1)) τ ∧ fr (fun o kk i' _ => o = 5 ∧ kk = 74 ∧ i' = i + 1) σ τ ∧ ∀ u, u < 7 → τ.1 5 74 (i + 1) u = nI (jV A x c v F 5 u) := by
  have hnp := hk.1
  intro m
  induction m with
  | zero =>
    intro t fuel σ hs hf hm hx hv0 hr
    obtain ⟨f, rfl⟩ : ∃ f, fuel = f + 1 := ⟨fuel - 1, by omega⟩
    refine ⟨σ, ?_, fr.rf, fun u hu => ?_⟩
    · rw [lp_X8_findJourneys_45_100.eq_2]
      unfold lb_X8_findJourneys_45_100
      rw [hm.np, z2, nI_add, if_pos (pt (n_le_t (by omega) (by omega))), n_suc]
    · rw [hr u hu]
      have := jV_past (A := A) (x := x) (c := c) (v := v) (F := F) (k := t) (fun t' ht => eo_past (by omega)) (5 - t)
      rw [show t + (5 - t) = 5 by omega] at this
      rw [this]
  | succ m ih =>
    intro t fuel σ hs hf hm hx hv0 hr
    obtain ⟨f, rfl⟩ : ∃ f, fuel = f + 1 := ⟨fuel - 1, by omega⟩
    have hs5 : t < 5 := by omega
    have hle := jV_le (A := A) (x := x) (c := c) (v := v) hF t
    rw [lp_X8_findJourneys_45_100.eq_2]
    unfold lb_X8_findJourneys_45_100 jn_X8_findJourneys_45_191 jn_X8_findJourneys_45_192
    rw [hm.np, z2, nI_add, if_neg (nf (n_le_f (by omega) (by omega))), m_nextOf hm hk hv hs5, Option.bind_some]
    dsimp only
    rw [n_suc]
    have skip : jV A x c v F (t + 1) = jV A x c v F t → ∃ τ, lp_X8_findJourneys_45_100 K1 K f 5 5 s (nI n) (nI i) (nI v) (nI (t + 1)) σ = K 5 5 s (nI n) (nI i) (nI (v + 1)) τ ∧ fr (fun o kk i' _ => o = 5 ∧ kk = 74 ∧ i' = i + 1) σ τ ∧ ∀ u, u < 7 → τ.1 5 74 (i + 1) u = nI (jV A x c v F 5 u) := fun e => ih (t + 1) f σ (by omega) (by omega) hm hx hv0 (fun u hu => by rw [e]; exact hr u hu)
    cases e : eoN A v t with
    | none =>
      rw [if_pos (show oI none = (-1 : Int32) from rfl)]
      exact skip (jU_none e)
    | some u =>
      have hu := eo_lt hk e
      have hx1 := hle u
      rw [if_neg (show ¬ oI (some u) = (-1 : Int32) from oI_m (by omega)), show oI (some u) = nI u from rfl, n_in_t hi (by omega), cond_true, n_cl (by omega), hx, m_fits hu, Option.bind_some]
      dsimp only
      rw [bI_0]
      cases hf : fB x u
      · exact skip (jU_no e hf)
      · rw [cond_true, n_suc, n_in_t (show i + 1 < 41 by omega) (by omega), n_in_t hu (by omega), n_in_t (show i < 41 by omega) (by omega), n_in_t hv (by omega), cond_true, cond_true, cond_true, cond_true, cond_true, cond_true, cond_true, n_cl (by omega), n_cl (by omega), n_cl (by omega), hr u hu, hv0, nI_add, z106, i_le (by omega) (by omega)]
        have ejy : jV A x c v F (t + 1) = fun w => if w = u then (if jV A x c v F t u + c < 1000000 then jV A x c v F t u + c else 1000000) else jV A x c v F t w := jU_yes e hf
        have go : ∀ y, y = (if jV A x c v F t u + c < 1000000 then jV A x c v F t u + c else 1000000) → ∃ τ, lp_X8_findJourneys_45_100 K1 K f 5 5 s (nI n) (nI i) (nI v) (nI (t + 1)) (am_u σ 5 74 (i + 1) u (nI y)) = K 5 5 s (nI n) (nI i) (nI (v + 1)) τ ∧ fr (fun o kk i' _ => o = 5 ∧ kk = 74 ∧ i' = i + 1) σ τ ∧ ∀ u, u < 7 → τ.1 5 74 (i + 1) u = nI (jV A x c v F 5 u) := fun y hy => by
          obtain ⟨τ, g1, g2, g3⟩ := ih (t + 1) f (am_u σ 5 74 (i + 1) u (nI y)) (by omega) (by omega) ((fr.u (S := fun o kk _ _ => o = 5 ∧ kk = 74) ⟨rfl, rfl⟩).m1 (fun _ _ _ _ q => by omega) hm) hx (by rw [u_ne (by omega)]; exact hv0) (fun w hw => by
            rw [ejy]
            by_cases cw : w = u
            · subst cw
              rw [u_at, hy]
              dsimp only
              rw [if_pos rfl]
            · rw [u_ne (by omega)]
              dsimp only
              rw [if_neg cw]
              exact hr w hw)
          exact ⟨τ, g1, (fr.u ⟨rfl, rfl, rfl⟩).tr g2, g3⟩
        by_cases c1 : 1000000 ≤ jV A x c v F t u + c
        · rw [if_pos c1]
          exact go 1000000 (by rw [if_neg (by omega)])
        · rw [if_neg c1]
          exact go _ (by rw [if_pos (by omega)])
theorem m_90 {K1 : Nat → Nat → Nat → Int32 → Int32 → am_S → Option am_S} (hk : pu_k A) (hi : i < 40) (hC : ∀ w, C w ≤ 1000000) : ∀ (m v fuel : Nat) (σ : am_S), v + m = 7 → m < fuel → pu_m A 5 σ → σ.2 5 45 s i = x → (∀ u, u < 7 → σ.1 5 74 i u = nI (C u)) → (∀ u, u < 7 → σ.1 5 74 (i + 1) u = nI (jW A x C v u)) →
    ∃ τ, lp_X8_findJourneys_45_90 K1 fuel 5 5 s (nI n) (nI i) (nI v) σ = K1 5 5 s (nI n) (nI (i + 1)) τ ∧ fr (fun o kk i' _ => o = 5 ∧ kk = 74 ∧ i' = i + 1) σ τ ∧ ∀ u, u < 7 → τ.1 5 74 (i + 1) u = nI (jW A x C 7 u) := by
  have hnp := hk.1
  intro m
  induction m with
  | zero =>
    intro v fuel σ hs hf hm hx hr hr1
    obtain ⟨f, rfl⟩ : ∃ f, fuel = f + 1 := ⟨fuel - 1, by omega⟩
    obtain rfl : v = 7 := by omega
    refine ⟨σ, ?_, fr.rf, hr1⟩
    rw [lp_X8_findJourneys_45_90.eq_2]
    unfold lb_X8_findJourneys_45_90
    rw [if_pos (by decide), n_suc]
  | succ m ih =>
    intro v fuel σ hs hf hm hx hr hr1
    obtain ⟨f, rfl⟩ : ∃ f, fuel = f + 1 := ⟨fuel - 1, by omega⟩
    have hv : v < 7 := by omega
    obtain ⟨τ, e1, e2, e3⟩ := m_100 (s := s) (n := n) (K1 := K1) (K := lp_X8_findJourneys_45_90 K1 f) (x := x) (F := jW A x C v) hk hi hv (hC v) (jW_le v) (lnp A + 2) 0 1000 σ (by omega) (by omega) hm hx (hr v hv) hr1
    obtain ⟨ρ, d1, d2, d3⟩ := ih (v + 1) f τ (by omega) (by omega) (e2.m1 (fun _ _ _ _ q => by omega) hm) (by rw [(e2 5 45 s i (by omega)).2]; exact hx) (fun u hu => by rw [(e2 5 74 i u (by omega)).1]; exact hr u hu) e3
    refine ⟨ρ, ?_, e2.tr d2, d3⟩
    rw [← d1, ← e1]
    rw [lp_X8_findJourneys_45_90.eq_2]
    rw [lb_X8_findJourneys_45_90.eq_def, if_neg (show ¬ (7 : Int32) ≤ nI v from nf (n_le_f (a := 7) (b := v) hv (by omega)))]
    rfl
theorem m_81 (hk : pu_k A) (hn : n ≤ 40) : ∀ (m i fuel : Nat) (σ : am_S), i + m = n → m < fuel → pu_m A 5 σ → (∀ j, j < 40 → σ.2 5 45 s j = r j) → (∀ j, j ≤ n → ∀ u, u < 7 → σ.1 5 74 j u = nI (if j ≤ i then cN A r st j u else 0)) →
    ∃ τ, lp_X8_findJourneys_45_81 fuel 5 5 s (nI n) (nI i) σ = lp_X8_findJourneys_45_215 1000 5 5 s (pI n) τ ∧ fr (fun o kk _ _ => o = 5 ∧ kk = 74) σ τ ∧ ∀ j, j ≤ n → ∀ u, u < 7 → τ.1 5 74 j u = nI (cN A r st j u) := by
  intro m
  induction m with
  | zero =>
    intro i fuel σ hs hf hm hel hI
    obtain ⟨f, rfl⟩ : ∃ f, fuel = f + 1 := ⟨fuel - 1, by omega⟩
    obtain rfl : i = n := by omega
    refine ⟨σ, ?_, fr.rf, fun j hj u hu => by rw [hI j hj u hu, if_pos hj]⟩
    rw [lp_X8_findJourneys_45_81.eq_2]
    unfold lb_X8_findJourneys_45_81
    rw [if_pos (pt (n_le_t (by omega) (by omega)))]
    have : nI i - 1 = pI i := by
      cases i with
      | zero => rfl
      | succ i => rw [z1, n_sub (by omega), Nat.add_sub_cancel]; rfl
    rw [this]
  | succ m ih =>
    intro i fuel σ hs hf hm hel hI
    obtain ⟨f, rfl⟩ : ∃ f, fuel = f + 1 := ⟨fuel - 1, by omega⟩
    have hi : i < 40 := by omega
    obtain ⟨τ, e1, e2, e3⟩ := m_90 (s := s) (n := n) (K1 := lp_X8_findJourneys_45_81 f) (x := r i) (C := cN A r st i) hk hi (cN_le i) 7 0 1000 σ rfl (by decide) hm (hel i hi) (fun u hu => by rw [hI i (by omega) u hu, if_pos (Nat.le_refl _)]) (fun u hu => by rw [hI (i + 1) (by omega) u hu, if_neg (by omega)]; rfl)
    obtain ⟨ρ, d1, d2, d3⟩ := ih (i + 1) f τ (by omega) (by omega) (e2.m1 (fun _ _ _ _ q => by omega) hm) (fun j hj => by rw [(e2 5 45 s j (by omega)).2]; exact hel j hj) (fun j hj u hu => by
      by_cases c : j = i + 1
      · subst c
        rw [e3 u hu, if_pos (Nat.le_refl _)]
        rfl
      · rw [(e2 5 74 j u (by omega)).1, hI j hj u hu]
        by_cases d : j ≤ i
        · rw [if_pos d, if_pos (by omega)]
        · rw [if_neg d, if_neg (by omega)])
    refine ⟨ρ, ?_, (e2.mono fun o kk i' j q => ⟨q.1, q.2.1⟩).tr d2, d3⟩
    rw [← d1, ← e1]
    rw [lp_X8_findJourneys_45_81.eq_2]
    rw [lb_X8_findJourneys_45_81.eq_def, if_neg (nf (n_le_f (by omega) (by omega)))]
    rfl
theorem m_233 {K1 : Nat → Nat → Nat → Int32 → am_S → Option am_S} {K : Nat → Nat → Nat → Int32 → Int32 → am_S → Option am_S} (hk : pu_k A) (hi : i < 40) (hv : v < 7) : ∀ (m t fuel : Nat) (σ : am_S), t + m = lnp A + 2 → m < fuel → pu_m A 5 σ → σ.2 5 45 s i = x → σ.1 5 76 i v = bI (gaN A x G v t) → (∀ u, u < 7 → σ.1 5 76 (i + 1) u = bI (G u)) →
    ∃ τ, lp_X8_findJourneys_45_233 K1 K fuel 5 5 s (nI i) (nI v) (nI t) σ = K 5 5 s (nI i) (nI (v + 1)) τ ∧ fr (fun o kk i' j => o = 5 ∧ kk = 76 ∧ i' = i ∧ j = v) σ τ ∧ τ.1 5 76 i v = bI (gaN A x G v 5) := by
  have hnp := hk.1
  intro m
  induction m with
  | zero =>
    intro t fuel σ hs hf hm hx hv0 hr
    obtain ⟨f, rfl⟩ : ∃ f, fuel = f + 1 := ⟨fuel - 1, by omega⟩
    refine ⟨σ, ?_, fr.rf, ?_⟩
    · rw [lp_X8_findJourneys_45_233.eq_2]
      unfold lb_X8_findJourneys_45_233
      rw [hm.np, z2, nI_add, if_pos (pt (n_le_t (by omega) (by omega))), n_suc]
    · rw [hv0]
      have := ga_past (A := A) (x := x) (v := v) (G := G) (k := t) (fun t' ht => eo_past (by omega)) (5 - t)
      rw [show t + (5 - t) = 5 by omega] at this
      rw [this]
  | succ m ih =>
    intro t fuel σ hs hf hm hx hv0 hr
    obtain ⟨f, rfl⟩ : ∃ f, fuel = f + 1 := ⟨fuel - 1, by omega⟩
    have hs5 : t < 5 := by omega
    rw [lp_X8_findJourneys_45_233.eq_2]
    unfold lb_X8_findJourneys_45_233 jn_X8_findJourneys_45_302 jn_X8_findJourneys_45_303
    rw [hm.np, z2, nI_add, if_neg (nf (n_le_f (by omega) (by omega))), m_nextOf hm hk hv hs5, Option.bind_some]
    dsimp only
    rw [n_suc, n_in_t (show i < 41 by omega) (by omega), n_in_t hv (by omega)]
    simp only [cond_true]
    rw [n_cl (by omega), n_cl (by omega), hv0]
    have go : ∀ b, gaN A x G v (t + 1) = (gaN A x G v t || b) → ∃ τ, lp_X8_findJourneys_45_233 K1 K f 5 5 s (nI i) (nI v) (nI (t + 1)) (am_u σ 5 76 i v (vp_nar .boolean (bI (gaN A x G v t) ||| bI b))) = K 5 5 s (nI i) (nI (v + 1)) τ ∧ fr (fun o kk i' j => o = 5 ∧ kk = 76 ∧ i' = i ∧ j = v) σ τ ∧ τ.1 5 76 i v = bI (gaN A x G v 5) := fun b hb => by
      rw [nar_or, ← hb]
      obtain ⟨τ, g1, g2, g3⟩ := ih (t + 1) f (am_u σ 5 76 i v (bI (gaN A x G v (t + 1)))) (by omega) (by omega) ((fr.u (S := fun o kk _ _ => o = 5 ∧ kk = 76) ⟨rfl, rfl⟩).m1 (fun _ _ _ _ q => by omega) hm) hx u_at (fun u hu => by rw [u_ne (by omega)]; exact hr u hu)
      exact ⟨τ, g1, (fr.u ⟨rfl, rfl, rfl, rfl⟩).tr g2, g3⟩
    have eg : gaN A x G v (t + 1) = (gaN A x G v t || (match eoN A v t with
      | none => false
      | some u => fB x u && G u)) := rfl
    cases e : eoN A v t with
    | none =>
      rw [e] at eg
      rw [if_pos (show oI none = (-1 : Int32) from rfl)]
      exact go false eg
    | some u =>
      have hu := eo_lt hk e
      rw [e] at eg
      have eg : gaN A x G v (t + 1) = (gaN A x G v t || (fB x u && G u)) := eg
      rw [if_neg (show ¬ oI (some u) = (-1 : Int32) from oI_m (by omega)), show oI (some u) = nI u from rfl, n_in_t hi (by omega), cond_true, hx, m_fits hu, Option.bind_some]
      dsimp only
      rw [bI_0]
      cases hf : fB x u
      · rw [hf] at eg
        exact go false eg
      · rw [hf] at eg
        rw [cond_true, n_suc, n_in_t (show i + 1 < 41 by omega) (by omega), n_in_t hu (by omega), cond_true, cond_true, n_cl (by omega), n_cl (by omega), hr u hu, bI_0]
        cases hG : G u
        · rw [hG] at eg
          exact go false eg
        · rw [hG] at eg
          exact go true eg
theorem m_223 {K1 : Nat → Nat → Nat → Int32 → am_S → Option am_S} (hk : pu_k A) (hi : i < 40) : ∀ (m v fuel : Nat) (σ : am_S), v + m = 7 → m < fuel → pu_m A 5 σ → σ.2 5 45 s i = x → (∀ u, v ≤ u → u < 7 → σ.1 5 76 i u = bI false) → (∀ u, u < 7 → σ.1 5 76 (i + 1) u = bI (G u)) →
    ∃ τ, lp_X8_findJourneys_45_223 K1 fuel 5 5 s (nI i) (nI v) σ = K1 5 5 s (pI i) τ ∧ fr (fun o kk i' j => o = 5 ∧ kk = 76 ∧ i' = i ∧ v ≤ j) σ τ ∧ ∀ u, v ≤ u → u < 7 → τ.1 5 76 i u = bI (gaN A x G u 5) := by
  have hnp := hk.1
  intro m
  induction m with
  | zero =>
    intro v fuel σ hs hf hm hx hr hr1
    obtain ⟨f, rfl⟩ : ∃ f, fuel = f + 1 := ⟨fuel - 1, by omega⟩
    obtain rfl : v = 7 := by omega
    refine ⟨σ, ?_, fr.rf, fun u h1 h2 => by omega⟩
    rw [lp_X8_findJourneys_45_223.eq_2]
    unfold lb_X8_findJourneys_45_223
    rw [if_pos (by decide), pI_pre]
  | succ m ih =>
    intro v fuel σ hs hf hm hx hr hr1
    obtain ⟨f, rfl⟩ : ∃ f, fuel = f + 1 := ⟨fuel - 1, by omega⟩
    have hv : v < 7 := by omega
    obtain ⟨τ, e1, e2, e3⟩ := m_233 (s := s) (K1 := K1) (K := lp_X8_findJourneys_45_223 K1 f) (x := x) (G := G) hk hi hv (lnp A + 2) 0 1000 σ (by omega) (by omega) hm hx (hr v (Nat.le_refl _) hv) hr1
    obtain ⟨ρ, d1, d2, d3⟩ := ih (v + 1) f τ (by omega) (by omega) (e2.m1 (fun _ _ _ _ q => by omega) hm) (by rw [(e2 5 45 s i (by omega)).2]; exact hx) (fun u h1 h2 => by rw [(e2 5 76 i u (by omega)).1]; exact hr u (by omega) h2) (fun u hu => by rw [(e2 5 76 (i + 1) u (by omega)).1]; exact hr1 u hu)
    refine ⟨ρ, ?_, (e2.mono fun o kk i' j q => by omega).tr (d2.mono fun o kk i' j q => by omega), fun u h1 h2 => ?_⟩
    · rw [← d1, ← e1]
      rw [lp_X8_findJourneys_45_223.eq_2]
      rw [lb_X8_findJourneys_45_223.eq_def, if_neg (show ¬ (7 : Int32) ≤ nI v from nf (n_le_f (a := 7) (b := v) hv (by omega)))]
      rfl
    · by_cases c : u = v
      · subst c
        rw [(d2 5 76 i u (by omega)).1]
        exact e3
      · exact d3 u (by omega) h2
theorem m_215 (hk : pu_k A) (hn : n ≤ 40) : ∀ (m fuel : Nat) (σ : am_S), m ≤ n → m < fuel → pu_m A 5 σ → (∀ j, j < 40 → σ.2 5 45 s j = r j) → (∀ j, j ≤ n → ∀ u, u < 7 → σ.1 5 76 j u = bI (if m ≤ j then gM A r n (n - j) u else false)) →
    ∃ τ, lp_X8_findJourneys_45_215 fuel 5 5 s (pI m) σ = some τ ∧ fr (fun o kk _ _ => o = 5 ∧ kk = 76) σ τ ∧ ∀ j, j ≤ n → ∀ u, u < 7 → τ.1 5 76 j u = bI (gM A r n (n - j) u) := by
  intro m
  induction m with
  | zero =>
    intro fuel σ hs hf hm hel hI
    obtain ⟨f, rfl⟩ : ∃ f, fuel = f + 1 := ⟨fuel - 1, by omega⟩
    refine ⟨σ, ?_, fr.rf, fun j hj u hu => by rw [hI j hj u hu, if_pos (Nat.zero_le _)]⟩
    rw [lp_X8_findJourneys_45_215.eq_2]
    unfold lb_X8_findJourneys_45_215
    rw [if_pos (show pI 0 < 0 by decide)]
  | succ i ih =>
    intro fuel σ hs hf hm hel hI
    obtain ⟨f, rfl⟩ : ∃ f, fuel = f + 1 := ⟨fuel - 1, by omega⟩
    have hi : i < 40 := by omega
    obtain ⟨τ, e1, e2, e3⟩ := m_223 (s := s) (K1 := lp_X8_findJourneys_45_215 f) (x := r i) (G := gM A r n (n - (i + 1))) hk hi 7 0 1000 σ rfl (by decide) hm (hel i hi) (fun u h1 h2 => by rw [hI i (by omega) u h2, if_neg (by omega)]) (fun u hu => by rw [hI (i + 1) (by omega) u hu, if_pos (Nat.le_refl _)])
    have eg : ∀ u, gM A r n (n - i) u = gaN A (r i) (gM A r n (n - (i + 1))) u 5 := fun u => by
      rw [show n - i = (n - (i + 1)) + 1 by omega]
      show gaN A (r (n - (n - (i + 1) + 1))) (gM A r n (n - (i + 1))) u 5 = _
      rw [show n - (n - (i + 1) + 1) = i by omega]
    obtain ⟨ρ, d1, d2, d3⟩ := ih f τ (by omega) (by omega) (e2.m1 (fun _ _ _ _ q => by omega) hm) (fun j hj => by rw [(e2 5 45 s j (by omega)).2]; exact hel j hj) (fun j hj u hu => by
      by_cases c : j = i
      · subst c
        rw [e3 u (Nat.zero_le _) hu, if_pos (Nat.le_refl _), eg]
      · rw [(e2 5 76 j u (by omega)).1, hI j hj u hu]
        by_cases d : i + 1 ≤ j
        · rw [if_pos d, if_pos (by omega)]
        · rw [if_neg d, if_neg (by omega)])
    refine ⟨ρ, ?_, (e2.mono fun o kk i' j q => ⟨q.1, q.2.1⟩).tr d2, d3⟩
    rw [← d1, ← e1]
    rw [lp_X8_findJourneys_45_215.eq_2]
    rw [lb_X8_findJourneys_45_215.eq_def, show pI (i + 1) = nI i from rfl, if_neg (show ¬ nI i < (0 : Int32) from nf (n_lt0 (by omega)))]
    rfl
theorem m_find (hk : pu_k A) (hn : n ≤ 40) (hst : st < 7) (hm : pu_m A 5 σ) (hel : ∀ j, j < 40 → σ.2 5 45 s j = r j) : ∃ τ, fn_X8_findJourneys_45 5 5 s (nI n) (nI st) σ = some τ ∧ fr (fun o kk _ _ => o = 5 ∧ (kk = 74 ∨ kk = 76)) σ τ ∧ (∀ j, j ≤ n → ∀ u, u < 7 → τ.1 5 74 j u = nI (cN A r st j u)) ∧ ∀ j, j ≤ n → ∀ u, u < 7 → τ.1 5 76 j u = bI (gM A r n (n - j) u) := by
  obtain ⟨τ, e1, e2, e3⟩ := m_i3 (s := s) hn hst (n + 1) 0 1000 σ (by omega) (by omega) (fun j hj => absurd hj (Nat.not_lt_zero _))
  obtain ⟨ρ, d1, d2, d3⟩ := m_81 (st := st) (r := r) hk hn n 0 1000 τ (by omega) (by omega) (e2.m1 (fun _ _ _ _ q => by omega) hm) (fun j hj => by rw [(e2 5 45 s j (by omega)).2]; exact hel j hj) (fun j hj u hu => by
    rw [(e3 j hj u hu).1]
    by_cases c : j = 0
    · subst c
      rw [if_pos (Nat.le_refl _)]
      show _ = nI (if u = st then 1 else 0)
      by_cases d : u = st
      · rw [if_pos ⟨rfl, d⟩, if_pos d]
      · rw [if_neg (fun z => d z.2), if_neg d]
    · rw [if_neg (fun z => c z.1), if_neg (by omega)])
  have F := e2.tr (d2.mono (T := fun o kk _ _ => o = 5 ∧ (kk = 74 ∨ kk = 76)) fun o kk i j q => ⟨q.1, Or.inl q.2⟩)
  obtain ⟨θ, g1, g2, g3⟩ := m_215 (r := r) hk hn n 1000 ρ (Nat.le_refl _) (by omega) (F.m1 (fun _ _ _ _ q => by omega) hm) (fun j hj => by rw [(F 5 45 s j (by omega)).2]; exact hel j hj) (fun j hj u hu => by
    rw [(d2 5 76 j u (by omega)).1, (e3 j hj u hu).2]
    by_cases c : j = n
    · subst c
      rw [decide_eq_true rfl, if_pos (Nat.le_refl _), Nat.sub_self]
      rfl
    · rw [decide_eq_false c, if_neg (by omega)])
  refine ⟨θ, ?_, F.tr (g2.mono fun o kk i j q => ⟨q.1, Or.inr q.2⟩), fun j hj u hu => by rw [(g2 5 74 j u (by omega)).1]; exact d3 j hj u hu, g3⟩
  unfold fn_X8_findJourneys_45
  rw [z0, e1, d1, g1]
theorem sm_le6 (hF : ∀ w, F w ≤ 1000000) (k : Nat) : smN F k ≤ k * 1000000 := smN_le k (fun i _ => hF i)
theorem m_jTo (hk : k < 41) (hF : ∀ w, F w ≤ 1000000) (hr : ∀ u, u < 7 → σ.1 5 74 k u = nI (F u)) : ∀ (m v fuel : Nat), v + m = 7 → m < fuel → lp_X8_journeysTo_4 fuel 5 (nI k) (nI (smN F v)) (nI v) σ = some (nI (tmC F 7), σ) := by
  intro m
  induction m with
  | zero =>
    intro v fuel hs hf
    obtain ⟨f, rfl⟩ : ∃ f, fuel = f + 1 := ⟨fuel - 1, by omega⟩
    obtain rfl : v = 7 := by omega
    have h7 := sm_le6 hF 7
    rw [lp_X8_journeysTo_4.eq_2]
    unfold lb_X8_journeysTo_4
    rw [if_pos (by decide), z106, i_le (by omega) (by omega)]
    unfold tmC
    by_cases c : 1000000 ≤ smN F 7
    · rw [if_pos c, if_neg (by omega)]
    · rw [if_neg c, if_pos (by omega)]
  | succ m ih =>
    intro v fuel hs hf
    obtain ⟨f, rfl⟩ : ∃ f, fuel = f + 1 := ⟨fuel - 1, by omega⟩
    have hv : v < 7 := by omega
    refine Eq.trans ?_ (ih (v + 1) f (by omega) (by omega))
    rw [lp_X8_journeysTo_4.eq_2]
    unfold lb_X8_journeysTo_4
    rw [if_neg (show ¬ (7 : Int32) ≤ nI v from nf (n_le_f (a := 7) (b := v) hv (by omega))), n_in_t hk (by omega), n_in_t hv (by omega), cond_true, cond_true, n_cl (by omega), n_cl (by omega), hr v hv, nI_add, n_suc]
    rfl
theorem m_journeysTo (hk : k < 41) (hF : ∀ w, F w ≤ 1000000) (hr : ∀ u, u < 7 → σ.1 5 74 k u = nI (F u)) : fn_X8_journeysTo 5 (nI k) σ = some (nI (tmC F 7), σ) := m_jTo hk hF hr 7 0 1000 rfl (by decide)
theorem m_may (hk : k < 41) (hF : ∀ w, F w ≤ 1000000) (hr : ∀ u, u < 7 → σ.1 5 74 k u = nI (F u)) (hg : ∀ u, u < 7 → σ.1 5 76 k u = bI (G u)) : ∀ (m v fuel : Nat), v + m = 7 → m < fuel → lp_X8_maybeAt_4 fuel 5 (nI k) (nI (seN (fun u => decide (0 < F u) && G u) v)) (nI v) σ = some (nI (seN (fun u => decide (0 < F u) && G u) 7), σ) := by
  intro m
  induction m with
  | zero =>
    intro v fuel hs hf
    obtain ⟨f, rfl⟩ : ∃ f, fuel = f + 1 := ⟨fuel - 1, by omega⟩
    obtain rfl : v = 7 := by omega
    rw [lp_X8_maybeAt_4.eq_2]
    unfold lb_X8_maybeAt_4
    rw [if_pos (by decide)]
  | succ m ih =>
    intro v fuel hs hf
    obtain ⟨f, rfl⟩ : ∃ f, fuel = f + 1 := ⟨fuel - 1, by omega⟩
    have hv : v < 7 := by omega
    refine Eq.trans ?_ (ih (v + 1) f (by omega) (by omega))
    have h1 := hF v
    have h2 := (se_ok (P := fun u => decide (0 < F u) && G u) v (by omega)).1
    have e : seN (fun u => decide (0 < F u) && G u) (v + 1) = if (decide (0 < F v) && G v) = true then stN (seN (fun u => decide (0 < F u) && G u) v) v else seN (fun u => decide (0 < F u) && G u) v := rfl
    rw [lp_X8_maybeAt_4.eq_2]
    unfold lb_X8_maybeAt_4 jn_X8_maybeAt_39 jn_X8_maybeAt_40
    rw [if_neg (show ¬ (7 : Int32) ≤ nI v from nf (n_le_f (a := 7) (b := v) hv (by omega))), n_in_t hk (by omega), n_in_t hv (by omega), cond_true, cond_true, cond_true, cond_true, n_cl (by omega), n_cl (by omega), hr v hv, hg v hv, b_st h2 hv, bI_0, z0, or0, i_le (by omega) (by omega), n_suc, e]
    by_cases c : 0 < F v
    · rw [if_neg (by omega), decide_eq_true c, Bool.true_and]
      cases hG : G v
      · rw [if_neg (by decide)]; rfl
      · rw [if_pos rfl]; rfl
    · rw [if_pos (by omega), decide_eq_false c, Bool.false_and, if_neg (by decide)]
theorem m_maybeAt (hk : k < 41) (hF : ∀ w, F w ≤ 1000000) (hr : ∀ u, u < 7 → σ.1 5 74 k u = nI (F u)) (hg : ∀ u, u < 7 → σ.1 5 76 k u = bI (G u)) : fn_X8_maybeAt 5 (nI k) σ = some (nI (seN (fun u => decide (0 < F u) && G u) 7), σ) := m_may hk hF hr hg 7 0 1000 rfl (by decide)
theorem tm_0 : tmC F 7 = 0 ↔ seN (fun u => decide (0 < F u)) 7 = 0 := by
  rw [se_0]
  have key : ∀ k, smN F k = 0 ↔ ∀ u, u < k → F u = 0 := by
    intro k
    induction k with
    | zero => exact ⟨fun _ u hu => absurd hu (Nat.not_lt_zero _), fun _ => rfl⟩
    | succ k ih =>
      show smN F k + F k = 0 ↔ _
      constructor
      · intro h u hu
        by_cases c : u = k
        · rw [c]; omega
        · exact ih.mp (by omega) u (by omega)
      · intro h
        have h1 := ih.mpr (fun u hu => h u (by omega))
        have h2 := h k (by omega)
        omega
  have h7 : tmC F 7 = 0 ↔ smN F 7 = 0 := by
    unfold tmC
    split <;> omega
  rw [h7, key]
  constructor
  · intro h u hu
    exact decide_eq_false (by rw [h u hu]; omega)
  · intro h u hu
    have := of_decide_eq_false (h u hu)
    omega
theorem m_forged {C : Nat → Nat → Nat} (hn : n ≤ 40) (hF : ∀ j w, C j w ≤ 1000000) (hr : ∀ j, j ≤ n → ∀ u, u < 7 → σ.1 5 74 j u = nI (C j u)) : ∀ (m i fuel : Nat), i + m = n → m < fuel → lp_X8_forged_2 fuel 5 (nI n) (nI i) σ = some (oI (fgN C m i), σ) := by
  intro m
  induction m with
  | zero =>
    intro i fuel hs hf
    obtain ⟨f, rfl⟩ : ∃ f, fuel = f + 1 := ⟨fuel - 1, by omega⟩
    rw [lp_X8_forged_2.eq_2]
    unfold lb_X8_forged_2
    rw [if_pos (pt (n_le_t (by omega) (by omega)))]
    rfl
  | succ m ih =>
    intro i fuel hs hf
    obtain ⟨f, rfl⟩ : ∃ f, fuel = f + 1 := ⟨fuel - 1, by omega⟩
    have h2 : tmC (C (i + 1)) 7 ≤ 1000000 := by unfold tmC; split <;> omega
    rw [lp_X8_forged_2.eq_2]
    unfold lb_X8_forged_2
    rw [if_neg (nf (n_le_f (by omega) (by omega))), n_suc, m_journeysTo (by omega) (hF (i + 1)) (hr (i + 1) (by omega)), Option.bind_some]
    dsimp only
    rw [z0, i_eq (by omega) (by omega)]
    show _ = some (oI (if seN (fun u => decide (0 < C (i + 1) u)) 7 = 0 then some i else fgN C m (i + 1)), σ)
    by_cases c : seN (fun u => decide (0 < C (i + 1) u)) 7 = 0
    · rw [if_pos (tm_0.mpr c), if_pos c]
      rfl
    · rw [if_neg (fun q => c (tm_0.mp q)), if_neg c]
      exact ih (i + 1) f (by omega) (by omega)
theorem m_sure (hk : pu_k A) (hn : n ≤ 40) (hel : ∀ j, j < 40 → σ.2 5 45 s j = r j) (hr : ∀ j, j ≤ n → ∀ u, u < 7 → σ.1 5 74 j u = nI (cN A r st j u)) (hg : ∀ j, j ≤ n → ∀ u, u < 7 → σ.1 5 76 j u = bI (gM A r n (n - j) u)) : ∀ (m i fuel : Nat), i + m = n → m < fuel → lp_X8_sure_45_5 fuel 5 5 s (nI n) (nI (smN (suP A r st n) i)) (nI i) σ = some (nI (smN (suP A r st n) n), σ) := by
  intro m
  induction m with
  | zero =>
    intro i fuel hs hf
    obtain ⟨f, rfl⟩ : ∃ f, fuel = f + 1 := ⟨fuel - 1, by omega⟩
    obtain rfl : i = n := by omega
    rw [lp_X8_sure_45_5.eq_2]
    unfold lb_X8_sure_45_5
    rw [if_pos (pt (n_le_t (by omega) (by omega)))]
  | succ m ih =>
    intro i fuel hs hf
    obtain ⟨f, rfl⟩ : ∃ f, fuel = f + 1 := ⟨fuel - 1, by omega⟩
    have hmb : mbN A r st n (i + 1) < 128 := (se_ok 7 (Nat.le_refl _)).1
    have go := ih (i + 1) f (by omega) (by omega)
    have es : smN (suP A r st n) (i + 1) = smN (suP A r st n) i + suP A r st n i := rfl
    rw [es] at go
    have hmay : fn_X8_maybeAt 5 (nI (i + 1)) σ = some (nI (mbN A r st n (i + 1)), σ) := m_maybeAt (by omega) (cN_le (i + 1)) (hr (i + 1) (by omega)) (hg (i + 1) (by omega))
    have hone := b_one hmb
    rw [lp_X8_sure_45_5.eq_2]
    unfold lb_X8_sure_45_5 jn_X8_sure_45_52 jn_X8_sure_45_53
    rw [if_neg (nf (n_le_f (by omega) (by omega))), n_suc, hmay, Option.bind_some]
    dsimp only
    rw [n_in_t (show i < 40 by omega) (by omega), cond_true, n_cl (by omega), hel i (by omega), i_lgeq, l_m1, n_suc, z0, nI_add]
    by_cases q1 : (r i).toInt = -1
    · rw [if_pos q1]
      by_cases q2 : mbN A r st n (i + 1) = 0
      · rw [if_pos (show nI (mbN A r st n (i + 1)) = nI 0 by rw [q2])]
        have eu : suP A r st n i = 0 := if_neg (fun z => by
          have z2 := z.2
          rw [q2, pc_00] at z2
          omega)
        rw [eu] at go
        exact go
      · rw [if_neg (nf (n_eq_f q2 (by omega) (by decide)))]
        rw [decide_eq_false q2, Bool.not_false, Bool.true_and] at hone
        by_cases q3 : nI (mbN A r st n (i + 1)) &&& (nI (mbN A r st n (i + 1)) - 1) = 0
        · rw [decide_eq_true q3] at hone
          have eu : suP A r st n i = 1 := if_pos ⟨q1, of_decide_eq_true hone⟩
          rw [eu] at go
          rw [if_pos (show nI (mbN A r st n (i + 1)) &&& (nI (mbN A r st n (i + 1)) - 1) = nI 0 from q3)]
          exact go
        · rw [decide_eq_false q3] at hone
          have eu : suP A r st n i = 0 := if_neg (fun z => of_decide_eq_false hone z.2)
          rw [eu] at go
          rw [if_neg (show ¬ nI (mbN A r st n (i + 1)) &&& (nI (mbN A r st n (i + 1)) - 1) = nI 0 from q3)]
          exact go
    · have eu : suP A r st n i = 0 := if_neg (fun z => q1 z.1)
      rw [eu] at go
      rw [if_neg q1]
      exact go
/-! stamps that may be -/
def sB (x : Int64) : Bool := decide (-1 ≤ x.toInt ∧ x.toInt ≤ 6)
theorem c_elem {t z j : Nat} (hs : s < 8) (h : sh1 σ s t z) (hj : j < z) : fn_X2_elementAt (nI s) (nI j) σ = some (σ.2 10 13 s j, σ) := by
  have hz := h.2.1
  unfold fn_X2_elementAt
  rw [c_hasE1 hs h, gL_nI (by omega), decide_eq_true hj, Option.bind_some]
  dsimp only
  rw [if_neg (show ¬ (cond true (nI 1) (nI 0) = 0) by decide), n_in_t hs (by omega), n_in_t (show j < 40 by omega) (by omega), cond_true, cond_true, n_cl (by omega), n_cl (by omega)]
theorem c_as1 {t z : Nat} (hs : s < 8) (h : sh1 σ s t z) (hn : n ≤ z) (hr : ∀ j, j < 40 → σ.2 10 13 s j = r j) (hg : ∀ j, j < n → sB (r j) = true) : ∀ (m i fuel : Nat), i + m = n → m < fuel → lp_X7_areStamps_2 fuel (nI s) (nI n) (nI i) σ = some (1, σ) := by
  have hz := h.2.1
  intro m
  induction m with
  | zero =>
    intro i fuel hi hf
    obtain ⟨f, rfl⟩ : ∃ f, fuel = f + 1 := ⟨fuel - 1, by omega⟩
    rw [lp_X7_areStamps_2.eq_2]
    unfold lb_X7_areStamps_2
    rw [if_pos (pt (n_le_t (by omega) (by omega)))]
  | succ m ih =>
    intro i fuel hi hf
    obtain ⟨f, rfl⟩ : ∃ f, fuel = f + 1 := ⟨fuel - 1, by omega⟩
    have q := of_decide_eq_true (hg i (by omega))
    rw [lp_X7_areStamps_2.eq_2]
    unfold lb_X7_areStamps_2
    rw [if_neg (nf (n_le_f (by omega) (by omega))), c_elem hs h (by omega), Option.bind_some]
    dsimp only
    rw [hr i (by omega), i_lglt, i_lglt, l_m1, show (7 : Int64).toInt = 7 from rfl, if_neg (by omega), if_pos (by omega), n_suc]
    exact ih (i + 1) f (by omega) (by omega)
theorem c_as0 {t z : Nat} (hs : s < 8) (h : sh1 σ s t z) (hn : n ≤ z) (hr : ∀ j, j < 40 → σ.2 10 13 s j = r j) : ∀ (m i fuel : Nat), i + m = n → m < fuel → (∃ j, i ≤ j ∧ j < n ∧ sB (r j) = false) → lp_X7_areStamps_2 fuel (nI s) (nI n) (nI i) σ = some (0, σ) := by
  have hz := h.2.1
  intro m
  induction m with
  | zero =>
    rintro i fuel hi hf ⟨j, h1, h2, -⟩
    omega
  | succ m ih =>
    rintro i fuel hi hf ⟨j, h1, h2, h3⟩
    obtain ⟨f, rfl⟩ : ∃ f, fuel = f + 1 := ⟨fuel - 1, by omega⟩
    rw [lp_X7_areStamps_2.eq_2]
    unfold lb_X7_areStamps_2
    rw [if_neg (nf (n_le_f (by omega) (by omega))), c_elem hs h (by omega), Option.bind_some]
    dsimp only
    rw [hr i (by omega), i_lglt, i_lglt, l_m1, show (7 : Int64).toInt = 7 from rfl, n_suc]
    cases hb : sB (r i)
    · have q := of_decide_eq_false hb
      by_cases c : (r i).toInt < -1
      · rw [if_pos c]
      · rw [if_neg c, if_neg (by omega)]
    · have q := of_decide_eq_true hb
      rw [if_neg (by omega), if_pos (by omega)]
      have hji : j ≠ i := fun z => by rw [z, hb] at h3; cases h3
      exact ih (i + 1) f (by omega) (by omega) ⟨j, by omega, h2, h3⟩
theorem m_valL : fn_X8_isValley x σ = some (if 0 ≤ x.toInt ∧ x.toInt ≤ 6 then 1 else 0, σ) := by
  unfold fn_X8_isValley
  rw [m_in64, Option.bind_some, show (0 : Int64).toInt = 0 from rfl, show (6 : Int64).toInt = 6 from rfl]
  by_cases c : 0 ≤ x.toInt ∧ x.toInt ≤ 6
  · rw [if_pos c]; rfl
  · rw [if_neg c]; rfl
theorem m_871 {a3 a4 : Int32} (hs : s < 8) (hn : n ≤ 40) (hr : ∀ j, j < 40 → σ.2 5 45 s j = r j) (hg : ∀ j, j < n → sB (r j) = true) : ∀ (m i fuel : Nat), i + m = n → m < fuel → lp_X8_journeys_87 fuel 5 (nI s) (nI n) a3 a4 (nI i) σ = lb_X8_journeys_87 (fun _ _ _ _ _ _ _ => none) 5 (nI s) (nI n) a3 a4 (nI n) σ := by
  intro m
  induction m with
  | zero =>
    intro i fuel hi hf
    obtain ⟨f, rfl⟩ : ∃ f, fuel = f + 1 := ⟨fuel - 1, by omega⟩
    obtain rfl : i = n := by omega
    rw [lp_X8_journeys_87.eq_2]
    unfold lb_X8_journeys_87
    rw [if_pos (pt (n_le_t (by omega) (by omega))), if_pos (pt (n_le_t (by omega) (by omega)))]
  | succ m ih =>
    intro i fuel hi hf
    obtain ⟨f, rfl⟩ : ∃ f, fuel = f + 1 := ⟨fuel - 1, by omega⟩
    have q := of_decide_eq_true (hg i (by omega))
    rw [← ih (i + 1) f (by omega) (by omega), lp_X8_journeys_87.eq_2]
    rw [lb_X8_journeys_87.eq_def]
    unfold jn_X8_journeys_131
    rw [if_neg (nf (n_le_f (by omega) (by omega))), n_in_t hs (by omega), n_in_t (show i < 40 by omega) (by omega), cond_true, cond_true, cond_true, cond_true, n_cl (by omega), n_cl (by omega), hr i (by omega), i_lgeq, l_m1, n_suc, m_valL, Option.bind_some]
    dsimp only
    by_cases c : (r i).toInt = -1
    · rw [if_pos c]
    · rw [if_neg c, if_pos (show 0 ≤ (r i).toInt ∧ (r i).toInt ≤ 6 by omega), if_neg (by decide)]
theorem m_870 {a3 a4 : Int32} (hs : s < 8) (hn : n ≤ 40) (hr : ∀ j, j < 40 → σ.2 5 45 s j = r j) : ∀ (m i fuel : Nat), i + m = n → m < fuel → (∃ j, i ≤ j ∧ j < n ∧ sB (r j) = false) → lp_X8_journeys_87 fuel 5 (nI s) (nI n) a3 a4 (nI i) σ = fn_X8_refuse 5 (-nI 5) σ := by
  intro m
  induction m with
  | zero =>
    rintro i fuel hi hf ⟨j, h1, h2, -⟩
    omega
  | succ m ih =>
    rintro i fuel hi hf ⟨j, h1, h2, h3⟩
    obtain ⟨f, rfl⟩ : ∃ f, fuel = f + 1 := ⟨fuel - 1, by omega⟩
    rw [lp_X8_journeys_87.eq_2]
    rw [lb_X8_journeys_87.eq_def]
    unfold jn_X8_journeys_131
    rw [if_neg (nf (n_le_f (by omega) (by omega))), n_in_t hs (by omega), n_in_t (show i < 40 by omega) (by omega), cond_true, cond_true, cond_true, cond_true, n_cl (by omega), n_cl (by omega), hr i (by omega), i_lgeq, l_m1, n_suc, m_valL, Option.bind_some]
    dsimp only
    cases hb : sB (r i)
    · have q := of_decide_eq_false hb
      rw [if_neg (show ¬ (r i).toInt = -1 by omega), if_neg (show ¬ (0 ≤ (r i).toInt ∧ (r i).toInt ≤ 6) by omega), if_pos rfl]
      exact g_eta _
    · have q := of_decide_eq_true hb
      have hji : j ≠ i := fun z => by rw [z, hb] at h3; cases h3
      have go := ih (i + 1) f (by omega) (by omega) ⟨j, by omega, h2, h3⟩
      by_cases c : (r i).toInt = -1
      · rw [if_pos c]; exact go
      · rw [if_neg c, if_pos (show 0 ≤ (r i).toInt ∧ (r i).toInt ≤ 6 by omega), if_neg (by decide)]
        exact go
/-- what is answered -/
def jyN (A : pu_L) (r : Nat → Int64) (st n w : Nat) : Int32 := if w = 0 then nI (tmC (cN A r st n) 7) else if w = 1 then nI (mbN A r st n n) else if w = 2 then oI (fgN (cN A r st) n 0) else nI (smN (suP A r st n) n)
def okJ (a1 a2 a3 a4 : Int32) : Bool := gN 0 7 a1 && (gN 0 40 a2 && (gN 0 6 a3 && gN 0 3 a4))
theorem m_jy0 {a1 a2 a3 a4 : Int32} (h : okJ a1 a2 a3 a4 = false) : fn_X8_journeys 5 a1 a2 a3 a4 σ = fn_X8_refuse 5 (-nI 2) σ := by
  unfold okJ at h
  unfold fn_X8_journeys jn_X8_journeys_45
  rw [m_in_0_7, Option.bind_some]
  cases h1 : gN 0 7 a1
  · exact g_eta (fn_X8_refuse 5 (-nI 2) σ)
  · rw [h1, Bool.true_and] at h
    dsimp only
    rw [if_neg (show ¬ (cond true (nI 1) (nI 0) = 0) by decide), m_in_0_40, Option.bind_some]
    cases h2 : gN 0 40 a2
    · exact g_eta (fn_X8_refuse 5 (-nI 2) σ)
    · rw [h2, Bool.true_and] at h
      dsimp only
      rw [if_neg (show ¬ (cond true (nI 1) (nI 0) = 0) by decide), m_gvalley, Option.bind_some]
      cases h3 : gN 0 6 a3
      · exact g_eta (fn_X8_refuse 5 (-nI 2) σ)
      · rw [h3, Bool.true_and] at h
        dsimp only
        rw [if_neg (show ¬ (cond true (nI 1) (nI 0) = 0) by decide), m_in_0_3, Option.bind_some, h]
        exact g_eta (fn_X8_refuse 5 (-nI 2) σ)
theorem m_jy1 {a1 a2 a3 a4 : Int32} (h : okJ a1 a2 a3 a4 = true) : fn_X8_journeys 5 a1 a2 a3 a4 σ = (fn_X8_noRow 5 a1 σ).bind fun q11 => (if q11.1 = 0 then (bif am_in a1 8 then (if a2 ≤ (q11.2.1 5 43 0 ((a1 : Int32).toNatClampNeg)) then lp_X8_journeys_87 1000 5 a1 a2 a3 a4 0 q11.2 else (fn_X8_refuse 5 (-2) q11.2).bind fun q40 => some (q40.1, q40.2)) else none) else some (q11.1, q11.2)) := by
  unfold okJ at h
  simp only [Bool.and_eq_true] at h
  obtain ⟨h1, h2, h3, h4⟩ := h
  unfold fn_X8_journeys
  rw [m_in_0_7, Option.bind_some, h1]
  dsimp only
  rw [if_neg (show ¬ (cond true (nI 1) (nI 0) = 0) by decide), m_in_0_40, Option.bind_some, h2]
  dsimp only
  rw [if_neg (show ¬ (cond true (nI 1) (nI 0) = 0) by decide), m_gvalley, Option.bind_some, h3]
  dsimp only
  rw [if_neg (show ¬ (cond true (nI 1) (nI 0) = 0) by decide), m_in_0_3, Option.bind_some, h4]
  dsimp only
  rw [if_neg (show ¬ (cond true (nI 1) (nI 0) = 0) by decide)]
end PJR
theorem pv_journeys (a1 : Int32) (a2 : Int32) (a3 : Int32) (a4 : Int32) (σ : am_S) (hI : pu_Inv σ) : ∃ (r : Int32) (σ1 σ2 : am_S), fn_X7_journeys a1 a2 a3 a4 σ = some (r, σ1) ∧ fn_X8_journeys 5 a1 a2 a3 a4 σ1 = some (r, σ2) ∧ pu_Inv σ2 := by
  obtain ⟨A, hI⟩ := hI
  have hk := hI.1.1
  have hm := hI.1.2.2.1
  have hne := hk.2.1
  have hnp := hk.1
  have hc := hI.1.2.1
  cases hB : okJ a1 a2 a3 a4
  · refine pv_t hI 0 (by decide) ?_ (fun σ1 hJ hF => m_jy0 hB)
    unfold okJ at hB
    unfold fn_X7_journeys jn_X7_journeys_17
    rw [c_gvalley, Option.bind_some]
    cases h3 : gN 0 6 a3
    · exact g_eta (fn_X7_refuse (-nI 2) σ)
    · dsimp only
      rw [if_neg (show ¬ (cond true (nI 1) (nI 0) = 0) by decide), z0, z3, c_within (by decide) (by decide), Option.bind_some]
      cases h4 : gN 0 3 a4
      · exact g_eta (fn_X7_refuse (-nI 2) σ)
      · rw [h3, h4, Bool.and_self, Bool.and_true] at hB
        have e : fn_X7_refusalOfElements a1 a2 σ = some (-nI 2, σ) := by
          unfold fn_X7_refusalOfElements
          rw [c_gshelf, Option.bind_some]
          cases h1 : gN 0 7 a1
          · rfl
          · rw [h1, Bool.true_and] at hB
            dsimp only
            rw [if_neg (show ¬ (cond true (nI 1) (nI 0) = 0) by decide), z0, z40, c_within (by decide) (by decide), Option.bind_some, hB]
            rfl
        dsimp only
        rw [if_neg (show ¬ (cond true (nI 1) (nI 0) = nI 0) by decide), e, Option.bind_some]
        dsimp only
        rw [if_neg (by decide)]
        unfold jn_X7_journeys_50
        rw [if_neg (by decide)]
        exact g_eta _
  have hB' := hB
  unfold okJ at hB
  simp only [Bool.and_eq_true] at hB
  obtain ⟨h1, h2, h3, h4⟩ := hB
  obtain ⟨s, rfl, -, hs⟩ := gN_n h1
  obtain ⟨n, rfl, -, hn⟩ := gN_n h2
  obtain ⟨st, rfl, -, hst⟩ := gN_n h3
  obtain ⟨w, rfl, -, hw⟩ := gN_n h4
  have hs8 : s < 8 := by omega
  have hst7 : st < 7 := by omega
  have e7 : fn_X7_journeys (nI s) (nI n) (nI st) (nI w) σ = (fn_X2_refusalOfRow (nI s) σ).bind fun q5 => ((if q5.1 = 0 then (bif am_in (nI s) 8 then (if nI n ≤ (q5.2.1 10 11 0 ((nI s : Int32).toNatClampNeg)) then some (q5.1, q5.2) else some ((-2), q5.2)) else none) else some (q5.1, q5.2)) : Option (Int32 × am_S)).bind fun q7 => (if q7.1 = 0 then (fn_X7_areStamps (nI s) (nI n) q7.2).bind fun q27 => (if q27.1 = 0 then jn_X7_journeys_50 (nI s) (nI n) (nI st) (nI w) (-5) q27.2 else jn_X7_journeys_50 (nI s) (nI n) (nI st) (nI w) q7.1 q27.2) else jn_X7_journeys_50 (nI s) (nI n) (nI st) (nI w) q7.1 q7.2) := by
    unfold fn_X7_journeys
    rw [c_gvalley, Option.bind_some, h3]
    dsimp only
    rw [if_neg (show ¬ (cond true (nI 1) (nI 0) = 0) by decide), z0, z3, c_within (by decide) (by decide), Option.bind_some, h4]
    dsimp only
    rw [if_neg (show ¬ (cond true (nI 1) (nI 0) = nI 0) by decide)]
    unfold fn_X7_refusalOfElements
    rw [c_gshelf, Option.bind_some, h1]
    dsimp only
    rw [if_neg (show ¬ (cond true (nI 1) (nI 0) = 0) by decide), z0, z40, c_within (by decide) (by decide), Option.bind_some, h2]
    dsimp only
    rw [if_neg (show ¬ (cond true (nI 1) (nI 0) = nI 0) by decide), Option.bind_assoc]
  have ref : ∀ k, k < 5 → jn_X7_journeys_50 (nI s) (nI n) (nI st) (nI w) (-nI (k + 2)) σ = fn_X7_refuse (-nI (k + 2)) σ := fun k hk5 => by
    unfold jn_X7_journeys_50
    rw [if_neg (show ¬ -nI (k + 2) = (0 : Int32) from fun q => cast (n_mz (by omega) (by omega)) q)]
    exact g_eta _
  rcases pu_s1_of.mp (hI.1.2.2.2.2.2.2 s hs8) with c | ⟨t, z, c⟩ | ⟨q, c⟩
  · refine pv_t hI 2 (by decide) ?_ (fun τ hJ hF => ?_)
    · rw [e7, c_refR0 hs8 c, Option.bind_some]
      dsimp only
      rw [if_neg (by decide), Option.bind_some]
      dsimp only
      rw [if_neg (by decide)]
      exact ref 2 (by decide)
    · have d := hF.s0J c
      rw [m_jy1 hB', m_noRow hs8, d.2, if_neg (by decide), if_pos (show nI 0 = (0 : Int32) from rfl)]
      exact m_eqr (k := 2) (by decide) (fun q => rfl)
  rotate_left 1
  · refine pv_t hI 1 (by decide) ?_ (fun τ hJ hF => ?_)
    · rw [e7, c_refR2 hk hs8 c, Option.bind_some]
      dsimp only
      rw [if_neg (by decide), Option.bind_some]
      dsimp only
      rw [if_neg (by decide)]
      exact ref 1 (by decide)
    · have d := hF.s2J c
      rw [m_jy1 hB', m_noRow hs8, d.2.2.1, if_pos (show nI 2 = (2 : Int32) from rfl)]
      exact m_eqr (k := 1) (by decide) (fun q => rfl)
  obtain ⟨c1, c2, c3, c4, c5, c6, c7, c8⟩ := id c
  by_cases hz : n ≤ z
  rotate_left 1
  · refine pv_t hI 0 (by decide) ?_ (fun τ hJ hF => ?_)
    · rw [e7, c_refR1 hs8 c, Option.bind_some]
      dsimp only
      rw [if_pos (show nI 0 = (0 : Int32) from rfl), n_in_t hs8 (by omega), cond_true, n_cl (by omega), c4, if_neg (nf (n_le_f (by omega) (by omega))), Option.bind_some]
      dsimp only
      rw [if_neg (by decide)]
      exact ref 0 (by decide)
    · have d := hF.s1J c
      rw [m_jy1 hB', m_noRow hs8, d.2.2.2.2.1, if_neg (by decide), if_neg (by decide), Option.bind_some]
      dsimp only
      rw [if_pos (show nI 0 = (0 : Int32) from rfl), n_in_t hs8 (by omega), cond_true, n_cl (by omega), d.2.2.2.2.2.2.1, if_neg (nf (n_le_f (by omega) (by omega)))]
      exact g_eta _
  have f7 : fn_X7_journeys (nI s) (nI n) (nI st) (nI w) σ = (fn_X7_areStamps (nI s) (nI n) σ).bind fun q27 => (if q27.1 = 0 then jn_X7_journeys_50 (nI s) (nI n) (nI st) (nI w) (-5) q27.2 else jn_X7_journeys_50 (nI s) (nI n) (nI st) (nI w) (nI 0) q27.2) := by
    rw [e7, c_refR1 hs8 c, Option.bind_some]
    dsimp only
    rw [if_pos (show nI 0 = (0 : Int32) from rfl), n_in_t hs8 (by omega), cond_true, n_cl (by omega), c4, if_pos (pt (n_le_t hz (by omega))), Option.bind_some]
    dsimp only
    rw [if_pos (show nI 0 = (0 : Int32) from rfl)]
  have f8 : ∀ τ, sh1 τ s t z → fn_X8_journeys 5 (nI s) (nI n) (nI st) (nI w) τ = lp_X8_journeys_87 1000 5 (nI s) (nI n) (nI st) (nI w) 0 τ := fun τ d => by
    rw [m_jy1 hB', m_noRow hs8, d.2.2.2.2.1, if_neg (by decide), if_neg (by decide), Option.bind_some]
    dsimp only
    rw [if_pos (show nI 0 = (0 : Int32) from rfl), n_in_t hs8 (by omega), cond_true, n_cl (by omega), d.2.2.2.2.2.2.1, if_pos (pt (n_le_t hz (by omega)))]
  have hel : ∀ τ, fr SJ σ τ → ∀ j, j < 40 → τ.2 5 45 s j = σ.2 10 13 s j := fun τ hF j hj => by
    rw [(hF 5 45 s j (by unfold SJ SX; omega)).2]
    exact (c8 j hj).symm
  by_cases hg : ∀ j, j < n → sB (σ.2 10 13 s j) = true
  rotate_left 1
  · have hbad : ∃ j, 0 ≤ j ∧ j < n ∧ sB (σ.2 10 13 s j) = false := by
      refine Classical.byContradiction fun q => hg fun j hj => ?_
      cases hb : sB (σ.2 10 13 s j)
      · exact absurd ⟨j, Nat.zero_le _, hj, hb⟩ q
      · rfl
    refine pv_t hI 3 (by decide) ?_ (fun τ hJ hF => ?_)
    · have e := c_as0 (σ := σ) (r := σ.2 10 13 s) hs8 c hz (fun _ _ => rfl) n 0 1000 (by omega) (by omega) hbad
      have e : fn_X7_areStamps (nI s) (nI n) σ = some (0, σ) := e
      rw [f7, e, Option.bind_some]
      dsimp only
      rw [if_pos rfl]
      exact ref 3 (by decide)
    · have e := m_870 (σ := τ) (r := σ.2 10 13 s) (a3 := nI st) (a4 := nI w) hs8 hn (hel τ hF) n 0 1000 (by omega) (by omega) hbad
      rw [f8 τ (hF.s1J c)]
      exact e
  · refine pv_qw hI (r := jyN A (σ.2 10 13 s) st n w) ?_ (fun σ1 hI1 hF => ?_)
    · have e := c_as1 (σ := σ) (r := σ.2 10 13 s) hs8 c hz (fun _ _ => rfl) hg n 0 1000 (by omega) (by omega)
      have e : fn_X7_areStamps (nI s) (nI n) σ = some (1, σ) := e
      obtain ⟨τ, g1, g2, g3, g4⟩ := c_follow (s := s) (r := σ.2 10 13 s) hk hn hst7 hc (fun _ _ => rfl)
      have hel7 : ∀ j, j < 40 → τ.2 10 13 s j = σ.2 10 13 s j := fun j hj => (g2 10 13 s j (by omega)).2
      refine ⟨τ, ?_, g2.mono fun o k i j q => by unfold SX; omega⟩
      rw [f7, e, Option.bind_some]
      dsimp only
      rw [if_neg (by decide)]
      unfold jn_X7_journeys_50
      have hw4 : w < 4 := by omega
      rw [if_pos (show nI 0 = (0 : Int32) from rfl), n_in_t hs8 (by omega)]
      simp only [cond_true]
      rw [n_cl (by omega), g1, Option.bind_some]
      unfold jyN
      rcases (show w = 0 ∨ w = 1 ∨ w = 2 ∨ w = 3 by omega) with rfl | rfl | rfl | rfl
      · have e9 : fn_X3_howMany (nI n) τ = some (nI (tmC (cN A (σ.2 10 13 s) st n) 7), τ) := c_howMany (by omega) (cN_le n) (g4 n (Nat.le_refl _)) 7 0 1000 rfl (by decide)
        rw [if_pos (show nI 0 = (0 : Int32) from rfl), e9]
        rfl
      · rw [if_neg (show ¬ nI 1 = (0 : Int32) by decide), if_pos (show nI 1 = (1 : Int32) from rfl), c_comeTo (by omega) (cN_le n) (g4 n (Nat.le_refl _)), mb_n]
        rfl
      · have e9 : fn_X3_forged (nI n) τ = some (oI (fgN (cN A (σ.2 10 13 s) st) n 0), τ) := c_forged hn (fun j => cN_le j) g4 n 0 1000 (by omega) (by omega)
        rw [if_neg (show ¬ nI 2 = (0 : Int32) by decide), if_neg (show ¬ nI 2 = (1 : Int32) by decide), if_pos (show nI 2 = (2 : Int32) from rfl), e9]
        rfl
      · have e9 : fn_X3_howManySure_13 1 s (nI n) τ = some (nI (smN (suP A (σ.2 10 13 s) st n) n), τ) := by
          unfold fn_X3_howManySure_13
          rw [c_comeTo (by omega) (cN_le n) (g4 n (Nat.le_refl _)), ← mb_n, Option.bind_some]
          exact c_sure hk hn g3 hel7 g4 n 0 1000 (Nat.le_refl _) (by omega) (Nat.zero_add _)
        rw [if_neg (show ¬ nI 3 = (0 : Int32) by decide), if_neg (show ¬ nI 3 = (1 : Int32) by decide), if_neg (show ¬ nI 3 = (2 : Int32) by decide), e9]
        rfl
    · have hm1 := hI1.1.2.2.1
      have hel1 := hel σ1 (hF.mono SX_J)
      obtain ⟨τ, g1, g2, g3, g4⟩ := m_find (s := s) (st := st) (r := σ.2 10 13 s) hk hn hst7 hm1 hel1
      have hel8 : ∀ j, j < 40 → τ.2 5 45 s j = σ.2 10 13 s j := fun j hj => by rw [(g2 5 45 s j (by omega)).2]; exact hel1 j hj
      have gX : fr SX σ1 τ := g2.mono fun o k i j q => by unfold SX; omega
      have hw4 : w < 4 := by omega
      refine ⟨τ, ?_, gX.mono fun o k i j q => Or.inl q, gX.gh1 (fun o j q1 q2 q => by unfold SX at q; omega) hI1.1.2.2.2.2.1⟩
      have e := m_871 (σ := σ1) (r := σ.2 10 13 s) (a3 := nI st) (a4 := nI w) hs8 hn hel1 hg n 0 1000 (by omega) (by omega)
      have e : lp_X8_journeys_87 1000 5 (nI s) (nI n) (nI st) (nI w) 0 σ1 = lb_X8_journeys_87 (fun _ _ _ _ _ _ _ => none) 5 (nI s) (nI n) (nI st) (nI w) (nI n) σ1 := e
      rw [f8 σ1 ((hF.mono SX_J).s1J c), e, lb_X8_journeys_87.eq_def, if_pos (pt (n_le_t (Nat.le_refl n) (by omega))), n_in_t hs8 (by omega)]
      simp only [cond_true]
      rw [n_cl (by omega), g1, Option.bind_some]
      unfold jyN
      rcases (show w = 0 ∨ w = 1 ∨ w = 2 ∨ w = 3 by omega) with rfl | rfl | rfl | rfl
      · rw [if_pos (show nI 0 = (0 : Int32) from rfl), m_journeysTo (by omega) (cN_le n) (g3 n (Nat.le_refl _))]
        rfl
      · rw [if_neg (show ¬ nI 1 = (0 : Int32) by decide), if_pos (show nI 1 = (1 : Int32) from rfl), m_maybeAt (by omega) (cN_le n) (g3 n (Nat.le_refl _)) (g4 n (Nat.le_refl _))]
        rfl
      · have e9 : fn_X8_forged 5 (nI n) τ = some (oI (fgN (cN A (σ.2 10 13 s) st) n 0), τ) := m_forged hn (fun j => cN_le j) g3 n 0 1000 (by omega) (by omega)
        rw [if_neg (show ¬ nI 2 = (0 : Int32) by decide), if_neg (show ¬ nI 2 = (1 : Int32) by decide), if_pos (show nI 2 = (2 : Int32) from rfl), e9]
        rfl
      · have e9 : fn_X8_sure_45 5 5 s (nI n) τ = some (nI (smN (suP A (σ.2 10 13 s) st n) n), τ) := m_sure hk hn hel8 g3 g4 n 0 1000 (by omega) (by omega)
        rw [if_neg (show ¬ nI 3 = (0 : Int32) by decide), if_neg (show ¬ nI 3 = (1 : Int32) by decide), if_neg (show ¬ nI 3 = (2 : Int32) by decide), e9]
        rfl
