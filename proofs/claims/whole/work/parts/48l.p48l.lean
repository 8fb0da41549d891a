/-! ===== tours ===== -/
def tuT (D : Nat → Nat → Nat) (h f s v : Nat) : Nat := srT (fun (x : Nat × Nat) u => btN x.1 u) (fun x u => D x.2 u) (fun x u => (clN x.1 u, u)) (fun x => D x.2 h) f (s, v)
def tuO (D : Nat → Nat → Nat) (h f s v : Nat) : List Nat := srO (fun (x : Nat × Nat) u => btN x.1 u) (fun x u => D x.2 u) (fun x u => (clN x.1 u, u)) (fun x => D x.2 h) f (s, v)
/-- what the way over u costs -/
def tuG (D : Nat → Nat → Nat) (h f s v : Nat) : Nat → Nat := fun u => D v u + tuT D h f (clN s u) u
theorem n_suc {a : Nat} : nI a + (1 : Int32) = nI (a + 1) := nI_add a 1
theorem getD_app {l m : List Nat} {i : Nat} (h : i < l.length) : (l ++ m).getD i 0 = l.getD i 0 := by
  rw [List.getD_eq_getElem?_getD, List.getD_eq_getElem?_getD, List.getElem?_append_left h]
theorem nf {P : Prop} (h : P = False) : ¬ P := fun q => cast h q
theorem pt {P : Prop} (h : P = True) : P := cast h.symm trivial
theorem bs6 : ((List.range 128).all fun x => decide (x = 0) || (List.range 7).any fun u => btN x u) = true := by decide +kernel
theorem bt_ex {x : Nat} (hx : x < 128) (h : x ≠ 0) : ∃ u, u < 7 ∧ btN x u = true := by
  have h2 := List.all_eq_true.mp bs6 x (List.mem_range.mpr hx)
  simp only [Bool.or_eq_true, decide_eq_true_eq, List.any_eq_true, List.mem_range] at h2
  rcases h2 with q | q
  · exact absurd q h
  · exact q
theorem bt_0 {u : Nat} : btN 0 u = false := by
  unfold btN
  rw [Nat.zero_div]
  rfl
/-- all of s is in y -/
def sub (s y : Nat) : Prop := ∀ u, u < 7 → btN s u = true → btN y u = true
theorem sub_df {s y : Nat} (hs : s < 128) (hy : y < 128) : (nI s &&& (nI y ^^^ (-1 : Int32)) = 0) = sub s y := by
  obtain ⟨h1, h2, h3⟩ := b_df hs hy
  rw [h1]
  apply propext
  constructor
  · intro h u hu hb
    have h0 : dfN s y = 0 := (nI_eq (by omega) (by decide)).mp h
    have h4 := h3 u hu
    rw [h0, bt_0, hb, Bool.true_and] at h4
    cases b : btN y u
    · rw [b] at h4; cases h4
    · rfl
  · intro h
    by_cases c : dfN s y = 0
    · rw [c]; rfl
    · obtain ⟨u, hu, hb⟩ := bt_ex h2 c
      rw [h3 u hu] at hb
      simp only [Bool.and_eq_true, Bool.not_eq_true'] at hb
      rw [h u hu hb.1] at hb
      cases hb.2
theorem pc_1 {s : Nat} (hs : s < 128) (h : s ≠ 0) : ∃ f, pcN s = f + 1 := by
  by_cases c : pcN s = 0
  · exact absurd (pc_0 hs c) h
  · exact ⟨pcN s - 1, by omega⟩
section PTO
variable {A : pu_L} {σ τ : am_S} {D : Nat → Nat → Nat} {h f s v w y z p : Nat}
theorem tu_le (hD : ∀ a b, a < 7 → b < 7 → D a b ≤ 108) (hh : h < 7) : ∀ f s v, v < 7 → tuT D h f s v ≤ f * 108 + 108
  | 0, s, v, hv => by
    show D v h ≤ _
    have := hD v h hv hh
    omega
  | f + 1, s, v, hv => by
    rcases ta_ok (g := tuG D h f s v) (b := btN s) 7 with ⟨h1, h2⟩ | ⟨j, h1, h2, h3, h4, h5⟩
    · show (match taN (tuG D h f s v) (btN s) 7 with
        | none => 0
        | some j => D v j + tuT D h f (clN s j) j) ≤ _
      rw [h1]
      exact Nat.zero_le _
    · have e : tuT D h (f + 1) s v = D v j + tuT D h f (clN s j) j := (sr_1 h1).1
      have q1 := hD v j hv h2
      have q2 := tu_le hD hh f (clN s j) j h2
      rw [e, Nat.succ_mul]
      omega
theorem tu_1 {j : Nat} (h1 : taN (tuG D h f s v) (btN s) 7 = some j) : tuT D h (f + 1) s v = tuG D h f s v j ∧ tuO D h (f + 1) s v = j :: tuO D h f (clN s j) j := sr_1 h1
/-! the class -/
theorem c_lo {u Y : Nat} (hs : s < 128) (hv : v < 7) (hu : u < 7) (hT : ∀ a b, a < 7 → b < 7 → σ.1 12 19 a b = nI (D a b)) (hY : σ.1 13 23 0 (clN s u * 7 + u) = nI Y) : fn_X5_leastOver (nI s) (nI v) (nI u) σ = some (nI (D v u + Y), σ) := by
  have hc := (cl_le hs hu).1
  unfold fn_X5_leastOver
  rw [b_cl hs hu, z7, n_mul, nI_add, n_in_t hv (by omega), n_in_t hu (by omega), n_in_t (show clN s u * 7 + u < 896 by omega) (by omega), cond_true, cond_true, cond_true, n_cl (by omega), n_cl (by omega), n_cl (by omega), hT v u hv hu, hY, nI_add]
def bvI (g : Nat → Nat) (b : Nat → Bool) (k : Nat) : Int32 := match taN g b k with
  | none => nI 1000000
  | some j => nI (g j)
theorem bv_some {g : Nat → Nat} {b : Nat → Bool} {k j : Nat} (e : taN g b k = some j) : bvI g b k = nI (g j) := by unfold bvI; rw [e]
theorem bv_none {g : Nat → Nat} {b : Nat → Bool} {k : Nat} (e : taN g b k = none) : bvI g b k = nI 1000000 := by unfold bvI; rw [e]
theorem bv_f {g : Nat → Nat} {b : Nat → Bool} {k : Nat} (hb : b k = false) : bvI g b (k + 1) = bvI g b k := by unfold bvI; rw [ta_f hb]
theorem bv_t {g : Nat → Nat} {b : Nat → Bool} {k : Nat} (hb : b k = true) (hg : ∀ i, i ≤ k → g i < 1000000) : (if nI (g k) < bvI g b k then nI (g k) else bvI g b k) = bvI g b (k + 1) := by
  have hk := hg k (Nat.le_refl _)
  rcases ta_ok (g := g) (b := b) k with ⟨h1, h2⟩ | ⟨j, h1, h2, h3, h4, h5⟩
  · rw [bv_some (ta_t0 hb h1), bv_none h1, if_pos (pt (n_lt_t hk (by omega)))]
  · have hj := hg j (by omega)
    have e := ta_t1 hb h1
    rw [bv_some h1, i_lt (by omega) (by omega)]
    by_cases c : g k < g j
    · rw [if_pos c] at e ⊢
      rw [bv_some e]
    · rw [if_neg c] at e ⊢
      rw [bv_some e]
theorem c_lbn (hs : s < 128) (hv : v < 7) (hh : h < 7) (hD : ∀ a b, a < 7 → b < 7 → D a b ≤ 108) (hf : f ≤ 6) (hT : ∀ a b, a < 7 → b < 7 → σ.1 12 19 a b = nI (D a b)) (hst : ∀ u, u < 7 → btN s u = true → σ.1 13 23 0 (clN s u * 7 + u) = nI (tuT D h f (clN s u) u)) : ∀ (m k fuel : Nat), k + m = 7 → m < fuel → lp_X5_leastByNext_7 fuel (nI s) (nI v) (bvI (tuG D h f s v) (btN s) k) (nI k) σ = some (bvI (tuG D h f s v) (btN s) 7, σ) := by
  intro m
  induction m with
  | zero =>
    intro k fuel hk hf
    obtain ⟨fu, rfl⟩ : ∃ f, fuel = f + 1 := ⟨fuel - 1, by omega⟩
    obtain rfl : k = 7 := by omega
    rw [lp_X5_leastByNext_7.eq_2]
    unfold lb_X5_leastByNext_7
    rw [if_pos (by decide)]
  | succ m ih =>
    intro k fuel hk hfu
    obtain ⟨fu, rfl⟩ : ∃ f, fuel = f + 1 := ⟨fuel - 1, by omega⟩
    have hk7 : k < 7 := by omega
    refine Eq.trans ?_ (ih (k + 1) fu (by omega) (by omega))
    rw [lp_X5_leastByNext_7.eq_2]
    unfold lb_X5_leastByNext_7 jn_X5_leastByNext_39
    rw [z7, if_neg (nf (n_le_f (by omega) (by omega))), i_band hs hk7, z1, nI_add]
    cases hb : btN s k
    · rw [if_pos rfl, bv_f hb]
    · rw [if_neg (by decide), c_lo hs hv hk7 hT (hst k hk7 hb), Option.bind_some]
      have hg : ∀ i, i ≤ k → tuG D h f s v i < 1000000 := fun i hi => by
        have q1 := hD v i hv (by omega)
        have q2 := tu_le hD hh f (clN s i) i (by omega)
        show D v i + tuT D h f (clN s i) i < _
        have q3 : f * 108 ≤ 6 * 108 := Nat.mul_le_mul_right _ hf
        omega
      rw [← bv_t hb hg]
      rfl
theorem c_fs (hs : s < 128) (hz : z < 128) (hh : h < 7) (hD : ∀ a b, a < 7 → b < 7 → D a b ≤ 108) : ∀ (m k fuel : Nat) (σ : am_S), k + m = 7 → m < fuel → (∀ a b, a < 7 → b < 7 → σ.1 12 19 a b = nI (D a b)) → (∀ u, u < 7 → btN s u = true → σ.1 13 23 0 (clN s u * 7 + u) = nI (tuT D h (pcN s - 1) (clN s u) u)) →
    ∃ τ, lp_X5_fillSet_3 fuel (nI s) (nI z) (nI h) (nI k) σ = some τ ∧ fr (fun o k i j => o = 13 ∧ k = 23 ∧ i = 0 ∧ s * 7 ≤ j ∧ j < s * 7 + 7) σ τ ∧ ∀ v, (k ≤ v ∧ v < 7 ∧ btN z v = true → τ.1 13 23 0 (s * 7 + v) = nI (tuT D h (pcN s) s v)) ∧ (v < k → τ.1 13 23 0 (s * 7 + v) = σ.1 13 23 0 (s * 7 + v)) := by
  intro m
  induction m with
  | zero =>
    intro k fuel σ hk hf hT hst
    obtain ⟨fu, rfl⟩ : ∃ f, fuel = f + 1 := ⟨fuel - 1, by omega⟩
    obtain rfl : k = 7 := by omega
    refine ⟨σ, ?_, fr.rf, fun v => ⟨fun q => by omega, fun _ => rfl⟩⟩
    rw [lp_X5_fillSet_3.eq_2]
    unfold lb_X5_fillSet_3
    rw [if_pos (by decide)]
  | succ m ih =>
    intro k fuel σ hk hf hT hst
    obtain ⟨fu, rfl⟩ : ∃ f, fuel = f + 1 := ⟨fuel - 1, by omega⟩
    have hk7 : k < 7 := by omega
    rw [lp_X5_fillSet_3.eq_2]
    unfold lb_X5_fillSet_3 jn_X5_fillSet_53 jn_X5_fillSet_54
    rw [z7, if_neg (nf (n_le_f (by omega) (by omega))), i_band hz hk7, z1, nI_add]
    cases hb : btN z k
    · rw [if_pos rfl]
      obtain ⟨τ, e1, e2, e3⟩ := ih (k + 1) fu σ (by omega) (by omega) hT hst
      refine ⟨τ, e1, e2, fun v => ⟨fun q => ?_, fun q => (e3 v).2 (by omega)⟩⟩
      by_cases c : v = k
      · rw [c, hb] at q; exact absurd q.2.2 (by decide)
      · exact (e3 v).1 ⟨by omega, q.2⟩
    · rw [if_neg (by decide)]
      -- what is written
      have key : ∀ X, (∀ a, X = nI a → a = tuT D h (pcN s) s k → ∃ τ, lp_X5_fillSet_3 fu (nI s) (nI z) (nI h) (nI (k + 1)) (am_u σ 13 23 0 (s * 7 + k) X) = some τ ∧ fr (fun o k i j => o = 13 ∧ k = 23 ∧ i = 0 ∧ s * 7 ≤ j ∧ j < s * 7 + 7) σ τ ∧ ∀ v, (k ≤ v ∧ v < 7 ∧ btN z v = true → τ.1 13 23 0 (s * 7 + v) = nI (tuT D h (pcN s) s v)) ∧ (v < k → τ.1 13 23 0 (s * 7 + v) = σ.1 13 23 0 (s * 7 + v))) := fun X a hX ha => by
        subst hX
        subst ha
        have hT2 : ∀ a b, a < 7 → b < 7 → (am_u σ 13 23 0 (s * 7 + k) (nI (tuT D h (pcN s) s k))).1 12 19 a b = nI (D a b) := fun a b ha hb => by rw [u_ne (by omega)]; exact hT a b ha hb
        obtain ⟨τ, e1, e2, e3⟩ := ih (k + 1) fu _ (by omega) (by omega) hT2 (fun u hu hub => by
          have hcl := (cl_t hs hu hub).2
          rw [u_ne (by omega)]
          exact hst u hu hub)
        refine ⟨τ, e1, (fr.u (by omega)).tr e2, fun v => ⟨fun q => ?_, fun q => ?_⟩⟩
        · by_cases c : v = k
          · rw [c, (e3 k).2 (by omega), u_at]
          · exact (e3 v).1 ⟨by omega, q.2⟩
        · rw [(e3 v).2 (by omega), u_ne (by omega)]
      have hw : ∀ X q, q = σ → (bif am_in (nI s * nI 7 + nI k) 896 then lp_X5_fillSet_3 fu (nI s) (nI z) (nI h) (nI (k + 1)) (am_u q 13 23 0 ((nI s * nI 7 + nI k : Int32).toNatClampNeg) X) else none) = lp_X5_fillSet_3 fu (nI s) (nI z) (nI h) (nI (k + 1)) (am_u σ 13 23 0 (s * 7 + k) X) := fun X q hq => by
        rw [hq, n_mul, nI_add, n_in_t (show s * 7 + k < 896 by omega) (by omega), cond_true, n_cl (by omega)]
      by_cases c0 : s = 0
      · rw [if_pos (show nI s = (0 : Int32) by rw [c0]; rfl), c_between hk7 hh, Option.bind_some]
        dsimp only
        rw [hw _ _ rfl, hT k h hk7 hh]
        exact key _ _ rfl (by rw [c0, pc_00]; rfl)
      · rw [if_neg (show ¬ nI s = (0 : Int32) from nf (n_eq_f c0 (by omega) (by decide)))]
        obtain ⟨f, hf1⟩ := pc_1 hs c0
        have hf7 := (cl_le hs hk7).2.2
        rw [hf1, Nat.add_sub_cancel] at hst
        have e := c_lbn (f := f) hs hk7 hh hD (by omega) hT hst 7 0 1000 rfl (by decide)
        have e9 : fn_X5_leastByNext (nI s) (nI k) σ = some (bvI (tuG D h f s k) (btN s) 7, σ) := e
        obtain ⟨i, i1, i2⟩ := bt_ex hs c0
        rcases ta_ok (g := tuG D h f s k) (b := btN s) 7 with ⟨h1, h2⟩ | ⟨j, h1, h2, h3, h4, h5⟩
        · rw [h2 i i1] at i2; cases i2
        · rw [e9, Option.bind_some]
          dsimp only
          rw [hw _ _ rfl, bv_some h1]
          exact key _ _ rfl (by rw [hf1]; exact (tu_1 h1).1.symm)
/-- what the class keeps of the tours to y from w -/
def stI (D : Nat → Nat → Nat) (h y w n : Nat) (σ : am_S) : Prop := ∀ s, s < n → sub s y → ∀ v, v < 7 → (btN y v = true ∧ btN s v = false ∨ v = w) → σ.1 13 23 0 (s * 7 + v) = nI (tuT D h (pcN s) s v)
theorem c_lf (hy : y < 128) (hw : w < 7) (hyw : btN y w = false) (hh : h < 7) (hD : ∀ a b, a < 7 → b < 7 → D a b ≤ 108) : ∀ (m s fuel : Nat) (σ : am_S), s + m = y + 1 → m < fuel → (∀ a b, a < 7 → b < 7 → σ.1 12 19 a b = nI (D a b)) → stI D h y w s σ →
    ∃ τ, lp_X5_leastFrom_12 fuel (nI w) (nI h) (nI y) (nI s) σ = some (nI (tuT D h (pcN y) y w), τ) ∧ fr (fun o k _ _ => o = 13 ∧ k = 23) σ τ ∧ stI D h y w (y + 1) τ := by
  intro m
  induction m with
  | zero =>
    intro s fuel σ hs hf hT hI
    obtain ⟨fu, rfl⟩ : ∃ f, fuel = f + 1 := ⟨fuel - 1, by omega⟩
    obtain rfl : s = y + 1 := by omega
    refine ⟨σ, ?_, fr.rf, hI⟩
    rw [lp_X5_leastFrom_12.eq_2]
    unfold lb_X5_leastFrom_12
    rw [if_pos (pt (n_lt_t (by omega) (by omega))), z7, n_mul, nI_add, n_in_t (show y * 7 + w < 896 by omega) (by omega), cond_true, n_cl (by omega), hI y (by omega) (fun _ _ q => q) w hw (Or.inr rfl)]
  | succ m ih =>
    intro s fuel σ hs hf hT hI
    obtain ⟨fu, rfl⟩ : ∃ f, fuel = f + 1 := ⟨fuel - 1, by omega⟩
    have hs8 : s < 128 := by omega
    rw [lp_X5_leastFrom_12.eq_2]
    unfold lb_X5_leastFrom_12 jn_X5_leastFrom_49
    rw [if_neg (nf (n_lt_f (by omega) (by omega))), n_suc]
    by_cases c : sub s y
    · rw [if_pos (Eq.mpr (sub_df hs8 hy) c)]
      obtain ⟨d1, d2, d3⟩ := b_df hy hs8
      have hz : stN (dfN y s) w < 128 := (cl_le d2 hw).2.1
      rw [d1, b_st d2 hw]
      obtain ⟨τ, e1, e2, e3⟩ := c_fs (z := stN (dfN y s) w) hs8 hz hh hD 7 0 1000 σ rfl (by decide) hT (fun u hu hub => by
        have hcl := cl_t hs8 hu hub
        have hc8 : clN s u < 128 := by omega
        have e := hI (clN s u) (by omega) (fun x hx hxb => c x hx (by
          rw [(bt_cl hs8 hu hx).1, Bool.and_eq_true] at hxb
          exact hxb.1)) u hu (Or.inl ⟨c u hu hub, by rw [(bt_cl hs8 hu hu).1, decide_eq_true rfl, Bool.not_true, Bool.and_false]⟩)
        rw [e, hcl.1, Nat.add_sub_cancel])
      have hT2 : ∀ a b, a < 7 → b < 7 → τ.1 12 19 a b = nI (D a b) := fun a b ha hb => by rw [(e2 12 19 a b (by omega)).1]; exact hT a b ha hb
      obtain ⟨ρ, f1, f2, f3⟩ := ih (s + 1) fu τ (by omega) (by omega) hT2 (fun s' hs' hsub v hv hvv => by
        by_cases q : s' = s
        · rw [q] at hvv ⊢
          refine (e3 v).1 ⟨Nat.zero_le _, hv, ?_⟩
          rw [(bt_cl d2 hw hv).2, d3 v hv, Bool.or_eq_true, Bool.and_eq_true, Bool.not_eq_true', decide_eq_true_eq]
          exact hvv
        · rw [(e2 13 23 0 (s' * 7 + v) (by omega)).1]
          exact hI s' (by omega) hsub v hv hvv)
      refine ⟨ρ, ?_, (e2.mono fun o k i j q => ⟨q.1, q.2.1⟩).tr f2, f3⟩
      have e1 : fn_X5_fillSet (nI s) (nI (stN (dfN y s) w)) (nI h) σ = some τ := e1
      rw [e1]
      exact f1
    · rw [if_neg (fun q => c (Eq.mp (sub_df hs8 hy) q))]
      exact ih (s + 1) fu σ (by omega) (by omega) hT (fun s' hs' hsub v hv hvv => by
        by_cases q : s' = s
        · rw [q] at hsub; exact absurd hsub c
        · exact hI s' (by omega) hsub v hv hvv)
theorem c_leastFrom {d : Nat} (hd : d < 128) (hw : w < 7) (hh : h < 7) (hD : ∀ a b, a < 7 → b < 7 → D a b ≤ 108) (hT : ∀ a b, a < 7 → b < 7 → σ.1 12 19 a b = nI (D a b)) :
    ∃ τ, fn_X5_leastFrom (nI w) (nI d) (nI h) σ = some (nI (tuT D h (pcN (clN d w)) (clN d w) w), τ) ∧ fr (fun o k _ _ => o = 13 ∧ k = 23) σ τ ∧ stI D h (clN d w) w (clN d w + 1) τ := by
  have hy : clN d w < 128 := by have := (cl_le hd hw).1; omega
  unfold fn_X5_leastFrom
  rw [b_cl hd hw]
  exact c_lf hy hw (by rw [(bt_cl hd hw hw).1, decide_eq_true rfl, Bool.not_true, Bool.and_false]) hh hD (clN d w + 1) 0 1000 σ (by omega) (by omega) hT (fun s hs => absurd hs (Nat.not_lt_zero _))
/-- the ways of p, a pass perhaps left out -/
def tD (A : pu_L) (p : Nat) (wo : Option Nat) : Nat → Nat → Nat := DN A p 0 64 1000000 wo
def tW (A : pu_L) (p : Nat) : Nat := clN (lE A p 4) (lE A p 3)
/-- p's tour -/
def toN (A : pu_L) (p : Nat) (wo : Option Nat) : Nat := tuT (tD A p wo) (lE A p 2) (pcN (tW A p)) (tW A p) (lE A p 3)
def toO (A : pu_L) (p : Nat) (wo : Option Nat) : List Nat := tuO (tD A p wo) (lE A p 2) (pcN (tW A p)) (tW A p) (lE A p 3)
theorem tD_le (hk : pu_k A) (hp : p < lne A) {wo : Option Nat} (hwo : ∀ r, wo = some r → r < 3) {a b : Nat} (ha : a < 7) (hb : b < 7) : tD A p wo a b ≤ 108 := by
  have := DN_ring (A := A) (p := p) (w := 0) (M := 64) (far := 1000000) (wo := wo) (B := 18) hk hwo (fun v hv => (wt0_le hk hp hv).1) ha hb
  exact this
theorem tW_lt (hk : pu_k A) (hp : p < lne A) : tW A p < 128 ∧ pcN (tW A p) ≤ 6 := by
  obtain ⟨b0, b1, b2, b3, b4, b5, b6, b7⟩ := pb_of hk hp
  have h1 := (cl_le b4 b3).1
  have h2 : tW A p < 128 := by unfold tW; omega
  refine ⟨h2, ?_⟩
  have h3 : btN (tW A p) (lE A p 3) = false := by
    unfold tW
    rw [(bt_cl b4 b3 b3).1, decide_eq_true rfl, Bool.not_true, Bool.and_false]
  exact (st_f h2 b3 h3).2.1
theorem to_le (hk : pu_k A) (hp : p < lne A) {wo : Option Nat} (hwo : ∀ r, wo = some r → r < 3) : toN A p wo ≤ 756 := by
  obtain ⟨b0, b1, b2, b3, b4, b5, b6, b7⟩ := pb_of hk hp
  have h1 := tu_le (D := tD A p wo) (fun a b ha hb => tD_le hk hp hwo ha hb) b2 (pcN (tW A p)) (tW A p) (lE A p 3) b3
  have h2 := (tW_lt hk hp).2
  have h3 : pcN (tW A p) * 108 ≤ 6 * 108 := Nat.mul_le_mul_right _ h2
  unfold toN
  omega
/-- to leave a pass out makes no tour cheaper -/
theorem tD_mono (hk : pu_k A) (hp : p < lne A) {r : Nat} (hr : r < 3) {a b : Nat} (ha : a < 7) (hb : b < 7) : tD A p none a b ≤ tD A p (some r) a b := by
  obtain ⟨l, h1⟩ := DN_real (A := A) (p := p) (w := 0) (M := 64) (far := 1000000) (wo := some r) hk hp (fun q hq => by cases hq; exact hr) (by decide) ha hb
  have key : ∀ (l : List Nat) (v u c : Nat), wkN (nxN A (some r)) (wtN A p 0 64) l v = some (u, c) → wkN (nxN A none) (wtN A p 0 64) l v = some (u, c) := by
    intro l
    induction l with
    | nil => intro v u c h; exact h
    | cons s t ih =>
      intro v u c h
      obtain ⟨y, c', e1, e2, e3⟩ := wk_cons h
      rw [e3]
      refine wk_mk ?_ (ih _ _ _ e2)
      have := nx_eo e1
      unfold nxN
      rw [if_neg (by simp)]
      exact this
  exact DN_low hk ha (key l a b _ h1)
theorem tu_mono {D' : Nat → Nat → Nat} (hD : ∀ a b, a < 7 → b < 7 → D a b ≤ D' a b) (hh : h < 7) : ∀ f s v, v < 7 → tuT D h f s v ≤ tuT D' h f s v
  | 0, s, v, hv => hD v h hv hh
  | f + 1, s, v, hv => by
    rcases ta_ok (g := tuG D' h f s v) (b := btN s) 7 with ⟨h1, h2⟩ | ⟨j, h1, h2, h3, h4, h5⟩
    · rcases ta_ok (g := tuG D h f s v) (b := btN s) 7 with ⟨k1, k2⟩ | ⟨i, k1, k2, k3, k4, k5⟩
      · show (match taN (tuG D h f s v) (btN s) 7 with
          | none => 0
          | some j => D v j + tuT D h f (clN s j) j) ≤ _
        rw [k1]
        exact Nat.zero_le _
      · rw [h2 i k2] at k3; cases k3
    · rw [(tu_1 h1).1]
      rcases ta_ok (g := tuG D h f s v) (b := btN s) 7 with ⟨k1, k2⟩ | ⟨i, k1, k2, k3, k4, k5⟩
      · rw [k2 j h2] at h3; cases h3
      · rw [(tu_1 k1).1]
        have q1 := k4 j h2 h3
        have q2 := hD v j hv h2
        have q3 := tu_mono hD hh f (clN s j) j h2
        have q4 : tuG D h f s v j = D v j + tuT D h f (clN s j) j := rfl
        have q5 : tuG D' h f s v j = D' v j + tuT D' h f (clN s j) j := rfl
        omega
theorem to_mono (hk : pu_k A) (hp : p < lne A) {r : Nat} (hr : r < 3) : toN A p none ≤ toN A p (some r) := by
  obtain ⟨b0, b1, b2, b3, b4, b5, b6, b7⟩ := pb_of hk hp
  exact tu_mono (fun a b ha hb => tD_mono hk hp hr ha hb) b2 _ _ _ b3
theorem c_leastTour (hk : pu_k A) (hc : pu_c A 1 σ) (hp : p < lne A) {wo : Option Nat} (hwo : ∀ r, wo = some r → r < 3) :
    ∃ τ, fn_X5_leastTour 1 (nI p) (oI wo) σ = some (nI (toN A p wo), τ) ∧ fr (fun o k _ _ => (o = 12 ∧ k = 19) ∨ (o = 13 ∧ k = 23)) σ τ ∧ pu_c A 1 τ ∧ (∀ a b, a < 7 → b < 7 → τ.1 12 19 a b = nI (tD A p wo a b)) ∧ stI (tD A p wo) (lE A p 2) (tW A p) (lE A p 3) (tW A p + 1) τ := by
  have hp6 : p < 6 := by have := hk.2.1; omega
  obtain ⟨b0, b1, b2, b3, b4, b5, b6, b7⟩ := pb_of hk hp
  obtain ⟨τ, e1, e2, e3⟩ := c_measure (w := 0) hk hp (by decide) hwo hc
  have hcτ : pu_c A 1 τ := e2.c (fun _ _ _ q => by unfold S12 at q; omega) hc
  obtain ⟨ρ, d1, d2, d3⟩ := c_leastFrom (σ := τ) (D := tD A p wo) b4 b3 b2 (fun a b ha hb => tD_le hk hp hwo ha hb) e3
  refine ⟨ρ, ?_, (e2.mono fun o k i j q => Or.inl q).tr (d2.mono fun o k i j q => Or.inr q), d2.c (fun _ _ _ q => by omega) hcτ, fun a b ha hb => by rw [(d2 12 19 a b (by omega)).1]; exact e3 a b ha hb, d3⟩
  unfold fn_X5_leastTour
  rw [n_in_t hp6 (by omega), cond_true, n_cl (by omega)]
  have e1 : fn_X6_measure_8 1 1 p 0 (oI wo) σ = some τ := e1
  rw [e1, Option.bind_some, hcτ.E hp6 (by decide), hcτ.E hp6 (by decide), hcτ.E hp6 (by decide), d1]
  rfl
/-! the reference -/
def S6t : Nat → Nat → Nat → Nat → Prop := fun o k _ j => o = 5 ∧ (k = 67 ∨ k = 68 ∨ (k = 40 ∧ (j = 39 ∨ j = 40)))
/-- what is the best so far -/
def tS (x : Option (Nat × List Nat)) (σ : am_S) : Prop := match x with
  | none => σ.1 5 40 0 40 = mI
  | some (l, r) => l < 1000000 ∧ σ.1 5 40 0 40 = nI l ∧ r.length ≤ 7 ∧ σ.1 5 40 0 39 = nI r.length ∧ ∀ i, i < r.length → σ.1 5 68 0 i = nI (r.getD i 0)
def nowP (pre : List Nat) (σ : am_S) : Prop := ∀ i, i < pre.length → σ.1 5 67 0 i = nI (pre.getD i 0)
theorem m_cpR : ∀ (m k fuel : Nat) (σ : am_S), k + m = 7 → m < fuel → ∃ τ, lp_X8_copied_67_68_2 fuel 5 5 (nI k) σ = some τ ∧ fr (fun o kk i j => o = 5 ∧ kk = 68 ∧ i = 0 ∧ k ≤ j) σ τ ∧ ∀ j, k ≤ j → j < 7 → τ.1 5 68 0 j = σ.1 5 67 0 j := by
  intro m
  induction m with
  | zero =>
    intro k fuel σ hk hf
    obtain ⟨fu, rfl⟩ : ∃ f, fuel = f + 1 := ⟨fuel - 1, by omega⟩
    obtain rfl : k = 7 := by omega
    refine ⟨σ, ?_, fr.rf, fun j _ _ => by omega⟩
    rw [lp_X8_copied_67_68_2.eq_2]
    unfold lb_X8_copied_67_68_2
    rw [if_pos (by decide)]
  | succ m ih =>
    intro k fuel σ hk hf
    obtain ⟨fu, rfl⟩ : ∃ f, fuel = f + 1 := ⟨fuel - 1, by omega⟩
    have hk7 : k < 7 := by omega
    obtain ⟨τ, e1, e2, e3⟩ := ih (k + 1) fu (am_u σ 5 68 0 k (σ.1 5 67 0 k)) (by omega) (by omega)
    refine ⟨τ, ?_, (fr.u (by omega)).tr (e2.mono fun o kk i j q => by omega), fun j h1 h2 => ?_⟩
    · rw [lp_X8_copied_67_68_2.eq_2]
      unfold lb_X8_copied_67_68_2
      rw [z7, if_neg (nf (n_le_f (by omega) (by omega))), n_in_t hk7 (by omega), cond_true, cond_true, n_cl (by omega), z1, nI_add]
      exact e1
    · by_cases c : j = k
      · subst c
        rw [(e2 5 68 0 j (by omega)).1, u_at]
      · rw [e3 j (by omega) h2, u_ne (by omega)]
theorem m_keepT {rec : Nat → Int32 → Int32 → Int32 → Int32 → Int32 → am_S → Option am_S} {pre : List Nat} {all : Nat} (hl : pre.length ≤ 7) (hN : nowP pre σ) (ha : all < 1000000) : ∃ τ, jn_X8_seekTour_34 rec 5 (nI pre.length) (nI all) σ = some τ ∧ fr S6t σ τ ∧ tS (some (all, pre)) τ ∧ nowP pre τ := by
  obtain ⟨τ, e1, e2, e3⟩ := m_cpR 7 0 1000 (am_u (am_u σ 5 40 0 40 (nI all)) 5 40 0 39 (nI pre.length)) rfl (by decide)
  refine ⟨τ, ?_, ((fr.u (by unfold S6t; omega)).tr (fr.u (by unfold S6t; omega))).tr (e2.mono fun o k i j q => by unfold S6t; omega), ⟨ha, ?_, hl, ?_, fun i hi => ?_⟩, fun i hi => ?_⟩
  · unfold jn_X8_seekTour_34 fn_X8_copied_67_68
    rw [z0, e1]
    rfl
  · rw [(e2 5 40 0 40 (by omega)).1, u_ne (by omega), u_at]
  · rw [(e2 5 40 0 39 (by omega)).1, u_at]
  · rw [e3 i (Nat.zero_le _) (by omega), u_ne (by omega), u_ne (by omega)]
    exact hN i hi
  · rw [(e2 5 67 0 i (by omega)).1, u_ne (by omega), u_ne (by omega)]
    exact hN i hi
theorem tS.fr {x : Option (Nat × List Nat)} {S : Nat → Nat → Nat → Nat → Prop} (hf : fr S σ τ) (hS : ∀ k j, (k = 68 ∨ (k = 40 ∧ (j = 39 ∨ j = 40))) → ¬ S 5 k 0 j) (hx : tS x σ) : tS x τ := by
  cases x with
  | none =>
    show τ.1 5 40 0 40 = mI
    rw [(hf _ _ _ _ (hS 40 40 (by omega))).1]; exact hx
  | some q =>
    obtain ⟨l, r⟩ := q
    obtain ⟨h1, h2, h3, h4, h5⟩ := hx
    refine ⟨h1, ?_, h3, ?_, fun i hi => ?_⟩
    · rw [(hf _ _ _ _ (hS 40 40 (by omega))).1]; exact h2
    · rw [(hf _ _ _ _ (hS 40 39 (by omega))).1]; exact h4
    · rw [(hf _ _ _ _ (hS 68 i (by omega))).1]; exact h5 i hi
theorem nowP_snoc {pre : List Nat} {v : Nat} (h : nowP pre σ) : nowP (pre ++ [v]) (am_u σ 5 67 0 pre.length (nI v)) := by
  intro i hi
  rw [List.length_append, List.length_singleton] at hi
  by_cases c : i = pre.length
  · subst c
    rw [u_at]
    congr 1
    simp
  · rw [u_ne (by omega), h i (by omega)]
    congr 1
    rw [getD_app (by omega)]
theorem nowP_pre {pre : List Nat} {v : Nat} (h : nowP (pre ++ [v]) σ) : nowP pre σ := by
  intro i hi
  rw [h i (by rw [List.length_append, List.length_singleton]; omega)]
  congr 1
  rw [getD_app (by omega)]
theorem m_seek (hh : h < 7) (hD : ∀ a b, a < 7 → b < 7 → D a b ≤ 108) : ∀ (f d s v sum : Nat) (pre : List Nat) (x : Option (Nat × List Nat)) (σ : am_S), f < d → s < 128 → pcN s = f → v < 7 → pre.length + f ≤ 7 → sum ≤ pre.length * 108 → (∀ a b, a < 7 → b < 7 → σ.1 5 65 a b = nI (D a b)) → tS x σ → nowP pre σ →
    ∃ τ, fn_X8_seekTour d 5 (nI v) (nI s) (nI h) (nI pre.length) (nI sum) σ = some τ ∧ fr S6t σ τ ∧ tS (btr x (sum + tuT D h f s v, pre ++ tuO D h f s v)) τ ∧ nowP pre τ := by
  intro f
  induction f with
  | zero =>
    intro d s v sum pre x σ hd hs hpc hv hl hsum hT hx hN
    obtain ⟨d, rfl⟩ : ∃ e, d = e + 1 := ⟨d - 1, by omega⟩
    have hs0 := pc_0 hs hpc
    subst hs0
    have hDv := hD v h hv hh
    show ∃ τ, fb_X8_seekTour (fn_X8_seekTour d) 5 (nI v) (nI 0) (nI h) (nI pre.length) (nI sum) σ = some τ ∧ _
    unfold fb_X8_seekTour
    rw [if_pos (show nI 0 = (0 : Int32) from rfl), n_in_t hv (by omega), n_in_t hh (by omega), cond_true, cond_true, n_cl (by omega), n_cl (by omega), hT v h hv hh, nI_add]
    have e0 : tuT D h 0 0 v = D v h := rfl
    have e1 : tuO D h 0 0 v = [] := rfl
    rw [e0, e1, List.append_nil]
    have hsm : sum ≤ 7 * 108 := Nat.le_trans hsum (Nat.mul_le_mul_right _ (by omega))
    obtain ⟨τ, k1, k2, k3, k4⟩ := m_keepT (σ := σ) (rec := fn_X8_seekTour d) (all := sum + D v h) (pre := pre) (by omega) hN (by omega)
    cases x with
    | none =>
      have hx : σ.1 5 40 0 40 = mI := hx
      rw [hx, if_pos (show mI = (-1 : Int32) from rfl)]
      exact ⟨τ, k1, k2, k3, k4⟩
    | some q =>
      obtain ⟨l, r⟩ := q
      have hx2 := hx
      obtain ⟨h1, h2, h3, h4, h5⟩ := hx
      rw [h2, if_neg (show ¬ nI l = (-1 : Int32) from nf (n_neg1 (by omega))), i_le (by omega) (by omega)]
      by_cases c : l ≤ sum + D v h
      · rw [if_pos c]
        refine ⟨σ, rfl, fr.rf, ?_, hN⟩
        have : btr (some (l, r)) (sum + D v h, pre) = some (l, r) := if_neg (by show ¬ sum + D v h < l; omega)
        rw [this]
        exact hx2
      · rw [if_neg c]
        refine ⟨τ, k1, k2, ?_, k4⟩
        have : btr (some (l, r)) (sum + D v h, pre) = some (sum + D v h, pre) := if_pos (by show sum + D v h < l; omega)
        rw [this]
        exact k3
  | succ f ih =>
    intro d s v sum pre x σ hd hs hpc hv hl hsum hT hx hN
    obtain ⟨d, rfl⟩ : ∃ e, d = e + 1 := ⟨d - 1, by omega⟩
    have hs0 : s ≠ 0 := fun q => by rw [q, pc_00] at hpc; omega
    show ∃ τ, fb_X8_seekTour (fn_X8_seekTour d) 5 (nI v) (nI s) (nI h) (nI pre.length) (nI sum) σ = some τ ∧ _
    unfold fb_X8_seekTour
    rw [if_neg (show ¬ nI s = (0 : Int32) from nf (n_eq_f hs0 (by omega) (by decide)))]
    have hp7 : pre.length < 7 := by omega
    have loop : ∀ (m k fuel : Nat) (σ : am_S), k + m = 7 → m < fuel → (∀ a b, a < 7 → b < 7 → σ.1 5 65 a b = nI (D a b)) → tS (fldN (btN s) (fun u => (sum + D v u + tuT D h f (clN s u) u, (pre ++ [u]) ++ tuO D h f (clN s u) u)) x k) σ → nowP pre σ →
        ∃ τ, lp_X8_seekTour_61 (fn_X8_seekTour d) fuel 5 (nI v) (nI s) (nI h) (nI pre.length) (nI sum) (nI k) σ = some τ ∧ fr S6t σ τ ∧ tS (fldN (btN s) (fun u => (sum + D v u + tuT D h f (clN s u) u, (pre ++ [u]) ++ tuO D h f (clN s u) u)) x 7) τ ∧ nowP pre τ := by
      intro m
      induction m with
      | zero =>
        intro k fuel σ hk hf hT hx hN
        obtain ⟨fu, rfl⟩ : ∃ f, fuel = f + 1 := ⟨fuel - 1, by omega⟩
        obtain rfl : k = 7 := by omega
        refine ⟨σ, ?_, fr.rf, hx, hN⟩
        rw [lp_X8_seekTour_61.eq_2]
        unfold lb_X8_seekTour_61
        rw [if_pos (by decide)]
      | succ m ihm =>
        intro k fuel σ hk hf hT hx hN
        obtain ⟨fu, rfl⟩ : ∃ f, fuel = f + 1 := ⟨fuel - 1, by omega⟩
        have hk7 : k < 7 := by omega
        rw [lp_X8_seekTour_61.eq_2]
        unfold lb_X8_seekTour_61 jn_X8_seekTour_117
        rw [z7, if_neg (nf (n_le_f (by omega) (by omega))), b_shr hs hk7]
        cases hb : btN s k
        · rw [if_neg (by decide : ¬ false = true), if_pos (show nI 0 = (0 : Int32) from rfl), z1, nI_add]
          refine ihm (k + 1) fu σ (by omega) (by omega) hT ?_ hN
          show tS (if btN s k = true then _ else _) σ
          rw [hb, if_neg (by decide)]
          exact hx
        · rw [if_pos rfl, if_neg (show ¬ nI 1 = (0 : Int32) by decide), n_in_t hp7 (by omega), n_in_t hv (by omega), n_in_t hk7 (by omega), cond_true, cond_true, cond_true, n_cl (by omega), n_cl (by omega), n_cl (by omega), hT v k hv hk7, b_cl hs hk7, nI_add, z1, nI_add, nI_add]
          have hct := cl_t hs hk7 hb
          have hDk := hD v k hv hk7
          have hlen : (pre ++ [k]).length = pre.length + 1 := by rw [List.length_append, List.length_singleton]
          have hfr : fr S6t σ (am_u σ 5 67 0 pre.length (nI k)) := fr.u (by unfold S6t; omega)
          obtain ⟨τ, e1, e2, e3, e4⟩ := ih d (clN s k) k (sum + D v k) (pre ++ [k]) (fldN (btN s) (fun u => (sum + D v u + tuT D h f (clN s u) u, (pre ++ [u]) ++ tuO D h f (clN s u) u)) x k) (am_u σ 5 67 0 pre.length (nI k)) (by omega) (by omega) (by omega) hk7 (by rw [hlen]; omega) (by rw [hlen, Nat.succ_mul]; omega) (fun a b ha hb => by rw [u_ne (by omega)]; exact hT a b ha hb) (hx.fr (S := fun o k _ _ => o = 5 ∧ k = 67) (fr.u ⟨rfl, rfl⟩) (fun _ _ _ q => by omega)) (nowP_snoc hN)
          rw [hlen] at e1
          rw [e1, Option.bind_some]
          obtain ⟨ρ, g1, g2, g3, g4⟩ := ihm (k + 1) fu τ (by omega) (by omega) (fun a b ha hb => by rw [(e2 5 65 a b (by unfold S6t; omega)).1, u_ne (by omega)]; exact hT a b ha hb) (by
            show tS (if btN s k = true then _ else _) τ
            rw [if_pos hb]
            exact e3) (nowP_pre e4)
          exact ⟨ρ, g1, (hfr.tr e2).tr g2, g3, g4⟩
    obtain ⟨τ, e1, e2, e3, e4⟩ := loop 7 0 1000 σ rfl (by decide) hT hx hN
    refine ⟨τ, e1, e2, ?_, e4⟩
    have hfl := sr_fld (S := Nat × Nat) (b := fun x u => btN x.1 u) (c := fun x u => D x.2 u) (nx := fun x u => (clN x.1 u, u)) (e := fun x => D x.2 h) (f := f) (s := (s, v)) (x := x) (w := sum) (pre := pre) (bt_ex hs hs0)
    have e3 : tS (fldN (btN s) (fun u => (sum + D v u + tuT D h f (clN s u) u, (pre ++ [u]) ++ tuO D h f (clN s u) u)) x 7) τ := e3
    have hfl : fldN (btN s) (fun u => (sum + D v u + tuT D h f (clN s u) u, (pre ++ [u]) ++ tuO D h f (clN s u) u)) x 7 = btr x (sum + tuT D h (f + 1) s v, pre ++ tuO D h (f + 1) s v) := hfl
    rw [← hfl]
    exact e3
theorem m_tourFrom (hk : pu_k A) (hm : pu_m A 5 σ) (hp : p < lne A) (hw : w < 7) (hh : h < 7) (hD : ∀ a b, a < 7 → b < 7 → D a b ≤ 108) (hT : ∀ a b, a < 7 → b < 7 → σ.1 5 65 a b = nI (D a b)) :
    ∃ τ, fn_X8_tourFrom 5 (nI p) (nI w) (nI h) σ = some (nI (tuT D h (pcN (clN (lE A p 4) w)) (clN (lE A p 4) w) w), τ) ∧ fr S6t σ τ ∧ tS (some (tuT D h (pcN (clN (lE A p 4) w)) (clN (lE A p 4) w) w, tuO D h (pcN (clN (lE A p 4) w)) (clN (lE A p 4) w) w)) τ := by
  have hp6 : p < 6 := by have := hk.2.1; omega
  obtain ⟨b0, b1, b2, b3, b4, b5, b6, b7⟩ := pb_of hk hp
  have hy : clN (lE A p 4) w < 128 := by have := (cl_le b4 hw).1; omega
  have hpc := (cl_le hy hw).2.2
  obtain ⟨τ, e1, e2, e3, e4⟩ := m_seek hh hD (pcN (clN (lE A p 4) w)) 8 (clN (lE A p 4) w) w 0 [] none (am_u σ 5 40 0 40 mI) (by omega) hy rfl hw (by rw [List.length_nil]; omega) (Nat.zero_le _) (fun a b ha hb => by rw [u_ne (by omega)]; exact hT a b ha hb) u_at (fun i hi => absurd hi (Nat.not_lt_zero _))
  rw [Nat.zero_add, List.nil_append] at e3
  have e3 : tS (some (tuT D h (pcN (clN (lE A p 4) w)) (clN (lE A p 4) w) w, tuO D h (pcN (clN (lE A p 4) w)) (clN (lE A p 4) w) w)) τ := e3
  refine ⟨τ, ?_, (fr.u (by unfold S6t; omega)).tr e2, e3⟩
  unfold fn_X8_tourFrom
  rw [n_in_t hp6 (by omega), cond_true, n_cl (by omega), hm.E4 hp6, b_cl b4 hw]
  have e1 : fn_X8_seekTour 8 5 (nI w) (nI (clN (lE A p 4) w)) (nI h) 0 0 (am_u σ 5 40 0 40 (-1)) = some τ := e1
  rw [e1, Option.bind_some, e3.2.1]
theorem m_tourNow (hk : pu_k A) (hm : pu_m A 5 σ) (hp : p < lne A) {wo : Option Nat} (hwo : ∀ r, wo = some r → r < 3) :
    ∃ τ, fn_X8_tourNow 5 (nI p) (oI wo) σ = some (nI (toN A p wo), τ) ∧ fr (fun o k i j => S65 o k i j ∨ S6t o k i j) σ τ ∧ pu_m A 5 τ ∧ tS (some (toN A p wo, toO A p wo)) τ := by
  have hp6 : p < 6 := by have := hk.2.1; omega
  obtain ⟨b0, b1, b2, b3, b4, b5, b6, b7⟩ := pb_of hk hp
  obtain ⟨τ, e1, e2, e3⟩ := m_findFar (w := 0) hk hp (by decide) hwo hm
  have hmτ : pu_m A 5 τ := e2.m1 (fun _ _ _ _ q => by unfold S65 at q; omega) hm
  have hT : ∀ a b, a < 7 → b < 7 → τ.1 5 65 a b = nI (tD A p wo a b) := fun a b ha hb => by
    rw [e3 a b ha hb, DN_eq hk hp hwo (by decide) ha hb]
    rfl
  obtain ⟨ρ, d1, d2, d3⟩ := m_tourFrom hk hmτ hp b3 b2 (fun a b ha hb => tD_le hk hp hwo ha hb) hT
  refine ⟨ρ, ?_, (e2.mono fun o k i j q => Or.inl q).tr (d2.mono fun o k i j q => Or.inr q), d2.m1 (fun _ _ _ _ q => by unfold S6t at q; omega) hmτ, d3⟩
  unfold fn_X8_tourNow
  have e1 : fn_X8_findFar 5 (nI p) 0 (oI wo) σ = some τ := e1
  rw [e1, Option.bind_some, n_in_t hp6 (by omega), cond_true, cond_true, n_cl (by omega), hmτ.E3 hp6, hmτ.E2 hp6, d1]
  rfl
end PTO
