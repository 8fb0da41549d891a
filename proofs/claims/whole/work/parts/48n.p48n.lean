/-! ===== calls: homes ===== -/
/-- who lives where: the least of all from p on, those in u taken -/
def hoT (L : Nat → Nat → Nat) (f p u : Nat) : Nat := srT (fun (x : Nat × Nat) v => !btN x.2 v) (fun x v => L x.1 v) (fun x v => (x.1 + 1, stN x.2 v)) (fun _ => 0) f (p, u)
def hoO (L : Nat → Nat → Nat) (f p u : Nat) : List Nat := srO (fun (x : Nat × Nat) v => !btN x.2 v) (fun x v => L x.1 v) (fun x v => (x.1 + 1, stN x.2 v)) (fun _ => 0) f (p, u)
def hoG (L : Nat → Nat → Nat) (f p u : Nat) : Nat → Nat := fun v => L p v + hoT L f (p + 1) (stN u v)
theorem bs7 : ((List.range 128).all fun x => decide (pcN x = 7) || (List.range 7).any fun u => !btN x u) = true := by decide +kernel
theorem bt_fr {x : Nat} (hx : x < 128) (h : pcN x ≠ 7) : ∃ u, u < 7 ∧ btN x u = false := by
  have h2 := List.all_eq_true.mp bs7 x (List.mem_range.mpr hx)
  simp only [Bool.or_eq_true, decide_eq_true_eq, List.any_eq_true, List.mem_range, Bool.not_eq_true'] at h2
  rcases h2 with q | q
  · exact absurd q h
  · exact q
theorem ho_1 {L : Nat → Nat → Nat} {f p u j : Nat} (h1 : taN (hoG L f p u) (fun v => !btN u v) 7 = some j) : hoT L (f + 1) p u = hoG L f p u j ∧ hoO L (f + 1) p u = j :: hoO L f (p + 1) (stN u j) := sr_1 h1
theorem hoT_le {L : Nat → Nat → Nat} (hL : ∀ p v, v < 7 → L p v ≤ 864) (f p u : Nat) : hoT L f p u ≤ f * 864 := by
  have h := sr_le (S := Nat × Nat) (b := fun x v => !btN x.2 v) (c := fun x v => L x.1 v) (nx := fun x v => (x.1 + 1, stN x.2 v)) (e := fun _ => 0) (B := 864) (C := 0) (fun s u hu => hL s.1 u hu) (fun _ => Nat.le_refl _) f (p, u)
  rw [Nat.add_zero] at h
  exact h
/-- what those not yet settled cost, behind a set that is taken -/
def bhN (L : Nat → Nat → Nat) (ne t : Nat) : Nat := hoT L (ne - pcN t) (pcN t) t
section PHO
variable {A : pu_L} {σ : am_S} {L : Nat → Nat → Nat} {p ne : Nat}
theorem c_cost {v s : Nat} (hp : p < 6) (hs : s < 128) (hv : v < 7) {X : Nat} (h1 : σ.1 13 26 p v = nI (L p v)) (h2 : σ.1 13 27 0 (stN s v) = nI X) : fn_X5_costWith (nI p) (nI s) (nI v) σ = some (nI (L p v + X), σ) := by
  have hst := (cl_le hs hv).2.1
  unfold fn_X5_costWith
  rw [b_st hs hv, n_in_t hp (by omega), n_in_t hv (by omega), n_in_t hst (by omega), cond_true, cond_true, cond_true, n_cl (by omega), n_cl (by omega), n_cl (by omega), h1, h2, nI_add]
theorem c_fh {s : Nat} {g : Nat → Nat} (hp : p < 6) (hs : s < 128) (hg : ∀ v, v < 7 → g v < 1000000) (hc : ∀ v, v < 7 → btN s v = false → fn_X5_costWith (nI p) (nI s) (nI v) σ = some (nI (g v), σ)) : ∀ (m k fuel : Nat), k + m = 7 → m < fuel → lp_X5_firstHome_5 fuel (nI p) (nI s) (oI (taN g (fun v => !btN s v) k)) (nI k) σ = some (oI (taN g (fun v => !btN s v) 7), σ) := by
  intro m
  induction m with
  | zero =>
    intro k fuel hk hf
    obtain ⟨fu, rfl⟩ : ∃ f, fuel = f + 1 := ⟨fuel - 1, by omega⟩
    obtain rfl : k = 7 := by omega
    rw [lp_X5_firstHome_5.eq_2]
    unfold lb_X5_firstHome_5
    rw [if_pos (by decide)]
  | succ m ih =>
    intro k fuel hk hf
    obtain ⟨fu, rfl⟩ : ∃ f, fuel = f + 1 := ⟨fuel - 1, by omega⟩
    have hk7 : k < 7 := by omega
    refine Eq.trans ?_ (ih (k + 1) fu (by omega) (by omega))
    rw [lp_X5_firstHome_5.eq_2]
    unfold lb_X5_firstHome_5 jn_X5_firstHome_26 jn_X5_firstHome_56 jn_X5_firstHome_59
    rw [if_neg (show ¬ (7 : Int32) ≤ nI k from nf (n_le_f (a := 7) (b := k) hk7 (by omega))), i_band hs hk7, n_suc]
    cases hb : btN s k
    · have hbk : (fun v => !btN s v) k = true := by show (!btN s k) = true; rw [hb]; rfl
      rw [if_pos rfl, if_neg (show ¬ (1 : Int32) = 0 by decide)]
      rcases ta_ok (g := g) (b := fun v => !btN s v) k with ⟨h1, h2⟩ | ⟨j, h1, h2, h3, h4, h5⟩
      · rw [h1, ta_t0 hbk h1, if_pos (show oI none = (-1 : Int32) from rfl)]
        rfl
      · have hbj : btN s j = false := by
          have h3 : (!btN s j) = true := h3
          cases q : btN s j
          · rfl
          · rw [q] at h3; cases h3
        have g1 := hg k hk7
        have g2 := hg j (by omega)
        rw [h1, ta_t1 hbk h1, if_neg (show ¬ oI (some j) = (-1 : Int32) from oI_m (by omega)), hc k hk7 hb, Option.bind_some]
        dsimp only
        rw [show oI (some j) = nI j from rfl, hc j (by omega) hbj, Option.bind_some]
        dsimp only
        rw [i_le (by omega) (by omega)]
        by_cases c : g j ≤ g k
        · rw [if_pos c, if_neg (show ¬ g k < g j by omega)]
          rfl
        · rw [if_neg c, if_pos (show g k < g j by omega)]
          rfl
    · have hbk : (fun v => !btN s v) k = false := by show (!btN s k) = false; rw [hb]; rfl
      rw [if_neg (by decide), if_pos (show (0 : Int32) = 0 from rfl), ta_f hbk]
theorem c_firstH {s : Nat} (hL : ∀ p v, v < 7 → L p v ≤ 864) (hne : ne ≤ 6) (hp : pcN s < ne) (hs : s < 128) (h26 : ∀ v, v < 7 → σ.1 13 26 (pcN s) v = nI (L (pcN s) v)) (h27 : ∀ v, v < 7 → btN s v = false → σ.1 13 27 0 (stN s v) = nI (bhN L ne (stN s v))) : ∃ j, j < 7 ∧ btN s j = false ∧ fn_X5_firstHome (nI (pcN s)) (nI s) σ = some (nI j, σ) ∧ fn_X5_costWith (nI (pcN s)) (nI s) (nI j) σ = some (nI (bhN L ne s), σ) ∧ hoO L (ne - pcN s) (pcN s) s = j :: hoO L (ne - pcN (stN s j)) (pcN (stN s j)) (stN s j) := by
  have e0 : ne - pcN s = (ne - pcN s - 1) + 1 := by omega
  have hG : ∀ v, v < 7 → btN s v = false → hoG L (ne - pcN s - 1) (pcN s) s v = L (pcN s) v + bhN L ne (stN s v) := fun v hv hb => by
    have h1 := (st_f hs hv hb).1
    show L (pcN s) v + hoT L (ne - pcN s - 1) (pcN s + 1) (stN s v) = L (pcN s) v + hoT L (ne - pcN (stN s v)) (pcN (stN s v)) (stN s v)
    rw [h1, Nat.sub_sub]
  have hgb : ∀ v, v < 7 → hoG L (ne - pcN s - 1) (pcN s) s v < 1000000 := fun v hv => by
    have q1 := hL (pcN s) v hv
    have q2 := hoT_le hL (ne - pcN s - 1) (pcN s + 1) (stN s v)
    have q3 : (ne - pcN s - 1) * 864 ≤ 6 * 864 := Nat.mul_le_mul_right _ (by omega)
    show L (pcN s) v + hoT L (ne - pcN s - 1) (pcN s + 1) (stN s v) < _
    omega
  have hc : ∀ v, v < 7 → btN s v = false → fn_X5_costWith (nI (pcN s)) (nI s) (nI v) σ = some (nI (hoG L (ne - pcN s - 1) (pcN s) s v), σ) := fun v hv hb => by
    rw [hG v hv hb]
    exact c_cost (by omega) hs hv (h26 v hv) (h27 v hv hb)
  have e := c_fh (by omega) hs hgb hc 7 0 1000 rfl (by decide)
  obtain ⟨i, i1, i2⟩ := bt_fr hs (by omega)
  rcases ta_ok (g := hoG L (ne - pcN s - 1) (pcN s) s) (b := fun v => !btN s v) 7 with ⟨h1, h2⟩ | ⟨j, h1, h2, h3, h4, h5⟩
  · have := h2 i i1
    rw [i2] at this
    cases this
  · have hbj : btN s j = false := by
      have h3 : (!btN s j) = true := h3
      cases q : btN s j
      · rfl
      · rw [q] at h3; cases h3
    have hst := (st_f hs h2 hbj).1
    rw [h1] at e
    obtain ⟨k1, k2⟩ := ho_1 h1
    refine ⟨j, h2, hbj, e, ?_, ?_⟩
    · rw [hc j h2 hbj, ← k1, ← e0]
      rfl
    · rw [hst, show ne - (pcN s + 1) = ne - pcN s - 1 by omega, ← k2, ← e0]
/-! the class: what the homes cost -/
def hmL (A : pu_L) (p v : Nat) : Nat := tuT (tD A p none) v (pcN (clN (lE A p 4) v)) (clN (lE A p 4) v) v
theorem hm_L (hk : pu_k A) (hp : p < lne A) {v : Nat} (hv : v < 7) : hmL A p v ≤ 864 := by
  have hd := (pb_of hk hp).2.2.2.2.1
  have h1 := (cl_le hd hv).1
  have h2 := (cl_le (x := clN (lE A p 4) v) (by omega) hv).2.2
  have h3 := tu_le (D := tD A p none) (fun a b ha hb => tD_le hk hp no_w ha hb) hv (pcN (clN (lE A p 4) v)) (clN (lE A p 4) v) v hv
  have h4 : pcN (clN (lE A p 4) v) * 108 ≤ 7 * 108 := Nat.mul_le_mul_right _ h2
  unfold hmL
  omega
/-- with a bound for all -/
def hoL (A : pu_L) (p v : Nat) : Nat := if p < lne A then hmL A p v else 0
theorem hoL_le (hk : pu_k A) : ∀ p v, v < 7 → hoL A p v ≤ 864 := fun p v hv => by
  unfold hoL
  by_cases c : p < lne A
  · rw [if_pos c]; exact hm_L hk c hv
  · rw [if_neg c]; omega
def SHo : Nat → Nat → Nat → Nat → Prop := fun o k _ _ => (o = 12 ∧ k = 19) ∨ (o = 13 ∧ (k = 23 ∨ k = 26 ∨ k = 27 ∨ k = 28))
theorem c_h35 {k8 : Nat → Int32 → Int32 → am_S → Option (Int32 × am_S)} (hk : pu_k A) (hp : p < lne A) : ∀ (m v fuel : Nat) (σ : am_S), v + m = 7 → m < fuel → pu_c A 1 σ → (∀ a b, a < 7 → b < 7 → σ.1 12 19 a b = nI (tD A p none a b)) →
    ∃ τ, lp_X5_settle_35 k8 fuel 1 (nI (lne A)) (nI p) 1 p (nI v) σ = k8 1 (nI (lne A)) (nI (p + 1)) τ ∧ fr (fun o k i j => o = 13 ∧ (k = 23 ∨ (k = 26 ∧ i = p ∧ v ≤ j))) σ τ ∧ ∀ u, v ≤ u → u < 7 → τ.1 13 26 p u = nI (hoL A p u) := by
  have hp6 : p < 6 := by have := hk.2.1; omega
  have hd := (pb_of hk hp).2.2.2.2.1
  intro m
  induction m with
  | zero =>
    intro v fuel σ hs hf hc hT
    obtain ⟨f, rfl⟩ : ∃ f, fuel = f + 1 := ⟨fuel - 1, by omega⟩
    obtain rfl : v = 7 := by omega
    refine ⟨σ, ?_, fr.rf, fun u h1 h2 => by omega⟩
    rw [lp_X5_settle_35.eq_2]
    unfold lb_X5_settle_35
    rw [if_pos (by decide), n_suc]
  | succ m ih =>
    intro v fuel σ hs hf hc hT
    obtain ⟨f, rfl⟩ : ∃ f, fuel = f + 1 := ⟨fuel - 1, by omega⟩
    have hv : v < 7 := by omega
    obtain ⟨τ, e1, e2, -⟩ := c_leastFrom (σ := σ) (D := tD A p none) (w := v) (h := v) hd hv hv (fun a b ha hb => tD_le hk hp no_w ha hb) hT
    have f1 : fr (fun o k i j => o = 13 ∧ (k = 23 ∨ (k = 26 ∧ i = p ∧ v ≤ j))) σ (am_u τ 13 26 p v (nI (hmL A p v))) := (e2.mono fun o k i j q => by omega).tr (fr.u (by omega))
    obtain ⟨ρ, d1, d2, d3⟩ := ih (v + 1) f (am_u τ 13 26 p v (nI (hmL A p v))) (by omega) (by omega) (f1.c (fun _ _ _ q => by omega) hc) (fun a b ha hb => by rw [(f1 12 19 a b (by omega)).1]; exact hT a b ha hb)
    refine ⟨ρ, ?_, f1.tr (d2.mono fun o k i j q => by omega), fun u h1 h2 => ?_⟩
    · rw [lp_X5_settle_35.eq_2]
      unfold lb_X5_settle_35
      rw [if_neg (show ¬ (7 : Int32) ≤ nI v from nf (n_le_f (a := 7) (b := v) hv (by omega))), n_in_t hp6 (by omega), cond_true, hc.E hp6 (by decide), e1, Option.bind_some]
      dsimp only
      rw [n_in_t hv (by omega), cond_true, n_cl (by omega), n_cl (by omega), n_suc]
      exact d1
    · by_cases c : u = v
      · subst c
        rw [(d2 13 26 p u (by omega)).1, u_at]
        unfold hoL
        rw [if_pos hp]
      · exact d3 u (by omega) h2
theorem c_h8 (hk : pu_k A) : ∀ (m p fuel : Nat) (σ : am_S), p + m = lne A → m < fuel → pu_c A 1 σ → (∀ q, q < p → ∀ v, v < 7 → σ.1 13 26 q v = nI (hoL A q v)) →
    ∃ τ, lp_X5_settle_8 fuel 1 (nI (lne A)) (nI p) σ = lp_X5_settle_81 1000 (nI (lne A)) 127 τ ∧ fr SHo σ τ ∧ ∀ q, q < lne A → ∀ v, v < 7 → τ.1 13 26 q v = nI (hoL A q v) := by
  have hne := hk.2.1
  intro m
  induction m with
  | zero =>
    intro p fuel σ hs hf hc hI
    obtain ⟨f, rfl⟩ : ∃ f, fuel = f + 1 := ⟨fuel - 1, by omega⟩
    obtain rfl : p = lne A := by omega
    refine ⟨σ, ?_, fr.rf, hI⟩
    rw [lp_X5_settle_8.eq_2]
    unfold lb_X5_settle_8
    rw [if_pos (pt (n_le_t (by omega) (by omega)))]
  | succ m ih =>
    intro p fuel σ hs hf hc hI
    obtain ⟨f, rfl⟩ : ∃ f, fuel = f + 1 := ⟨fuel - 1, by omega⟩
    have hp : p < lne A := by omega
    obtain ⟨τ, e1, e2, e3, e4⟩ := c_meas hk hc hp (w := 0) (by decide)
    obtain ⟨ρ, d1, d2, d3⟩ := c_h35 (k8 := lp_X5_settle_8 f) hk hp 7 0 1000 τ rfl (by decide) e3 e4
    obtain ⟨θ, g1, g2, g3⟩ := ih (p + 1) f ρ (by omega) (by omega) (d2.c (fun _ _ _ q => by omega) e3) (fun q hq v hv => by
      by_cases c : q = p
      · subst c
        exact d3 v (Nat.zero_le _) hv
      · rw [(d2 13 26 q v (by omega)).1, (e2 13 26 q v (by unfold S12; omega)).1]
        exact hI q (by omega) v hv)
    refine ⟨θ, ?_, (e2.mono fun o k i j q => by unfold S12 at q; unfold SHo; omega).tr ((d2.mono fun o k i j q => by unfold SHo; omega).tr g2), g3⟩
    have e1 : fn_X6_measure_8 1 1 p 0 (-1) σ = some τ := e1
    rw [lp_X5_settle_8.eq_2]
    unfold lb_X5_settle_8
    rw [if_neg (nf (n_le_f (by omega) (by omega))), n_in_t (show p < 6 by omega) (by omega), cond_true, n_cl (by omega), e1, Option.bind_some]
    rw [← g1]
    exact d1
theorem c_h81 (hL : ∀ p v, v < 7 → L p v ≤ 864) (hne : ne ≤ 6) : ∀ (m fuel : Nat) (σ : am_S), m ≤ 128 → m < fuel → (∀ q, q < ne → ∀ v, v < 7 → σ.1 13 26 q v = nI (L q v)) → (∀ s, m ≤ s → s < 128 → σ.1 13 27 0 s = nI (bhN L ne s)) →
    ∃ τ, lp_X5_settle_81 fuel (nI ne) (pI m) σ = lp_X5_settle_152 1000 (nI ne) 0 0 τ ∧ fr (fun o k _ _ => o = 13 ∧ k = 27) σ τ ∧ ∀ s, s < 128 → τ.1 13 27 0 s = nI (bhN L ne s) := by
  intro m
  induction m with
  | zero =>
    intro fuel σ hm hf h26 h27
    obtain ⟨f, rfl⟩ : ∃ f, fuel = f + 1 := ⟨fuel - 1, by omega⟩
    refine ⟨σ, ?_, fr.rf, fun s hs => h27 s (Nat.zero_le _) hs⟩
    rw [lp_X5_settle_81.eq_2]
    unfold lb_X5_settle_81
    rw [if_pos (show pI 0 < 0 by decide)]
  | succ s ih =>
    intro fuel σ hm hf h26 h27
    obtain ⟨f, rfl⟩ : ∃ f, fuel = f + 1 := ⟨fuel - 1, by omega⟩
    have hs : s < 128 := by omega
    have hpc := (cl_le hs (show 0 < 7 by decide)).2.2
    have go : ∀ X, X = bhN L ne s → ∃ τ, jn_X5_settle_139 (lp_X5_settle_81 f) (nI ne) (nI s) (nI X) (nI s) σ = lp_X5_settle_152 1000 (nI ne) 0 0 τ ∧ fr (fun o k _ _ => o = 13 ∧ k = 27) σ τ ∧ ∀ s, s < 128 → τ.1 13 27 0 s = nI (bhN L ne s) := fun X hX => by
      subst hX
      obtain ⟨τ, e1, e2, e3⟩ := ih f (am_u σ 13 27 0 s (nI (bhN L ne s))) (by omega) (by omega) (fun q hq v hv => by rw [u_ne (by omega)]; exact h26 q hq v hv) (fun s' h1 h2 => by
        by_cases c : s' = s
        · subst c; exact u_at
        · rw [u_ne (by omega)]; exact h27 s' (by omega) h2)
      refine ⟨τ, ?_, (fr.u ⟨rfl, rfl⟩).tr e2, e3⟩
      unfold jn_X5_settle_139
      rw [n_in_t hs (by omega), cond_true, n_cl (by omega), pI_pre]
      exact e1
    rw [lp_X5_settle_81.eq_2]
    unfold lb_X5_settle_81
    rw [show pI (s + 1) = nI s from rfl, if_neg (show ¬ nI s < (0 : Int32) from nf (n_lt0 (by omega))), c_bits hs, Option.bind_some]
    dsimp only
    by_cases c : ne ≤ pcN s
    · rw [if_pos (pt (n_le_t c (by omega)))]
      unfold jn_X5_settle_111
      rw [if_pos (show (-1 : Int32) = -1 from rfl)]
      refine go 0 ?_
      unfold bhN
      rw [show ne - pcN s = 0 by omega]
      rfl
    · rw [if_neg (nf (n_le_f (by omega) (by omega)))]
      obtain ⟨j, j1, j2, j3, j4, -⟩ := c_firstH (σ := σ) hL hne (by omega) hs (fun v hv => h26 (pcN s) (by omega) v hv) (fun v hv hb => h27 (stN s v) (by have := (st_f hs hv hb).2.2; omega) ((cl_le hs hv).2.1))
      rw [j3, Option.bind_some]
      dsimp only
      unfold jn_X5_settle_111
      rw [if_neg (show ¬ nI j = (-1 : Int32) from nf (n_neg1 (by omega))), j4, Option.bind_some]
      exact go _ rfl
theorem c_h152 (hL : ∀ p v, v < 7 → L p v ≤ 864) (hne : ne ≤ 6) : ∀ (m s fuel : Nat) (σ : am_S), s < 128 → pcN s + m = ne → m < fuel → (∀ q, q < ne → ∀ v, v < 7 → σ.1 13 26 q v = nI (L q v)) → (∀ s, s < 128 → σ.1 13 27 0 s = nI (bhN L ne s)) →
    ∃ τ, lp_X5_settle_152 fuel (nI ne) (nI s) (nI (pcN s)) σ = some (nI (bhN L ne 0), τ) ∧ fr (fun o k i j => o = 13 ∧ k = 28 ∧ i = 0 ∧ pcN s ≤ j) σ τ ∧ (hoO L m (pcN s) s).length = m ∧ ∀ i, i < m → τ.1 13 28 0 (pcN s + i) = nI ((hoO L m (pcN s) s).getD i 0) := by
  intro m
  induction m with
  | zero =>
    intro s fuel σ hs hpc hf h26 h27
    obtain ⟨f, rfl⟩ : ∃ f, fuel = f + 1 := ⟨fuel - 1, by omega⟩
    refine ⟨σ, ?_, fr.rf, rfl, fun i hi => absurd hi (Nat.not_lt_zero _)⟩
    rw [lp_X5_settle_152.eq_2]
    unfold lb_X5_settle_152
    rw [if_pos (pt (n_le_t (by omega) (by omega))), h27 0 (by decide)]
  | succ m ih =>
    intro s fuel σ hs hpc hf h26 h27
    obtain ⟨f, rfl⟩ : ∃ f, fuel = f + 1 := ⟨fuel - 1, by omega⟩
    obtain ⟨j, j1, j2, j3, j4, j5⟩ := c_firstH (σ := σ) hL hne (by omega) hs (fun v hv => h26 (pcN s) (by omega) v hv) (fun v hv hb => h27 (stN s v) ((cl_le hs hv).2.1))
    have hst := (st_f hs j1 j2).1
    have hsl := (cl_le hs j1).2.1
    obtain ⟨τ, e1, e2, e3, e4⟩ := ih (stN s j) f (am_u σ 13 28 0 (pcN s) (nI j)) hsl (by omega) (by omega) (fun q hq v hv => by rw [u_ne (by omega)]; exact h26 q hq v hv) (fun s' hs' => by rw [u_ne (by omega)]; exact h27 s' hs')
    rw [show ne - pcN s = m + 1 by omega, show ne - pcN (stN s j) = m by omega] at j5
    refine ⟨τ, ?_, (fr.u (by omega)).tr (e2.mono fun o k i j q => by omega), ?_, fun i hi => ?_⟩
    · rw [lp_X5_settle_152.eq_2]
      unfold lb_X5_settle_152
      have hx : (if 0 < nI j then nI j else 0) = nI j := by
        by_cases c : j = 0
        · subst c; rfl
        · exact if_pos (pt (n_lt_t (a := 0) (by omega) (by omega)))
      rw [if_neg (nf (n_le_f (by omega) (by omega))), j3, Option.bind_some]
      dsimp only
      rw [n_in_t (show pcN s < 6 by omega) (by omega), cond_true, cond_true, n_cl (by omega), hx, u_at, b_st hs j1, n_suc, ← hst]
      exact e1
    · rw [j5, List.length_cons, e3]
    · rw [j5]
      cases i with
      | zero =>
        rw [Nat.add_zero, (e2 13 28 0 (pcN s) (by omega)).1, u_at]
        rfl
      | succ i =>
        rw [show pcN s + (i + 1) = pcN (stN s j) + i by omega, e4 i (by omega)]
        rfl
theorem c_settle (hk : pu_k A) (hc : pu_c A 1 σ) : ∃ τ, fn_X5_settle 1 σ = some (nI (hoT (hoL A) (lne A) 0 0), τ) ∧ fr SHo σ τ ∧ (hoO (hoL A) (lne A) 0 0).length = lne A ∧ ∀ i, i < lne A → τ.1 13 28 0 i = nI ((hoO (hoL A) (lne A) 0 0).getD i 0) := by
  have hne := hk.2.1
  obtain ⟨τ, e1, e2, e3⟩ := c_h8 hk (lne A) 0 1000 σ (by omega) (by omega) hc (fun q hq => absurd hq (Nat.not_lt_zero _))
  obtain ⟨ρ, d1, d2, d3⟩ := c_h81 (hoL_le hk) hne 128 1000 τ (Nat.le_refl _) (by decide) e3 (fun s h1 h2 => by omega)
  obtain ⟨θ, g1, g2, g3, g4⟩ := c_h152 (hoL_le hk) hne (lne A) 0 1000 ρ (by decide) (by rw [pc_00]; omega) (by omega) (fun q hq v hv => by rw [(d2 13 26 q v (by omega)).1]; exact e3 q hq v hv) d3
  rw [pc_00] at g1 g2 g3 g4
  refine ⟨θ, ?_, e2.tr ((d2.mono fun o k i j q => by unfold SHo; omega).tr (g2.mono fun o k i j q => by unfold SHo; omega)), g3, fun i hi => by
    have := g4 i hi
    rw [Nat.zero_add] at this
    exact this⟩
  unfold fn_X5_settle
  rw [hc.ne]
  have d1 : lp_X5_settle_81 1000 (nI (lne A)) 127 τ = lp_X5_settle_152 1000 (nI (lne A)) 0 0 ρ := d1
  have e1 : lp_X5_settle_8 1000 1 (nI (lne A)) 0 σ = lp_X5_settle_81 1000 (nI (lne A)) 127 τ := e1
  have g1 : lp_X5_settle_152 1000 (nI (lne A)) 0 0 ρ = some (nI (bhN (hoL A) (lne A) 0), θ) := g1
  rw [e1, d1, g1]
  unfold bhN
  rw [pc_00]
  rfl
/-! the reference -/
def S5h : Nat → Nat → Nat → Nat → Prop := fun o k _ j => o = 5 ∧ (k = 71 ∨ k = 72 ∨ (k = 40 ∧ j = 44))
def hS (x : Option (Nat × List Nat)) (σ : am_S) : Prop := match x with
  | none => σ.1 5 40 0 44 = mI
  | some (l, r) => l < 1000000 ∧ σ.1 5 40 0 44 = nI l ∧ r.length ≤ 6 ∧ ∀ i, i < r.length → σ.1 5 72 0 i = nI (r.getD i 0)
def nowH (pre : List Nat) (σ : am_S) : Prop := ∀ i, i < pre.length → σ.1 5 71 0 i = nI (pre.getD i 0)
theorem m_cpH : ∀ (m k fuel : Nat) (σ : am_S), k + m = 6 → m < fuel → ∃ τ, lp_X8_copied_71_72_2 fuel 5 5 (nI k) σ = some τ ∧ fr (fun o kk i j => o = 5 ∧ kk = 72 ∧ i = 0 ∧ k ≤ j) σ τ ∧ ∀ j, k ≤ j → j < 6 → τ.1 5 72 0 j = σ.1 5 71 0 j := by
  intro m
  induction m with
  | zero =>
    intro k fuel σ hk hf
    obtain ⟨fu, rfl⟩ : ∃ f, fuel = f + 1 := ⟨fuel - 1, by omega⟩
    obtain rfl : k = 6 := by omega
    refine ⟨σ, ?_, fr.rf, fun j _ _ => by omega⟩
    rw [lp_X8_copied_71_72_2.eq_2]
    unfold lb_X8_copied_71_72_2
    rw [if_pos (by decide)]
  | succ m ih =>
    intro k fuel σ hk hf
    obtain ⟨fu, rfl⟩ : ∃ f, fuel = f + 1 := ⟨fuel - 1, by omega⟩
    have hk7 : k < 6 := by omega
    obtain ⟨τ, e1, e2, e3⟩ := ih (k + 1) fu (am_u σ 5 72 0 k (σ.1 5 71 0 k)) (by omega) (by omega)
    refine ⟨τ, ?_, (fr.u (by omega)).tr (e2.mono fun o kk i j q => by omega), fun j h1 h2 => ?_⟩
    · rw [lp_X8_copied_71_72_2.eq_2]
      unfold lb_X8_copied_71_72_2
      rw [z6, if_neg (nf (n_le_f (by omega) (by omega))), n_in_t hk7 (by omega), cond_true, cond_true, n_cl (by omega), n_suc]
      exact e1
    · by_cases c : j = k
      · subst c
        rw [(e2 5 72 0 j (by omega)).1, u_at]
      · rw [e3 j (by omega) h2, u_ne (by omega)]
theorem m_keepH {rec : Nat → Int32 → Int32 → Int32 → am_S → Option am_S} {pre : List Nat} {all : Nat} (hl : pre.length ≤ 6) (hN : nowH pre σ) (ha : all < 1000000) : ∃ τ, jn_X8_seekHomes_24 rec 5 (nI all) σ = some τ ∧ fr S5h σ τ ∧ hS (some (all, pre)) τ ∧ nowH pre τ := by
  obtain ⟨τ, e1, e2, e3⟩ := m_cpH 6 0 1000 (am_u σ 5 40 0 44 (nI all)) rfl (by decide)
  refine ⟨τ, ?_, (fr.u (by unfold S5h; omega)).tr (e2.mono fun o k i j q => by unfold S5h; omega), ⟨ha, ?_, hl, fun i hi => ?_⟩, fun i hi => ?_⟩
  · unfold jn_X8_seekHomes_24 fn_X8_copied_71_72
    rw [z0, e1]
    rfl
  · rw [(e2 5 40 0 44 (by omega)).1, u_at]
  · rw [e3 i (Nat.zero_le _) (by omega), u_ne (by omega)]
    exact hN i hi
  · rw [(e2 5 71 0 i (by omega)).1, u_ne (by omega)]
    exact hN i hi
theorem hS.fr {τ : am_S} {x : Option (Nat × List Nat)} {S : Nat → Nat → Nat → Nat → Prop} (hf : fr S σ τ) (hS' : ∀ k j, (k = 72 ∨ (k = 40 ∧ j = 44)) → ¬ S 5 k 0 j) (hx : hS x σ) : hS x τ := by
  cases x with
  | none =>
    show τ.1 5 40 0 44 = mI
    rw [(hf _ _ _ _ (hS' 40 44 (by omega))).1]; exact hx
  | some q =>
    obtain ⟨l, r⟩ := q
    obtain ⟨h1, h2, h3, h5⟩ := hx
    refine ⟨h1, ?_, h3, fun i hi => ?_⟩
    · rw [(hf _ _ _ _ (hS' 40 44 (by omega))).1]; exact h2
    · rw [(hf _ _ _ _ (hS' 72 i (by omega))).1]; exact h5 i hi
theorem nowH_snoc {pre : List Nat} {v : Nat} (h : nowH pre σ) : nowH (pre ++ [v]) (am_u σ 5 71 0 pre.length (nI v)) := by
  intro i hi
  rw [List.length_append, List.length_singleton] at hi
  by_cases c : i = pre.length
  · subst c
    rw [u_at]
    congr 1
    simp
  · rw [u_ne (by omega), h i (by omega)]
    congr 1
    rw [getD_app (by omega)]
theorem nowH_pre {pre : List Nat} {v : Nat} (h : nowH (pre ++ [v]) σ) : nowH pre σ := by
  intro i hi
  rw [h i (by rw [List.length_append, List.length_singleton]; omega)]
  congr 1
  rw [getD_app (by omega)]
theorem m_seekH (hL : ∀ p v, v < 7 → L p v ≤ 864) (hne : ne ≤ 6) : ∀ (f d s sum : Nat) (pre : List Nat) (x : Option (Nat × List Nat)) (σ : am_S), f < d → s < 128 → pcN s = pre.length → pre.length + f = ne → sum ≤ pre.length * 864 → σ.1 5 40 0 15 = nI ne → (∀ a b, a < ne → b < 7 → σ.1 5 70 a b = nI (L a b)) → hS x σ → nowH pre σ →
    ∃ τ, fn_X8_seekHomes d 5 (nI pre.length) (nI s) (nI sum) σ = some τ ∧ fr S5h σ τ ∧ hS (btr x (sum + hoT L f pre.length s, pre ++ hoO L f pre.length s)) τ ∧ nowH pre τ := by
  intro f
  induction f with
  | zero =>
    intro d s sum pre x σ hd hs hpc hl hsum hN hT hx hP
    obtain ⟨d, rfl⟩ : ∃ e, d = e + 1 := ⟨d - 1, by omega⟩
    show ∃ τ, fb_X8_seekHomes (fn_X8_seekHomes d) 5 (nI pre.length) (nI s) (nI sum) σ = some τ ∧ _
    unfold fb_X8_seekHomes
    rw [hN, if_pos (show nI pre.length = nI ne by rw [← hl, Nat.add_zero])]
    have e0 : hoT L 0 pre.length s = 0 := rfl
    have e1 : hoO L 0 pre.length s = [] := rfl
    rw [e0, e1, List.append_nil, Nat.add_zero]
    have hsm : sum ≤ 6 * 864 := Nat.le_trans hsum (Nat.mul_le_mul_right _ (by omega))
    obtain ⟨τ, k1, k2, k3, k4⟩ := m_keepH (σ := σ) (rec := fn_X8_seekHomes d) (all := sum) (pre := pre) (by omega) hP (by omega)
    cases x with
    | none =>
      have hx : σ.1 5 40 0 44 = mI := hx
      rw [hx, if_pos (show mI = (-1 : Int32) from rfl)]
      exact ⟨τ, k1, k2, k3, k4⟩
    | some q =>
      obtain ⟨l, r⟩ := q
      have hx2 := hx
      obtain ⟨h1, h2, h3, h5⟩ := hx
      rw [h2, if_neg (show ¬ nI l = (-1 : Int32) from nf (n_neg1 (by omega))), i_le (by omega) (by omega)]
      by_cases c : l ≤ sum
      · rw [if_pos c]
        refine ⟨σ, rfl, fr.rf, ?_, hP⟩
        have : btr (some (l, r)) (sum, pre) = some (l, r) := if_neg (by show ¬ sum < l; omega)
        rw [this]
        exact hx2
      · rw [if_neg c]
        refine ⟨τ, k1, k2, ?_, k4⟩
        have : btr (some (l, r)) (sum, pre) = some (sum, pre) := if_pos (by show sum < l; omega)
        rw [this]
        exact k3
  | succ f ih =>
    intro d s sum pre x σ hd hs hpc hl hsum hN hT hx hP
    obtain ⟨d, rfl⟩ : ∃ e, d = e + 1 := ⟨d - 1, by omega⟩
    have hp6 : pre.length < 6 := by omega
    show ∃ τ, fb_X8_seekHomes (fn_X8_seekHomes d) 5 (nI pre.length) (nI s) (nI sum) σ = some τ ∧ _
    unfold fb_X8_seekHomes
    rw [hN, if_neg (show ¬ nI pre.length = nI ne from nf (n_eq_f (by omega) (by omega) (by omega)))]
    have loop : ∀ (m k fuel : Nat) (σ : am_S), k + m = 7 → m < fuel → σ.1 5 40 0 15 = nI ne → (∀ a b, a < ne → b < 7 → σ.1 5 70 a b = nI (L a b)) → hS (fldN (fun v => !btN s v) (fun u => (sum + L pre.length u + hoT L f (pre.length + 1) (stN s u), (pre ++ [u]) ++ hoO L f (pre.length + 1) (stN s u))) x k) σ → nowH pre σ →
        ∃ τ, lp_X8_seekHomes_44 (fn_X8_seekHomes d) fuel 5 (nI pre.length) (nI s) (nI sum) (nI k) σ = some τ ∧ fr S5h σ τ ∧ hS (fldN (fun v => !btN s v) (fun u => (sum + L pre.length u + hoT L f (pre.length + 1) (stN s u), (pre ++ [u]) ++ hoO L f (pre.length + 1) (stN s u))) x 7) τ ∧ nowH pre τ := by
      intro m
      induction m with
      | zero =>
        intro k fuel σ hk hf hN hT hx hP
        obtain ⟨fu, rfl⟩ : ∃ f, fuel = f + 1 := ⟨fuel - 1, by omega⟩
        obtain rfl : k = 7 := by omega
        refine ⟨σ, ?_, fr.rf, hx, hP⟩
        rw [lp_X8_seekHomes_44.eq_2]
        unfold lb_X8_seekHomes_44
        rw [if_pos (by decide)]
      | succ m ihm =>
        intro k fuel σ hk hf hN hT hx hP
        obtain ⟨fu, rfl⟩ : ∃ f, fuel = f + 1 := ⟨fuel - 1, by omega⟩
        have hk7 : k < 7 := by omega
        rw [lp_X8_seekHomes_44.eq_2]
        unfold lb_X8_seekHomes_44 jn_X8_seekHomes_92
        rw [if_neg (show ¬ (7 : Int32) ≤ nI k from nf (n_le_f (a := 7) (b := k) hk7 (by omega))), b_shr hs hk7]
        cases hb : btN s k
        · rw [if_neg (by decide : ¬ false = true), if_pos (show nI 0 = (0 : Int32) from rfl), n_in_t hp6 (by omega), n_in_t hk7 (by omega), cond_true, cond_true, cond_true, n_cl (by omega), n_cl (by omega), hT pre.length k (by omega) hk7, b_st hs hk7, nI_add, n_suc, n_suc]
          have hct := st_f hs hk7 hb
          have hDk := hL pre.length k hk7
          have hlen : (pre ++ [k]).length = pre.length + 1 := by rw [List.length_append, List.length_singleton]
          have hfr : fr S5h σ (am_u σ 5 71 0 pre.length (nI k)) := fr.u (by unfold S5h; omega)
          obtain ⟨τ, e1, e2, e3, e4⟩ := ih d (stN s k) (sum + L pre.length k) (pre ++ [k]) (fldN (fun v => !btN s v) (fun u => (sum + L pre.length u + hoT L f (pre.length + 1) (stN s u), (pre ++ [u]) ++ hoO L f (pre.length + 1) (stN s u))) x k) (am_u σ 5 71 0 pre.length (nI k)) (by omega) ((cl_le hs hk7).2.1) (by rw [hlen]; omega) (by rw [hlen]; omega) (by rw [hlen, Nat.succ_mul]; omega) (by rw [u_ne (by omega)]; exact hN) (fun a b ha hb => by rw [u_ne (by omega)]; exact hT a b ha hb) (hx.fr (S := fun o k _ _ => o = 5 ∧ k = 71) (fr.u ⟨rfl, rfl⟩) (fun _ _ _ q => by omega)) (nowH_snoc hP)
          rw [hlen] at e1 e3
          rw [e1, Option.bind_some]
          obtain ⟨ρ, g1, g2, g3, g4⟩ := ihm (k + 1) fu τ (by omega) (by omega) (by rw [(e2 5 40 0 15 (by unfold S5h; omega)).1, u_ne (by omega)]; exact hN) (fun a b ha hb => by rw [(e2 5 70 a b (by unfold S5h; omega)).1, u_ne (by omega)]; exact hT a b ha hb) (by
            show hS (if (!btN s k) = true then _ else _) τ
            rw [hb, if_pos (by decide)]
            exact e3) (nowH_pre e4)
          exact ⟨ρ, g1, (hfr.tr e2).tr g2, g3, g4⟩
        · rw [if_pos rfl, if_neg (show ¬ nI 1 = (0 : Int32) by decide), n_suc]
          refine ihm (k + 1) fu σ (by omega) (by omega) hN hT ?_ hP
          show hS (if (!btN s k) = true then _ else _) σ
          rw [hb, if_neg (by decide)]
          exact hx
    obtain ⟨τ, e1, e2, e3, e4⟩ := loop 7 0 1000 σ rfl (by decide) hN hT hx hP
    refine ⟨τ, e1, e2, ?_, e4⟩
    obtain ⟨i, i1, i2⟩ := bt_fr hs (show pcN s ≠ 7 by omega)
    have hfl := sr_fld (S := Nat × Nat) (b := fun x v => !btN x.2 v) (c := fun x v => L x.1 v) (nx := fun x v => (x.1 + 1, stN x.2 v)) (e := fun _ => 0) (f := f) (s := (pre.length, s)) (x := x) (w := sum) (pre := pre) ⟨i, i1, by show (!btN s i) = true; rw [i2]; rfl⟩
    have hfl : fldN (fun v => !btN s v) (fun u => (sum + L pre.length u + hoT L f (pre.length + 1) (stN s u), (pre ++ [u]) ++ hoO L f (pre.length + 1) (stN s u))) x 7 = btr x (sum + hoT L (f + 1) pre.length s, pre ++ hoO L (f + 1) pre.length s) := hfl
    rw [← hfl]
    exact e3
def S5H : Nat → Nat → Nat → Nat → Prop := fun o k _ j => o = 5 ∧ (65 ≤ k ∨ (k = 40 ∧ (j = 39 ∨ j = 40 ∨ j = 44)))
theorem m_h58 {k41 : Nat → Int32 → Int32 → am_S → Option (Int32 × am_S)} {a1 : Int32} (hk : pu_k A) (hp : p < lne A) : ∀ (m v fuel : Nat) (σ : am_S), v + m = 7 → m < fuel → pu_m A 5 σ → (∀ a b, a < 7 → b < 7 → σ.1 5 65 a b = nI (tD A p none a b)) →
    ∃ τ, lp_X8_homes_58 k41 fuel 5 a1 (nI p) (nI v) σ = k41 5 a1 (nI (p + 1)) τ ∧ fr (fun o k i j => S6t o k i j ∨ (o = 5 ∧ k = 70 ∧ i = p ∧ v ≤ j)) σ τ ∧ ∀ u, v ≤ u → u < 7 → τ.1 5 70 p u = nI (hoL A p u) := by
  have hp6 : p < 6 := by have := hk.2.1; omega
  intro m
  induction m with
  | zero =>
    intro v fuel σ hs hf hc hT
    obtain ⟨f, rfl⟩ : ∃ f, fuel = f + 1 := ⟨fuel - 1, by omega⟩
    obtain rfl : v = 7 := by omega
    refine ⟨σ, ?_, fr.rf, fun u h1 h2 => by omega⟩
    rw [lp_X8_homes_58.eq_2]
    unfold lb_X8_homes_58
    rw [if_pos (by decide), n_suc]
  | succ m ih =>
    intro v fuel σ hs hf hc hT
    obtain ⟨f, rfl⟩ : ∃ f, fuel = f + 1 := ⟨fuel - 1, by omega⟩
    have hv : v < 7 := by omega
    obtain ⟨τ, e1, e2, -⟩ := m_tourFrom hk hc hp (w := v) (h := v) hv hv (fun a b ha hb => tD_le hk hp no_w ha hb) hT
    have f1 : fr (fun o k i j => S6t o k i j ∨ (o = 5 ∧ k = 70 ∧ i = p ∧ v ≤ j)) σ (am_u τ 5 70 p v (nI (hmL A p v))) := (e2.mono fun o k i j q => Or.inl q).tr (fr.u (Or.inr ⟨rfl, rfl, rfl, Nat.le_refl _⟩))
    obtain ⟨ρ, d1, d2, d3⟩ := ih (v + 1) f (am_u τ 5 70 p v (nI (hmL A p v))) (by omega) (by omega) (f1.m1 (fun _ _ _ _ q => by unfold S6t at q; omega) hc) (fun a b ha hb => by rw [(f1 5 65 a b (by unfold S6t; omega)).1]; exact hT a b ha hb)
    refine ⟨ρ, ?_, f1.tr (d2.mono fun o k i j q => by unfold S6t at *; omega), fun u h1 h2 => ?_⟩
    · rw [lp_X8_homes_58.eq_2]
      unfold lb_X8_homes_58
      rw [if_neg (show ¬ (7 : Int32) ≤ nI v from nf (n_le_f (a := 7) (b := v) hv (by omega))), n_in_t hp6 (by omega), cond_true, e1, Option.bind_some]
      dsimp only
      rw [n_in_t hv (by omega), cond_true, n_cl (by omega), n_cl (by omega), n_suc]
      exact d1
    · by_cases c : u = v
      · subst c
        rw [(d2 5 70 p u (by unfold S6t; omega)).1, u_at]
        unfold hoL
        rw [if_pos hp]
      · exact d3 u (by omega) h2
theorem m_h41 {a1 : Int32} (hk : pu_k A) : ∀ (m p fuel : Nat) (σ : am_S), p + m = lne A → m < fuel → pu_m A 5 σ → (∀ q, q < p → ∀ v, v < 7 → σ.1 5 70 q v = nI (hoL A q v)) →
    ∃ τ, lp_X8_homes_41 fuel 5 a1 (nI p) σ = (if a1 = (-1) then some ((τ.1 5 40 0 44), τ) else (bif am_in a1 6 then some ((τ.1 5 72 0 ((a1 : Int32).toNatClampNeg)), τ) else none)) ∧ fr S5H σ τ ∧ hS (some (hoT (hoL A) (lne A) 0 0, hoO (hoL A) (lne A) 0 0)) τ := by
  have hne := hk.2.1
  intro m
  induction m with
  | zero =>
    intro p fuel σ hs hf hc hI
    obtain ⟨f, rfl⟩ : ∃ f, fuel = f + 1 := ⟨fuel - 1, by omega⟩
    obtain rfl : p = lne A := by omega
    obtain ⟨τ, e1, e2, e3, -⟩ := m_seekH (L := hoL A) (ne := lne A) (hoL_le hk) hne (lne A) 7 0 0 [] none (am_u σ 5 40 0 44 mI) (by omega) (by decide) (by rw [pc_00]; rfl) (by rw [List.length_nil]; omega) (Nat.zero_le _) (by rw [u_ne (by omega)]; exact hc.ne) (fun a b ha hb => by rw [u_ne (by omega)]; exact hI a ha b hb) u_at (fun i hi => absurd hi (Nat.not_lt_zero _))
    rw [Nat.zero_add, List.nil_append] at e3
    refine ⟨τ, ?_, (fr.u (by unfold S5H; omega)).tr (e2.mono fun o k i j q => by unfold S5h at q; unfold S5H; omega), e3⟩
    rw [lp_X8_homes_41.eq_2]
    unfold lb_X8_homes_41
    have e1 : fn_X8_seekHomes 7 5 0 0 0 (am_u σ 5 40 0 44 (-1)) = some τ := e1
    rw [hc.ne, if_pos (pt (n_le_t (by omega) (by omega))), e1, Option.bind_some]
  | succ m ih =>
    intro p fuel σ hs hf hc hI
    obtain ⟨f, rfl⟩ : ∃ f, fuel = f + 1 := ⟨fuel - 1, by omega⟩
    have hp : p < lne A := by omega
    obtain ⟨τ, e1, e2, e3, e4⟩ := m_far' hk hc hp (w := 0) (by decide)
    obtain ⟨ρ, d1, d2, d3⟩ := m_h58 (k41 := lp_X8_homes_41 f) (a1 := a1) hk hp 7 0 1000 τ rfl (by decide) e3 e4
    obtain ⟨θ, g1, g2, g3⟩ := ih (p + 1) f ρ (by omega) (by omega) (d2.m1 (fun _ _ _ _ q => by unfold S6t at q; omega) e3) (fun q hq v hv => by
      by_cases c : q = p
      · subst c
        exact d3 v (Nat.zero_le _) hv
      · rw [(d2 5 70 q v (by unfold S6t; omega)).1, (e2 5 70 q v (by unfold S65; omega)).1]
        exact hI q (by omega) v hv)
    refine ⟨θ, ?_, (e2.mono fun o k i j q => by unfold S65 at q; unfold S5H; omega).tr ((d2.mono fun o k i j q => by unfold S6t at q; unfold S5H; omega).tr g2), g3⟩
    rw [← g1, ← d1]
    have e1 : fn_X8_findFar 5 (nI p) 0 (-1) σ = some τ := e1
    rw [lp_X8_homes_41.eq_2]
    rw [lb_X8_homes_41.eq_def, hc.ne, if_neg (nf (n_le_f (by omega) (by omega))), e1, Option.bind_some]
    rfl
end PHO
theorem pv_homes (a1 : Int32) (σ : am_S) (hI : pu_Inv σ) : ∃ (r : Int32) (σ1 σ2 : am_S), fn_X7_homes a1 σ = some (r, σ1) ∧ fn_X8_homes 5 a1 σ1 = some (r, σ2) ∧ pu_Inv σ2 := by
  obtain ⟨A, hI⟩ := hI
  have hk := hI.1.1
  have hm := hI.1.2.2.1
  have hne := hk.2.1
  have hnp := hk.1
  have hc := hI.1.2.1
  have e7 : fn_X7_homes a1 σ = if a1 = mI ∨ gL (lne A) a1 = true then jn_X7_homes_23 a1 σ else fn_X7_refuse (-nI 2) σ := by
    unfold fn_X7_homes
    by_cases c : a1 = mI
    · rw [if_pos (show a1 = (-1 : Int32) from c), if_pos (Or.inl c)]
    · rw [if_neg (show ¬ a1 = (-1 : Int32) from c), c_gperson hc hk, Option.bind_some]
      cases h : gL (lne A) a1
      · rw [if_neg (show ¬ (a1 = mI ∨ false = true) from fun q => q.elim c (fun z => by cases z))]
        exact g_eta (fn_X7_refuse (-nI 2) σ)
      · rw [if_pos (Or.inr rfl)]
        dsimp only
        rw [if_neg (show ¬ (cond true (nI 1) (nI 0) = 0) by decide)]
  have e8 : ∀ τ, pu_m A 5 τ → fn_X8_homes 5 a1 τ = if a1 = mI ∨ gL (lne A) a1 = true then (if lne A = 0 then fn_X8_refuse 5 (-nI 5) τ else lp_X8_homes_41 1000 5 a1 0 τ) else fn_X8_refuse 5 (-nI 2) τ := fun τ hm => by
    unfold fn_X8_homes
    have eU : (nI (lne A) - nI 1).toInt = (lne A : Int) - 1 := by
      rw [Int32.toInt_sub, n_ti (by omega), n_ti (by decide)]
      show ((lne A : Int) - 1).bmod 4294967296 = _
      rw [Int.bmod_eq_of_le (by omega) (by omega)]
    rw [hm.ne, z1, m_in64, Option.bind_some, Int32.toInt_toInt64, Int32.toInt_toInt64, eU, show (-1 : Int64).toInt = -1 by decide]
    have hiff : (-1 ≤ a1.toInt ∧ a1.toInt ≤ (lne A : Int) - 1) ↔ (a1 = mI ∨ gL (lne A) a1 = true) := by
      unfold gL
      rw [decide_eq_true_eq]
      constructor
      · intro h
        by_cases c : a1.toInt = -1
        · exact Or.inl (Int32.toInt_inj.mp (by rw [c]; decide))
        · exact Or.inr (by omega)
      · intro h
        rcases h with h | h
        · rw [h, mI_ti]; omega
        · omega
    by_cases c : a1 = mI ∨ gL (lne A) a1 = true
    · rw [if_pos (hiff.mpr c), if_pos c]
      dsimp only
      rw [if_neg (show ¬ (1 : Int32) = 0 by decide), hm.ne, z0, i_eq (by omega) (by omega), g_eta]
      rfl
    · rw [if_neg (fun q => c (hiff.mp q)), if_neg c]
      dsimp only
      rw [if_pos (show (0 : Int32) = 0 from rfl)]
      exact g_eta _
  by_cases c : a1 = mI ∨ gL (lne A) a1 = true
  rotate_left 1
  · exact pv_t hI 0 (by decide) (by rw [e7, if_neg c]) (fun σ1 hJ hF => by rw [e8 σ1 hJ.2.2.1, if_neg c])
  by_cases n0 : lne A = 0
  · refine pv_t hI 3 (by decide) ?_ (fun σ1 hJ hF => by rw [e8 σ1 hJ.2.2.1, if_pos c, if_pos n0])
    rw [e7, if_pos c]
    unfold jn_X7_homes_23
    rw [hc.ne, n0, if_pos (show nI 0 = (0 : Int32) from rfl)]
    exact g_eta _
  obtain ⟨τ, d1, d2, d3, d4⟩ := c_settle hk hc
  have d2X : fr SX σ τ := d2.mono fun o k i j q => by unfold SHo at q; unfold SX; omega
  have f7 : fn_X7_homes a1 σ = (if a1 = (-1) then some (nI (hoT (hoL A) (lne A) 0 0), τ) else (bif am_in a1 6 then some ((τ.1 13 28 0 ((a1 : Int32).toNatClampNeg)), τ) else none)) := by
    rw [e7, if_pos c]
    unfold jn_X7_homes_23
    rw [hc.ne, if_neg (show ¬ nI (lne A) = (0 : Int32) from nf (n_eq_f n0 (by omega) (by decide))), d1, Option.bind_some]
  have f8 : ∀ σ1, pu_m A 5 σ1 → ∃ ρ, fn_X8_homes 5 a1 σ1 = (if a1 = (-1) then some ((ρ.1 5 40 0 44), ρ) else (bif am_in a1 6 then some ((ρ.1 5 72 0 ((a1 : Int32).toNatClampNeg)), ρ) else none)) ∧ fr SX σ1 ρ ∧ hS (some (hoT (hoL A) (lne A) 0 0, hoO (hoL A) (lne A) 0 0)) ρ := fun σ1 hm1 => by
    obtain ⟨ρ, g1, g2, g3⟩ := m_h41 (a1 := a1) hk (lne A) 0 1000 σ1 (by omega) (by omega) hm1 (fun q hq => absurd hq (Nat.not_lt_zero _))
    refine ⟨ρ, ?_, g2.mono (fun o k i j q => by unfold S5H at q; unfold SX; omega), g3⟩
    rw [e8 σ1 hm1, if_pos c, if_neg n0]
    exact g1
  by_cases c1 : a1 = mI
  · refine pv_q hI (r := nI (hoT (hoL A) (lne A) 0 0)) ⟨τ, ?_, d2X⟩ (fun σ1 hI1 => ?_)
    · rw [f7, if_pos (show a1 = (-1 : Int32) from c1)]
    · obtain ⟨ρ, g1, g2, g3⟩ := f8 σ1 hI1.1.2.2.1
      refine ⟨ρ, ?_, g2⟩
      rw [g1, if_pos (show a1 = (-1 : Int32) from c1), g3.2.1]
  · obtain ⟨p, rfl, lp⟩ := gL_n (c.resolve_left c1)
    have hp6 : p < 6 := by omega
    refine pv_q hI (r := nI ((hoO (hoL A) (lne A) 0 0).getD p 0)) ⟨τ, ?_, d2X⟩ (fun σ1 hI1 => ?_)
    · rw [f7, if_neg (show ¬ nI p = (-1 : Int32) from c1), n_in_t hp6 (by omega), cond_true, n_cl (by omega), d4 p lp]
    · obtain ⟨ρ, g1, g2, g3⟩ := f8 σ1 hI1.1.2.2.1
      refine ⟨ρ, ?_, g2⟩
      rw [g1, if_neg (show ¬ nI p = (-1 : Int32) from c1), n_in_t hp6 (by omega), cond_true, n_cl (by omega), g3.2.2.2 p (by rw [d3]; exact lp)]
