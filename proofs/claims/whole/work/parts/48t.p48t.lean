/-! ===== the draft: statements ===== -/
def rdK (b : Nat → Nat) (n e lo B : Nat) (K : Nat → Nat → Nat ⊕ (pu_L × Nat)) : Nat ⊕ (pu_L × Nat) := match rdN b n e lo B with
  | none => Sum.inl (skN b n e)
  | some q => K q.1 q.2
/-- the second valley of a pass isn't the first -/
def rdQ (b : Nat → Nat) (n e v0 : Nat) (K : Nat → Nat → Nat ⊕ (pu_L × Nat)) : Nat ⊕ (pu_L × Nat) := match rdN b n e 0 7 with
  | none => Sum.inl (skN b n e)
  | some q => if q.1 = v0 then Sum.inl (skN b n e) else K q.1 q.2
def addP (A : pu_L) (v u f h : Nat) : pu_L := sN (sP (sP (sP (sP A (lnp A) 0 v) (lnp A) 1 u) (lnp A) 2 f) (lnp A) 3 h) (lnp A + 1) (lne A) (lbk A)
def addE (A : pu_L) (k a v : Nat) : pu_L := sN (sE (sE (sE (sE (sE (sE (sE (sE A (lne A) 0 k) (lne A) 1 a) (lne A) 2 v) (lne A) 3 v) (lne A) 4 0) (lne A) 5 20) (lne A) 6 0) (lne A) 7 0) (lnp A) (lne A + 1) (lbk A)
def boV (b : Nat → Nat) (n w : Nat) (A : pu_L) (e : Nat) : Nat ⊕ (pu_L × Nat) := rdK b n e 0 7 fun v e1 => rdK b n e1 (if w = 1 then 1 else 0) (soB A (w + 1)) fun x e2 => Sum.inr (sV A w v x, e2)
def boB (b : Nat → Nat) (n : Nat) (A : pu_L) (e : Nat) : Nat ⊕ (pu_L × Nat) := rdK b n e 0 10 fun x e1 => Sum.inr (sN A (lnp A) (lne A) x, e1)
def boP (b : Nat → Nat) (n : Nat) (A : pu_L) (e : Nat) : Nat ⊕ (pu_L × Nat) := rdK b n e 0 7 fun v e1 => rdQ b n e1 v fun u e2 => rdK b n e2 0 10 fun f e3 => rdK b n e3 1 13 fun h e4 => Sum.inr (addP A v u f h, e4)
def boE (b : Nat → Nat) (n : Nat) (A : pu_L) (e : Nat) : Nat ⊕ (pu_L × Nat) := rdK b n e 0 6 fun k e1 => rdK b n e1 0 10 fun a e2 => rdK b n e2 0 7 fun v e3 => Sum.inr (addE A k a v, e3)
def boD (b : Nat → Nat) (n : Nat) (A : pu_L) (e : Nat) : Nat ⊕ (pu_L × Nat) := rdK b n e 0 (lne A) fun p e1 => rdK b n e1 0 7 fun v e2 => Sum.inr (sE A p 4 (stN (lE A p 4) v), e2)
def boA (b : Nat → Nat) (n : Nat) (A : pu_L) (e : Nat) : Nat ⊕ (pu_L × Nat) := rdK b n e 0 (lne A) fun p e1 => rdK b n e1 0 7 fun v e2 => Sum.inr (sE A p 3 v, e2)
def boU (b : Nat → Nat) (n : Nat) (A : pu_L) (e : Nat) : Nat ⊕ (pu_L × Nat) := rdK b n e 0 (lne A) fun p e1 => rdK b n e1 0 1000 fun x e2 => Sum.inr (sE A p 5 x, e2)
/-- what a statement that begins with the word w does -/
def boN (b : Nat → Nat) (n w : Nat) (A : pu_L) (e : Nat) : Nat ⊕ (pu_L × Nat) := if w = 3 then boB b n A e else if w = 4 then boP b n A e else if w = 5 then boE b n A e else if w = 6 then boD b n A e else if w = 7 then boA b n A e else if w = 8 then boU b n A e else boV b n w A e
/-- is there room? -/
def roN (A : pu_L) (w : Nat) : Prop := (w = 4 → lnp A < 3) ∧ (w = 5 → lne A < 6)
/-- which word stands there; 9: none -/
def wdI (b : Nat → Nat) (n s : Nat) : Nat := if kdN b n s = 1 then fsN (fun w => wdB b w s (enN b n s)) 9 0 else 9
section PST9
variable {A : pu_L} {b : Nat → Nat} {n e i k s lo B w : Nat} {σ τ : am_S} {K : Nat → Nat → Nat ⊕ (pu_L × Nat)}
theorem rK_0 (h : rdN b n e lo B = none) : rdK b n e lo B K = Sum.inl (skN b n e) := by unfold rdK; rw [h]
theorem rK_1 {v e' : Nat} (h : rdN b n e lo B = some (v, e')) : rdK b n e lo B K = K v e' := by unfold rdK; rw [h]
theorem rK_i {z : pu_L × Nat} (h : rdK b n e lo B K = Sum.inr z) : ∃ v e', rdN b n e lo B = some (v, e') ∧ K v e' = Sum.inr z := by
  cases c : rdN b n e lo B with
  | none => rw [rK_0 c] at h; cases h
  | some q =>
    obtain ⟨v, e'⟩ := q
    rw [rK_1 c] at h
    exact ⟨v, e', rfl, h⟩
theorem rQ_i {v0 : Nat} {z : pu_L × Nat} (h : rdQ b n e v0 K = Sum.inr z) : ∃ v e', rdN b n e 0 7 = some (v, e') ∧ v ≠ v0 ∧ K v e' = Sum.inr z := by
  unfold rdQ at h
  cases c : rdN b n e 0 7 with
  | none => rw [c] at h; cases h
  | some q =>
    obtain ⟨v, e'⟩ := q
    rw [c] at h
    have h : (if v = v0 then Sum.inl (skN b n e) else K v e') = Sum.inr z := h
    by_cases d : v = v0
    · rw [if_pos d] at h; cases h
    · rw [if_neg d] at h
      exact ⟨v, e', rfl, d, h⟩
theorem addP_k (hk : pu_k A) (hr : lnp A < 3) {v u f h : Nat} (hv : v < 7) (hu : u < 7) (hf : f < 10) (h1 : 1 ≤ h) (h2 : h < 13) : pu_k (addP A v u f h) := by
  refine ⟨by show lnp A + 1 ≤ 3; omega, hk.2.1, hk.2.2.1, hk.2.2.2.1, fun r hr => ?_, hk.2.2.2.2.2⟩
  have hr : r < lnp A + 1 := hr
  by_cases c : r = lnp A
  · subst c
    refine ⟨?_, ?_, ?_, ?_, ?_⟩ <;> simp [lP, sP, sN, addP] <;> omega
  · have hh := hk.2.2.2.2.1 r (by omega)
    refine ⟨?_, ?_, ?_, ?_, ?_⟩ <;> simp [lP, sP, sN, addP, c] <;> simp only [lP] at hh <;> omega
theorem addE_k (hk : pu_k A) (hr : lne A < 6) {k a v : Nat} (h1 : k < 6) (h2 : a < 10) (hv : v < 7) : pu_k (addE A k a v) := by
  refine ⟨hk.1, by show lne A + 1 ≤ 6; omega, hk.2.2.1, hk.2.2.2.1, hk.2.2.2.2.1, fun r hr => ?_⟩
  have hr : r < lne A + 1 := hr
  by_cases c : r = lne A
  · subst c
    refine ⟨?_, ?_, ?_, ?_, ?_, ?_, ?_, ?_⟩ <;> simp [lE, sE, sN, addE] <;> omega
  · have hh := hk.2.2.2.2.2 r (by omega)
    refine ⟨?_, ?_, ?_, ?_, ?_, ?_, ?_, ?_⟩ <;> simp [lE, sE, sN, addE, c] <;> simp only [lE] at hh <;> omega
theorem bo_ok (hk : pu_k A) (hr : roN A w) (he : e ≤ n) {A' : pu_L} {e' : Nat} (hw : w < 9) (h : boN b n w A e = Sum.inr (A', e')) : pu_k A' ∧ lne A ≤ lne A' ∧ e < e' ∧ e' ≤ n := by
  unfold boN at h
  by_cases w3 : w = 3
  · rw [if_pos w3] at h
    obtain ⟨x, e1, q1, h⟩ := rK_i h
    cases h
    have g1 := rd_le he q1
    exact ⟨hk.sB (by omega), Nat.le_refl _, g1.2.2.1, g1.2.2.2⟩
  rw [if_neg w3] at h
  by_cases w4 : w = 4
  · rw [if_pos w4] at h
    obtain ⟨v, e1, q1, h⟩ := rK_i h
    obtain ⟨u, e2, q2, -, h⟩ := rQ_i h
    obtain ⟨f, e3, q3, h⟩ := rK_i h
    obtain ⟨t, e4, q4, h⟩ := rK_i h
    cases h
    have g1 := rd_le he q1
    have g2 := rd_le g1.2.2.2 q2
    have g3 := rd_le g2.2.2.2 q3
    have g4 := rd_le g3.2.2.2 q4
    exact ⟨addP_k hk (hr.1 w4) g1.2.1 g2.2.1 g3.2.1 g4.1 g4.2.1, Nat.le_refl _, by omega, g4.2.2.2⟩
  rw [if_neg w4] at h
  by_cases w5 : w = 5
  · rw [if_pos w5] at h
    obtain ⟨v, e1, q1, h⟩ := rK_i h
    obtain ⟨u, e2, q2, h⟩ := rK_i h
    obtain ⟨f, e3, q3, h⟩ := rK_i h
    cases h
    have g1 := rd_le he q1
    have g2 := rd_le g1.2.2.2 q2
    have g3 := rd_le g2.2.2.2 q3
    exact ⟨addE_k hk (hr.2 w5) g1.2.1 g2.2.1 g3.2.1, Nat.le_succ _, by omega, g3.2.2.2⟩
  rw [if_neg w5] at h
  by_cases w6 : w = 6
  · rw [if_pos w6] at h
    obtain ⟨v, e1, q1, h⟩ := rK_i h
    obtain ⟨u, e2, q2, h⟩ := rK_i h
    cases h
    have g1 := rd_le he q1
    have g2 := rd_le g1.2.2.2 q2
    have hd := (pb_of hk g1.2.1).2.2.2.2.1
    exact ⟨hk.sE (by have := (cl_le hd g2.2.1).2.1; omega), Nat.le_refl _, by omega, g2.2.2.2⟩
  rw [if_neg w6] at h
  by_cases w7 : w = 7
  · rw [if_pos w7] at h
    obtain ⟨v, e1, q1, h⟩ := rK_i h
    obtain ⟨u, e2, q2, h⟩ := rK_i h
    cases h
    have g1 := rd_le he q1
    have g2 := rd_le g1.2.2.2 q2
    exact ⟨hk.sE (by omega), Nat.le_refl _, by omega, g2.2.2.2⟩
  rw [if_neg w7] at h
  by_cases w8 : w = 8
  · rw [if_pos w8] at h
    obtain ⟨v, e1, q1, h⟩ := rK_i h
    obtain ⟨u, e2, q2, h⟩ := rK_i h
    cases h
    have g1 := rd_le he q1
    have g2 := rd_le g1.2.2.2 q2
    exact ⟨hk.sE (by omega), Nat.le_refl _, by omega, g2.2.2.2⟩
  rw [if_neg w8] at h
  obtain ⟨v, e1, q1, h⟩ := rK_i h
  obtain ⟨u, e2, q2, h⟩ := rK_i h
  cases h
  have g1 := rd_le he q1
  have g2 := rd_le g1.2.2.2 q2
  refine ⟨hk.sV ?_, Nat.le_refl _, by omega, g2.2.2.2⟩
  have g3 := g2.1
  have g4 := g2.2.1
  rcases (show w = 0 ∨ w = 1 ∨ w = 2 by omega) with rfl | rfl | rfl
  · have g4 : u < 10 := g4
    omega
  · have g4 : u < 13 := g4
    have g3 : 1 ≤ u := g3
    omega
  · have g4 : u < 21 := g4
    omega
/-! the class -/
def ScL : Nat → Nat → Nat → Nat → Prop := fun o k _ j => o = 3 ∨ (o = 11 ∧ (k = 16 ∨ (k = 14 ∧ 4 ≤ j ∧ j ≤ 6)))
def resC (σ : am_S) (r : Nat ⊕ (pu_L × Nat)) (x : Option (Int32 × am_S)) : Prop := match r with
  | Sum.inl f => ∃ τ, x = some (0, τ) ∧ fr ScL σ τ ∧ τ.1 11 14 0 5 = nI f
  | Sum.inr q => ∃ τ, x = some (1, τ) ∧ fr ScL σ τ ∧ pu_c q.1 3 τ ∧ τ.1 11 14 0 6 = nI q.2
theorem resC.of {r : Nat ⊕ (pu_L × Nat)} {x : Option (Int32 × am_S)} (h : fr ScL σ τ) (q : resC τ r x) : resC σ r x := by
  cases r with
  | inl f =>
    obtain ⟨ρ, q1, q2, q3⟩ := q
    exact ⟨ρ, q1, h.tr q2, q3⟩
  | inr z =>
    obtain ⟨ρ, q1, q2, q3⟩ := q
    exact ⟨ρ, q1, h.tr q2, q3⟩
theorem FN_S {I : Nat} : ∀ o k i j, FN I o k i j → ScL o k i j := fun o k i j q => by unfold FN at q; unfold ScL; omega
theorem c_rdK {f : Nat} (hn : n ≤ 250) (hb : ∀ i, i < n → b i < 256) (hc : tcC b n σ) (he : e ≤ n) (h6 : σ.1 11 14 0 6 = nI e) (hk : pu_k A) (hA : pu_c A 3 σ) (hw : w < 9) (hi : i < 4) (hs : s < 8) (hsh : (am_stt.getD 1 []).getD (w * 4 + i) 0 = nI s) (hlo : lo = if s = 2 then 1 else 0) (hB : B = soB A s)
    (hK : ∀ v e' τ, rdN b n e lo B = some (v, e') → fr (FN i) σ τ → τ.1 11 16 0 i = nI v → τ.1 11 14 0 6 = nI e' → tcC b n τ → pu_c A 3 τ → resC τ (K v e') (lp_X4_readStatement_38 f (nI w) (nI (i + 1)) τ)) : resC σ (rdK b n e lo B K) (lp_X4_readStatement_38 (f + 1) (nI w) (nI i) σ) := by
  rw [lp_X4_readStatement_38.eq_2]
  unfold lb_X4_readStatement_38 jn_X4_readStatement_69
  rw [z4, if_neg (nf (n_le_f (by omega) (by omega))), n_mul, nI_add, n_in_t (show w * 4 + i < 36 by omega) (by omega), cond_true, n_cl (by omega), hsh, if_neg (show ¬ nI s = (-1 : Int32) from nf (n_neg1 (by omega))), n_suc]
  rcases c_num (lo := lo) (B := B) hn hc hb he h6 hk hA (a1 := nI i) (a2 := nI s) rfl rfl hi hs hlo hB with ⟨g1, τ, g2, g3, g4⟩ | ⟨v, e', τ, g1, g2, g3, g4, g5⟩
  · rw [rK_0 g1, g2, Option.bind_some]
    exact ⟨τ, rfl, g3.mono FN_S, g4⟩
  · rw [rK_1 g1, g2, Option.bind_some]
    dsimp only
    rw [if_neg (show ¬ (1 : Int32) = 0 by decide)]
    exact (hK v e' τ g1 g3 g4 g5 (hc.fr g3 (fun _ _ _ q => by unfold FN at q; omega)) (g3.c (fun _ _ _ q => by unfold FN at q; omega) hA)).of (g3.mono FN_S)
theorem c_rdQ {f : Nat} (hn : n ≤ 250) (hb : ∀ i, i < n → b i < 256) (hc : tcC b n σ) (he : e ≤ n) (h6 : σ.1 11 14 0 6 = nI e) (hk : pu_k A) (hA : pu_c A 3 σ) {v0 : Nat} (hv0 : v0 < 7) (h0 : σ.1 11 16 0 0 = nI v0)
    (hK : ∀ v e' τ, rdN b n e 0 7 = some (v, e') → fr (FN 1) σ τ → τ.1 11 16 0 1 = nI v → τ.1 11 14 0 6 = nI e' → tcC b n τ → pu_c A 3 τ → resC τ (K v e') (lp_X4_readStatement_38 f (nI 4) (nI 2) τ)) : resC σ (rdQ b n e v0 K) (lp_X4_readStatement_38 (f + 1) (nI 4) (nI 1) σ) := by
  rw [lp_X4_readStatement_38.eq_2]
  unfold lb_X4_readStatement_38 jn_X4_readStatement_69 rdQ
  rw [z4, if_neg (by decide), show ((am_stt.getD 1 []).getD (((nI 4 * nI 4 + nI 1 : Int32)).toNatClampNeg) 0) = nI 8 by decide, show am_in (nI 4 * nI 4 + nI 1) 36 = true by decide, cond_true, if_neg (by decide), n_suc]
  rcases c_num8 hn hc hb he h6 hk hA (a1 := nI 1) (a2 := nI 8) rfl rfl hv0 h0 with ⟨g1, τ, g2, g3, g4⟩ | ⟨v, e', τ, g1, g0, g2, g3, g4, g5⟩
  · rw [g2, Option.bind_some]
    have hr : (match rdN b n e 0 7 with
      | none => Sum.inl (skN b n e)
      | some q => if q.1 = v0 then Sum.inl (skN b n e) else K q.1 q.2) = Sum.inl (skN b n e) := by
      rcases g1 with g1 | ⟨e', g1⟩
      · rw [g1]
      · rw [g1]
        exact if_pos rfl
    rw [hr]
    exact ⟨τ, rfl, g3.mono FN_S, g4⟩
  · have hr : (match rdN b n e 0 7 with
      | none => Sum.inl (skN b n e)
      | some q => if q.1 = v0 then Sum.inl (skN b n e) else K q.1 q.2) = K v e' := by
      rw [g1]
      exact if_neg g0
    rw [hr, g2, Option.bind_some]
    dsimp only
    rw [if_neg (show ¬ (1 : Int32) = 0 by decide)]
    exact (hK v e' τ g1 g3 g4 g5 (hc.fr g3 (fun _ _ _ q => by unfold FN at q; omega)) (g3.c (fun _ _ _ q => by unfold FN at q; omega) hA)).of (g3.mono FN_S)
theorem c_sk {f : Nat} (hw : w < 9) (hi : i < 4) (hsh : (am_stt.getD 1 []).getD (w * 4 + i) 0 = -1) : lp_X4_readStatement_38 (f + 1) (nI w) (nI i) σ = lp_X4_readStatement_38 f (nI w) (nI (i + 1)) σ := by
  rw [lp_X4_readStatement_38.eq_2]
  unfold lb_X4_readStatement_38 jn_X4_readStatement_69
  rw [z4, if_neg (nf (n_le_f (by omega) (by omega))), n_mul, nI_add, n_in_t (show w * 4 + i < 36 by omega) (by omega), cond_true, n_cl (by omega), hsh, if_pos rfl, n_suc]
theorem c_en {f : Nat} : lp_X4_readStatement_38 (f + 1) (nI w) (nI 4) σ = (fn_X4_comeToPass (nI w) σ).bind fun q5 => some (1, q5) := by
  rw [lp_X4_readStatement_38.eq_2]
  unfold lb_X4_readStatement_38
  rw [if_pos (by decide)]
theorem c_bo0 (hn : n ≤ 250) (hb : ∀ i, i < n → b i < 256) (hc : tcC b n σ) (he : e ≤ n) (h6 : σ.1 11 14 0 6 = nI e) (hk : pu_k A) (hA : pu_c A 3 σ) : resC σ (boV b n 0 A e) (lp_X4_readStatement_38 1000 (nI 0) (nI 0) σ) := by
  unfold boV
  refine c_rdK (w := 0) (i := 0) (s := 0) hn hb hc he h6 hk hA (by omega) (by decide) (by omega) (by decide) (by rfl) (by rfl) (fun v e1 τ0 q0 f0 v0 s0 c0 A0 => ?_)
  have g0 := rd_le he q0
  refine c_rdK (w := 0) (i := 1) (s := 1) hn hb c0 g0.2.2.2 s0 hk A0 (by omega) (by decide) (by omega) (by decide) (by rfl) (by rfl) (fun x e2 τ1 q1 f1 v1 s1 c1 A1 => ?_)
  have g1 := rd_le g0.2.2.2 q1
  have w0 : τ1.1 11 16 0 0 = nI v := by rw [(f1 11 16 0 0 (by unfold FN; omega)).1]; exact v0
  have w1 : τ1.1 11 16 0 1 = nI x := by exact v1
  rw [c_sk (i := 2) (by decide) (by decide) (by decide), c_sk (i := 3) (by decide) (by decide) (by decide), c_en]
  refine ⟨am_u τ1 3 4 0 v (nI x), ?_, fr.u (by unfold ScL; omega), A1.sV, ?_⟩
  · unfold fn_X4_comeToPass jn_X4_comeToPass_52
    rw [if_pos (show nI 0 = (0 : Int32) from rfl), w0, w1, n_in_t (show 0 < 3 by decide) (by decide), n_in_t g0.2.1 (by omega), cond_true, cond_true, n_cl (by omega), n_cl (by omega)]
    rfl
  · rw [u_ne (by omega)]
    exact s1
theorem c_bo1 (hn : n ≤ 250) (hb : ∀ i, i < n → b i < 256) (hc : tcC b n σ) (he : e ≤ n) (h6 : σ.1 11 14 0 6 = nI e) (hk : pu_k A) (hA : pu_c A 3 σ) : resC σ (boV b n 1 A e) (lp_X4_readStatement_38 1000 (nI 1) (nI 0) σ) := by
  unfold boV
  refine c_rdK (w := 1) (i := 0) (s := 0) hn hb hc he h6 hk hA (by omega) (by decide) (by omega) (by decide) (by rfl) (by rfl) (fun v e1 τ0 q0 f0 v0 s0 c0 A0 => ?_)
  have g0 := rd_le he q0
  refine c_rdK (w := 1) (i := 1) (s := 2) hn hb c0 g0.2.2.2 s0 hk A0 (by omega) (by decide) (by omega) (by decide) (by rfl) (by rfl) (fun x e2 τ1 q1 f1 v1 s1 c1 A1 => ?_)
  have g1 := rd_le g0.2.2.2 q1
  have w0 : τ1.1 11 16 0 0 = nI v := by rw [(f1 11 16 0 0 (by unfold FN; omega)).1]; exact v0
  have w1 : τ1.1 11 16 0 1 = nI x := by exact v1
  rw [c_sk (i := 2) (by decide) (by decide) (by decide), c_sk (i := 3) (by decide) (by decide) (by decide), c_en]
  refine ⟨am_u τ1 3 4 1 v (nI x), ?_, fr.u (by unfold ScL; omega), A1.sV, ?_⟩
  · unfold fn_X4_comeToPass jn_X4_comeToPass_52
    rw [if_neg (show ¬ nI 1 = (0 : Int32) by decide), if_pos (show nI 1 = (1 : Int32) from rfl), w0, w1, n_in_t (show 1 < 3 by decide) (by decide), n_in_t g0.2.1 (by omega), cond_true, cond_true, n_cl (by omega), n_cl (by omega)]
    rfl
  · rw [u_ne (by omega)]
    exact s1
theorem c_bo2 (hn : n ≤ 250) (hb : ∀ i, i < n → b i < 256) (hc : tcC b n σ) (he : e ≤ n) (h6 : σ.1 11 14 0 6 = nI e) (hk : pu_k A) (hA : pu_c A 3 σ) : resC σ (boV b n 2 A e) (lp_X4_readStatement_38 1000 (nI 2) (nI 0) σ) := by
  unfold boV
  refine c_rdK (w := 2) (i := 0) (s := 0) hn hb hc he h6 hk hA (by omega) (by decide) (by omega) (by decide) (by rfl) (by rfl) (fun v e1 τ0 q0 f0 v0 s0 c0 A0 => ?_)
  have g0 := rd_le he q0
  refine c_rdK (w := 2) (i := 1) (s := 3) hn hb c0 g0.2.2.2 s0 hk A0 (by omega) (by decide) (by omega) (by decide) (by rfl) (by rfl) (fun x e2 τ1 q1 f1 v1 s1 c1 A1 => ?_)
  have g1 := rd_le g0.2.2.2 q1
  have w0 : τ1.1 11 16 0 0 = nI v := by rw [(f1 11 16 0 0 (by unfold FN; omega)).1]; exact v0
  have w1 : τ1.1 11 16 0 1 = nI x := by exact v1
  rw [c_sk (i := 2) (by decide) (by decide) (by decide), c_sk (i := 3) (by decide) (by decide) (by decide), c_en]
  refine ⟨am_u τ1 3 4 2 v (nI x), ?_, fr.u (by unfold ScL; omega), A1.sV, ?_⟩
  · unfold fn_X4_comeToPass jn_X4_comeToPass_52
    rw [if_neg (show ¬ nI 2 = (0 : Int32) by decide), if_neg (show ¬ nI 2 = (1 : Int32) by decide), if_pos (show nI 2 = (2 : Int32) from rfl), w0, w1, n_in_t (show 2 < 3 by decide) (by decide), n_in_t g0.2.1 (by omega), cond_true, cond_true, n_cl (by omega), n_cl (by omega)]
    rfl
  · rw [u_ne (by omega)]
    exact s1
theorem c_bo3 (hn : n ≤ 250) (hb : ∀ i, i < n → b i < 256) (hc : tcC b n σ) (he : e ≤ n) (h6 : σ.1 11 14 0 6 = nI e) (hk : pu_k A) (hA : pu_c A 3 σ) : resC σ (boB b n A e) (lp_X4_readStatement_38 1000 (nI 3) (nI 0) σ) := by
  unfold boB
  refine c_rdK (w := 3) (i := 0) (s := 1) hn hb hc he h6 hk hA (by omega) (by decide) (by omega) (by decide) (by rfl) (by rfl) (fun x e1 τ0 q0 f0 v0 s0 c0 A0 => ?_)
  have g0 := rd_le he q0
  have w0 : τ0.1 11 16 0 0 = nI x := by exact v0
  rw [c_sk (i := 1) (by decide) (by decide) (by decide), c_sk (i := 2) (by decide) (by decide) (by decide), c_sk (i := 3) (by decide) (by decide) (by decide), c_en]
  refine ⟨am_u τ0 3 2 0 5 (nI x), ?_, fr.u (by unfold ScL; omega), A0.sB, ?_⟩
  · unfold fn_X4_comeToPass
    rw [if_neg (show ¬ nI 3 = (0 : Int32) by decide), if_neg (show ¬ nI 3 = (1 : Int32) by decide), if_neg (show ¬ nI 3 = (2 : Int32) by decide), if_pos (show nI 3 = (3 : Int32) from rfl), w0]
    rfl
  · rw [u_ne (by omega)]
    exact s0
theorem c_bo4 (hn : n ≤ 250) (hb : ∀ i, i < n → b i < 256) (hc : tcC b n σ) (he : e ≤ n) (h6 : σ.1 11 14 0 6 = nI e) (hk : pu_k A) (hA : pu_c A 3 σ) (hr : lnp A < 3) : resC σ (boP b n A e) (lp_X4_readStatement_38 1000 (nI 4) (nI 0) σ) := by
  unfold boP
  refine c_rdK (w := 4) (i := 0) (s := 0) hn hb hc he h6 hk hA (by omega) (by decide) (by omega) (by decide) (by rfl) (by rfl) (fun v e1 τ0 q0 f0 v0 s0 c0 A0 => ?_)
  have g0 := rd_le he q0
  refine c_rdQ hn hb c0 g0.2.2.2 s0 hk A0 g0.2.1 v0 (fun u e2 τ1 q1 f1 v1 s1 c1 A1 => ?_)
  have g1 := rd_le g0.2.2.2 q1
  refine c_rdK (w := 4) (i := 2) (s := 1) hn hb c1 g1.2.2.2 s1 hk A1 (by omega) (by decide) (by omega) (by decide) (by rfl) (by rfl) (fun f e3 τ2 q2 f2 v2 s2 c2 A2 => ?_)
  have g2 := rd_le g1.2.2.2 q2
  refine c_rdK (w := 4) (i := 3) (s := 2) hn hb c2 g2.2.2.2 s2 hk A2 (by omega) (by decide) (by omega) (by decide) (by rfl) (by rfl) (fun h e4 τ3 q3 f3 v3 s3 c3 A3 => ?_)
  have g3 := rd_le g2.2.2.2 q3
  have w0 : τ3.1 11 16 0 0 = nI v := by rw [(f3 11 16 0 0 (by unfold FN; omega)).1, (f2 11 16 0 0 (by unfold FN; omega)).1, (f1 11 16 0 0 (by unfold FN; omega)).1]; exact v0
  have w1 : τ3.1 11 16 0 1 = nI u := by rw [(f3 11 16 0 1 (by unfold FN; omega)).1, (f2 11 16 0 1 (by unfold FN; omega)).1]; exact v1
  have w2 : τ3.1 11 16 0 2 = nI f := by rw [(f3 11 16 0 2 (by unfold FN; omega)).1]; exact v2
  have w3 : τ3.1 11 16 0 3 = nI h := by exact v3
  rw [c_en]
  have c7 := A3.sP (r := lnp A) (j := 0) (x := v) |>.sP (r := lnp A) (j := 1) (x := u) |>.sP (r := lnp A) (j := 2) (x := f) |>.sP (r := lnp A) (j := 3) (x := h) |>.sNp (np := lnp A + 1)
  refine ⟨_, ?_, ?_, c7, ?_⟩
  · unfold fn_X4_comeToPass fn_X0_addPass
    rw [if_neg (show ¬ nI 4 = (0 : Int32) by decide), if_neg (show ¬ nI 4 = (1 : Int32) by decide), if_neg (show ¬ nI 4 = (2 : Int32) by decide), if_neg (show ¬ nI 4 = (3 : Int32) by decide), if_pos (show nI 4 = (4 : Int32) from rfl), w0, w1, w2, w3, A3.np, z3, if_pos (pt (n_lt_t hr (by omega))), n_in_t hr (by omega), cond_true, n_cl (by omega), n_suc]
    rfl
  · exact (fr.u (by unfold ScL; omega)).tr ((fr.u (by unfold ScL; omega)).tr ((fr.u (by unfold ScL; omega)).tr ((fr.u (by unfold ScL; omega)).tr (fr.u (by unfold ScL; omega)))))
  · rw [u_ne (by omega), u_ne (by omega), u_ne (by omega), u_ne (by omega), u_ne (by omega)]
    exact s3
theorem c_bo5 (hn : n ≤ 250) (hb : ∀ i, i < n → b i < 256) (hc : tcC b n σ) (he : e ≤ n) (h6 : σ.1 11 14 0 6 = nI e) (hk : pu_k A) (hA : pu_c A 3 σ) (hr : lne A < 6) : resC σ (boE b n A e) (lp_X4_readStatement_38 1000 (nI 5) (nI 0) σ) := by
  unfold boE
  refine c_rdK (w := 5) (i := 0) (s := 4) hn hb hc he h6 hk hA (by omega) (by decide) (by omega) (by decide) (by rfl) (by rfl) (fun k e1 τ0 q0 f0 v0 s0 c0 A0 => ?_)
  have g0 := rd_le he q0
  refine c_rdK (w := 5) (i := 1) (s := 5) hn hb c0 g0.2.2.2 s0 hk A0 (by omega) (by decide) (by omega) (by decide) (by rfl) (by rfl) (fun a e2 τ1 q1 f1 v1 s1 c1 A1 => ?_)
  have g1 := rd_le g0.2.2.2 q1
  refine c_rdK (w := 5) (i := 2) (s := 0) hn hb c1 g1.2.2.2 s1 hk A1 (by omega) (by decide) (by omega) (by decide) (by rfl) (by rfl) (fun v e3 τ2 q2 f2 v2 s2 c2 A2 => ?_)
  have g2 := rd_le g1.2.2.2 q2
  have w0 : τ2.1 11 16 0 0 = nI k := by rw [(f2 11 16 0 0 (by unfold FN; omega)).1, (f1 11 16 0 0 (by unfold FN; omega)).1]; exact v0
  have w1 : τ2.1 11 16 0 1 = nI a := by rw [(f2 11 16 0 1 (by unfold FN; omega)).1]; exact v1
  have w2 : τ2.1 11 16 0 2 = nI v := by exact v2
  rw [c_sk (i := 3) (by decide) (by decide) (by decide), c_en]
  have c7 := A2 |>.sE (p := lne A) (j := 0) (x := k) |>.sE (p := lne A) (j := 1) (x := a) |>.sE (p := lne A) (j := 2) (x := v) |>.sE (p := lne A) (j := 3) (x := v) |>.sE (p := lne A) (j := 4) (x := 0) |>.sE (p := lne A) (j := 5) (x := 20) |>.sE (p := lne A) (j := 6) (x := 0) |>.sE (p := lne A) (j := 7) (x := 0) |>.sNe (ne := lne A + 1)
  refine ⟨_, ?_, ?_, c7, ?_⟩
  · unfold fn_X4_comeToPass fn_X0_addPerson
    rw [if_neg (show ¬ nI 5 = (0 : Int32) by decide), if_neg (show ¬ nI 5 = (1 : Int32) by decide), if_neg (show ¬ nI 5 = (2 : Int32) by decide), if_neg (show ¬ nI 5 = (3 : Int32) by decide), if_neg (show ¬ nI 5 = (4 : Int32) by decide), if_pos (show nI 5 = (5 : Int32) from rfl), w0, w1, w2, A2.ne, z6, if_pos (pt (n_lt_t hr (by omega))), n_in_t hr (by omega), cond_true, n_cl (by omega), n_suc]
    rfl
  · exact (fr.u (by unfold ScL; omega)).tr ((fr.u (by unfold ScL; omega)).tr ((fr.u (by unfold ScL; omega)).tr ((fr.u (by unfold ScL; omega)).tr ((fr.u (by unfold ScL; omega)).tr ((fr.u (by unfold ScL; omega)).tr ((fr.u (by unfold ScL; omega)).tr ((fr.u (by unfold ScL; omega)).tr (fr.u (by unfold ScL; omega)))))))))
  · rw [u_ne (by omega), u_ne (by omega), u_ne (by omega), u_ne (by omega), u_ne (by omega), u_ne (by omega), u_ne (by omega), u_ne (by omega), u_ne (by omega)]
    exact s2
theorem c_bo6 (hn : n ≤ 250) (hb : ∀ i, i < n → b i < 256) (hc : tcC b n σ) (he : e ≤ n) (h6 : σ.1 11 14 0 6 = nI e) (hk : pu_k A) (hA : pu_c A 3 σ) : resC σ (boD b n A e) (lp_X4_readStatement_38 1000 (nI 6) (nI 0) σ) := by
  have hne := hk.2.1
  unfold boD
  refine c_rdK (w := 6) (i := 0) (s := 7) hn hb hc he h6 hk hA (by omega) (by decide) (by omega) (by decide) (by rfl) (by rfl) (fun p e1 τ0 q0 f0 v0 s0 c0 A0 => ?_)
  have g0 := rd_le he q0
  refine c_rdK (w := 6) (i := 1) (s := 0) hn hb c0 g0.2.2.2 s0 hk A0 (by omega) (by decide) (by omega) (by decide) (by rfl) (by rfl) (fun x e2 τ1 q1 f1 v1 s1 c1 A1 => ?_)
  have g1 := rd_le g0.2.2.2 q1
  have w0 : τ1.1 11 16 0 0 = nI p := by rw [(f1 11 16 0 0 (by unfold FN; omega)).1]; exact v0
  have w1 : τ1.1 11 16 0 1 = nI x := by exact v1
  have hp6 : p < 6 := by omega
  rw [c_sk (i := 2) (by decide) (by decide) (by decide), c_sk (i := 3) (by decide) (by decide) (by decide), c_en]
  refine ⟨am_u τ1 3 8 p 4 (nI (stN (lE A p 4) x)), ?_, fr.u (by unfold ScL; omega), A1.sE, ?_⟩
  · unfold fn_X4_comeToPass
    rw [if_neg (show ¬ nI 6 = (0 : Int32) by decide), if_neg (show ¬ nI 6 = (1 : Int32) by decide), if_neg (show ¬ nI 6 = (2 : Int32) by decide), if_neg (show ¬ nI 6 = (3 : Int32) by decide), if_neg (show ¬ nI 6 = (4 : Int32) by decide), if_neg (show ¬ nI 6 = (5 : Int32) by decide), if_pos (show nI 6 = (6 : Int32) from rfl), w0, w1, n_in_t hp6 (by omega), cond_true, n_cl (by omega), A1.E hp6 (by decide), b_st (pb_of hk g0.2.1).2.2.2.2.1 g1.2.1]
    rfl
  · rw [u_ne (by omega)]
    exact s1
theorem c_bo7 (hn : n ≤ 250) (hb : ∀ i, i < n → b i < 256) (hc : tcC b n σ) (he : e ≤ n) (h6 : σ.1 11 14 0 6 = nI e) (hk : pu_k A) (hA : pu_c A 3 σ) : resC σ (boA b n A e) (lp_X4_readStatement_38 1000 (nI 7) (nI 0) σ) := by
  have hne := hk.2.1
  unfold boA
  refine c_rdK (w := 7) (i := 0) (s := 7) hn hb hc he h6 hk hA (by omega) (by decide) (by omega) (by decide) (by rfl) (by rfl) (fun p e1 τ0 q0 f0 v0 s0 c0 A0 => ?_)
  have g0 := rd_le he q0
  refine c_rdK (w := 7) (i := 1) (s := 0) hn hb c0 g0.2.2.2 s0 hk A0 (by omega) (by decide) (by omega) (by decide) (by rfl) (by rfl) (fun x e2 τ1 q1 f1 v1 s1 c1 A1 => ?_)
  have g1 := rd_le g0.2.2.2 q1
  have w0 : τ1.1 11 16 0 0 = nI p := by rw [(f1 11 16 0 0 (by unfold FN; omega)).1]; exact v0
  have w1 : τ1.1 11 16 0 1 = nI x := by exact v1
  have hp6 : p < 6 := by omega
  rw [c_sk (i := 2) (by decide) (by decide) (by decide), c_sk (i := 3) (by decide) (by decide) (by decide), c_en]
  refine ⟨am_u τ1 3 8 p 3 (nI x), ?_, fr.u (by unfold ScL; omega), A1.sE, ?_⟩
  · unfold fn_X4_comeToPass
    rw [if_neg (show ¬ nI 7 = (0 : Int32) by decide), if_neg (show ¬ nI 7 = (1 : Int32) by decide), if_neg (show ¬ nI 7 = (2 : Int32) by decide), if_neg (show ¬ nI 7 = (3 : Int32) by decide), if_neg (show ¬ nI 7 = (4 : Int32) by decide), if_neg (show ¬ nI 7 = (5 : Int32) by decide), if_neg (show ¬ nI 7 = (6 : Int32) by decide), if_pos (show nI 7 = (7 : Int32) from rfl), w0, w1, n_in_t hp6 (by omega), cond_true, n_cl (by omega)]
    rfl
  · rw [u_ne (by omega)]
    exact s1
theorem c_bo8 (hn : n ≤ 250) (hb : ∀ i, i < n → b i < 256) (hc : tcC b n σ) (he : e ≤ n) (h6 : σ.1 11 14 0 6 = nI e) (hk : pu_k A) (hA : pu_c A 3 σ) : resC σ (boU b n A e) (lp_X4_readStatement_38 1000 (nI 8) (nI 0) σ) := by
  have hne := hk.2.1
  unfold boU
  refine c_rdK (w := 8) (i := 0) (s := 7) hn hb hc he h6 hk hA (by omega) (by decide) (by omega) (by decide) (by rfl) (by rfl) (fun p e1 τ0 q0 f0 v0 s0 c0 A0 => ?_)
  have g0 := rd_le he q0
  refine c_rdK (w := 8) (i := 1) (s := 6) hn hb c0 g0.2.2.2 s0 hk A0 (by omega) (by decide) (by omega) (by decide) (by rfl) (by rfl) (fun x e2 τ1 q1 f1 v1 s1 c1 A1 => ?_)
  have g1 := rd_le g0.2.2.2 q1
  have w0 : τ1.1 11 16 0 0 = nI p := by rw [(f1 11 16 0 0 (by unfold FN; omega)).1]; exact v0
  have w1 : τ1.1 11 16 0 1 = nI x := by exact v1
  have hp6 : p < 6 := by omega
  rw [c_sk (i := 2) (by decide) (by decide) (by decide), c_sk (i := 3) (by decide) (by decide) (by decide), c_en]
  refine ⟨am_u τ1 3 8 p 5 (nI x), ?_, fr.u (by unfold ScL; omega), A1.sE, ?_⟩
  · unfold fn_X4_comeToPass
    rw [if_neg (show ¬ nI 8 = (0 : Int32) by decide), if_neg (show ¬ nI 8 = (1 : Int32) by decide), if_neg (show ¬ nI 8 = (2 : Int32) by decide), if_neg (show ¬ nI 8 = (3 : Int32) by decide), if_neg (show ¬ nI 8 = (4 : Int32) by decide), if_neg (show ¬ nI 8 = (5 : Int32) by decide), if_neg (show ¬ nI 8 = (6 : Int32) by decide), if_neg (show ¬ nI 8 = (7 : Int32) by decide), if_pos (show nI 8 = (8 : Int32) from rfl), w0, w1, n_in_t hp6 (by omega), cond_true, n_cl (by omega)]
    rfl
  · rw [u_ne (by omega)]
    exact s1
theorem c_body (hn : n ≤ 250) (hb : ∀ i, i < n → b i < 256) (hc : tcC b n σ) (he : e ≤ n) (h6 : σ.1 11 14 0 6 = nI e) (hk : pu_k A) (hA : pu_c A 3 σ) (hw : w < 9) (hr : roN A w) : resC σ (boN b n w A e) (lp_X4_readStatement_38 1000 (nI w) (nI 0) σ) := by
  rcases (show w = 0 ∨ w = 1 ∨ w = 2 ∨ w = 3 ∨ w = 4 ∨ w = 5 ∨ w = 6 ∨ w = 7 ∨ w = 8 by omega) with rfl | rfl | rfl | rfl | rfl | rfl | rfl | rfl | rfl
  · exact c_bo0 hn hb hc he h6 hk hA
  · exact c_bo1 hn hb hc he h6 hk hA
  · exact c_bo2 hn hb hc he h6 hk hA
  · exact c_bo3 hn hb hc he h6 hk hA
  · exact c_bo4 hn hb hc he h6 hk hA (hr.1 rfl)
  · exact c_bo5 hn hb hc he h6 hk hA (hr.2 rfl)
  · exact c_bo6 hn hb hc he h6 hk hA
  · exact c_bo7 hn hb hc he h6 hk hA
  · exact c_bo8 hn hb hc he h6 hk hA
/-- a statement, from e on -/
noncomputable def stP (b : Nat → Nat) (n : Nat) (A : pu_L) (e : Nat) : Nat ⊕ (pu_L × Nat) := @ite _ (wdI b n (skN b n e) < 9 ∧ roN A (wdI b n (skN b n e))) (Classical.propDecidable _) (boN b n (wdI b n (skN b n e)) A (enN b n (skN b n e))) (Sum.inl (skN b n e))
theorem st_1 (h : wdI b n (skN b n e) < 9) (h2 : roN A (wdI b n (skN b n e))) : stP b n A e = boN b n (wdI b n (skN b n e)) A (enN b n (skN b n e)) := by
  unfold stP
  exact @if_pos _ (Classical.propDecidable _) ⟨h, h2⟩ _ _ _
theorem st_0 (h : ¬ (wdI b n (skN b n e) < 9 ∧ roN A (wdI b n (skN b n e)))) : stP b n A e = Sum.inl (skN b n e) := by
  unfold stP
  exact @if_neg _ (Classical.propDecidable _) h _ _ _
theorem wd_9 : wdI b n s ≤ 9 := by
  unfold wdI
  split
  · exact (fs_le (P := fun w => wdB b w s (enN b n s)) 9 0).2
  · exact Nat.le_refl _
theorem wd_j (hk : kdN b n s = 1) {j : Nat} (hj : j < 9) : wdB b j s (enN b n s) = decide (j = wdI b n s) := by
  have e : wdI b n s = fsN (fun w => wdB b w s (enN b n s)) 9 0 := if_pos hk
  have hl := fs_le (P := fun w => wdB b w s (enN b n s)) 9 0
  by_cases c : wdI b n s < 9
  · have hy := fs_yes (P := fun w => wdB b w s (enN b n s)) 9 0 (by omega)
    rw [← e] at hy
    have hy : wdB b (wdI b n s) s (enN b n s) = true := hy
    by_cases d : j = wdI b n s
    · rw [d, hy, decide_eq_true rfl]
    · rw [decide_eq_false d]
      exact wd_ne c hj (fun q => d q.symm) hy
  · have hno := fs_no (P := fun w => wdB b w s (enN b n s)) 9 0 j (Nat.zero_le _) (by omega)
    rw [decide_eq_false (by omega)]
    exact hno
theorem c_wdOf {w : Nat} (hw : w < 9) : fn_X4_wordOf (nI w) σ = some (w, σ) := by
  rcases (show w = 0 ∨ w = 1 ∨ w = 2 ∨ w = 3 ∨ w = 4 ∨ w = 5 ∨ w = 6 ∨ w = 7 ∨ w = 8 by omega) with rfl | rfl | rfl | rfl | rfl | rfl | rfl | rfl | rfl <;> rfl
theorem c_sow (hn : n ≤ 250) (hb : ∀ i, i < n → b i < 256) (hc : tcC b n σ) (hs : s ≤ n) (hk1 : kdN b n s = 1) (h5 : σ.1 11 14 0 5 = nI s) (h6 : σ.1 11 14 0 6 = nI (enN b n s)) : ∀ (m w fuel : Nat), w + m = 9 → m < fuel → (∀ j, j < w → wdB b j s (enN b n s) = false) → lp_X4_statementOfWord_2 fuel (nI w) σ = some (if wdI b n s < 9 then nI (wdI b n s) else mI, σ) := by
  have hen := en_le (b := b) hs
  intro m
  induction m with
  | zero =>
    intro w fuel hw hf hI
    obtain ⟨f, rfl⟩ : ∃ f, fuel = f + 1 := ⟨fuel - 1, by omega⟩
    obtain rfl : w = 9 := by omega
    have h9 : ¬ wdI b n s < 9 := fun q => by
      have := hI _ q
      rw [wd_j hk1 q, decide_eq_true rfl] at this
      cases this
    rw [lp_X4_statementOfWord_2.eq_2]
    unfold lb_X4_statementOfWord_2
    rw [if_pos (by decide), if_neg h9]
    rfl
  | succ m ih =>
    intro w fuel hw hf hI
    obtain ⟨f, rfl⟩ : ∃ f, fuel = f + 1 := ⟨fuel - 1, by omega⟩
    have hw9 : w < 9 := by omega
    rw [lp_X4_statementOfWord_2.eq_2]
    unfold lb_X4_statementOfWord_2
    rw [z9, if_neg (nf (n_le_f (by omega) (by omega))), c_wdOf hw9, Option.bind_some]
    dsimp only
    rw [c_isw hn hc hb hw9 hen.1 hen.2 h5 h6, Option.bind_some]
    dsimp only
    rw [bI_0, n_suc]
    cases hwd : wdB b w s (enN b n s)
    · rw [cond_false]
      exact ih (w + 1) f (by omega) (by omega) (fun j hj => by
        by_cases d : j = w
        · rw [d]; exact hwd
        · exact hI j (by omega))
    · rw [cond_true]
      have e := wd_j hk1 hw9
      rw [hwd] at e
      have e2 : w = wdI b n s := of_decide_eq_true e.symm
      rw [← e2, if_pos hw9]
theorem c_stmt (hn : n ≤ 250) (hb : ∀ i, i < n → b i < 256) (hc : tcC b n σ) (he : e ≤ n) (h6 : σ.1 11 14 0 6 = nI e) (hk : pu_k A) (hA : pu_c A 3 σ) : resC σ (stP b n A e) (fn_X4_readStatement σ) := by
  obtain ⟨τ, e1, e2, e3, e4, e5⟩ := c_next hn hc hb he h6
  have hs := sk_le (b := b) he
  have hen := en_le (b := b) hs.2
  have hkd := kd_le (b := b) (n := n) (i := skN b n e)
  have f1 : fr ScL σ τ := e2.mono fun o k i j q => by unfold FC at q; unfold ScL; omega
  have hcτ : tcC b n τ := hc.fr e2 (fun _ _ _ q => by unfold FC at q; omega)
  have hAτ : pu_c A 3 τ := e2.c (fun _ _ _ q => by unfold FC at q; omega) hA
  have hnp := hk.1
  have hne := hk.2.1
  refine resC.of f1 ?_
  unfold fn_X4_readStatement
  rw [e1, Option.bind_some, e3, z1, i_eq (by omega) (by omega)]
  have bad : wdI b n (skN b n e) = 9 → resC τ (stP b n A e) (some (0, τ)) := fun h9 => by
    rw [st_0 (fun q => by omega)]
    exact ⟨τ, rfl, fr.rf, e4⟩
  by_cases k1 : kdN b n (skN b n e) = 1
  · have ew := c_sow hn hb hcτ hs.2 k1 e4 e5 9 0 1000 rfl (by decide) (fun j hj => absurd hj (Nat.not_lt_zero _))
    have ew : fn_X4_statementOfWord τ = some (if wdI b n (skN b n e) < 9 then nI (wdI b n (skN b n e)) else mI, τ) := ew
    rw [if_pos k1, ew, Option.bind_some]
    unfold jn_X4_readStatement_20
    dsimp only
    by_cases w9 : wdI b n (skN b n e) < 9
    · rw [if_pos w9, if_neg (show ¬ nI (wdI b n (skN b n e)) = (-1 : Int32) from nf (n_neg1 (by omega)))]
      unfold fn_X4_hasRoomFor
      rw [hAτ.np, hAτ.ne]
      have good : roN A (wdI b n (skN b n e)) → resC τ (stP b n A e) (lp_X4_readStatement_38 1000 (nI (wdI b n (skN b n e))) 0 τ) := fun hr => by
        rw [st_1 w9 hr]
        exact c_body hn hb hcτ hen.2 e5 hk hAτ w9 hr
      by_cases w4 : wdI b n (skN b n e) = 4
      · rw [if_pos (show nI (wdI b n (skN b n e)) = (4 : Int32) by rw [w4]; rfl), z3, i_le (by omega) (by omega)]
        by_cases r4 : 3 ≤ lnp A
        · rw [if_pos r4, Option.bind_some, if_pos rfl, st_0 (fun q => by have := q.2.1 w4; omega)]
          exact ⟨τ, rfl, fr.rf, e4⟩
        · rw [if_neg r4, Option.bind_some]
          exact good ⟨fun _ => by omega, fun q => by omega⟩
      · rw [if_neg (show ¬ nI (wdI b n (skN b n e)) = (4 : Int32) from nf (n_eq_f (b := 4) w4 (by omega) (by decide)))]
        by_cases w5 : wdI b n (skN b n e) = 5
        · rw [if_pos (show nI (wdI b n (skN b n e)) = (5 : Int32) by rw [w5]; rfl), z6, i_le (by omega) (by omega)]
          by_cases r5 : 6 ≤ lne A
          · rw [if_pos r5, Option.bind_some, if_pos rfl, st_0 (fun q => by have := q.2.2 w5; omega)]
            exact ⟨τ, rfl, fr.rf, e4⟩
          · rw [if_neg r5, Option.bind_some]
            exact good ⟨fun q => by omega, fun _ => by omega⟩
        · rw [if_neg (show ¬ nI (wdI b n (skN b n e)) = (5 : Int32) from nf (n_eq_f (b := 5) w5 (by omega) (by decide))), Option.bind_some]
          exact good ⟨fun q => absurd q w4, fun q => absurd q w5⟩
    · rw [if_neg w9, if_pos (show mI = (-1 : Int32) from rfl)]
      exact bad (by have := wd_9 (b := b) (n := n) (s := skN b n e); omega)
  · rw [if_neg k1]
    unfold jn_X4_readStatement_20
    rw [if_pos (show (-nI 1 : Int32) = -1 from rfl)]
    exact bad (if_neg k1)
end PST9
