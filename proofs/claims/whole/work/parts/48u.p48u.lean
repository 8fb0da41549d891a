/-! ===== the draft: statements, the reference ===== -/
def SmL : Nat → Nat → Nat → Nat → Prop := fun o k _ j => o = 5 ∧ ((50 ≤ k ∧ k < 63) ∨ (k = 40 ∧ (j = 12 ∨ j = 13 ∨ j = 15 ∨ (28 ≤ j ∧ j ≤ 32))) ∨ k = 63)
def resM (b : Nat → Nat) (n : Nat) (σ : am_S) (r : Nat ⊕ (pu_L × Nat)) (x : Option (Int32 × am_S)) : Prop := match r with
  | Sum.inl f => ∃ τ, x = some (0, τ) ∧ fr SmL σ τ ∧ τ.1 5 40 0 32 = nI f
  | Sum.inr q => ∃ τ, x = some (1, τ) ∧ fr SmL σ τ ∧ pu_m q.1 5 τ ∧ rT b n τ q.2
theorem u_self {σ : am_S} {o k i j : Nat} : am_u σ o k i j (σ.1 o k i j) = σ := by
  refine Prod.ext (funext fun o' => funext fun k' => funext fun i' => funext fun j' => ?_) rfl
  by_cases h : k' = k ∧ j' = j ∧ i' = i ∧ o' = o
  · obtain ⟨rfl, rfl, rfl, rfl⟩ := h
    exact u_at
  · exact u_ne h
section PSM
variable {A : pu_L} {b : Nat → Nat} {n e i k s lo B w : Nat} {σ τ : am_S} {K : Nat → Nat → Nat ⊕ (pu_L × Nat)} {G : Int32 × am_S → Option (Int32 × am_S)} {r : Nat ⊕ (pu_L × Nat)} {x : Option (Int32 × am_S)}
theorem resM.of (h : fr SmL σ τ) (q : resM b n τ r x) : resM b n σ r x := by
  cases r with
  | inl f =>
    obtain ⟨ρ, q1, q2, q3⟩ := q
    exact ⟨ρ, q1, h.tr q2, q3⟩
  | inr z =>
    obtain ⟨ρ, q1, q2, q3⟩ := q
    exact ⟨ρ, q1, h.tr q2, q3⟩
theorem resM.wr (q : resM b n σ r x) : resM b n σ r (x.bind fun q => if q.1 = 0 ∨ q.1 = 1 then some (q.1, q.2) else none) := by
  cases r with
  | inl f =>
    obtain ⟨ρ, q1, q2⟩ := q
    refine ⟨ρ, ?_, q2⟩
    rw [q1, Option.bind_some]
    exact if_pos (Or.inl rfl)
  | inr z =>
    obtain ⟨ρ, q1, q2⟩ := q
    refine ⟨ρ, ?_, q2⟩
    rw [q1, Option.bind_some]
    exact if_pos (Or.inr rfl)
theorem rT.u {o' k' i' j' : Nat} {y : Int32} (hr : rT b n σ e) (h : ¬ (k' = 40 ∧ 28 ≤ j' ∧ j' ≤ 31)) : rT b n (am_u σ o' k' i' j' y) e := by
  obtain ⟨h1, h2, h3, h4⟩ := hr
  refine ⟨?_, ?_, ?_, ?_⟩ <;> rw [u_ne (by omega)] <;> assumption
theorem FR_S {I : Nat} : ∀ o k i j, FR I o k i j → SmL o k i j := fun o k i j q => by unfold FR at q; unfold SmL; omega
theorem FW_S : ∀ o k i j, FW o k i j → SmL o k i j := fun o k i j q => by unfold FW at q; unfold SmL; omega
theorem FM_S : ∀ o k i j, FM o k i j → SmL o k i j := fun o k i j q => by unfold FM at q; unfold SmL; omega
theorem m_nuK (hG : ∀ τ, G (0, τ) = some (0, τ)) (hn : n ≤ 250) (hb : ∀ i, i < n → b i < 256) (hc : tcM b n σ) (he : e ≤ n) (hr : rT b n σ e) (hA : pu_m A 5 σ) {a1 a2 a3 : Int32} (h1 : a1 = nI i) (h2 : a2 = nI lo) (h3 : a3 = nI B - nI 1) (hi : i < 4) (hlo : lo ≤ 1) (hB : B ≤ 1000)
    (hK : ∀ v e' τ, rdN b n e lo B = some (v, e') → fr (FR i) σ τ → τ.1 5 63 0 i = nI v → rT b n τ e' → tcM b n τ → pu_m A 5 τ → resM b n τ (K v e') (G (1, τ))) : resM b n σ (rdK b n e lo B K) ((fn_X8_number 5 a1 a2 a3 σ).bind G) := by
  rcases m_num hn hc hb he hr h1 h2 h3 hi hlo hB with ⟨g1, τ, g2, g3, g4⟩ | ⟨v, e', τ, g1, g2, g3, g4, g5⟩
  · rw [rK_0 g1, g2, Option.bind_some, hG]
    exact ⟨τ, rfl, g3.mono FW_S, g4⟩
  · rw [rK_1 g1, g2, Option.bind_some]
    exact (hK v e' τ g1 g3 g4 g5 (hc.fr g3 (fun _ _ _ q => by unfold FR at q; omega)) (g3.m1 (fun _ _ _ _ q => by unfold FR at q; omega) hA)).of (g3.mono FR_S)
theorem m_tlK (hG : ∀ τ, G (0, τ) = some (0, τ)) (hn : n ≤ 250) (hb : ∀ i, i < n → b i < 256) (hc : tcM b n σ) (he : e ≤ n) (hr : rT b n σ e) (hA : pu_m A 5 σ) {a1 : Int32} (h3 : a1 = nI B - nI 1) (hB : B ≤ 1000)
    (hK : ∀ v e' τ, rdN b n (enN b n (skN b n e)) 0 B = some (v, e') → fr (FR 0) σ τ → τ.1 5 63 0 0 = nI v → rT b n τ e' → tcM b n τ → pu_m A 5 τ → resM b n τ (K v e') (G (1, τ))) : resM b n σ (rdK b n (enN b n (skN b n e)) 0 B K) ((fn_X8_tells 5 a1 σ).bind G) := by
  have hen := (en_le (b := b) (sk_le (b := b) he).2).2
  obtain ⟨ρ, d1, d2, d3⟩ := m_look hn hc hb hen hr.1
  have cρ : tcM b n ρ := hc.fr d2 (fun _ _ _ q => by unfold FM at q; omega)
  have Aρ : pu_m A 5 ρ := d2.m1 (fun _ _ _ _ q => by unfold FM at q; omega) hA
  have e0 : (fn_X8_tells 5 a1 σ).bind G = (fn_X8_number 5 0 0 a1 ρ).bind fun q => (if q.1 = 0 ∨ q.1 = 1 then some (q.1, q.2) else none : Option (Int32 × am_S)).bind G := by
    unfold fn_X8_tells
    rw [d1, Option.bind_some, Option.bind_assoc]
  rw [e0]
  refine resM.of (d2.mono FM_S) (m_nuK (fun τ => ?_) hn hb cρ hen d3 Aρ (i := 0) (lo := 0) rfl rfl h3 (by decide) (by decide) hB (fun v e' τ q f v0 r0 c0 A0 => ?_))
  · show (if (0 : Int32) = 0 ∨ (0 : Int32) = 1 then some ((0 : Int32), τ) else none).bind G = _
    rw [if_pos (Or.inl rfl), Option.bind_some, hG]
  · show resM b n τ (K v e') ((if (1 : Int32) = 0 ∨ (1 : Int32) = 1 then some ((1 : Int32), τ) else none).bind G)
    rw [if_pos (Or.inr rfl), Option.bind_some]
    exact hK v e' τ q ((d2.mono fun o k i j q => Or.inl q).tr f) v0 r0 c0 A0
theorem m_ooK {K2 : Nat → Nat → Nat → Nat ⊕ (pu_L × Nat)} (hG : ∀ τ, G (0, τ) = some (0, τ)) (hn : n ≤ 250) (hb : ∀ i, i < n → b i < 256) (hc : tcM b n σ) (he : e ≤ n) (hr : rT b n σ e) (hk : pu_k A) (hA : pu_m A 5 σ) {a1 : Int32} (h3 : a1 = nI B - nI 1) (hB : B ≤ 1000)
    (hK : ∀ p v e' τ, p < lne A → v < B → τ.1 5 63 0 0 = nI p → τ.1 5 63 0 1 = nI v → rT b n τ e' → pu_m A 5 τ → resM b n τ (K2 p v e') (G (1, τ))) : resM b n σ (rdK b n (enN b n (skN b n e)) 0 (lne A) fun p e1 => rdK b n e1 0 B fun v e2 => K2 p v e2) ((fn_X8_ofOne 5 a1 σ).bind G) := by
  have hen := (en_le (b := b) (sk_le (b := b) he).2).2
  have hne := hk.2.1
  unfold fn_X8_ofOne
  rw [Option.bind_assoc]
  refine m_tlK (fun τ => ?_) hn hb hc he hr hA (by rw [hA.ne]; rfl) (by omega) (fun p e1 τ0 q0 f0 v0 r0 c0 A0 => ?_)
  · show (some ((0 : Int32), τ)).bind G = _
    rw [Option.bind_some, hG]
  · have g0 := rd_le hen q0
    show resM b n τ0 _ (((fn_X8_number 5 1 0 a1 τ0).bind fun q3 => (if q3.1 = 0 then some (0, q3.2) else some (1, q3.2))).bind G)
    rw [Option.bind_assoc]
    refine m_nuK (fun τ => ?_) hn hb c0 g0.2.2.2 r0 A0 (i := 1) (lo := 0) rfl rfl h3 (by decide) (by decide) hB (fun v e2 τ1 q1 f1 v1 r1 c1 A1 => ?_)
    · show (some ((0 : Int32), τ)).bind G = _
      rw [Option.bind_some, hG]
    · have g1 := rd_le g0.2.2.2 q1
      exact hK p v e2 τ1 g0.2.1 g1.2.1 (by rw [(f1 5 63 0 0 (by unfold FR; omega)).1]; exact v0) v1 r1 A1
theorem m_isj {j : Nat} (hn : n ≤ 250) (hc : tcM b n σ) (hb : ∀ i, i < n → b i < 256) (hj : j < 9) (he : e ≤ n) (hr : rT b n σ e) : fn_X8_isWord_36 5 j σ = some (bI (decide (j = wdI b n (skN b n e))), σ) := by
  rw [m_isw hn hc hb hj he hr]
  by_cases k1 : kdN b n (skN b n e) = 1
  · rw [decide_eq_true k1, Bool.true_and, wd_j k1 hj]
  · have e9 : wdI b n (skN b n e) = 9 := if_neg k1
    rw [decide_eq_false k1, Bool.false_and, e9, decide_eq_false (by omega)]
theorem m_as50 (hn : n ≤ 250) (hb : ∀ i, i < n → b i < 256) (hc : tcM b n σ) (he : e ≤ n) (hr : rT b n σ e) (hk : pu_k A) (hA : pu_m A 5 σ) : resM b n σ (boV b n 0 A (enN b n (skN b n e))) (fn_X8_asks_50 5 5 0 9 σ) := by
  have hen := (en_le (b := b) (sk_le (b := b) he).2).2
  unfold boV fn_X8_asks_50
  refine m_tlK (B := 7) (by intro; rfl) hn hb hc he hr hA (by decide) (by omega) (fun v e0 τ0 q0 f0 v0 r0 c0 A0 => ?_)
  dsimp only
  rw [if_neg (show ¬ (1 : Int32) = 0 by decide)]
  have g0 := rd_le hen q0
  refine m_nuK (i := 1) (lo := 0) (B := 10) (by intro; rfl) hn hb c0 g0.2.2.2 r0 A0 rfl rfl (by decide) (by decide) (by decide) (by decide) (fun x e1 τ1 q1 f1 v1 r1 c1 A1 => ?_)
  dsimp only
  rw [if_neg (show ¬ (1 : Int32) = 0 by decide)]
  have g1 := rd_le g0.2.2.2 q1
  have w0 : τ1.1 5 63 0 0 = nI v := by rw [(f1 5 63 0 0 (by unfold FR; omega)).1]; exact v0
  have w1 : τ1.1 5 63 0 1 = nI x := by exact v1
  rw [w0, w1, n_in_t g0.2.1 (by omega), cond_true, n_cl (by omega)]
  exact ⟨_, rfl, fr.u (by unfold SmL; omega), A1.sV (by decide), r1.u (by omega)⟩
theorem m_as51 (hn : n ≤ 250) (hb : ∀ i, i < n → b i < 256) (hc : tcM b n σ) (he : e ≤ n) (hr : rT b n σ e) (hk : pu_k A) (hA : pu_m A 5 σ) : resM b n σ (boV b n 1 A (enN b n (skN b n e))) (fn_X8_asks_51 5 5 1 12 σ) := by
  have hen := (en_le (b := b) (sk_le (b := b) he).2).2
  unfold boV fn_X8_asks_51
  refine m_tlK (B := 7) (by intro; rfl) hn hb hc he hr hA (by decide) (by omega) (fun v e0 τ0 q0 f0 v0 r0 c0 A0 => ?_)
  dsimp only
  rw [if_neg (show ¬ (1 : Int32) = 0 by decide)]
  have g0 := rd_le hen q0
  refine m_nuK (i := 1) (lo := 1) (B := 13) (by intro; rfl) hn hb c0 g0.2.2.2 r0 A0 rfl rfl (by decide) (by decide) (by decide) (by decide) (fun x e1 τ1 q1 f1 v1 r1 c1 A1 => ?_)
  dsimp only
  rw [if_neg (show ¬ (1 : Int32) = 0 by decide)]
  have g1 := rd_le g0.2.2.2 q1
  have w0 : τ1.1 5 63 0 0 = nI v := by rw [(f1 5 63 0 0 (by unfold FR; omega)).1]; exact v0
  have w1 : τ1.1 5 63 0 1 = nI x := by exact v1
  rw [w0, w1, n_in_t g0.2.1 (by omega), cond_true, n_cl (by omega)]
  exact ⟨_, rfl, fr.u (by unfold SmL; omega), A1.sV (by decide), r1.u (by omega)⟩
theorem m_as52 (hn : n ≤ 250) (hb : ∀ i, i < n → b i < 256) (hc : tcM b n σ) (he : e ≤ n) (hr : rT b n σ e) (hk : pu_k A) (hA : pu_m A 5 σ) : resM b n σ (boV b n 2 A (enN b n (skN b n e))) (fn_X8_asks_52 5 5 0 20 σ) := by
  have hen := (en_le (b := b) (sk_le (b := b) he).2).2
  unfold boV fn_X8_asks_52
  refine m_tlK (B := 7) (by intro; rfl) hn hb hc he hr hA (by decide) (by omega) (fun v e0 τ0 q0 f0 v0 r0 c0 A0 => ?_)
  dsimp only
  rw [if_neg (show ¬ (1 : Int32) = 0 by decide)]
  have g0 := rd_le hen q0
  refine m_nuK (i := 1) (lo := 0) (B := 21) (by intro; rfl) hn hb c0 g0.2.2.2 r0 A0 rfl rfl (by decide) (by decide) (by decide) (by decide) (fun x e1 τ1 q1 f1 v1 r1 c1 A1 => ?_)
  dsimp only
  rw [if_neg (show ¬ (1 : Int32) = 0 by decide)]
  have g1 := rd_le g0.2.2.2 q1
  have w0 : τ1.1 5 63 0 0 = nI v := by rw [(f1 5 63 0 0 (by unfold FR; omega)).1]; exact v0
  have w1 : τ1.1 5 63 0 1 = nI x := by exact v1
  rw [w0, w1, n_in_t g0.2.1 (by omega), cond_true, n_cl (by omega)]
  exact ⟨_, rfl, fr.u (by unfold SmL; omega), A1.sV (by decide), r1.u (by omega)⟩
theorem m_back (hn : n ≤ 250) (hb : ∀ i, i < n → b i < 256) (hc : tcM b n σ) (he : e ≤ n) (hr : rT b n σ e) (hk : pu_k A) (hA : pu_m A 5 σ) : resM b n σ (boB b n A (enN b n (skN b n e))) ((fn_X8_tells 5 9 σ).bind fun q34 => (if q34.1 = 0 then jn_X8_statement_97 q34.1 (q34.2.1 5 40 0 12) 5 q34.2 else jn_X8_statement_97 q34.1 (q34.2.1 5 63 0 0) 5 q34.2)) := by
  have hen := (en_le (b := b) (sk_le (b := b) he).2).2
  unfold boB
  refine m_tlK (B := 10) (fun τ => ?_) hn hb hc he hr hA (by decide) (by omega) (fun x e0 τ0 q0 f0 v0 r0 c0 A0 => ?_)
  · show jn_X8_statement_97 0 (τ.1 5 40 0 12) 5 τ = _
    unfold jn_X8_statement_97
    rw [if_pos (Or.inl rfl), u_self]
  · show resM b n τ0 _ (jn_X8_statement_97 1 (τ0.1 5 63 0 0) 5 τ0)
    unfold jn_X8_statement_97
    rw [if_pos (Or.inr rfl), v0]
    exact ⟨_, rfl, fr.u (by unfold SmL; omega), A0.sB, r0.u (by omega)⟩
theorem rQ_K {v0 : Nat} (h : ¬ ∃ e', rdN b n e 0 7 = some (v0, e')) : rdQ b n e v0 K = rdK b n e 0 7 K := by
  unfold rdQ rdK
  cases c : rdN b n e 0 7 with
  | none => rfl
  | some q =>
    obtain ⟨v, e'⟩ := q
    exact if_neg (fun d => h ⟨e', by rw [c]; exact congrArg (fun z => some (z, e')) d⟩)
theorem rQ_0 {v0 e' : Nat} (h : rdN b n e 0 7 = some (v0, e')) : rdQ b n e v0 K = Sum.inl (skN b n e) := by
  unfold rdQ
  rw [h]
  exact if_pos rfl
theorem fi_rd {v e' : Nat} (h : rdN b n e lo B = some (v, e')) : kdN b n (skN b n e) = 2 ∧ fiN b n (skN b n e) = v := by
  unfold rdN at h
  by_cases c : kdN b n (skN b n e) = 2 ∧ enN b n (skN b n e) - skN b n e ≤ 3 ∧ lo ≤ nmN b (skN b n e) (enN b n (skN b n e) - skN b n e) ∧ nmN b (skN b n e) (enN b n (skN b n e) - skN b n e) < B
  · rw [if_pos c] at h
    cases h
    refine ⟨c.1, ?_⟩
    unfold fiN fgF
    rw [if_pos c.1, if_pos c.2.1]
  · rw [if_neg c] at h
    cases h
theorem rd_fi (h : kdN b n (skN b n e) = 2) (h2 : fiN b n (skN b n e) < 7) : rdN b n e 0 7 = some (fiN b n (skN b n e), enN b n (skN b n e)) := by
  unfold fiN fgF at h2 ⊢
  rw [if_pos h] at h2 ⊢
  by_cases c : enN b n (skN b n e) - skN b n e ≤ 3
  · rw [if_pos c] at h2 ⊢
    exact if_pos ⟨h, c, Nat.zero_le _, h2⟩
  · rw [if_neg c] at h2
    omega
theorem fi_le (he : e ≤ n) : fiN b n (skN b n e) ≤ 10000 := by
  have hs := sk_le (b := b) he
  unfold fiN
  by_cases c1 : kdN b n (skN b n e) = 2
  · have hlt := kd_lt (b := b) hs.2 (by omega)
    have hcl : clsN (b (skN b n e)) = 2 := by rw [← kd_i hlt]; exact c1
    rw [if_pos c1]
    unfold fgF
    by_cases c : enN b n (skN b n e) - skN b n e ≤ 3
    · rw [if_pos c]
      have h1 := nm_lt (b := b) (s := skN b n e) (l := enN b n (skN b n e) - skN b n e) (fun j hj => (cls_2 (en_dig hlt hcl (show skN b n e ≤ skN b n e + j by omega) (by omega))).2)
      have h2 : 10 ^ (enN b n (skN b n e) - skN b n e) ≤ 10 ^ 3 := Nat.pow_le_pow_right (by decide) c
      omega
    · rw [if_neg c]
      omega
  · rw [if_neg c1]
    omega
theorem m_rdQ {X : Option (Int32 × am_S)} {v0 : Nat} (hv0 : v0 < 7) (he : e ≤ n) (hr : rT b n σ e) (h0 : σ.1 5 63 0 0 = nI v0) (hX : resM b n σ (rdK b n e 0 7 K) X) : resM b n σ (rdQ b n e v0 K) (if σ.1 5 40 0 29 = 2 then (if σ.1 5 40 0 31 = σ.1 5 63 0 0 then (fn_X8_wrongSame 5 σ).bind (fun q14 => if q14.1 = 0 then jn_X8_passTold_37 5 q14.2 else some (0, q14.2)) else X) else X) := by
  have hkd := kd_le (b := b) (n := n) (i := skN b n e)
  have hfi := fi_le (b := b) he
  rw [hr.2.1, hr.2.2.2, h0, z2, i_eq (by omega) (by omega), i_eq (by omega) (by omega)]
  by_cases c1 : kdN b n (skN b n e) = 2
  · rw [if_pos c1]
    by_cases c2 : fiN b n (skN b n e) = v0
    · have h := rd_fi (b := b) (n := n) (e := e) c1 (by omega)
      rw [c2] at h
      rw [if_pos c2, rQ_0 h]
      refine ⟨am_u σ 5 40 0 32 (nI (skN b n e)), ?_, fr.u (by unfold SmL; omega), u_at⟩
      unfold fn_X8_wrongSame fn_X8_wrong
      rw [hr.2.2.1]
      rfl
    · rw [if_neg c2, rQ_K (fun ⟨e', q⟩ => c2 (fi_rd q).2)]
      exact hX
  · rw [if_neg c1, rQ_K (fun ⟨e', q⟩ => c1 (fi_rd q).1)]
    exact hX
theorem m_pass (hn : n ≤ 250) (hb : ∀ i, i < n → b i < 256) (hc : tcM b n σ) (he : e ≤ n) (hr : rT b n σ e) (hk : pu_k A) (hA : pu_m A 5 σ) (hro : lnp A < 3) : resM b n σ (boP b n A (enN b n (skN b n e))) (fn_X8_passTold 5 σ) := by
  have hen := (en_le (b := b) (sk_le (b := b) he).2).2
  unfold boP fn_X8_passTold
  refine m_tlK (B := 7) (by intro; rfl) hn hb hc he hr hA (by decide) (by omega) (fun v e0 τ0 q0 f0 v0 r0 c0 A0 => ?_)
  dsimp only
  rw [if_neg (show ¬ (1 : Int32) = 0 by decide)]
  have g0 := rd_le hen q0
  refine m_rdQ g0.2.1 g0.2.2.2 r0 v0 ?_
  unfold jn_X8_passTold_37
  refine m_nuK (i := 1) (lo := 0) (B := 7) (by intro; rfl) hn hb c0 g0.2.2.2 r0 A0 rfl rfl (by decide) (by decide) (by decide) (by decide) (fun u e1 τ1 q1 f1 v1 r1 c1 A1 => ?_)
  dsimp only
  rw [if_neg (show ¬ (1 : Int32) = 0 by decide)]
  have g1 := rd_le g0.2.2.2 q1
  refine m_nuK (i := 2) (lo := 0) (B := 10) (by intro; rfl) hn hb c1 g1.2.2.2 r1 A1 rfl rfl (by decide) (by decide) (by decide) (by decide) (fun f e2 τ2 q2 f2 v2 r2 c2 A2 => ?_)
  dsimp only
  rw [if_neg (show ¬ (1 : Int32) = 0 by decide)]
  have g2 := rd_le g1.2.2.2 q2
  refine m_nuK (i := 3) (lo := 1) (B := 13) (by intro; rfl) hn hb c2 g2.2.2.2 r2 A2 rfl rfl (by decide) (by decide) (by decide) (by decide) (fun h e3 τ3 q3 f3 v3 r3 c3 A3 => ?_)
  dsimp only
  rw [if_neg (show ¬ (1 : Int32) = 0 by decide)]
  have g3 := rd_le g2.2.2.2 q3
  have w0 : τ3.1 5 63 0 0 = nI v := by rw [(f3 5 63 0 0 (by unfold FR; omega)).1, (f2 5 63 0 0 (by unfold FR; omega)).1, (f1 5 63 0 0 (by unfold FR; omega)).1]; exact v0
  have w1 : τ3.1 5 63 0 1 = nI u := by rw [(f3 5 63 0 1 (by unfold FR; omega)).1, (f2 5 63 0 1 (by unfold FR; omega)).1]; exact v1
  have w2 : τ3.1 5 63 0 2 = nI f := by rw [(f3 5 63 0 2 (by unfold FR; omega)).1]; exact v2
  have w3 : τ3.1 5 63 0 3 = nI h := by exact v3
  have c7 := A3.sP (r := lnp A) (j := 0) (x := v) |>.sP (r := lnp A) (j := 1) (x := u) |>.sP (r := lnp A) (j := 2) (x := f) |>.sP (r := lnp A) (j := 3) (x := h) |>.sNp (np := lnp A + 1)
  refine ⟨_, ?_, ?_, c7, ?_⟩
  · unfold fn_X8_addPass
    rw [w0, w1, w2, w3, A3.np, n_in_t hro (by omega), cond_true, cond_true, cond_true, cond_true, n_cl (by omega), n_suc]
    rfl
  · exact (fr.u (by unfold SmL; omega)).tr ((fr.u (by unfold SmL; omega)).tr ((fr.u (by unfold SmL; omega)).tr ((fr.u (by unfold SmL; omega)).tr (fr.u (by unfold SmL; omega)))))
  · exact ((((r3.u (by omega)).u (by omega)).u (by omega)).u (by omega)).u (by omega)
theorem m_pers (hn : n ≤ 250) (hb : ∀ i, i < n → b i < 256) (hc : tcM b n σ) (he : e ≤ n) (hr : rT b n σ e) (hk : pu_k A) (hA : pu_m A 5 σ) (hro : lne A < 6) : resM b n σ (boE b n A (enN b n (skN b n e))) ((fn_X8_tells 5 5 σ).bind fun q16 => (if q16.1 = 0 then some (0, q16.2) else (fn_X8_number 5 1 0 9 q16.2).bind fun q18 => (if q18.1 = 0 then some (0, q18.2) else (fn_X8_number 5 2 0 6 q18.2).bind fun q20 => (if q20.1 = 0 then some (0, q20.2) else (fn_X8_addPerson 5 (q20.2.1 5 63 0 0) (q20.2.1 5 63 0 1) (q20.2.1 5 63 0 2) q20.2).bind fun q22 => some (1, q22))))) := by
  have hen := (en_le (b := b) (sk_le (b := b) he).2).2
  unfold boE
  refine m_tlK (B := 6) (by intro; rfl) hn hb hc he hr hA (by decide) (by omega) (fun k e0 τ0 q0 f0 v0 r0 c0 A0 => ?_)
  dsimp only
  rw [if_neg (show ¬ (1 : Int32) = 0 by decide)]
  have g0 := rd_le hen q0
  refine m_nuK (i := 1) (lo := 0) (B := 10) (by intro; rfl) hn hb c0 g0.2.2.2 r0 A0 rfl rfl (by decide) (by decide) (by decide) (by decide) (fun a e1 τ1 q1 f1 v1 r1 c1 A1 => ?_)
  dsimp only
  rw [if_neg (show ¬ (1 : Int32) = 0 by decide)]
  have g1 := rd_le g0.2.2.2 q1
  refine m_nuK (i := 2) (lo := 0) (B := 7) (by intro; rfl) hn hb c1 g1.2.2.2 r1 A1 rfl rfl (by decide) (by decide) (by decide) (by decide) (fun v e2 τ2 q2 f2 v2 r2 c2 A2 => ?_)
  dsimp only
  rw [if_neg (show ¬ (1 : Int32) = 0 by decide)]
  have g2 := rd_le g1.2.2.2 q2
  have w0 : τ2.1 5 63 0 0 = nI k := by rw [(f2 5 63 0 0 (by unfold FR; omega)).1, (f1 5 63 0 0 (by unfold FR; omega)).1]; exact v0
  have w1 : τ2.1 5 63 0 1 = nI a := by rw [(f2 5 63 0 1 (by unfold FR; omega)).1]; exact v1
  have w2 : τ2.1 5 63 0 2 = nI v := by exact v2
  have c7 := A2 |>.sE (p := lne A) (j := 0) (x := k) (by decide) |>.sE (p := lne A) (j := 1) (x := a) (by decide) |>.sE (p := lne A) (j := 2) (x := v) (by decide) |>.sE (p := lne A) (j := 3) (x := v) (by decide) |>.sE (p := lne A) (j := 4) (x := 0) (by decide) |>.sE (p := lne A) (j := 5) (x := 20) (by decide) |>.sE (p := lne A) (j := 6) (x := 0) (by decide) |>.sE (p := lne A) (j := 7) (x := 0) (by decide) |>.sNe (ne := lne A + 1)
  refine ⟨_, ?_, ?_, c7, ?_⟩
  · unfold fn_X8_addPerson
    rw [w0, w1, w2, A2.ne, n_in_t hro (by omega), cond_true, cond_true, cond_true, cond_true, cond_true, cond_true, cond_true, cond_true, n_cl (by omega), n_suc]
    rfl
  · exact (fr.u (by unfold SmL; omega)).tr ((fr.u (by unfold SmL; omega)).tr ((fr.u (by unfold SmL; omega)).tr ((fr.u (by unfold SmL; omega)).tr ((fr.u (by unfold SmL; omega)).tr ((fr.u (by unfold SmL; omega)).tr ((fr.u (by unfold SmL; omega)).tr ((fr.u (by unfold SmL; omega)).tr (fr.u (by unfold SmL; omega)))))))))
  · exact ((((((((r2.u (by omega)).u (by omega)).u (by omega)).u (by omega)).u (by omega)).u (by omega)).u (by omega)).u (by omega)).u (by omega)
theorem m_peo (hn : n ≤ 250) (hb : ∀ i, i < n → b i < 256) (hc : tcM b n σ) (he : e ≤ n) (hr : rT b n σ e) (hk : pu_k A) (hA : pu_m A 5 σ) (h5 : ¬ wdI b n (skN b n e) < 6) : resM b n σ (stP b n A e) (fn_X8_ofPeople 5 σ) := by
  have hne := hk.2.1
  have h9 := wd_9 (b := b) (n := n) (s := skN b n e)
  unfold fn_X8_ofPeople
  rw [m_isj hn hc hb (show 6 < 9 by decide) he hr, Option.bind_some]
  dsimp only
  rw [bI_0]
  by_cases w6 : 6 = wdI b n (skN b n e)
  · have e1 : stP b n A e = boD b n A (enN b n (skN b n e)) := by
      rw [st_1 (by omega) ⟨fun q => by omega, fun q => by omega⟩, ← w6]
      rfl
    rw [decide_eq_true w6, cond_true, e1]
    unfold boD
    refine m_ooK (B := 7) (by intro; rfl) hn hb hc he hr hk hA (by decide) (by decide) (fun p v e' τ hp hv w0 w1 r1 A1 => ?_)
    dsimp only
    rw [if_neg (show ¬ (1 : Int32) = 0 by decide), w0, w1, n_in_t (show p < 6 by omega) (by omega), cond_true, cond_true, n_cl (by omega), A1.E4 (by omega), b_st (pb_of hk hp).2.2.2.2.1 hv]
    exact ⟨_, rfl, fr.u (by unfold SmL; omega), A1.sE (j := 4) (by decide), r1.u (by omega)⟩
  · rw [decide_eq_false w6, cond_false, m_isj hn hc hb (show 7 < 9 by decide) he hr, Option.bind_some]
    dsimp only
    rw [bI_0]
    by_cases w7 : 7 = wdI b n (skN b n e)
    · have e1 : stP b n A e = boA b n A (enN b n (skN b n e)) := by
        rw [st_1 (by omega) ⟨fun q => by omega, fun q => by omega⟩, ← w7]
        rfl
      rw [decide_eq_true w7, cond_true, e1]
      unfold boA
      refine m_ooK (B := 7) (by intro; rfl) hn hb hc he hr hk hA (by decide) (by decide) (fun p v e' τ hp hv w0 w1 r1 A1 => ?_)
      dsimp only
      rw [if_neg (show ¬ (1 : Int32) = 0 by decide), w0, w1, n_in_t (show p < 6 by omega) (by omega), cond_true, n_cl (by omega)]
      exact ⟨_, rfl, fr.u (by unfold SmL; omega), A1.sE (j := 3) (by decide), r1.u (by omega)⟩
    · rw [decide_eq_false w7, cond_false, m_isj hn hc hb (show 8 < 9 by decide) he hr, Option.bind_some]
      dsimp only
      rw [bI_0]
      by_cases w8 : 8 = wdI b n (skN b n e)
      · have e1 : stP b n A e = boU b n A (enN b n (skN b n e)) := by
          rw [st_1 (by omega) ⟨fun q => by omega, fun q => by omega⟩, ← w8]
          rfl
        rw [decide_eq_true w8, cond_true, e1]
        unfold boU
        refine m_ooK (B := 1000) (by intro; rfl) hn hb hc he hr hk hA (by decide) (by decide) (fun p v e' τ hp hv w0 w1 r1 A1 => ?_)
        dsimp only
        rw [if_neg (show ¬ (1 : Int32) = 0 by decide), w0, w1, n_in_t (show p < 6 by omega) (by omega), cond_true, n_cl (by omega)]
        exact ⟨_, rfl, fr.u (by unfold SmL; omega), A1.sE (j := 5) (by decide), r1.u (by omega)⟩
      · rw [decide_eq_false w8, cond_false, st_0 (fun q => by omega)]
        refine ⟨am_u σ 5 40 0 32 (nI (skN b n e)), ?_, fr.u (by unfold SmL; omega), u_at⟩
        unfold fn_X8_wrong
        rw [hr.2.2.1]
        rfl
theorem m_peo0 (hn : n ≤ 250) (hb : ∀ i, i < n → b i < 256) (hc : tcM b n σ) (he : e ≤ n) (hr : rT b n σ e) (hk : pu_k A) (hA : pu_m A 5 σ) (h5 : wdI b n (skN b n e) < 6) (hno : ¬ roN A (wdI b n (skN b n e))) : resM b n σ (stP b n A e) (fn_X8_ofPeople 5 σ) := by
  unfold fn_X8_ofPeople
  rw [st_0 (fun q => hno q.2), m_isj hn hc hb (show 6 < 9 by decide) he hr, Option.bind_some]
  dsimp only
  rw [bI_0, decide_eq_false (by omega), cond_false, m_isj hn hc hb (show 7 < 9 by decide) he hr, Option.bind_some]
  dsimp only
  rw [bI_0, decide_eq_false (by omega), cond_false, m_isj hn hc hb (show 8 < 9 by decide) he hr, Option.bind_some]
  dsimp only
  rw [bI_0, decide_eq_false (by omega), cond_false]
  refine ⟨am_u σ 5 40 0 32 (nI (skN b n e)), ?_, fr.u (by unfold SmL; omega), u_at⟩
  unfold fn_X8_wrong
  rw [hr.2.2.1]
  rfl
theorem m_stmt (hn : n ≤ 250) (hb : ∀ i, i < n → b i < 256) (hc : tcM b n σ) (he : e ≤ n) (hr : rT b n σ e) (hk : pu_k A) (hA : pu_m A 5 σ) : resM b n σ (stP b n A e) (fn_X8_statement 5 σ) := by
  have hnp := hk.1
  have hne := hk.2.1
  have h9 := wd_9 (b := b) (n := n) (s := skN b n e)
  have h198 : resM b n σ (stP b n A e) (fn_X8_ofPeople 5 σ) → resM b n σ (stP b n A e) (jn_X8_statement_198 5 σ) := fun q => q.wr
  have h124 : ¬ (wdI b n (skN b n e) < 4) → (wdI b n (skN b n e) = 4 → ¬ lnp A < 3) → resM b n σ (stP b n A e) (jn_X8_statement_124 5 σ) := fun q4 qn => by
    unfold jn_X8_statement_124
    rw [m_isj hn hc hb (show 5 < 9 by decide) he hr, Option.bind_some]
    dsimp only
    rw [bI_0]
    by_cases w5 : 5 = wdI b n (skN b n e)
    · rw [decide_eq_true w5, cond_true, hA.ne, z6, i_le (by omega) (by omega)]
      by_cases r5 : 6 ≤ lne A
      · rw [if_pos r5]
        exact h198 (m_peo0 hn hb hc he hr hk hA (by omega) (fun q => by have := q.2 w5.symm; omega))
      · have e1 : stP b n A e = boE b n A (enN b n (skN b n e)) := by
          rw [st_1 (by omega) ⟨fun q => by omega, fun q => by omega⟩, ← w5]
          rfl
        rw [if_neg r5, e1]
        exact m_pers hn hb hc he hr hk hA (by omega)
    · rw [decide_eq_false w5, cond_false]
      by_cases w4 : wdI b n (skN b n e) = 4
      · exact h198 (m_peo0 hn hb hc he hr hk hA (by omega) (fun q => qn w4 (q.1 w4)))
      · exact h198 (m_peo hn hb hc he hr hk hA (by omega))
  unfold fn_X8_statement
  rw [m_isj hn hc hb (show 0 < 9 by decide) he hr, Option.bind_some]
  dsimp only
  rw [bI_0]
  by_cases w0 : 0 = wdI b n (skN b n e)
  · have e1 : stP b n A e = boV b n 0 A (enN b n (skN b n e)) := by
      rw [st_1 (by omega) ⟨fun q => by omega, fun q => by omega⟩, ← w0]
      rfl
    rw [decide_eq_true w0, cond_true, e1]
    exact (m_as50 hn hb hc he hr hk hA).wr
  rw [decide_eq_false w0, cond_false]
  rw [m_isj hn hc hb (show 1 < 9 by decide) he hr, Option.bind_some]
  dsimp only
  rw [bI_0]
  by_cases w1 : 1 = wdI b n (skN b n e)
  · have e1 : stP b n A e = boV b n 1 A (enN b n (skN b n e)) := by
      rw [st_1 (by omega) ⟨fun q => by omega, fun q => by omega⟩, ← w1]
      rfl
    rw [decide_eq_true w1, cond_true, e1]
    exact (m_as51 hn hb hc he hr hk hA).wr
  rw [decide_eq_false w1, cond_false]
  rw [m_isj hn hc hb (show 2 < 9 by decide) he hr, Option.bind_some]
  dsimp only
  rw [bI_0]
  by_cases w2 : 2 = wdI b n (skN b n e)
  · have e1 : stP b n A e = boV b n 2 A (enN b n (skN b n e)) := by
      rw [st_1 (by omega) ⟨fun q => by omega, fun q => by omega⟩, ← w2]
      rfl
    rw [decide_eq_true w2, cond_true, e1]
    exact (m_as52 hn hb hc he hr hk hA).wr
  rw [decide_eq_false w2, cond_false]
  rw [m_isj hn hc hb (show 3 < 9 by decide) he hr, Option.bind_some]
  dsimp only
  rw [bI_0]
  by_cases w3 : 3 = wdI b n (skN b n e)
  · have e1 : stP b n A e = boB b n A (enN b n (skN b n e)) := by
      rw [st_1 (by omega) ⟨fun q => by omega, fun q => by omega⟩, ← w3]
      rfl
    rw [decide_eq_true w3, cond_true, e1]
    exact m_back hn hb hc he hr hk hA
  rw [decide_eq_false w3, cond_false]
  rw [m_isj hn hc hb (show 4 < 9 by decide) he hr, Option.bind_some]
  dsimp only
  rw [bI_0]
  by_cases w4 : 4 = wdI b n (skN b n e)
  · rw [decide_eq_true w4, cond_true, hA.np, z3, i_le (by omega) (by omega)]
    by_cases r4 : 3 ≤ lnp A
    · rw [if_pos r4]
      exact h124 (by omega) (fun _ => by omega)
    · have e1 : stP b n A e = boP b n A (enN b n (skN b n e)) := by
        rw [st_1 (by omega) ⟨fun q => by omega, fun q => by omega⟩, ← w4]
        rfl
      rw [if_neg r4, e1]
      exact (m_pass hn hb hc he hr hk hA (by omega)).wr
  · rw [decide_eq_false w4, cond_false]
    exact h124 (by omega) (fun q => by omega)
end PSM
