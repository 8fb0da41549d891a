/-! ===== the draft: the whole of it ===== -/
def stK (r : Nat ⊕ (pu_L × Nat)) (K : pu_L → Nat → Nat ⊕ (pu_L × Nat)) : Nat ⊕ (pu_L × Nat) := match r with
  | Sum.inl f => Sum.inl f
  | Sum.inr q => K q.1 q.2
/-- behind the statement number c, which ends at e -/
noncomputable def ldR (b : Nat → Nat) (n : Nat) : Nat → pu_L → Nat → Nat → Nat ⊕ (pu_L × Nat)
  | 0, _, e, _ => Sum.inl e
  | m + 1, A, e, c => if kdN b n (skN b n e) = 0 then Sum.inr (A, c) else if kdN b n (skN b n e) = 3 then stK (stP b n A (enN b n (skN b n e))) (fun A' e' => ldR b n m A' e' (c + 1)) else Sum.inl (skN b n e)
noncomputable def ldP (b : Nat → Nat) (n m : Nat) (A : pu_L) (e c : Nat) : Nat ⊕ (pu_L × Nat) := stK (stP b n A e) fun A' e' => ldR b n m A' e' c
def leF (n : Nat) (r : Nat ⊕ (pu_L × Nat)) : Prop := ∀ f, r = Sum.inl f → f ≤ n
def SmA : Nat → Nat → Nat → Nat → Prop := fun o k _ j => o = 5 ∧ ((50 ≤ k ∧ k < 63) ∨ (k = 40 ∧ (j = 12 ∨ j = 13 ∨ j = 15 ∨ (28 ≤ j ∧ j ≤ 34))) ∨ k = 63)
def resCL (σ : am_S) (r : Nat ⊕ (pu_L × Nat)) (x : Option (Int32 × am_S)) : Prop := match r with
  | Sum.inl f => ∃ τ, x = some ((-20 : Int32) - nI f, τ) ∧ fr ScL σ τ
  | Sum.inr q => ∃ τ, x = some (nI q.2, τ) ∧ fr ScL σ τ ∧ pu_c q.1 3 τ
def resML (σ : am_S) (r : Nat ⊕ (pu_L × Nat)) (x : Option (Int32 × am_S)) : Prop := match r with
  | Sum.inl f => ∃ τ, x = some (0, τ) ∧ fr SmA σ τ ∧ τ.1 5 40 0 32 = nI f
  | Sum.inr q => ∃ τ, x = some (1, τ) ∧ fr SmA σ τ ∧ pu_m q.1 5 τ ∧ τ.1 5 40 0 34 = nI q.2
section PLD
variable {A : pu_L} {b : Nat → Nat} {n e i k s lo B w c m : Nat} {σ τ : am_S} {K : Nat → Nat → Nat ⊕ (pu_L × Nat)} {r : Nat ⊕ (pu_L × Nat)} {x : Option (Int32 × am_S)}
theorem resCL.of (h : fr ScL σ τ) (q : resCL τ r x) : resCL σ r x := by
  cases r with
  | inl f =>
    obtain ⟨ρ, q1, q2⟩ := q
    exact ⟨ρ, q1, h.tr q2⟩
  | inr z =>
    obtain ⟨ρ, q1, q2, q3⟩ := q
    exact ⟨ρ, q1, h.tr q2, q3⟩
theorem resML.of (h : fr SmA σ τ) (q : resML τ r x) : resML σ r x := by
  cases r with
  | inl f =>
    obtain ⟨ρ, q1, q2, q3⟩ := q
    exact ⟨ρ, q1, h.tr q2, q3⟩
  | inr z =>
    obtain ⟨ρ, q1, q2, q3⟩ := q
    exact ⟨ρ, q1, h.tr q2, q3⟩
theorem SmL_A : ∀ o k i j, SmL o k i j → SmA o k i j := fun o k i j q => by unfold SmL at q; unfold SmA; omega
theorem FM_A : ∀ o k i j, FM o k i j → SmA o k i j := fun o k i j q => by unfold FM at q; unfold SmA; omega
theorem ldR_0 (h : kdN b n (skN b n e) = 0) : ldR b n (m + 1) A e c = Sum.inr (A, c) := if_pos h
theorem ldR_3 (h : kdN b n (skN b n e) = 3) : ldR b n (m + 1) A e c = ldP b n m A (enN b n (skN b n e)) (c + 1) := by
  show (if kdN b n (skN b n e) = 0 then _ else if kdN b n (skN b n e) = 3 then _ else _) = _
  rw [if_neg (by omega), if_pos h]
  rfl
theorem ldR_x (h : kdN b n (skN b n e) ≠ 0) (h3 : kdN b n (skN b n e) ≠ 3) : ldR b n (m + 1) A e c = Sum.inl (skN b n e) := by
  show (if kdN b n (skN b n e) = 0 then _ else if kdN b n (skN b n e) = 3 then _ else _) = _
  rw [if_neg h, if_neg h3]
theorem st_ok (hk : pu_k A) (he : e ≤ n) {A' : pu_L} {e' : Nat} (h : stP b n A e = Sum.inr (A', e')) : pu_k A' ∧ lne A ≤ lne A' ∧ e < e' ∧ e' ≤ n := by
  have hs := sk_le (b := b) he
  have hen := en_le (b := b) hs.2
  by_cases c : wdI b n (skN b n e) < 9 ∧ roN A (wdI b n (skN b n e))
  · rw [st_1 c.1 c.2] at h
    have g := bo_ok hk c.2 hen.2 c.1 h
    exact ⟨g.1, g.2.1, by omega, g.2.2.2⟩
  · rw [st_0 c] at h
    cases h
theorem rK_f (he : e ≤ n) (h : ∀ v e', rdN b n e lo B = some (v, e') → leF n (K v e')) : leF n (rdK b n e lo B K) := by
  cases c : rdN b n e lo B with
  | none =>
    rw [rK_0 c]
    intro f q
    cases q
    exact (sk_le he).2
  | some q =>
    obtain ⟨v, e'⟩ := q
    rw [rK_1 c]
    exact h v e' c
theorem rQ_f {v0 : Nat} (he : e ≤ n) (h : ∀ v e', rdN b n e 0 7 = some (v, e') → leF n (K v e')) : leF n (rdQ b n e v0 K) := by
  by_cases d : ∃ e', rdN b n e 0 7 = some (v0, e')
  · obtain ⟨e', d⟩ := d
    rw [rQ_0 d]
    intro f q
    cases q
    exact (sk_le he).2
  · rw [rQ_K d]
    exact rK_f he h
theorem in_f {z : pu_L × Nat} : leF n (Sum.inr z) := fun f q => by cases q
theorem bo_f (he : e ≤ n) : leF n (boN b n w A e) := by
  unfold boN boB boP boE boD boA boU boV
  repeat' split
  · exact rK_f he fun v e1 q1 => in_f
  · exact rK_f he fun v e1 q1 => rQ_f (rd_le he q1).2.2.2 fun u e2 q2 => rK_f (rd_le (rd_le he q1).2.2.2 q2).2.2.2 fun f e3 q3 => rK_f (rd_le (rd_le (rd_le he q1).2.2.2 q2).2.2.2 q3).2.2.2 fun h e4 q4 => in_f
  · exact rK_f he fun v e1 q1 => rK_f (rd_le he q1).2.2.2 fun u e2 q2 => rK_f (rd_le (rd_le he q1).2.2.2 q2).2.2.2 fun f e3 q3 => in_f
  all_goals exact rK_f he fun v e1 q1 => rK_f (rd_le he q1).2.2.2 fun u e2 q2 => in_f
theorem stP_f (he : e ≤ n) : leF n (stP b n A e) := by
  have hs := sk_le (b := b) he
  have hen := en_le (b := b) hs.2
  by_cases c : wdI b n (skN b n e) < 9 ∧ roN A (wdI b n (skN b n e))
  · rw [st_1 c.1 c.2]
    exact bo_f hen.2
  · rw [st_0 c]
    intro f q
    cases q
    exact hs.2
/-- what the draft comes to is a land, and a wrong place lies in the draft -/
theorem ldR_ok : ∀ (m : Nat) (A : pu_L) (e c : Nat), pu_k A → e ≤ n → leF n (ldR b n m A e c) ∧ ∀ A' c', ldR b n m A e c = Sum.inr (A', c') → pu_k A' ∧ lne A ≤ lne A' ∧ c' ≤ c + m
  | 0, A, e, c, hk, he => ⟨fun f q => by cases q; exact he, fun A' c' q => by cases q⟩
  | m + 1, A, e, c, hk, he => by
    have hs := sk_le (b := b) he
    have hen := en_le (b := b) hs.2
    by_cases k0 : kdN b n (skN b n e) = 0
    · rw [ldR_0 k0]
      refine ⟨in_f, fun A' c' q => ?_⟩
      cases q
      exact ⟨hk, Nat.le_refl _, by omega⟩
    · by_cases k3 : kdN b n (skN b n e) = 3
      · rw [ldR_3 k3]
        unfold ldP
        cases hst : stP b n A (enN b n (skN b n e)) with
        | inl f => exact ⟨fun g q => stP_f (A := A) hen.2 g (hst.trans q), fun A' c' q => by cases q⟩
        | inr z =>
          obtain ⟨A1, e1⟩ := z
          have ok := st_ok hk hen.2 hst
          have g := ldR_ok m A1 e1 (c + 1) ok.1 ok.2.2.2
          refine ⟨g.1, fun A' c' q => ?_⟩
          have g2 := g.2 A' c' q
          exact ⟨g2.1, Nat.le_trans ok.2.1 g2.2.1, by omega⟩
      · rw [ldR_x k0 k3]
        exact ⟨fun f q => by cases q; exact hs.2, fun A' c' q => by cases q⟩
theorem ldP_ok (hk : pu_k A) (he : e ≤ n) : leF n (ldP b n m A e c) ∧ ∀ A' c', ldP b n m A e c = Sum.inr (A', c') → pu_k A' ∧ lne A ≤ lne A' ∧ c' ≤ c + m := by
  unfold ldP
  cases hst : stP b n A e with
  | inl f => exact ⟨fun g q => stP_f (A := A) he g (hst.trans q), fun A' c' q => by cases q⟩
  | inr z =>
    obtain ⟨A1, e1⟩ := z
    have ok := st_ok hk he hst
    have g := ldR_ok (b := b) m A1 e1 c ok.1 ok.2.2.2
    refine ⟨g.1, fun A' c' q => ?_⟩
    have g2 := g.2 A' c' q
    exact ⟨g2.1, Nat.le_trans ok.2.1 g2.2.1, g2.2.2⟩
theorem FC_S : ∀ o k i j, FC o k i j → ScL o k i j := fun o k i j q => by unfold FC at q; unfold ScL; omega
theorem c_load (hn : n ≤ 250) (hb : ∀ i, i < n → b i < 256) : ∀ (m c fuel : Nat) (A : pu_L) (e : Nat) (σ : am_S), c + m = 130 → m < fuel → 1 ≤ c → 2 * c ≤ e + 2 → e ≤ n → tcC b n σ → σ.1 11 14 0 6 = nI e → pu_k A → pu_c A 3 σ → resCL σ (ldP b n m A e c) (lp_X4_readLand_15 fuel (nI c) σ) := by
  intro m
  induction m with
  | zero => intro c fuel A e σ; intros; omega
  | succ m ih =>
    intro c fuel A e σ hcm hf h1c h2c he hc h6 hk hA
    obtain ⟨f, rfl⟩ : ∃ f, fuel = f + 1 := ⟨fuel - 1, by omega⟩
    have hS := c_stmt (A := A) hn hb hc he h6 hk hA
    rw [lp_X4_readLand_15.eq_2]
    unfold lb_X4_readLand_15 ldP
    rw [show (250 : Int32) = nI 250 from rfl, if_neg (nf (n_lt_f (by omega) (by omega)))]
    cases hst : stP b n A e with
    | inl g =>
      rw [hst] at hS
      obtain ⟨τ, q1, q2, q3⟩ := hS
      rw [q1, Option.bind_some]
      dsimp only
      rw [if_pos rfl, q3]
      exact ⟨τ, rfl, q2⟩
    | inr z =>
      obtain ⟨A', e'⟩ := z
      rw [hst] at hS
      obtain ⟨τ, q1, q2, q3, q4⟩ := hS
      have ok := st_ok hk he hst
      have hcτ : tcC b n τ := hc.fr q2 (fun _ _ _ q => by unfold ScL at q; omega)
      obtain ⟨ρ, d1, d2, d3, d4, d5⟩ := c_next hn hcτ hb ok.2.2.2 q4
      have F : fr ScL σ ρ := q2.tr (d2.mono FC_S)
      have hcρ : tcC b n ρ := hcτ.fr d2 (fun _ _ _ q => by unfold FC at q; omega)
      have hAρ : pu_c A' 3 ρ := d2.c (fun _ _ _ q => by unfold FC at q; omega) q3
      have hs := sk_le (b := b) ok.2.2.2
      have hkd := kd_le (b := b) (n := n) (i := skN b n e')
      have q4' : τ.1 11 14 0 6 = nI e' := q4
      rw [q1, Option.bind_some]
      dsimp only
      rw [if_neg (show ¬ (1 : Int32) = 0 by decide), d1, Option.bind_some, d3, d4]
      show resCL σ (ldR b n (m + 1) A' e' c) _
      by_cases k0 : kdN b n (skN b n e') = 0
      · rw [if_pos (show nI (kdN b n (skN b n e')) = (0 : Int32) by rw [k0]; rfl), ldR_0 k0]
        exact ⟨ρ, rfl, F, hAρ⟩
      · rw [if_neg (show ¬ nI (kdN b n (skN b n e')) = (0 : Int32) from nf (n_eq_f (b := 0) k0 (by omega) (by decide)))]
        by_cases k3 : kdN b n (skN b n e') = 3
        · have hlt := kd_lt (b := b) hs.2 k0
          have hg := en_gt (b := b) hlt
          rw [if_pos (show nI (kdN b n (skN b n e')) = (3 : Int32) by rw [k3]; rfl), ldR_3 k3, n_suc]
          exact (ih (c + 1) f A' (enN b n (skN b n e')) ρ (by omega) (by omega) (by omega) (by omega) hg.2 hcρ d5 ok.1 hAρ).of F
        · rw [if_neg (show ¬ nI (kdN b n (skN b n e')) = (3 : Int32) from nf (n_eq_f (b := 3) k3 (by omega) (by decide))), ldR_x k0 k3]
          exact ⟨ρ, rfl, F⟩
theorem c_rl (hn : n ≤ 250) (hb : ∀ i, i < n → b i < 256) (hc : tcC b n σ) (hk : pu_k A) (hA : pu_c A 1 σ) : resCL σ (ldP b n 129 A 0 1) (fn_X4_readLand 1 σ) := by
  obtain ⟨τ, e1, c1⟩ := c_becomes (a := 1) (b := 3) (σ := σ) (by decide)
  have f1 : fr ScL σ (am_u τ 11 14 0 6 0) := (c1.1.mono fun o k i j q => by unfold ScL; omega).tr (fr.u (by unfold ScL; omega))
  have hA3 : pu_c A 3 (am_u τ 11 14 0 6 0) := (fr.u (S := fun o _ _ _ => o = 11) rfl).c (fun _ _ _ => by omega) (c1.c (fun k i j q => q) hA)
  unfold fn_X4_readLand
  rw [e1, Option.bind_some]
  exact (c_load hn hb 129 1 1000 A 0 _ rfl (by decide) (by decide) (by decide) (Nat.zero_le _) (hc.fr f1 (fun _ _ _ q => by unfold ScL at q; omega)) u_at hk hA3).of f1
theorem m_load (hn : n ≤ 250) (hb : ∀ i, i < n → b i < 256) : ∀ (m c fuel : Nat) (A : pu_L) (e : Nat) (σ : am_S), c + m = 130 → m < fuel → 1 ≤ c → 2 * c ≤ e + 1 → e ≤ n → tcM b n σ → rT b n σ e → pu_k A → pu_m A 5 σ → σ.1 5 40 0 34 = nI c → resML σ (ldR b n m A e c) (lp_X8_readAll_23 fuel 5 σ) := by
  intro m
  induction m with
  | zero => intro c fuel A e σ; intros; omega
  | succ m ih =>
    intro c fuel A e σ hcm hf h1c h2c he hc hr hk hA h34
    obtain ⟨f, rfl⟩ : ∃ f, fuel = f + 1 := ⟨fuel - 1, by omega⟩
    have hs := sk_le (b := b) he
    have hkd := kd_le (b := b) (n := n) (i := skN b n e)
    rw [lp_X8_readAll_23.eq_2]
    unfold lb_X8_readAll_23
    rw [hr.2.1]
    by_cases k0 : kdN b n (skN b n e) = 0
    · rw [if_pos (show nI (kdN b n (skN b n e)) = (0 : Int32) by rw [k0]; rfl), ldR_0 k0]
      exact ⟨σ, rfl, fr.rf, hA, h34⟩
    · rw [if_neg (show ¬ nI (kdN b n (skN b n e)) = (0 : Int32) from nf (n_eq_f (b := 0) k0 (by omega) (by decide)))]
      by_cases k3 : kdN b n (skN b n e) = 3
      · have hlt := kd_lt (b := b) hs.2 k0
        have hg := en_gt (b := b) hlt
        rw [if_pos (show nI (kdN b n (skN b n e)) = (3 : Int32) by rw [k3]; rfl), ldR_3 k3]
        obtain ⟨ρ, d1, d2, d3⟩ := m_look hn hc hb hg.2 hr.1
        have hcρ : tcM b n ρ := hc.fr d2 (fun _ _ _ q => by unfold FM at q; omega)
        have hAρ : pu_m A 5 ρ := d2.m1 (fun _ _ _ _ q => by unfold FM at q; omega) hA
        have hS := m_stmt (A := A) hn hb hcρ hg.2 d3 hk hAρ
        rw [d1, Option.bind_some]
        unfold ldP
        cases hst : stP b n A (enN b n (skN b n e)) with
        | inl g =>
          rw [hst] at hS
          obtain ⟨τ, q1, q2, q3⟩ := hS
          rw [q1, Option.bind_some]
          dsimp only
          rw [if_pos rfl]
          exact ⟨τ, rfl, (d2.mono FM_A).tr (q2.mono SmL_A), q3⟩
        | inr z =>
          obtain ⟨A', e'⟩ := z
          rw [hst] at hS
          obtain ⟨τ, q1, q2, q3, q4⟩ := hS
          have ok := st_ok hk hg.2 hst
          have h34τ : τ.1 5 40 0 34 = nI c := by rw [(q2 5 40 0 34 (by unfold SmL; omega)).1, (d2 5 40 0 34 (by unfold FM; omega)).1]; exact h34
          have F : fr SmA σ (am_u τ 5 40 0 34 (nI (c + 1))) := ((d2.mono FM_A).tr (q2.mono SmL_A)).tr (fr.u (by unfold SmA; omega))
          have hcτ : tcM b n (am_u τ 5 40 0 34 (nI (c + 1))) := hc.fr F (fun _ _ _ q => by unfold SmA at q; omega)
          have hAτ : pu_m A' 5 (am_u τ 5 40 0 34 (nI (c + 1))) := (fr.u (S := fun o k _ j => o = 5 ∧ k = 40 ∧ j = 34) ⟨rfl, rfl, rfl⟩).m1 (fun _ _ _ _ => by omega) q3
          rw [q1, Option.bind_some]
          dsimp only
          rw [if_neg (show ¬ (1 : Int32) = 0 by decide), h34τ, n_suc]
          exact (ih (c + 1) f A' e' _ (by omega) (by omega) (by omega) (by omega) ok.2.2.2 hcτ (q4.u (by omega)) ok.1 hAτ u_at).of F
      · rw [if_neg (show ¬ nI (kdN b n (skN b n e)) = (3 : Int32) from nf (n_eq_f (b := 3) k3 (by omega) (by decide))), ldR_x k0 k3]
        refine ⟨am_u σ 5 40 0 32 (nI (skN b n e)), ?_, fr.u (by unfold SmA; omega), u_at⟩
        unfold fn_X8_wrong
        rw [hr.2.2.1]
        rfl
theorem m_ra (hn : n ≤ 250) (hb : ∀ i, i < n → b i < 256) (hc : tcM b n σ) (hk : pu_k A) (hA : pu_m A 5 σ) : resML σ (ldP b n 129 A 0 1) (fn_X8_readAll 5 σ) := by
  have f1 : fr SmA σ (am_u (am_u σ 5 40 0 34 1) 5 40 0 28 0) := (fr.u (by unfold SmA; omega)).tr (fr.u (by unfold SmA; omega))
  have f1' : fr (fun o k _ j => o = 5 ∧ k = 40 ∧ (j = 34 ∨ j = 28)) σ (am_u (am_u σ 5 40 0 34 1) 5 40 0 28 0) := (fr.u (by omega)).tr (fr.u (by omega))
  have c1 : tcM b n (am_u (am_u σ 5 40 0 34 1) 5 40 0 28 0) := hc.fr f1 (fun _ _ _ q => by unfold SmA at q; omega)
  obtain ⟨ρ, d1, d2, d3⟩ := m_look (σ := am_u (am_u σ 5 40 0 34 1) 5 40 0 28 0) hn c1 hb (Nat.zero_le n) u_at
  have cρ : tcM b n ρ := c1.fr d2 (fun _ _ _ q => by unfold FM at q; omega)
  have Aρ : pu_m A 5 ρ := d2.m1 (fun _ _ _ _ q => by unfold FM at q; omega) (f1'.m1 (fun _ _ _ _ => by omega) hA)
  have h34 : ρ.1 5 40 0 34 = nI 1 := by rw [(d2 5 40 0 34 (by unfold FM; omega)).1, u_ne (by omega), u_at]; rfl
  have F := f1.tr (d2.mono FM_A)
  have hS := m_stmt (A := A) hn hb cρ (Nat.zero_le n) d3 hk Aρ
  unfold fn_X8_readAll ldP
  rw [d1, Option.bind_some]
  cases hst : stP b n A 0 with
  | inl g =>
    rw [hst] at hS
    obtain ⟨τ, q1, q2, q3⟩ := hS
    rw [q1, Option.bind_some]
    dsimp only
    rw [if_pos rfl]
    exact ⟨τ, rfl, F.tr (q2.mono SmL_A), q3⟩
  | inr z =>
    obtain ⟨A', e'⟩ := z
    rw [hst] at hS
    obtain ⟨τ, q1, q2, q3, q4⟩ := hS
    have ok := st_ok hk (Nat.zero_le n) hst
    rw [q1, Option.bind_some]
    dsimp only
    rw [if_neg (show ¬ (1 : Int32) = 0 by decide)]
    exact (m_load hn hb 129 1 1000 A' e' τ rfl (by decide) (by decide) (by omega) ok.2.2.2 (cρ.fr q2 (fun _ _ _ q => by unfold SmL at q; omega)) q4 ok.1 q3 (by rw [(q2 5 40 0 34 (by unfold SmL; omega)).1]; exact h34)).of (F.tr (q2.mono SmL_A))
end PLD
/-- where the drafts of class and reference leave their marks -/
def SC0 : Nat → Nat → Nat → Nat → Prop := fun o k i j => ScL o k i j ∨ (o = 11 ∧ k = 14 ∧ j = 2) ∨ o = 1
def SM0 : Nat → Nat → Nat → Nat → Prop := fun o k i j => o = 7 ∨ ((o = 99 ∨ o = 5) ∧ k = 40 ∧ j = 27) ∨ SmA o k i j ∨ (o = 5 ∧ k = 40 ∧ j = 7)
def SL0 : Nat → Nat → Nat → Nat → Prop := fun o k i j => SC0 o k i j ∨ SM0 o k i j
def SM1 : Nat → Nat → Nat → Nat → Prop := fun o k i j => SM0 o k i j ∨ (o = 5 ∧ (k = 49 ∨ (k = 40 ∧ (j = 24 ∨ j = 25))))
def SL1 : Nat → Nat → Nat → Nat → Prop := fun o k i j => SC0 o k i j ∨ (o = 0 ∧ k = 1) ∨ SM1 o k i j
theorem gh_of {S : Nat → Nat → Nat → Nat → Prop} {σ τ : am_S} (h : fr S σ τ) (h1 : ¬ S 5 40 0 26) (h2 : ¬ S 99 40 0 26) (h3 : τ.1 5 40 0 27 ≠ nI 0) (hq : pu_gh σ) : pu_gh τ := ⟨fun q => by
  rw [(h 99 40 0 26 h2).1]
  exact hq.1 (by rw [← (h 5 40 0 26 h1).1]; exact q), fun q => absurd q h3⟩
/-- the reference reads, from a state that differs in nothing that it looks at -/
theorem m_rfr {A : pu_L} {b : Nat → Nat} {n : Nat} {ρ : am_S} (hn : n ≤ 250) (hb : ∀ i, i < n → b i < 256) (hk : pu_k A) (mρ : pu_m A 5 ρ) (cρ : tcM b n ρ) (gρ : pu_gh ρ) : ∃ τ2, fn_X8_fresh ρ = some τ2 ∧ fr SM0 ρ τ2 ∧ pu_m A 7 τ2 ∧ τ2.1 5 40 0 27 ≠ nI 0 ∧ resML τ2 (ldP b n 129 A 0 1) (fn_X8_readAll 5 τ2) := by
  obtain ⟨τ1, d1, d2, d3⟩ := m_mk7 (σ := ρ) gρ.2
  obtain ⟨τ2, b1, c2⟩ := m_take (a := 5) (b := 7) (σ := τ1) (by decide)
  have F : fr (fun o k i j => o = 7 ∨ ((o = 99 ∨ o = 5) ∧ k = 40 ∧ i = 0 ∧ j = 27)) ρ τ2 := d2.tr (c2.1.mono fun o k i j q => Or.inl q.1)
  have m1 : pu_m A 5 τ1 := d2.m1 (fun _ _ _ _ => by omega) mρ
  have m2 : pu_m A 5 τ2 := F.m1 (fun _ _ _ _ => by omega) mρ
  have n27 : τ2.1 5 40 0 27 ≠ nI 0 := by rw [(c2.1 5 40 0 27 (by omega)).1]; exact d3
  refine ⟨τ2, ?_, F.mono (fun o k i j q => by unfold SM0; omega), c2.m (fun k i j q => q) m1, n27, m_ra hn hb (cρ.fr F (fun _ _ _ q => by omega)) hk m2⟩
  unfold fn_X8_fresh
  rw [d1, Option.bind_some, b1, Option.bind_some]
  exact if_neg n27
theorem pv_land  (σ : am_S) (hI : pu_Inv σ) : ∃ (r : Int32) (σ1 σ2 : am_S), fn_X7_land  σ = some (r, σ1) ∧ fn_X8_land  σ1 = some (r, σ2) ∧ pu_Inv σ2 := by
  obtain ⟨A, hI⟩ := hI
  have hk := hI.1.1
  have hm := hI.1.2.2.1
  have hne := hk.2.1
  have hnp := hk.1
  have hc := hI.1.2.1
  obtain ⟨n, hn, t1, t2, t4⟩ := id hI.1.2.2.2.2.2.1
  generalize hbd : (fun i => (σ.1 11 15 0 i).toNatClampNeg) = b
  have hq : ∀ i, i < n → b i < 256 ∧ σ.1 11 15 0 i = nI (b i) ∧ σ.1 5 48 0 i = nI (b i) := fun i hi => by
    obtain ⟨x, x1, x2, x3⟩ := t4 i hi
    have e : b i = x := by
      rw [← hbd]
      show (σ.1 11 15 0 i).toNatClampNeg = x
      rw [x2, n_cl (by omega)]
    rw [e]
    exact ⟨x1, x2, x3⟩
  have hb : ∀ i, i < n → b i < 256 := fun i hi => (hq i hi).1
  have hC : tcC b n σ := ⟨t1, fun i hi => (hq i hi).2.1⟩
  have hM : tcM b n σ := ⟨t2, fun i hi => (hq i hi).2.2⟩
  have hR := c_rl hn hb hC hk hc
  have hok := ldP_ok (b := b) (n := n) (m := 129) (c := 1) hk (Nat.zero_le n)
  cases hl : ldP b n 129 A 0 1 with
  | inr z =>
    obtain ⟨A', c'⟩ := z
    rw [hl] at hR
    obtain ⟨σb, r1, r2, r3⟩ := hR
    have ok := hok.2 A' c' hl
    obtain ⟨σc, e1, c1⟩ := c_becomes (a := 3) (b := 1) (σ := am_u σb 11 14 0 2 0) (by decide)
    have f7 : fr SC0 σ σc := (r2.mono (T := SC0) fun o k i j q => Or.inl q).tr ((fr.u (S := SC0) (Or.inr (Or.inl ⟨rfl, rfl, rfl⟩))).tr (c1.1.mono (T := SC0) fun o k i j q => Or.inr (Or.inr q.1)))
    have hc1 : pu_c A' 1 σc := c1.c (fun k i j q => q) ((fr.u (S := fun o _ _ _ => o = 11) rfl).c (fun _ _ _ => by omega) r3)
    have z2' : σc.1 11 14 0 2 = nI 0 := by rw [(c1.1 11 14 0 2 (by omega)).1, u_at]; rfl
    obtain ⟨τ2, b1, b2, b4, b5, b6⟩ := m_rfr hn hb hk (f7.m1 (fun _ _ _ _ q => by unfold SC0 ScL at q; omega) hm) (hM.fr f7 (fun _ _ _ q => by unfold SC0 ScL at q; omega)) (f7.gh1 (fun o j h1 h2 q => by unfold SC0 ScL at q; omega) hI.1.2.2.2.2.1)
    rw [hl] at b6
    obtain ⟨τ3, g1, g2, g3, g4⟩ := b6
    have f8 : fr SM0 σc (am_u τ3 5 40 0 7 0) := b2.tr ((g2.mono (T := SM0) fun o k i j q => Or.inr (Or.inr (Or.inl q))).tr (fr.u (S := SM0) (Or.inr (Or.inr (Or.inr ⟨rfl, rfl, rfl⟩)))))
    have FF : fr SL0 σ (am_u τ3 5 40 0 7 0) := (f7.mono (T := SL0) fun o k i j q => Or.inl q).tr (f8.mono (T := SL0) fun o k i j q => Or.inr q)
    refine ⟨nI c', σc, am_u τ3 5 40 0 7 0, ?_, ?_, A', ⟨⟨ok.1, f8.c (fun _ _ _ q => by unfold SM0 SmA at q; omega) hc1, (fr.u (S := fun o k _ j => o = 5 ∧ k = 40 ∧ j = 7) ⟨rfl, rfl, rfl⟩).m1 (fun _ _ _ _ => by omega) g3, FF.kp1 (fun o k i j _ q => by unfold SL0 SC0 SM0 ScL SmA at q; omega) hI.1.2.2.2.1, gh_of FF (fun q => by unfold SL0 SC0 SM0 ScL SmA at q; omega) (fun q => by unfold SL0 SC0 SM0 ScL SmA at q; omega) ?_ hI.1.2.2.2.2.1, ⟨0, by omega, ?_, u_at, fun i hi => absurd hi (Nat.not_lt_zero _)⟩, fun s hs => FF.s1 (fun k _ q => by unfold SL0 SC0 SM0 ScL SmA at q; omega) (fun k _ q => by unfold SL0 SC0 SM0 ScL SmA at q; omega) (fun i _ => ⟨fun q => by unfold SL0 SC0 SM0 ScL SmA at q; omega, fun q => by unfold SL0 SC0 SM0 ScL SmA at q; omega⟩) ok.2.1 (hI.1.2.2.2.2.2.2 s hs)⟩, FF.rf1 (fun o k j _ q => by unfold SL0 SC0 SM0 ScL SmA at q; omega) hI.2⟩⟩
    · unfold fn_X7_land
      rw [r1, Option.bind_some]
      dsimp only
      rw [if_pos (show (0 : Int32) ≤ nI c' from pt (n_le_t (a := 0) (Nat.zero_le _) (by omega))), e1, Option.bind_some]
    · unfold fn_X8_land
      rw [b1, Option.bind_some, g1, Option.bind_some]
      dsimp only
      rw [if_neg (show ¬ (1 : Int32) = 0 by decide), g4]
    · rw [u_ne (by omega), (g2 5 40 0 27 (by unfold SmA; omega)).1]
      exact b5
    · rw [(f8 11 14 0 2 (by unfold SM0 SmA; omega)).1]
      exact z2'
  | inl f =>
    rw [hl] at hR
    obtain ⟨σb, r1, r2⟩ := hR
    have hfn : f ≤ n := hok.1 f hl
    have hneg : ¬ (0 : Int32) ≤ (-20 : Int32) - nI f := by
      rw [Int32.le_iff_toInt_le, Int32.toInt_sub, n_ti (by omega)]
      show ¬ ((0 : Int) ≤ ((-20 : Int) - (f : Int)).bmod 4294967296)
      rw [Int.bmod_eq_of_le (by omega) (by omega)]
      omega
    generalize hσa : am_u σb 11 14 0 2 0 = σa
    have f6 : fr SC0 σ σa := by
      rw [← hσa]
      exact (r2.mono (T := SC0) fun o k i j q => Or.inl q).tr (fr.u (S := SC0) (Or.inr (Or.inl ⟨rfl, rfl, rfl⟩)))
    have z2' : σa.1 11 14 0 2 = nI 0 := by rw [← hσa, u_at]; rfl
    have hca : pu_c A 1 σa := by
      rw [← hσa]
      exact (fr.u (S := fun o _ _ _ => o = 11) rfl).c (fun _ _ _ => by omega) (r2.c (fun _ _ _ q => by unfold ScL at q; omega) hc)
    have hma : pu_m A 5 σa := f6.m1 (fun _ _ _ _ q => by unfold SC0 ScL at q; omega) hm
    have f6' : fr (fun o k _ _ => o = 0 ∧ k = 1) σa (am_u σa 0 1 0 0 (σa.1 0 1 0 0 + 1)) := fr.u ⟨rfl, rfl⟩
    obtain ⟨τ2, b1, b2, b4, b5, b6⟩ := m_rfr hn hb hk (f6'.m1 (fun _ _ _ _ q => by omega) hma) ((hM.fr f6 (fun _ _ _ q => by unfold SC0 ScL at q; omega)).fr f6' (fun _ _ _ q => by omega)) (f6'.gh1 (fun o j h1 h2 q => by omega) (f6.gh1 (fun o j h1 h2 q => by unfold SC0 ScL at q; omega) hI.1.2.2.2.2.1))
    rw [hl] at b6
    obtain ⟨τ3, g1, g2, g3⟩ := b6
    obtain ⟨τ4, e4, c4⟩ := m_take (a := 7) (b := 5) (σ := am_u τ3 5 40 0 7 0) (by decide)
    have m7 : pu_m A 7 (am_u τ3 5 40 0 7 0) := fr5.m1 (fun _ _ _ _ => by omega) (g2.m1 (fun _ _ _ _ q => by unfold SmA at q; omega) b4)
    have m5 : pu_m A 5 τ4 := c4.m (fun k i j q => q) m7
    have f4 : fr SM1 (am_u σa 0 1 0 0 (σa.1 0 1 0 0 + 1)) τ4 := (b2.mono (T := SM1) fun o k i j q => Or.inl q).tr ((g2.mono (T := SM1) fun o k i j q => Or.inl (Or.inr (Or.inr (Or.inl q)))).tr ((fr.u (S := SM1) (Or.inl (Or.inr (Or.inr (Or.inr ⟨rfl, rfl, rfl⟩))))).tr (c4.1.mono (T := SM1) fun o k i j q => by
      have q1 := q.1
      have q2 := q.2
      unfold STk at q2
      unfold SM1 SM0 SmA
      omega)))
    have f8 : fr SM1 (am_u σa 0 1 0 0 (σa.1 0 1 0 0 + 1)) (am_u τ4 5 49 0 2 (τ4.1 5 49 0 2 + 1)) := f4.tr (fr.u (S := SM1) (Or.inr ⟨rfl, Or.inl rfl⟩))
    have FF : fr SL1 σ (am_u τ4 5 49 0 2 (τ4.1 5 49 0 2 + 1)) := (f6.mono (T := SL1) fun o k i j q => Or.inl q).tr ((f6'.mono (T := SL1) fun o k i j q => Or.inr (Or.inl q)).tr (f8.mono (T := SL1) fun o k i j q => Or.inr (Or.inr q)))
    have g49 : ∀ j, τ4.1 5 49 0 j = σ.1 5 49 0 j := fun j => by
      rw [(c4.1 5 49 0 j (by unfold STk; omega)).1, u_ne (by omega), (g2 5 49 0 j (by unfold SmA; omega)).1, (b2 5 49 0 j (by unfold SM0 SmA; omega)).1, u_ne (by omega), (f6 5 49 0 j (by unfold SC0 ScL; omega)).1]
    have g01 : ∀ j, (am_u τ4 5 49 0 2 (τ4.1 5 49 0 2 + 1)).1 0 1 0 j = (am_u σa 0 1 0 0 (σa.1 0 1 0 0 + 1)).1 0 1 0 j := fun j => (f8 0 1 0 j (by unfold SM1 SM0 SmA; omega)).1
    have g02 : ∀ j, σa.1 0 1 0 j = σ.1 0 1 0 j := fun j => (f6 0 1 0 j (by unfold SC0 ScL; omega)).1
    refine ⟨(-20 : Int32) - nI f, am_u σa 0 1 0 0 (σa.1 0 1 0 0 + 1), am_u τ4 5 49 0 2 (τ4.1 5 49 0 2 + 1), ?_, ?_, A, ⟨⟨hk, f8.c (fun _ _ _ q => by unfold SM1 SM0 SmA at q; omega) (f6'.c (fun _ _ _ q => by omega) hca), (fr.u (S := fun o k _ _ => o = 5 ∧ k = 49) ⟨rfl, rfl⟩).m1 (fun _ _ _ _ => by omega) m5, FF.kp1 (fun o k i j _ q => by unfold SL1 SC0 SM1 SM0 ScL SmA at q; omega) hI.1.2.2.2.1, gh_of FF (fun q => by unfold SL1 SC0 SM1 SM0 ScL SmA at q; omega) (fun q => by unfold SL1 SC0 SM1 SM0 ScL SmA at q; omega) ?_ hI.1.2.2.2.2.1, ⟨0, by omega, ?_, ?_, fun i hi => absurd hi (Nat.not_lt_zero _)⟩, fun s hs => FF.s1 (fun k _ q => by unfold SL1 SC0 SM1 SM0 ScL SmA at q; omega) (fun k _ q => by unfold SL1 SC0 SM1 SM0 ScL SmA at q; omega) (fun i _ => ⟨fun q => by unfold SL1 SC0 SM1 SM0 ScL SmA at q; omega, fun q => by unfold SL1 SC0 SM1 SM0 ScL SmA at q; omega⟩) (Nat.le_refl _) (hI.1.2.2.2.2.2.2 s hs)⟩, fun k hk => ?_⟩⟩
    · unfold fn_X7_land
      rw [r1, Option.bind_some]
      dsimp only
      rw [if_neg hneg, hσa, show (-2 : Int32) = -nI 2 from rfl, c_rf2, Option.bind_some]
    · unfold fn_X8_land
      rw [b1, Option.bind_some, g1, Option.bind_some]
      dsimp only
      rw [if_pos rfl, e4, Option.bind_some, show (-2 : Int32) = -nI 2 from rfl, m_rf2, Option.bind_some]
      dsimp only
      rw [u_ne (by omega), (c4.1 5 40 0 32 (by unfold STk; omega)).1, u_ne (by omega), g3]
    · rw [u_ne (by omega), (c4.1 5 40 0 27 (by unfold STk; omega)).1, u_ne (by omega), (g2 5 40 0 27 (by unfold SmA; omega)).1]
      exact b5
    · rw [(f8 11 14 0 2 (by unfold SM1 SM0 SmA; omega)).1, u_ne (by omega)]
      exact z2'
    · rw [u_ne (by omega), (c4.1 5 40 0 7 (by unfold STk; omega)).1, u_at]
      rfl
    · have i2 := hI.2 k hk
      rw [g01]
      by_cases c : k = 0
      · subst c
        rw [u_at, u_at, g02, g49, i2]
      · rw [u_ne (by omega), u_ne (by omega), g02, g49, i2]
