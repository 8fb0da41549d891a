/-! ===== calls: plans ===== -/
def SW : Nat → Nat → Nat → Nat → Prop := fun o k i j => SX o k i j ∨ ((o = 99 ∨ o = 5) ∧ k = 40 ∧ j = 27)
theorem fr.row {S : Nat → Nat → Nat → Nat → Prop} {σ : am_S} {o k i : Nat} {f : Nat → Int32} (h : ∀ j, S o k i j) : fr S σ (am_row σ o k i f) := fun o' k' i' j' hn => ⟨if_neg fun q => hn (by obtain ⟨rfl, rfl, rfl⟩ := q; exact h j'), rfl⟩
theorem row_at {σ : am_S} {o k i j : Nat} {f : Nat → Int32} : (am_row σ o k i f).1 o k i j = f j := if_pos ⟨rfl, rfl, rfl⟩
theorem row_2 {σ : am_S} {o k i : Nat} {f : Nat → Int32} : (am_row σ o k i f).2 = σ.2 := rfl
theorem lE_sR {A : pu_L} {p : Nat} {f : Nat → Nat} : lE (sR A p f) p = f := funext fun j => if_pos rfl
theorem sR_sR {A : pu_L} {p : Nat} {f g : Nat → Nat} : sR (sR A p f) p g = sR A p g := by
  have h : (fun p' j' => if p' = p then g j' else (if p' = p then f j' else lE A p' j')) = fun p' j' => if p' = p then g j' else lE A p' j' := by
    funext p' j'
    by_cases c : p' = p
    · rw [if_pos c, if_pos c]
    · rw [if_neg c, if_neg c, if_neg c]
  show (A.1, A.2.1, (fun p' j' => if p' = p then g j' else (if p' = p then f j' else lE A p' j')), A.2.2.2) = (A.1, A.2.1, (fun p' j' => if p' = p then g j' else lE A p' j'), A.2.2.2)
  rw [h]
theorem sR_self {A : pu_L} {p : Nat} : sR A p (lE A p) = A := by
  have h : (fun p' j' => if p' = p then lE A p j' else lE A p' j') = lE A := by
    funext p' j'
    by_cases c : p' = p
    · rw [if_pos c, c]
    · rw [if_neg c]
  show (A.1, A.2.1, (fun p' j' => if p' = p then lE A p j' else lE A p' j'), A.2.2.2) = A
  rw [h]
  rfl
section PPL
variable {A : pu_L} {σ τ : am_S} {s n p : Nat}
theorem fr.JW (h : fr SW σ τ) (hg : pu_gh τ) (hq : pu_J A σ) : pu_J A τ := by
  obtain ⟨h1, h2, h3, h4, h5, h6, h7⟩ := hq
  exact ⟨h1, h.c (fun k i j q => by unfold SW SX at q; omega) h2, h.m1 (fun k i j _ q => by unfold SW SX at q; omega) h3, h.kp1 (fun o k i j _ q => by unfold SW SX at q; omega) h4, hg, h.tp1 (fun o k j _ q => by unfold SW SX at q; omega) h6, fun s hs => h.s1 (fun k _ q => by unfold SW SX at q; omega) (fun k _ q => by unfold SW SX at q; omega) (fun i _ => ⟨fun q => by unfold SW SX at q; omega, fun q => by unfold SW SX at q; omega⟩) (Nat.le_refl _) (h7 s hs)⟩
theorem fr.IW (h : fr SW σ τ) (hg : pu_gh τ) (hq : pu_I A σ) : pu_I A τ := ⟨h.JW hg hq.1, h.rf1 (fun o k j _ q => by unfold SW SX at q; omega) hq.2⟩
theorem pv_qw {α : Type} (hI : pu_I A σ) {r : α} {f7 : Option (α × am_S)} {f8 : am_S → Option (α × am_S)} (h7 : ∃ σ1, f7 = some (r, σ1) ∧ fr SX σ σ1) (h8 : ∀ σ1, pu_I A σ1 → fr SX σ σ1 → ∃ σ2, f8 σ1 = some (r, σ2) ∧ fr SW σ1 σ2 ∧ pu_gh σ2) : ∃ (r : α) (σ1 σ2 : am_S), f7 = some (r, σ1) ∧ f8 σ1 = some (r, σ2) ∧ pu_Inv σ2 := by
  obtain ⟨σ1, e1, e2⟩ := h7
  have i1 := e2.I (fun _ _ _ _ h => h) hI
  obtain ⟨σ2, e3, e4, e5⟩ := h8 σ1 i1 e2
  exact ⟨r, σ1, σ2, e1, e3, A, e4.IW e5 i1⟩
theorem pv_w (hI : pu_I A σ) (k : Nat) (hk : k < 5) {f7 : Option (Int32 × am_S)} {f8 : am_S → Option (Int32 × am_S)} (h7 : ∃ σ0, fr SX σ σ0 ∧ f7 = fn_X7_refuse (-nI (k + 2)) σ0) (h8 : ∀ σ1, pu_J A σ1 → fr SJ σ σ1 → ∃ σ0, fr SW σ1 σ0 ∧ pu_gh σ0 ∧ f8 σ1 = fn_X8_refuse 5 (-nI (k + 2)) σ0) : ∃ (r : Int32) (σ1 σ2 : am_S), f7 = some (r, σ1) ∧ f8 σ1 = some (r, σ2) ∧ pu_Inv σ2 := by
  obtain ⟨σ0, a1, a2⟩ := h7
  have i0 := a1.I (fun _ _ _ _ h => h) hI
  have c1 : fn_X7_refuse (-nI (k + 2)) σ0 = some (-nI (k + 2), am_u σ0 0 1 0 k (σ0.1 0 1 0 k + 1)) := by
    rcases (show k = 0 ∨ k = 1 ∨ k = 2 ∨ k = 3 ∨ k = 4 by omega) with rfl | rfl | rfl | rfl | rfl
    · exact c_rf2
    · exact c_rf3
    · exact c_rf4
    · exact c_rf5
    · exact c_rf6
  have m1 : ∀ τ, fn_X8_refuse 5 (-nI (k + 2)) τ = some (-nI (k + 2), am_u τ 5 49 0 (k + 2) (τ.1 5 49 0 (k + 2) + 1)) := fun τ => by
    rcases (show k = 0 ∨ k = 1 ∨ k = 2 ∨ k = 3 ∨ k = 4 by omega) with rfl | rfl | rfl | rfl | rfl
    · exact m_rf2
    · exact m_rf3
    · exact m_rf4
    · exact m_rf5
    · exact m_rf6
  have f1 : fr SJ σ0 (am_u σ0 0 1 0 k (σ0.1 0 1 0 k + 1)) := fr.u (Or.inr (Or.inl ⟨rfl, rfl⟩))
  have j1 := f1.J (fun _ _ _ _ h => h) i0.1
  obtain ⟨σ3, b1, b3, b2⟩ := h8 _ j1 ((a1.mono SX_J).tr f1)
  have j3 := b1.JW b3 j1
  have f4 : fr SJ σ3 (am_u σ3 5 49 0 (k + 2) (σ3.1 5 49 0 (k + 2) + 1)) := fr.u (Or.inr (Or.inr ⟨rfl, rfl⟩))
  refine ⟨_, _, _, a2.trans c1, b2.trans (m1 σ3), A, f4.J (fun _ _ _ _ h => h) j3, fun q hq => ?_⟩
  have g1 : ∀ j, σ3.1 0 1 0 j = (am_u σ0 0 1 0 k (σ0.1 0 1 0 k + 1)).1 0 1 0 j := fun j => (b1 0 1 0 j (by unfold SW SX; omega)).1
  have g2 : ∀ j, σ3.1 5 49 0 j = σ0.1 5 49 0 j := fun j => ((b1 5 49 0 j (by unfold SW SX; omega)).1).trans (u_ne (by omega))
  rw [u_ne (by omega), g1]
  have i2 := i0.2 q hq
  by_cases c : q = k
  · subst c
    rw [u_at, u_at, g2, i2]
  · rw [u_ne (by omega), u_ne (by omega), g2, i2]
/-- a plan: the first act that can't be, the facts behind it, the first lazy act -/
def plN (A : pu_L) (r : Nat → Int64) : Nat → Nat → (Nat → Nat) → Option Nat → Option Nat × (Nat → Nat) × Option Nat
  | 0, _, f, lz => (none, f, lz)
  | m + 1, i, f, lz => if acB (r i) = true then (match dF A f (r i).toInt.toNat with
      | none => (some i, f, lz)
      | some g => plN A r m (i + 1) g (if lz = none ∧ 15 ≤ g 6 then some i else lz)) else (some i, f, lz)
theorem plN_1 {r : Nat → Int64} {m i : Nat} {f g : Nat → Nat} {lz : Option Nat} (h : acB (r i) = true) (d : dF A f (r i).toInt.toNat = some g) : plN A r (m + 1) i f lz = plN A r m (i + 1) g (if lz = none ∧ 15 ≤ g 6 then some i else lz) := by
  show (if acB (r i) = true then _ else _) = _
  rw [if_pos h, d]
theorem plN_2 {r : Nat → Int64} {m i : Nat} {f : Nat → Nat} {lz : Option Nat} (h : acB (r i) = true) (d : dF A f (r i).toInt.toNat = none) : plN A r (m + 1) i f lz = (some i, f, lz) := by
  show (if acB (r i) = true then _ else _) = _
  rw [if_pos h, d]
theorem plN_3 {r : Nat → Int64} {m i : Nat} {f : Nat → Nat} {lz : Option Nat} (h : acB (r i) = false) : plN A r (m + 1) i f lz = (some i, f, lz) := by
  show (if acB (r i) = true then _ else _) = _
  rw [if_neg (by rw [h]; decide)]
theorem acB_t {x : Int64} (h : acB x = true) : (x.toInt.toNat < 5 ∨ x.toInt.toNat = 8 ∨ x.toInt.toNat = 9) ∧ x.toInt32 = nI x.toInt.toNat := by
  obtain ⟨n, h1, h2⟩ := acB_n h
  rw [h2, Int.toNat_natCast]
  refine ⟨h1, Int32.toInt_inj.mp ?_⟩
  rw [Int64.toInt_toInt32, h2, n_ti (by omega)]
  exact Int.bmod_eq_of_le (by omega) (by omega)
theorem oI_m {l : Nat} (h : l < 2147483648) : ¬ oI (some l) = mI := fun q => cast (n_neg1 h) q
theorem plN_lt {r : Nat → Int64} : ∀ {m i : Nat} {f : Nat → Nat} {lz : Option Nat} {w B : Nat}, (plN A r m i f lz).1 = some w → i + m ≤ B → w < B
  | 0, i, f, lz, w, B, h, hB => by cases h
  | m + 1, i, f, lz, w, B, h, hB => by
    cases a : acB (r i)
    · rw [plN_3 a] at h
      cases h
      omega
    · cases d : dF A f (r i).toInt.toNat with
      | none =>
        rw [plN_2 a d] at h
        cases h
        omega
      | some g =>
        rw [plN_1 a d] at h
        exact plN_lt h (by omega)
theorem plN_pb (hk : pu_k A) {r : Nat → Int64} : ∀ (m i : Nat) (f : Nat → Nat) (lz : Option Nat), pb f → pb (plN A r m i f lz).2.1
  | 0, _, f, lz, h => h
  | m + 1, i, f, lz, h => by
    cases a : acB (r i)
    · rw [plN_3 a]; exact h
    · cases d : dF A f (r i).toInt.toNat with
      | none => rw [plN_2 a d]; exact h
      | some g => rw [plN_1 a d]; exact plN_pb hk m (i + 1) g _ (dF_pb hk h d).1
theorem c_plan (hk : pu_k A) (hs : s < 8) (hn : n ≤ 40) {r : Nat → Int64} : ∀ (m i fuel : Nat) (f : Nat → Nat) (lz : Option Nat) (σ : am_S), i + m = n → m < fuel → pu_c A 1 σ → pb f → (∀ j, j < 8 → σ.1 15 33 0 j = nI (f j)) → σ.1 15 32 0 1 = oI lz → (∀ l, lz = some l → l < 40) → (∀ j, j < 40 → σ.2 10 13 s j = r j) →
    ∃ τ, lp_X1_findWrong_13_26 fuel 1 s (nI n) (nI i) σ = some (oI (plN A r m i f lz).1, τ) ∧ fr (fun o _ _ _ => o = 15) σ τ ∧ (∀ j, j < 8 → τ.1 15 33 0 j = nI ((plN A r m i f lz).2.1 j)) ∧ τ.1 15 32 0 1 = oI (plN A r m i f lz).2.2 := by
  intro m
  induction m with
  | zero =>
    intro i fuel f lz σ hs hf hc hb hR hL hl hr
    obtain ⟨fu, rfl⟩ : ∃ f, fuel = f + 1 := ⟨fuel - 1, by omega⟩
    refine ⟨σ, ?_, fr.rf, hR, hL⟩
    rw [lp_X1_findWrong_13_26.eq_2]
    unfold lb_X1_findWrong_13_26
    rw [if_pos (by rw [n_le_i (by omega) (by omega)]; omega)]
    rfl
  | succ m ih =>
    intro i fuel f lz σ hs' hf hc hb hR hL hl hr
    obtain ⟨fu, rfl⟩ : ∃ f, fuel = f + 1 := ⟨fuel - 1, by omega⟩
    have hi : i < 40 := by omega
    rw [lp_X1_findWrong_13_26.eq_2]
    unfold lb_X1_findWrong_13_26 jn_X1_findWrong_13_94
    rw [if_neg (by rw [n_le_i (by omega) (by omega)]; omega), z40, if_neg (by rw [n_le_i (by omega) (by omega)]; omega), n_in_t (show i < 40 by omega) (by omega), cond_true, n_cl (by omega), hr i hi, c_isAct, Option.bind_some]
    cases a : acB (r i)
    · rw [plN_3 a]
      exact ⟨σ, rfl, fr.rf, hR, hL⟩
    · obtain ⟨a1, a2⟩ := acB_t a
      dsimp only
      rw [if_neg (show ¬ (cond true (nI 1) (nI 0) = 0) by decide), cond_true, hr i hi, a2]
      rcases c_act_33 hk hc hb hR a1 with ⟨d, e⟩ | ⟨g, τ, d, e, f1, r1⟩
      · rw [plN_2 a d, e]
        exact ⟨σ, rfl, fr.rf, hR, hL⟩
      · rw [plN_1 a d, e, Option.bind_some]
        dsimp only
        rw [if_neg (show ¬ nI 1 = (0 : Int32) by decide)]
        have hb1 := (dF_pb hk hb d).1
        have l1 : τ.1 15 32 0 1 = oI lz := by rw [(f1 15 32 0 1 (by omega)).1]; exact hL
        have t6 : τ.1 15 33 0 6 = nI (g 6) := r1 6 (by decide)
        have b6 : g 6 ≤ 20 := hb1.2.2.2.2.2.2.1
        have hc1 : pu_c A 1 τ := f1.c (fun _ _ _ q => by omega) hc
        have hr1 : ∀ j, j < 40 → τ.2 10 13 s j = r j := fun j hj => by rw [(f1 10 13 s j (by omega)).2]; exact hr j hj
        rw [l1, t6, z1, nI_add]
        have z15' : (15 : Int32) = nI 15 := rfl
        rw [z15', i_lt (by omega) (by omega)]
        cases lz with
        | none =>
          rw [if_pos (show oI none = (-nI 1 : Int32) from rfl)]
          by_cases c : g 6 < 15
          · rw [if_pos c, if_neg (by omega)]
            obtain ⟨ρ, d1, d2, d3, d4⟩ := ih (i + 1) fu g none τ (by omega) (by omega) hc1 hb1 r1 l1 (by simp) hr1
            exact ⟨ρ, d1, (f1.mono fun o k i j q => q.1).tr d2, d3, d4⟩
          · rw [if_neg c, if_pos ⟨rfl, by omega⟩]
            obtain ⟨ρ, d1, d2, d3, d4⟩ := ih (i + 1) fu g (some i) (am_u τ 15 32 0 1 (nI i)) (by omega) (by omega) ((fr.u (S := fun o _ _ _ => o = 15) rfl).c (fun _ _ _ q => by omega) hc1) hb1 (fun j hj => by rw [u_ne (by omega)]; exact r1 j hj) u_at (fun l q => by cases q; exact hi) hr1
            exact ⟨ρ, d1, (f1.mono fun o k i j q => q.1).tr ((fr.u rfl).tr d2), d3, d4⟩
        | some l =>
          have hl1 := hl l rfl
          rw [if_neg (show ¬ oI (some l) = (-nI 1 : Int32) from oI_m (by omega)), if_neg (by simp)]
          obtain ⟨ρ, d1, d2, d3, d4⟩ := ih (i + 1) fu g (some l) τ (by omega) (by omega) hc1 hb1 r1 l1 hl hr1
          exact ⟨ρ, d1, (f1.mono fun o k i j q => q.1).tr d2, d3, d4⟩
theorem c_findWrong (hk : pu_k A) (hs : s < 8) (hn : n ≤ 40) (hc : pu_c A 1 σ) (hp : p < lne A) {r : Nat → Int64} (hr : ∀ j, j < 40 → σ.2 10 13 s j = r j) :
    ∃ τ, fn_X1_findWrong_13 1 s (nI n) (nI p) σ = some (oI (plN A r n 0 (lE A p) none).1, τ) ∧ fr (fun o _ _ _ => o = 15) σ τ ∧ (∀ j, j < 8 → τ.1 15 33 0 j = nI ((plN A r n 0 (lE A p) none).2.1 j)) ∧ τ.1 15 32 0 1 = oI (plN A r n 0 (lE A p) none).2.2 := by
  have hp6 : p < 6 := by have := hk.2.1; omega
  have f1 : fr (fun o _ _ _ => o = 15) σ (am_u (am_row σ 15 33 0 (va_cpy (σ.1 1 8 p) (σ.1 15 33 0) 0 0 8)) 15 32 0 1 mI) := (fr.row (fun _ => rfl)).tr (fr.u rfl)
  obtain ⟨τ, e1, e2, e3, e4⟩ := c_plan hk hs hn (r := r) n 0 1000 (lE A p) none (am_u (am_row σ 15 33 0 (va_cpy (σ.1 1 8 p) (σ.1 15 33 0) 0 0 8)) 15 32 0 1 mI) (by omega) (by omega) (f1.c (fun _ _ _ q => by omega) hc) (pb_of hk hp) (fun j hj => by
    rw [u_ne (by omega), row_at]
    unfold va_cpy
    rw [if_pos (by omega), Nat.zero_add, Nat.sub_zero]
    exact hc.E hp6 hj) u_at (by simp) hr
  refine ⟨τ, ?_, f1.tr e2, e3, e4⟩
  unfold fn_X1_findWrong_13
  rw [n_in_t hp6 (by omega), cond_true, n_cl (by omega)]
  exact e1
/-- the reference tries on what is tried -/
def S7t : Nat → Nat → Nat → Nat → Prop := fun o k i j => o = 7 ∨ (o = 5 ∧ k = 40 ∧ i = 0 ∧ j = 47)
theorem m_plan (hk : pu_k A) (hp : p < lne A) (hs : s < 8) (hn : n ≤ 40) {r : Nat → Int64} : ∀ (m i fuel : Nat) (f : Nat → Nat) (lz : Option Nat) (σ : am_S), i + m = n → m < fuel → pb f → pu_m (sR A p f) 7 σ → σ.1 5 40 0 47 = oI lz → (∀ l, lz = some l → l < 40) → (∀ j, j < 40 → σ.2 5 45 s j = r j) →
    ∃ τ, lp_X8_wrongIn_45_14 fuel s (nI n) (nI p) (nI i) σ = some (oI (plN A r m i f lz).1, τ) ∧ fr S7t σ τ ∧ pu_m (sR A p (plN A r m i f lz).2.1) 7 τ ∧ τ.1 5 40 0 47 = oI (plN A r m i f lz).2.2 := by
  intro m
  induction m with
  | zero =>
    intro i fuel f lz σ hs hf hb hm hL hl hr
    obtain ⟨fu, rfl⟩ : ∃ f, fuel = f + 1 := ⟨fuel - 1, by omega⟩
    refine ⟨σ, ?_, fr.rf, hm, hL⟩
    rw [lp_X8_wrongIn_45_14.eq_2]
    unfold lb_X8_wrongIn_45_14
    rw [if_pos (by rw [n_le_i (by omega) (by omega)]; omega)]
    rfl
  | succ m ih =>
    intro i fuel f lz σ hs' hf hb hm hL hl hr
    obtain ⟨fu, rfl⟩ : ∃ f, fuel = f + 1 := ⟨fuel - 1, by omega⟩
    have hi : i < 40 := by omega
    have hp6 : p < 6 := by have := hk.2.1; omega
    rw [lp_X8_wrongIn_45_14.eq_2]
    unfold lb_X8_wrongIn_45_14 jn_X8_wrongIn_45_73 jn_X8_wrongIn_45_77
    rw [if_neg (by rw [n_le_i (by omega) (by omega)]; omega), n_in_t (show i < 40 by omega) (by omega), cond_true, n_cl (by omega), hr i hi, m_isAct, Option.bind_some]
    cases a : acB (r i)
    · rw [plN_3 a]
      exact ⟨σ, rfl, fr.rf, hm, hL⟩
    · obtain ⟨a1, a2⟩ := acB_t a
      dsimp only
      rw [if_neg (show ¬ (cond true (nI 1) (nI 0) = 0) by decide), cond_true, hr i hi, a2]
      have hk1 : pu_k (sR A p f) := hk.row hb
      rcases m_acts (A := sR A p f) (p := p) (o := 7) hk1 hm hp a1 with ⟨d, e⟩ | ⟨g, τ, d, e, f1, r1⟩
      · rw [lE_sR] at d
        have d : dF A f (r i).toInt.toNat = none := d
        rw [plN_2 a d, e]
        exact ⟨σ, rfl, fr.rf, hm, hL⟩
      · rw [lE_sR] at d
        have d : dF A f (r i).toInt.toNat = some g := d
        rw [plN_1 a d, e, Option.bind_some]
        dsimp only
        rw [if_neg (show ¬ nI 1 = (0 : Int32) by decide)]
        have hb1 := (dF_pb hk hb d).1
        have l1 : τ.1 5 40 0 47 = oI lz := by rw [(f1 5 40 0 47 (by omega)).1]; exact hL
        have t6 : τ.1 7 61 0 p = nI (g 6) := r1 6 (by decide)
        have b6 : g 6 ≤ 20 := hb1.2.2.2.2.2.2.1
        have hm1 : pu_m (sR A p g) 7 τ := by
          have h := hm.row f1 r1
          rw [sR_sR] at h
          exact h
        have hr1 : ∀ j, j < 40 → τ.2 5 45 s j = r j := fun j hj => by rw [(f1 5 45 s j (by omega)).2]; exact hr j hj
        have F1 : fr S7t σ τ := f1.mono fun o k i j q => Or.inl q.1
        have up : ∀ lz', ∃ θ, θ = am_u τ 5 40 0 47 (oI lz') ∧ fr S7t τ θ ∧ pu_m (sR A p g) 7 θ ∧ θ.1 5 40 0 47 = oI lz' ∧ ∀ j, j < 40 → θ.2 5 45 s j = r j := fun lz' => ⟨_, rfl, fr.u (Or.inr ⟨rfl, rfl, rfl, rfl⟩), (fr.u (S := fun o _ _ _ => o = 5) rfl).m1 (fun _ _ _ _ q => by omega) hm1, u_at, hr1⟩
        have z15' : (15 : Int32) = nI 15 := rfl
        rw [l1, n_in_t hp6 (by omega), cond_true, n_cl (by omega), t6, z1, nI_add, z15', i_lt (by omega) (by omega)]
        cases lz with
        | none =>
          rw [if_pos (show oI none = (-nI 1 : Int32) from rfl)]
          by_cases c : g 6 < 15
          · rw [if_pos c, if_neg (by omega)]
            obtain ⟨θ, rfl, u2, u3, u4, u5⟩ := up none
            obtain ⟨ρ, d1, d2, d3, d4⟩ := ih (i + 1) fu g none _ (by omega) (by omega) hb1 u3 u4 (by simp) u5
            exact ⟨ρ, d1, F1.tr (u2.tr d2), d3, d4⟩
          · rw [if_neg c, if_pos ⟨rfl, by omega⟩]
            obtain ⟨θ, rfl, u2, u3, u4, u5⟩ := up (some i)
            obtain ⟨ρ, d1, d2, d3, d4⟩ := ih (i + 1) fu g (some i) _ (by omega) (by omega) hb1 u3 u4 (fun l q => by cases q; exact hi) u5
            exact ⟨ρ, d1, F1.tr (u2.tr d2), d3, d4⟩
        | some l =>
          have hl1 := hl l rfl
          rw [if_neg (show ¬ oI (some l) = (-nI 1 : Int32) from oI_m (by omega)), if_neg (by simp)]
          obtain ⟨θ, rfl, u2, u3, u4, u5⟩ := up (some l)
          obtain ⟨ρ, d1, d2, d3, d4⟩ := ih (i + 1) fu g (some l) _ (by omega) (by omega) hb1 u3 u4 hl u5
          exact ⟨ρ, d1, F1.tr (u2.tr d2), d3, d4⟩
theorem m_wrongIn (hk : pu_k A) (hs : s < 8) (hn : n ≤ 40) (hm : pu_m A 5 σ) (hg : pu_gh σ) (hp : p < lne A) {r : Nat → Int64} (hr : ∀ j, j < 40 → σ.2 5 45 s j = r j) :
    ∃ τ, fn_X8_wrongIn_45 s (nI n) (nI p) σ = some (oI (plN A r n 0 (lE A p) none).1, τ) ∧ fr (fun o k i j => o = 7 ∨ ((o = 99 ∨ o = 5) ∧ k = 40 ∧ i = 0 ∧ j = 27) ∨ (o = 5 ∧ k = 40 ∧ i = 0 ∧ j = 47)) σ τ ∧ pu_m (sR A p (plN A r n 0 (lE A p) none).2.1) 7 τ ∧ τ.1 5 40 0 47 = oI (plN A r n 0 (lE A p) none).2.2 ∧ ¬ τ.1 5 40 0 27 = nI 0 ∧ pu_gh τ := by
  obtain ⟨τ0, a1, a2, a3⟩ := m_mk7 hg.2
  obtain ⟨τ1, b1, b2⟩ := m_take (a := 5) (b := 7) (σ := τ0) (by decide)
  have hm0 : pu_m A 5 τ0 := a2.m1 (fun _ _ _ _ q => by omega) hm
  have hm1 : pu_m A 7 τ1 := b2.m (fun k i j q => q) hm0
  have h27 : ¬ τ1.1 5 40 0 27 = nI 0 := by rw [(b2.1 5 40 0 27 (by omega)).1]; exact a3
  have f1 : fr (fun o k i j => o = 7 ∨ ((o = 99 ∨ o = 5) ∧ k = 40 ∧ i = 0 ∧ j = 27) ∨ (o = 5 ∧ k = 40 ∧ i = 0 ∧ j = 47)) σ (am_u τ1 5 40 0 47 mI) := (a2.mono fun o k i j q => by omega).tr ((b2.1.mono fun o k i j q => by omega).tr (fr.u (by omega)))
  have hm2 : pu_m (sR A p (lE A p)) 7 (am_u τ1 5 40 0 47 mI) := by
    rw [sR_self]
    exact (fr.u (S := fun o _ _ _ => o = 5) rfl).m1 (fun _ _ _ _ q => by omega) hm1
  obtain ⟨τ2, c1, c2, c3, c4⟩ := m_plan hk hp hs hn (r := r) n 0 1000 (lE A p) none (am_u τ1 5 40 0 47 mI) (by omega) (by omega) (pb_of hk hp) hm2 u_at (by simp) (fun j hj => by rw [(f1 5 45 s j (by omega)).2]; exact hr j hj)
  have F : fr (fun o k i j => o = 7 ∨ ((o = 99 ∨ o = 5) ∧ k = 40 ∧ i = 0 ∧ j = 27) ∨ (o = 5 ∧ k = 40 ∧ i = 0 ∧ j = 47)) σ τ2 := f1.tr (c2.mono fun o k i j q => by unfold S7t at q; omega)
  have h27' : ¬ τ2.1 5 40 0 27 = nI 0 := by rw [(c2 5 40 0 27 (by unfold S7t; omega)).1, u_ne (by omega)]; exact h27
  refine ⟨τ2, ?_, F, c3, c4, h27', fun q => ?_, fun q => absurd q h27'⟩
  · unfold fn_X8_wrongIn_45 fn_X8_fresh
    rw [a1, Option.bind_some, b1, Option.bind_some, if_neg (show ¬ τ1.1 5 40 0 27 = (0 : Int32) from h27), Option.bind_some]
    exact c1
  · rw [(F 5 40 0 26 (by omega)).1] at q
    rw [(F 99 40 0 26 (by omega)).1]
    exact hg.1 q
/-- is there a person, and a row of so many? -/
def gate7 (a1 a2 a3 : Int32) (σ : am_S) : Option (Int32 × am_S) := (fn_X0_hasPerson 1 a3 σ).bind fun q1 => if q1.1 = 0 then some (-2, q1.2) else fn_X7_refusalOfElements a1 a2 q1.2
theorem g7_judge {a1 a2 a3 : Int32} : fn_X7_judge a1 a2 a3 σ = (gate7 a1 a2 a3 σ).bind fun q => jn_X7_judge_22 a1 a2 a3 q.1 q.2 := by
  unfold fn_X7_judge gate7
  cases fn_X0_hasPerson 1 a3 σ with
  | none => rw [Option.bind_none, Option.bind_none, Option.bind_none]
  | some q =>
    rw [Option.bind_some, Option.bind_some]
    by_cases c : q.1 = 0
    · rw [if_pos c, if_pos c, Option.bind_some]
    · rw [if_neg c, if_neg c]
theorem g7_plan {a1 a2 a3 : Int32} : fn_X7_refusalOfPlan a1 a2 a3 σ = (gate7 a1 a2 a3 σ).bind fun q => jn_X7_refusalOfPlan_22 a1 a2 a3 q.1 q.2 := by
  unfold fn_X7_refusalOfPlan gate7
  cases fn_X0_hasPerson 1 a3 σ with
  | none => rw [Option.bind_none, Option.bind_none, Option.bind_none]
  | some q =>
    rw [Option.bind_some, Option.bind_some]
    by_cases c : q.1 = 0
    · rw [if_pos c, if_pos c, Option.bind_some]
    · rw [if_neg c, if_neg c]
def okB (A : pu_L) (a1 a2 a3 : Int32) : Bool := gN 0 7 a1 && (gN 0 40 a2 && gL (lne A) a3)
theorem m_np0 {a1 a2 a3 : Int32} (hk : pu_k A) (hm : pu_m A 5 σ) (h : okB A a1 a2 a3 = false) : fn_X8_noPlan 5 a1 a2 a3 σ = fn_X8_refuse 5 (-nI 2) σ := by
  unfold okB at h
  unfold fn_X8_noPlan jn_X8_noPlan_32
  rw [m_in_0_7, Option.bind_some]
  cases h1 : gN 0 7 a1
  · exact g_eta (fn_X8_refuse 5 (-nI 2) σ)
  · rw [h1, Bool.true_and] at h
    show (fn_X8_in a2.toInt64 0 40 σ).bind _ = _
    rw [m_in_0_40, Option.bind_some]
    cases h2 : gN 0 40 a2
    · exact g_eta (fn_X8_refuse 5 (-nI 2) σ)
    · rw [h2, Bool.true_and] at h
      show (fn_X8_isOne 5 a3 σ).bind _ = _
      rw [m_gone hm hk, Option.bind_some, h]
      exact g_eta (fn_X8_refuse 5 (-nI 2) σ)
theorem m_np1 {p : Nat} (hk : pu_k A) (hm : pu_m A 5 σ) (hs : s < 8) (hn : n ≤ 40) (hp : p < lne A) : fn_X8_noPlan 5 (nI s) (nI n) (nI p) σ = (fn_X8_noRow 5 (nI s) σ).bind fun q9 => (if q9.1 = 0 then (bif am_in (nI s) 8 then (if (nI n) ≤ (q9.2.1 5 43 0 ((nI s : Int32).toNatClampNeg)) then some (0, q9.2) else (fn_X8_refuse 5 (-2) q9.2).bind fun q12 => some (q12.1, q12.2)) else none) else some (q9.1, q9.2)) := by
  have hne := hk.2.1
  unfold fn_X8_noPlan
  rw [m_in_0_7, Option.bind_some, gN_nI (by omega), decide_eq_true (Nat.zero_le _), decide_eq_true (show s ≤ 7 by omega)]
  show (fn_X8_in (nI n).toInt64 0 40 σ).bind _ = _
  rw [m_in_0_40, Option.bind_some, gN_nI (by omega), decide_eq_true (Nat.zero_le _), decide_eq_true hn]
  show (fn_X8_isOne 5 (nI p) σ).bind _ = _
  rw [m_gone hm hk, Option.bind_some, gL_nI (by omega), decide_eq_true hp]
  rfl
theorem m_noRow (hs : s < 8) : fn_X8_noRow 5 (nI s) σ = if σ.1 5 41 0 s = 2 then fn_X8_refuse 5 (-nI 3) σ else if σ.1 5 41 0 s = 0 then fn_X8_refuse 5 (-nI 4) σ else some (nI 0, σ) := by
  unfold fn_X8_noRow
  rw [m_in_0_7, Option.bind_some, gN_nI (by omega), decide_eq_true (Nat.zero_le _), decide_eq_true (show s ≤ 7 by omega)]
  show (bif am_in (nI s) 8 then _ else _) = _
  simp -implicitDefEqProofs (disch := omega) only [n_in_t, cond_true, n_cl, g_eta, z0, z2, z3, z4]
theorem m_eqr {σ : am_S} {f : Int32 × am_S → Option (Int32 × am_S)} {k : Nat} (hk : k < 5) (hf : ∀ q : am_S, f (-nI (k + 2), q) = some (-nI (k + 2), q)) : (fn_X8_refuse 5 (-nI (k + 2)) σ).bind f = fn_X8_refuse 5 (-nI (k + 2)) σ := by
  have m1 : fn_X8_refuse 5 (-nI (k + 2)) σ = some (-nI (k + 2), am_u σ 5 49 0 (k + 2) (σ.1 5 49 0 (k + 2) + 1)) := by
    rcases (show k = 0 ∨ k = 1 ∨ k = 2 ∨ k = 3 ∨ k = 4 by omega) with rfl | rfl | rfl | rfl | rfl
    · exact m_rf2
    · exact m_rf3
    · exact m_rf4
    · exact m_rf5
    · exact m_rf6
  rw [m1, Option.bind_some, hf]
theorem gate (hI : pu_I A σ) (a1 a2 a3 : Int32) :
    (∃ k, k < 3 ∧ gate7 a1 a2 a3 σ = some (-nI (k + 2), σ) ∧ (okB A a1 a2 a3 = false → k = 0) ∧ ∀ τ, pu_J A τ → fr SJ σ τ → fn_X8_noPlan 5 a1 a2 a3 τ = fn_X8_refuse 5 (-nI (k + 2)) τ) ∨
    (∃ s n p t z, a1 = nI s ∧ a2 = nI n ∧ a3 = nI p ∧ s < 8 ∧ n ≤ 40 ∧ p < lne A ∧ sh1 σ s t z ∧ okB A a1 a2 a3 = true ∧ gate7 a1 a2 a3 σ = some (nI 0, σ) ∧ ∀ τ, pu_J A τ → fr SJ σ τ → fn_X8_noPlan 5 a1 a2 a3 τ = some (nI 0, τ)) := by
  have hk := hI.1.1
  have hc := hI.1.2.1
  have hne := hk.2.1
  cases hB : okB A a1 a2 a3
  · refine Or.inl ⟨0, by decide, ?_, fun _ => rfl, fun τ hJ _ => m_np0 hk hJ.2.2.1 hB⟩
    unfold okB at hB
    unfold gate7 fn_X7_refusalOfElements
    rw [c_gperson hc hk, Option.bind_some]
    cases h3 : gL (lne A) a3
    · rfl
    · show (fn_X7_isShelf a1 σ).bind _ = _
      rw [c_gshelf, Option.bind_some]
      cases h1 : gN 0 7 a1
      · rfl
      · rw [h1, h3, Bool.true_and, Bool.and_true] at hB
        show (fn_X7_isWithin a2 (nI 0) (nI 40) σ).bind _ = _
        rw [c_within (by decide) (by decide), Option.bind_some, hB]
        rfl
  · have hB' := hB
    unfold okB at hB
    simp only [Bool.and_eq_true] at hB
    obtain ⟨h1, h2, h3⟩ := hB
    obtain ⟨s, rfl, -, hs⟩ := gN_n h1
    obtain ⟨n, rfl, -, hn⟩ := gN_n h2
    obtain ⟨p, rfl, hp⟩ := gL_n h3
    have hs8 : s < 8 := by omega
    have e7 : gate7 (nI s) (nI n) (nI p) σ = (fn_X2_refusalOfRow (nI s) σ).bind fun q5 => (if q5.1 = 0 then (bif am_in (nI s) 8 then (if nI n ≤ (q5.2.1 10 11 0 ((nI s : Int32).toNatClampNeg)) then some (q5.1, q5.2) else some ((-2), q5.2)) else none) else some (q5.1, q5.2)) := by
      unfold gate7 fn_X7_refusalOfElements
      rw [c_gperson hc hk, Option.bind_some, h3]
      show (fn_X7_isShelf (nI s) σ).bind _ = _
      rw [c_gshelf, Option.bind_some, h1]
      show (fn_X7_isWithin (nI n) (nI 0) (nI 40) σ).bind _ = _
      rw [c_within (by decide) (by decide), Option.bind_some, h2]
      rfl
    rcases pu_s1_of.mp (hI.1.2.2.2.2.2.2 s hs8) with c | ⟨t, z, c⟩ | ⟨q, c⟩
    · refine Or.inl ⟨2, by decide, ?_, (fun q => by cases q), fun τ hJ hF => ?_⟩
      · rw [e7, c_refR0 hs8 c]; rfl
      · have d := hF.s0J c
        rw [m_np1 hk hJ.2.2.1 hs8 hn hp, m_noRow hs8, d.2, if_neg (by decide), if_pos (show nI 0 = (0 : Int32) from rfl)]
        exact m_eqr (k := 2) (by decide) (fun q => rfl)
    · obtain ⟨c1, c2, c3, c4, c5, c6, c7, c8⟩ := id c
      by_cases hz : n ≤ z
      · refine Or.inr ⟨s, n, p, t, z, rfl, rfl, rfl, hs8, hn, hp, c, rfl, ?_, fun τ hJ hF => ?_⟩
        · rw [e7, c_refR1 hs8 c, Option.bind_some]
          dsimp only
          rw [if_pos (show nI 0 = (0 : Int32) from rfl), n_in_t hs8 (by omega), cond_true, n_cl (by omega), c4, if_pos (by rw [n_le_i (by omega) (by omega)]; exact hz)]
        · have d := hF.s1J c
          rw [m_np1 hk hJ.2.2.1 hs8 hn hp, m_noRow hs8, d.2.2.2.2.1, if_neg (by decide), if_neg (by decide), Option.bind_some]
          dsimp only
          rw [if_pos (show nI 0 = (0 : Int32) from rfl), n_in_t hs8 (by omega), cond_true, n_cl (by omega), d.2.2.2.2.2.2.1, if_pos (by rw [n_le_i (by omega) (by omega)]; exact hz)]
          rfl
      · refine Or.inl ⟨0, by decide, ?_, (fun q => by cases q), fun τ hJ hF => ?_⟩
        · rw [e7, c_refR1 hs8 c, Option.bind_some]
          dsimp only
          rw [if_pos (show nI 0 = (0 : Int32) from rfl), n_in_t hs8 (by omega), cond_true, n_cl (by omega), c4, if_neg (by rw [n_le_i (by omega) (by omega)]; exact hz)]
          rfl
        · have d := hF.s1J c
          rw [m_np1 hk hJ.2.2.1 hs8 hn hp, m_noRow hs8, d.2.2.2.2.1, if_neg (by decide), if_neg (by decide), Option.bind_some]
          dsimp only
          rw [if_pos (show nI 0 = (0 : Int32) from rfl), n_in_t hs8 (by omega), cond_true, n_cl (by omega), d.2.2.2.2.2.2.1, if_neg (by rw [n_le_i (by omega) (by omega)]; exact hz)]
          exact g_eta _
    · refine Or.inl ⟨1, by decide, ?_, (fun q => by cases q), fun τ hJ hF => ?_⟩
      · rw [e7, c_refR2 hk hs8 c]; rfl
      · have d := hF.s2J c
        rw [m_np1 hk hJ.2.2.1 hs8 hn hp, m_noRow hs8, d.2.2.1, if_pos (show nI 2 = (2 : Int32) from rfl)]
        exact m_eqr (k := 1) (by decide) (fun q => rfl)
theorem S15_X : ∀ o k i j, (fun o _ _ _ => o = 15 : Nat → Nat → Nat → Nat → Prop) o k i j → SX o k i j := fun o k i j h => by unfold SX; omega
theorem S7t_W : ∀ o k i j, (fun o k i j => o = 7 ∨ ((o = 99 ∨ o = 5) ∧ k = 40 ∧ i = 0 ∧ j = 27) ∨ (o = 5 ∧ k = 40 ∧ i = 0 ∧ j = 47) : Nat → Nat → Nat → Nat → Prop) o k i j → SW o k i j := fun o k i j h => by unfold SW SX; omega
end PPL
theorem pv_judge (a1 : Int32) (a2 : Int32) (a3 : Int32) (σ : am_S) (hI : pu_Inv σ) : ∃ (r : Int32) (σ1 σ2 : am_S), fn_X7_judge a1 a2 a3 σ = some (r, σ1) ∧ fn_X8_judge a1 a2 a3 σ1 = some (r, σ2) ∧ pu_Inv σ2 := by
  obtain ⟨A, hI⟩ := hI
  have hk := hI.1.1
  have hm := hI.1.2.2.1
  have hne := hk.2.1
  have hnp := hk.1
  have hc := hI.1.2.1
  rcases gate hI a1 a2 a3 with ⟨k, hk3, e7, -, e8⟩ | ⟨s, n, p, t, z, rfl, rfl, rfl, hs, hn, lp, sh, -, e7, e8⟩
  · refine pv_t hI k (by omega) ?_ (fun σ1 hJ hF => ?_)
    · rw [g7_judge, e7, Option.bind_some]
      unfold jn_X7_judge_22
      rw [if_neg (show ¬ -nI (k + 2) = (0 : Int32) from fun q => cast (n_mz (by omega) (by omega)) q)]
      exact g_eta _
    · unfold fn_X8_judge
      rw [e8 σ1 hJ hF]
      exact m_eqr (by omega) (fun q => if_neg (show ¬ -nI (k + 2) = (0 : Int32) from fun q => cast (n_mz (by omega) (by omega)) q))
  · refine pv_qw hI (r := oI (plN A (σ.2 10 13 s) n 0 (lE A p) none).1) ?_ (fun σ1 hI1 hF => ?_)
    · obtain ⟨τ, d1, d2, -, -⟩ := c_findWrong hk hs hn hc lp (r := σ.2 10 13 s) (fun _ _ => rfl)
      refine ⟨τ, ?_, d2.mono S15_X⟩
      rw [g7_judge, e7, Option.bind_some]
      unfold jn_X7_judge_22
      dsimp only
      rw [if_pos (show nI 0 = (0 : Int32) from rfl), n_in_t hs (by omega), cond_true, n_cl (by omega), d1]
      rfl
    · obtain ⟨τ, d1, d2, -, -, -, d6⟩ := m_wrongIn hk hs hn hI1.1.2.2.1 hI1.1.2.2.2.2.1 lp (r := σ.2 10 13 s) (fun j hj => by
        rw [(hF 5 45 s j (by unfold SX; omega)).2]
        exact (sh.2.2.2.2.2.2.2 j hj).symm)
      refine ⟨τ, ?_, d2.mono S7t_W, d6⟩
      unfold fn_X8_judge
      rw [e8 σ1 hI1.1 (hF.mono SX_J), Option.bind_some]
      dsimp only
      rw [if_pos (show nI 0 = (0 : Int32) from rfl), n_in_t hs (by omega), cond_true, n_cl (by omega), d1]
      rfl
theorem m_bh {A : pu_L} {σ : am_S} {a1 a2 a3 a4 : Int32} (hk : pu_k A) (hm : pu_m A 5 σ) (h : (okB A a1 a2 a3 && gN 0 4 a4) = false) : fn_X8_behind a1 a2 a3 a4 σ = fn_X8_refuse 5 (-nI 2) σ := by
  unfold okB at h
  unfold fn_X8_behind jn_X8_behind_45
  rw [m_in_0_7, Option.bind_some]
  cases h1 : gN 0 7 a1
  · exact g_eta (fn_X8_refuse 5 (-nI 2) σ)
  · rw [h1, Bool.true_and] at h
    show (fn_X8_in a2.toInt64 0 40 σ).bind _ = _
    rw [m_in_0_40, Option.bind_some]
    cases h2 : gN 0 40 a2
    · exact g_eta (fn_X8_refuse 5 (-nI 2) σ)
    · rw [h2, Bool.true_and] at h
      show (fn_X8_isOne 5 a3 σ).bind _ = _
      rw [m_gone hm hk, Option.bind_some]
      cases h3 : gL (lne A) a3
      · exact g_eta (fn_X8_refuse 5 (-nI 2) σ)
      · rw [h3, Bool.true_and] at h
        show (fn_X8_in a4.toInt64 0 4 σ).bind _ = _
        rw [m_in_0_4, Option.bind_some, h]
        exact g_eta (fn_X8_refuse 5 (-nI 2) σ)
def bhF (a1 a2 a3 a4 : Int32) (q11 : Int32 × am_S) : Option (Int32 × am_S) := (if q11.1 = 0 then (bif am_in a1 8 then (fn_X8_wrongIn_45 ((a1 : Int32).toNatClampNeg) a2 a3 q11.2).bind fun q14 => (if q14.1 = (-1) then (if a4 = 0 then (if (q14.2.1 5 40 0 27) = 0 then none else (bif am_in a3 6 then some ((q14.2.1 7 58 0 ((a3 : Int32).toNatClampNeg)), q14.2) else none)) else (if a4 = 1 then (if (q14.2.1 5 40 0 27) = 0 then none else (bif am_in a3 6 then some ((q14.2.1 7 60 0 ((a3 : Int32).toNatClampNeg)), q14.2) else none)) else (if a4 = 2 then (if (q14.2.1 5 40 0 27) = 0 then none else (bif am_in a3 6 then some ((q14.2.1 7 61 0 ((a3 : Int32).toNatClampNeg)), q14.2) else none)) else (if a4 = 3 then (if (q14.2.1 5 40 0 27) = 0 then none else (bif am_in a3 6 then some ((q14.2.1 7 62 0 ((a3 : Int32).toNatClampNeg)), q14.2) else none)) else some ((q14.2.1 5 40 0 47), q14.2))))) else (fn_X8_refuse 5 (-5) q14.2).bind fun q28 => some (q28.1, q28.2)) else none) else some (q11.1, q11.2))
theorem m_bh1 {A : pu_L} {σ : am_S} {a1 a2 a3 a4 : Int32} (hk : pu_k A) (hm : pu_m A 5 σ) (h : okB A a1 a2 a3 = true) (h4 : gN 0 4 a4 = true) : ∃ f : Int32 × am_S → Option (Int32 × am_S), fn_X8_behind a1 a2 a3 a4 σ = (fn_X8_noPlan 5 a1 a2 a3 σ).bind f ∧ (∀ q, ¬ q.1 = 0 → f q = some q) ∧
    (∀ q τ k s, q.1 = 0 → a1 = nI s → s < 8 → fn_X8_wrongIn_45 s a2 a3 q.2 = some (nI k, τ) → k < 40 → f q = fn_X8_refuse 5 (-nI 5) τ) ∧
    (∀ q τ s p c, q.1 = 0 → a1 = nI s → s < 8 → a3 = nI p → p < 6 → a4 = nI c → c ≤ 4 → fn_X8_wrongIn_45 s a2 a3 q.2 = some (mI, τ) → ¬ τ.1 5 40 0 27 = nI 0 → f q = some (if c = 0 then τ.1 7 58 0 p else if c = 1 then τ.1 7 60 0 p else if c = 2 then τ.1 7 61 0 p else if c = 3 then τ.1 7 62 0 p else τ.1 5 40 0 47, τ)) := by
  unfold okB at h
  simp only [Bool.and_eq_true] at h
  obtain ⟨h1, h2, h3⟩ := h
  refine ⟨bhF a1 a2 a3 a4, ?_, ?_, ?_, ?_⟩
  · unfold fn_X8_behind
    rw [m_in_0_7, Option.bind_some, h1]
    show (fn_X8_in a2.toInt64 0 40 σ).bind _ = _
    rw [m_in_0_40, Option.bind_some, h2]
    show (fn_X8_isOne 5 a3 σ).bind _ = _
    rw [m_gone hm hk, Option.bind_some, h3]
    show (fn_X8_in a4.toInt64 0 4 σ).bind _ = _
    rw [m_in_0_4, Option.bind_some, h4]
    rfl
  · intro q hq
    unfold bhF
    rw [if_neg hq]
  · intro q τ k s hq ha hs hw hk
    subst ha
    unfold bhF
    rw [if_pos hq, n_in_t hs (by omega), cond_true, n_cl (by omega), hw, Option.bind_some]
    dsimp only
    rw [if_neg (show ¬ nI k = (-1 : Int32) from fun z => cast (n_neg1 (by omega)) z)]
    exact g_eta _
  · intro q τ s p c hq ha hs ha3 hp ha4 hc hw h27
    subst ha
    subst ha3
    subst ha4
    unfold bhF
    rw [if_pos hq, n_in_t hs (by omega), cond_true, n_cl (by omega), hw, Option.bind_some]
    dsimp only
    rw [if_pos (show mI = (-1 : Int32) from rfl), if_neg (show ¬ τ.1 5 40 0 27 = (0 : Int32) from h27), if_neg (show ¬ τ.1 5 40 0 27 = (0 : Int32) from h27), if_neg (show ¬ τ.1 5 40 0 27 = (0 : Int32) from h27), if_neg (show ¬ τ.1 5 40 0 27 = (0 : Int32) from h27), n_in_t hp (by omega), cond_true, cond_true, cond_true, cond_true, n_cl (by omega)]
    rcases (show c = 0 ∨ c = 1 ∨ c = 2 ∨ c = 3 ∨ c = 4 by omega) with rfl | rfl | rfl | rfl | rfl <;> rfl
theorem pv_behind (a1 : Int32) (a2 : Int32) (a3 : Int32) (a4 : Int32) (σ : am_S) (hI : pu_Inv σ) : ∃ (r : Int32) (σ1 σ2 : am_S), fn_X7_behind a1 a2 a3 a4 σ = some (r, σ1) ∧ fn_X8_behind a1 a2 a3 a4 σ1 = some (r, σ2) ∧ pu_Inv σ2 := by
  obtain ⟨A, hI⟩ := hI
  have hk := hI.1.1
  have hm := hI.1.2.2.1
  have hne := hk.2.1
  have hnp := hk.1
  have hc := hI.1.2.1
  cases h4 : gN 0 4 a4
  · refine pv_t hI 0 (by decide) ?_ (fun σ1 hJ hF => m_bh hk hJ.2.2.1 (by rw [h4, Bool.and_false]))
    unfold fn_X7_behind jn_X7_behind_22
    rw [z0, z4, c_within (by decide) (by decide), h4, Option.bind_some]
    exact g_eta (fn_X7_refuse (-nI 2) σ)
  · have e0 : fn_X7_behind a1 a2 a3 a4 σ = ((gate7 a1 a2 a3 σ).bind fun q => jn_X7_refusalOfPlan_22 a1 a2 a3 q.1 q.2).bind fun q10 => jn_X7_behind_22 a4 q10.1 q10.2 := by
      unfold fn_X7_behind
      rw [z0, z4, c_within (by decide) (by decide), h4, Option.bind_some, ← g7_plan]
      rfl
    obtain ⟨c, rfl, -, hc4⟩ := gN_n h4
    rcases gate hI a1 a2 a3 with ⟨k, hk3, e7, hB, e8⟩ | ⟨s, n, p, t, z, rfl, rfl, rfl, hs, hn, lp, sh, hB, e7, e8⟩
    · have nz : ¬ -nI (k + 2) = (0 : Int32) := fun q => cast (n_mz (by omega) (by omega)) q
      refine pv_t hI k (by omega) ?_ (fun σ1 hJ hF => ?_)
      · rw [e0, e7, Option.bind_some]
        unfold jn_X7_refusalOfPlan_22 jn_X7_behind_22
        dsimp only
        rw [if_neg nz, Option.bind_some]
        dsimp only
        rw [if_neg nz]
        exact g_eta _
      · cases hB2 : okB A a1 a2 a3
        · rw [m_bh hk hJ.2.2.1 (by rw [hB2]; rfl), hB hB2]
        · obtain ⟨f, f1, f2, -, -⟩ := m_bh1 hk hJ.2.2.1 hB2 h4
          rw [f1, e8 σ1 hJ hF]
          exact m_eqr (by omega) (fun q => f2 _ nz)
    · have hp6 : p < 6 := by omega
      obtain ⟨τ, d1, d2, d3, d4⟩ := c_findWrong hk hs hn hc lp (r := σ.2 10 13 s) (fun _ _ => rfl)
      have g7 : fn_X7_behind (nI s) (nI n) (nI p) (nI c) σ = jn_X7_behind_22 (nI c) (if oI (plN A (σ.2 10 13 s) n 0 (lE A p) none).1 = -1 then 0 else -5) τ := by
        rw [e0, e7, Option.bind_some]
        unfold jn_X7_refusalOfPlan_22
        dsimp only
        rw [if_pos (show nI 0 = (0 : Int32) from rfl), n_in_t hs (by omega), cond_true, n_cl (by omega), d1, Option.bind_some]
        dsimp only
        by_cases hq : oI (plN A (σ.2 10 13 s) n 0 (lE A p) none).1 = -1
        · rw [if_pos hq, if_pos hq, Option.bind_some]
        · rw [if_neg hq, if_neg hq, Option.bind_some]
      have hW : ∀ σ1, pu_J A σ1 → fr SJ σ σ1 → ∃ τ, fn_X8_wrongIn_45 s (nI n) (nI p) σ1 = some (oI (plN A (σ.2 10 13 s) n 0 (lE A p) none).1, τ) ∧ fr SW σ1 τ ∧ pu_m (sR A p (plN A (σ.2 10 13 s) n 0 (lE A p) none).2.1) 7 τ ∧ τ.1 5 40 0 47 = oI (plN A (σ.2 10 13 s) n 0 (lE A p) none).2.2 ∧ ¬ τ.1 5 40 0 27 = nI 0 ∧ pu_gh τ := fun σ1 hJ hF => by
        obtain ⟨τ, b1, b2, b3⟩ := m_wrongIn hk hs hn hJ.2.2.1 hJ.2.2.2.2.1 lp (r := σ.2 10 13 s) (fun j hj => by
          rw [(hF 5 45 s j (by unfold SJ SX; omega)).2]
          exact (sh.2.2.2.2.2.2.2 j hj).symm)
        exact ⟨τ, b1, b2.mono S7t_W, b3⟩
      cases hw : (plN A (σ.2 10 13 s) n 0 (lE A p) none).1 with
      | some i =>
        have hi : i < 40 := plN_lt hw (by omega)
        rw [hw, if_neg (show ¬ oI (some i) = (-1 : Int32) from oI_m (by omega))] at g7
        refine pv_w hI 3 (by decide) ⟨τ, d2.mono S15_X, g7.trans ?_⟩ (fun σ1 hJ hF => ?_)
        · unfold jn_X7_behind_22
          rw [if_neg (by decide)]
          exact g_eta _
        · obtain ⟨ρ, b1, b2, b3, b4, b5, b6⟩ := hW σ1 hJ hF
          rw [hw] at b1
          obtain ⟨f, f1, -, f3, -⟩ := m_bh1 hk hJ.2.2.1 hB h4
          refine ⟨ρ, b2, b6, ?_⟩
          rw [f1, e8 σ1 hJ hF, Option.bind_some]
          exact f3 _ ρ i s rfl rfl hs b1 hi
      | none =>
        rw [hw, if_pos (show oI none = (-1 : Int32) from rfl)] at g7
        refine pv_qw hI (r := if c = 0 then nI ((plN A (σ.2 10 13 s) n 0 (lE A p) none).2.1 3) else if c = 1 then nI ((plN A (σ.2 10 13 s) n 0 (lE A p) none).2.1 5) else if c = 2 then nI ((plN A (σ.2 10 13 s) n 0 (lE A p) none).2.1 6) else if c = 3 then nI ((plN A (σ.2 10 13 s) n 0 (lE A p) none).2.1 7) else oI (plN A (σ.2 10 13 s) n 0 (lE A p) none).2.2) ⟨τ, g7.trans ?_, d2.mono S15_X⟩ (fun σ1 hI1 hF => ?_)
        · unfold jn_X7_behind_22
          rw [if_pos rfl, d3 3 (by decide), d3 5 (by decide), d3 6 (by decide), d3 7 (by decide), d4]
          rcases (show c = 0 ∨ c = 1 ∨ c = 2 ∨ c = 3 ∨ c = 4 by omega) with rfl | rfl | rfl | rfl | rfl <;> rfl
        · obtain ⟨ρ, b1, b2, b3, b4, b5, b6⟩ := hW σ1 hI1.1 (hF.mono SX_J)
          rw [hw] at b1
          obtain ⟨f, f1, -, -, f4⟩ := m_bh1 hk hI1.1.2.2.1 hB h4
          refine ⟨ρ, ?_, b2, b6⟩
          rw [f1, e8 σ1 hI1.1 (hF.mono SX_J), Option.bind_some, f4 _ ρ s p c rfl rfl hs rfl hp6 rfl hc4 b1 b5, b4]
          have r3 := b3.E3 hp6
          have r5 := b3.E5 hp6
          have r6 := b3.E6 hp6
          have r7 := b3.E7 hp6
          rw [lE_sR] at r3 r5 r6 r7
          rw [r3, r5, r6, r7]
theorem pv_done (a1 : Int32) (a2 : Int32) (a3 : Int32) (σ : am_S) (hI : pu_Inv σ) : ∃ (r : Int32) (σ1 σ2 : am_S), fn_X7_done a1 a2 a3 σ = some (r, σ1) ∧ fn_X8_done a1 a2 a3 σ1 = some (r, σ2) ∧ pu_Inv σ2 := by
  obtain ⟨A, hI⟩ := hI
  have hk := hI.1.1
  have hm := hI.1.2.2.1
  have hne := hk.2.1
  have hnp := hk.1
  have hc := hI.1.2.1
  have e0 : fn_X7_done a1 a2 a3 σ = ((gate7 a1 a2 a3 σ).bind fun q => jn_X7_refusalOfPlan_22 a1 a2 a3 q.1 q.2).bind fun q1 => (if q1.1 = 0 then (bif am_in a3 6 then (bif am_cok 0 0 8 8 8 then some (((am_row q1.2 1 8 ((a3 : Int32).toNatClampNeg) (va_cpy (q1.2.1 15 33 0) (q1.2.1 1 8 ((a3 : Int32).toNatClampNeg)) 0 0 8)).1 1 8 ((a3 : Int32).toNatClampNeg) 3), (am_u (am_row q1.2 1 8 ((a3 : Int32).toNatClampNeg) (va_cpy (q1.2.1 15 33 0) (q1.2.1 1 8 ((a3 : Int32).toNatClampNeg)) 0 0 8)) 1 2 0 7 ((q1.2.1 1 2 0 7) + a2))) else none) else none) else (fn_X7_refuse q1.1 q1.2).bind fun q5 => some (q5.1, q5.2)) := by
    unfold fn_X7_done
    rw [← g7_plan]
  rcases gate hI a1 a2 a3 with ⟨k, hk3, e7, -, e8⟩ | ⟨s, n, p, t, z, rfl, rfl, rfl, hs, hn, lp, sh, -, e7, e8⟩
  · have nz : ¬ -nI (k + 2) = (0 : Int32) := fun q => cast (n_mz (by omega) (by omega)) q
    refine pv_t hI k (by omega) ?_ (fun σ1 hJ hF => ?_)
    · rw [e0, e7, Option.bind_some]
      unfold jn_X7_refusalOfPlan_22
      dsimp only
      rw [if_neg nz, Option.bind_some]
      dsimp only
      rw [if_neg nz]
      exact g_eta _
    · unfold fn_X8_done
      rw [e8 σ1 hJ hF]
      exact m_eqr (by omega) (fun q => if_neg nz)
  · have hp6 : p < 6 := by omega
    obtain ⟨τ, d1, d2, d3, d4⟩ := c_findWrong hk hs hn hc lp (r := σ.2 10 13 s) (fun _ _ => rfl)
    have g7 : (gate7 (nI s) (nI n) (nI p) σ).bind (fun q => jn_X7_refusalOfPlan_22 (nI s) (nI n) (nI p) q.1 q.2) = some ((if oI (plN A (σ.2 10 13 s) n 0 (lE A p) none).1 = -1 then 0 else -5), τ) := by
      rw [e7, Option.bind_some]
      unfold jn_X7_refusalOfPlan_22
      dsimp only
      rw [if_pos (show nI 0 = (0 : Int32) from rfl), n_in_t hs (by omega), cond_true, n_cl (by omega), d1, Option.bind_some]
      dsimp only
      split <;> rfl
    have hW : ∀ σ1, pu_J A σ1 → (∀ j, j < 40 → σ1.2 5 45 s j = σ.2 5 45 s j) → ∃ τ, fn_X8_wrongIn_45 s (nI n) (nI p) σ1 = some (oI (plN A (σ.2 10 13 s) n 0 (lE A p) none).1, τ) ∧ fr (fun o k i j => o = 7 ∨ ((o = 99 ∨ o = 5) ∧ k = 40 ∧ i = 0 ∧ j = 27) ∨ (o = 5 ∧ k = 40 ∧ i = 0 ∧ j = 47)) σ1 τ ∧ pu_m (sR A p (plN A (σ.2 10 13 s) n 0 (lE A p) none).2.1) 7 τ ∧ τ.1 5 40 0 47 = oI (plN A (σ.2 10 13 s) n 0 (lE A p) none).2.2 ∧ ¬ τ.1 5 40 0 27 = nI 0 ∧ pu_gh τ := fun σ1 hJ hF =>
      m_wrongIn hk hs hn hJ.2.2.1 hJ.2.2.2.2.1 lp (r := σ.2 10 13 s) (fun j hj => by
        rw [hF j hj]
        exact (sh.2.2.2.2.2.2.2 j hj).symm)
    have hpb := plN_pb hk (r := σ.2 10 13 s) n 0 (lE A p) none (pb_of hk lp)
    cases hw : (plN A (σ.2 10 13 s) n 0 (lE A p) none).1 with
    | some i =>
      have hi : i < 40 := plN_lt hw (by omega)
      rw [hw, if_neg (show ¬ oI (some i) = (-1 : Int32) from oI_m (by omega))] at g7
      refine pv_w hI 3 (by decide) ⟨τ, d2.mono S15_X, ?_⟩ (fun σ1 hJ hF => ?_)
      · rw [e0, g7, Option.bind_some]
        dsimp only
        rw [if_neg (by decide)]
        exact g_eta _
      · obtain ⟨ρ, b1, b2, b3, b4, b5, b6⟩ := hW σ1 hJ (fun j hj => (hF 5 45 s j (by unfold SJ SX; omega)).2)
        rw [hw] at b1
        refine ⟨ρ, b2.mono S7t_W, b6, ?_⟩
        unfold fn_X8_done
        rw [e8 σ1 hJ hF, Option.bind_some]
        dsimp only
        rw [if_pos (show nI 0 = (0 : Int32) from rfl), n_in_t hs (by omega), cond_true, n_cl (by omega), b1, Option.bind_some]
        dsimp only
        rw [if_neg (show ¬ oI (some i) = (-1 : Int32) from oI_m (by omega))]
        exact g_eta _
    | none =>
      rw [hw, if_pos (show oI none = (-1 : Int32) from rfl)] at g7
      generalize hf : (plN A (σ.2 10 13 s) n 0 (lE A p) none).2.1 = f at d3 hW hpb
      have hcτ : pu_c A 1 τ := d2.c (fun _ _ _ q => by omega) hc
      have F7 : fr (fun o k i _ => o = 1 ∧ k = 8 ∧ i = p) τ (am_row τ 1 8 p (va_cpy (τ.1 15 33 0) (τ.1 1 8 p) 0 0 8)) := fr.row (fun _ => ⟨rfl, rfl, rfl⟩)
      have v8 : ∀ j, j < 8 → (am_row τ 1 8 p (va_cpy (τ.1 15 33 0) (τ.1 1 8 p) 0 0 8)).1 1 8 p j = nI (f j) := fun j hj => by
        rw [row_at]
        unfold va_cpy
        rw [if_pos (by omega), Nat.zero_add, Nat.sub_zero]
        exact d3 j hj
      have c2 : pu_c (sX (sR A p f) (lsd A) (lac A + nI n)) 1 (am_u (am_row τ 1 8 p (va_cpy (τ.1 15 33 0) (τ.1 1 8 p) 0 0 8)) 1 2 0 7 (lac A + nI n)) := (hcτ.row F7 v8).sA
      have F71 : fr (fun o k _ _ => o = 15 ∨ o = 1) σ (am_u (am_row τ 1 8 p (va_cpy (τ.1 15 33 0) (τ.1 1 8 p) 0 0 8)) 1 2 0 7 (lac A + nI n)) := (d2.mono fun _ _ _ _ q => Or.inl q).tr ((F7.mono fun _ _ _ _ q => Or.inr q.1).tr (fr.u (Or.inr rfl)))
      have f8 : fn_X7_done (nI s) (nI n) (nI p) σ = some (nI (f 3), am_u (am_row τ 1 8 p (va_cpy (τ.1 15 33 0) (τ.1 1 8 p) 0 0 8)) 1 2 0 7 (lac A + nI n)) := by
        rw [e0, g7, Option.bind_some]
        dsimp only
        rw [if_pos rfl, n_in_t hp6 (by omega), cond_true, show am_cok 0 0 8 8 8 = true from rfl, cond_true, n_cl (by omega), hcτ.ac, v8 3 (by decide)]
      generalize am_u (am_row τ 1 8 p (va_cpy (τ.1 15 33 0) (τ.1 1 8 p) 0 0 8)) 1 2 0 7 (lac A + nI n) = θ at c2 F71 f8
      have hm1 : pu_m A 5 θ := F71.m1 (fun _ _ _ _ q => by omega) hm
      have hg1 : pu_gh θ := F71.gh1 (fun _ _ _ _ q => by omega) hI.1.2.2.2.2.1
      obtain ⟨ρ, b1, b2, b3, b4, b5, b6⟩ := m_wrongIn (σ := θ) hk hs hn hm1 hg1 lp (r := σ.2 10 13 s) (fun j hj => by
        rw [(F71 5 45 s j (by omega)).2]
        exact (sh.2.2.2.2.2.2.2 j hj).symm)
      rw [hw] at b1
      rw [hf] at b3
      obtain ⟨φ, t1, t2⟩ := m_take (a := 7) (b := 5) (σ := ρ) (by decide)
      have hm5 : pu_m (sR A p f) 5 φ := t2.m (fun k i j q => q) b3
      have hm6 : pu_m (sX (sR A p f) (lsd A) (lac A + nI n)) 5 (am_u φ 5 40 0 24 (lac A + nI n)) := hm5.sA
      have G : fr (fun o k i j => o = 7 ∨ ((o = 99 ∨ o = 5) ∧ k = 40 ∧ i = 0 ∧ j = 27) ∨ (o = 5 ∧ k = 40 ∧ i = 0 ∧ j = 47) ∨ (o = 5 ∧ STk k i j)) θ (am_u φ 5 40 0 24 (lac A + nI n)) := (b2.mono fun o k i j q => by
        rcases q with q | q | q
        · exact Or.inl q
        · exact Or.inr (Or.inl q)
        · exact Or.inr (Or.inr (Or.inl q))).tr ((t2.1.mono fun o k i j q => Or.inr (Or.inr (Or.inr q))).tr (fr.u (by unfold STk; omega)))
      have F := (F71.mono (T := fun o k i j => (o = 15 ∨ o = 1) ∨ (o = 7 ∨ ((o = 99 ∨ o = 5) ∧ k = 40 ∧ i = 0 ∧ j = 27) ∨ (o = 5 ∧ k = 40 ∧ i = 0 ∧ j = 47) ∨ (o = 5 ∧ STk k i j))) fun o k i j q => Or.inl q).tr (G.mono fun o k i j q => Or.inr q)
      obtain ⟨⟨h1, h2, h3, h4, h5, h6, h7⟩, h8⟩ := id hI
      have g27 : ¬ (am_u φ 5 40 0 24 (lac A + nI n)).1 5 40 0 27 = nI 0 := by rw [u_ne (by omega), (t2.1 5 40 0 27 (by unfold STk; omega)).1]; exact b5
      refine ⟨nI (f 3), θ, am_u φ 5 40 0 24 (lac A + nI n), f8, ?_, sX (sR A p f) (lsd A) (lac A + nI n), ⟨⟨hk.row hpb, G.c (fun k i j q => by omega) c2, hm6, F.kp1 (fun o k i j _ q => by unfold STk at q; omega) h4, ⟨fun q => ?_, fun q => absurd q g27⟩, F.tp1 (fun o k j _ q => by unfold STk at q; omega) h6, fun s hs => F.s1 (fun k _ q => by omega) (fun k _ q => by unfold STk at q; omega) (fun i _ => ⟨fun q => by omega, fun q => by unfold STk at q; omega⟩) (Nat.le_refl _) (h7 s hs)⟩, F.rf1 (fun o k j _ q => by unfold STk at q; omega) h8⟩⟩
      · unfold fn_X8_done
        rw [show fn_X8_noPlan 5 (nI s) (nI n) (nI p) θ = some (nI 0, θ) from ?_, Option.bind_some]
        · dsimp only
          rw [if_pos (show nI 0 = (0 : Int32) from rfl), n_in_t hs (by omega), cond_true, n_cl (by omega), b1, Option.bind_some]
          dsimp only
          rw [if_pos (show oI none = (-1 : Int32) from rfl), if_neg (show ¬ ρ.1 5 40 0 27 = (0 : Int32) from b5), t1, Option.bind_some, n_in_t hp6 (by omega), cond_true, n_cl (by omega), hm5.ac]
          have r3 := hm5.E3 hp6
          rw [lE_sR] at r3
          rw [r3]
          rfl
        · obtain ⟨c1, c2, c3, c4, c5, c6, c7, c8⟩ := id sh
          have s41 : θ.1 5 41 0 s = nI 1 := by rw [(F71 5 41 0 s (by omega)).1]; exact c5
          have s43 : θ.1 5 43 0 s = nI z := by rw [(F71 5 43 0 s (by omega)).1]; exact c7
          have e9 := e8 σ hI.1 fr.rf
          rw [m_np1 hk hm hs hn lp, m_noRow hs, c5, if_neg (by decide), if_neg (by decide), Option.bind_some] at e9
          dsimp only at e9
          rw [if_pos (show nI 0 = (0 : Int32) from rfl), n_in_t hs (by omega), cond_true, n_cl (by omega), c7] at e9
          have hz : nI n ≤ nI z := by
            by_cases hz : nI n ≤ nI z
            · exact hz
            · rw [if_neg hz] at e9
              have := m_rf2 (σ := σ) (o := 5)
              rw [show ((-2 : Int32)) = -nI 2 from rfl, this] at e9
              have z : (-nI 2 : Int32) = nI 0 := congrArg (fun q => q.1) (Option.some.inj e9)
              exact absurd z (by decide)
          rw [m_np1 hk hm1 hs hn lp, m_noRow hs, s41, if_neg (by decide), if_neg (by decide), Option.bind_some]
          dsimp only
          rw [if_pos (show nI 0 = (0 : Int32) from rfl), n_in_t hs (by omega), cond_true, n_cl (by omega), s43, if_pos hz]
          rfl
      · rw [(F 5 40 0 26 (by unfold STk; omega)).1] at q
        rw [(F 99 40 0 26 (by omega)).1]
        exact h5.1 q
