/-! ===== calls: act, weeks ===== -/
theorem lg_lt {a b : Int64} : (lg_cmp a b < 0) = (a.toInt < b.toInt) := by
  unfold lg_cmp
  simp only [gt_iff_lt, Int64.lt_iff_toInt_lt, ← Int64.toInt_inj]
  apply propext
  by_cases h1 : b.toInt < a.toInt
  · rw [if_pos h1]
    exact ⟨fun h => absurd h (by decide), fun h => by omega⟩
  · rw [if_neg h1]
    by_cases h2 : a.toInt = b.toInt
    · rw [if_pos h2]
      exact ⟨fun h => absurd h (by decide), fun h => by omega⟩
    · rw [if_neg h2]
      exact ⟨fun _ => by omega, fun _ => by decide⟩
theorem lg_eq {a b : Int64} : (lg_cmp a b = 0) = (a.toInt = b.toInt) := by
  unfold lg_cmp
  simp only [gt_iff_lt, Int64.lt_iff_toInt_lt, ← Int64.toInt_inj]
  apply propext
  by_cases h1 : b.toInt < a.toInt
  · rw [if_pos h1]
    exact ⟨fun h => absurd h (by decide), fun h => by omega⟩
  · rw [if_neg h1]
    by_cases h2 : a.toInt = b.toInt
    · rw [if_pos h2]
      exact ⟨fun _ => h2, fun _ => rfl⟩
    · rw [if_neg h2]
      exact ⟨fun h => absurd h (by decide), fun h => absurd h h2⟩
/-- the numbers of acts -/
def acB (x : Int64) : Bool := decide (0 ≤ x.toInt ∧ x.toInt < 5) || (decide (x.toInt = 8) || decide (x.toInt = 9))
theorem acB_n {x : Int64} (h : acB x = true) : ∃ n, (n < 5 ∨ n = 8 ∨ n = 9) ∧ x.toInt = ((n : Nat) : Int) := by
  unfold acB at h
  simp only [Bool.or_eq_true, decide_eq_true_eq] at h
  exact ⟨x.toInt.toNat, by omega, by omega⟩
theorem c_isAct {x : Int64} {σ : am_S} : fn_X7_isAct x σ = some (cond (acB x) (nI 1) (nI 0), σ) := by
  unfold fn_X7_isAct jn_X7_isAct_14 jn_X7_isAct_30 acB
  simp only [lg_lt, lg_eq, show (0 : Int64).toInt = 0 from rfl, show (5 : Int64).toInt = 5 from rfl, show (8 : Int64).toInt = 8 from rfl, show (9 : Int64).toInt = 9 from rfl]
  by_cases c0 : x.toInt < 0
  · have e : (decide (0 ≤ x.toInt ∧ x.toInt < 5) || (decide (x.toInt = 8) || decide (x.toInt = 9))) = false := by simp; omega
    rw [if_pos c0, if_neg (by omega), if_neg (by omega), e]; rfl
  · rw [if_neg c0]
    by_cases c1 : x.toInt < 5
    · rw [if_pos c1, decide_eq_true (show 0 ≤ x.toInt ∧ x.toInt < 5 by omega)]; rfl
    · rw [if_neg c1, decide_eq_false (show ¬ (0 ≤ x.toInt ∧ x.toInt < 5) by omega)]
      by_cases c8 : x.toInt = 8
      · rw [if_pos c8, decide_eq_true c8]; rfl
      · rw [if_neg c8, decide_eq_false c8]
        by_cases c9 : x.toInt = 9
        · rw [if_pos c9, decide_eq_true c9]; rfl
        · rw [if_neg c9, decide_eq_false c9]; rfl
theorem m_isAct {x : Int64} {σ : am_S} : fn_X8_isAct x σ = some (cond (acB x) (nI 1) (nI 0), σ) := by
  unfold fn_X8_isAct jn_X8_isAct_27 acB
  rw [m_in64, Option.bind_some]
  simp only [lg_lt, lg_eq, show (0 : Int64).toInt = 0 from rfl, show (4 : Int64).toInt = 4 from rfl, show (8 : Int64).toInt = 8 from rfl, show (9 : Int64).toInt = 9 from rfl]
  by_cases c1 : 0 ≤ x.toInt ∧ x.toInt ≤ 4
  · rw [if_pos c1, if_neg (by decide), decide_eq_true (show 0 ≤ x.toInt ∧ x.toInt < 5 by omega)]; rfl
  · rw [if_neg c1, if_pos rfl, decide_eq_false (show ¬ (0 ≤ x.toInt ∧ x.toInt < 5) by omega)]
    by_cases c8 : x.toInt = 8
    · rw [if_pos c8, decide_eq_true c8]; rfl
    · rw [if_neg c8, decide_eq_false c8]
      by_cases c9 : x.toInt = 9
      · rw [if_pos c9, decide_eq_true c9]; rfl
      · rw [if_neg c9, decide_eq_false c9]; rfl
theorem acB_i {a : Int32} (h : acB a.toInt64 = true) : ∃ n, (n < 5 ∨ n = 8 ∨ n = 9) ∧ a = nI n := by
  obtain ⟨n, h1, h2⟩ := acB_n h
  rw [Int32.toInt_toInt64] at h2
  refine ⟨n, h1, Int32.toInt_inj.mp ?_⟩
  rw [h2, n_ti (by omega)]
theorem acB_l {x : Int64} (h : acB x = true) : ∃ n, (n < 5 ∨ n = 8 ∨ n = 9) ∧ x.toInt32 = nI n := by
  obtain ⟨n, h1, h2⟩ := acB_n h
  refine ⟨n, h1, Int32.toInt_inj.mp ?_⟩
  rw [Int64.toInt_toInt32, h2, n_ti (by omega)]
  exact Int.bmod_eq_of_le (by omega) (by omega)
section PAC
variable {A : pu_L} {σ : am_S} {p a : Nat}
theorem c_truth (hk : pu_k A) (hc : pu_c A 1 σ) (hp : p < lne A) (ha : a < 5 ∨ a = 8 ∨ a = 9) : (dF A (lE A p) a = none ∧ fn_X0_actInTruth 1 (nI p) (nI a) σ = some (nI 0, σ)) ∨ ∃ g τ, dF A (lE A p) a = some g ∧ fn_X0_actInTruth 1 (nI p) (nI a) σ = some (nI 1, τ) ∧ fr (fun o _ _ _ => o = 1) σ τ ∧ pu_c (sX (sR A p g) (lsd A) (lac A + nI 1)) 1 τ ∧ τ.1 1 8 p 3 = nI (g 3) := by
  have hp6 : p < 6 := by have := hk.2.1; omega
  unfold fn_X0_actInTruth jn_X0_actInTruth_26 jn_X0_actInTruth_27
  rw [c_gperson hc hk, gL_nI (by omega), decide_eq_true hp, Option.bind_some]
  dsimp only
  rw [if_neg (show ¬ (cond true (nI 1) (nI 0) = 0) by decide), n_in_t hp6 (by omega), cond_true, n_cl (by omega)]
  rcases c_act_8 (p := p) hk hc (pb_of hk hp) (fun j hj => hc.E hp6 hj) ha with ⟨h1, h2⟩ | ⟨g, τ, h1, h2, h3, h4⟩
  · exact Or.inl ⟨h1, by rw [h2]; rfl⟩
  · have hc2 : pu_c (sR A p g) 1 τ := hc.row h3 h4
    refine Or.inr ⟨g, _, h1, by rw [h2]; rfl, (h3.mono fun _ _ _ _ q => q.1).tr (fr.u rfl), ?_, ?_⟩
    · have e : τ.1 1 2 0 7 = lac A := hc2.ac
      rw [e]
      exact hc2.sA
    · rw [u_ne (by omega)]; exact h4 3 (by decide)
end PAC
theorem pv_act (a1 : Int32) (a2 : Int32) (σ : am_S) (hI : pu_Inv σ) : ∃ (r : Int32) (σ1 σ2 : am_S), fn_X7_act a1 a2 σ = some (r, σ1) ∧ fn_X8_act 5 a1 a2 σ1 = some (r, σ2) ∧ pu_Inv σ2 := by
  obtain ⟨A, hI⟩ := hI
  have hk := hI.1.1
  have hm := hI.1.2.2.1
  have hne := hk.2.1
  have hnp := hk.1
  have hc := hI.1.2.1
  cases h1 : gL (lne A) a1
  · refine pv_t hI 0 (by decide) ?_ (fun σ1 hJ hF => ?_)
    · unfold fn_X7_act jn_X7_act_19
      rw [c_gperson hc hk, h1, Option.bind_some]
      exact g_eta (fn_X7_refuse (-nI 2) σ)
    · have hm := hJ.2.2.1
      unfold fn_X8_act jn_X8_act_16
      rw [m_gone hm hk, h1, Option.bind_some]
      exact g_eta (fn_X8_refuse 5 (-nI 2) σ1)
  obtain ⟨p, rfl, lp⟩ := gL_n h1
  have hp6 : p < 6 := by omega
  cases h2 : acB a2.toInt64
  · refine pv_t hI 0 (by decide) ?_ (fun σ1 hJ hF => ?_)
    · unfold fn_X7_act jn_X7_act_19
      rw [c_gperson hc hk, h1, Option.bind_some]
      show (fn_X7_isAct a2.toInt64 σ).bind _ = _
      rw [c_isAct, h2, Option.bind_some]
      exact g_eta (fn_X7_refuse (-nI 2) σ)
    · have hm := hJ.2.2.1
      unfold fn_X8_act jn_X8_act_16
      rw [m_gone hm hk, h1, Option.bind_some]
      show (fn_X8_isAct a2.toInt64 σ1).bind _ = _
      rw [m_isAct, h2, Option.bind_some]
      exact g_eta (fn_X8_refuse 5 (-nI 2) σ1)
  obtain ⟨a, ha, rfl⟩ := acB_i h2
  rcases c_truth hk hc lp ha with ⟨d, e7⟩ | ⟨g, τ, d, e7, f7, c7, a7⟩
  · refine pv_t hI 3 (by decide) ?_ (fun σ1 hJ hF => ?_)
    · unfold fn_X7_act
      rw [c_gperson hc hk, h1, Option.bind_some]
      show (fn_X7_isAct (nI a).toInt64 σ).bind _ = _
      rw [c_isAct, h2, Option.bind_some]
      show (fn_X0_actInTruth 1 (nI p) (nI a) σ).bind _ = _
      rw [e7, Option.bind_some]
      exact g_eta (fn_X7_refuse (-nI 5) σ)
    · have hm := hJ.2.2.1
      rcases m_acts hk hm lp ha with ⟨-, e8⟩ | ⟨g, τ, d', -⟩
      · unfold fn_X8_act
        rw [m_gone hm hk, h1, Option.bind_some]
        show (fn_X8_isAct (nI a).toInt64 σ1).bind _ = _
        rw [m_isAct, h2, Option.bind_some]
        show (fn_X8_acts 5 (nI p) (nI a) σ1).bind _ = _
        rw [e8, Option.bind_some]
        exact g_eta (fn_X8_refuse 5 (-nI 5) σ1)
      · rw [d] at d'; cases d'
  · have hm1 : pu_m A 5 τ := f7.m1 (fun _ _ _ _ => by omega) hm
    rcases m_acts hk hm1 lp ha with ⟨d', -⟩ | ⟨g', ρ, d', e8, f8, r8⟩
    · rw [d] at d'; cases d'
    · rw [d] at d'
      cases d'
      have hm2 : pu_m (sR A p g) 5 ρ := hm1.row f8 r8
      have f9 : fr (fun o k i j => o = 5 ∧ ((50 ≤ k ∧ k < 63) ∨ (k = 40 ∧ j = 24))) τ (am_u ρ 5 40 0 24 (lac A + nI 1)) := (f8.mono fun o k i j q => by omega).tr (fr.u (by omega))
      refine ⟨nI (g 3), τ, am_u ρ 5 40 0 24 (lac A + nI 1), ?_, ?_, _, fr.IL (B := sX (sR A p g) (lsd A) (lac A + nI 1)) ((f7.mono fun o k i j q => by unfold SLn; omega).tr (f9.mono fun o k i j q => by unfold SLn; omega)) hI (hk.row (dF_pb hk (pb_of hk lp) d).1) (f9.c (fun _ _ _ => by omega) c7) hm2.sA (Nat.le_refl _)⟩
      · unfold fn_X7_act
        rw [c_gperson hc hk, h1, Option.bind_some]
        show (fn_X7_isAct (nI a).toInt64 σ).bind _ = _
        rw [c_isAct, h2, Option.bind_some]
        show (fn_X0_actInTruth 1 (nI p) (nI a) σ).bind _ = _
        rw [e7, Option.bind_some]
        show (bif am_in (nI p) 6 then some (τ.1 1 8 (nI p).toNatClampNeg 3, τ) else none) = _
        rw [n_in_t hp6 (by omega), n_cl (by omega), a7]
        rfl
      · unfold fn_X8_act
        rw [m_gone hm1 hk, h1, Option.bind_some]
        show (fn_X8_isAct (nI a).toInt64 τ).bind _ = _
        rw [m_isAct, h2, Option.bind_some]
        show (fn_X8_acts 5 (nI p) (nI a) τ).bind _ = _
        rw [e8, Option.bind_some]
        show (bif am_in (nI p) 6 then some (ρ.1 5 58 0 (nI p).toNatClampNeg, am_u ρ 5 40 0 24 (ρ.1 5 40 0 24 + 1)) else none) = _
        rw [n_in_t hp6 (by omega), n_cl (by omega), r8 3 (by decide), hm2.ac]
        rfl
/-! the weeks -/
def drI (x : Int32) : Int32 := x * 1103515245 + 12345
def dwI (y : Int32) : Int32 := (y.toUInt32 >>> ((16 : Int32).toUInt32 &&& Int32.toUInt32 31)).toInt32 - (y.toUInt32 >>> ((16 : Int32).toUInt32 &&& Int32.toUInt32 31)).toInt32 / (6 : Int32) * (6 : Int32)
theorem dw_n (y : Int32) : ∃ n, n < 6 ∧ dwI y = nI n := by
  have h : ∃ m, m < 65536 ∧ (y.toUInt32 >>> ((16 : Int32).toUInt32 &&& Int32.toUInt32 31)).toInt32 = nI m := by
    have e : ((16 : Int32).toUInt32 &&& Int32.toUInt32 31) = (16 : UInt32) := by decide
    rw [e]
    refine ⟨(y.toUInt32 >>> 16).toNat, ?_, ?_⟩
    · rw [UInt32.toNat_shiftRight]
      have := y.toUInt32.toNat_lt
      show y.toUInt32.toNat >>> 16 < 65536
      rw [Nat.shiftRight_eq_div_pow]
      omega
    · show _ = Int32.ofNat _
      rw [← UInt32.toInt32_ofNat', UInt32.ofNat_toNat]
  obtain ⟨m, h1, h2⟩ := h
  refine ⟨m % 6, Nat.mod_lt _ (by decide), ?_⟩
  unfold dwI
  rw [h2, z6, n_div (by omega) (by decide), n_mul, n_sub (Nat.div_mul_le_self m 6)]
  congr 1
  have := Nat.mod_add_div m 6
  omega
/-- what is drawn, and the act that it means for one who is at v -/
def dwN (x : Int32) : Nat := (dwI (drI x)).toNatClampNeg
theorem dwN_I (x : Int32) : dwI (drI x) = nI (dwN x) ∧ dwN x < 6 := by
  obtain ⟨n, h1, h2⟩ := dw_n (drI x)
  unfold dwN
  rw [h2, n_cl (by omega)]
  exact ⟨rfl, h1⟩
def actN (d v : Nat) : Nat := if 5 ≤ d then (if v = 6 then 9 else 8) else d
theorem actN_ok {d v : Nat} : actN d v < 5 ∨ actN d v = 8 ∨ actN d v = 9 := by
  unfold actN
  split
  · split <;> omega
  · omega
/-- one of the people in one week: x the new SEED, o what comes of the act -/
def wS1 (A : pu_L) (p : Nat) (x : Int32) (o : Option (Nat → Nat)) : pu_L × Nat := match o with
  | none => (sX A x (lac A), 0)
  | some g => (sX (sR A p g) x (lac A + nI 1), 1)
def wS (A : pu_L) (p : Nat) : pu_L × Nat := wS1 A p (drI (lsd A)) (dF A (lE A p) (actN (dwN (lsd A)) (lE A p 3)))
def wI (A : pu_L) (p : Nat) : Nat → pu_L × Nat
  | 0 => (A, 0)
  | m + 1 => ((wI (wS A p).1 (p + 1) m).1, (wS A p).2 + (wI (wS A p).1 (p + 1) m).2)
def wO (A : pu_L) : Nat → pu_L × Nat
  | 0 => (A, 0)
  | m + 1 => ((wO (wI A 0 (lne A)).1 m).1, (wI A 0 (lne A)).2 + (wO (wI A 0 (lne A)).1 m).2)
def kL (A B : pu_L) (n : Nat) : Prop := pu_k B ∧ lne B = lne A ∧ lac B = lac A + nI n
theorem ac_0 {x : Int32} : x = x + nI 0 := (Int32.add_zero x).symm
theorem ac_a {x : Int32} {a b : Nat} : x + nI a + nI b = x + nI (a + b) := by rw [Int32.add_assoc, nI_add]
theorem sX_self {A : pu_L} : sX A (lsd A) (lac A) = A := rfl
theorem dF_sX {A : pu_L} {x y : Int32} {f : Nat → Nat} {a : Nat} : dF (sX A x y) f a = dF A f a := rfl
theorem lE_sX {A : pu_L} {x y : Int32} {p : Nat} : lE (sX A x y) p = lE A p := rfl
theorem wS1_k {A : pu_L} {p : Nat} {x : Int32} {o : Option (Nat → Nat)} (hk : pu_k A) (ho : ∀ g, o = some g → pb g) : kL A (wS1 A p x o).1 (wS1 A p x o).2 := by
  cases o with
  | none => exact ⟨hk.sX, rfl, ac_0⟩
  | some g => exact ⟨(hk.row (ho g rfl)).sX, rfl, rfl⟩
theorem wS_k {A : pu_L} {p : Nat} (hk : pu_k A) (hp : p < lne A) : kL A (wS A p).1 (wS A p).2 := by
  unfold wS
  exact wS1_k hk (fun g e => (dF_pb hk (pb_of hk hp) e).1)
theorem kL.tr {A B C : pu_L} {a b : Nat} (h : kL A B a) (h2 : kL B C b) : kL A C (a + b) := ⟨h2.1, h2.2.1.trans h.2.1, by rw [h2.2.2, h.2.2, ac_a]⟩
theorem wI_k : ∀ (m : Nat) {A : pu_L} {p : Nat}, pu_k A → p + m ≤ lne A → kL A (wI A p m).1 (wI A p m).2
  | 0, A, p, hk, _ => ⟨hk, rfl, ac_0⟩
  | m + 1, A, p, hk, h => by
    have h1 := wS_k hk (show p < lne A by omega)
    exact h1.tr (wI_k m h1.1 (by rw [h1.2.1]; omega))
theorem wO_k : ∀ (m : Nat) {A : pu_L}, pu_k A → kL A (wO A m).1 (wO A m).2
  | 0, A, hk => ⟨hk, rfl, ac_0⟩
  | m + 1, A, hk => by
    have h1 := wI_k (lne A) (p := 0) hk (by omega)
    exact h1.tr (wO_k m h1.1)
section PWK
variable {n : Nat}
theorem c_draw {A : pu_L} {σ : am_S} {p : Nat} (hk : pu_k A) (hc : pu_c A 1 σ) (hp : p < lne A) : fn_X0_drawAct_8 1 1 p σ = some (nI (actN (dwN (lsd A)) (lE A p 3)), am_u σ 1 2 0 6 (drI (lsd A))) := by
  have hp6 : p < 6 := by have := hk.2.1; omega
  obtain ⟨h1, h2⟩ := dwN_I (lsd A)
  have h3 := (pb_of hk hp).2.2.2.1
  unfold fn_X0_drawAct_8
  rw [hc.sd, u_at, hc.E hp6 (by decide)]
  show (if 5 ≤ dwI (drI (lsd A)) then _ else some (dwI (drI (lsd A)), _)) = _
  rw [h1, z5, i_le (by omega) (by omega), z6, i_eq (by omega) (by decide)]
  unfold actN
  by_cases c : 5 ≤ dwN (lsd A)
  · rw [if_pos c, if_pos c]
    split <;> rfl
  · rw [if_neg c, if_neg c]
    rfl
/-- the class: one of the people in one week -/
theorem c_wS1 {A : pu_L} {σ : am_S} {p a : Nat} {x : Int32} (hk : pu_k A) (hc : pu_c A 1 σ) (hp : p < lne A) (ha : a < 5 ∨ a = 8 ∨ a = 9) : ∃ τ, fn_X0_actInTruth 1 (nI p) (nI a) (am_u σ 1 2 0 6 x) = some (nI (wS1 A p x (dF A (lE A p) a)).2, τ) ∧ (wS1 A p x (dF A (lE A p) a)).2 ≤ 1 ∧ fr (fun o _ _ _ => o = 1) σ τ ∧ pu_c (wS1 A p x (dF A (lE A p) a)).1 1 τ := by
  have hk1 : pu_k (sX A x (lac A)) := hk.sX
  have hp1 : p < lne (sX A x (lac A)) := hp
  rcases c_truth (A := sX A x (lac A)) (p := p) (a := a) hk1 hc.sS hp1 ha with ⟨d, e7⟩ | ⟨g, τ, d, e7, f7, c7, -⟩
  · rw [dF_sX, lE_sX] at d
    rw [d]
    exact ⟨_, e7, Nat.zero_le _, fr.u rfl, hc.sS⟩
  · rw [dF_sX, lE_sX] at d
    rw [d]
    exact ⟨τ, e7, Nat.le_refl _, (fr.u rfl).tr f7, c7⟩
theorem c_wS {A : pu_L} {σ : am_S} {p : Nat} (hk : pu_k A) (hc : pu_c A 1 σ) (hp : p < lne A) : ∃ τ, fn_X0_actInTruth 1 (nI p) (nI (actN (dwN (lsd A)) (lE A p 3))) (am_u σ 1 2 0 6 (drI (lsd A))) = some (nI (wS A p).2, τ) ∧ (wS A p).2 ≤ 1 ∧ fr (fun o _ _ _ => o = 1) σ τ ∧ pu_c (wS A p).1 1 τ := by
  unfold wS
  exact c_wS1 hk hc hp actN_ok
theorem c_wI {k4 : Nat → Int32 → Int32 → Int32 → am_S → Option (Int32 × am_S)} {w : Nat} : ∀ (m p fuel c : Nat) (A : pu_L) (σ : am_S), p + m = lne A → m < fuel → pu_k A → pu_c A 1 σ → ∃ τ, lp_X0_passWeeks_12 k4 fuel 1 (nI n) (nI c) (nI w) (nI p) σ = k4 1 (nI n) (nI (c + (wI A p m).2)) (nI (w + 1)) τ ∧ fr (fun o _ _ _ => o = 1) σ τ ∧ pu_c (wI A p m).1 1 τ := by
  intro m
  induction m with
  | zero =>
    intro p fuel c A σ hs hf hk hc
    obtain ⟨f, rfl⟩ : ∃ f, fuel = f + 1 := ⟨fuel - 1, by omega⟩
    have hne := hk.2.1
    refine ⟨σ, ?_, fr.rf, hc⟩
    rw [lp_X0_passWeeks_12.eq_2]
    unfold lb_X0_passWeeks_12
    rw [hc.ne, if_pos (by rw [n_le_i (by omega) (by omega)]; omega), z1, nI_add]
    rfl
  | succ m ih =>
    intro p fuel c A σ hs hf hk hc
    obtain ⟨f, rfl⟩ : ∃ f, fuel = f + 1 := ⟨fuel - 1, by omega⟩
    have hne := hk.2.1
    have hp : p < lne A := by omega
    obtain ⟨τ, e1, e2, e3, e4⟩ := c_wS hk hc hp
    have h1 := wS_k hk hp
    obtain ⟨ρ, d1, d2, d3⟩ := ih (p + 1) f (c + (wS A p).2) (wS A p).1 τ (by rw [h1.2.1]; omega) (by omega) h1.1 e4
    refine ⟨ρ, ?_, e3.tr d2, d3⟩
    show _ = k4 1 (nI n) (nI (c + ((wS A p).2 + (wI (wS A p).1 (p + 1) m).2))) (nI (w + 1)) ρ
    rw [← Nat.add_assoc, ← d1]
    rw [lp_X0_passWeeks_12.eq_2]
    unfold lb_X0_passWeeks_12 jn_X0_passWeeks_44
    rw [hc.ne, if_neg (by rw [n_le_i (by omega) (by omega)]; omega), n_in_t (show p < 6 by omega) (by omega), cond_true, n_cl (by omega), c_draw hk hc hp, Option.bind_some]
    dsimp only
    rw [e1, Option.bind_some]
    dsimp only
    rw [z1, nI_add]
    rcases (show (wS A p).2 = 0 ∨ (wS A p).2 = 1 by omega) with q | q
    · rw [q, if_pos (show nI 0 = (0 : Int32) from rfl)]
      rfl
    · rw [q, if_neg (show ¬ nI 1 = (0 : Int32) by decide), nI_add]
theorem c_wO : ∀ (m w fuel c : Nat) (A : pu_L) (σ : am_S), w + m = n → n ≤ 60 → m < fuel → pu_k A → pu_c A 1 σ → ∃ τ, lp_X0_passWeeks_4 fuel 1 (nI n) (nI c) (nI w) σ = some (nI (c + (wO A m).2), τ) ∧ fr (fun o _ _ _ => o = 1) σ τ ∧ pu_c (wO A m).1 1 τ := by
  intro m
  induction m with
  | zero =>
    intro w fuel c A σ hs h60 hf hk hc
    obtain ⟨f, rfl⟩ : ∃ f, fuel = f + 1 := ⟨fuel - 1, by omega⟩
    refine ⟨σ, ?_, fr.rf, hc⟩
    rw [lp_X0_passWeeks_4.eq_2]
    unfold lb_X0_passWeeks_4
    rw [if_pos (by rw [n_le_i (by omega) (by omega)]; omega)]
    rfl
  | succ m ih =>
    intro w fuel c A σ hs h60 hf hk hc
    obtain ⟨f, rfl⟩ : ∃ f, fuel = f + 1 := ⟨fuel - 1, by omega⟩
    have hne := hk.2.1
    obtain ⟨τ, e1, e2, e3⟩ := c_wI (n := n) (k4 := lp_X0_passWeeks_4 f) (w := w) (lne A) 0 1000 c A σ (by omega) (by omega) hk hc
    have h1 := wI_k (lne A) (p := 0) hk (by omega)
    obtain ⟨ρ, d1, d2, d3⟩ := ih (w + 1) f (c + (wI A 0 (lne A)).2) (wI A 0 (lne A)).1 τ (by omega) h60 (by omega) h1.1 e3
    refine ⟨ρ, ?_, e2.tr d2, d3⟩
    show _ = some (nI (c + ((wI A 0 (lne A)).2 + (wO (wI A 0 (lne A)).1 m).2)), ρ)
    rw [← Nat.add_assoc, ← d1, ← e1]
    rw [lp_X0_passWeeks_4.eq_2]
    unfold lb_X0_passWeeks_4
    rw [if_neg (by rw [n_le_i (by omega) (by omega)]; omega)]
    rfl
/-- what the reference changes in the weeks -/
def S5w : Nat → Nat → Nat → Nat → Prop := fun o k _ j => o = 5 ∧ ((50 ≤ k ∧ k < 63) ∨ (k = 40 ∧ (j = 24 ∨ j = 25)))
theorem m_below {A : pu_L} {σ : am_S} (hm : pu_m A 5 σ) : fn_X8_below 5 6 σ = some (nI (dwN (lsd A)), am_u σ 5 40 0 25 (drI (lsd A))) := by
  obtain ⟨h1, h2⟩ := dwN_I (lsd A)
  unfold fn_X8_below
  rw [if_neg (by decide), hm.sd, u_at]
  show some (dwI (drI (lsd A)), _) = _
  rw [h1]
  rfl
theorem m_wS1 {A : pu_L} {σ : am_S} {p a : Nat} {x y ac : Int32} (hk : pu_k A) (hm : pu_m (sX A y ac) 5 σ) (hp : p < lne A) (ha : a < 5 ∨ a = 8 ∨ a = 9) : ∃ τ, fn_X8_acts 5 (nI p) (nI a) (am_u σ 5 40 0 25 x) = some (nI (wS1 A p x (dF A (lE A p) a)).2, τ) ∧ (wS1 A p x (dF A (lE A p) a)).2 ≤ 1 ∧ fr S5w σ τ ∧ pu_m (sX (wS1 A p x (dF A (lE A p) a)).1 (lsd (wS1 A p x (dF A (lE A p) a)).1) ac) 5 τ := by
  have hm1 : pu_m (sX A x ac) 5 (am_u σ 5 40 0 25 x) := hm.sS
  have hk1 : pu_k (sX A x ac) := hk.sX
  have hp1 : p < lne (sX A x ac) := hp
  rcases m_acts (A := sX A x ac) (p := p) (a := a) hk1 hm1 hp1 ha with ⟨d, e7⟩ | ⟨g, τ, d, e7, f7, r7⟩
  · rw [dF_sX, lE_sX] at d
    rw [d]
    exact ⟨_, e7, Nat.zero_le _, fr.u (by unfold S5w; omega), hm1⟩
  · rw [dF_sX, lE_sX] at d
    rw [d]
    exact ⟨τ, e7, Nat.le_refl _, (fr.u (by unfold S5w; omega)).tr (f7.mono fun o k i j q => by unfold S5w; omega), hm1.row f7 r7⟩
theorem m_wS {A : pu_L} {σ : am_S} {p : Nat} {ac : Int32} (hk : pu_k A) (hm : pu_m (sX A (lsd A) ac) 5 σ) (hp : p < lne A) : ∃ τ, fn_X8_acts 5 (nI p) (nI (actN (dwN (lsd A)) (lE A p 3))) (am_u σ 5 40 0 25 (drI (lsd A))) = some (nI (wS A p).2, τ) ∧ (wS A p).2 ≤ 1 ∧ fr S5w σ τ ∧ pu_m (sX (wS A p).1 (lsd (wS A p).1) ac) 5 τ := by
  unfold wS
  exact m_wS1 hk hm hp actN_ok
theorem m_wI {k23 : Nat → Int32 → Int32 → Int32 → am_S → Option (Int32 × am_S)} {w : Nat} {ac : Int32} : ∀ (m p fuel c : Nat) (A : pu_L) (σ : am_S), p + m = lne A → m < fuel → pu_k A → pu_m (sX A (lsd A) ac) 5 σ → ∃ τ, lp_X8_weeks_31 k23 fuel 5 (nI n) (nI c) (nI w) (nI p) σ = k23 5 (nI n) (nI (c + (wI A p m).2)) (nI (w + 1)) τ ∧ fr S5w σ τ ∧ pu_m (sX (wI A p m).1 (lsd (wI A p m).1) ac) 5 τ := by
  intro m
  induction m with
  | zero =>
    intro p fuel c A σ hs hf hk hm
    obtain ⟨f, rfl⟩ : ∃ f, fuel = f + 1 := ⟨fuel - 1, by omega⟩
    have hne := hk.2.1
    refine ⟨σ, ?_, fr.rf, hm⟩
    rw [lp_X8_weeks_31.eq_2]
    unfold lb_X8_weeks_31
    have e : σ.1 5 40 0 15 = nI (lne A) := hm.ne
    rw [e, if_pos (by rw [n_le_i (by omega) (by omega)]; omega), z1, nI_add]
    rfl
  | succ m ih =>
    intro p fuel c A σ hs hf hk hm
    obtain ⟨f, rfl⟩ : ∃ f, fuel = f + 1 := ⟨fuel - 1, by omega⟩
    have hne := hk.2.1
    have hp : p < lne A := by omega
    have hp6 : p < 6 := by omega
    have h3 := (pb_of hk hp).2.2.2.1
    have h1 := wS_k hk hp
    obtain ⟨-, d6⟩ := dwN_I (lsd A)
    obtain ⟨τ, e1, e2, e3, e4⟩ := m_wS hk hm hp
    obtain ⟨ρ, d1, d2, d3⟩ := ih (p + 1) f (c + (wS A p).2) (wS A p).1 τ (by rw [h1.2.1]; omega) (by omega) h1.1 e4
    refine ⟨ρ, ?_, e3.tr d2, d3⟩
    show _ = k23 5 (nI n) (nI (c + ((wS A p).2 + (wI (wS A p).1 (p + 1) m).2))) (nI (w + 1)) ρ
    rw [← Nat.add_assoc, ← d1]
    rw [lp_X8_weeks_31.eq_2]
    unfold lb_X8_weeks_31
    have en : σ.1 5 40 0 15 = nI (lne A) := hm.ne
    rw [en, if_neg (by rw [n_le_i (by omega) (by omega)]; omega), m_below hm, Option.bind_some]
    dsimp only
    have at3 : (am_u σ 5 40 0 25 (drI (lsd A))).1 5 58 0 p = nI (lE A p 3) := by
      rw [u_ne (by omega)]
      exact hm.E3 hp6
    have fin : ∀ a, a = actN (dwN (lsd A)) (lE A p 3) → jn_X8_weeks_78 k23 (lp_X8_weeks_31 k23 f) 5 (nI n) (nI c) (nI w) (nI p) (nI a) (am_u σ 5 40 0 25 (drI (lsd A))) = lp_X8_weeks_31 k23 f 5 (nI n) (nI (c + (wS A p).2)) (nI w) (nI (p + 1)) τ := fun a ha => by
      subst ha
      unfold jn_X8_weeks_78 jn_X8_weeks_97
      rw [e1, Option.bind_some]
      dsimp only
      rw [z1, nI_add]
      rcases (show (wS A p).2 = 0 ∨ (wS A p).2 = 1 by omega) with q | q
      · rw [q, if_pos (show nI 0 = (0 : Int32) from rfl), z0, nI_add]
      · rw [q, if_neg (show ¬ nI 1 = (0 : Int32) by decide), nI_add]
    rw [show lsd (sX A (lsd A) ac) = lsd A from rfl, z5, i_le (by omega) (by omega)]
    unfold actN at fin
    by_cases c5 : 5 ≤ dwN (lsd A)
    · rw [if_pos c5, n_in_t hp6 (by omega), cond_true, n_cl (by omega), at3, z6, i_eq (by omega) (by decide)]
      by_cases c6 : lE A p 3 = 6
      · rw [if_pos c6]
        exact fin 9 (by rw [if_pos c5, if_pos c6])
      · rw [if_neg c6]
        exact fin 8 (by rw [if_pos c5, if_neg c6])
    · rw [if_neg c5]
      exact fin _ (by rw [if_neg c5])
theorem m_wO {ac : Int32} : ∀ (m w fuel c : Nat) (A : pu_L) (σ : am_S), w + m = n → n ≤ 60 → m < fuel → pu_k A → pu_m (sX A (lsd A) ac) 5 σ → ∃ τ, lp_X8_weeks_23 fuel 5 (nI n) (nI c) (nI w) σ = some (nI (c + (wO A m).2), τ) ∧ fr S5w σ τ ∧ pu_m (sX (wO A m).1 (lsd (wO A m).1) (ac + nI (c + (wO A m).2))) 5 τ := by
  intro m
  induction m with
  | zero =>
    intro w fuel c A σ hs h60 hf hk hm
    obtain ⟨f, rfl⟩ : ∃ f, fuel = f + 1 := ⟨fuel - 1, by omega⟩
    refine ⟨am_u σ 5 40 0 24 (ac + nI c), ?_, fr.u (by unfold S5w; omega), hm.sA⟩
    rw [lp_X8_weeks_23.eq_2]
    unfold lb_X8_weeks_23
    have e : σ.1 5 40 0 24 = ac := hm.ac
    rw [if_pos (by rw [n_le_i (by omega) (by omega)]; omega), e]
    rfl
  | succ m ih =>
    intro w fuel c A σ hs h60 hf hk hm
    obtain ⟨f, rfl⟩ : ∃ f, fuel = f + 1 := ⟨fuel - 1, by omega⟩
    have hne := hk.2.1
    obtain ⟨τ, e1, e2, e3⟩ := m_wI (n := n) (k23 := lp_X8_weeks_23 f) (w := w) (ac := ac) (lne A) 0 1000 c A σ (by omega) (by omega) hk hm
    have h1 := wI_k (lne A) (p := 0) hk (by omega)
    obtain ⟨ρ, d1, d2, d3⟩ := ih (w + 1) f (c + (wI A 0 (lne A)).2) (wI A 0 (lne A)).1 τ (by omega) h60 (by omega) h1.1 e3
    have hw : c + (wI A 0 (lne A)).2 + (wO (wI A 0 (lne A)).1 m).2 = c + (wO A (m + 1)).2 := Nat.add_assoc _ _ _
    rw [hw] at d1 d3
    refine ⟨ρ, ?_, e2.tr d2, d3⟩
    rw [← d1, ← e1]
    rw [lp_X8_weeks_23.eq_2]
    unfold lb_X8_weeks_23
    rw [if_neg (by rw [n_le_i (by omega) (by omega)]; omega)]
    rfl
end PWK
theorem pv_weeks (a1 : Int32) (σ : am_S) (hI : pu_Inv σ) : ∃ (r : Int32) (σ1 σ2 : am_S), fn_X7_weeks a1 σ = some (r, σ1) ∧ fn_X8_weeks 5 a1 σ1 = some (r, σ2) ∧ pu_Inv σ2 := by
  obtain ⟨A, hI⟩ := hI
  have hk := hI.1.1
  have hm := hI.1.2.2.1
  have hne := hk.2.1
  have hnp := hk.1
  have hc := hI.1.2.1
  cases h1 : gN 1 60 a1
  · refine pv_t hI 0 (by decide) ?_ (fun σ1 hJ hF => ?_)
    · unfold fn_X7_weeks
      rw [show (1 : Int32) = nI 1 from rfl, show (60 : Int32) = nI 60 from rfl, c_within (by decide) (by decide), h1, Option.bind_some]
      exact g_eta (fn_X7_refuse (-nI 2) σ)
    · unfold fn_X8_weeks
      rw [m_in_1_60, h1, Option.bind_some]
      exact g_eta (fn_X8_refuse 5 (-nI 2) σ1)
  obtain ⟨n, rfl, ln, un⟩ := gN_n h1
  obtain ⟨τ, e1, e2, e3⟩ := c_wO (n := n) n 0 1000 0 A σ (by omega) (by omega) (by omega) hk hc
  obtain ⟨ρ, d1, d2, d3⟩ := m_wO (n := n) (ac := lac A) n 0 1000 0 A τ (by omega) (by omega) (by omega) hk (e2.m1 (fun _ _ _ _ => by omega) hm)
  have h2 := wO_k n hk
  rw [Nat.zero_add] at e1 d1 d3
  rw [← h2.2.2, sX_self] at d3
  generalize wO A n = W at e1 e3 d1 d3 h2
  refine ⟨nI W.2, τ, ρ, ?_, ?_, W.1, fr.IL (B := W.1) ((e2.mono fun o k i j q => by unfold SLn; omega).tr (d2.mono fun o k i j q => by unfold S5w at q; unfold SLn; omega)) hI h2.1 (d2.c (fun _ _ _ q => by unfold S5w at q; omega) e3) d3 (Nat.le_of_eq h2.2.1.symm)⟩
  · unfold fn_X7_weeks fn_X0_passWeeks
    rw [show (1 : Int32) = nI 1 from rfl, show (60 : Int32) = nI 60 from rfl, c_within (by decide) (by decide), h1, Option.bind_some]
    dsimp only
    rw [if_neg (show ¬ (cond true (nI 1) (nI 0) = 0) by decide), z0, e1]
    rfl
  · unfold fn_X8_weeks
    rw [m_in_1_60, h1, Option.bind_some]
    dsimp only
    rw [if_neg (show ¬ (cond true (nI 1) (nI 0) = 0) by decide), z0]
    exact d1
