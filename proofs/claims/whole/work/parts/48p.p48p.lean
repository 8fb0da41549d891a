/-! ===== calls: journeys ===== -/
theorem i_lgeq {α : Type} {a b : Int64} {p q : α} : (if lg_cmp a b = 0 then p else q) = if a.toInt = b.toInt then p else q := by simp only [lg_eq]
theorem i_lglt {α : Type} {a b : Int64} {p q : α} : (if lg_cmp a b < 0 then p else q) = if a.toInt < b.toInt then p else q := by simp only [lg_lt]
theorem l_m1 : (-1 : Int64).toInt = -1 := by decide
theorem l_nI {u : Nat} (hu : u < 2147483648) : (nI u).toInt64.toInt = (u : Int) := by rw [Int32.toInt_toInt64, n_ti hu]
/-- a stamp fits a valley -/
def fB (x : Int64) (v : Nat) : Bool := decide (x.toInt = -1) || decide (x.toInt = (v : Int))
/-- one step more, from v, where c journeys have come -/
def jU (A : pu_L) (x : Int64) (c v s : Nat) (F : Nat → Nat) : Nat → Nat := match eoN A v s with
  | none => F
  | some u => if fB x u = true then (fun w => if w = u then (if F u + c < 1000000 then F u + c else 1000000) else F w) else F
def jV (A : pu_L) (x : Int64) (c v : Nat) (F : Nat → Nat) : Nat → Nat → Nat
  | 0 => F
  | s + 1 => jU A x c v s (jV A x c v F s)
def jW (A : pu_L) (x : Int64) (C : Nat → Nat) : Nat → Nat → Nat
  | 0 => fun _ => 0
  | v + 1 => jV A x (C v) v (jW A x C v) 5
/-- how many journeys have come to each valley behind so many stamps -/
def cN (A : pu_L) (r : Nat → Int64) (st : Nat) : Nat → Nat → Nat
  | 0 => fun v => if v = st then 1 else 0
  | i + 1 => jW A (r i) (cN A r st i) 7
section PJM
variable {A : pu_L} {x : Int64} {c v s w st : Nat} {F C : Nat → Nat} {r : Nat → Int64}
theorem jU_none (h : eoN A v s = none) : jU A x c v s F = F := by unfold jU; rw [h]
theorem jU_no {u : Nat} (h : eoN A v s = some u) (hf : fB x u = false) : jU A x c v s F = F := by unfold jU; rw [h]; dsimp only; rw [hf, if_neg (by decide)]
theorem jU_yes {u : Nat} (h : eoN A v s = some u) (hf : fB x u = true) : jU A x c v s F = fun w => if w = u then (if F u + c < 1000000 then F u + c else 1000000) else F w := by unfold jU; rw [h]; dsimp only; rw [if_pos hf]
theorem jU_le (hF : ∀ w, F w ≤ 1000000) (w : Nat) : jU A x c v s F w ≤ 1000000 := by
  cases h : eoN A v s with
  | none => rw [jU_none h]; exact hF w
  | some u =>
    cases hf : fB x u
    · rw [jU_no h hf]; exact hF w
    · rw [jU_yes h hf]
      dsimp only
      split
      · split <;> omega
      · exact hF w
theorem jV_le (hF : ∀ w, F w ≤ 1000000) : ∀ s w, jV A x c v F s w ≤ 1000000
  | 0, w => hF w
  | s + 1, w => jU_le (jV_le hF s) w
theorem jW_le : ∀ k w, jW A x C k w ≤ 1000000
  | 0, w => Nat.zero_le _
  | k + 1, w => jV_le (jW_le k) 5 w
theorem cN_le : ∀ i w, cN A r st i w ≤ 1000000
  | 0, w => by
    show (if w = st then 1 else 0) ≤ _
    split <;> omega
  | i + 1, w => jW_le 7 w
theorem jU_pos (w : Nat) : 0 < jU A x c v s F w ↔ 0 < F w ∨ (eoN A v s = some w ∧ fB x w = true ∧ 0 < c) := by
  cases h : eoN A v s with
  | none =>
    rw [jU_none h]
    exact ⟨Or.inl, fun q => q.elim id (fun z => by cases z.1)⟩
  | some u =>
    cases hf : fB x u
    · rw [jU_no h hf]
      exact ⟨Or.inl, fun q => q.elim id (fun z => by
        obtain ⟨z1, z2, -⟩ := z
        cases z1
        rw [hf] at z2
        cases z2)⟩
    · rw [jU_yes h hf]
      dsimp only
      by_cases c0 : w = u
      · subst c0
        rw [if_pos rfl]
        constructor
        · intro q
          by_cases f0 : 0 < F w
          · exact Or.inl f0
          · refine Or.inr ⟨rfl, hf, ?_⟩
            by_cases c1 : 0 < c
            · exact c1
            · rw [if_pos (by omega)] at q
              omega
        · intro q
          have : 0 < F w + c := by
            rcases q with q | ⟨-, -, q⟩ <;> omega
          split <;> omega
      · rw [if_neg c0]
        exact ⟨Or.inl, fun q => q.elim id (fun z => absurd (Option.some.inj z.1).symm c0)⟩
theorem jV_pos : ∀ (s w : Nat), 0 < jV A x c v F s w ↔ 0 < F w ∨ ∃ t, t < s ∧ eoN A v t = some w ∧ fB x w = true ∧ 0 < c
  | 0, w => ⟨Or.inl, fun q => q.elim id (fun ⟨t, ht, _⟩ => absurd ht (Nat.not_lt_zero _))⟩
  | s + 1, w => by
    show 0 < jU A x c v s (jV A x c v F s) w ↔ _
    rw [jU_pos, jV_pos s w]
    constructor
    · rintro ((q | ⟨t, ht, q⟩) | q)
      · exact Or.inl q
      · exact Or.inr ⟨t, by omega, q⟩
      · exact Or.inr ⟨s, by omega, q⟩
    · rintro (q | ⟨t, ht, q⟩)
      · exact Or.inl (Or.inl q)
      · by_cases e : t = s
        · subst e; exact Or.inr q
        · exact Or.inl (Or.inr ⟨t, by omega, q⟩)
theorem jW_pos : ∀ (k w : Nat), 0 < jW A x C k w ↔ ∃ v, v < k ∧ ∃ t, t < 5 ∧ eoN A v t = some w ∧ fB x w = true ∧ 0 < C v
  | 0, w => ⟨fun q => absurd q (Nat.not_lt_zero _), fun ⟨v, hv, _⟩ => absurd hv (Nat.not_lt_zero _)⟩
  | k + 1, w => by
    show 0 < jV A x (C k) k (jW A x C k) 5 w ↔ _
    rw [jV_pos, jW_pos k w]
    constructor
    · rintro (⟨v, hv, q⟩ | q)
      · exact ⟨v, by omega, q⟩
      · exact ⟨k, by omega, q⟩
    · rintro ⟨v, hv, q⟩
      by_cases e : v = k
      · subst e; exact Or.inr q
      · exact Or.inl ⟨v, by omega, q⟩
theorem cN_pos (i w : Nat) : 0 < cN A r st (i + 1) w ↔ ∃ v, v < 7 ∧ ∃ t, t < 5 ∧ eoN A v t = some w ∧ fB (r i) w = true ∧ 0 < cN A r st i v := jW_pos 7 w
theorem jV_past {k : Nat} (h : ∀ t, k ≤ t → eoN A v t = none) : ∀ m, jV A x c v F (k + m) = jV A x c v F k
  | 0 => rfl
  | m + 1 => by
    show jU A x c v (k + m) (jV A x c v F (k + m)) = _
    rw [jU_none (h (k + m) (by omega)), jV_past h m]
theorem eo_past (h : lnp A + 2 ≤ s) : eoN A v s = none := by
  unfold eoN
  rw [if_neg (by omega), if_neg (by omega), if_neg (by omega)]
/-! what can still come to an end -/
def gaN (A : pu_L) (x : Int64) (G : Nat → Bool) (v : Nat) : Nat → Bool
  | 0 => false
  | s + 1 => gaN A x G v s || (match eoN A v s with
    | none => false
    | some u => fB x u && G u)
def gM (A : pu_L) (r : Nat → Int64) (n : Nat) : Nat → Nat → Bool
  | 0 => fun _ => true
  | m + 1 => fun v => gaN A (r (n - (m + 1))) (gM A r n m) v 5
def laN (A : pu_L) (g v : Nat) : Nat → Bool
  | 0 => false
  | s + 1 => laN A g v s || (match eoN A v s with
    | none => false
    | some u => btN g u)
theorem ga_iff {G : Nat → Bool} : ∀ s, gaN A x G v s = true ↔ ∃ t, t < s ∧ ∃ u, eoN A v t = some u ∧ fB x u = true ∧ G u = true
  | 0 => ⟨fun q => (by cases q), fun ⟨t, ht, _⟩ => absurd ht (Nat.not_lt_zero _)⟩
  | s + 1 => by
    show (gaN A x G v s || (match eoN A v s with
      | none => false
      | some u => fB x u && G u)) = true ↔ _
    rw [Bool.or_eq_true, ga_iff s]
    constructor
    · rintro (⟨t, ht, q⟩ | q)
      · exact ⟨t, by omega, q⟩
      · cases e : eoN A v s with
        | none => rw [e] at q; cases q
        | some u =>
          rw [e] at q
          have q : (fB x u && G u) = true := q
          rw [Bool.and_eq_true] at q
          exact ⟨s, by omega, u, e, q⟩
    · rintro ⟨t, ht, u, e, q⟩
      by_cases c : t = s
      · subst c
        refine Or.inr ?_
        rw [e]
        show (fB x u && G u) = true
        rw [Bool.and_eq_true]
        exact q
      · exact Or.inl ⟨t, by omega, u, e, q⟩
theorem la_iff {g : Nat} : ∀ s, laN A g v s = true ↔ ∃ t, t < s ∧ ∃ u, eoN A v t = some u ∧ btN g u = true
  | 0 => ⟨fun q => (by cases q), fun ⟨t, ht, _⟩ => absurd ht (Nat.not_lt_zero _)⟩
  | s + 1 => by
    show (laN A g v s || (match eoN A v s with
      | none => false
      | some u => btN g u)) = true ↔ _
    rw [Bool.or_eq_true, la_iff s]
    constructor
    · rintro (⟨t, ht, q⟩ | q)
      · exact ⟨t, by omega, q⟩
      · cases e : eoN A v s with
        | none => rw [e] at q; cases q
        | some u =>
          rw [e] at q
          exact ⟨s, by omega, u, e, q⟩
    · rintro ⟨t, ht, u, e, q⟩
      by_cases c : t = s
      · subst c
        refine Or.inr ?_
        rw [e]
        exact q
      · exact Or.inl ⟨t, by omega, u, e, q⟩
theorem ga_past {G : Nat → Bool} {k : Nat} (h : ∀ t, k ≤ t → eoN A v t = none) : ∀ m, gaN A x G v (k + m) = gaN A x G v k
  | 0 => rfl
  | m + 1 => by
    show (gaN A x G v (k + m) || (match eoN A v (k + m) with
      | none => false
      | some u => fB x u && G u)) = _
    rw [h (k + m) (by omega), ga_past h m, Bool.or_false]
end PJM
/-! sets from what holds -/
def seN (P : Nat → Bool) : Nat → Nat
  | 0 => 0
  | k + 1 => if P k = true then stN (seN P k) k else seN P k
theorem se_ok {P : Nat → Bool} : ∀ k, k ≤ 7 → seN P k < 128 ∧ ∀ u, u < 7 → btN (seN P k) u = (decide (u < k) && P u)
  | 0, _ => ⟨by show 0 < 128; decide, fun u _ => by rw [decide_eq_false (Nat.not_lt_zero u), Bool.false_and]; exact bt_0⟩
  | k + 1, hk => by
    obtain ⟨h1, h2⟩ := se_ok (P := P) k (by omega)
    have hk7 : k < 7 := by omega
    cases hP : P k
    · have e : seN P (k + 1) = seN P k := if_neg (by rw [hP]; decide)
      rw [e]
      refine ⟨h1, fun u hu => ?_⟩
      rw [h2 u hu]
      by_cases c : u = k
      · rw [c, hP, Bool.and_false, Bool.and_false]
      · by_cases d : u < k
        · rw [decide_eq_true d, decide_eq_true (show u < k + 1 by omega)]
        · rw [decide_eq_false d, decide_eq_false (show ¬ u < k + 1 by omega)]
    · have e : seN P (k + 1) = stN (seN P k) k := if_pos hP
      rw [e]
      refine ⟨(cl_le h1 hk7).2.1, fun u hu => ?_⟩
      rw [(bt_cl h1 hk7 hu).2, h2 u hu]
      by_cases c : u = k
      · rw [c, hP, decide_eq_true rfl, Bool.or_true, decide_eq_true (show k < k + 1 by omega)]; rfl
      · rw [decide_eq_false c, Bool.or_false]
        by_cases d : u < k
        · rw [decide_eq_true d, decide_eq_true (show u < k + 1 by omega)]
        · rw [decide_eq_false d, decide_eq_false (show ¬ u < k + 1 by omega)]
theorem se_7 {P : Nat → Bool} {u : Nat} (hu : u < 7) : btN (seN P 7) u = P u := by rw [(se_ok 7 (Nat.le_refl _)).2 u hu, decide_eq_true hu, Bool.true_and]
theorem se_congr {P Q : Nat → Bool} : ∀ k, (∀ i, i < k → P i = Q i) → seN P k = seN Q k
  | 0, _ => rfl
  | k + 1, h => by
    show (if P k = true then stN (seN P k) k else seN P k) = (if Q k = true then stN (seN Q k) k else seN Q k)
    rw [se_congr k (fun i hi => h i (by omega)), h k (by omega)]
theorem bs9 : ((List.range 128).all fun y => (List.range 128).all fun x => (nI y &&& nI x == nI (seN (fun v => btN y v && btN x v) 7))) = true := by decide +kernel
theorem b_an {x y : Nat} (hx : x < 128) (hy : y < 128) : nI x &&& nI y = nI (seN (fun v => btN x v && btN y v) 7) := eq_of_beq (al2 bs9 hx hy)
theorem bs10 : ((List.range 128).all fun x => decide (pcN x = 1) == (!decide (x = 0) && decide (nI x &&& (nI x - 1) = 0))) = true := by decide +kernel
theorem b_one {x : Nat} (hx : x < 128) : decide (pcN x = 1) = (!decide (x = 0) && decide (nI x &&& (nI x - 1) = 0)) := eq_of_beq (List.all_eq_true.mp bs10 x (List.mem_range.mpr hx))
theorem st_st {x v : Nat} (hx : x < 128) (hv : v < 7) : stN (stN x v) v = stN x v := by
  have h := (bt_cl hx hv hv).2
  rw [decide_eq_true rfl, Bool.or_true] at h
  unfold stN at h ⊢
  exact if_pos h
theorem se_0 {P : Nat → Bool} : seN P 7 = 0 ↔ ∀ u, u < 7 → P u = false := by
  constructor
  · intro h u hu
    rw [← se_7 (P := P) hu, h, bt_0]
  · intro h
    by_cases c : seN P 7 = 0
    · exact c
    · obtain ⟨u, hu, hb⟩ := bt_ex (se_ok (P := P) 7 (Nat.le_refl _)).1 c
      rw [se_7 hu, h u hu] at hb
      cases hb
section PJC
variable {A : pu_L} {σ : am_S} {x : Int64} {c v s w st n i k : Nat} {F C : Nat → Nat} {r : Nat → Int64}
/-! the class -/
theorem c_f31 (hk : k < 41) : ∀ (m j fuel : Nat) (σ : am_S), j + m = 7 → m < fuel → ∃ τ, lp_J7_fill_53178_31_5 fuel k (nI 0) (nI j) (nI 7) σ = some τ ∧ fr (fun o kk i j' => o = 14 ∧ kk = 31 ∧ i = k ∧ j ≤ j') σ τ ∧ ∀ u, j ≤ u → u < 7 → τ.1 14 31 k u = nI 0 := by
  intro m
  induction m with
  | zero =>
    intro j fuel σ hs hf
    obtain ⟨f, rfl⟩ : ∃ f, fuel = f + 1 := ⟨fuel - 1, by omega⟩
    obtain rfl : j = 7 := by omega
    refine ⟨σ, ?_, fr.rf, fun u h1 h2 => by omega⟩
    rw [lp_J7_fill_53178_31_5.eq_2]
    unfold lb_J7_fill_53178_31_5
    rw [if_pos (by decide)]
  | succ m ih =>
    intro j fuel σ hs hf
    obtain ⟨f, rfl⟩ : ∃ f, fuel = f + 1 := ⟨fuel - 1, by omega⟩
    have hj : j < 7 := by omega
    obtain ⟨τ, e1, e2, e3⟩ := ih (j + 1) f (am_u σ 14 31 k j (nI 0)) (by omega) (by omega)
    refine ⟨τ, ?_, (fr.u (by omega)).tr (e2.mono fun o kk i j q => by omega), fun u h1 h2 => ?_⟩
    · rw [lp_J7_fill_53178_31_5.eq_2]
      unfold lb_J7_fill_53178_31_5
      rw [if_neg (nf (n_le_f (by omega) (by omega))), n_in_t hj (by omega), cond_true, n_cl (by omega), n_suc]
      exact e1
    · by_cases c : u = j
      · subst c
        rw [(e2 14 31 k u (by omega)).1, u_at]
      · exact e3 u (by omega) h2
theorem c_fill31 (hk : k < 41) : ∃ τ, fn_J7_fill_53178_31 k 0 σ = some τ ∧ fr (fun o kk i _ => o = 14 ∧ kk = 31 ∧ i = k) σ τ ∧ ∀ u, u < 7 → τ.1 14 31 k u = nI 0 := by
  obtain ⟨τ, e1, e2, e3⟩ := c_f31 (σ := σ) hk 7 0 1000 rfl (by decide)
  exact ⟨τ, e1, e2.mono fun o kk i j q => ⟨q.1, q.2.1, q.2.2.1⟩, fun u hu => e3 u (Nat.zero_le _) hu⟩
theorem c_stepOn (hk : pu_k A) (hi : i < 40) (hv : v < 7) (hc6 : c ≤ 1000000) (hF : ∀ w, F w ≤ 1000000) : ∀ (m s fuel : Nat) (σ : am_S), s + m = 5 → m < fuel → pu_c A 1 σ → σ.1 14 31 i v = nI c → (∀ u, u < 7 → σ.1 14 31 (i + 1) u = nI (jV A x c v F s u)) →
    ∃ τ, lp_X3_stepOn_3 fuel 1 (nI i) (nI v) x (nI s) σ = some τ ∧ fr (fun o kk i' _ => o = 14 ∧ kk = 31 ∧ i' = i + 1) σ τ ∧ ∀ u, u < 7 → τ.1 14 31 (i + 1) u = nI (jV A x c v F 5 u) := by
  intro m
  induction m with
  | zero =>
    intro s fuel σ hs hf hc hv0 hr
    obtain ⟨f, rfl⟩ : ∃ f, fuel = f + 1 := ⟨fuel - 1, by omega⟩
    obtain rfl : s = 5 := by omega
    refine ⟨σ, ?_, fr.rf, hr⟩
    rw [lp_X3_stepOn_3.eq_2]
    unfold lb_X3_stepOn_3
    rw [if_pos (by decide)]
  | succ m ih =>
    intro s fuel σ hs hf hc hv0 hr
    obtain ⟨f, rfl⟩ : ∃ f, fuel = f + 1 := ⟨fuel - 1, by omega⟩
    have hs5 : s < 5 := by omega
    have hle := jV_le (A := A) (x := x) (c := c) (v := v) hF s
    rw [lp_X3_stepOn_3.eq_2]
    unfold lb_X3_stepOn_3 jn_X3_stepOn_42 jn_X3_stepOn_82
    rw [z5, if_neg (nf (n_le_f (by omega) (by omega))), c_endOf hc hk hv hs5, Option.bind_some]
    dsimp only
    rw [n_suc]
    have skip : jV A x c v F (s + 1) = jV A x c v F s → ∃ τ, lp_X3_stepOn_3 f 1 (nI i) (nI v) x (nI (s + 1)) σ = some τ ∧ fr (fun o kk i' _ => o = 14 ∧ kk = 31 ∧ i' = i + 1) σ τ ∧ ∀ u, u < 7 → τ.1 14 31 (i + 1) u = nI (jV A x c v F 5 u) := fun e => ih (s + 1) f σ (by omega) (by omega) hc hv0 (fun u hu => by rw [e]; exact hr u hu)
    cases e : eoN A v s with
    | none =>
      rw [if_pos (show oI none = (-1 : Int32) from rfl)]
      exact skip (jU_none e)
    | some u =>
      have hu := eo_lt hk e
      have hx1 := hle u
      rw [if_neg (show ¬ oI (some u) = (-1 : Int32) from oI_m (by omega)), show oI (some u) = nI u from rfl, i_lgeq, i_lgeq, l_m1, l_nI (by omega)]
      have go : fB x u = true → ∃ τ, (bif am_in (nI i + 1) 41 then (bif am_in (nI u) 7 then (bif am_in (nI i) 41 then (bif am_in (nI v) 7 then (bif am_in (nI i + 1) 41 then (bif am_in (nI u) 7 then lp_X3_stepOn_3 f 1 (nI i) (nI v) x (nI (s + 1)) (am_u σ 14 31 (((nI i + (1 : Int32)) : Int32).toNatClampNeg) ((nI u : Int32).toNatClampNeg) (if ((σ.1 14 31 (((nI i + (1 : Int32)) : Int32).toNatClampNeg) ((nI u : Int32).toNatClampNeg)) + (σ.1 14 31 ((nI i : Int32).toNatClampNeg) ((nI v : Int32).toNatClampNeg))) < 1000000 then ((σ.1 14 31 (((nI i + (1 : Int32)) : Int32).toNatClampNeg) ((nI u : Int32).toNatClampNeg)) + (σ.1 14 31 ((nI i : Int32).toNatClampNeg) ((nI v : Int32).toNatClampNeg))) else 1000000)) else none) else none) else none) else none) else none) else none) = some τ ∧ fr (fun o kk i' _ => o = 14 ∧ kk = 31 ∧ i' = i + 1) σ τ ∧ ∀ u, u < 7 → τ.1 14 31 (i + 1) u = nI (jV A x c v F 5 u) := fun hfB => by
        rw [n_suc, n_in_t (show i + 1 < 41 by omega) (by omega), n_in_t hu (by omega), n_in_t (show i < 41 by omega) (by omega), n_in_t hv (by omega), cond_true, cond_true, cond_true, cond_true, cond_true, cond_true, n_cl (by omega), n_cl (by omega), n_cl (by omega), n_cl (by omega), hr u hu, hv0, nI_add, z106, i_lt (by omega) (by omega)]
        have ejy : jV A x c v F (s + 1) = fun w => if w = u then (if jV A x c v F s u + c < 1000000 then jV A x c v F s u + c else 1000000) else jV A x c v F s w := jU_yes e hfB
        have hX : (if jV A x c v F s u + c < 1000000 then nI (jV A x c v F s u + c) else nI 1000000) = nI (if jV A x c v F s u + c < 1000000 then jV A x c v F s u + c else 1000000) := by split <;> rfl
        rw [hX]
        obtain ⟨τ, g1, g2, g3⟩ := ih (s + 1) f (am_u σ 14 31 (i + 1) u (nI (if jV A x c v F s u + c < 1000000 then jV A x c v F s u + c else 1000000))) (by omega) (by omega) ((fr.u (S := fun o _ _ _ => o = 14) rfl).c (fun _ _ _ q => by omega) hc) (by rw [u_ne (by omega)]; exact hv0) (fun w hw => by
          rw [ejy]
          by_cases cw : w = u
          · subst cw
            rw [u_at]
            dsimp only
            rw [if_pos rfl]
          · rw [u_ne (by omega)]
            dsimp only
            rw [if_neg cw]
            exact hr w hw)
        exact ⟨τ, g1, (fr.u ⟨rfl, rfl, rfl⟩).tr g2, g3⟩
      by_cases c1 : x.toInt = -1
      · rw [if_pos c1]
        exact go (by unfold fB; rw [decide_eq_true c1, Bool.true_or])
      · rw [if_neg c1]
        by_cases c2 : x.toInt = (u : Int)
        · rw [if_pos c2]
          exact go (by unfold fB; rw [decide_eq_true c2, Bool.or_true])
        · rw [if_neg c2]
          exact skip (jU_no e (by unfold fB; rw [decide_eq_false c1, decide_eq_false c2]; rfl))
theorem c_fl59 {K : Nat → Nat → Int32 → Int32 → am_S → Option am_S} (hk : pu_k A) (hi : i < 40) (hC : ∀ w, C w ≤ 1000000) (hx : ∀ τ : am_S, fr (fun o kk i' _ => o = 14 ∧ kk = 31 ∧ i' = i + 1) σ τ → τ.2 10 13 s i = x) : ∀ (m v fuel : Nat) (τ : am_S), v + m = 7 → m < fuel → fr (fun o kk i' _ => o = 14 ∧ kk = 31 ∧ i' = i + 1) σ τ → pu_c A 1 τ → (∀ u, u < 7 → τ.1 14 31 i u = nI (C u)) → (∀ u, u < 7 → τ.1 14 31 (i + 1) u = nI (jW A x C v u)) →
    ∃ ρ, lp_X3_follow_13_59 K fuel 1 s (nI n) (nI i) (nI v) τ = K 1 s (nI n) (nI (i + 1)) ρ ∧ fr (fun o kk i' _ => o = 14 ∧ kk = 31 ∧ i' = i + 1) σ ρ ∧ pu_c A 1 ρ ∧ ∀ u, u < 7 → ρ.1 14 31 (i + 1) u = nI (jW A x C 7 u) := by
  intro m
  induction m with
  | zero =>
    intro v fuel τ hs hf hfr hc hr hr1
    obtain ⟨f, rfl⟩ : ∃ f, fuel = f + 1 := ⟨fuel - 1, by omega⟩
    obtain rfl : v = 7 := by omega
    refine ⟨τ, ?_, hfr, hc, hr1⟩
    rw [lp_X3_follow_13_59.eq_2]
    unfold lb_X3_follow_13_59
    rw [if_pos (by decide), n_suc]
  | succ m ih =>
    intro v fuel τ hs hf hfr hc hr hr1
    obtain ⟨f, rfl⟩ : ∃ f, fuel = f + 1 := ⟨fuel - 1, by omega⟩
    have hv : v < 7 := by omega
    obtain ⟨ρ, e1, e2, e3⟩ := c_stepOn (x := x) (F := jW A x C v) hk hi hv (hC v) (jW_le v) 5 0 1000 τ rfl (by decide) hc (hr v hv) hr1
    obtain ⟨θ, d1, d2, d3, d4⟩ := ih (v + 1) f ρ (by omega) (by omega) (hfr.tr e2) (e2.c (fun _ _ _ q => by omega) hc) (fun u hu => by rw [(e2 14 31 i u (by omega)).1]; exact hr u hu) e3
    refine ⟨θ, ?_, d2, d3, d4⟩
    rw [lp_X3_follow_13_59.eq_2]
    unfold lb_X3_follow_13_59
    have e1 : fn_X3_stepOn 1 (nI i) (nI v) x τ = some ρ := e1
    rw [if_neg (show ¬ (7 : Int32) ≤ nI v from nf (n_le_f (a := 7) (b := v) hv (by omega))), n_in_t hi (by omega), cond_true, n_cl (by omega), hx τ hfr, e1, Option.bind_some, n_suc]
    exact d1
theorem c_fl23 (hk : pu_k A) (hn : n ≤ 40) : ∀ (m i fuel : Nat) (σ : am_S), i + m = n → m < fuel → pu_c A 1 σ → (∀ j, j < 40 → σ.2 10 13 s j = r j) → (∀ j, j ≤ i → ∀ u, u < 7 → σ.1 14 31 j u = nI (cN A r st j u)) →
    ∃ τ, lp_X3_follow_13_23 fuel 1 s (nI n) (nI i) σ = some τ ∧ fr (fun o kk _ _ => o = 14 ∧ kk = 31) σ τ ∧ ∀ j, j ≤ n → ∀ u, u < 7 → τ.1 14 31 j u = nI (cN A r st j u) := by
  intro m
  induction m with
  | zero =>
    intro i fuel σ hs hf hc hr hI
    obtain ⟨f, rfl⟩ : ∃ f, fuel = f + 1 := ⟨fuel - 1, by omega⟩
    obtain rfl : i = n := by omega
    refine ⟨σ, ?_, fr.rf, hI⟩
    rw [lp_X3_follow_13_23.eq_2]
    unfold lb_X3_follow_13_23
    rw [if_pos (pt (n_le_t (by omega) (by omega)))]
  | succ m ih =>
    intro i fuel σ hs hf hc hr hI
    obtain ⟨f, rfl⟩ : ∃ f, fuel = f + 1 := ⟨fuel - 1, by omega⟩
    have hi : i < 40 := by omega
    obtain ⟨τ, e1, e2, e3⟩ := c_fill31 (σ := σ) (show i + 1 < 41 by omega)
    obtain ⟨ρ, d1, d2, d3, d4⟩ := c_fl59 (σ := τ) (s := s) (n := n) (x := r i) (C := cN A r st i) (K := lp_X3_follow_13_23 f) hk hi (cN_le i) (fun θ hθ => by rw [(hθ 10 13 s i (by omega)).2, (e2 10 13 s i (by omega)).2]; exact hr i hi) 7 0 1000 τ rfl (by decide) fr.rf (e2.c (fun _ _ _ q => by omega) hc) (fun u hu => by rw [(e2 14 31 i u (by omega)).1]; exact hI i (Nat.le_refl _) u hu) (fun u hu => e3 u hu)
    have F : fr (fun o kk i' _ => o = 14 ∧ kk = 31 ∧ i' = i + 1) σ ρ := e2.tr d2
    obtain ⟨θ, g1, g2, g3⟩ := ih (i + 1) f ρ (by omega) (by omega) d3 (fun j hj => by rw [(F 10 13 s j (by omega)).2]; exact hr j hj) (fun j hj u hu => by
      by_cases c : j = i + 1
      · subst c
        exact d4 u hu
      · rw [(F 14 31 j u (by omega)).1]
        exact hI j (by omega) u hu)
    refine ⟨θ, ?_, (F.mono fun o kk i' j q => ⟨q.1, q.2.1⟩).tr g2, g3⟩
    rw [lp_X3_follow_13_23.eq_2]
    unfold lb_X3_follow_13_23
    rw [if_neg (nf (n_le_f (by omega) (by omega))), z40, if_neg (nf (n_le_f (by omega) (by omega))), n_suc, n_in_t (show i + 1 < 41 by omega) (by omega), cond_true, n_cl (by omega), e1, Option.bind_some, if_neg (nf (n_le_f (by omega) (by omega)))]
    rw [← g1]
    exact d1
theorem c_follow (hk : pu_k A) (hn : n ≤ 40) (hst : st < 7) (hc : pu_c A 1 σ) (hr : ∀ j, j < 40 → σ.2 10 13 s j = r j) : ∃ τ, fn_X3_follow_13 1 s (nI n) (nI st) σ = some τ ∧ fr (fun o kk _ _ => o = 14 ∧ kk = 31) σ τ ∧ pu_c A 1 τ ∧ ∀ j, j ≤ n → ∀ u, u < 7 → τ.1 14 31 j u = nI (cN A r st j u) := by
  obtain ⟨τ, e1, e2, e3⟩ := c_fill31 (σ := σ) (show 0 < 41 by decide)
  have F : fr (fun o kk _ _ => o = 14 ∧ kk = 31) σ (am_u τ 14 31 0 st (nI 1)) := (e2.mono fun o kk i' j q => ⟨q.1, q.2.1⟩).tr (fr.u ⟨rfl, rfl⟩)
  obtain ⟨ρ, d1, d2, d3⟩ := c_fl23 (s := s) (r := r) (st := st) hk hn n 0 1000 (am_u τ 14 31 0 st (nI 1)) (by omega) (by omega) (F.c (fun _ _ _ q => by omega) hc) (fun j hj => by rw [(F 10 13 s j (by omega)).2]; exact hr j hj) (fun j hj u hu => by
    obtain rfl : j = 0 := by omega
    show _ = nI (if u = st then 1 else 0)
    by_cases c : u = st
    · subst c
      rw [u_at, if_pos rfl]
    · rw [u_ne (by omega), if_neg c]
      exact e3 u hu)
  refine ⟨ρ, ?_, F.tr d2, d2.c (fun _ _ _ q => by omega) (F.c (fun _ _ _ q => by omega) hc), d3⟩
  unfold fn_X3_follow_13
  rw [e1, Option.bind_some, n_in_t hst (by omega), cond_true, n_cl (by omega)]
  exact d1
/-- together, and a million at most -/
def tmC (F : Nat → Nat) (k : Nat) : Nat := if smN F k < 1000000 then smN F k else 1000000
theorem c_howMany (hk : k < 41) (hF : ∀ w, F w ≤ 1000000) (hr : ∀ u, u < 7 → σ.1 14 31 k u = nI (F u)) : ∀ (m v fuel : Nat), v + m = 7 → m < fuel → lp_X3_howMany_4 fuel (nI k) (nI (tmC F v)) (nI v) σ = some (nI (tmC F 7), σ) := by
  intro m
  induction m with
  | zero =>
    intro v fuel hs hf
    obtain ⟨f, rfl⟩ : ∃ f, fuel = f + 1 := ⟨fuel - 1, by omega⟩
    obtain rfl : v = 7 := by omega
    rw [lp_X3_howMany_4.eq_2]
    unfold lb_X3_howMany_4
    rw [if_pos (by decide)]
  | succ m ih =>
    intro v fuel hs hf
    obtain ⟨f, rfl⟩ : ∃ f, fuel = f + 1 := ⟨fuel - 1, by omega⟩
    have hv : v < 7 := by omega
    refine Eq.trans ?_ (ih (v + 1) f (by omega) (by omega))
    have h1 := hF v
    have h2 : tmC F v ≤ 1000000 := by unfold tmC; split <;> omega
    rw [lp_X3_howMany_4.eq_2]
    unfold lb_X3_howMany_4
    rw [if_neg (show ¬ (7 : Int32) ≤ nI v from nf (n_le_f (a := 7) (b := v) hv (by omega))), n_in_t hk (by omega), n_in_t hv (by omega), cond_true, cond_true, n_cl (by omega), n_cl (by omega), hr v hv, nI_add, z106, i_lt (by omega) (by omega), n_suc]
    have e : (if tmC F v + F v < 1000000 then nI (tmC F v + F v) else nI 1000000) = nI (tmC F (v + 1)) := by
      have es : smN F (v + 1) = smN F v + F v := rfl
      unfold tmC
      rw [es]
      by_cases c : smN F v < 1000000
      · rw [if_pos c]
        split <;> rfl
      · rw [if_neg c, if_neg (by omega), if_neg (by omega)]
    rw [e]
theorem c_come (hk : k < 41) (hF : ∀ w, F w ≤ 1000000) (hr : ∀ u, u < 7 → σ.1 14 31 k u = nI (F u)) : ∀ (m v fuel : Nat), v + m = 7 → m < fuel → lp_X3_comeTo_4 fuel (nI k) (nI (seN (fun u => decide (0 < F u)) v)) (nI v) σ = some (nI (seN (fun u => decide (0 < F u)) 7), σ) := by
  intro m
  induction m with
  | zero =>
    intro v fuel hs hf
    obtain ⟨f, rfl⟩ : ∃ f, fuel = f + 1 := ⟨fuel - 1, by omega⟩
    obtain rfl : v = 7 := by omega
    rw [lp_X3_comeTo_4.eq_2]
    unfold lb_X3_comeTo_4
    rw [if_pos (by decide)]
  | succ m ih =>
    intro v fuel hs hf
    obtain ⟨f, rfl⟩ : ∃ f, fuel = f + 1 := ⟨fuel - 1, by omega⟩
    have hv : v < 7 := by omega
    refine Eq.trans ?_ (ih (v + 1) f (by omega) (by omega))
    have h1 := hF v
    have h2 := (se_ok (P := fun u => decide (0 < F u)) v (by omega)).1
    have e : seN (fun u => decide (0 < F u)) (v + 1) = if decide (0 < F v) = true then stN (seN (fun u => decide (0 < F u)) v) v else seN (fun u => decide (0 < F u)) v := rfl
    rw [lp_X3_comeTo_4.eq_2]
    unfold lb_X3_comeTo_4 jn_X3_comeTo_27
    rw [if_neg (show ¬ (7 : Int32) ≤ nI v from nf (n_le_f (a := 7) (b := v) hv (by omega))), n_in_t hk (by omega), n_in_t hv (by omega), cond_true, cond_true, n_cl (by omega), n_cl (by omega), hr v hv, b_st h2 hv, z0, i_le (by omega) (by omega), n_suc, e]
    by_cases c : 0 < F v
    · rw [if_neg (by omega), if_pos (decide_eq_true c)]
    · rw [if_pos (by omega), if_neg (by rw [decide_eq_false c]; decide)]
theorem c_comeTo (hk : k < 41) (hF : ∀ w, F w ≤ 1000000) (hr : ∀ u, u < 7 → σ.1 14 31 k u = nI (F u)) : fn_X3_comeTo (nI k) σ = some (nI (seN (fun u => decide (0 < F u)) 7), σ) := c_come hk hF hr 7 0 1000 rfl (by decide)
/-- the first stamp behind which there is nobody -/
def fgN (C : Nat → Nat → Nat) : Nat → Nat → Option Nat
  | 0, _ => none
  | m + 1, i => if seN (fun u => decide (0 < C (i + 1) u)) 7 = 0 then some i else fgN C m (i + 1)
theorem c_forged {C : Nat → Nat → Nat} (hn : n ≤ 40) (hF : ∀ j w, C j w ≤ 1000000) (hr : ∀ j, j ≤ n → ∀ u, u < 7 → σ.1 14 31 j u = nI (C j u)) : ∀ (m i fuel : Nat), i + m = n → m < fuel → lp_X3_forged_2 fuel (nI n) (nI i) σ = some (oI (fgN C m i), σ) := by
  intro m
  induction m with
  | zero =>
    intro i fuel hs hf
    obtain ⟨f, rfl⟩ : ∃ f, fuel = f + 1 := ⟨fuel - 1, by omega⟩
    rw [lp_X3_forged_2.eq_2]
    unfold lb_X3_forged_2
    rw [if_pos (pt (n_le_t (by omega) (by omega)))]
    rfl
  | succ m ih =>
    intro i fuel hs hf
    obtain ⟨f, rfl⟩ : ∃ f, fuel = f + 1 := ⟨fuel - 1, by omega⟩
    have h2 := (se_ok (P := fun u => decide (0 < C (i + 1) u)) 7 (Nat.le_refl _)).1
    rw [lp_X3_forged_2.eq_2]
    unfold lb_X3_forged_2
    rw [if_neg (nf (n_le_f (by omega) (by omega))), n_suc, c_comeTo (by omega) (hF (i + 1)) (hr (i + 1) (by omega)), Option.bind_some]
    dsimp only
    rw [z0, i_eq (by omega) (by omega)]
    show _ = some (oI (if seN (fun u => decide (0 < C (i + 1) u)) 7 = 0 then some i else fgN C m (i + 1)), σ)
    by_cases c : seN (fun u => decide (0 < C (i + 1) u)) 7 = 0
    · rw [if_pos c, if_pos c]
      rfl
    · rw [if_neg c, if_neg c]
      exact ih (i + 1) f (by omega) (by omega)
theorem c_la13 {K : Nat → Int32 → Int32 → Int32 → am_S → Option (Int32 × am_S)} {g y : Nat} (hk : pu_k A) (hc : pu_c A 1 σ) (hg : g < 128) (hy : y < 128) (hv : v < 7) : ∀ (m s fuel : Nat), s + m = 5 → m < fuel → lp_X3_leadingInto_13 K fuel 1 (nI g) (nI (if laN A g v s = true then stN y v else y)) (nI v) (nI s) σ = K 1 (nI g) (nI (if laN A g v 5 = true then stN y v else y)) (nI (v + 1)) σ := by
  intro m
  induction m with
  | zero =>
    intro s fuel hs hf
    obtain ⟨f, rfl⟩ : ∃ f, fuel = f + 1 := ⟨fuel - 1, by omega⟩
    obtain rfl : s = 5 := by omega
    rw [lp_X3_leadingInto_13.eq_2]
    unfold lb_X3_leadingInto_13
    rw [if_pos (by decide), n_suc]
  | succ m ih =>
    intro s fuel hs hf
    obtain ⟨f, rfl⟩ : ∃ f, fuel = f + 1 := ⟨fuel - 1, by omega⟩
    have hs5 : s < 5 := by omega
    refine Eq.trans ?_ (ih (s + 1) f (by omega) (by omega))
    have e : laN A g v (s + 1) = (laN A g v s || (match eoN A v s with
      | none => false
      | some u => btN g u)) := rfl
    rw [lp_X3_leadingInto_13.eq_2]
    unfold lb_X3_leadingInto_13 jn_X3_leadingInto_49
    rw [z5, if_neg (nf (n_le_f (by omega) (by omega))), c_endOf hc hk hv hs5, Option.bind_some]
    dsimp only
    rw [n_suc]
    cases eo : eoN A v s with
    | none =>
      rw [eo] at e
      have e2 : laN A g v (s + 1) = (laN A g v s || false) := e
      rw [if_pos (show oI none = (-1 : Int32) from rfl), e2, Bool.or_false]
    | some u =>
      have hu := eo_lt hk eo
      rw [eo] at e
      have e2 : laN A g v (s + 1) = (laN A g v s || btN g u) := e
      have hst := (cl_le hy hv).2.1
      have hx : (if laN A g v s = true then stN y v else y) < 128 := by split <;> omega
      rw [if_neg (show ¬ oI (some u) = (-1 : Int32) from oI_m (by omega)), show oI (some u) = nI u from rfl, i_band hg hu]
      cases hb : btN g u
      · rw [hb] at e2
        rw [if_pos rfl, e2, Bool.or_false]
      · rw [hb] at e2
        rw [if_neg (by decide), b_st hx hv, e2, Bool.or_true, if_pos rfl]
        cases hl : laN A g v s
        · rw [if_neg (by decide)]
        · rw [if_pos rfl, st_st hy hv]
theorem c_lead {g : Nat} (hk : pu_k A) (hc : pu_c A 1 σ) (hg : g < 128) : ∀ (m v fuel : Nat), v + m = 7 → m < fuel → lp_X3_leadingInto_4 fuel 1 (nI g) (nI (seN (fun v => laN A g v 5) v)) (nI v) σ = some (nI (seN (fun v => laN A g v 5) 7), σ) := by
  intro m
  induction m with
  | zero =>
    intro v fuel hs hf
    obtain ⟨f, rfl⟩ : ∃ f, fuel = f + 1 := ⟨fuel - 1, by omega⟩
    obtain rfl : v = 7 := by omega
    rw [lp_X3_leadingInto_4.eq_2]
    unfold lb_X3_leadingInto_4
    rw [if_pos (by decide)]
  | succ m ih =>
    intro v fuel hs hf
    obtain ⟨f, rfl⟩ : ∃ f, fuel = f + 1 := ⟨fuel - 1, by omega⟩
    have hv : v < 7 := by omega
    refine Eq.trans ?_ (ih (v + 1) f (by omega) (by omega))
    have e := c_la13 (K := lp_X3_leadingInto_4 f) hk hc hg (se_ok (P := fun v => laN A g v 5) v (by omega)).1 hv 5 0 1000 rfl (by decide)
    rw [lp_X3_leadingInto_4.eq_2]
    unfold lb_X3_leadingInto_4
    rw [if_neg (show ¬ (7 : Int32) ≤ nI v from nf (n_le_f (a := 7) (b := v) hv (by omega)))]
    exact e
/-- where one may be behind i stamps -/
def mbN (A : pu_L) (r : Nat → Int64) (st n i : Nat) : Nat := seN (fun v => decide (0 < cN A r st i v) && gM A r n (n - i) v) 7
theorem mb_n : mbN A r st n n = seN (fun v => decide (0 < cN A r st n v)) 7 := by
  unfold mbN
  rw [Nat.sub_self]
  exact se_congr 7 (fun i _ => Bool.and_true _)
theorem mb_step (hi : i + 1 ≤ n) (hk : pu_k A) : seN (fun v => btN (seN (fun u => decide (0 < cN A r st i u)) 7) v && btN (seN (fun v => laN A (mbN A r st n (i + 1)) v 5) 7) v) 7 = mbN A r st n i := by
  refine se_congr 7 (fun v hv => ?_)
  rw [se_7 hv, se_7 hv]
  by_cases c : 0 < cN A r st i v
  · rw [decide_eq_true c, Bool.true_and, Bool.true_and]
    have e : gM A r n (n - i) v = gaN A (r i) (gM A r n (n - (i + 1))) v 5 := by
      rw [show n - i = (n - (i + 1)) + 1 by omega]
      show gaN A (r (n - (n - (i + 1) + 1))) (gM A r n (n - (i + 1))) v 5 = _
      rw [show n - (n - (i + 1) + 1) = i by omega]
    rw [e, Bool.eq_iff_iff, la_iff, ga_iff]
    constructor
    · rintro ⟨t, ht, u, e1, e2⟩
      have hu := eo_lt hk e1
      have e3 : btN (mbN A r st n (i + 1)) u = (decide (0 < cN A r st (i + 1) u) && gM A r n (n - (i + 1)) u) := se_7 hu
      rw [e3, Bool.and_eq_true, decide_eq_true_eq] at e2
      obtain ⟨v', -, t', -, -, e4, -⟩ := (cN_pos i u).mp e2.1
      exact ⟨t, ht, u, e1, e4, e2.2⟩
    · rintro ⟨t, ht, u, e1, e2, e3⟩
      have hu := eo_lt hk e1
      refine ⟨t, ht, u, e1, ?_⟩
      have e4 : btN (mbN A r st n (i + 1)) u = (decide (0 < cN A r st (i + 1) u) && gM A r n (n - (i + 1)) u) := se_7 hu
      rw [e4, Bool.and_eq_true, decide_eq_true_eq]
      exact ⟨(cN_pos i u).mpr ⟨v, hv, t, ht, e1, e2, c⟩, e3⟩
  · rw [decide_eq_false c, Bool.false_and, Bool.false_and]
/-- a stamp that is not told, and yet sure -/
def suP (A : pu_L) (r : Nat → Int64) (st n k : Nat) : Nat := if (r k).toInt = -1 ∧ pcN (mbN A r st n (k + 1)) = 1 then 1 else 0
theorem su_le (k : Nat) : smN (suP A r st n) k ≤ k := by
  have := smN_le (f := suP A r st n) (B := 1) k (fun i _ => by unfold suP; split <;> omega)
  omega
theorem c_sure (hk : pu_k A) (hn : n ≤ 40) (hc : pu_c A 1 σ) (hel : ∀ j, j < 40 → σ.2 10 13 s j = r j) (hr : ∀ j, j ≤ n → ∀ u, u < 7 → σ.1 14 31 j u = nI (cN A r st j u)) : ∀ (i c fuel : Nat), i ≤ n → i < fuel → c + smN (suP A r st n) i = smN (suP A r st n) n → lp_X3_howManySure_13_13 fuel 1 s (nI c) (nI (mbN A r st n i)) (nI i) σ = some (nI (smN (suP A r st n) n), σ) := by
  intro i
  induction i with
  | zero =>
    intro c fuel hi hf hs
    obtain ⟨f, rfl⟩ : ∃ f, fuel = f + 1 := ⟨fuel - 1, by omega⟩
    rw [lp_X3_howManySure_13_13.eq_2]
    unfold lb_X3_howManySure_13_13
    rw [if_pos (by decide), ← hs]
    rfl
  | succ i ih =>
    intro c fuel hi hf hs
    obtain ⟨f, rfl⟩ : ∃ f, fuel = f + 1 := ⟨fuel - 1, by omega⟩
    have hmb : mbN A r st n (i + 1) < 128 := (se_ok 7 (Nat.le_refl _)).1
    have es : smN (suP A r st n) (i + 1) = smN (suP A r st n) i + suP A r st n i := rfl
    have e1 : nI (i + 1) - 1 = nI i := by rw [z1, n_sub (by omega), Nat.add_sub_cancel]
    have e2 : nI (i + 1) + -1 = nI i := by rw [pI_pre]; rfl
    rw [lp_X3_howManySure_13_13.eq_2]
    unfold lb_X3_howManySure_13_13 jn_X3_howManySure_13_43
    have hcm : fn_X3_comeTo (nI i) σ = some (nI (seN (fun u => decide (0 < cN A r st i u)) 7), σ) := c_comeTo (by omega) (cN_le i) (hr i (by omega))
    have hld : fn_X3_leadingInto 1 (nI (mbN A r st n (i + 1))) σ = some (nI (seN (fun v => laN A (mbN A r st n (i + 1)) v 5) 7), σ) := c_lead hk hc hmb 7 0 1000 rfl (by decide)
    have han := b_an (se_ok (P := fun u => decide (0 < cN A r st i u)) 7 (Nat.le_refl _)).1 (se_ok (P := fun v => laN A (mbN A r st n (i + 1)) v 5) 7 (Nat.le_refl _)).1
    rw [mb_step hi hk] at han
    rw [if_neg (show ¬ nI (i + 1) ≤ (0 : Int32) from nf (n_le_f (b := 0) (by omega) (by omega))), e1, e2, n_in_t (show i < 40 by omega) (by omega), cond_true, n_cl (by omega), hel i (by omega), i_lgeq, l_m1, c_bits hmb, Option.bind_some]
    dsimp only
    rw [hcm]
    simp only [Option.bind_some]
    rw [hld]
    simp only [Option.bind_some]
    have hpc := (cl_le hmb (show 0 < 7 by decide)).2.2
    rw [han, n_suc, z1, i_eq (by omega) (by omega)]
    by_cases q1 : (r i).toInt = -1
    · rw [if_pos q1]
      by_cases q2 : pcN (mbN A r st n (i + 1)) = 1
      · have eu : suP A r st n i = 1 := if_pos ⟨q1, q2⟩
        rw [if_pos q2]
        exact ih (c + 1) f (by omega) (by omega) (by omega)
      · have eu : suP A r st n i = 0 := if_neg (fun z => q2 z.2)
        rw [if_neg q2]
        exact ih c f (by omega) (by omega) (by omega)
    · have eu : suP A r st n i = 0 := if_neg (fun z => q1 z.1)
      rw [if_neg q1]
      exact ih c f (by omega) (by omega) (by omega)
end PJC
