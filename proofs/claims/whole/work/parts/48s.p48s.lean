/-! ===== the draft: numbers and words ===== -/
/-- a number from lo up, below B; the place behind it -/
def rdN (b : Nat → Nat) (n e lo B : Nat) : Option (Nat × Nat) := if kdN b n (skN b n e) = 2 ∧ enN b n (skN b n e) - skN b n e ≤ 3 ∧ lo ≤ nmN b (skN b n e) (enN b n (skN b n e) - skN b n e) ∧ nmN b (skN b n e) (enN b n (skN b n e) - skN b n e) < B then some (nmN b (skN b n e) (enN b n (skN b n e) - skN b n e), enN b n (skN b n e)) else none
def soB (A : pu_L) (s : Nat) : Nat := if s = 1 then 10 else if s = 2 then 13 else if s = 3 then 21 else if s = 4 then 6 else if s = 5 then 10 else if s = 6 then 1000 else if s = 7 then lne A else 7
theorem i_ltB {α : Type} {B v : Nat} {x y : α} (hB : B < 1073741824) (hv : v < 1073741824) : (if nI B - nI 1 < nI v then x else y) = if v < B then y else x := by
  have h : (nI B - nI 1 < nI v) = ¬ (v < B) := by
    rw [Int32.lt_iff_toInt_lt, Int32.toInt_sub, n_ti (by omega), n_ti (by omega), n_ti (by omega)]
    show (((B : Int) - (1 : Int)).bmod 4294967296 < (v : Int)) = _
    rw [Int.bmod_eq_of_le (by omega) (by omega)]
    apply propext
    omega
  by_cases c : v < B
  · rw [if_pos c, if_neg (by rw [h]; exact fun q => q c)]
  · rw [if_neg c, if_pos (by rw [h]; exact c)]
section PNU
variable {A : pu_L} {b : Nat → Nat} {n e i k s lo B : Nat} {σ τ : am_S}
theorem rd_le (he : e ≤ n) {v e' : Nat} (h : rdN b n e lo B = some (v, e')) : lo ≤ v ∧ v < B ∧ e < e' ∧ e' ≤ n := by
  unfold rdN at h
  by_cases c : kdN b n (skN b n e) = 2 ∧ enN b n (skN b n e) - skN b n e ≤ 3 ∧ lo ≤ nmN b (skN b n e) (enN b n (skN b n e) - skN b n e) ∧ nmN b (skN b n e) (enN b n (skN b n e) - skN b n e) < B
  · rw [if_pos c] at h
    cases h
    have hs := sk_le (b := b) he
    have hg := en_gt (b := b) (kd_lt (b := b) hs.2 (by omega))
    omega
  · rw [if_neg c] at h
    cases h
theorem c_most (hA : pu_c A 3 σ) (hs : s < 9) : fn_X4_mostOf (nI s) σ = some (nI (soB A s) - nI 1, σ) := by
  unfold fn_X4_mostOf
  rw [hA.ne]
  rcases (show s = 0 ∨ s = 1 ∨ s = 2 ∨ s = 3 ∨ s = 4 ∨ s = 5 ∨ s = 6 ∨ s = 7 ∨ s = 8 by omega) with rfl | rfl | rfl | rfl | rfl | rfl | rfl | rfl | rfl
  · rw [if_neg (show ¬ nI 0 = (1 : Int32) by decide), if_neg (show ¬ nI 0 = (2 : Int32) by decide), if_neg (show ¬ nI 0 = (3 : Int32) by decide), if_neg (show ¬ nI 0 = (4 : Int32) by decide), if_neg (show ¬ nI 0 = (5 : Int32) by decide), if_neg (show ¬ nI 0 = (6 : Int32) by decide), if_neg (show ¬ nI 0 = (7 : Int32) by decide)]
    exact congrArg (fun z => some (z, σ)) (by decide : (6 : Int32) = nI 7 - nI 1)
  · rw [if_pos (show nI 1 = (1 : Int32) from rfl)]
    exact congrArg (fun z => some (z, σ)) (by decide : (9 : Int32) = nI 10 - nI 1)
  · rw [if_neg (show ¬ nI 2 = (1 : Int32) by decide), if_pos (show nI 2 = (2 : Int32) from rfl)]
    exact congrArg (fun z => some (z, σ)) (by decide : (12 : Int32) = nI 13 - nI 1)
  · rw [if_neg (show ¬ nI 3 = (1 : Int32) by decide), if_neg (show ¬ nI 3 = (2 : Int32) by decide), if_pos (show nI 3 = (3 : Int32) from rfl)]
    exact congrArg (fun z => some (z, σ)) (by decide : (20 : Int32) = nI 21 - nI 1)
  · rw [if_neg (show ¬ nI 4 = (1 : Int32) by decide), if_neg (show ¬ nI 4 = (2 : Int32) by decide), if_neg (show ¬ nI 4 = (3 : Int32) by decide), if_pos (show nI 4 = (4 : Int32) from rfl)]
    exact congrArg (fun z => some (z, σ)) (by decide : (5 : Int32) = nI 6 - nI 1)
  · rw [if_neg (show ¬ nI 5 = (1 : Int32) by decide), if_neg (show ¬ nI 5 = (2 : Int32) by decide), if_neg (show ¬ nI 5 = (3 : Int32) by decide), if_neg (show ¬ nI 5 = (4 : Int32) by decide), if_pos (show nI 5 = (5 : Int32) from rfl)]
    exact congrArg (fun z => some (z, σ)) (by decide : (9 : Int32) = nI 10 - nI 1)
  · rw [if_neg (show ¬ nI 6 = (1 : Int32) by decide), if_neg (show ¬ nI 6 = (2 : Int32) by decide), if_neg (show ¬ nI 6 = (3 : Int32) by decide), if_neg (show ¬ nI 6 = (4 : Int32) by decide), if_neg (show ¬ nI 6 = (5 : Int32) by decide), if_pos (show nI 6 = (6 : Int32) from rfl)]
    exact congrArg (fun z => some (z, σ)) (by decide : (999 : Int32) = nI 1000 - nI 1)
  · rw [if_neg (show ¬ nI 7 = (1 : Int32) by decide), if_neg (show ¬ nI 7 = (2 : Int32) by decide), if_neg (show ¬ nI 7 = (3 : Int32) by decide), if_neg (show ¬ nI 7 = (4 : Int32) by decide), if_neg (show ¬ nI 7 = (5 : Int32) by decide), if_neg (show ¬ nI 7 = (6 : Int32) by decide), if_pos (show nI 7 = (7 : Int32) from rfl)]
    rfl
  · rw [if_neg (show ¬ nI 8 = (1 : Int32) by decide), if_neg (show ¬ nI 8 = (2 : Int32) by decide), if_neg (show ¬ nI 8 = (3 : Int32) by decide), if_neg (show ¬ nI 8 = (4 : Int32) by decide), if_neg (show ¬ nI 8 = (5 : Int32) by decide), if_neg (show ¬ nI 8 = (6 : Int32) by decide), if_neg (show ¬ nI 8 = (7 : Int32) by decide)]
    exact congrArg (fun z => some (z, σ)) (by decide : (6 : Int32) = nI 7 - nI 1)
theorem c_tnum (hn : n ≤ 250) (hc : tcC b n σ) (hb : ∀ i, i < n → b i < 256) {z : Nat} (hz : s + z ≤ n) (hz3 : z ≤ 3) (hd : ∀ j, s ≤ j → j < s + z → clsN (b j) = 2) (h6 : σ.1 11 14 0 6 = nI (s + z)) : ∀ (m l fuel : Nat), l + m = z → m < fuel → lp_X4_tokenNumber_7 fuel (nI (nmN b s l)) (nI (s + l)) σ = some (nI (nmN b s z), σ) := by
  intro m
  induction m with
  | zero =>
    intro l fuel hl hf
    obtain ⟨f, rfl⟩ : ∃ f, fuel = f + 1 := ⟨fuel - 1, by omega⟩
    obtain rfl : l = z := by omega
    rw [lp_X4_tokenNumber_7.eq_2]
    unfold lb_X4_tokenNumber_7
    rw [h6, if_pos (pt (n_le_t (by omega) (by omega)))]
  | succ m ih =>
    intro l fuel hl hf
    obtain ⟨f, rfl⟩ : ∃ f, fuel = f + 1 := ⟨fuel - 1, by omega⟩
    refine Eq.trans ?_ (ih (l + 1) f (by omega) (by omega))
    have hx : nmN b s l < 1000 := by
      have h1 := nm_lt (b := b) (s := s) (l := l) (fun j hj => (cls_2 (hd (s + j) (by omega) (by omega))).2)
      have h2 : 10 ^ l ≤ 10 ^ 3 := Nat.pow_le_pow_right (by decide) (by omega)
      omega
    have hbk := cls_2 (hd (s + l) (by omega) (by omega))
    have e : nmN b s (l + 1) = nmN b s l * 10 + (b (s + l) - 48) := rfl
    rw [lp_X4_tokenNumber_7.eq_2]
    unfold lb_X4_tokenNumber_7
    rw [h6, if_neg (nf (n_le_f (by omega) (by omega))), n_in_t (show s + l < 250 by omega) (by omega), cond_true, n_cl (by omega), hc.2 (s + l) (by omega), z10, n_mul, nI_add, show (48 : Int32) = nI 48 from rfl, n_sub (by omega), n_suc, e, show nmN b s l * 10 + b (s + l) - 48 = nmN b s l * 10 + (b (s + l) - 48) by omega]
    rfl
def FN (I : Nat) : Nat → Nat → Nat → Nat → Prop := fun o k i j => (o = 11 ∧ k = 14 ∧ i = 0 ∧ (j = 4 ∨ j = 5 ∨ j = 6)) ∨ (o = 11 ∧ k = 16 ∧ i = 0 ∧ j = I)
theorem c_num0 (hn : n ≤ 250) (hc : tcC b n σ) (hb : ∀ i, i < n → b i < 256) (he : e ≤ n) (h6 : σ.1 11 14 0 6 = nI e) {a1 a2 : Int32} (h1 : a1 = nI i) (hi : i < 4) : ∃ τ, fr (FN i) σ τ ∧ τ.1 11 14 0 5 = nI (skN b n e) ∧ τ.1 11 14 0 6 = nI (enN b n (skN b n e)) ∧
    ((¬ (kdN b n (skN b n e) = 2 ∧ enN b n (skN b n e) - skN b n e ≤ 3) ∧ fn_X4_readNumber a1 a2 σ = some (0, τ)) ∨ ((kdN b n (skN b n e) = 2 ∧ enN b n (skN b n e) - skN b n e ≤ 3) ∧ nmN b (skN b n e) (enN b n (skN b n e) - skN b n e) < 1000 ∧ τ.1 11 16 0 i = nI (nmN b (skN b n e) (enN b n (skN b n e) - skN b n e)) ∧ fn_X4_readNumber a1 a2 σ = if a2 = 2 then jn_X4_readNumber_49 a2 (nI (nmN b (skN b n e) (enN b n (skN b n e) - skN b n e))) 1 τ else jn_X4_readNumber_49 a2 (nI (nmN b (skN b n e) (enN b n (skN b n e) - skN b n e))) 0 τ)) := by
  obtain ⟨τ, e1, e2, e3, e4, e5⟩ := c_next hn hc hb he h6
  have hs := sk_le (b := b) he
  have hen := en_le (b := b) hs.2
  have hkd := kd_le (b := b) (n := n) (i := skN b n e)
  subst h1
  unfold fn_X4_readNumber
  rw [e1, Option.bind_some, e3, e4, e5, z2, i_eq (by omega) (by omega), n_sub hen.1, z3, i_le (by omega) (by omega)]
  by_cases c1 : kdN b n (skN b n e) = 2
  · by_cases c2 : enN b n (skN b n e) - skN b n e ≤ 3
    · have hlt := kd_lt (b := b) hs.2 (by omega)
      have hcl : clsN (b (skN b n e)) = 2 := by rw [← kd_i hlt]; exact c1
      have hdig : ∀ j, skN b n e ≤ j → j < skN b n e + (enN b n (skN b n e) - skN b n e) → clsN (b j) = 2 := fun j h1 h2 => en_dig hlt hcl h1 (by omega)
      have f1 : fr (FN i) σ (am_u τ 11 16 0 i (nI (nmN b (skN b n e) (enN b n (skN b n e) - skN b n e)))) := (e2.mono fun o k i j q => Or.inl q).tr (fr.u (Or.inr ⟨rfl, rfl, rfl, rfl⟩))
      have hcτ : tcC b n τ := hc.fr e2 (fun _ _ _ q => by unfold FC at q; omega)
      have ht := c_tnum (s := skN b n e) (z := enN b n (skN b n e) - skN b n e) hn hcτ hb (by omega) c2 hdig (by rw [e5]; congr 1; omega) (enN b n (skN b n e) - skN b n e) 0 1000 (by omega) (by omega)
      have ht : fn_X4_tokenNumber τ = some (nI (nmN b (skN b n e) (enN b n (skN b n e) - skN b n e)), τ) := by
        unfold fn_X4_tokenNumber
        rw [e4]
        exact ht
      have hx : nmN b (skN b n e) (enN b n (skN b n e) - skN b n e) < 1000 := by
        have h1 := nm_lt (b := b) (s := skN b n e) (l := enN b n (skN b n e) - skN b n e) (fun j hj => (cls_2 (hdig (skN b n e + j) (by omega) (by omega))).2)
        have h2 : 10 ^ (enN b n (skN b n e) - skN b n e) ≤ 10 ^ 3 := Nat.pow_le_pow_right (by decide) c2
        omega
      refine ⟨am_u τ 11 16 0 i (nI (nmN b (skN b n e) (enN b n (skN b n e) - skN b n e))), f1, ?_, ?_, Or.inr ⟨⟨c1, c2⟩, hx, u_at, ?_⟩⟩
      · rw [u_ne (by omega)]; exact e4
      · rw [u_ne (by omega)]; exact e5
      · rw [if_pos c1, if_pos c2, ht, Option.bind_some]
        dsimp only
        rw [n_in_t hi (by omega), cond_true, n_cl (by omega)]
    · refine ⟨τ, e2.mono fun o k i j q => Or.inl q, e4, e5, Or.inl ⟨fun q => c2 q.2, ?_⟩⟩
      rw [if_pos c1, if_neg c2]
  · refine ⟨τ, e2.mono fun o k i j q => Or.inl q, e4, e5, Or.inl ⟨fun q => c1 q.1, ?_⟩⟩
    rw [if_neg c1]
theorem c_72 {v y : Nat} {y0 : Int32} (hA : pu_c A 3 σ) (hs : s < 9) (hB : soB A s ≤ 1000) (hv : v < 1000) (hy : y ≤ 1) : jn_X4_readNumber_72 (nI s) (nI v) (nI y) y0 σ = if y ≤ v ∧ v < soB A s then (if y0 = 0 then some (1, σ) else some (0, σ)) else some (0, σ) := by
  unfold jn_X4_readNumber_72
  rw [i_lt (by omega) (by omega), c_most hA hs, Option.bind_some]
  dsimp only
  rw [i_ltB (by omega) (by omega)]
  by_cases c : v < y
  · rw [if_pos c, if_neg (by omega)]
  · rw [if_neg c]
    by_cases d : v < soB A s
    · rw [if_pos d, if_pos (show y ≤ v ∧ v < soB A s by omega)]
    · rw [if_neg d, if_neg (by omega)]
theorem so_le (hk : pu_k A) : soB A s ≤ 1000 := by
  have := hk.2.1
  unfold soB
  repeat' split
  all_goals omega
/-- the class reads a number -/
theorem c_num (hn : n ≤ 250) (hc : tcC b n σ) (hb : ∀ i, i < n → b i < 256) (he : e ≤ n) (h6 : σ.1 11 14 0 6 = nI e) (hk : pu_k A) (hA : pu_c A 3 σ) {a1 a2 : Int32} (h1 : a1 = nI i) (h2 : a2 = nI s) (hi : i < 4) (hs : s < 8) (hlo : lo = if s = 2 then 1 else 0) (hB : B = soB A s) :
    (rdN b n e lo B = none ∧ ∃ τ, fn_X4_readNumber a1 a2 σ = some (0, τ) ∧ fr (FN i) σ τ ∧ τ.1 11 14 0 5 = nI (skN b n e)) ∨ ∃ v e' τ, rdN b n e lo B = some (v, e') ∧ fn_X4_readNumber a1 a2 σ = some (1, τ) ∧ fr (FN i) σ τ ∧ τ.1 11 16 0 i = nI v ∧ τ.1 11 14 0 6 = nI e' := by
  obtain ⟨τ, f1, f2, f3, f4⟩ := c_num0 (a2 := a2) hn hc hb he h6 h1 hi
  have hAτ : pu_c A 3 τ := f1.c (fun _ _ _ q => by unfold FN at q; omega) hA
  unfold rdN
  rcases f4 with ⟨g1, g2⟩ | ⟨g1, g2, g3, g4⟩
  · exact Or.inl ⟨if_neg (fun q => g1 ⟨q.1, q.2.1⟩), τ, g2, f1, f2⟩
  · generalize nmN b (skN b n e) (enN b n (skN b n e) - skN b n e) = v at g2 g3 g4 ⊢
    have g5 : fn_X4_readNumber a1 a2 σ = if lo ≤ v ∧ v < B then some (1, τ) else some (0, τ) := by
      rw [g4, h2, hlo, hB]
      unfold jn_X4_readNumber_49 jn_X4_readNumber_71
      rw [if_neg (show ¬ nI s = (8 : Int32) from nf (n_eq_f (b := 8) (by omega) (by omega) (by decide)))]
      by_cases c2 : s = 2
      · rw [if_pos (show nI s = (2 : Int32) by rw [c2]; rfl), if_pos c2]
        have e := c_72 (y := 1) (y0 := 0) hAτ (show s < 9 by omega) (so_le hk) g2 (by decide)
        rw [if_pos (show (0 : Int32) = 0 from rfl)] at e
        exact e
      · rw [if_neg (show ¬ nI s = (2 : Int32) from nf (n_eq_f (b := 2) c2 (by omega) (by decide))), if_neg (show ¬ nI s = (8 : Int32) from nf (n_eq_f (b := 8) (by omega) (by omega) (by decide))), if_neg c2]
        have e := c_72 (y := 0) (y0 := 0) hAτ (show s < 9 by omega) (so_le hk) g2 (by decide)
        rw [if_pos (show (0 : Int32) = 0 from rfl)] at e
        exact e
    by_cases c : lo ≤ v ∧ v < B
    · rw [if_pos c] at g5
      exact Or.inr ⟨v, _, τ, if_pos ⟨g1.1, g1.2, c⟩, g5, f1, g3, f3⟩
    · rw [if_neg c] at g5
      exact Or.inl ⟨if_neg (fun q => c q.2.2), τ, g5, f1, f2⟩
/-- the second valley of a pass -/
theorem c_num8 (hn : n ≤ 250) (hc : tcC b n σ) (hb : ∀ i, i < n → b i < 256) (he : e ≤ n) (h6 : σ.1 11 14 0 6 = nI e) (hk : pu_k A) (hA : pu_c A 3 σ) {a1 a2 : Int32} (h1 : a1 = nI 1) (h2 : a2 = nI 8) {v0 : Nat} (hv0 : v0 < 7) (h0 : σ.1 11 16 0 0 = nI v0) :
    ((rdN b n e 0 7 = none ∨ ∃ e', rdN b n e 0 7 = some (v0, e')) ∧ ∃ τ, fn_X4_readNumber a1 a2 σ = some (0, τ) ∧ fr (FN 1) σ τ ∧ τ.1 11 14 0 5 = nI (skN b n e)) ∨ ∃ v e' τ, rdN b n e 0 7 = some (v, e') ∧ v ≠ v0 ∧ fn_X4_readNumber a1 a2 σ = some (1, τ) ∧ fr (FN 1) σ τ ∧ τ.1 11 16 0 1 = nI v ∧ τ.1 11 14 0 6 = nI e' := by
  obtain ⟨τ, f1, f2, f3, f4⟩ := c_num0 (a2 := a2) hn hc hb he h6 h1 (by decide)
  have hAτ : pu_c A 3 τ := f1.c (fun _ _ _ q => by unfold FN at q; omega) hA
  have h0τ : τ.1 11 16 0 0 = nI v0 := by rw [(f1 11 16 0 0 (by unfold FN; omega)).1]; exact h0
  unfold rdN
  rcases f4 with ⟨g1, g2⟩ | ⟨g1, g2, g3, g4⟩
  · exact Or.inl ⟨Or.inl (if_neg (fun q => g1 ⟨q.1, q.2.1⟩)), τ, g2, f1, f2⟩
  · generalize nmN b (skN b n e) (enN b n (skN b n e) - skN b n e) = v at g2 g3 g4 ⊢
    have g5 : fn_X4_readNumber a1 a2 σ = if v < 7 ∧ v ≠ v0 then some (1, τ) else some (0, τ) := by
      rw [g4, h2, if_neg (show ¬ nI 8 = (2 : Int32) by decide)]
      unfold jn_X4_readNumber_49 jn_X4_readNumber_71
      rw [if_pos (show nI 8 = (8 : Int32) from rfl), h0τ, i_eq (by omega) (by omega)]
      have hso : soB A 8 = 7 := rfl
      by_cases c : v = v0
      · rw [if_pos c, if_neg (fun q => q.2 c)]
        have e := c_72 (y := 0) (y0 := 1) hAτ (show 8 < 9 by omega) (so_le hk) g2 (by decide)
        rw [if_neg (show ¬ (1 : Int32) = 0 by decide), ite_self] at e
        exact e
      · rw [if_neg c]
        have e := c_72 (y := 0) (y0 := 0) hAτ (show 8 < 9 by omega) (so_le hk) g2 (by decide)
        rw [if_pos (show (0 : Int32) = 0 from rfl), hso] at e
        refine e.trans ?_
        by_cases d : v < 7
        · rw [if_pos ⟨Nat.zero_le _, d⟩, if_pos ⟨d, c⟩]
        · rw [if_neg (fun q => d q.2), if_neg (fun q => d q.1)]
    by_cases c : v < 7
    · have er : (if kdN b n (skN b n e) = 2 ∧ enN b n (skN b n e) - skN b n e ≤ 3 ∧ 0 ≤ v ∧ v < 7 then some (v, enN b n (skN b n e)) else none) = some (v, enN b n (skN b n e)) := if_pos ⟨g1.1, g1.2, Nat.zero_le _, c⟩
      by_cases d : v = v0
      · rw [if_neg (fun q => q.2 d)] at g5
        refine Or.inl ⟨Or.inr ⟨enN b n (skN b n e), ?_⟩, τ, g5, f1, f2⟩
        rw [er, d]
      · rw [if_pos ⟨c, d⟩] at g5
        exact Or.inr ⟨v, _, τ, er, d, g5, f1, g3, f3⟩
    · rw [if_neg (fun q => c q.1)] at g5
      exact Or.inl ⟨Or.inl (if_neg (fun q => c q.2.2.2)), τ, g5, f1, f2⟩
/-! the reference reads a number -/
def FR (I : Nat) : Nat → Nat → Nat → Nat → Prop := fun o k i j => (o = 5 ∧ k = 40 ∧ i = 0 ∧ 28 ≤ j ∧ j ≤ 31) ∨ (o = 5 ∧ k = 63 ∧ i = 0 ∧ j = I)
def FW : Nat → Nat → Nat → Nat → Prop := fun o k i j => o = 5 ∧ k = 40 ∧ i = 0 ∧ j = 32
theorem m_num (hn : n ≤ 250) (hc : tcM b n σ) (hb : ∀ i, i < n → b i < 256) (he : e ≤ n) (hr : rT b n σ e) {a1 a2 a3 : Int32} (h1 : a1 = nI i) (h2 : a2 = nI lo) (h3 : a3 = nI B - nI 1) (hi : i < 4) (hlo : lo ≤ 1) (hB : B ≤ 1000) :
    (rdN b n e lo B = none ∧ ∃ τ, fn_X8_number 5 a1 a2 a3 σ = some (0, τ) ∧ fr FW σ τ ∧ τ.1 5 40 0 32 = nI (skN b n e)) ∨ ∃ v e' τ, rdN b n e lo B = some (v, e') ∧ fn_X8_number 5 a1 a2 a3 σ = some (1, τ) ∧ fr (FR i) σ τ ∧ τ.1 5 63 0 i = nI v ∧ rT b n τ e' := by
  obtain ⟨r28, r29, r30, r31⟩ := hr
  have hs := sk_le (b := b) he
  have hen := en_le (b := b) hs.2
  have hkd := kd_le (b := b) (n := n) (i := skN b n e)
  subst h1; subst h2; subst h3
  have hw : jn_X8_number_23 5 σ = some (0, am_u σ 5 40 0 32 (nI (skN b n e))) := by
    unfold jn_X8_number_23 fn_X8_wrong
    rw [r30]
    rfl
  have hwr : ∃ τ, jn_X8_number_23 5 σ = some (0, τ) ∧ fr FW σ τ ∧ τ.1 5 40 0 32 = nI (skN b n e) := ⟨_, hw, fr.u ⟨rfl, rfl, rfl, rfl⟩, u_at⟩
  unfold fn_X8_number rdN
  rw [r29, z2, i_eq (by omega) (by omega)]
  by_cases c1 : kdN b n (skN b n e) = 2
  · have hlt := kd_lt (b := b) hs.2 (by omega)
    have hcl : clsN (b (skN b n e)) = 2 := by rw [← kd_i hlt]; exact c1
    have hfi : fiN b n (skN b n e) = fgF b (skN b n e) (enN b n (skN b n e) - skN b n e) := by
      unfold fiN
      rw [if_pos c1]
    have hBi : (nI B - nI 1).toInt = (B : Int) - 1 := by
      rw [Int32.toInt_sub, n_ti (by omega), n_ti (by omega)]
      show ((B : Int) - 1).bmod 4294967296 = _
      rw [Int.bmod_eq_of_le (by omega) (by omega)]
    have hf4 : fiN b n (skN b n e) ≤ 10000 := by
      rw [hfi]
      unfold fgF
      by_cases c : enN b n (skN b n e) - skN b n e ≤ 3
      · rw [if_pos c]
        have h1 := nm_lt (b := b) (s := skN b n e) (l := enN b n (skN b n e) - skN b n e) (fun j hj => (cls_2 (en_dig hlt hcl (show skN b n e ≤ skN b n e + j by omega) (by omega))).2)
        have h2 : 10 ^ (enN b n (skN b n e) - skN b n e) ≤ 10 ^ 3 := Nat.pow_le_pow_right (by decide) c
        omega
      · rw [if_neg c]
        omega
    rw [if_pos c1, r31, m_in64, Int32.toInt_toInt64, Int32.toInt_toInt64, Int32.toInt_toInt64, n_ti (by omega), n_ti (by omega), hBi, Option.bind_some]
    dsimp only
    by_cases c2 : enN b n (skN b n e) - skN b n e ≤ 3 ∧ lo ≤ nmN b (skN b n e) (enN b n (skN b n e) - skN b n e) ∧ nmN b (skN b n e) (enN b n (skN b n e) - skN b n e) < B
    · have hfv : fiN b n (skN b n e) = nmN b (skN b n e) (enN b n (skN b n e) - skN b n e) := by
        rw [hfi]
        unfold fgF
        rw [if_pos c2.1]
      rw [hfv, if_pos (show ((lo : Nat) : Int) ≤ ((nmN b (skN b n e) (enN b n (skN b n e) - skN b n e) : Nat) : Int) ∧ ((nmN b (skN b n e) (enN b n (skN b n e) - skN b n e) : Nat) : Int) ≤ (B : Int) - 1 by omega), if_neg (show ¬ (1 : Int32) = 0 by decide), n_in_t hi (by omega), cond_true, n_cl (by omega), if_pos ⟨c1, c2⟩]
      have r31v : σ.1 5 40 0 31 = nI (nmN b (skN b n e) (enN b n (skN b n e) - skN b n e)) := by rw [r31, hfv]
      generalize nmN b (skN b n e) (enN b n (skN b n e) - skN b n e) = v at c2 r31v ⊢
      have f1 : fr (FR i) σ (am_u σ 5 63 0 i (nI v)) := fr.u (Or.inr ⟨rfl, rfl, rfl, rfl⟩)
      obtain ⟨τ, d1, d2, d3⟩ := m_look (σ := am_u σ 5 63 0 i (nI v)) hn (hc.fr f1 (fun _ _ _ q => by unfold FR at q; omega)) hb hen.2 (by rw [u_ne (by omega)]; exact r28)
      refine Or.inr ⟨v, _, τ, rfl, ?_, f1.tr (d2.mono fun o k i j q => Or.inl q), ?_, d3⟩
      · rw [r31v, d1]
        rfl
      · rw [(d2 5 63 0 i (by unfold FM; omega)).1, u_at]
    · have hno : ¬ (((lo : Nat) : Int) ≤ ((fiN b n (skN b n e) : Nat) : Int) ∧ ((fiN b n (skN b n e) : Nat) : Int) ≤ (B : Int) - 1) := fun q => c2 (by
        rw [hfi] at q
        unfold fgF at q
        by_cases c : enN b n (skN b n e) - skN b n e ≤ 3
        · rw [if_pos c] at q
          exact ⟨c, by omega, by omega⟩
        · rw [if_neg c] at q
          omega)
      rw [if_neg hno, if_pos (show (0 : Int32) = 0 from rfl), if_neg (fun q => c2 q.2)]
      exact Or.inl ⟨rfl, hwr⟩
  · rw [if_neg c1, if_neg (fun q => c1 q.1)]
    exact Or.inl ⟨rfl, hwr⟩
/-! words -/
def wlN (w : Nat) : Nat := am_len.getD w 0
def wcN (w i : Nat) : Nat := ((am_byt.getD w []).getD i 0).toNatClampNeg
/-- the word w stands from s to e -/
def wdB (b : Nat → Nat) (w s e : Nat) : Bool := decide (e - s = wlN w ∧ ∀ i, i < wlN w → b (s + i) = wcN w i)
theorem c_len {w : Nat} (hw : w < 9) : fn_J0_length_8abf5_36 w σ = some (nI (wlN w), σ) := by
  have h : ∀ w, w < 9 → (Int32.ofNat (am_len.getD w 0)) >>> ((0 : Int32) &&& 31) = nI (wlN w) := by decide
  unfold fn_J0_length_8abf5_36 fn_J0_coder_7d493_36
  rw [if_pos (by rfl), Option.bind_some]
  exact congrArg (fun z => some (z, σ)) (h w hw)
theorem c_ch0_0 : fn_J0_charAt_5068e_36 0 (nI 0) σ = some (nI 102, σ) := rfl
theorem c_ch0_1 : fn_J0_charAt_5068e_36 0 (nI 1) σ = some (nI 97, σ) := rfl
theorem c_ch0_2 : fn_J0_charAt_5068e_36 0 (nI 2) σ = some (nI 114, σ) := rfl
theorem c_ch0_3 : fn_J0_charAt_5068e_36 0 (nI 3) σ = some (nI 101, σ) := rfl
theorem c_ch1_0 : fn_J0_charAt_5068e_36 1 (nI 0) σ = some (nI 104, σ) := rfl
theorem c_ch1_1 : fn_J0_charAt_5068e_36 1 (nI 1) σ = some (nI 111, σ) := rfl
theorem c_ch1_2 : fn_J0_charAt_5068e_36 1 (nI 2) σ = some (nI 117, σ) := rfl
theorem c_ch1_3 : fn_J0_charAt_5068e_36 1 (nI 3) σ = some (nI 114, σ) := rfl
theorem c_ch1_4 : fn_J0_charAt_5068e_36 1 (nI 4) σ = some (nI 115, σ) := rfl
theorem c_ch2_0 : fn_J0_charAt_5068e_36 2 (nI 0) σ = some (nI 112, σ) := rfl
theorem c_ch2_1 : fn_J0_charAt_5068e_36 2 (nI 1) σ = some (nI 97, σ) := rfl
theorem c_ch2_2 : fn_J0_charAt_5068e_36 2 (nI 2) σ = some (nI 121, σ) := rfl
theorem c_ch3_0 : fn_J0_charAt_5068e_36 3 (nI 0) σ = some (nI 98, σ) := rfl
theorem c_ch3_1 : fn_J0_charAt_5068e_36 3 (nI 1) σ = some (nI 97, σ) := rfl
theorem c_ch3_2 : fn_J0_charAt_5068e_36 3 (nI 2) σ = some (nI 99, σ) := rfl
theorem c_ch3_3 : fn_J0_charAt_5068e_36 3 (nI 3) σ = some (nI 107, σ) := rfl
theorem c_ch4_0 : fn_J0_charAt_5068e_36 4 (nI 0) σ = some (nI 112, σ) := rfl
theorem c_ch4_1 : fn_J0_charAt_5068e_36 4 (nI 1) σ = some (nI 97, σ) := rfl
theorem c_ch4_2 : fn_J0_charAt_5068e_36 4 (nI 2) σ = some (nI 115, σ) := rfl
theorem c_ch4_3 : fn_J0_charAt_5068e_36 4 (nI 3) σ = some (nI 115, σ) := rfl
theorem c_ch5_0 : fn_J0_charAt_5068e_36 5 (nI 0) σ = some (nI 112, σ) := rfl
theorem c_ch5_1 : fn_J0_charAt_5068e_36 5 (nI 1) σ = some (nI 101, σ) := rfl
theorem c_ch5_2 : fn_J0_charAt_5068e_36 5 (nI 2) σ = some (nI 114, σ) := rfl
theorem c_ch5_3 : fn_J0_charAt_5068e_36 5 (nI 3) σ = some (nI 115, σ) := rfl
theorem c_ch5_4 : fn_J0_charAt_5068e_36 5 (nI 4) σ = some (nI 111, σ) := rfl
theorem c_ch5_5 : fn_J0_charAt_5068e_36 5 (nI 5) σ = some (nI 110, σ) := rfl
theorem c_ch6_0 : fn_J0_charAt_5068e_36 6 (nI 0) σ = some (nI 100, σ) := rfl
theorem c_ch6_1 : fn_J0_charAt_5068e_36 6 (nI 1) σ = some (nI 117, σ) := rfl
theorem c_ch6_2 : fn_J0_charAt_5068e_36 6 (nI 2) σ = some (nI 116, σ) := rfl
theorem c_ch6_3 : fn_J0_charAt_5068e_36 6 (nI 3) σ = some (nI 121, σ) := rfl
theorem c_ch7_0 : fn_J0_charAt_5068e_36 7 (nI 0) σ = some (nI 97, σ) := rfl
theorem c_ch7_1 : fn_J0_charAt_5068e_36 7 (nI 1) σ = some (nI 116, σ) := rfl
theorem c_ch8_0 : fn_J0_charAt_5068e_36 8 (nI 0) σ = some (nI 112, σ) := rfl
theorem c_ch8_1 : fn_J0_charAt_5068e_36 8 (nI 1) σ = some (nI 117, σ) := rfl
theorem c_ch8_2 : fn_J0_charAt_5068e_36 8 (nI 2) σ = some (nI 114, σ) := rfl
theorem c_ch8_3 : fn_J0_charAt_5068e_36 8 (nI 3) σ = some (nI 115, σ) := rfl
theorem c_ch8_4 : fn_J0_charAt_5068e_36 8 (nI 4) σ = some (nI 101, σ) := rfl
theorem wl_9 : ∀ w, w < 9 → wlN w ≤ 6 ∧ 2 ≤ wlN w := by decide
theorem wc_9 : ∀ w, w < 9 → ∀ i, i < 6 → wcN w i < 256 := by decide
theorem c_chr {w : Nat} (hw : w < 9) (hi : i < wlN w) : fn_J0_charAt_5068e_36 w (nI i) σ = some (nI (wcN w i), σ) := by
  rcases (show w = 0 ∨ w = 1 ∨ w = 2 ∨ w = 3 ∨ w = 4 ∨ w = 5 ∨ w = 6 ∨ w = 7 ∨ w = 8 by omega) with rfl | rfl | rfl | rfl | rfl | rfl | rfl | rfl | rfl
  · have hi : i < 4 := hi
    rcases (show i = 0 ∨ i = 1 ∨ i = 2 ∨ i = 3 by omega) with rfl | rfl | rfl | rfl
    · exact c_ch0_0
    · exact c_ch0_1
    · exact c_ch0_2
    · exact c_ch0_3
  · have hi : i < 5 := hi
    rcases (show i = 0 ∨ i = 1 ∨ i = 2 ∨ i = 3 ∨ i = 4 by omega) with rfl | rfl | rfl | rfl | rfl
    · exact c_ch1_0
    · exact c_ch1_1
    · exact c_ch1_2
    · exact c_ch1_3
    · exact c_ch1_4
  · have hi : i < 3 := hi
    rcases (show i = 0 ∨ i = 1 ∨ i = 2 by omega) with rfl | rfl | rfl
    · exact c_ch2_0
    · exact c_ch2_1
    · exact c_ch2_2
  · have hi : i < 4 := hi
    rcases (show i = 0 ∨ i = 1 ∨ i = 2 ∨ i = 3 by omega) with rfl | rfl | rfl | rfl
    · exact c_ch3_0
    · exact c_ch3_1
    · exact c_ch3_2
    · exact c_ch3_3
  · have hi : i < 4 := hi
    rcases (show i = 0 ∨ i = 1 ∨ i = 2 ∨ i = 3 by omega) with rfl | rfl | rfl | rfl
    · exact c_ch4_0
    · exact c_ch4_1
    · exact c_ch4_2
    · exact c_ch4_3
  · have hi : i < 6 := hi
    rcases (show i = 0 ∨ i = 1 ∨ i = 2 ∨ i = 3 ∨ i = 4 ∨ i = 5 by omega) with rfl | rfl | rfl | rfl | rfl | rfl
    · exact c_ch5_0
    · exact c_ch5_1
    · exact c_ch5_2
    · exact c_ch5_3
    · exact c_ch5_4
    · exact c_ch5_5
  · have hi : i < 4 := hi
    rcases (show i = 0 ∨ i = 1 ∨ i = 2 ∨ i = 3 by omega) with rfl | rfl | rfl | rfl
    · exact c_ch6_0
    · exact c_ch6_1
    · exact c_ch6_2
    · exact c_ch6_3
  · have hi : i < 2 := hi
    rcases (show i = 0 ∨ i = 1 by omega) with rfl | rfl
    · exact c_ch7_0
    · exact c_ch7_1
  · have hi : i < 5 := hi
    rcases (show i = 0 ∨ i = 1 ∨ i = 2 ∨ i = 3 ∨ i = 4 by omega) with rfl | rfl | rfl | rfl | rfl
    · exact c_ch8_0
    · exact c_ch8_1
    · exact c_ch8_2
    · exact c_ch8_3
    · exact c_ch8_4
theorem c_isw0 {w : Nat} (hn : n ≤ 250) (hc : tcC b n σ) (hb : ∀ i, i < n → b i < 256) (hw : w < 9) (hs : s + wlN w ≤ n) (h5 : σ.1 11 14 0 5 = nI s) : ∀ (m i fuel : Nat), i + m = wlN w → m < fuel → (∀ j, j < i → b (s + j) = wcN w j) → lp_X4_isWord_36_20 fuel w (nI i) σ = some (bI (decide (∀ j, j < wlN w → b (s + j) = wcN w j)), σ) := by
  have hl := wl_9 w hw
  intro m
  induction m with
  | zero =>
    intro i fuel hi hf hI
    obtain ⟨f, rfl⟩ : ∃ f, fuel = f + 1 := ⟨fuel - 1, by omega⟩
    rw [lp_X4_isWord_36_20.eq_2]
    unfold lb_X4_isWord_36_20
    rw [c_len hw, Option.bind_some]
    dsimp only
    rw [if_pos (pt (n_le_t (by omega) (by omega))), decide_eq_true (fun j hj => hI j (by omega))]
    rfl
  | succ m ih =>
    intro i fuel hi hf hI
    obtain ⟨f, rfl⟩ : ∃ f, fuel = f + 1 := ⟨fuel - 1, by omega⟩
    have hbs := hb (s + i) (by omega)
    have hwc := wc_9 w hw i (by omega)
    rw [lp_X4_isWord_36_20.eq_2]
    unfold lb_X4_isWord_36_20
    rw [c_len hw, Option.bind_some]
    dsimp only
    rw [if_neg (nf (n_le_f (by omega) (by omega))), c_chr hw (by omega), Option.bind_some]
    dsimp only
    rw [h5, nI_add, n_in_t (show s + i < 250 by omega) (by omega), cond_true, n_cl (by omega), hc.2 (s + i) (by omega), i_eq (by omega) (by omega), n_suc]
    by_cases c : wcN w i = b (s + i)
    · rw [if_pos c]
      exact ih (i + 1) f (by omega) (by omega) (fun j hj => by
        by_cases d : j = i
        · rw [d, c]
        · exact hI j (by omega))
    · rw [if_neg c, decide_eq_false (fun q => c (q i (by omega)).symm)]
      rfl
theorem c_isw {w : Nat} (hn : n ≤ 250) (hc : tcC b n σ) (hb : ∀ i, i < n → b i < 256) (hw : w < 9) (hse : s ≤ e) (hen : e ≤ n) (h5 : σ.1 11 14 0 5 = nI s) (h6 : σ.1 11 14 0 6 = nI e) : fn_X4_isWord_36 w σ = some (bI (wdB b w s e), σ) := by
  have hl := wl_9 w hw
  unfold fn_X4_isWord_36 wdB
  rw [c_len hw, Option.bind_some]
  dsimp only
  rw [h5, h6, n_sub hse, i_eq (by omega) (by omega)]
  by_cases c : wlN w = e - s
  · rw [if_pos c]
    have e1 := c_isw0 hn hc hb hw (by omega) h5 (wlN w) 0 1000 (by omega) (by omega) (fun j hj => absurd hj (Nat.not_lt_zero _))
    have e1 : lp_X4_isWord_36_20 1000 w 0 σ = _ := e1
    rw [e1]
    have e2 : decide (e - s = wlN w ∧ ∀ i, i < wlN w → b (s + i) = wcN w i) = decide (∀ j, j < wlN w → b (s + j) = wcN w j) := decide_eq_decide.mpr ⟨fun q => q.2, fun q => ⟨c.symm, q⟩⟩
    rw [e2]
  · rw [if_neg c, decide_eq_false (fun q => c q.1.symm)]
    rfl
theorem m_isw0 {w : Nat} (hn : n ≤ 250) (hc : tcM b n σ) (hb : ∀ i, i < n → b i < 256) (hw : w < 9) (hs : s + wlN w ≤ n) (h5 : σ.1 5 40 0 30 = nI s) : ∀ (m i fuel : Nat), i + m = wlN w → m < fuel → (∀ j, j < i → b (s + j) = wcN w j) → lp_X8_isWord_36_28 fuel 5 w (nI i) σ = some (bI (decide (∀ j, j < wlN w → b (s + j) = wcN w j)), σ) := by
  have hl := wl_9 w hw
  intro m
  induction m with
  | zero =>
    intro i fuel hi hf hI
    obtain ⟨f, rfl⟩ : ∃ f, fuel = f + 1 := ⟨fuel - 1, by omega⟩
    rw [lp_X8_isWord_36_28.eq_2]
    unfold lb_X8_isWord_36_28
    rw [c_len hw, Option.bind_some]
    dsimp only
    rw [if_pos (pt (n_le_t (by omega) (by omega))), decide_eq_true (fun j hj => hI j (by omega))]
    rfl
  | succ m ih =>
    intro i fuel hi hf hI
    obtain ⟨f, rfl⟩ : ∃ f, fuel = f + 1 := ⟨fuel - 1, by omega⟩
    have hbs := hb (s + i) (by omega)
    have hwc := wc_9 w hw i (by omega)
    rw [lp_X8_isWord_36_28.eq_2]
    unfold lb_X8_isWord_36_28
    rw [c_len hw, Option.bind_some]
    dsimp only
    rw [if_neg (nf (n_le_f (by omega) (by omega))), h5, nI_add, n_in_t (show s + i < 250 by omega) (by omega), cond_true, c_chr hw (by omega), Option.bind_some]
    dsimp only
    rw [n_cl (by omega), hc.2 (s + i) (by omega), i_eq (by omega) (by omega), n_suc]
    by_cases c : b (s + i) = wcN w i
    · rw [if_pos c]
      exact ih (i + 1) f (by omega) (by omega) (fun j hj => by
        by_cases d : j = i
        · rw [d, c]
        · exact hI j (by omega))
    · rw [if_neg c, decide_eq_false (fun q => c (q i (by omega)))]
      rfl
theorem m_isw {w : Nat} (hn : n ≤ 250) (hc : tcM b n σ) (hb : ∀ i, i < n → b i < 256) (hw : w < 9) (he : e ≤ n) (hr : rT b n σ e) : fn_X8_isWord_36 5 w σ = some (bI (decide (kdN b n (skN b n e) = 1) && wdB b w (skN b n e) (enN b n (skN b n e))), σ) := by
  obtain ⟨r28, r29, r30, r31⟩ := hr
  have hl := wl_9 w hw
  have hs := sk_le (b := b) he
  have hen := en_le (b := b) hs.2
  have hkd := kd_le (b := b) (n := n) (i := skN b n e)
  unfold fn_X8_isWord_36 wdB
  rw [r29, z1, i_eq (by omega) (by omega)]
  by_cases c1 : kdN b n (skN b n e) = 1
  · rw [if_pos c1, decide_eq_true c1, Bool.true_and, c_len hw, Option.bind_some]
    dsimp only
    rw [r28, r30, n_sub hen.1, i_eq (by omega) (by omega)]
    by_cases c : enN b n (skN b n e) - skN b n e = wlN w
    · rw [if_pos c]
      have e1 := m_isw0 (s := skN b n e) hn hc hb hw (by omega) r30 (wlN w) 0 1000 (by omega) (by omega) (fun j hj => absurd hj (Nat.not_lt_zero _))
      have e1 : lp_X8_isWord_36_28 1000 5 w 0 σ = _ := e1
      rw [e1]
      have e2 : decide (enN b n (skN b n e) - skN b n e = wlN w ∧ ∀ i, i < wlN w → b (skN b n e + i) = wcN w i) = decide (∀ j, j < wlN w → b (skN b n e + j) = wcN w j) := decide_eq_decide.mpr ⟨fun q => q.2, fun q => ⟨c, q⟩⟩
      rw [e2]
    · rw [if_neg c, decide_eq_false (fun q => c q.1)]
      rfl
  · rw [if_neg c1, decide_eq_false c1, Bool.false_and]
    rfl
/-- a word is one word alone -/
theorem wd_ne {w w' : Nat} (hw : w < 9) (hw' : w' < 9) (h : w ≠ w') (h1 : wdB b w s e = true) : wdB b w' s e = false := by
  cases h2 : wdB b w' s e
  · rfl
  · have q1 := of_decide_eq_true h1
    have q2 := of_decide_eq_true h2
    have hl : wlN w = wlN w' := by omega
    have key : ∀ w, w < 9 → ∀ w', w' < 9 → w ≠ w' → wlN w = wlN w' → ∃ i, i < wlN w ∧ wcN w i ≠ wcN w' i := by
      have k0 : ((List.range 9).all fun w => (List.range 9).all fun w' => decide (w = w') || (!decide (wlN w = wlN w') || (List.range (wlN w)).any fun i => !decide (wcN w i = wcN w' i))) = true := by decide +kernel
      intro w hw w' hw' hne hl
      have k1 := al2 k0 hw hw'
      rw [decide_eq_false hne, decide_eq_true hl, Bool.false_or, Bool.not_true, Bool.false_or, List.any_eq_true] at k1
      obtain ⟨i, i1, i2⟩ := k1
      refine ⟨i, List.mem_range.mp i1, fun q => ?_⟩
      rw [decide_eq_true q] at i2
      cases i2
    obtain ⟨i, i1, i2⟩ := key w hw w' hw' h hl
    exact absurd ((q1.2 i i1).symm.trans (q2.2 i (by omega))) i2
end PNU
