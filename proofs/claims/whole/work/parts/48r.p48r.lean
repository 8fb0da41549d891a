/-! ===== the draft: tokens ===== -/
def clsN (x : Nat) : Nat := if 97 ≤ x ∧ x ≤ 122 then 1 else if 48 ≤ x ∧ x ≤ 57 then 2 else if x = 59 then 3 else 4
/-- behind the blanks -/
def skN (b : Nat → Nat) (n e : Nat) : Nat := fsN (fun i => !decide (b i = 32)) (n - e) e
def kdN (b : Nat → Nat) (n i : Nat) : Nat := if i = n then 0 else clsN (b i)
/-- where the token ends that begins at i -/
def enN (b : Nat → Nat) (n i : Nat) : Nat := if i = n then i else if clsN (b i) = 1 ∨ clsN (b i) = 2 then fsN (fun j => !decide (clsN (b j) = clsN (b i))) (n - i) i else i + 1
/-- the number of so many figures -/
def nmN (b : Nat → Nat) (s : Nat) : Nat → Nat
  | 0 => 0
  | m + 1 => nmN b s m * 10 + (b (s + m) - 48)
def fgF (b : Nat → Nat) (s l : Nat) : Nat := if l ≤ 3 then nmN b s l else 10000
theorem fs_1 {P : Nat → Bool} {m k : Nat} (h : P k = true) : fsN P (m + 1) k = k := if_pos h
theorem fs_2 {P : Nat → Bool} {m k : Nat} (h : P k = false) : fsN P (m + 1) k = fsN P m (k + 1) := if_neg (by rw [h]; decide)
theorem fs_le {P : Nat → Bool} : ∀ m k, k ≤ fsN P m k ∧ fsN P m k ≤ k + m
  | 0, k => ⟨Nat.le_refl _, Nat.le_refl _⟩
  | m + 1, k => by
    have h := fs_le (P := P) m (k + 1)
    cases c : P k
    · rw [fs_2 c]; omega
    · rw [fs_1 c]; omega
theorem fs_no {P : Nat → Bool} : ∀ m k i, k ≤ i → i < fsN P m k → P i = false
  | 0, k, i, h1, h2 => by
    have h2 : i < k := h2
    omega
  | m + 1, k, i, h1, h2 => by
    cases c : P k
    · rw [fs_2 c] at h2
      by_cases d : i = k
      · rw [d]; exact c
      · exact fs_no m (k + 1) i (by omega) h2
    · rw [fs_1 c] at h2
      omega
theorem fs_yes {P : Nat → Bool} : ∀ m k, fsN P m k < k + m → P (fsN P m k) = true
  | 0, k, h => by
    have h : k < k + 0 := h
    omega
  | m + 1, k, h => by
    cases c : P k
    · rw [fs_2 c] at h ⊢
      exact fs_yes m (k + 1) (by omega)
    · rw [fs_1 c]
      exact c
section PTK
variable {b : Nat → Nat} {n e i k s : Nat} {σ τ : am_S}
theorem sk_le (h : e ≤ n) : e ≤ skN b n e ∧ skN b n e ≤ n := by
  have := fs_le (P := fun i => !decide (b i = 32)) (n - e) e
  unfold skN
  omega
theorem en_gt (h : i < n) : i < enN b n i ∧ enN b n i ≤ n := by
  unfold enN
  rw [if_neg (by omega)]
  by_cases c : clsN (b i) = 1 ∨ clsN (b i) = 2
  · rw [if_pos c, show n - i = (n - i - 1) + 1 by omega, fs_2 (by simp)]
    have := fs_le (P := fun j => !decide (clsN (b j) = clsN (b i))) (n - i - 1) (i + 1)
    omega
  · rw [if_neg c]
    omega
theorem en_le (h : i ≤ n) : i ≤ enN b n i ∧ enN b n i ≤ n := by
  by_cases c : i = n
  · unfold enN
    rw [if_pos c]
    omega
  · have := en_gt (b := b) (n := n) (i := i) (by omega)
    omega
theorem en_n : enN b n n = n := if_pos rfl
theorem kd_n : kdN b n n = 0 := if_pos rfl
theorem kd_i (h : i < n) : kdN b n i = clsN (b i) := if_neg (by omega)
theorem cls_le (x : Nat) : 1 ≤ clsN x ∧ clsN x ≤ 4 := by
  unfold clsN
  split
  · omega
  · split
    · omega
    · split <;> omega
theorem kd_le : kdN b n i ≤ 4 := by
  unfold kdN
  split
  · omega
  · exact (cls_le _).2
theorem kd_lt (h : i ≤ n) (hk : kdN b n i ≠ 0) : i < n := by
  by_cases c : i = n
  · rw [c, kd_n] at hk; exact absurd rfl hk
  · omega
/-- the figures of a number are figures -/
theorem en_dig (h : i < n) (hk : clsN (b i) = 2) {j : Nat} (h1 : i ≤ j) (h2 : j < enN b n i) : clsN (b j) = 2 := by
  unfold enN at h2
  rw [if_neg (by omega), if_pos (Or.inr hk)] at h2
  have := fs_no (P := fun j => !decide (clsN (b j) = clsN (b i))) _ _ j h1 h2
  simp at this
  omega
theorem cls_2 {x : Nat} (h : clsN x = 2) : 48 ≤ x ∧ x ≤ 57 := by
  unfold clsN at h
  split at h
  · omega
  · split at h
    · omega
    · split at h <;> omega
theorem nm_lt {l : Nat} (h : ∀ j, j < l → b (s + j) ≤ 57) : nmN b s l < 10 ^ l := by
  induction l with
  | zero => show 0 < 10 ^ 0; decide
  | succ l ih =>
    have h1 := ih (fun j hj => h j (by omega))
    have h2 := h l (by omega)
    show nmN b s l * 10 + (b (s + l) - 48) < 10 ^ (l + 1)
    rw [Nat.pow_succ]
    omega
/-- the bytes of the draft, in the class and in the reference -/
def tcC (b : Nat → Nat) (n : Nat) (σ : am_S) : Prop := σ.1 11 14 0 2 = nI n ∧ ∀ i, i < n → σ.1 11 15 0 i = nI (b i)
def tcM (b : Nat → Nat) (n : Nat) (σ : am_S) : Prop := σ.1 5 40 0 7 = nI n ∧ ∀ i, i < n → σ.1 5 48 0 i = nI (b i)
theorem tcC.fr {S : Nat → Nat → Nat → Nat → Prop} (h : fr S σ τ) (hS : ∀ k j, (k = 14 ∧ j = 2) ∨ k = 15 → ¬ S 11 k 0 j) (hc : tcC b n σ) : tcC b n τ := ⟨by rw [(h _ _ _ _ (hS 14 2 (by omega))).1]; exact hc.1, fun i hi => by rw [(h _ _ _ _ (hS 15 i (by omega))).1]; exact hc.2 i hi⟩
theorem tcM.fr {S : Nat → Nat → Nat → Nat → Prop} (h : fr S σ τ) (hS : ∀ k j, (k = 40 ∧ j = 7) ∨ k = 48 → ¬ S 5 k 0 j) (hc : tcM b n σ) : tcM b n τ := ⟨by rw [(h _ _ _ _ (hS 40 7 (by omega))).1]; exact hc.1, fun i hi => by rw [(h _ _ _ _ (hS 48 i (by omega))).1]; exact hc.2 i hi⟩
theorem c_tok {x : Nat} (hx : x < 256) : fn_X4_tokenOf (nI x) σ = some (nI (clsN x), σ) := by
  unfold fn_X4_tokenOf jn_X4_tokenOf_14 jn_X4_tokenOf_28 clsN
  rw [show (97 : Int32) = nI 97 from rfl, show (122 : Int32) = nI 122 from rfl, show (48 : Int32) = nI 48 from rfl, show (57 : Int32) = nI 57 from rfl, show (59 : Int32) = nI 59 from rfl, i_lt (by omega) (by omega), i_lt (by omega) (by omega), i_lt (by omega) (by omega), i_lt (by omega) (by omega), i_eq (by omega) (by omega)]
  by_cases c1 : 97 ≤ x ∧ x ≤ 122
  · rw [if_pos c1, if_neg (by omega), if_neg (by omega)]; rfl
  · rw [if_neg c1]
    by_cases c2 : 48 ≤ x ∧ x ≤ 57
    · rw [if_pos c2, if_pos (show x < 97 by omega), if_neg (show ¬ x < 48 by omega), if_neg (show ¬ 57 < x by omega)]; rfl
    · rw [if_neg c2]
      by_cases c3 : x = 59
      · subst c3
        rfl
      · rw [if_neg c3, if_neg c3]
        split
        · split
          · rfl
          · split
            · rfl
            · omega
        · split
          · split
            · rfl
            · split
              · rfl
              · omega
          · omega
theorem m_let {x : Nat} (hx : x < 256) : fn_X8_isLetter (nI x) σ = some (bI (decide (clsN x = 1)), σ) := by
  unfold fn_X8_isLetter
  rw [show (97 : Int32) = nI 97 from rfl, show (122 : Int32) = nI 122 from rfl, i_lt (by omega) (by omega), i_lt (by omega) (by omega)]
  by_cases c1 : 97 ≤ x ∧ x ≤ 122
  · have e : clsN x = 1 := if_pos c1
    rw [if_neg (by omega), if_neg (by omega), decide_eq_true e]; rfl
  · have e : ¬ clsN x = 1 := by
      unfold clsN
      rw [if_neg c1]
      split
      · decide
      · split <;> decide
    rw [decide_eq_false e]
    split
    · rfl
    · rw [if_pos (by omega)]; rfl
theorem m_dig {x : Nat} (hx : x < 256) : fn_X8_isDigit (nI x) σ = some (bI (decide (clsN x = 2)), σ) := by
  unfold fn_X8_isDigit
  rw [show (48 : Int32) = nI 48 from rfl, show (57 : Int32) = nI 57 from rfl, i_lt (by omega) (by omega), i_lt (by omega) (by omega)]
  by_cases c1 : 48 ≤ x ∧ x ≤ 57
  · have e : clsN x = 2 := by
      unfold clsN
      rw [if_neg (by omega), if_pos c1]
    rw [if_neg (by omega), if_neg (by omega), decide_eq_true e]; rfl
  · have e : ¬ clsN x = 2 := fun q => c1 (cls_2 q)
    rw [decide_eq_false e]
    split
    · rfl
    · rw [if_pos (by omega)]; rfl
/-! the class: the next token -/
theorem c_n8 (hn : n ≤ 250) : ∀ (m k fuel : Nat) (σ : am_S), k + m = n → m < fuel → tcC b n σ → (∀ i, i < n → b i < 256) → σ.1 11 14 0 5 = nI k → ∃ τ, lp_X4_nextToken_8 fuel σ = jn_X4_nextToken_46 τ ∧ fr (fun o kk i j => o = 11 ∧ kk = 14 ∧ i = 0 ∧ j = 5) σ τ ∧ τ.1 11 14 0 5 = nI (fsN (fun i => !decide (b i = 32)) m k) := by
  intro m
  induction m with
  | zero =>
    intro k fuel σ hs hf hc hb h5
    obtain ⟨f, rfl⟩ : ∃ f, fuel = f + 1 := ⟨fuel - 1, by omega⟩
    refine ⟨σ, ?_, fr.rf, h5⟩
    rw [lp_X4_nextToken_8.eq_2]
    unfold lb_X4_nextToken_8
    rw [hc.1, h5, if_pos (pt (n_le_t (by omega) (by omega)))]
  | succ m ih =>
    intro k fuel σ hs hf hc hb h5
    obtain ⟨f, rfl⟩ : ∃ f, fuel = f + 1 := ⟨fuel - 1, by omega⟩
    have hbk := hb k (by omega)
    rw [lp_X4_nextToken_8.eq_2]
    unfold lb_X4_nextToken_8
    rw [hc.1, h5, if_neg (nf (n_le_f (by omega) (by omega))), n_in_t (show k < 250 by omega) (by omega), cond_true, n_cl (by omega), hc.2 k (by omega), show (32 : Int32) = nI 32 from rfl, i_eq (by omega) (by omega), n_suc]
    by_cases c : b k = 32
    · rw [if_pos c, fs_2 (by simp [c])]
      obtain ⟨τ, e1, e2, e3⟩ := ih (k + 1) f (am_u σ 11 14 0 5 (nI (k + 1))) (by omega) (by omega) (hc.fr (S := fun o kk i j => o = 11 ∧ kk = 14 ∧ i = 0 ∧ j = 5) (fr.u ⟨rfl, rfl, rfl, rfl⟩) (fun _ _ _ q => by omega)) hb u_at
      exact ⟨τ, e1, (fr.u ⟨rfl, rfl, rfl, rfl⟩).tr e2, e3⟩
    · rw [if_neg c, fs_1 (by simp [c])]
      exact ⟨σ, rfl, fr.rf, h5⟩
theorem c_101 (hn : n ≤ 250) {c : Nat} (hc4 : c ≤ 4) : ∀ (m k fuel : Nat) (σ : am_S), k + m = n → m < fuel → tcC b n σ → (∀ i, i < n → b i < 256) → σ.1 11 14 0 6 = nI k → σ.1 11 14 0 4 = nI c → ∃ τ, lp_X4_nextToken_101 fuel σ = some τ ∧ fr (fun o kk i j => o = 11 ∧ kk = 14 ∧ i = 0 ∧ j = 6) σ τ ∧ τ.1 11 14 0 6 = nI (fsN (fun j => !decide (clsN (b j) = c)) m k) := by
  intro m
  induction m with
  | zero =>
    intro k fuel σ hs hf hc hb h6 h4
    obtain ⟨f, rfl⟩ : ∃ f, fuel = f + 1 := ⟨fuel - 1, by omega⟩
    refine ⟨σ, ?_, fr.rf, h6⟩
    rw [lp_X4_nextToken_101.eq_2]
    unfold lb_X4_nextToken_101
    rw [hc.1, h6, if_pos (pt (n_le_t (by omega) (by omega)))]
  | succ m ih =>
    intro k fuel σ hs hf hc hb h6 h4
    obtain ⟨f, rfl⟩ : ∃ f, fuel = f + 1 := ⟨fuel - 1, by omega⟩
    have hbk := hb k (by omega)
    have hcl := cls_le (b k)
    rw [lp_X4_nextToken_101.eq_2]
    unfold lb_X4_nextToken_101
    rw [hc.1, h6, if_neg (nf (n_le_f (by omega) (by omega))), n_in_t (show k < 250 by omega) (by omega), cond_true, n_cl (by omega), hc.2 k (by omega), c_tok hbk, Option.bind_some]
    dsimp only
    rw [h4, h6, i_eq (by omega) (by omega), n_suc]
    by_cases d : clsN (b k) = c
    · rw [if_pos d, fs_2 (by simp [d])]
      obtain ⟨τ, e1, e2, e3⟩ := ih (k + 1) f (am_u σ 11 14 0 6 (nI (k + 1))) (by omega) (by omega) (hc.fr (S := fun o kk i j => o = 11 ∧ kk = 14 ∧ i = 0 ∧ j = 6) (fr.u ⟨rfl, rfl, rfl, rfl⟩) (fun _ _ _ q => by omega)) hb u_at (by rw [u_ne (by omega)]; exact h4)
      exact ⟨τ, e1, (fr.u ⟨rfl, rfl, rfl, rfl⟩).tr e2, e3⟩
    · rw [if_neg d, fs_1 (by simp [d])]
      exact ⟨σ, rfl, fr.rf, h6⟩
def FC : Nat → Nat → Nat → Nat → Prop := fun o k i j => o = 11 ∧ k = 14 ∧ i = 0 ∧ (j = 4 ∨ j = 5 ∨ j = 6)
theorem c_next (hn : n ≤ 250) (hc : tcC b n σ) (hb : ∀ i, i < n → b i < 256) (he : e ≤ n) (h6 : σ.1 11 14 0 6 = nI e) : ∃ τ, fn_X4_nextToken σ = some τ ∧ fr FC σ τ ∧ τ.1 11 14 0 4 = nI (kdN b n (skN b n e)) ∧ τ.1 11 14 0 5 = nI (skN b n e) ∧ τ.1 11 14 0 6 = nI (enN b n (skN b n e)) := by
  have f0 : fr FC σ (am_u σ 11 14 0 5 (σ.1 11 14 0 6)) := fr.u ⟨rfl, rfl, rfl, by omega⟩
  obtain ⟨τ, e1, e2, e3⟩ := c_n8 hn (n - e) e 1000 (am_u σ 11 14 0 5 (σ.1 11 14 0 6)) (by omega) (by omega) (hc.fr f0 (fun _ _ _ q => by unfold FC at q; omega)) hb (by rw [u_at]; exact h6)
  have f1 : fr FC σ τ := f0.tr (e2.mono fun o k i j q => by unfold FC; omega)
  have hcτ : tcC b n τ := hc.fr f1 (fun _ _ _ q => by unfold FC at q; omega)
  have e3 : τ.1 11 14 0 5 = nI (skN b n e) := e3
  have hs := sk_le (b := b) he
  generalize hs' : skN b n e = s at e3 hs
  have h74 : ∀ y, y ≤ 4 → y = kdN b n s → ∃ ρ, jn_X4_nextToken_74 (nI y) τ = some ρ ∧ fr FC τ ρ ∧ ρ.1 11 14 0 4 = nI (kdN b n s) ∧ ρ.1 11 14 0 5 = nI s ∧ ρ.1 11 14 0 6 = nI (enN b n s) := fun y hy hyk => by
    have f2 : fr FC τ (am_u (am_u τ 11 14 0 4 (nI y)) 11 14 0 6 (nI s)) := (fr.u ⟨rfl, rfl, rfl, by omega⟩).tr (fr.u ⟨rfl, rfl, rfl, by omega⟩)
    unfold jn_X4_nextToken_74
    rw [e3]
    have big : (y = 1 ∨ y = 2) → ∃ ρ, lp_X4_nextToken_101 1000 (am_u (am_u τ 11 14 0 4 (nI y)) 11 14 0 6 (nI s)) = some ρ ∧ fr FC τ ρ ∧ ρ.1 11 14 0 4 = nI (kdN b n s) ∧ ρ.1 11 14 0 5 = nI s ∧ ρ.1 11 14 0 6 = nI (enN b n s) := fun h12 => by
      have hlt : s < n := kd_lt (b := b) hs.2 (by omega)
      have hcl : clsN (b s) = y := by rw [hyk, kd_i hlt]
      obtain ⟨ρ, d1, d2, d3⟩ := c_101 hn (c := y) hy (n - s) s 1000 (am_u (am_u τ 11 14 0 4 (nI y)) 11 14 0 6 (nI s)) (by omega) (by omega) (hcτ.fr f2 (fun _ _ _ q => by unfold FC at q; omega)) hb u_at (by rw [u_ne (by omega), u_at])
      refine ⟨ρ, d1, f2.tr (d2.mono fun o k i j q => by unfold FC; omega), ?_, ?_, ?_⟩
      · rw [(d2 11 14 0 4 (by omega)).1, u_ne (by omega), u_at, hyk]
      · rw [(d2 11 14 0 5 (by omega)).1, u_ne (by omega), u_ne (by omega)]
        exact e3
      · rw [d3]
        unfold enN
        rw [if_neg (by omega), hcl, if_pos h12]
    by_cases y1 : y = 1
    · rw [if_pos (show nI y = (1 : Int32) by rw [y1]; rfl)]
      exact big (Or.inl y1)
    · rw [if_neg (show ¬ nI y = (1 : Int32) from nf (n_eq_f y1 (by omega) (by decide)))]
      by_cases y2 : y = 2
      · rw [if_pos (show nI y = (2 : Int32) by rw [y2]; rfl)]
        exact big (Or.inr y2)
      · rw [if_neg (show ¬ nI y = (2 : Int32) from nf (n_eq_f y2 (by omega) (by decide)))]
        by_cases y0 : y = 0
        · have hsn : s = n := by
            by_cases c : s = n
            · exact c
            · have := kd_i (b := b) (n := n) (i := s) (by omega)
              have := cls_le (b s)
              omega
          rw [if_pos (show nI y = (0 : Int32) by rw [y0]; rfl)]
          refine ⟨_, rfl, f2, ?_, ?_, ?_⟩
          · rw [u_ne (by omega), u_at, hyk]
          · rw [u_ne (by omega), u_ne (by omega)]
            exact e3
          · rw [u_at, hsn, en_n]
        · have hlt : s < n := kd_lt (b := b) hs.2 (by omega)
          have hcl : clsN (b s) = y := by rw [hyk, kd_i hlt]
          rw [if_neg (show ¬ nI y = (0 : Int32) from nf (n_eq_f y0 (by omega) (by decide)))]
          refine ⟨_, rfl, f2.tr (fr.u ⟨rfl, rfl, rfl, by omega⟩), ?_, ?_, ?_⟩
          · rw [u_ne (by omega), u_ne (by omega), u_at, hyk]
          · rw [u_ne (by omega), u_ne (by omega), u_ne (by omega)]
            exact e3
          · rw [u_at, n_suc]
            unfold enN
            rw [if_neg (by omega), hcl, if_neg (by omega)]
  have fin : ∃ ρ, jn_X4_nextToken_46 τ = some ρ ∧ fr FC τ ρ ∧ ρ.1 11 14 0 4 = nI (kdN b n s) ∧ ρ.1 11 14 0 5 = nI s ∧ ρ.1 11 14 0 6 = nI (enN b n s) := by
    unfold jn_X4_nextToken_46
    rw [hcτ.1, e3]
    by_cases c : n ≤ s
    · have hsn : s = n := by omega
      rw [if_pos (pt (n_le_t c (by omega)))]
      exact h74 0 (by omega) (by rw [hsn, kd_n])
    · have hbs := hb s (by omega)
      rw [if_neg (nf (n_le_f (by omega) (by omega))), n_in_t (show s < 250 by omega) (by omega), cond_true, n_cl (by omega), hcτ.2 s (by omega), c_tok hbs, Option.bind_some]
      exact h74 (clsN (b s)) (cls_le _).2 (kd_i (by omega)).symm
  obtain ⟨ρ, d1, d2, d3⟩ := fin
  refine ⟨ρ, ?_, f1.tr d2, d3⟩
  unfold fn_X4_nextToken
  rw [e1]
  exact d1
/-! the reference: a look ahead -/
def fiN (b : Nat → Nat) (n s : Nat) : Nat := if kdN b n s = 2 then fgF b s (enN b n s - s) else 0
/-- the token that follows e has been looked at -/
def rT (b : Nat → Nat) (n : Nat) (σ : am_S) (e : Nat) : Prop := σ.1 5 40 0 28 = nI (enN b n (skN b n e)) ∧ σ.1 5 40 0 29 = nI (kdN b n (skN b n e)) ∧ σ.1 5 40 0 30 = nI (skN b n e) ∧ σ.1 5 40 0 31 = nI (fiN b n (skN b n e))
def FM : Nat → Nat → Nat → Nat → Prop := fun o k i j => o = 5 ∧ k = 40 ∧ i = 0 ∧ 28 ≤ j ∧ j ≤ 31
theorem m_l0 (hn : n ≤ 250) : ∀ (m k fuel : Nat) (σ : am_S), k + m = n → m < fuel → tcM b n σ → (∀ i, i < n → b i < 256) → σ.1 5 40 0 28 = nI k → ∃ τ, lp_X8_look_0 fuel 5 σ = jn_X8_look_38 5 τ ∧ fr (fun o kk i j => o = 5 ∧ kk = 40 ∧ i = 0 ∧ j = 28) σ τ ∧ τ.1 5 40 0 28 = nI (fsN (fun i => !decide (b i = 32)) m k) := by
  intro m
  induction m with
  | zero =>
    intro k fuel σ hs hf hc hb h5
    obtain ⟨f, rfl⟩ : ∃ f, fuel = f + 1 := ⟨fuel - 1, by omega⟩
    refine ⟨σ, ?_, fr.rf, h5⟩
    rw [lp_X8_look_0.eq_2]
    unfold lb_X8_look_0
    rw [hc.1, h5, if_pos (pt (n_le_t (by omega) (by omega)))]
  | succ m ih =>
    intro k fuel σ hs hf hc hb h5
    obtain ⟨f, rfl⟩ : ∃ f, fuel = f + 1 := ⟨fuel - 1, by omega⟩
    have hbk := hb k (by omega)
    rw [lp_X8_look_0.eq_2]
    unfold lb_X8_look_0
    rw [hc.1, h5, if_neg (nf (n_le_f (by omega) (by omega))), n_in_t (show k < 250 by omega) (by omega), cond_true, n_cl (by omega), hc.2 k (by omega), show (32 : Int32) = nI 32 from rfl, i_eq (by omega) (by omega), n_suc]
    by_cases c : b k = 32
    · rw [if_pos c, fs_2 (by simp [c])]
      obtain ⟨τ, e1, e2, e3⟩ := ih (k + 1) f (am_u σ 5 40 0 28 (nI (k + 1))) (by omega) (by omega) (hc.fr (S := fun o kk i j => o = 5 ∧ kk = 40 ∧ i = 0 ∧ j = 28) (fr.u ⟨rfl, rfl, rfl, rfl⟩) (fun _ _ _ q => by omega)) hb u_at
      exact ⟨τ, e1, (fr.u ⟨rfl, rfl, rfl, rfl⟩).tr e2, e3⟩
    · rw [if_neg c, fs_1 (by simp [c])]
      exact ⟨σ, rfl, fr.rf, h5⟩
theorem m_l90 (hn : n ≤ 250) : ∀ (m k fuel : Nat) (σ : am_S), k + m = n → m < fuel → tcM b n σ → (∀ i, i < n → b i < 256) → σ.1 5 40 0 28 = nI k → ∃ τ, lp_X8_look_90 fuel 5 σ = some τ ∧ fr (fun o kk i j => o = 5 ∧ kk = 40 ∧ i = 0 ∧ j = 28) σ τ ∧ τ.1 5 40 0 28 = nI (fsN (fun j => !decide (clsN (b j) = 1)) m k) := by
  intro m
  induction m with
  | zero =>
    intro k fuel σ hs hf hc hb h5
    obtain ⟨f, rfl⟩ : ∃ f, fuel = f + 1 := ⟨fuel - 1, by omega⟩
    refine ⟨σ, ?_, fr.rf, h5⟩
    rw [lp_X8_look_90.eq_2]
    unfold lb_X8_look_90
    rw [hc.1, h5, if_pos (pt (n_le_t (by omega) (by omega)))]
  | succ m ih =>
    intro k fuel σ hs hf hc hb h5
    obtain ⟨f, rfl⟩ : ∃ f, fuel = f + 1 := ⟨fuel - 1, by omega⟩
    have hbk := hb k (by omega)
    rw [lp_X8_look_90.eq_2]
    unfold lb_X8_look_90
    rw [hc.1, h5, if_neg (nf (n_le_f (by omega) (by omega))), n_in_t (show k < 250 by omega) (by omega), cond_true, n_cl (by omega), hc.2 k (by omega), m_let hbk, Option.bind_some]
    dsimp only
    rw [h5, bI_0, n_suc]
    by_cases c : clsN (b k) = 1
    · rw [decide_eq_true c, cond_true, fs_2 (by simp [c])]
      obtain ⟨τ, e1, e2, e3⟩ := ih (k + 1) f (am_u σ 5 40 0 28 (nI (k + 1))) (by omega) (by omega) (hc.fr (S := fun o kk i j => o = 5 ∧ kk = 40 ∧ i = 0 ∧ j = 28) (fr.u ⟨rfl, rfl, rfl, rfl⟩) (fun _ _ _ q => by omega)) hb u_at
      exact ⟨τ, e1, (fr.u ⟨rfl, rfl, rfl, rfl⟩).tr e2, e3⟩
    · rw [decide_eq_false c, cond_false, fs_1 (by simp [c])]
      exact ⟨σ, rfl, fr.rf, h5⟩
theorem m_l149 (hn : n ≤ 250) (hsn : s ≤ n) : ∀ (m k fuel : Nat) (σ : am_S), k + m = n → s ≤ k → m < fuel → tcM b n σ → (∀ i, i < n → b i < 256) → (∀ j, s ≤ j → j < k → clsN (b j) = 2) → σ.1 5 40 0 28 = nI k → σ.1 5 40 0 30 = nI s → σ.1 5 40 0 31 = nI (fgF b s (k - s)) → ∃ τ, lp_X8_look_149 fuel 5 σ = some τ ∧ fr (fun o kk i j => o = 5 ∧ kk = 40 ∧ i = 0 ∧ (j = 28 ∨ j = 31)) σ τ ∧ τ.1 5 40 0 28 = nI (fsN (fun j => !decide (clsN (b j) = 2)) m k) ∧ τ.1 5 40 0 31 = nI (fgF b s (fsN (fun j => !decide (clsN (b j) = 2)) m k - s)) := by
  intro m
  induction m with
  | zero =>
    intro k fuel σ hs hsk hf hc hb hd h5 h30 h31
    obtain ⟨f, rfl⟩ : ∃ f, fuel = f + 1 := ⟨fuel - 1, by omega⟩
    refine ⟨σ, ?_, fr.rf, h5, h31⟩
    rw [lp_X8_look_149.eq_2]
    unfold lb_X8_look_149
    rw [hc.1, h5, if_pos (pt (n_le_t (by omega) (by omega)))]
  | succ m ih =>
    intro k fuel σ hs hsk hf hc hb hd h5 h30 h31
    obtain ⟨f, rfl⟩ : ∃ f, fuel = f + 1 := ⟨fuel - 1, by omega⟩
    have hbk := hb k (by omega)
    rw [lp_X8_look_149.eq_2]
    unfold lb_X8_look_149 jn_X8_look_215
    rw [hc.1, h5, if_neg (nf (n_le_f (by omega) (by omega))), n_in_t (show k < 250 by omega) (by omega), cond_true, n_cl (by omega), hc.2 k (by omega), m_dig hbk, Option.bind_some]
    dsimp only
    rw [h5, h30, h31, bI_0, n_suc, n_sub hsk, z3, i_le (by omega) (by omega), n_in_t (show k < 250 by omega) (by omega), cond_true, n_cl (by omega), hc.2 k (by omega)]
    by_cases c : clsN (b k) = 2
    · rw [decide_eq_true c, cond_true, fs_2 (by simp [c])]
      have hbc := cls_2 c
      have go : ∀ x, x = fgF b s (k + 1 - s) → ∃ τ, lp_X8_look_149 f 5 (am_u (am_u σ 5 40 0 31 (nI x)) 5 40 0 28 (nI (k + 1))) = some τ ∧ fr (fun o kk i j => o = 5 ∧ kk = 40 ∧ i = 0 ∧ (j = 28 ∨ j = 31)) σ τ ∧ τ.1 5 40 0 28 = nI (fsN (fun j => !decide (clsN (b j) = 2)) m (k + 1)) ∧ τ.1 5 40 0 31 = nI (fgF b s (fsN (fun j => !decide (clsN (b j) = 2)) m (k + 1) - s)) := fun x hx => by
        have f2 : fr (fun o kk i j => o = 5 ∧ kk = 40 ∧ i = 0 ∧ (j = 28 ∨ j = 31)) σ (am_u (am_u σ 5 40 0 31 (nI x)) 5 40 0 28 (nI (k + 1))) := (fr.u ⟨rfl, rfl, rfl, by omega⟩).tr (fr.u ⟨rfl, rfl, rfl, by omega⟩)
        obtain ⟨τ, e1, e2, e3⟩ := ih (k + 1) f (am_u (am_u σ 5 40 0 31 (nI x)) 5 40 0 28 (nI (k + 1))) (by omega) (by omega) (by omega) (hc.fr f2 (fun _ _ _ q => by omega)) hb (fun j h1 h2 => by
          by_cases d : j = k
          · rw [d]; exact c
          · exact hd j h1 (by omega)) u_at (by rw [u_ne (by omega), u_ne (by omega)]; exact h30) (by rw [u_ne (by omega), u_at, hx])
        exact ⟨τ, e1, f2.tr e2, e3⟩
      by_cases d : 3 ≤ k - s
      · rw [if_pos d]
        refine go 10000 ?_
        unfold fgF
        rw [if_neg (by omega)]
      · rw [if_neg d]
        have hx : nmN b s (k - s) < 1000 := by
          have h1 := nm_lt (b := b) (s := s) (l := k - s) (fun j hj => (cls_2 (hd (s + j) (by omega) (by omega))).2)
          have h2 : 10 ^ (k - s) ≤ 10 ^ 3 := Nat.pow_le_pow_right (by decide) (by omega)
          omega
        have e1 : fgF b s (k - s) = nmN b s (k - s) := if_pos (by omega)
        have e2 : fgF b s (k + 1 - s) = nmN b s (k - s) * 10 + (b k - 48) := by
          unfold fgF
          rw [if_pos (by omega), show k + 1 - s = (k - s) + 1 by omega]
          show nmN b s (k - s) * 10 + (b (s + (k - s)) - 48) = _
          rw [show s + (k - s) = k by omega]
        have e3 : nI (fgF b s (k - s)) * 10 + nI (b k) - 48 = nI (fgF b s (k + 1 - s)) := by
          rw [e1, e2, z10, n_mul, nI_add, show (48 : Int32) = nI 48 from rfl, n_sub (by omega)]
          congr 1
          omega
        rw [e3]
        exact go _ rfl
    · rw [decide_eq_false c, cond_false, fs_1 (by simp [c])]
      exact ⟨σ, rfl, fr.rf, h5, h31⟩
theorem m_look (hn : n ≤ 250) (hc : tcM b n σ) (hb : ∀ i, i < n → b i < 256) (he : e ≤ n) (h6 : σ.1 5 40 0 28 = nI e) : ∃ τ, fn_X8_look 5 σ = some τ ∧ fr FM σ τ ∧ rT b n τ e := by
  obtain ⟨τ, e1, e2, e3⟩ := m_l0 hn (n - e) e 1000 σ (by omega) (by omega) hc hb h6
  have f1 : fr FM σ τ := e2.mono fun o k i j q => by unfold FM; omega
  have hcτ : tcM b n τ := hc.fr f1 (fun _ _ _ q => by unfold FM at q; omega)
  have e3 : τ.1 5 40 0 28 = nI (skN b n e) := e3
  have hs := sk_le (b := b) he
  have fin : ∃ ρ, jn_X8_look_38 5 τ = some ρ ∧ fr FM τ ρ ∧ rT b n ρ e := by
    unfold rT
    generalize hs' : skN b n e = s at e3 hs
    have f2 : fr FM τ (am_u (am_u τ 5 40 0 30 (nI s)) 5 40 0 31 0) := (fr.u ⟨rfl, rfl, rfl, by omega⟩).tr (fr.u ⟨rfl, rfl, rfl, by omega⟩)
    have hcτ2 : tcM b n (am_u (am_u τ 5 40 0 30 (nI s)) 5 40 0 31 0) := hcτ.fr f2 (fun _ _ _ q => by unfold FM at q; omega)
    have g28 : (am_u (am_u τ 5 40 0 30 (nI s)) 5 40 0 31 0).1 5 40 0 28 = nI s := by rw [u_ne (by omega), u_ne (by omega)]; exact e3
    have g30 : (am_u (am_u τ 5 40 0 30 (nI s)) 5 40 0 31 0).1 5 40 0 30 = nI s := by rw [u_ne (by omega), u_at]
    have g31 : (am_u (am_u τ 5 40 0 30 (nI s)) 5 40 0 31 0).1 5 40 0 31 = nI 0 := u_at
    unfold jn_X8_look_38 jn_X8_look_251
    rw [hcτ.1, e3, i_eq (by omega) (by omega)]
    generalize hρ : am_u (am_u τ 5 40 0 30 (nI s)) 5 40 0 31 0 = ρ0 at f2 hcτ2 g28 g30 g31
    by_cases c : s = n
    · rw [if_pos c]
      have k0 : kdN b n s = 0 := by rw [c, kd_n]
      refine ⟨am_u ρ0 5 40 0 29 0, rfl, f2.tr (fr.u ⟨rfl, rfl, rfl, by omega⟩), ?_, ?_, ?_, ?_⟩
      · rw [u_ne (by omega), g28, c, en_n]
      · rw [u_at, k0]; rfl
      · rw [u_ne (by omega), g30]
      · rw [u_ne (by omega), g31]
        unfold fiN
        rw [k0]
        rfl
    · have hlt : s < n := by omega
      have hbs := hb s hlt
      rw [if_neg c, n_in_t (show s < 250 by omega) (by omega), cond_true, n_cl (by omega), hcτ.2 s hlt, m_let hbs, Option.bind_some]
      dsimp only
      rw [bI_0, g28, n_in_t (show s < 250 by omega) (by omega), cond_true, n_cl (by omega), hcτ2.2 s hlt, m_dig hbs, Option.bind_some]
      dsimp only
      rw [bI_0, g28, n_in_t (show s < 250 by omega) (by omega), cond_true, n_cl (by omega), hcτ2.2 s hlt]
      have hkd := kd_i (b := b) hlt
      by_cases c1 : clsN (b s) = 1
      · rw [decide_eq_true c1, cond_true]
        have f3 : fr FM τ (am_u ρ0 5 40 0 29 1) := f2.tr (fr.u ⟨rfl, rfl, rfl, by omega⟩)
        obtain ⟨θ, d1, d2, d3⟩ := m_l90 hn (n - s) s 1000 (am_u ρ0 5 40 0 29 1) (by omega) (by omega) (hcτ.fr f3 (fun _ _ _ q => by unfold FM at q; omega)) hb (by rw [u_ne (by omega)]; exact g28)
        refine ⟨θ, d1, f3.tr (d2.mono fun o k i j q => by unfold FM; omega), ?_, ?_, ?_, ?_⟩
        · rw [d3]
          unfold enN
          rw [if_neg c, c1, if_pos (Or.inl rfl)]
        · rw [(d2 5 40 0 29 (by omega)).1, u_at, hkd, c1]; rfl
        · rw [(d2 5 40 0 30 (by omega)).1, u_ne (by omega), g30]
        · rw [(d2 5 40 0 31 (by omega)).1, u_ne (by omega), g31]
          unfold fiN
          rw [hkd, c1]
          rfl
      · rw [decide_eq_false c1, cond_false]
        by_cases c2 : clsN (b s) = 2
        · rw [decide_eq_true c2, cond_true]
          have f3 : fr FM τ (am_u ρ0 5 40 0 29 2) := f2.tr (fr.u ⟨rfl, rfl, rfl, by omega⟩)
          obtain ⟨θ, d1, d2, d3, d4⟩ := m_l149 hn hs.2 (n - s) s 1000 (am_u ρ0 5 40 0 29 2) (by omega) (Nat.le_refl _) (by omega) (hcτ.fr f3 (fun _ _ _ q => by unfold FM at q; omega)) hb (fun j h1 h2 => by omega) (by rw [u_ne (by omega)]; exact g28) (by rw [u_ne (by omega)]; exact g30) (by rw [u_ne (by omega), g31, Nat.sub_self]; rfl)
          have een : enN b n s = fsN (fun j => !decide (clsN (b j) = 2)) (n - s) s := by
            unfold enN
            rw [if_neg c, c2, if_pos (Or.inr rfl)]
          refine ⟨θ, d1, f3.tr (d2.mono fun o k i j q => by unfold FM; omega), ?_, ?_, ?_, ?_⟩
          · rw [d3, een]
          · rw [(d2 5 40 0 29 (by omega)).1, u_at, hkd, c2]; rfl
          · rw [(d2 5 40 0 30 (by omega)).1, u_ne (by omega), g30]
          · rw [d4]
            unfold fiN
            rw [hkd, if_pos c2, een]
        · rw [decide_eq_false c2, cond_false, show (59 : Int32) = nI 59 from rfl, i_eq (by omega) (by omega)]
          have een : enN b n s = s + 1 := by
            unfold enN
            rw [if_neg c, if_neg (by omega)]
          have efi : fiN b n s = 0 := by
            unfold fiN
            rw [hkd, if_neg c2]
          have go : ∀ y : Int32, y = nI (clsN (b s)) → ∃ ρ, some (am_u (am_u ρ0 5 40 0 29 y) 5 40 0 28 (nI s + 1)) = some ρ ∧ fr FM τ ρ ∧ ρ.1 5 40 0 28 = nI (enN b n s) ∧ ρ.1 5 40 0 29 = nI (kdN b n s) ∧ ρ.1 5 40 0 30 = nI s ∧ ρ.1 5 40 0 31 = nI (fiN b n s) := fun y hy => by
            refine ⟨_, rfl, f2.tr ((fr.u ⟨rfl, rfl, rfl, by omega⟩).tr (fr.u ⟨rfl, rfl, rfl, by omega⟩)), ?_, ?_, ?_, ?_⟩
            · rw [u_at, n_suc, een]
            · rw [u_ne (by omega), u_at, hy, hkd]
            · rw [u_ne (by omega), u_ne (by omega), g30]
            · rw [u_ne (by omega), u_ne (by omega), g31, efi]
          have hnl : ¬ (97 ≤ b s ∧ b s ≤ 122) := fun q => c1 (if_pos q)
          have hnd : ¬ (48 ≤ b s ∧ b s ≤ 57) := fun q => c2 (by unfold clsN; rw [if_neg hnl, if_pos q])
          by_cases c3 : b s = 59
          · rw [if_pos c3]
            exact go 3 (by rw [c3]; rfl)
          · rw [if_neg c3]
            refine go 4 ?_
            unfold clsN
            rw [if_neg hnl, if_neg hnd, if_neg c3]
            rfl
  obtain ⟨ρ, d1, d2, d3⟩ := fin
  refine ⟨ρ, ?_, f1.tr d2, d3⟩
  unfold fn_X8_look
  rw [e1]
  exact d1
end PTK
