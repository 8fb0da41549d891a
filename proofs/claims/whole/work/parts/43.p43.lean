/-! ===== frames of the parts ===== -/
def sh0 (σ : am_S) (s : Nat) : Prop := σ.1 10 10 0 s = mI ∧ σ.1 5 41 0 s = nI 0
def sh1 (σ : am_S) (s t n : Nat) : Prop := t < 5 ∧ n ≤ 40 ∧ σ.1 10 10 0 s = nI t ∧ σ.1 10 11 0 s = nI n ∧ σ.1 5 41 0 s = nI 1 ∧ σ.1 5 42 0 s = nI t ∧ σ.1 5 43 0 s = nI n ∧ ∀ i, i < 40 → σ.2 10 13 s i = σ.2 5 45 s i
def sh2 (A : pu_L) (σ : am_S) (s p : Nat) : Prop := p < lne A ∧ σ.1 10 10 0 s = nI (10 + p) ∧ σ.1 5 41 0 s = nI 2 ∧ σ.1 5 47 0 s = nI p
theorem pu_s1_of {A : pu_L} {σ : am_S} {s : Nat} : pu_s1 A σ s ↔ (sh0 σ s ∨ (∃ t n, sh1 σ s t n) ∨ ∃ p, sh2 A σ s p) := Iff.rfl
section PFR
variable {S : Nat → Nat → Nat → Nat → Prop} {A B : pu_L} {σ σ' : am_S}
theorem fr.h0 (h : fr S σ σ') {s : Nat} (hS : ∀ k, k = 10 ∨ k = 11 → ¬ S 10 k 0 s) (hT : ∀ k, k = 41 ∨ k = 42 ∨ k = 43 ∨ k = 47 → ¬ S 5 k 0 s) (hq : sh0 σ s) : sh0 σ' s := by
  unfold sh0 at hq ⊢
  rw [(h _ _ _ _ (hS 10 (by omega))).1, (h _ _ _ _ (hT 41 (by omega))).1]
  exact hq
theorem fr.h1 (h : fr S σ σ') {s t n : Nat} (hS : ∀ k, k = 10 ∨ k = 11 → ¬ S 10 k 0 s) (hT : ∀ k, k = 41 ∨ k = 42 ∨ k = 43 ∨ k = 47 → ¬ S 5 k 0 s) (hU : ∀ i, i < 40 → ¬ S 10 13 s i ∧ ¬ S 5 45 s i) (hq : sh1 σ s t n) : sh1 σ' s t n := by
  unfold sh1 at hq ⊢
  rw [(h _ _ _ _ (hS 10 (by omega))).1, (h _ _ _ _ (hS 11 (by omega))).1, (h _ _ _ _ (hT 41 (by omega))).1, (h _ _ _ _ (hT 42 (by omega))).1, (h _ _ _ _ (hT 43 (by omega))).1]
  obtain ⟨a1, a2, a3, a4, a5, a6, a7, a8⟩ := hq
  refine ⟨a1, a2, a3, a4, a5, a6, a7, fun i hi => ?_⟩
  rw [(h _ _ _ _ (hU i hi).1).2, (h _ _ _ _ (hU i hi).2).2]
  exact a8 i hi
theorem fr.h2 (h : fr S σ σ') {s p : Nat} (hS : ∀ k, k = 10 ∨ k = 11 → ¬ S 10 k 0 s) (hT : ∀ k, k = 41 ∨ k = 42 ∨ k = 43 ∨ k = 47 → ¬ S 5 k 0 s) (hle : lne A ≤ lne B) (hq : sh2 A σ s p) : sh2 B σ' s p := by
  unfold sh2 at hq ⊢
  rw [(h _ _ _ _ (hS 10 (by omega))).1, (h _ _ _ _ (hT 41 (by omega))).1, (h _ _ _ _ (hT 47 (by omega))).1]
  exact ⟨by omega, hq.2⟩
theorem fr.s1 (h : fr S σ σ') {s : Nat} (hS : ∀ k, k = 10 ∨ k = 11 → ¬ S 10 k 0 s) (hT : ∀ k, k = 41 ∨ k = 42 ∨ k = 43 ∨ k = 47 → ¬ S 5 k 0 s) (hU : ∀ i, i < 40 → ¬ S 10 13 s i ∧ ¬ S 5 45 s i) (hle : lne A ≤ lne B) (hq : pu_s1 A σ s) : pu_s1 B σ' s := by
  rcases pu_s1_of.mp hq with c | ⟨t, n, c⟩ | ⟨p, c⟩
  · exact pu_s1_of.mpr (Or.inl (h.h0 hS hT c))
  · exact pu_s1_of.mpr (Or.inr (Or.inl ⟨t, n, h.h1 hS hT hU c⟩))
  · exact pu_s1_of.mpr (Or.inr (Or.inr ⟨p, h.h2 hS hT hle c⟩))
theorem fr.m1 (h : fr S σ σ') {o : Nat} (hS : ∀ k i j, (50 ≤ k ∧ k < 63) ∨ (k = 40 ∧ (j = 12 ∨ j = 13 ∨ j = 15 ∨ j = 24 ∨ j = 25)) → ¬ S o k i j) (hq : pu_m A o σ) : pu_m A o σ' := by
  obtain ⟨a1, a2, a3, a4, a5, a6, a7, a8⟩ := hq
  refine ⟨fun w hw v hv => ?_, fun r hr j hj => ?_, fun p hp j hj => ?_, ?_, ?_, ?_, ?_, ?_⟩
  · rw [(h _ _ _ _ (hS _ _ _ (by omega))).1]; exact a1 w hw v hv
  · rw [(h _ _ _ _ (hS _ _ _ (by omega))).1]; exact a2 r hr j hj
  · rw [(h _ _ _ _ (hS _ _ _ (by omega))).1]; exact a3 p hp j hj
  · rw [(h _ _ _ _ (hS _ _ _ (by omega))).1]; exact a4
  · rw [(h _ _ _ _ (hS _ _ _ (by omega))).1]; exact a5
  · rw [(h _ _ _ _ (hS _ _ _ (by omega))).1]; exact a6
  · rw [(h _ _ _ _ (hS _ _ _ (by omega))).1]; exact a7
  · rw [(h _ _ _ _ (hS _ _ _ (by omega))).1]; exact a8
theorem fr.gh1 (h : fr S σ σ') (hS : ∀ o j, (o = 5 ∨ o = 99) → (j = 26 ∨ j = 27) → ¬ S o 40 0 j) (hq : pu_gh σ) : pu_gh σ' := by
  unfold pu_gh
  rw [(h _ _ _ _ (hS 5 26 (by omega) (by omega))).1, (h _ _ _ _ (hS 5 27 (by omega) (by omega))).1, (h _ _ _ _ (hS 99 26 (by omega) (by omega))).1, (h _ _ _ _ (hS 99 27 (by omega) (by omega))).1]
  exact hq
theorem fr.tp1 (h : fr S σ σ') (hS : ∀ o k j, (o = 11 ∧ k = 14 ∧ j = 2) ∨ (o = 5 ∧ k = 40 ∧ j = 7) ∨ (o = 11 ∧ k = 15) ∨ (o = 5 ∧ k = 48) → ¬ S o k 0 j) (hq : pu_tp σ) : pu_tp σ' := by
  obtain ⟨n, t1, t2, t3, t4⟩ := hq
  refine ⟨n, t1, ?_, ?_, fun i hi => ?_⟩
  · rw [(h _ _ _ _ (hS 11 14 2 (by omega))).1]; exact t2
  · rw [(h _ _ _ _ (hS 5 40 7 (by omega))).1]; exact t3
  · rw [(h _ _ _ _ (hS 11 15 i (by omega))).1, (h _ _ _ _ (hS 5 48 i (by omega))).1]; exact t4 i hi
theorem fr.kp1 (h : fr S σ σ') (hS : ∀ o k i j, (o = 0 ∧ k = 0) ∨ (o = 5 ∧ k = 40 ∧ j = 26) ∨ o = 2 ∨ (o = 6 ∧ k < 63 ∧ k ≠ 46 ∧ k ≠ 49 ∧ (k = 40 → j < 28)) → ¬ S o k i j) (hq : pu_kp σ) : pu_kp σ' := by
  rcases hq with ⟨h1, h2⟩ | ⟨h1, h2, K, h3, h4, h5⟩
  · left
    rw [(h _ _ _ _ (hS 0 0 0 2 (by omega))).1, (h _ _ _ _ (hS 5 40 0 26 (by omega))).1]
    exact ⟨h1, h2⟩
  · right
    rw [(h _ _ _ _ (hS 0 0 0 2 (by omega))).1, (h _ _ _ _ (hS 5 40 0 26 (by omega))).1]
    exact ⟨h1, h2, K, h3, h.c (o := 2) (fun k i j => hS _ _ _ _ (by omega)) h4, h.m (o := 6) (fun k i j h1 h2 h2' h3 => hS _ _ _ _ (by omega)) h5⟩
theorem fr.rf1 (h : fr S σ σ') (hS : ∀ o k j, (o = 0 ∧ k = 1) ∨ (o = 5 ∧ k = 49) → ¬ S o k 0 j) (hq : pu_rf σ) : pu_rf σ' := fun k hk => by
  rw [(h _ _ _ _ (hS 0 1 k (by omega))).1, (h _ _ _ _ (hS 5 49 (k + 2) (by omega))).1]
  exact hq k hk
/-- a change of the shelves -/
def SH : Nat → Nat → Nat → Nat → Prop := fun o k i j => SX o k i j ∨ o = 10 ∨ (o = 5 ∧ 41 ≤ k ∧ k ≤ 47)
theorem fr.IH (h : fr SH σ σ') (hI : pu_I A σ) (hs : pu_sh A σ') : pu_I A σ' := by
  obtain ⟨⟨h1, h2, h3, h4, h5, h6, h7⟩, h8⟩ := hI
  exact ⟨⟨h1, h.c (fun k i j q => by unfold SH SX at q; omega) h2, h.m1 (fun k i j _ q => by unfold SH SX at q; omega) h3, h.kp1 (fun o k i j _ q => by unfold SH SX at q; omega) h4, h.gh1 (fun o j _ _ q => by unfold SH SX at q; omega) h5, h.tp1 (fun o k j _ q => by unfold SH SX at q; omega) h6, hs⟩, h.rf1 (fun o k j _ q => by unfold SH SX at q; omega) h8⟩
/-- a change of one shelf -/
def SHs (s : Nat) : Nat → Nat → Nat → Nat → Prop := fun o k i j => (o = 10 ∧ ((k < 13 ∧ j = s) ∨ (13 ≤ k ∧ i = s))) ∨ (o = 5 ∧ 41 ≤ k ∧ k ≤ 47 ∧ ((k ≠ 45 ∧ j = s) ∨ (k = 45 ∧ i = s) ∨ k = 46))
theorem SHs_H {s : Nat} : ∀ o k i j, SHs s o k i j → SH o k i j := fun o k i j q => by unfold SHs at q; unfold SH; omega
theorem fr.IHs {s : Nat} (h : fr (SHs s) σ σ') (hI : pu_I A σ) (hs : pu_s1 A σ' s) : pu_I A σ' := by
  refine (h.mono SHs_H).IH hI fun t ht => ?_
  by_cases c : t = s
  · subst c; exact hs
  · exact h.s1 (fun k hk q => by unfold SHs at q; omega) (fun k hk q => by unfold SHs at q; omega) (fun i _ => ⟨fun q => by unfold SHs at q; omega, fun q => by unfold SHs at q; omega⟩) (Nat.le_refl _) (hI.1.2.2.2.2.2.2 t ht)
/-- a change of the land -/
def SLn : Nat → Nat → Nat → Nat → Prop := fun o k i j => SX o k i j ∨ o = 1 ∨ (o = 5 ∧ ((50 ≤ k ∧ k < 63) ∨ (k = 40 ∧ (j = 12 ∨ j = 13 ∨ j = 15 ∨ j = 24 ∨ j = 25))))
theorem fr.IL (h : fr SLn σ σ') (hI : pu_I A σ) (hk : pu_k B) (hc : pu_c B 1 σ') (hm : pu_m B 5 σ') (hle : lne A ≤ lne B) : pu_I B σ' := by
  obtain ⟨⟨h1, h2, h3, h4, h5, h6, h7⟩, h8⟩ := hI
  exact ⟨⟨hk, hc, hm, h.kp1 (fun o k i j _ q => by unfold SLn SX at q; omega) h4, h.gh1 (fun o j _ _ q => by unfold SLn SX at q; omega) h5, h.tp1 (fun o k j _ q => by unfold SLn SX at q; omega) h6, fun s hs => h.s1 (fun k _ q => by unfold SLn SX at q; omega) (fun k _ q => by unfold SLn SX at q; omega) (fun i _ => ⟨fun q => by unfold SLn SX at q; omega, fun q => by unfold SLn SX at q; omega⟩) hle (h7 s hs)⟩, h.rf1 (fun o k j _ q => by unfold SLn SX at q; omega) h8⟩
/-- a change of the draft -/
def STp : Nat → Nat → Nat → Nat → Prop := fun o k i j => SX o k i j ∨ (o = 11 ∧ (k = 15 ∨ (k = 14 ∧ j = 2))) ∨ (o = 5 ∧ (k = 48 ∨ (k = 40 ∧ j = 7)))
theorem fr.IT (h : fr STp σ σ') (hI : pu_I A σ) (ht : pu_tp σ') : pu_I A σ' := by
  obtain ⟨⟨h1, h2, h3, h4, h5, h6, h7⟩, h8⟩ := hI
  exact ⟨⟨h1, h.c (fun k i j q => by unfold STp SX at q; omega) h2, h.m1 (fun k i j _ q => by unfold STp SX at q; omega) h3, h.kp1 (fun o k i j _ q => by unfold STp SX at q; omega) h4, h.gh1 (fun o j _ _ q => by unfold STp SX at q; omega) h5, ht, fun s hs => h.s1 (fun k _ q => by unfold STp SX at q; omega) (fun k _ q => by unfold STp SX at q; omega) (fun i _ => ⟨fun q => by unfold STp SX at q; omega, fun q => by unfold STp SX at q; omega⟩) (Nat.le_refl _) (h7 s hs)⟩, h.rf1 (fun o k j _ q => by unfold STp SX at q; omega) h8⟩
theorem SJ_hS {s : Nat} : ∀ k, k = 10 ∨ k = 11 → ¬ SJ 10 k 0 s := fun k _ q => by unfold SJ SX at q; omega
theorem SJ_hT {s : Nat} : ∀ k, k = 41 ∨ k = 42 ∨ k = 43 ∨ k = 47 → ¬ SJ 5 k 0 s := fun k _ q => by unfold SJ SX at q; omega
theorem SJ_hU {s : Nat} : ∀ i, i < 40 → ¬ SJ 10 13 s i ∧ ¬ SJ 5 45 s i := fun i _ => ⟨fun q => by unfold SJ SX at q; omega, fun q => by unfold SJ SX at q; omega⟩
end PFR
/-- a question that the class answers without a change -/
theorem pv_q0 {α : Type} {A : pu_L} {σ : am_S} (hI : pu_I A σ) {r : α} {f7 : Option (α × am_S)} {f8 : am_S → Option (α × am_S)} (h7 : f7 = some (r, σ)) (h8 : ∃ σ2, f8 σ = some (r, σ2) ∧ fr SX σ σ2) : ∃ (r : α) (σ1 σ2 : am_S), f7 = some (r, σ1) ∧ f8 σ1 = some (r, σ2) ∧ pu_Inv σ2 := by
  obtain ⟨σ2, e1, e2⟩ := h8
  exact ⟨r, σ, σ2, h7, e1, A, e2.I (fun _ _ _ _ h => h) hI⟩
/-- a refusal whose reason the reference finds behind the class's count -/
theorem pv_t {A : pu_L} {σ : am_S} (hI : pu_I A σ) (k : Nat) (hk : k < 5) {f7 : Option (Int32 × am_S)} {f8 : am_S → Option (Int32 × am_S)} (h7 : f7 = fn_X7_refuse (-nI (k + 2)) σ) (h8 : ∀ σ1, pu_J A σ1 → fr SJ σ σ1 → f8 σ1 = fn_X8_refuse 5 (-nI (k + 2)) σ1) : ∃ (r : Int32) (σ1 σ2 : am_S), f7 = some (r, σ1) ∧ f8 σ1 = some (r, σ2) ∧ pu_Inv σ2 := by
  have c1 : fn_X7_refuse (-nI (k + 2)) σ = some (-nI (k + 2), am_u σ 0 1 0 k (σ.1 0 1 0 k + 1)) := by
    rcases (show k = 0 ∨ k = 1 ∨ k = 2 ∨ k = 3 ∨ k = 4 by omega) with rfl | rfl | rfl | rfl | rfl
    · exact c_rf2
    · exact c_rf3
    · exact c_rf4
    · exact c_rf5
    · exact c_rf6
  have f1 : fr SJ σ (am_u σ 0 1 0 k (σ.1 0 1 0 k + 1)) := fr.u (Or.inr (Or.inl ⟨rfl, rfl⟩))
  have m1 : ∀ τ, fn_X8_refuse 5 (-nI (k + 2)) τ = some (-nI (k + 2), am_u τ 5 49 0 (k + 2) (τ.1 5 49 0 (k + 2) + 1)) := fun τ => by
    rcases (show k = 0 ∨ k = 1 ∨ k = 2 ∨ k = 3 ∨ k = 4 by omega) with rfl | rfl | rfl | rfl | rfl
    · exact m_rf2
    · exact m_rf3
    · exact m_rf4
    · exact m_rf5
    · exact m_rf6
  have j1 := f1.J (fun _ _ _ _ h => h) hI.1
  have f4 : fr SJ (am_u σ 0 1 0 k (σ.1 0 1 0 k + 1)) (am_u (am_u σ 0 1 0 k (σ.1 0 1 0 k + 1)) 5 49 0 (k + 2) ((am_u σ 0 1 0 k (σ.1 0 1 0 k + 1)).1 5 49 0 (k + 2) + 1)) := fr.u (Or.inr (Or.inr ⟨rfl, rfl⟩))
  refine ⟨_, _, _, h7.trans c1, (h8 _ j1 f1).trans (m1 _), A, f4.J (fun _ _ _ _ h => h) j1, fun q hq => ?_⟩
  have i2 := hI.2 q hq
  rw [u_ne (by omega)]
  by_cases c : q = k
  · subst c
    rw [u_at, u_at, u_ne (by omega), i2]
  · rw [u_ne (by omega), u_ne (by omega), u_ne (by omega), i2]
