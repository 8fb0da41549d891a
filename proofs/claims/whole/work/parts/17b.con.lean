/-! ===== constructors: contracts, and what is being built ===== -/
theorem am_orow (c : ClassId) (N h0 : Nat) : ∀ i : Nat, Jvm.Free.Multi.outerC c N h0 i = arrV c N (fun j => va_rf (if j < i then some (h0 + 1 + j) else none))
  | 0 => by
    show ({ cls := c, slots := Array.replicate N .null, vm := .none } : Cell) = _
    rw [arrV_new]
    refine congrArg (arrV c N) (funext fun j => ?_)
    simp [va_rf]
  | i + 1 => by
    show (Jvm.Free.Multi.outerC c N h0 i).setSlot i (.ref (h0 + 1 + i)) = _
    rw [am_orow c N h0 i, arrV_store]
    refine congrArg (arrV c N) (funext fun j => ?_)
    by_cases e : j = i
    · subst e
      simp [updV, va_rf]
    · by_cases h : j < i
      · simp [updV, e, h, Nat.lt_succ_of_lt h]
      · simp [updV, e, h, show ¬ j < i + 1 by omega]
theorem am_arrV_ext {c : ClassId} {N : Nat} {f g : Nat → Value} (h : ∀ j, j < N → f j = g j) : arrV c N f = arrV c N g := by
  unfold arrV
  congr 1
  apply Array.ext
  · simp
  · intro i h1 h2
    simp only [Array.getElem_ofFn]
    exact h i (by simpa using h1)
/-- what a field holds before it is set -/
def am_df (k f : Nat) : Value := match am_fd k f with
  | (0, _, _) => .int 0
  | (5, _, _) => .int 0
  | _ => .null
def am_OB (G : am_G) (k a : Nat) (H : Heap) (V : Nat → Value) : Prop := t_OB a (G.1.1 (am_kd k).2.2.2) (am_kd k).2.1 (G.1.2 (am_kd k).2.2.2) H V
/-- the place of a kind's first row among a group's cells, behind the object -/
def am_of (k0 : Nat) : Nat → Nat
  | 0 => 0
  | k + 1 => am_of k0 k + (if k0 < k then (am_kd k).2.2.1 else 0)
theorem am_of_le {k0 : Nat} {a b : Nat} (h : a ≤ b) : am_of k0 a ≤ am_of k0 b := by
  induction h with
  | refl => exact Nat.le_refl _
  | step _ ih => exact Nat.le_trans ih (Nat.le_add_right _ _)
theorem am_of_inj {k0 k i k' i' : Nat} (hk : k0 < k) (hk' : k0 < k') (hi : i < (am_kd k).2.2.1) (hi' : i' < (am_kd k').2.2.1) (h : am_of k0 k + i = am_of k0 k' + i') : k = k' ∧ i = i' := by
  have e1 : am_of k0 (k + 1) = am_of k0 k + (am_kd k).2.2.1 := by show am_of k0 k + (if k0 < k then (am_kd k).2.2.1 else 0) = _; rw [if_pos hk]
  have e2 : am_of k0 (k' + 1) = am_of k0 k' + (am_kd k').2.2.1 := by show am_of k0 k' + (if k0 < k' then (am_kd k').2.2.1 else 0) = _; rw [if_pos hk']
  rcases Nat.lt_trichotomy k k' with q | q | q
  · have := am_of_le (k0 := k0) (show k + 1 ≤ k' from q)
    omega
  · subst q
    exact ⟨rfl, by omega⟩
  · have := am_of_le (k0 := k0) (show k' + 1 ≤ k from q)
    omega
/-- the map with a group more: its object at a, its rows from b on -/
def am_nG (G : am_G) (o k0 a b : Nat) : am_G := (G.1, G.2.1, fun o' k i => if o' = o then (if k = k0 then a else b + am_of k0 k + i) else G.2.2.1 o' k i, fun o' => if o' = o then true else G.2.2.2 o')
theorem am_nG_o {G : am_G} {o k0 a b : Nat} {k i : Nat} (h : k ≠ k0) : am_ad (am_nG G o k0 a b) o k i = b + am_of k0 k + i := by
  show (if o = o then (if k = k0 then a else b + am_of k0 k + i) else G.2.2.1 o k i) = _
  rw [if_pos rfl, if_neg h]
theorem am_nG_a {G : am_G} {o k0 a b : Nat} {i : Nat} : am_ad (am_nG G o k0 a b) o k0 i = a := by
  show (if o = o then (if k0 = k0 then a else b + am_of k0 k0 + i) else G.2.2.1 o k0 i) = _
  rw [if_pos rfl, if_pos rfl]
theorem am_nG_ne {G : am_G} {o k0 a b : Nat} {o' k i : Nat} (h : o' ≠ o) : am_ad (am_nG G o k0 a b) o' k i = am_ad G o' k i := if_neg h
theorem am_nG_ag {G : am_G} {o k0 a b : Nat} (ho : G.2.2.2 o = false) : am_ag G (am_nG G o k0 a b) := by
  refine ⟨rfl, rfl, fun o' h => ?_⟩
  have hne : o' ≠ o := fun e => by rw [e, ho] at h; cases h
  exact ⟨(if_neg hne).trans h, fun k i => am_nG_ne hne⟩
/-- other cells as they were, more cells: the world stays -/
theorem am_W.grow {G : am_G} {σ : am_S} {U : State} {H H1 : Heap} (h : am_W G σ U H) (hz : H.size ≤ H1.size) (hq : ∀ o k i, am_lv G o k i → H1[am_ad G o k i]? = H[am_ad G o k i]?) (hC : ∀ q, q < H.size → ¬ am_zf G q → H1[q]? = H[q]?) : am_W G σ U H1 := by
  refine ⟨fun o k i hl => (h.1 o k i hl).kept (hq o k i hl), ⟨h.2.1.1, fun o k i hl => Nat.lt_of_lt_of_le (h.2.1.2 o k i hl) hz⟩, h.2.2.1, ?_⟩
  have c := h.2.2.2
  exact ⟨⟨va_Z.kept c.1.1 hC, va_Z.kept c.1.2.1 hC, fun k h1 h2 => va_T.kept (c.1.2.2 k h1 h2) hC⟩, vk_S.kept c.2.1 hC, va_Z.kept c.2.2.1 hC, va_Zq.kept c.2.2.2.1 hC, c.2.2.2.2⟩
/-- the contents of groups that aren't made are free -/
theorem am_W.sig {G : am_G} {σ σ' : am_S} {U : State} {H : Heap} (h : am_W G σ U H) (hs : ∀ o, (G.2.2.2 o = true ∨ o = 99) → ∀ k i j, σ'.1 o k i j = σ.1 o k i j ∧ σ'.2 o k i j = σ.2 o k i j) : am_W G σ' U H := by
  refine ⟨fun o k i hl => ?_, h.2.1, ⟨fun o h1 h2 => ?_, by rw [(hs 99 (Or.inr rfl) 40 0 26).1, (hs 99 (Or.inr rfl) 40 0 27).1]; exact h.2.2.1.2⟩, h.2.2.2⟩
  · have h0 := h.1 o k i hl
    have e1 : ∀ j, σ'.1 o k i j = σ.1 o k i j := fun j => (hs o (Or.inl hl.1) k i j).1
    have e2 : ∀ j, σ'.2 o k i j = σ.2 o k i j := fun j => (hs o (Or.inl hl.1) k i j).2
    unfold am_at at h0 ⊢
    split at h0
    · refine t_OB.to h0 fun f _ => ?_
      have e3 : ∀ j, σ'.1 o k 0 j = σ.1 o k 0 j := fun j => (hs o (Or.inl hl.1) k 0 j).1
      unfold am_fv
      split <;> simp only [e3]
    · simp only [e1]; exact h0
    · simp only [e2]; exact h0
    · simp only [e1]; exact h0
    · exact h0
    · exact h0
    · exact h0
    · trivial
  · rw [(hs o (Or.inl h1) 40 0 26).1, (hs o (Or.inl h1) 40 0 27).1]
    exact h.2.2.1.1 o h1 h2
def am_fdc : Bool := (List.range 77).all fun k => !((am_kd k).1 == 0) || (List.range (am_kd k).2.1).all fun f => (am_fd k f).1 == 0 || ((am_fd k f).1 == 5 || ((am_fd k f).1 == 1 || ((am_fd k f).1 == 2 || (k == 40 && (f == 26 && am_fd k f == (3, 6, 40) || f == 27 && am_fd k f == (3, 7, 40))))))
set_option maxRecDepth 100000 in
theorem am_fdc_ok : am_fdc = true := by decide +kernel
theorem am_fd_ok {k : Nat} (h1 : k < 77) (h2 : (am_kd k).1 = 0) {f : Nat} (h3 : f < (am_kd k).2.1) : (am_fd k f).1 = 0 ∨ (am_fd k f).1 = 5 ∨ (am_fd k f).1 = 1 ∨ (am_fd k f).1 = 2 ∨ (k = 40 ∧ ((f = 26 ∧ am_fd k f = (3, 6, 40)) ∨ (f = 27 ∧ am_fd k f = (3, 7, 40)))) := by
  have h := am_fdc_ok
  unfold am_fdc at h
  have h := List.all_eq_true.mp h k (List.mem_range.mpr h1)
  simp only [h2, Bool.or_eq_true] at h
  rcases h with h | h
  · cases h
  · have h := List.all_eq_true.mp h f (List.mem_range.mpr h3)
    simpa using h
theorem am_kd_lt : ∀ k, k < 77 → (am_kd k).1 = 0 → (am_kd k).2.1 ≤ 48 := by decide +kernel
/-- a field's value where the map has grown -/
theorem am_fv_ag {G G1 : am_G} (hag : am_ag G G1) (hcd : am_cd G) {σ : am_S} {o k f : Nat} (ho : G.2.2.2 o = true) (hok : am_ok o k = true) (h0 : (am_kd k).1 = 0) (hf : f < (am_kd k).2.1) (h3 : k = 40 → (σ.1 o 40 0 26 ≠ 0 → G.2.2.2 6 = true) ∧ (σ.1 o 40 0 27 ≠ 0 → G.2.2.2 7 = true)) : am_fv G1 σ o k f = am_fv G σ o k f := by
  have hk77 := (am_ok_lt hok).2
  have hch := am_chk_at hok
  rw [Bool.and_eq_true] at hch
  have hch1 := List.all_eq_true.mp hch.1 f (List.mem_range.mpr (Nat.lt_of_lt_of_le hf (am_kd_lt k hk77 h0)))
  have hcs := am_fd_ok hk77 h0 hf
  unfold am_fv
  generalize am_fd k f = z at hch1 hcs
  obtain ⟨t, x, y⟩ := z
  rcases hcs with e | e | e | e | ⟨rfl, e⟩
  · have e : t = 0 := e
    subst e; rfl
  · have e : t = 5 := e
    subst e; rfl
  · have e : t = 1 := e
    subst e
    exact congrArg Value.ref ((hag.2.2 o ho).2 x 0)
  · have e : t = 2 := e
    subst e
    simp only [Bool.and_eq_true] at hch1
    exact congrArg Value.ref ((hag.2.2 x (hcd (o, x) (List.contains_iff_mem.mp hch1.2) ho)).2 y 0)
  · rcases e with ⟨rfl, e⟩ | ⟨rfl, e⟩
    · cases e
      show (if σ.1 o 40 0 26 = 0 then Value.null else .ref (am_ad G1 6 40 0)) = if σ.1 o 40 0 26 = 0 then Value.null else .ref (am_ad G 6 40 0)
      by_cases z : σ.1 o 40 0 26 = 0
      · rw [if_pos z, if_pos z]
      · rw [if_neg z, if_neg z, (hag.2.2 6 ((h3 rfl).1 z)).2]
    · cases e
      show (if σ.1 o 40 0 27 = 0 then Value.null else .ref (am_ad G1 7 40 0)) = if σ.1 o 40 0 27 = 0 then Value.null else .ref (am_ad G 7 40 0)
      by_cases z : σ.1 o 40 0 27 = 0
      · rw [if_pos z, if_pos z]
      · rw [if_neg z, if_neg z, (hag.2.2 7 ((h3 rfl).2 z)).2]
/-- a cell where the map has grown -/
theorem am_at_ag {G G1 : am_G} (hag : am_ag G G1) (hcd : am_cd G) {σ : am_S} {U : State} {H : Heap} (hW : am_W G σ U H) {o k i : Nat} (hl : am_lv G o k i) : am_at G1 σ o k i H := by
  have h := hW.1 o k i hl
  have ha : ∀ k i, am_ad G1 o k i = am_ad G o k i := (hag.2.2 o hl.1).2
  by_cases h0 : (am_kd k).1 = 0
  · rw [am_at0 h0] at h ⊢
    rw [ha, hag.1]
    exact t_OB.to h fun f hf => (am_fv_ag hag hcd hl.1 hl.2.1 h0 hf fun e => by subst e; exact hW.2.2.1.1 o hl.1 hl.2.1).symm
  · unfold am_at at h ⊢
    simp only [ha]
    rw [hag.2.1]
    generalize am_kd k = z at h h0 ⊢
    obtain ⟨t, n, c, x⟩ := z
    split at h
    · rename_i e
      cases e
      exact absurd rfl h0
    all_goals exact h
