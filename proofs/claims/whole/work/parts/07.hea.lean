/-! ===== the heap ===== -/
theorem am_cl_lt : ∀ k, k < 77 → (am_kd k).1 = 0 → (am_kd k).2.2.2 < 9 := by decide +kernel
theorem am_cl_n : ∀ k, k < 77 → (am_kd k).1 = 0 → (am_cl k).2.2 = (am_kd k).2.1 := by decide +kernel
theorem am_cl_own : ∀ k, k < 77 → (am_kd k).1 = 0 → ∀ f, f < (am_kd k).2.1 → ((am_cl k).2.1 f).1 = (am_cl k).1 := by decide +kernel
theorem am_cl_nm : ∀ c, c < 9 → ∀ a, a < (vwCl.getD c (RX0, TX0, 8)).2.2 → ∀ b, b < (vwCl.getD c (RX0, TX0, 8)).2.2 → a ≠ b → ((vwCl.getD c (RX0, TX0, 8)).2.1 a).2.1 ≠ ((vwCl.getD c (RX0, TX0, 8)).2.1 b).2.1 := by decide +kernel
theorem am_cl_ty : ∀ c, c < 9 → ∀ a, a < (vwCl.getD c (RX0, TX0, 8)).2.2 → (parseFieldDescriptor ((vwCl.getD c (RX0, TX0, 8)).2.1 a).2.2.1).isSome = true := by decide +kernel
theorem am_cl_I : ∀ k, k < 77 → (am_kd k).1 = 0 → ∀ f, f < (am_kd k).2.1 → (am_fd k f).1 = 0 → ((am_cl k).2.1 f).2.2.1 = "I" := by decide +kernel
theorem am_cl_Z : ∀ k, k < 77 → (am_kd k).1 = 0 → ∀ f, f < (am_kd k).2.1 → (am_fd k f).1 = 5 → ((am_cl k).2.1 f).2.2.1 = "Z" := by decide +kernel
theorem am_cl_dyn : ∀ f, f < 48 → (am_fd 40 f).1 = 0 ∨ (am_fd 40 f).1 = 5 → f ≠ 26 ∧ f ≠ 27 := by decide +kernel
theorem am_arr8b : ∀ o, o < 19 → ∀ k, k < 77 → (!am_ok o k || !((am_kd k).1 == 2 || (am_kd k).1 == 3 || Nat.ble (k + 1) 34 || Nat.ble 39 k) || decide (o < 16)) = true := by decide +kernel
theorem am_arr8 {o k : Nat} (h : am_ok o k = true) (hk : ((am_kd k).1 == 2 || (am_kd k).1 == 3 || Nat.ble (k + 1) 34 || Nat.ble 39 k) = true)   : o < 16 := by
  have h2 := am_arr8b o (am_ok_lt h).1 k (am_ok_lt h).2
  rw [h, hk] at h2
  exact of_decide_eq_true h2
theorem am_40 : ∀ o, o < 19 → ∀ k, k < 77 → (am_kd k).1 ≠ 0 → k ≠ 40 := by decide +kernel
set_option maxRecDepth 100000 in
theorem am_lays : ∀ c, c < 9 → ∀ w ∈ u_ws (vwCl.getD c (RX0, TX0, 8)).1 (vwCl.getD c (RX0, TX0, 8)).2.1 (vwCl.getD c (RX0, TX0, 8)).2.2, w ∈ am_tb := by decide +kernel
theorem am_cl_at {k : Nat} (hk : k < 77) (h0 : (am_kd k).1 = 0) : vwCl[(am_kd k).2.2.2]? = some (am_cl k) := by
  have h := am_cl_lt k hk h0
  unfold am_cl
  rw [List.getD_eq_getElem?_getD]
  cases e : vwCl[(am_kd k).2.2.2]? with
  | none =>
    have := List.getElem?_eq_none_iff.mp e
    exact absurd h (Nat.not_lt.mpr this)
  | some x => rfl
theorem am_at0 {G : am_G} {s : am_S} {o k i : Nat} {H : Heap} (hk : (am_kd k).1 = 0) : am_at G s o k i H = t_OB (am_ad G o k i) (G.1.1 (am_kd k).2.2.2) (am_kd k).2.1 (G.1.2 (am_kd k).2.2.2) H (fun f => am_fv G s o k f) := by
  unfold am_at
  generalize am_kd k = z at hk ⊢
  obtain ⟨t, n, c, x⟩ := z
  subst hk
  rfl
theorem am_at1 {G : am_G} {s : am_S} {o k i : Nat} {H : Heap} (hk : (am_kd k).1 = 1) : am_at G s o k i H = (H[am_ad G o k i]? = some (arrV (G.2.1 0) (am_kd k).2.1 (fun j => .int (s.1 o k i j)))) := by
  unfold am_at
  generalize am_kd k = z at hk ⊢
  obtain ⟨t, n, c, x⟩ := z
  subst hk
  rfl
theorem am_at2 {G : am_G} {s : am_S} {o k i : Nat} {H : Heap} (hk : (am_kd k).1 = 2) : am_at G s o k i H = (H[am_ad G o k i]? = some (arrV (G.2.1 1) (am_kd k).2.1 (fun j => .long (s.2 o k i j)))) := by
  unfold am_at
  generalize am_kd k = z at hk ⊢
  obtain ⟨t, n, c, x⟩ := z
  subst hk
  rfl
theorem am_at3 {G : am_G} {s : am_S} {o k i : Nat} {H : Heap} (hk : (am_kd k).1 = 3) : am_at G s o k i H = (H[am_ad G o k i]? = some (arrV (G.2.1 2) (am_kd k).2.1 (fun j => .int (s.1 o k i j)))) := by
  unfold am_at
  generalize am_kd k = z at hk ⊢
  obtain ⟨t, n, c, x⟩ := z
  subst hk
  rfl
theorem am_at4 {G : am_G} {s : am_S} {o k i : Nat} {H : Heap} (hk : (am_kd k).1 = 4) : am_at G s o k i H = (H[am_ad G o k i]? = some (arrV (G.2.1 3) (am_kd k).2.1 (fun j => .ref (am_ad G o (am_kd k).2.2.2 j)))) := by
  unfold am_at
  generalize am_kd k = z at hk ⊢
  obtain ⟨t, n, c, x⟩ := z
  subst hk
  rfl
theorem am_at5 {G : am_G} {s : am_S} {o k i : Nat} {H : Heap} (hk : (am_kd k).1 = 5) : am_at G s o k i H = (H[am_ad G o k i]? = some (arrV (G.2.1 4) (am_kd k).2.1 (fun j => .ref (am_ad G o (am_kd k).2.2.2 j)))) := by
  unfold am_at
  generalize am_kd k = z at hk ⊢
  obtain ⟨t, n, c, x⟩ := z
  subst hk
  rfl
theorem am_at6 {G : am_G} {s : am_S} {o k i : Nat} {H : Heap} (hk : (am_kd k).1 = 6) : am_at G s o k i H = (H[am_ad G o k i]? = some (arrV (G.2.1 5) (am_kd k).2.1 (fun j => .ref (am_ad G o (am_kd k).2.2.2 j)))) := by
  unfold am_at
  generalize am_kd k = z at hk ⊢
  obtain ⟨t, n, c, x⟩ := z
  subst hk
  rfl
theorem am_C.kept {G : am_G} {U : State} {H H1 : Heap} (h : am_C G U H) (hq : ∀ a : Nat, a < H.size → ¬ am_fr G a → H1[a]? = H[a]?) : am_C G U H1 := by
  have hq : ∀ a : Nat, a < H.size → ¬ am_zf G a → H1[a]? = H[a]? := fun a h1 h2 => hq a h1 fun z => h2 (h.2.2.2.2 a z)
  exact ⟨⟨va_Z.kept h.1.1 hq, va_Z.kept h.1.2.1 hq, fun k h1 h2 => va_T.kept (h.1.2.2 k h1 h2) hq⟩, vk_S.kept h.2.1 hq, va_Z.kept h.2.2.1 hq, va_Zq.kept h.2.2.2.1 hq, h.2.2.2.2⟩
theorem am_W.put {G : am_G} {σ σ' : am_S} {o k i : Nat} {U : State} {H H1 : Heap} (hW : am_W G σ U H) (hl : am_lv G o k i) (h8 : o < 16) (hat : am_at G σ' o k i H1) (hz : H1.size = H.size) (oq : ∀ q, q ≠ am_ad G o k i → H1[q]? = H[q]?)
    (hot : ∀ o' k' i', am_lv G o' k' i' → ¬ (o' = o ∧ k' = k ∧ i' = i) → am_at G σ o' k' i' H1 → am_at G σ' o' k' i' H1) (hdyn : ∀ o', σ'.1 o' 40 0 26 = σ.1 o' 40 0 26 ∧ σ'.1 o' 40 0 27 = σ.1 o' 40 0 27) : am_W G σ' U H1 := by
  refine ⟨fun o' k' i' hl' => ?_, ⟨hW.2.1.1, fun o' k' i' hl' => by rw [hz]; exact hW.2.1.2 o' k' i' hl'⟩, ⟨fun o' h1 h2 => ?_, by rw [(hdyn 99).1, (hdyn 99).2]; exact hW.2.2.1.2⟩, hW.2.2.2.kept fun a _ ha => oq a fun e => ha ⟨o, k, i, hl, h8, e⟩⟩
  · by_cases e : o' = o ∧ k' = k ∧ i' = i
    · obtain ⟨rfl, rfl, rfl⟩ := e
      exact hat
    · exact hot o' k' i' hl' e ((hW.1 o' k' i' hl').kept (oq _ fun q => e (hW.2.1.1 _ _ _ _ _ _ hl' hl h8 q)))
  · rw [(hdyn o').1, (hdyn o').2]
    exact hW.2.2.1.1 o' h1 h2
theorem am_W.set {G : am_G} {σ : am_S} {o k i j : Nat} {x : Int32} {U : State} {H H1 : Heap} (hW : am_W G σ U H) (hl : am_lv G o k i) (h8 : o < 16) (hat : am_at G (am_u σ o k i j x) o k i H1) (hz : H1.size = H.size) (oq : ∀ q, q ≠ am_ad G o k i → H1[q]? = H[q]?)
    (hdyn : k = 40 → j ≠ 26 ∧ j ≠ 27) : am_W G (am_u σ o k i j x) U H1 :=
  hW.put hl h8 hat hz oq (fun o' k' i' hl' hne h => h.other hne (am_obj0 hl')) fun o' => ⟨if_neg fun q => (hdyn q.1.symm).1 q.2.1.symm, if_neg fun q => (hdyn q.1.symm).2 q.2.1.symm⟩
theorem am_W.setL {G : am_G} {σ : am_S} {o k i j : Nat} {x : Int64} {U : State} {H H1 : Heap} (hW : am_W G σ U H) (hl : am_lv G o k i) (h8 : o < 16) (hat : am_at G (am_ul σ o k i j x) o k i H1) (hz : H1.size = H.size) (oq : ∀ q, q ≠ am_ad G o k i → H1[q]? = H[q]?) : am_W G (am_ul σ o k i j x) U H1 :=
  hW.put hl h8 hat hz oq (fun o' k' i' _ hne h => h.otherL hne) fun _ => ⟨rfl, rfl⟩
section AMH
variable {p : Program} {l : Launch} {e : Env} {R : Room} {s : State} {m : MethodId} {args : Array Value} {below : List Frame} {meth : Method} {c : Code} {cc : ByteArray} {own : String} {nL : Nat} {P : am_P} {G : am_G} {A : Nat → Prop} {kc ks : Nat} {Q : State → Prop}
/-- what the tables say of a field of the pool -/
theorem am_link (X : am_X p s m args c cc own nL P G A) {idx k f : Nat} (h : am_lk P.1 idx = some (k, f)) : (Cond.fieldLink own idx (am_cl k).1 ((am_cl k).2.1 f).2.1 ((am_cl k).2.1 f).2.2.1).before args s = true := by
  obtain ⟨-, -, -, -, hts, hp, -⟩ := X
  unfold am_pok at hp
  simp only [Bool.and_eq_true] at hp
  exact hts _ (of_decide_eq_true (List.all_eq_true.mp hp.1.1.1 _ (am_lk_mem h)))
theorem am_get_s (X : am_X p s m args c cc own nL P G A) {idx n : Nat} {fr fr' : am_F} {ob : Prop} (h : am_get P idx n fr = some (fr', ob)) (hd : decode cc fr.1 = .ok (.getfield idx, n))
    (kk : am_A p l e R s m args below meth c nL G A kc ks Q fr') : am_A p l e R s m args below meth c nL G A kc ks Q fr := by
  obtain ⟨pc, ls, st, σ⟩ := fr
  unfold am_get at h
  split at h
  · rename_i pc ls o k i st σ e
    cases e
    cases hn : Nat.beq n 3
    · rw [hn] at h; cases h
    rw [hn] at h
    have hn3 := Nat.eq_of_beq_eq_true hn
    subst hn3
    simp only [cond_true] at h
    split at h
    · rename_i k' f hlk
      cases hc : (Nat.beq k k' && (Nat.beq (am_kd k).1 0 && Nat.ble (f + 1) (am_kd k).2.1))
      · rw [hc] at h; cases h
      rw [hc] at h
      simp only [Bool.and_eq_true] at hc
      have hk := Nat.eq_of_beq_eq_true hc.1
      subst hk
      have h0 := Nat.eq_of_beq_eq_true hc.2.1
      have hf : f < (am_kd k).2.1 := Nat.le_of_ble_eq_true hc.2.2
      intro H locs la hW hL hF h1 h2 hl
      have hlv : am_lv G o k i := (am_tl h2).1
      obtain ⟨hx, hb, -, hown, hts, -, hU, hA⟩ := id X
      have hk77 := (am_ok_lt hlv.2.1).2
      have hi0 := am_obj0 hlv h0
      have hat := hW.1 o k i hlv
      rw [am_at0 h0] at hat
      obtain ⟨cell, q1, q2, q3, q4⟩ := hat
      have hcl := am_cl_at hk77 h0
      obtain ⟨hS, hfc, kC, hkC, hkind⟩ := hU.1.1 _ _ hcl
      have hfN : f < (am_cl k).2.2 := by rw [am_cl_n k hk77 h0]; exact hf
      obtain ⟨cf, kf, fi, fd, hi, hsl⟩ := hS f hfN
      have hownf := am_cl_own k hk77 h0 f hf
      rw [hownf] at hi
      have hin : ∀ w ∈ u_ws (am_cl k).1 (am_cl k).2.1 (am_cl k).2.2, w ∈ am_tb := am_lays _ (am_cl_lt k hk77 h0)
      have hlay := u_lays hts hin hfN
      rw [hownf] at hlay
      have hch := am_chk_at hlv.2.1
      rw [Bool.and_eq_true] at hch
      have hch1 := List.all_eq_true.mp hch.1 f (List.mem_range.mpr (by
        have h3 := hch.2
        generalize am_kd k = z at h0 h3 hf
        obtain ⟨t, n, c', x⟩ := z
        subst h0
        simp only [Bool.and_eq_true, decide_eq_true_eq] at h3
        exact Nat.lt_of_lt_of_le hf h3.1.2))
      have key : ∀ v : am_V, am_fv G σ o k f = am_v G v → am_lV G v → am_A p l e R s m args below meth c nL G A kc ks Q (pc + 3, ls, v :: st, σ) → W p l e R s m args below meth c H locs kc ks Q (F0 m pc la ((am_r o k i :: st).map (am_v G))) := by
        intro v hv hvl ka
        refine W.getf (v := am_v G v) hx hb hown (am_link X hlk) hi (u_facts hfc hkC hlay hi).1 q1 (by rw [q3]; exact fun h => by cases h) (by rw [hsl]; exact (q4 f hf).trans (congrArg some hv)) rfl rfl hd ?_
        exact ka H locs la hW hL hF h1 (am_lcons hvl (am_tl h2).2) hl
      simp only [cond_true] at h
      split at h
      · rename_i e
        cases h
        exact key (am_i (σ.1 o k 0 f)) (by unfold am_fv; rw [e]; rfl) trivial kk
      · rename_i e
        cases h
        exact key (am_i (σ.1 o k 0 f)) (by unfold am_fv; rw [e]; rfl) trivial kk
      · rename_i x y e
        cases h
        rw [e] at hch1
        simp only [Bool.and_eq_true, decide_eq_true_eq] at hch1
        exact key (am_r o x 0) (by unfold am_fv; rw [e]; rfl) ⟨hlv.1, hch1.1, hch1.2⟩ kk
      · rename_i x y e
        cases h
        rw [e] at hch1
        simp only [Bool.and_eq_true, decide_eq_true_eq] at hch1
        exact key (am_r x y 0) (by unfold am_fv; rw [e]; rfl) ⟨hU.2.2.1 (o, x) (List.contains_iff_mem.mp hch1.2) hlv.1, hch1.1.1, hch1.1.2⟩ kk
      · cases h
    · cases h
  · cases h
theorem am_put_s (X : am_X p s m args c cc own nL P G A) {idx n : Nat} {fr fr' : am_F} {ob : Prop} (h : am_put P idx n fr = some (fr', ob)) (ho : ob) (hd : decode cc fr.1 = .ok (.putfield idx, n))
    (kk : am_A p l e R s m args below meth c nL G A kc ks Q fr') : am_A p l e R s m args below meth c nL G A kc ks Q fr := by
  obtain ⟨pc, ls, st, σ⟩ := fr
  unfold am_put at h
  split at h
  · rename_i pc ls v o k i st σ e
    cases e
    cases hn : Nat.beq n 3
    · rw [hn] at h; cases h
    rw [hn] at h
    have hn3 := Nat.eq_of_beq_eq_true hn
    subst hn3
    simp only [cond_true] at h
    split at h
    · rename_i k' f hlk
      cases hc : (Nat.beq k k' && (Nat.beq (am_kd k).1 0 && (Nat.ble (f + 1) (am_kd k).2.1 && !((am_cl k).2.1 f).2.2.2)))
      · rw [hc] at h; cases h
      rw [hc] at h
      simp only [Bool.and_eq_true, Bool.not_eq_true'] at hc
      have hk := Nat.eq_of_beq_eq_true hc.1
      subst hk
      have h0 := Nat.eq_of_beq_eq_true hc.2.1
      have hf : f < (am_kd k).2.1 := Nat.le_of_ble_eq_true hc.2.2.1
      have hfin := hc.2.2.2
      intro H locs la hW hL hF h1 h2 hl
      have hlv : am_lv G o k i := (am_tl (am_tl h2).2).1
      obtain ⟨hx, hb, -, hown, hts, -, hU, hA⟩ := id X
      have hk77 := (am_ok_lt hlv.2.1).2
      have hi0 := am_obj0 hlv h0
      subst hi0
      have hat := hW.1 o k 0 hlv
      rw [am_at0 h0] at hat
      obtain ⟨cell, q1, q2, q3, q4⟩ := hat
      have hcl := am_cl_at hk77 h0
      obtain ⟨hS, hfc, kC, hkC, hkind⟩ := id (hU.1.1 _ _ hcl)
      have hfN : f < (am_cl k).2.2 := by rw [am_cl_n k hk77 h0]; exact hf
      obtain ⟨cf, kf, fi, fd, hi, hsl⟩ := hS f hfN
      have hownf := am_cl_own k hk77 h0 f hf
      have hclt := am_cl_lt k hk77 h0
      have hin : ∀ w ∈ u_ws (am_cl k).1 (am_cl k).2.1 (am_cl k).2.2, w ∈ am_tb := am_lays _ hclt
      have hap := va_apart (own := own) hts hin (fun f => (parseFieldDescriptor ((am_cl k).2.1 f).2.2.1).getD .int) (fun j hj => by
        have h9 := am_cl_ty _ hclt j hj
        cases e9 : parseFieldDescriptor ((am_cl k).2.1 j).2.2.1 with
        | none => exact absurd (by unfold am_cl at e9; rw [e9] at h9; exact h9) (by decide)
        | some z => rfl) (am_cl_nm _ hclt) hU.1 hcl
      have hlay := u_lays hts hin hfN
      have hst := (u_facts hfc hkC hlay hi).1
      have hlay2 := hts _ (hin _ (u_in_lay hfN))
      unfold u_lay at hlay2
      rw [if_neg (by rw [hfin]; decide)] at hlay2
      have hch := am_chk_at hlv.2.1
      rw [Bool.and_eq_true] at hch
      have h8 : o < 16 ∧ f < 48 := by
        have h3 := hch.2
        generalize am_kd k = z at h0 h3 hf
        obtain ⟨t, n, c', x⟩ := z
        subst h0
        simp only [Bool.and_eq_true, decide_eq_true_eq] at h3
        exact ⟨h3.2, Nat.lt_of_lt_of_le hf h3.1.2⟩
      have key : ∀ ty : FieldType, ((am_fd k f).1 = 0 ∨ (am_fd k f).1 = 5) → parseFieldDescriptor ((am_cl k).2.1 f).2.2.1 = some ty → narrow ty (.int v) = .int v → fits ty (.int v) = true → am_A p l e R s m args below meth c nL G A kc ks Q (pc + 3, ls, st, am_u σ o k 0 f v) → W p l e R s m args below meth c H locs kc ks Q (F0 m pc la ((am_i v :: am_r o k 0 :: st).map (am_v G))) := by
        intro ty h05 hty hnw hfit ka
        have h6 := u_store hfc hkC hkind hlay2 hi hty hnw hfit
        rw [hownf] at hi
        refine W.putK hx hb (f := fd) (v := .int v) ⟨hown, am_link X hlk, ⟨_, _, _, hi⟩, hst⟩ (by rw [q2]; exact h6) q1 q3 (by rw [hsl]; exact k2_hasslot (q4 f hf)) rfl rfl hd fun H' e1 e2 e3 => ?_
        rw [hsl] at e1 ⊢
        refine ka H' _ la (hW.set hlv h8.1 ?_ e2 e3 (fun e40 => ?_)) (fun q hq => ?_) ⟨Nat.le_trans hF.1 (Nat.le_of_eq e2.symm), fun q hz hq => ?_⟩ h1 (am_tl (am_tl h2).2).2 hl
        · rw [am_at0 h0]
          rw [am_cl_n k hk77 h0] at hap
          refine ⟨_, e1, q2, q3, fun j hj => ?_⟩
          rw [t_set q4 hap hf (.int v) j hj]
          refine congrArg some ?_
          show updV (fun f => am_fv G σ o k f) f (.int v) j = am_fv G (am_u σ o k 0 f v) o k j
          by_cases ej : j = f
          · subst ej
            have e7 : (am_u σ o k 0 j v).1 o k 0 j = v := if_pos ⟨rfl, rfl, rfl, rfl⟩
            unfold updV
            rw [if_pos rfl]
            unfold am_fv
            rcases h05 with z | z
            · generalize am_fd k j = y at z ⊢
              obtain ⟨t, x, y⟩ := y
              subst z
              show Value.int v = Value.int _
              rw [e7]
            · generalize am_fd k j = y at z ⊢
              obtain ⟨t, x, y⟩ := y
              subst z
              show Value.int v = Value.int _
              rw [e7]
          · have e7 : (am_u σ o k 0 f v).1 o k 0 j = σ.1 o k 0 j := if_neg fun q => ej q.2.1
            unfold updV
            rw [if_neg ej]
            unfold am_fv
            rw [e7]
        · subst e40
          exact am_cl_dyn f h8.2 h05
        · rcases List.mem_append.mp hq with hq | hq
          · exact hL q hq
          · rw [List.mem_singleton.mp hq]
            exact hA _ ⟨o, k, 0, hlv, h8.1, rfl⟩
        · rw [e3 q fun z => hq (hA _ ⟨o, k, 0, hlv, h8.1, z⟩)]
          exact hF.2 q hz hq
      simp only [cond_true] at h
      split at h
      · rename_i e
        cases h
        exact key .int (Or.inl (by rw [e])) (by rw [am_cl_I k hk77 h0 f hf (by rw [e])]; decide +kernel) rfl rfl kk
      · rename_i e
        cases h
        rcases ho with rfl | rfl
        · exact key .boolean (Or.inr (by rw [e])) (by rw [am_cl_Z k hk77 h0 f hf (by rw [e])]; decide +kernel) rfl rfl kk
        · exact key .boolean (Or.inr (by rw [e])) (by rw [am_cl_Z k hk77 h0 f hf (by rw [e])]; decide +kernel) rfl rfl kk
      · cases h
    · cases h
  · cases h
theorem am_ex {σ : am_S} {o k i : Nat} {x : Int32} {j q : Nat} : (am_u σ o k i j x).1 o k i q = upd (fun q => σ.1 o k i q) j x q := by
  unfold upd
  by_cases h : q = j
  · rw [if_pos h]
    exact if_pos ⟨rfl, h, rfl, rfl⟩
  · rw [if_neg h]
    exact if_neg fun z => h z.2.1
theorem am_exL {σ : am_S} {o k i : Nat} {x : Int64} {j q : Nat} : (am_ul σ o k i j x).2 o k i q = vp_updL (fun q => σ.2 o k i q) j x q := by
  unfold vp_updL
  by_cases h : q = j
  · rw [if_pos h]
    exact if_pos ⟨rfl, h, rfl, rfl⟩
  · rw [if_neg h]
    exact if_neg fun z => h z.2.1
theorem am_stl (X : am_X p s m args c cc own nL P G A) {idx o k : Nat} (h : am_lk P.2.1 idx = some (o, k)) :
    (o = 16 ∧ (k = 34 ∧ (Cond.fieldLink own idx "SundayIsAPlace" "ABOVE" "[I").before args s = true ∨ k = 35 ∧ (Cond.fieldLink own idx "SundayIsAPlace$Tape" "SHAPES" "[I").before args s = true)) ∨
    (o = 17 ∧ ((k = 0 ∧ (Cond.fieldLink own idx "java/lang/String" "coder" "B").before args s = true ∨ k = 1 ∧ (Cond.fieldLink own idx "java/lang/String" "value" "[B").before args s = true) ∨ k = 2 ∧ (Cond.fieldLink own idx "java/lang/String" "COMPACT_STRINGS" "Z").before args s = true)) ∨
    (o = 18 ∧ ∃ tx, (own, idx, tx, k) ∈ am_str) := by
  obtain ⟨-, -, -, -, hts, hp, -⟩ := X
  unfold am_pok at hp
  simp only [Bool.and_eq_true] at hp
  have h3 := List.all_eq_true.mp hp.1.1.2 _ (am_lk_mem h)
  simp only [Bool.and_eq_true, Bool.or_eq_true, beq_iff_eq, decide_eq_true_eq] at h3
  rcases h3 with (⟨e, h3⟩ | ⟨e, h3⟩) | ⟨e, h3⟩
  · rcases h3 with ⟨e2, h3⟩ | ⟨e2, h3⟩
    · exact Or.inl ⟨e, Or.inl ⟨e2, hts _ h3⟩⟩
    · exact Or.inl ⟨e, Or.inr ⟨e2, hts _ h3⟩⟩
  · rcases h3 with (⟨e2, h3⟩ | ⟨e2, h3⟩) | ⟨e2, h3⟩
    · exact Or.inr (Or.inl ⟨e, Or.inl (Or.inl ⟨e2, hts _ h3⟩)⟩)
    · exact Or.inr (Or.inl ⟨e, Or.inl (Or.inr ⟨e2, hts _ h3⟩)⟩)
    · exact Or.inr (Or.inl ⟨e, Or.inr ⟨e2, hts _ h3⟩⟩)
  · obtain ⟨⟨z1, z2, z3, z4⟩, hz, h4⟩ := List.any_eq_true.mp h3
    simp only [Bool.and_eq_true, beq_iff_eq] at h4
    obtain ⟨⟨rfl, rfl⟩, rfl⟩ := h4
    exact Or.inr (Or.inr ⟨e, z3, hz⟩)
theorem am_gets_s (X : am_X p s m args c cc own nL P G A) {idx n : Nat} {fr fr' : am_F} {ob : Prop} (h : am_gets P idx n fr = some (fr', ob)) (hd : decode cc fr.1 = .ok (.getstatic idx, n))
    (kk : am_A p l e R s m args below meth c nL G A kc ks Q fr') : am_A p l e R s m args below meth c nL G A kc ks Q fr := by
  obtain ⟨pc, ls, st, σ⟩ := fr
  dsimp only [am_gets] at h
  cases hn : Nat.beq n 3
  · rw [hn] at h; cases h
  rw [hn] at h
  have hn3 := Nat.eq_of_beq_eq_true hn
  subst hn3
  simp only [cond_true] at h
  split at h
  · rename_i o k hlk
    intro H locs la hW hL hF h1 h2 hl
    obtain ⟨hx, hb, -, hown, hts, hp, hU, hA⟩ := id X
    have hst := am_stl X hlk
    have hC := hW.2.2.2
    have key : ∀ (C n d : String) (v : am_V), am_lV G v → va_Z C n d (am_v G v) (am_zf G) s H → (Cond.fieldLink own idx C n d).before args s = true → am_A p l e R s m args below meth c nL G A kc ks Q (pc + 3, ls, v :: st, σ) → W p l e R s m args below meth c H locs kc ks Q (F0 m pc la (st.map (am_v G))) := by
      intro C n d v hv hZ hlink ka
      obtain ⟨cf, kf, fi, f, a, cell, g1, g2, g3, g4, g5, g6, g7, g8⟩ := hZ
      refine W.gets hx hb hown hlink g1 g2 g3 g4 g5 (fun e => by rw [e] at g6; cases g6) g7 rfl hd ?_
      exact ka H locs la hW hL hF h1 (am_lcons hv h2) hl
    cases ho : Nat.beq o 16
    · rw [ho] at h
      cases ho2 : (Nat.beq o 17 && Nat.beq k 2)
      · rw [ho2] at h; cases h
      rw [ho2] at h
      cases h
      rw [Bool.and_eq_true] at ho2
      have e1 := Nat.eq_of_beq_eq_true ho2.1
      have e2 := Nat.eq_of_beq_eq_true ho2.2
      subst e1; subst e2
      rcases hst with ⟨z, -⟩ | ⟨-, h5⟩ | ⟨z, -⟩
      · exact absurd z (by decide)
      · rcases h5 with (⟨z, -⟩ | ⟨z, -⟩) | ⟨-, h6⟩
        · exact absurd z (by decide)
        · exact absurd z (by decide)
        · exact key _ _ _ (am_i 1) trivial hC.2.2.1 h6 kk
      · exact absurd z (by decide)
    · rw [ho] at h
      cases h
      have e1 := Nat.eq_of_beq_eq_true ho
      subst e1
      rcases hst with ⟨-, h5⟩ | ⟨z, -⟩ | ⟨z, -⟩
      · rcases h5 with ⟨rfl, h6⟩ | ⟨rfl, h6⟩
        · exact key _ _ _ (am_r 16 34 0) ⟨hU.2.2.2.1.1, by decide +kernel, by decide +kernel⟩ hC.1.1 h6 kk
        · exact key _ _ _ (am_r 16 35 0) ⟨hU.2.2.2.1.1, by decide +kernel, by decide +kernel⟩ hC.1.2.1 h6 kk
      · exact absurd z (by decide)
      · exact absurd z (by decide)
  · cases h
theorem am_ok36 : ∀ o, o < 19 → am_ok o 36 = true → o = 17 := by decide +kernel
theorem am_ok37 : ∀ o, o < 19 → am_ok o 37 = true → o = 17 := by decide +kernel
theorem am_gstr_s (X : am_X p s m args c cc own nL P G A) {idx n : Nat} {fr fr' : am_F} {ob : Prop} (h : am_gstr P idx n fr = some (fr', ob)) (hd : decode cc fr.1 = .ok (.getfield idx, n))
    (kk : am_A p l e R s m args below meth c nL G A kc ks Q fr') : am_A p l e R s m args below meth c nL G A kc ks Q fr := by
  obtain ⟨pc, ls, st, σ⟩ := fr
  unfold am_gstr at h
  split at h
  · rename_i pc ls o k i st σ e
    cases e
    cases hn : (Nat.beq n 3 && Nat.beq k 36)
    · rw [hn] at h; cases h
    rw [hn] at h
    rw [Bool.and_eq_true] at hn
    have hn3 := Nat.eq_of_beq_eq_true hn.1
    have hk := Nat.eq_of_beq_eq_true hn.2
    subst hn3; subst hk
    simp only [cond_true] at h
    split at h
    · rename_i o' f hlk
      cases ho : Nat.beq o' 17
      · rw [ho] at h; cases h
      rw [ho] at h
      have e1 := Nat.eq_of_beq_eq_true ho
      subst e1
      intro H locs la hW hL hF h1 h2 hl
      obtain ⟨hx, hb, -, hown, hts, hp, hU, hA⟩ := id X
      have hlv : am_lv G o 36 i := (am_tl h2).1
      have eo := am_ok36 o (am_ok_lt hlv.2.1).1 hlv.2.1
      subst eo
      obtain ⟨-, s2, s3, -⟩ := hW.2.2.2.2.1.1 i hlv.2.2
      have hst := am_stl X hlk
      have key : ∀ (n d : String) (v : am_V), am_lV G v → va_OF "java/lang/String" n d (am_v G v) (am_ad G 17 36 i) (am_zf G) s H → (Cond.fieldLink own idx "java/lang/String" n d).before args s = true → am_A p l e R s m args below meth c nL G A kc ks Q (pc + 3, ls, v :: st, σ) → W p l e R s m args below meth c H locs kc ks Q (F0 m pc la ((am_r 17 36 i :: st).map (am_v G))) := by
        intro n d v hv hZ hlink ka
        obtain ⟨cf, kf, fi, f, cell, g1, g2, g3, g4, g5, g6⟩ := hZ
        refine W.getf hx hb hown hlink g1 g2 g3 g4 (v := am_v G v) g5 rfl rfl hd ?_
        exact ka H locs la hW hL hF h1 (am_lcons hv (am_tl h2).2) hl
      simp only [cond_true] at h
      cases hf : Nat.beq f 0
      · rw [hf] at h
        cases hf1 : Nat.beq f 1
        · rw [hf1] at h; cases h
        rw [hf1] at h
        cases h
        have e2 := Nat.eq_of_beq_eq_true hf1
        subst e2
        rcases hst with ⟨z, -⟩ | ⟨-, h5⟩ | ⟨z, -⟩
        · exact absurd z (by decide)
        · rcases h5 with (⟨z, -⟩ | ⟨-, h6⟩) | ⟨z, -⟩
          · exact absurd z (by decide)
          · exact key _ _ (am_r 17 37 i) ⟨hlv.1, by decide +kernel, hlv.2.2⟩ s3 h6 kk
          · exact absurd z (by decide)
        · exact absurd z (by decide)
      · rw [hf] at h
        cases h
        have e2 := Nat.eq_of_beq_eq_true hf
        subst e2
        rcases hst with ⟨z, -⟩ | ⟨-, h5⟩ | ⟨z, -⟩
        · exact absurd z (by decide)
        · rcases h5 with (⟨-, h6⟩ | ⟨z, -⟩) | ⟨z, -⟩
          · exact key _ _ (am_i 0) trivial s2 h6 kk
          · exact absurd z (by decide)
          · exact absurd z (by decide)
        · exact absurd z (by decide)
    · cases h
  · cases h
theorem am_ldcwS {T : State} {locs : List Loc} (Xs : Stand p l e R s m args below meth c T locs kc ks) (hexec : p.tables.exec = Jvm.exec) {own text : String} {index : Nat} {a : Addr} (hown : s.vm.findClass own = some m.cls)
    (hconst : (Cond.stringRef own index text).before args s = true) (hev : (Term.string own index).eval args s none [] s = some (.ref a)) {g : JFrame} (hg : g.method = m) (hdg : decode c.code g.pc = .ok (.ldc_w index, 3)) :
    ∀ target, Steps p.tables e below (T.setTop { g with pc := g.pc + 3, stack := .ref a :: g.stack }) target → Steps p.tables e below (T.setTop g) target := by
  obtain ⟨k, cf, i, a', hk, hcf, hcp, -, hr, hev'⟩ := Cond.stringRef_spec hown hconst
  cases hev.symm.trans hev'
  obtain ⟨k', hk', he⟩ := Xs.warmed.alike.2.2 _ _ hk
  have hr' : k'.resolved[index]? = some (some (.string a)) := by
    rcases Xs.warmed.entry hk hk' index with h | ⟨h, -⟩
    · rw [h]; exact hr
    · rw [hr] at h; cases h
  intro target hrest
  subst hg
  jvm_step Xs.here [hexec, hdg, ldc_w.wp_string (s := T) (f := g) Xs.here.top hk' (by rw [he]; exact hcf) hcp hr']
  exact hrest
theorem am_lstr_s (X : am_X p s m args c cc own nL P G A) {d idx n : Nat} {fr fr' : am_F} {ob : Prop} (h : am_lstr P d idx n fr = some (fr', ob))
    (hrow : ∀ (H : Heap) (locs : List Loc) (la : Array Slot) (rest : List Value) (tx : String) (q : Nat), n = d → vk_R own idx tx q s → W p l e R s m args below meth c H locs kc ks Q (F0 m (fr.1 + d) la (.ref q :: rest)) → W p l e R s m args below meth c H locs kc ks Q (F0 m fr.1 la rest))
    (kk : am_A p l e R s m args below meth c nL G A kc ks Q fr') : am_A p l e R s m args below meth c nL G A kc ks Q fr := by
  obtain ⟨pc, ls, st, σ⟩ := fr
  dsimp only [am_lstr] at h
  cases hn : Nat.beq n d
  · rw [hn] at h; cases h
  rw [hn] at h
  have hn3 := Nat.eq_of_beq_eq_true hn
  simp only [cond_true] at h
  split at h
  · rename_i o i hlk
    cases ho : Nat.beq o 18
    · rw [ho] at h; cases h
    rw [ho] at h
    cases h
    have e1 := Nat.eq_of_beq_eq_true ho
    subst e1
    intro H locs la hW hL hF h1 h2 hl
    obtain ⟨hx, hb, -, hown, hts, hp, hU, hA⟩ := id X
    rcases am_stl X hlk with ⟨z, -⟩ | ⟨z, -⟩ | ⟨-, tx, hm⟩
    · exact absurd z (by decide)
    · exact absurd z (by decide)
    · have hi : ∀ q ∈ am_str, q.2.2.2 < 9 := by decide +kernel
      exact hrow H locs la _ tx _ hn3 (hU.2.2.2.2 _ hm) (kk H locs la hW hL hF h1 (am_lcons (v := am_r 17 36 i) ⟨hU.2.2.2.1.2.1, by decide +kernel, hi _ hm⟩ h2) hl)
  · cases h
theorem am_bstr_s (X : am_X p s m args c cc own nL P G A) {n : Nat} {fr fr' : am_F} {ob : Prop} (h : am_bstr n fr = some (fr', ob)) (ho : ob) (hd : decode cc fr.1 = .ok (.baload, n))
    (kk : am_A p l e R s m args below meth c nL G A kc ks Q fr') : am_A p l e R s m args below meth c nL G A kc ks Q fr := by
  obtain ⟨pc, ls, st, σ⟩ := fr
  unfold am_bstr at h
  split at h
  · rename_i pc ls j o k i st σ e
    cases e
    cases hn : (Nat.beq n 1 && Nat.beq k 37)
    · rw [hn] at h; cases h
    rw [hn] at h
    cases h
    rw [Bool.and_eq_true] at hn
    have hn3 := Nat.eq_of_beq_eq_true hn.1
    have hk := Nat.eq_of_beq_eq_true hn.2
    subst hn3; subst hk
    intro H locs la hW hL hF h1 h2 hl
    obtain ⟨hx, hb, -, hown, hts, hp, hU, hA⟩ := id X
    have hlv : am_lv G o 37 i := (am_tl (am_tl h2).2).1
    have eo := am_ok37 o (am_ok_lt hlv.2.1).1 hlv.2.1
    subst eo
    obtain ⟨cell, g1, g2, g3, g4, g5, g6, -⟩ := (hW.2.2.2.2.1.1 i hlv.2.2).2.2.2
    have hlt : j.toNatClampNeg < am_len.getD i 0 := Nat.not_le.mp fun q => ho (Or.inr q)
    exact W.bald (v := .int ((am_byt.getD i []).getD j.toNatClampNeg 0)) hx hb g1 g2 g3 (fun q => ho (q.elim Or.inl fun z => absurd (Nat.le_trans g4 z) (Nat.not_le.mpr hlt))) (g6 _ hlt) rfl rfl hd (kk H locs la hW hL hF h1 (am_lcons (v := .inl _) trivial (am_tl (am_tl h2).2).2) hl)
  · cases h
theorem am_astr_s (X : am_X p s m args c cc own nL P G A) {n : Nat} {fr fr' : am_F} {ob : Prop} (h : am_astr n fr = some (fr', ob)) (hd : decode cc fr.1 = .ok (.arraylength, n))
    (kk : am_A p l e R s m args below meth c nL G A kc ks Q fr') : am_A p l e R s m args below meth c nL G A kc ks Q fr := by
  obtain ⟨pc, ls, st, σ⟩ := fr
  unfold am_astr at h
  split at h
  · rename_i pc ls o k i st σ e
    cases e
    cases hn : (Nat.beq n 1 && Nat.beq k 37)
    · rw [hn] at h; cases h
    rw [hn] at h
    cases h
    rw [Bool.and_eq_true] at hn
    have hn3 := Nat.eq_of_beq_eq_true hn.1
    have hk := Nat.eq_of_beq_eq_true hn.2
    subst hn3; subst hk
    intro H locs la hW hL hF h1 h2 hl
    obtain ⟨hx, hb, -, hown, hts, hp, hU, hA⟩ := id X
    have hlv : am_lv G o 37 i := (am_tl h2).1
    have eo := am_ok37 o (am_ok_lt hlv.2.1).1 hlv.2.1
    subst eo
    obtain ⟨cell, g1, g2, g3, g4, g5, g6, -⟩ := (hW.2.2.2.2.1.1 i hlv.2.2).2.2.2
    exact W.alen hx hb g1 g2 g5 rfl rfl hd (kk H locs la hW hL hF h1 (am_lcons (v := .inl _) trivial (am_tl h2).2) hl)
  · cases h
theorem am_k10 : ∀ k, k < 77 → (am_kd k).1 = 10 → 34 ≤ k ∧ k ≤ 35 ∧ (am_kd k).2.2.1 = 1 := by decide +kernel
theorem am_o10 : ∀ o, o < 19 → ∀ k, k < 77 → (!am_ok o k || !(Nat.beq (am_kd k).1 10) || o == 16) = true := by decide +kernel
theorem am_ista_s (X : am_X p s m args c cc own nL P G A) {n : Nat} {fr fr' : am_F} {ob : Prop} (h : am_ista n fr = some (fr', ob)) (ho : ob) (hd : decode cc fr.1 = .ok (.iaload, n))
    (kk : am_A p l e R s m args below meth c nL G A kc ks Q fr') : am_A p l e R s m args below meth c nL G A kc ks Q fr := by
  obtain ⟨pc, ls, st, σ⟩ := fr
  unfold am_ista at h
  split at h
  · rename_i pc ls j o k i st σ e
    cases e
    cases hn : (Nat.beq n 1 && Nat.beq (am_kd k).1 10)
    · rw [hn] at h; cases h
    rw [hn] at h
    cases h
    rw [Bool.and_eq_true] at hn
    have hn3 := Nat.eq_of_beq_eq_true hn.1
    subst hn3
    intro H locs la hW hL hF h1 h2 hl
    obtain ⟨hx, hb, -, hown, hts, -, hU, hA⟩ := id X
    have hlv : am_lv G o k i := (am_tl (am_tl h2).2).1
    have hk := am_k10 k (am_ok_lt hlv.2.1).2 (Nat.eq_of_beq_eq_true hn.2)
    have eo := am_o10 o (am_ok_lt hlv.2.1).1 k (am_ok_lt hlv.2.1).2
    rw [hlv.2.1, hn.2] at eo
    have eo : o = 16 := by simpa using eo
    subst eo
    have ei : i = 0 := by have := hlv.2.2; omega
    subst ei
    obtain ⟨cell, g1, g2, g3, g4, g5, g6, -⟩ := hW.2.2.2.1.2.2 k hk.1 hk.2.1
    have hlt : j.toNatClampNeg < (am_kd k).2.1 := Nat.not_le.mp fun q => ho (Or.inr q)
    exact W.iald (v := .int ((am_stt.getD (k - 34) []).getD j.toNatClampNeg 0)) hx hb g1 g2 g3 (fun q => ho (q.elim Or.inl fun z => absurd (Nat.le_trans g4 z) (Nat.not_le.mpr hlt))) (g6 _ hlt) rfl rfl hd (kk H locs la hW hL hF h1 (am_lcons (v := .inl _) trivial (am_tl (am_tl h2).2).2) hl)
  · cases h
theorem am_iald_s (X : am_X p s m args c cc own nL P G A) {n : Nat} {fr fr' : am_F} {ob : Prop} (h : am_iald n fr = some (fr', ob)) (ho : ob) (hd : decode cc fr.1 = .ok (.iaload, n))
    (kk : am_A p l e R s m args below meth c nL G A kc ks Q fr') : am_A p l e R s m args below meth c nL G A kc ks Q fr := by
  obtain ⟨pc, ls, st, σ⟩ := fr
  unfold am_iald at h
  split at h
  · rename_i pc ls j o k i st σ e
    cases e
    cases hn : (Nat.beq n 1 && Nat.beq (am_kd k).1 1)
    · rw [hn] at h; cases h
    rw [hn] at h
    cases h
    rw [Bool.and_eq_true] at hn
    have hn3 := Nat.eq_of_beq_eq_true hn.1
    subst hn3
    intro H locs la hW hL hF h1 h2 hl
    obtain ⟨hx, hb, -, hown, hts, -, hU, hA⟩ := id X
    have hlv : am_lv G o k i := (am_tl (am_tl h2).2).1
    have hat := hW.1 o k i hlv
    rw [am_at1 (Nat.eq_of_beq_eq_true hn.2)] at hat
    have hlt : j.toNatClampNeg < (am_kd k).2.1 := Nat.not_le.mp fun q => ho (Or.inr q)
    refine W.iald (v := .int (σ.1 o k i j.toNatClampNeg)) hx hb hat ((hU.1.2 0 _ rfl).1 _ _) (fun q => by cases q) (by rw [arrV_size]; exact ho) (arrV_read _ _ hlt) rfl rfl hd ?_
    exact kk H locs la hW hL hF h1 (am_lcons (v := .inl _) trivial (am_tl (am_tl h2).2).2) hl
  · cases h
theorem am_lald_s (X : am_X p s m args c cc own nL P G A) {n : Nat} {fr fr' : am_F} {ob : Prop} (h : am_lald n fr = some (fr', ob)) (ho : ob) (hd : decode cc fr.1 = .ok (.laload, n))
    (kk : am_A p l e R s m args below meth c nL G A kc ks Q fr') : am_A p l e R s m args below meth c nL G A kc ks Q fr := by
  obtain ⟨pc, ls, st, σ⟩ := fr
  unfold am_lald at h
  split at h
  · rename_i pc ls j o k i st σ e
    cases e
    cases hn : (Nat.beq n 1 && Nat.beq (am_kd k).1 2)
    · rw [hn] at h; cases h
    rw [hn] at h
    cases h
    rw [Bool.and_eq_true] at hn
    have hn3 := Nat.eq_of_beq_eq_true hn.1
    subst hn3
    intro H locs la hW hL hF h1 h2 hl
    obtain ⟨hx, hb, -, hown, hts, -, hU, hA⟩ := id X
    have hlv : am_lv G o k i := (am_tl (am_tl h2).2).1
    have hat := hW.1 o k i hlv
    rw [am_at2 (Nat.eq_of_beq_eq_true hn.2)] at hat
    have hlt : j.toNatClampNeg < (am_kd k).2.1 := Nat.not_le.mp fun q => ho (Or.inr q)
    refine W.lald (v := .long (σ.2 o k i j.toNatClampNeg)) hx hb hat ((hU.1.2 1 _ rfl).1 _ _) (fun q => by cases q) (by rw [arrV_size]; exact ho) (arrV_read _ _ hlt) rfl rfl hd ?_
    exact kk H locs la hW hL hF h1 (am_lcons (v := .inr (.inl _)) trivial (am_tl (am_tl h2).2).2) hl
  · cases h
theorem am_zald_s (X : am_X p s m args c cc own nL P G A) {n : Nat} {fr fr' : am_F} {ob : Prop} (h : am_zald n fr = some (fr', ob)) (ho : ob) (hd : decode cc fr.1 = .ok (.baload, n))
    (kk : am_A p l e R s m args below meth c nL G A kc ks Q fr') : am_A p l e R s m args below meth c nL G A kc ks Q fr := by
  obtain ⟨pc, ls, st, σ⟩ := fr
  unfold am_zald at h
  split at h
  · rename_i pc ls j o k i st σ e
    cases e
    cases hn : (Nat.beq n 1 && Nat.beq (am_kd k).1 3)
    · rw [hn] at h; cases h
    rw [hn] at h
    cases h
    rw [Bool.and_eq_true] at hn
    have hn3 := Nat.eq_of_beq_eq_true hn.1
    subst hn3
    intro H locs la hW hL hF h1 h2 hl
    obtain ⟨hx, hb, -, hown, hts, -, hU, hA⟩ := id X
    have hlv : am_lv G o k i := (am_tl (am_tl h2).2).1
    have hat := hW.1 o k i hlv
    rw [am_at3 (Nat.eq_of_beq_eq_true hn.2)] at hat
    have hlt : j.toNatClampNeg < (am_kd k).2.1 := Nat.not_le.mp fun q => ho (Or.inr q)
    refine W.zald (v := .int (σ.1 o k i j.toNatClampNeg)) hx hb hat ((hU.1.2 2 _ rfl).1 _ _) (fun q => by cases q) (by rw [arrV_size]; exact ho) (arrV_read _ _ hlt) rfl rfl hd ?_
    exact kk H locs la hW hL hF h1 (am_lcons (v := .inl _) trivial (am_tl (am_tl h2).2).2) hl
  · cases h
theorem am_aald_s (X : am_X p s m args c cc own nL P G A) {n : Nat} {fr fr' : am_F} {ob : Prop} (h : am_aald n fr = some (fr', ob)) (ho : ob) (hd : decode cc fr.1 = .ok (.aaload, n))
    (kk : am_A p l e R s m args below meth c nL G A kc ks Q fr') : am_A p l e R s m args below meth c nL G A kc ks Q fr := by
  obtain ⟨pc, ls, st, σ⟩ := fr
  unfold am_aald at h
  split at h
  · rename_i pc ls j o k i st σ e
    cases e
    cases hn : (Nat.beq n 1 && (Nat.ble 4 (am_kd k).1 && Nat.ble (am_kd k).1 6))
    · rw [hn] at h; cases h
    rw [hn] at h
    cases h
    simp only [Bool.and_eq_true] at hn
    have hn3 := Nat.eq_of_beq_eq_true hn.1
    subst hn3
    intro H locs la hW hL hF h1 h2 hl
    obtain ⟨hx, hb, -, hown, hts, -, hU, hA⟩ := id X
    have hlv : am_lv G o k i := (am_tl (am_tl h2).2).1
    have hat := hW.1 o k i hlv
    have hlt : j.toNatClampNeg < (am_kd k).2.1 := Nat.not_le.mp fun q => ho (Or.inr q)
    have hch := am_chk_at hlv.2.1
    rw [Bool.and_eq_true] at hch
    have h456 : (am_kd k).1 = 4 ∨ (am_kd k).1 = 5 ∨ (am_kd k).1 = 6 := by
      have a := Nat.le_of_ble_eq_true hn.2.1
      have b := Nat.le_of_ble_eq_true hn.2.2
      omega
    have hx3 : am_ok o (am_kd k).2.2.2 = true ∧ (am_kd k).2.1 = (am_kd (am_kd k).2.2.2).2.2.1 := by
      have h3 := hch.2
      revert h3 h456
      generalize am_kd k = z
      obtain ⟨t, n, c', x⟩ := z
      intro h456 h3
      rcases h456 with e | e | e <;> (subst e; simp only [Bool.and_eq_true, beq_iff_eq] at h3; exact h3)
    have hnew : am_lV G (am_r o (am_kd k).2.2.2 j.toNatClampNeg) := ⟨hlv.1, hx3.1, by rw [← hx3.2]; exact hlt⟩
    have ka := kk H locs la hW hL hF h1 (am_lcons hnew (am_tl (am_tl h2).2).2) hl
    rcases h456 with e | e | e
    · rw [am_at4 e] at hat
      exact W.aald (v := .ref (am_ad G o (am_kd k).2.2.2 j.toNatClampNeg)) (ty := .array .int) hx hb hat ((hU.1.2 3 _ rfl).1 _ _) rfl (fun q => by cases q) (by rw [arrV_size]; exact ho) (arrV_read _ _ hlt) rfl rfl hd ka
    · rw [am_at5 e] at hat
      exact W.aald (v := .ref (am_ad G o (am_kd k).2.2.2 j.toNatClampNeg)) (ty := .array .long) hx hb hat ((hU.1.2 4 _ rfl).1 _ _) rfl (fun q => by cases q) (by rw [arrV_size]; exact ho) (arrV_read _ _ hlt) rfl rfl hd ka
    · rw [am_at6 e] at hat
      exact W.aald (v := .ref (am_ad G o (am_kd k).2.2.2 j.toNatClampNeg)) (ty := .array .boolean) hx hb hat ((hU.1.2 5 _ rfl).1 _ _) rfl (fun q => by cases q) (by rw [arrV_size]; exact ho) (arrV_read _ _ hlt) rfl rfl hd ka
  · cases h
theorem am_wr {H H' : Heap} {locs : List Loc} {o k i j : Nat} (hA : ∀ q, am_fr G q → A q) (hL : ∀ q ∈ locs, A q.base) (hF : s.heap.size ≤ H.size ∧ ∀ q, q < s.heap.size → ¬ A q → H[q]? = s.heap[q]?) (hlv : am_lv G o k i) (h8 : o < 16) (e2 : H'.size = H.size) (e3 : ∀ q, q ≠ am_ad G o k i → H'[q]? = H[q]?) :
    (∀ q ∈ locs ++ [⟨am_ad G o k i, j⟩], A q.base) ∧ (s.heap.size ≤ H'.size ∧ ∀ q, q < s.heap.size → ¬ A q → H'[q]? = s.heap[q]?) := by
  refine ⟨fun q hq => ?_, Nat.le_trans hF.1 (Nat.le_of_eq e2.symm), fun q hz hq => ?_⟩
  · rcases List.mem_append.mp hq with hq | hq
    · exact hL q hq
    · rw [List.mem_singleton.mp hq]
      exact hA _ ⟨o, k, i, hlv, h8, rfl⟩
  · rw [e3 q fun z => hq (hA _ ⟨o, k, i, hlv, h8, z⟩)]
    exact hF.2 q hz hq
theorem am_iast_s (X : am_X p s m args c cc own nL P G A) {n : Nat} {fr fr' : am_F} {ob : Prop} (h : am_iast n fr = some (fr', ob)) (ho : ob) (hd : decode cc fr.1 = .ok (.iastore, n))
    (kk : am_A p l e R s m args below meth c nL G A kc ks Q fr') : am_A p l e R s m args below meth c nL G A kc ks Q fr := by
  obtain ⟨pc, ls, st, σ⟩ := fr
  unfold am_iast at h
  split at h
  · rename_i pc ls x j o k i st σ e
    cases e
    cases hn : (Nat.beq n 1 && (Nat.beq (am_kd k).1 1 && (Nat.ble (k + 1) 34 || Nat.ble 39 k)))
    · rw [hn] at h; cases h
    rw [hn] at h
    cases h
    simp only [Bool.and_eq_true] at hn
    have hn3 := Nat.eq_of_beq_eq_true hn.1
    subst hn3
    intro H locs la hW hL hF h1 h2 hl
    obtain ⟨hx, hb, -, hown, hts, -, hU, hA⟩ := id X
    have hlv : am_lv G o k i := (am_tl (am_tl (am_tl h2).2).2).1
    have h8 : o < 16 := am_arr8 hlv.2.1 (by
      have := hn.2.2
      rw [Bool.or_eq_true] at this
      rcases this with z | z <;> simp [z])
    have hk1 := Nat.eq_of_beq_eq_true hn.2.1
    have hat := hW.1 o k i hlv
    rw [am_at1 hk1] at hat
    refine W.iast hx hb hat ((hU.1.2 0 _ rfl).1 _ _) (fun q => by cases q) (by rw [arrV_size]; exact ho) rfl rfl hd fun H' e1 e2 e3 => ?_
    obtain ⟨hL', hF'⟩ := am_wr (j := j.toNatClampNeg) hA hL hF hlv h8 e2 e3
    refine kk H' _ la (hW.set hlv h8 ?_ e2 e3 (fun e40 => ?_)) hL' hF' h1 (am_tl (am_tl (am_tl h2).2).2).2 hl
    · rw [am_at1 hk1, e1, arrV_store]
      refine congrArg some (congrArg (arrV _ _) (funext fun q => ?_))
      rw [am_ex]
      unfold updV upd
      split <;> rfl
    · exact absurd e40 (am_40 0 (by decide) k (am_ok_lt hlv.2.1).2 (by rw [hk1]; decide))
  · cases h
theorem am_zast_s (X : am_X p s m args c cc own nL P G A) {n : Nat} {fr fr' : am_F} {ob : Prop} (h : am_zast n fr = some (fr', ob)) (ho : ob) (hd : decode cc fr.1 = .ok (.bastore, n))
    (kk : am_A p l e R s m args below meth c nL G A kc ks Q fr') : am_A p l e R s m args below meth c nL G A kc ks Q fr := by
  obtain ⟨pc, ls, st, σ⟩ := fr
  unfold am_zast at h
  split at h
  · rename_i pc ls x j o k i st σ e
    cases e
    cases hn : (Nat.beq n 1 && Nat.beq (am_kd k).1 3)
    · rw [hn] at h; cases h
    rw [hn] at h
    cases h
    simp only [Bool.and_eq_true] at hn
    have hn3 := Nat.eq_of_beq_eq_true hn.1
    subst hn3
    intro H locs la hW hL hF h1 h2 hl
    obtain ⟨hx, hb, -, hown, hts, -, hU, hA⟩ := id X
    have hlv : am_lv G o k i := (am_tl (am_tl (am_tl h2).2).2).1
    have hk1 := Nat.eq_of_beq_eq_true hn.2
    have h8 : o < 16 := am_arr8 hlv.2.1 (by rw [hk1]; rfl)
    have hat := hW.1 o k i hlv
    rw [am_at3 hk1] at hat
    refine W.zast hx hb hat ((hU.1.2 2 _ rfl).1 _ _) (fun q => by cases q) (by rw [arrV_size]; exact ho) rfl rfl hd fun H' e1 e2 e3 => ?_
    obtain ⟨hL', hF'⟩ := am_wr (j := j.toNatClampNeg) hA hL hF hlv h8 e2 e3
    refine kk H' _ la (hW.set hlv h8 ?_ e2 e3 (fun e40 => ?_)) hL' hF' h1 (am_tl (am_tl (am_tl h2).2).2).2 hl
    · rw [am_at3 hk1, e1, arrV_store]
      refine congrArg some (congrArg (arrV _ _) (funext fun q => ?_))
      rw [am_ex]
      unfold updV upd
      split <;> rfl
    · exact absurd e40 (am_40 0 (by decide) k (am_ok_lt hlv.2.1).2 (by rw [hk1]; decide))
  · cases h
theorem am_last_s (X : am_X p s m args c cc own nL P G A) {n : Nat} {fr fr' : am_F} {ob : Prop} (h : am_last n fr = some (fr', ob)) (ho : ob) (hd : decode cc fr.1 = .ok (.lastore, n))
    (kk : am_A p l e R s m args below meth c nL G A kc ks Q fr') : am_A p l e R s m args below meth c nL G A kc ks Q fr := by
  obtain ⟨pc, ls, st, σ⟩ := fr
  unfold am_last at h
  split at h
  · rename_i pc ls x j o k i st σ e
    cases e
    cases hn : (Nat.beq n 1 && Nat.beq (am_kd k).1 2)
    · rw [hn] at h; cases h
    rw [hn] at h
    cases h
    simp only [Bool.and_eq_true] at hn
    have hn3 := Nat.eq_of_beq_eq_true hn.1
    subst hn3
    intro H locs la hW hL hF h1 h2 hl
    obtain ⟨hx, hb, -, hown, hts, -, hU, hA⟩ := id X
    have hlv : am_lv G o k i := (am_tl (am_tl (am_tl h2).2).2).1
    have hk1 := Nat.eq_of_beq_eq_true hn.2
    have h8 : o < 16 := am_arr8 hlv.2.1 (by rw [hk1]; rfl)
    have hat := hW.1 o k i hlv
    rw [am_at2 hk1] at hat
    refine W.last hx hb hat ((hU.1.2 1 _ rfl).1 _ _) (fun q => by cases q) (by rw [arrV_size]; exact ho) rfl rfl hd fun H' e1 e2 e3 => ?_
    obtain ⟨hL', hF'⟩ := am_wr (j := j.toNatClampNeg) hA hL hF hlv h8 e2 e3
    refine kk H' _ la (hW.setL hlv h8 ?_ e2 e3) hL' hF' h1 (am_tl (am_tl (am_tl h2).2).2).2 hl
    rw [am_at2 hk1, e1, arrV_store]
    refine congrArg some (congrArg (arrV _ _) (funext fun q => ?_))
    rw [am_exL]
    unfold updV vp_updL
    split <;> rfl
  · cases h
theorem am_alen_s (X : am_X p s m args c cc own nL P G A) {n : Nat} {fr fr' : am_F} {ob : Prop} (h : am_alen n fr = some (fr', ob)) (hd : decode cc fr.1 = .ok (.arraylength, n))
    (kk : am_A p l e R s m args below meth c nL G A kc ks Q fr') : am_A p l e R s m args below meth c nL G A kc ks Q fr := by
  obtain ⟨pc, ls, st, σ⟩ := fr
  unfold am_alen at h
  split at h
  · rename_i pc ls o k i st σ e
    cases e
    cases hn : (Nat.beq n 1 && (Nat.ble 1 (am_kd k).1 && Nat.ble (am_kd k).1 6))
    · rw [hn] at h; cases h
    rw [hn] at h
    cases h
    simp only [Bool.and_eq_true] at hn
    have hn3 := Nat.eq_of_beq_eq_true hn.1
    subst hn3
    intro H locs la hW hL hF h1 h2 hl
    obtain ⟨hx, hb, -, hown, hts, -, hU, hA⟩ := id X
    have hlv : am_lv G o k i := (am_tl h2).1
    have hat := hW.1 o k i hlv
    have ka := kk H locs la hW hL hF h1 (am_lcons (v := .inl _) trivial (am_tl h2).2) hl
    have h16 : (am_kd k).1 = 1 ∨ (am_kd k).1 = 2 ∨ (am_kd k).1 = 3 ∨ (am_kd k).1 = 4 ∨ (am_kd k).1 = 5 ∨ (am_kd k).1 = 6 := by
      have a := Nat.le_of_ble_eq_true hn.2.1
      have b := Nat.le_of_ble_eq_true hn.2.2
      omega
    rcases h16 with z | z | z | z | z | z
    · rw [am_at1 z] at hat
      exact W.alen (n := Int32.ofNat (am_kd k).2.1) hx hb hat ((hU.1.2 0 _ rfl).1 _ _) (by rw [arrV_size] <;> rfl) rfl rfl hd ka
    · rw [am_at2 z] at hat
      exact W.alen (n := Int32.ofNat (am_kd k).2.1) hx hb hat ((hU.1.2 1 _ rfl).1 _ _) (by rw [arrV_size] <;> rfl) rfl rfl hd ka
    · rw [am_at3 z] at hat
      exact W.alen (n := Int32.ofNat (am_kd k).2.1) hx hb hat ((hU.1.2 2 _ rfl).1 _ _) (by rw [arrV_size] <;> rfl) rfl rfl hd ka
    · rw [am_at4 z] at hat
      exact W.alen (n := Int32.ofNat (am_kd k).2.1) hx hb hat ((hU.1.2 3 _ rfl).1 _ _) (by rw [arrV_size] <;> rfl) rfl rfl hd ka
    · rw [am_at5 z] at hat
      exact W.alen (n := Int32.ofNat (am_kd k).2.1) hx hb hat ((hU.1.2 4 _ rfl).1 _ _) (by rw [arrV_size] <;> rfl) rfl rfl hd ka
    · rw [am_at6 z] at hat
      exact W.alen (n := Int32.ofNat (am_kd k).2.1) hx hb hat ((hU.1.2 5 _ rfl).1 _ _) (by rw [arrV_size] <;> rfl) rfl rfl hd ka
  · cases h
end AMH
