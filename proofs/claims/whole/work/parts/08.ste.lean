/-! ===== any instruction, and straight stretches ===== -/
section AMT
variable {p : Program} {l : Launch} {e : Env} {R : Room} {s : State} {m : MethodId} {args : Array Value} {below : List Frame} {meth : Method} {c : Code} {cc : ByteArray} {own : String} {nL : Nat} {P : am_P} {G : am_G} {A : Nat → Prop} {kc ks : Nat} {Q : State → Prop}
theorem am_1_s (X : am_X p s m args c cc own nL P G A) {i : Instr} {n : Nat} {fr fr' : am_F} {ob : Prop} (h : am_1 nL P i n fr = some (fr', ob)) (hd : decode cc fr.1 = .ok (i, n)) (ho : ob)
    (kk : am_A p l e R s m args below meth c nL G A kc ks Q fr') : am_A p l e R s m args below meth c nL G A kc ks Q fr := by
  obtain ⟨hx, hb, -, hown, hts, hpk, hU, hA⟩ := id X
  have hcI : ∀ idx v, am_lk P.2.2.1 idx = some v → (Cond.constant own idx v).before args s = true := fun idx v hv => by
    unfold am_pok at hpk
    simp only [Bool.and_eq_true] at hpk
    have h8 := List.all_eq_true.mp hpk.1.2 _ (am_lk_mem hv)
    simp only [decide_eq_true_eq] at h8
    exact hts _ h8
  have hcL : ∀ idx v, am_lk P.2.2.2 idx = some v → (Cond.constantLong own idx v).before args s = true := fun idx v hv => by
    unfold am_pok at hpk
    simp only [Bool.and_eq_true] at hpk
    have h8 := List.all_eq_true.mp hpk.2 _ (am_lk_mem hv)
    simp only [decide_eq_true_eq] at h8
    exact hts _ h8
  unfold am_1 at h
  split at h
  · exact am_push_s h trivial (fun H locs la rest en k => lv_iconst (v := Int32.ofInt _) hx hb (by rw [← en]; exact hd) rfl k) kk
  · exact am_push_s h trivial (fun H locs la rest en k => lv_bipush hx hb (by rw [← en]; exact hd) rfl k) kk
  · exact am_push_s h trivial (fun H locs la rest en k => lv_sipush hx hb (by rw [← en]; exact hd) rfl k) kk
  · exact am_push_s h trivial (fun H locs la rest en k => lv_lconst hx hb (by rw [← en]; exact hd) rfl k) kk
  · split at h
    · rename_i v hv
      exact am_push_s h trivial (fun H locs la rest en k => lv_ldc hx hb hown (hcI _ _ hv) (by rw [← en]; exact hd) k) kk
    · exact am_lstr_s X h (fun H locs la rest tx q en hz k => va_ldcS hx hb hown hz (by rw [← en]; exact hd) k) kk
  · split at h
    · rename_i v hv
      exact am_push_s h trivial (fun H locs la rest en k => lv_ldcw hx hb hown (hcI _ _ hv) (by rw [← en]; exact hd) k) kk
    · exact am_lstr_s X h (fun H locs la rest tx q en hz k => fun T hT Xs => by
        obtain ⟨t, a1, b1⟩ := k T hT Xs
        exact ⟨t, am_ldcwS Xs hx hown (text := tx) (a := q) hz.1 hz.2 (g := F0 m fr.1 la rest) rfl (by rw [hb, ← en]; exact hd) t a1, b1⟩) kk
  · split at h
    · rename_i v hv
      exact am_push_s h trivial (fun H locs la rest en k => lv_ldc2 hx hb hown (hcL _ _ hv) (by rw [← en]; exact hd) k) kk
    · cases h
  · exact am_ild_s h (fun H locs la rest x en hl k => lv_iload_n hx hb (by rw [← en]; exact hd) rfl hl k) kk
  · exact am_ild_s h (fun H locs la rest x en hl k => lv_iload hx hb (by rw [← en]; exact hd) hl k) kk
  · exact am_lld_s h (fun H locs la rest x en hl k => lv_lload_n hx hb (by rw [← en]; exact hd) rfl hl k) kk
  · exact am_lld_s h (fun H locs la rest x en hl k => lv_lload hx hb (by rw [← en]; exact hd) hl k) kk
  · exact am_ald_s h (fun H locs la rest x en hl k => lv_aload_n hx hb (by rw [← en]; exact hd) rfl hl k) kk
  · exact am_ald_s h (fun H locs la rest x en hl k => lv_aload hx hb (by rw [← en]; exact hd) hl k) kk
  · exact am_ist_s h (fun H locs la rest x lv lv' en hi hl hlv k => lv_istore_n hx hb (by rw [← en]; exact hd) rfl hl hi hlv k) kk
  · exact am_ist_s h (fun H locs la rest x lv lv' en hi hl hlv k => lv_istore hx hb (by rw [← en]; exact hd) hl hi hlv k) kk
  · exact am_lst_s h (fun H locs la rest x lv lv' en hi hl hlv k => lv_lstore_n hx hb (by rw [← en]; exact hd) rfl hl hi hlv k) kk
  · exact am_lst_s h (fun H locs la rest x lv lv' en hi hl hlv k => lv_lstore hx hb (by rw [← en]; exact hd) hl hi hlv k) kk
  · exact am_ast_s h (fun H locs la rest x lv lv' en hi hl hlv k => lv_astore_n hx hb (by rw [← en]; exact hd) rfl hl hi hlv k) kk
  · exact am_ast_s h (fun H locs la rest x lv lv' en hi hl hlv k => lv_astore hx hb (by rw [← en]; exact hd) hl hi hlv k) kk
  · exact am_inc_s hx hb h hd kk
  · exact am_b2_s h (fun H locs la rest x y en k => lv_iadd hx hb (by rw [← en]; exact hd) k) kk
  · exact am_b2_s h (fun H locs la rest x y en k => lv_isub hx hb (by rw [← en]; exact hd) k) kk
  · exact am_b2_s h (fun H locs la rest x y en k => lv_imul hx hb (by rw [← en]; exact hd) k) kk
  · exact am_b2_s h (fun H locs la rest x y en k => lv_iand hx hb (by rw [← en]; exact hd) k) kk
  · exact am_b2_s h (fun H locs la rest x y en k => lv_ior hx hb (by rw [← en]; exact hd) k) kk
  · exact am_b2_s h (fun H locs la rest x y en k => lv_ixor hx hb (by rw [← en]; exact hd) k) kk
  · exact am_b2_s h (fun H locs la rest x y en k => lv_ishl hx hb (by rw [← en]; exact hd) k) kk
  · exact am_b2_s h (fun H locs la rest x y en k => lv_ishr hx hb (by rw [← en]; exact hd) k) kk
  · exact am_b2_s h (fun H locs la rest x y en k => lv_iushr hx hb (by rw [← en]; exact hd) rfl k) kk
  · exact am_bd_s h ho (fun H locs la rest x y en hy k => lv_idiv hx hb (by rw [← en]; exact hd) hy k) kk
  · exact am_bd_s h ho (fun H locs la rest x y en hy k => lv_irem hx hb (by rw [← en]; exact hd) hy k) kk
  · exact am_b1_s h (fun H locs la rest x en k => lv_ineg hx hb (by rw [← en]; exact hd) k) kk
  · exact am_b1_s h (fun H locs la rest x en k => lv_i2b hx hb (by rw [← en]; exact hd) rfl k) kk
  · exact am_b1_s h (fun H locs la rest x en k => lv_i2s hx hb (by rw [← en]; exact hd) rfl k) kk
  · exact am_b1_s h (fun H locs la rest x en k => lv_i2c hx hb (by rw [← en]; exact hd) rfl k) kk
  · exact am_i2l_s h (fun H locs la rest x en k => lv_i2l hx hb (by rw [← en]; exact hd) rfl k) kk
  · exact am_l2i_s h (fun H locs la rest x en k => lv_l2i hx hb (by rw [← en]; exact hd) rfl k) kk
  · exact am_c2_s h (fun H locs la rest x y en k => lv_land hx hb (by rw [← en]; exact hd) k) kk
  · exact am_c2_s h (fun H locs la rest x y en k => lv_lor hx hb (by rw [← en]; exact hd) k) kk
  · exact am_lcmp_s h (fun H locs la rest x y en k => W.lcmp hx hb (by rw [← en]; exact hd) k) kk
  · exact am_lshl_s h (fun H locs la rest x y en k => lv_lshl hx hb (by rw [← en]; exact hd) rfl k) kk
  · exact am_dup_s h (fun H locs la rest v en hv k => lv_dup hx hb (by rw [← en]; exact hd) hv k) kk
  · exact am_pop_s h (fun H locs la rest v en hv k => lv_pop hx hb (by rw [← en]; exact hd) hv k) kk
  · exact am_dupx_s h (fun H locs la rest v w en hv hw k => lv_dup_x1 hx hb (by rw [← en]; exact hd) hv hw k) kk
  · exact am_dup2_s h (fun H locs la rest v w en hv hw k => lv_dup2_11 hx hb (by rw [← en]; exact hd) hv hw k) kk
  · exact am_goto_s hx hb h hd kk
  · split at h
    · rename_i z hz
      cases h
      exact am_get_s X hz hd kk
    · exact am_gstr_s X h hd kk
  · exact am_put_s X h ho hd kk
  · exact am_gets_s X h hd kk
  · split at h
    · rename_i z hz
      cases h
      exact am_iald_s X hz ho hd kk
    · exact am_ista_s X h ho hd kk
  · exact am_lald_s X h ho hd kk
  · split at h
    · rename_i z hz
      cases h
      exact am_zald_s X hz ho hd kk
    · exact am_bstr_s X h ho hd kk
  · exact am_aald_s X h ho hd kk
  · exact am_iast_s X h ho hd kk
  · exact am_last_s X h ho hd kk
  · exact am_zast_s X h ho hd kk
  · split at h
    · rename_i z hz
      cases h
      exact am_alen_s X hz hd kk
    · exact am_astr_s X h hd kk
  · cases h
theorem am_x_cons (nL : Nat) (P : am_P) (q : Nat × Instr × Nat) (t : List (Nat × Instr × Nat)) (fr : am_F) : am_x nL P (q :: t) fr = (bif Nat.beq fr.1 q.1 then (match am_1 nL P q.2.1 q.2.2 fr with
    | none => none
    | some (fr1, ob) => match am_x nL P t fr1 with
      | none => none
      | some (fr2, obs) => some (fr2, ob ∧ obs)) else none) := rfl
/-- a straight stretch whose end is written out -/
theorem am_x_s (X : am_X p s m args c cc own nL P G A) : ∀ (is : List (Nat × Instr × Nat)) {fr fr' : am_F} {ob : Prop}, (∀ q ∈ is, decode cc q.1 = .ok (q.2.1, q.2.2)) → am_x nL P is fr = some (fr', ob) → ob → am_A p l e R s m args below meth c nL G A kc ks Q fr' → am_A p l e R s m args below meth c nL G A kc ks Q fr
  | [], fr, fr', ob, _, h, _, k => by
    cases h
    exact k
  | q :: t, fr, fr', ob, hc, h, ho, k => by
    rw [am_x_cons] at h
    cases hp : Nat.beq fr.1 q.1
    · rw [hp] at h; cases h
    rw [hp] at h
    simp only [cond_true] at h
    split at h
    · cases h
    · rename_i fr1 ob1 h1
      split at h
      · cases h
      · rename_i fr2 ob2 h2
        cases h
        exact am_1_s X h1 (by rw [Nat.eq_of_beq_eq_true hp]; exact hc q List.mem_cons_self) ho.1 (am_x_s X t (fun z hz => hc z (List.mem_cons_of_mem _ hz)) h2 ho.2 k)
theorem am_dec {tb : List (Nat × Instr × Nat)} (hc : am_code cc tb = true) {q : Nat × Instr × Nat} (h : q ∈ tb) : decode cc q.1 = .ok (q.2.1, q.2.2) := by
  unfold am_code at hc
  have h8 := List.all_eq_true.mp hc q h
  simp only [decide_eq_true_eq] at h8
  exact h8
theorem am_dea {tb : List (Nat × Instr × Nat)} (hc : am_code cc tb = true) {a pc n : Nat} {i : Instr} (h : tb[a]? = some (pc, i, n)) : decode cc pc = .ok (i, n) := am_dec hc (q := (pc, i, n)) (List.mem_of_getElem? h)
theorem am_blk {tb : List (Nat × Instr × Nat)} (hc : am_code cc tb = true) (X : am_X p s m args c cc own nL P G A) (a n : Nat) {fr fr' : am_F} {ob : Prop} (h : am_x nL P ((tb.drop a).take n) fr = some (fr', ob)) (ho : ob)
    (k : am_A p l e R s m args below meth c nL G A kc ks Q fr') : am_A p l e R s m args below meth c nL G A kc ks Q fr :=
  am_x_s X _ (fun q hq => am_dec hc (List.mem_of_mem_drop (List.mem_of_mem_take hq))) h ho k
/-- fewer locals are known: by their places -/
theorem am_less {pc : Nat} {ls : List (Nat × am_V)} {st : List am_V} {σ : am_S} (pk : List Nat) {ls' : List (Nat × am_V)} (h : pk.filterMap (fun i => ls[i]?) = ls') (k : am_A p l e R s m args below meth c nL G A kc ks Q (pc, ls', st, σ)) : am_A p l e R s m args below meth c nL G A kc ks Q (pc, ls, st, σ) := by
  have hm : ∀ q ∈ ls', q ∈ ls := fun q hq => by
    rw [← h] at hq
    obtain ⟨i, -, hi⟩ := List.mem_filterMap.mp hq
    exact List.mem_of_getElem? hi
  exact fun H locs la hW hL hF h1 h2 hl => k H locs la hW hL hF (fun q hq => h1 q (hm q hq)) h2 ⟨hl.1, hl.2.1, fun q hq => by
    obtain ⟨q0, h0, rfl⟩ := List.mem_map.mp hq
    exact hl.2.2 _ (List.mem_map.mpr ⟨q0, hm q0 h0, rfl⟩)⟩
/-- branches -/
theorem am_br {pc tgt : Nat} {ls : List (Nat × am_V)} {st : List am_V} {σ : am_S} {y : Int32} {cd : Prop}
    (hrow : ∀ (H : Heap) (locs : List Loc) (la : Array Slot) (rest : List Value), (cd → W p l e R s m args below meth c H locs kc ks Q (F0 m tgt la rest)) → (¬ cd → W p l e R s m args below meth c H locs kc ks Q (F0 m (pc + 3) la rest)) → W p l e R s m args below meth c H locs kc ks Q (F0 m pc la (.int y :: rest)))
    (kt : cd → am_A p l e R s m args below meth c nL G A kc ks Q (tgt, ls, st, σ)) (kf : ¬ cd → am_A p l e R s m args below meth c nL G A kc ks Q (pc + 3, ls, st, σ)) : am_A p l e R s m args below meth c nL G A kc ks Q (pc, ls, am_i y :: st, σ) :=
  fun H locs la hW hL hF h1 h2 hl => hrow H locs la _ (fun q => kt q H locs la hW hL hF h1 (am_tl h2).2 hl) (fun q => kf q H locs la hW hL hF h1 (am_tl h2).2 hl)
theorem am_br2 {pc tgt : Nat} {ls : List (Nat × am_V)} {st : List am_V} {σ : am_S} {x y : Int32} {cd : Prop}
    (hrow : ∀ (H : Heap) (locs : List Loc) (la : Array Slot) (rest : List Value), (cd → W p l e R s m args below meth c H locs kc ks Q (F0 m tgt la rest)) → (¬ cd → W p l e R s m args below meth c H locs kc ks Q (F0 m (pc + 3) la rest)) → W p l e R s m args below meth c H locs kc ks Q (F0 m pc la (.int y :: .int x :: rest)))
    (kt : cd → am_A p l e R s m args below meth c nL G A kc ks Q (tgt, ls, st, σ)) (kf : ¬ cd → am_A p l e R s m args below meth c nL G A kc ks Q (pc + 3, ls, st, σ)) : am_A p l e R s m args below meth c nL G A kc ks Q (pc, ls, am_i y :: am_i x :: st, σ) :=
  fun H locs la hW hL hF h1 h2 hl => hrow H locs la _ (fun q => kt q H locs la hW hL hF h1 (am_tl (am_tl h2).2).2 hl) (fun q => kf q H locs la hW hL hF h1 (am_tl (am_tl h2).2).2 hl)
theorem am_if_eq {tb : List (Nat × Instr × Nat)} (hc : am_code cc tb = true) (X : am_X p s m args c cc own nL P G A) (a : Nat) {pc tgt : Nat} {off : Int} {ls : List (Nat × am_V)} {st : List am_V} {σ : am_S} {x : Int32} (h : tb[a]? = some (pc, .ifCond .eq off, 3)) (ht : (pc : Int) + off = (tgt : Int))
    (kt : x = 0 → am_A p l e R s m args below meth c nL G A kc ks Q (tgt, ls, st, σ)) (kf : ¬ x = 0 → am_A p l e R s m args below meth c nL G A kc ks Q (pc + 3, ls, st, σ)) : am_A p l e R s m args below meth c nL G A kc ks Q (pc, ls, am_i x :: st, σ) :=
  am_br (fun H locs la rest k1 k2 => lv_if_eq X.1 X.2.1 (am_dea hc h) ht k1 k2) kt kf
theorem am_icmp_eq {tb : List (Nat × Instr × Nat)} (hc : am_code cc tb = true) (X : am_X p s m args c cc own nL P G A) (a : Nat) {pc tgt : Nat} {off : Int} {ls : List (Nat × am_V)} {st : List am_V} {σ : am_S} {x y : Int32} (h : tb[a]? = some (pc, .if_icmp .eq off, 3)) (ht : (pc : Int) + off = (tgt : Int))
    (kt : x = y → am_A p l e R s m args below meth c nL G A kc ks Q (tgt, ls, st, σ)) (kf : ¬ x = y → am_A p l e R s m args below meth c nL G A kc ks Q (pc + 3, ls, st, σ)) : am_A p l e R s m args below meth c nL G A kc ks Q (pc, ls, am_i y :: am_i x :: st, σ) :=
  am_br2 (fun H locs la rest k1 k2 => lv_icmp_eq X.1 X.2.1 (am_dea hc h) ht k1 k2) kt kf
theorem am_if_ne {tb : List (Nat × Instr × Nat)} (hc : am_code cc tb = true) (X : am_X p s m args c cc own nL P G A) (a : Nat) {pc tgt : Nat} {off : Int} {ls : List (Nat × am_V)} {st : List am_V} {σ : am_S} {x : Int32} (h : tb[a]? = some (pc, .ifCond .ne off, 3)) (ht : (pc : Int) + off = (tgt : Int))
    (kt : ¬ x = 0 → am_A p l e R s m args below meth c nL G A kc ks Q (tgt, ls, st, σ)) (kf : x = 0 → am_A p l e R s m args below meth c nL G A kc ks Q (pc + 3, ls, st, σ)) : am_A p l e R s m args below meth c nL G A kc ks Q (pc, ls, am_i x :: st, σ) :=
  am_br (fun H locs la rest k1 k2 => lv_if_ne X.1 X.2.1 (am_dea hc h) ht k1 fun q => k2 fun z => z q) kt fun q => kf (Classical.not_not.mp q)
theorem am_icmp_ne {tb : List (Nat × Instr × Nat)} (hc : am_code cc tb = true) (X : am_X p s m args c cc own nL P G A) (a : Nat) {pc tgt : Nat} {off : Int} {ls : List (Nat × am_V)} {st : List am_V} {σ : am_S} {x y : Int32} (h : tb[a]? = some (pc, .if_icmp .ne off, 3)) (ht : (pc : Int) + off = (tgt : Int))
    (kt : ¬ x = y → am_A p l e R s m args below meth c nL G A kc ks Q (tgt, ls, st, σ)) (kf : x = y → am_A p l e R s m args below meth c nL G A kc ks Q (pc + 3, ls, st, σ)) : am_A p l e R s m args below meth c nL G A kc ks Q (pc, ls, am_i y :: am_i x :: st, σ) :=
  am_br2 (fun H locs la rest k1 k2 => lv_icmp_ne X.1 X.2.1 (am_dea hc h) ht k1 fun q => k2 fun z => z q) kt fun q => kf (Classical.not_not.mp q)
theorem am_if_lt {tb : List (Nat × Instr × Nat)} (hc : am_code cc tb = true) (X : am_X p s m args c cc own nL P G A) (a : Nat) {pc tgt : Nat} {off : Int} {ls : List (Nat × am_V)} {st : List am_V} {σ : am_S} {x : Int32} (h : tb[a]? = some (pc, .ifCond .lt off, 3)) (ht : (pc : Int) + off = (tgt : Int))
    (kt : x < 0 → am_A p l e R s m args below meth c nL G A kc ks Q (tgt, ls, st, σ)) (kf : ¬ x < 0 → am_A p l e R s m args below meth c nL G A kc ks Q (pc + 3, ls, st, σ)) : am_A p l e R s m args below meth c nL G A kc ks Q (pc, ls, am_i x :: st, σ) :=
  am_br (fun H locs la rest k1 k2 => lv_if_lt X.1 X.2.1 (am_dea hc h) ht k1 k2) kt kf
theorem am_icmp_lt {tb : List (Nat × Instr × Nat)} (hc : am_code cc tb = true) (X : am_X p s m args c cc own nL P G A) (a : Nat) {pc tgt : Nat} {off : Int} {ls : List (Nat × am_V)} {st : List am_V} {σ : am_S} {x y : Int32} (h : tb[a]? = some (pc, .if_icmp .lt off, 3)) (ht : (pc : Int) + off = (tgt : Int))
    (kt : x < y → am_A p l e R s m args below meth c nL G A kc ks Q (tgt, ls, st, σ)) (kf : ¬ x < y → am_A p l e R s m args below meth c nL G A kc ks Q (pc + 3, ls, st, σ)) : am_A p l e R s m args below meth c nL G A kc ks Q (pc, ls, am_i y :: am_i x :: st, σ) :=
  am_br2 (fun H locs la rest k1 k2 => lv_icmp_lt X.1 X.2.1 (am_dea hc h) ht k1 k2) kt kf
theorem am_if_ge {tb : List (Nat × Instr × Nat)} (hc : am_code cc tb = true) (X : am_X p s m args c cc own nL P G A) (a : Nat) {pc tgt : Nat} {off : Int} {ls : List (Nat × am_V)} {st : List am_V} {σ : am_S} {x : Int32} (h : tb[a]? = some (pc, .ifCond .ge off, 3)) (ht : (pc : Int) + off = (tgt : Int))
    (kt : 0 ≤ x → am_A p l e R s m args below meth c nL G A kc ks Q (tgt, ls, st, σ)) (kf : ¬ 0 ≤ x → am_A p l e R s m args below meth c nL G A kc ks Q (pc + 3, ls, st, σ)) : am_A p l e R s m args below meth c nL G A kc ks Q (pc, ls, am_i x :: st, σ) :=
  am_br (fun H locs la rest k1 k2 => lv_if_ge X.1 X.2.1 (am_dea hc h) ht k1 k2) kt kf
theorem am_icmp_ge {tb : List (Nat × Instr × Nat)} (hc : am_code cc tb = true) (X : am_X p s m args c cc own nL P G A) (a : Nat) {pc tgt : Nat} {off : Int} {ls : List (Nat × am_V)} {st : List am_V} {σ : am_S} {x y : Int32} (h : tb[a]? = some (pc, .if_icmp .ge off, 3)) (ht : (pc : Int) + off = (tgt : Int))
    (kt : y ≤ x → am_A p l e R s m args below meth c nL G A kc ks Q (tgt, ls, st, σ)) (kf : ¬ y ≤ x → am_A p l e R s m args below meth c nL G A kc ks Q (pc + 3, ls, st, σ)) : am_A p l e R s m args below meth c nL G A kc ks Q (pc, ls, am_i y :: am_i x :: st, σ) :=
  am_br2 (fun H locs la rest k1 k2 => lv_icmp_ge X.1 X.2.1 (am_dea hc h) ht k1 k2) kt kf
theorem am_if_gt {tb : List (Nat × Instr × Nat)} (hc : am_code cc tb = true) (X : am_X p s m args c cc own nL P G A) (a : Nat) {pc tgt : Nat} {off : Int} {ls : List (Nat × am_V)} {st : List am_V} {σ : am_S} {x : Int32} (h : tb[a]? = some (pc, .ifCond .gt off, 3)) (ht : (pc : Int) + off = (tgt : Int))
    (kt : 0 < x → am_A p l e R s m args below meth c nL G A kc ks Q (tgt, ls, st, σ)) (kf : ¬ 0 < x → am_A p l e R s m args below meth c nL G A kc ks Q (pc + 3, ls, st, σ)) : am_A p l e R s m args below meth c nL G A kc ks Q (pc, ls, am_i x :: st, σ) :=
  am_br (fun H locs la rest k1 k2 => lv_if_gt X.1 X.2.1 (am_dea hc h) ht k1 k2) kt kf
theorem am_icmp_gt {tb : List (Nat × Instr × Nat)} (hc : am_code cc tb = true) (X : am_X p s m args c cc own nL P G A) (a : Nat) {pc tgt : Nat} {off : Int} {ls : List (Nat × am_V)} {st : List am_V} {σ : am_S} {x y : Int32} (h : tb[a]? = some (pc, .if_icmp .gt off, 3)) (ht : (pc : Int) + off = (tgt : Int))
    (kt : y < x → am_A p l e R s m args below meth c nL G A kc ks Q (tgt, ls, st, σ)) (kf : ¬ y < x → am_A p l e R s m args below meth c nL G A kc ks Q (pc + 3, ls, st, σ)) : am_A p l e R s m args below meth c nL G A kc ks Q (pc, ls, am_i y :: am_i x :: st, σ) :=
  am_br2 (fun H locs la rest k1 k2 => lv_icmp_gt X.1 X.2.1 (am_dea hc h) ht k1 k2) kt kf
theorem am_if_le {tb : List (Nat × Instr × Nat)} (hc : am_code cc tb = true) (X : am_X p s m args c cc own nL P G A) (a : Nat) {pc tgt : Nat} {off : Int} {ls : List (Nat × am_V)} {st : List am_V} {σ : am_S} {x : Int32} (h : tb[a]? = some (pc, .ifCond .le off, 3)) (ht : (pc : Int) + off = (tgt : Int))
    (kt : x ≤ 0 → am_A p l e R s m args below meth c nL G A kc ks Q (tgt, ls, st, σ)) (kf : ¬ x ≤ 0 → am_A p l e R s m args below meth c nL G A kc ks Q (pc + 3, ls, st, σ)) : am_A p l e R s m args below meth c nL G A kc ks Q (pc, ls, am_i x :: st, σ) :=
  am_br (fun H locs la rest k1 k2 => lv_if_le X.1 X.2.1 (am_dea hc h) ht k1 k2) kt kf
theorem am_icmp_le {tb : List (Nat × Instr × Nat)} (hc : am_code cc tb = true) (X : am_X p s m args c cc own nL P G A) (a : Nat) {pc tgt : Nat} {off : Int} {ls : List (Nat × am_V)} {st : List am_V} {σ : am_S} {x y : Int32} (h : tb[a]? = some (pc, .if_icmp .le off, 3)) (ht : (pc : Int) + off = (tgt : Int))
    (kt : x ≤ y → am_A p l e R s m args below meth c nL G A kc ks Q (tgt, ls, st, σ)) (kf : ¬ x ≤ y → am_A p l e R s m args below meth c nL G A kc ks Q (pc + 3, ls, st, σ)) : am_A p l e R s m args below meth c nL G A kc ks Q (pc, ls, am_i y :: am_i x :: st, σ) :=
  am_br2 (fun H locs la rest k1 k2 => lv_icmp_le X.1 X.2.1 (am_dea hc h) ht k1 k2) kt kf
theorem am_tin {tb : List (Nat × Instr × Nat)} (hc : am_code cc tb = true) (X : am_X p s m args c cc own nL P G A) (a : Nat) {pc tgt len : Nat} {dflt lo hi : Int} {offs : Array Int} {off : Int} {ls : List (Nat × am_V)} {st : List am_V} {σ : am_S} {x : Int32} (h : tb[a]? = some (pc, .tableswitch dflt lo hi offs, len)) (h1 : ¬ x.toInt < lo) (h2 : ¬ hi < x.toInt) (ho : offs[(x.toInt - lo).toNat]? = some off) (ht : (pc : Int) + off = (tgt : Int))
    (k : am_A p l e R s m args below meth c nL G A kc ks Q (tgt, ls, st, σ)) : am_A p l e R s m args below meth c nL G A kc ks Q (pc, ls, am_i x :: st, σ) :=
  am_step0 (fun _ h2 => (am_tl h2).2) (fun H locs la _ k => lv_tableIn X.1 X.2.1 (am_dea hc h) h1 h2 ho ht k) k
theorem am_tout {tb : List (Nat × Instr × Nat)} (hc : am_code cc tb = true) (X : am_X p s m args c cc own nL P G A) (a : Nat) {pc tgt len : Nat} {dflt lo hi : Int} {offs : Array Int} {ls : List (Nat × am_V)} {st : List am_V} {σ : am_S} {x : Int32} (h : tb[a]? = some (pc, .tableswitch dflt lo hi offs, len)) (h1 : x.toInt < lo ∨ hi < x.toInt) (ht : (pc : Int) + dflt = (tgt : Int))
    (k : am_A p l e R s m args below meth c nL G A kc ks Q (tgt, ls, st, σ)) : am_A p l e R s m args below meth c nL G A kc ks Q (pc, ls, am_i x :: st, σ) :=
  am_step0 (fun _ h2 => (am_tl h2).2) (fun H locs la _ k => lv_tableOut X.1 X.2.1 (am_dea hc h) h1 ht k) k
theorem am_look {tb : List (Nat × Instr × Nat)} (hc : am_code cc tb = true) (X : am_X p s m args c cc own nL P G A) (a : Nat) {pc tgt len : Nat} {dflt : Int} {ps : Array (Int × Int)} {off : Int} {ls : List (Nat × am_V)} {st : List am_V} {σ : am_S} {x : Int32} (h : tb[a]? = some (pc, .lookupswitch dflt ps, len)) (hp : (ps.toList.zip (ps.toList.drop 1)).all (fun (a, next) => a.1 < next.1) = true) (ho : Op.lookupswitch.offset ps.toList dflt x.toInt = off) (ht : (pc : Int) + off = (tgt : Int))
    (k : am_A p l e R s m args below meth c nL G A kc ks Q (tgt, ls, st, σ)) : am_A p l e R s m args below meth c nL G A kc ks Q (pc, ls, am_i x :: st, σ) :=
  am_step0 (fun _ h2 => (am_tl h2).2) (fun H locs la _ k => lv_lookup X.1 X.2.1 (am_dea hc h) hp ho ht k) k
end AMT
