/-! ===== contracts, returns, calls ===== -/
def am_Qc (G : am_G) (r : Option am_V) (σ : am_S) : Array Value → State → Outcome → State → Prop := fun _ st o t =>
  o = .returned (r.map (am_v G)) ∧ (∀ v, r = some v → am_lV G v) ∧ am_W G σ t t.heap ∧ st.heap.size ≤ t.heap.size ∧ ∀ q, q < st.heap.size → ¬ am_fr G q → t.heap[q]? = st.heap[q]?
def am_rc (d mc ms : Nat) : Room := { frames := d, cells := mc, slots := ms, locals := 40 * d }
abbrev am_ro (d : Nat) : Room := am_rc d 0 0
def am_ws (y : MethodName) (cc : ByteArray) (nL : Nat) (ret : Option FieldType) : List Cond := Cond.code y cc nL ret :: am_tb
/-- THE CONTRACT: with these arguments over these cells the method answers r, and the cells are then σ' -/
def am_M (l : Launch) (y : MethodName) (cc : ByteArray) (nL : Nat) (ret : Option FieldType) (d : Nat) (As : List am_V) (σ : am_S) (r : Option am_V) (σ' : am_S) : Prop :=
  ∀ G : am_G, (∀ v ∈ As, am_lV G v) → Met l y (am_ws y cc nL ret) (am_ro d) (va_Pc (As.map (am_v G)) (fun U => am_U G U ∧ am_W G σ U U.heap)) (am_Qc G r σ') 0 0 (am_fr G)
def am_args : Nat → List am_V → List (Nat × am_V)
  | _, [] => []
  | i, v :: t => (i, v) :: am_args (i + am_ct v) t
theorem am_args_map (G : am_G) : ∀ (As : List am_V) (i : Nat), (am_args i As).map (fun q => (q.1, am_v G q.2)) = lv_args i (As.map (am_v G))
  | [], _ => rfl
  | v :: t, i => by
    show (i, am_v G v) :: (am_args (i + am_ct v) t).map _ = (i, am_v G v) :: lv_args (if (am_v G v).category = 2 then i + 2 else i + 1) (t.map (am_v G))
    rw [am_args_map G t, am_v_ct]
    congr 2
    rcases v with x | x | x
    · rfl
    · rfl
    · rfl
theorem am_args_mem {q : Nat × am_V} : ∀ {As : List am_V} {i : Nat}, q ∈ am_args i As → q.2 ∈ As
  | [], _, h => by cases h
  | v :: t, i, h => by
    rcases List.mem_cons.mp h with e | e
    · rw [e]; exact List.mem_cons_self
    · exact List.mem_cons_of_mem _ (am_args_mem e)
def am_sz : List am_V → Nat
  | [] => 0
  | v :: t => am_ct v + am_sz t
theorem am_sl_len (G : am_G) : ∀ As : List am_V, (lg_sl (As.map (am_v G))).length = am_sz As
  | [] => rfl
  | v :: t => by
    have h := am_sl_len G t
    unfold lg_sl at h ⊢
    rw [List.map_cons, List.flatMap_cons, List.length_append, h]
    show _ = am_ct v + am_sz t
    rw [am_v_ct]
    rcases v with x | x | x <;> rfl
theorem am_blind {G : am_G} {σ : am_S} {av : List Value} : FrameBlind (va_Pc av (fun U => am_U G U ∧ am_W G σ U U.heap)) := fun a U g mk h => by
  obtain ⟨h1, h2, h3⟩ := h
  exact ⟨h1, am_U.same (u := U) (U := U.calling g mk a) rfl h2, am_W.alike (u := U) (U := U.calling g mk a) (Vm.Alike.refl U.vm) h3⟩
/-- a contract from a goal at the entry -/
theorem am_M_of {l : Launch} {y : MethodName} {cc : ByteArray} {nL : Nat} {ret : Option FieldType} {d : Nat} {As : List am_V} {σ : am_S} {r : Option am_V} {σ' : am_S} {P : am_P} (hy : plainName y.cls = true) (hp : am_pok y.cls P = true) (hn : Nat.ble (am_sz As) nL = true)
    (body : ∀ (G : am_G) (p : Program) (e : Env) (s : State) (m : MethodId) (args : Array Value) (below : List Frame) (meth : Method) (c : Code), am_X p s m args c cc y.cls nL P G (am_fr G) → (meth.sig.returnType = ret ∧ meth.locks = false) →
      am_A p l e (am_ro d) s m args below meth c nL G (am_fr G) 0 0 (MQ below (am_Qc G r σ') args s 0 0 (am_fr G)) (0, am_args 0 As, [], σ)) : am_M l y cc nL ret d As σ r σ' := by
  intro G hlv
  refine Met.ofW (cc := cc) (maxL := nL) (ret := ret) hy rfl ?_
  intro p e s m args below meth c s₁ B hml hv
  obtain ⟨rfl, hU, hW⟩ := hv
  have hts := atoms_spec (ws := am_ws y cc nL ret) B.pre
  have hown : s.vm.findClass y.cls = some m.cls := findClass_of_methodNamed B.named
  have hb := body G p e s m _ below meth c ⟨B.exec, B.bytes, hml, hown, fun w hw => hts w (List.mem_cons_of_mem _ hw), hp, hU, fun _ h => h⟩ ⟨B.returns, B.notSynchronized⟩
  rw [lg_entry_eq]
  refine hb s.heap [] _ hW (fun q hq => by cases hq) ⟨Nat.le_refl _, fun _ _ _ => rfl⟩ (fun q hq => hlv _ (am_args_mem hq)) (fun v hv => by cases hv) ?_
  show lv_has _ nL ((am_args 0 As).map (fun q => (q.1, am_v G q.2)))
  rw [am_args_map]
  exact lv_entry _ (by rw [am_sl_len]; exact Nat.le_of_ble_eq_true hn)
section AMC
variable {p : Program} {l : Launch} {e : Env} {R : Room} {s : State} {m : MethodId} {args : Array Value} {below : List Frame} {meth : Method} {c : Code} {cc : ByteArray} {own : String} {nL : Nat} {P : am_P} {G : am_G} {A : Nat → Prop} {kc ks : Nat} {Q : State → Prop}
theorem am_end {H : Heap} {t : State} {σ : am_S} {v : Option am_V} (hW : am_W G σ s H) (hF : s.heap.size ≤ H.size ∧ ∀ q, q < s.heap.size → ¬ am_fr G q → H[q]? = s.heap[q]?) (hv : ∀ w, v = some w → am_lV G w) (ht : t.heap = H) (hw : s.WarmedH t.vm) : am_Qc G v σ args s (.returned (v.map (am_v G))) t := by
  subst ht
  exact ⟨rfl, hv, hW.alike hw.alike, hF.1, hF.2⟩
theorem am_iret {tb : List (Nat × Instr × Nat)} (hc : am_code cc tb = true) (X : am_X p s m args c cc own nL P G (am_fr G)) (hr : meth.sig.returnType = some .int ∧ meth.locks = false) (a : Nat) {pc : Nat} {ls : List (Nat × am_V)} {x : Int32} {σ σ' : am_S} {r : Option am_V} (h : tb[a]? = some (pc, .ireturn, 1)) (hv : r = some (am_i x)) (hs : σ' = σ) : am_A p l e R s m args below meth c nL G (am_fr G) 0 0 (MQ below (am_Qc G r σ') args s 0 0 (am_fr G)) (pc, ls, [am_i x], σ) := by
  subst hv; subst hs
  intro H locs la hW hL hF h1 h2 hl
  exact W.iret (v := x) X.1 X.2.1 hr.1 (fun t ht hw => am_end (v := some (am_i x)) hW hF (fun w hw => by cases hw; trivial) ht hw) hL (am_dea hc h) hr.2
theorem am_zret {tb : List (Nat × Instr × Nat)} (hc : am_code cc tb = true) (X : am_X p s m args c cc own nL P G (am_fr G)) (hr : meth.sig.returnType = some .boolean ∧ meth.locks = false) (a : Nat) {pc : Nat} {ls : List (Nat × am_V)} {x : Int32} {σ σ' : am_S} {r : Option am_V} (h : tb[a]? = some (pc, .ireturn, 1)) (h01 : x = 0 ∨ x = 1) (hv : r = some (am_i x)) (hs : σ' = σ) : am_A p l e R s m args below meth c nL G (am_fr G) 0 0 (MQ below (am_Qc G r σ') args s 0 0 (am_fr G)) (pc, ls, [am_i x], σ) := by
  subst hv; subst hs
  intro H locs la hW hL hF h1 h2 hl
  exact W.zret (v := x) X.1 X.2.1 hr.1 (by rcases h01 with rfl | rfl <;> rfl) (fun t ht hw => am_end (v := some (am_i x)) hW hF (fun w hw => by cases hw; trivial) ht hw) hL (am_dea hc h) hr.2
theorem am_lret {tb : List (Nat × Instr × Nat)} (hc : am_code cc tb = true) (X : am_X p s m args c cc own nL P G (am_fr G)) (hr : meth.sig.returnType = some .long ∧ meth.locks = false) (a : Nat) {pc : Nat} {ls : List (Nat × am_V)} {x : Int64} {σ σ' : am_S} {r : Option am_V} (h : tb[a]? = some (pc, .lreturn, 1)) (hv : r = some (am_l x)) (hs : σ' = σ) : am_A p l e R s m args below meth c nL G (am_fr G) 0 0 (MQ below (am_Qc G r σ') args s 0 0 (am_fr G)) (pc, ls, [am_l x], σ) := by
  subst hv; subst hs
  intro H locs la hW hL hF h1 h2 hl
  exact W.lret (v := x) X.1 X.2.1 hr.1 (fun t ht hw => am_end (v := some (am_l x)) hW hF (fun w hw => by cases hw; trivial) ht hw) hL (am_dea hc h) hr.2
theorem am_vret {tb : List (Nat × Instr × Nat)} (hc : am_code cc tb = true) (X : am_X p s m args c cc own nL P G (am_fr G)) (hr : meth.sig.returnType = none ∧ meth.locks = false) (a : Nat) {pc : Nat} {ls : List (Nat × am_V)} {σ σ' : am_S} {r : Option am_V} (h : tb[a]? = some (pc, .return_, 1)) (hv : r = none) (hs : σ' = σ) : am_A p l e R s m args below meth c nL G (am_fr G) 0 0 (MQ below (am_Qc G r σ') args s 0 0 (am_fr G)) (pc, ls, [], σ) := by
  subst hv; subst hs
  intro H locs la hW hL hF h1 h2 hl
  exact W.vret X.1 X.2.1 hr.1 (fun t ht hw => am_end (v := none) hW hF (fun w hw => by cases hw) ht hw) hL (am_dea hc h) hr.2
theorem am_goes {pc : Nat} {ls : List (Nat × am_V)} {la : Array Slot} {rest : List am_V} {st0 : List Value} {r : Option am_V} {σ' : am_S} {H : Heap} {locs : List Loc} {a : Array Value}
    (hr : va_Run p l e R s m args below meth c H locs kc ks 0 0 (F0 m pc la st0) (rest.map (am_v G)) (am_Qc G r σ' a) (am_fr G)) (hA : ∀ q, am_fr G q → A q) (hL : ∀ q ∈ locs, A q.base) (hF : s.heap.size ≤ H.size ∧ ∀ q, q < s.heap.size → ¬ A q → H[q]? = s.heap[q]?)
    (h1 : ∀ q ∈ ls, am_lV G q.2) (h2 : ∀ v ∈ rest, am_lV G v) (hl : lv_has la nL (ls.map (fun q => (q.1, am_v G q.2)))) (k : am_A p l e R s m args below meth c nL G A kc ks Q (pc + 3, ls, r.toList ++ rest, σ')) : W p l e R s m args below meth c H locs kc ks Q (F0 m pc la st0) := by
  intro T hT X
  obtain ⟨v, st₀, t, T', L, h0, X', hLL, e1, e2, ⟨hv, hlv, hW', hz, hk⟩, st⟩ := hr T hT X
  have hv2 : v = r.map (am_v G) := Outcome.returned.inj hv
  subst hv2
  rw [h0] at hz hk
  have hal : t.vm.Alike s.vm := by rw [← e2]; exact X'.warmed.alike.symm
  obtain ⟨t2, a1, b1⟩ := k T'.heap (locs ++ L) la (by rw [e1]; exact hW'.alike hal) (fun q hq => by
      rcases List.mem_append.mp hq with h | h
      · exact hL q h
      · exact hA _ (hLL q h)) ⟨by rw [e1]; exact Nat.le_trans hF.1 hz, fun q hs hq => by rw [e1, hk q (Nat.lt_of_lt_of_le hs hF.1) (fun z => hq (hA _ z))]; exact hF.2 q hs hq⟩ h1 (fun w hw => by
      rcases List.mem_append.mp hw with h | h
      · exact hlv w (Option.mem_toList.mp h)
      · exact h2 w h) hl T' rfl X'
  refine ⟨t2, st t2 ?_, b1⟩
  have e9 : (r.map (am_v G)).toList ++ rest.map (am_v G) = (r.toList ++ rest).map (am_v G) := by cases r <;> simp
  show Steps _ _ _ (T'.setTop { (F0 m pc la st0) with pc := pc + 3, stack := (r.map (am_v G)).toList ++ rest.map (am_v G) }) _
  rw [e9]
  exact a1
theorem am_catsum : ∀ st : List am_V, ((st.map (am_v G)).map fun v => v.category).sum = am_sz st
  | [] => rfl
  | v :: t => by
    rw [List.map_cons, List.map_cons, List.sum_cons, am_catsum t, am_v_ct]
    rfl
theorem am_rv {As rest : List am_V} : (As.reverse ++ rest).map (am_v G) = (As.map (am_v G)).reverse ++ rest.map (am_v G) := by simp
theorem am_callV {tb : List (Nat × Instr × Nat)} (hc : am_code cc tb = true) (a : Nat) {d d' mc ms pc idx o k i nL' n : Nat} (X : am_X p s m args c cc own nL P G A) {y : MethodName} {cc' : ByteArray} {ret' : Option FieldType} {As rest st : List am_V} {ls : List (Nat × am_V)} {σ σ' : am_S} {r : Option am_V} (h : tb[a]? = some (pc, .invokevirtual idx, 3))
    (hM : am_M l y cc' nL' ret' d' (am_r o k i :: As) σ r σ') (hy : am_yV y cc' nL' ret' n) (hlk : Cond.methodLink own idx y ∈ am_tb) (hcl : y.cls = (am_cl k).1 ∧ Nat.beq (am_kd k).1 0 = true) (hd : Nat.ble (d' + 1) d = true) (hn : As.length = n) (hst : st = As.reverse ++ am_r o k i :: rest) (hsz : Nat.ble (am_sz rest) 8 = true) (hkm : (Nat.ble kc mc && Nat.ble ks ms) = true)
    (kk : am_A p l e (am_rc d mc ms) s m args below meth c nL G A kc ks Q (pc + 3, ls, r.toList ++ rest, σ')) : am_A p l e (am_rc d mc ms) s m args below meth c nL G A kc ks Q (pc, ls, st, σ) := by
  subst hst
  intro H locs la hW hL hF h1 h2 hl
  obtain ⟨y1, y2, y3, y4, hy⟩ := hy
  unfold am_yR at hy
  simp only [Bool.and_eq_true, decide_eq_true_eq] at hy
  obtain ⟨y5, y6, y7, y8⟩ := hy
  obtain ⟨hx, hb, hml, hown, hts, -, hU, hA⟩ := id X
  have hlive : ∀ v ∈ As.reverse ++ am_r o k i :: rest, am_lV G v := h2
  have hlv : am_lv G o k i := hlive (am_r o k i) (List.mem_append_right _ List.mem_cons_self)
  have hAs : ∀ v ∈ am_r o k i :: As, am_lV G v := am_lcons hlv fun v hv => hlive v (List.mem_append_left _ (List.mem_reverse.mpr hv))
  have hrest : ∀ v ∈ rest, am_lV G v := fun v hv => hlive v (List.mem_append_right _ (List.mem_cons_of_mem _ hv))
  have h0 := Nat.eq_of_beq_eq_true hcl.2
  have hk77 := (am_ok_lt hlv.2.1).2
  have hat := hW.1 o k i hlv
  rw [am_at0 h0] at hat
  obtain ⟨cell, q1, q2, q3, q4⟩ := hat
  have hfc := (hU.1.1 _ _ (am_cl_at hk77 h0)).2.1
  have hdd := Nat.le_of_ble_eq_true hd
  have hnn := Nat.le_of_ble_eq_true y8
  have hG : GoodIn am_tb (wsV own idx y.cls y (am_ws y cc' nL' ret')) := fun w hw => by
    unfold wsV am_ws at hw
    have : w ∈ am_tb := by
      rcases List.mem_append.mp hw with hw | hw
      · simp only [List.mem_cons, List.not_mem_nil, or_false] at hw
        rcases hw with rfl | rfl | rfl | rfl
        · exact hlk
        · exact y1
        · exact y2
        · exact y3
      · rcases List.mem_cons.mp hw with rfl | hw
        · exact y4
        · exact hw
    exact am_tb_good w this
  have hrun := va_runV (l := l) (e := e) (R := am_rc d mc ms) (below := below) (meth := meth) (H := H) (locs := locs) (cells := kc) (slots := ks) (As := As.map (am_v G)) (rest := rest.map (am_v G)) (g := F0 m pc la ((As.reverse ++ am_r o k i :: rest).map (am_v G))) ⟨hx, hb, hml, hown, hts⟩ (hM G hAs) (cwV (C := y.cls) (R := am_rc d mc ms) n hts hG rfl rfl rfl ⟨rfl, y5, y6, y7⟩ ⟨hdd, by show 8 + (nL' + 11) + 40 * d' ≤ 40 * d; omega⟩)
    ⟨am_blind, ⟨cell, q1, by rw [q3]; rfl, by rw [q2, hcl.1]; exact hfc⟩, fun U hU' hWU => ⟨rfl, hU.warm hWU, by rw [hU']; exact hW.alike hWU.alike⟩⟩ rfl (by rw [List.length_map]; exact hn) hl.1 am_rv (by show 2 * 0 + _ ≤ 8; rw [am_catsum]; have := Nat.le_of_ble_eq_true hsz; omega) (am_dea hc h) (by rw [Bool.and_eq_true] at hkm; exact ⟨Nat.le_of_ble_eq_true hkm.1, Nat.le_of_ble_eq_true hkm.2⟩)
  exact am_goes hrun hA hL hF h1 hrest hl kk
theorem am_callS {tb : List (Nat × Instr × Nat)} (hc : am_code cc tb = true) (a : Nat) {d d' mc ms pc idx nL' n : Nat} (X : am_X p s m args c cc own nL P G A) {y : MethodName} {cc' : ByteArray} {ret' : Option FieldType} {As rest st : List am_V} {ls : List (Nat × am_V)} {σ σ' : am_S} {r : Option am_V} (h : tb[a]? = some (pc, .invokestatic idx, 3))
    (hM : am_M l y cc' nL' ret' d' As σ r σ') (hy : am_yS y cc' nL' ret' n) (hlk : Cond.methodLink own idx y ∈ am_tb) (hd : Nat.ble (d' + 1) d = true) (hn : As.length = n) (hst : st = As.reverse ++ rest) (hsz : Nat.ble (am_sz rest) 8 = true) (hkm : (Nat.ble kc mc && Nat.ble ks ms) = true)
    (kk : am_A p l e (am_rc d mc ms) s m args below meth c nL G A kc ks Q (pc + 3, ls, r.toList ++ rest, σ')) : am_A p l e (am_rc d mc ms) s m args below meth c nL G A kc ks Q (pc, ls, st, σ) := by
  subst hst
  intro H locs la hW hL hF h1 h2 hl
  obtain ⟨y1, y3, y4, hy⟩ := hy
  unfold am_yR at hy
  simp only [Bool.and_eq_true, decide_eq_true_eq] at hy
  obtain ⟨y5, y6, y7, y8⟩ := hy
  obtain ⟨hx, hb, hml, hown, hts, -, hU, hA⟩ := id X
  have hlive : ∀ v ∈ As.reverse ++ rest, am_lV G v := h2
  have hAs : ∀ v ∈ As, am_lV G v := fun v hv => hlive v (List.mem_append_left _ (List.mem_reverse.mpr hv))
  have hrest : ∀ v ∈ rest, am_lV G v := fun v hv => hlive v (List.mem_append_right _ hv)
  have hdd := Nat.le_of_ble_eq_true hd
  have hnn := Nat.le_of_ble_eq_true y8
  have hG : GoodIn am_tb (va_wsS own idx y (am_ws y cc' nL' ret')) := fun w hw => by
    unfold va_wsS am_ws at hw
    have : w ∈ am_tb := by
      rcases List.mem_append.mp hw with hw | hw
      · simp only [List.mem_cons, List.not_mem_nil, or_false] at hw
        rcases hw with rfl | rfl | rfl
        · exact hlk
        · exact y1
        · exact y3
      · rcases List.mem_cons.mp hw with rfl | hw
        · exact y4
        · exact hw
    exact am_tb_good w this
  have hrun := va_runS (l := l) (e := e) (R := am_rc d mc ms) (below := below) (meth := meth) (H := H) (locs := locs) (cells := kc) (slots := ks) (As := As.map (am_v G)) (rest := rest.map (am_v G)) (g := F0 m pc la ((As.reverse ++ rest).map (am_v G))) ⟨hx, hb, hml, hown, hts⟩ (hM G hAs) (va_cwS (R := am_rc d mc ms) n hts hG rfl rfl rfl ⟨y5, y6, y7⟩ ⟨hdd, by show 8 + (nL' + 11) + 40 * d' ≤ 40 * d; omega⟩)
    ⟨am_blind, fun U hU' hWU => ⟨rfl, hU.warm hWU, by rw [hU']; exact hW.alike hWU.alike⟩⟩ rfl (by rw [List.length_map]; exact hn) hl.1 am_rv (by show 2 * 0 + _ ≤ 8; rw [am_catsum]; have := Nat.le_of_ble_eq_true hsz; omega) (am_dea hc h) (by rw [Bool.and_eq_true] at hkm; exact ⟨Nat.le_of_ble_eq_true hkm.1, Nat.le_of_ble_eq_true hkm.2⟩)
  exact am_goes hrun hA hL hF h1 hrest hl kk
theorem am_callN {tb : List (Nat × Instr × Nat)} (hc : am_code cc tb = true) (a : Nat) {d d' mc ms pc idx nL' n : Nat} (X : am_X p s m args c cc own nL P G A) {y : MethodName} {host : String} {cc' : ByteArray} {ret' : Option FieldType} {As rest st : List am_V} {ls : List (Nat × am_V)} {σ σ' : am_S} {r : Option am_V} (h : tb[a]? = some (pc, .invokestatic idx, 3))
    (hM : am_M l y cc' nL' ret' d' As σ r σ') (hy : am_yS y cc' nL' ret' n) (hlk : (own, idx, y, host) ∈ am_nst) (hd : Nat.ble (d' + 1) d = true) (hn : As.length = n) (hst : st = As.reverse ++ rest) (hsz : Nat.ble (am_sz rest) 8 = true) (hkm : (Nat.ble kc mc && Nat.ble ks ms) = true)
    (kk : am_A p l e (am_rc d mc ms) s m args below meth c nL G A kc ks Q (pc + 3, ls, r.toList ++ rest, σ')) : am_A p l e (am_rc d mc ms) s m args below meth c nL G A kc ks Q (pc, ls, st, σ) := by
  subst hst
  intro H locs la hW hL hF h1 h2 hl
  obtain ⟨y1, y3, y4, hy⟩ := hy
  unfold am_yR at hy
  simp only [Bool.and_eq_true, decide_eq_true_eq] at hy
  obtain ⟨y5, y6, y7, y8⟩ := hy
  obtain ⟨hx, hb, hml, hown, hts, -, hU, hA⟩ := id X
  have hlive : ∀ v ∈ As.reverse ++ rest, am_lV G v := h2
  have hAs : ∀ v ∈ As, am_lV G v := fun v hv => hlive v (List.mem_append_left _ (List.mem_reverse.mpr hv))
  have hrest : ∀ v ∈ rest, am_lV G v := fun v hv => hlive v (List.mem_append_right _ hv)
  have hdd := Nat.le_of_ble_eq_true hd
  have hnn := Nat.le_of_ble_eq_true y8
  have hG : GoodIn am_tb (am_ws y cc' nL' ret') := fun w hw => by
    unfold am_ws at hw
    have : w ∈ am_tb := by
      rcases List.mem_cons.mp hw with rfl | hw
      · exact y4
      · exact hw
    exact am_tb_good w this
  have hrun := va_runSN (l := l) (e := e) (R := am_rc d mc ms) (below := below) (meth := meth) (H := H) (locs := locs) (cells := kc) (slots := ks) (host := host) (As := As.map (am_v G)) (rest := rest.map (am_v G)) (g := F0 m pc la ((As.reverse ++ rest).map (am_v G))) ⟨hx, hb, hml, hown, hts⟩ (hM G hAs) ⟨va_cnB (R := am_rc d mc ms) n hts hG rfl rfl rfl (hU.2.1 _ hlk) (hts _ y3) ⟨y5, y6, y7⟩ ⟨hdd, by show 8 + (nL' + 11) + 40 * d' ≤ 40 * d; omega⟩, hts _ y1, trivial⟩
    ⟨am_blind, fun U hU' hWU => ⟨rfl, hU.warm hWU, by rw [hU']; exact hW.alike hWU.alike⟩⟩ rfl (by rw [List.length_map]; exact hn) hl.1 am_rv (by show 2 * 0 + _ ≤ 8; rw [am_catsum]; have := Nat.le_of_ble_eq_true hsz; omega) (am_dea hc h) (by rw [Bool.and_eq_true] at hkm; exact ⟨Nat.le_of_ble_eq_true hkm.1, Nat.le_of_ble_eq_true hkm.2⟩)
  exact am_goes hrun hA hL hF h1 hrest hl kk
end AMC
/-! ===== System.arraycopy ===== -/
def am_row (s : am_S) (o k i : Nat) (f : Nat → Int32) : am_S := (fun o' k' i' j' => if k' = k ∧ i' = i ∧ o' = o then f j' else s.1 o' k' i' j', s.2)
def am_rol (s : am_S) (o k i : Nat) (f : Nat → Int64) : am_S := (s.1, fun o' k' i' j' => if k' = k ∧ i' = i ∧ o' = o then f j' else s.2 o' k' i' j')
/-- n from place sp of n0, to place dp of n1 -/
def am_cok (sp dp n : Int32) (n0 n1 : Nat) : Bool := !decide (sp < 0) && (!decide (dp < 0) && (!decide (n < 0) && (Nat.ble (sp.toNatClampNeg + n.toNatClampNeg) n0 && Nat.ble (dp.toNatClampNeg + n.toNatClampNeg) n1)))
theorem am_at.congr {G : am_G} {s s' : am_S} {o k i : Nat} {H : Heap} (h : am_at G s o k i H) (h0 : (am_kd k).1 = 0 → i = 0) (e1 : ∀ j, s'.1 o k i j = s.1 o k i j) (e2 : ∀ j, s'.2 o k i j = s.2 o k i j) : am_at G s' o k i H := by
  unfold am_at at h ⊢
  split at h
  · rename_i e
    refine t_OB.to h fun f _ => ?_
    have hi : i = 0 := h0 (by rw [e])
    subst hi
    unfold am_fv
    split <;> simp only [e1]
  · simp only [e1]; exact h
  · simp only [e2]; exact h
  · simp only [e1]; exact h
  · exact h
  · exact h
  · exact h
  · trivial
section AMY
variable {p : Program} {l : Launch} {e : Env} {s : State} {m : MethodId} {args : Array Value} {below : List Frame} {meth : Method} {c : Code} {cc : ByteArray} {own : String} {nL : Nat} {P : am_P} {G : am_G} {A : Nat → Prop} {kc ks : Nat} {Q : State → Prop}
theorem am_cok_of {sp dp n : Int32} {n0 n1 : Nat} (h : am_cok sp dp n n0 n1 = true) : ¬ sp < 0 ∧ ¬ dp < 0 ∧ ¬ n < 0 ∧ sp.toNatClampNeg + n.toNatClampNeg ≤ n0 ∧ dp.toNatClampNeg + n.toNatClampNeg ≤ n1 := by
  unfold am_cok at h
  simp only [Bool.and_eq_true, Bool.not_eq_true', decide_eq_false_iff_not] at h
  exact ⟨h.1, h.2.1, h.2.2.1, Nat.le_of_ble_eq_true h.2.2.2.1, Nat.le_of_ble_eq_true h.2.2.2.2⟩
theorem am_nn {z : Int32} (hz : ¬ z < 0) : z.toInt = (z.toNatClampNeg : Int) := by
  have hz0 : (0 : Int) ≤ z.toInt := by
    have := Int32.not_lt.mp hz
    simpa using Int32.le_iff_toInt_le.mp this
  show z.toInt = ((z.toInt.toNat : Nat) : Int)
  omega
theorem am_cpi {tb : List (Nat × Instr × Nat)} (hc : am_code cc tb = true) (a : Nat) {d mc ms pc idx o k i o0 k0 i0 : Nat} (X : am_X p s m args c cc own nL P G A) {n dp sp : Int32} {rest : List am_V} {ls : List (Nat × am_V)} {σ : am_S} (h : tb[a]? = some (pc, .invokestatic idx, 3))
    (hlk : Cond.methodLink own idx arraycopyName ∈ am_tb) (hw : Cond.native arraycopyName ∈ am_tb ∧ Cond.static arraycopyName ∈ am_tb ∧ Cond.initialized "java/lang/System" ∈ am_tb) (hk : ((am_kd k).1 == 1 && (am_kd k0).1 == 1 && (Nat.ble (k + 1) 34 || Nat.ble 39 k)) = true) (ob : am_cok sp dp n (am_kd k0).2.1 (am_kd k).2.1 = true) (hsz : Nat.ble (am_sz rest) 8 = true)
    (kk : am_A p l e (am_rc (d + 1) mc ms) s m args below meth c nL G A kc ks Q (pc + 3, ls, rest, am_row σ o k i (va_cpy (σ.1 o0 k0 i0) (σ.1 o k i) sp.toNatClampNeg dp.toNatClampNeg n.toNatClampNeg))) : am_A p l e (am_rc (d + 1) mc ms) s m args below meth c nL G A kc ks Q (pc, ls, am_i n :: am_i dp :: am_r o k i :: am_i sp :: am_r o0 k0 i0 :: rest, σ) := by
  intro H locs la hW hL hF h1 h2 hl
  obtain ⟨hx, hb, hml, hown, hts, -, hU, hA⟩ := id X
  obtain ⟨g1, g2, g3, g4, g5⟩ := am_cok_of ob
  simp only [Bool.and_eq_true, beq_iff_eq] at hk
  have hlv : am_lv G o k i := h2 (am_r o k i) (by simp)
  have hlv0 : am_lv G o0 k0 i0 := h2 (am_r o0 k0 i0) (by simp)
  have h8 : o < 16 := am_arr8 hlv.2.1 (by
    have := hk.2
    rw [Bool.or_eq_true] at this
    rcases this with z | z <;> simp [z])
  have hc0 := hW.1 o0 k0 i0 hlv0
  rw [am_at1 hk.1.2] at hc0
  have hc1 := hW.1 o k i hlv
  rw [am_at1 hk.1.1] at hc1
  have hrl : ∀ v ∈ rest, am_lV G v := fun v hv => h2 v (by simp [hv])
  obtain ⟨-, kc, hkc, cm, hkk⟩ := (hU.1.2 0 _ rfl).1 0 (fun _ => .null)
  obtain ⟨-, k0c, hk0c, cm0, hkk0⟩ := (hU.1.2 0 _ rfl).1 (am_kd k0).2.1 (fun j => .int (σ.1 o0 k0 i0 j))
  obtain ⟨-, k1c, hk1c, cm1, hkk1⟩ := (hU.1.2 0 _ rfl).1 (am_kd k).2.1 (fun j => .int (σ.1 o k i j))
  intro T hT Xs
  obtain ⟨vm', X', step⟩ := Xs.arraycopy hx hown (hts _ hlk) (hts _ hw.1) (hts _ hw.2.1) (hts _ hw.2.2) (src := am_ad G o0 k0 i0) (dst := am_ad G o k i) (cs := arrV (G.2.1 0) (am_kd k0).2.1 (fun j => .int (σ.1 o0 k0 i0 j))) (cd := arrV (G.2.1 0) (am_kd k).2.1 (fun j => .int (σ.1 o k i j))) (srcPos := sp) (destPos := dp) (n := n) (by rw [hT]; exact hc0) (by rw [hT]; exact hc1)
    (fun _ h => by cases h) (fun _ h => by cases h) (fun h => by cases h) (fun h => by cases h) hk0c hk1c hkk0 hkk1 (by simp [refKind]) g1 g2 g3
    (by rw [am_nn g1, am_nn g3, arrV_size]; omega)
    (by rw [am_nn g2, am_nn g3, arrV_size]; omega)
    (fun vm₁ _ j hj => by
      have e : (arrV (G.2.1 0) (am_kd k0).2.1 (fun j => Value.int (σ.1 o0 k0 i0 j))).slots.getD (sp.toNatClampNeg + j) .null = .int (σ.1 o0 k0 i0 (sp.toNatClampNeg + j)) := by
        rw [Array.getD_eq_getD_getElem?, arrV_read _ _ (by omega)]
        rfl
      refine ⟨?_, ?_⟩
      · rw [e]
        rfl
      · rw [e]
        exact trivial)
    (g := F0 m pc la ((am_i n :: am_i dp :: am_r o k i :: am_i sp :: am_r o0 k0 i0 :: rest).map (am_v G))) rfl (hl.1.trans hml.symm) (rest := rest.map (am_v G)) rfl (by rw [hb]; exact am_dea hc h) (by show 1 ≤ d + 1; omega) (by
      show 2 * 0 + ((rest.map (am_v G)).map fun v => v.category).sum + (nativeFrameWords "java/lang/System" "arraycopy" 5 + 11) ≤ 40 * (d + 1)
      rw [am_catsum]
      have := Nat.le_of_ble_eq_true hsz
      have e7 : nativeFrameWords "java/lang/System" "arraycopy" 5 = 7 := by decide +kernel
      omega)
  have e1 : copied (arrV (G.2.1 0) (am_kd k0).2.1 (fun j => Value.int (σ.1 o0 k0 i0 j))) (arrV (G.2.1 0) (am_kd k).2.1 (fun j => Value.int (σ.1 o k i j))) sp dp n = arrV (G.2.1 0) (am_kd k).2.1 (fun j => Value.int (va_cpy (σ.1 o0 k0 i0) (σ.1 o k i) sp.toNatClampNeg dp.toNatClampNeg n.toNatClampNeg j)) := va_copied (fun z => .int z) _ _ _ _ g4
  rw [e1] at X' step
  have hlt : am_ad G o k i < H.size := (Array.getElem?_eq_some_iff.mp hc1).1
  obtain ⟨H1, hH1⟩ : ∃ H1, H1 = H.setIfInBounds (am_ad G o k i) (arrV (G.2.1 0) (am_kd k).2.1 (fun j => Value.int (va_cpy (σ.1 o0 k0 i0) (σ.1 o k i) sp.toNatClampNeg dp.toNatClampNeg n.toNatClampNeg j))) := ⟨_, rfl⟩
  have hheap : ((T.setVm vm').setCell (am_ad G o k i) (arrV (G.2.1 0) (am_kd k).2.1 (fun j => Value.int (va_cpy (σ.1 o0 k0 i0) (σ.1 o k i) sp.toNatClampNeg dp.toNatClampNeg n.toNatClampNeg j)))).heap = H1 := by rw [hH1, ← hT]; rfl
  have oq : ∀ q : Nat, q ≠ am_ad G o k i → H1[q]? = H[q]? := fun q hq => by rw [hH1]; simp [Array.getElem?_setIfInBounds, Ne.symm hq]
  have hself : H1[am_ad G o k i]? = some (arrV (G.2.1 0) (am_kd k).2.1 (fun j => Value.int (va_cpy (σ.1 o0 k0 i0) (σ.1 o k i) sp.toNatClampNeg dp.toNatClampNeg n.toNatClampNeg j))) := by rw [hH1]; simp [Array.getElem?_setIfInBounds, hlt]
  have hz : H1.size = H.size := by rw [hH1]; simp
  have hne : ∀ o' k' i', ¬ (o' = o ∧ k' = k ∧ i' = i) → ∀ j, (am_row σ o k i (va_cpy (σ.1 o0 k0 i0) (σ.1 o k i) sp.toNatClampNeg dp.toNatClampNeg n.toNatClampNeg)).1 o' k' i' j = σ.1 o' k' i' j := fun o' k' i' hn j => if_neg fun q => hn ⟨q.2.2, q.1, q.2.1⟩
  have hk40 : k ≠ 40 := am_40 0 (by decide) k (am_ok_lt hlv.2.1).2 (by rw [hk.1.1]; decide)
  have hW' : am_W G (am_row σ o k i (va_cpy (σ.1 o0 k0 i0) (σ.1 o k i) sp.toNatClampNeg dp.toNatClampNeg n.toNatClampNeg)) s H1 := by
    refine hW.put hlv h8 ?_ hz oq (fun o' k' i' hl' hn hat => hat.congr (am_obj0 hl') (hne o' k' i' hn) (fun _ => rfl)) (fun o' => ⟨hne _ _ _ (fun q => hk40 q.2.1.symm) _, hne _ _ _ (fun q => hk40 q.2.1.symm) _⟩)
    rw [am_at1 hk.1.1, hself]
    refine congrArg some (congrArg (arrV _ _) (funext fun j => ?_))
    exact congrArg Value.int (if_pos ⟨rfl, rfl, rfl⟩).symm
  obtain ⟨t, a1, b1⟩ := kk H1 _ la hW' (fun q hq => by
      rcases List.mem_append.mp hq with h | h
      · exact hL q h
      · obtain ⟨z, -, hz⟩ := List.mem_map.mp h
        rw [← hz]
        exact hA _ ⟨o, k, i, hlv, h8, rfl⟩) ⟨Nat.le_trans hF.1 (Nat.le_of_eq hz.symm), fun q hs hq => by rw [oq q fun z => hq (hA _ ⟨o, k, i, hlv, h8, z⟩)]; exact hF.2 q hs hq⟩ h1 hrl hl _ hheap X'
  exact ⟨t, step t a1, b1⟩
theorem am_cpl {tb : List (Nat × Instr × Nat)} (hc : am_code cc tb = true) (a : Nat) {d mc ms pc idx o k i o0 k0 i0 : Nat} (X : am_X p s m args c cc own nL P G A) {n dp sp : Int32} {rest : List am_V} {ls : List (Nat × am_V)} {σ : am_S} (h : tb[a]? = some (pc, .invokestatic idx, 3))
    (hlk : Cond.methodLink own idx arraycopyName ∈ am_tb) (hw : Cond.native arraycopyName ∈ am_tb ∧ Cond.static arraycopyName ∈ am_tb ∧ Cond.initialized "java/lang/System" ∈ am_tb) (hk : ((am_kd k).1 == 2 && (am_kd k0).1 == 2) = true) (ob : am_cok sp dp n (am_kd k0).2.1 (am_kd k).2.1 = true) (hsz : Nat.ble (am_sz rest) 8 = true)
    (kk : am_A p l e (am_rc (d + 1) mc ms) s m args below meth c nL G A kc ks Q (pc + 3, ls, rest, am_rol σ o k i (va_cpy (σ.2 o0 k0 i0) (σ.2 o k i) sp.toNatClampNeg dp.toNatClampNeg n.toNatClampNeg))) : am_A p l e (am_rc (d + 1) mc ms) s m args below meth c nL G A kc ks Q (pc, ls, am_i n :: am_i dp :: am_r o k i :: am_i sp :: am_r o0 k0 i0 :: rest, σ) := by
  intro H locs la hW hL hF h1 h2 hl
  obtain ⟨hx, hb, hml, hown, hts, -, hU, hA⟩ := id X
  obtain ⟨g1, g2, g3, g4, g5⟩ := am_cok_of ob
  simp only [Bool.and_eq_true, beq_iff_eq] at hk
  have hlv : am_lv G o k i := h2 (am_r o k i) (by simp)
  have hlv0 : am_lv G o0 k0 i0 := h2 (am_r o0 k0 i0) (by simp)
  have h8 : o < 16 := am_arr8 hlv.2.1 (by rw [hk.1]; rfl)
  have hc0 := hW.1 o0 k0 i0 hlv0
  rw [am_at2 hk.2] at hc0
  have hc1 := hW.1 o k i hlv
  rw [am_at2 hk.1] at hc1
  have hrl : ∀ v ∈ rest, am_lV G v := fun v hv => h2 v (by simp [hv])
  obtain ⟨-, kc, hkc, cm, hkk⟩ := (hU.1.2 1 _ rfl).1 0 (fun _ => .null)
  obtain ⟨-, k0c, hk0c, cm0, hkk0⟩ := (hU.1.2 1 _ rfl).1 (am_kd k0).2.1 (fun j => .long (σ.2 o0 k0 i0 j))
  obtain ⟨-, k1c, hk1c, cm1, hkk1⟩ := (hU.1.2 1 _ rfl).1 (am_kd k).2.1 (fun j => .long (σ.2 o k i j))
  intro T hT Xs
  obtain ⟨vm', X', step⟩ := Xs.arraycopy hx hown (hts _ hlk) (hts _ hw.1) (hts _ hw.2.1) (hts _ hw.2.2) (src := am_ad G o0 k0 i0) (dst := am_ad G o k i) (cs := arrV (G.2.1 1) (am_kd k0).2.1 (fun j => .long (σ.2 o0 k0 i0 j))) (cd := arrV (G.2.1 1) (am_kd k).2.1 (fun j => .long (σ.2 o k i j))) (srcPos := sp) (destPos := dp) (n := n) (by rw [hT]; exact hc0) (by rw [hT]; exact hc1)
    (fun _ h => by cases h) (fun _ h => by cases h) (fun h => by cases h) (fun h => by cases h) hk0c hk1c hkk0 hkk1 (by simp [refKind]) g1 g2 g3
    (by rw [am_nn g1, am_nn g3, arrV_size]; omega)
    (by rw [am_nn g2, am_nn g3, arrV_size]; omega)
    (fun vm₁ _ j hj => by
      have e : (arrV (G.2.1 1) (am_kd k0).2.1 (fun j => Value.long (σ.2 o0 k0 i0 j))).slots.getD (sp.toNatClampNeg + j) .null = .long (σ.2 o0 k0 i0 (sp.toNatClampNeg + j)) := by
        rw [Array.getD_eq_getD_getElem?, arrV_read _ _ (by omega)]
        rfl
      refine ⟨?_, ?_⟩
      · rw [e]
        rfl
      · rw [e]
        exact trivial)
    (g := F0 m pc la ((am_i n :: am_i dp :: am_r o k i :: am_i sp :: am_r o0 k0 i0 :: rest).map (am_v G))) rfl (hl.1.trans hml.symm) (rest := rest.map (am_v G)) rfl (by rw [hb]; exact am_dea hc h) (by show 1 ≤ d + 1; omega) (by
      show 2 * 0 + ((rest.map (am_v G)).map fun v => v.category).sum + (nativeFrameWords "java/lang/System" "arraycopy" 5 + 11) ≤ 40 * (d + 1)
      rw [am_catsum]
      have := Nat.le_of_ble_eq_true hsz
      have e7 : nativeFrameWords "java/lang/System" "arraycopy" 5 = 7 := by decide +kernel
      omega)
  have e1 : copied (arrV (G.2.1 1) (am_kd k0).2.1 (fun j => Value.long (σ.2 o0 k0 i0 j))) (arrV (G.2.1 1) (am_kd k).2.1 (fun j => Value.long (σ.2 o k i j))) sp dp n = arrV (G.2.1 1) (am_kd k).2.1 (fun j => Value.long (va_cpy (σ.2 o0 k0 i0) (σ.2 o k i) sp.toNatClampNeg dp.toNatClampNeg n.toNatClampNeg j)) := va_copied (fun z => .long z) _ _ _ _ g4
  rw [e1] at X' step
  have hlt : am_ad G o k i < H.size := (Array.getElem?_eq_some_iff.mp hc1).1
  obtain ⟨H1, hH1⟩ : ∃ H1, H1 = H.setIfInBounds (am_ad G o k i) (arrV (G.2.1 1) (am_kd k).2.1 (fun j => Value.long (va_cpy (σ.2 o0 k0 i0) (σ.2 o k i) sp.toNatClampNeg dp.toNatClampNeg n.toNatClampNeg j))) := ⟨_, rfl⟩
  have hheap : ((T.setVm vm').setCell (am_ad G o k i) (arrV (G.2.1 1) (am_kd k).2.1 (fun j => Value.long (va_cpy (σ.2 o0 k0 i0) (σ.2 o k i) sp.toNatClampNeg dp.toNatClampNeg n.toNatClampNeg j)))).heap = H1 := by rw [hH1, ← hT]; rfl
  have oq : ∀ q : Nat, q ≠ am_ad G o k i → H1[q]? = H[q]? := fun q hq => by rw [hH1]; simp [Array.getElem?_setIfInBounds, Ne.symm hq]
  have hself : H1[am_ad G o k i]? = some (arrV (G.2.1 1) (am_kd k).2.1 (fun j => Value.long (va_cpy (σ.2 o0 k0 i0) (σ.2 o k i) sp.toNatClampNeg dp.toNatClampNeg n.toNatClampNeg j))) := by rw [hH1]; simp [Array.getElem?_setIfInBounds, hlt]
  have hz : H1.size = H.size := by rw [hH1]; simp
  have hne : ∀ o' k' i', ¬ (o' = o ∧ k' = k ∧ i' = i) → ∀ j, (am_rol σ o k i (va_cpy (σ.2 o0 k0 i0) (σ.2 o k i) sp.toNatClampNeg dp.toNatClampNeg n.toNatClampNeg)).2 o' k' i' j = σ.2 o' k' i' j := fun o' k' i' hn j => if_neg fun q => hn ⟨q.2.2, q.1, q.2.1⟩
  have hk40 : k ≠ 40 := am_40 0 (by decide) k (am_ok_lt hlv.2.1).2 (by rw [hk.1]; decide)
  have hW' : am_W G (am_rol σ o k i (va_cpy (σ.2 o0 k0 i0) (σ.2 o k i) sp.toNatClampNeg dp.toNatClampNeg n.toNatClampNeg)) s H1 := by
    refine hW.put hlv h8 ?_ hz oq (fun o' k' i' hl' hn hat => hat.congr (am_obj0 hl') (fun _ => rfl) (hne o' k' i' hn)) (fun o' => ⟨rfl, rfl⟩)
    rw [am_at2 hk.1, hself]
    refine congrArg some (congrArg (arrV _ _) (funext fun j => ?_))
    exact congrArg Value.long (if_pos ⟨rfl, rfl, rfl⟩).symm
  obtain ⟨t, a1, b1⟩ := kk H1 _ la hW' (fun q hq => by
      rcases List.mem_append.mp hq with h | h
      · exact hL q h
      · obtain ⟨z, -, hz⟩ := List.mem_map.mp h
        rw [← hz]
        exact hA _ ⟨o, k, i, hlv, h8, rfl⟩) ⟨Nat.le_trans hF.1 (Nat.le_of_eq hz.symm), fun q hs hq => by rw [oq q fun z => hq (hA _ ⟨o, k, i, hlv, h8, z⟩)]; exact hF.2 q hs hq⟩ h1 hrl hl _ hheap X'
  exact ⟨t, step t a1, b1⟩
theorem am_mmin {tb : List (Nat × Instr × Nat)} (hc : am_code cc tb = true) (a : Nat) {d mc ms pc idx : Nat} (X : am_X p s m args c cc own nL P G A) {x y : Int32} {rest : List am_V} {ls : List (Nat × am_V)} {σ : am_S} (h : tb[a]? = some (pc, .invokestatic idx, 3))
    (hlk : Cond.methodLink own idx Lib.Math.min.name ∈ am_tb) (hw : Cond.static Lib.Math.min.name ∈ am_tb ∧ Cond.initialized "java/lang/Math" ∈ am_tb ∧ Cond.code Lib.Math.min.name Lib.Math.min.code 2 (some .int) ∈ am_tb) (hsz : Nat.ble (am_sz rest) 8 = true) (hkm : (Nat.ble kc mc && Nat.ble ks ms) = true)
    (kk : am_A p l e (am_rc (d + 1) mc ms) s m args below meth c nL G A kc ks Q (pc + 3, ls, am_i (if y < x then y else x) :: rest, σ)) : am_A p l e (am_rc (d + 1) mc ms) s m args below meth c nL G A kc ks Q (pc, ls, am_i y :: am_i x :: rest, σ) := by
  intro H locs la hW hL hF h1 h2 hl
  obtain ⟨hx, hb, hml, hown, hts, -, hU, hA⟩ := id X
  rw [Bool.and_eq_true] at hkm
  have h3 := Nat.le_of_ble_eq_true hsz
  exact va_mmin hx hb (hml.trans hl.1.symm) hown (hts _ hlk) (hts _ hw.1) (hts _ hw.2.1) (hts _ hw.2.2) (by show 1 ≤ d + 1; omega) (by show ((rest.map (am_v G)).map fun v => v.category).sum + 13 ≤ 40 * (d + 1); rw [am_catsum]; omega) (Nat.le_of_ble_eq_true hkm.1) (Nat.le_of_ble_eq_true hkm.2) (am_dea hc h) (kk H locs la hW hL hF h1 (am_lcons (v := .inl _) trivial (am_tl (am_tl h2).2).2) hl)
theorem am_mmax {tb : List (Nat × Instr × Nat)} (hc : am_code cc tb = true) (a : Nat) {d mc ms pc idx : Nat} (X : am_X p s m args c cc own nL P G A) {x y : Int32} {rest : List am_V} {ls : List (Nat × am_V)} {σ : am_S} (h : tb[a]? = some (pc, .invokestatic idx, 3))
    (hlk : Cond.methodLink own idx Lib.Math.max.name ∈ am_tb) (hw : Cond.static Lib.Math.max.name ∈ am_tb ∧ Cond.initialized "java/lang/Math" ∈ am_tb ∧ Cond.code Lib.Math.max.name Lib.Math.max.code 2 (some .int) ∈ am_tb) (hsz : Nat.ble (am_sz rest) 8 = true) (hkm : (Nat.ble kc mc && Nat.ble ks ms) = true)
    (kk : am_A p l e (am_rc (d + 1) mc ms) s m args below meth c nL G A kc ks Q (pc + 3, ls, am_i (if x < y then y else x) :: rest, σ)) : am_A p l e (am_rc (d + 1) mc ms) s m args below meth c nL G A kc ks Q (pc, ls, am_i y :: am_i x :: rest, σ) := by
  intro H locs la hW hL hF h1 h2 hl
  obtain ⟨hx, hb, hml, hown, hts, -, hU, hA⟩ := id X
  rw [Bool.and_eq_true] at hkm
  have h3 := Nat.le_of_ble_eq_true hsz
  exact va_mmax hx hb (hml.trans hl.1.symm) hown (hts _ hlk) (hts _ hw.1) (hts _ hw.2.1) (hts _ hw.2.2) (by show 1 ≤ d + 1; omega) (by show ((rest.map (am_v G)).map fun v => v.category).sum + 13 ≤ 40 * (d + 1); rw [am_catsum]; omega) (Nat.le_of_ble_eq_true hkm.1) (Nat.le_of_ble_eq_true hkm.2) (am_dea hc h) (kk H locs la hW hL hF h1 (am_lcons (v := .inl _) trivial (am_tl (am_tl h2).2).2) hl)
end AMY
