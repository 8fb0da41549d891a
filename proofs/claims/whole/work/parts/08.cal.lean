/-! ===== contracts, returns, calls ===== -/
def am_Qc (G : am_G) (r : Option am_V) (σ : am_S) : Array Value → State → Outcome → State → Prop := fun _ st o t =>
  o = .returned (r.map (am_v G)) ∧ (∀ v, r = some v → am_lV G v) ∧ am_W G σ t t.heap ∧ t.heap.size = st.heap.size ∧ ∀ q, ¬ am_fr G q → t.heap[q]? = st.heap[q]?
def am_ro (d : Nat) : Room := { frames := d, cells := 0, slots := 0, locals := 40 * d }
def am_ws (y : MethodName) (cc : ByteArray) (nL : Nat) (ret : Option FieldType) : List Cond := Cond.code y cc nL ret :: am_tb
/-- THE CONTRACT: with these arguments over these cells the method answers r, and the cells are then σ' -/
def am_M (l : Launch) (y : MethodName) (cc : ByteArray) (nL : Nat) (ret : Option FieldType) (d : Nat) (As : List am_V) (σ : am_S) (r : Option am_V) (σ' : am_S) : Prop :=
  ∀ G : am_G, (∀ v ∈ As, am_lV G v) → Met l y (am_ws y cc nL ret) (am_ro d) (va_Pc (As.map (am_v G)) (fun U => am_U G U ∧ am_W G σ U U.heap)) (am_Qc G r σ') 0 0 (am_fr G)
def am_args : Nat → List am_V → List (Nat × am_V)
  | _, [] => []
  | i, v :: t => (i, v) :: am_args (i + am_ct v) t
theorem am_args_map (G : am_G) : ∀ (As : List am_V) (i : Nat), (am_args i As).map (fun q => (q.1, am_v G q.2)) = lv_args i (As.map (am_v G))
  | [], _ => rfl
  | v :: t, i => by
    show (i, am_v G v) :: (am_args (i + am_ct v) t).map _ = (i, am_v G v) :: lv_args (if (am_v G v).category = 2 then i + 2 else i + 1) (t.map (am_v G))
    rw [am_args_map G t, am_v_ct]
    congr 2
    rcases v with x | x | x
    · rfl
    · rfl
    · rfl
theorem am_args_mem {q : Nat × am_V} : ∀ {As : List am_V} {i : Nat}, q ∈ am_args i As → q.2 ∈ As
  | [], _, h => by cases h
  | v :: t, i, h => by
    rcases List.mem_cons.mp h with e | e
    · rw [e]; exact List.mem_cons_self
    · exact List.mem_cons_of_mem _ (am_args_mem e)
def am_sz : List am_V → Nat
  | [] => 0
  | v :: t => am_ct v + am_sz t
theorem am_sl_len (G : am_G) : ∀ As : List am_V, (lg_sl (As.map (am_v G))).length = am_sz As
  | [] => rfl
  | v :: t => by
    have h := am_sl_len G t
    unfold lg_sl at h ⊢
    rw [List.map_cons, List.flatMap_cons, List.length_append, h]
    show _ = am_ct v + am_sz t
    rw [am_v_ct]
    rcases v with x | x | x <;> rfl
theorem am_blind {G : am_G} {σ : am_S} {av : List Value} : FrameBlind (va_Pc av (fun U => am_U G U ∧ am_W G σ U U.heap)) := fun a U g mk h => by
  obtain ⟨h1, h2, h3⟩ := h
  refine ⟨h1, ⟨va_K.moved (u := U) (U := U.calling g mk a) (Vm.Alike.refl U.vm) h2.1, fun q hq => va_Nw.same (u := U) (U := U.calling g mk a) rfl rfl (h2.2.1 q hq), h2.2.2⟩, ?_⟩
  exact am_W.alike (u := U) (U := U.calling g mk a) (Vm.Alike.refl U.vm) h3
/-- a contract from a goal at the entry -/
theorem am_M_of {l : Launch} {y : MethodName} {cc : ByteArray} {nL : Nat} {ret : Option FieldType} {d : Nat} {As : List am_V} {σ : am_S} {r : Option am_V} {σ' : am_S} {P : am_P} (hy : plainName y.cls = true) (hp : am_pok y.cls P = true) (hn : Nat.ble (am_sz As) nL = true)
    (body : ∀ (G : am_G) (p : Program) (e : Env) (s : State) (m : MethodId) (args : Array Value) (below : List Frame) (meth : Method) (c : Code), am_X p s m args c cc y.cls nL P G → (meth.sig.returnType = ret ∧ meth.locks = false) →
      am_A p l e (am_ro d) s m args below meth c nL G (MQ below (am_Qc G r σ') args s 0 0 (am_fr G)) (0, am_args 0 As, [], σ)) : am_M l y cc nL ret d As σ r σ' := by
  intro G hlv
  refine Met.ofW (cc := cc) (maxL := nL) (ret := ret) hy rfl ?_
  intro p e s m args below meth c s₁ B hml hv
  obtain ⟨rfl, hU, hW⟩ := hv
  have hts := atoms_spec (ws := am_ws y cc nL ret) B.pre
  have hown : s.vm.findClass y.cls = some m.cls := findClass_of_methodNamed B.named
  have hb := body G p e s m _ below meth c ⟨B.exec, B.bytes, hml, hown, fun w hw => hts w (List.mem_cons_of_mem _ hw), hp, hU⟩ ⟨B.returns, B.notSynchronized⟩
  rw [lg_entry_eq]
  refine hb s.heap [] _ hW (fun q hq => by cases hq) ⟨rfl, fun _ _ => rfl⟩ (fun q hq => hlv _ (am_args_mem hq)) (fun v hv => by cases hv) ?_
  show lv_has _ nL ((am_args 0 As).map (fun q => (q.1, am_v G q.2)))
  rw [am_args_map]
  exact lv_entry _ (by rw [am_sl_len]; exact Nat.le_of_ble_eq_true hn)
section AMC
variable {p : Program} {l : Launch} {e : Env} {R : Room} {s : State} {m : MethodId} {args : Array Value} {below : List Frame} {meth : Method} {c : Code} {cc : ByteArray} {own : String} {nL : Nat} {P : am_P} {G : am_G} {Q : State → Prop}
theorem am_end {H : Heap} {t : State} {σ : am_S} {v : Option am_V} (hW : am_W G σ s H) (hF : H.size = s.heap.size ∧ ∀ q, ¬ am_fr G q → H[q]? = s.heap[q]?) (hv : ∀ w, v = some w → am_lV G w) (ht : t.heap = H) (hw : s.WarmedH t.vm) : am_Qc G v σ args s (.returned (v.map (am_v G))) t := by
  subst ht
  exact ⟨rfl, hv, hW.alike hw.alike, hF.1, hF.2⟩
theorem am_iret {tb : List (Nat × Instr × Nat)} (hc : am_code cc tb = true) (X : am_X p s m args c cc own nL P G) (hr : meth.sig.returnType = some .int ∧ meth.locks = false) (a : Nat) {pc : Nat} {ls : List (Nat × am_V)} {x : Int32} {σ σ' : am_S} {r : Option am_V} (h : tb[a]? = some (pc, .ireturn, 1)) (hv : r = some (am_i x)) (hs : σ' = σ) : am_A p l e R s m args below meth c nL G (MQ below (am_Qc G r σ') args s 0 0 (am_fr G)) (pc, ls, [am_i x], σ) := by
  subst hv; subst hs
  intro H locs la hW hL hF h1 h2 hl
  exact W.iret (v := x) X.1 X.2.1 hr.1 (fun t ht hw => am_end (v := some (am_i x)) hW hF (fun w hw => by cases hw; trivial) ht hw) hL (am_dea hc h) hr.2
theorem am_zret {tb : List (Nat × Instr × Nat)} (hc : am_code cc tb = true) (X : am_X p s m args c cc own nL P G) (hr : meth.sig.returnType = some .boolean ∧ meth.locks = false) (a : Nat) {pc : Nat} {ls : List (Nat × am_V)} {x : Int32} {σ σ' : am_S} {r : Option am_V} (h : tb[a]? = some (pc, .ireturn, 1)) (h01 : x = 0 ∨ x = 1) (hv : r = some (am_i x)) (hs : σ' = σ) : am_A p l e R s m args below meth c nL G (MQ below (am_Qc G r σ') args s 0 0 (am_fr G)) (pc, ls, [am_i x], σ) := by
  subst hv; subst hs
  intro H locs la hW hL hF h1 h2 hl
  exact W.zret (v := x) X.1 X.2.1 hr.1 (by rcases h01 with rfl | rfl <;> rfl) (fun t ht hw => am_end (v := some (am_i x)) hW hF (fun w hw => by cases hw; trivial) ht hw) hL (am_dea hc h) hr.2
theorem am_lret {tb : List (Nat × Instr × Nat)} (hc : am_code cc tb = true) (X : am_X p s m args c cc own nL P G) (hr : meth.sig.returnType = some .long ∧ meth.locks = false) (a : Nat) {pc : Nat} {ls : List (Nat × am_V)} {x : Int64} {σ σ' : am_S} {r : Option am_V} (h : tb[a]? = some (pc, .lreturn, 1)) (hv : r = some (am_l x)) (hs : σ' = σ) : am_A p l e R s m args below meth c nL G (MQ below (am_Qc G r σ') args s 0 0 (am_fr G)) (pc, ls, [am_l x], σ) := by
  subst hv; subst hs
  intro H locs la hW hL hF h1 h2 hl
  exact W.lret (v := x) X.1 X.2.1 hr.1 (fun t ht hw => am_end (v := some (am_l x)) hW hF (fun w hw => by cases hw; trivial) ht hw) hL (am_dea hc h) hr.2
theorem am_vret {tb : List (Nat × Instr × Nat)} (hc : am_code cc tb = true) (X : am_X p s m args c cc own nL P G) (hr : meth.sig.returnType = none ∧ meth.locks = false) (a : Nat) {pc : Nat} {ls : List (Nat × am_V)} {σ σ' : am_S} {r : Option am_V} (h : tb[a]? = some (pc, .return_, 1)) (hv : r = none) (hs : σ' = σ) : am_A p l e R s m args below meth c nL G (MQ below (am_Qc G r σ') args s 0 0 (am_fr G)) (pc, ls, [], σ) := by
  subst hv; subst hs
  intro H locs la hW hL hF h1 h2 hl
  exact W.vret X.1 X.2.1 hr.1 (fun t ht hw => am_end (v := none) hW hF (fun w hw => by cases hw) ht hw) hL (am_dea hc h) hr.2
/-- what a called method's words say: an instance method, a static one -/
def am_yV (y : MethodName) (cc : ByteArray) (nL : Nat) (ret : Option FieldType) (n : Nat) : Bool :=
  decide (Cond.instanceMethod y ∈ am_tb) && (decide (Cond.selects y.cls y y ∈ am_tb) && (decide (Cond.initialized y.cls ∈ am_tb) && (decide (Cond.code y cc nL ret ∈ am_tb) && (decide (y.cls ≠ "java/lang/invoke/MethodHandle") && (decide (y.cls ≠ "java/lang/invoke/VarHandle") && (decide ((parseMethodDescriptor y.desc).map (fun d => d.parameters.length) = some n) && Nat.ble nL 21))))))
def am_yS (y : MethodName) (cc : ByteArray) (nL : Nat) (ret : Option FieldType) (n : Nat) : Bool :=
  decide (Cond.static y ∈ am_tb) && (decide (Cond.initialized y.cls ∈ am_tb) && (decide (Cond.code y cc nL ret ∈ am_tb) && (decide (y.cls ≠ "java/lang/invoke/MethodHandle") && (decide (y.cls ≠ "java/lang/invoke/VarHandle") && (decide ((parseMethodDescriptor y.desc).map (fun d => d.parameters.length) = some n) && Nat.ble nL 21)))))
theorem am_goes {pc : Nat} {ls : List (Nat × am_V)} {la : Array Slot} {rest : List am_V} {st0 : List Value} {r : Option am_V} {σ' : am_S} {H : Heap} {locs : List Loc} {a : Array Value}
    (hr : va_Run p l e R s m args below meth c H locs 0 0 0 0 (F0 m pc la st0) (rest.map (am_v G)) (am_Qc G r σ' a) (am_fr G)) (hL : ∀ q ∈ locs, am_fr G q.base) (hF : H.size = s.heap.size ∧ ∀ q, ¬ am_fr G q → H[q]? = s.heap[q]?)
    (h1 : ∀ q ∈ ls, am_lV G q.2) (h2 : ∀ v ∈ rest, am_lV G v) (hl : lv_has la nL (ls.map (fun q => (q.1, am_v G q.2)))) (k : am_A p l e R s m args below meth c nL G Q (pc + 3, ls, r.toList ++ rest, σ')) : W p l e R s m args below meth c H locs 0 0 Q (F0 m pc la st0) := by
  intro T hT X
  obtain ⟨v, st₀, t, T', L, h0, X', hLL, e1, e2, ⟨hv, hlv, hW', hz, hk⟩, st⟩ := hr T hT X
  have hv2 : v = r.map (am_v G) := Outcome.returned.inj hv
  subst hv2
  rw [h0] at hz hk
  have hal : t.vm.Alike s.vm := by rw [← e2]; exact X'.warmed.alike.symm
  obtain ⟨t2, a1, b1⟩ := k T'.heap (locs ++ L) la (by rw [e1]; exact hW'.alike hal) (fun q hq => by
      rcases List.mem_append.mp hq with h | h
      · exact hL q h
      · exact hLL q h) ⟨by rw [e1]; exact hz.trans hF.1, fun q hq => by rw [e1, hk q hq]; exact hF.2 q hq⟩ h1 (fun w hw => by
      rcases List.mem_append.mp hw with h | h
      · exact hlv w (Option.mem_toList.mp h)
      · exact h2 w h) hl T' rfl X'
  refine ⟨t2, st t2 ?_, b1⟩
  have e9 : (r.map (am_v G)).toList ++ rest.map (am_v G) = (r.toList ++ rest).map (am_v G) := by cases r <;> simp
  show Steps _ _ _ (T'.setTop { (F0 m pc la st0) with pc := pc + 3, stack := (r.map (am_v G)).toList ++ rest.map (am_v G) }) _
  rw [e9]
  exact a1
theorem am_catsum : ∀ st : List am_V, ((st.map (am_v G)).map fun v => v.category).sum = am_sz st
  | [] => rfl
  | v :: t => by
    rw [List.map_cons, List.map_cons, List.sum_cons, am_catsum t, am_v_ct]
    rfl
theorem am_rv {As rest : List am_V} : (As.reverse ++ rest).map (am_v G) = (As.map (am_v G)).reverse ++ rest.map (am_v G) := by simp
theorem am_callV {tb : List (Nat × Instr × Nat)} (hc : am_code cc tb = true) (a : Nat) {d d' pc idx o k i nL' n : Nat} (X : am_X p s m args c cc own nL P G) {y : MethodName} {cc' : ByteArray} {ret' : Option FieldType} {As rest st : List am_V} {ls : List (Nat × am_V)} {σ σ' : am_S} {r : Option am_V} (h : tb[a]? = some (pc, .invokevirtual idx, 3))
    (hM : am_M l y cc' nL' ret' d' (am_r o k i :: As) σ r σ') (hy : am_yV y cc' nL' ret' n = true) (hlk : Cond.methodLink own idx y ∈ am_tb) (hcl : y.cls = (am_cl k).1 ∧ Nat.beq (am_kd k).1 0 = true) (hd : Nat.ble (d' + 1) d = true) (hn : As.length = n) (hst : st = As.reverse ++ am_r o k i :: rest) (hsz : Nat.ble (am_sz rest) 8 = true)
    (kk : am_A p l e (am_ro d) s m args below meth c nL G Q (pc + 3, ls, r.toList ++ rest, σ')) : am_A p l e (am_ro d) s m args below meth c nL G Q (pc, ls, st, σ) := by
  subst hst
  intro H locs la hW hL hF h1 h2 hl
  unfold am_yV at hy
  simp only [Bool.and_eq_true, decide_eq_true_eq] at hy
  obtain ⟨y1, y2, y3, y4, y5, y6, y7, y8⟩ := hy
  obtain ⟨hx, hb, hml, hown, hts, -, hU⟩ := id X
  have hlive : ∀ v ∈ As.reverse ++ am_r o k i :: rest, am_lV G v := h2
  have hlv : am_lv G o k i := hlive (am_r o k i) (List.mem_append_right _ List.mem_cons_self)
  have hAs : ∀ v ∈ am_r o k i :: As, am_lV G v := am_lcons hlv fun v hv => hlive v (List.mem_append_left _ (List.mem_reverse.mpr hv))
  have hrest : ∀ v ∈ rest, am_lV G v := fun v hv => hlive v (List.mem_append_right _ (List.mem_cons_of_mem _ hv))
  have h0 := Nat.eq_of_beq_eq_true hcl.2
  have hk77 := (am_ok_lt hlv.2.1).2
  have hat := hW.1 o k i hlv
  rw [am_at0 h0] at hat
  obtain ⟨cell, q1, q2, q3, q4⟩ := hat
  have hfc := (hU.1.1 _ _ (am_cl_at hk77 h0)).2.1
  have hdd := Nat.le_of_ble_eq_true hd
  have hnn := Nat.le_of_ble_eq_true y8
  have hG : GoodIn am_tb (wsV own idx y.cls y (am_ws y cc' nL' ret')) := fun w hw => by
    unfold wsV am_ws at hw
    have : w ∈ am_tb := by
      rcases List.mem_append.mp hw with hw | hw
      · simp only [List.mem_cons, List.not_mem_nil, or_false] at hw
        rcases hw with rfl | rfl | rfl | rfl
        · exact hlk
        · exact y1
        · exact y2
        · exact y3
      · rcases List.mem_cons.mp hw with rfl | hw
        · exact y4
        · exact hw
    exact am_tb_good w this
  have hrun := va_runV (l := l) (e := e) (R := am_ro d) (below := below) (meth := meth) (H := H) (locs := locs) (cells := 0) (slots := 0) (As := As.map (am_v G)) (rest := rest.map (am_v G)) (g := F0 m pc la ((As.reverse ++ am_r o k i :: rest).map (am_v G))) ⟨hx, hb, hml, hown, hts⟩ (hM G hAs) (cwV (C := y.cls) (R := am_ro d) n hts hG rfl rfl rfl ⟨rfl, y5, y6, y7⟩ ⟨hdd, by show 8 + (nL' + 11) + 40 * d' ≤ 40 * d; omega⟩)
    ⟨am_blind, ⟨cell, q1, by rw [q3]; rfl, by rw [q2, hcl.1]; exact hfc⟩, fun U hU' hWU => ⟨rfl, hU.warm hWU, by rw [hU']; exact hW.alike hWU.alike⟩⟩ rfl (by rw [List.length_map]; exact hn) hl.1 am_rv (by show 2 * 0 + _ ≤ 8; rw [am_catsum]; have := Nat.le_of_ble_eq_true hsz; omega) (am_dea hc h) ⟨Nat.le_refl _, Nat.le_refl _⟩
  exact am_goes hrun hL hF h1 hrest hl kk
theorem am_callS {tb : List (Nat × Instr × Nat)} (hc : am_code cc tb = true) (a : Nat) {d d' pc idx nL' n : Nat} (X : am_X p s m args c cc own nL P G) {y : MethodName} {cc' : ByteArray} {ret' : Option FieldType} {As rest st : List am_V} {ls : List (Nat × am_V)} {σ σ' : am_S} {r : Option am_V} (h : tb[a]? = some (pc, .invokestatic idx, 3))
    (hM : am_M l y cc' nL' ret' d' As σ r σ') (hy : am_yS y cc' nL' ret' n = true) (hlk : Cond.methodLink own idx y ∈ am_tb) (hd : Nat.ble (d' + 1) d = true) (hn : As.length = n) (hst : st = As.reverse ++ rest) (hsz : Nat.ble (am_sz rest) 8 = true)
    (kk : am_A p l e (am_ro d) s m args below meth c nL G Q (pc + 3, ls, r.toList ++ rest, σ')) : am_A p l e (am_ro d) s m args below meth c nL G Q (pc, ls, st, σ) := by
  subst hst
  intro H locs la hW hL hF h1 h2 hl
  unfold am_yS at hy
  simp only [Bool.and_eq_true, decide_eq_true_eq] at hy
  obtain ⟨y1, y3, y4, y5, y6, y7, y8⟩ := hy
  obtain ⟨hx, hb, hml, hown, hts, -, hU⟩ := id X
  have hlive : ∀ v ∈ As.reverse ++ rest, am_lV G v := h2
  have hAs : ∀ v ∈ As, am_lV G v := fun v hv => hlive v (List.mem_append_left _ (List.mem_reverse.mpr hv))
  have hrest : ∀ v ∈ rest, am_lV G v := fun v hv => hlive v (List.mem_append_right _ hv)
  have hdd := Nat.le_of_ble_eq_true hd
  have hnn := Nat.le_of_ble_eq_true y8
  have hG : GoodIn am_tb (va_wsS own idx y (am_ws y cc' nL' ret')) := fun w hw => by
    unfold va_wsS am_ws at hw
    have : w ∈ am_tb := by
      rcases List.mem_append.mp hw with hw | hw
      · simp only [List.mem_cons, List.not_mem_nil, or_false] at hw
        rcases hw with rfl | rfl | rfl
        · exact hlk
        · exact y1
        · exact y3
      · rcases List.mem_cons.mp hw with rfl | hw
        · exact y4
        · exact hw
    exact am_tb_good w this
  have hrun := va_runS (l := l) (e := e) (R := am_ro d) (below := below) (meth := meth) (H := H) (locs := locs) (cells := 0) (slots := 0) (As := As.map (am_v G)) (rest := rest.map (am_v G)) (g := F0 m pc la ((As.reverse ++ rest).map (am_v G))) ⟨hx, hb, hml, hown, hts⟩ (hM G hAs) (va_cwS (R := am_ro d) n hts hG rfl rfl rfl ⟨y5, y6, y7⟩ ⟨hdd, by show 8 + (nL' + 11) + 40 * d' ≤ 40 * d; omega⟩)
    ⟨am_blind, fun U hU' hWU => ⟨rfl, hU.warm hWU, by rw [hU']; exact hW.alike hWU.alike⟩⟩ rfl (by rw [List.length_map]; exact hn) hl.1 am_rv (by show 2 * 0 + _ ≤ 8; rw [am_catsum]; have := Nat.le_of_ble_eq_true hsz; omega) (am_dea hc h) ⟨Nat.le_refl _, Nat.le_refl _⟩
  exact am_goes hrun hL hF h1 hrest hl kk
theorem am_callN {tb : List (Nat × Instr × Nat)} (hc : am_code cc tb = true) (a : Nat) {d d' pc idx nL' n : Nat} (X : am_X p s m args c cc own nL P G) {y : MethodName} {host : String} {cc' : ByteArray} {ret' : Option FieldType} {As rest st : List am_V} {ls : List (Nat × am_V)} {σ σ' : am_S} {r : Option am_V} (h : tb[a]? = some (pc, .invokestatic idx, 3))
    (hM : am_M l y cc' nL' ret' d' As σ r σ') (hy : am_yS y cc' nL' ret' n = true) (hlk : (own, idx, y, host) ∈ am_nst) (hd : Nat.ble (d' + 1) d = true) (hn : As.length = n) (hst : st = As.reverse ++ rest) (hsz : Nat.ble (am_sz rest) 8 = true)
    (kk : am_A p l e (am_ro d) s m args below meth c nL G Q (pc + 3, ls, r.toList ++ rest, σ')) : am_A p l e (am_ro d) s m args below meth c nL G Q (pc, ls, st, σ) := by
  subst hst
  intro H locs la hW hL hF h1 h2 hl
  unfold am_yS at hy
  simp only [Bool.and_eq_true, decide_eq_true_eq] at hy
  obtain ⟨y1, y3, y4, y5, y6, y7, y8⟩ := hy
  obtain ⟨hx, hb, hml, hown, hts, -, hU⟩ := id X
  have hlive : ∀ v ∈ As.reverse ++ rest, am_lV G v := h2
  have hAs : ∀ v ∈ As, am_lV G v := fun v hv => hlive v (List.mem_append_left _ (List.mem_reverse.mpr hv))
  have hrest : ∀ v ∈ rest, am_lV G v := fun v hv => hlive v (List.mem_append_right _ hv)
  have hdd := Nat.le_of_ble_eq_true hd
  have hnn := Nat.le_of_ble_eq_true y8
  have hG : GoodIn am_tb (am_ws y cc' nL' ret') := fun w hw => by
    unfold am_ws at hw
    have : w ∈ am_tb := by
      rcases List.mem_cons.mp hw with rfl | hw
      · exact y4
      · exact hw
    exact am_tb_good w this
  have hrun := va_runSN (l := l) (e := e) (R := am_ro d) (below := below) (meth := meth) (H := H) (locs := locs) (cells := 0) (slots := 0) (host := host) (As := As.map (am_v G)) (rest := rest.map (am_v G)) (g := F0 m pc la ((As.reverse ++ rest).map (am_v G))) ⟨hx, hb, hml, hown, hts⟩ (hM G hAs) ⟨va_cnB (R := am_ro d) n hts hG rfl rfl rfl (hU.2.1 _ hlk) (hts _ y3) ⟨y5, y6, y7⟩ ⟨hdd, by show 8 + (nL' + 11) + 40 * d' ≤ 40 * d; omega⟩, hts _ y1, trivial⟩
    ⟨am_blind, fun U hU' hWU => ⟨rfl, hU.warm hWU, by rw [hU']; exact hW.alike hWU.alike⟩⟩ rfl (by rw [List.length_map]; exact hn) hl.1 am_rv (by show 2 * 0 + _ ≤ 8; rw [am_catsum]; have := Nat.le_of_ble_eq_true hsz; omega) (am_dea hc h) ⟨Nat.le_refl _, Nat.le_refl _⟩
  exact am_goes hrun hL hF h1 hrest hl kk
end AMC
