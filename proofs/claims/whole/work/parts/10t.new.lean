/-! ===== methods that make groups: the map of addresses grows ===== -/
/-- G goes on from G0: what was made stays where it is -/
def am_ag (G0 G : am_G) : Prop := G.1 = G0.1 ∧ G.2.1 = G0.2.1 ∧ ∀ o, G0.2.2.2 o = true → G.2.2.2 o = true ∧ ∀ k i, am_ad G o k i = am_ad G0 o k i
theorem am_ag.rf {G : am_G} : am_ag G G := ⟨rfl, rfl, fun _ h => ⟨h, fun _ _ => rfl⟩⟩
theorem am_ag.tr {G0 G1 G2 : am_G} (h : am_ag G0 G1) (h2 : am_ag G1 G2) : am_ag G0 G2 := ⟨h2.1.trans h.1, h2.2.1.trans h.2.1, fun o ho => ⟨(h2.2.2 o (h.2.2 o ho).1).1, fun k i => ((h2.2.2 o (h.2.2 o ho).1).2 k i).trans ((h.2.2 o ho).2 k i)⟩⟩
theorem am_ag.lv {G0 G : am_G} (h : am_ag G0 G) {o k i : Nat} (hl : am_lv G0 o k i) : am_lv G o k i := ⟨(h.2.2 o hl.1).1, hl.2⟩
theorem am_ag.lV {G0 G : am_G} (h : am_ag G0 G) {v : am_V} (hl : am_lV G0 v) : am_lV G v := by
  rcases v with x | x | x
  · trivial
  · trivial
  · rcases x with _ | ⟨o, k, i⟩
    · trivial
    · exact h.lv hl
theorem am_ag.v {G0 G : am_G} (h : am_ag G0 G) {v : am_V} (hl : am_lV G0 v) : am_v G v = am_v G0 v := by
  rcases v with x | x | x
  · rfl
  · rfl
  · rcases x with _ | ⟨o, k, i⟩
    · rfl
    · exact congrArg Value.ref ((h.2.2 o hl.1).2 k i)
theorem am_ag.map {G0 G : am_G} (h : am_ag G0 G) {st : List am_V} (hl : ∀ v ∈ st, am_lV G0 v) : st.map (am_v G) = st.map (am_v G0) := List.map_congr_left fun v hv => h.v (hl v hv)
theorem am_ag.mapL {G0 G : am_G} (h : am_ag G0 G) {ls : List (Nat × am_V)} (hl : ∀ q ∈ ls, am_lV G0 q.2) : ls.map (fun q => (q.1, am_v G q.2)) = ls.map (fun q => (q.1, am_v G0 q.2)) := List.map_congr_left fun q hq => by rw [h.v (hl q hq)]
/-- groups that are made ahead of others -/
def am_cd (G : am_G) : Prop := ∀ q ∈ am_ups, G.2.2.2 q.1 = true → G.2.2.2 q.2 = true
theorem am_ag.U {G0 G : am_G} (h : am_ag G0 G) (hc : am_cd G) {s : State} (hU : am_U G0 s) : am_U G s := by
  refine ⟨?_, hU.2.1, hc, ⟨(h.2.2 16 hU.2.2.2.1.1).1, (h.2.2 17 hU.2.2.2.1.2.1).1, hU.2.2.2.1.2.2⟩, fun q hq => ?_⟩
  · have e : am_tys G = am_tys G0 := by unfold am_tys; rw [h.2.1]
    rw [h.1, e]
    exact hU.1
  · rw [(h.2.2 17 hU.2.2.2.1.2.1).2]
    exact hU.2.2.2.2 q hq
def am_Qa (G0 : am_G) (sz : Nat) (r : Option am_V) (σ : am_S) : Array Value → State → Outcome → State → Prop := fun _ st o t => ∃ G : am_G, am_ag G0 G ∧ am_cd G ∧ (∀ q, am_fr G q → am_fr G0 q ∨ sz ≤ q) ∧
  o = .returned (r.map (am_v G)) ∧ (∀ v, r = some v → am_lV G v) ∧ am_W G σ t t.heap ∧ st.heap.size ≤ t.heap.size ∧ ∀ q, q < st.heap.size → ¬ am_fr G0 q → t.heap[q]? = st.heap[q]?
/-- a contract of a method that may make a group: mc cells of ms slots at most -/
def am_N (l : Launch) (y : MethodName) (cc : ByteArray) (nL : Nat) (ret : Option FieldType) (d mc ms : Nat) (As : List am_V) (σ : am_S) (r : Option am_V) (σ' : am_S) : Prop :=
  ∀ (G : am_G) (sz : Nat), (∀ v ∈ As, am_lV G v) → Met l y (am_ws y cc nL ret) (am_rc d mc ms) (va_Pc (As.map (am_v G)) (fun U => U.heap.size = sz ∧ am_U G U ∧ am_W G σ U U.heap)) (am_Qa G sz r σ') mc ms (fun q => am_fr G q ∨ sz ≤ q)
theorem am_blindA {G : am_G} {σ : am_S} {sz : Nat} {av : List Value} : FrameBlind (va_Pc av (fun U => U.heap.size = sz ∧ am_U G U ∧ am_W G σ U U.heap)) := fun a U g mk h => by
  obtain ⟨h1, h0, h2, h3⟩ := h
  exact ⟨h1, h0, am_U.same (u := U) (U := U.calling g mk a) rfl h2, am_W.alike (u := U) (U := U.calling g mk a) (Vm.Alike.refl U.vm) h3⟩
/-- what such a method may write -/
def am_Fa (G0 : am_G) (sz : Nat) : Nat → Prop := fun q => am_fr G0 q ∨ sz ≤ q
theorem am_N_of {l : Launch} {y : MethodName} {cc : ByteArray} {nL : Nat} {ret : Option FieldType} {d mc ms : Nat} {As : List am_V} {σ : am_S} {r : Option am_V} {σ' : am_S} {P : am_P} (hy : plainName y.cls = true) (hp : am_pok y.cls P = true) (hn : Nat.ble (am_sz As) nL = true)
    (body : ∀ (G : am_G) (p : Program) (e : Env) (s : State) (m : MethodId) (args : Array Value) (below : List Frame) (meth : Method) (c : Code), am_X p s m args c cc y.cls nL P G (am_Fa G s.heap.size) → (meth.sig.returnType = ret ∧ meth.locks = false) →
      am_A p l e (am_rc d mc ms) s m args below meth c nL G (am_Fa G s.heap.size) 0 0 (MQ below (am_Qa G s.heap.size r σ') args s mc ms (am_Fa G s.heap.size)) (0, am_args 0 As, [], σ)) : am_N l y cc nL ret d mc ms As σ r σ' := by
  intro G sz hlv
  refine Met.ofW (cc := cc) (maxL := nL) (ret := ret) hy rfl ?_
  intro p e s m args below meth c s₁ B hml hv
  obtain ⟨rfl, rfl, hU, hW⟩ := hv
  have hts := atoms_spec (ws := am_ws y cc nL ret) B.pre
  have hown : s.vm.findClass y.cls = some m.cls := findClass_of_methodNamed B.named
  have hb := body G p e s m _ below meth c ⟨B.exec, B.bytes, hml, hown, fun w hw => hts w (List.mem_cons_of_mem _ hw), hp, hU, fun _ h => Or.inl h⟩ ⟨B.returns, B.notSynchronized⟩
  rw [lg_entry_eq]
  refine hb s.heap [] _ hW (fun q hq => by cases hq) ⟨Nat.le_refl _, fun _ _ _ => rfl⟩ (fun q hq => hlv _ (am_args_mem hq)) (fun v hv => by cases hv) ?_
  show lv_has _ nL ((am_args 0 As).map (fun q => (q.1, am_v G q.2)))
  rw [am_args_map]
  exact lv_entry _ (by rw [am_sl_len]; exact Nat.le_of_ble_eq_true hn)
section AMN
variable {p : Program} {l : Launch} {e : Env} {R : Room} {s : State} {m : MethodId} {args : Array Value} {below : List Frame} {meth : Method} {c : Code} {cc : ByteArray} {own : String} {nL : Nat} {P : am_P} {G G0 : am_G} {A : Nat → Prop} {kc ks mc ms : Nat} {Q : State → Prop}
theorem am_endA {H : Heap} {t : State} {σ : am_S} {v : Option am_V} (hag : am_ag G0 G) (hcd : am_cd G) (hA : ∀ q, am_fr G q → am_Fa G0 s.heap.size q) (hW : am_W G σ s H) (hF : s.heap.size ≤ H.size ∧ ∀ q, q < s.heap.size → ¬ am_Fa G0 s.heap.size q → H[q]? = s.heap[q]?) (hv : ∀ w, v = some w → am_lV G w) (ht : t.heap = H) (hw : s.WarmedH t.vm) : am_Qa G0 s.heap.size v σ args s (.returned (v.map (am_v G))) t := by
  subst ht
  exact ⟨G, hag, hcd, hA, rfl, hv, hW.alike hw.alike, hF.1, fun q hq hn => hF.2 q hq fun z => z.elim hn fun z => absurd hq (Nat.not_lt.mpr z)⟩
theorem am_iretA {tb : List (Nat × Instr × Nat)} (hc : am_code cc tb = true) (X : am_X p s m args c cc own nL P G (am_Fa G0 s.heap.size)) (hag : am_ag G0 G) (hr : meth.sig.returnType = some .int ∧ meth.locks = false) (hkm : (Nat.ble kc mc && Nat.ble ks ms) = true) (a : Nat) {pc : Nat} {ls : List (Nat × am_V)} {x : Int32} {σ σ' : am_S} {r : Option am_V} (h : tb[a]? = some (pc, .ireturn, 1)) (hv : r = some (am_i x)) (hs : σ' = σ) : am_A p l e R s m args below meth c nL G (am_Fa G0 s.heap.size) kc ks (MQ below (am_Qa G0 s.heap.size r σ') args s mc ms (am_Fa G0 s.heap.size)) (pc, ls, [am_i x], σ) := by
  subst hv; subst hs
  intro H locs la hW hL hF h1 h2 hl
  rw [Bool.and_eq_true] at hkm
  refine W.widen (k := mc) (n := ms) (Nat.le_of_ble_eq_true hkm.1) (Nat.le_of_ble_eq_true hkm.2) ?_
  exact W.iret (v := x) X.1 X.2.1 hr.1 (fun t ht hw => am_endA (v := some (am_i x)) hag X.2.2.2.2.2.2.1.2.2.1 X.2.2.2.2.2.2.2 hW hF (fun w hw => by cases hw; trivial) ht hw) hL (am_dea hc h) hr.2
theorem am_vretA {tb : List (Nat × Instr × Nat)} (hc : am_code cc tb = true) (X : am_X p s m args c cc own nL P G (am_Fa G0 s.heap.size)) (hag : am_ag G0 G) (hr : meth.sig.returnType = none ∧ meth.locks = false) (hkm : (Nat.ble kc mc && Nat.ble ks ms) = true) (a : Nat) {pc : Nat} {ls : List (Nat × am_V)} {σ σ' : am_S} {r : Option am_V} (h : tb[a]? = some (pc, .return_, 1)) (hv : r = none) (hs : σ' = σ) : am_A p l e R s m args below meth c nL G (am_Fa G0 s.heap.size) kc ks (MQ below (am_Qa G0 s.heap.size r σ') args s mc ms (am_Fa G0 s.heap.size)) (pc, ls, [], σ) := by
  subst hv; subst hs
  intro H locs la hW hL hF h1 h2 hl
  rw [Bool.and_eq_true] at hkm
  refine W.widen (k := mc) (n := ms) (Nat.le_of_ble_eq_true hkm.1) (Nat.le_of_ble_eq_true hkm.2) ?_
  exact W.vret X.1 X.2.1 hr.1 (fun t ht hw => am_endA (v := none) hag X.2.2.2.2.2.2.1.2.2.1 X.2.2.2.2.2.2.2 hW hF (fun w hw => by cases hw) ht hw) hL (am_dea hc h) hr.2
theorem am_aretA {tb : List (Nat × Instr × Nat)} {nm : String} (hc : am_code cc tb = true) (X : am_X p s m args c cc own nL P G (am_Fa G0 s.heap.size)) (hag : am_ag G0 G) (hr : meth.sig.returnType = some (.object nm) ∧ meth.locks = false) (hkm : (Nat.ble kc mc && Nat.ble ks ms) = true) (a : Nat) {pc o k i : Nat} {ls : List (Nat × am_V)} {σ σ' : am_S} {r : Option am_V} (h : tb[a]? = some (pc, .areturn, 1)) (hv : r = some (am_r o k i)) (hs : σ' = σ) : am_A p l e R s m args below meth c nL G (am_Fa G0 s.heap.size) kc ks (MQ below (am_Qa G0 s.heap.size r σ') args s mc ms (am_Fa G0 s.heap.size)) (pc, ls, [am_r o k i], σ) := by
  subst hv; subst hs
  intro H locs la hW hL hF h1 h2 hl
  rw [Bool.and_eq_true] at hkm
  refine W.widen (k := mc) (n := ms) (Nat.le_of_ble_eq_true hkm.1) (Nat.le_of_ble_eq_true hkm.2) ?_
  exact W.aret (v := am_v G (am_r o k i)) X.1 X.2.1 hr.1 (Or.inl ⟨_, rfl⟩) (Or.inr ⟨_, rfl⟩) (fun t ht hw => am_endA (v := some (am_r o k i)) hag X.2.2.2.2.2.2.1.2.2.1 X.2.2.2.2.2.2.2 hW hF (fun w hw => by cases hw; exact (am_tl h2).1) ht hw) hL (am_dea hc h) hr.2
/-- a call of a method that may make a group: behind it the map of addresses is another -/
theorem am_callA {tb : List (Nat × Instr × Nat)} (hc : am_code cc tb = true) (a : Nat) {d d' mc' ms' pc idx o k i nL' n : Nat} (X : am_X p s m args c cc own nL P G A) (hAs : ∀ q, s.heap.size ≤ q → A q) {y : MethodName} {cc' : ByteArray} {ret' : Option FieldType} {As rest st : List am_V} {ls : List (Nat × am_V)} {σ σ' : am_S} {r : Option am_V} (h : tb[a]? = some (pc, .invokevirtual idx, 3))
    (hM : am_N l y cc' nL' ret' d' mc' ms' (am_r o k i :: As) σ r σ') (hy : am_yV y cc' nL' ret' n) (hlk : Cond.methodLink own idx y ∈ am_tb) (hcl : y.cls = (am_cl k).1 ∧ Nat.beq (am_kd k).1 0 = true) (hd : Nat.ble (d' + 1) d = true) (hn : As.length = n) (hst : st = As.reverse ++ am_r o k i :: rest) (hsz : Nat.ble (am_sz rest) 8 = true) (hkm : kc + mc' ≤ mc ∧ ks + ms' ≤ ms)
    (kk : ∀ G' : am_G, am_ag G G' → am_X p s m args c cc own nL P G' A → am_A p l e (am_rc d mc ms) s m args below meth c nL G' A (kc + mc') (ks + ms') Q (pc + 3, ls, r.toList ++ rest, σ')) : am_A p l e (am_rc d mc ms) s m args below meth c nL G A kc ks Q (pc, ls, st, σ) := by
  subst hst
  intro H locs la hW hL hF h1 h2 hl
  obtain ⟨y1, y2, y3, y4, hy⟩ := hy
  unfold am_yR at hy
  simp only [Bool.and_eq_true, decide_eq_true_eq] at hy
  obtain ⟨y5, y6, y7, y8⟩ := hy
  obtain ⟨hx, hb, hml, hown, hts, hpk, hU, hA⟩ := id X
  have hlive : ∀ v ∈ As.reverse ++ am_r o k i :: rest, am_lV G v := h2
  have hlv : am_lv G o k i := hlive (am_r o k i) (List.mem_append_right _ List.mem_cons_self)
  have hAl : ∀ v ∈ am_r o k i :: As, am_lV G v := am_lcons hlv fun v hv => hlive v (List.mem_append_left _ (List.mem_reverse.mpr hv))
  have hrest : ∀ v ∈ rest, am_lV G v := fun v hv => hlive v (List.mem_append_right _ (List.mem_cons_of_mem _ hv))
  have h0 := Nat.eq_of_beq_eq_true hcl.2
  have hk77 := (am_ok_lt hlv.2.1).2
  have hat := hW.1 o k i hlv
  rw [am_at0 h0] at hat
  obtain ⟨cell, q1, q2, q3, q4⟩ := hat
  have hfc := (hU.1.1 _ _ (am_cl_at hk77 h0)).2.1
  have hdd := Nat.le_of_ble_eq_true hd
  have hnn := Nat.le_of_ble_eq_true y8
  have hG : GoodIn am_tb (wsV own idx y.cls y (am_ws y cc' nL' ret')) := fun w hw => by
    unfold wsV am_ws at hw
    have : w ∈ am_tb := by
      rcases List.mem_append.mp hw with hw | hw
      · simp only [List.mem_cons, List.not_mem_nil, or_false] at hw
        rcases hw with rfl | rfl | rfl | rfl
        · exact hlk
        · exact y1
        · exact y2
        · exact y3
      · rcases List.mem_cons.mp hw with rfl | hw
        · exact y4
        · exact hw
    exact am_tb_good w this
  have hrun := va_runV (l := l) (e := e) (R := am_rc d mc ms) (below := below) (meth := meth) (H := H) (locs := locs) (cells := kc) (slots := ks) (As := As.map (am_v G)) (rest := rest.map (am_v G)) (g := F0 m pc la ((As.reverse ++ am_r o k i :: rest).map (am_v G))) ⟨hx, hb, hml, hown, hts⟩ (hM G H.size hAl) (cwV (C := y.cls) (R := am_rc d mc ms) n hts hG rfl rfl rfl ⟨rfl, y5, y6, y7⟩ ⟨hdd, by show 8 + (nL' + 11) + 40 * d' ≤ 40 * d; omega⟩)
    ⟨am_blindA, ⟨cell, q1, by rw [q3]; rfl, by rw [q2, hcl.1]; exact hfc⟩, fun U hU' hWU => ⟨rfl, by rw [hU'], hU.warm hWU, by rw [hU']; exact hW.alike hWU.alike⟩⟩ rfl (by rw [List.length_map]; exact hn) hl.1 am_rv (by show 2 * 0 + _ ≤ 8; rw [am_catsum]; have := Nat.le_of_ble_eq_true hsz; omega) (am_dea hc h) hkm
  intro T hT Xs
  obtain ⟨v, st₀, t, T', L, e0, X', hLL, e1, e2, ⟨G', hag, hcd, hfr, hv, hlv', hW', hz, hk⟩, st⟩ := hrun T hT Xs
  have hv2 : v = r.map (am_v G') := Outcome.returned.inj hv
  subst hv2
  rw [e0] at hz hk
  have hal : t.vm.Alike s.vm := by rw [← e2]; exact X'.warmed.alike.symm
  have hA' : ∀ q, am_fr G' q → A q := fun q hq => (hfr q hq).elim (hA q) fun z => hAs q (Nat.le_trans hF.1 z)
  obtain ⟨t2, a1, b1⟩ := kk G' hag ⟨hx, hb, hml, hown, hts, hpk, hag.U hcd hU, hA'⟩ T'.heap (locs ++ L) la (by rw [e1]; exact hW'.alike hal) (fun q hq => by
      rcases List.mem_append.mp hq with h | h
      · exact hL q h
      · exact (hLL q h).elim (hA _) fun z => hAs _ (Nat.le_trans hF.1 z)) ⟨by rw [e1]; exact Nat.le_trans hF.1 hz, fun q hs hq => by rw [e1, hk q (Nat.lt_of_lt_of_le hs hF.1) (fun z => hq (hA _ z))]; exact hF.2 q hs hq⟩ (fun q hq => hag.lV (h1 q hq)) (fun w hw => by
      rcases List.mem_append.mp hw with h | h
      · exact hlv' w (Option.mem_toList.mp h)
      · exact hag.lV (hrest w h)) (by show lv_has la nL (ls.map fun q => (q.1, am_v G' q.2)); rw [hag.mapL h1]; exact hl) T' rfl X'
  refine ⟨t2, st t2 ?_, b1⟩
  have e9 : (r.map (am_v G')).toList ++ rest.map (am_v G) = (r.toList ++ rest).map (am_v G') := by
    rw [← hag.map hrest]
    cases r <;> simp
  show Steps _ _ _ (T'.setTop { (F0 m pc la ((As.reverse ++ am_r o k i :: rest).map (am_v G))) with pc := pc + 3, stack := (r.map (am_v G')).toList ++ rest.map (am_v G) }) _
  rw [e9]
  exact a1
end AMN
/-! ===== fields that may be null ===== -/
section AMD
variable {p : Program} {l : Launch} {e : Env} {R : Room} {s : State} {m : MethodId} {args : Array Value} {below : List Frame} {meth : Method} {c : Code} {cc : ByteArray} {own : String} {nL : Nat} {P : am_P} {G : am_G} {A : Nat → Prop} {kc ks : Nat} {Q : State → Prop}
theorem am_fd40 : ∀ f, f < 48 → (am_fd 40 f).1 = 3 → (f = 26 ∧ am_fd 40 f = (3, 6, 40)) ∨ (f = 27 ∧ am_fd 40 f = (3, 7, 40)) := by decide +kernel
theorem am_getd {tb : List (Nat × Instr × Nat)} (hc : am_code cc tb = true) (X : am_X p s m args c cc own nL P G A) (a : Nat) {pc idx o f x : Nat} {ls : List (Nat × am_V)} {st : List am_V} {σ : am_S} (h : tb[a]? = some (pc, .getfield idx, 3)) (hlk : am_lk P.1 idx = some (40, f)) (hf : am_fd 40 f = (3, x, 40)) (hx67 : (f = 26 ∧ x = 6) ∨ (f = 27 ∧ x = 7)) (hok : am_ok x 40 = true)
    (k0 : σ.1 o 40 0 f = 0 → am_A p l e R s m args below meth c nL G A kc ks Q (pc + 3, ls, am_n :: st, σ)) (k1 : ¬ σ.1 o 40 0 f = 0 → am_A p l e R s m args below meth c nL G A kc ks Q (pc + 3, ls, am_r x 40 0 :: st, σ)) : am_A p l e R s m args below meth c nL G A kc ks Q (pc, ls, am_r o 40 0 :: st, σ) := by
  intro H locs la hW hL hF h1 h2 hl
  have hlv : am_lv G o 40 0 := (am_tl h2).1
  obtain ⟨hx, hb, -, hown, hts, -, hU, hA⟩ := id X
  have h0 : (am_kd 40).1 = 0 := by decide +kernel
  have hk77 : 40 < 77 := by decide
  have hat := hW.1 o 40 0 hlv
  rw [am_at0 h0] at hat
  obtain ⟨cell, q1, q2, q3, q4⟩ := hat
  have hf48 : f < 48 := by rcases hx67 with ⟨z, -⟩ | ⟨z, -⟩ <;> omega
  have hfn : f < (am_kd 40).2.1 := by
    have : (am_kd 40).2.1 = 48 := by decide +kernel
    omega
  have hcl := am_cl_at hk77 h0
  obtain ⟨hS, hfc, kC, hkC, hkind⟩ := hU.1.1 _ _ hcl
  have hfN : f < (am_cl 40).2.2 := by rw [am_cl_n 40 hk77 h0]; exact hfn
  obtain ⟨cf, kf, fi, fd, hi, hsl⟩ := hS f hfN
  have hownf := am_cl_own 40 hk77 h0 f hfn
  rw [hownf] at hi
  have hin : ∀ w ∈ u_ws (am_cl 40).1 (am_cl 40).2.1 (am_cl 40).2.2, w ∈ am_tb := am_lays _ (am_cl_lt 40 hk77 h0)
  have hlay := u_lays hts hin hfN
  rw [hownf] at hlay
  have key : ∀ v : am_V, am_fv G σ o 40 f = am_v G v → am_lV G v → am_A p l e R s m args below meth c nL G A kc ks Q (pc + 3, ls, v :: st, σ) → W p l e R s m args below meth c H locs kc ks Q (F0 m pc la ((am_r o 40 0 :: st).map (am_v G))) := by
    intro v hv hvl ka
    refine W.getf (v := am_v G v) hx hb hown (am_link X hlk) hi (u_facts hfc hkC hlay hi).1 q1 (by rw [q3]; exact fun h => by cases h) (by rw [hsl]; exact (q4 f hfn).trans (congrArg some hv)) rfl rfl (am_dea hc h) ?_
    exact ka H locs la hW hL hF h1 (am_lcons hvl (am_tl h2).2) hl
  have efv : am_fv G σ o 40 f = if σ.1 o 40 0 f = 0 then .null else .ref (am_ad G x 40 0) := by
    unfold am_fv
    rw [hf]
    rfl
  by_cases z : σ.1 o 40 0 f = 0
  · exact key am_n (by rw [efv, if_pos z]; rfl) trivial (k0 z)
  · have hd := hW.2.2.1.1 o hlv.1 hlv.2.1
    refine key (am_r x 40 0) (by rw [efv, if_neg z]; rfl) ⟨?_, hok, by decide +kernel⟩ (k1 z)
    rcases hx67 with ⟨rfl, rfl⟩ | ⟨rfl, rfl⟩
    · exact hd.1 z
    · exact hd.2 z
theorem am_nnR {tb : List (Nat × Instr × Nat)} (hc : am_code cc tb = true) (X : am_X p s m args c cc own nL P G A) (a : Nat) {pc tgt o k i : Nat} {off : Int} {ls : List (Nat × am_V)} {st : List am_V} {σ : am_S} (h : tb[a]? = some (pc, .ifnonnull off, 3)) (ht : (pc : Int) + off = (tgt : Int))
    (kk : am_A p l e R s m args below meth c nL G A kc ks Q (tgt, ls, st, σ)) : am_A p l e R s m args below meth c nL G A kc ks Q (pc, ls, am_r o k i :: st, σ) :=
  am_step0 (fun _ h2 => (am_tl h2).2) (fun H locs la _ k => lv_ifnonnull X.1 X.2.1 (am_dea hc h) ht k) kk
theorem am_nnN {tb : List (Nat × Instr × Nat)} (hc : am_code cc tb = true) (X : am_X p s m args c cc own nL P G A) (a : Nat) {pc : Nat} {off : Int} {ls : List (Nat × am_V)} {st : List am_V} {σ : am_S} (h : tb[a]? = some (pc, .ifnonnull off, 3))
    (kk : am_A p l e R s m args below meth c nL G A kc ks Q (pc + 3, ls, st, σ)) : am_A p l e R s m args below meth c nL G A kc ks Q (pc, ls, am_n :: st, σ) :=
  am_step0 (fun _ h2 => (am_tl h2).2) (fun H locs la _ k => lv_ifnonnullN X.1 X.2.1 (am_dea hc h) k) kk
end AMD
