section AML0
variable {p : Program} {l : Launch} {e : Env} {R : Room} {s : State} {m : MethodId} {args : Array Value} {below : List Frame} {meth : Method} {c : Code} {cc : ByteArray} {own : String} {nL : Nat} {P : am_P} {G G0 : am_G} {A : Nat → Prop} {kc ks : Nat} {Q : State → Prop}
theorem am_callVL {tb : List (Nat × Instr × Nat)} (hc : am_code cc tb = true) (a : Nat) {d' pc idx o k i nL' n : Nat} (X : am_X p s m args c cc own nL P G A) {y : MethodName} {cc' : ByteArray} {ret' : Option FieldType} {As rest st : List am_V} {ls : List (Nat × am_V)} {σ σ' : am_S} {r : Option am_V} (h : tb[a]? = some (pc, .invokevirtual idx, 3))
    (hM : am_M l y cc' nL' ret' d' (am_r o k i :: As) σ r σ') (hy : am_yV y cc' nL' ret' n) (hlk : Cond.methodLink own idx y ∈ am_tb) (hcl : y.cls = (am_cl k).1 ∧ Nat.beq (am_kd k).1 0 = true) (hd : d' + 1 ≤ R.frames ∧ 8 + 32 + 40 * d' ≤ R.locals) (hn : As.length = n) (hst : st = As.reverse ++ am_r o k i :: rest) (hsz : Nat.ble (am_sz rest) 8 = true) (hkm : kc ≤ R.cells ∧ ks ≤ R.slots)
    (kk : am_A p l e R s m args below meth c nL G A kc ks Q (pc + 3, ls, r.toList ++ rest, σ')) : am_A p l e R s m args below meth c nL G A kc ks Q (pc, ls, st, σ) := by
  subst hst
  intro H locs la hW hL hF h1 h2 hl
  obtain ⟨y1, y2, y3, y4, hy⟩ := hy
  unfold am_yR at hy
  simp only [Bool.and_eq_true, decide_eq_true_eq] at hy
  obtain ⟨y5, y6, y7, y8⟩ := hy
  obtain ⟨hx, hb, hml, hown, hts, -, hU, hA⟩ := id X
  have hlive : ∀ v ∈ As.reverse ++ am_r o k i :: rest, am_lV G v := h2
  have hlv : am_lv G o k i := hlive (am_r o k i) (List.mem_append_right _ List.mem_cons_self)
  have hAs : ∀ v ∈ am_r o k i :: As, am_lV G v := am_lcons hlv fun v hv => hlive v (List.mem_append_left _ (List.mem_reverse.mpr hv))
  have hrest : ∀ v ∈ rest, am_lV G v := fun v hv => hlive v (List.mem_append_right _ (List.mem_cons_of_mem _ hv))
  have h0 := Nat.eq_of_beq_eq_true hcl.2
  have hk77 := (am_ok_lt hlv.2.1).2
  have hat := hW.1 o k i hlv
  rw [am_at0 h0] at hat
  obtain ⟨cell, q1, q2, q3, q4⟩ := hat
  have hfc := (hU.1.1 _ _ (am_cl_at hk77 h0)).2.1
  have hdd := hd.1
  have hnn := Nat.le_of_ble_eq_true y8
  have hG : GoodIn am_tb (wsV own idx y.cls y (am_ws y cc' nL' ret')) := fun w hw => by
    unfold wsV am_ws at hw
    have : w ∈ am_tb := by
      rcases List.mem_append.mp hw with hw | hw
      · simp only [List.mem_cons, List.not_mem_nil, or_false] at hw
        rcases hw with rfl | rfl | rfl | rfl
        · exact hlk
        · exact y1
        · exact y2
        · exact y3
      · rcases List.mem_cons.mp hw with rfl | hw
        · exact y4
        · exact hw
    exact am_tb_good w this
  have hrun := va_runV (l := l) (e := e) (R := R) (below := below) (meth := meth) (H := H) (locs := locs) (cells := kc) (slots := ks) (As := As.map (am_v G)) (rest := rest.map (am_v G)) (g := F0 m pc la ((As.reverse ++ am_r o k i :: rest).map (am_v G))) ⟨hx, hb, hml, hown, hts⟩ (hM G hAs) (cwV (C := y.cls) (R := R) n hts hG rfl rfl rfl ⟨rfl, y5, y6, y7⟩ ⟨hdd, by have := hd.2; show 8 + (nL' + 11) + 40 * d' ≤ R.locals; omega⟩)
    ⟨am_blind, ⟨cell, q1, by rw [q3]; rfl, by rw [q2, hcl.1]; exact hfc⟩, fun U hU' hWU => ⟨rfl, hU.warm hWU, by rw [hU']; exact hW.alike hWU.alike⟩⟩ rfl (by rw [List.length_map]; exact hn) hl.1 am_rv (by show 2 * 0 + _ ≤ 8; rw [am_catsum]; have := Nat.le_of_ble_eq_true hsz; omega) (am_dea hc h) hkm
  exact am_goes hrun hA hL hF h1 hrest hl kk
/-- a call of a method that may make a group: behind it the map of addresses is another -/
theorem am_callAL {tb : List (Nat × Instr × Nat)} (hc : am_code cc tb = true) (a : Nat) {d' mc' ms' pc idx o k i nL' n : Nat} (X : am_X p s m args c cc own nL P G A) (hAs : ∀ q, s.heap.size ≤ q → A q) {y : MethodName} {cc' : ByteArray} {ret' : Option FieldType} {As rest st : List am_V} {ls : List (Nat × am_V)} {σ σ' : am_S} {r : Option am_V} (h : tb[a]? = some (pc, .invokevirtual idx, 3))
    (hM : am_N l y cc' nL' ret' d' mc' ms' (am_r o k i :: As) σ r σ') (hy : am_yV y cc' nL' ret' n) (hlk : Cond.methodLink own idx y ∈ am_tb) (hcl : y.cls = (am_cl k).1 ∧ Nat.beq (am_kd k).1 0 = true) (hd : d' + 1 ≤ R.frames ∧ 8 + 32 + 40 * d' ≤ R.locals) (hn : As.length = n) (hst : st = As.reverse ++ am_r o k i :: rest) (hsz : Nat.ble (am_sz rest) 8 = true) (hkm : kc + mc' ≤ R.cells ∧ ks + ms' ≤ R.slots)
    (kk : ∀ G' : am_G, am_ag G G' → am_X p s m args c cc own nL P G' A → am_A p l e R s m args below meth c nL G' A (kc + mc') (ks + ms') Q (pc + 3, ls, r.toList ++ rest, σ')) : am_A p l e R s m args below meth c nL G A kc ks Q (pc, ls, st, σ) := by
  subst hst
  intro H locs la hW hL hF h1 h2 hl
  obtain ⟨y1, y2, y3, y4, hy⟩ := hy
  unfold am_yR at hy
  simp only [Bool.and_eq_true, decide_eq_true_eq] at hy
  obtain ⟨y5, y6, y7, y8⟩ := hy
  obtain ⟨hx, hb, hml, hown, hts, hpk, hU, hA⟩ := id X
  have hlive : ∀ v ∈ As.reverse ++ am_r o k i :: rest, am_lV G v := h2
  have hlv : am_lv G o k i := hlive (am_r o k i) (List.mem_append_right _ List.mem_cons_self)
  have hAl : ∀ v ∈ am_r o k i :: As, am_lV G v := am_lcons hlv fun v hv => hlive v (List.mem_append_left _ (List.mem_reverse.mpr hv))
  have hrest : ∀ v ∈ rest, am_lV G v := fun v hv => hlive v (List.mem_append_right _ (List.mem_cons_of_mem _ hv))
  have h0 := Nat.eq_of_beq_eq_true hcl.2
  have hk77 := (am_ok_lt hlv.2.1).2
  have hat := hW.1 o k i hlv
  rw [am_at0 h0] at hat
  obtain ⟨cell, q1, q2, q3, q4⟩ := hat
  have hfc := (hU.1.1 _ _ (am_cl_at hk77 h0)).2.1
  have hdd := hd.1
  have hnn := Nat.le_of_ble_eq_true y8
  have hG : GoodIn am_tb (wsV own idx y.cls y (am_ws y cc' nL' ret')) := fun w hw => by
    unfold wsV am_ws at hw
    have : w ∈ am_tb := by
      rcases List.mem_append.mp hw with hw | hw
      · simp only [List.mem_cons, List.not_mem_nil, or_false] at hw
        rcases hw with rfl | rfl | rfl | rfl
        · exact hlk
        · exact y1
        · exact y2
        · exact y3
      · rcases List.mem_cons.mp hw with rfl | hw
        · exact y4
        · exact hw
    exact am_tb_good w this
  have hrun := va_runV (l := l) (e := e) (R := R) (below := below) (meth := meth) (H := H) (locs := locs) (cells := kc) (slots := ks) (As := As.map (am_v G)) (rest := rest.map (am_v G)) (g := F0 m pc la ((As.reverse ++ am_r o k i :: rest).map (am_v G))) ⟨hx, hb, hml, hown, hts⟩ (hM G H.size hAl) (cwV (C := y.cls) (R := R) n hts hG rfl rfl rfl ⟨rfl, y5, y6, y7⟩ ⟨hdd, by have := hd.2; show 8 + (nL' + 11) + 40 * d' ≤ R.locals; omega⟩)
    ⟨am_blindA, ⟨cell, q1, by rw [q3]; rfl, by rw [q2, hcl.1]; exact hfc⟩, fun U hU' hWU => ⟨rfl, by rw [hU'], hU.warm hWU, by rw [hU']; exact hW.alike hWU.alike⟩⟩ rfl (by rw [List.length_map]; exact hn) hl.1 am_rv (by show 2 * 0 + _ ≤ 8; rw [am_catsum]; have := Nat.le_of_ble_eq_true hsz; omega) (am_dea hc h) hkm
  intro T hT Xs
  obtain ⟨v, st₀, t, T', L, e0, X', hLL, e1, e2, ⟨G', hag, hcd, hfr, hv, hlv', hW', hz, hk⟩, st⟩ := hrun T hT Xs
  have hv2 : v = r.map (am_v G') := Outcome.returned.inj hv
  subst hv2
  rw [e0] at hz hk
  have hal : t.vm.Alike s.vm := by rw [← e2]; exact X'.warmed.alike.symm
  have hA' : ∀ q, am_fr G' q → A q := fun q hq => (hfr q hq).elim (hA q) fun z => hAs q (Nat.le_trans hF.1 z)
  obtain ⟨t2, a1, b1⟩ := kk G' hag ⟨hx, hb, hml, hown, hts, hpk, hag.U hcd hU, hA'⟩ T'.heap (locs ++ L) la (by rw [e1]; exact hW'.alike hal) (fun q hq => by
      rcases List.mem_append.mp hq with h | h
      · exact hL q h
      · exact (hLL q h).elim (hA _) fun z => hAs _ (Nat.le_trans hF.1 z)) ⟨by rw [e1]; exact Nat.le_trans hF.1 hz, fun q hs hq => by rw [e1, hk q (Nat.lt_of_lt_of_le hs hF.1) (fun z => hq (hA _ z))]; exact hF.2 q hs hq⟩ (fun q hq => hag.lV (h1 q hq)) (fun w hw => by
      rcases List.mem_append.mp hw with h | h
      · exact hlv' w (Option.mem_toList.mp h)
      · exact hag.lV (hrest w h)) (by show lv_has la nL (ls.map fun q => (q.1, am_v G' q.2)); rw [hag.mapL h1]; exact hl) T' rfl X'
  refine ⟨t2, st t2 ?_, b1⟩
  have e9 : (r.map (am_v G')).toList ++ rest.map (am_v G) = (r.toList ++ rest).map (am_v G') := by
    rw [← hag.map hrest]
    cases r <;> simp
  show Steps _ _ _ (T'.setTop { (F0 m pc la ((As.reverse ++ am_r o k i :: rest).map (am_v G))) with pc := pc + 3, stack := (r.map (am_v G')).toList ++ rest.map (am_v G) }) _
  rw [e9]
  exact a1
/-- a new object, before its constructor -/
theorem am_newWL (X : am_X p s m args c cc own nL P G A) {pc idx y N : Nat} {C : String} (hy : y < 77 ∧ (am_kd y).1 = 0 ∧ (am_kd y).2.1 = N ∧ (am_cl y).1 = C) (w1 : Cond.classLink own idx C ∈ am_tb) (w2 : Cond.instantiable C N ∈ am_tb) (w3 : Cond.initialized C ∈ am_tb) (hd : decode cc pc = .ok (.new idx, 3)) (hkm : kc + 1 ≤ R.cells ∧ ks + N ≤ R.slots) {H : Heap} {locs : List Loc} {la : Array Slot} {rest : List Value}
    (kk : ∀ H' : Heap, am_OB G y H.size H' (am_df y) → H'.size = H.size + 1 → (∀ q, q < H.size → H'[q]? = H[q]?) → W p l e R s m args below meth c H' locs (kc + 1) (ks + N) Q (F0 m (pc + 3) la (.ref H.size :: rest))) : W p l e R s m args below meth c H locs kc ks Q (F0 m pc la rest) := by
  obtain ⟨hx, hb, -, hown, hts, -, hU, -⟩ := id X
  obtain ⟨y1, y2, y3, y4⟩ := hy
  have hcl := am_cl_at y1 y2
  have hKn := hU.1.1 _ _ hcl
  have hfc := hKn.2.1
  refine W.newcK hx hb hown (hts _ w1) (hts _ w2) (hts _ w3) (g := F0 m pc la rest) rfl hd hkm.1 hkm.2 (by rw [← y4]; exact hfc) rfl fun H' kC e1 e2 e3 e4 => ?_
  refine kk H' ?_ e3 e4
  have hin' : ∀ w ∈ u_ws (am_cl y).1 (am_cl y).2.1 (am_cl y).2.2, w ∈ am_tb := am_lays _ (am_cl_lt y y1 y2)
  have hn := am_cl_n y y1 y2
  have hb2 := u_born (o := H.size) (H := H') (fun f => (parseFieldDescriptor ((am_cl y).2.1 f).2.2.1).getD .int) hts hin' hKn e1 e2 (fun f hf => am_pfs y y1 y2 f (by rw [hn] at hf; exact hf))
  unfold am_OB
  rw [hn] at hb2
  exact t_OB.to hb2 fun f hf => am_dfv y y1 y2 f hf
end AML0
/-! ===== the law: its script, its calls ===== -/
def RL : String := "SundayIsAPlaceLaw"
def am_pL : am_P := ([], [], [], [(18, 4294967295)])
set_option maxRecDepth 100000 in
theorem am_pL_ok : am_pok RL am_pL = true := by decide +kernel
theorem lw_cmp (r : Int64) : lg_cmp r r = 0 := by
  unfold lg_cmp
  rw [if_neg (by simp [Int64.lt_irrefl]), if_pos rfl]
theorem lw_in {j L : Nat} (h : j < L) (hL : L ≤ 3072) : vp_in (nI j) L := nI_in h (by omega)
section AMLW
variable {p : Program} {l : Launch} {e : Env} {s : State} {m : MethodId} {below : List Frame} {meth : Method} {c : Code} {b L : Nat} {xs : Nat → Int32} {G : am_G} {kc ks : Nat} {Q : State → Prop} {tb : List (Nat × Instr × Nat)}
/-- an element of the script on the stack -/
theorem am_sel (hc : am_code code tb = true) (X : am_X p s m #[Value.ref b] c code RL 4 am_pL G (fun q => s.heap.size ≤ q)) (hb18 : am_ad G 18 38 0 = b) (hX : va_X b L xs s s.heap) (hbl : b < s.heap.size) (hL : L ≤ 3072) (j : Nat) {pc n : Nat} {x : Int32} {ls : List (Nat × am_V)} {st : List am_V} {σ : am_S} (t : tb[j]? = some (pc, .iaload, 1)) (hx : x = nI n) (hn : n < L)
    (kk : am_A p l e room_1 s m #[Value.ref b] below meth c 4 G (fun q => s.heap.size ≤ q) kc ks Q (pc + 1, ls, am_i (xs n) :: st, σ)) : am_A p l e room_1 s m #[Value.ref b] below meth c 4 G (fun q => s.heap.size ≤ q) kc ks Q (pc, ls, am_i x :: am_r 18 38 0 :: st, σ) := by
  subst hx
  intro H locs la hW hLo hF h1 h2 hl
  obtain ⟨scr, e1, e2, e3, e4, e5⟩ := hX
  have hcl : (nI n).toNatClampNeg = n := nI_clamp (by omega)
  refine W.iald (v := .int (xs n)) X.1 X.2.1 (a := am_ad G 18 38 0) (cell := scr) (by rw [hb18, hF.2 b hbl (Nat.not_le.mpr hbl)]; exact e1) e2 e3 (by rw [e4]; exact lw_in hn hL) (by rw [hcl]; exact e5 n hn) rfl rfl (am_dea hc t) ?_
  exact kk H locs la hW hLo hF h1 (am_lcons (v := .inl _) trivial (am_tl (am_tl h2).2).2) hl
theorem am_scr (hc : am_code code tb = true) (X : am_X p s m #[Value.ref b] c code RL 4 am_pL G (fun q => s.heap.size ≤ q)) (hb18 : am_ad G 18 38 0 = b) (hX : va_X b L xs s s.heap) (hbl : b < s.heap.size) (hL : L ≤ 3072) (j : Nat) {pc n k : Nat} {z : Int} {st : List am_V} {σ : am_S} (t0 : tb[j]? = some (pc, .aload_n 0, 1)) (t1 : tb[j + 1]? = some (pc + 1, .iload_n 3, 1)) (t2 : tb[j + 2]? = some (pc + 2, .iconst z, 1)) (t3 : tb[j + 3]? = some (pc + 3, .iadd, 1)) (t4 : tb[j + 4]? = some (pc + 4, .iaload, 1)) (hz : Int32.ofInt z = nI k) (hn : n + k < L)
    (kk : am_A p l e room_1 s m #[Value.ref b] below meth c 4 G (fun q => s.heap.size ≤ q) kc ks Q (pc + 5, [(0, am_r 18 38 0), (1, am_r 0 0 0), (2, am_r 5 40 0), (3, am_i (nI n))], am_i (xs (n + k)) :: st, σ)) : am_A p l e room_1 s m #[Value.ref b] below meth c 4 G (fun q => s.heap.size ≤ q) kc ks Q (pc, [(0, am_r 18 38 0), (1, am_r 0 0 0), (2, am_r 5 40 0), (3, am_i (nI n))], st, σ) := by
  have k1 := am_sel hc X hb18 hX hbl hL (j + 4) (x := nI n + Int32.ofInt z) t4 (by rw [hz, nI_add]) hn kk
  intro H locs la hW hLo hF h1 h2 hl
  have hl' : lv_has la 4 [(0, .ref (am_ad G 18 38 0)), (1, .ref (am_ad G 0 0 0)), (2, .ref (am_ad G 5 40 0)), (3, .int (nI n))] := hl
  refine lv_aload_n X.1 X.2.1 (am_dea hc t0) rfl (lv_at hl' 0 rfl) ?_
  refine lv_iload_n X.1 X.2.1 (am_dea hc t1) rfl (lv_at hl' 3 rfl) ?_
  refine lv_iconst X.1 X.2.1 (am_dea hc t2) rfl ?_
  refine lv_iadd X.1 X.2.1 (am_dea hc t3) ?_
  exact k1 H locs la hW hLo hF h1 (am_lcons (v := .inl _) trivial (am_lcons (v := am_r 18 38 0) (h1 (0, am_r 18 38 0) List.mem_cons_self) h2)) hl
end AMLW
set_option maxRecDepth 100000 in
theorem ml_L_13 : Cond.methodLink RL 13 yX7_row ∈ am_tb := (am_pl 310 (by decide +kernel) rfl)
set_option maxRecDepth 100000 in
theorem ml_L_17 : Cond.methodLink RL 17 yX8_row ∈ am_tb := (am_pl 1109 (by decide +kernel) rfl)
set_option maxRecDepth 100000 in
theorem ml_L_20 : Cond.methodLink RL 20 yX7_set ∈ am_tb := (am_pl 331 (by decide +kernel) rfl)
set_option maxRecDepth 100000 in
theorem ml_L_24 : Cond.methodLink RL 24 yX8_set ∈ am_tb := (am_pl 1123 (by decide +kernel) rfl)
set_option maxRecDepth 100000 in
theorem ml_L_25 : Cond.methodLink RL 25 yX7_copy ∈ am_tb := (am_pl 356 (by decide +kernel) rfl)
set_option maxRecDepth 100000 in
theorem ml_L_29 : Cond.methodLink RL 29 yX8_copy ∈ am_tb := (am_pl 1134 (by decide +kernel) rfl)
set_option maxRecDepth 100000 in
theorem ml_L_30 : Cond.methodLink RL 30 yX7_element ∈ am_tb := (am_pl 377 (by decide +kernel) rfl)
set_option maxRecDepth 100000 in
theorem ml_L_34 : Cond.methodLink RL 34 yX8_element ∈ am_tb := (am_pl 1138 (by decide +kernel) rfl)
set_option maxRecDepth 100000 in
theorem ml_L_35 : Cond.methodLink RL 35 yX7_holds ∈ am_tb := (am_pl 385 (by decide +kernel) rfl)
set_option maxRecDepth 100000 in
theorem ml_L_39 : Cond.methodLink RL 39 yX8_holds ∈ am_tb := (am_pl 1142 (by decide +kernel) rfl)
set_option maxRecDepth 100000 in
theorem ml_L_40 : Cond.methodLink RL 40 yX7_show ∈ am_tb := (am_pl 389 (by decide +kernel) rfl)
set_option maxRecDepth 100000 in
theorem ml_L_44 : Cond.methodLink RL 44 yX8_show ∈ am_tb := (am_pl 1146 (by decide +kernel) rfl)
set_option maxRecDepth 100000 in
theorem ml_L_45 : Cond.methodLink RL 45 yX7_says ∈ am_tb := (am_pl 397 (by decide +kernel) rfl)
set_option maxRecDepth 100000 in
theorem ml_L_48 : Cond.methodLink RL 48 yX8_says ∈ am_tb := (am_pl 1154 (by decide +kernel) rfl)
set_option maxRecDepth 100000 in
theorem ml_L_49 : Cond.methodLink RL 49 yX7_ask ∈ am_tb := (am_pl 427 (by decide +kernel) rfl)
set_option maxRecDepth 100000 in
theorem ml_L_52 : Cond.methodLink RL 52 yX8_ask ∈ am_tb := (am_pl 1174 (by decide +kernel) rfl)
set_option maxRecDepth 100000 in
theorem ml_L_53 : Cond.methodLink RL 53 yX7_pass ∈ am_tb := (am_pl 435 (by decide +kernel) rfl)
set_option maxRecDepth 100000 in
theorem ml_L_57 : Cond.methodLink RL 57 yX8_pass ∈ am_tb := (am_pl 1185 (by decide +kernel) rfl)
set_option maxRecDepth 100000 in
theorem ml_L_58 : Cond.methodLink RL 58 yX7_person ∈ am_tb := (am_pl 443 (by decide +kernel) rfl)
set_option maxRecDepth 100000 in
theorem ml_L_61 : Cond.methodLink RL 61 yX8_person ∈ am_tb := (am_pl 1193 (by decide +kernel) rfl)
set_option maxRecDepth 100000 in
theorem ml_L_62 : Cond.methodLink RL 62 yX7_duty ∈ am_tb := (am_pl 451 (by decide +kernel) rfl)
set_option maxRecDepth 100000 in
theorem ml_L_66 : Cond.methodLink RL 66 yX8_duty ∈ am_tb := (am_pl 1201 (by decide +kernel) rfl)
set_option maxRecDepth 100000 in
theorem ml_L_67 : Cond.methodLink RL 67 yX7_tell ∈ am_tb := (am_pl 455 (by decide +kernel) rfl)
set_option maxRecDepth 100000 in
theorem ml_L_70 : Cond.methodLink RL 70 yX8_tell ∈ am_tb := (am_pl 1205 (by decide +kernel) rfl)
set_option maxRecDepth 100000 in
theorem ml_L_71 : Cond.methodLink RL 71 yX7_feed ∈ am_tb := (am_pl 485 (by decide +kernel) rfl)
set_option maxRecDepth 100000 in
theorem ml_L_74 : Cond.methodLink RL 74 yX8_feed ∈ am_tb := (am_pl 1210 (by decide +kernel) rfl)
set_option maxRecDepth 100000 in
theorem ml_L_75 : Cond.methodLink RL 75 yX7_wipe ∈ am_tb := (am_pl 493 (by decide +kernel) rfl)
set_option maxRecDepth 100000 in
theorem ml_L_79 : Cond.methodLink RL 79 yX8_wipe ∈ am_tb := (am_pl 1215 (by decide +kernel) rfl)
set_option maxRecDepth 100000 in
theorem ml_L_80 : Cond.methodLink RL 80 yX7_land ∈ am_tb := (am_pl 497 (by decide +kernel) rfl)
set_option maxRecDepth 100000 in
theorem ml_L_83 : Cond.methodLink RL 83 yX8_land ∈ am_tb := (am_pl 1219 (by decide +kernel) rfl)
set_option maxRecDepth 100000 in
theorem ml_L_84 : Cond.methodLink RL 84 yX7_valleyOf ∈ am_tb := (am_pl 465 (by decide +kernel) rfl)
set_option maxRecDepth 100000 in
theorem ml_L_87 : Cond.methodLink RL 87 yX8_valleyOf ∈ am_tb := (am_pl 1301 (by decide +kernel) rfl)
set_option maxRecDepth 100000 in
theorem ml_L_88 : Cond.methodLink RL 88 yX7_passOf ∈ am_tb := (am_pl 473 (by decide +kernel) rfl)
set_option maxRecDepth 100000 in
theorem ml_L_91 : Cond.methodLink RL 91 yX8_passOf ∈ am_tb := (am_pl 1310 (by decide +kernel) rfl)
set_option maxRecDepth 100000 in
theorem ml_L_92 : Cond.methodLink RL 92 yX7_personOf ∈ am_tb := (am_pl 481 (by decide +kernel) rfl)
set_option maxRecDepth 100000 in
theorem ml_L_95 : Cond.methodLink RL 95 yX8_personOf ∈ am_tb := (am_pl 1314 (by decide +kernel) rfl)
set_option maxRecDepth 100000 in
theorem ml_L_96 : Cond.methodLink RL 96 yX7_price ∈ am_tb := (am_pl 618 (by decide +kernel) rfl)
set_option maxRecDepth 100000 in
theorem ml_L_99 : Cond.methodLink RL 99 yX8_price ∈ am_tb := (am_pl 1318 (by decide +kernel) rfl)
set_option maxRecDepth 100000 in
theorem ml_L_100 : Cond.methodLink RL 100 yX7_way ∈ am_tb := (am_pl 626 (by decide +kernel) rfl)
set_option maxRecDepth 100000 in
theorem ml_L_103 : Cond.methodLink RL 103 yX8_way ∈ am_tb := (am_pl 1322 (by decide +kernel) rfl)
set_option maxRecDepth 100000 in
theorem ml_L_104 : Cond.methodLink RL 104 yX7_tour ∈ am_tb := (am_pl 661 (by decide +kernel) rfl)
set_option maxRecDepth 100000 in
theorem ml_L_107 : Cond.methodLink RL 107 yX8_tour ∈ am_tb := (am_pl 1364 (by decide +kernel) rfl)
set_option maxRecDepth 100000 in
theorem ml_L_108 : Cond.methodLink RL 108 yX7_route ∈ am_tb := (am_pl 689 (by decide +kernel) rfl)
set_option maxRecDepth 100000 in
theorem ml_L_111 : Cond.methodLink RL 111 yX8_route ∈ am_tb := (am_pl 1344 (by decide +kernel) rfl)
set_option maxRecDepth 100000 in
theorem ml_L_112 : Cond.methodLink RL 112 yX7_tourOf ∈ am_tb := (am_pl 703 (by decide +kernel) rfl)
set_option maxRecDepth 100000 in
theorem ml_L_115 : Cond.methodLink RL 115 yX8_tourOf ∈ am_tb := (am_pl 1380 (by decide +kernel) rfl)
set_option maxRecDepth 100000 in
theorem ml_L_116 : Cond.methodLink RL 116 yX7_saved ∈ am_tb := (am_pl 716 (by decide +kernel) rfl)
set_option maxRecDepth 100000 in
theorem ml_L_119 : Cond.methodLink RL 119 yX8_saved ∈ am_tb := (am_pl 1384 (by decide +kernel) rfl)
set_option maxRecDepth 100000 in
theorem ml_L_120 : Cond.methodLink RL 120 yX7_bestPass ∈ am_tb := (am_pl 724 (by decide +kernel) rfl)
set_option maxRecDepth 100000 in
theorem ml_L_123 : Cond.methodLink RL 123 yX8_bestPass ∈ am_tb := (am_pl 1392 (by decide +kernel) rfl)
set_option maxRecDepth 100000 in
theorem ml_L_124 : Cond.methodLink RL 124 yX7_first ∈ am_tb := (am_pl 728 (by decide +kernel) rfl)
set_option maxRecDepth 100000 in
theorem ml_L_127 : Cond.methodLink RL 127 yX8_first ∈ am_tb := (am_pl 1400 (by decide +kernel) rfl)
set_option maxRecDepth 100000 in
theorem ml_L_128 : Cond.methodLink RL 128 yX7_works ∈ am_tb := (am_pl 732 (by decide +kernel) rfl)
set_option maxRecDepth 100000 in
theorem ml_L_131 : Cond.methodLink RL 131 yX8_works ∈ am_tb := (am_pl 1396 (by decide +kernel) rfl)
set_option maxRecDepth 100000 in
theorem ml_L_132 : Cond.methodLink RL 132 yX7_steps ∈ am_tb := (am_pl 740 (by decide +kernel) rfl)
set_option maxRecDepth 100000 in
theorem ml_L_135 : Cond.methodLink RL 135 yX8_steps ∈ am_tb := (am_pl 1340 (by decide +kernel) rfl)
set_option maxRecDepth 100000 in
theorem ml_L_136 : Cond.methodLink RL 136 yX7_within ∈ am_tb := (am_pl 744 (by decide +kernel) rfl)
set_option maxRecDepth 100000 in
theorem ml_L_139 : Cond.methodLink RL 139 yX8_within ∈ am_tb := (am_pl 1348 (by decide +kernel) rfl)
set_option maxRecDepth 100000 in
theorem ml_L_140 : Cond.methodLink RL 140 yX7_crowd ∈ am_tb := (am_pl 748 (by decide +kernel) rfl)
set_option maxRecDepth 100000 in
theorem ml_L_143 : Cond.methodLink RL 143 yX8_crowd ∈ am_tb := (am_pl 1408 (by decide +kernel) rfl)
set_option maxRecDepth 100000 in
theorem ml_L_144 : Cond.methodLink RL 144 yX7_ring ∈ am_tb := (am_pl 752 (by decide +kernel) rfl)
set_option maxRecDepth 100000 in
theorem ml_L_147 : Cond.methodLink RL 147 yX8_ring ∈ am_tb := (am_pl 1356 (by decide +kernel) rfl)
set_option maxRecDepth 100000 in
theorem ml_L_148 : Cond.methodLink RL 148 yX7_dearest ∈ am_tb := (am_pl 756 (by decide +kernel) rfl)
set_option maxRecDepth 100000 in
theorem ml_L_151 : Cond.methodLink RL 151 yX8_dearest ∈ am_tb := (am_pl 1360 (by decide +kernel) rfl)
set_option maxRecDepth 100000 in
theorem ml_L_152 : Cond.methodLink RL 152 yX7_alike ∈ am_tb := (am_pl 760 (by decide +kernel) rfl)
set_option maxRecDepth 100000 in
theorem ml_L_155 : Cond.methodLink RL 155 yX8_alike ∈ am_tb := (am_pl 1352 (by decide +kernel) rfl)
set_option maxRecDepth 100000 in
theorem ml_L_156 : Cond.methodLink RL 156 yX7_homes ∈ am_tb := (am_pl 764 (by decide +kernel) rfl)
set_option maxRecDepth 100000 in
theorem ml_L_159 : Cond.methodLink RL 159 yX8_homes ∈ am_tb := (am_pl 1412 (by decide +kernel) rfl)
set_option maxRecDepth 100000 in
theorem ml_L_160 : Cond.methodLink RL 160 yX7_market ∈ am_tb := (am_pl 787 (by decide +kernel) rfl)
set_option maxRecDepth 100000 in
theorem ml_L_163 : Cond.methodLink RL 163 yX8_market ∈ am_tb := (am_pl 1421 (by decide +kernel) rfl)
set_option maxRecDepth 100000 in
theorem ml_L_164 : Cond.methodLink RL 164 yX7_meet ∈ am_tb := (am_pl 796 (by decide +kernel) rfl)
set_option maxRecDepth 100000 in
theorem ml_L_167 : Cond.methodLink RL 167 yX8_meet ∈ am_tb := (am_pl 1429 (by decide +kernel) rfl)
set_option maxRecDepth 100000 in
theorem ml_L_168 : Cond.methodLink RL 168 yX7_journeys ∈ am_tb := (am_pl 800 (by decide +kernel) rfl)
set_option maxRecDepth 100000 in
theorem ml_L_171 : Cond.methodLink RL 171 yX8_journeys ∈ am_tb := (am_pl 1433 (by decide +kernel) rfl)
set_option maxRecDepth 100000 in
theorem ml_L_172 : Cond.methodLink RL 172 yX7_judge ∈ am_tb := (am_pl 848 (by decide +kernel) rfl)
set_option maxRecDepth 100000 in
theorem ml_L_175 : Cond.methodLink RL 175 yX8_judge ∈ am_tb := (am_pl 1461 (by decide +kernel) rfl)
set_option maxRecDepth 100000 in
theorem ml_L_176 : Cond.methodLink RL 176 yX7_behind ∈ am_tb := (am_pl 883 (by decide +kernel) rfl)
set_option maxRecDepth 100000 in
theorem ml_L_179 : Cond.methodLink RL 179 yX8_behind ∈ am_tb := (am_pl 1481 (by decide +kernel) rfl)
set_option maxRecDepth 100000 in
theorem ml_L_180 : Cond.methodLink RL 180 yX7_done ∈ am_tb := (am_pl 891 (by decide +kernel) rfl)
set_option maxRecDepth 100000 in
theorem ml_L_183 : Cond.methodLink RL 183 yX8_done ∈ am_tb := (am_pl 1485 (by decide +kernel) rfl)
set_option maxRecDepth 100000 in
theorem ml_L_184 : Cond.methodLink RL 184 yX7_longest ∈ am_tb := (am_pl 896 (by decide +kernel) rfl)
set_option maxRecDepth 100000 in
theorem ml_L_187 : Cond.methodLink RL 187 yX8_longest ∈ am_tb := (am_pl 1489 (by decide +kernel) rfl)
set_option maxRecDepth 100000 in
theorem ml_L_188 : Cond.methodLink RL 188 yX7_act ∈ am_tb := (am_pl 900 (by decide +kernel) rfl)
set_option maxRecDepth 100000 in
theorem ml_L_191 : Cond.methodLink RL 191 yX8_act ∈ am_tb := (am_pl 1493 (by decide +kernel) rfl)
set_option maxRecDepth 100000 in
theorem ml_L_192 : Cond.methodLink RL 192 yX7_weeks ∈ am_tb := (am_pl 911 (by decide +kernel) rfl)
set_option maxRecDepth 100000 in
theorem ml_L_195 : Cond.methodLink RL 195 yX8_weeks ∈ am_tb := (am_pl 1497 (by decide +kernel) rfl)
set_option maxRecDepth 100000 in
theorem ml_L_196 : Cond.methodLink RL 196 yX7_seed ∈ am_tb := (am_pl 925 (by decide +kernel) rfl)
set_option maxRecDepth 100000 in
theorem ml_L_199 : Cond.methodLink RL 199 yX8_seed ∈ am_tb := (am_pl 1507 (by decide +kernel) rfl)
set_option maxRecDepth 100000 in
theorem ml_L_200 : Cond.methodLink RL 200 yX7_image ∈ am_tb := (am_pl 929 (by decide +kernel) rfl)
set_option maxRecDepth 100000 in
theorem ml_L_203 : Cond.methodLink RL 203 yX8_image ∈ am_tb := (am_pl 1511 (by decide +kernel) rfl)
set_option maxRecDepth 100000 in
theorem ml_L_204 : Cond.methodLink RL 204 yX7_back ∈ am_tb := (am_pl 933 (by decide +kernel) rfl)
set_option maxRecDepth 100000 in
theorem ml_L_207 : Cond.methodLink RL 207 yX8_back ∈ am_tb := (am_pl 1515 (by decide +kernel) rfl)
set_option maxRecDepth 100000 in
theorem ml_L_208 : Cond.methodLink RL 208 yX7_status ∈ am_tb := (am_pl 941 (by decide +kernel) rfl)
set_option maxRecDepth 100000 in
theorem ml_L_211 : Cond.methodLink RL 211 yX8_status ∈ am_tb := (am_pl 1519 (by decide +kernel) rfl)
