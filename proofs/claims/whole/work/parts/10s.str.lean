/-! ===== texts: checkIndex, calls on a text, answers that are chars, bytes or texts ===== -/
theorem dJ3_0 : decode cJ3_checkIndex_8e157 0 = .ok (.iload_n 0, 1) := by decide +kernel
theorem dJ3_1 : decode cJ3_checkIndex_8e157 1 = .ok (.ifCond .lt 8, 3) := by decide +kernel
theorem dJ3_4 : decode cJ3_checkIndex_8e157 4 = .ok (.iload_n 0, 1) := by decide +kernel
theorem dJ3_5 : decode cJ3_checkIndex_8e157 5 = .ok (.iload_n 1, 1) := by decide +kernel
theorem dJ3_6 : decode cJ3_checkIndex_8e157 6 = .ok (.if_icmp .lt 10, 3) := by decide +kernel
theorem dJ3_16 : decode cJ3_checkIndex_8e157 16 = .ok (.iload_n 0, 1) := by decide +kernel
theorem dJ3_17 : decode cJ3_checkIndex_8e157 17 = .ok (.ireturn, 1) := by decide +kernel
def am_Q3 (i : Int32) : Array Value → State → Outcome → State → Prop := fun _ st o t => o = .returned (some (.int i)) ∧ t.heap = st.heap
set_option maxRecDepth 100000 in
/-- Preconditions.checkIndex within: whatever the third argument is -/
theorem am_J3 (l : Launch) (i n : Int32) (v : Value) (hv : v.category = 1) (h0 : ¬ i < 0) (h1 : i < n) : Met l yJ3_checkIndex_8e157 (am_ws yJ3_checkIndex_8e157 cJ3_checkIndex_8e157 3 (some .int)) (am_ro 0) (va_Pc [.int i, .int n, v] (fun _ => True)) (am_Q3 i) 0 0 (fun _ => False) := by
  refine Met.ofW (cc := cJ3_checkIndex_8e157) (maxL := 3) (ret := some .int) (by decide +kernel) rfl ?_
  intro p e s m args below meth c s₁ B hml hp
  obtain ⟨rfl, -⟩ := hp
  have hx := B.exec
  have hb := B.bytes
  have hr := B.returns
  have hlocks := B.notSynchronized
  have e9 : lg_sl [Value.int i, Value.int n, v] = [Slot.val (.int i), Slot.val (.int n), Slot.val v] := by
    cases v <;> first | rfl | exact absurd hv (by show ¬ (2 = 1); decide)
  have hlen : (lg_sl [.int i, .int n, v]).length ≤ 3 := by rw [e9]; exact Nat.le_refl _
  have hl := lv_entry ([.int i, .int n, v]) (n := 3) hlen
  rw [lg_entry_eq]
  generalize (lg_sl ([.int i, .int n, v]) ++ List.replicate (3 - (lg_sl ([.int i, .int n, v])).length) Slot.unset).toArray = ls at hl ⊢
  have hl : lv_has ls 3 [(0, .int i), (1, .int n), (2, v)] := hl
  refine lv_iload_n hx hb dJ3_0 rfl (lv_at hl 0 rfl) ?_
  refine lv_if_lt (tgt := 9) hx hb dJ3_1 (by decide) (fun z => absurd z h0) (fun _ => ?_)
  refine lv_iload_n hx hb dJ3_4 rfl (lv_at hl 0 rfl) ?_
  refine lv_iload_n hx hb dJ3_5 rfl (lv_at hl 1 rfl) ?_
  refine lv_icmp_lt (tgt := 16) hx hb dJ3_6 (by decide) (fun _ => ?_) (fun z => absurd h1 z)
  refine lv_iload_n hx hb dJ3_16 rfl (lv_at hl 0 rfl) ?_
  exact W.iret (v := i) hx hb hr (fun t ht hW => ⟨rfl, ht⟩) (fun q hq => by cases hq) dJ3_17
def tb_ix : List (Nat × Instr × Nat) := [(0, .iload_n 0, 1), (1, .iload_n 1, 1), (2, .getstatic 1053, 3), (5, .invokestatic 1059, 3), (8, .pop, 1), (9, .return_, 1)]
theorem ct_ix : am_code cJ0_checkIndex_df160 tb_ix = true := by decide +kernel
def fn_J0_checkIndex_df160 (a0 a1 : Int32) (σ : am_S) : Option am_S := if ¬ a0 < 0 ∧ a0 < a1 then some σ else none
set_option maxRecDepth 100000 in
theorem ok_J0_checkIndex_df160 (l : Launch) (a0 a1 : Int32) (σ : am_S) {q : am_S} (h : fn_J0_checkIndex_df160 a0 a1 σ = some q) : am_M l yJ0_checkIndex_df160 cJ0_checkIndex_df160 2 none 1 [am_i a0, am_i a1] σ none q := by
  refine am_M_of (P := am_pJ) (by decide +kernel) am_pJ_ok rfl ?_
  intro G p e s m args below meth c X hr
  unfold fn_J0_checkIndex_df160 at h
  obtain ⟨⟨h0, h1⟩, h⟩ := am_ct2 h
  obtain rfl := Option.some.inj h
  have hc := ct_ix
  refine am_blk hc X 0 2 (fr' := (2, [(0, am_i a0), (1, am_i a1)], [am_i a1, am_i a0], σ)) rfl ⟨trivial, trivial, trivial⟩ ?_
  have kA : am_A p l e (am_ro 1) s m args below meth c 2 G (am_fr G) 0 0 (MQ below (am_Qc G none σ) args s 0 0 (am_fr G)) (8, [(0, am_i a0), (1, am_i a1)], [am_i a0], σ) := by
    refine am_blk hc X 4 1 (fr' := (9, [(0, am_i a0), (1, am_i a1)], [], σ)) rfl ⟨trivial, trivial⟩ ?_
    exact am_vret hc X hr 5 rfl rfl rfl
  intro H locs la hW hL hF h2 h3 hl
  obtain ⟨hx, hb, hml, hown, hts, hp, hU, hA⟩ := id X
  have hZq := hW.2.2.2.2.2.2.1
  have key : ∀ v : Value, v.category = 1 → va_Z "jdk/internal/util/Preconditions" "SIOOBE_FORMATTER" "Ljava/util/function/BiFunction;" v (am_zf G) s H → W p l e (am_ro 1) s m args below meth c H locs 0 0 (MQ below (am_Qc G none σ) args s 0 0 (am_fr G)) (F0 m 2 la [.int a1, .int a0]) := by
    intro v hv hZ
    obtain ⟨cf, kf, fi, f, a, cell, g1, g2, g3, g4, g5, g6, g7, g8⟩ := hZ
    refine W.gets hx hb hown (hts _ am_ixl) g1 g2 g3 g4 g5 (fun e => by rw [e] at g6; cases g6) g7 rfl (am_dea (a := 2) hc rfl) ?_
    have hG : GoodIn am_tb (va_wsS yJ0_checkIndex_df160.cls 1059 yJ3_checkIndex_8e157 (am_ws yJ3_checkIndex_8e157 cJ3_checkIndex_8e157 3 (some .int))) := fun w hw => by
      unfold va_wsS am_ws at hw
      obtain ⟨y1, y3, y4, hy⟩ := yv_J3_checkIndex_8e157
      have : w ∈ am_tb := by
        rcases List.mem_append.mp hw with hw | hw
        · simp only [List.mem_cons, List.not_mem_nil, or_false] at hw
          rcases hw with rfl | rfl | rfl
          · exact ml_J0_1059
          · exact y1
          · exact y3
        · rcases List.mem_cons.mp hw with rfl | hw
          · exact y4
          · exact hw
      exact am_tb_good w this
    have hrun := va_runS (l := l) (e := e) (R := am_ro 1) (below := below) (meth := meth) (H := H) (locs := locs) (cells := 0) (slots := 0) (As := [.int a0, .int a1, v]) (rest := []) (g := F0 m 5 la [v, .int a1, .int a0]) ⟨hx, hb, hml, hown, hts⟩ (am_J3 l a0 a1 v hv h0 h1) (va_cwS (R := am_ro 1) 3 hts hG rfl rfl rfl ⟨by decide +kernel, by decide +kernel, by decide +kernel⟩ ⟨Nat.le_refl _, Nat.le_of_ble_eq_true rfl⟩)
      ⟨fun a U g mk h => h, fun U hU' hWU => ⟨rfl, trivial⟩⟩ rfl rfl hl.1 rfl (by show 2 * 0 + 0 ≤ 8; omega) (am_dea (a := 3) hc rfl) ⟨Nat.le_refl _, Nat.le_refl _⟩
    intro T hT Xs
    obtain ⟨v9, st₀, t, T', L, e0, X', hLL, e1, e2, ⟨ho, hh⟩, st⟩ := hrun T hT Xs
    have hv9 : v9 = some (.int a0) := Outcome.returned.inj ho
    subst hv9
    have eH : T'.heap = H := by rw [e1, hh, e0]
    obtain ⟨t2, a1', b1⟩ := kA T'.heap (locs ++ L) la (by rw [eH]; exact hW) (fun q hq => by
      rcases List.mem_append.mp hq with h | h
      · exact hL q h
      · exact (hLL q h).elim) (by rw [eH]; exact hF) h2 (fun v hv => by
      rw [List.mem_singleton.mp hv]; trivial) hl T' rfl X'
    exact ⟨t2, st t2 a1', b1⟩
  rcases hZq with z | ⟨t, z⟩
  · exact key _ rfl z
  · exact key _ rfl z
section AMZ
variable {p : Program} {l : Launch} {e : Env} {R : Room} {s : State} {m : MethodId} {args : Array Value} {below : List Frame} {meth : Method} {c : Code} {cc : ByteArray} {own : String} {nL : Nat} {P : am_P} {G : am_G} {A : Nat → Prop} {kc ks : Nat} {Q : State → Prop}
/-- an int answer of a small type -/
theorem am_nret {tb : List (Nat × Instr × Nat)} {ty : FieldType} (hc : am_code cc tb = true) (X : am_X p s m args c cc own nL P G (am_fr G)) (hr : meth.sig.returnType = some ty ∧ meth.locks = false) (a : Nat) {pc : Nat} {ls : List (Nat × am_V)} {x : Int32} {σ σ' : am_S} {r : Option am_V} (h : tb[a]? = some (pc, .ireturn, 1)) (hn : narrow ty (.int x) = .int x) (hv : r = some (am_i x)) (hs : σ' = σ) : am_A p l e R s m args below meth c nL G (am_fr G) 0 0 (MQ below (am_Qc G r σ') args s 0 0 (am_fr G)) (pc, ls, [am_i x], σ) := by
  subst hv; subst hs
  intro H locs la hW hL hF h1 h2 hl
  exact W.zret (v := x) X.1 X.2.1 hr.1 hn (fun t ht hw => am_end (v := some (am_i x)) hW hF (fun w hw => by cases hw; trivial) ht hw) hL (am_dea hc h) hr.2
theorem am_aret {tb : List (Nat × Instr × Nat)} {nm : String} (hc : am_code cc tb = true) (X : am_X p s m args c cc own nL P G (am_fr G)) (hr : meth.sig.returnType = some (.object nm) ∧ meth.locks = false) (a : Nat) {pc o k i : Nat} {ls : List (Nat × am_V)} {σ σ' : am_S} {r : Option am_V} (h : tb[a]? = some (pc, .areturn, 1)) (hv : r = some (am_r o k i)) (hs : σ' = σ) : am_A p l e R s m args below meth c nL G (am_fr G) 0 0 (MQ below (am_Qc G r σ') args s 0 0 (am_fr G)) (pc, ls, [am_r o k i], σ) := by
  subst hv; subst hs
  intro H locs la hW hL hF h1 h2 hl
  exact W.aret (v := am_v G (am_r o k i)) X.1 X.2.1 hr.1 (Or.inl ⟨_, rfl⟩) (Or.inr ⟨_, rfl⟩) (fun t ht hw => am_end (v := some (am_r o k i)) hW hF (fun w hw => by cases hw; exact (am_tl h2).1) ht hw) hL (am_dea hc h) hr.2
theorem am_callT {tb : List (Nat × Instr × Nat)} (hc : am_code cc tb = true) (a : Nat) {d d' mc ms pc idx i nL' n : Nat} (X : am_X p s m args c cc own nL P G A) {y : MethodName} {cc' : ByteArray} {ret' : Option FieldType} {As rest st : List am_V} {ls : List (Nat × am_V)} {σ σ' : am_S} {r : Option am_V} (h : tb[a]? = some (pc, .invokevirtual idx, 3))
    (hM : am_M l y cc' nL' ret' d' (am_r 17 36 i :: As) σ r σ') (hy : am_yV y cc' nL' ret' n) (hlk : Cond.methodLink own idx y ∈ am_tb) (hcl : y.cls = "java/lang/String") (hd : Nat.ble (d' + 1) d = true) (hn : As.length = n) (hst : st = As.reverse ++ am_r 17 36 i :: rest) (hsz : Nat.ble (am_sz rest) 8 = true) (hkm : (Nat.ble kc mc && Nat.ble ks ms) = true)
    (kk : am_A p l e (am_rc d mc ms) s m args below meth c nL G A kc ks Q (pc + 3, ls, r.toList ++ rest, σ')) : am_A p l e (am_rc d mc ms) s m args below meth c nL G A kc ks Q (pc, ls, st, σ) := by
  subst hst
  intro H locs la hW hL hF h1 h2 hl
  obtain ⟨y1, y2, y3, y4, hy⟩ := hy
  unfold am_yR at hy
  simp only [Bool.and_eq_true, decide_eq_true_eq] at hy
  obtain ⟨y5, y6, y7, y8⟩ := hy
  obtain ⟨hx, hb, hml, hown, hts, -, hU, hA⟩ := id X
  have hlive : ∀ v ∈ As.reverse ++ am_r 17 36 i :: rest, am_lV G v := h2
  have hlv : am_lv G 17 36 i := hlive (am_r 17 36 i) (List.mem_append_right _ List.mem_cons_self)
  have hAs : ∀ v ∈ am_r 17 36 i :: As, am_lV G v := am_lcons hlv fun v hv => hlive v (List.mem_append_left _ (List.mem_reverse.mpr hv))
  have hrest : ∀ v ∈ rest, am_lV G v := fun v hv => hlive v (List.mem_append_right _ (List.mem_cons_of_mem _ hv))
  obtain ⟨cell, q1, q2, q3, -⟩ := (hW.2.2.2.2.1.1 i hlv.2.2).1
  have hdd := Nat.le_of_ble_eq_true hd
  have hnn := Nat.le_of_ble_eq_true y8
  have hG : GoodIn am_tb (wsV own idx y.cls y (am_ws y cc' nL' ret')) := fun w hw => by
    unfold wsV am_ws at hw
    have : w ∈ am_tb := by
      rcases List.mem_append.mp hw with hw | hw
      · simp only [List.mem_cons, List.not_mem_nil, or_false] at hw
        rcases hw with rfl | rfl | rfl | rfl
        · exact hlk
        · exact y1
        · exact y2
        · exact y3
      · rcases List.mem_cons.mp hw with rfl | hw
        · exact y4
        · exact hw
    exact am_tb_good w this
  have hrun := va_runV (l := l) (e := e) (R := am_rc d mc ms) (below := below) (meth := meth) (H := H) (locs := locs) (cells := kc) (slots := ks) (As := As.map (am_v G)) (rest := rest.map (am_v G)) (g := F0 m pc la ((As.reverse ++ am_r 17 36 i :: rest).map (am_v G))) ⟨hx, hb, hml, hown, hts⟩ (hM G hAs) (cwV (C := y.cls) (R := am_rc d mc ms) n hts hG rfl rfl rfl ⟨rfl, y5, y6, y7⟩ ⟨hdd, by show 8 + (nL' + 11) + 40 * d' ≤ 40 * d; omega⟩)
    ⟨am_blind, ⟨cell, q1, q2, by rw [hcl]; exact q3⟩, fun U hU' hWU => ⟨rfl, hU.warm hWU, by rw [hU']; exact hW.alike hWU.alike⟩⟩ rfl (by rw [List.length_map]; exact hn) hl.1 am_rv (by show 2 * 0 + _ ≤ 8; rw [am_catsum]; have := Nat.le_of_ble_eq_true hsz; omega) (am_dea hc h) (by rw [Bool.and_eq_true] at hkm; exact ⟨Nat.le_of_ble_eq_true hkm.1, Nat.le_of_ble_eq_true hkm.2⟩)
  exact am_goes hrun hA hL hF h1 hrest hl kk
end AMZ
