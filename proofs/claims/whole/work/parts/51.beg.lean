/-! ===== the law's beginning: the two objects ===== -/
section STB
variable {p : Program} {l : Launch} {e : Env} {s : State} {m : MethodId} {below : List Frame} {meth : Method} {c : Code} {b : Nat} {G : am_G} {kc ks : Nat} {Q : State → Prop} {tb : List (Nat × Instr × Nat)}
theorem lw_new {d' mc' ms' nL' x y N idx idx2 pc : Nat} {C : String} {news : List Nat} {σ σ' : am_S} {yy : MethodName} {cc' : ByteArray} (hc : am_code code tb = true) (X : am_X p s m #[Value.ref b] c code RL 4 am_pL G (fun q => s.heap.size ≤ q)) (q : Nat)
    (t0 : tb[q]? = some (pc, .new idx, 3)) (t1 : tb[q + 1]? = some (pc + 3, .dup, 1)) (t2 : tb[q + 2]? = some (pc + 4, .invokespecial idx2, 3)) (hy : y < 77 ∧ (am_kd y).1 = 0 ∧ (am_kd y).2.1 = N ∧ (am_cl y).1 = C) (w1 : Cond.classLink RL idx C ∈ am_tb) (w2 : Cond.instantiable C N ∈ am_tb) (hyI : am_yI yy cc' nL' 0) (hcls : yy.cls = C ∧ yy.name = "<init>") (hl2 : Cond.methodLink RL idx2 yy ∈ am_tb) (hK : am_K l yy cc' nL' d' mc' ms' x y news σ σ') (hnews : ∀ q ∈ news, G.2.2.2 q = false) (hz : am_ad G 16 99 0 = s.heap.size) (hd : d' ≤ 100) (hkm : kc + 1 + mc' ≤ 600000 ∧ ks + N + ms' ≤ 7302250) {H : Heap} {locs : List Loc} {la : Array Slot} {lv : List (Nat × Value)} (hW : am_W G σ s H) (hL : ∀ q ∈ locs, s.heap.size ≤ q.base) (hF : s.heap.size ≤ H.size ∧ ∀ q, q < s.heap.size → ¬ s.heap.size ≤ q → H[q]? = s.heap[q]?) (hl : lv_has la 4 lv)
    (kk : ∀ (G1 : am_G) (H1 : Heap) (locs1 : List Loc), am_ag G G1 → am_X p s m #[Value.ref b] c code RL 4 am_pL G1 (fun q => s.heap.size ≤ q) → (∀ q, G1.2.2.2 q = (G.2.2.2 q || news.contains q)) → am_W G1 σ' s H1 → (∀ q ∈ locs1, s.heap.size ≤ q.base) → (s.heap.size ≤ H1.size ∧ ∀ q, q < s.heap.size → ¬ s.heap.size ≤ q → H1[q]? = s.heap[q]?) →
      W p l e room_1 s m #[Value.ref b] below meth c H1 locs1 (kc + 1 + mc') (ks + N + ms') Q (F0 m (pc + 7) la [.ref (am_ad G1 x y 0)])) : W p l e room_1 s m #[Value.ref b] below meth c H locs kc ks Q (F0 m pc la []) := by
  obtain ⟨hx, hb, hml, hown', hts, hp, hU, hA⟩ := id X
  obtain ⟨y1, y3, y4, hyR⟩ := hyI
  unfold am_yR at hyR
  simp only [Bool.and_eq_true, decide_eq_true_eq] at hyR
  obtain ⟨y5, y6, y7, y8⟩ := hyR
  have hnn := Nat.le_of_ble_eq_true y8
  refine am_newWL X hy w1 w2 (by rw [← hcls.1]; exact y3) (am_dea hc t0) ⟨by show kc + 1 ≤ 600000; omega, by show ks + N ≤ 7302250; omega⟩ fun H1 e1 e2 e3 => ?_
  refine lv_dup hx hb (am_dea hc t1) rfl ?_
  have hW1 : am_W G σ s H1 := hW.grow (by omega) (fun o' k i hl' => e3 _ (hW.2.1.2 o' k i hl')) (fun q h _ => e3 q h)
  have hM := hK G H1.size H.size hnews ⟨by rw [hz]; exact hF.1, by omega, fun o' k i hl' => by have := hW.2.1.2 o' k i hl'; omega⟩
  have hG : GoodIn am_tb (am_ws yy cc' nL' none) := fun w hw => by
    unfold am_ws at hw
    have : w ∈ am_tb := by
      rcases List.mem_cons.mp hw with rfl | hw
      · exact y4
      · exact hw
    exact am_tb_good w this
  have hPre : PreS s H1 (va_Pc [.ref H.size] (fun U => U.heap.size = H1.size ∧ am_U G U ∧ am_W G σ U U.heap ∧ am_OB G y H.size U.heap (am_df y))) (.ref H.size :: []) := ⟨am_blindK, fun U hU' hWU => ⟨rfl, by rw [hU'], hU.warm hWU, by rw [hU']; exact hW1.alike hWU.alike, by rw [hU']; exact e1⟩⟩
  have hroom : (am_rc d' mc' ms').frames + 1 ≤ room_1.frames ∧ 8 + (nL' + 11) + (am_rc d' mc' ms').locals ≤ room_1.locals := ⟨by show d' + 1 ≤ 2048; omega, by show 8 + (nL' + 11) + 40 * d' ≤ 84000; omega⟩
  have hrun := va_runI (l := l) (e := e) (R := room_1) (below := below) (meth := meth) (H := H1) (locs := locs) (cells := kc + 1) (slots := ks + N) (As := []) (rest := [.ref H.size]) (g := F0 m (pc + 4) la [.ref H.size, .ref H.size]) ⟨hx, hb, hml, hown', hts⟩ hM (cwI (R := room_1) 0 hts hG rfl rfl rfl (hts _ y3) (hts _ hl2) (hts _ y1) hcls.2 ⟨y5, y6, y7⟩ hroom) hPre rfl rfl hl.1 rfl (by show 2 * 0 + 1 ≤ 8; omega) (am_dea hc t2) hkm
  intro T hT Xs
  obtain ⟨v, st₀, t, T', L, h0, X', hLL, f1, f2, ⟨hv, G1, ag1, cd1, live1, ad1, lk1, w1', sz1, fr1⟩, st⟩ := hrun T hT Xs
  have hv2 : v = none := Outcome.returned.inj hv
  subst hv2
  rw [h0] at sz1 fr1
  have hal : t.vm.Alike s.vm := by rw [← f2]; exact X'.warmed.alike.symm
  have hAF : ∀ q, am_Fc G H.size H1.size q → s.heap.size ≤ q := by
    rintro q (z | z | z)
    · exact hA q z
    · rw [z]; exact hF.1
    · have := hF.1; omega
  have hX1 : am_X p s m #[Value.ref b] c code RL 4 am_pL G1 (fun q => s.heap.size ≤ q) := ⟨hx, hb, hml, hown', hts, hp, ag1.U cd1 hU, fun q hq => hAF q (am_LkA ag1 lk1 q hq)⟩
  have k1 := kk G1 T'.heap (locs ++ L) ag1 hX1 live1 (by rw [f1]; exact w1'.alike hal) (fun q hq => by
      rcases List.mem_append.mp hq with h | h
      · exact hL q h
      · exact hAF _ (hLL q h)) (by
      rw [f1]
      refine ⟨Nat.le_trans hF.1 (by omega), fun q h1 h2 => ?_⟩
      have := hF.1
      rw [fr1 q (by omega) (fun z => h2 (hAF q z)), e3 q (by omega)]
      exact hF.2 q h1 h2)
  rw [ad1] at k1
  obtain ⟨t2', a1, b1'⟩ := k1 T' rfl X'
  exact ⟨t2', st t2' a1, b1'⟩
end STB
set_option maxRecDepth 100000 in
theorem ml_L_9 : Cond.methodLink RL 9 yX7_init ∈ am_tb := am_pl 92 (by decide +kernel) rfl
set_option maxRecDepth 100000 in
theorem ml_L_12 : Cond.methodLink RL 12 yX8_init ∈ am_tb := am_pl 955 (by decide +kernel) rfl
set_option maxHeartbeats 4000000 in
set_option maxRecDepth 100000 in
/-- THE LAW, from its entry -/
theorem whole_start {p : Program} {e : Env} {s : State} {m : MethodId} {below : List Frame} {meth : Method} {c : Code} (l : Launch) (hflags : l.flags = flags0) {b L : Nat} {xs : Nat → Int32} (hL : L ≤ 3072) (C0 : lw_At p s m meth c b L xs) : W p l e room_1 s m #[Value.ref b] below meth c s.heap [] 0 0 (lw_Z below #[Value.ref b] s) (entryFrame m ([Value.ref b] : List Value).toArray 4) := by
  obtain ⟨hx, hb, hr, hml, hown, hts, hX, hbl, hlocks, hgv⟩ := id C0
  obtain ⟨G0, hU, hW, h18, h18v, hlv, hz, hfr⟩ := st_world (L := L) (xs := xs) hgv hts hbl
  have hl := lv_entry ([.ref b]) (n := 4) (Nat.le_of_ble_eq_true rfl)
  rw [lg_entry_eq]
  generalize (lg_sl ([.ref b]) ++ List.replicate (4 - (lg_sl ([.ref b])).length) Slot.unset).toArray = ls at hl ⊢
  have hl : lv_has ls 4 [(0, .ref b)] := hl
  have X0 : am_X p s m #[Value.ref b] c code RL 4 am_pL G0 (fun q => s.heap.size ≤ q) := ⟨hx, hb, hml, hown, st_tb hts, am_pL_ok, hU, hfr⟩
  have hnl : ∀ o, o < 16 → G0.2.2.2 o = false := fun o h => by
    cases ho : G0.2.2.2 o with
    | false => rfl
    | true => exact absurd (hlv o ho) (by omega)
  obtain ⟨q1, hq1, q2, hq2, hI⟩ := pv_init
  have hlt : ∀ o ∈ [1, 2, 10, 3, 11, 12, 13, 14, 15, 0], o < 16 := by decide
  refine lw_new ct_LS X0 0 (x := 0) (y := 0) (N := 10) (C := "SundayIsAPlace") rfl rfl rfl ⟨by decide, rfl, rfl, rfl⟩ aw_18 aw_19 yi_X7_init ⟨rfl, rfl⟩ ml_L_9 (ok_X7_init_0 l st_s0 hq1) (fun q hq => hnl q (hlt q hq)) hz (by decide) ⟨by decide, by decide⟩ hW (fun q hq => by cases hq) ⟨Nat.le_refl _, fun _ _ _ => rfl⟩ hl (fun G1 H1 locs1 ag1 X1 lv1 W1 L1 F1 => ?_)
  refine lv_astore_n (lv' := [(1, .ref (am_ad G1 0 0 0)), (0, .ref b)]) hx hb (am_dea ct_LS (a := 3) rfl) rfl hl (by decide) rfl (fun ls hl => ?_)
  have n5 : ∀ q ∈ [5], G1.2.2.2 q = false := fun q hq => by
    rw [List.mem_singleton.mp hq, lv1, hnl 5 (by decide)]
    rfl
  have z1 : am_ad G1 16 99 0 = s.heap.size := ((ag1.2.2 16 hU.2.2.2.1.1).2 99 0).trans hz
  refine lw_new ct_LS X1 4 (x := 5) (y := 40) (N := 48) (C := "SundayIsAPlaceModel") rfl rfl rfl ⟨by decide, rfl, rfl, rfl⟩ aw_881 aw_882 yi_X8_init ⟨rfl, rfl⟩ ml_L_12 (ok_X8_init_5 l q1 hq2) n5 z1 (by decide) ⟨by decide, by decide⟩ W1 L1 F1 hl (fun G2 H2 locs2 ag2 X2 lv2 W2 L2 F2 => ?_)
  refine lv_astore_n (lv' := [(2, .ref (am_ad G2 5 40 0)), (1, .ref (am_ad G1 0 0 0)), (0, .ref b)]) hx hb (am_dea ct_LS (a := 7) rfl) rfl hl (by decide) rfl (fun ls hl => ?_)
  refine lv_iconst (v := 0) hx hb (am_dea ct_LS (a := 8) rfl) (by decide) ?_
  refine lv_istore_n (lv' := [(3, .int 0), (2, .ref (am_ad G2 5 40 0)), (1, .ref (am_ad G1 0 0 0)), (0, .ref b)]) hx hb (am_dea ct_LS (a := 9) rfl) rfl hl (by decide) rfl (fun ls hl => ?_)
  have l0 : G1.2.2.2 0 = true := by rw [lv1]; simp
  have a18 : am_ad G2 18 38 0 = b ∧ G2.2.2.2 18 = true := ⟨((ag2.2.2 18 (ag1.2.2 18 h18v).1).2 38 0).trans (((ag1.2.2 18 h18v).2 38 0).trans h18), (ag2.2.2 18 (ag1.2.2 18 h18v).1).1⟩
  have a00 : am_ad G2 0 0 0 = am_ad G1 0 0 0 := (ag2.2.2 0 l0).2 0 0
  have k := lw_loop (e := e) (l := l) (m := m) (below := below) (p := p) hX hbl hL hr hlocks 512 0 (Nat.zero_le _) (by omega) G2 X2 a18 q2 hI 270 4015 (by decide) (by decide)
  refine k H2 locs2 ls W2 L2 F2 (fun q hq => ?_) (fun v hv => by cases hv) ?_
  · simp only [List.mem_cons, List.not_mem_nil, or_false] at hq
    rcases hq with rfl | rfl | rfl | rfl
    · exact ⟨a18.2, by decide +kernel, by decide +kernel⟩
    · exact ⟨(ag2.2.2 0 l0).1, by decide +kernel, by decide +kernel⟩
    · exact ⟨by rw [lv2]; simp, by decide +kernel, by decide +kernel⟩
    · trivial
  · show lv_has ls 4 [(0, .ref (am_ad G2 18 38 0)), (1, .ref (am_ad G2 0 0 0)), (2, .ref (am_ad G2 5 40 0)), (3, .int (nI 0))]
    rw [a18.1, a00]
    exact lv_sub hl [3, 2, 1, 0] rfl
