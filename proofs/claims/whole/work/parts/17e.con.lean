/-! ===== this.f = new C(); ===== -/
theorem am_dfv : ∀ k, k < 77 → (am_kd k).1 = 0 → ∀ f, f < (am_kd k).2.1 → defaultValue ((parseFieldDescriptor ((am_cl k).2.1 f).2.2.1).getD .int) = am_df k f := by decide +kernel
theorem am_pfs : ∀ k, k < 77 → (am_kd k).1 = 0 → ∀ f, f < (am_kd k).2.1 → parseFieldDescriptor ((am_cl k).2.1 f).2.2.1 = some ((parseFieldDescriptor ((am_cl k).2.1 f).2.2.1).getD .int) := by decide +kernel
section AMKN
variable {p : Program} {l : Launch} {e : Env} {R : Room} {s : State} {m : MethodId} {args : Array Value} {below : List Frame} {meth : Method} {c : Code} {cc : ByteArray} {own : String} {nL : Nat} {P : am_P} {G : am_G} {A : Nat → Prop} {kc ks : Nat} {Q : State → Prop} {tb : List (Nat × Instr × Nat)} {o k0 a b n : Nat} {fs : List Nat} {σ : am_S}
/-- a new object, before its constructor -/
theorem am_newW {d mc ms : Nat} (X : am_X p s m args c cc own nL P G A) {pc idx y N : Nat} {C : String} (hy : y < 77 ∧ (am_kd y).1 = 0 ∧ (am_kd y).2.1 = N ∧ (am_cl y).1 = C) (w1 : Cond.classLink own idx C ∈ am_tb) (w2 : Cond.instantiable C N ∈ am_tb) (w3 : Cond.initialized C ∈ am_tb) (hd : decode cc pc = .ok (.new idx, 3)) (hkm : kc + 1 ≤ mc ∧ ks + N ≤ ms) {H : Heap} {locs : List Loc} {la : Array Slot} {rest : List Value}
    (kk : ∀ H' : Heap, am_OB G y H.size H' (am_df y) → H'.size = H.size + 1 → (∀ q, q < H.size → H'[q]? = H[q]?) → W p l e (am_rc d mc ms) s m args below meth c H' locs (kc + 1) (ks + N) Q (F0 m (pc + 3) la (.ref H.size :: rest))) : W p l e (am_rc d mc ms) s m args below meth c H locs kc ks Q (F0 m pc la rest) := by
  obtain ⟨hx, hb, -, hown, hts, -, hU, -⟩ := id X
  obtain ⟨y1, y2, y3, y4⟩ := hy
  have hcl := am_cl_at y1 y2
  have hKn := hU.1.1 _ _ hcl
  have hfc := hKn.2.1
  refine W.newcK hx hb hown (hts _ w1) (hts _ w2) (hts _ w3) (g := F0 m pc la rest) rfl hd hkm.1 hkm.2 (by rw [← y4]; exact hfc) rfl fun H' kC e1 e2 e3 e4 => ?_
  refine kk H' ?_ e3 e4
  have hin' : ∀ w ∈ u_ws (am_cl y).1 (am_cl y).2.1 (am_cl y).2.2, w ∈ am_tb := am_lays _ (am_cl_lt y y1 y2)
  have hn := am_cl_n y y1 y2
  have hb2 := u_born (o := H.size) (H := H') (fun f => (parseFieldDescriptor ((am_cl y).2.1 f).2.2.1).getD .int) hts hin' hKn e1 e2 (fun f hf => am_pfs y y1 y2 f (by rw [hn] at hf; exact hf))
  unfold am_OB
  rw [hn] at hb2
  exact t_OB.to hb2 fun f hf => am_dfv y y1 y2 f hf
theorem am_Bnest {G0 : am_G} {d d' mc ms mc' ms' nL' pc idx idx2 idx3 f x y N : Nat} {C : String} {news : List Nat} {σ' : am_S} {yy : MethodName} {cc' : ByteArray} (hc : am_code cc tb = true) (X : am_X p s m args c cc own nL P G (am_Fc G0 a s.heap.size)) (hag : am_ag G0 G) (hLk : am_Lk G0 G s.heap.size a) (hin : meth.name = "<init>") (hown : own = (am_cl k0).1) (q : Nat)
    (t0 : tb[q]? = some (pc, .aload_n 0, 1)) (t1 : tb[q + 1]? = some (pc + 1, .new idx, 3)) (t2 : tb[q + 2]? = some (pc + 4, .dup, 1)) (t3 : tb[q + 3]? = some (pc + 5, .invokespecial idx2, 3)) (t4 : tb[q + 4]? = some (pc + 8, .putfield idx3, 3))
    (hlk : am_lk P.1 idx3 = some (k0, f)) (hk : (Nat.ble (k0 + 1) 77 && (Nat.beq (am_kd k0).1 0 && Nat.ble (f + 1) (am_kd k0).2.1)) = true) (hf : am_fd k0 f = (2, x, y) ∧ parseFieldDescriptor ((am_cl k0).2.1 f).2.2.1 = some (.object C)) (hy : y < 77 ∧ (am_kd y).1 = 0 ∧ (am_kd y).2.1 = N ∧ (am_cl y).1 = C) (w1 : Cond.classLink own idx C ∈ am_tb) (w2 : Cond.instantiable C N ∈ am_tb) (hyI : am_yI yy cc' nL' 0) (hcls : yy.cls = C ∧ yy.name = "<init>")
    (hl2 : Cond.methodLink own idx2 yy ∈ am_tb ∨ (own, idx2, yy, RX7) ∈ am_nst) (hK : am_K l yy cc' nL' d' mc' ms' x y news σ σ') (hnews : ∀ q ∈ news, G.2.2.2 q = false) (hd : Nat.ble (d' + 1) d = true) {kc2 ks2 pc2 : Nat} (hpc : pc2 = pc + 11) (hkc : kc2 = kc + 1 + mc') (hks : ks2 = ks + N + ms') (hkm : (Nat.ble kc2 mc && Nat.ble ks2 ms) = true)
    (ini : List Int32) (ho : G.2.2.2 o = false) (hon : news.contains o = false) (h99 : o ≠ 99) (hfs : ∀ g ∈ fs, (am_fd k0 g).1 = 0 ∨ (am_fd k0 g).1 = 5 ∨ ((am_fd k0 g).1 = 2 ∧ G.2.2.2 (am_fd k0 g).2.1 = true ∧ (am_fd k0 g).2.1 ≠ o)) (hxo : x ≠ o) (hσ : ∀ g, σ.1 o k0 0 g = ini.getD g 0)
    (kk : ∀ (G1 : am_G) (b1 : Nat), am_ag G0 G1 → am_Lk G0 G1 s.heap.size a → (∀ q, G1.2.2.2 q = (G.2.2.2 q || news.contains q)) → am_X p s m args c cc own nL P G1 (am_Fc G0 a s.heap.size) → s.heap.size ≤ b1 →
      am_BA p l e (am_rc d mc ms) s m args below meth c nL G1 (am_Fc G0 a s.heap.size) o k0 a (am_i0 o k0 ini σ') kc2 ks2 Q pc2 b1 0 (f :: fs)) : am_BA p l e (am_rc d mc ms) s m args below meth c nL G (am_Fc G0 a s.heap.size) o k0 a σ kc ks Q pc b 0 fs := by
  subst hpc; subst hkc; subst hks
  obtain ⟨hx, hb, hml, hown', hts, hp, hU, hA⟩ := id X
  obtain ⟨y1, y3, y4, hyR⟩ := hyI
  unfold am_yR at hyR
  simp only [Bool.and_eq_true, decide_eq_true_eq] at hyR
  obtain ⟨y5, y6, y7, y8⟩ := hyR
  rw [Bool.and_eq_true] at hkm
  have k1 := Nat.le_of_ble_eq_true hkm.1
  have k2 := Nat.le_of_ble_eq_true hkm.2
  have hdd := Nat.le_of_ble_eq_true hd
  have hnn := Nat.le_of_ble_eq_true y8
  intro H locs la hB hL hF hl
  obtain ⟨b1, ⟨b2, b3, bz, b4⟩, b5, ⟨V, b6, b7⟩, -⟩ := hB
  have b1 : H.size = b := b1
  refine lv_aload_n hx hb (am_dea hc t0) rfl (lv_at hl 0 rfl) ?_
  refine am_newW X hy w1 w2 (by rw [← hcls.1]; exact y3) (am_dea hc t1) ⟨by omega, by omega⟩ fun H1 e1 e2 e3 => ?_
  refine lv_dup hx hb (am_dea hc t2) rfl ?_
  have hW1 : am_W G σ s H1 := b5.grow (by omega) (fun o' k i hl' => e3 _ (b5.2.1.2 o' k i hl')) (fun q h _ => e3 q h)
  have hM := hK G H1.size H.size hnews ⟨by omega, by omega, fun o' k i hl' => by have := b5.2.1.2 o' k i hl'; omega⟩
  have hG : GoodIn am_tb (am_ws yy cc' nL' none) := fun w hw => by
    unfold am_ws at hw
    have : w ∈ am_tb := by
      rcases List.mem_cons.mp hw with rfl | hw
      · exact y4
      · exact hw
    exact am_tb_good w this
  have hPre : PreS s H1 (va_Pc [.ref H.size] (fun U => U.heap.size = H1.size ∧ am_U G U ∧ am_W G σ U U.heap ∧ am_OB G y H.size U.heap (am_df y))) (.ref H.size :: []) := ⟨am_blindK, fun U hU' hWU => ⟨rfl, by rw [hU'], hU.warm hWU, by rw [hU']; exact hW1.alike hWU.alike, by rw [hU']; exact e1⟩⟩
  have hroom : (am_rc d' mc' ms').frames + 1 ≤ (am_rc d mc ms).frames ∧ 8 + (nL' + 11) + (am_rc d' mc' ms').locals ≤ (am_rc d mc ms).locals := ⟨hdd, by show 8 + (nL' + 11) + 40 * d' ≤ 40 * d; omega⟩
  have hrun : va_Run p l e (am_rc d mc ms) s m args below meth c H1 locs (kc + 1) (ks + N) mc' ms' (F0 m (pc + 5) la [.ref H.size, .ref H.size, .ref a]) [.ref H.size, .ref a] (am_Qk G H1.size H.size x y news σ' (Value.ref H.size :: []).toArray) (am_Fc G H.size H1.size) := by
    rcases hl2 with h | h
    · exact va_runI (l := l) (e := e) (R := am_rc d mc ms) (below := below) (meth := meth) (H := H1) (locs := locs) (cells := kc + 1) (slots := ks + N) (As := []) (rest := [.ref H.size, .ref a]) (g := F0 m (pc + 5) la [.ref H.size, .ref H.size, .ref a]) ⟨hx, hb, hml, hown', hts⟩ hM (cwI (R := am_rc d mc ms) 0 hts hG rfl rfl rfl (hts _ y3) (hts _ h) (hts _ y1) hcls.2 ⟨y5, y6, y7⟩ hroom) hPre rfl rfl hl.1 rfl (by show 2 * 0 + 2 ≤ 8; omega) (am_dea hc t3) ⟨k1, k2⟩
    · exact va_runIN (l := l) (e := e) (R := am_rc d mc ms) (below := below) (meth := meth) (H := H1) (locs := locs) (cells := kc + 1) (slots := ks + N) (host := RX7) (As := []) (rest := [.ref H.size, .ref a]) (g := F0 m (pc + 5) la [.ref H.size, .ref H.size, .ref a]) ⟨hx, hb, hml, hown', hts⟩ hM ⟨va_cnB (R := am_rc d mc ms) 0 hts hG rfl rfl rfl (hU.2.1 _ h) (hts _ y3) ⟨y5, y6, y7⟩ hroom, hcls.2, hts _ y1⟩ hPre rfl rfl hl.1 rfl (by show 2 * 0 + 2 ≤ 8; omega) (am_dea hc t3) ⟨k1, k2⟩
  intro T hT Xs
  obtain ⟨v, st₀, t, T', L, h0, X', hLL, f1, f2, ⟨hv, G1, ag1, cd1, live1, ad1, lk1, w1', sz1, fr1⟩, st⟩ := hrun T hT Xs
  have hv2 : v = none := Outcome.returned.inj hv
  subst hv2
  rw [h0] at sz1 fr1
  have hal : t.vm.Alike s.vm := by rw [← f2]; exact X'.warmed.alike.symm
  have hag1 : am_ag G0 G1 := hag.tr ag1
  have hLk1 : am_Lk G0 G1 s.heap.size a := by
    intro o' k i hl'
    rcases lk1 o' k i hl' with z | z | z
    · rw [(ag1.2.2 o' z.1).2]
      exact hLk o' k i z
    · exact Or.inr (Or.inr (by rw [z]; omega))
    · exact Or.inr (Or.inr (by omega))
  have hXG1 : am_X p s m args c cc own nL P G1 (am_Fc G0 a s.heap.size) := ⟨hx, hb, hml, hown', hts, hp, ag1.U cd1 hU, am_LkA hag1 hLk1⟩
  have haN : ¬ am_Fc G H.size H1.size a := by
    rintro (⟨o', k, i, hl', -, z⟩ | z | z)
    · exact (b4 o' k i hl').1 z.symm
    · omega
    · omega
  have hσ : ∀ g, (am_i0 o k0 ini σ').1 o k0 0 g = σ.1 o k0 0 g := fun g => by
    rw [hσ]
    show (if o = o then (if k0 = k0 then (if 0 = 0 then ini.getD g 0 else 0) else 0) else _) = _
    rw [if_pos rfl, if_pos rfl, if_pos rfl]
  have hB1 : am_Bd G1 s o k0 a T'.heap.size 0 fs (am_i0 o k0 ini σ') T'.heap := by
    refine ⟨rfl, ⟨?_, ?_, ?_, fun o' k i hl' => ⟨?_, ?_⟩⟩, ?_, ⟨V, ?_, fun g => ?_⟩, fun k i _ _ _ h => absurd h (Nat.not_lt_zero _)⟩
    · rw [f1]; omega
    · rw [f1]; omega
    · rw [(ag1.2.2 16 hU.2.2.2.1.1).2]; exact bz
    · rcases lk1 o' k i hl' with z | z | z
      · rw [(ag1.2.2 o' z.1).2]
        exact (b4 o' k i z).1
      · rw [z]; omega
      · omega
    · rw [f1]
      exact w1'.2.1.2 o' k i hl'
    · rw [f1]
      refine (w1'.alike hal).sig fun o' ho' k i j => ?_
      have hne : o' ≠ o := fun e => by
        rw [e, live1, ho, hon] at ho'
        rcases ho' with z | z
        · cases z
        · exact h99 z
      exact ⟨if_neg hne, if_neg hne⟩
    · unfold am_OB
      rw [ag1.1]
      refine t_OB.kept b6 ?_
      rw [f1, fr1 a (by omega) haN]
      exact e3 a (by omega)
    · rw [b7 g]
      by_cases hg : fs.contains g = true
      · rw [if_pos hg, if_pos hg]
        have h9 := hfs g (List.contains_iff_mem.mp hg)
        unfold am_fv
        generalize am_fd k0 g = z at h9
        obtain ⟨tt, xx, yy'⟩ := z
        rcases h9 with q | q | ⟨q, q2, q3⟩
        · have q : tt = 0 := q
          subst q
          show Value.int _ = Value.int _
          rw [hσ]
        · have q : tt = 5 := q
          subst q
          show Value.int _ = Value.int _
          rw [hσ]
        · have q : tt = 2 := q
          subst q
          show Value.ref (am_ad (am_nG G o k0 a b) xx yy' 0) = Value.ref (am_ad (am_nG G1 o k0 a T'.heap.size) xx yy' 0)
          rw [am_nG_ne q3, am_nG_ne q3, (ag1.2.2 xx q2).2]
      · rw [if_neg hg, if_neg hg]
  have hfv : Value.ref H.size = am_fv (am_nG G1 o k0 a T'.heap.size) (am_i0 o k0 ini σ') o k0 f := by
    unfold am_fv
    rw [hf.1]
    show Value.ref H.size = .ref (am_ad (am_nG G1 o k0 a T'.heap.size) x y 0)
    rw [am_nG_ne hxo, ad1]
  have hFr : s.heap.size ≤ T'.heap.size ∧ ∀ q, q < s.heap.size → ¬ am_Fc G0 a s.heap.size q → T'.heap[q]? = s.heap[q]? := by
    rw [f1]
    refine ⟨by omega, fun q h1 h2 => ?_⟩
    rw [fr1 q (by omega) ?_, e3 q (by omega)]
    · exact hF.2 q h1 h2
    · rintro (z | z | z)
      · exact h2 (hA q z)
      · omega
      · omega
  have hW2 := am_Bput hXG1 hin hlk hk hown (ty := .object C) hf.2 rfl rfl (am_dea hc t4) (locs := locs ++ L) hB1 hfv (Or.inr (Or.inl rfl)) (fun q hq => by
      rcases List.mem_append.mp hq with h | h
      · exact hL q h
      · rcases hLL q h with z | z | z
        · exact hA _ z
        · exact Or.inr (Or.inr (by rw [z]; omega))
        · exact Or.inr (Or.inr (by omega))) hFr hl (kk G1 T'.heap.size hag1 hLk1 live1 hXG1 (by rw [f1]; omega))
  obtain ⟨t2', a1, b1'⟩ := hW2 T' rfl X'
  exact ⟨t2', st t2' a1, b1'⟩
end AMKN
theorem am_i0_ini {o k0 : Nat} {ini : List Int32} {σ : am_S} (f : Nat) : (am_i0 o k0 ini σ).1 o k0 0 f = ini.getD f 0 := by
  show (if o = o then (if k0 = k0 then (if 0 = 0 then ini.getD f 0 else 0) else 0) else _) = _
  rw [if_pos rfl, if_pos rfl, if_pos rfl]
theorem am_i0_hs {o k0 : Nat} {ini : List Int32} {σ : am_S} {fs : List Nat} (h : ((List.range ini.length).all fun f => fs.contains f || ini.getD f 0 == 0) = true) : ∀ f, fs.contains f = false → (am_i0 o k0 ini σ).1 o k0 0 f = 0 := by
  intro f hf
  rw [am_i0_ini]
  rcases Nat.lt_or_ge f ini.length with q | q
  · have := List.all_eq_true.mp h f (List.mem_range.mpr q)
    rw [hf] at this
    simpa using this
  · rw [List.getD_eq_getElem?_getD, List.getElem?_eq_none q]
    rfl
theorem am_noup {o : Nat} (h : (am_ups.all fun q => !(q.1 == o)) = true) {G : am_G} : ∀ q ∈ am_ups, q.1 = o → G.2.2.2 q.2 = true := fun q hq e => by
  have := List.all_eq_true.mp h q hq
  rw [e] at this
  simp at this
