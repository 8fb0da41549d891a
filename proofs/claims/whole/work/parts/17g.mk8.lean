/-! ===== the reference makes its copies ===== -/
/-- the ghost of a copy is set -/
theorem am_W.gh {G : am_G} {σ : am_S} {U : State} {H : Heap} (h : am_W G σ U H) {f : Nat} : am_W G (am_u σ 99 40 0 f 1) U H := by
  have e1 : ∀ o k i j, o < 19 → (am_u σ 99 40 0 f 1).1 o k i j = σ.1 o k i j := fun o k i j ho => if_neg fun q => by omega
  have hl : ∀ o k, am_ok o k = true → o < 19 := fun o k ho => (am_ok_lt ho).1
  refine ⟨fun o k i hlv => ?_, h.2.1, ⟨fun o h1 h2 => ?_, fun h1 => ?_, fun h1 => ?_⟩, h.2.2.2⟩
  · have h0 := h.1 o k i hlv
    have ho := hl o k hlv.2.1
    unfold am_at at h0 ⊢
    split at h0
    · refine t_OB.to h0 fun g _ => ?_
      unfold am_fv
      split <;> simp only [e1 o _ _ _ ho]
    · simp only [e1 o _ _ _ ho]; exact h0
    · exact h0
    · simp only [e1 o _ _ _ ho]; exact h0
    · exact h0
    · exact h0
    · exact h0
    · trivial
  · rw [e1 o _ _ _ (hl o 40 h2), e1 o _ _ _ (hl o 40 h2)]
    exact h.2.2.1.1 o h1 h2
  · show (if 40 = 40 ∧ 26 = f ∧ 0 = 0 ∧ 99 = 99 then (1 : Int32) else σ.1 99 40 0 26) ≠ 0
    split
    · decide
    · exact h.2.2.1.2.1 h1
  · show (if 40 = 40 ∧ 27 = f ∧ 0 = 0 ∧ 99 = 99 then (1 : Int32) else σ.1 99 40 0 27) ≠ 0
    split
    · decide
    · exact h.2.2.1.2.2 h1
section AMMK
variable {p : Program} {l : Launch} {e : Env} {R : Room} {s : State} {m : MethodId} {args : Array Value} {below : List Frame} {meth : Method} {c : Code} {cc : ByteArray} {own : String} {nL : Nat} {P : am_P} {G : am_G} {A : Nat → Prop} {kc ks : Nat} {Q : State → Prop} {tb : List (Nat × Instr × Nat)}
/-- a field that isn't final of any object -/
theorem am_bputN (X : am_X p s m args c cc own nL P G A) {idx k f a pc : Nat} {H : Heap} {locs : List Loc} {la : Array Slot} {rest : List Value} (hlk : am_lk P.1 idx = some (k, f)) (hk77 : k < 77) (h0 : (am_kd k).1 = 0) (hf : f < (am_kd k).2.1) (hnf : ((am_cl k).2.1 f).2.2.2 = false) {V : Nat → Value}
    (hO : t_OB a (G.1.1 (am_kd k).2.2.2) (am_kd k).2.1 (G.1.2 (am_kd k).2.2.2) H V) {ty : FieldType} {v : Value} (hty : parseFieldDescriptor ((am_cl k).2.1 f).2.2.1 = some ty) (hnw : narrow ty v = v) (hfit : fits ty v = true) (hd : decode cc pc = .ok (.putfield idx, 3))
    (kk : ∀ (H' : Heap) (j : Nat), t_OB a (G.1.1 (am_kd k).2.2.2) (am_kd k).2.1 (G.1.2 (am_kd k).2.2.2) H' (updV V f v) → H'.size = H.size → (∀ q, q ≠ a → H'[q]? = H[q]?) → W p l e R s m args below meth c H' (locs ++ [⟨a, j⟩]) kc ks Q (F0 m (pc + 3) la rest)) : W p l e R s m args below meth c H locs kc ks Q (F0 m pc la (v :: .ref a :: rest)) := by
  obtain ⟨hx, hb, -, hown, hts, -, hU, -⟩ := id X
  obtain ⟨cell, q1, q2, q3, q4⟩ := hO
  have hcl := am_cl_at hk77 h0
  obtain ⟨hS, hfc, kC, hkC, hkind⟩ := id (hU.1.1 _ _ hcl)
  have hfN : f < (am_cl k).2.2 := by rw [am_cl_n k hk77 h0]; exact hf
  obtain ⟨cf, kf, fi, fd, hi, hsl⟩ := hS f hfN
  have hownf := am_cl_own k hk77 h0 f hf
  have hclt := am_cl_lt k hk77 h0
  have hin' : ∀ w ∈ u_ws (am_cl k).1 (am_cl k).2.1 (am_cl k).2.2, w ∈ am_tb := am_lays _ hclt
  have hap := va_apart (own := own) hts hin' (fun f => (parseFieldDescriptor ((am_cl k).2.1 f).2.2.1).getD .int) (fun j hj => by
    have h9 := am_cl_ty _ hclt j hj
    cases e9 : parseFieldDescriptor ((am_cl k).2.1 j).2.2.1 with
    | none => exact absurd (by unfold am_cl at e9; rw [e9] at h9; exact h9) (by decide)
    | some z => rfl) (am_cl_nm _ hclt) hU.1 hcl
  rw [am_cl_n k hk77 h0] at hap
  have hlay := u_lays hts hin' hfN
  have hst := (u_facts hfc hkC hlay hi).1
  have hlay2 := hts _ (hin' _ (u_in_lay hfN))
  have hlink := am_link X hlk
  have hi2 := hi
  rw [hownf] at hi2
  unfold u_lay at hlay2
  rw [if_neg (by rw [hnf]; decide)] at hlay2
  have h6 := u_store hfc hkC hkind hlay2 hi hty hnw hfit
  refine W.putK hx hb (f := fd) (v := v) ⟨hown, hlink, ⟨_, _, _, hi2⟩, hst⟩ (by rw [q2]; exact h6) q1 q3 (by rw [hsl]; exact k2_hasslot (q4 f hf)) rfl rfl hd fun H' e1 e2 e3 => ?_
  rw [hsl] at e1 ⊢
  exact kk H' _ ⟨_, e1, q2, q3, t_set q4 hap hf v⟩ e2 e3
/-- a copy's field set: the world behind it -/
theorem am_W.flag {σ : am_S} {U : State} {H H1 : Heap} {V : Nat → Value} {f o : Nat} (hW : am_W G σ U H) (h5 : am_lv G 5 40 0) (hfo : f = 26 ∧ o = 6 ∨ f = 27 ∧ o = 7) (hlo : G.2.2.2 o = true)
    (hV : am_OB G 40 (am_ad G 5 40 0) H1 (updV V f (.ref (am_ad G o 40 0)))) (hV2 : ∀ g, g < 48 → V g = am_fv G σ 5 40 g) (hz : H1.size = H.size) (oq : ∀ q, q ≠ am_ad G 5 40 0 → H1[q]? = H[q]?) : am_W G (am_u σ 5 40 0 f 1) U H1 := by
  have h0 : (am_kd 40).1 = 0 := by decide +kernel
  have hn : (am_kd 40).2.1 = 48 := by decide +kernel
  refine ⟨fun o' k' i' hl' => ?_, ⟨hW.2.1.1, fun o' k' i' hl' => by rw [hz]; exact hW.2.1.2 o' k' i' hl'⟩, ⟨fun o' h1 h2 => ?_, ?_⟩, hW.2.2.2.kept fun a _ ha => oq a fun e => ha ⟨5, 40, 0, h5, by decide, e⟩⟩
  · by_cases e : o' = 5 ∧ k' = 40 ∧ i' = 0
    · obtain ⟨rfl, rfl, rfl⟩ := e
      rw [am_at0 h0]
      refine t_OB.to hV fun g hg => ?_
      rw [hn] at hg
      unfold updV
      by_cases e : g = f
      · subst e
        rw [if_pos rfl]
        have ef : am_fd 40 g = (3, o, 40) := by rcases hfo with ⟨rfl, rfl⟩ | ⟨rfl, rfl⟩ <;> decide +kernel
        unfold am_fv
        rw [ef]
        show _ = if (am_u σ 5 40 0 g 1).1 5 40 0 g = 0 then Value.null else .ref (am_ad G o 40 0)
        have e1 : (am_u σ 5 40 0 g 1).1 5 40 0 g = 1 := if_pos ⟨rfl, rfl, rfl, rfl⟩
        rw [e1, if_neg (by decide)]
      · rw [if_neg e, hV2 g hg]
        have e1 : (am_u σ 5 40 0 f 1).1 5 40 0 g = σ.1 5 40 0 g := if_neg fun q => e q.2.1
        unfold am_fv
        split <;> simp only [e1]
    · exact am_at.other ((hW.1 o' k' i' hl').kept (oq _ fun q => e (hW.2.1.1 _ _ _ _ _ _ hl' h5 (by decide) q))) e (am_obj0 hl')
  · have h3 := hW.2.2.1.1 o' h1 h2
    constructor
    · intro z
      by_cases e : o' = 5 ∧ f = 26
      · rcases hfo with ⟨-, e2⟩ | ⟨e2, -⟩
        · rw [← e2]; exact hlo
        · omega
      · rw [show (am_u σ 5 40 0 f 1).1 o' 40 0 26 = σ.1 o' 40 0 26 from if_neg fun q => e ⟨q.2.2.2, q.2.1.symm⟩] at z
        exact h3.1 z
    · intro z
      by_cases e : o' = 5 ∧ f = 27
      · rcases hfo with ⟨e2, -⟩ | ⟨-, e2⟩
        · omega
        · rw [← e2]; exact hlo
      · rw [show (am_u σ 5 40 0 f 1).1 o' 40 0 27 = σ.1 o' 40 0 27 from if_neg fun q => e ⟨q.2.2.2, q.2.1.symm⟩] at z
        exact h3.2 z
  · rw [show (am_u σ 5 40 0 f 1).1 99 40 0 26 = σ.1 99 40 0 26 from if_neg fun q => absurd q.2.2.2 (by decide), show (am_u σ 5 40 0 f 1).1 99 40 0 27 = σ.1 99 40 0 27 from if_neg fun q => absurd q.2.2.2 (by decide)]
    exact hW.2.2.1.2
/-- this.f = new SundayIsAPlaceModel(); -/
theorem am_mk8 {d mc ms pc idx3 f o : Nat} {σ σ' : am_S} (hc : am_code cc tb = true) (X : am_X p s m args c cc own nL P G A) (hAs : ∀ q, s.heap.size ≤ q → A q) (q : Nat) (hown : own = RX8)
    (t0 : tb[q]? = some (pc, .aload_n 0, 1)) (t1 : tb[q + 1]? = some (pc + 1, .new 8, 3)) (t2 : tb[q + 2]? = some (pc + 4, .dup, 1)) (t3 : tb[q + 3]? = some (pc + 5, .invokespecial 270, 3)) (t4 : tb[q + 4]? = some (pc + 8, .putfield idx3, 3))
    (hlk : am_lk P.1 idx3 = some (40, f)) (hfo : f = 26 ∧ o = 6 ∨ f = 27 ∧ o = 7) (hg0 : σ.1 99 40 0 f = 0) (hK : am_K l yX8_init cX8_init 2 1 136 1539 o 40 [o] (am_u σ 99 40 0 f 1) σ')
    (hd : Nat.ble 2 d = true) (hkm : kc + 137 ≤ mc ∧ ks + 1587 ≤ ms)
    (kk : ∀ G1 : am_G, am_ag G G1 → am_X p s m args c cc own nL P G1 A → am_A p l e (am_rc d mc ms) s m args below meth c nL G1 A (kc + 137) (ks + 1587) Q (pc + 11, [(0, am_r 5 40 0)], [], am_u σ' 5 40 0 f 1)) : am_A p l e (am_rc d mc ms) s m args below meth c nL G A kc ks Q (pc, [(0, am_r 5 40 0)], [], σ) := by
  subst hown
  obtain ⟨hx, hb, hml, hown', hts, hp, hU, hA⟩ := id X
  obtain ⟨y1, y3, y4, hyR⟩ := yi_X8_init
  unfold am_yR at hyR
  simp only [Bool.and_eq_true, decide_eq_true_eq] at hyR
  obtain ⟨y5, y6, y7, y8⟩ := hyR
  have hdd := Nat.le_of_ble_eq_true hd
  intro H locs la hW hL hF h1 h2 hl
  have h5 : am_lv G 5 40 0 := h1 (0, am_r 5 40 0) List.mem_cons_self
  have hl : lv_has la nL [(0, .ref (am_ad G 5 40 0))] := hl
  have hk0 : (am_kd 40).1 = 0 := by decide +kernel
  have hn48 : (am_kd 40).2.1 = 48 := by decide +kernel
  have hol : G.2.2.2 o = false := by
    cases ho : G.2.2.2 o with
    | false => rfl
    | true =>
      rcases hfo with ⟨rfl, rfl⟩ | ⟨rfl, rfl⟩
      · exact absurd hg0 (hW.2.2.1.2.1 ho)
      · exact absurd hg0 (hW.2.2.1.2.2 ho)
  have ho5 : o ≠ 5 := by rcases hfo with ⟨-, rfl⟩ | ⟨-, rfl⟩ <;> decide
  have a5 := hW.2.1.2 5 40 0 h5
  have hzb : am_ad G 16 99 0 ≤ am_ad G 5 40 0 := hW.2.2.2.2.2.2.2 _ ⟨5, 40, 0, h5, by decide, rfl⟩
  refine lv_aload_n hx hb (am_dea hc t0) rfl (lv_at hl 0 rfl) ?_
  refine am_newW X (y := 40) (N := 48) (C := "SundayIsAPlaceModel") ⟨by decide, hk0, hn48, rfl⟩ aw_1155 aw_882 y3 (am_dea hc t1) ⟨by omega, by omega⟩ fun H1 e1 e2 e3 => ?_
  refine lv_dup hx hb (am_dea hc t2) rfl ?_
  have hW1 : am_W G (am_u σ 99 40 0 f 1) s H1 := (hW.grow (by omega) (fun o' k i hl' => e3 _ (hW.2.1.2 o' k i hl')) (fun q h _ => e3 q h)).gh
  have hM := hK G H1.size H.size (fun q hq => by rw [List.mem_singleton.mp hq]; exact hol) ⟨by omega, by omega, fun o' k i hl' => by have := hW.2.1.2 o' k i hl'; omega⟩
  have hG : GoodIn am_tb (am_ws yX8_init cX8_init 2 none) := fun w hw => by
    unfold am_ws at hw
    have : w ∈ am_tb := by
      rcases List.mem_cons.mp hw with rfl | hw
      · exact y4
      · exact hw
    exact am_tb_good w this
  have hPre : PreS s H1 (va_Pc [.ref H.size] (fun U => U.heap.size = H1.size ∧ am_U G U ∧ am_W G (am_u σ 99 40 0 f 1) U U.heap ∧ am_OB G 40 H.size U.heap (am_df 40))) (.ref H.size :: []) := ⟨am_blindK, fun U hU' hWU => ⟨rfl, by rw [hU'], hU.warm hWU, by rw [hU']; exact hW1.alike hWU.alike, by rw [hU']; exact e1⟩⟩
  have hroom : (am_rc 1 136 1539).frames + 1 ≤ (am_rc d mc ms).frames ∧ 8 + (2 + 11) + (am_rc 1 136 1539).locals ≤ (am_rc d mc ms).locals := ⟨hdd, by show 8 + (2 + 11) + 40 * 1 ≤ 40 * d; omega⟩
  have hrun := va_runI (l := l) (e := e) (R := am_rc d mc ms) (below := below) (meth := meth) (H := H1) (locs := locs) (cells := kc + 1) (slots := ks + 48) (As := []) (rest := [.ref H.size, .ref (am_ad G 5 40 0)]) (g := F0 m (pc + 5) la [.ref H.size, .ref H.size, .ref (am_ad G 5 40 0)]) ⟨hx, hb, hml, hown', hts⟩ hM (cwI (R := am_rc d mc ms) 0 hts hG rfl rfl rfl (hts _ y3) (hts _ ml_X8_270) (hts _ y1) rfl ⟨y5, y6, y7⟩ hroom) hPre rfl rfl hl.1 rfl (by show 2 * 0 + 2 ≤ 8; omega) (am_dea hc t3) ⟨by show kc + 1 + 136 ≤ mc; omega, by show ks + 48 + 1539 ≤ ms; omega⟩
  intro T hT Xs
  obtain ⟨v, st₀, t, T', L, h0, X', hLL, f1, f2, ⟨hv, G1, ag1, cd1, live1, ad1, lk1, w1', sz1, fr1⟩, st⟩ := hrun T hT Xs
  have hv2 : v = none := Outcome.returned.inj hv
  subst hv2
  rw [h0] at sz1 fr1
  have hal : t.vm.Alike s.vm := by rw [← f2]; exact X'.warmed.alike.symm
  have hAF : ∀ q, am_Fc G H.size H1.size q → A q := by
    rintro q (z | z | z)
    · exact hA q z
    · exact hAs q (by rw [z]; exact hF.1)
    · exact hAs q (by omega)
  have hX1 : am_X p s m args c cc RX8 nL P G1 A := ⟨hx, hb, hml, hown', hts, hp, ag1.U cd1 hU, fun q hq => hAF q (am_LkA ag1 lk1 q hq)⟩
  have hW2 : am_W G1 σ' s T'.heap := by rw [f1]; exact w1'.alike hal
  have l5 : am_lv G1 5 40 0 := ag1.lv h5
  have a51 : am_ad G1 5 40 0 = am_ad G 5 40 0 := (ag1.2.2 5 h5.1).2 40 0
  have hat := hW2.1 5 40 0 l5
  rw [am_at0 hk0] at hat
  have hlo : G1.2.2.2 o = true := by rw [live1]; simp
  have hf48 : f < (am_kd 40).2.1 := by rw [hn48]; rcases hfo with ⟨rfl, -⟩ | ⟨rfl, -⟩ <;> decide
  have hty : parseFieldDescriptor ((am_cl 40).2.1 f).2.2.1 = some (.object "SundayIsAPlaceModel") := by rcases hfo with ⟨rfl, -⟩ | ⟨rfl, -⟩ <;> decide +kernel
  have hnf : ((am_cl 40).2.1 f).2.2.2 = false := by rcases hfo with ⟨rfl, -⟩ | ⟨rfl, -⟩ <;> decide +kernel
  have hFr : s.heap.size ≤ T'.heap.size ∧ ∀ q, q < s.heap.size → ¬ A q → T'.heap[q]? = s.heap[q]? := by
    rw [f1]
    refine ⟨Nat.le_trans hF.1 (by omega), fun q h1 h2 => ?_⟩
    have := hF.1
    rw [fr1 q (by omega) (fun z => h2 (hAF q z)), e3 q (by omega)]
    exact hF.2 q h1 h2
  rw [a51] at hat
  have hfin := am_bputN hX1 (meth := meth) (below := below) (l := l) (e := e) (R := am_rc d mc ms) (Q := Q) (kc := kc + 1 + 136) (ks := ks + 48 + 1539) (locs := locs ++ L) (la := la) (rest := []) hlk (by decide) hk0 hf48 hnf hat (v := .ref H.size) hty rfl rfl (am_dea hc t4) fun H' j g1 g2 g3 => by
    refine kk G1 ag1 hX1 H' _ la (hW2.flag l5 hfo hlo (V := fun g => am_fv G1 σ' 5 40 g) ?_ (fun g _ => rfl) g2 (fun q hq => g3 q (by rw [← a51]; exact hq))) (fun q hq => ?_) ⟨by rw [g2]; exact hFr.1, fun q h1 h2 => (g3 q fun z => h2 (by rw [z]; exact hA _ ⟨5, 40, 0, h5, by decide, rfl⟩)).trans (hFr.2 q h1 h2)⟩ (fun q hq => ?_) (fun v hv => by cases hv) ?_
    · rw [a51, ad1]
      exact g1
    · rcases List.mem_append.mp hq with h | h
      · rcases List.mem_append.mp h with h | h
        · exact hL q h
        · exact hAF _ (hLL q h)
      · rw [List.mem_singleton.mp h]
        exact hA _ ⟨5, 40, 0, h5, by decide, rfl⟩
    · rw [List.mem_singleton.mp hq]
      exact l5
    · show lv_has la nL [(0, .ref (am_ad G1 5 40 0))]
      rw [a51]
      exact hl
  obtain ⟨t2', a1, b1'⟩ := hfin T' rfl X'
  exact ⟨t2', st t2' a1, b1'⟩
end AMMK
