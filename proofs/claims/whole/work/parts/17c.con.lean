/-- a group in building: H is b + n cells, the object at a has the fields fs set, n cells of rows are made from b on -/
def am_Bd (G : am_G) (s : State) (o k0 a b n : Nat) (fs : List Nat) (σ : am_S) (H : Heap) : Prop :=
  H.size = b + n ∧ (a < b ∧ s.heap.size ≤ b ∧ am_ad G 16 99 0 ≤ a ∧ ∀ o' k i, am_lv G o' k i → am_ad G o' k i ≠ a ∧ am_ad G o' k i < b) ∧ am_W G σ s H ∧
  (∃ V, am_OB G k0 a H V ∧ ∀ f, V f = if fs.contains f then am_fv (am_nG G o k0 a b) σ o k0 f else am_df k0 f) ∧
  ∀ k i, am_ok o k = true → k ≠ k0 → i < (am_kd k).2.2.1 → am_of k0 k + i < n → am_at (am_nG G o k0 a b) σ o k i H
def am_BA (p : Program) (l : Launch) (e : Env) (R : Room) (s : State) (m : MethodId) (args : Array Value) (below : List Frame) (meth : Method) (c : Code) (nL : Nat) (G : am_G) (A : Nat → Prop) (o k0 a : Nat) (σ : am_S) (kc ks : Nat) (Q : State → Prop) (pc b n : Nat) (fs : List Nat) : Prop :=
  ∀ (H : Heap) (locs : List Loc) (la : Array Slot), am_Bd G s o k0 a b n fs σ H → (∀ q ∈ locs, A q.base) → (s.heap.size ≤ H.size ∧ ∀ q, q < s.heap.size → ¬ A q → H[q]? = s.heap[q]?) → lv_has la nL [(0, .ref a)] → W p l e R s m args below meth c H locs kc ks Q (F0 m pc la [])
/-- what a constructor may write: besides what any method may, its object and what is new -/
def am_Fc (G0 : am_G) (a sz : Nat) : Nat → Prop := fun q => am_fr G0 q ∨ q = a ∨ sz ≤ q
def am_Qk (G0 : am_G) (sz a o k0 : Nat) (news : List Nat) (σ : am_S) : Array Value → State → Outcome → State → Prop := fun _ st oc t =>
  oc = .returned none ∧ ∃ G : am_G, am_ag G0 G ∧ am_cd G ∧ (∀ o', G.2.2.2 o' = (G0.2.2.2 o' || news.contains o')) ∧ am_ad G o k0 0 = a ∧ (∀ o' k i, am_lv G o' k i → am_lv G0 o' k i ∨ am_ad G o' k i = a ∨ sz ≤ am_ad G o' k i) ∧
    am_W G σ t t.heap ∧ st.heap.size ≤ t.heap.size ∧ ∀ q, q < st.heap.size → ¬ am_Fc G0 a sz q → t.heap[q]? = st.heap[q]?
/-- A CONSTRUCTOR'S CONTRACT -/
def am_K (l : Launch) (y : MethodName) (cc : ByteArray) (nL d mc ms o k0 : Nat) (news : List Nat) (σ σ' : am_S) : Prop :=
  ∀ (G : am_G) (sz a : Nat), (∀ q ∈ news, G.2.2.2 q = false) → (am_ad G 16 99 0 ≤ a ∧ a < sz ∧ ∀ o' k i, am_lv G o' k i → am_ad G o' k i ≠ a) →
    Met l y (am_ws y cc nL none) (am_rc d mc ms) (va_Pc [.ref a] (fun U => U.heap.size = sz ∧ am_U G U ∧ am_W G σ U U.heap ∧ am_OB G k0 a U.heap (am_df k0))) (am_Qk G sz a o k0 news σ') mc ms (am_Fc G a sz)
theorem am_blindK {G : am_G} {σ : am_S} {sz k0 a : Nat} {av : List Value} : FrameBlind (va_Pc av (fun U => U.heap.size = sz ∧ am_U G U ∧ am_W G σ U U.heap ∧ am_OB G k0 a U.heap (am_df k0))) := fun a U g mk h => by
  obtain ⟨h1, h0, h2, h3, h4⟩ := h
  exact ⟨h1, h0, am_U.same (u := U) (U := U.calling g mk a) rfl h2, am_W.alike (u := U) (U := U.calling g mk a) (Vm.Alike.refl U.vm) h3, h4⟩
/-- the contents that a group begins with: its object's ints -/
def am_i0 (o k0 : Nat) (ini : List Int32) (σ : am_S) : am_S :=
  (fun o' k i j => if o' = o then (if k = k0 then (if i = 0 then ini.getD j 0 else 0) else 0) else σ.1 o' k i j, fun o' k i j => if o' = o then 0 else σ.2 o' k i j)
theorem am_K_of {l : Launch} {y : MethodName} {cc : ByteArray} {nL d mc ms o k0 : Nat} {news : List Nat} {σ σ' : am_S} {P : am_P} {tb : List (Nat × Instr × Nat)} {idx : Nat} (ini : List Int32) (hy : plainName y.cls = true) (hp : am_pok y.cls P = true) (hnL : Nat.ble 1 nL = true) (hin : y.name = "<init>") (hoi : am_oi y.cls idx) (hc : am_code cc tb = true) (h0 : tb[0]? = some (0, .aload_n 0, 1)) (h1 : tb[1]? = some (1, .invokespecial idx, 3)) (hd : Nat.ble 1 d = true) (hon : o ∈ news) (h99 : o ≠ 99)
    (body : ∀ (G : am_G) (p : Program) (e : Env) (s : State) (m : MethodId) (args : Array Value) (below : List Frame) (meth : Method) (c : Code) (a : Nat), am_X p s m args c cc y.cls nL P G (am_Fc G a s.heap.size) → (meth.sig.returnType = none ∧ meth.locks = false) → meth.name = "<init>" → (∀ q ∈ news, G.2.2.2 q = false) →
      am_BA p l e (am_rc d mc ms) s m args below meth c nL G (am_Fc G a s.heap.size) o k0 a (am_i0 o k0 ini σ) 0 0 (MQ below (am_Qk G s.heap.size a o k0 news σ') args s mc ms (am_Fc G a s.heap.size)) 4 s.heap.size 0 []) : am_K l y cc nL d mc ms o k0 news σ σ' := by
  intro G sz a hnew ha
  refine Met.ofW (cc := cc) (maxL := nL) (ret := none) hy rfl ?_
  intro p e s m args below meth c s₁ B hml hv
  obtain ⟨rfl, rfl, hU, hW, hO⟩ := hv
  have hts := atoms_spec (ws := am_ws y cc nL none) B.pre
  have hown : s.vm.findClass y.cls = some m.cls := findClass_of_methodNamed B.named
  have hnm : meth.name = "<init>" := (name_of_methodNamed B.named B.method).1.trans hin
  have hts' : ∀ w ∈ am_tb, w.before ([Value.ref a].toArray) s = true := fun w hw => hts w (List.mem_cons_of_mem _ hw)
  have hb := body G p e s m _ below meth c a ⟨B.exec, B.bytes, hml, hown, hts', hp, hU, fun _ h => Or.inl h⟩ ⟨B.returns, B.notSynchronized⟩ hnm hnew
  have hl := lv_entry ([.ref a]) (n := nL) (Nat.le_of_ble_eq_true hnL)
  rw [lg_entry_eq]
  generalize (lg_sl ([.ref a]) ++ List.replicate (nL - (lg_sl ([.ref a])).length) Slot.unset).toArray = ls at hl ⊢
  have hl : lv_has ls nL [(0, .ref a)] := hl
  have ho : G.2.2.2 o = false := hnew o hon
  refine lv_aload_n B.exec B.bytes (am_dea hc h0) rfl (lv_at hl 0 rfl) ?_
  refine W.objInit B.exec B.bytes hown (hts' _ hoi.1) (hts' _ hoi.2.1) (hts' _ hoi.2.2) rfl (hl.1.trans hml.symm) rfl (am_dea hc h1) (Nat.le_of_ble_eq_true hd) (by
    have := Nat.le_of_ble_eq_true hd
    show 2 * 0 + 0 + 12 ≤ 40 * d
    omega) ?_
  refine hb s.heap [] ls ⟨rfl, ⟨ha.2.1, Nat.le_refl _, ha.1, fun o' k i hl' => ⟨ha.2.2 o' k i hl', hW.2.1.2 o' k i hl'⟩⟩, hW.sig fun o' ho' k i j => ?_, ⟨_, hO, fun f => rfl⟩, fun k i _ _ _ h => absurd h (Nat.not_lt_zero _)⟩ (fun q hq => by cases hq) ⟨Nat.le_refl _, fun _ _ _ => rfl⟩ hl
  have hne : o' ≠ o := fun e => by
    rw [e, ho] at ho'
    rcases ho' with z | z
    · cases z
    · exact h99 z
  exact ⟨if_neg hne, if_neg hne⟩
/-- a constant on the stack -/
def am_pv (i : Instr) (n : Nat) : Option Int32 := match i, n with
  | .iconst z, 1 => some (Int32.ofInt z)
  | .bipush z, 2 => some (Int8.ofInt z).toInt32
  | .sipush z, 3 => some (Int16.ofInt z).toInt32
  | _, _ => none
section AMKR
variable {p : Program} {l : Launch} {e : Env} {R : Room} {s : State} {m : MethodId} {args : Array Value} {below : List Frame} {meth : Method} {c : Code} {cc : ByteArray} {own : String} {nL : Nat} {P : am_P} {G : am_G} {A : Nat → Prop} {kc ks : Nat} {Q : State → Prop} {tb : List (Nat × Instr × Nat)} {o k0 a b n : Nat} {fs : List Nat} {σ : am_S}
theorem am_pvW (hx : p.tables.exec = Jvm.exec) (hb : c.code = cc) {pc n : Nat} {i : Instr} {v : Int32} {H : Heap} {locs : List Loc} {la : Array Slot} {rest : List Value} (hd : decode cc pc = .ok (i, n)) (hv : am_pv i n = some v)
    (k : W p l e R s m args below meth c H locs kc ks Q (F0 m (pc + n) la (.int v :: rest))) : W p l e R s m args below meth c H locs kc ks Q (F0 m pc la rest) := by
  unfold am_pv at hv
  split at hv
  · cases hv; exact lv_iconst hx hb hd rfl k
  · cases hv; exact lv_bipush hx hb hd rfl k
  · cases hv; exact lv_sipush hx hb hd rfl k
  · cases hv
/-- a field's value behind its being set -/
theorem am_Bv {V : Nat → Value} {G1 : am_G} {f : Nat} {v : Value} (h : ∀ f, V f = if fs.contains f then am_fv G1 σ o k0 f else am_df k0 f) (hv : v = am_fv G1 σ o k0 f) : ∀ g, updV V f v g = if (f :: fs).contains g then am_fv G1 σ o k0 g else am_df k0 g := by
  intro g
  unfold updV
  by_cases e : g = f
  · subst e
    rw [if_pos rfl, if_pos (by simp), hv]
  · rw [if_neg e, h g]
    have : (f :: fs).contains g = fs.contains g := by simp [e]
    rw [this]
theorem am_Bput (X : am_X p s m args c cc own nL P G A) (hin : meth.name = "<init>") {idx f pc : Nat} (hlk : am_lk P.1 idx = some (k0, f)) (hk : (Nat.ble (k0 + 1) 77 && (Nat.beq (am_kd k0).1 0 && Nat.ble (f + 1) (am_kd k0).2.1)) = true) (hown : own = (am_cl k0).1) {ty : FieldType} {v : Value} (hty : parseFieldDescriptor ((am_cl k0).2.1 f).2.2.1 = some ty) (hnw : narrow ty v = v) (hfit : fits ty v = true) (hd : decode cc pc = .ok (.putfield idx, 3)) {H : Heap} {locs : List Loc} {la : Array Slot}
    (hB : am_Bd G s o k0 a b n fs σ H) (hv : v = am_fv (am_nG G o k0 a b) σ o k0 f) (hA : A a) (hL : ∀ q ∈ locs, A q.base) (hF : s.heap.size ≤ H.size ∧ ∀ q, q < s.heap.size → ¬ A q → H[q]? = s.heap[q]?) (hl : lv_has la nL [(0, .ref a)])
    (kk : am_BA p l e R s m args below meth c nL G A o k0 a σ kc ks Q (pc + 3) b n (f :: fs)) : W p l e R s m args below meth c H locs kc ks Q (F0 m pc la [v, .ref a]) := by
  simp only [Bool.and_eq_true] at hk
  obtain ⟨b1, ⟨b2, b3, bz, b4⟩, b5, ⟨V, b6, b7⟩, b8⟩ := hB
  refine am_bput X hin hlk (Nat.le_of_ble_eq_true hk.1) (Nat.eq_of_beq_eq_true hk.2.1) (Nat.le_of_ble_eq_true hk.2.2) hown b6 hty hnw hfit hd fun H' j e1 e2 e3 => ?_
  refine kk H' _ la ⟨e2.trans b1, ⟨b2, b3, bz, b4⟩, b5.grow (Nat.le_of_eq e2.symm) (fun o' k i hl' => e3 _ (b4 o' k i hl').1) (fun q _ hq => e3 q fun z => hq (by rw [z]; exact bz)), ⟨_, e1, am_Bv b7 hv⟩, fun k i h1 h2 h3 h4 => (b8 k i h1 h2 h3 h4).kept (e3 _ (by rw [am_nG_o h2]; omega))⟩ (fun q hq => ?_) ⟨by rw [e2]; exact hF.1, fun q h1 h2 => (e3 q fun z => h2 (z ▸ hA)).trans (hF.2 q h1 h2)⟩ hl
  rcases List.mem_append.mp hq with h | h
  · exact hL q h
  · rw [List.mem_singleton.mp h]
    exact hA
/-- this.f = a number; -/
theorem am_Bint (hc : am_code cc tb = true) (X : am_X p s m args c cc own nL P G A) (hin : meth.name = "<init>") (hA : A a) (hown : own = (am_cl k0).1) (q : Nat) {pc idx f d : Nat} {i : Instr} {v : Int32} (t0 : tb[q]? = some (pc, .aload_n 0, 1)) (t1 : tb[q + 1]? = some (pc + 1, i, d)) (hv : am_pv i d = some v) (t2 : tb[q + 2]? = some (pc + 1 + d, .putfield idx, 3)) (hlk : am_lk P.1 idx = some (k0, f)) (hk : (Nat.ble (k0 + 1) 77 && (Nat.beq (am_kd k0).1 0 && Nat.ble (f + 1) (am_kd k0).2.1)) = true)
    (hf : (am_fd k0 f).1 = 0 ∧ ((am_cl k0).2.1 f).2.2.1 = "I" ∨ (am_fd k0 f).1 = 5 ∧ ((am_cl k0).2.1 f).2.2.1 = "Z" ∧ v = 0) (hs : σ.1 o k0 0 f = v) {pc2 : Nat} (hpc : pc2 = pc + 1 + d + 3)
    (kk : am_BA p l e R s m args below meth c nL G A o k0 a σ kc ks Q pc2 b n (f :: fs)) : am_BA p l e R s m args below meth c nL G A o k0 a σ kc ks Q pc b n fs := by
  subst hpc
  intro H locs la hB hL hF hl
  have hfv : Value.int v = am_fv (am_nG G o k0 a b) σ o k0 f := by
    unfold am_fv
    generalize am_fd k0 f = z at hf
    obtain ⟨t, x, y⟩ := z
    rcases hf with ⟨e, -⟩ | ⟨e, -⟩
    · have e : t = 0 := e
      subst e; exact congrArg Value.int hs.symm
    · have e : t = 5 := e
      subst e; exact congrArg Value.int hs.symm
  refine lv_aload_n X.1 X.2.1 (am_dea hc t0) rfl (lv_at hl 0 rfl) ?_
  refine am_pvW X.1 X.2.1 (am_dea hc t1) hv ?_
  rcases hf with ⟨-, e⟩ | ⟨-, e, e2⟩
  · exact am_Bput X hin hlk hk hown (ty := .int) (by rw [e]; decide) rfl rfl (am_dea hc t2) hB hfv hA hL hF hl kk
  · exact am_Bput X hin hlk hk hown (ty := .boolean) (by rw [e]; decide) (by rw [e2]; rfl) (by rw [e2]; rfl) (am_dea hc t2) hB hfv hA hL hF hl kk
/-- which rows are made by one 'new' -/
def am_ck1 (o k0 n kk : Nat) : Bool := (am_okl.getD o []).all (fun k => k == k0 || (Nat.ble (am_of k0 k + (am_kd k).2.2.1) n || (Nat.ble (n + 1) (am_of k0 k) || k == kk))) && (Nat.beq (am_of k0 kk) n && (Nat.beq (am_kd kk).2.2.1 1 && (am_ok o kk && !(kk == k0))))
def am_ck2 (o k0 n kk N : Nat) : Bool := (am_okl.getD o []).all (fun k => k == k0 || (Nat.ble (am_of k0 k + (am_kd k).2.2.1) n || (Nat.ble (n + 1 + N) (am_of k0 k) || (k == kk || k == kk + 1)))) && (Nat.beq (am_of k0 kk) n && (Nat.beq (am_of k0 (kk + 1)) (n + 1) && (Nat.beq (am_kd kk).2.2.1 1 && (Nat.beq (am_kd (kk + 1)).2.2.1 N && (am_ok o kk && (am_ok o (kk + 1) && (!(kk == k0) && (!(kk + 1 == k0) && (Nat.beq (am_kd kk).2.1 N && Nat.beq (am_kd kk).2.2.2 (kk + 1))))))))))
theorem am_okl_mem {o k : Nat} (h : am_ok o k = true) : k ∈ am_okl.getD o [] := List.contains_iff_mem.mp h
theorem am_Bgrow {H H' : Heap} {n' : Nat} (hB : am_Bd G s o k0 a b n fs σ H) (hz : H'.size = H.size + n') (hq : ∀ q, q < H.size → H'[q]? = H[q]?)
    (hnew : ∀ k i, am_ok o k = true → k ≠ k0 → i < (am_kd k).2.2.1 → n ≤ am_of k0 k + i → am_of k0 k + i < n + n' → am_at (am_nG G o k0 a b) σ o k i H') : am_Bd G s o k0 a b (n + n') fs σ H' := by
  obtain ⟨b1, ⟨b2, b3, bz, b4⟩, b5, ⟨V, b6, b7⟩, b8⟩ := hB
  refine ⟨by omega, ⟨b2, b3, bz, b4⟩, b5.grow (by omega) (fun o' k i hl' => hq _ (b5.2.1.2 o' k i hl')) (fun q h _ => hq q h), ⟨V, b6.kept (hq _ (by omega)), b7⟩, fun k i h1 h2 h3 h4 => ?_⟩
  by_cases e : am_of k0 k + i < n
  · exact (b8 k i h1 h2 h3 e).kept (hq _ (by rw [am_nG_o h2]; omega))
  · exact hnew k i h1 h2 h3 (by omega) h4
/-- this.f = new int[N]; -/
theorem am_Barr (hc : am_code cc tb = true) {d mc ms : Nat} (X : am_X p s m args c cc own nL P G A) (hin : meth.name = "<init>") (hA : A a) (hown : own = (am_cl k0).1) (q : Nat) {pc idx f kk N d1 : Nat} {i : Instr} {v : Int32} (L : Bool)
    (t0 : tb[q]? = some (pc, .aload_n 0, 1)) (t1 : tb[q + 1]? = some (pc + 1, i, d1)) (hv : am_pv i d1 = some v) (t2 : tb[q + 2]? = some (pc + 1 + d1, .newarray (if L then .long else .int), 2)) (t3 : tb[q + 3]? = some (pc + 1 + d1 + 2, .putfield idx, 3))
    (hlk : am_lk P.1 idx = some (k0, f)) (hk : (Nat.ble (k0 + 1) 77 && (Nat.beq (am_kd k0).1 0 && Nat.ble (f + 1) (am_kd k0).2.1)) = true) (hvn : ¬ v < 0 ∧ v.toNatClampNeg = N ∧ Nat.ble N 1000 = true) (hf : am_fd k0 f = (1, kk, 0) ∧ ((am_cl k0).2.1 f).2.2.1 = (if L then "[J" else "[I")) (hkk : (am_kd kk).1 = (if L then 2 else 1) ∧ (am_kd kk).2.1 = N) (ck : am_ck1 o k0 n kk = true)
    (hs : ∀ i j, σ.1 o kk i j = 0 ∧ σ.2 o kk i j = 0) (hkm : (Nat.ble (kc + 1) mc && Nat.ble (ks + N) ms) = true) {pc2 n2 kc2 ks2 : Nat} (hpc : pc2 = pc + 1 + d1 + 2 + 3) (hn2 : n2 = n + 1) (hkc : kc2 = kc + 1) (hks : ks2 = ks + N)
    (kk' : am_BA p l e (am_rc d mc ms) s m args below meth c nL G A o k0 a σ kc2 ks2 Q pc2 b n2 (f :: fs)) : am_BA p l e (am_rc d mc ms) s m args below meth c nL G A o k0 a σ kc ks Q pc b n fs := by
  subst hpc; subst hn2; subst hkc; subst hks
  intro H locs la hB hL hF hl
  rw [Bool.and_eq_true] at hkm
  refine lv_aload_n X.1 X.2.1 (am_dea hc t0) rfl (lv_at hl 0 rfl) ?_
  refine am_pvW X.1 X.2.1 (am_dea hc t1) hv ?_
  unfold am_ck1 at ck
  simp only [Bool.and_eq_true] at ck
  obtain ⟨c1, c2, c3, c4, c5⟩ := ck
  have c2 := Nat.eq_of_beq_eq_true c2
  have c3 := Nat.eq_of_beq_eq_true c3
  have c5 : kk ≠ k0 := fun e => by rw [e] at c5; simp at c5
  have b1 := hB.1
  have hat : ∀ H' : Heap, H'[H.size]? = some (if L then arrV (G.2.1 1) N (fun _ => .long 0) else arrV (G.2.1 0) N (fun _ => .int 0)) → H'.size = H.size + 1 → (∀ q, q < H.size → H'[q]? = H[q]?) → am_Bd G s o k0 a b (n + 1) fs σ H' := by
    intro H' g1 g2 g3
    refine am_Bgrow hB g2 g3 fun k i h1 h2 h3 h4 h5 => ?_
    have hk1 := List.all_eq_true.mp c1 k (am_okl_mem h1)
    simp only [Bool.or_eq_true, beq_iff_eq] at hk1
    have ek : k = kk := by
      rcases hk1 with z | z | z | z
      · exact absurd z h2
      · have := Nat.le_of_ble_eq_true z; omega
      · have := Nat.le_of_ble_eq_true z; omega
      · exact z
    subst ek
    have ei : i = 0 := by omega
    subst ei
    have ead : am_ad (am_nG G o k0 a b) o k 0 = H.size := by rw [am_nG_o c5]; omega
    cases L
    · rw [am_at1 hkk.1, ead, g1, hkk.2]
      show some (arrV (G.2.1 0) N fun _ => Value.int 0) = some (arrV (G.2.1 0) N fun j => Value.int (σ.1 o k 0 j))
      exact congrArg some (am_arrV_ext fun j _ => by rw [(hs 0 j).1])
    · rw [am_at2 hkk.1, ead, g1, hkk.2]
      show some (arrV (G.2.1 1) N fun _ => Value.long 0) = some (arrV (G.2.1 1) N fun j => Value.long (σ.2 o k 0 j))
      exact congrArg some (am_arrV_ext fun j _ => by rw [(hs 0 j).2])
  have hfv : Value.ref H.size = am_fv (am_nG G o k0 a b) σ o k0 f := by
    unfold am_fv
    rw [hf.1]
    show Value.ref H.size = .ref (am_ad (am_nG G o k0 a b) o kk 0)
    rw [am_nG_o c5]
    exact congrArg Value.ref (by omega : H.size = b + am_of k0 kk + 0)
  cases L
  · refine am_bnewI X aw_80 hvn.1 hvn.2.1 (Nat.le_of_ble_eq_true hvn.2.2) ⟨Nat.le_of_ble_eq_true hkm.1, Nat.le_of_ble_eq_true hkm.2⟩ (am_dea hc t2) fun H' g1 g2 g3 => ?_
    refine am_Bput X hin hlk hk hown (ty := .array .int) (by rw [hf.2]; decide) rfl rfl (am_dea hc t3) (hat H' g1 g2 g3) hfv hA hL ⟨by omega, fun q h1 h2 => (g3 q (by omega)).trans (hF.2 q h1 h2)⟩ hl kk'
  · refine am_bnewL X aw_103 hvn.1 hvn.2.1 (Nat.le_of_ble_eq_true hvn.2.2) ⟨Nat.le_of_ble_eq_true hkm.1, Nat.le_of_ble_eq_true hkm.2⟩ (am_dea hc t2) fun H' g1 g2 g3 => ?_
    refine am_Bput X hin hlk hk hown (ty := .array .long) (by rw [hf.2]; decide) rfl rfl (am_dea hc t3) (hat H' g1 g2 g3) hfv hA hL ⟨by omega, fun q h1 h2 => (g3 q (by omega)).trans (hF.2 q h1 h2)⟩ hl kk'
/-- new T[N][K]: the outer row, the inner ones behind it -/
def am_bt (t : Nat) : FieldType := match t with
  | 0 => .int
  | 1 => .long
  | _ => .boolean
theorem am_bmna {d mc ms : Nat} (X : am_X p s m args c cc own nL P G A) {pc idx N K t : Nat} {n k : Int32} (ht : Nat.ble (t + 1) 3 = true) (hw : Cond.arrayClass (am_bt t) ∈ am_tb) (hcl : Cond.classLink own idx ("[" ++ (FieldType.array (am_bt t)).toString) ∈ am_tb) (hn : ¬ n < 0 ∧ n.toNatClampNeg = N ∧ Nat.ble N 1000 = true) (hkv : ¬ k < 0 ∧ k.toNatClampNeg = K ∧ Nat.ble K 1000 = true) (hkm : kc + (1 + N) ≤ mc ∧ ks + (N + N * K) ≤ ms) (hd : decode cc pc = .ok (.multianewarray idx 2, 4)) {H : Heap} {locs : List Loc} {la : Array Slot} {rest : List Value}
    (kk : ∀ H' : Heap, H'.size = H.size + (1 + N) → H'[H.size]? = some (arrV (G.2.1 (t + 3)) N (fun j => .ref (H.size + 1 + j))) → (∀ j, j < N → H'[H.size + 1 + j]? = some (arrV (G.2.1 t) K (fun _ => defaultValue (am_bt t)))) → (∀ q, q < H.size → H'[q]? = H[q]?) → W p l e (am_rc d mc ms) s m args below meth c H' locs (kc + 1 + N) (ks + N + N * K) Q (F0 m (pc + 4) la (.ref H.size :: rest))) : W p l e (am_rc d mc ms) s m args below meth c H locs kc ks Q (F0 m pc la (.int k :: .int n :: rest)) := by
  obtain ⟨hx, hb, -, hown, hts, -, hU, -⟩ := id X
  obtain ⟨n1, n2, n3⟩ := hn
  obtain ⟨k1, k2, k3⟩ := hkv
  have n3 := Nat.le_of_ble_eq_true n3
  have k3 := Nat.le_of_ble_eq_true k3
  subst n2; subst k2
  have h3 : t = 0 ∨ t = 1 ∨ t = 2 := by have := Nat.le_of_ble_eq_true ht; omega
  have hcb : componentBytes (am_bt t) ≤ 8 := by rcases h3 with rfl | rfl | rfl <;> decide
  have hmem : am_bt t ∈ [FieldType.int, .long, .boolean] := by rcases h3 with rfl | rfl | rfl <;> simp [am_bt]
  have hI : s.vm.findClass (FieldType.array (am_bt t)).toString = some (G.2.1 t) := by
    rcases h3 with rfl | rfl | rfl
    · exact (hU.1.2 0 _ rfl).2
    · exact (hU.1.2 1 _ rfl).2
    · exact (hU.1.2 2 _ rfl).2
  have hO : s.vm.findClass ("[" ++ (FieldType.array (am_bt t)).toString) = some (G.2.1 (t + 3)) := by
    rcases h3 with rfl | rfl | rfl
    · exact (hU.1.2 3 _ rfl).2
    · exact (hU.1.2 4 _ rfl).2
    · exact (hU.1.2 5 _ rfl).2
  intro T hT Xs
  obtain ⟨vm₁, cA, comp, -, fA, fC, -, -, X', step⟩ := Xs.multianewarray2F hx hown (hts _ hcl) (hU.2.2.2.1.2.2 _ hmem) (hts _ hw) (g := F0 m pc la (.int k :: .int n :: rest)) rfl (by rw [hb]; exact hd) rfl n1 k1 (by omega) (by
      have := Nat.mul_le_mul k3 hcb
      omega) (by omega) (by rcases h3 with rfl | rfl | rfl <;> rfl) (by rcases h3 with rfl | rfl | rfl <;> rfl) hkm.1 hkm.2
  have ec := Option.some.inj (fC.symm.trans hI)
  subst ec
  have eA := Option.some.inj (fA.symm.trans hO)
  subst eA
  generalize hF : Jvm.Free.Multi.fill (T.setVm vm₁) (G.2.1 (t + 3)) (G.2.1 t) n.toNatClampNeg k.toNatClampNeg (defaultValue (am_bt t)) n.toNatClampNeg = F at X' step
  have hTh : (T.setVm vm₁).heap = H := hT
  obtain ⟨f1, f2, -, -⟩ := Jvm.Free.Multi.fill_facts (T.setVm vm₁) (G.2.1 (t + 3)) (G.2.1 t) n.toNatClampNeg k.toNatClampNeg (defaultValue (am_bt t)) n.toNatClampNeg
  rw [hF, hTh] at f1 f2
  have hold : ∀ x : Nat, x < H.size → F.heap[x]? = H[x]? := fun x hx => by
    have := Jvm.Free.Multi.fill_old (T.setVm vm₁) (G.2.1 (t + 3)) (G.2.1 t) n.toNatClampNeg k.toNatClampNeg (defaultValue (am_bt t)) (a := x) (by rw [hTh]; exact hx) n.toNatClampNeg
    rw [hF, hTh] at this
    exact this
  have hrow : ∀ j : Nat, j < n.toNatClampNeg → F.heap[H.size + 1 + j]? = some (arrV (G.2.1 t) k.toNatClampNeg (fun _ => defaultValue (am_bt t))) := fun j hj => by
    have := Jvm.Free.Multi.fill_inner (T.setVm vm₁) (G.2.1 (t + 3)) (G.2.1 t) n.toNatClampNeg k.toNatClampNeg (defaultValue (am_bt t)) n.toNatClampNeg j hj
    rw [hF, hTh] at this
    rw [this, ← arrV_new]
    rfl
  rw [am_orow] at f2
  have f3 : F.heap[H.size]? = some (arrV (G.2.1 (t + 3)) n.toNatClampNeg (fun j => .ref (H.size + 1 + j))) := by
    rw [f2]
    exact congrArg some (am_arrV_ext fun j hj => by rw [if_pos hj]; rfl)
  obtain ⟨t2, a1, b1⟩ := kk F.heap (by rw [f1]; omega) f3 hrow hold F rfl X'
  refine ⟨t2, step t2 ?_, b1⟩
  have e : T.heap.size = H.size := by rw [hT]
  rw [e]
  exact a1
/-- this.f = new T[N][K]; -/
theorem am_Bmul (hc : am_code cc tb = true) {d mc ms : Nat} (X : am_X p s m args c cc own nL P G A) (hin : meth.name = "<init>") (hA : A a) (hown : own = (am_cl k0).1) (q : Nat) {pc idx ix f kk N K d1 d2 t : Nat} {i1 i2 : Instr} {v1 v2 : Int32}
    (t0 : tb[q]? = some (pc, .aload_n 0, 1)) (t1 : tb[q + 1]? = some (pc + 1, i1, d1)) (hv1 : am_pv i1 d1 = some v1) (t2 : tb[q + 2]? = some (pc + 1 + d1, i2, d2)) (hv2 : am_pv i2 d2 = some v2) (t3 : tb[q + 3]? = some (pc + 1 + d1 + d2, .multianewarray ix 2, 4)) (t4 : tb[q + 4]? = some (pc + 1 + d1 + d2 + 4, .putfield idx, 3))
    (hlk : am_lk P.1 idx = some (k0, f)) (hk : (Nat.ble (k0 + 1) 77 && (Nat.beq (am_kd k0).1 0 && Nat.ble (f + 1) (am_kd k0).2.1)) = true) (ht : Nat.ble (t + 1) 3 = true) (hw : Cond.arrayClass (am_bt t) ∈ am_tb) (hcl : Cond.classLink own ix ("[" ++ (FieldType.array (am_bt t)).toString) ∈ am_tb)
    (hvn : ¬ v1 < 0 ∧ v1.toNatClampNeg = N ∧ Nat.ble N 1000 = true) (hvk : ¬ v2 < 0 ∧ v2.toNatClampNeg = K ∧ Nat.ble K 1000 = true) (hf : am_fd k0 f = (1, kk, 0) ∧ ((am_cl k0).2.1 f).2.2.1 = "[" ++ (FieldType.array (am_bt t)).toString) (hkk : (am_kd kk).1 = t + 4 ∧ (am_kd (kk + 1)).1 = t + 1 ∧ (am_kd (kk + 1)).2.1 = K) (ck : am_ck2 o k0 n kk N = true)
    (hs : ∀ i j, σ.1 o (kk + 1) i j = 0 ∧ σ.2 o (kk + 1) i j = 0) (hkm : (Nat.ble (kc + (1 + N)) mc && Nat.ble (ks + (N + N * K)) ms) = true) {pc2 n2 kc2 ks2 : Nat} (hpc : pc2 = pc + 1 + d1 + d2 + 4 + 3) (hn2 : n2 = n + (1 + N)) (hkc : kc2 = kc + 1 + N) (hks : ks2 = ks + N + N * K)
    (kk' : am_BA p l e (am_rc d mc ms) s m args below meth c nL G A o k0 a σ kc2 ks2 Q pc2 b n2 (f :: fs)) : am_BA p l e (am_rc d mc ms) s m args below meth c nL G A o k0 a σ kc ks Q pc b n fs := by
  subst hpc; subst hn2; subst hkc; subst hks
  intro H locs la hB hL hF hl
  rw [Bool.and_eq_true] at hkm
  refine lv_aload_n X.1 X.2.1 (am_dea hc t0) rfl (lv_at hl 0 rfl) ?_
  refine am_pvW X.1 X.2.1 (am_dea hc t1) hv1 ?_
  refine am_pvW X.1 X.2.1 (am_dea hc t2) hv2 ?_
  unfold am_ck2 at ck
  simp only [Bool.and_eq_true] at ck
  obtain ⟨c1, c2, c3, c4, c5, c6, c7, c8, c9, c10, c11⟩ := ck
  have c2 := Nat.eq_of_beq_eq_true c2
  have c3 := Nat.eq_of_beq_eq_true c3
  have c4 := Nat.eq_of_beq_eq_true c4
  have c5 := Nat.eq_of_beq_eq_true c5
  have c10 := Nat.eq_of_beq_eq_true c10
  have c11 := Nat.eq_of_beq_eq_true c11
  have c8 : kk ≠ k0 := fun e => by rw [e] at c8; simp at c8
  have c9 : kk + 1 ≠ k0 := fun e => by rw [e] at c9; simp at c9
  have b1 := hB.1
  have h3 : t = 0 ∨ t = 1 ∨ t = 2 := by have := Nat.le_of_ble_eq_true ht; omega
  refine am_bmna X ht hw hcl hvn hvk ⟨Nat.le_of_ble_eq_true hkm.1, Nat.le_of_ble_eq_true hkm.2⟩ (am_dea hc t3) fun H' g1 g2 g3 g4 => ?_
  have hB' : am_Bd G s o k0 a b (n + (1 + N)) fs σ H' := by
    refine am_Bgrow hB g1 g4 fun k i h1 h2 h3' h4 h5 => ?_
    have hk1 := List.all_eq_true.mp c1 k (am_okl_mem h1)
    simp only [Bool.or_eq_true, beq_iff_eq] at hk1
    have ek : k = kk ∨ k = kk + 1 := by
      rcases hk1 with z | z | z | z
      · exact absurd z h2
      · have := Nat.le_of_ble_eq_true z; omega
      · have := Nat.le_of_ble_eq_true z; omega
      · exact z
    rcases ek with rfl | rfl
    · have ei : i = 0 := by omega
      subst ei
      have ead : am_ad (am_nG G o k0 a b) o k 0 = H.size := by rw [am_nG_o c8]; omega
      have er : ∀ j, am_ad (am_nG G o k0 a b) o (k + 1) j = H.size + 1 + j := fun j => by rw [am_nG_o c9]; omega
      have hG : (am_nG G o k0 a b).2.1 = G.2.1 := rfl
      rcases h3 with rfl | rfl | rfl
      · rw [am_at4 hkk.1, ead, g2, c10, c11, hG]
        exact congrArg some (am_arrV_ext fun j _ => by rw [er])
      · rw [am_at5 hkk.1, ead, g2, c10, c11, hG]
        exact congrArg some (am_arrV_ext fun j _ => by rw [er])
      · rw [am_at6 hkk.1, ead, g2, c10, c11, hG]
        exact congrArg some (am_arrV_ext fun j _ => by rw [er])
    · have hi : i < N := by omega
      have ead : am_ad (am_nG G o k0 a b) o (kk + 1) i = H.size + 1 + i := by rw [am_nG_o c9]; omega
      have hG : (am_nG G o k0 a b).2.1 = G.2.1 := rfl
      rcases h3 with rfl | rfl | rfl
      · rw [am_at1 hkk.2.1, ead, g3 i hi, hkk.2.2, hG]
        exact congrArg some (am_arrV_ext fun j _ => by rw [(hs i j).1]; rfl)
      · rw [am_at2 hkk.2.1, ead, g3 i hi, hkk.2.2, hG]
        exact congrArg some (am_arrV_ext fun j _ => by rw [(hs i j).2]; rfl)
      · rw [am_at3 hkk.2.1, ead, g3 i hi, hkk.2.2, hG]
        exact congrArg some (am_arrV_ext fun j _ => by rw [(hs i j).1]; rfl)
  have hfv : Value.ref H.size = am_fv (am_nG G o k0 a b) σ o k0 f := by
    unfold am_fv
    rw [hf.1]
    show Value.ref H.size = .ref (am_ad (am_nG G o k0 a b) o kk 0)
    rw [am_nG_o c8]
    exact congrArg Value.ref (by omega : H.size = b + am_of k0 kk + 0)
  exact am_Bput X hin hlk hk hown (ty := .array (.array (am_bt t))) (by rw [hf.2]; rcases h3 with rfl | rfl | rfl <;> decide) rfl rfl (am_dea hc t4) hB' hfv hA hL ⟨by omega, fun q h1 h2 => (g4 q (by omega)).trans (hF.2 q h1 h2)⟩ hl kk'
end AMKR
