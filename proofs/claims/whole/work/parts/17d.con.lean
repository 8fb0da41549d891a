section AMKS
variable {p : Program} {l : Launch} {e : Env} {R : Room} {s : State} {m : MethodId} {args : Array Value} {below : List Frame} {meth : Method} {c : Code} {cc : ByteArray} {own : String} {nL : Nat} {P : am_P} {G : am_G} {A : Nat → Prop} {kc ks : Nat} {Q : State → Prop} {tb : List (Nat × Instr × Nat)} {o k0 a b n : Nat} {fs : List Nat} {σ : am_S}
/-- all is made: the group joins the world -/
def am_ckd (o k0 n : Nat) (fs : List Nat) : Bool := (am_okl.getD o []).all (fun k => k == k0 || (Nat.ble (k0 + 1) k && Nat.ble (am_of k0 k + (am_kd k).2.2.1) n)) && (Nat.ble (k0 + 1) 77 && (Nat.beq (am_kd k0).1 0 && (Nat.beq (am_kd k0).2.2.1 1 && (am_ok o k0 && (Nat.ble (o + 1) 16 && (List.range (am_kd k0).2.1).all (fun f => fs.contains f || ((am_fd k0 f).1 == 0 || ((am_fd k0 f).1 == 5 || (am_fd k0 f).1 == 3))))))))
theorem am_Bworld {H : Heap} (hB : am_Bd G s o k0 a b n fs σ H) (ck : am_ckd o k0 n fs = true) (hU : am_U G s) (ho : G.2.2.2 o = false) (hs : ∀ f, fs.contains f = false → σ.1 o k0 0 f = 0) (h40 : σ.1 o 40 0 26 = 0 ∧ σ.1 o 40 0 27 = 0) (hgh : (o = 6 → σ.1 99 40 0 26 ≠ 0) ∧ (o = 7 → σ.1 99 40 0 27 ≠ 0)) : am_W (am_nG G o k0 a b) σ s H := by
  unfold am_ckd at ck
  simp only [Bool.and_eq_true] at ck
  obtain ⟨c1, c2, c3, c4, c5, c6, c7⟩ := ck
  have c2 : k0 < 77 := Nat.le_of_ble_eq_true c2
  have c3 := Nat.eq_of_beq_eq_true c3
  have c4 := Nat.eq_of_beq_eq_true c4
  have c6 : o < 16 := Nat.le_of_ble_eq_true c6
  obtain ⟨b1, ⟨b2, b3, bz, b4⟩, b5, ⟨V, b6, b7⟩, b8⟩ := hB
  have hag := am_nG_ag (k0 := k0) (a := a) (b := b) ho
  have hkk : ∀ k, am_ok o k = true → k ≠ k0 → k0 < k ∧ am_of k0 k + (am_kd k).2.2.1 ≤ n := by
    intro k h1 h2
    have h3 := List.all_eq_true.mp c1 k (am_okl_mem h1)
    simp only [Bool.or_eq_true, beq_iff_eq, Bool.and_eq_true] at h3
    rcases h3 with z | z
    · exact absurd z h2
    · exact ⟨Nat.le_of_ble_eq_true z.1, Nat.le_of_ble_eq_true z.2⟩
  have hlive : ∀ o' k i, am_lv (am_nG G o k0 a b) o' k i → o' ≠ o → am_lv G o' k i := fun o' k i h hne => ⟨(if_neg hne : (if o' = o then true else G.2.2.2 o') = G.2.2.2 o') ▸ h.1, h.2⟩
  have haddr : ∀ k i, am_lv (am_nG G o k0 a b) o k i → (k = k0 ∧ i = 0 ∧ am_ad (am_nG G o k0 a b) o k i = a) ∨ (k ≠ k0 ∧ k0 < k ∧ i < (am_kd k).2.2.1 ∧ am_of k0 k + (am_kd k).2.2.1 ≤ n ∧ am_ad (am_nG G o k0 a b) o k i = b + am_of k0 k + i) := by
    intro k i h
    by_cases e : k = k0
    · subst e
      have := h.2.2
      exact Or.inl ⟨rfl, by omega, am_nG_a⟩
    · have h2 := hkk k h.2.1 e
      exact Or.inr ⟨e, h2.1, h.2.2, h2.2, am_nG_o e⟩
  refine ⟨fun o' k i hl => ?_, ⟨fun o1 k1 i1 o2 k2 i2 hl1 hl2 h16 he => ?_, fun o' k i hl => ?_⟩, ⟨fun o' h1 h2 => ?_, fun h1 => ?_, fun h1 => ?_⟩, ?_⟩
  · by_cases e : o' = o
    · subst e
      rcases haddr k i hl with ⟨rfl, rfl, e2⟩ | ⟨e1, e2, e3, e4, e5⟩
      · rw [am_at0 c3, e2]
        refine t_OB.to b6 fun f hf => ?_
        rw [b7 f]
        split
        · rfl
        · rename_i hc
          have hc : fs.contains f = false := by simpa using hc
          have h7 := List.all_eq_true.mp c7 f (List.mem_range.mpr hf)
          simp only [Bool.or_eq_true, beq_iff_eq, hc] at h7
          have h0 := hs f hc
          unfold am_df am_fv
          generalize am_fd k f = z at h7
          obtain ⟨t, x, y⟩ := z
          rcases h7 with q | q | q | q
          · cases q
          · have q : t = 0 := q
            subst q; rw [h0]; rfl
          · have q : t = 5 := q
            subst q; rw [h0]; rfl
          · have q : t = 3 := q
            subst q
            show Value.null = if σ.1 o' k 0 f = 0 then Value.null else _
            rw [if_pos h0]
      · exact b8 k i hl.2.1 e1 e3 (by omega)
    · exact am_at_ag hag hU.2.2.1 b5 (hlive o' k i hl e)
  · by_cases e1 : o1 = o
    · subst e1
      by_cases e2 : o2 = o1
      · subst e2
        rcases haddr k1 i1 hl1 with ⟨rfl, rfl, q1⟩ | ⟨p1, p2, p3, p4, p5⟩
        · rcases haddr k2 i2 hl2 with ⟨rfl, rfl, q2⟩ | ⟨r1, r2, r3, r4, r5⟩
          · exact ⟨rfl, rfl, rfl⟩
          · rw [q1, r5] at he; omega
        · rcases haddr k2 i2 hl2 with ⟨rfl, rfl, q2⟩ | ⟨r1, r2, r3, r4, r5⟩
          · rw [p5, q2] at he; omega
          · rw [p5, r5] at he
            have := am_of_inj p2 r2 p3 r3 (by omega)
            exact ⟨rfl, this⟩
      · have h3 := b4 o2 k2 i2 (hlive o2 k2 i2 hl2 e2)
        rw [am_nG_ne e2] at he
        rcases haddr k1 i1 hl1 with ⟨-, -, q1⟩ | ⟨p1, p2, p3, p4, p5⟩
        · rw [q1] at he; exact absurd he.symm h3.1
        · rw [p5] at he; omega
    · have h3 := b4 o1 k1 i1 (hlive o1 k1 i1 hl1 e1)
      rw [am_nG_ne e1] at he
      by_cases e2 : o2 = o
      · subst e2
        rcases haddr k2 i2 hl2 with ⟨-, -, q1⟩ | ⟨p1, p2, p3, p4, p5⟩
        · rw [q1] at he; exact absurd he h3.1
        · rw [p5] at he; omega
      · rw [am_nG_ne e2] at he
        exact b5.2.1.1 o1 k1 i1 o2 k2 i2 (hlive _ _ _ hl1 e1) (hlive _ _ _ hl2 e2) h16 he
  · by_cases e : o' = o
    · subst e
      rcases haddr k i hl with ⟨-, -, q1⟩ | ⟨p1, p2, p3, p4, p5⟩
      · rw [q1]; omega
      · rw [p5]; omega
    · rw [am_nG_ne e]
      exact b5.2.1.2 o' k i (hlive o' k i hl e)
  · by_cases e : o' = o
    · subst e
      exact ⟨fun z => absurd h40.1 z, fun z => absurd h40.2 z⟩
    · have h1' : G.2.2.2 o' = true := (if_neg e : (if o' = o then true else G.2.2.2 o') = G.2.2.2 o') ▸ h1
      have h3 := b5.2.2.1.1 o' h1' h2
      exact ⟨fun z => (hag.2.2 6 (h3.1 z)).1, fun z => (hag.2.2 7 (h3.2 z)).1⟩
  · by_cases e : 6 = o
    · exact hgh.1 e.symm
    · exact b5.2.2.1.2.1 ((if_neg e : (if 6 = o then true else G.2.2.2 6) = G.2.2.2 6) ▸ h1)
  · by_cases e : 7 = o
    · exact hgh.2 e.symm
    · exact b5.2.2.1.2.2 ((if_neg e : (if 7 = o then true else G.2.2.2 7) = G.2.2.2 7) ▸ h1)
  · obtain ⟨⟨d1, d2, d7⟩, d3, d4, d5, d6⟩ := b5.2.2.2
    have l16 := hU.2.2.2.1.1
    have l17 := hU.2.2.2.1.2.1
    have ezf : am_zf (am_nG G o k0 a b) = am_zf G := by
      funext q
      show (am_ad (am_nG G o k0 a b) 16 99 0 ≤ q) = (am_ad G 16 99 0 ≤ q)
      rw [(hag.2.2 16 l16).2]
    unfold am_C
    rw [ezf, (hag.2.2 16 l16).2, (hag.2.2 16 l16).2]
    refine ⟨⟨d1, d2, fun k h1 h2 => by rw [(hag.2.2 16 l16).2]; exact d7 k h1 h2⟩, ?_, d4, d5, ?_⟩
    · have e1 : (fun i => am_ad (am_nG G o k0 a b) 17 36 i) = fun i => am_ad G 17 36 i := funext fun i => (hag.2.2 17 l17).2 36 i
      have e2 : (fun i => am_ad (am_nG G o k0 a b) 17 37 i) = fun i => am_ad G 17 37 i := funext fun i => (hag.2.2 17 l17).2 37 i
      rw [e1, e2]
      exact d3
    · rintro q ⟨o', k, i, hl, h16, rfl⟩
      by_cases e : o' = o
      · subst e
        rcases haddr k i hl with ⟨-, -, q1⟩ | ⟨p1, p2, p3, p4, p5⟩
        · show am_ad G 16 99 0 ≤ _
          rw [q1]; exact bz
        · show am_ad G 16 99 0 ≤ _
          rw [p5]; omega
      · rw [am_nG_ne e]
        exact d6 _ ⟨o', k, i, hlive o' k i hl e, h16, rfl⟩
/-- what a constructor has made so far, seen from its start -/
def am_Lk (G0 G : am_G) (sz a : Nat) : Prop := ∀ o' k i, am_lv G o' k i → am_lv G0 o' k i ∨ am_ad G o' k i = a ∨ sz ≤ am_ad G o' k i
theorem am_LkA {G0 G : am_G} {sz a : Nat} (hag : am_ag G0 G) (h : am_Lk G0 G sz a) : ∀ q, am_fr G q → am_Fc G0 a sz q := by
  rintro q ⟨o', k, i, hl, h16, rfl⟩
  rcases h o' k i hl with z | z | z
  · exact Or.inl ⟨o', k, i, z, h16, (hag.2.2 o' z.1).2 k i⟩
  · exact Or.inr (Or.inl z)
  · exact Or.inr (Or.inr z)
/-- from building to the abstract machine -/
theorem am_Bdone {G0 : am_G} {d mc ms pc : Nat} (ck : am_ckd o k0 n fs = true) (X : am_X p s m args c cc own nL P G (am_Fc G0 a s.heap.size)) (hag : am_ag G0 G) (hLk : am_Lk G0 G s.heap.size a) (hb : s.heap.size ≤ b) (ho : G.2.2.2 o = false) (hups : ∀ q ∈ am_ups, q.1 = o → G.2.2.2 q.2 = true) (hs : ∀ f, fs.contains f = false → σ.1 o k0 0 f = 0) (h40 : σ.1 o 40 0 26 = 0 ∧ σ.1 o 40 0 27 = 0) (hgh : (o = 6 → σ.1 99 40 0 26 ≠ 0) ∧ (o = 7 → σ.1 99 40 0 27 ≠ 0))
    (kk : ∀ G1 : am_G, am_ag G0 G1 → am_Lk G0 G1 s.heap.size a → (∀ q, G1.2.2.2 q = (G.2.2.2 q || q == o)) → am_ad G1 o k0 0 = a → am_X p s m args c cc own nL P G1 (am_Fc G0 a s.heap.size) → am_A p l e (am_rc d mc ms) s m args below meth c nL G1 (am_Fc G0 a s.heap.size) kc ks Q (pc, [(0, am_r o k0 0)], [], σ)) : am_BA p l e (am_rc d mc ms) s m args below meth c nL G (am_Fc G0 a s.heap.size) o k0 a σ kc ks Q pc b n fs := by
  obtain ⟨hx, hbb, hml, hown, hts, hp, hU, hA⟩ := id X
  have hag1 := am_nG_ag (k0 := k0) (a := a) (b := b) ho
  have hcd : am_cd (am_nG G o k0 a b) := fun q hq h1 => by
    by_cases e : q.1 = o
    · exact (hag1.2.2 _ (hups q hq e)).1
    · have h1' : G.2.2.2 q.1 = true := (if_neg e : (if q.1 = o then true else G.2.2.2 q.1) = G.2.2.2 q.1) ▸ h1
      exact (hag1.2.2 _ (hU.2.2.1 q hq h1')).1
  have hL1 : am_Lk G0 (am_nG G o k0 a b) s.heap.size a := by
    intro o' k i hl
    by_cases e : o' = o
    · subst e
      by_cases e2 : k = k0
      · subst e2
        exact Or.inr (Or.inl am_nG_a)
      · refine Or.inr (Or.inr ?_)
        rw [am_nG_o e2]; omega
    · have h1 : am_lv G o' k i := ⟨(if_neg e : (if o' = o then true else G.2.2.2 o') = G.2.2.2 o') ▸ hl.1, hl.2⟩
      rw [am_nG_ne e]
      exact hLk o' k i h1
  have hagt := hag.tr hag1
  have ka := kk (am_nG G o k0 a b) hagt hL1 (fun q => by
    show (if q = o then true else G.2.2.2 q) = _
    by_cases e : q = o
    · simp [e]
    · simp [e]) am_nG_a ⟨hx, hbb, hml, hown, hts, hp, hag1.U hcd hU, am_LkA hagt hL1⟩
  intro H locs la hB hL hF hl
  have ck' := ck
  unfold am_ckd at ck'
  simp only [Bool.and_eq_true] at ck'
  have hlv : am_lv (am_nG G o k0 a b) o k0 0 := ⟨if_pos rfl, ck'.2.2.2.2.1, by have := Nat.eq_of_beq_eq_true ck'.2.2.2.1; omega⟩
  refine ka H locs la (am_Bworld hB ck hU ho hs h40 hgh) hL hF (fun q hq => ?_) (fun v hv => by cases hv) ?_
  · rw [List.mem_singleton.mp hq]
    exact hlv
  · show lv_has la nL [(0, .ref (am_ad (am_nG G o k0 a b) o k0 0))]
    rw [am_nG_a]
    exact hl
/-- a constructor's end -/
theorem am_vretK {G0 G1 : am_G} {mc ms : Nat} {news : List Nat} (hc : am_code cc tb = true) (X : am_X p s m args c cc own nL P G1 (am_Fc G0 a s.heap.size)) (hag : am_ag G0 G1) (hLk : am_Lk G0 G1 s.heap.size a) (hlive : ∀ q, G1.2.2.2 q = (G0.2.2.2 q || news.contains q)) (had : am_ad G1 o k0 0 = a) (hr : meth.sig.returnType = none ∧ meth.locks = false) (hkm : (Nat.ble kc mc && Nat.ble ks ms) = true) (j : Nat) {pc : Nat} {ls : List (Nat × am_V)} {σ σ' : am_S} (h : tb[j]? = some (pc, .return_, 1)) (hs : σ' = σ) : am_A p l e R s m args below meth c nL G1 (am_Fc G0 a s.heap.size) kc ks (MQ below (am_Qk G0 s.heap.size a o k0 news σ') args s mc ms (am_Fc G0 a s.heap.size)) (pc, ls, [], σ) := by
  subst hs
  intro H locs la hW hL hF h1 h2 hl
  rw [Bool.and_eq_true] at hkm
  refine W.widen (k := mc) (n := ms) (Nat.le_of_ble_eq_true hkm.1) (Nat.le_of_ble_eq_true hkm.2) ?_
  refine W.vret X.1 X.2.1 hr.1 (fun t ht hw => ?_) hL (am_dea hc h) hr.2
  subst ht
  exact ⟨rfl, G1, hag, X.2.2.2.2.2.2.1.2.2.1, hlive, had, hLk, hW.alike hw.alike, hF.1, hF.2⟩
end AMKS
