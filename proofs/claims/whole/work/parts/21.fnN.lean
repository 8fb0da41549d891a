def jn_X8_wrongIn_45_77 (k14 : Nat → Int32 → Int32 → Int32 → am_S → Option (Int32 × am_S)) (ix1 : Nat) (x2 : Int32) (x3 : Int32) (x5 : Int32) (y0 : Int32) (σ : am_S) : Option (Int32 × am_S) :=
  k14 ix1 x2 x3 (x5 + 1) (am_u σ 5 40 0 47 y0)
set_option maxRecDepth 100000 in
theorem jl_X8_wrongIn_45_77 {p : Program} {l : Launch} {e : Env} {s : State} {m : MethodId} {args : Array Value} {below : List Frame} {meth : Method} {c : Code} {G G0 : am_G} {q : Int32 × am_S} (X : am_X p s m args c cX8_wrongIn yX8_wrongIn.cls 6 am_p8 G (am_Fa G0 s.heap.size)) (hr : meth.sig.returnType = (some .int) ∧ meth.locks = false) (hag : am_ag G0 G)  (k14 : Nat → Int32 → Int32 → Int32 → am_S → Option (Int32 × am_S)) (hk14 : ∀ (ix1 : Nat) (x2 : Int32) (x3 : Int32) (x5 : Int32) (σ : am_S), k14 ix1 x2 x3 x5 σ = some q → am_A p l e (am_rc 4 137 1587) s m args below meth c 6 G (am_Fa G0 s.heap.size) 137 1587 (MQ below (am_Qa G0 s.heap.size (some (am_i q.1)) q.2) args s 137 1587 (am_Fa G0 s.heap.size)) (14, [(0, am_r 5 40 0), (1, am_r 5 45 ix1), (2, am_i x2), (3, am_i x3), (4, am_r 7 40 0), (5, am_i x5)], [], σ)) (ix1 : Nat) (x2 : Int32) (x3 : Int32) (x5 : Int32) (y0 : Int32) (σ : am_S) (h : jn_X8_wrongIn_45_77 k14 ix1 x2 x3 x5 y0 σ = some q) : am_A p l e (am_rc 4 137 1587) s m args below meth c 6 G (am_Fa G0 s.heap.size) 137 1587 (MQ below (am_Qa G0 s.heap.size (some (am_i q.1)) q.2) args s 137 1587 (am_Fa G0 s.heap.size)) (77, [(0, am_r 5 40 0), (1, am_r 5 45 ix1), (2, am_i x2), (3, am_i x3), (4, am_r 7 40 0), (5, am_i x5)], [am_i y0, am_r 5 40 0], σ) := by
  have hc := ct_X8_wrongIn
  unfold jn_X8_wrongIn_45_77 at h
  refine am_blk hc X 41 3 (fr' := (14, [(0, am_r 5 40 0), (1, am_r 5 45 ix1), (2, am_i x2), (3, am_i x3), (4, am_r 7 40 0), (5, am_i (x5 + 1))], [], (am_u σ 5 40 0 47 y0))) rfl ⟨trivial, trivial, trivial, trivial⟩ ?_
  exact hk14 ix1 x2 x3 (x5 + 1) _ h
def jn_X8_wrongIn_45_73 (k14 : Nat → Int32 → Int32 → Int32 → am_S → Option (Int32 × am_S)) (ix1 : Nat) (x2 : Int32) (x3 : Int32) (x5 : Int32) (σ : am_S) : Option (Int32 × am_S) :=
  jn_X8_wrongIn_45_77 k14 ix1 x2 x3 x5 (σ.1 5 40 0 47) (σ)
set_option maxRecDepth 100000 in
theorem jl_X8_wrongIn_45_73 {p : Program} {l : Launch} {e : Env} {s : State} {m : MethodId} {args : Array Value} {below : List Frame} {meth : Method} {c : Code} {G G0 : am_G} {q : Int32 × am_S} (X : am_X p s m args c cX8_wrongIn yX8_wrongIn.cls 6 am_p8 G (am_Fa G0 s.heap.size)) (hr : meth.sig.returnType = (some .int) ∧ meth.locks = false) (hag : am_ag G0 G)  (k14 : Nat → Int32 → Int32 → Int32 → am_S → Option (Int32 × am_S)) (hk14 : ∀ (ix1 : Nat) (x2 : Int32) (x3 : Int32) (x5 : Int32) (σ : am_S), k14 ix1 x2 x3 x5 σ = some q → am_A p l e (am_rc 4 137 1587) s m args below meth c 6 G (am_Fa G0 s.heap.size) 137 1587 (MQ below (am_Qa G0 s.heap.size (some (am_i q.1)) q.2) args s 137 1587 (am_Fa G0 s.heap.size)) (14, [(0, am_r 5 40 0), (1, am_r 5 45 ix1), (2, am_i x2), (3, am_i x3), (4, am_r 7 40 0), (5, am_i x5)], [], σ)) (ix1 : Nat) (x2 : Int32) (x3 : Int32) (x5 : Int32) (σ : am_S) (h : jn_X8_wrongIn_45_73 k14 ix1 x2 x3 x5 σ = some q) : am_A p l e (am_rc 4 137 1587) s m args below meth c 6 G (am_Fa G0 s.heap.size) 137 1587 (MQ below (am_Qa G0 s.heap.size (some (am_i q.1)) q.2) args s 137 1587 (am_Fa G0 s.heap.size)) (73, [(0, am_r 5 40 0), (1, am_r 5 45 ix1), (2, am_i x2), (3, am_i x3), (4, am_r 7 40 0), (5, am_i x5)], [am_r 5 40 0], σ) := by
  have hc := ct_X8_wrongIn
  unfold jn_X8_wrongIn_45_73 at h
  refine am_blk hc X 39 2 (fr' := (77, [(0, am_r 5 40 0), (1, am_r 5 45 ix1), (2, am_i x2), (3, am_i x3), (4, am_r 7 40 0), (5, am_i x5)], [am_i (σ.1 5 40 0 47), am_r 5 40 0], σ)) rfl ⟨trivial, trivial, trivial⟩ ?_
  exact jl_X8_wrongIn_45_77 X hr hag k14 hk14 ix1 x2 x3 x5 (σ.1 5 40 0 47) _ h
def lb_X8_wrongIn_45_14 (k14 : Nat → Int32 → Int32 → Int32 → am_S → Option (Int32 × am_S)) (ix1 : Nat) (x2 : Int32) (x3 : Int32) (x5 : Int32) (σ : am_S) : Option (Int32 × am_S) :=
  (if x2 ≤ x5 then some ((-1), σ) else (bif am_in x5 40 then (fn_X8_isAct (σ.2 5 45 ix1 ((x5 : Int32).toNatClampNeg)) (σ)).bind fun q4 => (if q4.1 = 0 then some (x5, q4.2) else (bif am_in x5 40 then (fn_X8_acts 7 x3 (((q4.2.2 5 45 ix1 ((x5 : Int32).toNatClampNeg)) : Int64).toInt32) q4.2).bind fun q7 => (if q7.1 = 0 then some (x5, q7.2) else (if (q7.2.1 5 40 0 47) = (-1) then (bif am_in x3 6 then (if (q7.2.1 7 61 0 ((x3 : Int32).toNatClampNeg)) < 15 then jn_X8_wrongIn_45_73 k14 ix1 x2 x3 x5 q7.2 else jn_X8_wrongIn_45_77 k14 ix1 x2 x3 x5 x5 q7.2) else none) else jn_X8_wrongIn_45_73 k14 ix1 x2 x3 x5 q7.2)) else none)) else none))
set_option maxRecDepth 100000 in
theorem lc_X8_wrongIn_45_14 {p : Program} {l : Launch} {e : Env} {s : State} {m : MethodId} {args : Array Value} {below : List Frame} {meth : Method} {c : Code} {G G0 : am_G} {q : Int32 × am_S} (X : am_X p s m args c cX8_wrongIn yX8_wrongIn.cls 6 am_p8 G (am_Fa G0 s.heap.size)) (hr : meth.sig.returnType = (some .int) ∧ meth.locks = false) (hag : am_ag G0 G)  (k14 : Nat → Int32 → Int32 → Int32 → am_S → Option (Int32 × am_S)) (hk14 : ∀ (ix1 : Nat) (x2 : Int32) (x3 : Int32) (x5 : Int32) (σ : am_S), k14 ix1 x2 x3 x5 σ = some q → am_A p l e (am_rc 4 137 1587) s m args below meth c 6 G (am_Fa G0 s.heap.size) 137 1587 (MQ below (am_Qa G0 s.heap.size (some (am_i q.1)) q.2) args s 137 1587 (am_Fa G0 s.heap.size)) (14, [(0, am_r 5 40 0), (1, am_r 5 45 ix1), (2, am_i x2), (3, am_i x3), (4, am_r 7 40 0), (5, am_i x5)], [], σ)) (ix1 : Nat) (x2 : Int32) (x3 : Int32) (x5 : Int32) (σ : am_S) (h : lb_X8_wrongIn_45_14 k14 ix1 x2 x3 x5 σ = some q) : am_A p l e (am_rc 4 137 1587) s m args below meth c 6 G (am_Fa G0 s.heap.size) 137 1587 (MQ below (am_Qa G0 s.heap.size (some (am_i q.1)) q.2) args s 137 1587 (am_Fa G0 s.heap.size)) (14, [(0, am_r 5 40 0), (1, am_r 5 45 ix1), (2, am_i x2), (3, am_i x3), (4, am_r 7 40 0), (5, am_i x5)], [], σ) := by
  have hc := ct_X8_wrongIn
  unfold lb_X8_wrongIn_45_14 at h
  refine am_blk hc X 8 2 (fr' := (17, [(0, am_r 5 40 0), (1, am_r 5 45 ix1), (2, am_i x2), (3, am_i x3), (4, am_r 7 40 0), (5, am_i x5)], [am_i x2, am_i x5], σ)) rfl ⟨trivial, trivial, trivial⟩ ?_
  refine am_icmp_ge hc X 10 (tgt := 86) rfl (by decide) (fun c14 => ?_) (fun c14 => ?_)
  · replace h := am_ip c14 h
    refine am_blk hc X 44 1 (fr' := (87, [(0, am_r 5 40 0), (1, am_r 5 45 ix1), (2, am_i x2), (3, am_i x3), (4, am_r 7 40 0), (5, am_i x5)], [am_i (-1)], σ)) rfl ⟨trivial, trivial⟩ ?_
    obtain rfl := Option.some.inj h
    exact am_iretA hc X hag hr rfl 45 rfl rfl rfl
  · replace h := am_in2 c14 h
    obtain ⟨ob3, h⟩ := am_ci h
    refine am_blk hc X 11 3 (fr' := (24, [(0, am_r 5 40 0), (1, am_r 5 45 ix1), (2, am_i x2), (3, am_i x3), (4, am_r 7 40 0), (5, am_i x5)], [am_l (σ.2 5 45 ix1 ((x5 : Int32).toNatClampNeg))], σ)) rfl ⟨trivial, trivial, (am_in_vp ob3), trivial⟩ ?_
    obtain ⟨q4, hq5, h⟩ := am_bs h
    refine am_callS hc 14 X (As := [am_l (σ.2 5 45 ix1 ((x5 : Int32).toNatClampNeg))]) (rest := []) rfl (ok_X8_isAct l (σ.2 5 45 ix1 ((x5 : Int32).toNatClampNeg)) (σ) hq5) yv_X8_isAct ml_X8_371 rfl rfl rfl rfl rfl ?_
    refine am_if_eq hc X 15 (tgt := 44) rfl (by decide) (fun c13 => ?_) (fun c13 => ?_)
    · replace h := am_ip c13 h
      refine am_blk hc X 24 1 (fr' := (46, [(0, am_r 5 40 0), (1, am_r 5 45 ix1), (2, am_i x2), (3, am_i x3), (4, am_r 7 40 0), (5, am_i x5)], [am_i x5], q4.2)) rfl ⟨trivial, trivial⟩ ?_
      obtain rfl := Option.some.inj h
      exact am_iretA hc X hag hr rfl 25 rfl rfl rfl
    · replace h := am_in2 c13 h
      obtain ⟨ob6, h⟩ := am_ci h
      refine am_blk hc X 16 6 (fr' := (38, [(0, am_r 5 40 0), (1, am_r 5 45 ix1), (2, am_i x2), (3, am_i x3), (4, am_r 7 40 0), (5, am_i x5)], [am_i (((q4.2.2 5 45 ix1 ((x5 : Int32).toNatClampNeg)) : Int64).toInt32), am_i x3, am_r 7 40 0], q4.2)) rfl ⟨trivial, trivial, trivial, trivial, (am_in_vp ob6), trivial, trivial⟩ ?_
      obtain ⟨q7, hq8, h⟩ := am_bs h
      refine am_callV hc 22 X (k := 40) (i := 0) (o := 7) (As := [am_i x3, am_i (((q4.2.2 5 45 ix1 ((x5 : Int32).toNatClampNeg)) : Int64).toInt32)]) (rest := []) rfl (ok_X8_acts l 7 x3 (((q4.2.2 5 45 ix1 ((x5 : Int32).toNatClampNeg)) : Int64).toInt32) q4.2 hq8) yv_X8_acts ml_X8_374 (cl_40) rfl rfl rfl rfl rfl ?_
      refine am_if_ne hc X 23 (tgt := 47) rfl (by decide) (fun c12 => ?_) (fun c12 => ?_)
      · replace h := am_in2 c12 h
        refine am_blk hc X 26 4 (fr' := (53, [(0, am_r 5 40 0), (1, am_r 5 45 ix1), (2, am_i x2), (3, am_i x3), (4, am_r 7 40 0), (5, am_i x5)], [am_i (-1), am_i (q7.2.1 5 40 0 47), am_r 5 40 0], q7.2)) rfl ⟨trivial, trivial, trivial, trivial, trivial⟩ ?_
        refine am_icmp_ne hc X 30 (tgt := 73) rfl (by decide) (fun c11 => ?_) (fun c11 => ?_)
        · replace h := am_in2 c11 h
          exact jl_X8_wrongIn_45_73 X hr hag k14 hk14 ix1 x2 x3 x5 _ h
        · replace h := am_ip c11 h
          obtain ⟨ob9, h⟩ := am_ci h
          refine am_blk hc X 31 5 (fr' := (65, [(0, am_r 5 40 0), (1, am_r 5 45 ix1), (2, am_i x2), (3, am_i x3), (4, am_r 7 40 0), (5, am_i x5)], [am_i 15, am_i (q7.2.1 7 61 0 ((x3 : Int32).toNatClampNeg)), am_r 5 40 0], q7.2)) rfl ⟨trivial, trivial, trivial, (am_in_vp ob9), trivial, trivial⟩ ?_
          refine am_icmp_lt hc X 36 (tgt := 73) rfl (by decide) (fun c10 => ?_) (fun c10 => ?_)
          · replace h := am_ip c10 h
            exact jl_X8_wrongIn_45_73 X hr hag k14 hk14 ix1 x2 x3 x5 _ h
          · replace h := am_in2 c10 h
            refine am_blk hc X 37 2 (fr' := (77, [(0, am_r 5 40 0), (1, am_r 5 45 ix1), (2, am_i x2), (3, am_i x3), (4, am_r 7 40 0), (5, am_i x5)], [am_i x5, am_r 5 40 0], q7.2)) rfl ⟨trivial, trivial, trivial⟩ ?_
            exact jl_X8_wrongIn_45_77 X hr hag k14 hk14 ix1 x2 x3 x5 x5 _ h
      · replace h := am_ip c12 h
        refine am_blk hc X 24 1 (fr' := (46, [(0, am_r 5 40 0), (1, am_r 5 45 ix1), (2, am_i x2), (3, am_i x3), (4, am_r 7 40 0), (5, am_i x5)], [am_i x5], q7.2)) rfl ⟨trivial, trivial⟩ ?_
        obtain rfl := Option.some.inj h
        exact am_iretA hc X hag hr rfl 25 rfl rfl rfl
def lp_X8_wrongIn_45_14  : Nat → Nat → Int32 → Int32 → Int32 → am_S → Option (Int32 × am_S)
  | 0 => fun _ _ _ _ _ => none
  | n + 1 => lb_X8_wrongIn_45_14  (lp_X8_wrongIn_45_14  n)
theorem ll_X8_wrongIn_45_14 {p : Program} {l : Launch} {e : Env} {s : State} {m : MethodId} {args : Array Value} {below : List Frame} {meth : Method} {c : Code} {G G0 : am_G} {q : Int32 × am_S} (X : am_X p s m args c cX8_wrongIn yX8_wrongIn.cls 6 am_p8 G (am_Fa G0 s.heap.size)) (hr : meth.sig.returnType = (some .int) ∧ meth.locks = false) (hag : am_ag G0 G)    : ∀ (n : Nat) (ix1 : Nat) (x2 : Int32) (x3 : Int32) (x5 : Int32) (σ : am_S), lp_X8_wrongIn_45_14  n ix1 x2 x3 x5 σ = some q → am_A p l e (am_rc 4 137 1587) s m args below meth c 6 G (am_Fa G0 s.heap.size) 137 1587 (MQ below (am_Qa G0 s.heap.size (some (am_i q.1)) q.2) args s 137 1587 (am_Fa G0 s.heap.size)) (14, [(0, am_r 5 40 0), (1, am_r 5 45 ix1), (2, am_i x2), (3, am_i x3), (4, am_r 7 40 0), (5, am_i x5)], [], σ) := by
  intro n
  induction n with
  | zero =>
    intro ix1 x2 x3 x5 σ h
    have h : (none : Option (Int32 × am_S)) = some q := h
    cases h
  | succ n ih =>
    intro ix1 x2 x3 x5 σ h
    exact lc_X8_wrongIn_45_14 X hr hag  (lp_X8_wrongIn_45_14  n) ih ix1 x2 x3 x5 σ h
def fn_X8_wrongIn_45 (ia1 : Nat) (a2 : Int32) (a3 : Int32) (σ : am_S) : Option (Int32 × am_S) :=
  (fn_X8_fresh  (σ)).bind fun q1 => lp_X8_wrongIn_45_14  1000 ia1 a2 a3 0 (am_u q1 5 40 0 47 (-1))
set_option maxRecDepth 100000 in
theorem ok_X8_wrongIn_45 (l : Launch) (ia1 : Nat) (a2 : Int32) (a3 : Int32) (σ : am_S) {q : Int32 × am_S} (h : fn_X8_wrongIn_45 ia1 a2 a3 σ = some q) : am_N l yX8_wrongIn cX8_wrongIn 6 (some .int) 4 137 1587 [am_r 5 40 0, am_r 5 45 ia1, am_i a2, am_i a3] σ (some (am_i q.1)) q.2 := by
  refine am_N_of (P := am_p8) (by decide +kernel) am_p8_ok rfl ?_
  intro G p e s m args below meth c X hr
  have hag : am_ag G G := am_ag.rf
  have hc := ct_X8_wrongIn
  unfold fn_X8_wrongIn_45 at h
  refine am_blk hc X 0 1 (fr' := (1, [(0, am_r 5 40 0), (1, am_r 5 45 ia1), (2, am_i a2), (3, am_i a3)], [am_r 5 40 0], σ)) rfl ⟨trivial, trivial⟩ ?_
  obtain ⟨q1, hq2, h⟩ := am_bs h
  refine am_callA hc 1 X (fun q z => Or.inr z) (k := 40) (i := 0) (o := 5) (As := []) (rest := []) rfl (ok_X8_fresh l  (σ) hq2) yv_X8_fresh ml_X8_275 (cl_40) rfl rfl rfl rfl ⟨Nat.le_refl _, Nat.le_refl _⟩ (fun G1 hg1 X1 => ?_)
  have hag := hag.tr hg1
  have X := X1
  refine am_blk hc X 2 6 (fr' := (14, [(0, am_r 5 40 0), (1, am_r 5 45 ia1), (2, am_i a2), (3, am_i a3), (4, am_r 7 40 0), (5, am_i 0)], [], (am_u q1 5 40 0 47 (-1)))) rfl ⟨trivial, trivial, trivial, trivial, trivial, trivial, trivial⟩ ?_
  exact ll_X8_wrongIn_45_14 X hr hag   1000 ia1 a2 a3 0 _ h
def jn_X8_behind_45   (σ : am_S) : Option (Int32 × am_S) :=
  (fn_X8_refuse 5 (-2) (σ)).bind fun q3 => some (q3.1, q3.2)
set_option maxRecDepth 100000 in
theorem jl_X8_behind_45 {p : Program} {l : Launch} {e : Env} {s : State} {m : MethodId} {args : Array Value} {below : List Frame} {meth : Method} {c : Code} {G G0 : am_G} {q : Int32 × am_S} (X : am_X p s m args c cX8_behind yX8_behind.cls 6 am_p8 G (am_Fa G0 s.heap.size)) (hr : meth.sig.returnType = (some .int) ∧ meth.locks = false) (hag : am_ag G0 G)     (σ : am_S) (h : jn_X8_behind_45   σ = some q) : am_A p l e (am_rc 5 137 1587) s m args below meth c 6 G (am_Fa G0 s.heap.size) 0 0 (MQ below (am_Qa G0 s.heap.size (some (am_i q.1)) q.2) args s 137 1587 (am_Fa G0 s.heap.size)) (45, [(0, am_r 5 40 0)], [], σ) := by
  have hc := ct_X8_behind
  unfold jn_X8_behind_45 at h
  refine am_blk hc X 22 2 (fr' := (48, [(0, am_r 5 40 0)], [am_i (-2), am_r 5 40 0], σ)) rfl ⟨trivial, trivial, trivial⟩ ?_
  obtain ⟨q3, hq4, h⟩ := am_bs h
  refine am_callV hc 24 X (k := 40) (i := 0) (o := 5) (As := [am_i (-2)]) (rest := []) rfl (ok_X8_refuse l 5 (-2) (σ) hq4) yv_X8_refuse ml_X8_129 (cl_40) rfl rfl rfl rfl rfl ?_
  obtain rfl := Option.some.inj h
  exact am_iretA hc X hag hr rfl 25 rfl rfl rfl
def fn_X8_behind (a1 : Int32) (a2 : Int32) (a3 : Int32) (a4 : Int32) (σ : am_S) : Option (Int32 × am_S) :=
  (fn_X8_in ((a1 : Int32).toInt64) 0 7 (σ)).bind fun q1 => (if q1.1 = 0 then jn_X8_behind_45   q1.2 else (fn_X8_in ((a2 : Int32).toInt64) 0 40 q1.2).bind fun q5 => (if q5.1 = 0 then jn_X8_behind_45   q5.2 else (fn_X8_isOne 5 a3 q5.2).bind fun q7 => (if q7.1 = 0 then jn_X8_behind_45   q7.2 else (fn_X8_in ((a4 : Int32).toInt64) 0 4 q7.2).bind fun q9 => (if q9.1 = 0 then jn_X8_behind_45   q9.2 else (fn_X8_noPlan 5 a1 a2 a3 q9.2).bind fun q11 => (if q11.1 = 0 then (bif am_in a1 8 then (fn_X8_wrongIn_45 ((a1 : Int32).toNatClampNeg) a2 a3 q11.2).bind fun q14 => (if q14.1 = (-1) then (if a4 = 0 then (if (q14.2.1 5 40 0 27) = 0 then none else (bif am_in a3 6 then some ((q14.2.1 7 58 0 ((a3 : Int32).toNatClampNeg)), q14.2) else none)) else (if a4 = 1 then (if (q14.2.1 5 40 0 27) = 0 then none else (bif am_in a3 6 then some ((q14.2.1 7 60 0 ((a3 : Int32).toNatClampNeg)), q14.2) else none)) else (if a4 = 2 then (if (q14.2.1 5 40 0 27) = 0 then none else (bif am_in a3 6 then some ((q14.2.1 7 61 0 ((a3 : Int32).toNatClampNeg)), q14.2) else none)) else (if a4 = 3 then (if (q14.2.1 5 40 0 27) = 0 then none else (bif am_in a3 6 then some ((q14.2.1 7 62 0 ((a3 : Int32).toNatClampNeg)), q14.2) else none)) else some ((q14.2.1 5 40 0 47), q14.2))))) else (fn_X8_refuse 5 (-5) q14.2).bind fun q28 => some (q28.1, q28.2)) else none) else some (q11.1, q11.2))))))
set_option maxRecDepth 100000 in
theorem ok_X8_behind (l : Launch) (a1 : Int32) (a2 : Int32) (a3 : Int32) (a4 : Int32) (σ : am_S) {q : Int32 × am_S} (h : fn_X8_behind a1 a2 a3 a4 σ = some q) : am_N l yX8_behind cX8_behind 6 (some .int) 5 137 1587 [am_r 5 40 0, am_i a1, am_i a2, am_i a3, am_i a4] σ (some (am_i q.1)) q.2 := by
  refine am_N_of (P := am_p8) (by decide +kernel) am_p8_ok rfl ?_
  intro G p e s m args below meth c X hr
  have hag : am_ag G G := am_ag.rf
  have hc := ct_X8_behind
  unfold fn_X8_behind at h
  refine am_blk hc X 0 4 (fr' := (6, [(0, am_r 5 40 0), (1, am_i a1), (2, am_i a2), (3, am_i a3), (4, am_i a4)], [am_l 7, am_l 0, am_l ((a1 : Int32).toInt64)], σ)) rfl ⟨trivial, trivial, trivial, trivial, trivial⟩ ?_
  obtain ⟨q1, hq2, h⟩ := am_bs h
  refine am_callS hc 4 X (As := [am_l ((a1 : Int32).toInt64), am_l 0, am_l 7]) (rest := []) rfl (ok_X8_in l ((a1 : Int32).toInt64) 0 7 (σ) hq2) yv_X8_in ml_X8_117 rfl rfl rfl rfl rfl ?_
  refine am_if_eq hc X 5 (tgt := 45) rfl (by decide) (fun c35 => ?_) (fun c35 => ?_)
  · replace h := am_ip c35 h
    refine am_less [0] rfl ?_
    exact jl_X8_behind_45 X hr hag    _ h
  · replace h := am_in2 c35 h
    refine am_blk hc X 6 4 (fr' := (18, [(0, am_r 5 40 0), (1, am_i a1), (2, am_i a2), (3, am_i a3), (4, am_i a4)], [am_l 40, am_l 0, am_l ((a2 : Int32).toInt64)], q1.2)) rfl ⟨trivial, trivial, trivial, trivial, trivial⟩ ?_
    obtain ⟨q5, hq6, h⟩ := am_bs h
    refine am_callS hc 10 X (As := [am_l ((a2 : Int32).toInt64), am_l 0, am_l 40]) (rest := []) rfl (ok_X8_in l ((a2 : Int32).toInt64) 0 40 q1.2 hq6) yv_X8_in ml_X8_117 rfl rfl rfl rfl rfl ?_
    refine am_if_eq hc X 11 (tgt := 45) rfl (by decide) (fun c34 => ?_) (fun c34 => ?_)
    · replace h := am_ip c34 h
      refine am_less [0] rfl ?_
      exact jl_X8_behind_45 X hr hag    _ h
    · replace h := am_in2 c34 h
      refine am_blk hc X 12 2 (fr' := (26, [(0, am_r 5 40 0), (1, am_i a1), (2, am_i a2), (3, am_i a3), (4, am_i a4)], [am_i a3, am_r 5 40 0], q5.2)) rfl ⟨trivial, trivial, trivial⟩ ?_
      obtain ⟨q7, hq8, h⟩ := am_bs h
      refine am_callV hc 14 X (k := 40) (i := 0) (o := 5) (As := [am_i a3]) (rest := []) rfl (ok_X8_isOne l 5 a3 q5.2 hq8) yv_X8_isOne ml_X8_140 (cl_40) rfl rfl rfl rfl rfl ?_
      refine am_if_eq hc X 15 (tgt := 45) rfl (by decide) (fun c33 => ?_) (fun c33 => ?_)
      · replace h := am_ip c33 h
        refine am_less [0] rfl ?_
        exact jl_X8_behind_45 X hr hag    _ h
      · replace h := am_in2 c33 h
        refine am_blk hc X 16 4 (fr' := (39, [(0, am_r 5 40 0), (1, am_i a1), (2, am_i a2), (3, am_i a3), (4, am_i a4)], [am_l 4, am_l 0, am_l ((a4 : Int32).toInt64)], q7.2)) rfl ⟨trivial, trivial, trivial, trivial, trivial⟩ ?_
        obtain ⟨q9, hq10, h⟩ := am_bs h
        refine am_callS hc 20 X (As := [am_l ((a4 : Int32).toInt64), am_l 0, am_l 4]) (rest := []) rfl (ok_X8_in l ((a4 : Int32).toInt64) 0 4 q7.2 hq10) yv_X8_in ml_X8_117 rfl rfl rfl rfl rfl ?_
        refine am_if_ne hc X 21 (tgt := 52) rfl (by decide) (fun c32 => ?_) (fun c32 => ?_)
        · replace h := am_in2 c32 h
          refine am_blk hc X 26 4 (fr' := (56, [(0, am_r 5 40 0), (1, am_i a1), (2, am_i a2), (3, am_i a3), (4, am_i a4)], [am_i a3, am_i a2, am_i a1, am_r 5 40 0], q9.2)) rfl ⟨trivial, trivial, trivial, trivial, trivial⟩ ?_
          obtain ⟨q11, hq12, h⟩ := am_bs h
          refine am_callV hc 30 X (k := 40) (i := 0) (o := 5) (As := [am_i a1, am_i a2, am_i a3]) (rest := []) rfl (ok_X8_noPlan l 5 a1 a2 a3 q9.2 hq12) yv_X8_noPlan ml_X8_377 (cl_40) rfl rfl rfl rfl rfl ?_
          refine am_blk hc X 31 2 (fr' := (63, [(0, am_r 5 40 0), (1, am_i a1), (2, am_i a2), (3, am_i a3), (4, am_i a4), (5, am_i q11.1)], [am_i q11.1], q11.2)) rfl ⟨trivial, trivial, trivial⟩ ?_
          refine am_if_eq hc X 33 (tgt := 69) rfl (by decide) (fun c31 => ?_) (fun c31 => ?_)
          · replace h := am_ip c31 h
            obtain ⟨ob13, h⟩ := am_ci h
            refine am_blk hc X 36 7 (fr' := (78, [(0, am_r 5 40 0), (1, am_i a1), (2, am_i a2), (3, am_i a3), (4, am_i a4), (5, am_i q11.1)], [am_i a3, am_i a2, am_r 5 45 ((a1 : Int32).toNatClampNeg), am_r 5 40 0], q11.2)) rfl ⟨trivial, trivial, trivial, trivial, (am_in_vp ob13), trivial, trivial, trivial⟩ ?_
            obtain ⟨q14, hq15, h⟩ := am_bs h
            refine am_callA hc 43 X (fun q z => Or.inr z) (k := 40) (i := 0) (o := 5) (As := [am_r 5 45 ((a1 : Int32).toNatClampNeg), am_i a2, am_i a3]) (rest := []) rfl (ok_X8_wrongIn_45 l ((a1 : Int32).toNatClampNeg) a2 a3 q11.2 hq15) yv_X8_wrongIn ml_X8_380 (cl_40) rfl rfl rfl rfl ⟨Nat.le_refl _, Nat.le_refl _⟩ (fun G1 hg1 X1 => ?_)
            have hag := hag.tr hg1
            have X := X1
            refine am_blk hc X 44 1 (fr' := (82, [(0, am_r 5 40 0), (1, am_i a1), (2, am_i a2), (3, am_i a3), (4, am_i a4), (5, am_i q11.1)], [am_i (-1), am_i q14.1], q14.2)) rfl ⟨trivial, trivial⟩ ?_
            refine am_icmp_eq hc X 45 (tgt := 92) rfl (by decide) (fun c30 => ?_) (fun c30 => ?_)
            · replace h := am_ip c30 h
              refine am_blk hc X 50 1 (fr' := (94, [(0, am_r 5 40 0), (1, am_i a1), (2, am_i a2), (3, am_i a3), (4, am_i a4), (5, am_i q11.1)], [am_i a4], q14.2)) rfl ⟨trivial, trivial⟩ ?_
              by_cases c16 : a4 = 0
              · replace h := am_ip c16 h
                refine am_tin hc X 51 (tgt := 124) (off := 30) rfl (by rw [c16]; decide) (by rw [c16]; decide) (by rw [c16]; rfl) (by decide) ?_
                refine am_blk hc X 52 1 (fr' := (125, [(0, am_r 5 40 0), (1, am_i a1), (2, am_i a2), (3, am_i a3), (4, am_i a4), (5, am_i q11.1)], [am_r 5 40 0], q14.2)) rfl ⟨trivial, trivial⟩ ?_
                refine am_getd hc X 53 rfl rfl rfl (by decide) (by decide +kernel) (fun c26 => ?_) (fun c26 => ?_)
                · replace h := am_ip c26 h
                  cases h
                · replace h := am_in2 c26 h
                  obtain ⟨ob27, h⟩ := am_ci h
                  refine am_blk hc X 54 3 (fr' := (133, [(0, am_r 5 40 0), (1, am_i a1), (2, am_i a2), (3, am_i a3), (4, am_i a4), (5, am_i q11.1)], [am_i (q14.2.1 7 58 0 ((a3 : Int32).toNatClampNeg))], q14.2)) rfl ⟨trivial, trivial, (am_in_vp ob27), trivial⟩ ?_
                  obtain rfl := Option.some.inj h
                  exact am_iretA hc X hag hr rfl 57 rfl rfl rfl
              · replace h := am_in2 c16 h
                by_cases c17 : a4 = 1
                · replace h := am_ip c17 h
                  refine am_tin hc X 51 (tgt := 134) (off := 40) rfl (by rw [c17]; decide) (by rw [c17]; decide) (by rw [c17]; rfl) (by decide) ?_
                  refine am_blk hc X 58 1 (fr' := (135, [(0, am_r 5 40 0), (1, am_i a1), (2, am_i a2), (3, am_i a3), (4, am_i a4), (5, am_i q11.1)], [am_r 5 40 0], q14.2)) rfl ⟨trivial, trivial⟩ ?_
                  refine am_getd hc X 59 rfl rfl rfl (by decide) (by decide +kernel) (fun c24 => ?_) (fun c24 => ?_)
                  · replace h := am_ip c24 h
                    cases h
                  · replace h := am_in2 c24 h
                    obtain ⟨ob25, h⟩ := am_ci h
                    refine am_blk hc X 60 3 (fr' := (143, [(0, am_r 5 40 0), (1, am_i a1), (2, am_i a2), (3, am_i a3), (4, am_i a4), (5, am_i q11.1)], [am_i (q14.2.1 7 60 0 ((a3 : Int32).toNatClampNeg))], q14.2)) rfl ⟨trivial, trivial, (am_in_vp ob25), trivial⟩ ?_
                    obtain rfl := Option.some.inj h
                    exact am_iretA hc X hag hr rfl 63 rfl rfl rfl
                · replace h := am_in2 c17 h
                  by_cases c18 : a4 = 2
                  · replace h := am_ip c18 h
                    refine am_tin hc X 51 (tgt := 144) (off := 50) rfl (by rw [c18]; decide) (by rw [c18]; decide) (by rw [c18]; rfl) (by decide) ?_
                    refine am_blk hc X 64 1 (fr' := (145, [(0, am_r 5 40 0), (1, am_i a1), (2, am_i a2), (3, am_i a3), (4, am_i a4), (5, am_i q11.1)], [am_r 5 40 0], q14.2)) rfl ⟨trivial, trivial⟩ ?_
                    refine am_getd hc X 65 rfl rfl rfl (by decide) (by decide +kernel) (fun c22 => ?_) (fun c22 => ?_)
                    · replace h := am_ip c22 h
                      cases h
                    · replace h := am_in2 c22 h
                      obtain ⟨ob23, h⟩ := am_ci h
                      refine am_blk hc X 66 3 (fr' := (153, [(0, am_r 5 40 0), (1, am_i a1), (2, am_i a2), (3, am_i a3), (4, am_i a4), (5, am_i q11.1)], [am_i (q14.2.1 7 61 0 ((a3 : Int32).toNatClampNeg))], q14.2)) rfl ⟨trivial, trivial, (am_in_vp ob23), trivial⟩ ?_
                      obtain rfl := Option.some.inj h
                      exact am_iretA hc X hag hr rfl 69 rfl rfl rfl
                  · replace h := am_in2 c18 h
                    by_cases c19 : a4 = 3
                    · replace h := am_ip c19 h
                      refine am_tin hc X 51 (tgt := 154) (off := 60) rfl (by rw [c19]; decide) (by rw [c19]; decide) (by rw [c19]; rfl) (by decide) ?_
                      refine am_blk hc X 70 1 (fr' := (155, [(0, am_r 5 40 0), (1, am_i a1), (2, am_i a2), (3, am_i a3), (4, am_i a4), (5, am_i q11.1)], [am_r 5 40 0], q14.2)) rfl ⟨trivial, trivial⟩ ?_
                      refine am_getd hc X 71 rfl rfl rfl (by decide) (by decide +kernel) (fun c20 => ?_) (fun c20 => ?_)
                      · replace h := am_ip c20 h
                        cases h
                      · replace h := am_in2 c20 h
                        obtain ⟨ob21, h⟩ := am_ci h
                        refine am_blk hc X 72 3 (fr' := (163, [(0, am_r 5 40 0), (1, am_i a1), (2, am_i a2), (3, am_i a3), (4, am_i a4), (5, am_i q11.1)], [am_i (q14.2.1 7 62 0 ((a3 : Int32).toNatClampNeg))], q14.2)) rfl ⟨trivial, trivial, (am_in_vp ob21), trivial⟩ ?_
                        obtain rfl := Option.some.inj h
                        exact am_iretA hc X hag hr rfl 75 rfl rfl rfl
                    · replace h := am_in2 c19 h
                      refine am_tout hc X 51 (tgt := 164) rfl (am_sw 0 3 (fun z h1 h2 => ?_)) (by decide) ?_
                      · rcases (show z = 0 ∨ z = 1 ∨ z = 2 ∨ z = 3 by omega) with rfl | rfl | rfl | rfl
                        · exact lv_neT c16 rfl
                        · exact lv_neT c17 rfl
                        · exact lv_neT c18 rfl
                        · exact lv_neT c19 rfl
                      · refine am_blk hc X 76 2 (fr' := (168, [(0, am_r 5 40 0), (1, am_i a1), (2, am_i a2), (3, am_i a3), (4, am_i a4), (5, am_i q11.1)], [am_i (q14.2.1 5 40 0 47)], q14.2)) rfl ⟨trivial, trivial, trivial⟩ ?_
                        obtain rfl := Option.some.inj h
                        exact am_iretA hc X hag hr rfl 78 rfl rfl rfl
            · replace h := am_in2 c30 h
              refine am_blk hc X 46 2 (fr' := (88, [(0, am_r 5 40 0), (1, am_i a1), (2, am_i a2), (3, am_i a3), (4, am_i a4), (5, am_i q11.1)], [am_i (-5), am_r 5 40 0], q14.2)) rfl ⟨trivial, trivial, trivial⟩ ?_
              obtain ⟨q28, hq29, h⟩ := am_bs h
              refine am_callV hc 48 X (k := 40) (i := 0) (o := 5) (As := [am_i (-5)]) (rest := []) rfl (ok_X8_refuse l 5 (-5) q14.2 hq29) yv_X8_refuse ml_X8_129 (cl_40) rfl rfl rfl rfl rfl ?_
              obtain rfl := Option.some.inj h
              exact am_iretA hc X hag hr rfl 49 rfl rfl rfl
          · replace h := am_in2 c31 h
            refine am_blk hc X 34 1 (fr' := (68, [(0, am_r 5 40 0), (1, am_i a1), (2, am_i a2), (3, am_i a3), (4, am_i a4), (5, am_i q11.1)], [am_i q11.1], q11.2)) rfl ⟨trivial, trivial⟩ ?_
            obtain rfl := Option.some.inj h
            exact am_iretA hc X hag hr rfl 35 rfl rfl rfl
        · replace h := am_ip c32 h
          refine am_less [0] rfl ?_
          exact jl_X8_behind_45 X hr hag    _ h
def fn_X8_done (a1 : Int32) (a2 : Int32) (a3 : Int32) (σ : am_S) : Option (Int32 × am_S) :=
  (fn_X8_noPlan 5 a1 a2 a3 (σ)).bind fun q1 => (if q1.1 = 0 then (bif am_in a1 8 then (fn_X8_wrongIn_45 ((a1 : Int32).toNatClampNeg) a2 a3 q1.2).bind fun q4 => (if q4.1 = (-1) then (if (q4.2.1 5 40 0 27) = 0 then none else (fn_X8_takeFrom 5 7 q4.2).bind fun q7 => (bif am_in a3 6 then some ((q7.1 5 58 0 ((a3 : Int32).toNatClampNeg)), (am_u q7 5 40 0 24 ((q7.1 5 40 0 24) + a2))) else none)) else (fn_X8_refuse 5 (-5) q4.2).bind fun q10 => some (q10.1, q10.2)) else none) else some (q1.1, q1.2))
set_option maxRecDepth 100000 in
theorem ok_X8_done (l : Launch) (a1 : Int32) (a2 : Int32) (a3 : Int32) (σ : am_S) {q : Int32 × am_S} (h : fn_X8_done a1 a2 a3 σ = some q) : am_N l yX8_done cX8_done 5 (some .int) 5 137 1587 [am_r 5 40 0, am_i a1, am_i a2, am_i a3] σ (some (am_i q.1)) q.2 := by
  refine am_N_of (P := am_p8) (by decide +kernel) am_p8_ok rfl ?_
  intro G p e s m args below meth c X hr
  have hag : am_ag G G := am_ag.rf
  have hc := ct_X8_done
  unfold fn_X8_done at h
  refine am_blk hc X 0 4 (fr' := (4, [(0, am_r 5 40 0), (1, am_i a1), (2, am_i a2), (3, am_i a3)], [am_i a3, am_i a2, am_i a1, am_r 5 40 0], σ)) rfl ⟨trivial, trivial, trivial, trivial, trivial⟩ ?_
  obtain ⟨q1, hq2, h⟩ := am_bs h
  refine am_callV hc 4 X (k := 40) (i := 0) (o := 5) (As := [am_i a1, am_i a2, am_i a3]) (rest := []) rfl (ok_X8_noPlan l 5 a1 a2 a3 (σ) hq2) yv_X8_noPlan ml_X8_377 (cl_40) rfl rfl rfl rfl rfl ?_
  refine am_blk hc X 5 2 (fr' := (11, [(0, am_r 5 40 0), (1, am_i a1), (2, am_i a2), (3, am_i a3), (4, am_i q1.1)], [am_i q1.1], q1.2)) rfl ⟨trivial, trivial, trivial⟩ ?_
  refine am_if_eq hc X 7 (tgt := 17) rfl (by decide) (fun c13 => ?_) (fun c13 => ?_)
  · replace h := am_ip c13 h
    obtain ⟨ob3, h⟩ := am_ci h
    refine am_blk hc X 10 7 (fr' := (26, [(0, am_r 5 40 0), (1, am_i a1), (2, am_i a2), (3, am_i a3), (4, am_i q1.1)], [am_i a3, am_i a2, am_r 5 45 ((a1 : Int32).toNatClampNeg), am_r 5 40 0], q1.2)) rfl ⟨trivial, trivial, trivial, trivial, (am_in_vp ob3), trivial, trivial, trivial⟩ ?_
    obtain ⟨q4, hq5, h⟩ := am_bs h
    refine am_callA hc 17 X (fun q z => Or.inr z) (k := 40) (i := 0) (o := 5) (As := [am_r 5 45 ((a1 : Int32).toNatClampNeg), am_i a2, am_i a3]) (rest := []) rfl (ok_X8_wrongIn_45 l ((a1 : Int32).toNatClampNeg) a2 a3 q1.2 hq5) yv_X8_wrongIn ml_X8_380 (cl_40) rfl rfl rfl rfl ⟨Nat.le_refl _, Nat.le_refl _⟩ (fun G1 hg1 X1 => ?_)
    have hag := hag.tr hg1
    have X := X1
    refine am_blk hc X 18 1 (fr' := (30, [(0, am_r 5 40 0), (1, am_i a1), (2, am_i a2), (3, am_i a3), (4, am_i q1.1)], [am_i (-1), am_i q4.1], q4.2)) rfl ⟨trivial, trivial⟩ ?_
    refine am_icmp_eq hc X 19 (tgt := 40) rfl (by decide) (fun c12 => ?_) (fun c12 => ?_)
    · replace h := am_ip c12 h
      refine am_blk hc X 24 2 (fr' := (42, [(0, am_r 5 40 0), (1, am_i a1), (2, am_i a2), (3, am_i a3), (4, am_i q1.1)], [am_r 5 40 0, am_r 5 40 0], q4.2)) rfl ⟨trivial, trivial, trivial⟩ ?_
      refine am_getd hc X 26 rfl rfl rfl (by decide) (by decide +kernel) (fun c6 => ?_) (fun c6 => ?_)
      · replace h := am_ip c6 h
        cases h
      · replace h := am_in2 c6 h
        obtain ⟨q7, hq8, h⟩ := am_bs h
        refine am_callV hc 27 X (k := 40) (i := 0) (o := 5) (As := [am_r 7 40 0]) (rest := []) rfl (ok_X8_takeFrom l 5 7 q4.2 hq8) yv_X8_takeFrom ml_X8_271 (cl_40) rfl rfl rfl rfl rfl ?_
        obtain ⟨ob9, h⟩ := am_ci h
        refine am_blk hc X 28 10 (fr' := (64, [(0, am_r 5 40 0), (1, am_i a1), (2, am_i a2), (3, am_i a3), (4, am_i q1.1)], [am_i (q7.1 5 58 0 ((a3 : Int32).toNatClampNeg))], (am_u q7 5 40 0 24 ((q7.1 5 40 0 24) + a2)))) rfl ⟨trivial, trivial, trivial, trivial, trivial, trivial, trivial, trivial, trivial, (am_in_vp ob9), trivial⟩ ?_
        obtain rfl := Option.some.inj h
        exact am_iretA hc X hag hr rfl 38 rfl rfl rfl
    · replace h := am_in2 c12 h
      refine am_blk hc X 20 2 (fr' := (36, [(0, am_r 5 40 0), (1, am_i a1), (2, am_i a2), (3, am_i a3), (4, am_i q1.1)], [am_i (-5), am_r 5 40 0], q4.2)) rfl ⟨trivial, trivial, trivial⟩ ?_
      obtain ⟨q10, hq11, h⟩ := am_bs h
      refine am_callV hc 22 X (k := 40) (i := 0) (o := 5) (As := [am_i (-5)]) (rest := []) rfl (ok_X8_refuse l 5 (-5) q4.2 hq11) yv_X8_refuse ml_X8_129 (cl_40) rfl rfl rfl rfl rfl ?_
      obtain rfl := Option.some.inj h
      exact am_iretA hc X hag hr rfl 23 rfl rfl rfl
  · replace h := am_in2 c13 h
    refine am_blk hc X 8 1 (fr' := (16, [(0, am_r 5 40 0), (1, am_i a1), (2, am_i a2), (3, am_i a3), (4, am_i q1.1)], [am_i q1.1], q1.2)) rfl ⟨trivial, trivial⟩ ?_
    obtain rfl := Option.some.inj h
    exact am_iretA hc X hag hr rfl 9 rfl rfl rfl
def fn_X8_judge (a1 : Int32) (a2 : Int32) (a3 : Int32) (σ : am_S) : Option (Int32 × am_S) :=
  (fn_X8_noPlan 5 a1 a2 a3 (σ)).bind fun q1 => (if q1.1 = 0 then (bif am_in a1 8 then (fn_X8_wrongIn_45 ((a1 : Int32).toNatClampNeg) a2 a3 q1.2).bind fun q4 => some (q4.1, q4.2) else none) else some (q1.1, q1.2))
set_option maxRecDepth 100000 in
theorem ok_X8_judge (l : Launch) (a1 : Int32) (a2 : Int32) (a3 : Int32) (σ : am_S) {q : Int32 × am_S} (h : fn_X8_judge a1 a2 a3 σ = some q) : am_N l yX8_judge cX8_judge 5 (some .int) 5 137 1587 [am_r 5 40 0, am_i a1, am_i a2, am_i a3] σ (some (am_i q.1)) q.2 := by
  refine am_N_of (P := am_p8) (by decide +kernel) am_p8_ok rfl ?_
  intro G p e s m args below meth c X hr
  have hag : am_ag G G := am_ag.rf
  have hc := ct_X8_judge
  unfold fn_X8_judge at h
  refine am_blk hc X 0 4 (fr' := (4, [(0, am_r 5 40 0), (1, am_i a1), (2, am_i a2), (3, am_i a3)], [am_i a3, am_i a2, am_i a1, am_r 5 40 0], σ)) rfl ⟨trivial, trivial, trivial, trivial, trivial⟩ ?_
  obtain ⟨q1, hq2, h⟩ := am_bs h
  refine am_callV hc 4 X (k := 40) (i := 0) (o := 5) (As := [am_i a1, am_i a2, am_i a3]) (rest := []) rfl (ok_X8_noPlan l 5 a1 a2 a3 (σ) hq2) yv_X8_noPlan ml_X8_377 (cl_40) rfl rfl rfl rfl rfl ?_
  refine am_blk hc X 5 2 (fr' := (11, [(0, am_r 5 40 0), (1, am_i a1), (2, am_i a2), (3, am_i a3), (4, am_i q1.1)], [am_i q1.1], q1.2)) rfl ⟨trivial, trivial, trivial⟩ ?_
  refine am_if_eq hc X 7 (tgt := 19) rfl (by decide) (fun c6 => ?_) (fun c6 => ?_)
  · replace h := am_ip c6 h
    obtain ⟨ob3, h⟩ := am_ci h
    refine am_blk hc X 10 7 (fr' := (28, [(0, am_r 5 40 0), (1, am_i a1), (2, am_i a2), (3, am_i a3), (4, am_i q1.1)], [am_i a3, am_i a2, am_r 5 45 ((a1 : Int32).toNatClampNeg), am_r 5 40 0], q1.2)) rfl ⟨trivial, trivial, trivial, trivial, (am_in_vp ob3), trivial, trivial, trivial⟩ ?_
    obtain ⟨q4, hq5, h⟩ := am_bs h
    refine am_callA hc 17 X (fun q z => Or.inr z) (k := 40) (i := 0) (o := 5) (As := [am_r 5 45 ((a1 : Int32).toNatClampNeg), am_i a2, am_i a3]) (rest := []) rfl (ok_X8_wrongIn_45 l ((a1 : Int32).toNatClampNeg) a2 a3 q1.2 hq5) yv_X8_wrongIn ml_X8_380 (cl_40) rfl rfl rfl rfl ⟨Nat.le_refl _, Nat.le_refl _⟩ (fun G1 hg1 X1 => ?_)
    have hag := hag.tr hg1
    have X := X1
    obtain rfl := Option.some.inj h
    exact am_iretA hc X hag hr rfl 18 rfl rfl rfl
  · replace h := am_in2 c6 h
    refine am_blk hc X 8 2 (fr' := (31, [(0, am_r 5 40 0), (1, am_i a1), (2, am_i a2), (3, am_i a3), (4, am_i q1.1)], [am_i q1.1], q1.2)) rfl ⟨trivial, trivial, trivial⟩ ?_
    obtain rfl := Option.some.inj h
    exact am_iretA hc X hag hr rfl 18 rfl rfl rfl
def fn_X8_land  (σ : am_S) : Option (Int32 × am_S) :=
  (fn_X8_fresh  (σ)).bind fun q1 => (fn_X8_readAll 5 q1).bind fun q3 => (if q3.1 = 0 then (fn_X8_takeFrom 5 7 (am_u q3.2 5 40 0 7 0)).bind fun q5 => (fn_X8_refuse 5 (-2) q5).bind fun q7 => some (((-20 : Int32) - (q7.2.1 5 40 0 32)), q7.2) else some ((q3.2.1 5 40 0 34), (am_u q3.2 5 40 0 7 0)))
set_option maxRecDepth 100000 in
theorem ok_X8_land (l : Launch)  (σ : am_S) {q : Int32 × am_S} (h : fn_X8_land  σ = some q) : am_N l yX8_land cX8_land 3 (some .int) 8 137 1587 [am_r 5 40 0] σ (some (am_i q.1)) q.2 := by
  refine am_N_of (P := am_p8) (by decide +kernel) am_p8_ok rfl ?_
  intro G p e s m args below meth c X hr
  have hag : am_ag G G := am_ag.rf
  have hc := ct_X8_land
  unfold fn_X8_land at h
  refine am_blk hc X 0 1 (fr' := (1, [(0, am_r 5 40 0)], [am_r 5 40 0], σ)) rfl ⟨trivial, trivial⟩ ?_
  obtain ⟨q1, hq2, h⟩ := am_bs h
  refine am_callA hc 1 X (fun q z => Or.inr z) (k := 40) (i := 0) (o := 5) (As := []) (rest := []) rfl (ok_X8_fresh l  (σ) hq2) yv_X8_fresh ml_X8_275 (cl_40) rfl rfl rfl rfl ⟨Nat.le_refl _, Nat.le_refl _⟩ (fun G1 hg1 X1 => ?_)
  have hag := hag.tr hg1
  have X := X1
  refine am_blk hc X 2 2 (fr' := (6, [(0, am_r 5 40 0), (1, am_r 7 40 0)], [am_r 5 40 0], q1)) rfl ⟨trivial, trivial, trivial⟩ ?_
  obtain ⟨q3, hq4, h⟩ := am_bs h
  refine am_callV hc 4 X (k := 40) (i := 0) (o := 5) (As := []) (rest := []) rfl (ok_X8_readAll l 5 q1 hq4) yv_X8_readAll ml_X8_279 (cl_40) rfl rfl rfl rfl rfl ?_
  refine am_blk hc X 5 5 (fr' := (16, [(0, am_r 5 40 0), (1, am_r 7 40 0), (2, am_i q3.1)], [am_i q3.1], (am_u q3.2 5 40 0 7 0))) rfl ⟨trivial, trivial, trivial, trivial, trivial, trivial⟩ ?_
  refine am_if_ne hc X 10 (tgt := 39) rfl (by decide) (fun c9 => ?_) (fun c9 => ?_)
  · replace h := am_in2 c9 h
    refine am_blk hc X 23 2 (fr' := (43, [(0, am_r 5 40 0), (1, am_r 7 40 0), (2, am_i q3.1)], [am_i (q3.2.1 5 40 0 34)], (am_u q3.2 5 40 0 7 0))) rfl ⟨trivial, trivial, trivial⟩ ?_
    obtain rfl := Option.some.inj h
    exact am_iretA hc X hag hr rfl 25 rfl rfl rfl
  · replace h := am_ip c9 h
    refine am_blk hc X 11 2 (fr' := (21, [(0, am_r 5 40 0), (1, am_r 7 40 0), (2, am_i q3.1)], [am_r 7 40 0, am_r 5 40 0], (am_u q3.2 5 40 0 7 0))) rfl ⟨trivial, trivial, trivial⟩ ?_
    obtain ⟨q5, hq6, h⟩ := am_bs h
    refine am_callV hc 13 X (k := 40) (i := 0) (o := 5) (As := [am_r 7 40 0]) (rest := []) rfl (ok_X8_takeFrom l 5 7 (am_u q3.2 5 40 0 7 0) hq6) yv_X8_takeFrom ml_X8_271 (cl_40) rfl rfl rfl rfl rfl ?_
    refine am_blk hc X 14 2 (fr' := (27, [(0, am_r 5 40 0), (1, am_r 7 40 0), (2, am_i q3.1)], [am_i (-2), am_r 5 40 0], q5)) rfl ⟨trivial, trivial, trivial⟩ ?_
    obtain ⟨q7, hq8, h⟩ := am_bs h
    refine am_callV hc 16 X (k := 40) (i := 0) (o := 5) (As := [am_i (-2)]) (rest := []) rfl (ok_X8_refuse l 5 (-2) q5 hq8) yv_X8_refuse ml_X8_129 (cl_40) rfl rfl rfl rfl rfl ?_
    refine am_blk hc X 17 5 (fr' := (38, [(0, am_r 5 40 0), (1, am_r 7 40 0), (2, am_i q3.1)], [am_i ((-20 : Int32) - (q7.2.1 5 40 0 32))], q7.2)) rfl ⟨trivial, trivial, trivial, trivial, trivial, trivial⟩ ?_
    obtain rfl := Option.some.inj h
    exact am_iretA hc X hag hr rfl 22 rfl rfl rfl
