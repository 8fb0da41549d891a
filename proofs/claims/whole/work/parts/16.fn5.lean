def lb_X8_readAll_23 (k23 : Nat → am_S → Option (Int32 × am_S)) (ox0 : Nat) (σ : am_S) : Option (Int32 × am_S) :=
  (if (σ.1 ox0 40 0 29) = 0 then some (1, σ) else (if (σ.1 ox0 40 0 29) = 3 then (fn_X8_look ox0 (σ)).bind fun q5 => (fn_X8_statement ox0 q5).bind fun q7 => (if q7.1 = 0 then some (0, q7.2) else k23 ox0 (am_u q7.2 ox0 40 0 34 ((q7.2.1 ox0 40 0 34) + (1 : Int32)))) else (fn_X8_wrong ox0 (σ)).bind fun q10 => (if q10.1 = 0 ∨ q10.1 = 1 then some (q10.1, q10.2) else none)))
set_option maxRecDepth 100000 in
theorem lc_X8_readAll_23 {p : Program} {l : Launch} {e : Env} {s : State} {m : MethodId} {args : Array Value} {below : List Frame} {meth : Method} {c : Code} {G : am_G} {q : Int32 × am_S} (X : am_X p s m args c cX8_readAll yX8_readAll.cls 1 am_p8 G (am_fr G)) (hr : meth.sig.returnType = (some .boolean) ∧ meth.locks = false)  (k23 : Nat → am_S → Option (Int32 × am_S)) (hk23 : ∀ (ox0 : Nat) (σ : am_S), k23 ox0 σ = some q → am_A p l e (am_ro 7) s m args below meth c 1 G (am_fr G) 0 0 (MQ below (am_Qc G (some (am_i q.1)) q.2) args s 0 0 (am_fr G)) (23, [(0, am_r ox0 40 0)], [], σ)) (ox0 : Nat) (σ : am_S) (h : lb_X8_readAll_23 k23 ox0 σ = some q) : am_A p l e (am_ro 7) s m args below meth c 1 G (am_fr G) 0 0 (MQ below (am_Qc G (some (am_i q.1)) q.2) args s 0 0 (am_fr G)) (23, [(0, am_r ox0 40 0)], [], σ) := by
  have hc := ct_X8_readAll
  unfold lb_X8_readAll_23 at h
  refine am_blk hc X 13 2 (fr' := (27, [(0, am_r ox0 40 0)], [am_i (σ.1 ox0 40 0 29)], σ)) rfl ⟨trivial, trivial, trivial⟩ ?_
  refine am_if_eq hc X 15 (tgt := 69) rfl (by decide) (fun c14 => ?_) (fun c14 => ?_)
  · replace h := am_ip c14 h
    refine am_blk hc X 37 1 (fr' := (70, [(0, am_r ox0 40 0)], [am_i 1], σ)) rfl ⟨trivial, trivial⟩ ?_
    obtain rfl := Option.some.inj h
    exact am_zret hc X hr 38 rfl (by decide) rfl rfl
  · replace h := am_in2 c14 h
    refine am_blk hc X 16 3 (fr' := (35, [(0, am_r ox0 40 0)], [am_i 3, am_i (σ.1 ox0 40 0 29)], σ)) rfl ⟨trivial, trivial, trivial, trivial⟩ ?_
    refine am_icmp_eq hc X 19 (tgt := 43) rfl (by decide) (fun c13 => ?_) (fun c13 => ?_)
    · replace h := am_ip c13 h
      refine am_blk hc X 23 1 (fr' := (44, [(0, am_r ox0 40 0)], [am_r ox0 40 0], σ)) rfl ⟨trivial, trivial⟩ ?_
      obtain ⟨q5, hq6, h⟩ := am_bs h
      refine am_callV hc 24 X (k := 40) (i := 0) (o := ox0) (As := []) (rest := []) rfl (ok_X8_look l ox0 (σ) hq6) yv_X8_look ml_X8_217 (cl_40) rfl rfl rfl rfl rfl ?_
      refine am_blk hc X 25 1 (fr' := (48, [(0, am_r ox0 40 0)], [am_r ox0 40 0], q5)) rfl ⟨trivial, trivial⟩ ?_
      obtain ⟨q7, hq8, h⟩ := am_bs h
      refine am_callV hc 26 X (k := 40) (i := 0) (o := ox0) (As := []) (rest := []) rfl (ok_X8_statement l ox0 q5 hq8) yv_X8_statement ml_X8_263 (cl_40) rfl rfl rfl rfl rfl ?_
      refine am_if_ne hc X 27 (tgt := 56) rfl (by decide) (fun c9 => ?_) (fun c9 => ?_)
      · replace h := am_in2 c9 h
        refine am_blk hc X 30 7 (fr' := (23, [(0, am_r ox0 40 0)], [], (am_u q7.2 ox0 40 0 34 ((q7.2.1 ox0 40 0 34) + (1 : Int32))))) rfl ⟨trivial, trivial, trivial, trivial, trivial, trivial, trivial, trivial⟩ ?_
        exact hk23 ox0 _ h
      · replace h := am_ip c9 h
        refine am_blk hc X 28 1 (fr' := (55, [(0, am_r ox0 40 0)], [am_i 0], q7.2)) rfl ⟨trivial, trivial⟩ ?_
        obtain rfl := Option.some.inj h
        exact am_zret hc X hr 29 rfl (by decide) rfl rfl
    · replace h := am_in2 c13 h
      refine am_blk hc X 20 1 (fr' := (39, [(0, am_r ox0 40 0)], [am_r ox0 40 0], σ)) rfl ⟨trivial, trivial⟩ ?_
      obtain ⟨q10, hq11, h⟩ := am_bs h
      refine am_callV hc 21 X (k := 40) (i := 0) (o := ox0) (As := []) (rest := []) rfl (ok_X8_wrong l ox0 (σ) hq11) yv_X8_wrong ml_X8_213 (cl_40) rfl rfl rfl rfl rfl ?_
      obtain ⟨ob12, h⟩ := am_ct2 h
      obtain rfl := Option.some.inj h
      exact am_zret hc X hr 22 rfl ob12 rfl rfl
def lp_X8_readAll_23  : Nat → Nat → am_S → Option (Int32 × am_S)
  | 0 => fun _ _ => none
  | n + 1 => lb_X8_readAll_23  (lp_X8_readAll_23  n)
theorem ll_X8_readAll_23 {p : Program} {l : Launch} {e : Env} {s : State} {m : MethodId} {args : Array Value} {below : List Frame} {meth : Method} {c : Code} {G : am_G} {q : Int32 × am_S} (X : am_X p s m args c cX8_readAll yX8_readAll.cls 1 am_p8 G (am_fr G)) (hr : meth.sig.returnType = (some .boolean) ∧ meth.locks = false)    : ∀ (n : Nat) (ox0 : Nat) (σ : am_S), lp_X8_readAll_23  n ox0 σ = some q → am_A p l e (am_ro 7) s m args below meth c 1 G (am_fr G) 0 0 (MQ below (am_Qc G (some (am_i q.1)) q.2) args s 0 0 (am_fr G)) (23, [(0, am_r ox0 40 0)], [], σ) := by
  intro n
  induction n with
  | zero =>
    intro ox0 σ h
    have h : (none : Option (Int32 × am_S)) = some q := h
    cases h
  | succ n ih =>
    intro ox0 σ h
    exact lc_X8_readAll_23 X hr  (lp_X8_readAll_23  n) ih ox0 σ h
def fn_X8_readAll (oa0 : Nat) (σ : am_S) : Option (Int32 × am_S) :=
  (fn_X8_look oa0 (am_u (am_u σ oa0 40 0 34 1) oa0 40 0 28 0)).bind fun q1 => (fn_X8_statement oa0 q1).bind fun q3 => (if q3.1 = 0 then some (0, q3.2) else lp_X8_readAll_23  1000 oa0 q3.2)
set_option maxRecDepth 100000 in
theorem ok_X8_readAll (l : Launch) (oa0 : Nat) (σ : am_S) {q : Int32 × am_S} (h : fn_X8_readAll oa0 σ = some q) : am_M l yX8_readAll cX8_readAll 1 (some .boolean) 7 [am_r oa0 40 0] σ (some (am_i q.1)) q.2 := by
  refine am_M_of (P := am_p8) (by decide +kernel) am_p8_ok rfl ?_
  intro G p e s m args below meth c X hr
  have hc := ct_X8_readAll
  unfold fn_X8_readAll at h
  refine am_blk hc X 0 7 (fr' := (11, [(0, am_r oa0 40 0)], [am_r oa0 40 0], (am_u (am_u σ oa0 40 0 34 1) oa0 40 0 28 0))) rfl ⟨trivial, trivial, trivial, trivial, trivial, trivial, trivial, trivial⟩ ?_
  obtain ⟨q1, hq2, h⟩ := am_bs h
  refine am_callV hc 7 X (k := 40) (i := 0) (o := oa0) (As := []) (rest := []) rfl (ok_X8_look l oa0 (am_u (am_u σ oa0 40 0 34 1) oa0 40 0 28 0) hq2) yv_X8_look ml_X8_217 (cl_40) rfl rfl rfl rfl rfl ?_
  refine am_blk hc X 8 1 (fr' := (15, [(0, am_r oa0 40 0)], [am_r oa0 40 0], q1)) rfl ⟨trivial, trivial⟩ ?_
  obtain ⟨q3, hq4, h⟩ := am_bs h
  refine am_callV hc 9 X (k := 40) (i := 0) (o := oa0) (As := []) (rest := []) rfl (ok_X8_statement l oa0 q1 hq4) yv_X8_statement ml_X8_263 (cl_40) rfl rfl rfl rfl rfl ?_
  refine am_if_ne hc X 10 (tgt := 23) rfl (by decide) (fun c15 => ?_) (fun c15 => ?_)
  · replace h := am_in2 c15 h
    exact ll_X8_readAll_23 X hr   1000 oa0 _ h
  · replace h := am_ip c15 h
    refine am_blk hc X 11 1 (fr' := (22, [(0, am_r oa0 40 0)], [am_i 0], q3.2)) rfl ⟨trivial, trivial⟩ ?_
    obtain rfl := Option.some.inj h
    exact am_zret hc X hr 12 rfl (by decide) rfl rfl
def jn_X8_leastPaid_30 (k4 : Nat → Int32 → Int32 → am_S → Option (Int32 × am_S)) (ox0 : Nat) (x2 : Int32) (y0 : Int32) (σ : am_S) : Option (Int32 × am_S) :=
  k4 ox0 y0 (x2 + 1) (σ)
set_option maxRecDepth 100000 in
theorem jl_X8_leastPaid_30 {p : Program} {l : Launch} {e : Env} {s : State} {m : MethodId} {args : Array Value} {below : List Frame} {meth : Method} {c : Code} {G : am_G} {q : Int32 × am_S} (X : am_X p s m args c cX8_leastPaid yX8_leastPaid.cls 3 am_p8 G (am_fr G)) (hr : meth.sig.returnType = (some .int) ∧ meth.locks = false)  (k4 : Nat → Int32 → Int32 → am_S → Option (Int32 × am_S)) (hk4 : ∀ (ox0 : Nat) (x1 : Int32) (x2 : Int32) (σ : am_S), k4 ox0 x1 x2 σ = some q → am_A p l e (am_ro 0) s m args below meth c 3 G (am_fr G) 0 0 (MQ below (am_Qc G (some (am_i q.1)) q.2) args s 0 0 (am_fr G)) (4, [(0, am_r ox0 40 0), (1, am_i x1), (2, am_i x2)], [], σ)) (ox0 : Nat) (x2 : Int32) (y0 : Int32) (σ : am_S) (h : jn_X8_leastPaid_30 k4 ox0 x2 y0 σ = some q) : am_A p l e (am_ro 0) s m args below meth c 3 G (am_fr G) 0 0 (MQ below (am_Qc G (some (am_i q.1)) q.2) args s 0 0 (am_fr G)) (30, [(0, am_r ox0 40 0), (2, am_i x2)], [am_i y0], σ) := by
  have hc := ct_X8_leastPaid
  unfold jn_X8_leastPaid_30 at h
  refine am_blk hc X 19 3 (fr' := (4, [(0, am_r ox0 40 0), (1, am_i y0), (2, am_i (x2 + 1))], [], σ)) rfl ⟨trivial, trivial, trivial, trivial⟩ ?_
  exact hk4 ox0 y0 (x2 + 1) _ h
def lb_X8_leastPaid_4 (k4 : Nat → Int32 → Int32 → am_S → Option (Int32 × am_S)) (ox0 : Nat) (x1 : Int32) (x2 : Int32) (σ : am_S) : Option (Int32 × am_S) :=
  (if 7 ≤ x2 then some (x1, σ) else (bif am_in x2 7 then (bif am_in x1 7 then (if (σ.1 ox0 66 0 ((x1 : Int32).toNatClampNeg)) ≤ (σ.1 ox0 66 0 ((x2 : Int32).toNatClampNeg)) then jn_X8_leastPaid_30 k4 ox0 x2 x1 (σ) else jn_X8_leastPaid_30 k4 ox0 x2 x2 (σ)) else none) else none))
set_option maxRecDepth 100000 in
theorem lc_X8_leastPaid_4 {p : Program} {l : Launch} {e : Env} {s : State} {m : MethodId} {args : Array Value} {below : List Frame} {meth : Method} {c : Code} {G : am_G} {q : Int32 × am_S} (X : am_X p s m args c cX8_leastPaid yX8_leastPaid.cls 3 am_p8 G (am_fr G)) (hr : meth.sig.returnType = (some .int) ∧ meth.locks = false)  (k4 : Nat → Int32 → Int32 → am_S → Option (Int32 × am_S)) (hk4 : ∀ (ox0 : Nat) (x1 : Int32) (x2 : Int32) (σ : am_S), k4 ox0 x1 x2 σ = some q → am_A p l e (am_ro 0) s m args below meth c 3 G (am_fr G) 0 0 (MQ below (am_Qc G (some (am_i q.1)) q.2) args s 0 0 (am_fr G)) (4, [(0, am_r ox0 40 0), (1, am_i x1), (2, am_i x2)], [], σ)) (ox0 : Nat) (x1 : Int32) (x2 : Int32) (σ : am_S) (h : lb_X8_leastPaid_4 k4 ox0 x1 x2 σ = some q) : am_A p l e (am_ro 0) s m args below meth c 3 G (am_fr G) 0 0 (MQ below (am_Qc G (some (am_i q.1)) q.2) args s 0 0 (am_fr G)) (4, [(0, am_r ox0 40 0), (1, am_i x1), (2, am_i x2)], [], σ) := by
  have hc := ct_X8_leastPaid
  unfold lb_X8_leastPaid_4 at h
  refine am_blk hc X 4 2 (fr' := (7, [(0, am_r ox0 40 0), (1, am_i x1), (2, am_i x2)], [am_i 7, am_i x2], σ)) rfl ⟨trivial, trivial, trivial⟩ ?_
  refine am_icmp_ge hc X 6 (tgt := 37) rfl (by decide) (fun c4 => ?_) (fun c4 => ?_)
  · replace h := am_ip c4 h
    refine am_blk hc X 22 1 (fr' := (38, [(0, am_r ox0 40 0), (1, am_i x1), (2, am_i x2)], [am_i x1], σ)) rfl ⟨trivial, trivial⟩ ?_
    obtain rfl := Option.some.inj h
    exact am_iret hc X hr 23 rfl rfl rfl
  · replace h := am_in2 c4 h
    obtain ⟨ob1, h⟩ := am_ci h
    obtain ⟨ob2, h⟩ := am_ci h
    refine am_blk hc X 7 8 (fr' := (22, [(0, am_r ox0 40 0), (1, am_i x1), (2, am_i x2)], [am_i (σ.1 ox0 66 0 ((x1 : Int32).toNatClampNeg)), am_i (σ.1 ox0 66 0 ((x2 : Int32).toNatClampNeg))], σ)) rfl ⟨trivial, trivial, trivial, (am_in_vp ob1), trivial, trivial, trivial, (am_in_vp ob2), trivial⟩ ?_
    refine am_icmp_ge hc X 15 (tgt := 29) rfl (by decide) (fun c3 => ?_) (fun c3 => ?_)
    · replace h := am_ip c3 h
      refine am_blk hc X 18 1 (fr' := (30, [(0, am_r ox0 40 0), (1, am_i x1), (2, am_i x2)], [am_i x1], σ)) rfl ⟨trivial, trivial⟩ ?_
      refine am_less [0, 2] rfl ?_
      exact jl_X8_leastPaid_30 X hr k4 hk4 ox0 x2 x1 _ h
    · replace h := am_in2 c3 h
      refine am_blk hc X 16 2 (fr' := (30, [(0, am_r ox0 40 0), (1, am_i x1), (2, am_i x2)], [am_i x2], σ)) rfl ⟨trivial, trivial, trivial⟩ ?_
      refine am_less [0, 2] rfl ?_
      exact jl_X8_leastPaid_30 X hr k4 hk4 ox0 x2 x2 _ h
def lp_X8_leastPaid_4  : Nat → Nat → Int32 → Int32 → am_S → Option (Int32 × am_S)
  | 0 => fun _ _ _ _ => none
  | n + 1 => lb_X8_leastPaid_4  (lp_X8_leastPaid_4  n)
theorem ll_X8_leastPaid_4 {p : Program} {l : Launch} {e : Env} {s : State} {m : MethodId} {args : Array Value} {below : List Frame} {meth : Method} {c : Code} {G : am_G} {q : Int32 × am_S} (X : am_X p s m args c cX8_leastPaid yX8_leastPaid.cls 3 am_p8 G (am_fr G)) (hr : meth.sig.returnType = (some .int) ∧ meth.locks = false)    : ∀ (n : Nat) (ox0 : Nat) (x1 : Int32) (x2 : Int32) (σ : am_S), lp_X8_leastPaid_4  n ox0 x1 x2 σ = some q → am_A p l e (am_ro 0) s m args below meth c 3 G (am_fr G) 0 0 (MQ below (am_Qc G (some (am_i q.1)) q.2) args s 0 0 (am_fr G)) (4, [(0, am_r ox0 40 0), (1, am_i x1), (2, am_i x2)], [], σ) := by
  intro n
  induction n with
  | zero =>
    intro ox0 x1 x2 σ h
    have h : (none : Option (Int32 × am_S)) = some q := h
    cases h
  | succ n ih =>
    intro ox0 x1 x2 σ h
    exact lc_X8_leastPaid_4 X hr  (lp_X8_leastPaid_4  n) ih ox0 x1 x2 σ h
def fn_X8_leastPaid (oa0 : Nat) (σ : am_S) : Option (Int32 × am_S) :=
  lp_X8_leastPaid_4  1000 oa0 0 1 (σ)
set_option maxRecDepth 100000 in
theorem ok_X8_leastPaid (l : Launch) (oa0 : Nat) (σ : am_S) {q : Int32 × am_S} (h : fn_X8_leastPaid oa0 σ = some q) : am_M l yX8_leastPaid cX8_leastPaid 3 (some .int) 0 [am_r oa0 40 0] σ (some (am_i q.1)) q.2 := by
  refine am_M_of (P := am_p8) (by decide +kernel) am_p8_ok rfl ?_
  intro G p e s m args below meth c X hr
  have hc := ct_X8_leastPaid
  unfold fn_X8_leastPaid at h
  refine am_blk hc X 0 4 (fr' := (4, [(0, am_r oa0 40 0), (1, am_i 0), (2, am_i 1)], [], σ)) rfl ⟨trivial, trivial, trivial, trivial, trivial⟩ ?_
  exact ll_X8_leastPaid_4 X hr   1000 oa0 0 1 _ h
def fn_X8_longest (oa0 : Nat) (a1 : Int32) (σ : am_S) : Option (Int32 × am_S) :=
  (fn_X8_isOne oa0 a1 (σ)).bind fun q1 => (if q1.1 = 0 then (fn_X8_refuse oa0 (-2) q1.2).bind fun q6 => some (q6.1, q6.2) else (bif am_in a1 6 then (if (q1.2.1 oa0 58 0 ((a1 : Int32).toNatClampNeg)) = 6 then some (0, q1.2) else (bif am_in a1 6 then some ((((20 : Int32) - (q1.2.1 oa0 61 0 ((a1 : Int32).toNatClampNeg))) / (2 : Int32)), q1.2) else none)) else none))
set_option maxRecDepth 100000 in
theorem ok_X8_longest (l : Launch) (oa0 : Nat) (a1 : Int32) (σ : am_S) {q : Int32 × am_S} (h : fn_X8_longest oa0 a1 σ = some q) : am_M l yX8_longest cX8_longest 2 (some .int) 2 [am_r oa0 40 0, am_i a1] σ (some (am_i q.1)) q.2 := by
  refine am_M_of (P := am_p8) (by decide +kernel) am_p8_ok rfl ?_
  intro G p e s m args below meth c X hr
  have hc := ct_X8_longest
  unfold fn_X8_longest at h
  refine am_blk hc X 0 2 (fr' := (2, [(0, am_r oa0 40 0), (1, am_i a1)], [am_i a1, am_r oa0 40 0], σ)) rfl ⟨trivial, trivial, trivial⟩ ?_
  obtain ⟨q1, hq2, h⟩ := am_bs h
  refine am_callV hc 2 X (k := 40) (i := 0) (o := oa0) (As := [am_i a1]) (rest := []) rfl (ok_X8_isOne l oa0 a1 (σ) hq2) yv_X8_isOne ml_X8_140 (cl_40) rfl rfl rfl rfl rfl ?_
  refine am_if_ne hc X 3 (tgt := 15) rfl (by decide) (fun c8 => ?_) (fun c8 => ?_)
  · replace h := am_in2 c8 h
    obtain ⟨ob3, h⟩ := am_ci h
    refine am_blk hc X 8 5 (fr' := (23, [(0, am_r oa0 40 0), (1, am_i a1)], [am_i 6, am_i (q1.2.1 oa0 58 0 ((a1 : Int32).toNatClampNeg))], q1.2)) rfl ⟨trivial, trivial, trivial, (am_in_vp ob3), trivial, trivial⟩ ?_
    refine am_icmp_ne hc X 13 (tgt := 30) rfl (by decide) (fun c5 => ?_) (fun c5 => ?_)
    · replace h := am_in2 c5 h
      obtain ⟨ob4, h⟩ := am_ci h
      refine am_blk hc X 16 8 (fr' := (41, [(0, am_r oa0 40 0), (1, am_i a1)], [am_i (((20 : Int32) - (q1.2.1 oa0 61 0 ((a1 : Int32).toNatClampNeg))) / (2 : Int32))], q1.2)) rfl ⟨trivial, trivial, trivial, trivial, (am_in_vp ob4), trivial, trivial, (by decide), trivial⟩ ?_
      obtain rfl := Option.some.inj h
      exact am_iret hc X hr 24 rfl rfl rfl
    · replace h := am_ip c5 h
      refine am_blk hc X 14 2 (fr' := (41, [(0, am_r oa0 40 0), (1, am_i a1)], [am_i 0], q1.2)) rfl ⟨trivial, trivial, trivial⟩ ?_
      obtain rfl := Option.some.inj h
      exact am_iret hc X hr 24 rfl rfl rfl
  · replace h := am_ip c8 h
    refine am_blk hc X 4 2 (fr' := (11, [(0, am_r oa0 40 0), (1, am_i a1)], [am_i (-2), am_r oa0 40 0], q1.2)) rfl ⟨trivial, trivial, trivial⟩ ?_
    obtain ⟨q6, hq7, h⟩ := am_bs h
    refine am_callV hc 6 X (k := 40) (i := 0) (o := oa0) (As := [am_i (-2)]) (rest := []) rfl (ok_X8_refuse l oa0 (-2) q1.2 hq7) yv_X8_refuse ml_X8_129 (cl_40) rfl rfl rfl rfl rfl ?_
    obtain rfl := Option.some.inj h
    exact am_iret hc X hr 7 rfl rfl rfl
def lb_X8_market_40 (k23 : Nat → Int32 → am_S → Option (Int32 × am_S)) (k40 : Nat → Int32 → Int32 → am_S → Option (Int32 × am_S)) (ox0 : Nat) (x1 : Int32) (x2 : Int32) (σ : am_S) : Option (Int32 × am_S) :=
  (if 7 ≤ x2 then k23 ox0 (x1 + 1) (σ) else (bif am_in x2 7 then (bif am_in x1 6 then (bif am_in (σ.1 ox0 58 0 ((x1 : Int32).toNatClampNeg)) 7 then (bif am_in x2 7 then (bif am_in x2 7 then k40 ox0 x1 (x2 + 1) (am_u σ ox0 66 0 ((x2 : Int32).toNatClampNeg) ((σ.1 ox0 66 0 ((x2 : Int32).toNatClampNeg)) + (σ.1 ox0 65 (((σ.1 ox0 58 0 ((x1 : Int32).toNatClampNeg)) : Int32).toNatClampNeg) ((x2 : Int32).toNatClampNeg)))) else none) else none) else none) else none) else none))
set_option maxRecDepth 100000 in
theorem lc_X8_market_40 {p : Program} {l : Launch} {e : Env} {s : State} {m : MethodId} {args : Array Value} {below : List Frame} {meth : Method} {c : Code} {G : am_G} {q : Int32 × am_S} (X : am_X p s m args c cX8_market yX8_market.cls 3 am_p8 G (am_fr G)) (hr : meth.sig.returnType = (some .int) ∧ meth.locks = false)  (k23 : Nat → Int32 → am_S → Option (Int32 × am_S)) (k40 : Nat → Int32 → Int32 → am_S → Option (Int32 × am_S)) (hk23 : ∀ (ox0 : Nat) (x1 : Int32) (σ : am_S), k23 ox0 x1 σ = some q → am_A p l e (am_ro 5) s m args below meth c 3 G (am_fr G) 0 0 (MQ below (am_Qc G (some (am_i q.1)) q.2) args s 0 0 (am_fr G)) (23, [(0, am_r ox0 40 0), (1, am_i x1)], [], σ)) (hk40 : ∀ (ox0 : Nat) (x1 : Int32) (x2 : Int32) (σ : am_S), k40 ox0 x1 x2 σ = some q → am_A p l e (am_ro 5) s m args below meth c 3 G (am_fr G) 0 0 (MQ below (am_Qc G (some (am_i q.1)) q.2) args s 0 0 (am_fr G)) (40, [(0, am_r ox0 40 0), (1, am_i x1), (2, am_i x2)], [], σ)) (ox0 : Nat) (x1 : Int32) (x2 : Int32) (σ : am_S) (h : lb_X8_market_40 k23 k40 ox0 x1 x2 σ = some q) : am_A p l e (am_ro 5) s m args below meth c 3 G (am_fr G) 0 0 (MQ below (am_Qc G (some (am_i q.1)) q.2) args s 0 0 (am_fr G)) (40, [(0, am_r ox0 40 0), (1, am_i x1), (2, am_i x2)], [], σ) := by
  have hc := ct_X8_market
  unfold lb_X8_market_40 at h
  refine am_blk hc X 25 2 (fr' := (43, [(0, am_r ox0 40 0), (1, am_i x1), (2, am_i x2)], [am_i 7, am_i x2], σ)) rfl ⟨trivial, trivial, trivial⟩ ?_
  refine am_icmp_ge hc X 27 (tgt := 74) rfl (by decide) (fun c10 => ?_) (fun c10 => ?_)
  · replace h := am_ip c10 h
    refine am_blk hc X 46 2 (fr' := (23, [(0, am_r ox0 40 0), (1, am_i (x1 + 1)), (2, am_i x2)], [], σ)) rfl ⟨trivial, trivial, trivial⟩ ?_
    refine am_less [0, 1] rfl ?_
    exact hk23 ox0 (x1 + 1) _ h
  · replace h := am_in2 c10 h
    obtain ⟨ob5, h⟩ := am_ci h
    obtain ⟨ob6, h⟩ := am_ci h
    obtain ⟨ob7, h⟩ := am_ci h
    obtain ⟨ob8, h⟩ := am_ci h
    obtain ⟨ob9, h⟩ := am_ci h
    refine am_blk hc X 28 18 (fr' := (40, [(0, am_r ox0 40 0), (1, am_i x1), (2, am_i (x2 + 1))], [], (am_u σ ox0 66 0 ((x2 : Int32).toNatClampNeg) ((σ.1 ox0 66 0 ((x2 : Int32).toNatClampNeg)) + (σ.1 ox0 65 (((σ.1 ox0 58 0 ((x1 : Int32).toNatClampNeg)) : Int32).toNatClampNeg) ((x2 : Int32).toNatClampNeg)))))) rfl ⟨trivial, trivial, trivial, trivial, (am_in_vp ob5), trivial, trivial, trivial, trivial, trivial, (am_in_vp ob6), (am_in_vp ob7), trivial, (am_in_vp ob8), trivial, (am_in_vp ob9), trivial, trivial, trivial⟩ ?_
    exact hk40 ox0 x1 (x2 + 1) _ h
def lp_X8_market_40 (k23 : Nat → Int32 → am_S → Option (Int32 × am_S)) : Nat → Nat → Int32 → Int32 → am_S → Option (Int32 × am_S)
  | 0 => fun _ _ _ _ => none
  | n + 1 => lb_X8_market_40 k23 (lp_X8_market_40 k23 n)
theorem ll_X8_market_40 {p : Program} {l : Launch} {e : Env} {s : State} {m : MethodId} {args : Array Value} {below : List Frame} {meth : Method} {c : Code} {G : am_G} {q : Int32 × am_S} (X : am_X p s m args c cX8_market yX8_market.cls 3 am_p8 G (am_fr G)) (hr : meth.sig.returnType = (some .int) ∧ meth.locks = false)  (k23 : Nat → Int32 → am_S → Option (Int32 × am_S)) (hk23 : ∀ (ox0 : Nat) (x1 : Int32) (σ : am_S), k23 ox0 x1 σ = some q → am_A p l e (am_ro 5) s m args below meth c 3 G (am_fr G) 0 0 (MQ below (am_Qc G (some (am_i q.1)) q.2) args s 0 0 (am_fr G)) (23, [(0, am_r ox0 40 0), (1, am_i x1)], [], σ)) : ∀ (n : Nat) (ox0 : Nat) (x1 : Int32) (x2 : Int32) (σ : am_S), lp_X8_market_40 k23 n ox0 x1 x2 σ = some q → am_A p l e (am_ro 5) s m args below meth c 3 G (am_fr G) 0 0 (MQ below (am_Qc G (some (am_i q.1)) q.2) args s 0 0 (am_fr G)) (40, [(0, am_r ox0 40 0), (1, am_i x1), (2, am_i x2)], [], σ) := by
  intro n
  induction n with
  | zero =>
    intro ox0 x1 x2 σ h
    have h : (none : Option (Int32 × am_S)) = some q := h
    cases h
  | succ n ih =>
    intro ox0 x1 x2 σ h
    exact lc_X8_market_40 X hr k23 (lp_X8_market_40 k23 n) hk23 ih ox0 x1 x2 σ h
def lb_X8_market_23 (k23 : Nat → Int32 → am_S → Option (Int32 × am_S)) (ox0 : Nat) (x1 : Int32) (σ : am_S) : Option (Int32 × am_S) :=
  (if (σ.1 ox0 40 0 15) ≤ x1 then (fn_X8_leastPaid ox0 (σ)).bind fun q1 => some (q1.1, q1.2) else (fn_X8_findFar ox0 x1 0 (-1) (σ)).bind fun q3 => lp_X8_market_40 k23 1000 ox0 x1 0 q3)
set_option maxRecDepth 100000 in
theorem lc_X8_market_23 {p : Program} {l : Launch} {e : Env} {s : State} {m : MethodId} {args : Array Value} {below : List Frame} {meth : Method} {c : Code} {G : am_G} {q : Int32 × am_S} (X : am_X p s m args c cX8_market yX8_market.cls 3 am_p8 G (am_fr G)) (hr : meth.sig.returnType = (some .int) ∧ meth.locks = false)  (k23 : Nat → Int32 → am_S → Option (Int32 × am_S)) (hk23 : ∀ (ox0 : Nat) (x1 : Int32) (σ : am_S), k23 ox0 x1 σ = some q → am_A p l e (am_ro 5) s m args below meth c 3 G (am_fr G) 0 0 (MQ below (am_Qc G (some (am_i q.1)) q.2) args s 0 0 (am_fr G)) (23, [(0, am_r ox0 40 0), (1, am_i x1)], [], σ)) (ox0 : Nat) (x1 : Int32) (σ : am_S) (h : lb_X8_market_23 k23 ox0 x1 σ = some q) : am_A p l e (am_ro 5) s m args below meth c 3 G (am_fr G) 0 0 (MQ below (am_Qc G (some (am_i q.1)) q.2) args s 0 0 (am_fr G)) (23, [(0, am_r ox0 40 0), (1, am_i x1)], [], σ) := by
  have hc := ct_X8_market
  unfold lb_X8_market_23 at h
  refine am_blk hc X 14 3 (fr' := (28, [(0, am_r ox0 40 0), (1, am_i x1)], [am_i (σ.1 ox0 40 0 15), am_i x1], σ)) rfl ⟨trivial, trivial, trivial, trivial⟩ ?_
  refine am_icmp_ge hc X 17 (tgt := 80) rfl (by decide) (fun c11 => ?_) (fun c11 => ?_)
  · replace h := am_ip c11 h
    refine am_blk hc X 48 1 (fr' := (81, [(0, am_r ox0 40 0), (1, am_i x1)], [am_r ox0 40 0], σ)) rfl ⟨trivial, trivial⟩ ?_
    obtain ⟨q1, hq2, h⟩ := am_bs h
    refine am_callV hc 49 X (k := 40) (i := 0) (o := ox0) (As := []) (rest := []) rfl (ok_X8_leastPaid l ox0 (σ) hq2) yv_X8_leastPaid ml_X8_341 (cl_40) rfl rfl rfl rfl rfl ?_
    obtain rfl := Option.some.inj h
    exact am_iret hc X hr 50 rfl rfl rfl
  · replace h := am_in2 c11 h
    refine am_blk hc X 18 4 (fr' := (35, [(0, am_r ox0 40 0), (1, am_i x1)], [am_i (-1), am_i 0, am_i x1, am_r ox0 40 0], σ)) rfl ⟨trivial, trivial, trivial, trivial, trivial⟩ ?_
    obtain ⟨q3, hq4, h⟩ := am_bs h
    refine am_callV hc 22 X (k := 40) (i := 0) (o := ox0) (As := [am_i x1, am_i 0, am_i (-1)]) (rest := []) rfl (ok_X8_findFar l ox0 x1 0 (-1) (σ) hq4) yv_X8_findFar ml_X8_304 (cl_40) rfl rfl rfl rfl rfl ?_
    refine am_blk hc X 23 2 (fr' := (40, [(0, am_r ox0 40 0), (1, am_i x1), (2, am_i 0)], [], q3)) rfl ⟨trivial, trivial, trivial⟩ ?_
    exact ll_X8_market_40 X hr k23 hk23 1000 ox0 x1 0 _ h
def lp_X8_market_23  : Nat → Nat → Int32 → am_S → Option (Int32 × am_S)
  | 0 => fun _ _ _ => none
  | n + 1 => lb_X8_market_23  (lp_X8_market_23  n)
theorem ll_X8_market_23 {p : Program} {l : Launch} {e : Env} {s : State} {m : MethodId} {args : Array Value} {below : List Frame} {meth : Method} {c : Code} {G : am_G} {q : Int32 × am_S} (X : am_X p s m args c cX8_market yX8_market.cls 3 am_p8 G (am_fr G)) (hr : meth.sig.returnType = (some .int) ∧ meth.locks = false)    : ∀ (n : Nat) (ox0 : Nat) (x1 : Int32) (σ : am_S), lp_X8_market_23  n ox0 x1 σ = some q → am_A p l e (am_ro 5) s m args below meth c 3 G (am_fr G) 0 0 (MQ below (am_Qc G (some (am_i q.1)) q.2) args s 0 0 (am_fr G)) (23, [(0, am_r ox0 40 0), (1, am_i x1)], [], σ) := by
  intro n
  induction n with
  | zero =>
    intro ox0 x1 σ h
    have h : (none : Option (Int32 × am_S)) = some q := h
    cases h
  | succ n ih =>
    intro ox0 x1 σ h
    exact lc_X8_market_23 X hr  (lp_X8_market_23  n) ih ox0 x1 σ h
def lb_X8_market_2 (k2 : Nat → Int32 → am_S → Option (Int32 × am_S)) (ox0 : Nat) (x1 : Int32) (σ : am_S) : Option (Int32 × am_S) :=
  (if 7 ≤ x1 then lp_X8_market_23  1000 ox0 0 (σ) else (bif am_in x1 7 then k2 ox0 (x1 + 1) (am_u σ ox0 66 0 ((x1 : Int32).toNatClampNeg) 0) else none))
set_option maxRecDepth 100000 in
theorem lc_X8_market_2 {p : Program} {l : Launch} {e : Env} {s : State} {m : MethodId} {args : Array Value} {below : List Frame} {meth : Method} {c : Code} {G : am_G} {q : Int32 × am_S} (X : am_X p s m args c cX8_market yX8_market.cls 3 am_p8 G (am_fr G)) (hr : meth.sig.returnType = (some .int) ∧ meth.locks = false)  (k2 : Nat → Int32 → am_S → Option (Int32 × am_S)) (hk2 : ∀ (ox0 : Nat) (x1 : Int32) (σ : am_S), k2 ox0 x1 σ = some q → am_A p l e (am_ro 5) s m args below meth c 3 G (am_fr G) 0 0 (MQ below (am_Qc G (some (am_i q.1)) q.2) args s 0 0 (am_fr G)) (2, [(0, am_r ox0 40 0), (1, am_i x1)], [], σ)) (ox0 : Nat) (x1 : Int32) (σ : am_S) (h : lb_X8_market_2 k2 ox0 x1 σ = some q) : am_A p l e (am_ro 5) s m args below meth c 3 G (am_fr G) 0 0 (MQ below (am_Qc G (some (am_i q.1)) q.2) args s 0 0 (am_fr G)) (2, [(0, am_r ox0 40 0), (1, am_i x1)], [], σ) := by
  have hc := ct_X8_market
  unfold lb_X8_market_2 at h
  refine am_blk hc X 2 2 (fr' := (5, [(0, am_r ox0 40 0), (1, am_i x1)], [am_i 7, am_i x1], σ)) rfl ⟨trivial, trivial, trivial⟩ ?_
  refine am_icmp_ge hc X 4 (tgt := 21) rfl (by decide) (fun c13 => ?_) (fun c13 => ?_)
  · replace h := am_ip c13 h
    refine am_blk hc X 12 2 (fr' := (23, [(0, am_r ox0 40 0), (1, am_i 0)], [], σ)) rfl ⟨trivial, trivial, trivial⟩ ?_
    exact ll_X8_market_23 X hr   1000 ox0 0 _ h
  · replace h := am_in2 c13 h
    obtain ⟨ob12, h⟩ := am_ci h
    refine am_blk hc X 5 7 (fr' := (2, [(0, am_r ox0 40 0), (1, am_i (x1 + 1))], [], (am_u σ ox0 66 0 ((x1 : Int32).toNatClampNeg) 0))) rfl ⟨trivial, trivial, trivial, trivial, (am_in_vp ob12), trivial, trivial, trivial⟩ ?_
    exact hk2 ox0 (x1 + 1) _ h
def lp_X8_market_2  : Nat → Nat → Int32 → am_S → Option (Int32 × am_S)
  | 0 => fun _ _ _ => none
  | n + 1 => lb_X8_market_2  (lp_X8_market_2  n)
theorem ll_X8_market_2 {p : Program} {l : Launch} {e : Env} {s : State} {m : MethodId} {args : Array Value} {below : List Frame} {meth : Method} {c : Code} {G : am_G} {q : Int32 × am_S} (X : am_X p s m args c cX8_market yX8_market.cls 3 am_p8 G (am_fr G)) (hr : meth.sig.returnType = (some .int) ∧ meth.locks = false)    : ∀ (n : Nat) (ox0 : Nat) (x1 : Int32) (σ : am_S), lp_X8_market_2  n ox0 x1 σ = some q → am_A p l e (am_ro 5) s m args below meth c 3 G (am_fr G) 0 0 (MQ below (am_Qc G (some (am_i q.1)) q.2) args s 0 0 (am_fr G)) (2, [(0, am_r ox0 40 0), (1, am_i x1)], [], σ) := by
  intro n
  induction n with
  | zero =>
    intro ox0 x1 σ h
    have h : (none : Option (Int32 × am_S)) = some q := h
    cases h
  | succ n ih =>
    intro ox0 x1 σ h
    exact lc_X8_market_2 X hr  (lp_X8_market_2  n) ih ox0 x1 σ h
def fn_X8_market (oa0 : Nat) (σ : am_S) : Option (Int32 × am_S) :=
  lp_X8_market_2  1000 oa0 0 (σ)
set_option maxRecDepth 100000 in
theorem ok_X8_market (l : Launch) (oa0 : Nat) (σ : am_S) {q : Int32 × am_S} (h : fn_X8_market oa0 σ = some q) : am_M l yX8_market cX8_market 3 (some .int) 5 [am_r oa0 40 0] σ (some (am_i q.1)) q.2 := by
  refine am_M_of (P := am_p8) (by decide +kernel) am_p8_ok rfl ?_
  intro G p e s m args below meth c X hr
  have hc := ct_X8_market
  unfold fn_X8_market at h
  refine am_blk hc X 0 2 (fr' := (2, [(0, am_r oa0 40 0), (1, am_i 0)], [], σ)) rfl ⟨trivial, trivial, trivial⟩ ?_
  exact ll_X8_market_2 X hr   1000 oa0 0 _ h
def jn_X8_meet_112 (k40 : Nat → Int32 → Int32 → am_S → Option (Int32 × am_S)) (k57 : Nat → Int32 → Int32 → Int32 → am_S → Option (Int32 × am_S)) (ox0 : Nat) (x1 : Int32) (x2 : Int32) (x3 : Int32) (y0 : Int32) (y1 : Int32) (oy2 : Nat) (σ : am_S) : Option (Int32 × am_S) :=
  (bif am_in y1 7 then k57 ox0 x1 x2 (x3 + 1) (am_u σ oy2 66 0 ((y1 : Int32).toNatClampNeg) y0) else none)
set_option maxRecDepth 100000 in
theorem jl_X8_meet_112 {p : Program} {l : Launch} {e : Env} {s : State} {m : MethodId} {args : Array Value} {below : List Frame} {meth : Method} {c : Code} {G : am_G} {q : Int32 × am_S} (X : am_X p s m args c cX8_meet yX8_meet.cls 4 am_p8 G (am_fr G)) (hr : meth.sig.returnType = (some .int) ∧ meth.locks = false)  (k40 : Nat → Int32 → Int32 → am_S → Option (Int32 × am_S)) (k57 : Nat → Int32 → Int32 → Int32 → am_S → Option (Int32 × am_S)) (hk40 : ∀ (ox0 : Nat) (x1 : Int32) (x2 : Int32) (σ : am_S), k40 ox0 x1 x2 σ = some q → am_A p l e (am_ro 5) s m args below meth c 4 G (am_fr G) 0 0 (MQ below (am_Qc G (some (am_i q.1)) q.2) args s 0 0 (am_fr G)) (40, [(0, am_r ox0 40 0), (1, am_i x1), (2, am_i x2)], [], σ)) (hk57 : ∀ (ox0 : Nat) (x1 : Int32) (x2 : Int32) (x3 : Int32) (σ : am_S), k57 ox0 x1 x2 x3 σ = some q → am_A p l e (am_ro 5) s m args below meth c 4 G (am_fr G) 0 0 (MQ below (am_Qc G (some (am_i q.1)) q.2) args s 0 0 (am_fr G)) (57, [(0, am_r ox0 40 0), (1, am_i x1), (2, am_i x2), (3, am_i x3)], [], σ)) (ox0 : Nat) (x1 : Int32) (x2 : Int32) (x3 : Int32) (y0 : Int32) (y1 : Int32) (oy2 : Nat) (σ : am_S) (h : jn_X8_meet_112 k40 k57 ox0 x1 x2 x3 y0 y1 oy2 σ = some q) : am_A p l e (am_ro 5) s m args below meth c 4 G (am_fr G) 0 0 (MQ below (am_Qc G (some (am_i q.1)) q.2) args s 0 0 (am_fr G)) (112, [(0, am_r ox0 40 0), (1, am_i x1), (2, am_i x2), (3, am_i x3)], [am_i y0, am_i y1, am_r oy2 66 0], σ) := by
  have hc := ct_X8_meet
  unfold jn_X8_meet_112 at h
  obtain ⟨ob16, h⟩ := am_ci h
  refine am_blk hc X 69 3 (fr' := (57, [(0, am_r ox0 40 0), (1, am_i x1), (2, am_i x2), (3, am_i (x3 + 1))], [], (am_u σ oy2 66 0 ((y1 : Int32).toNatClampNeg) y0))) rfl ⟨(am_in_vp ob16), trivial, trivial, trivial⟩ ?_
  exact hk57 ox0 x1 x2 (x3 + 1) _ h
def lb_X8_meet_57 (k40 : Nat → Int32 → Int32 → am_S → Option (Int32 × am_S)) (k57 : Nat → Int32 → Int32 → Int32 → am_S → Option (Int32 × am_S)) (ox0 : Nat) (x1 : Int32) (x2 : Int32) (x3 : Int32) (σ : am_S) : Option (Int32 × am_S) :=
  (if 7 ≤ x3 then k40 ox0 x1 (x2 + 1) (σ) else (bif am_in x2 6 then (bif am_in (σ.1 ox0 58 0 ((x2 : Int32).toNatClampNeg)) 7 then (bif am_in x3 7 then (bif am_in x3 7 then (if (σ.1 ox0 65 (((σ.1 ox0 58 0 ((x2 : Int32).toNatClampNeg)) : Int32).toNatClampNeg) ((x3 : Int32).toNatClampNeg)) ≤ (σ.1 ox0 66 0 ((x3 : Int32).toNatClampNeg)) then (bif am_in x3 7 then jn_X8_meet_112 k40 k57 ox0 x1 x2 x3 (σ.1 ox0 66 0 ((x3 : Int32).toNatClampNeg)) x3 ox0 (σ) else none) else (bif am_in x2 6 then (bif am_in (σ.1 ox0 58 0 ((x2 : Int32).toNatClampNeg)) 7 then (bif am_in x3 7 then jn_X8_meet_112 k40 k57 ox0 x1 x2 x3 (σ.1 ox0 65 (((σ.1 ox0 58 0 ((x2 : Int32).toNatClampNeg)) : Int32).toNatClampNeg) ((x3 : Int32).toNatClampNeg)) x3 ox0 (σ) else none) else none) else none)) else none) else none) else none) else none))
set_option maxRecDepth 100000 in
theorem lc_X8_meet_57 {p : Program} {l : Launch} {e : Env} {s : State} {m : MethodId} {args : Array Value} {below : List Frame} {meth : Method} {c : Code} {G : am_G} {q : Int32 × am_S} (X : am_X p s m args c cX8_meet yX8_meet.cls 4 am_p8 G (am_fr G)) (hr : meth.sig.returnType = (some .int) ∧ meth.locks = false)  (k40 : Nat → Int32 → Int32 → am_S → Option (Int32 × am_S)) (k57 : Nat → Int32 → Int32 → Int32 → am_S → Option (Int32 × am_S)) (hk40 : ∀ (ox0 : Nat) (x1 : Int32) (x2 : Int32) (σ : am_S), k40 ox0 x1 x2 σ = some q → am_A p l e (am_ro 5) s m args below meth c 4 G (am_fr G) 0 0 (MQ below (am_Qc G (some (am_i q.1)) q.2) args s 0 0 (am_fr G)) (40, [(0, am_r ox0 40 0), (1, am_i x1), (2, am_i x2)], [], σ)) (hk57 : ∀ (ox0 : Nat) (x1 : Int32) (x2 : Int32) (x3 : Int32) (σ : am_S), k57 ox0 x1 x2 x3 σ = some q → am_A p l e (am_ro 5) s m args below meth c 4 G (am_fr G) 0 0 (MQ below (am_Qc G (some (am_i q.1)) q.2) args s 0 0 (am_fr G)) (57, [(0, am_r ox0 40 0), (1, am_i x1), (2, am_i x2), (3, am_i x3)], [], σ)) (ox0 : Nat) (x1 : Int32) (x2 : Int32) (x3 : Int32) (σ : am_S) (h : lb_X8_meet_57 k40 k57 ox0 x1 x2 x3 σ = some q) : am_A p l e (am_ro 5) s m args below meth c 4 G (am_fr G) 0 0 (MQ below (am_Qc G (some (am_i q.1)) q.2) args s 0 0 (am_fr G)) (57, [(0, am_r ox0 40 0), (1, am_i x1), (2, am_i x2), (3, am_i x3)], [], σ) := by
  have hc := ct_X8_meet
  unfold lb_X8_meet_57 at h
  refine am_blk hc X 35 2 (fr' := (60, [(0, am_r ox0 40 0), (1, am_i x1), (2, am_i x2), (3, am_i x3)], [am_i 7, am_i x3], σ)) rfl ⟨trivial, trivial, trivial⟩ ?_
  refine am_icmp_ge hc X 37 (tgt := 119) rfl (by decide) (fun c21 => ?_) (fun c21 => ?_)
  · replace h := am_ip c21 h
    refine am_blk hc X 72 2 (fr' := (40, [(0, am_r ox0 40 0), (1, am_i x1), (2, am_i (x2 + 1)), (3, am_i x3)], [], σ)) rfl ⟨trivial, trivial, trivial⟩ ?_
    refine am_less [0, 1, 2] rfl ?_
    exact hk40 ox0 x1 (x2 + 1) _ h
  · replace h := am_in2 c21 h
    obtain ⟨ob11, h⟩ := am_ci h
    obtain ⟨ob12, h⟩ := am_ci h
    obtain ⟨ob13, h⟩ := am_ci h
    obtain ⟨ob14, h⟩ := am_ci h
    refine am_blk hc X 38 16 (fr' := (87, [(0, am_r ox0 40 0), (1, am_i x1), (2, am_i x2), (3, am_i x3)], [am_i (σ.1 ox0 66 0 ((x3 : Int32).toNatClampNeg)), am_i (σ.1 ox0 65 (((σ.1 ox0 58 0 ((x2 : Int32).toNatClampNeg)) : Int32).toNatClampNeg) ((x3 : Int32).toNatClampNeg)), am_i x3, am_r ox0 66 0], σ)) rfl ⟨trivial, trivial, trivial, trivial, trivial, trivial, trivial, trivial, (am_in_vp ob11), (am_in_vp ob12), trivial, (am_in_vp ob13), trivial, trivial, trivial, (am_in_vp ob14), trivial⟩ ?_
    refine am_icmp_le hc X 54 (tgt := 106) rfl (by decide) (fun c20 => ?_) (fun c20 => ?_)
    · replace h := am_ip c20 h
      obtain ⟨ob15, h⟩ := am_ci h
      refine am_blk hc X 65 4 (fr' := (112, [(0, am_r ox0 40 0), (1, am_i x1), (2, am_i x2), (3, am_i x3)], [am_i (σ.1 ox0 66 0 ((x3 : Int32).toNatClampNeg)), am_i x3, am_r ox0 66 0], σ)) rfl ⟨trivial, trivial, trivial, (am_in_vp ob15), trivial⟩ ?_
      exact jl_X8_meet_112 X hr k40 k57 hk40 hk57 ox0 x1 x2 x3 (σ.1 ox0 66 0 ((x3 : Int32).toNatClampNeg)) x3 ox0 _ h
    · replace h := am_in2 c20 h
      obtain ⟨ob17, h⟩ := am_ci h
      obtain ⟨ob18, h⟩ := am_ci h
      obtain ⟨ob19, h⟩ := am_ci h
      refine am_blk hc X 55 10 (fr' := (112, [(0, am_r ox0 40 0), (1, am_i x1), (2, am_i x2), (3, am_i x3)], [am_i (σ.1 ox0 65 (((σ.1 ox0 58 0 ((x2 : Int32).toNatClampNeg)) : Int32).toNatClampNeg) ((x3 : Int32).toNatClampNeg)), am_i x3, am_r ox0 66 0], σ)) rfl ⟨trivial, trivial, trivial, trivial, trivial, (am_in_vp ob17), (am_in_vp ob18), trivial, (am_in_vp ob19), trivial, trivial⟩ ?_
      exact jl_X8_meet_112 X hr k40 k57 hk40 hk57 ox0 x1 x2 x3 (σ.1 ox0 65 (((σ.1 ox0 58 0 ((x2 : Int32).toNatClampNeg)) : Int32).toNatClampNeg) ((x3 : Int32).toNatClampNeg)) x3 ox0 _ h
def lp_X8_meet_57 (k40 : Nat → Int32 → Int32 → am_S → Option (Int32 × am_S)) : Nat → Nat → Int32 → Int32 → Int32 → am_S → Option (Int32 × am_S)
  | 0 => fun _ _ _ _ _ => none
  | n + 1 => lb_X8_meet_57 k40 (lp_X8_meet_57 k40 n)
theorem ll_X8_meet_57 {p : Program} {l : Launch} {e : Env} {s : State} {m : MethodId} {args : Array Value} {below : List Frame} {meth : Method} {c : Code} {G : am_G} {q : Int32 × am_S} (X : am_X p s m args c cX8_meet yX8_meet.cls 4 am_p8 G (am_fr G)) (hr : meth.sig.returnType = (some .int) ∧ meth.locks = false)  (k40 : Nat → Int32 → Int32 → am_S → Option (Int32 × am_S)) (hk40 : ∀ (ox0 : Nat) (x1 : Int32) (x2 : Int32) (σ : am_S), k40 ox0 x1 x2 σ = some q → am_A p l e (am_ro 5) s m args below meth c 4 G (am_fr G) 0 0 (MQ below (am_Qc G (some (am_i q.1)) q.2) args s 0 0 (am_fr G)) (40, [(0, am_r ox0 40 0), (1, am_i x1), (2, am_i x2)], [], σ)) : ∀ (n : Nat) (ox0 : Nat) (x1 : Int32) (x2 : Int32) (x3 : Int32) (σ : am_S), lp_X8_meet_57 k40 n ox0 x1 x2 x3 σ = some q → am_A p l e (am_ro 5) s m args below meth c 4 G (am_fr G) 0 0 (MQ below (am_Qc G (some (am_i q.1)) q.2) args s 0 0 (am_fr G)) (57, [(0, am_r ox0 40 0), (1, am_i x1), (2, am_i x2), (3, am_i x3)], [], σ) := by
  intro n
  induction n with
  | zero =>
    intro ox0 x1 x2 x3 σ h
    have h : (none : Option (Int32 × am_S)) = some q := h
    cases h
  | succ n ih =>
    intro ox0 x1 x2 x3 σ h
    exact lc_X8_meet_57 X hr k40 (lp_X8_meet_57 k40 n) hk40 ih ox0 x1 x2 x3 σ h
def lb_X8_meet_40 (k40 : Nat → Int32 → Int32 → am_S → Option (Int32 × am_S)) (ox0 : Nat) (x1 : Int32) (x2 : Int32) (σ : am_S) : Option (Int32 × am_S) :=
  (if (σ.1 ox0 40 0 15) ≤ x2 then (if x1 = 0 then (fn_X8_leastPaid ox0 (σ)).bind fun q6 => some (q6.1, q6.2) else (fn_X8_leastPaid ox0 (σ)).bind fun q3 => (bif am_in q3.1 7 then some ((q3.2.1 ox0 66 0 ((q3.1 : Int32).toNatClampNeg)), q3.2) else none)) else (fn_X8_findFar ox0 x2 1 (-1) (σ)).bind fun q9 => lp_X8_meet_57 k40 1000 ox0 x1 x2 0 q9)
set_option maxRecDepth 100000 in
theorem lc_X8_meet_40 {p : Program} {l : Launch} {e : Env} {s : State} {m : MethodId} {args : Array Value} {below : List Frame} {meth : Method} {c : Code} {G : am_G} {q : Int32 × am_S} (X : am_X p s m args c cX8_meet yX8_meet.cls 4 am_p8 G (am_fr G)) (hr : meth.sig.returnType = (some .int) ∧ meth.locks = false)  (k40 : Nat → Int32 → Int32 → am_S → Option (Int32 × am_S)) (hk40 : ∀ (ox0 : Nat) (x1 : Int32) (x2 : Int32) (σ : am_S), k40 ox0 x1 x2 σ = some q → am_A p l e (am_ro 5) s m args below meth c 4 G (am_fr G) 0 0 (MQ below (am_Qc G (some (am_i q.1)) q.2) args s 0 0 (am_fr G)) (40, [(0, am_r ox0 40 0), (1, am_i x1), (2, am_i x2)], [], σ)) (ox0 : Nat) (x1 : Int32) (x2 : Int32) (σ : am_S) (h : lb_X8_meet_40 k40 ox0 x1 x2 σ = some q) : am_A p l e (am_ro 5) s m args below meth c 4 G (am_fr G) 0 0 (MQ below (am_Qc G (some (am_i q.1)) q.2) args s 0 0 (am_fr G)) (40, [(0, am_r ox0 40 0), (1, am_i x1), (2, am_i x2)], [], σ) := by
  have hc := ct_X8_meet
  unfold lb_X8_meet_40 at h
  refine am_blk hc X 24 3 (fr' := (45, [(0, am_r ox0 40 0), (1, am_i x1), (2, am_i x2)], [am_i (σ.1 ox0 40 0 15), am_i x2], σ)) rfl ⟨trivial, trivial, trivial, trivial⟩ ?_
  refine am_icmp_ge hc X 27 (tgt := 125) rfl (by decide) (fun c22 => ?_) (fun c22 => ?_)
  · replace h := am_ip c22 h
    refine am_blk hc X 74 1 (fr' := (126, [(0, am_r ox0 40 0), (1, am_i x1), (2, am_i x2)], [am_i x1], σ)) rfl ⟨trivial, trivial⟩ ?_
    refine am_if_ne hc X 75 (tgt := 136) rfl (by decide) (fun c8 => ?_) (fun c8 => ?_)
    · replace h := am_in2 c8 h
      refine am_blk hc X 79 3 (fr' := (141, [(0, am_r ox0 40 0), (1, am_i x1), (2, am_i x2)], [am_r ox0 40 0, am_r ox0 66 0], σ)) rfl ⟨trivial, trivial, trivial, trivial⟩ ?_
      obtain ⟨q3, hq4, h⟩ := am_bs h
      refine am_callV hc 82 X (k := 40) (i := 0) (o := ox0) (As := []) (rest := [am_r ox0 66 0]) rfl (ok_X8_leastPaid l ox0 (σ) hq4) yv_X8_leastPaid ml_X8_341 (cl_40) rfl rfl rfl rfl rfl ?_
      obtain ⟨ob5, h⟩ := am_ci h
      refine am_blk hc X 83 1 (fr' := (145, [(0, am_r ox0 40 0), (1, am_i x1), (2, am_i x2)], [am_i (q3.2.1 ox0 66 0 ((q3.1 : Int32).toNatClampNeg))], q3.2)) rfl ⟨(am_in_vp ob5), trivial⟩ ?_
      obtain rfl := Option.some.inj h
      exact am_iret hc X hr 84 rfl rfl rfl
    · replace h := am_ip c8 h
      refine am_blk hc X 76 1 (fr' := (130, [(0, am_r ox0 40 0), (1, am_i x1), (2, am_i x2)], [am_r ox0 40 0], σ)) rfl ⟨trivial, trivial⟩ ?_
      obtain ⟨q6, hq7, h⟩ := am_bs h
      refine am_callV hc 77 X (k := 40) (i := 0) (o := ox0) (As := []) (rest := []) rfl (ok_X8_leastPaid l ox0 (σ) hq7) yv_X8_leastPaid ml_X8_341 (cl_40) rfl rfl rfl rfl rfl ?_
      refine am_blk hc X 78 1 (fr' := (145, [(0, am_r ox0 40 0), (1, am_i x1), (2, am_i x2)], [am_i q6.1], q6.2)) rfl ⟨trivial, trivial⟩ ?_
      obtain rfl := Option.some.inj h
      exact am_iret hc X hr 84 rfl rfl rfl
  · replace h := am_in2 c22 h
    refine am_blk hc X 28 4 (fr' := (52, [(0, am_r ox0 40 0), (1, am_i x1), (2, am_i x2)], [am_i (-1), am_i 1, am_i x2, am_r ox0 40 0], σ)) rfl ⟨trivial, trivial, trivial, trivial, trivial⟩ ?_
    obtain ⟨q9, hq10, h⟩ := am_bs h
    refine am_callV hc 32 X (k := 40) (i := 0) (o := ox0) (As := [am_i x2, am_i 1, am_i (-1)]) (rest := []) rfl (ok_X8_findFar l ox0 x2 1 (-1) (σ) hq10) yv_X8_findFar ml_X8_304 (cl_40) rfl rfl rfl rfl rfl ?_
    refine am_blk hc X 33 2 (fr' := (57, [(0, am_r ox0 40 0), (1, am_i x1), (2, am_i x2), (3, am_i 0)], [], q9)) rfl ⟨trivial, trivial, trivial⟩ ?_
    exact ll_X8_meet_57 X hr k40 hk40 1000 ox0 x1 x2 0 _ h
def lp_X8_meet_40  : Nat → Nat → Int32 → Int32 → am_S → Option (Int32 × am_S)
  | 0 => fun _ _ _ _ => none
  | n + 1 => lb_X8_meet_40  (lp_X8_meet_40  n)
theorem ll_X8_meet_40 {p : Program} {l : Launch} {e : Env} {s : State} {m : MethodId} {args : Array Value} {below : List Frame} {meth : Method} {c : Code} {G : am_G} {q : Int32 × am_S} (X : am_X p s m args c cX8_meet yX8_meet.cls 4 am_p8 G (am_fr G)) (hr : meth.sig.returnType = (some .int) ∧ meth.locks = false)    : ∀ (n : Nat) (ox0 : Nat) (x1 : Int32) (x2 : Int32) (σ : am_S), lp_X8_meet_40  n ox0 x1 x2 σ = some q → am_A p l e (am_ro 5) s m args below meth c 4 G (am_fr G) 0 0 (MQ below (am_Qc G (some (am_i q.1)) q.2) args s 0 0 (am_fr G)) (40, [(0, am_r ox0 40 0), (1, am_i x1), (2, am_i x2)], [], σ) := by
  intro n
  induction n with
  | zero =>
    intro ox0 x1 x2 σ h
    have h : (none : Option (Int32 × am_S)) = some q := h
    cases h
  | succ n ih =>
    intro ox0 x1 x2 σ h
    exact lc_X8_meet_40 X hr  (lp_X8_meet_40  n) ih ox0 x1 x2 σ h
def lb_X8_meet_19 (k19 : Nat → Int32 → Int32 → am_S → Option (Int32 × am_S)) (ox0 : Nat) (x1 : Int32) (x2 : Int32) (σ : am_S) : Option (Int32 × am_S) :=
  (if 7 ≤ x2 then lp_X8_meet_40  1000 ox0 x1 0 (σ) else (bif am_in x2 7 then k19 ox0 x1 (x2 + 1) (am_u σ ox0 66 0 ((x2 : Int32).toNatClampNeg) 0) else none))
set_option maxRecDepth 100000 in
theorem lc_X8_meet_19 {p : Program} {l : Launch} {e : Env} {s : State} {m : MethodId} {args : Array Value} {below : List Frame} {meth : Method} {c : Code} {G : am_G} {q : Int32 × am_S} (X : am_X p s m args c cX8_meet yX8_meet.cls 4 am_p8 G (am_fr G)) (hr : meth.sig.returnType = (some .int) ∧ meth.locks = false)  (k19 : Nat → Int32 → Int32 → am_S → Option (Int32 × am_S)) (hk19 : ∀ (ox0 : Nat) (x1 : Int32) (x2 : Int32) (σ : am_S), k19 ox0 x1 x2 σ = some q → am_A p l e (am_ro 5) s m args below meth c 4 G (am_fr G) 0 0 (MQ below (am_Qc G (some (am_i q.1)) q.2) args s 0 0 (am_fr G)) (19, [(0, am_r ox0 40 0), (1, am_i x1), (2, am_i x2)], [], σ)) (ox0 : Nat) (x1 : Int32) (x2 : Int32) (σ : am_S) (h : lb_X8_meet_19 k19 ox0 x1 x2 σ = some q) : am_A p l e (am_ro 5) s m args below meth c 4 G (am_fr G) 0 0 (MQ below (am_Qc G (some (am_i q.1)) q.2) args s 0 0 (am_fr G)) (19, [(0, am_r ox0 40 0), (1, am_i x1), (2, am_i x2)], [], σ) := by
  have hc := ct_X8_meet
  unfold lb_X8_meet_19 at h
  refine am_blk hc X 12 2 (fr' := (22, [(0, am_r ox0 40 0), (1, am_i x1), (2, am_i x2)], [am_i 7, am_i x2], σ)) rfl ⟨trivial, trivial, trivial⟩ ?_
  refine am_icmp_ge hc X 14 (tgt := 38) rfl (by decide) (fun c24 => ?_) (fun c24 => ?_)
  · replace h := am_ip c24 h
    refine am_blk hc X 22 2 (fr' := (40, [(0, am_r ox0 40 0), (1, am_i x1), (2, am_i 0)], [], σ)) rfl ⟨trivial, trivial, trivial⟩ ?_
    exact ll_X8_meet_40 X hr   1000 ox0 x1 0 _ h
  · replace h := am_in2 c24 h
    obtain ⟨ob23, h⟩ := am_ci h
    refine am_blk hc X 15 7 (fr' := (19, [(0, am_r ox0 40 0), (1, am_i x1), (2, am_i (x2 + 1))], [], (am_u σ ox0 66 0 ((x2 : Int32).toNatClampNeg) 0))) rfl ⟨trivial, trivial, trivial, trivial, (am_in_vp ob23), trivial, trivial, trivial⟩ ?_
    exact hk19 ox0 x1 (x2 + 1) _ h
def lp_X8_meet_19  : Nat → Nat → Int32 → Int32 → am_S → Option (Int32 × am_S)
  | 0 => fun _ _ _ _ => none
  | n + 1 => lb_X8_meet_19  (lp_X8_meet_19  n)
theorem ll_X8_meet_19 {p : Program} {l : Launch} {e : Env} {s : State} {m : MethodId} {args : Array Value} {below : List Frame} {meth : Method} {c : Code} {G : am_G} {q : Int32 × am_S} (X : am_X p s m args c cX8_meet yX8_meet.cls 4 am_p8 G (am_fr G)) (hr : meth.sig.returnType = (some .int) ∧ meth.locks = false)    : ∀ (n : Nat) (ox0 : Nat) (x1 : Int32) (x2 : Int32) (σ : am_S), lp_X8_meet_19  n ox0 x1 x2 σ = some q → am_A p l e (am_ro 5) s m args below meth c 4 G (am_fr G) 0 0 (MQ below (am_Qc G (some (am_i q.1)) q.2) args s 0 0 (am_fr G)) (19, [(0, am_r ox0 40 0), (1, am_i x1), (2, am_i x2)], [], σ) := by
  intro n
  induction n with
  | zero =>
    intro ox0 x1 x2 σ h
    have h : (none : Option (Int32 × am_S)) = some q := h
    cases h
  | succ n ih =>
    intro ox0 x1 x2 σ h
    exact lc_X8_meet_19 X hr  (lp_X8_meet_19  n) ih ox0 x1 x2 σ h
def fn_X8_meet (oa0 : Nat) (a1 : Int32) (σ : am_S) : Option (Int32 × am_S) :=
  (fn_X8_in ((a1 : Int32).toInt64) 0 1 (σ)).bind fun q1 => (if q1.1 = 0 then (fn_X8_refuse oa0 (-2) q1.2).bind fun q25 => some (q25.1, q25.2) else lp_X8_meet_19  1000 oa0 a1 0 q1.2)
set_option maxRecDepth 100000 in
theorem ok_X8_meet (l : Launch) (oa0 : Nat) (a1 : Int32) (σ : am_S) {q : Int32 × am_S} (h : fn_X8_meet oa0 a1 σ = some q) : am_M l yX8_meet cX8_meet 4 (some .int) 5 [am_r oa0 40 0, am_i a1] σ (some (am_i q.1)) q.2 := by
  refine am_M_of (P := am_p8) (by decide +kernel) am_p8_ok rfl ?_
  intro G p e s m args below meth c X hr
  have hc := ct_X8_meet
  unfold fn_X8_meet at h
  refine am_blk hc X 0 4 (fr' := (4, [(0, am_r oa0 40 0), (1, am_i a1)], [am_l 1, am_l 0, am_l ((a1 : Int32).toInt64)], σ)) rfl ⟨trivial, trivial, trivial, trivial, trivial⟩ ?_
  obtain ⟨q1, hq2, h⟩ := am_bs h
  refine am_callS hc 4 X (As := [am_l ((a1 : Int32).toInt64), am_l 0, am_l 1]) (rest := []) rfl (ok_X8_in l ((a1 : Int32).toInt64) 0 1 (σ) hq2) yv_X8_in ml_X8_117 rfl rfl rfl rfl rfl ?_
  refine am_if_ne hc X 5 (tgt := 17) rfl (by decide) (fun c27 => ?_) (fun c27 => ?_)
  · replace h := am_in2 c27 h
    refine am_blk hc X 10 2 (fr' := (19, [(0, am_r oa0 40 0), (1, am_i a1), (2, am_i 0)], [], q1.2)) rfl ⟨trivial, trivial, trivial⟩ ?_
    exact ll_X8_meet_19 X hr   1000 oa0 a1 0 _ h
  · replace h := am_ip c27 h
    refine am_blk hc X 6 2 (fr' := (13, [(0, am_r oa0 40 0), (1, am_i a1)], [am_i (-2), am_r oa0 40 0], q1.2)) rfl ⟨trivial, trivial, trivial⟩ ?_
    obtain ⟨q25, hq26, h⟩ := am_bs h
    refine am_callV hc 8 X (k := 40) (i := 0) (o := oa0) (As := [am_i (-2)]) (rest := []) rfl (ok_X8_refuse l oa0 (-2) q1.2 hq26) yv_X8_refuse ml_X8_129 (cl_40) rfl rfl rfl rfl rfl ?_
    obtain rfl := Option.some.inj h
    exact am_iret hc X hr 9 rfl rfl rfl
def jn_X8_pass_46  (ox0 : Nat) (σ : am_S) : Option (Int32 × am_S) :=
  (fn_X8_refuse ox0 (-2) (σ)).bind fun q3 => some (q3.1, q3.2)
set_option maxRecDepth 100000 in
theorem jl_X8_pass_46 {p : Program} {l : Launch} {e : Env} {s : State} {m : MethodId} {args : Array Value} {below : List Frame} {meth : Method} {c : Code} {G : am_G} {q : Int32 × am_S} (X : am_X p s m args c cX8_pass yX8_pass.cls 5 am_p8 G (am_fr G)) (hr : meth.sig.returnType = (some .int) ∧ meth.locks = false)    (ox0 : Nat) (σ : am_S) (h : jn_X8_pass_46  ox0 σ = some q) : am_A p l e (am_ro 2) s m args below meth c 5 G (am_fr G) 0 0 (MQ below (am_Qc G (some (am_i q.1)) q.2) args s 0 0 (am_fr G)) (46, [(0, am_r ox0 40 0)], [], σ) := by
  have hc := ct_X8_pass
  unfold jn_X8_pass_46 at h
  refine am_blk hc X 23 2 (fr' := (49, [(0, am_r ox0 40 0)], [am_i (-2), am_r ox0 40 0], σ)) rfl ⟨trivial, trivial, trivial⟩ ?_
  obtain ⟨q3, hq4, h⟩ := am_bs h
  refine am_callV hc 25 X (k := 40) (i := 0) (o := ox0) (As := [am_i (-2)]) (rest := []) rfl (ok_X8_refuse l ox0 (-2) (σ) hq4) yv_X8_refuse ml_X8_129 (cl_40) rfl rfl rfl rfl rfl ?_
  obtain rfl := Option.some.inj h
  exact am_iret hc X hr 26 rfl rfl rfl
def fn_X8_pass (oa0 : Nat) (a1 : Int32) (a2 : Int32) (a3 : Int32) (a4 : Int32) (σ : am_S) : Option (Int32 × am_S) :=
  (fn_X8_isValley ((a1 : Int32).toInt64) (σ)).bind fun q1 => (if q1.1 = 0 then jn_X8_pass_46  oa0 q1.2 else (fn_X8_isValley ((a2 : Int32).toInt64) q1.2).bind fun q5 => (if q5.1 = 0 then jn_X8_pass_46  oa0 q5.2 else (if a1 = a2 then jn_X8_pass_46  oa0 q5.2 else (fn_X8_in ((a3 : Int32).toInt64) 0 9 q5.2).bind fun q7 => (if q7.1 = 0 then jn_X8_pass_46  oa0 q7.2 else (fn_X8_in ((a4 : Int32).toInt64) 1 12 q7.2).bind fun q9 => (if q9.1 = 0 then jn_X8_pass_46  oa0 q9.2 else (if (q9.2.1 oa0 40 0 13) = 3 then (fn_X8_refuse oa0 (-6) q9.2).bind fun q13 => some (q13.1, q13.2) else (fn_X8_addPass oa0 a1 a2 a3 a4 q9.2).bind fun q11 => some (((q11.1 oa0 40 0 13) - (1 : Int32)), q11)))))))
set_option maxRecDepth 100000 in
theorem ok_X8_pass (l : Launch) (oa0 : Nat) (a1 : Int32) (a2 : Int32) (a3 : Int32) (a4 : Int32) (σ : am_S) {q : Int32 × am_S} (h : fn_X8_pass oa0 a1 a2 a3 a4 σ = some q) : am_M l yX8_pass cX8_pass 5 (some .int) 2 [am_r oa0 40 0, am_i a1, am_i a2, am_i a3, am_i a4] σ (some (am_i q.1)) q.2 := by
  refine am_M_of (P := am_p8) (by decide +kernel) am_p8_ok rfl ?_
  intro G p e s m args below meth c X hr
  have hc := ct_X8_pass
  unfold fn_X8_pass at h
  refine am_blk hc X 0 2 (fr' := (2, [(0, am_r oa0 40 0), (1, am_i a1), (2, am_i a2), (3, am_i a3), (4, am_i a4)], [am_l ((a1 : Int32).toInt64)], σ)) rfl ⟨trivial, trivial, trivial⟩ ?_
  obtain ⟨q1, hq2, h⟩ := am_bs h
  refine am_callS hc 2 X (As := [am_l ((a1 : Int32).toInt64)]) (rest := []) rfl (ok_X8_isValley l ((a1 : Int32).toInt64) (σ) hq2) yv_X8_isValley ml_X8_154 rfl rfl rfl rfl rfl ?_
  refine am_if_eq hc X 3 (tgt := 46) rfl (by decide) (fun c20 => ?_) (fun c20 => ?_)
  · replace h := am_ip c20 h
    refine am_less [0] rfl ?_
    exact jl_X8_pass_46 X hr   oa0 _ h
  · replace h := am_in2 c20 h
    refine am_blk hc X 4 2 (fr' := (10, [(0, am_r oa0 40 0), (1, am_i a1), (2, am_i a2), (3, am_i a3), (4, am_i a4)], [am_l ((a2 : Int32).toInt64)], q1.2)) rfl ⟨trivial, trivial, trivial⟩ ?_
    obtain ⟨q5, hq6, h⟩ := am_bs h
    refine am_callS hc 6 X (As := [am_l ((a2 : Int32).toInt64)]) (rest := []) rfl (ok_X8_isValley l ((a2 : Int32).toInt64) q1.2 hq6) yv_X8_isValley ml_X8_154 rfl rfl rfl rfl rfl ?_
    refine am_if_eq hc X 7 (tgt := 46) rfl (by decide) (fun c19 => ?_) (fun c19 => ?_)
    · replace h := am_ip c19 h
      refine am_less [0] rfl ?_
      exact jl_X8_pass_46 X hr   oa0 _ h
    · replace h := am_in2 c19 h
      refine am_blk hc X 8 2 (fr' := (18, [(0, am_r oa0 40 0), (1, am_i a1), (2, am_i a2), (3, am_i a3), (4, am_i a4)], [am_i a2, am_i a1], q5.2)) rfl ⟨trivial, trivial, trivial⟩ ?_
      refine am_icmp_eq hc X 10 (tgt := 46) rfl (by decide) (fun c18 => ?_) (fun c18 => ?_)
      · replace h := am_ip c18 h
        refine am_less [0] rfl ?_
        exact jl_X8_pass_46 X hr   oa0 _ h
      · replace h := am_in2 c18 h
        refine am_blk hc X 11 4 (fr' := (27, [(0, am_r oa0 40 0), (1, am_i a1), (2, am_i a2), (3, am_i a3), (4, am_i a4)], [am_l 9, am_l 0, am_l ((a3 : Int32).toInt64)], q5.2)) rfl ⟨trivial, trivial, trivial, trivial, trivial⟩ ?_
        obtain ⟨q7, hq8, h⟩ := am_bs h
        refine am_callS hc 15 X (As := [am_l ((a3 : Int32).toInt64), am_l 0, am_l 9]) (rest := []) rfl (ok_X8_in l ((a3 : Int32).toInt64) 0 9 q5.2 hq8) yv_X8_in ml_X8_117 rfl rfl rfl rfl rfl ?_
        refine am_if_eq hc X 16 (tgt := 46) rfl (by decide) (fun c17 => ?_) (fun c17 => ?_)
        · replace h := am_ip c17 h
          refine am_less [0] rfl ?_
          exact jl_X8_pass_46 X hr   oa0 _ h
        · replace h := am_in2 c17 h
          refine am_blk hc X 17 4 (fr' := (40, [(0, am_r oa0 40 0), (1, am_i a1), (2, am_i a2), (3, am_i a3), (4, am_i a4)], [am_l 12, am_l 1, am_l ((a4 : Int32).toInt64)], q7.2)) rfl ⟨trivial, trivial, trivial, trivial, trivial⟩ ?_
          obtain ⟨q9, hq10, h⟩ := am_bs h
          refine am_callS hc 21 X (As := [am_l ((a4 : Int32).toInt64), am_l 1, am_l 12]) (rest := []) rfl (ok_X8_in l ((a4 : Int32).toInt64) 1 12 q7.2 hq10) yv_X8_in ml_X8_117 rfl rfl rfl rfl rfl ?_
          refine am_if_ne hc X 22 (tgt := 53) rfl (by decide) (fun c16 => ?_) (fun c16 => ?_)
          · replace h := am_in2 c16 h
            refine am_blk hc X 27 3 (fr' := (58, [(0, am_r oa0 40 0), (1, am_i a1), (2, am_i a2), (3, am_i a3), (4, am_i a4)], [am_i 3, am_i (q9.2.1 oa0 40 0 13)], q9.2)) rfl ⟨trivial, trivial, trivial, trivial⟩ ?_
            refine am_icmp_ne hc X 30 (tgt := 68) rfl (by decide) (fun c15 => ?_) (fun c15 => ?_)
            · replace h := am_in2 c15 h
              refine am_blk hc X 35 5 (fr' := (74, [(0, am_r oa0 40 0), (1, am_i a1), (2, am_i a2), (3, am_i a3), (4, am_i a4)], [am_i a4, am_i a3, am_i a2, am_i a1, am_r oa0 40 0], q9.2)) rfl ⟨trivial, trivial, trivial, trivial, trivial, trivial⟩ ?_
              obtain ⟨q11, hq12, h⟩ := am_bs h
              refine am_callV hc 40 X (k := 40) (i := 0) (o := oa0) (As := [am_i a1, am_i a2, am_i a3, am_i a4]) (rest := []) rfl (ok_X8_addPass l oa0 a1 a2 a3 a4 q9.2 hq12) yv_X8_addPass ml_X8_167 (cl_40) rfl rfl rfl rfl rfl ?_
              refine am_blk hc X 41 4 (fr' := (83, [(0, am_r oa0 40 0), (1, am_i a1), (2, am_i a2), (3, am_i a3), (4, am_i a4)], [am_i ((q11.1 oa0 40 0 13) - (1 : Int32))], q11)) rfl ⟨trivial, trivial, trivial, trivial, trivial⟩ ?_
              obtain rfl := Option.some.inj h
              exact am_iret hc X hr 45 rfl rfl rfl
            · replace h := am_ip c15 h
              refine am_blk hc X 31 2 (fr' := (64, [(0, am_r oa0 40 0), (1, am_i a1), (2, am_i a2), (3, am_i a3), (4, am_i a4)], [am_i (-6), am_r oa0 40 0], q9.2)) rfl ⟨trivial, trivial, trivial⟩ ?_
              obtain ⟨q13, hq14, h⟩ := am_bs h
              refine am_callV hc 33 X (k := 40) (i := 0) (o := oa0) (As := [am_i (-6)]) (rest := []) rfl (ok_X8_refuse l oa0 (-6) q9.2 hq14) yv_X8_refuse ml_X8_129 (cl_40) rfl rfl rfl rfl rfl ?_
              obtain rfl := Option.some.inj h
              exact am_iret hc X hr 34 rfl rfl rfl
          · replace h := am_ip c16 h
            refine am_less [0] rfl ?_
            exact jl_X8_pass_46 X hr   oa0 _ h
def jn_X8_passOf_39  (ox0 : Nat) (σ : am_S) : Option (Int32 × am_S) :=
  (fn_X8_refuse ox0 (-2) (σ)).bind fun q3 => some (q3.1, q3.2)
set_option maxRecDepth 100000 in
theorem jl_X8_passOf_39 {p : Program} {l : Launch} {e : Env} {s : State} {m : MethodId} {args : Array Value} {below : List Frame} {meth : Method} {c : Code} {G : am_G} {q : Int32 × am_S} (X : am_X p s m args c cX8_passOf yX8_passOf.cls 3 am_p8 G (am_fr G)) (hr : meth.sig.returnType = (some .int) ∧ meth.locks = false)    (ox0 : Nat) (σ : am_S) (h : jn_X8_passOf_39  ox0 σ = some q) : am_A p l e (am_ro 1) s m args below meth c 3 G (am_fr G) 0 0 (MQ below (am_Qc G (some (am_i q.1)) q.2) args s 0 0 (am_fr G)) (39, [(0, am_r ox0 40 0)], [], σ) := by
  have hc := ct_X8_passOf
  unfold jn_X8_passOf_39 at h
  refine am_blk hc X 23 2 (fr' := (42, [(0, am_r ox0 40 0)], [am_i (-2), am_r ox0 40 0], σ)) rfl ⟨trivial, trivial, trivial⟩ ?_
  obtain ⟨q3, hq4, h⟩ := am_bs h
  refine am_callV hc 25 X (k := 40) (i := 0) (o := ox0) (As := [am_i (-2)]) (rest := []) rfl (ok_X8_refuse l ox0 (-2) (σ) hq4) yv_X8_refuse ml_X8_129 (cl_40) rfl rfl rfl rfl rfl ?_
  obtain rfl := Option.some.inj h
  exact am_iret hc X hr 26 rfl rfl rfl
def fn_X8_passOf (oa0 : Nat) (a1 : Int32) (a2 : Int32) (σ : am_S) : Option (Int32 × am_S) :=
  (fn_X8_in ((a1 : Int32).toInt64) 0 ((((σ.1 oa0 40 0 13) - (1 : Int32)) : Int32).toInt64) (σ)).bind fun q1 => (if q1.1 = 0 then jn_X8_passOf_39  oa0 q1.2 else (fn_X8_in ((a2 : Int32).toInt64) 0 3 q1.2).bind fun q5 => (if q5.1 = 0 then jn_X8_passOf_39  oa0 q5.2 else (bif am_in a1 3 then (bif am_in a2 4 then some ((q5.2.1 oa0 54 ((a1 : Int32).toNatClampNeg) ((a2 : Int32).toNatClampNeg)), q5.2) else none) else none)))
set_option maxRecDepth 100000 in
theorem ok_X8_passOf (l : Launch) (oa0 : Nat) (a1 : Int32) (a2 : Int32) (σ : am_S) {q : Int32 × am_S} (h : fn_X8_passOf oa0 a1 a2 σ = some q) : am_M l yX8_passOf cX8_passOf 3 (some .int) 1 [am_r oa0 40 0, am_i a1, am_i a2] σ (some (am_i q.1)) q.2 := by
  refine am_M_of (P := am_p8) (by decide +kernel) am_p8_ok rfl ?_
  intro G p e s m args below meth c X hr
  have hc := ct_X8_passOf
  unfold fn_X8_passOf at h
  refine am_blk hc X 0 8 (fr' := (10, [(0, am_r oa0 40 0), (1, am_i a1), (2, am_i a2)], [am_l ((((σ.1 oa0 40 0 13) - (1 : Int32)) : Int32).toInt64), am_l 0, am_l ((a1 : Int32).toInt64)], σ)) rfl ⟨trivial, trivial, trivial, trivial, trivial, trivial, trivial, trivial, trivial⟩ ?_
  obtain ⟨q1, hq2, h⟩ := am_bs h
  refine am_callS hc 8 X (As := [am_l ((a1 : Int32).toInt64), am_l 0, am_l ((((σ.1 oa0 40 0 13) - (1 : Int32)) : Int32).toInt64)]) (rest := []) rfl (ok_X8_in l ((a1 : Int32).toInt64) 0 ((((σ.1 oa0 40 0 13) - (1 : Int32)) : Int32).toInt64) (σ) hq2) yv_X8_in ml_X8_117 rfl rfl rfl rfl rfl ?_
  refine am_if_eq hc X 9 (tgt := 39) rfl (by decide) (fun c10 => ?_) (fun c10 => ?_)
  · replace h := am_ip c10 h
    refine am_less [0] rfl ?_
    exact jl_X8_passOf_39 X hr   oa0 _ h
  · replace h := am_in2 c10 h
    refine am_blk hc X 10 4 (fr' := (22, [(0, am_r oa0 40 0), (1, am_i a1), (2, am_i a2)], [am_l 3, am_l 0, am_l ((a2 : Int32).toInt64)], q1.2)) rfl ⟨trivial, trivial, trivial, trivial, trivial⟩ ?_
    obtain ⟨q5, hq6, h⟩ := am_bs h
    refine am_callS hc 14 X (As := [am_l ((a2 : Int32).toInt64), am_l 0, am_l 3]) (rest := []) rfl (ok_X8_in l ((a2 : Int32).toInt64) 0 3 q1.2 hq6) yv_X8_in ml_X8_117 rfl rfl rfl rfl rfl ?_
    refine am_if_eq hc X 15 (tgt := 39) rfl (by decide) (fun c9 => ?_) (fun c9 => ?_)
    · replace h := am_ip c9 h
      refine am_less [0] rfl ?_
      exact jl_X8_passOf_39 X hr   oa0 _ h
    · replace h := am_in2 c9 h
      obtain ⟨ob7, h⟩ := am_ci h
      obtain ⟨ob8, h⟩ := am_ci h
      refine am_blk hc X 16 7 (fr' := (45, [(0, am_r oa0 40 0), (1, am_i a1), (2, am_i a2)], [am_i (q5.2.1 oa0 54 ((a1 : Int32).toNatClampNeg) ((a2 : Int32).toNatClampNeg))], q5.2)) rfl ⟨trivial, trivial, trivial, (am_in_vp ob7), trivial, (am_in_vp ob8), trivial, trivial⟩ ?_
      obtain rfl := Option.some.inj h
      exact am_iret hc X hr 26 rfl rfl rfl
def jn_X8_person_32  (ox0 : Nat) (σ : am_S) : Option (Int32 × am_S) :=
  (fn_X8_refuse ox0 (-2) (σ)).bind fun q3 => some (q3.1, q3.2)
set_option maxRecDepth 100000 in
theorem jl_X8_person_32 {p : Program} {l : Launch} {e : Env} {s : State} {m : MethodId} {args : Array Value} {below : List Frame} {meth : Method} {c : Code} {G : am_G} {q : Int32 × am_S} (X : am_X p s m args c cX8_person yX8_person.cls 4 am_p8 G (am_fr G)) (hr : meth.sig.returnType = (some .int) ∧ meth.locks = false)    (ox0 : Nat) (σ : am_S) (h : jn_X8_person_32  ox0 σ = some q) : am_A p l e (am_ro 2) s m args below meth c 4 G (am_fr G) 0 0 (MQ below (am_Qc G (some (am_i q.1)) q.2) args s 0 0 (am_fr G)) (32, [(0, am_r ox0 40 0)], [], σ) := by
  have hc := ct_X8_person
  unfold jn_X8_person_32 at h
  refine am_blk hc X 16 2 (fr' := (35, [(0, am_r ox0 40 0)], [am_i (-2), am_r ox0 40 0], σ)) rfl ⟨trivial, trivial, trivial⟩ ?_
  obtain ⟨q3, hq4, h⟩ := am_bs h
  refine am_callV hc 18 X (k := 40) (i := 0) (o := ox0) (As := [am_i (-2)]) (rest := []) rfl (ok_X8_refuse l ox0 (-2) (σ) hq4) yv_X8_refuse ml_X8_129 (cl_40) rfl rfl rfl rfl rfl ?_
  obtain rfl := Option.some.inj h
  exact am_iret hc X hr 19 rfl rfl rfl
def fn_X8_person (oa0 : Nat) (a1 : Int32) (a2 : Int32) (a3 : Int32) (σ : am_S) : Option (Int32 × am_S) :=
  (fn_X8_in ((a1 : Int32).toInt64) 0 5 (σ)).bind fun q1 => (if q1.1 = 0 then jn_X8_person_32  oa0 q1.2 else (fn_X8_in ((a2 : Int32).toInt64) 0 9 q1.2).bind fun q5 => (if q5.1 = 0 then jn_X8_person_32  oa0 q5.2 else (fn_X8_isValley ((a3 : Int32).toInt64) q5.2).bind fun q7 => (if q7.1 = 0 then jn_X8_person_32  oa0 q7.2 else (if (q7.2.1 oa0 40 0 15) = 6 then (fn_X8_refuse oa0 (-6) q7.2).bind fun q11 => some (q11.1, q11.2) else (fn_X8_addPerson oa0 a1 a2 a3 q7.2).bind fun q9 => some (((q9.1 oa0 40 0 15) - (1 : Int32)), q9)))))
set_option maxRecDepth 100000 in
theorem ok_X8_person (l : Launch) (oa0 : Nat) (a1 : Int32) (a2 : Int32) (a3 : Int32) (σ : am_S) {q : Int32 × am_S} (h : fn_X8_person oa0 a1 a2 a3 σ = some q) : am_M l yX8_person cX8_person 4 (some .int) 2 [am_r oa0 40 0, am_i a1, am_i a2, am_i a3] σ (some (am_i q.1)) q.2 := by
  refine am_M_of (P := am_p8) (by decide +kernel) am_p8_ok rfl ?_
  intro G p e s m args below meth c X hr
  have hc := ct_X8_person
  unfold fn_X8_person at h
  refine am_blk hc X 0 4 (fr' := (6, [(0, am_r oa0 40 0), (1, am_i a1), (2, am_i a2), (3, am_i a3)], [am_l 5, am_l 0, am_l ((a1 : Int32).toInt64)], σ)) rfl ⟨trivial, trivial, trivial, trivial, trivial⟩ ?_
  obtain ⟨q1, hq2, h⟩ := am_bs h
  refine am_callS hc 4 X (As := [am_l ((a1 : Int32).toInt64), am_l 0, am_l 5]) (rest := []) rfl (ok_X8_in l ((a1 : Int32).toInt64) 0 5 (σ) hq2) yv_X8_in ml_X8_117 rfl rfl rfl rfl rfl ?_
  refine am_if_eq hc X 5 (tgt := 32) rfl (by decide) (fun c16 => ?_) (fun c16 => ?_)
  · replace h := am_ip c16 h
    refine am_less [0] rfl ?_
    exact jl_X8_person_32 X hr   oa0 _ h
  · replace h := am_in2 c16 h
    refine am_blk hc X 6 4 (fr' := (18, [(0, am_r oa0 40 0), (1, am_i a1), (2, am_i a2), (3, am_i a3)], [am_l 9, am_l 0, am_l ((a2 : Int32).toInt64)], q1.2)) rfl ⟨trivial, trivial, trivial, trivial, trivial⟩ ?_
    obtain ⟨q5, hq6, h⟩ := am_bs h
    refine am_callS hc 10 X (As := [am_l ((a2 : Int32).toInt64), am_l 0, am_l 9]) (rest := []) rfl (ok_X8_in l ((a2 : Int32).toInt64) 0 9 q1.2 hq6) yv_X8_in ml_X8_117 rfl rfl rfl rfl rfl ?_
    refine am_if_eq hc X 11 (tgt := 32) rfl (by decide) (fun c15 => ?_) (fun c15 => ?_)
    · replace h := am_ip c15 h
      refine am_less [0] rfl ?_
      exact jl_X8_person_32 X hr   oa0 _ h
    · replace h := am_in2 c15 h
      refine am_blk hc X 12 2 (fr' := (26, [(0, am_r oa0 40 0), (1, am_i a1), (2, am_i a2), (3, am_i a3)], [am_l ((a3 : Int32).toInt64)], q5.2)) rfl ⟨trivial, trivial, trivial⟩ ?_
      obtain ⟨q7, hq8, h⟩ := am_bs h
      refine am_callS hc 14 X (As := [am_l ((a3 : Int32).toInt64)]) (rest := []) rfl (ok_X8_isValley l ((a3 : Int32).toInt64) q5.2 hq8) yv_X8_isValley ml_X8_154 rfl rfl rfl rfl rfl ?_
      refine am_if_ne hc X 15 (tgt := 39) rfl (by decide) (fun c14 => ?_) (fun c14 => ?_)
      · replace h := am_in2 c14 h
        refine am_blk hc X 20 3 (fr' := (45, [(0, am_r oa0 40 0), (1, am_i a1), (2, am_i a2), (3, am_i a3)], [am_i 6, am_i (q7.2.1 oa0 40 0 15)], q7.2)) rfl ⟨trivial, trivial, trivial, trivial⟩ ?_
        refine am_icmp_ne hc X 23 (tgt := 55) rfl (by decide) (fun c13 => ?_) (fun c13 => ?_)
        · replace h := am_in2 c13 h
          refine am_blk hc X 28 4 (fr' := (59, [(0, am_r oa0 40 0), (1, am_i a1), (2, am_i a2), (3, am_i a3)], [am_i a3, am_i a2, am_i a1, am_r oa0 40 0], q7.2)) rfl ⟨trivial, trivial, trivial, trivial, trivial⟩ ?_
          obtain ⟨q9, hq10, h⟩ := am_bs h
          refine am_callV hc 32 X (k := 40) (i := 0) (o := oa0) (As := [am_i a1, am_i a2, am_i a3]) (rest := []) rfl (ok_X8_addPerson l oa0 a1 a2 a3 q7.2 hq10) yv_X8_addPerson ml_X8_171 (cl_40) rfl rfl rfl rfl rfl ?_
          refine am_blk hc X 33 4 (fr' := (68, [(0, am_r oa0 40 0), (1, am_i a1), (2, am_i a2), (3, am_i a3)], [am_i ((q9.1 oa0 40 0 15) - (1 : Int32))], q9)) rfl ⟨trivial, trivial, trivial, trivial, trivial⟩ ?_
          obtain rfl := Option.some.inj h
          exact am_iret hc X hr 37 rfl rfl rfl
        · replace h := am_ip c13 h
          refine am_blk hc X 24 2 (fr' := (51, [(0, am_r oa0 40 0), (1, am_i a1), (2, am_i a2), (3, am_i a3)], [am_i (-6), am_r oa0 40 0], q7.2)) rfl ⟨trivial, trivial, trivial⟩ ?_
          obtain ⟨q11, hq12, h⟩ := am_bs h
          refine am_callV hc 26 X (k := 40) (i := 0) (o := oa0) (As := [am_i (-6)]) (rest := []) rfl (ok_X8_refuse l oa0 (-6) q7.2 hq12) yv_X8_refuse ml_X8_129 (cl_40) rfl rfl rfl rfl rfl ?_
          obtain rfl := Option.some.inj h
          exact am_iret hc X hr 27 rfl rfl rfl
      · replace h := am_ip c14 h
        refine am_less [0] rfl ?_
        exact jl_X8_person_32 X hr   oa0 _ h
def fn_X8_personOf (oa0 : Nat) (a1 : Int32) (a2 : Int32) (σ : am_S) : Option (Int32 × am_S) :=
  (fn_X8_isOne oa0 a1 (σ)).bind fun q1 => (if q1.1 = 0 then (fn_X8_refuse oa0 (-2) q1.2).bind fun q21 => some (q21.1, q21.2) else (if a2 = 0 then (bif am_in a1 6 then some ((q1.2.1 oa0 55 0 ((a1 : Int32).toNatClampNeg)), q1.2) else none) else (if a2 = 1 then (bif am_in a1 6 then some ((q1.2.1 oa0 56 0 ((a1 : Int32).toNatClampNeg)), q1.2) else none) else (if a2 = 2 then (bif am_in a1 6 then some ((q1.2.1 oa0 57 0 ((a1 : Int32).toNatClampNeg)), q1.2) else none) else (if a2 = 3 then (bif am_in a1 6 then some ((q1.2.1 oa0 58 0 ((a1 : Int32).toNatClampNeg)), q1.2) else none) else (if a2 = 4 then (bif am_in a1 6 then some ((q1.2.1 oa0 59 0 ((a1 : Int32).toNatClampNeg)), q1.2) else none) else (if a2 = 5 then (bif am_in a1 6 then some ((q1.2.1 oa0 60 0 ((a1 : Int32).toNatClampNeg)), q1.2) else none) else (if a2 = 6 then (bif am_in a1 6 then some ((q1.2.1 oa0 61 0 ((a1 : Int32).toNatClampNeg)), q1.2) else none) else (if a2 = 7 then (bif am_in a1 6 then some ((q1.2.1 oa0 62 0 ((a1 : Int32).toNatClampNeg)), q1.2) else none) else (fn_X8_refuse oa0 (-2) q1.2).bind fun q3 => some (q3.1, q3.2))))))))))
set_option maxRecDepth 100000 in
theorem ok_X8_personOf (l : Launch) (oa0 : Nat) (a1 : Int32) (a2 : Int32) (σ : am_S) {q : Int32 × am_S} (h : fn_X8_personOf oa0 a1 a2 σ = some q) : am_M l yX8_personOf cX8_personOf 3 (some .int) 2 [am_r oa0 40 0, am_i a1, am_i a2] σ (some (am_i q.1)) q.2 := by
  refine am_M_of (P := am_p8) (by decide +kernel) am_p8_ok rfl ?_
  intro G p e s m args below meth c X hr
  have hc := ct_X8_personOf
  unfold fn_X8_personOf at h
  refine am_blk hc X 0 2 (fr' := (2, [(0, am_r oa0 40 0), (1, am_i a1), (2, am_i a2)], [am_i a1, am_r oa0 40 0], σ)) rfl ⟨trivial, trivial, trivial⟩ ?_
  obtain ⟨q1, hq2, h⟩ := am_bs h
  refine am_callV hc 2 X (k := 40) (i := 0) (o := oa0) (As := [am_i a1]) (rest := []) rfl (ok_X8_isOne l oa0 a1 (σ) hq2) yv_X8_isOne ml_X8_140 (cl_40) rfl rfl rfl rfl rfl ?_
  refine am_if_ne hc X 3 (tgt := 15) rfl (by decide) (fun c23 => ?_) (fun c23 => ?_)
  · replace h := am_in2 c23 h
    refine am_blk hc X 8 1 (fr' := (16, [(0, am_r oa0 40 0), (1, am_i a1), (2, am_i a2)], [am_i a2], q1.2)) rfl ⟨trivial, trivial⟩ ?_
    by_cases c5 : a2 = 0
    · replace h := am_ip c5 h
      refine am_tin hc X 9 (tgt := 64) (off := 48) rfl (by rw [c5]; decide) (by rw [c5]; decide) (by rw [c5]; rfl) (by decide) ?_
      obtain ⟨ob20, h⟩ := am_ci h
      refine am_blk hc X 10 4 (fr' := (70, [(0, am_r oa0 40 0), (1, am_i a1), (2, am_i a2)], [am_i (q1.2.1 oa0 55 0 ((a1 : Int32).toNatClampNeg))], q1.2)) rfl ⟨trivial, trivial, trivial, (am_in_vp ob20), trivial⟩ ?_
      obtain rfl := Option.some.inj h
      exact am_iret hc X hr 14 rfl rfl rfl
    · replace h := am_in2 c5 h
      by_cases c6 : a2 = 1
      · replace h := am_ip c6 h
        refine am_tin hc X 9 (tgt := 71) (off := 55) rfl (by rw [c6]; decide) (by rw [c6]; decide) (by rw [c6]; rfl) (by decide) ?_
        obtain ⟨ob19, h⟩ := am_ci h
        refine am_blk hc X 15 4 (fr' := (77, [(0, am_r oa0 40 0), (1, am_i a1), (2, am_i a2)], [am_i (q1.2.1 oa0 56 0 ((a1 : Int32).toNatClampNeg))], q1.2)) rfl ⟨trivial, trivial, trivial, (am_in_vp ob19), trivial⟩ ?_
        obtain rfl := Option.some.inj h
        exact am_iret hc X hr 19 rfl rfl rfl
      · replace h := am_in2 c6 h
        by_cases c7 : a2 = 2
        · replace h := am_ip c7 h
          refine am_tin hc X 9 (tgt := 78) (off := 62) rfl (by rw [c7]; decide) (by rw [c7]; decide) (by rw [c7]; rfl) (by decide) ?_
          obtain ⟨ob18, h⟩ := am_ci h
          refine am_blk hc X 20 4 (fr' := (84, [(0, am_r oa0 40 0), (1, am_i a1), (2, am_i a2)], [am_i (q1.2.1 oa0 57 0 ((a1 : Int32).toNatClampNeg))], q1.2)) rfl ⟨trivial, trivial, trivial, (am_in_vp ob18), trivial⟩ ?_
          obtain rfl := Option.some.inj h
          exact am_iret hc X hr 24 rfl rfl rfl
        · replace h := am_in2 c7 h
          by_cases c8 : a2 = 3
          · replace h := am_ip c8 h
            refine am_tin hc X 9 (tgt := 85) (off := 69) rfl (by rw [c8]; decide) (by rw [c8]; decide) (by rw [c8]; rfl) (by decide) ?_
            obtain ⟨ob17, h⟩ := am_ci h
            refine am_blk hc X 25 4 (fr' := (91, [(0, am_r oa0 40 0), (1, am_i a1), (2, am_i a2)], [am_i (q1.2.1 oa0 58 0 ((a1 : Int32).toNatClampNeg))], q1.2)) rfl ⟨trivial, trivial, trivial, (am_in_vp ob17), trivial⟩ ?_
            obtain rfl := Option.some.inj h
            exact am_iret hc X hr 29 rfl rfl rfl
          · replace h := am_in2 c8 h
            by_cases c9 : a2 = 4
            · replace h := am_ip c9 h
              refine am_tin hc X 9 (tgt := 92) (off := 76) rfl (by rw [c9]; decide) (by rw [c9]; decide) (by rw [c9]; rfl) (by decide) ?_
              obtain ⟨ob16, h⟩ := am_ci h
              refine am_blk hc X 30 4 (fr' := (98, [(0, am_r oa0 40 0), (1, am_i a1), (2, am_i a2)], [am_i (q1.2.1 oa0 59 0 ((a1 : Int32).toNatClampNeg))], q1.2)) rfl ⟨trivial, trivial, trivial, (am_in_vp ob16), trivial⟩ ?_
              obtain rfl := Option.some.inj h
              exact am_iret hc X hr 34 rfl rfl rfl
            · replace h := am_in2 c9 h
              by_cases c10 : a2 = 5
              · replace h := am_ip c10 h
                refine am_tin hc X 9 (tgt := 99) (off := 83) rfl (by rw [c10]; decide) (by rw [c10]; decide) (by rw [c10]; rfl) (by decide) ?_
                obtain ⟨ob15, h⟩ := am_ci h
                refine am_blk hc X 35 4 (fr' := (105, [(0, am_r oa0 40 0), (1, am_i a1), (2, am_i a2)], [am_i (q1.2.1 oa0 60 0 ((a1 : Int32).toNatClampNeg))], q1.2)) rfl ⟨trivial, trivial, trivial, (am_in_vp ob15), trivial⟩ ?_
                obtain rfl := Option.some.inj h
                exact am_iret hc X hr 39 rfl rfl rfl
              · replace h := am_in2 c10 h
                by_cases c11 : a2 = 6
                · replace h := am_ip c11 h
                  refine am_tin hc X 9 (tgt := 106) (off := 90) rfl (by rw [c11]; decide) (by rw [c11]; decide) (by rw [c11]; rfl) (by decide) ?_
                  obtain ⟨ob14, h⟩ := am_ci h
                  refine am_blk hc X 40 4 (fr' := (112, [(0, am_r oa0 40 0), (1, am_i a1), (2, am_i a2)], [am_i (q1.2.1 oa0 61 0 ((a1 : Int32).toNatClampNeg))], q1.2)) rfl ⟨trivial, trivial, trivial, (am_in_vp ob14), trivial⟩ ?_
                  obtain rfl := Option.some.inj h
                  exact am_iret hc X hr 44 rfl rfl rfl
                · replace h := am_in2 c11 h
                  by_cases c12 : a2 = 7
                  · replace h := am_ip c12 h
                    refine am_tin hc X 9 (tgt := 113) (off := 97) rfl (by rw [c12]; decide) (by rw [c12]; decide) (by rw [c12]; rfl) (by decide) ?_
                    obtain ⟨ob13, h⟩ := am_ci h
                    refine am_blk hc X 45 4 (fr' := (119, [(0, am_r oa0 40 0), (1, am_i a1), (2, am_i a2)], [am_i (q1.2.1 oa0 62 0 ((a1 : Int32).toNatClampNeg))], q1.2)) rfl ⟨trivial, trivial, trivial, (am_in_vp ob13), trivial⟩ ?_
                    obtain rfl := Option.some.inj h
                    exact am_iret hc X hr 49 rfl rfl rfl
                  · replace h := am_in2 c12 h
                    refine am_tout hc X 9 (tgt := 120) rfl (am_sw 0 7 (fun z h1 h2 => ?_)) (by decide) ?_
                    · rcases (show z = 0 ∨ z = 1 ∨ z = 2 ∨ z = 3 ∨ z = 4 ∨ z = 5 ∨ z = 6 ∨ z = 7 by omega) with rfl | rfl | rfl | rfl | rfl | rfl | rfl | rfl
                      · exact lv_neT c5 rfl
                      · exact lv_neT c6 rfl
                      · exact lv_neT c7 rfl
                      · exact lv_neT c8 rfl
                      · exact lv_neT c9 rfl
                      · exact lv_neT c10 rfl
                      · exact lv_neT c11 rfl
                      · exact lv_neT c12 rfl
                    · refine am_blk hc X 50 2 (fr' := (123, [(0, am_r oa0 40 0), (1, am_i a1), (2, am_i a2)], [am_i (-2), am_r oa0 40 0], q1.2)) rfl ⟨trivial, trivial, trivial⟩ ?_
                      obtain ⟨q3, hq4, h⟩ := am_bs h
                      refine am_callV hc 52 X (k := 40) (i := 0) (o := oa0) (As := [am_i (-2)]) (rest := []) rfl (ok_X8_refuse l oa0 (-2) q1.2 hq4) yv_X8_refuse ml_X8_129 (cl_40) rfl rfl rfl rfl rfl ?_
                      obtain rfl := Option.some.inj h
                      exact am_iret hc X hr 53 rfl rfl rfl
  · replace h := am_ip c23 h
    refine am_blk hc X 4 2 (fr' := (11, [(0, am_r oa0 40 0), (1, am_i a1), (2, am_i a2)], [am_i (-2), am_r oa0 40 0], q1.2)) rfl ⟨trivial, trivial, trivial⟩ ?_
    obtain ⟨q21, hq22, h⟩ := am_bs h
    refine am_callV hc 6 X (k := 40) (i := 0) (o := oa0) (As := [am_i (-2)]) (rest := []) rfl (ok_X8_refuse l oa0 (-2) q1.2 hq22) yv_X8_refuse ml_X8_129 (cl_40) rfl rfl rfl rfl rfl ?_
    obtain rfl := Option.some.inj h
    exact am_iret hc X hr 7 rfl rfl rfl
def jn_X8_price_28  (ox0 : Nat) (σ : am_S) : Option (Int32 × am_S) :=
  (fn_X8_refuse ox0 (-2) (σ)).bind fun q3 => some (q3.1, q3.2)
set_option maxRecDepth 100000 in
theorem jl_X8_price_28 {p : Program} {l : Launch} {e : Env} {s : State} {m : MethodId} {args : Array Value} {below : List Frame} {meth : Method} {c : Code} {G : am_G} {q : Int32 × am_S} (X : am_X p s m args c cX8_price yX8_price.cls 4 am_p8 G (am_fr G)) (hr : meth.sig.returnType = (some .int) ∧ meth.locks = false)    (ox0 : Nat) (σ : am_S) (h : jn_X8_price_28  ox0 σ = some q) : am_A p l e (am_ro 3) s m args below meth c 4 G (am_fr G) 0 0 (MQ below (am_Qc G (some (am_i q.1)) q.2) args s 0 0 (am_fr G)) (28, [(0, am_r ox0 40 0)], [], σ) := by
  have hc := ct_X8_price
  unfold jn_X8_price_28 at h
  refine am_blk hc X 14 2 (fr' := (31, [(0, am_r ox0 40 0)], [am_i (-2), am_r ox0 40 0], σ)) rfl ⟨trivial, trivial, trivial⟩ ?_
  obtain ⟨q3, hq4, h⟩ := am_bs h
  refine am_callV hc 16 X (k := 40) (i := 0) (o := ox0) (As := [am_i (-2)]) (rest := []) rfl (ok_X8_refuse l ox0 (-2) (σ) hq4) yv_X8_refuse ml_X8_129 (cl_40) rfl rfl rfl rfl rfl ?_
  obtain rfl := Option.some.inj h
  exact am_iret hc X hr 17 rfl rfl rfl
def fn_X8_price (oa0 : Nat) (a1 : Int32) (a2 : Int32) (a3 : Int32) (σ : am_S) : Option (Int32 × am_S) :=
  (fn_X8_isOne oa0 a1 (σ)).bind fun q1 => (if q1.1 = 0 then jn_X8_price_28  oa0 q1.2 else (fn_X8_isValley ((a2 : Int32).toInt64) q1.2).bind fun q5 => (if q5.1 = 0 then jn_X8_price_28  oa0 q5.2 else (fn_X8_in ((a3 : Int32).toInt64) 0 4 q5.2).bind fun q7 => (if q7.1 = 0 then jn_X8_price_28  oa0 q7.2 else (fn_X8_nextOf oa0 a2 a3 q7.2).bind fun q9 => (if q9.1 = (-1) then (fn_X8_refuse oa0 (-5) q9.2).bind fun q13 => some (q13.1, q13.2) else (fn_X8_priceOf oa0 a1 a2 a3 q9.2).bind fun q11 => some (q11.1, q11.2)))))
set_option maxRecDepth 100000 in
theorem ok_X8_price (l : Launch) (oa0 : Nat) (a1 : Int32) (a2 : Int32) (a3 : Int32) (σ : am_S) {q : Int32 × am_S} (h : fn_X8_price oa0 a1 a2 a3 σ = some q) : am_M l yX8_price cX8_price 4 (some .int) 3 [am_r oa0 40 0, am_i a1, am_i a2, am_i a3] σ (some (am_i q.1)) q.2 := by
  refine am_M_of (P := am_p8) (by decide +kernel) am_p8_ok rfl ?_
  intro G p e s m args below meth c X hr
  have hc := ct_X8_price
  unfold fn_X8_price at h
  refine am_blk hc X 0 2 (fr' := (2, [(0, am_r oa0 40 0), (1, am_i a1), (2, am_i a2), (3, am_i a3)], [am_i a1, am_r oa0 40 0], σ)) rfl ⟨trivial, trivial, trivial⟩ ?_
  obtain ⟨q1, hq2, h⟩ := am_bs h
  refine am_callV hc 2 X (k := 40) (i := 0) (o := oa0) (As := [am_i a1]) (rest := []) rfl (ok_X8_isOne l oa0 a1 (σ) hq2) yv_X8_isOne ml_X8_140 (cl_40) rfl rfl rfl rfl rfl ?_
  refine am_if_eq hc X 3 (tgt := 28) rfl (by decide) (fun c18 => ?_) (fun c18 => ?_)
  · replace h := am_ip c18 h
    refine am_less [0] rfl ?_
    exact jl_X8_price_28 X hr   oa0 _ h
  · replace h := am_in2 c18 h
    refine am_blk hc X 4 2 (fr' := (10, [(0, am_r oa0 40 0), (1, am_i a1), (2, am_i a2), (3, am_i a3)], [am_l ((a2 : Int32).toInt64)], q1.2)) rfl ⟨trivial, trivial, trivial⟩ ?_
    obtain ⟨q5, hq6, h⟩ := am_bs h
    refine am_callS hc 6 X (As := [am_l ((a2 : Int32).toInt64)]) (rest := []) rfl (ok_X8_isValley l ((a2 : Int32).toInt64) q1.2 hq6) yv_X8_isValley ml_X8_154 rfl rfl rfl rfl rfl ?_
    refine am_if_eq hc X 7 (tgt := 28) rfl (by decide) (fun c17 => ?_) (fun c17 => ?_)
    · replace h := am_ip c17 h
      refine am_less [0] rfl ?_
      exact jl_X8_price_28 X hr   oa0 _ h
    · replace h := am_in2 c17 h
      refine am_blk hc X 8 4 (fr' := (22, [(0, am_r oa0 40 0), (1, am_i a1), (2, am_i a2), (3, am_i a3)], [am_l 4, am_l 0, am_l ((a3 : Int32).toInt64)], q5.2)) rfl ⟨trivial, trivial, trivial, trivial, trivial⟩ ?_
      obtain ⟨q7, hq8, h⟩ := am_bs h
      refine am_callS hc 12 X (As := [am_l ((a3 : Int32).toInt64), am_l 0, am_l 4]) (rest := []) rfl (ok_X8_in l ((a3 : Int32).toInt64) 0 4 q5.2 hq8) yv_X8_in ml_X8_117 rfl rfl rfl rfl rfl ?_
      refine am_if_ne hc X 13 (tgt := 35) rfl (by decide) (fun c16 => ?_) (fun c16 => ?_)
      · replace h := am_in2 c16 h
        refine am_blk hc X 18 3 (fr' := (38, [(0, am_r oa0 40 0), (1, am_i a1), (2, am_i a2), (3, am_i a3)], [am_i a3, am_i a2, am_r oa0 40 0], q7.2)) rfl ⟨trivial, trivial, trivial, trivial⟩ ?_
        obtain ⟨q9, hq10, h⟩ := am_bs h
        refine am_callV hc 21 X (k := 40) (i := 0) (o := oa0) (As := [am_i a2, am_i a3]) (rest := []) rfl (ok_X8_nextOf l oa0 a2 a3 q7.2 hq10) yv_X8_nextOf ml_X8_287 (cl_40) rfl rfl rfl rfl rfl ?_
        refine am_blk hc X 22 1 (fr' := (42, [(0, am_r oa0 40 0), (1, am_i a1), (2, am_i a2), (3, am_i a3)], [am_i (-1), am_i q9.1], q9.2)) rfl ⟨trivial, trivial⟩ ?_
        refine am_icmp_ne hc X 23 (tgt := 54) rfl (by decide) (fun c15 => ?_) (fun c15 => ?_)
        · replace h := am_in2 c15 h
          refine am_blk hc X 28 4 (fr' := (58, [(0, am_r oa0 40 0), (1, am_i a1), (2, am_i a2), (3, am_i a3)], [am_i a3, am_i a2, am_i a1, am_r oa0 40 0], q9.2)) rfl ⟨trivial, trivial, trivial, trivial, trivial⟩ ?_
          obtain ⟨q11, hq12, h⟩ := am_bs h
          refine am_callV hc 32 X (k := 40) (i := 0) (o := oa0) (As := [am_i a1, am_i a2, am_i a3]) (rest := []) rfl (ok_X8_priceOf l oa0 a1 a2 a3 q9.2 hq12) yv_X8_priceOf ml_X8_150 (cl_40) rfl rfl rfl rfl rfl ?_
          obtain rfl := Option.some.inj h
          exact am_iret hc X hr 33 rfl rfl rfl
        · replace h := am_ip c15 h
          refine am_blk hc X 24 2 (fr' := (48, [(0, am_r oa0 40 0), (1, am_i a1), (2, am_i a2), (3, am_i a3)], [am_i (-5), am_r oa0 40 0], q9.2)) rfl ⟨trivial, trivial, trivial⟩ ?_
          obtain ⟨q13, hq14, h⟩ := am_bs h
          refine am_callV hc 26 X (k := 40) (i := 0) (o := oa0) (As := [am_i (-5)]) (rest := []) rfl (ok_X8_refuse l oa0 (-5) q9.2 hq14) yv_X8_refuse ml_X8_129 (cl_40) rfl rfl rfl rfl rfl ?_
          refine am_blk hc X 27 1 (fr' := (61, [(0, am_r oa0 40 0), (1, am_i a1), (2, am_i a2), (3, am_i a3)], [am_i q13.1], q13.2)) rfl ⟨trivial, trivial⟩ ?_
          obtain rfl := Option.some.inj h
          exact am_iret hc X hr 33 rfl rfl rfl
      · replace h := am_ip c16 h
        refine am_less [0] rfl ?_
        exact jl_X8_price_28 X hr   oa0 _ h
def lb_X8_ring_19 (k19 : Nat → Int32 → Int32 → Int32 → am_S → Option (Int32 × am_S)) (ox0 : Nat) (x1 : Int32) (x2 : Int32) (x3 : Int32) (σ : am_S) : Option (Int32 × am_S) :=
  (if 7 ≤ x3 then some (x2, σ) else (fn_X8_priceOf ox0 x1 x3 0 (σ)).bind fun q3 => k19 ox0 x1 (x2 + q3.1) (x3 + 1) q3.2)
set_option maxRecDepth 100000 in
theorem lc_X8_ring_19 {p : Program} {l : Launch} {e : Env} {s : State} {m : MethodId} {args : Array Value} {below : List Frame} {meth : Method} {c : Code} {G : am_G} {q : Int32 × am_S} (X : am_X p s m args c cX8_ring yX8_ring.cls 4 am_p8 G (am_fr G)) (hr : meth.sig.returnType = (some .int) ∧ meth.locks = false)  (k19 : Nat → Int32 → Int32 → Int32 → am_S → Option (Int32 × am_S)) (hk19 : ∀ (ox0 : Nat) (x1 : Int32) (x2 : Int32) (x3 : Int32) (σ : am_S), k19 ox0 x1 x2 x3 σ = some q → am_A p l e (am_ro 3) s m args below meth c 4 G (am_fr G) 0 0 (MQ below (am_Qc G (some (am_i q.1)) q.2) args s 0 0 (am_fr G)) (19, [(0, am_r ox0 40 0), (1, am_i x1), (2, am_i x2), (3, am_i x3)], [], σ)) (ox0 : Nat) (x1 : Int32) (x2 : Int32) (x3 : Int32) (σ : am_S) (h : lb_X8_ring_19 k19 ox0 x1 x2 x3 σ = some q) : am_A p l e (am_ro 3) s m args below meth c 4 G (am_fr G) 0 0 (MQ below (am_Qc G (some (am_i q.1)) q.2) args s 0 0 (am_fr G)) (19, [(0, am_r ox0 40 0), (1, am_i x1), (2, am_i x2), (3, am_i x3)], [], σ) := by
  have hc := ct_X8_ring
  unfold lb_X8_ring_19 at h
  refine am_blk hc X 12 2 (fr' := (22, [(0, am_r ox0 40 0), (1, am_i x1), (2, am_i x2), (3, am_i x3)], [am_i 7, am_i x3], σ)) rfl ⟨trivial, trivial, trivial⟩ ?_
  refine am_icmp_ge hc X 14 (tgt := 41) rfl (by decide) (fun c5 => ?_) (fun c5 => ?_)
  · replace h := am_ip c5 h
    refine am_blk hc X 25 1 (fr' := (42, [(0, am_r ox0 40 0), (1, am_i x1), (2, am_i x2), (3, am_i x3)], [am_i x2], σ)) rfl ⟨trivial, trivial⟩ ?_
    obtain rfl := Option.some.inj h
    exact am_iret hc X hr 26 rfl rfl rfl
  · replace h := am_in2 c5 h
    refine am_blk hc X 15 5 (fr' := (30, [(0, am_r ox0 40 0), (1, am_i x1), (2, am_i x2), (3, am_i x3)], [am_i 0, am_i x3, am_i x1, am_r ox0 40 0, am_i x2], σ)) rfl ⟨trivial, trivial, trivial, trivial, trivial, trivial⟩ ?_
    obtain ⟨q3, hq4, h⟩ := am_bs h
    refine am_callV hc 20 X (k := 40) (i := 0) (o := ox0) (As := [am_i x1, am_i x3, am_i 0]) (rest := [am_i x2]) rfl (ok_X8_priceOf l ox0 x1 x3 0 (σ) hq4) yv_X8_priceOf ml_X8_150 (cl_40) rfl rfl rfl rfl rfl ?_
    refine am_blk hc X 21 4 (fr' := (19, [(0, am_r ox0 40 0), (1, am_i x1), (2, am_i (x2 + q3.1)), (3, am_i (x3 + 1))], [], q3.2)) rfl ⟨trivial, trivial, trivial, trivial, trivial⟩ ?_
    exact hk19 ox0 x1 (x2 + q3.1) (x3 + 1) _ h
def lp_X8_ring_19  : Nat → Nat → Int32 → Int32 → Int32 → am_S → Option (Int32 × am_S)
  | 0 => fun _ _ _ _ _ => none
  | n + 1 => lb_X8_ring_19  (lp_X8_ring_19  n)
theorem ll_X8_ring_19 {p : Program} {l : Launch} {e : Env} {s : State} {m : MethodId} {args : Array Value} {below : List Frame} {meth : Method} {c : Code} {G : am_G} {q : Int32 × am_S} (X : am_X p s m args c cX8_ring yX8_ring.cls 4 am_p8 G (am_fr G)) (hr : meth.sig.returnType = (some .int) ∧ meth.locks = false)    : ∀ (n : Nat) (ox0 : Nat) (x1 : Int32) (x2 : Int32) (x3 : Int32) (σ : am_S), lp_X8_ring_19  n ox0 x1 x2 x3 σ = some q → am_A p l e (am_ro 3) s m args below meth c 4 G (am_fr G) 0 0 (MQ below (am_Qc G (some (am_i q.1)) q.2) args s 0 0 (am_fr G)) (19, [(0, am_r ox0 40 0), (1, am_i x1), (2, am_i x2), (3, am_i x3)], [], σ) := by
  intro n
  induction n with
  | zero =>
    intro ox0 x1 x2 x3 σ h
    have h : (none : Option (Int32 × am_S)) = some q := h
    cases h
  | succ n ih =>
    intro ox0 x1 x2 x3 σ h
    exact lc_X8_ring_19 X hr  (lp_X8_ring_19  n) ih ox0 x1 x2 x3 σ h
def fn_X8_ring (oa0 : Nat) (a1 : Int32) (σ : am_S) : Option (Int32 × am_S) :=
  (fn_X8_isOne oa0 a1 (σ)).bind fun q1 => (if q1.1 = 0 then (fn_X8_refuse oa0 (-2) q1.2).bind fun q6 => some (q6.1, q6.2) else lp_X8_ring_19  1000 oa0 a1 0 0 q1.2)
set_option maxRecDepth 100000 in
theorem ok_X8_ring (l : Launch) (oa0 : Nat) (a1 : Int32) (σ : am_S) {q : Int32 × am_S} (h : fn_X8_ring oa0 a1 σ = some q) : am_M l yX8_ring cX8_ring 4 (some .int) 3 [am_r oa0 40 0, am_i a1] σ (some (am_i q.1)) q.2 := by
  refine am_M_of (P := am_p8) (by decide +kernel) am_p8_ok rfl ?_
  intro G p e s m args below meth c X hr
  have hc := ct_X8_ring
  unfold fn_X8_ring at h
  refine am_blk hc X 0 2 (fr' := (2, [(0, am_r oa0 40 0), (1, am_i a1)], [am_i a1, am_r oa0 40 0], σ)) rfl ⟨trivial, trivial, trivial⟩ ?_
  obtain ⟨q1, hq2, h⟩ := am_bs h
  refine am_callV hc 2 X (k := 40) (i := 0) (o := oa0) (As := [am_i a1]) (rest := []) rfl (ok_X8_isOne l oa0 a1 (σ) hq2) yv_X8_isOne ml_X8_140 (cl_40) rfl rfl rfl rfl rfl ?_
  refine am_if_ne hc X 3 (tgt := 15) rfl (by decide) (fun c8 => ?_) (fun c8 => ?_)
  · replace h := am_in2 c8 h
    refine am_blk hc X 8 4 (fr' := (19, [(0, am_r oa0 40 0), (1, am_i a1), (2, am_i 0), (3, am_i 0)], [], q1.2)) rfl ⟨trivial, trivial, trivial, trivial, trivial⟩ ?_
    exact ll_X8_ring_19 X hr   1000 oa0 a1 0 0 _ h
  · replace h := am_ip c8 h
    refine am_blk hc X 4 2 (fr' := (11, [(0, am_r oa0 40 0), (1, am_i a1)], [am_i (-2), am_r oa0 40 0], q1.2)) rfl ⟨trivial, trivial, trivial⟩ ?_
    obtain ⟨q6, hq7, h⟩ := am_bs h
    refine am_callV hc 6 X (k := 40) (i := 0) (o := oa0) (As := [am_i (-2)]) (rest := []) rfl (ok_X8_refuse l oa0 (-2) q1.2 hq7) yv_X8_refuse ml_X8_129 (cl_40) rfl rfl rfl rfl rfl ?_
    obtain rfl := Option.some.inj h
    exact am_iret hc X hr 7 rfl rfl rfl
def jn_X8_route_21  (ox0 : Nat) (σ : am_S) : Option (Int32 × am_S) :=
  (fn_X8_refuse ox0 (-2) (σ)).bind fun q3 => some (q3.1, q3.2)
set_option maxRecDepth 100000 in
theorem jl_X8_route_21 {p : Program} {l : Launch} {e : Env} {s : State} {m : MethodId} {args : Array Value} {below : List Frame} {meth : Method} {c : Code} {G : am_G} {q : Int32 × am_S} (X : am_X p s m args c cX8_route yX8_route.cls 8 am_p8 G (am_fr G)) (hr : meth.sig.returnType = (some .int) ∧ meth.locks = false)    (ox0 : Nat) (σ : am_S) (h : jn_X8_route_21  ox0 σ = some q) : am_A p l e (am_ro 5) s m args below meth c 8 G (am_fr G) 0 0 (MQ below (am_Qc G (some (am_i q.1)) q.2) args s 0 0 (am_fr G)) (21, [(0, am_r ox0 40 0)], [], σ) := by
  have hc := ct_X8_route
  unfold jn_X8_route_21 at h
  refine am_blk hc X 11 2 (fr' := (24, [(0, am_r ox0 40 0)], [am_i (-2), am_r ox0 40 0], σ)) rfl ⟨trivial, trivial, trivial⟩ ?_
  obtain ⟨q3, hq4, h⟩ := am_bs h
  refine am_callV hc 13 X (k := 40) (i := 0) (o := ox0) (As := [am_i (-2)]) (rest := []) rfl (ok_X8_refuse l ox0 (-2) (σ) hq4) yv_X8_refuse ml_X8_129 (cl_40) rfl rfl rfl rfl rfl ?_
  obtain rfl := Option.some.inj h
  exact am_iret hc X hr 14 rfl rfl rfl
def jn_X8_route_148 (k89 : Nat → Int32 → Int32 → Int32 → Int32 → Int32 → Int32 → am_S → Option (Int32 × am_S)) (k98 : Nat → Int32 → Int32 → Int32 → Int32 → Int32 → Int32 → am_S → Option (Int32 × am_S)) (ox0 : Nat) (x1 : Int32) (x2 : Int32) (x3 : Int32) (x5 : Int32) (x6 : Int32) (x7 : Int32) (σ : am_S) : Option (Int32 × am_S) :=
  k98 ox0 x1 x2 x3 x5 (x6 + 1) x7 (σ)
set_option maxRecDepth 100000 in
theorem jl_X8_route_148 {p : Program} {l : Launch} {e : Env} {s : State} {m : MethodId} {args : Array Value} {below : List Frame} {meth : Method} {c : Code} {G : am_G} {q : Int32 × am_S} (X : am_X p s m args c cX8_route yX8_route.cls 8 am_p8 G (am_fr G)) (hr : meth.sig.returnType = (some .int) ∧ meth.locks = false)  (k89 : Nat → Int32 → Int32 → Int32 → Int32 → Int32 → Int32 → am_S → Option (Int32 × am_S)) (k98 : Nat → Int32 → Int32 → Int32 → Int32 → Int32 → Int32 → am_S → Option (Int32 × am_S)) (hk89 : ∀ (ox0 : Nat) (x1 : Int32) (x2 : Int32) (x3 : Int32) (x5 : Int32) (x6 : Int32) (x7 : Int32) (σ : am_S), k89 ox0 x1 x2 x3 x5 x6 x7 σ = some q → am_A p l e (am_ro 5) s m args below meth c 8 G (am_fr G) 0 0 (MQ below (am_Qc G (some (am_i q.1)) q.2) args s 0 0 (am_fr G)) (89, [(0, am_r ox0 40 0), (1, am_i x1), (2, am_i x2), (3, am_i x3), (5, am_i x5), (6, am_i x6), (7, am_i x7)], [], σ)) (hk98 : ∀ (ox0 : Nat) (x1 : Int32) (x2 : Int32) (x3 : Int32) (x5 : Int32) (x6 : Int32) (x7 : Int32) (σ : am_S), k98 ox0 x1 x2 x3 x5 x6 x7 σ = some q → am_A p l e (am_ro 5) s m args below meth c 8 G (am_fr G) 0 0 (MQ below (am_Qc G (some (am_i q.1)) q.2) args s 0 0 (am_fr G)) (98, [(0, am_r ox0 40 0), (1, am_i x1), (2, am_i x2), (3, am_i x3), (5, am_i x5), (6, am_i x6), (7, am_i x7)], [], σ)) (ox0 : Nat) (x1 : Int32) (x2 : Int32) (x3 : Int32) (x5 : Int32) (x6 : Int32) (x7 : Int32) (σ : am_S) (h : jn_X8_route_148 k89 k98 ox0 x1 x2 x3 x5 x6 x7 σ = some q) : am_A p l e (am_ro 5) s m args below meth c 8 G (am_fr G) 0 0 (MQ below (am_Qc G (some (am_i q.1)) q.2) args s 0 0 (am_fr G)) (148, [(0, am_r ox0 40 0), (1, am_i x1), (2, am_i x2), (3, am_i x3), (5, am_i x5), (6, am_i x6), (7, am_i x7)], [], σ) := by
  have hc := ct_X8_route
  unfold jn_X8_route_148 at h
  refine am_blk hc X 87 2 (fr' := (98, [(0, am_r ox0 40 0), (1, am_i x1), (2, am_i x2), (3, am_i x3), (5, am_i x5), (6, am_i (x6 + 1)), (7, am_i x7)], [], σ)) rfl ⟨trivial, trivial, trivial⟩ ?_
  exact hk98 ox0 x1 x2 x3 x5 (x6 + 1) x7 _ h
def lb_X8_route_98 (k89 : Nat → Int32 → Int32 → Int32 → Int32 → Int32 → Int32 → am_S → Option (Int32 × am_S)) (k98 : Nat → Int32 → Int32 → Int32 → Int32 → Int32 → Int32 → am_S → Option (Int32 × am_S)) (ox0 : Nat) (x1 : Int32) (x2 : Int32) (x3 : Int32) (x5 : Int32) (x6 : Int32) (x7 : Int32) (σ : am_S) : Option (Int32 × am_S) :=
  (fn_X8_nextOf ox0 x5 x6 (σ)).bind fun q13 => (if q13.1 = (-1) then jn_X8_route_148 k89 k98 ox0 x1 x2 x3 x5 x6 x7 q13.2 else (fn_X8_weight ox0 x1 x5 x6 4 q13.2).bind fun q15 => (fn_X8_nextOf ox0 x5 x6 q15.2).bind fun q17 => (bif am_in q17.1 7 then (bif am_in x2 7 then (bif am_in x5 7 then (bif am_in x2 7 then (if (q15.1 + (q17.2.1 ox0 65 ((q17.1 : Int32).toNatClampNeg) ((x2 : Int32).toNatClampNeg))) = (q17.2.1 ox0 65 ((x5 : Int32).toNatClampNeg) ((x2 : Int32).toNatClampNeg)) then (fn_X8_nextOf ox0 x5 x6 q17.2).bind fun q23 => k89 ox0 x1 x2 x3 q23.1 x6 (x7 + 1) q23.2 else jn_X8_route_148 k89 k98 ox0 x1 x2 x3 x5 x6 x7 q17.2) else none) else none) else none) else none))
set_option maxRecDepth 100000 in
theorem lc_X8_route_98 {p : Program} {l : Launch} {e : Env} {s : State} {m : MethodId} {args : Array Value} {below : List Frame} {meth : Method} {c : Code} {G : am_G} {q : Int32 × am_S} (X : am_X p s m args c cX8_route yX8_route.cls 8 am_p8 G (am_fr G)) (hr : meth.sig.returnType = (some .int) ∧ meth.locks = false)  (k89 : Nat → Int32 → Int32 → Int32 → Int32 → Int32 → Int32 → am_S → Option (Int32 × am_S)) (k98 : Nat → Int32 → Int32 → Int32 → Int32 → Int32 → Int32 → am_S → Option (Int32 × am_S)) (hk89 : ∀ (ox0 : Nat) (x1 : Int32) (x2 : Int32) (x3 : Int32) (x5 : Int32) (x6 : Int32) (x7 : Int32) (σ : am_S), k89 ox0 x1 x2 x3 x5 x6 x7 σ = some q → am_A p l e (am_ro 5) s m args below meth c 8 G (am_fr G) 0 0 (MQ below (am_Qc G (some (am_i q.1)) q.2) args s 0 0 (am_fr G)) (89, [(0, am_r ox0 40 0), (1, am_i x1), (2, am_i x2), (3, am_i x3), (5, am_i x5), (6, am_i x6), (7, am_i x7)], [], σ)) (hk98 : ∀ (ox0 : Nat) (x1 : Int32) (x2 : Int32) (x3 : Int32) (x5 : Int32) (x6 : Int32) (x7 : Int32) (σ : am_S), k98 ox0 x1 x2 x3 x5 x6 x7 σ = some q → am_A p l e (am_ro 5) s m args below meth c 8 G (am_fr G) 0 0 (MQ below (am_Qc G (some (am_i q.1)) q.2) args s 0 0 (am_fr G)) (98, [(0, am_r ox0 40 0), (1, am_i x1), (2, am_i x2), (3, am_i x3), (5, am_i x5), (6, am_i x6), (7, am_i x7)], [], σ)) (ox0 : Nat) (x1 : Int32) (x2 : Int32) (x3 : Int32) (x5 : Int32) (x6 : Int32) (x7 : Int32) (σ : am_S) (h : lb_X8_route_98 k89 k98 ox0 x1 x2 x3 x5 x6 x7 σ = some q) : am_A p l e (am_ro 5) s m args below meth c 8 G (am_fr G) 0 0 (MQ below (am_Qc G (some (am_i q.1)) q.2) args s 0 0 (am_fr G)) (98, [(0, am_r ox0 40 0), (1, am_i x1), (2, am_i x2), (3, am_i x3), (5, am_i x5), (6, am_i x6), (7, am_i x7)], [], σ) := by
  have hc := ct_X8_route
  unfold lb_X8_route_98 at h
  refine am_blk hc X 58 3 (fr' := (103, [(0, am_r ox0 40 0), (1, am_i x1), (2, am_i x2), (3, am_i x3), (5, am_i x5), (6, am_i x6), (7, am_i x7)], [am_i x6, am_i x5, am_r ox0 40 0], σ)) rfl ⟨trivial, trivial, trivial, trivial⟩ ?_
  obtain ⟨q13, hq14, h⟩ := am_bs h
  refine am_callV hc 61 X (k := 40) (i := 0) (o := ox0) (As := [am_i x5, am_i x6]) (rest := []) rfl (ok_X8_nextOf l ox0 x5 x6 (σ) hq14) yv_X8_nextOf ml_X8_287 (cl_40) rfl rfl rfl rfl rfl ?_
  refine am_blk hc X 62 1 (fr' := (107, [(0, am_r ox0 40 0), (1, am_i x1), (2, am_i x2), (3, am_i x3), (5, am_i x5), (6, am_i x6), (7, am_i x7)], [am_i (-1), am_i q13.1], q13.2)) rfl ⟨trivial, trivial⟩ ?_
  refine am_icmp_eq hc X 63 (tgt := 148) rfl (by decide) (fun c26 => ?_) (fun c26 => ?_)
  · replace h := am_ip c26 h
    exact jl_X8_route_148 X hr k89 k98 hk89 hk98 ox0 x1 x2 x3 x5 x6 x7 _ h
  · replace h := am_in2 c26 h
    refine am_blk hc X 64 5 (fr' := (117, [(0, am_r ox0 40 0), (1, am_i x1), (2, am_i x2), (3, am_i x3), (5, am_i x5), (6, am_i x6), (7, am_i x7)], [am_i 4, am_i x6, am_i x5, am_i x1, am_r ox0 40 0], q13.2)) rfl ⟨trivial, trivial, trivial, trivial, trivial, trivial⟩ ?_
    obtain ⟨q15, hq16, h⟩ := am_bs h
    refine am_callV hc 69 X (k := 40) (i := 0) (o := ox0) (As := [am_i x1, am_i x5, am_i x6, am_i 4]) (rest := []) rfl (ok_X8_weight l ox0 x1 x5 x6 4 q13.2 hq16) yv_X8_weight ml_X8_298 (cl_40) rfl rfl rfl rfl rfl ?_
    refine am_blk hc X 70 5 (fr' := (129, [(0, am_r ox0 40 0), (1, am_i x1), (2, am_i x2), (3, am_i x3), (5, am_i x5), (6, am_i x6), (7, am_i x7)], [am_i x6, am_i x5, am_r ox0 40 0, am_r ox0 64 0, am_i q15.1], q15.2)) rfl ⟨trivial, trivial, trivial, trivial, trivial, trivial⟩ ?_
    obtain ⟨q17, hq18, h⟩ := am_bs h
    refine am_callV hc 75 X (k := 40) (i := 0) (o := ox0) (As := [am_i x5, am_i x6]) (rest := [am_r ox0 64 0, am_i q15.1]) rfl (ok_X8_nextOf l ox0 x5 x6 q15.2 hq18) yv_X8_nextOf ml_X8_287 (cl_40) rfl rfl rfl rfl rfl ?_
    obtain ⟨ob19, h⟩ := am_ci h
    obtain ⟨ob20, h⟩ := am_ci h
    obtain ⟨ob21, h⟩ := am_ci h
    obtain ⟨ob22, h⟩ := am_ci h
    refine am_blk hc X 76 10 (fr' := (145, [(0, am_r ox0 40 0), (1, am_i x1), (2, am_i x2), (3, am_i x3), (5, am_i x5), (6, am_i x6), (7, am_i x7)], [am_i (q17.2.1 ox0 65 ((x5 : Int32).toNatClampNeg) ((x2 : Int32).toNatClampNeg)), am_i (q15.1 + (q17.2.1 ox0 65 ((q17.1 : Int32).toNatClampNeg) ((x2 : Int32).toNatClampNeg)))], q17.2)) rfl ⟨(am_in_vp ob19), trivial, (am_in_vp ob20), trivial, trivial, trivial, trivial, (am_in_vp ob21), trivial, (am_in_vp ob22), trivial⟩ ?_
    refine am_icmp_eq hc X 86 (tgt := 154) rfl (by decide) (fun c25 => ?_) (fun c25 => ?_)
    · replace h := am_ip c25 h
      refine am_blk hc X 89 3 (fr' := (159, [(0, am_r ox0 40 0), (1, am_i x1), (2, am_i x2), (3, am_i x3), (5, am_i x5), (6, am_i x6), (7, am_i x7)], [am_i x6, am_i x5, am_r ox0 40 0], q17.2)) rfl ⟨trivial, trivial, trivial, trivial⟩ ?_
      obtain ⟨q23, hq24, h⟩ := am_bs h
      refine am_callV hc 92 X (k := 40) (i := 0) (o := ox0) (As := [am_i x5, am_i x6]) (rest := []) rfl (ok_X8_nextOf l ox0 x5 x6 q17.2 hq24) yv_X8_nextOf ml_X8_287 (cl_40) rfl rfl rfl rfl rfl ?_
      refine am_blk hc X 93 3 (fr' := (89, [(0, am_r ox0 40 0), (1, am_i x1), (2, am_i x2), (3, am_i x3), (5, am_i q23.1), (6, am_i x6), (7, am_i (x7 + 1))], [], q23.2)) rfl ⟨trivial, trivial, trivial, trivial⟩ ?_
      exact hk89 ox0 x1 x2 x3 q23.1 x6 (x7 + 1) _ h
    · replace h := am_in2 c25 h
      exact jl_X8_route_148 X hr k89 k98 hk89 hk98 ox0 x1 x2 x3 x5 x6 x7 _ h
def lp_X8_route_98 (k89 : Nat → Int32 → Int32 → Int32 → Int32 → Int32 → Int32 → am_S → Option (Int32 × am_S)) : Nat → Nat → Int32 → Int32 → Int32 → Int32 → Int32 → Int32 → am_S → Option (Int32 × am_S)
  | 0 => fun _ _ _ _ _ _ _ _ => none
  | n + 1 => lb_X8_route_98 k89 (lp_X8_route_98 k89 n)
theorem ll_X8_route_98 {p : Program} {l : Launch} {e : Env} {s : State} {m : MethodId} {args : Array Value} {below : List Frame} {meth : Method} {c : Code} {G : am_G} {q : Int32 × am_S} (X : am_X p s m args c cX8_route yX8_route.cls 8 am_p8 G (am_fr G)) (hr : meth.sig.returnType = (some .int) ∧ meth.locks = false)  (k89 : Nat → Int32 → Int32 → Int32 → Int32 → Int32 → Int32 → am_S → Option (Int32 × am_S)) (hk89 : ∀ (ox0 : Nat) (x1 : Int32) (x2 : Int32) (x3 : Int32) (x5 : Int32) (x6 : Int32) (x7 : Int32) (σ : am_S), k89 ox0 x1 x2 x3 x5 x6 x7 σ = some q → am_A p l e (am_ro 5) s m args below meth c 8 G (am_fr G) 0 0 (MQ below (am_Qc G (some (am_i q.1)) q.2) args s 0 0 (am_fr G)) (89, [(0, am_r ox0 40 0), (1, am_i x1), (2, am_i x2), (3, am_i x3), (5, am_i x5), (6, am_i x6), (7, am_i x7)], [], σ)) : ∀ (n : Nat) (ox0 : Nat) (x1 : Int32) (x2 : Int32) (x3 : Int32) (x5 : Int32) (x6 : Int32) (x7 : Int32) (σ : am_S), lp_X8_route_98 k89 n ox0 x1 x2 x3 x5 x6 x7 σ = some q → am_A p l e (am_ro 5) s m args below meth c 8 G (am_fr G) 0 0 (MQ below (am_Qc G (some (am_i q.1)) q.2) args s 0 0 (am_fr G)) (98, [(0, am_r ox0 40 0), (1, am_i x1), (2, am_i x2), (3, am_i x3), (5, am_i x5), (6, am_i x6), (7, am_i x7)], [], σ) := by
  intro n
  induction n with
  | zero =>
    intro ox0 x1 x2 x3 x5 x6 x7 σ h
    have h : (none : Option (Int32 × am_S)) = some q := h
    cases h
  | succ n ih =>
    intro ox0 x1 x2 x3 x5 x6 x7 σ h
    exact lc_X8_route_98 X hr k89 (lp_X8_route_98 k89 n) hk89 ih ox0 x1 x2 x3 x5 x6 x7 σ h
def lb_X8_route_89 (k89 : Nat → Int32 → Int32 → Int32 → Int32 → Int32 → Int32 → am_S → Option (Int32 × am_S)) (ox0 : Nat) (x1 : Int32) (x2 : Int32) (x3 : Int32) (x5 : Int32) (x6 : Int32) (x7 : Int32) (σ : am_S) : Option (Int32 × am_S) :=
  (if x3 < x7 then some (x6, σ) else lp_X8_route_98 k89 1000 ox0 x1 x2 x3 x5 0 x7 (σ))
set_option maxRecDepth 100000 in
theorem lc_X8_route_89 {p : Program} {l : Launch} {e : Env} {s : State} {m : MethodId} {args : Array Value} {below : List Frame} {meth : Method} {c : Code} {G : am_G} {q : Int32 × am_S} (X : am_X p s m args c cX8_route yX8_route.cls 8 am_p8 G (am_fr G)) (hr : meth.sig.returnType = (some .int) ∧ meth.locks = false)  (k89 : Nat → Int32 → Int32 → Int32 → Int32 → Int32 → Int32 → am_S → Option (Int32 × am_S)) (hk89 : ∀ (ox0 : Nat) (x1 : Int32) (x2 : Int32) (x3 : Int32) (x5 : Int32) (x6 : Int32) (x7 : Int32) (σ : am_S), k89 ox0 x1 x2 x3 x5 x6 x7 σ = some q → am_A p l e (am_ro 5) s m args below meth c 8 G (am_fr G) 0 0 (MQ below (am_Qc G (some (am_i q.1)) q.2) args s 0 0 (am_fr G)) (89, [(0, am_r ox0 40 0), (1, am_i x1), (2, am_i x2), (3, am_i x3), (5, am_i x5), (6, am_i x6), (7, am_i x7)], [], σ)) (ox0 : Nat) (x1 : Int32) (x2 : Int32) (x3 : Int32) (x5 : Int32) (x6 : Int32) (x7 : Int32) (σ : am_S) (h : lb_X8_route_89 k89 ox0 x1 x2 x3 x5 x6 x7 σ = some q) : am_A p l e (am_ro 5) s m args below meth c 8 G (am_fr G) 0 0 (MQ below (am_Qc G (some (am_i q.1)) q.2) args s 0 0 (am_fr G)) (89, [(0, am_r ox0 40 0), (1, am_i x1), (2, am_i x2), (3, am_i x3), (5, am_i x5), (6, am_i x6), (7, am_i x7)], [], σ) := by
  have hc := ct_X8_route
  unfold lb_X8_route_89 at h
  refine am_blk hc X 53 2 (fr' := (92, [(0, am_r ox0 40 0), (1, am_i x1), (2, am_i x2), (3, am_i x3), (5, am_i x5), (6, am_i x6), (7, am_i x7)], [am_i x3, am_i x7], σ)) rfl ⟨trivial, trivial, trivial⟩ ?_
  refine am_icmp_gt hc X 55 (tgt := 170) rfl (by decide) (fun c27 => ?_) (fun c27 => ?_)
  · replace h := am_ip c27 h
    refine am_blk hc X 96 1 (fr' := (172, [(0, am_r ox0 40 0), (1, am_i x1), (2, am_i x2), (3, am_i x3), (5, am_i x5), (6, am_i x6), (7, am_i x7)], [am_i x6], σ)) rfl ⟨trivial, trivial⟩ ?_
    obtain rfl := Option.some.inj h
    exact am_iret hc X hr 97 rfl rfl rfl
  · replace h := am_in2 c27 h
    refine am_blk hc X 56 2 (fr' := (98, [(0, am_r ox0 40 0), (1, am_i x1), (2, am_i x2), (3, am_i x3), (5, am_i x5), (6, am_i 0), (7, am_i x7)], [], σ)) rfl ⟨trivial, trivial, trivial⟩ ?_
    exact ll_X8_route_98 X hr k89 hk89 1000 ox0 x1 x2 x3 x5 0 x7 _ h
def lp_X8_route_89  : Nat → Nat → Int32 → Int32 → Int32 → Int32 → Int32 → Int32 → am_S → Option (Int32 × am_S)
  | 0 => fun _ _ _ _ _ _ _ _ => none
  | n + 1 => lb_X8_route_89  (lp_X8_route_89  n)
theorem ll_X8_route_89 {p : Program} {l : Launch} {e : Env} {s : State} {m : MethodId} {args : Array Value} {below : List Frame} {meth : Method} {c : Code} {G : am_G} {q : Int32 × am_S} (X : am_X p s m args c cX8_route yX8_route.cls 8 am_p8 G (am_fr G)) (hr : meth.sig.returnType = (some .int) ∧ meth.locks = false)    : ∀ (n : Nat) (ox0 : Nat) (x1 : Int32) (x2 : Int32) (x3 : Int32) (x5 : Int32) (x6 : Int32) (x7 : Int32) (σ : am_S), lp_X8_route_89  n ox0 x1 x2 x3 x5 x6 x7 σ = some q → am_A p l e (am_ro 5) s m args below meth c 8 G (am_fr G) 0 0 (MQ below (am_Qc G (some (am_i q.1)) q.2) args s 0 0 (am_fr G)) (89, [(0, am_r ox0 40 0), (1, am_i x1), (2, am_i x2), (3, am_i x3), (5, am_i x5), (6, am_i x6), (7, am_i x7)], [], σ) := by
  intro n
  induction n with
  | zero =>
    intro ox0 x1 x2 x3 x5 x6 x7 σ h
    have h : (none : Option (Int32 × am_S)) = some q := h
    cases h
  | succ n ih =>
    intro ox0 x1 x2 x3 x5 x6 x7 σ h
    exact lc_X8_route_89 X hr  (lp_X8_route_89  n) ih ox0 x1 x2 x3 x5 x6 x7 σ h
def fn_X8_route (oa0 : Nat) (a1 : Int32) (a2 : Int32) (a3 : Int32) (σ : am_S) : Option (Int32 × am_S) :=
  (fn_X8_isOne oa0 a1 (σ)).bind fun q1 => (if q1.1 = 0 then jn_X8_route_21  oa0 q1.2 else (fn_X8_isValley ((a2 : Int32).toInt64) q1.2).bind fun q5 => (if q5.1 = 0 then jn_X8_route_21  oa0 q5.2 else (if (-1) ≤ a3 then (fn_X8_findFar oa0 a1 4 (-1) q5.2).bind fun q7 => (bif am_in a1 6 then (bif am_in (q7.1 oa0 58 0 ((a1 : Int32).toNatClampNeg)) 7 then (bif am_in a2 7 then (if a3 < ((q7.1 oa0 65 (((q7.1 oa0 58 0 ((a1 : Int32).toNatClampNeg)) : Int32).toNatClampNeg) ((a2 : Int32).toNatClampNeg)) - (q7.1 oa0 65 (((q7.1 oa0 58 0 ((a1 : Int32).toNatClampNeg)) : Int32).toNatClampNeg) ((a2 : Int32).toNatClampNeg)) / (1000 : Int32) * (1000 : Int32)) then (if a3 = (-1) then some (((q7.1 oa0 65 (((q7.1 oa0 58 0 ((a1 : Int32).toNatClampNeg)) : Int32).toNatClampNeg) ((a2 : Int32).toNatClampNeg)) - (q7.1 oa0 65 (((q7.1 oa0 58 0 ((a1 : Int32).toNatClampNeg)) : Int32).toNatClampNeg) ((a2 : Int32).toNatClampNeg)) / (1000 : Int32) * (1000 : Int32)), q7) else (bif am_in a1 6 then lp_X8_route_89  1000 oa0 a1 a2 a3 (q7.1 oa0 58 0 ((a1 : Int32).toNatClampNeg)) 0 0 q7 else none)) else (fn_X8_refuse oa0 (-5) q7).bind fun q29 => some (q29.1, q29.2)) else none) else none) else none) else jn_X8_route_21  oa0 q5.2)))
set_option maxRecDepth 100000 in
theorem ok_X8_route (l : Launch) (oa0 : Nat) (a1 : Int32) (a2 : Int32) (a3 : Int32) (σ : am_S) {q : Int32 × am_S} (h : fn_X8_route oa0 a1 a2 a3 σ = some q) : am_M l yX8_route cX8_route 8 (some .int) 5 [am_r oa0 40 0, am_i a1, am_i a2, am_i a3] σ (some (am_i q.1)) q.2 := by
  refine am_M_of (P := am_p8) (by decide +kernel) am_p8_ok rfl ?_
  intro G p e s m args below meth c X hr
  have hc := ct_X8_route
  unfold fn_X8_route at h
  refine am_blk hc X 0 2 (fr' := (2, [(0, am_r oa0 40 0), (1, am_i a1), (2, am_i a2), (3, am_i a3)], [am_i a1, am_r oa0 40 0], σ)) rfl ⟨trivial, trivial, trivial⟩ ?_
  obtain ⟨q1, hq2, h⟩ := am_bs h
  refine am_callV hc 2 X (k := 40) (i := 0) (o := oa0) (As := [am_i a1]) (rest := []) rfl (ok_X8_isOne l oa0 a1 (σ) hq2) yv_X8_isOne ml_X8_140 (cl_40) rfl rfl rfl rfl rfl ?_
  refine am_if_eq hc X 3 (tgt := 21) rfl (by decide) (fun c34 => ?_) (fun c34 => ?_)
  · replace h := am_ip c34 h
    refine am_less [0] rfl ?_
    exact jl_X8_route_21 X hr   oa0 _ h
  · replace h := am_in2 c34 h
    refine am_blk hc X 4 2 (fr' := (10, [(0, am_r oa0 40 0), (1, am_i a1), (2, am_i a2), (3, am_i a3)], [am_l ((a2 : Int32).toInt64)], q1.2)) rfl ⟨trivial, trivial, trivial⟩ ?_
    obtain ⟨q5, hq6, h⟩ := am_bs h
    refine am_callS hc 6 X (As := [am_l ((a2 : Int32).toInt64)]) (rest := []) rfl (ok_X8_isValley l ((a2 : Int32).toInt64) q1.2 hq6) yv_X8_isValley ml_X8_154 rfl rfl rfl rfl rfl ?_
    refine am_if_eq hc X 7 (tgt := 21) rfl (by decide) (fun c33 => ?_) (fun c33 => ?_)
    · replace h := am_ip c33 h
      refine am_less [0] rfl ?_
      exact jl_X8_route_21 X hr   oa0 _ h
    · replace h := am_in2 c33 h
      refine am_blk hc X 8 2 (fr' := (18, [(0, am_r oa0 40 0), (1, am_i a1), (2, am_i a2), (3, am_i a3)], [am_i (-1), am_i a3], q5.2)) rfl ⟨trivial, trivial, trivial⟩ ?_
      refine am_icmp_ge hc X 10 (tgt := 28) rfl (by decide) (fun c32 => ?_) (fun c32 => ?_)
      · replace h := am_ip c32 h
        refine am_blk hc X 15 4 (fr' := (32, [(0, am_r oa0 40 0), (1, am_i a1), (2, am_i a2), (3, am_i a3)], [am_i (-1), am_i 4, am_i a1, am_r oa0 40 0], q5.2)) rfl ⟨trivial, trivial, trivial, trivial, trivial⟩ ?_
        obtain ⟨q7, hq8, h⟩ := am_bs h
        refine am_callV hc 19 X (k := 40) (i := 0) (o := oa0) (As := [am_i a1, am_i 4, am_i (-1)]) (rest := []) rfl (ok_X8_findFar l oa0 a1 4 (-1) q5.2 hq8) yv_X8_findFar ml_X8_304 (cl_40) rfl rfl rfl rfl rfl ?_
        obtain ⟨ob9, h⟩ := am_ci h
        obtain ⟨ob10, h⟩ := am_ci h
        obtain ⟨ob11, h⟩ := am_ci h
        refine am_blk hc X 20 14 (fr' := (57, [(0, am_r oa0 40 0), (1, am_i a1), (2, am_i a2), (3, am_i a3), (4, am_i ((q7.1 oa0 65 (((q7.1 oa0 58 0 ((a1 : Int32).toNatClampNeg)) : Int32).toNatClampNeg) ((a2 : Int32).toNatClampNeg)) - (q7.1 oa0 65 (((q7.1 oa0 58 0 ((a1 : Int32).toNatClampNeg)) : Int32).toNatClampNeg) ((a2 : Int32).toNatClampNeg)) / (1000 : Int32) * (1000 : Int32)))], [am_i ((q7.1 oa0 65 (((q7.1 oa0 58 0 ((a1 : Int32).toNatClampNeg)) : Int32).toNatClampNeg) ((a2 : Int32).toNatClampNeg)) - (q7.1 oa0 65 (((q7.1 oa0 58 0 ((a1 : Int32).toNatClampNeg)) : Int32).toNatClampNeg) ((a2 : Int32).toNatClampNeg)) / (1000 : Int32) * (1000 : Int32)), am_i a3], q7)) rfl ⟨trivial, trivial, trivial, trivial, trivial, (am_in_vp ob9), (am_in_vp ob10), trivial, (am_in_vp ob11), trivial, (by decide), trivial, trivial, trivial, trivial⟩ ?_
        refine am_icmp_lt hc X 34 (tgt := 67) rfl (by decide) (fun c31 => ?_) (fun c31 => ?_)
        · replace h := am_ip c31 h
          refine am_blk hc X 39 2 (fr' := (69, [(0, am_r oa0 40 0), (1, am_i a1), (2, am_i a2), (3, am_i a3), (4, am_i ((q7.1 oa0 65 (((q7.1 oa0 58 0 ((a1 : Int32).toNatClampNeg)) : Int32).toNatClampNeg) ((a2 : Int32).toNatClampNeg)) - (q7.1 oa0 65 (((q7.1 oa0 58 0 ((a1 : Int32).toNatClampNeg)) : Int32).toNatClampNeg) ((a2 : Int32).toNatClampNeg)) / (1000 : Int32) * (1000 : Int32)))], [am_i (-1), am_i a3], q7)) rfl ⟨trivial, trivial, trivial⟩ ?_
          refine am_icmp_ne hc X 41 (tgt := 75) rfl (by decide) (fun c28 => ?_) (fun c28 => ?_)
          · replace h := am_in2 c28 h
            obtain ⟨ob12, h⟩ := am_ci h
            refine am_blk hc X 44 9 (fr' := (89, [(0, am_r oa0 40 0), (1, am_i a1), (2, am_i a2), (3, am_i a3), (4, am_i ((q7.1 oa0 65 (((q7.1 oa0 58 0 ((a1 : Int32).toNatClampNeg)) : Int32).toNatClampNeg) ((a2 : Int32).toNatClampNeg)) - (q7.1 oa0 65 (((q7.1 oa0 58 0 ((a1 : Int32).toNatClampNeg)) : Int32).toNatClampNeg) ((a2 : Int32).toNatClampNeg)) / (1000 : Int32) * (1000 : Int32))), (5, am_i (q7.1 oa0 58 0 ((a1 : Int32).toNatClampNeg))), (6, am_i 0), (7, am_i 0)], [], q7)) rfl ⟨trivial, trivial, trivial, (am_in_vp ob12), trivial, trivial, trivial, trivial, trivial, trivial⟩ ?_
            refine am_less [0, 1, 2, 3, 5, 6, 7] rfl ?_
            exact ll_X8_route_89 X hr   1000 oa0 a1 a2 a3 (q7.1 oa0 58 0 ((a1 : Int32).toNatClampNeg)) 0 0 _ h
          · replace h := am_ip c28 h
            refine am_blk hc X 42 1 (fr' := (74, [(0, am_r oa0 40 0), (1, am_i a1), (2, am_i a2), (3, am_i a3), (4, am_i ((q7.1 oa0 65 (((q7.1 oa0 58 0 ((a1 : Int32).toNatClampNeg)) : Int32).toNatClampNeg) ((a2 : Int32).toNatClampNeg)) - (q7.1 oa0 65 (((q7.1 oa0 58 0 ((a1 : Int32).toNatClampNeg)) : Int32).toNatClampNeg) ((a2 : Int32).toNatClampNeg)) / (1000 : Int32) * (1000 : Int32)))], [am_i ((q7.1 oa0 65 (((q7.1 oa0 58 0 ((a1 : Int32).toNatClampNeg)) : Int32).toNatClampNeg) ((a2 : Int32).toNatClampNeg)) - (q7.1 oa0 65 (((q7.1 oa0 58 0 ((a1 : Int32).toNatClampNeg)) : Int32).toNatClampNeg) ((a2 : Int32).toNatClampNeg)) / (1000 : Int32) * (1000 : Int32))], q7)) rfl ⟨trivial, trivial⟩ ?_
            obtain rfl := Option.some.inj h
            exact am_iret hc X hr 43 rfl rfl rfl
        · replace h := am_in2 c31 h
          refine am_blk hc X 35 2 (fr' := (63, [(0, am_r oa0 40 0), (1, am_i a1), (2, am_i a2), (3, am_i a3), (4, am_i ((q7.1 oa0 65 (((q7.1 oa0 58 0 ((a1 : Int32).toNatClampNeg)) : Int32).toNatClampNeg) ((a2 : Int32).toNatClampNeg)) - (q7.1 oa0 65 (((q7.1 oa0 58 0 ((a1 : Int32).toNatClampNeg)) : Int32).toNatClampNeg) ((a2 : Int32).toNatClampNeg)) / (1000 : Int32) * (1000 : Int32)))], [am_i (-5), am_r oa0 40 0], q7)) rfl ⟨trivial, trivial, trivial⟩ ?_
          obtain ⟨q29, hq30, h⟩ := am_bs h
          refine am_callV hc 37 X (k := 40) (i := 0) (o := oa0) (As := [am_i (-5)]) (rest := []) rfl (ok_X8_refuse l oa0 (-5) q7 hq30) yv_X8_refuse ml_X8_129 (cl_40) rfl rfl rfl rfl rfl ?_
          obtain rfl := Option.some.inj h
          exact am_iret hc X hr 38 rfl rfl rfl
      · replace h := am_in2 c32 h
        refine am_less [0] rfl ?_
        exact jl_X8_route_21 X hr   oa0 _ h
def jn_X8_row_36  (ox0 : Nat) (σ : am_S) : Option (Int32 × am_S) :=
  (fn_X8_refuse ox0 (-2) (σ)).bind fun q3 => some (q3.1, q3.2)
set_option maxRecDepth 100000 in
theorem jl_X8_row_36 {p : Program} {l : Launch} {e : Env} {s : State} {m : MethodId} {args : Array Value} {below : List Frame} {meth : Method} {c : Code} {G : am_G} {q : Int32 × am_S} (X : am_X p s m args c cX8_row yX8_row.cls 5 am_p8 G (am_fr G)) (hr : meth.sig.returnType = (some .int) ∧ meth.locks = false)    (ox0 : Nat) (σ : am_S) (h : jn_X8_row_36  ox0 σ = some q) : am_A p l e (am_ro 1) s m args below meth c 5 G (am_fr G) 0 0 (MQ below (am_Qc G (some (am_i q.1)) q.2) args s 0 0 (am_fr G)) (36, [(0, am_r ox0 40 0)], [], σ) := by
  have hc := ct_X8_row
  unfold jn_X8_row_36 at h
  refine am_blk hc X 18 2 (fr' := (39, [(0, am_r ox0 40 0)], [am_i (-2), am_r ox0 40 0], σ)) rfl ⟨trivial, trivial, trivial⟩ ?_
  obtain ⟨q3, hq4, h⟩ := am_bs h
  refine am_callV hc 20 X (k := 40) (i := 0) (o := ox0) (As := [am_i (-2)]) (rest := []) rfl (ok_X8_refuse l ox0 (-2) (σ) hq4) yv_X8_refuse ml_X8_129 (cl_40) rfl rfl rfl rfl rfl ?_
  obtain rfl := Option.some.inj h
  exact am_iret hc X hr 21 rfl rfl rfl
def lb_X8_row_67 (k67 : Nat → Int32 → Int32 → am_S → Option (Int32 × am_S)) (ox0 : Nat) (x1 : Int32) (x4 : Int32) (σ : am_S) : Option (Int32 × am_S) :=
  (if 40 ≤ x4 then some (1, σ) else (bif am_in x1 8 then (bif am_in x4 40 then k67 ox0 x1 (x4 + 1) (am_ul σ ox0 45 ((x1 : Int32).toNatClampNeg) ((x4 : Int32).toNatClampNeg) 0) else none) else none))
set_option maxRecDepth 100000 in
theorem lc_X8_row_67 {p : Program} {l : Launch} {e : Env} {s : State} {m : MethodId} {args : Array Value} {below : List Frame} {meth : Method} {c : Code} {G : am_G} {q : Int32 × am_S} (X : am_X p s m args c cX8_row yX8_row.cls 5 am_p8 G (am_fr G)) (hr : meth.sig.returnType = (some .int) ∧ meth.locks = false)  (k67 : Nat → Int32 → Int32 → am_S → Option (Int32 × am_S)) (hk67 : ∀ (ox0 : Nat) (x1 : Int32) (x4 : Int32) (σ : am_S), k67 ox0 x1 x4 σ = some q → am_A p l e (am_ro 1) s m args below meth c 5 G (am_fr G) 0 0 (MQ below (am_Qc G (some (am_i q.1)) q.2) args s 0 0 (am_fr G)) (67, [(0, am_r ox0 40 0), (1, am_i x1), (4, am_i x4)], [], σ)) (ox0 : Nat) (x1 : Int32) (x4 : Int32) (σ : am_S) (h : lb_X8_row_67 k67 ox0 x1 x4 σ = some q) : am_A p l e (am_ro 1) s m args below meth c 5 G (am_fr G) 0 0 (MQ below (am_Qc G (some (am_i q.1)) q.2) args s 0 0 (am_fr G)) (67, [(0, am_r ox0 40 0), (1, am_i x1), (4, am_i x4)], [], σ) := by
  have hc := ct_X8_row
  unfold lb_X8_row_67 at h
  refine am_blk hc X 39 2 (fr' := (71, [(0, am_r ox0 40 0), (1, am_i x1), (4, am_i x4)], [am_i 40, am_i x4], σ)) rfl ⟨trivial, trivial, trivial⟩ ?_
  refine am_icmp_ge hc X 41 (tgt := 90) rfl (by decide) (fun c14 => ?_) (fun c14 => ?_)
  · replace h := am_ip c14 h
    refine am_blk hc X 51 1 (fr' := (91, [(0, am_r ox0 40 0), (1, am_i x1), (4, am_i x4)], [am_i 1], σ)) rfl ⟨trivial, trivial⟩ ?_
    obtain rfl := Option.some.inj h
    exact am_iret hc X hr 52 rfl rfl rfl
  · replace h := am_in2 c14 h
    obtain ⟨ob12, h⟩ := am_ci h
    obtain ⟨ob13, h⟩ := am_ci h
    refine am_blk hc X 42 9 (fr' := (67, [(0, am_r ox0 40 0), (1, am_i x1), (4, am_i (x4 + 1))], [], (am_ul σ ox0 45 ((x1 : Int32).toNatClampNeg) ((x4 : Int32).toNatClampNeg) 0))) rfl ⟨trivial, trivial, trivial, (am_in_vp ob12), trivial, trivial, (am_in_vp ob13), trivial, trivial, trivial⟩ ?_
    exact hk67 ox0 x1 (x4 + 1) _ h
def lp_X8_row_67  : Nat → Nat → Int32 → Int32 → am_S → Option (Int32 × am_S)
  | 0 => fun _ _ _ _ => none
  | n + 1 => lb_X8_row_67  (lp_X8_row_67  n)
theorem ll_X8_row_67 {p : Program} {l : Launch} {e : Env} {s : State} {m : MethodId} {args : Array Value} {below : List Frame} {meth : Method} {c : Code} {G : am_G} {q : Int32 × am_S} (X : am_X p s m args c cX8_row yX8_row.cls 5 am_p8 G (am_fr G)) (hr : meth.sig.returnType = (some .int) ∧ meth.locks = false)    : ∀ (n : Nat) (ox0 : Nat) (x1 : Int32) (x4 : Int32) (σ : am_S), lp_X8_row_67  n ox0 x1 x4 σ = some q → am_A p l e (am_ro 1) s m args below meth c 5 G (am_fr G) 0 0 (MQ below (am_Qc G (some (am_i q.1)) q.2) args s 0 0 (am_fr G)) (67, [(0, am_r ox0 40 0), (1, am_i x1), (4, am_i x4)], [], σ) := by
  intro n
  induction n with
  | zero =>
    intro ox0 x1 x4 σ h
    have h : (none : Option (Int32 × am_S)) = some q := h
    cases h
  | succ n ih =>
    intro ox0 x1 x4 σ h
    exact lc_X8_row_67 X hr  (lp_X8_row_67  n) ih ox0 x1 x4 σ h
def fn_X8_row (oa0 : Nat) (a1 : Int32) (a2 : Int32) (a3 : Int32) (σ : am_S) : Option (Int32 × am_S) :=
  (fn_X8_in ((a1 : Int32).toInt64) 0 7 (σ)).bind fun q1 => (if q1.1 = 0 then jn_X8_row_36  oa0 q1.2 else (fn_X8_in ((a2 : Int32).toInt64) 0 4 q1.2).bind fun q5 => (if q5.1 = 0 then jn_X8_row_36  oa0 q5.2 else (fn_X8_in ((a3 : Int32).toInt64) 0 40 q5.2).bind fun q7 => (if q7.1 = 0 then jn_X8_row_36  oa0 q7.2 else (bif am_in a1 8 then (bif am_in a1 8 then (bif am_in a1 8 then lp_X8_row_67  1000 oa0 a1 0 (am_u (am_u (am_u q7.2 oa0 41 0 ((a1 : Int32).toNatClampNeg) 1) oa0 42 0 ((a1 : Int32).toNatClampNeg) a2) oa0 43 0 ((a1 : Int32).toNatClampNeg) a3) else none) else none) else none))))
set_option maxRecDepth 100000 in
theorem ok_X8_row (l : Launch) (oa0 : Nat) (a1 : Int32) (a2 : Int32) (a3 : Int32) (σ : am_S) {q : Int32 × am_S} (h : fn_X8_row oa0 a1 a2 a3 σ = some q) : am_M l yX8_row cX8_row 5 (some .int) 1 [am_r oa0 40 0, am_i a1, am_i a2, am_i a3] σ (some (am_i q.1)) q.2 := by
  refine am_M_of (P := am_p8) (by decide +kernel) am_p8_ok rfl ?_
  intro G p e s m args below meth c X hr
  have hc := ct_X8_row
  unfold fn_X8_row at h
  refine am_blk hc X 0 4 (fr' := (6, [(0, am_r oa0 40 0), (1, am_i a1), (2, am_i a2), (3, am_i a3)], [am_l 7, am_l 0, am_l ((a1 : Int32).toInt64)], σ)) rfl ⟨trivial, trivial, trivial, trivial, trivial⟩ ?_
  obtain ⟨q1, hq2, h⟩ := am_bs h
  refine am_callS hc 4 X (As := [am_l ((a1 : Int32).toInt64), am_l 0, am_l 7]) (rest := []) rfl (ok_X8_in l ((a1 : Int32).toInt64) 0 7 (σ) hq2) yv_X8_in ml_X8_117 rfl rfl rfl rfl rfl ?_
  refine am_if_eq hc X 5 (tgt := 36) rfl (by decide) (fun c17 => ?_) (fun c17 => ?_)
  · replace h := am_ip c17 h
    refine am_less [0] rfl ?_
    exact jl_X8_row_36 X hr   oa0 _ h
  · replace h := am_in2 c17 h
    refine am_blk hc X 6 4 (fr' := (18, [(0, am_r oa0 40 0), (1, am_i a1), (2, am_i a2), (3, am_i a3)], [am_l 4, am_l 0, am_l ((a2 : Int32).toInt64)], q1.2)) rfl ⟨trivial, trivial, trivial, trivial, trivial⟩ ?_
    obtain ⟨q5, hq6, h⟩ := am_bs h
    refine am_callS hc 10 X (As := [am_l ((a2 : Int32).toInt64), am_l 0, am_l 4]) (rest := []) rfl (ok_X8_in l ((a2 : Int32).toInt64) 0 4 q1.2 hq6) yv_X8_in ml_X8_117 rfl rfl rfl rfl rfl ?_
    refine am_if_eq hc X 11 (tgt := 36) rfl (by decide) (fun c16 => ?_) (fun c16 => ?_)
    · replace h := am_ip c16 h
      refine am_less [0] rfl ?_
      exact jl_X8_row_36 X hr   oa0 _ h
    · replace h := am_in2 c16 h
      refine am_blk hc X 12 4 (fr' := (30, [(0, am_r oa0 40 0), (1, am_i a1), (2, am_i a2), (3, am_i a3)], [am_l 40, am_l 0, am_l ((a3 : Int32).toInt64)], q5.2)) rfl ⟨trivial, trivial, trivial, trivial, trivial⟩ ?_
      obtain ⟨q7, hq8, h⟩ := am_bs h
      refine am_callS hc 16 X (As := [am_l ((a3 : Int32).toInt64), am_l 0, am_l 40]) (rest := []) rfl (ok_X8_in l ((a3 : Int32).toInt64) 0 40 q5.2 hq8) yv_X8_in ml_X8_117 rfl rfl rfl rfl rfl ?_
      refine am_if_ne hc X 17 (tgt := 43) rfl (by decide) (fun c15 => ?_) (fun c15 => ?_)
      · replace h := am_in2 c15 h
        obtain ⟨ob9, h⟩ := am_ci h
        obtain ⟨ob10, h⟩ := am_ci h
        obtain ⟨ob11, h⟩ := am_ci h
        refine am_blk hc X 22 17 (fr' := (67, [(0, am_r oa0 40 0), (1, am_i a1), (2, am_i a2), (3, am_i a3), (4, am_i 0)], [], (am_u (am_u (am_u q7.2 oa0 41 0 ((a1 : Int32).toNatClampNeg) 1) oa0 42 0 ((a1 : Int32).toNatClampNeg) a2) oa0 43 0 ((a1 : Int32).toNatClampNeg) a3))) rfl ⟨trivial, trivial, trivial, trivial, (am_in_vp ob9), trivial, trivial, trivial, trivial, (am_in_vp ob10), trivial, trivial, trivial, trivial, (am_in_vp ob11), trivial, trivial, trivial⟩ ?_
        refine am_less [0, 1, 4] rfl ?_
        exact ll_X8_row_67 X hr   1000 oa0 a1 0 _ h
      · replace h := am_ip c15 h
        refine am_less [0] rfl ?_
        exact jl_X8_row_36 X hr   oa0 _ h
def fn_X8_saved (oa0 : Nat) (a1 : Int32) (σ : am_S) : Option (Int32 × am_S) :=
  (fn_X8_in ((a1 : Int32).toInt64) 0 ((((σ.1 oa0 40 0 13) - (1 : Int32)) : Int32).toInt64) (σ)).bind fun q1 => (if q1.1 = 0 then (fn_X8_refuse oa0 (-2) q1.2).bind fun q3 => some (q3.1, q3.2) else (fn_X8_savedBy oa0 a1 q1.2).bind fun q5 => some (q5.1, q5.2))
set_option maxRecDepth 100000 in
theorem ok_X8_saved (l : Launch) (oa0 : Nat) (a1 : Int32) (σ : am_S) {q : Int32 × am_S} (h : fn_X8_saved oa0 a1 σ = some q) : am_M l yX8_saved cX8_saved 2 (some .int) 12 [am_r oa0 40 0, am_i a1] σ (some (am_i q.1)) q.2 := by
  refine am_M_of (P := am_p8) (by decide +kernel) am_p8_ok rfl ?_
  intro G p e s m args below meth c X hr
  have hc := ct_X8_saved
  unfold fn_X8_saved at h
  refine am_blk hc X 0 8 (fr' := (10, [(0, am_r oa0 40 0), (1, am_i a1)], [am_l ((((σ.1 oa0 40 0 13) - (1 : Int32)) : Int32).toInt64), am_l 0, am_l ((a1 : Int32).toInt64)], σ)) rfl ⟨trivial, trivial, trivial, trivial, trivial, trivial, trivial, trivial, trivial⟩ ?_
  obtain ⟨q1, hq2, h⟩ := am_bs h
  refine am_callS hc 8 X (As := [am_l ((a1 : Int32).toInt64), am_l 0, am_l ((((σ.1 oa0 40 0 13) - (1 : Int32)) : Int32).toInt64)]) (rest := []) rfl (ok_X8_in l ((a1 : Int32).toInt64) 0 ((((σ.1 oa0 40 0 13) - (1 : Int32)) : Int32).toInt64) (σ) hq2) yv_X8_in ml_X8_117 rfl rfl rfl rfl rfl ?_
  refine am_if_eq hc X 9 (tgt := 24) rfl (by decide) (fun c7 => ?_) (fun c7 => ?_)
  · replace h := am_ip c7 h
    refine am_blk hc X 14 2 (fr' := (27, [(0, am_r oa0 40 0), (1, am_i a1)], [am_i (-2), am_r oa0 40 0], q1.2)) rfl ⟨trivial, trivial, trivial⟩ ?_
    obtain ⟨q3, hq4, h⟩ := am_bs h
    refine am_callV hc 16 X (k := 40) (i := 0) (o := oa0) (As := [am_i (-2)]) (rest := []) rfl (ok_X8_refuse l oa0 (-2) q1.2 hq4) yv_X8_refuse ml_X8_129 (cl_40) rfl rfl rfl rfl rfl ?_
    obtain rfl := Option.some.inj h
    exact am_iret hc X hr 17 rfl rfl rfl
  · replace h := am_in2 c7 h
    refine am_blk hc X 10 2 (fr' := (18, [(0, am_r oa0 40 0), (1, am_i a1)], [am_i a1, am_r oa0 40 0], q1.2)) rfl ⟨trivial, trivial, trivial⟩ ?_
    obtain ⟨q5, hq6, h⟩ := am_bs h
    refine am_callV hc 12 X (k := 40) (i := 0) (o := oa0) (As := [am_i a1]) (rest := []) rfl (ok_X8_savedBy l oa0 a1 q1.2 hq6) yv_X8_savedBy ml_X8_327 (cl_40) rfl rfl rfl rfl rfl ?_
    refine am_blk hc X 13 1 (fr' := (30, [(0, am_r oa0 40 0), (1, am_i a1)], [am_i q5.1], q5.2)) rfl ⟨trivial, trivial⟩ ?_
    obtain rfl := Option.some.inj h
    exact am_iret hc X hr 17 rfl rfl rfl
def jn_X8_says_24  (ox0 : Nat) (σ : am_S) : Option (Int32 × am_S) :=
  (fn_X8_refuse ox0 (-2) (σ)).bind fun q3 => some (q3.1, q3.2)
set_option maxRecDepth 100000 in
theorem jl_X8_says_24 {p : Program} {l : Launch} {e : Env} {s : State} {m : MethodId} {args : Array Value} {below : List Frame} {meth : Method} {c : Code} {G : am_G} {q : Int32 × am_S} (X : am_X p s m args c cX8_says yX8_says.cls 4 am_p8 G (am_fr G)) (hr : meth.sig.returnType = (some .int) ∧ meth.locks = false)    (ox0 : Nat) (σ : am_S) (h : jn_X8_says_24  ox0 σ = some q) : am_A p l e (am_ro 3) s m args below meth c 4 G (am_fr G) 0 0 (MQ below (am_Qc G (some (am_i q.1)) q.2) args s 0 0 (am_fr G)) (24, [(0, am_r ox0 40 0)], [], σ) := by
  have hc := ct_X8_says
  unfold jn_X8_says_24 at h
  refine am_blk hc X 12 2 (fr' := (27, [(0, am_r ox0 40 0)], [am_i (-2), am_r ox0 40 0], σ)) rfl ⟨trivial, trivial, trivial⟩ ?_
  obtain ⟨q3, hq4, h⟩ := am_bs h
  refine am_callV hc 14 X (k := 40) (i := 0) (o := ox0) (As := [am_i (-2)]) (rest := []) rfl (ok_X8_refuse l ox0 (-2) (σ) hq4) yv_X8_refuse ml_X8_129 (cl_40) rfl rfl rfl rfl rfl ?_
  obtain rfl := Option.some.inj h
  exact am_iret hc X hr 15 rfl rfl rfl
def jn_X8_says_69  (ox0 : Nat) (σ : am_S) : Option (Int32 × am_S) :=
  (fn_X8_refuse ox0 (-3) (σ)).bind fun q8 => some (q8.1, q8.2)
set_option maxRecDepth 100000 in
theorem jl_X8_says_69 {p : Program} {l : Launch} {e : Env} {s : State} {m : MethodId} {args : Array Value} {below : List Frame} {meth : Method} {c : Code} {G : am_G} {q : Int32 × am_S} (X : am_X p s m args c cX8_says yX8_says.cls 4 am_p8 G (am_fr G)) (hr : meth.sig.returnType = (some .int) ∧ meth.locks = false)    (ox0 : Nat) (σ : am_S) (h : jn_X8_says_69  ox0 σ = some q) : am_A p l e (am_ro 3) s m args below meth c 4 G (am_fr G) 0 0 (MQ below (am_Qc G (some (am_i q.1)) q.2) args s 0 0 (am_fr G)) (69, [(0, am_r ox0 40 0)], [], σ) := by
  have hc := ct_X8_says
  unfold jn_X8_says_69 at h
  refine am_blk hc X 38 2 (fr' := (72, [(0, am_r ox0 40 0)], [am_i (-3), am_r ox0 40 0], σ)) rfl ⟨trivial, trivial, trivial⟩ ?_
  obtain ⟨q8, hq9, h⟩ := am_bs h
  refine am_callV hc 40 X (k := 40) (i := 0) (o := ox0) (As := [am_i (-3)]) (rest := []) rfl (ok_X8_refuse l ox0 (-3) (σ) hq9) yv_X8_refuse ml_X8_129 (cl_40) rfl rfl rfl rfl rfl ?_
  obtain rfl := Option.some.inj h
  exact am_iret hc X hr 41 rfl rfl rfl
def jn_X8_says_76  (ox0 : Nat) (x1 : Int32) (x2 : Int32) (σ : am_S) : Option (Int32 × am_S) :=
  (bif am_in x1 8 then (if (σ.1 ox0 41 0 ((x1 : Int32).toNatClampNeg)) = 0 then (fn_X8_refuse ox0 (-4) (σ)).bind fun q18 => some (q18.1, q18.2) else (bif am_in x1 8 then (if x2 = 0 then (bif am_in (σ.1 ox0 47 0 ((x1 : Int32).toNatClampNeg)) 6 then some ((σ.1 ox0 56 0 (((σ.1 ox0 47 0 ((x1 : Int32).toNatClampNeg)) : Int32).toNatClampNeg)), σ) else none) else (bif am_in (σ.1 ox0 47 0 ((x1 : Int32).toNatClampNeg)) 6 then (fn_X8_priceOf ox0 (σ.1 ox0 47 0 ((x1 : Int32).toNatClampNeg)) (σ.1 ox0 58 0 (((σ.1 ox0 47 0 ((x1 : Int32).toNatClampNeg)) : Int32).toNatClampNeg)) 0 (σ)).bind fun q14 => some (q14.1, q14.2) else none)) else none)) else none)
set_option maxRecDepth 100000 in
theorem jl_X8_says_76 {p : Program} {l : Launch} {e : Env} {s : State} {m : MethodId} {args : Array Value} {below : List Frame} {meth : Method} {c : Code} {G : am_G} {q : Int32 × am_S} (X : am_X p s m args c cX8_says yX8_says.cls 4 am_p8 G (am_fr G)) (hr : meth.sig.returnType = (some .int) ∧ meth.locks = false)    (ox0 : Nat) (x1 : Int32) (x2 : Int32) (σ : am_S) (h : jn_X8_says_76  ox0 x1 x2 σ = some q) : am_A p l e (am_ro 3) s m args below meth c 4 G (am_fr G) 0 0 (MQ below (am_Qc G (some (am_i q.1)) q.2) args s 0 0 (am_fr G)) (76, [(0, am_r ox0 40 0), (1, am_i x1), (2, am_i x2)], [], σ) := by
  have hc := ct_X8_says
  unfold jn_X8_says_76 at h
  obtain ⟨ob11, h⟩ := am_ci h
  refine am_blk hc X 42 4 (fr' := (82, [(0, am_r ox0 40 0), (1, am_i x1), (2, am_i x2)], [am_i (σ.1 ox0 41 0 ((x1 : Int32).toNatClampNeg))], σ)) rfl ⟨trivial, trivial, trivial, (am_in_vp ob11), trivial⟩ ?_
  refine am_if_ne hc X 46 (tgt := 92) rfl (by decide) (fun c20 => ?_) (fun c20 => ?_)
  · replace h := am_in2 c20 h
    obtain ⟨ob12, h⟩ := am_ci h
    refine am_blk hc X 51 6 (fr' := (100, [(0, am_r ox0 40 0), (1, am_i x1), (2, am_i x2), (3, am_i (σ.1 ox0 47 0 ((x1 : Int32).toNatClampNeg)))], [am_i x2], σ)) rfl ⟨trivial, trivial, trivial, (am_in_vp ob12), trivial, trivial, trivial⟩ ?_
    refine am_if_ne hc X 57 (tgt := 112) rfl (by decide) (fun c17 => ?_) (fun c17 => ?_)
    · replace h := am_in2 c17 h
      obtain ⟨ob13, h⟩ := am_ci h
      refine am_blk hc X 63 7 (fr' := (121, [(0, am_r ox0 40 0), (1, am_i x1), (2, am_i x2), (3, am_i (σ.1 ox0 47 0 ((x1 : Int32).toNatClampNeg)))], [am_i 0, am_i (σ.1 ox0 58 0 (((σ.1 ox0 47 0 ((x1 : Int32).toNatClampNeg)) : Int32).toNatClampNeg)), am_i (σ.1 ox0 47 0 ((x1 : Int32).toNatClampNeg)), am_r ox0 40 0], σ)) rfl ⟨trivial, trivial, trivial, trivial, trivial, (am_in_vp ob13), trivial, trivial⟩ ?_
      obtain ⟨q14, hq15, h⟩ := am_bs h
      refine am_callV hc 70 X (k := 40) (i := 0) (o := ox0) (As := [am_i (σ.1 ox0 47 0 ((x1 : Int32).toNatClampNeg)), am_i (σ.1 ox0 58 0 (((σ.1 ox0 47 0 ((x1 : Int32).toNatClampNeg)) : Int32).toNatClampNeg)), am_i 0]) (rest := []) rfl (ok_X8_priceOf l ox0 (σ.1 ox0 47 0 ((x1 : Int32).toNatClampNeg)) (σ.1 ox0 58 0 (((σ.1 ox0 47 0 ((x1 : Int32).toNatClampNeg)) : Int32).toNatClampNeg)) 0 (σ) hq15) yv_X8_priceOf ml_X8_150 (cl_40) rfl rfl rfl rfl rfl ?_
      obtain rfl := Option.some.inj h
      exact am_iret hc X hr 71 rfl rfl rfl
    · replace h := am_ip c17 h
      obtain ⟨ob16, h⟩ := am_ci h
      refine am_blk hc X 58 5 (fr' := (124, [(0, am_r ox0 40 0), (1, am_i x1), (2, am_i x2), (3, am_i (σ.1 ox0 47 0 ((x1 : Int32).toNatClampNeg)))], [am_i (σ.1 ox0 56 0 (((σ.1 ox0 47 0 ((x1 : Int32).toNatClampNeg)) : Int32).toNatClampNeg))], σ)) rfl ⟨trivial, trivial, trivial, (am_in_vp ob16), trivial, trivial⟩ ?_
      obtain rfl := Option.some.inj h
      exact am_iret hc X hr 71 rfl rfl rfl
  · replace h := am_ip c20 h
    refine am_blk hc X 47 2 (fr' := (88, [(0, am_r ox0 40 0), (1, am_i x1), (2, am_i x2)], [am_i (-4), am_r ox0 40 0], σ)) rfl ⟨trivial, trivial, trivial⟩ ?_
    obtain ⟨q18, hq19, h⟩ := am_bs h
    refine am_callV hc 49 X (k := 40) (i := 0) (o := ox0) (As := [am_i (-4)]) (rest := []) rfl (ok_X8_refuse l ox0 (-4) (σ) hq19) yv_X8_refuse ml_X8_129 (cl_40) rfl rfl rfl rfl rfl ?_
    obtain rfl := Option.some.inj h
    exact am_iret hc X hr 50 rfl rfl rfl
def fn_X8_says (oa0 : Nat) (a1 : Int32) (a2 : Int32) (σ : am_S) : Option (Int32 × am_S) :=
  (fn_X8_in ((a1 : Int32).toInt64) 0 7 (σ)).bind fun q1 => (if q1.1 = 0 then jn_X8_says_24  oa0 q1.2 else (fn_X8_in ((a2 : Int32).toInt64) 0 5 q1.2).bind fun q5 => (if q5.1 = 0 then jn_X8_says_24  oa0 q5.2 else (bif am_in a1 8 then (if (q5.2.1 oa0 41 0 ((a1 : Int32).toNatClampNeg)) = 1 then jn_X8_says_69  oa0 q5.2 else (bif am_in a1 8 then (if (q5.2.1 oa0 41 0 ((a1 : Int32).toNatClampNeg)) = 2 then (bif am_in a1 8 then (bif am_in (q5.2.1 oa0 47 0 ((a1 : Int32).toNatClampNeg)) 6 then (fn_X8_isUnder (q5.2.1 oa0 55 0 (((q5.2.1 oa0 47 0 ((a1 : Int32).toNatClampNeg)) : Int32).toNatClampNeg)) a2 q5.2).bind fun q23 => (if q23.1 = 0 then jn_X8_says_69  oa0 q23.2 else jn_X8_says_76  oa0 a1 a2 q23.2) else none) else none) else jn_X8_says_76  oa0 a1 a2 q5.2) else none)) else none)))
set_option maxRecDepth 100000 in
theorem ok_X8_says (l : Launch) (oa0 : Nat) (a1 : Int32) (a2 : Int32) (σ : am_S) {q : Int32 × am_S} (h : fn_X8_says oa0 a1 a2 σ = some q) : am_M l yX8_says cX8_says 4 (some .int) 3 [am_r oa0 40 0, am_i a1, am_i a2] σ (some (am_i q.1)) q.2 := by
  refine am_M_of (P := am_p8) (by decide +kernel) am_p8_ok rfl ?_
  intro G p e s m args below meth c X hr
  have hc := ct_X8_says
  unfold fn_X8_says at h
  refine am_blk hc X 0 4 (fr' := (6, [(0, am_r oa0 40 0), (1, am_i a1), (2, am_i a2)], [am_l 7, am_l 0, am_l ((a1 : Int32).toInt64)], σ)) rfl ⟨trivial, trivial, trivial, trivial, trivial⟩ ?_
  obtain ⟨q1, hq2, h⟩ := am_bs h
  refine am_callS hc 4 X (As := [am_l ((a1 : Int32).toInt64), am_l 0, am_l 7]) (rest := []) rfl (ok_X8_in l ((a1 : Int32).toInt64) 0 7 (σ) hq2) yv_X8_in ml_X8_117 rfl rfl rfl rfl rfl ?_
  refine am_if_eq hc X 5 (tgt := 24) rfl (by decide) (fun c29 => ?_) (fun c29 => ?_)
  · replace h := am_ip c29 h
    refine am_less [0] rfl ?_
    exact jl_X8_says_24 X hr   oa0 _ h
  · replace h := am_in2 c29 h
    refine am_blk hc X 6 4 (fr' := (18, [(0, am_r oa0 40 0), (1, am_i a1), (2, am_i a2)], [am_l 5, am_l 0, am_l ((a2 : Int32).toInt64)], q1.2)) rfl ⟨trivial, trivial, trivial, trivial, trivial⟩ ?_
    obtain ⟨q5, hq6, h⟩ := am_bs h
    refine am_callS hc 10 X (As := [am_l ((a2 : Int32).toInt64), am_l 0, am_l 5]) (rest := []) rfl (ok_X8_in l ((a2 : Int32).toInt64) 0 5 q1.2 hq6) yv_X8_in ml_X8_117 rfl rfl rfl rfl rfl ?_
    refine am_if_ne hc X 11 (tgt := 31) rfl (by decide) (fun c28 => ?_) (fun c28 => ?_)
    · replace h := am_in2 c28 h
      obtain ⟨ob7, h⟩ := am_ci h
      refine am_blk hc X 16 5 (fr' := (38, [(0, am_r oa0 40 0), (1, am_i a1), (2, am_i a2)], [am_i 1, am_i (q5.2.1 oa0 41 0 ((a1 : Int32).toNatClampNeg))], q5.2)) rfl ⟨trivial, trivial, trivial, (am_in_vp ob7), trivial, trivial⟩ ?_
      refine am_icmp_eq hc X 21 (tgt := 69) rfl (by decide) (fun c27 => ?_) (fun c27 => ?_)
      · replace h := am_ip c27 h
        refine am_less [0] rfl ?_
        exact jl_X8_says_69 X hr   oa0 _ h
      · replace h := am_in2 c27 h
        obtain ⟨ob10, h⟩ := am_ci h
        refine am_blk hc X 22 5 (fr' := (48, [(0, am_r oa0 40 0), (1, am_i a1), (2, am_i a2)], [am_i 2, am_i (q5.2.1 oa0 41 0 ((a1 : Int32).toNatClampNeg))], q5.2)) rfl ⟨trivial, trivial, trivial, (am_in_vp ob10), trivial, trivial⟩ ?_
        refine am_icmp_ne hc X 27 (tgt := 76) rfl (by decide) (fun c26 => ?_) (fun c26 => ?_)
        · replace h := am_in2 c26 h
          exact jl_X8_says_76 X hr   oa0 a1 a2 _ h
        · replace h := am_ip c26 h
          obtain ⟨ob21, h⟩ := am_ci h
          obtain ⟨ob22, h⟩ := am_ci h
          refine am_blk hc X 28 8 (fr' := (63, [(0, am_r oa0 40 0), (1, am_i a1), (2, am_i a2)], [am_i a2, am_i (q5.2.1 oa0 55 0 (((q5.2.1 oa0 47 0 ((a1 : Int32).toNatClampNeg)) : Int32).toNatClampNeg))], q5.2)) rfl ⟨trivial, trivial, trivial, trivial, trivial, (am_in_vp ob21), (am_in_vp ob22), trivial, trivial⟩ ?_
          obtain ⟨q23, hq24, h⟩ := am_bs h
          refine am_callS hc 36 X (As := [am_i (q5.2.1 oa0 55 0 (((q5.2.1 oa0 47 0 ((a1 : Int32).toNatClampNeg)) : Int32).toNatClampNeg)), am_i a2]) (rest := []) rfl (ok_X8_isUnder l (q5.2.1 oa0 55 0 (((q5.2.1 oa0 47 0 ((a1 : Int32).toNatClampNeg)) : Int32).toNatClampNeg)) a2 q5.2 hq24) yv_X8_isUnder ml_X8_146 rfl rfl rfl rfl rfl ?_
          refine am_if_ne hc X 37 (tgt := 76) rfl (by decide) (fun c25 => ?_) (fun c25 => ?_)
          · replace h := am_in2 c25 h
            exact jl_X8_says_76 X hr   oa0 a1 a2 _ h
          · replace h := am_ip c25 h
            refine am_less [0] rfl ?_
            exact jl_X8_says_69 X hr   oa0 _ h
    · replace h := am_ip c28 h
      refine am_less [0] rfl ?_
      exact jl_X8_says_24 X hr   oa0 _ h
def fn_X8_seed (oa0 : Nat) (a1 : Int32) (σ : am_S) : Option (Int32 × am_S) :=
  some ((σ.1 oa0 40 0 25), (am_u σ oa0 40 0 25 a1))
set_option maxRecDepth 100000 in
theorem ok_X8_seed (l : Launch) (oa0 : Nat) (a1 : Int32) (σ : am_S) {q : Int32 × am_S} (h : fn_X8_seed oa0 a1 σ = some q) : am_M l yX8_seed cX8_seed 3 (some .int) 0 [am_r oa0 40 0, am_i a1] σ (some (am_i q.1)) q.2 := by
  refine am_M_of (P := am_p8) (by decide +kernel) am_p8_ok rfl ?_
  intro G p e s m args below meth c X hr
  have hc := ct_X8_seed
  unfold fn_X8_seed at h
  refine am_blk hc X 0 7 (fr' := (11, [(0, am_r oa0 40 0), (1, am_i a1), (2, am_i (σ.1 oa0 40 0 25))], [am_i (σ.1 oa0 40 0 25)], (am_u σ oa0 40 0 25 a1))) rfl ⟨trivial, trivial, trivial, trivial, trivial, trivial, trivial, trivial⟩ ?_
  obtain rfl := Option.some.inj h
  exact am_iret hc X hr 7 rfl rfl rfl
def fn_X8_set (oa0 : Nat) (a1 : Int32) (a2 : Int32) (a3 : Int64) (σ : am_S) : Option (Int32 × am_S) :=
  (fn_X8_noRow oa0 a1 (σ)).bind fun q1 => (if q1.1 = 0 then (bif am_in a1 8 then (fn_X8_in ((a2 : Int32).toInt64) 0 ((((q1.2.1 oa0 43 0 ((a1 : Int32).toNatClampNeg)) - (1 : Int32)) : Int32).toInt64) q1.2).bind fun q4 => (if q4.1 = 0 then (fn_X8_refuse oa0 (-2) q4.2).bind fun q11 => some (q11.1, q11.2) else (bif am_in a1 8 then (bif am_in a1 8 then (fn_X8_fit (q4.2.1 oa0 42 0 ((a1 : Int32).toNatClampNeg)) a3 q4.2).bind fun q8 => (bif am_in a2 40 then some (1, (am_ul q8.2 oa0 45 ((a1 : Int32).toNatClampNeg) ((a2 : Int32).toNatClampNeg) q8.1)) else none) else none) else none)) else none) else some (q1.1, q1.2))
set_option maxRecDepth 100000 in
theorem ok_X8_set (l : Launch) (oa0 : Nat) (a1 : Int32) (a2 : Int32) (a3 : Int64) (σ : am_S) {q : Int32 × am_S} (h : fn_X8_set oa0 a1 a2 a3 σ = some q) : am_M l yX8_set cX8_set 6 (some .int) 2 [am_r oa0 40 0, am_i a1, am_i a2, am_l a3] σ (some (am_i q.1)) q.2 := by
  refine am_M_of (P := am_p8) (by decide +kernel) am_p8_ok rfl ?_
  intro G p e s m args below meth c X hr
  have hc := ct_X8_set
  unfold fn_X8_set at h
  refine am_blk hc X 0 2 (fr' := (2, [(0, am_r oa0 40 0), (1, am_i a1), (2, am_i a2), (3, am_l a3)], [am_i a1, am_r oa0 40 0], σ)) rfl ⟨trivial, trivial, trivial⟩ ?_
  obtain ⟨q1, hq2, h⟩ := am_bs h
  refine am_callV hc 2 X (k := 40) (i := 0) (o := oa0) (As := [am_i a1]) (rest := []) rfl (ok_X8_noRow l oa0 a1 (σ) hq2) yv_X8_noRow ml_X8_133 (cl_40) rfl rfl rfl rfl rfl ?_
  refine am_blk hc X 3 2 (fr' := (9, [(0, am_r oa0 40 0), (1, am_i a1), (2, am_i a2), (3, am_l a3), (5, am_i q1.1)], [am_i q1.1], q1.2)) rfl ⟨trivial, trivial, trivial⟩ ?_
  refine am_if_eq hc X 5 (tgt := 15) rfl (by decide) (fun c14 => ?_) (fun c14 => ?_)
  · replace h := am_ip c14 h
    obtain ⟨ob3, h⟩ := am_ci h
    refine am_blk hc X 8 10 (fr' := (27, [(0, am_r oa0 40 0), (1, am_i a1), (2, am_i a2), (3, am_l a3), (5, am_i q1.1)], [am_l ((((q1.2.1 oa0 43 0 ((a1 : Int32).toNatClampNeg)) - (1 : Int32)) : Int32).toInt64), am_l 0, am_l ((a2 : Int32).toInt64)], q1.2)) rfl ⟨trivial, trivial, trivial, trivial, trivial, trivial, (am_in_vp ob3), trivial, trivial, trivial, trivial⟩ ?_
    obtain ⟨q4, hq5, h⟩ := am_bs h
    refine am_callS hc 18 X (As := [am_l ((a2 : Int32).toInt64), am_l 0, am_l ((((q1.2.1 oa0 43 0 ((a1 : Int32).toNatClampNeg)) - (1 : Int32)) : Int32).toInt64)]) (rest := []) rfl (ok_X8_in l ((a2 : Int32).toInt64) 0 ((((q1.2.1 oa0 43 0 ((a1 : Int32).toNatClampNeg)) - (1 : Int32)) : Int32).toInt64) q1.2 hq5) yv_X8_in ml_X8_117 rfl rfl rfl rfl rfl ?_
    refine am_if_ne hc X 19 (tgt := 40) rfl (by decide) (fun c13 => ?_) (fun c13 => ?_)
    · replace h := am_in2 c13 h
      obtain ⟨ob6, h⟩ := am_ci h
      obtain ⟨ob7, h⟩ := am_ci h
      refine am_blk hc X 24 10 (fr' := (54, [(0, am_r oa0 40 0), (1, am_i a1), (2, am_i a2), (3, am_l a3), (5, am_i q1.1)], [am_l a3, am_i (q4.2.1 oa0 42 0 ((a1 : Int32).toNatClampNeg)), am_i a2, am_r oa0 45 ((a1 : Int32).toNatClampNeg)], q4.2)) rfl ⟨trivial, trivial, trivial, (am_in_vp ob6), trivial, trivial, trivial, trivial, (am_in_vp ob7), trivial, trivial⟩ ?_
      obtain ⟨q8, hq9, h⟩ := am_bs h
      refine am_callS hc 34 X (As := [am_i (q4.2.1 oa0 42 0 ((a1 : Int32).toNatClampNeg)), am_l a3]) (rest := [am_i a2, am_r oa0 45 ((a1 : Int32).toNatClampNeg)]) rfl (ok_X8_fit l (q4.2.1 oa0 42 0 ((a1 : Int32).toNatClampNeg)) a3 q4.2 hq9) yv_X8_fit ml_X8_136 rfl rfl rfl rfl rfl ?_
      obtain ⟨ob10, h⟩ := am_ci h
      refine am_blk hc X 35 2 (fr' := (59, [(0, am_r oa0 40 0), (1, am_i a1), (2, am_i a2), (3, am_l a3), (5, am_i q1.1)], [am_i 1], (am_ul q8.2 oa0 45 ((a1 : Int32).toNatClampNeg) ((a2 : Int32).toNatClampNeg) q8.1))) rfl ⟨(am_in_vp ob10), trivial, trivial⟩ ?_
      obtain rfl := Option.some.inj h
      exact am_iret hc X hr 37 rfl rfl rfl
    · replace h := am_ip c13 h
      refine am_blk hc X 20 2 (fr' := (36, [(0, am_r oa0 40 0), (1, am_i a1), (2, am_i a2), (3, am_l a3), (5, am_i q1.1)], [am_i (-2), am_r oa0 40 0], q4.2)) rfl ⟨trivial, trivial, trivial⟩ ?_
      obtain ⟨q11, hq12, h⟩ := am_bs h
      refine am_callV hc 22 X (k := 40) (i := 0) (o := oa0) (As := [am_i (-2)]) (rest := []) rfl (ok_X8_refuse l oa0 (-2) q4.2 hq12) yv_X8_refuse ml_X8_129 (cl_40) rfl rfl rfl rfl rfl ?_
      obtain rfl := Option.some.inj h
      exact am_iret hc X hr 23 rfl rfl rfl
  · replace h := am_in2 c14 h
    refine am_blk hc X 6 1 (fr' := (14, [(0, am_r oa0 40 0), (1, am_i a1), (2, am_i a2), (3, am_l a3), (5, am_i q1.1)], [am_i q1.1], q1.2)) rfl ⟨trivial, trivial⟩ ?_
    obtain rfl := Option.some.inj h
    exact am_iret hc X hr 7 rfl rfl rfl
def jn_X8_show_25  (ox0 : Nat) (σ : am_S) : Option (Int32 × am_S) :=
  (fn_X8_refuse ox0 (-2) (σ)).bind fun q3 => some (q3.1, q3.2)
set_option maxRecDepth 100000 in
theorem jl_X8_show_25 {p : Program} {l : Launch} {e : Env} {s : State} {m : MethodId} {args : Array Value} {below : List Frame} {meth : Method} {c : Code} {G : am_G} {q : Int32 × am_S} (X : am_X p s m args c cX8_show yX8_show.cls 3 am_p8 G (am_fr G)) (hr : meth.sig.returnType = (some .int) ∧ meth.locks = false)    (ox0 : Nat) (σ : am_S) (h : jn_X8_show_25  ox0 σ = some q) : am_A p l e (am_ro 2) s m args below meth c 3 G (am_fr G) 0 0 (MQ below (am_Qc G (some (am_i q.1)) q.2) args s 0 0 (am_fr G)) (25, [(0, am_r ox0 40 0)], [], σ) := by
  have hc := ct_X8_show
  unfold jn_X8_show_25 at h
  refine am_blk hc X 13 2 (fr' := (28, [(0, am_r ox0 40 0)], [am_i (-2), am_r ox0 40 0], σ)) rfl ⟨trivial, trivial, trivial⟩ ?_
  obtain ⟨q3, hq4, h⟩ := am_bs h
  refine am_callV hc 15 X (k := 40) (i := 0) (o := ox0) (As := [am_i (-2)]) (rest := []) rfl (ok_X8_refuse l ox0 (-2) (σ) hq4) yv_X8_refuse ml_X8_129 (cl_40) rfl rfl rfl rfl rfl ?_
  obtain rfl := Option.some.inj h
  exact am_iret hc X hr 16 rfl rfl rfl
def jn_X8_show_47  (ox0 : Nat) (x1 : Int32) (x2 : Int32) (y0 : Int32) (y1 : Int32) (oy2 : Nat) (σ : am_S) : Option (Int32 × am_S) :=
  (bif am_in y1 8 then (bif am_in x1 8 then some (1, (am_u (am_u σ oy2 41 0 ((y1 : Int32).toNatClampNeg) y0) ox0 47 0 ((x1 : Int32).toNatClampNeg) x2)) else none) else none)
set_option maxRecDepth 100000 in
theorem jl_X8_show_47 {p : Program} {l : Launch} {e : Env} {s : State} {m : MethodId} {args : Array Value} {below : List Frame} {meth : Method} {c : Code} {G : am_G} {q : Int32 × am_S} (X : am_X p s m args c cX8_show yX8_show.cls 3 am_p8 G (am_fr G)) (hr : meth.sig.returnType = (some .int) ∧ meth.locks = false)    (ox0 : Nat) (x1 : Int32) (x2 : Int32) (y0 : Int32) (y1 : Int32) (oy2 : Nat) (σ : am_S) (h : jn_X8_show_47  ox0 x1 x2 y0 y1 oy2 σ = some q) : am_A p l e (am_ro 2) s m args below meth c 3 G (am_fr G) 0 0 (MQ below (am_Qc G (some (am_i q.1)) q.2) args s 0 0 (am_fr G)) (47, [(0, am_r ox0 40 0), (1, am_i x1), (2, am_i x2)], [am_i y0, am_i y1, am_r oy2 41 0], σ) := by
  have hc := ct_X8_show
  unfold jn_X8_show_47 at h
  obtain ⟨ob5, h⟩ := am_ci h
  obtain ⟨ob6, h⟩ := am_ci h
  refine am_blk hc X 26 7 (fr' := (56, [(0, am_r ox0 40 0), (1, am_i x1), (2, am_i x2)], [am_i 1], (am_u (am_u σ oy2 41 0 ((y1 : Int32).toNatClampNeg) y0) ox0 47 0 ((x1 : Int32).toNatClampNeg) x2))) rfl ⟨(am_in_vp ob5), trivial, trivial, trivial, trivial, (am_in_vp ob6), trivial, trivial⟩ ?_
  obtain rfl := Option.some.inj h
  exact am_iret hc X hr 33 rfl rfl rfl
def jn_X8_show_32  (ox0 : Nat) (x1 : Int32) (x2 : Int32) (σ : am_S) : Option (Int32 × am_S) :=
  (if x2 = (-1) then jn_X8_show_47  ox0 x1 x2 0 x1 ox0 (σ) else jn_X8_show_47  ox0 x1 x2 2 x1 ox0 (σ))
set_option maxRecDepth 100000 in
theorem jl_X8_show_32 {p : Program} {l : Launch} {e : Env} {s : State} {m : MethodId} {args : Array Value} {below : List Frame} {meth : Method} {c : Code} {G : am_G} {q : Int32 × am_S} (X : am_X p s m args c cX8_show yX8_show.cls 3 am_p8 G (am_fr G)) (hr : meth.sig.returnType = (some .int) ∧ meth.locks = false)    (ox0 : Nat) (x1 : Int32) (x2 : Int32) (σ : am_S) (h : jn_X8_show_32  ox0 x1 x2 σ = some q) : am_A p l e (am_ro 2) s m args below meth c 3 G (am_fr G) 0 0 (MQ below (am_Qc G (some (am_i q.1)) q.2) args s 0 0 (am_fr G)) (32, [(0, am_r ox0 40 0), (1, am_i x1), (2, am_i x2)], [], σ) := by
  have hc := ct_X8_show
  unfold jn_X8_show_32 at h
  refine am_blk hc X 17 5 (fr' := (39, [(0, am_r ox0 40 0), (1, am_i x1), (2, am_i x2)], [am_i (-1), am_i x2, am_i x1, am_r ox0 41 0], σ)) rfl ⟨trivial, trivial, trivial, trivial, trivial, trivial⟩ ?_
  refine am_icmp_ne hc X 22 (tgt := 46) rfl (by decide) (fun c7 => ?_) (fun c7 => ?_)
  · replace h := am_in2 c7 h
    refine am_blk hc X 25 1 (fr' := (47, [(0, am_r ox0 40 0), (1, am_i x1), (2, am_i x2)], [am_i 2, am_i x1, am_r ox0 41 0], σ)) rfl ⟨trivial, trivial⟩ ?_
    exact jl_X8_show_47 X hr   ox0 x1 x2 2 x1 ox0 _ h
  · replace h := am_ip c7 h
    refine am_blk hc X 23 2 (fr' := (47, [(0, am_r ox0 40 0), (1, am_i x1), (2, am_i x2)], [am_i 0, am_i x1, am_r ox0 41 0], σ)) rfl ⟨trivial, trivial, trivial⟩ ?_
    exact jl_X8_show_47 X hr   ox0 x1 x2 0 x1 ox0 _ h
def fn_X8_show (oa0 : Nat) (a1 : Int32) (a2 : Int32) (σ : am_S) : Option (Int32 × am_S) :=
  (fn_X8_in ((a1 : Int32).toInt64) 0 7 (σ)).bind fun q1 => (if q1.1 = 0 then jn_X8_show_25  oa0 q1.2 else (if a2 = (-1) then jn_X8_show_32  oa0 a1 a2 q1.2 else (fn_X8_isOne oa0 a2 q1.2).bind fun q8 => (if q8.1 = 0 then jn_X8_show_25  oa0 q8.2 else jn_X8_show_32  oa0 a1 a2 q8.2)))
set_option maxRecDepth 100000 in
theorem ok_X8_show (l : Launch) (oa0 : Nat) (a1 : Int32) (a2 : Int32) (σ : am_S) {q : Int32 × am_S} (h : fn_X8_show oa0 a1 a2 σ = some q) : am_M l yX8_show cX8_show 3 (some .int) 2 [am_r oa0 40 0, am_i a1, am_i a2] σ (some (am_i q.1)) q.2 := by
  refine am_M_of (P := am_p8) (by decide +kernel) am_p8_ok rfl ?_
  intro G p e s m args below meth c X hr
  have hc := ct_X8_show
  unfold fn_X8_show at h
  refine am_blk hc X 0 4 (fr' := (6, [(0, am_r oa0 40 0), (1, am_i a1), (2, am_i a2)], [am_l 7, am_l 0, am_l ((a1 : Int32).toInt64)], σ)) rfl ⟨trivial, trivial, trivial, trivial, trivial⟩ ?_
  obtain ⟨q1, hq2, h⟩ := am_bs h
  refine am_callS hc 4 X (As := [am_l ((a1 : Int32).toInt64), am_l 0, am_l 7]) (rest := []) rfl (ok_X8_in l ((a1 : Int32).toInt64) 0 7 (σ) hq2) yv_X8_in ml_X8_117 rfl rfl rfl rfl rfl ?_
  refine am_if_eq hc X 5 (tgt := 25) rfl (by decide) (fun c12 => ?_) (fun c12 => ?_)
  · replace h := am_ip c12 h
    refine am_less [0] rfl ?_
    exact jl_X8_show_25 X hr   oa0 _ h
  · replace h := am_in2 c12 h
    refine am_blk hc X 6 2 (fr' := (14, [(0, am_r oa0 40 0), (1, am_i a1), (2, am_i a2)], [am_i (-1), am_i a2], q1.2)) rfl ⟨trivial, trivial, trivial⟩ ?_
    refine am_icmp_eq hc X 8 (tgt := 32) rfl (by decide) (fun c11 => ?_) (fun c11 => ?_)
    · replace h := am_ip c11 h
      exact jl_X8_show_32 X hr   oa0 a1 a2 _ h
    · replace h := am_in2 c11 h
      refine am_blk hc X 9 2 (fr' := (19, [(0, am_r oa0 40 0), (1, am_i a1), (2, am_i a2)], [am_i a2, am_r oa0 40 0], q1.2)) rfl ⟨trivial, trivial, trivial⟩ ?_
      obtain ⟨q8, hq9, h⟩ := am_bs h
      refine am_callV hc 11 X (k := 40) (i := 0) (o := oa0) (As := [am_i a2]) (rest := []) rfl (ok_X8_isOne l oa0 a2 q1.2 hq9) yv_X8_isOne ml_X8_140 (cl_40) rfl rfl rfl rfl rfl ?_
      refine am_if_ne hc X 12 (tgt := 32) rfl (by decide) (fun c10 => ?_) (fun c10 => ?_)
      · replace h := am_in2 c10 h
        exact jl_X8_show_32 X hr   oa0 a1 a2 _ h
      · replace h := am_ip c10 h
        refine am_less [0] rfl ?_
        exact jl_X8_show_25 X hr   oa0 _ h
def lb_X8_sumOf_62_4 (k4 : Nat → Int32 → Int32 → Int32 → am_S → Option (Int32 × am_S)) (ox0 : Nat) (x1 : Int32) (x2 : Int32) (x3 : Int32) (σ : am_S) : Option (Int32 × am_S) :=
  (if x1 ≤ x3 then some (x2, σ) else (bif am_in x3 6 then k4 ox0 x1 (x2 + (σ.1 ox0 62 0 ((x3 : Int32).toNatClampNeg))) (x3 + 1) (σ) else none))
set_option maxRecDepth 100000 in
theorem lc_X8_sumOf_62_4 {p : Program} {l : Launch} {e : Env} {s : State} {m : MethodId} {args : Array Value} {below : List Frame} {meth : Method} {c : Code} {G : am_G} {q : Int32 × am_S} (X : am_X p s m args c cX8_sumOf yX8_sumOf.cls 4 am_p8 G (am_fr G)) (hr : meth.sig.returnType = (some .int) ∧ meth.locks = false)  (k4 : Nat → Int32 → Int32 → Int32 → am_S → Option (Int32 × am_S)) (hk4 : ∀ (ox0 : Nat) (x1 : Int32) (x2 : Int32) (x3 : Int32) (σ : am_S), k4 ox0 x1 x2 x3 σ = some q → am_A p l e (am_ro 0) s m args below meth c 4 G (am_fr G) 0 0 (MQ below (am_Qc G (some (am_i q.1)) q.2) args s 0 0 (am_fr G)) (4, [(0, am_r ox0 62 0), (1, am_i x1), (2, am_i x2), (3, am_i x3)], [], σ)) (ox0 : Nat) (x1 : Int32) (x2 : Int32) (x3 : Int32) (σ : am_S) (h : lb_X8_sumOf_62_4 k4 ox0 x1 x2 x3 σ = some q) : am_A p l e (am_ro 0) s m args below meth c 4 G (am_fr G) 0 0 (MQ below (am_Qc G (some (am_i q.1)) q.2) args s 0 0 (am_fr G)) (4, [(0, am_r ox0 62 0), (1, am_i x1), (2, am_i x2), (3, am_i x3)], [], σ) := by
  have hc := ct_X8_sumOf
  unfold lb_X8_sumOf_62_4 at h
  refine am_blk hc X 4 2 (fr' := (6, [(0, am_r ox0 62 0), (1, am_i x1), (2, am_i x2), (3, am_i x3)], [am_i x1, am_i x3], σ)) rfl ⟨trivial, trivial, trivial⟩ ?_
  refine am_icmp_ge hc X 6 (tgt := 21) rfl (by decide) (fun c2 => ?_) (fun c2 => ?_)
  · replace h := am_ip c2 h
    refine am_blk hc X 15 1 (fr' := (22, [(0, am_r ox0 62 0), (1, am_i x1), (2, am_i x2), (3, am_i x3)], [am_i x2], σ)) rfl ⟨trivial, trivial⟩ ?_
    obtain rfl := Option.some.inj h
    exact am_iret hc X hr 16 rfl rfl rfl
  · replace h := am_in2 c2 h
    obtain ⟨ob1, h⟩ := am_ci h
    refine am_blk hc X 7 8 (fr' := (4, [(0, am_r ox0 62 0), (1, am_i x1), (2, am_i (x2 + (σ.1 ox0 62 0 ((x3 : Int32).toNatClampNeg)))), (3, am_i (x3 + 1))], [], σ)) rfl ⟨trivial, trivial, trivial, (am_in_vp ob1), trivial, trivial, trivial, trivial, trivial⟩ ?_
    exact hk4 ox0 x1 (x2 + (σ.1 ox0 62 0 ((x3 : Int32).toNatClampNeg))) (x3 + 1) _ h
def lp_X8_sumOf_62_4  : Nat → Nat → Int32 → Int32 → Int32 → am_S → Option (Int32 × am_S)
  | 0 => fun _ _ _ _ _ => none
  | n + 1 => lb_X8_sumOf_62_4  (lp_X8_sumOf_62_4  n)
theorem ll_X8_sumOf_62_4 {p : Program} {l : Launch} {e : Env} {s : State} {m : MethodId} {args : Array Value} {below : List Frame} {meth : Method} {c : Code} {G : am_G} {q : Int32 × am_S} (X : am_X p s m args c cX8_sumOf yX8_sumOf.cls 4 am_p8 G (am_fr G)) (hr : meth.sig.returnType = (some .int) ∧ meth.locks = false)    : ∀ (n : Nat) (ox0 : Nat) (x1 : Int32) (x2 : Int32) (x3 : Int32) (σ : am_S), lp_X8_sumOf_62_4  n ox0 x1 x2 x3 σ = some q → am_A p l e (am_ro 0) s m args below meth c 4 G (am_fr G) 0 0 (MQ below (am_Qc G (some (am_i q.1)) q.2) args s 0 0 (am_fr G)) (4, [(0, am_r ox0 62 0), (1, am_i x1), (2, am_i x2), (3, am_i x3)], [], σ) := by
  intro n
  induction n with
  | zero =>
    intro ox0 x1 x2 x3 σ h
    have h : (none : Option (Int32 × am_S)) = some q := h
    cases h
  | succ n ih =>
    intro ox0 x1 x2 x3 σ h
    exact lc_X8_sumOf_62_4 X hr  (lp_X8_sumOf_62_4  n) ih ox0 x1 x2 x3 σ h
def fn_X8_sumOf_62 (oa0 : Nat) (a1 : Int32) (σ : am_S) : Option (Int32 × am_S) :=
  lp_X8_sumOf_62_4  1000 oa0 a1 0 0 (σ)
set_option maxRecDepth 100000 in
theorem ok_X8_sumOf_62 (l : Launch) (oa0 : Nat) (a1 : Int32) (σ : am_S) {q : Int32 × am_S} (h : fn_X8_sumOf_62 oa0 a1 σ = some q) : am_M l yX8_sumOf cX8_sumOf 4 (some .int) 0 [am_r oa0 62 0, am_i a1] σ (some (am_i q.1)) q.2 := by
  refine am_M_of (P := am_p8) (by decide +kernel) am_p8_ok rfl ?_
  intro G p e s m args below meth c X hr
  have hc := ct_X8_sumOf
  unfold fn_X8_sumOf_62 at h
  refine am_blk hc X 0 4 (fr' := (4, [(0, am_r oa0 62 0), (1, am_i a1), (2, am_i 0), (3, am_i 0)], [], σ)) rfl ⟨trivial, trivial, trivial, trivial, trivial⟩ ?_
  exact ll_X8_sumOf_62_4 X hr   1000 oa0 a1 0 0 _ h
def lb_X8_sumOf_60_4 (k4 : Nat → Int32 → Int32 → Int32 → am_S → Option (Int32 × am_S)) (ox0 : Nat) (x1 : Int32) (x2 : Int32) (x3 : Int32) (σ : am_S) : Option (Int32 × am_S) :=
  (if x1 ≤ x3 then some (x2, σ) else (bif am_in x3 6 then k4 ox0 x1 (x2 + (σ.1 ox0 60 0 ((x3 : Int32).toNatClampNeg))) (x3 + 1) (σ) else none))
set_option maxRecDepth 100000 in
theorem lc_X8_sumOf_60_4 {p : Program} {l : Launch} {e : Env} {s : State} {m : MethodId} {args : Array Value} {below : List Frame} {meth : Method} {c : Code} {G : am_G} {q : Int32 × am_S} (X : am_X p s m args c cX8_sumOf yX8_sumOf.cls 4 am_p8 G (am_fr G)) (hr : meth.sig.returnType = (some .int) ∧ meth.locks = false)  (k4 : Nat → Int32 → Int32 → Int32 → am_S → Option (Int32 × am_S)) (hk4 : ∀ (ox0 : Nat) (x1 : Int32) (x2 : Int32) (x3 : Int32) (σ : am_S), k4 ox0 x1 x2 x3 σ = some q → am_A p l e (am_ro 0) s m args below meth c 4 G (am_fr G) 0 0 (MQ below (am_Qc G (some (am_i q.1)) q.2) args s 0 0 (am_fr G)) (4, [(0, am_r ox0 60 0), (1, am_i x1), (2, am_i x2), (3, am_i x3)], [], σ)) (ox0 : Nat) (x1 : Int32) (x2 : Int32) (x3 : Int32) (σ : am_S) (h : lb_X8_sumOf_60_4 k4 ox0 x1 x2 x3 σ = some q) : am_A p l e (am_ro 0) s m args below meth c 4 G (am_fr G) 0 0 (MQ below (am_Qc G (some (am_i q.1)) q.2) args s 0 0 (am_fr G)) (4, [(0, am_r ox0 60 0), (1, am_i x1), (2, am_i x2), (3, am_i x3)], [], σ) := by
  have hc := ct_X8_sumOf
  unfold lb_X8_sumOf_60_4 at h
  refine am_blk hc X 4 2 (fr' := (6, [(0, am_r ox0 60 0), (1, am_i x1), (2, am_i x2), (3, am_i x3)], [am_i x1, am_i x3], σ)) rfl ⟨trivial, trivial, trivial⟩ ?_
  refine am_icmp_ge hc X 6 (tgt := 21) rfl (by decide) (fun c2 => ?_) (fun c2 => ?_)
  · replace h := am_ip c2 h
    refine am_blk hc X 15 1 (fr' := (22, [(0, am_r ox0 60 0), (1, am_i x1), (2, am_i x2), (3, am_i x3)], [am_i x2], σ)) rfl ⟨trivial, trivial⟩ ?_
    obtain rfl := Option.some.inj h
    exact am_iret hc X hr 16 rfl rfl rfl
  · replace h := am_in2 c2 h
    obtain ⟨ob1, h⟩ := am_ci h
    refine am_blk hc X 7 8 (fr' := (4, [(0, am_r ox0 60 0), (1, am_i x1), (2, am_i (x2 + (σ.1 ox0 60 0 ((x3 : Int32).toNatClampNeg)))), (3, am_i (x3 + 1))], [], σ)) rfl ⟨trivial, trivial, trivial, (am_in_vp ob1), trivial, trivial, trivial, trivial, trivial⟩ ?_
    exact hk4 ox0 x1 (x2 + (σ.1 ox0 60 0 ((x3 : Int32).toNatClampNeg))) (x3 + 1) _ h
def lp_X8_sumOf_60_4  : Nat → Nat → Int32 → Int32 → Int32 → am_S → Option (Int32 × am_S)
  | 0 => fun _ _ _ _ _ => none
  | n + 1 => lb_X8_sumOf_60_4  (lp_X8_sumOf_60_4  n)
theorem ll_X8_sumOf_60_4 {p : Program} {l : Launch} {e : Env} {s : State} {m : MethodId} {args : Array Value} {below : List Frame} {meth : Method} {c : Code} {G : am_G} {q : Int32 × am_S} (X : am_X p s m args c cX8_sumOf yX8_sumOf.cls 4 am_p8 G (am_fr G)) (hr : meth.sig.returnType = (some .int) ∧ meth.locks = false)    : ∀ (n : Nat) (ox0 : Nat) (x1 : Int32) (x2 : Int32) (x3 : Int32) (σ : am_S), lp_X8_sumOf_60_4  n ox0 x1 x2 x3 σ = some q → am_A p l e (am_ro 0) s m args below meth c 4 G (am_fr G) 0 0 (MQ below (am_Qc G (some (am_i q.1)) q.2) args s 0 0 (am_fr G)) (4, [(0, am_r ox0 60 0), (1, am_i x1), (2, am_i x2), (3, am_i x3)], [], σ) := by
  intro n
  induction n with
  | zero =>
    intro ox0 x1 x2 x3 σ h
    have h : (none : Option (Int32 × am_S)) = some q := h
    cases h
  | succ n ih =>
    intro ox0 x1 x2 x3 σ h
    exact lc_X8_sumOf_60_4 X hr  (lp_X8_sumOf_60_4  n) ih ox0 x1 x2 x3 σ h
def fn_X8_sumOf_60 (oa0 : Nat) (a1 : Int32) (σ : am_S) : Option (Int32 × am_S) :=
  lp_X8_sumOf_60_4  1000 oa0 a1 0 0 (σ)
set_option maxRecDepth 100000 in
theorem ok_X8_sumOf_60 (l : Launch) (oa0 : Nat) (a1 : Int32) (σ : am_S) {q : Int32 × am_S} (h : fn_X8_sumOf_60 oa0 a1 σ = some q) : am_M l yX8_sumOf cX8_sumOf 4 (some .int) 0 [am_r oa0 60 0, am_i a1] σ (some (am_i q.1)) q.2 := by
  refine am_M_of (P := am_p8) (by decide +kernel) am_p8_ok rfl ?_
  intro G p e s m args below meth c X hr
  have hc := ct_X8_sumOf
  unfold fn_X8_sumOf_60 at h
  refine am_blk hc X 0 4 (fr' := (4, [(0, am_r oa0 60 0), (1, am_i a1), (2, am_i 0), (3, am_i 0)], [], σ)) rfl ⟨trivial, trivial, trivial, trivial, trivial⟩ ?_
  exact ll_X8_sumOf_60_4 X hr   1000 oa0 a1 0 0 _ h
def jn_X8_status_129 (k108 : Nat → Int32 → Int32 → am_S → Option (Int32 × am_S)) (ox0 : Nat) (x3 : Int32) (y0 : Int32) (y1 : Int32) (σ : am_S) : Option (Int32 × am_S) :=
  k108 ox0 (y1 + y0) (x3 + 1) (σ)
set_option maxRecDepth 100000 in
theorem jl_X8_status_129 {p : Program} {l : Launch} {e : Env} {s : State} {m : MethodId} {args : Array Value} {below : List Frame} {meth : Method} {c : Code} {G : am_G} {q : Int32 × am_S} (X : am_X p s m args c cX8_status yX8_status.cls 4 am_p8 G (am_fr G)) (hr : meth.sig.returnType = (some .int) ∧ meth.locks = false)  (k108 : Nat → Int32 → Int32 → am_S → Option (Int32 × am_S)) (hk108 : ∀ (ox0 : Nat) (x2 : Int32) (x3 : Int32) (σ : am_S), k108 ox0 x2 x3 σ = some q → am_A p l e (am_ro 1) s m args below meth c 4 G (am_fr G) 0 0 (MQ below (am_Qc G (some (am_i q.1)) q.2) args s 0 0 (am_fr G)) (108, [(0, am_r ox0 40 0), (2, am_i x2), (3, am_i x3)], [], σ)) (ox0 : Nat) (x3 : Int32) (y0 : Int32) (y1 : Int32) (σ : am_S) (h : jn_X8_status_129 k108 ox0 x3 y0 y1 σ = some q) : am_A p l e (am_ro 1) s m args below meth c 4 G (am_fr G) 0 0 (MQ below (am_Qc G (some (am_i q.1)) q.2) args s 0 0 (am_fr G)) (129, [(0, am_r ox0 40 0), (3, am_i x3)], [am_i y0, am_i y1], σ) := by
  have hc := ct_X8_status
  unfold jn_X8_status_129 at h
  refine am_blk hc X 48 4 (fr' := (108, [(0, am_r ox0 40 0), (2, am_i (y1 + y0)), (3, am_i (x3 + 1))], [], σ)) rfl ⟨trivial, trivial, trivial, trivial, trivial⟩ ?_
  exact hk108 ox0 (y1 + y0) (x3 + 1) _ h
def lb_X8_status_108 (k108 : Nat → Int32 → Int32 → am_S → Option (Int32 × am_S)) (ox0 : Nat) (x2 : Int32) (x3 : Int32) (σ : am_S) : Option (Int32 × am_S) :=
  (if 8 ≤ x3 then some (x2, σ) else (bif am_in x3 8 then (if (σ.1 ox0 41 0 ((x3 : Int32).toNatClampNeg)) = 0 then jn_X8_status_129 k108 ox0 x3 0 x2 (σ) else jn_X8_status_129 k108 ox0 x3 1 x2 (σ)) else none))
set_option maxRecDepth 100000 in
theorem lc_X8_status_108 {p : Program} {l : Launch} {e : Env} {s : State} {m : MethodId} {args : Array Value} {below : List Frame} {meth : Method} {c : Code} {G : am_G} {q : Int32 × am_S} (X : am_X p s m args c cX8_status yX8_status.cls 4 am_p8 G (am_fr G)) (hr : meth.sig.returnType = (some .int) ∧ meth.locks = false)  (k108 : Nat → Int32 → Int32 → am_S → Option (Int32 × am_S)) (hk108 : ∀ (ox0 : Nat) (x2 : Int32) (x3 : Int32) (σ : am_S), k108 ox0 x2 x3 σ = some q → am_A p l e (am_ro 1) s m args below meth c 4 G (am_fr G) 0 0 (MQ below (am_Qc G (some (am_i q.1)) q.2) args s 0 0 (am_fr G)) (108, [(0, am_r ox0 40 0), (2, am_i x2), (3, am_i x3)], [], σ)) (ox0 : Nat) (x2 : Int32) (x3 : Int32) (σ : am_S) (h : lb_X8_status_108 k108 ox0 x2 x3 σ = some q) : am_A p l e (am_ro 1) s m args below meth c 4 G (am_fr G) 0 0 (MQ below (am_Qc G (some (am_i q.1)) q.2) args s 0 0 (am_fr G)) (108, [(0, am_r ox0 40 0), (2, am_i x2), (3, am_i x3)], [], σ) := by
  have hc := ct_X8_status
  unfold lb_X8_status_108 at h
  refine am_blk hc X 36 2 (fr' := (111, [(0, am_r ox0 40 0), (2, am_i x2), (3, am_i x3)], [am_i 8, am_i x3], σ)) rfl ⟨trivial, trivial, trivial⟩ ?_
  refine am_icmp_ge hc X 38 (tgt := 137) rfl (by decide) (fun c16 => ?_) (fun c16 => ?_)
  · replace h := am_ip c16 h
    refine am_blk hc X 52 1 (fr' := (138, [(0, am_r ox0 40 0), (2, am_i x2), (3, am_i x3)], [am_i x2], σ)) rfl ⟨trivial, trivial⟩ ?_
    obtain rfl := Option.some.inj h
    exact am_iret hc X hr 53 rfl rfl rfl
  · replace h := am_in2 c16 h
    obtain ⟨ob14, h⟩ := am_ci h
    refine am_blk hc X 39 5 (fr' := (121, [(0, am_r ox0 40 0), (2, am_i x2), (3, am_i x3)], [am_i (σ.1 ox0 41 0 ((x3 : Int32).toNatClampNeg)), am_i x2], σ)) rfl ⟨trivial, trivial, trivial, trivial, (am_in_vp ob14), trivial⟩ ?_
    refine am_if_eq hc X 44 (tgt := 128) rfl (by decide) (fun c15 => ?_) (fun c15 => ?_)
    · replace h := am_ip c15 h
      refine am_blk hc X 47 1 (fr' := (129, [(0, am_r ox0 40 0), (2, am_i x2), (3, am_i x3)], [am_i 0, am_i x2], σ)) rfl ⟨trivial, trivial⟩ ?_
      refine am_less [0, 2] rfl ?_
      exact jl_X8_status_129 X hr k108 hk108 ox0 x3 0 x2 _ h
    · replace h := am_in2 c15 h
      refine am_blk hc X 45 2 (fr' := (129, [(0, am_r ox0 40 0), (2, am_i x2), (3, am_i x3)], [am_i 1, am_i x2], σ)) rfl ⟨trivial, trivial, trivial⟩ ?_
      refine am_less [0, 2] rfl ?_
      exact jl_X8_status_129 X hr k108 hk108 ox0 x3 1 x2 _ h
def lp_X8_status_108  : Nat → Nat → Int32 → Int32 → am_S → Option (Int32 × am_S)
  | 0 => fun _ _ _ _ => none
  | n + 1 => lb_X8_status_108  (lp_X8_status_108  n)
theorem ll_X8_status_108 {p : Program} {l : Launch} {e : Env} {s : State} {m : MethodId} {args : Array Value} {below : List Frame} {meth : Method} {c : Code} {G : am_G} {q : Int32 × am_S} (X : am_X p s m args c cX8_status yX8_status.cls 4 am_p8 G (am_fr G)) (hr : meth.sig.returnType = (some .int) ∧ meth.locks = false)    : ∀ (n : Nat) (ox0 : Nat) (x2 : Int32) (x3 : Int32) (σ : am_S), lp_X8_status_108  n ox0 x2 x3 σ = some q → am_A p l e (am_ro 1) s m args below meth c 4 G (am_fr G) 0 0 (MQ below (am_Qc G (some (am_i q.1)) q.2) args s 0 0 (am_fr G)) (108, [(0, am_r ox0 40 0), (2, am_i x2), (3, am_i x3)], [], σ) := by
  intro n
  induction n with
  | zero =>
    intro ox0 x2 x3 σ h
    have h : (none : Option (Int32 × am_S)) = some q := h
    cases h
  | succ n ih =>
    intro ox0 x2 x3 σ h
    exact lc_X8_status_108 X hr  (lp_X8_status_108  n) ih ox0 x2 x3 σ h
def fn_X8_status (oa0 : Nat) (a1 : Int32) (σ : am_S) : Option (Int32 × am_S) :=
  (if a1 = 0 then some ((σ.1 oa0 40 0 15), σ) else (if a1 = 1 then some ((σ.1 oa0 40 0 13), σ) else (if a1 = 2 then some ((σ.1 oa0 40 0 12), σ) else (if a1 = 3 then (fn_X8_sumOf_60 oa0 (σ.1 oa0 40 0 15) (σ)).bind fun q19 => some (q19.1, q19.2) else (if a1 = 4 then (fn_X8_sumOf_62 oa0 (σ.1 oa0 40 0 15) (σ)).bind fun q17 => some (q17.1, q17.2) else (if a1 = 5 then some ((σ.1 oa0 40 0 24), σ) else (if a1 = 6 then some ((σ.1 oa0 40 0 7), σ) else (if a1 = 7 then some ((σ.1 oa0 40 0 25), σ) else (if a1 = 8 then lp_X8_status_108  1000 oa0 0 0 (σ) else (fn_X8_in ((a1 : Int32).toInt64) 12 16 (σ)).bind fun q1 => (if q1.1 = 0 then some ((-1), q1.2) else (bif am_in (a1 - (10 : Int32)) 8 then some ((q1.2.1 oa0 49 0 (((a1 - (10 : Int32)) : Int32).toNatClampNeg)), q1.2) else none)))))))))))
set_option maxRecDepth 100000 in
theorem ok_X8_status (l : Launch) (oa0 : Nat) (a1 : Int32) (σ : am_S) {q : Int32 × am_S} (h : fn_X8_status oa0 a1 σ = some q) : am_M l yX8_status cX8_status 4 (some .int) 1 [am_r oa0 40 0, am_i a1] σ (some (am_i q.1)) q.2 := by
  refine am_M_of (P := am_p8) (by decide +kernel) am_p8_ok rfl ?_
  intro G p e s m args below meth c X hr
  have hc := ct_X8_status
  unfold fn_X8_status at h
  refine am_blk hc X 0 3 (fr' := (3, [(0, am_r oa0 40 0), (1, am_i a1), (2, am_i 0)], [am_i a1], σ)) rfl ⟨trivial, trivial, trivial, trivial⟩ ?_
  by_cases c5 : a1 = 0
  · replace h := am_ip c5 h
    refine am_tin hc X 3 (tgt := 52) (off := 49) rfl (by rw [c5]; decide) (by rw [c5]; decide) (by rw [c5]; rfl) (by decide) ?_
    refine am_blk hc X 4 2 (fr' := (56, [(0, am_r oa0 40 0), (1, am_i a1), (2, am_i 0)], [am_i (σ.1 oa0 40 0 15)], σ)) rfl ⟨trivial, trivial, trivial⟩ ?_
    obtain rfl := Option.some.inj h
    exact am_iret hc X hr 6 rfl rfl rfl
  · replace h := am_in2 c5 h
    by_cases c6 : a1 = 1
    · replace h := am_ip c6 h
      refine am_tin hc X 3 (tgt := 57) (off := 54) rfl (by rw [c6]; decide) (by rw [c6]; decide) (by rw [c6]; rfl) (by decide) ?_
      refine am_blk hc X 7 2 (fr' := (61, [(0, am_r oa0 40 0), (1, am_i a1), (2, am_i 0)], [am_i (σ.1 oa0 40 0 13)], σ)) rfl ⟨trivial, trivial, trivial⟩ ?_
      obtain rfl := Option.some.inj h
      exact am_iret hc X hr 9 rfl rfl rfl
    · replace h := am_in2 c6 h
      by_cases c7 : a1 = 2
      · replace h := am_ip c7 h
        refine am_tin hc X 3 (tgt := 62) (off := 59) rfl (by rw [c7]; decide) (by rw [c7]; decide) (by rw [c7]; rfl) (by decide) ?_
        refine am_blk hc X 10 2 (fr' := (66, [(0, am_r oa0 40 0), (1, am_i a1), (2, am_i 0)], [am_i (σ.1 oa0 40 0 12)], σ)) rfl ⟨trivial, trivial, trivial⟩ ?_
        obtain rfl := Option.some.inj h
        exact am_iret hc X hr 12 rfl rfl rfl
      · replace h := am_in2 c7 h
        by_cases c8 : a1 = 3
        · replace h := am_ip c8 h
          refine am_tin hc X 3 (tgt := 67) (off := 64) rfl (by rw [c8]; decide) (by rw [c8]; decide) (by rw [c8]; rfl) (by decide) ?_
          refine am_blk hc X 13 4 (fr' := (75, [(0, am_r oa0 40 0), (1, am_i a1), (2, am_i 0)], [am_i (σ.1 oa0 40 0 15), am_r oa0 60 0], σ)) rfl ⟨trivial, trivial, trivial, trivial, trivial⟩ ?_
          obtain ⟨q19, hq20, h⟩ := am_bs h
          refine am_callS hc 17 X (As := [am_r oa0 60 0, am_i (σ.1 oa0 40 0 15)]) (rest := []) rfl (ok_X8_sumOf_60 l oa0 (σ.1 oa0 40 0 15) (σ) hq20) yv_X8_sumOf ml_X8_396 rfl rfl rfl rfl rfl ?_
          obtain rfl := Option.some.inj h
          exact am_iret hc X hr 18 rfl rfl rfl
        · replace h := am_in2 c8 h
          by_cases c9 : a1 = 4
          · replace h := am_ip c9 h
            refine am_tin hc X 3 (tgt := 79) (off := 76) rfl (by rw [c9]; decide) (by rw [c9]; decide) (by rw [c9]; rfl) (by decide) ?_
            refine am_blk hc X 19 4 (fr' := (87, [(0, am_r oa0 40 0), (1, am_i a1), (2, am_i 0)], [am_i (σ.1 oa0 40 0 15), am_r oa0 62 0], σ)) rfl ⟨trivial, trivial, trivial, trivial, trivial⟩ ?_
            obtain ⟨q17, hq18, h⟩ := am_bs h
            refine am_callS hc 23 X (As := [am_r oa0 62 0, am_i (σ.1 oa0 40 0 15)]) (rest := []) rfl (ok_X8_sumOf_62 l oa0 (σ.1 oa0 40 0 15) (σ) hq18) yv_X8_sumOf ml_X8_396 rfl rfl rfl rfl rfl ?_
            obtain rfl := Option.some.inj h
            exact am_iret hc X hr 24 rfl rfl rfl
          · replace h := am_in2 c9 h
            by_cases c10 : a1 = 5
            · replace h := am_ip c10 h
              refine am_tin hc X 3 (tgt := 91) (off := 88) rfl (by rw [c10]; decide) (by rw [c10]; decide) (by rw [c10]; rfl) (by decide) ?_
              refine am_blk hc X 25 2 (fr' := (95, [(0, am_r oa0 40 0), (1, am_i a1), (2, am_i 0)], [am_i (σ.1 oa0 40 0 24)], σ)) rfl ⟨trivial, trivial, trivial⟩ ?_
              obtain rfl := Option.some.inj h
              exact am_iret hc X hr 27 rfl rfl rfl
            · replace h := am_in2 c10 h
              by_cases c11 : a1 = 6
              · replace h := am_ip c11 h
                refine am_tin hc X 3 (tgt := 96) (off := 93) rfl (by rw [c11]; decide) (by rw [c11]; decide) (by rw [c11]; rfl) (by decide) ?_
                refine am_blk hc X 28 2 (fr' := (100, [(0, am_r oa0 40 0), (1, am_i a1), (2, am_i 0)], [am_i (σ.1 oa0 40 0 7)], σ)) rfl ⟨trivial, trivial, trivial⟩ ?_
                obtain rfl := Option.some.inj h
                exact am_iret hc X hr 30 rfl rfl rfl
              · replace h := am_in2 c11 h
                by_cases c12 : a1 = 7
                · replace h := am_ip c12 h
                  refine am_tin hc X 3 (tgt := 101) (off := 98) rfl (by rw [c12]; decide) (by rw [c12]; decide) (by rw [c12]; rfl) (by decide) ?_
                  refine am_blk hc X 31 2 (fr' := (105, [(0, am_r oa0 40 0), (1, am_i a1), (2, am_i 0)], [am_i (σ.1 oa0 40 0 25)], σ)) rfl ⟨trivial, trivial, trivial⟩ ?_
                  obtain rfl := Option.some.inj h
                  exact am_iret hc X hr 33 rfl rfl rfl
                · replace h := am_in2 c12 h
                  by_cases c13 : a1 = 8
                  · replace h := am_ip c13 h
                    refine am_tin hc X 3 (tgt := 106) (off := 103) rfl (by rw [c13]; decide) (by rw [c13]; decide) (by rw [c13]; rfl) (by decide) ?_
                    refine am_blk hc X 34 2 (fr' := (108, [(0, am_r oa0 40 0), (1, am_i a1), (2, am_i 0), (3, am_i 0)], [], σ)) rfl ⟨trivial, trivial, trivial⟩ ?_
                    refine am_less [0, 2, 3] rfl ?_
                    exact ll_X8_status_108 X hr   1000 oa0 0 0 _ h
                  · replace h := am_in2 c13 h
                    refine am_tout hc X 3 (tgt := 139) rfl (am_sw 0 8 (fun z h1 h2 => ?_)) (by decide) ?_
                    · rcases (show z = 0 ∨ z = 1 ∨ z = 2 ∨ z = 3 ∨ z = 4 ∨ z = 5 ∨ z = 6 ∨ z = 7 ∨ z = 8 by omega) with rfl | rfl | rfl | rfl | rfl | rfl | rfl | rfl | rfl
                      · exact lv_neT c5 rfl
                      · exact lv_neT c6 rfl
                      · exact lv_neT c7 rfl
                      · exact lv_neT c8 rfl
                      · exact lv_neT c9 rfl
                      · exact lv_neT c10 rfl
                      · exact lv_neT c11 rfl
                      · exact lv_neT c12 rfl
                      · exact lv_neT c13 rfl
                    · refine am_blk hc X 54 4 (fr' := (147, [(0, am_r oa0 40 0), (1, am_i a1), (2, am_i 0)], [am_l 16, am_l 12, am_l ((a1 : Int32).toInt64)], σ)) rfl ⟨trivial, trivial, trivial, trivial, trivial⟩ ?_
                      obtain ⟨q1, hq2, h⟩ := am_bs h
                      refine am_callS hc 58 X (As := [am_l ((a1 : Int32).toInt64), am_l 12, am_l 16]) (rest := []) rfl (ok_X8_in l ((a1 : Int32).toInt64) 12 16 (σ) hq2) yv_X8_in ml_X8_117 rfl rfl rfl rfl rfl ?_
                      refine am_if_eq hc X 59 (tgt := 165) rfl (by decide) (fun c4 => ?_) (fun c4 => ?_)
                      · replace h := am_ip c4 h
                        refine am_blk hc X 67 1 (fr' := (166, [(0, am_r oa0 40 0), (1, am_i a1), (2, am_i 0)], [am_i (-1)], q1.2)) rfl ⟨trivial, trivial⟩ ?_
                        obtain rfl := Option.some.inj h
                        exact am_iret hc X hr 68 rfl rfl rfl
                      · replace h := am_in2 c4 h
                        obtain ⟨ob3, h⟩ := am_ci h
                        refine am_blk hc X 60 7 (fr' := (166, [(0, am_r oa0 40 0), (1, am_i a1), (2, am_i 0)], [am_i (q1.2.1 oa0 49 0 (((a1 - (10 : Int32)) : Int32).toNatClampNeg))], q1.2)) rfl ⟨trivial, trivial, trivial, trivial, trivial, (am_in_vp ob3), trivial, trivial⟩ ?_
                        obtain rfl := Option.some.inj h
                        exact am_iret hc X hr 68 rfl rfl rfl
def jn_X8_steps_16  (ox0 : Nat) (σ : am_S) : Option (Int32 × am_S) :=
  (fn_X8_refuse ox0 (-2) (σ)).bind fun q3 => some (q3.1, q3.2)
set_option maxRecDepth 100000 in
theorem jl_X8_steps_16 {p : Program} {l : Launch} {e : Env} {s : State} {m : MethodId} {args : Array Value} {below : List Frame} {meth : Method} {c : Code} {G : am_G} {q : Int32 × am_S} (X : am_X p s m args c cX8_steps yX8_steps.cls 3 am_p8 G (am_fr G)) (hr : meth.sig.returnType = (some .int) ∧ meth.locks = false)    (ox0 : Nat) (σ : am_S) (h : jn_X8_steps_16  ox0 σ = some q) : am_A p l e (am_ro 5) s m args below meth c 3 G (am_fr G) 0 0 (MQ below (am_Qc G (some (am_i q.1)) q.2) args s 0 0 (am_fr G)) (16, [(0, am_r ox0 40 0)], [], σ) := by
  have hc := ct_X8_steps
  unfold jn_X8_steps_16 at h
  refine am_blk hc X 8 2 (fr' := (19, [(0, am_r ox0 40 0)], [am_i (-2), am_r ox0 40 0], σ)) rfl ⟨trivial, trivial, trivial⟩ ?_
  obtain ⟨q3, hq4, h⟩ := am_bs h
  refine am_callV hc 10 X (k := 40) (i := 0) (o := ox0) (As := [am_i (-2)]) (rest := []) rfl (ok_X8_refuse l ox0 (-2) (σ) hq4) yv_X8_refuse ml_X8_129 (cl_40) rfl rfl rfl rfl rfl ?_
  obtain rfl := Option.some.inj h
  exact am_iret hc X hr 11 rfl rfl rfl
def fn_X8_steps (oa0 : Nat) (a1 : Int32) (a2 : Int32) (σ : am_S) : Option (Int32 × am_S) :=
  (fn_X8_isOne oa0 a1 (σ)).bind fun q1 => (if q1.1 = 0 then jn_X8_steps_16  oa0 q1.2 else (fn_X8_isValley ((a2 : Int32).toInt64) q1.2).bind fun q5 => (if q5.1 = 0 then jn_X8_steps_16  oa0 q5.2 else (fn_X8_findFar oa0 a1 3 (-1) q5.2).bind fun q7 => (bif am_in a1 6 then (bif am_in (q7.1 oa0 58 0 ((a1 : Int32).toNatClampNeg)) 7 then (bif am_in a2 7 then some ((q7.1 oa0 65 (((q7.1 oa0 58 0 ((a1 : Int32).toNatClampNeg)) : Int32).toNatClampNeg) ((a2 : Int32).toNatClampNeg)), q7) else none) else none) else none)))
set_option maxRecDepth 100000 in
theorem ok_X8_steps (l : Launch) (oa0 : Nat) (a1 : Int32) (a2 : Int32) (σ : am_S) {q : Int32 × am_S} (h : fn_X8_steps oa0 a1 a2 σ = some q) : am_M l yX8_steps cX8_steps 3 (some .int) 5 [am_r oa0 40 0, am_i a1, am_i a2] σ (some (am_i q.1)) q.2 := by
  refine am_M_of (P := am_p8) (by decide +kernel) am_p8_ok rfl ?_
  intro G p e s m args below meth c X hr
  have hc := ct_X8_steps
  unfold fn_X8_steps at h
  refine am_blk hc X 0 2 (fr' := (2, [(0, am_r oa0 40 0), (1, am_i a1), (2, am_i a2)], [am_i a1, am_r oa0 40 0], σ)) rfl ⟨trivial, trivial, trivial⟩ ?_
  obtain ⟨q1, hq2, h⟩ := am_bs h
  refine am_callV hc 2 X (k := 40) (i := 0) (o := oa0) (As := [am_i a1]) (rest := []) rfl (ok_X8_isOne l oa0 a1 (σ) hq2) yv_X8_isOne ml_X8_140 (cl_40) rfl rfl rfl rfl rfl ?_
  refine am_if_eq hc X 3 (tgt := 16) rfl (by decide) (fun c13 => ?_) (fun c13 => ?_)
  · replace h := am_ip c13 h
    refine am_less [0] rfl ?_
    exact jl_X8_steps_16 X hr   oa0 _ h
  · replace h := am_in2 c13 h
    refine am_blk hc X 4 2 (fr' := (10, [(0, am_r oa0 40 0), (1, am_i a1), (2, am_i a2)], [am_l ((a2 : Int32).toInt64)], q1.2)) rfl ⟨trivial, trivial, trivial⟩ ?_
    obtain ⟨q5, hq6, h⟩ := am_bs h
    refine am_callS hc 6 X (As := [am_l ((a2 : Int32).toInt64)]) (rest := []) rfl (ok_X8_isValley l ((a2 : Int32).toInt64) q1.2 hq6) yv_X8_isValley ml_X8_154 rfl rfl rfl rfl rfl ?_
    refine am_if_ne hc X 7 (tgt := 23) rfl (by decide) (fun c12 => ?_) (fun c12 => ?_)
    · replace h := am_in2 c12 h
      refine am_blk hc X 12 4 (fr' := (27, [(0, am_r oa0 40 0), (1, am_i a1), (2, am_i a2)], [am_i (-1), am_i 3, am_i a1, am_r oa0 40 0], q5.2)) rfl ⟨trivial, trivial, trivial, trivial, trivial⟩ ?_
      obtain ⟨q7, hq8, h⟩ := am_bs h
      refine am_callV hc 16 X (k := 40) (i := 0) (o := oa0) (As := [am_i a1, am_i 3, am_i (-1)]) (rest := []) rfl (ok_X8_findFar l oa0 a1 3 (-1) q5.2 hq8) yv_X8_findFar ml_X8_304 (cl_40) rfl rfl rfl rfl rfl ?_
      obtain ⟨ob9, h⟩ := am_ci h
      obtain ⟨ob10, h⟩ := am_ci h
      obtain ⟨ob11, h⟩ := am_ci h
      refine am_blk hc X 17 9 (fr' := (43, [(0, am_r oa0 40 0), (1, am_i a1), (2, am_i a2)], [am_i (q7.1 oa0 65 (((q7.1 oa0 58 0 ((a1 : Int32).toNatClampNeg)) : Int32).toNatClampNeg) ((a2 : Int32).toNatClampNeg))], q7)) rfl ⟨trivial, trivial, trivial, trivial, trivial, (am_in_vp ob9), (am_in_vp ob10), trivial, (am_in_vp ob11), trivial⟩ ?_
      obtain rfl := Option.some.inj h
      exact am_iret hc X hr 26 rfl rfl rfl
    · replace h := am_ip c12 h
      refine am_less [0] rfl ?_
      exact jl_X8_steps_16 X hr   oa0 _ h
def jn_X8_tell_64  (ox0 : Nat) (x1 : Int32) (x2 : Int32) (x3 : Int32) (y0 : Int32) (σ : am_S) : Option (Int32 × am_S) :=
  (if y0 = 0 then (fn_X8_refuse ox0 (-2) (σ)).bind fun q14 => some (q14.1, q14.2) else (if x2 = 0 then (bif am_in x1 6 then (bif am_in x1 6 then some ((σ.1 ox0 58 0 ((x1 : Int32).toNatClampNeg)), (am_u σ ox0 58 0 ((x1 : Int32).toNatClampNeg) x3)) else none) else none) else (if x2 = 1 then (bif am_in x1 6 then (bif am_in x1 6 then some ((σ.1 ox0 60 0 ((x1 : Int32).toNatClampNeg)), (am_u σ ox0 60 0 ((x1 : Int32).toNatClampNeg) x3)) else none) else none) else (if x2 = 2 then (bif am_in x1 6 then (bif am_in x1 6 then some ((σ.1 ox0 61 0 ((x1 : Int32).toNatClampNeg)), (am_u σ ox0 61 0 ((x1 : Int32).toNatClampNeg) x3)) else none) else none) else (bif am_in x1 6 then (bif am_in x1 6 then some ((σ.1 ox0 57 0 ((x1 : Int32).toNatClampNeg)), (am_u σ ox0 57 0 ((x1 : Int32).toNatClampNeg) x3)) else none) else none)))))
set_option maxRecDepth 100000 in
theorem jl_X8_tell_64 {p : Program} {l : Launch} {e : Env} {s : State} {m : MethodId} {args : Array Value} {below : List Frame} {meth : Method} {c : Code} {G : am_G} {q : Int32 × am_S} (X : am_X p s m args c cX8_tell yX8_tell.cls 6 am_p8 G (am_fr G)) (hr : meth.sig.returnType = (some .int) ∧ meth.locks = false)    (ox0 : Nat) (x1 : Int32) (x2 : Int32) (x3 : Int32) (y0 : Int32) (σ : am_S) (h : jn_X8_tell_64  ox0 x1 x2 x3 y0 σ = some q) : am_A p l e (am_ro 2) s m args below meth c 6 G (am_fr G) 0 0 (MQ below (am_Qc G (some (am_i q.1)) q.2) args s 0 0 (am_fr G)) (64, [(0, am_r ox0 40 0), (1, am_i x1), (2, am_i x2), (3, am_i x3)], [am_i y0], σ) := by
  have hc := ct_X8_tell
  unfold jn_X8_tell_64 at h
  refine am_blk hc X 34 2 (fr' := (68, [(0, am_r ox0 40 0), (1, am_i x1), (2, am_i x2), (3, am_i x3), (4, am_i y0)], [am_i y0], σ)) rfl ⟨trivial, trivial, trivial⟩ ?_
  refine am_if_ne hc X 36 (tgt := 78) rfl (by decide) (fun c16 => ?_) (fun c16 => ?_)
  · replace h := am_in2 c16 h
    refine am_blk hc X 41 1 (fr' := (79, [(0, am_r ox0 40 0), (1, am_i x1), (2, am_i x2), (3, am_i x3), (4, am_i y0)], [am_i x2], σ)) rfl ⟨trivial, trivial⟩ ?_
    by_cases c5 : x2 = 0
    · replace h := am_ip c5 h
      refine am_tin hc X 42 (tgt := 104) (off := 25) rfl (by rw [c5]; decide) (by rw [c5]; decide) (by rw [c5]; rfl) (by decide) ?_
      obtain ⟨ob12, h⟩ := am_ci h
      obtain ⟨ob13, h⟩ := am_ci h
      refine am_blk hc X 43 11 (fr' := (173, [(0, am_r ox0 40 0), (1, am_i x1), (2, am_i x2), (3, am_i x3), (4, am_i y0), (5, am_i (σ.1 ox0 58 0 ((x1 : Int32).toNatClampNeg)))], [], (am_u σ ox0 58 0 ((x1 : Int32).toNatClampNeg) x3))) rfl ⟨trivial, trivial, trivial, (am_in_vp ob12), trivial, trivial, trivial, trivial, trivial, (am_in_vp ob13), trivial, trivial⟩ ?_
      refine am_blk hc X 86 1 (fr' := (175, [(0, am_r ox0 40 0), (1, am_i x1), (2, am_i x2), (3, am_i x3), (4, am_i y0), (5, am_i (σ.1 ox0 58 0 ((x1 : Int32).toNatClampNeg)))], [am_i (σ.1 ox0 58 0 ((x1 : Int32).toNatClampNeg))], (am_u σ ox0 58 0 ((x1 : Int32).toNatClampNeg) x3))) rfl ⟨trivial, trivial⟩ ?_
      obtain rfl := Option.some.inj h
      exact am_iret hc X hr 87 rfl rfl rfl
    · replace h := am_in2 c5 h
      by_cases c6 : x2 = 1
      · replace h := am_ip c6 h
        refine am_tin hc X 42 (tgt := 122) (off := 43) rfl (by rw [c6]; decide) (by rw [c6]; decide) (by rw [c6]; rfl) (by decide) ?_
        obtain ⟨ob10, h⟩ := am_ci h
        obtain ⟨ob11, h⟩ := am_ci h
        refine am_blk hc X 54 11 (fr' := (173, [(0, am_r ox0 40 0), (1, am_i x1), (2, am_i x2), (3, am_i x3), (4, am_i y0), (5, am_i (σ.1 ox0 60 0 ((x1 : Int32).toNatClampNeg)))], [], (am_u σ ox0 60 0 ((x1 : Int32).toNatClampNeg) x3))) rfl ⟨trivial, trivial, trivial, (am_in_vp ob10), trivial, trivial, trivial, trivial, trivial, (am_in_vp ob11), trivial, trivial⟩ ?_
        refine am_blk hc X 86 1 (fr' := (175, [(0, am_r ox0 40 0), (1, am_i x1), (2, am_i x2), (3, am_i x3), (4, am_i y0), (5, am_i (σ.1 ox0 60 0 ((x1 : Int32).toNatClampNeg)))], [am_i (σ.1 ox0 60 0 ((x1 : Int32).toNatClampNeg))], (am_u σ ox0 60 0 ((x1 : Int32).toNatClampNeg) x3))) rfl ⟨trivial, trivial⟩ ?_
        obtain rfl := Option.some.inj h
        exact am_iret hc X hr 87 rfl rfl rfl
      · replace h := am_in2 c6 h
        by_cases c7 : x2 = 2
        · replace h := am_ip c7 h
          refine am_tin hc X 42 (tgt := 140) (off := 61) rfl (by rw [c7]; decide) (by rw [c7]; decide) (by rw [c7]; rfl) (by decide) ?_
          obtain ⟨ob8, h⟩ := am_ci h
          obtain ⟨ob9, h⟩ := am_ci h
          refine am_blk hc X 65 11 (fr' := (173, [(0, am_r ox0 40 0), (1, am_i x1), (2, am_i x2), (3, am_i x3), (4, am_i y0), (5, am_i (σ.1 ox0 61 0 ((x1 : Int32).toNatClampNeg)))], [], (am_u σ ox0 61 0 ((x1 : Int32).toNatClampNeg) x3))) rfl ⟨trivial, trivial, trivial, (am_in_vp ob8), trivial, trivial, trivial, trivial, trivial, (am_in_vp ob9), trivial, trivial⟩ ?_
          refine am_blk hc X 86 1 (fr' := (175, [(0, am_r ox0 40 0), (1, am_i x1), (2, am_i x2), (3, am_i x3), (4, am_i y0), (5, am_i (σ.1 ox0 61 0 ((x1 : Int32).toNatClampNeg)))], [am_i (σ.1 ox0 61 0 ((x1 : Int32).toNatClampNeg))], (am_u σ ox0 61 0 ((x1 : Int32).toNatClampNeg) x3))) rfl ⟨trivial, trivial⟩ ?_
          obtain rfl := Option.some.inj h
          exact am_iret hc X hr 87 rfl rfl rfl
        · replace h := am_in2 c7 h
          refine am_tout hc X 42 (tgt := 158) rfl (am_sw 0 2 (fun z h1 h2 => ?_)) (by decide) ?_
          · rcases (show z = 0 ∨ z = 1 ∨ z = 2 by omega) with rfl | rfl | rfl
            · exact lv_neT c5 rfl
            · exact lv_neT c6 rfl
            · exact lv_neT c7 rfl
          · obtain ⟨ob3, h⟩ := am_ci h
            obtain ⟨ob4, h⟩ := am_ci h
            refine am_blk hc X 76 11 (fr' := (175, [(0, am_r ox0 40 0), (1, am_i x1), (2, am_i x2), (3, am_i x3), (4, am_i y0), (5, am_i (σ.1 ox0 57 0 ((x1 : Int32).toNatClampNeg)))], [am_i (σ.1 ox0 57 0 ((x1 : Int32).toNatClampNeg))], (am_u σ ox0 57 0 ((x1 : Int32).toNatClampNeg) x3))) rfl ⟨trivial, trivial, trivial, (am_in_vp ob3), trivial, trivial, trivial, trivial, trivial, (am_in_vp ob4), trivial, trivial⟩ ?_
            obtain rfl := Option.some.inj h
            exact am_iret hc X hr 87 rfl rfl rfl
  · replace h := am_ip c16 h
    refine am_blk hc X 37 2 (fr' := (74, [(0, am_r ox0 40 0), (1, am_i x1), (2, am_i x2), (3, am_i x3), (4, am_i y0)], [am_i (-2), am_r ox0 40 0], σ)) rfl ⟨trivial, trivial, trivial⟩ ?_
    obtain ⟨q14, hq15, h⟩ := am_bs h
    refine am_callV hc 39 X (k := 40) (i := 0) (o := ox0) (As := [am_i (-2)]) (rest := []) rfl (ok_X8_refuse l ox0 (-2) (σ) hq15) yv_X8_refuse ml_X8_129 (cl_40) rfl rfl rfl rfl rfl ?_
    obtain rfl := Option.some.inj h
    exact am_iret hc X hr 40 rfl rfl rfl
def jn_X8_tell_63  (ox0 : Nat) (x1 : Int32) (x2 : Int32) (x3 : Int32) (σ : am_S) : Option (Int32 × am_S) :=
  jn_X8_tell_64  ox0 x1 x2 x3 0 (σ)
set_option maxRecDepth 100000 in
theorem jl_X8_tell_63 {p : Program} {l : Launch} {e : Env} {s : State} {m : MethodId} {args : Array Value} {below : List Frame} {meth : Method} {c : Code} {G : am_G} {q : Int32 × am_S} (X : am_X p s m args c cX8_tell yX8_tell.cls 6 am_p8 G (am_fr G)) (hr : meth.sig.returnType = (some .int) ∧ meth.locks = false)    (ox0 : Nat) (x1 : Int32) (x2 : Int32) (x3 : Int32) (σ : am_S) (h : jn_X8_tell_63  ox0 x1 x2 x3 σ = some q) : am_A p l e (am_ro 2) s m args below meth c 6 G (am_fr G) 0 0 (MQ below (am_Qc G (some (am_i q.1)) q.2) args s 0 0 (am_fr G)) (63, [(0, am_r ox0 40 0), (1, am_i x1), (2, am_i x2), (3, am_i x3)], [], σ) := by
  have hc := ct_X8_tell
  unfold jn_X8_tell_63 at h
  refine am_blk hc X 33 1 (fr' := (64, [(0, am_r ox0 40 0), (1, am_i x1), (2, am_i x2), (3, am_i x3)], [am_i 0], σ)) rfl ⟨trivial, trivial⟩ ?_
  exact jl_X8_tell_64 X hr   ox0 x1 x2 x3 0 _ h
def jn_X8_tell_59  (ox0 : Nat) (x1 : Int32) (x2 : Int32) (x3 : Int32) (σ : am_S) : Option (Int32 × am_S) :=
  jn_X8_tell_64  ox0 x1 x2 x3 1 (σ)
set_option maxRecDepth 100000 in
theorem jl_X8_tell_59 {p : Program} {l : Launch} {e : Env} {s : State} {m : MethodId} {args : Array Value} {below : List Frame} {meth : Method} {c : Code} {G : am_G} {q : Int32 × am_S} (X : am_X p s m args c cX8_tell yX8_tell.cls 6 am_p8 G (am_fr G)) (hr : meth.sig.returnType = (some .int) ∧ meth.locks = false)    (ox0 : Nat) (x1 : Int32) (x2 : Int32) (x3 : Int32) (σ : am_S) (h : jn_X8_tell_59  ox0 x1 x2 x3 σ = some q) : am_A p l e (am_ro 2) s m args below meth c 6 G (am_fr G) 0 0 (MQ below (am_Qc G (some (am_i q.1)) q.2) args s 0 0 (am_fr G)) (59, [(0, am_r ox0 40 0), (1, am_i x1), (2, am_i x2), (3, am_i x3)], [], σ) := by
  have hc := ct_X8_tell
  unfold jn_X8_tell_59 at h
  refine am_blk hc X 31 2 (fr' := (64, [(0, am_r ox0 40 0), (1, am_i x1), (2, am_i x2), (3, am_i x3)], [am_i 1], σ)) rfl ⟨trivial, trivial, trivial⟩ ?_
  exact jl_X8_tell_64 X hr   ox0 x1 x2 x3 1 _ h
def jn_X8_tell_42  (ox0 : Nat) (x1 : Int32) (x2 : Int32) (x3 : Int32) (σ : am_S) : Option (Int32 × am_S) :=
  (if x2 = 2 then (fn_X8_in ((x3 : Int32).toInt64) 0 20 (σ)).bind fun q19 => (if q19.1 = 0 then jn_X8_tell_63  ox0 x1 x2 x3 q19.2 else jn_X8_tell_59  ox0 x1 x2 x3 q19.2) else jn_X8_tell_63  ox0 x1 x2 x3 (σ))
set_option maxRecDepth 100000 in
theorem jl_X8_tell_42 {p : Program} {l : Launch} {e : Env} {s : State} {m : MethodId} {args : Array Value} {below : List Frame} {meth : Method} {c : Code} {G : am_G} {q : Int32 × am_S} (X : am_X p s m args c cX8_tell yX8_tell.cls 6 am_p8 G (am_fr G)) (hr : meth.sig.returnType = (some .int) ∧ meth.locks = false)    (ox0 : Nat) (x1 : Int32) (x2 : Int32) (x3 : Int32) (σ : am_S) (h : jn_X8_tell_42  ox0 x1 x2 x3 σ = some q) : am_A p l e (am_ro 2) s m args below meth c 6 G (am_fr G) 0 0 (MQ below (am_Qc G (some (am_i q.1)) q.2) args s 0 0 (am_fr G)) (42, [(0, am_r ox0 40 0), (1, am_i x1), (2, am_i x2), (3, am_i x3)], [], σ) := by
  have hc := ct_X8_tell
  unfold jn_X8_tell_42 at h
  refine am_blk hc X 22 2 (fr' := (44, [(0, am_r ox0 40 0), (1, am_i x1), (2, am_i x2), (3, am_i x3)], [am_i 2, am_i x2], σ)) rfl ⟨trivial, trivial, trivial⟩ ?_
  refine am_icmp_ne hc X 24 (tgt := 63) rfl (by decide) (fun c22 => ?_) (fun c22 => ?_)
  · replace h := am_in2 c22 h
    exact jl_X8_tell_63 X hr   ox0 x1 x2 x3 _ h
  · replace h := am_ip c22 h
    refine am_blk hc X 25 4 (fr' := (53, [(0, am_r ox0 40 0), (1, am_i x1), (2, am_i x2), (3, am_i x3)], [am_l 20, am_l 0, am_l ((x3 : Int32).toInt64)], σ)) rfl ⟨trivial, trivial, trivial, trivial, trivial⟩ ?_
    obtain ⟨q19, hq20, h⟩ := am_bs h
    refine am_callS hc 29 X (As := [am_l ((x3 : Int32).toInt64), am_l 0, am_l 20]) (rest := []) rfl (ok_X8_in l ((x3 : Int32).toInt64) 0 20 (σ) hq20) yv_X8_in ml_X8_117 rfl rfl rfl rfl rfl ?_
    refine am_if_eq hc X 30 (tgt := 63) rfl (by decide) (fun c21 => ?_) (fun c21 => ?_)
    · replace h := am_ip c21 h
      exact jl_X8_tell_63 X hr   ox0 x1 x2 x3 _ h
    · replace h := am_in2 c21 h
      exact jl_X8_tell_59 X hr   ox0 x1 x2 x3 _ h
def jn_X8_tell_25  (ox0 : Nat) (x1 : Int32) (x2 : Int32) (x3 : Int32) (σ : am_S) : Option (Int32 × am_S) :=
  (if x2 = 1 then (fn_X8_in ((x3 : Int32).toInt64) 0 999 (σ)).bind fun q23 => (if q23.1 = 0 then jn_X8_tell_42  ox0 x1 x2 x3 q23.2 else jn_X8_tell_59  ox0 x1 x2 x3 q23.2) else jn_X8_tell_42  ox0 x1 x2 x3 (σ))
set_option maxRecDepth 100000 in
theorem jl_X8_tell_25 {p : Program} {l : Launch} {e : Env} {s : State} {m : MethodId} {args : Array Value} {below : List Frame} {meth : Method} {c : Code} {G : am_G} {q : Int32 × am_S} (X : am_X p s m args c cX8_tell yX8_tell.cls 6 am_p8 G (am_fr G)) (hr : meth.sig.returnType = (some .int) ∧ meth.locks = false)    (ox0 : Nat) (x1 : Int32) (x2 : Int32) (x3 : Int32) (σ : am_S) (h : jn_X8_tell_25  ox0 x1 x2 x3 σ = some q) : am_A p l e (am_ro 2) s m args below meth c 6 G (am_fr G) 0 0 (MQ below (am_Qc G (some (am_i q.1)) q.2) args s 0 0 (am_fr G)) (25, [(0, am_r ox0 40 0), (1, am_i x1), (2, am_i x2), (3, am_i x3)], [], σ) := by
  have hc := ct_X8_tell
  unfold jn_X8_tell_25 at h
  refine am_blk hc X 13 2 (fr' := (27, [(0, am_r ox0 40 0), (1, am_i x1), (2, am_i x2), (3, am_i x3)], [am_i 1, am_i x2], σ)) rfl ⟨trivial, trivial, trivial⟩ ?_
  refine am_icmp_ne hc X 15 (tgt := 42) rfl (by decide) (fun c26 => ?_) (fun c26 => ?_)
  · replace h := am_in2 c26 h
    exact jl_X8_tell_42 X hr   ox0 x1 x2 x3 _ h
  · replace h := am_ip c26 h
    refine am_blk hc X 16 4 (fr' := (36, [(0, am_r ox0 40 0), (1, am_i x1), (2, am_i x2), (3, am_i x3)], [am_l 999, am_l 0, am_l ((x3 : Int32).toInt64)], σ)) rfl ⟨trivial, trivial, trivial, trivial, trivial⟩ ?_
    obtain ⟨q23, hq24, h⟩ := am_bs h
    refine am_callS hc 20 X (As := [am_l ((x3 : Int32).toInt64), am_l 0, am_l 999]) (rest := []) rfl (ok_X8_in l ((x3 : Int32).toInt64) 0 999 (σ) hq24) yv_X8_in ml_X8_117 rfl rfl rfl rfl rfl ?_
    refine am_if_ne hc X 21 (tgt := 59) rfl (by decide) (fun c25 => ?_) (fun c25 => ?_)
    · replace h := am_in2 c25 h
      exact jl_X8_tell_59 X hr   ox0 x1 x2 x3 _ h
    · replace h := am_ip c25 h
      exact jl_X8_tell_42 X hr   ox0 x1 x2 x3 _ h
def jn_X8_tell_17  (ox0 : Nat) (x1 : Int32) (x2 : Int32) (x3 : Int32) (σ : am_S) : Option (Int32 × am_S) :=
  (fn_X8_isValley ((x3 : Int32).toInt64) (σ)).bind fun q17 => (if q17.1 = 0 then jn_X8_tell_25  ox0 x1 x2 x3 q17.2 else jn_X8_tell_59  ox0 x1 x2 x3 q17.2)
set_option maxRecDepth 100000 in
theorem jl_X8_tell_17 {p : Program} {l : Launch} {e : Env} {s : State} {m : MethodId} {args : Array Value} {below : List Frame} {meth : Method} {c : Code} {G : am_G} {q : Int32 × am_S} (X : am_X p s m args c cX8_tell yX8_tell.cls 6 am_p8 G (am_fr G)) (hr : meth.sig.returnType = (some .int) ∧ meth.locks = false)    (ox0 : Nat) (x1 : Int32) (x2 : Int32) (x3 : Int32) (σ : am_S) (h : jn_X8_tell_17  ox0 x1 x2 x3 σ = some q) : am_A p l e (am_ro 2) s m args below meth c 6 G (am_fr G) 0 0 (MQ below (am_Qc G (some (am_i q.1)) q.2) args s 0 0 (am_fr G)) (17, [(0, am_r ox0 40 0), (1, am_i x1), (2, am_i x2), (3, am_i x3)], [], σ) := by
  have hc := ct_X8_tell
  unfold jn_X8_tell_17 at h
  refine am_blk hc X 9 2 (fr' := (19, [(0, am_r ox0 40 0), (1, am_i x1), (2, am_i x2), (3, am_i x3)], [am_l ((x3 : Int32).toInt64)], σ)) rfl ⟨trivial, trivial, trivial⟩ ?_
  obtain ⟨q17, hq18, h⟩ := am_bs h
  refine am_callS hc 11 X (As := [am_l ((x3 : Int32).toInt64)]) (rest := []) rfl (ok_X8_isValley l ((x3 : Int32).toInt64) (σ) hq18) yv_X8_isValley ml_X8_154 rfl rfl rfl rfl rfl ?_
  refine am_if_ne hc X 12 (tgt := 59) rfl (by decide) (fun c27 => ?_) (fun c27 => ?_)
  · replace h := am_in2 c27 h
    exact jl_X8_tell_59 X hr   ox0 x1 x2 x3 _ h
  · replace h := am_ip c27 h
    exact jl_X8_tell_25 X hr   ox0 x1 x2 x3 _ h
def fn_X8_tell (oa0 : Nat) (a1 : Int32) (a2 : Int32) (a3 : Int32) (σ : am_S) : Option (Int32 × am_S) :=
  (fn_X8_isOne oa0 a1 (σ)).bind fun q1 => (if q1.1 = 0 then jn_X8_tell_63  oa0 a1 a2 a3 q1.2 else (if a2 = 0 then jn_X8_tell_17  oa0 a1 a2 a3 q1.2 else (if a2 = 3 then jn_X8_tell_17  oa0 a1 a2 a3 q1.2 else jn_X8_tell_25  oa0 a1 a2 a3 q1.2)))
set_option maxRecDepth 100000 in
theorem ok_X8_tell (l : Launch) (oa0 : Nat) (a1 : Int32) (a2 : Int32) (a3 : Int32) (σ : am_S) {q : Int32 × am_S} (h : fn_X8_tell oa0 a1 a2 a3 σ = some q) : am_M l yX8_tell cX8_tell 6 (some .int) 2 [am_r oa0 40 0, am_i a1, am_i a2, am_i a3] σ (some (am_i q.1)) q.2 := by
  refine am_M_of (P := am_p8) (by decide +kernel) am_p8_ok rfl ?_
  intro G p e s m args below meth c X hr
  have hc := ct_X8_tell
  unfold fn_X8_tell at h
  refine am_blk hc X 0 2 (fr' := (2, [(0, am_r oa0 40 0), (1, am_i a1), (2, am_i a2), (3, am_i a3)], [am_i a1, am_r oa0 40 0], σ)) rfl ⟨trivial, trivial, trivial⟩ ?_
  obtain ⟨q1, hq2, h⟩ := am_bs h
  refine am_callV hc 2 X (k := 40) (i := 0) (o := oa0) (As := [am_i a1]) (rest := []) rfl (ok_X8_isOne l oa0 a1 (σ) hq2) yv_X8_isOne ml_X8_140 (cl_40) rfl rfl rfl rfl rfl ?_
  refine am_if_eq hc X 3 (tgt := 63) rfl (by decide) (fun c30 => ?_) (fun c30 => ?_)
  · replace h := am_ip c30 h
    exact jl_X8_tell_63 X hr   oa0 a1 a2 a3 _ h
  · replace h := am_in2 c30 h
    refine am_blk hc X 4 1 (fr' := (9, [(0, am_r oa0 40 0), (1, am_i a1), (2, am_i a2), (3, am_i a3)], [am_i a2], q1.2)) rfl ⟨trivial, trivial⟩ ?_
    refine am_if_eq hc X 5 (tgt := 17) rfl (by decide) (fun c29 => ?_) (fun c29 => ?_)
    · replace h := am_ip c29 h
      exact jl_X8_tell_17 X hr   oa0 a1 a2 a3 _ h
    · replace h := am_in2 c29 h
      refine am_blk hc X 6 2 (fr' := (14, [(0, am_r oa0 40 0), (1, am_i a1), (2, am_i a2), (3, am_i a3)], [am_i 3, am_i a2], q1.2)) rfl ⟨trivial, trivial, trivial⟩ ?_
      refine am_icmp_ne hc X 8 (tgt := 25) rfl (by decide) (fun c28 => ?_) (fun c28 => ?_)
      · replace h := am_in2 c28 h
        exact jl_X8_tell_25 X hr   oa0 a1 a2 a3 _ h
      · replace h := am_ip c28 h
        exact jl_X8_tell_17 X hr   oa0 a1 a2 a3 _ h
def jn_X8_tour_18  (ox0 : Nat) (σ : am_S) : Option (Int32 × am_S) :=
  (fn_X8_refuse ox0 (-2) (σ)).bind fun q3 => some (q3.1, q3.2)
set_option maxRecDepth 100000 in
theorem jl_X8_tour_18 {p : Program} {l : Launch} {e : Env} {s : State} {m : MethodId} {args : Array Value} {below : List Frame} {meth : Method} {c : Code} {G : am_G} {q : Int32 × am_S} (X : am_X p s m args c cX8_tour yX8_tour.cls 4 am_p8 G (am_fr G)) (hr : meth.sig.returnType = (some .int) ∧ meth.locks = false)    (ox0 : Nat) (σ : am_S) (h : jn_X8_tour_18  ox0 σ = some q) : am_A p l e (am_ro 11) s m args below meth c 4 G (am_fr G) 0 0 (MQ below (am_Qc G (some (am_i q.1)) q.2) args s 0 0 (am_fr G)) (18, [(0, am_r ox0 40 0)], [], σ) := by
  have hc := ct_X8_tour
  unfold jn_X8_tour_18 at h
  refine am_blk hc X 10 2 (fr' := (21, [(0, am_r ox0 40 0)], [am_i (-2), am_r ox0 40 0], σ)) rfl ⟨trivial, trivial, trivial⟩ ?_
  obtain ⟨q3, hq4, h⟩ := am_bs h
  refine am_callV hc 12 X (k := 40) (i := 0) (o := ox0) (As := [am_i (-2)]) (rest := []) rfl (ok_X8_refuse l ox0 (-2) (σ) hq4) yv_X8_refuse ml_X8_129 (cl_40) rfl rfl rfl rfl rfl ?_
  obtain rfl := Option.some.inj h
  exact am_iret hc X hr 13 rfl rfl rfl
def fn_X8_tour (oa0 : Nat) (a1 : Int32) (a2 : Int32) (σ : am_S) : Option (Int32 × am_S) :=
  (fn_X8_isOne oa0 a1 (σ)).bind fun q1 => (if q1.1 = 0 then jn_X8_tour_18  oa0 q1.2 else (fn_X8_in ((a2 : Int32).toInt64) 0 1 q1.2).bind fun q5 => (if q5.1 = 0 then jn_X8_tour_18  oa0 q5.2 else (fn_X8_tourNow oa0 a1 (-1) q5.2).bind fun q7 => (if a2 = 0 then some (q7.1, q7.2) else (bif am_in a1 6 then (if (q7.2.1 oa0 60 0 ((a1 : Int32).toNatClampNeg)) < q7.1 then some (0, q7.2) else some (1, q7.2)) else none))))
set_option maxRecDepth 100000 in
theorem ok_X8_tour (l : Launch) (oa0 : Nat) (a1 : Int32) (a2 : Int32) (σ : am_S) {q : Int32 × am_S} (h : fn_X8_tour oa0 a1 a2 σ = some q) : am_M l yX8_tour cX8_tour 4 (some .int) 11 [am_r oa0 40 0, am_i a1, am_i a2] σ (some (am_i q.1)) q.2 := by
  refine am_M_of (P := am_p8) (by decide +kernel) am_p8_ok rfl ?_
  intro G p e s m args below meth c X hr
  have hc := ct_X8_tour
  unfold fn_X8_tour at h
  refine am_blk hc X 0 2 (fr' := (2, [(0, am_r oa0 40 0), (1, am_i a1), (2, am_i a2)], [am_i a1, am_r oa0 40 0], σ)) rfl ⟨trivial, trivial, trivial⟩ ?_
  obtain ⟨q1, hq2, h⟩ := am_bs h
  refine am_callV hc 2 X (k := 40) (i := 0) (o := oa0) (As := [am_i a1]) (rest := []) rfl (ok_X8_isOne l oa0 a1 (σ) hq2) yv_X8_isOne ml_X8_140 (cl_40) rfl rfl rfl rfl rfl ?_
  refine am_if_eq hc X 3 (tgt := 18) rfl (by decide) (fun c13 => ?_) (fun c13 => ?_)
  · replace h := am_ip c13 h
    refine am_less [0] rfl ?_
    exact jl_X8_tour_18 X hr   oa0 _ h
  · replace h := am_in2 c13 h
    refine am_blk hc X 4 4 (fr' := (12, [(0, am_r oa0 40 0), (1, am_i a1), (2, am_i a2)], [am_l 1, am_l 0, am_l ((a2 : Int32).toInt64)], q1.2)) rfl ⟨trivial, trivial, trivial, trivial, trivial⟩ ?_
    obtain ⟨q5, hq6, h⟩ := am_bs h
    refine am_callS hc 8 X (As := [am_l ((a2 : Int32).toInt64), am_l 0, am_l 1]) (rest := []) rfl (ok_X8_in l ((a2 : Int32).toInt64) 0 1 q1.2 hq6) yv_X8_in ml_X8_117 rfl rfl rfl rfl rfl ?_
    refine am_if_ne hc X 9 (tgt := 25) rfl (by decide) (fun c12 => ?_) (fun c12 => ?_)
    · replace h := am_in2 c12 h
      refine am_blk hc X 14 3 (fr' := (28, [(0, am_r oa0 40 0), (1, am_i a1), (2, am_i a2)], [am_i (-1), am_i a1, am_r oa0 40 0], q5.2)) rfl ⟨trivial, trivial, trivial, trivial⟩ ?_
      obtain ⟨q7, hq8, h⟩ := am_bs h
      refine am_callV hc 17 X (k := 40) (i := 0) (o := oa0) (As := [am_i a1, am_i (-1)]) (rest := []) rfl (ok_X8_tourNow l oa0 a1 (-1) q5.2 hq8) yv_X8_tourNow ml_X8_324 (cl_40) rfl rfl rfl rfl rfl ?_
      refine am_blk hc X 18 2 (fr' := (33, [(0, am_r oa0 40 0), (1, am_i a1), (2, am_i a2), (3, am_i q7.1)], [am_i a2], q7.2)) rfl ⟨trivial, trivial, trivial⟩ ?_
      refine am_if_ne hc X 20 (tgt := 40) rfl (by decide) (fun c11 => ?_) (fun c11 => ?_)
      · replace h := am_in2 c11 h
        obtain ⟨ob9, h⟩ := am_ci h
        refine am_blk hc X 23 5 (fr' := (47, [(0, am_r oa0 40 0), (1, am_i a1), (2, am_i a2), (3, am_i q7.1)], [am_i q7.1, am_i (q7.2.1 oa0 60 0 ((a1 : Int32).toNatClampNeg))], q7.2)) rfl ⟨trivial, trivial, trivial, (am_in_vp ob9), trivial, trivial⟩ ?_
        refine am_icmp_lt hc X 28 (tgt := 54) rfl (by decide) (fun c10 => ?_) (fun c10 => ?_)
        · replace h := am_ip c10 h
          refine am_blk hc X 31 1 (fr' := (55, [(0, am_r oa0 40 0), (1, am_i a1), (2, am_i a2), (3, am_i q7.1)], [am_i 0], q7.2)) rfl ⟨trivial, trivial⟩ ?_
          obtain rfl := Option.some.inj h
          exact am_iret hc X hr 32 rfl rfl rfl
        · replace h := am_in2 c10 h
          refine am_blk hc X 29 2 (fr' := (55, [(0, am_r oa0 40 0), (1, am_i a1), (2, am_i a2), (3, am_i q7.1)], [am_i 1], q7.2)) rfl ⟨trivial, trivial, trivial⟩ ?_
          obtain rfl := Option.some.inj h
          exact am_iret hc X hr 32 rfl rfl rfl
      · replace h := am_ip c11 h
        refine am_blk hc X 21 2 (fr' := (55, [(0, am_r oa0 40 0), (1, am_i a1), (2, am_i a2), (3, am_i q7.1)], [am_i q7.1], q7.2)) rfl ⟨trivial, trivial, trivial⟩ ?_
        obtain rfl := Option.some.inj h
        exact am_iret hc X hr 32 rfl rfl rfl
    · replace h := am_ip c12 h
      refine am_less [0] rfl ?_
      exact jl_X8_tour_18 X hr   oa0 _ h
def jn_X8_tourOf_13  (ox0 : Nat) (σ : am_S) : Option (Int32 × am_S) :=
  (fn_X8_refuse ox0 (-2) (σ)).bind fun q3 => some (q3.1, q3.2)
set_option maxRecDepth 100000 in
theorem jl_X8_tourOf_13 {p : Program} {l : Launch} {e : Env} {s : State} {m : MethodId} {args : Array Value} {below : List Frame} {meth : Method} {c : Code} {G : am_G} {q : Int32 × am_S} (X : am_X p s m args c cX8_tourOf yX8_tourOf.cls 3 am_p8 G (am_fr G)) (hr : meth.sig.returnType = (some .int) ∧ meth.locks = false)    (ox0 : Nat) (σ : am_S) (h : jn_X8_tourOf_13  ox0 σ = some q) : am_A p l e (am_ro 11) s m args below meth c 3 G (am_fr G) 0 0 (MQ below (am_Qc G (some (am_i q.1)) q.2) args s 0 0 (am_fr G)) (13, [(0, am_r ox0 40 0)], [], σ) := by
  have hc := ct_X8_tourOf
  unfold jn_X8_tourOf_13 at h
  refine am_blk hc X 7 2 (fr' := (16, [(0, am_r ox0 40 0)], [am_i (-2), am_r ox0 40 0], σ)) rfl ⟨trivial, trivial, trivial⟩ ?_
  obtain ⟨q3, hq4, h⟩ := am_bs h
  refine am_callV hc 9 X (k := 40) (i := 0) (o := ox0) (As := [am_i (-2)]) (rest := []) rfl (ok_X8_refuse l ox0 (-2) (σ) hq4) yv_X8_refuse ml_X8_129 (cl_40) rfl rfl rfl rfl rfl ?_
  obtain rfl := Option.some.inj h
  exact am_iret hc X hr 10 rfl rfl rfl
def fn_X8_tourOf (oa0 : Nat) (a1 : Int32) (a2 : Int32) (σ : am_S) : Option (Int32 × am_S) :=
  (fn_X8_isOne oa0 a1 (σ)).bind fun q1 => (if q1.1 = 0 then jn_X8_tourOf_13  oa0 q1.2 else (if (-1) ≤ a2 then (fn_X8_tourNow oa0 a1 (-1) q1.2).bind fun q5 => (if a2 < (q5.2.1 oa0 40 0 39) then (if a2 = (-1) then some ((q5.2.1 oa0 40 0 39), q5.2) else (bif am_in a2 7 then some ((q5.2.1 oa0 68 0 ((a2 : Int32).toNatClampNeg)), q5.2) else none)) else (fn_X8_refuse oa0 (-5) q5.2).bind fun q9 => some (q9.1, q9.2)) else jn_X8_tourOf_13  oa0 q1.2))
set_option maxRecDepth 100000 in
theorem ok_X8_tourOf (l : Launch) (oa0 : Nat) (a1 : Int32) (a2 : Int32) (σ : am_S) {q : Int32 × am_S} (h : fn_X8_tourOf oa0 a1 a2 σ = some q) : am_M l yX8_tourOf cX8_tourOf 3 (some .int) 11 [am_r oa0 40 0, am_i a1, am_i a2] σ (some (am_i q.1)) q.2 := by
  refine am_M_of (P := am_p8) (by decide +kernel) am_p8_ok rfl ?_
  intro G p e s m args below meth c X hr
  have hc := ct_X8_tourOf
  unfold fn_X8_tourOf at h
  refine am_blk hc X 0 2 (fr' := (2, [(0, am_r oa0 40 0), (1, am_i a1), (2, am_i a2)], [am_i a1, am_r oa0 40 0], σ)) rfl ⟨trivial, trivial, trivial⟩ ?_
  obtain ⟨q1, hq2, h⟩ := am_bs h
  refine am_callV hc 2 X (k := 40) (i := 0) (o := oa0) (As := [am_i a1]) (rest := []) rfl (ok_X8_isOne l oa0 a1 (σ) hq2) yv_X8_isOne ml_X8_140 (cl_40) rfl rfl rfl rfl rfl ?_
  refine am_if_eq hc X 3 (tgt := 13) rfl (by decide) (fun c13 => ?_) (fun c13 => ?_)
  · replace h := am_ip c13 h
    refine am_less [0] rfl ?_
    exact jl_X8_tourOf_13 X hr   oa0 _ h
  · replace h := am_in2 c13 h
    refine am_blk hc X 4 2 (fr' := (10, [(0, am_r oa0 40 0), (1, am_i a1), (2, am_i a2)], [am_i (-1), am_i a2], q1.2)) rfl ⟨trivial, trivial, trivial⟩ ?_
    refine am_icmp_ge hc X 6 (tgt := 20) rfl (by decide) (fun c12 => ?_) (fun c12 => ?_)
    · replace h := am_ip c12 h
      refine am_blk hc X 11 3 (fr' := (23, [(0, am_r oa0 40 0), (1, am_i a1), (2, am_i a2)], [am_i (-1), am_i a1, am_r oa0 40 0], q1.2)) rfl ⟨trivial, trivial, trivial, trivial⟩ ?_
      obtain ⟨q5, hq6, h⟩ := am_bs h
      refine am_callV hc 14 X (k := 40) (i := 0) (o := oa0) (As := [am_i a1, am_i (-1)]) (rest := []) rfl (ok_X8_tourNow l oa0 a1 (-1) q1.2 hq6) yv_X8_tourNow ml_X8_324 (cl_40) rfl rfl rfl rfl rfl ?_
      refine am_blk hc X 15 4 (fr' := (32, [(0, am_r oa0 40 0), (1, am_i a1), (2, am_i a2)], [am_i (q5.2.1 oa0 40 0 39), am_i a2], q5.2)) rfl ⟨trivial, trivial, trivial, trivial, trivial⟩ ?_
      refine am_icmp_lt hc X 19 (tgt := 42) rfl (by decide) (fun c11 => ?_) (fun c11 => ?_)
      · replace h := am_ip c11 h
        refine am_blk hc X 24 2 (fr' := (44, [(0, am_r oa0 40 0), (1, am_i a1), (2, am_i a2)], [am_i (-1), am_i a2], q5.2)) rfl ⟨trivial, trivial, trivial⟩ ?_
        refine am_icmp_ne hc X 26 (tgt := 54) rfl (by decide) (fun c8 => ?_) (fun c8 => ?_)
        · replace h := am_in2 c8 h
          obtain ⟨ob7, h⟩ := am_ci h
          refine am_blk hc X 30 4 (fr' := (60, [(0, am_r oa0 40 0), (1, am_i a1), (2, am_i a2)], [am_i (q5.2.1 oa0 68 0 ((a2 : Int32).toNatClampNeg))], q5.2)) rfl ⟨trivial, trivial, trivial, (am_in_vp ob7), trivial⟩ ?_
          obtain rfl := Option.some.inj h
          exact am_iret hc X hr 34 rfl rfl rfl
        · replace h := am_ip c8 h
          refine am_blk hc X 27 3 (fr' := (60, [(0, am_r oa0 40 0), (1, am_i a1), (2, am_i a2)], [am_i (q5.2.1 oa0 40 0 39)], q5.2)) rfl ⟨trivial, trivial, trivial, trivial⟩ ?_
          obtain rfl := Option.some.inj h
          exact am_iret hc X hr 34 rfl rfl rfl
      · replace h := am_in2 c11 h
        refine am_blk hc X 20 2 (fr' := (38, [(0, am_r oa0 40 0), (1, am_i a1), (2, am_i a2)], [am_i (-5), am_r oa0 40 0], q5.2)) rfl ⟨trivial, trivial, trivial⟩ ?_
        obtain ⟨q9, hq10, h⟩ := am_bs h
        refine am_callV hc 22 X (k := 40) (i := 0) (o := oa0) (As := [am_i (-5)]) (rest := []) rfl (ok_X8_refuse l oa0 (-5) q5.2 hq10) yv_X8_refuse ml_X8_129 (cl_40) rfl rfl rfl rfl rfl ?_
        obtain rfl := Option.some.inj h
        exact am_iret hc X hr 23 rfl rfl rfl
    · replace h := am_in2 c12 h
      refine am_less [0] rfl ?_
      exact jl_X8_tourOf_13 X hr   oa0 _ h
def jn_X8_valleyOf_20  (ox0 : Nat) (σ : am_S) : Option (Int32 × am_S) :=
  (fn_X8_refuse ox0 (-2) (σ)).bind fun q3 => some (q3.1, q3.2)
set_option maxRecDepth 100000 in
theorem jl_X8_valleyOf_20 {p : Program} {l : Launch} {e : Env} {s : State} {m : MethodId} {args : Array Value} {below : List Frame} {meth : Method} {c : Code} {G : am_G} {q : Int32 × am_S} (X : am_X p s m args c cX8_valleyOf yX8_valleyOf.cls 3 am_p8 G (am_fr G)) (hr : meth.sig.returnType = (some .int) ∧ meth.locks = false)    (ox0 : Nat) (σ : am_S) (h : jn_X8_valleyOf_20  ox0 σ = some q) : am_A p l e (am_ro 2) s m args below meth c 3 G (am_fr G) 0 0 (MQ below (am_Qc G (some (am_i q.1)) q.2) args s 0 0 (am_fr G)) (20, [(0, am_r ox0 40 0)], [], σ) := by
  have hc := ct_X8_valleyOf
  unfold jn_X8_valleyOf_20 at h
  refine am_blk hc X 10 2 (fr' := (23, [(0, am_r ox0 40 0)], [am_i (-2), am_r ox0 40 0], σ)) rfl ⟨trivial, trivial, trivial⟩ ?_
  obtain ⟨q3, hq4, h⟩ := am_bs h
  refine am_callV hc 12 X (k := 40) (i := 0) (o := ox0) (As := [am_i (-2)]) (rest := []) rfl (ok_X8_refuse l ox0 (-2) (σ) hq4) yv_X8_refuse ml_X8_129 (cl_40) rfl rfl rfl rfl rfl ?_
  obtain rfl := Option.some.inj h
  exact am_iret hc X hr 13 rfl rfl rfl
def fn_X8_valleyOf (oa0 : Nat) (a1 : Int32) (a2 : Int32) (σ : am_S) : Option (Int32 × am_S) :=
  (fn_X8_isValley ((a1 : Int32).toInt64) (σ)).bind fun q1 => (if q1.1 = 0 then jn_X8_valleyOf_20  oa0 q1.2 else (fn_X8_in ((a2 : Int32).toInt64) 0 3 q1.2).bind fun q5 => (if q5.1 = 0 then jn_X8_valleyOf_20  oa0 q5.2 else (if a2 = 0 then (bif am_in a1 7 then some ((q5.2.1 oa0 50 0 ((a1 : Int32).toNatClampNeg)), q5.2) else none) else (if a2 = 1 then (bif am_in a1 7 then some ((q5.2.1 oa0 51 0 ((a1 : Int32).toNatClampNeg)), q5.2) else none) else (if a2 = 2 then (bif am_in a1 7 then some ((q5.2.1 oa0 52 0 ((a1 : Int32).toNatClampNeg)), q5.2) else none) else (fn_X8_manyAt oa0 a1 q5.2).bind fun q7 => some (q7.1, q7.2))))))
set_option maxRecDepth 100000 in
theorem ok_X8_valleyOf (l : Launch) (oa0 : Nat) (a1 : Int32) (a2 : Int32) (σ : am_S) {q : Int32 × am_S} (h : fn_X8_valleyOf oa0 a1 a2 σ = some q) : am_M l yX8_valleyOf cX8_valleyOf 3 (some .int) 2 [am_r oa0 40 0, am_i a1, am_i a2] σ (some (am_i q.1)) q.2 := by
  refine am_M_of (P := am_p8) (by decide +kernel) am_p8_ok rfl ?_
  intro G p e s m args below meth c X hr
  have hc := ct_X8_valleyOf
  unfold fn_X8_valleyOf at h
  refine am_blk hc X 0 2 (fr' := (2, [(0, am_r oa0 40 0), (1, am_i a1), (2, am_i a2)], [am_l ((a1 : Int32).toInt64)], σ)) rfl ⟨trivial, trivial, trivial⟩ ?_
  obtain ⟨q1, hq2, h⟩ := am_bs h
  refine am_callS hc 2 X (As := [am_l ((a1 : Int32).toInt64)]) (rest := []) rfl (ok_X8_isValley l ((a1 : Int32).toInt64) (σ) hq2) yv_X8_isValley ml_X8_154 rfl rfl rfl rfl rfl ?_
  refine am_if_eq hc X 3 (tgt := 20) rfl (by decide) (fun c16 => ?_) (fun c16 => ?_)
  · replace h := am_ip c16 h
    refine am_less [0] rfl ?_
    exact jl_X8_valleyOf_20 X hr   oa0 _ h
  · replace h := am_in2 c16 h
    refine am_blk hc X 4 4 (fr' := (14, [(0, am_r oa0 40 0), (1, am_i a1), (2, am_i a2)], [am_l 3, am_l 0, am_l ((a2 : Int32).toInt64)], q1.2)) rfl ⟨trivial, trivial, trivial, trivial, trivial⟩ ?_
    obtain ⟨q5, hq6, h⟩ := am_bs h
    refine am_callS hc 8 X (As := [am_l ((a2 : Int32).toInt64), am_l 0, am_l 3]) (rest := []) rfl (ok_X8_in l ((a2 : Int32).toInt64) 0 3 q1.2 hq6) yv_X8_in ml_X8_117 rfl rfl rfl rfl rfl ?_
    refine am_if_ne hc X 9 (tgt := 27) rfl (by decide) (fun c15 => ?_) (fun c15 => ?_)
    · replace h := am_in2 c15 h
      refine am_blk hc X 14 1 (fr' := (28, [(0, am_r oa0 40 0), (1, am_i a1), (2, am_i a2)], [am_i a2], q5.2)) rfl ⟨trivial, trivial⟩ ?_
      refine am_if_ne hc X 15 (tgt := 40) rfl (by decide) (fun c14 => ?_) (fun c14 => ?_)
      · replace h := am_in2 c14 h
        refine am_blk hc X 21 2 (fr' := (42, [(0, am_r oa0 40 0), (1, am_i a1), (2, am_i a2)], [am_i 1, am_i a2], q5.2)) rfl ⟨trivial, trivial, trivial⟩ ?_
        refine am_icmp_ne hc X 23 (tgt := 54) rfl (by decide) (fun c12 => ?_) (fun c12 => ?_)
        · replace h := am_in2 c12 h
          refine am_blk hc X 29 2 (fr' := (56, [(0, am_r oa0 40 0), (1, am_i a1), (2, am_i a2)], [am_i 2, am_i a2], q5.2)) rfl ⟨trivial, trivial, trivial⟩ ?_
          refine am_icmp_ne hc X 31 (tgt := 68) rfl (by decide) (fun c10 => ?_) (fun c10 => ?_)
          · replace h := am_in2 c10 h
            refine am_blk hc X 37 2 (fr' := (70, [(0, am_r oa0 40 0), (1, am_i a1), (2, am_i a2)], [am_i a1, am_r oa0 40 0], q5.2)) rfl ⟨trivial, trivial, trivial⟩ ?_
            obtain ⟨q7, hq8, h⟩ := am_bs h
            refine am_callV hc 39 X (k := 40) (i := 0) (o := oa0) (As := [am_i a1]) (rest := []) rfl (ok_X8_manyAt l oa0 a1 q5.2 hq8) yv_X8_manyAt ml_X8_284 (cl_40) rfl rfl rfl rfl rfl ?_
            obtain rfl := Option.some.inj h
            exact am_iret hc X hr 40 rfl rfl rfl
          · replace h := am_ip c10 h
            obtain ⟨ob9, h⟩ := am_ci h
            refine am_blk hc X 32 5 (fr' := (73, [(0, am_r oa0 40 0), (1, am_i a1), (2, am_i a2)], [am_i (q5.2.1 oa0 52 0 ((a1 : Int32).toNatClampNeg))], q5.2)) rfl ⟨trivial, trivial, trivial, (am_in_vp ob9), trivial, trivial⟩ ?_
            obtain rfl := Option.some.inj h
            exact am_iret hc X hr 40 rfl rfl rfl
        · replace h := am_ip c12 h
          obtain ⟨ob11, h⟩ := am_ci h
          refine am_blk hc X 24 5 (fr' := (73, [(0, am_r oa0 40 0), (1, am_i a1), (2, am_i a2)], [am_i (q5.2.1 oa0 51 0 ((a1 : Int32).toNatClampNeg))], q5.2)) rfl ⟨trivial, trivial, trivial, (am_in_vp ob11), trivial, trivial⟩ ?_
          obtain rfl := Option.some.inj h
          exact am_iret hc X hr 40 rfl rfl rfl
      · replace h := am_ip c14 h
        obtain ⟨ob13, h⟩ := am_ci h
        refine am_blk hc X 16 5 (fr' := (73, [(0, am_r oa0 40 0), (1, am_i a1), (2, am_i a2)], [am_i (q5.2.1 oa0 50 0 ((a1 : Int32).toNatClampNeg))], q5.2)) rfl ⟨trivial, trivial, trivial, (am_in_vp ob13), trivial, trivial⟩ ?_
        obtain rfl := Option.some.inj h
        exact am_iret hc X hr 40 rfl rfl rfl
    · replace h := am_ip c15 h
      refine am_less [0] rfl ?_
      exact jl_X8_valleyOf_20 X hr   oa0 _ h
def jn_X8_way_28  (ox0 : Nat) (σ : am_S) : Option (Int32 × am_S) :=
  (fn_X8_refuse ox0 (-2) (σ)).bind fun q3 => some (q3.1, q3.2)
set_option maxRecDepth 100000 in
theorem jl_X8_way_28 {p : Program} {l : Launch} {e : Env} {s : State} {m : MethodId} {args : Array Value} {below : List Frame} {meth : Method} {c : Code} {G : am_G} {q : Int32 × am_S} (X : am_X p s m args c cX8_way yX8_way.cls 4 am_p8 G (am_fr G)) (hr : meth.sig.returnType = (some .int) ∧ meth.locks = false)    (ox0 : Nat) (σ : am_S) (h : jn_X8_way_28  ox0 σ = some q) : am_A p l e (am_ro 5) s m args below meth c 4 G (am_fr G) 0 0 (MQ below (am_Qc G (some (am_i q.1)) q.2) args s 0 0 (am_fr G)) (28, [(0, am_r ox0 40 0)], [], σ) := by
  have hc := ct_X8_way
  unfold jn_X8_way_28 at h
  refine am_blk hc X 14 2 (fr' := (31, [(0, am_r ox0 40 0)], [am_i (-2), am_r ox0 40 0], σ)) rfl ⟨trivial, trivial, trivial⟩ ?_
  obtain ⟨q3, hq4, h⟩ := am_bs h
  refine am_callV hc 16 X (k := 40) (i := 0) (o := ox0) (As := [am_i (-2)]) (rest := []) rfl (ok_X8_refuse l ox0 (-2) (σ) hq4) yv_X8_refuse ml_X8_129 (cl_40) rfl rfl rfl rfl rfl ?_
  obtain rfl := Option.some.inj h
  exact am_iret hc X hr 17 rfl rfl rfl
def fn_X8_way (oa0 : Nat) (a1 : Int32) (a2 : Int32) (a3 : Int32) (σ : am_S) : Option (Int32 × am_S) :=
  (fn_X8_isOne oa0 a1 (σ)).bind fun q1 => (if q1.1 = 0 then jn_X8_way_28  oa0 q1.2 else (fn_X8_isValley ((a2 : Int32).toInt64) q1.2).bind fun q5 => (if q5.1 = 0 then jn_X8_way_28  oa0 q5.2 else (fn_X8_in ((a3 : Int32).toInt64) 0 2 q5.2).bind fun q7 => (if q7.1 = 0 then jn_X8_way_28  oa0 q7.2 else (fn_X8_findFar oa0 a1 a3 (-1) q7.2).bind fun q9 => (bif am_in a1 6 then (bif am_in (q9.1 oa0 58 0 ((a1 : Int32).toNatClampNeg)) 7 then (bif am_in a2 7 then some ((q9.1 oa0 65 (((q9.1 oa0 58 0 ((a1 : Int32).toNatClampNeg)) : Int32).toNatClampNeg) ((a2 : Int32).toNatClampNeg)), q9) else none) else none) else none))))
set_option maxRecDepth 100000 in
theorem ok_X8_way (l : Launch) (oa0 : Nat) (a1 : Int32) (a2 : Int32) (a3 : Int32) (σ : am_S) {q : Int32 × am_S} (h : fn_X8_way oa0 a1 a2 a3 σ = some q) : am_M l yX8_way cX8_way 4 (some .int) 5 [am_r oa0 40 0, am_i a1, am_i a2, am_i a3] σ (some (am_i q.1)) q.2 := by
  refine am_M_of (P := am_p8) (by decide +kernel) am_p8_ok rfl ?_
  intro G p e s m args below meth c X hr
  have hc := ct_X8_way
  unfold fn_X8_way at h
  refine am_blk hc X 0 2 (fr' := (2, [(0, am_r oa0 40 0), (1, am_i a1), (2, am_i a2), (3, am_i a3)], [am_i a1, am_r oa0 40 0], σ)) rfl ⟨trivial, trivial, trivial⟩ ?_
  obtain ⟨q1, hq2, h⟩ := am_bs h
  refine am_callV hc 2 X (k := 40) (i := 0) (o := oa0) (As := [am_i a1]) (rest := []) rfl (ok_X8_isOne l oa0 a1 (σ) hq2) yv_X8_isOne ml_X8_140 (cl_40) rfl rfl rfl rfl rfl ?_
  refine am_if_eq hc X 3 (tgt := 28) rfl (by decide) (fun c16 => ?_) (fun c16 => ?_)
  · replace h := am_ip c16 h
    refine am_less [0] rfl ?_
    exact jl_X8_way_28 X hr   oa0 _ h
  · replace h := am_in2 c16 h
    refine am_blk hc X 4 2 (fr' := (10, [(0, am_r oa0 40 0), (1, am_i a1), (2, am_i a2), (3, am_i a3)], [am_l ((a2 : Int32).toInt64)], q1.2)) rfl ⟨trivial, trivial, trivial⟩ ?_
    obtain ⟨q5, hq6, h⟩ := am_bs h
    refine am_callS hc 6 X (As := [am_l ((a2 : Int32).toInt64)]) (rest := []) rfl (ok_X8_isValley l ((a2 : Int32).toInt64) q1.2 hq6) yv_X8_isValley ml_X8_154 rfl rfl rfl rfl rfl ?_
    refine am_if_eq hc X 7 (tgt := 28) rfl (by decide) (fun c15 => ?_) (fun c15 => ?_)
    · replace h := am_ip c15 h
      refine am_less [0] rfl ?_
      exact jl_X8_way_28 X hr   oa0 _ h
    · replace h := am_in2 c15 h
      refine am_blk hc X 8 4 (fr' := (22, [(0, am_r oa0 40 0), (1, am_i a1), (2, am_i a2), (3, am_i a3)], [am_l 2, am_l 0, am_l ((a3 : Int32).toInt64)], q5.2)) rfl ⟨trivial, trivial, trivial, trivial, trivial⟩ ?_
      obtain ⟨q7, hq8, h⟩ := am_bs h
      refine am_callS hc 12 X (As := [am_l ((a3 : Int32).toInt64), am_l 0, am_l 2]) (rest := []) rfl (ok_X8_in l ((a3 : Int32).toInt64) 0 2 q5.2 hq8) yv_X8_in ml_X8_117 rfl rfl rfl rfl rfl ?_
      refine am_if_ne hc X 13 (tgt := 35) rfl (by decide) (fun c14 => ?_) (fun c14 => ?_)
      · replace h := am_in2 c14 h
        refine am_blk hc X 18 4 (fr' := (39, [(0, am_r oa0 40 0), (1, am_i a1), (2, am_i a2), (3, am_i a3)], [am_i (-1), am_i a3, am_i a1, am_r oa0 40 0], q7.2)) rfl ⟨trivial, trivial, trivial, trivial, trivial⟩ ?_
        obtain ⟨q9, hq10, h⟩ := am_bs h
        refine am_callV hc 22 X (k := 40) (i := 0) (o := oa0) (As := [am_i a1, am_i a3, am_i (-1)]) (rest := []) rfl (ok_X8_findFar l oa0 a1 a3 (-1) q7.2 hq10) yv_X8_findFar ml_X8_304 (cl_40) rfl rfl rfl rfl rfl ?_
        obtain ⟨ob11, h⟩ := am_ci h
        obtain ⟨ob12, h⟩ := am_ci h
        obtain ⟨ob13, h⟩ := am_ci h
        refine am_blk hc X 23 9 (fr' := (55, [(0, am_r oa0 40 0), (1, am_i a1), (2, am_i a2), (3, am_i a3)], [am_i (q9.1 oa0 65 (((q9.1 oa0 58 0 ((a1 : Int32).toNatClampNeg)) : Int32).toNatClampNeg) ((a2 : Int32).toNatClampNeg))], q9)) rfl ⟨trivial, trivial, trivial, trivial, trivial, (am_in_vp ob11), (am_in_vp ob12), trivial, (am_in_vp ob13), trivial⟩ ?_
        obtain rfl := Option.some.inj h
        exact am_iret hc X hr 32 rfl rfl rfl
      · replace h := am_ip c14 h
        refine am_less [0] rfl ?_
        exact jl_X8_way_28 X hr   oa0 _ h
def jn_X8_weeks_97 (k23 : Nat → Int32 → Int32 → Int32 → am_S → Option (Int32 × am_S)) (k31 : Nat → Int32 → Int32 → Int32 → Int32 → am_S → Option (Int32 × am_S)) (ox0 : Nat) (x1 : Int32) (x3 : Int32) (x4 : Int32) (y0 : Int32) (y1 : Int32) (σ : am_S) : Option (Int32 × am_S) :=
  k31 ox0 x1 (y1 + y0) x3 (x4 + 1) (σ)
set_option maxRecDepth 100000 in
theorem jl_X8_weeks_97 {p : Program} {l : Launch} {e : Env} {s : State} {m : MethodId} {args : Array Value} {below : List Frame} {meth : Method} {c : Code} {G : am_G} {q : Int32 × am_S} (X : am_X p s m args c cX8_weeks yX8_weeks.cls 7 am_p8 G (am_fr G)) (hr : meth.sig.returnType = (some .int) ∧ meth.locks = false)  (k23 : Nat → Int32 → Int32 → Int32 → am_S → Option (Int32 × am_S)) (k31 : Nat → Int32 → Int32 → Int32 → Int32 → am_S → Option (Int32 × am_S)) (hk23 : ∀ (ox0 : Nat) (x1 : Int32) (x2 : Int32) (x3 : Int32) (σ : am_S), k23 ox0 x1 x2 x3 σ = some q → am_A p l e (am_ro 4) s m args below meth c 7 G (am_fr G) 0 0 (MQ below (am_Qc G (some (am_i q.1)) q.2) args s 0 0 (am_fr G)) (23, [(0, am_r ox0 40 0), (1, am_i x1), (2, am_i x2), (3, am_i x3)], [], σ)) (hk31 : ∀ (ox0 : Nat) (x1 : Int32) (x2 : Int32) (x3 : Int32) (x4 : Int32) (σ : am_S), k31 ox0 x1 x2 x3 x4 σ = some q → am_A p l e (am_ro 4) s m args below meth c 7 G (am_fr G) 0 0 (MQ below (am_Qc G (some (am_i q.1)) q.2) args s 0 0 (am_fr G)) (31, [(0, am_r ox0 40 0), (1, am_i x1), (2, am_i x2), (3, am_i x3), (4, am_i x4)], [], σ)) (ox0 : Nat) (x1 : Int32) (x3 : Int32) (x4 : Int32) (y0 : Int32) (y1 : Int32) (σ : am_S) (h : jn_X8_weeks_97 k23 k31 ox0 x1 x3 x4 y0 y1 σ = some q) : am_A p l e (am_ro 4) s m args below meth c 7 G (am_fr G) 0 0 (MQ below (am_Qc G (some (am_i q.1)) q.2) args s 0 0 (am_fr G)) (97, [(0, am_r ox0 40 0), (1, am_i x1), (3, am_i x3), (4, am_i x4)], [am_i y0, am_i y1], σ) := by
  have hc := ct_X8_weeks
  unfold jn_X8_weeks_97 at h
  refine am_blk hc X 51 4 (fr' := (31, [(0, am_r ox0 40 0), (1, am_i x1), (2, am_i (y1 + y0)), (3, am_i x3), (4, am_i (x4 + 1))], [], σ)) rfl ⟨trivial, trivial, trivial, trivial, trivial⟩ ?_
  exact hk31 ox0 x1 (y1 + y0) x3 (x4 + 1) _ h
def jn_X8_weeks_78 (k23 : Nat → Int32 → Int32 → Int32 → am_S → Option (Int32 × am_S)) (k31 : Nat → Int32 → Int32 → Int32 → Int32 → am_S → Option (Int32 × am_S)) (ox0 : Nat) (x1 : Int32) (x2 : Int32) (x3 : Int32) (x4 : Int32) (y0 : Int32) (σ : am_S) : Option (Int32 × am_S) :=
  (fn_X8_acts ox0 x4 y0 (σ)).bind fun q6 => (if q6.1 = 0 then jn_X8_weeks_97 k23 k31 ox0 x1 x3 x4 0 x2 q6.2 else jn_X8_weeks_97 k23 k31 ox0 x1 x3 x4 1 x2 q6.2)
set_option maxRecDepth 100000 in
theorem jl_X8_weeks_78 {p : Program} {l : Launch} {e : Env} {s : State} {m : MethodId} {args : Array Value} {below : List Frame} {meth : Method} {c : Code} {G : am_G} {q : Int32 × am_S} (X : am_X p s m args c cX8_weeks yX8_weeks.cls 7 am_p8 G (am_fr G)) (hr : meth.sig.returnType = (some .int) ∧ meth.locks = false)  (k23 : Nat → Int32 → Int32 → Int32 → am_S → Option (Int32 × am_S)) (k31 : Nat → Int32 → Int32 → Int32 → Int32 → am_S → Option (Int32 × am_S)) (hk23 : ∀ (ox0 : Nat) (x1 : Int32) (x2 : Int32) (x3 : Int32) (σ : am_S), k23 ox0 x1 x2 x3 σ = some q → am_A p l e (am_ro 4) s m args below meth c 7 G (am_fr G) 0 0 (MQ below (am_Qc G (some (am_i q.1)) q.2) args s 0 0 (am_fr G)) (23, [(0, am_r ox0 40 0), (1, am_i x1), (2, am_i x2), (3, am_i x3)], [], σ)) (hk31 : ∀ (ox0 : Nat) (x1 : Int32) (x2 : Int32) (x3 : Int32) (x4 : Int32) (σ : am_S), k31 ox0 x1 x2 x3 x4 σ = some q → am_A p l e (am_ro 4) s m args below meth c 7 G (am_fr G) 0 0 (MQ below (am_Qc G (some (am_i q.1)) q.2) args s 0 0 (am_fr G)) (31, [(0, am_r ox0 40 0), (1, am_i x1), (2, am_i x2), (3, am_i x3), (4, am_i x4)], [], σ)) (ox0 : Nat) (x1 : Int32) (x2 : Int32) (x3 : Int32) (x4 : Int32) (y0 : Int32) (σ : am_S) (h : jn_X8_weeks_78 k23 k31 ox0 x1 x2 x3 x4 y0 σ = some q) : am_A p l e (am_ro 4) s m args below meth c 7 G (am_fr G) 0 0 (MQ below (am_Qc G (some (am_i q.1)) q.2) args s 0 0 (am_fr G)) (78, [(0, am_r ox0 40 0), (1, am_i x1), (2, am_i x2), (3, am_i x3), (4, am_i x4)], [am_i y0], σ) := by
  have hc := ct_X8_weeks
  unfold jn_X8_weeks_78 at h
  refine am_blk hc X 41 5 (fr' := (86, [(0, am_r ox0 40 0), (1, am_i x1), (2, am_i x2), (3, am_i x3), (4, am_i x4), (6, am_i y0)], [am_i y0, am_i x4, am_r ox0 40 0, am_i x2], σ)) rfl ⟨trivial, trivial, trivial, trivial, trivial, trivial⟩ ?_
  obtain ⟨q6, hq7, h⟩ := am_bs h
  refine am_callV hc 46 X (k := 40) (i := 0) (o := ox0) (As := [am_i x4, am_i y0]) (rest := [am_i x2]) rfl (ok_X8_acts l ox0 x4 y0 (σ) hq7) yv_X8_acts ml_X8_374 (cl_40) rfl rfl rfl rfl rfl ?_
  refine am_if_eq hc X 47 (tgt := 96) rfl (by decide) (fun c8 => ?_) (fun c8 => ?_)
  · replace h := am_ip c8 h
    refine am_blk hc X 50 1 (fr' := (97, [(0, am_r ox0 40 0), (1, am_i x1), (2, am_i x2), (3, am_i x3), (4, am_i x4), (6, am_i y0)], [am_i 0, am_i x2], q6.2)) rfl ⟨trivial, trivial⟩ ?_
    refine am_less [0, 1, 3, 4] rfl ?_
    exact jl_X8_weeks_97 X hr k23 k31 hk23 hk31 ox0 x1 x3 x4 0 x2 _ h
  · replace h := am_in2 c8 h
    refine am_blk hc X 48 2 (fr' := (97, [(0, am_r ox0 40 0), (1, am_i x1), (2, am_i x2), (3, am_i x3), (4, am_i x4), (6, am_i y0)], [am_i 1, am_i x2], q6.2)) rfl ⟨trivial, trivial, trivial⟩ ?_
    refine am_less [0, 1, 3, 4] rfl ?_
    exact jl_X8_weeks_97 X hr k23 k31 hk23 hk31 ox0 x1 x3 x4 1 x2 _ h
def lb_X8_weeks_31 (k23 : Nat → Int32 → Int32 → Int32 → am_S → Option (Int32 × am_S)) (k31 : Nat → Int32 → Int32 → Int32 → Int32 → am_S → Option (Int32 × am_S)) (ox0 : Nat) (x1 : Int32) (x2 : Int32) (x3 : Int32) (x4 : Int32) (σ : am_S) : Option (Int32 × am_S) :=
  (if (σ.1 ox0 40 0 15) ≤ x4 then k23 ox0 x1 x2 (x3 + 1) (σ) else (fn_X8_below ox0 6 (σ)).bind fun q3 => (if 5 ≤ q3.1 then (bif am_in x4 6 then (if (q3.2.1 ox0 58 0 ((x4 : Int32).toNatClampNeg)) = 6 then jn_X8_weeks_78 k23 k31 ox0 x1 x2 x3 x4 9 q3.2 else jn_X8_weeks_78 k23 k31 ox0 x1 x2 x3 x4 8 q3.2) else none) else jn_X8_weeks_78 k23 k31 ox0 x1 x2 x3 x4 q3.1 q3.2))
set_option maxRecDepth 100000 in
theorem lc_X8_weeks_31 {p : Program} {l : Launch} {e : Env} {s : State} {m : MethodId} {args : Array Value} {below : List Frame} {meth : Method} {c : Code} {G : am_G} {q : Int32 × am_S} (X : am_X p s m args c cX8_weeks yX8_weeks.cls 7 am_p8 G (am_fr G)) (hr : meth.sig.returnType = (some .int) ∧ meth.locks = false)  (k23 : Nat → Int32 → Int32 → Int32 → am_S → Option (Int32 × am_S)) (k31 : Nat → Int32 → Int32 → Int32 → Int32 → am_S → Option (Int32 × am_S)) (hk23 : ∀ (ox0 : Nat) (x1 : Int32) (x2 : Int32) (x3 : Int32) (σ : am_S), k23 ox0 x1 x2 x3 σ = some q → am_A p l e (am_ro 4) s m args below meth c 7 G (am_fr G) 0 0 (MQ below (am_Qc G (some (am_i q.1)) q.2) args s 0 0 (am_fr G)) (23, [(0, am_r ox0 40 0), (1, am_i x1), (2, am_i x2), (3, am_i x3)], [], σ)) (hk31 : ∀ (ox0 : Nat) (x1 : Int32) (x2 : Int32) (x3 : Int32) (x4 : Int32) (σ : am_S), k31 ox0 x1 x2 x3 x4 σ = some q → am_A p l e (am_ro 4) s m args below meth c 7 G (am_fr G) 0 0 (MQ below (am_Qc G (some (am_i q.1)) q.2) args s 0 0 (am_fr G)) (31, [(0, am_r ox0 40 0), (1, am_i x1), (2, am_i x2), (3, am_i x3), (4, am_i x4)], [], σ)) (ox0 : Nat) (x1 : Int32) (x2 : Int32) (x3 : Int32) (x4 : Int32) (σ : am_S) (h : lb_X8_weeks_31 k23 k31 ox0 x1 x2 x3 x4 σ = some q) : am_A p l e (am_ro 4) s m args below meth c 7 G (am_fr G) 0 0 (MQ below (am_Qc G (some (am_i q.1)) q.2) args s 0 0 (am_fr G)) (31, [(0, am_r ox0 40 0), (1, am_i x1), (2, am_i x2), (3, am_i x3), (4, am_i x4)], [], σ) := by
  have hc := ct_X8_weeks
  unfold lb_X8_weeks_31 at h
  refine am_blk hc X 19 3 (fr' := (37, [(0, am_r ox0 40 0), (1, am_i x1), (2, am_i x2), (3, am_i x3), (4, am_i x4)], [am_i (σ.1 ox0 40 0 15), am_i x4], σ)) rfl ⟨trivial, trivial, trivial, trivial⟩ ?_
  refine am_icmp_ge hc X 22 (tgt := 105) rfl (by decide) (fun c11 => ?_) (fun c11 => ?_)
  · replace h := am_ip c11 h
    refine am_blk hc X 55 2 (fr' := (23, [(0, am_r ox0 40 0), (1, am_i x1), (2, am_i x2), (3, am_i (x3 + 1)), (4, am_i x4)], [], σ)) rfl ⟨trivial, trivial, trivial⟩ ?_
    refine am_less [0, 1, 2, 3] rfl ?_
    exact hk23 ox0 x1 x2 (x3 + 1) _ h
  · replace h := am_in2 c11 h
    refine am_blk hc X 23 2 (fr' := (43, [(0, am_r ox0 40 0), (1, am_i x1), (2, am_i x2), (3, am_i x3), (4, am_i x4)], [am_i 6, am_r ox0 40 0], σ)) rfl ⟨trivial, trivial, trivial⟩ ?_
    obtain ⟨q3, hq4, h⟩ := am_bs h
    refine am_callV hc 25 X (k := 40) (i := 0) (o := ox0) (As := [am_i 6]) (rest := []) rfl (ok_X8_below l ox0 6 (σ) hq4) yv_X8_below ml_X8_390 (cl_40) rfl rfl rfl rfl rfl ?_
    refine am_blk hc X 26 3 (fr' := (51, [(0, am_r ox0 40 0), (1, am_i x1), (2, am_i x2), (3, am_i x3), (4, am_i x4), (5, am_i q3.1)], [am_i 5, am_i q3.1], q3.2)) rfl ⟨trivial, trivial, trivial, trivial⟩ ?_
    refine am_icmp_ge hc X 29 (tgt := 59) rfl (by decide) (fun c10 => ?_) (fun c10 => ?_)
    · replace h := am_ip c10 h
      obtain ⟨ob5, h⟩ := am_ci h
      refine am_blk hc X 32 5 (fr' := (68, [(0, am_r ox0 40 0), (1, am_i x1), (2, am_i x2), (3, am_i x3), (4, am_i x4), (5, am_i q3.1)], [am_i 6, am_i (q3.2.1 ox0 58 0 ((x4 : Int32).toNatClampNeg))], q3.2)) rfl ⟨trivial, trivial, trivial, (am_in_vp ob5), trivial, trivial⟩ ?_
      refine am_icmp_ne hc X 37 (tgt := 76) rfl (by decide) (fun c9 => ?_) (fun c9 => ?_)
      · replace h := am_in2 c9 h
        refine am_blk hc X 40 1 (fr' := (78, [(0, am_r ox0 40 0), (1, am_i x1), (2, am_i x2), (3, am_i x3), (4, am_i x4), (5, am_i q3.1)], [am_i 8], q3.2)) rfl ⟨trivial, trivial⟩ ?_
        refine am_less [0, 1, 2, 3, 4] rfl ?_
        exact jl_X8_weeks_78 X hr k23 k31 hk23 hk31 ox0 x1 x2 x3 x4 8 _ h
      · replace h := am_ip c9 h
        refine am_blk hc X 38 2 (fr' := (78, [(0, am_r ox0 40 0), (1, am_i x1), (2, am_i x2), (3, am_i x3), (4, am_i x4), (5, am_i q3.1)], [am_i 9], q3.2)) rfl ⟨trivial, trivial, trivial⟩ ?_
        refine am_less [0, 1, 2, 3, 4] rfl ?_
        exact jl_X8_weeks_78 X hr k23 k31 hk23 hk31 ox0 x1 x2 x3 x4 9 _ h
    · replace h := am_in2 c10 h
      refine am_blk hc X 30 2 (fr' := (78, [(0, am_r ox0 40 0), (1, am_i x1), (2, am_i x2), (3, am_i x3), (4, am_i x4), (5, am_i q3.1)], [am_i q3.1], q3.2)) rfl ⟨trivial, trivial, trivial⟩ ?_
      refine am_less [0, 1, 2, 3, 4] rfl ?_
      exact jl_X8_weeks_78 X hr k23 k31 hk23 hk31 ox0 x1 x2 x3 x4 q3.1 _ h
def lp_X8_weeks_31 (k23 : Nat → Int32 → Int32 → Int32 → am_S → Option (Int32 × am_S)) : Nat → Nat → Int32 → Int32 → Int32 → Int32 → am_S → Option (Int32 × am_S)
  | 0 => fun _ _ _ _ _ _ => none
  | n + 1 => lb_X8_weeks_31 k23 (lp_X8_weeks_31 k23 n)
theorem ll_X8_weeks_31 {p : Program} {l : Launch} {e : Env} {s : State} {m : MethodId} {args : Array Value} {below : List Frame} {meth : Method} {c : Code} {G : am_G} {q : Int32 × am_S} (X : am_X p s m args c cX8_weeks yX8_weeks.cls 7 am_p8 G (am_fr G)) (hr : meth.sig.returnType = (some .int) ∧ meth.locks = false)  (k23 : Nat → Int32 → Int32 → Int32 → am_S → Option (Int32 × am_S)) (hk23 : ∀ (ox0 : Nat) (x1 : Int32) (x2 : Int32) (x3 : Int32) (σ : am_S), k23 ox0 x1 x2 x3 σ = some q → am_A p l e (am_ro 4) s m args below meth c 7 G (am_fr G) 0 0 (MQ below (am_Qc G (some (am_i q.1)) q.2) args s 0 0 (am_fr G)) (23, [(0, am_r ox0 40 0), (1, am_i x1), (2, am_i x2), (3, am_i x3)], [], σ)) : ∀ (n : Nat) (ox0 : Nat) (x1 : Int32) (x2 : Int32) (x3 : Int32) (x4 : Int32) (σ : am_S), lp_X8_weeks_31 k23 n ox0 x1 x2 x3 x4 σ = some q → am_A p l e (am_ro 4) s m args below meth c 7 G (am_fr G) 0 0 (MQ below (am_Qc G (some (am_i q.1)) q.2) args s 0 0 (am_fr G)) (31, [(0, am_r ox0 40 0), (1, am_i x1), (2, am_i x2), (3, am_i x3), (4, am_i x4)], [], σ) := by
  intro n
  induction n with
  | zero =>
    intro ox0 x1 x2 x3 x4 σ h
    have h : (none : Option (Int32 × am_S)) = some q := h
    cases h
  | succ n ih =>
    intro ox0 x1 x2 x3 x4 σ h
    exact lc_X8_weeks_31 X hr k23 (lp_X8_weeks_31 k23 n) hk23 ih ox0 x1 x2 x3 x4 σ h
def lb_X8_weeks_23 (k23 : Nat → Int32 → Int32 → Int32 → am_S → Option (Int32 × am_S)) (ox0 : Nat) (x1 : Int32) (x2 : Int32) (x3 : Int32) (σ : am_S) : Option (Int32 × am_S) :=
  (if x1 ≤ x3 then some (x2, (am_u σ ox0 40 0 24 ((σ.1 ox0 40 0 24) + x2))) else lp_X8_weeks_31 k23 1000 ox0 x1 x2 x3 0 (σ))
set_option maxRecDepth 100000 in
theorem lc_X8_weeks_23 {p : Program} {l : Launch} {e : Env} {s : State} {m : MethodId} {args : Array Value} {below : List Frame} {meth : Method} {c : Code} {G : am_G} {q : Int32 × am_S} (X : am_X p s m args c cX8_weeks yX8_weeks.cls 7 am_p8 G (am_fr G)) (hr : meth.sig.returnType = (some .int) ∧ meth.locks = false)  (k23 : Nat → Int32 → Int32 → Int32 → am_S → Option (Int32 × am_S)) (hk23 : ∀ (ox0 : Nat) (x1 : Int32) (x2 : Int32) (x3 : Int32) (σ : am_S), k23 ox0 x1 x2 x3 σ = some q → am_A p l e (am_ro 4) s m args below meth c 7 G (am_fr G) 0 0 (MQ below (am_Qc G (some (am_i q.1)) q.2) args s 0 0 (am_fr G)) (23, [(0, am_r ox0 40 0), (1, am_i x1), (2, am_i x2), (3, am_i x3)], [], σ)) (ox0 : Nat) (x1 : Int32) (x2 : Int32) (x3 : Int32) (σ : am_S) (h : lb_X8_weeks_23 k23 ox0 x1 x2 x3 σ = some q) : am_A p l e (am_ro 4) s m args below meth c 7 G (am_fr G) 0 0 (MQ below (am_Qc G (some (am_i q.1)) q.2) args s 0 0 (am_fr G)) (23, [(0, am_r ox0 40 0), (1, am_i x1), (2, am_i x2), (3, am_i x3)], [], σ) := by
  have hc := ct_X8_weeks
  unfold lb_X8_weeks_23 at h
  refine am_blk hc X 14 2 (fr' := (25, [(0, am_r ox0 40 0), (1, am_i x1), (2, am_i x2), (3, am_i x3)], [am_i x1, am_i x3], σ)) rfl ⟨trivial, trivial, trivial⟩ ?_
  refine am_icmp_ge hc X 16 (tgt := 111) rfl (by decide) (fun c12 => ?_) (fun c12 => ?_)
  · replace h := am_ip c12 h
    refine am_blk hc X 57 7 (fr' := (122, [(0, am_r ox0 40 0), (1, am_i x1), (2, am_i x2), (3, am_i x3)], [am_i x2], (am_u σ ox0 40 0 24 ((σ.1 ox0 40 0 24) + x2)))) rfl ⟨trivial, trivial, trivial, trivial, trivial, trivial, trivial, trivial⟩ ?_
    obtain rfl := Option.some.inj h
    exact am_iret hc X hr 64 rfl rfl rfl
  · replace h := am_in2 c12 h
    refine am_blk hc X 17 2 (fr' := (31, [(0, am_r ox0 40 0), (1, am_i x1), (2, am_i x2), (3, am_i x3), (4, am_i 0)], [], σ)) rfl ⟨trivial, trivial, trivial⟩ ?_
    exact ll_X8_weeks_31 X hr k23 hk23 1000 ox0 x1 x2 x3 0 _ h
def lp_X8_weeks_23  : Nat → Nat → Int32 → Int32 → Int32 → am_S → Option (Int32 × am_S)
  | 0 => fun _ _ _ _ _ => none
  | n + 1 => lb_X8_weeks_23  (lp_X8_weeks_23  n)
theorem ll_X8_weeks_23 {p : Program} {l : Launch} {e : Env} {s : State} {m : MethodId} {args : Array Value} {below : List Frame} {meth : Method} {c : Code} {G : am_G} {q : Int32 × am_S} (X : am_X p s m args c cX8_weeks yX8_weeks.cls 7 am_p8 G (am_fr G)) (hr : meth.sig.returnType = (some .int) ∧ meth.locks = false)    : ∀ (n : Nat) (ox0 : Nat) (x1 : Int32) (x2 : Int32) (x3 : Int32) (σ : am_S), lp_X8_weeks_23  n ox0 x1 x2 x3 σ = some q → am_A p l e (am_ro 4) s m args below meth c 7 G (am_fr G) 0 0 (MQ below (am_Qc G (some (am_i q.1)) q.2) args s 0 0 (am_fr G)) (23, [(0, am_r ox0 40 0), (1, am_i x1), (2, am_i x2), (3, am_i x3)], [], σ) := by
  intro n
  induction n with
  | zero =>
    intro ox0 x1 x2 x3 σ h
    have h : (none : Option (Int32 × am_S)) = some q := h
    cases h
  | succ n ih =>
    intro ox0 x1 x2 x3 σ h
    exact lc_X8_weeks_23 X hr  (lp_X8_weeks_23  n) ih ox0 x1 x2 x3 σ h
def fn_X8_weeks (oa0 : Nat) (a1 : Int32) (σ : am_S) : Option (Int32 × am_S) :=
  (fn_X8_in ((a1 : Int32).toInt64) 1 60 (σ)).bind fun q1 => (if q1.1 = 0 then (fn_X8_refuse oa0 (-2) q1.2).bind fun q13 => some (q13.1, q13.2) else lp_X8_weeks_23  1000 oa0 a1 0 0 q1.2)
set_option maxRecDepth 100000 in
theorem ok_X8_weeks (l : Launch) (oa0 : Nat) (a1 : Int32) (σ : am_S) {q : Int32 × am_S} (h : fn_X8_weeks oa0 a1 σ = some q) : am_M l yX8_weeks cX8_weeks 7 (some .int) 4 [am_r oa0 40 0, am_i a1] σ (some (am_i q.1)) q.2 := by
  refine am_M_of (P := am_p8) (by decide +kernel) am_p8_ok rfl ?_
  intro G p e s m args below meth c X hr
  have hc := ct_X8_weeks
  unfold fn_X8_weeks at h
  refine am_blk hc X 0 4 (fr' := (6, [(0, am_r oa0 40 0), (1, am_i a1)], [am_l 60, am_l 1, am_l ((a1 : Int32).toInt64)], σ)) rfl ⟨trivial, trivial, trivial, trivial, trivial⟩ ?_
  obtain ⟨q1, hq2, h⟩ := am_bs h
  refine am_callS hc 4 X (As := [am_l ((a1 : Int32).toInt64), am_l 1, am_l 60]) (rest := []) rfl (ok_X8_in l ((a1 : Int32).toInt64) 1 60 (σ) hq2) yv_X8_in ml_X8_117 rfl rfl rfl rfl rfl ?_
  refine am_if_ne hc X 5 (tgt := 19) rfl (by decide) (fun c15 => ?_) (fun c15 => ?_)
  · replace h := am_in2 c15 h
    refine am_blk hc X 10 4 (fr' := (23, [(0, am_r oa0 40 0), (1, am_i a1), (2, am_i 0), (3, am_i 0)], [], q1.2)) rfl ⟨trivial, trivial, trivial, trivial, trivial⟩ ?_
    exact ll_X8_weeks_23 X hr   1000 oa0 a1 0 0 _ h
  · replace h := am_ip c15 h
    refine am_blk hc X 6 2 (fr' := (15, [(0, am_r oa0 40 0), (1, am_i a1)], [am_i (-2), am_r oa0 40 0], q1.2)) rfl ⟨trivial, trivial, trivial⟩ ?_
    obtain ⟨q13, hq14, h⟩ := am_bs h
    refine am_callV hc 8 X (k := 40) (i := 0) (o := oa0) (As := [am_i (-2)]) (rest := []) rfl (ok_X8_refuse l oa0 (-2) q1.2 hq14) yv_X8_refuse ml_X8_129 (cl_40) rfl rfl rfl rfl rfl ?_
    obtain rfl := Option.some.inj h
    exact am_iret hc X hr 9 rfl rfl rfl
def fn_X8_wipe (oa0 : Nat) (σ : am_S) : Option (Int32 × am_S) :=
  some ((σ.1 oa0 40 0 7), (am_u σ oa0 40 0 7 0))
set_option maxRecDepth 100000 in
theorem ok_X8_wipe (l : Launch) (oa0 : Nat) (σ : am_S) {q : Int32 × am_S} (h : fn_X8_wipe oa0 σ = some q) : am_M l yX8_wipe cX8_wipe 2 (some .int) 0 [am_r oa0 40 0] σ (some (am_i q.1)) q.2 := by
  refine am_M_of (P := am_p8) (by decide +kernel) am_p8_ok rfl ?_
  intro G p e s m args below meth c X hr
  have hc := ct_X8_wipe
  unfold fn_X8_wipe at h
  refine am_blk hc X 0 7 (fr' := (11, [(0, am_r oa0 40 0), (1, am_i (σ.1 oa0 40 0 7))], [am_i (σ.1 oa0 40 0 7)], (am_u σ oa0 40 0 7 0))) rfl ⟨trivial, trivial, trivial, trivial, trivial, trivial, trivial, trivial⟩ ?_
  obtain rfl := Option.some.inj h
  exact am_iret hc X hr 7 rfl rfl rfl
def jn_X8_within_30  (ox0 : Nat) (σ : am_S) : Option (Int32 × am_S) :=
  (fn_X8_refuse ox0 (-2) (σ)).bind fun q3 => some (q3.1, q3.2)
set_option maxRecDepth 100000 in
theorem jl_X8_within_30 {p : Program} {l : Launch} {e : Env} {s : State} {m : MethodId} {args : Array Value} {below : List Frame} {meth : Method} {c : Code} {G : am_G} {q : Int32 × am_S} (X : am_X p s m args c cX8_within yX8_within.cls 6 am_p8 G (am_fr G)) (hr : meth.sig.returnType = (some .int) ∧ meth.locks = false)    (ox0 : Nat) (σ : am_S) (h : jn_X8_within_30  ox0 σ = some q) : am_A p l e (am_ro 5) s m args below meth c 6 G (am_fr G) 0 0 (MQ below (am_Qc G (some (am_i q.1)) q.2) args s 0 0 (am_fr G)) (30, [(0, am_r ox0 40 0)], [], σ) := by
  have hc := ct_X8_within
  unfold jn_X8_within_30 at h
  refine am_blk hc X 16 2 (fr' := (33, [(0, am_r ox0 40 0)], [am_i (-2), am_r ox0 40 0], σ)) rfl ⟨trivial, trivial, trivial⟩ ?_
  obtain ⟨q3, hq4, h⟩ := am_bs h
  refine am_callV hc 18 X (k := 40) (i := 0) (o := ox0) (As := [am_i (-2)]) (rest := []) rfl (ok_X8_refuse l ox0 (-2) (σ) hq4) yv_X8_refuse ml_X8_129 (cl_40) rfl rfl rfl rfl rfl ?_
  obtain rfl := Option.some.inj h
  exact am_iret hc X hr 19 rfl rfl rfl
def jn_X8_within_93 (k58 : Nat → Int32 → Int32 → Int32 → Int32 → am_S → Option (Int32 × am_S)) (ox0 : Nat) (x1 : Int32) (x2 : Int32) (x5 : Int32) (y0 : Int32) (y1 : Int32) (σ : am_S) : Option (Int32 × am_S) :=
  k58 ox0 x1 x2 (y1 ||| y0) (x5 + 1) (σ)
set_option maxRecDepth 100000 in
theorem jl_X8_within_93 {p : Program} {l : Launch} {e : Env} {s : State} {m : MethodId} {args : Array Value} {below : List Frame} {meth : Method} {c : Code} {G : am_G} {q : Int32 × am_S} (X : am_X p s m args c cX8_within yX8_within.cls 6 am_p8 G (am_fr G)) (hr : meth.sig.returnType = (some .int) ∧ meth.locks = false)  (k58 : Nat → Int32 → Int32 → Int32 → Int32 → am_S → Option (Int32 × am_S)) (hk58 : ∀ (ox0 : Nat) (x1 : Int32) (x2 : Int32) (x4 : Int32) (x5 : Int32) (σ : am_S), k58 ox0 x1 x2 x4 x5 σ = some q → am_A p l e (am_ro 5) s m args below meth c 6 G (am_fr G) 0 0 (MQ below (am_Qc G (some (am_i q.1)) q.2) args s 0 0 (am_fr G)) (58, [(0, am_r ox0 40 0), (1, am_i x1), (2, am_i x2), (4, am_i x4), (5, am_i x5)], [], σ)) (ox0 : Nat) (x1 : Int32) (x2 : Int32) (x5 : Int32) (y0 : Int32) (y1 : Int32) (σ : am_S) (h : jn_X8_within_93 k58 ox0 x1 x2 x5 y0 y1 σ = some q) : am_A p l e (am_ro 5) s m args below meth c 6 G (am_fr G) 0 0 (MQ below (am_Qc G (some (am_i q.1)) q.2) args s 0 0 (am_fr G)) (93, [(0, am_r ox0 40 0), (1, am_i x1), (2, am_i x2), (5, am_i x5)], [am_i y0, am_i y1], σ) := by
  have hc := ct_X8_within
  unfold jn_X8_within_93 at h
  refine am_blk hc X 53 4 (fr' := (58, [(0, am_r ox0 40 0), (1, am_i x1), (2, am_i x2), (4, am_i (y1 ||| y0)), (5, am_i (x5 + 1))], [], σ)) rfl ⟨trivial, trivial, trivial, trivial, trivial⟩ ?_
  exact hk58 ox0 x1 x2 (y1 ||| y0) (x5 + 1) _ h
def lb_X8_within_58 (k58 : Nat → Int32 → Int32 → Int32 → Int32 → am_S → Option (Int32 × am_S)) (ox0 : Nat) (x1 : Int32) (x2 : Int32) (x4 : Int32) (x5 : Int32) (σ : am_S) : Option (Int32 × am_S) :=
  (if 7 ≤ x5 then some (x4, σ) else (bif am_in x1 6 then (bif am_in (σ.1 ox0 58 0 ((x1 : Int32).toNatClampNeg)) 7 then (bif am_in x5 7 then (if x2 < (σ.1 ox0 65 (((σ.1 ox0 58 0 ((x1 : Int32).toNatClampNeg)) : Int32).toNatClampNeg) ((x5 : Int32).toNatClampNeg)) then jn_X8_within_93 k58 ox0 x1 x2 x5 0 x4 (σ) else jn_X8_within_93 k58 ox0 x1 x2 x5 ((1 : Int32) <<< (x5 &&& 31)) x4 (σ)) else none) else none) else none))
set_option maxRecDepth 100000 in
theorem lc_X8_within_58 {p : Program} {l : Launch} {e : Env} {s : State} {m : MethodId} {args : Array Value} {below : List Frame} {meth : Method} {c : Code} {G : am_G} {q : Int32 × am_S} (X : am_X p s m args c cX8_within yX8_within.cls 6 am_p8 G (am_fr G)) (hr : meth.sig.returnType = (some .int) ∧ meth.locks = false)  (k58 : Nat → Int32 → Int32 → Int32 → Int32 → am_S → Option (Int32 × am_S)) (hk58 : ∀ (ox0 : Nat) (x1 : Int32) (x2 : Int32) (x4 : Int32) (x5 : Int32) (σ : am_S), k58 ox0 x1 x2 x4 x5 σ = some q → am_A p l e (am_ro 5) s m args below meth c 6 G (am_fr G) 0 0 (MQ below (am_Qc G (some (am_i q.1)) q.2) args s 0 0 (am_fr G)) (58, [(0, am_r ox0 40 0), (1, am_i x1), (2, am_i x2), (4, am_i x4), (5, am_i x5)], [], σ)) (ox0 : Nat) (x1 : Int32) (x2 : Int32) (x4 : Int32) (x5 : Int32) (σ : am_S) (h : lb_X8_within_58 k58 ox0 x1 x2 x4 x5 σ = some q) : am_A p l e (am_ro 5) s m args below meth c 6 G (am_fr G) 0 0 (MQ below (am_Qc G (some (am_i q.1)) q.2) args s 0 0 (am_fr G)) (58, [(0, am_r ox0 40 0), (1, am_i x1), (2, am_i x2), (4, am_i x4), (5, am_i x5)], [], σ) := by
  have hc := ct_X8_within
  unfold lb_X8_within_58 at h
  refine am_blk hc X 33 2 (fr' := (62, [(0, am_r ox0 40 0), (1, am_i x1), (2, am_i x2), (4, am_i x4), (5, am_i x5)], [am_i 7, am_i x5], σ)) rfl ⟨trivial, trivial, trivial⟩ ?_
  refine am_icmp_ge hc X 35 (tgt := 102) rfl (by decide) (fun c15 => ?_) (fun c15 => ?_)
  · replace h := am_ip c15 h
    refine am_blk hc X 57 1 (fr' := (104, [(0, am_r ox0 40 0), (1, am_i x1), (2, am_i x2), (4, am_i x4), (5, am_i x5)], [am_i x4], σ)) rfl ⟨trivial, trivial⟩ ?_
    obtain rfl := Option.some.inj h
    exact am_iret hc X hr 58 rfl rfl rfl
  · replace h := am_in2 c15 h
    obtain ⟨ob11, h⟩ := am_ci h
    obtain ⟨ob12, h⟩ := am_ci h
    obtain ⟨ob13, h⟩ := am_ci h
    refine am_blk hc X 36 11 (fr' := (82, [(0, am_r ox0 40 0), (1, am_i x1), (2, am_i x2), (4, am_i x4), (5, am_i x5)], [am_i x2, am_i (σ.1 ox0 65 (((σ.1 ox0 58 0 ((x1 : Int32).toNatClampNeg)) : Int32).toNatClampNeg) ((x5 : Int32).toNatClampNeg)), am_i x4], σ)) rfl ⟨trivial, trivial, trivial, trivial, trivial, trivial, (am_in_vp ob11), (am_in_vp ob12), trivial, (am_in_vp ob13), trivial, trivial⟩ ?_
    refine am_icmp_gt hc X 47 (tgt := 92) rfl (by decide) (fun c14 => ?_) (fun c14 => ?_)
    · replace h := am_ip c14 h
      refine am_blk hc X 52 1 (fr' := (93, [(0, am_r ox0 40 0), (1, am_i x1), (2, am_i x2), (4, am_i x4), (5, am_i x5)], [am_i 0, am_i x4], σ)) rfl ⟨trivial, trivial⟩ ?_
      refine am_less [0, 1, 2, 4] rfl ?_
      exact jl_X8_within_93 X hr k58 hk58 ox0 x1 x2 x5 0 x4 _ h
    · replace h := am_in2 c14 h
      refine am_blk hc X 48 4 (fr' := (93, [(0, am_r ox0 40 0), (1, am_i x1), (2, am_i x2), (4, am_i x4), (5, am_i x5)], [am_i ((1 : Int32) <<< (x5 &&& 31)), am_i x4], σ)) rfl ⟨trivial, trivial, trivial, trivial, trivial⟩ ?_
      refine am_less [0, 1, 2, 4] rfl ?_
      exact jl_X8_within_93 X hr k58 hk58 ox0 x1 x2 x5 ((1 : Int32) <<< (x5 &&& 31)) x4 _ h
def lp_X8_within_58  : Nat → Nat → Int32 → Int32 → Int32 → Int32 → am_S → Option (Int32 × am_S)
  | 0 => fun _ _ _ _ _ _ => none
  | n + 1 => lb_X8_within_58  (lp_X8_within_58  n)
theorem ll_X8_within_58 {p : Program} {l : Launch} {e : Env} {s : State} {m : MethodId} {args : Array Value} {below : List Frame} {meth : Method} {c : Code} {G : am_G} {q : Int32 × am_S} (X : am_X p s m args c cX8_within yX8_within.cls 6 am_p8 G (am_fr G)) (hr : meth.sig.returnType = (some .int) ∧ meth.locks = false)    : ∀ (n : Nat) (ox0 : Nat) (x1 : Int32) (x2 : Int32) (x4 : Int32) (x5 : Int32) (σ : am_S), lp_X8_within_58  n ox0 x1 x2 x4 x5 σ = some q → am_A p l e (am_ro 5) s m args below meth c 6 G (am_fr G) 0 0 (MQ below (am_Qc G (some (am_i q.1)) q.2) args s 0 0 (am_fr G)) (58, [(0, am_r ox0 40 0), (1, am_i x1), (2, am_i x2), (4, am_i x4), (5, am_i x5)], [], σ) := by
  intro n
  induction n with
  | zero =>
    intro ox0 x1 x2 x4 x5 σ h
    have h : (none : Option (Int32 × am_S)) = some q := h
    cases h
  | succ n ih =>
    intro ox0 x1 x2 x4 x5 σ h
    exact lc_X8_within_58 X hr  (lp_X8_within_58  n) ih ox0 x1 x2 x4 x5 σ h
def jn_X8_within_48  (ox0 : Nat) (x1 : Int32) (x2 : Int32) (y0 : Int32) (y1 : Int32) (oy2 : Nat) (σ : am_S) : Option (Int32 × am_S) :=
  (fn_X8_findFar oy2 y1 y0 (-1) (σ)).bind fun q9 => lp_X8_within_58  1000 ox0 x1 x2 0 0 q9
set_option maxRecDepth 100000 in
theorem jl_X8_within_48 {p : Program} {l : Launch} {e : Env} {s : State} {m : MethodId} {args : Array Value} {below : List Frame} {meth : Method} {c : Code} {G : am_G} {q : Int32 × am_S} (X : am_X p s m args c cX8_within yX8_within.cls 6 am_p8 G (am_fr G)) (hr : meth.sig.returnType = (some .int) ∧ meth.locks = false)    (ox0 : Nat) (x1 : Int32) (x2 : Int32) (y0 : Int32) (y1 : Int32) (oy2 : Nat) (σ : am_S) (h : jn_X8_within_48  ox0 x1 x2 y0 y1 oy2 σ = some q) : am_A p l e (am_ro 5) s m args below meth c 6 G (am_fr G) 0 0 (MQ below (am_Qc G (some (am_i q.1)) q.2) args s 0 0 (am_fr G)) (48, [(0, am_r ox0 40 0), (1, am_i x1), (2, am_i x2)], [am_i y0, am_i y1, am_r oy2 40 0], σ) := by
  have hc := ct_X8_within
  unfold jn_X8_within_48 at h
  refine am_blk hc X 27 1 (fr' := (49, [(0, am_r ox0 40 0), (1, am_i x1), (2, am_i x2)], [am_i (-1), am_i y0, am_i y1, am_r oy2 40 0], σ)) rfl ⟨trivial, trivial⟩ ?_
  obtain ⟨q9, hq10, h⟩ := am_bs h
  refine am_callV hc 28 X (k := 40) (i := 0) (o := oy2) (As := [am_i y1, am_i y0, am_i (-1)]) (rest := []) rfl (ok_X8_findFar l oy2 y1 y0 (-1) (σ) hq10) yv_X8_findFar ml_X8_304 (cl_40) rfl rfl rfl rfl rfl ?_
  refine am_blk hc X 29 4 (fr' := (58, [(0, am_r ox0 40 0), (1, am_i x1), (2, am_i x2), (4, am_i 0), (5, am_i 0)], [], q9)) rfl ⟨trivial, trivial, trivial, trivial, trivial⟩ ?_
  exact ll_X8_within_58 X hr   1000 ox0 x1 x2 0 0 _ h
def fn_X8_within (oa0 : Nat) (a1 : Int32) (a2 : Int32) (a3 : Int32) (σ : am_S) : Option (Int32 × am_S) :=
  (fn_X8_isOne oa0 a1 (σ)).bind fun q1 => (if q1.1 = 0 then jn_X8_within_30  oa0 q1.2 else (fn_X8_in ((a2 : Int32).toInt64) 0 999 q1.2).bind fun q5 => (if q5.1 = 0 then jn_X8_within_30  oa0 q5.2 else (fn_X8_in ((a3 : Int32).toInt64) 0 1 q5.2).bind fun q7 => (if q7.1 = 0 then jn_X8_within_30  oa0 q7.2 else (if a3 = 0 then jn_X8_within_48  oa0 a1 a2 1 a1 oa0 q7.2 else jn_X8_within_48  oa0 a1 a2 0 a1 oa0 q7.2))))
set_option maxRecDepth 100000 in
theorem ok_X8_within (l : Launch) (oa0 : Nat) (a1 : Int32) (a2 : Int32) (a3 : Int32) (σ : am_S) {q : Int32 × am_S} (h : fn_X8_within oa0 a1 a2 a3 σ = some q) : am_M l yX8_within cX8_within 6 (some .int) 5 [am_r oa0 40 0, am_i a1, am_i a2, am_i a3] σ (some (am_i q.1)) q.2 := by
  refine am_M_of (P := am_p8) (by decide +kernel) am_p8_ok rfl ?_
  intro G p e s m args below meth c X hr
  have hc := ct_X8_within
  unfold fn_X8_within at h
  refine am_blk hc X 0 2 (fr' := (2, [(0, am_r oa0 40 0), (1, am_i a1), (2, am_i a2), (3, am_i a3)], [am_i a1, am_r oa0 40 0], σ)) rfl ⟨trivial, trivial, trivial⟩ ?_
  obtain ⟨q1, hq2, h⟩ := am_bs h
  refine am_callV hc 2 X (k := 40) (i := 0) (o := oa0) (As := [am_i a1]) (rest := []) rfl (ok_X8_isOne l oa0 a1 (σ) hq2) yv_X8_isOne ml_X8_140 (cl_40) rfl rfl rfl rfl rfl ?_
  refine am_if_eq hc X 3 (tgt := 30) rfl (by decide) (fun c19 => ?_) (fun c19 => ?_)
  · replace h := am_ip c19 h
    refine am_less [0] rfl ?_
    exact jl_X8_within_30 X hr   oa0 _ h
  · replace h := am_in2 c19 h
    refine am_blk hc X 4 4 (fr' := (14, [(0, am_r oa0 40 0), (1, am_i a1), (2, am_i a2), (3, am_i a3)], [am_l 999, am_l 0, am_l ((a2 : Int32).toInt64)], q1.2)) rfl ⟨trivial, trivial, trivial, trivial, trivial⟩ ?_
    obtain ⟨q5, hq6, h⟩ := am_bs h
    refine am_callS hc 8 X (As := [am_l ((a2 : Int32).toInt64), am_l 0, am_l 999]) (rest := []) rfl (ok_X8_in l ((a2 : Int32).toInt64) 0 999 q1.2 hq6) yv_X8_in ml_X8_117 rfl rfl rfl rfl rfl ?_
    refine am_if_eq hc X 9 (tgt := 30) rfl (by decide) (fun c18 => ?_) (fun c18 => ?_)
    · replace h := am_ip c18 h
      refine am_less [0] rfl ?_
      exact jl_X8_within_30 X hr   oa0 _ h
    · replace h := am_in2 c18 h
      refine am_blk hc X 10 4 (fr' := (24, [(0, am_r oa0 40 0), (1, am_i a1), (2, am_i a2), (3, am_i a3)], [am_l 1, am_l 0, am_l ((a3 : Int32).toInt64)], q5.2)) rfl ⟨trivial, trivial, trivial, trivial, trivial⟩ ?_
      obtain ⟨q7, hq8, h⟩ := am_bs h
      refine am_callS hc 14 X (As := [am_l ((a3 : Int32).toInt64), am_l 0, am_l 1]) (rest := []) rfl (ok_X8_in l ((a3 : Int32).toInt64) 0 1 q5.2 hq8) yv_X8_in ml_X8_117 rfl rfl rfl rfl rfl ?_
      refine am_if_ne hc X 15 (tgt := 37) rfl (by decide) (fun c17 => ?_) (fun c17 => ?_)
      · replace h := am_in2 c17 h
        refine am_blk hc X 20 3 (fr' := (40, [(0, am_r oa0 40 0), (1, am_i a1), (2, am_i a2), (3, am_i a3)], [am_i a3, am_i a1, am_r oa0 40 0], q7.2)) rfl ⟨trivial, trivial, trivial, trivial⟩ ?_
        refine am_if_ne hc X 23 (tgt := 47) rfl (by decide) (fun c16 => ?_) (fun c16 => ?_)
        · replace h := am_in2 c16 h
          refine am_blk hc X 26 1 (fr' := (48, [(0, am_r oa0 40 0), (1, am_i a1), (2, am_i a2), (3, am_i a3)], [am_i 0, am_i a1, am_r oa0 40 0], q7.2)) rfl ⟨trivial, trivial⟩ ?_
          refine am_less [0, 1, 2] rfl ?_
          exact jl_X8_within_48 X hr   oa0 a1 a2 0 a1 oa0 _ h
        · replace h := am_ip c16 h
          refine am_blk hc X 24 2 (fr' := (48, [(0, am_r oa0 40 0), (1, am_i a1), (2, am_i a2), (3, am_i a3)], [am_i 1, am_i a1, am_r oa0 40 0], q7.2)) rfl ⟨trivial, trivial, trivial⟩ ?_
          refine am_less [0, 1, 2] rfl ?_
          exact jl_X8_within_48 X hr   oa0 a1 a2 1 a1 oa0 _ h
      · replace h := am_ip c17 h
        refine am_less [0] rfl ?_
        exact jl_X8_within_30 X hr   oa0 _ h
def jn_X8_works_61  (x2 : Int32) (y0 : Int32) (σ : am_S) : Option (Int32 × am_S) :=
  (if y0 = 0 then some ((-1), σ) else (if y0 = 0 then none else some ((((x2 + y0) - (1 : Int32)) / y0), σ)))
set_option maxRecDepth 100000 in
theorem jl_X8_works_61 {p : Program} {l : Launch} {e : Env} {s : State} {m : MethodId} {args : Array Value} {below : List Frame} {meth : Method} {c : Code} {G : am_G} {q : Int32 × am_S} (X : am_X p s m args c cX8_works yX8_works.cls 4 am_p8 G (am_fr G)) (hr : meth.sig.returnType = (some .int) ∧ meth.locks = false)    (x2 : Int32) (y0 : Int32) (σ : am_S) (h : jn_X8_works_61  x2 y0 σ = some q) : am_A p l e (am_ro 11) s m args below meth c 4 G (am_fr G) 0 0 (MQ below (am_Qc G (some (am_i q.1)) q.2) args s 0 0 (am_fr G)) (61, [(2, am_i x2)], [am_i y0], σ) := by
  have hc := ct_X8_works
  unfold jn_X8_works_61 at h
  refine am_blk hc X 37 2 (fr' := (63, [(2, am_i x2), (3, am_i y0)], [am_i y0], σ)) rfl ⟨trivial, trivial, trivial⟩ ?_
  refine am_if_ne hc X 39 (tgt := 70) rfl (by decide) (fun c10 => ?_) (fun c10 => ?_)
  · replace h := am_in2 c10 h
    obtain ⟨ob9, h⟩ := am_nz h
    refine am_blk hc X 42 7 (fr' := (77, [(2, am_i x2), (3, am_i y0)], [am_i (((x2 + y0) - (1 : Int32)) / y0)], σ)) rfl ⟨trivial, trivial, trivial, trivial, trivial, trivial, ob9, trivial⟩ ?_
    obtain rfl := Option.some.inj h
    exact am_iret hc X hr 49 rfl rfl rfl
  · replace h := am_ip c10 h
    refine am_blk hc X 40 2 (fr' := (77, [(2, am_i x2), (3, am_i y0)], [am_i (-1)], σ)) rfl ⟨trivial, trivial, trivial⟩ ?_
    obtain rfl := Option.some.inj h
    exact am_iret hc X hr 49 rfl rfl rfl
def fn_X8_works (oa0 : Nat) (a1 : Int32) (σ : am_S) : Option (Int32 × am_S) :=
  (fn_X8_isOne oa0 a1 (σ)).bind fun q1 => (if q1.1 = 0 then (fn_X8_refuse oa0 (-2) q1.2).bind fun q13 => some (q13.1, q13.2) else (fn_X8_tourNow oa0 a1 (-1) q1.2).bind fun q3 => (bif am_in a1 6 then (if 0 < (q3.1 - (q3.2.1 oa0 60 0 ((a1 : Int32).toNatClampNeg))) then (bif am_in a1 6 then (if (q3.2.1 oa0 58 0 ((a1 : Int32).toNatClampNeg)) = 6 then jn_X8_works_61  (q3.1 - (q3.2.1 oa0 60 0 ((a1 : Int32).toNatClampNeg))) 0 q3.2 else (bif am_in a1 6 then (bif am_in (q3.2.1 oa0 58 0 ((a1 : Int32).toNatClampNeg)) 7 then jn_X8_works_61  (q3.1 - (q3.2.1 oa0 60 0 ((a1 : Int32).toNatClampNeg))) (q3.2.1 oa0 52 0 (((q3.2.1 oa0 58 0 ((a1 : Int32).toNatClampNeg)) : Int32).toNatClampNeg)) q3.2 else none) else none)) else none) else some (0, q3.2)) else none))
set_option maxRecDepth 100000 in
theorem ok_X8_works (l : Launch) (oa0 : Nat) (a1 : Int32) (σ : am_S) {q : Int32 × am_S} (h : fn_X8_works oa0 a1 σ = some q) : am_M l yX8_works cX8_works 4 (some .int) 11 [am_r oa0 40 0, am_i a1] σ (some (am_i q.1)) q.2 := by
  refine am_M_of (P := am_p8) (by decide +kernel) am_p8_ok rfl ?_
  intro G p e s m args below meth c X hr
  have hc := ct_X8_works
  unfold fn_X8_works at h
  refine am_blk hc X 0 2 (fr' := (2, [(0, am_r oa0 40 0), (1, am_i a1)], [am_i a1, am_r oa0 40 0], σ)) rfl ⟨trivial, trivial, trivial⟩ ?_
  obtain ⟨q1, hq2, h⟩ := am_bs h
  refine am_callV hc 2 X (k := 40) (i := 0) (o := oa0) (As := [am_i a1]) (rest := []) rfl (ok_X8_isOne l oa0 a1 (σ) hq2) yv_X8_isOne ml_X8_140 (cl_40) rfl rfl rfl rfl rfl ?_
  refine am_if_ne hc X 3 (tgt := 15) rfl (by decide) (fun c15 => ?_) (fun c15 => ?_)
  · replace h := am_in2 c15 h
    refine am_blk hc X 8 3 (fr' := (18, [(0, am_r oa0 40 0), (1, am_i a1)], [am_i (-1), am_i a1, am_r oa0 40 0], q1.2)) rfl ⟨trivial, trivial, trivial, trivial⟩ ?_
    obtain ⟨q3, hq4, h⟩ := am_bs h
    refine am_callV hc 11 X (k := 40) (i := 0) (o := oa0) (As := [am_i a1, am_i (-1)]) (rest := []) rfl (ok_X8_tourNow l oa0 a1 (-1) q1.2 hq4) yv_X8_tourNow ml_X8_324 (cl_40) rfl rfl rfl rfl rfl ?_
    obtain ⟨ob5, h⟩ := am_ci h
    refine am_blk hc X 12 7 (fr' := (30, [(0, am_r oa0 40 0), (1, am_i a1), (2, am_i (q3.1 - (q3.2.1 oa0 60 0 ((a1 : Int32).toNatClampNeg))))], [am_i (q3.1 - (q3.2.1 oa0 60 0 ((a1 : Int32).toNatClampNeg)))], q3.2)) rfl ⟨trivial, trivial, trivial, (am_in_vp ob5), trivial, trivial, trivial, trivial⟩ ?_
    refine am_if_gt hc X 19 (tgt := 35) rfl (by decide) (fun c12 => ?_) (fun c12 => ?_)
    · replace h := am_ip c12 h
      obtain ⟨ob6, h⟩ := am_ci h
      refine am_blk hc X 22 5 (fr' := (43, [(0, am_r oa0 40 0), (1, am_i a1), (2, am_i (q3.1 - (q3.2.1 oa0 60 0 ((a1 : Int32).toNatClampNeg))))], [am_i 6, am_i (q3.2.1 oa0 58 0 ((a1 : Int32).toNatClampNeg))], q3.2)) rfl ⟨trivial, trivial, trivial, (am_in_vp ob6), trivial, trivial⟩ ?_
      refine am_icmp_ne hc X 27 (tgt := 50) rfl (by decide) (fun c11 => ?_) (fun c11 => ?_)
      · replace h := am_in2 c11 h
        obtain ⟨ob7, h⟩ := am_ci h
        obtain ⟨ob8, h⟩ := am_ci h
        refine am_blk hc X 30 7 (fr' := (61, [(0, am_r oa0 40 0), (1, am_i a1), (2, am_i (q3.1 - (q3.2.1 oa0 60 0 ((a1 : Int32).toNatClampNeg))))], [am_i (q3.2.1 oa0 52 0 (((q3.2.1 oa0 58 0 ((a1 : Int32).toNatClampNeg)) : Int32).toNatClampNeg))], q3.2)) rfl ⟨trivial, trivial, trivial, trivial, trivial, (am_in_vp ob7), (am_in_vp ob8), trivial⟩ ?_
        refine am_less [2] rfl ?_
        exact jl_X8_works_61 X hr   (q3.1 - (q3.2.1 oa0 60 0 ((a1 : Int32).toNatClampNeg))) (q3.2.1 oa0 52 0 (((q3.2.1 oa0 58 0 ((a1 : Int32).toNatClampNeg)) : Int32).toNatClampNeg)) _ h
      · replace h := am_ip c11 h
        refine am_blk hc X 28 2 (fr' := (61, [(0, am_r oa0 40 0), (1, am_i a1), (2, am_i (q3.1 - (q3.2.1 oa0 60 0 ((a1 : Int32).toNatClampNeg))))], [am_i 0], q3.2)) rfl ⟨trivial, trivial, trivial⟩ ?_
        refine am_less [2] rfl ?_
        exact jl_X8_works_61 X hr   (q3.1 - (q3.2.1 oa0 60 0 ((a1 : Int32).toNatClampNeg))) 0 _ h
    · replace h := am_in2 c12 h
      refine am_blk hc X 20 1 (fr' := (34, [(0, am_r oa0 40 0), (1, am_i a1), (2, am_i (q3.1 - (q3.2.1 oa0 60 0 ((a1 : Int32).toNatClampNeg))))], [am_i 0], q3.2)) rfl ⟨trivial, trivial⟩ ?_
      obtain rfl := Option.some.inj h
      exact am_iret hc X hr 21 rfl rfl rfl
  · replace h := am_ip c15 h
    refine am_blk hc X 4 2 (fr' := (11, [(0, am_r oa0 40 0), (1, am_i a1)], [am_i (-2), am_r oa0 40 0], q1.2)) rfl ⟨trivial, trivial, trivial⟩ ?_
    obtain ⟨q13, hq14, h⟩ := am_bs h
    refine am_callV hc 6 X (k := 40) (i := 0) (o := oa0) (As := [am_i (-2)]) (rest := []) rfl (ok_X8_refuse l oa0 (-2) q1.2 hq14) yv_X8_refuse ml_X8_129 (cl_40) rfl rfl rfl rfl rfl ?_
    obtain rfl := Option.some.inj h
    exact am_iret hc X hr 7 rfl rfl rfl
def lb_J7_fill_53178_4_5 (k5 : Nat → Nat → Int32 → Int32 → Int32 → am_S → Option (am_S)) (ox0 : Nat) (ix0 : Nat) (x1 : Int32) (x2 : Int32) (x3 : Int32) (σ : am_S) : Option (am_S) :=
  (if x3 ≤ x2 then some (σ) else (bif am_in x2 7 then k5 ox0 ix0 x1 (x2 + 1) x3 (am_u σ ox0 4 ix0 ((x2 : Int32).toNatClampNeg) x1) else none))
set_option maxRecDepth 100000 in
theorem lc_J7_fill_53178_4_5 {p : Program} {l : Launch} {e : Env} {s : State} {m : MethodId} {args : Array Value} {below : List Frame} {meth : Method} {c : Code} {G : am_G} {q : am_S} (X : am_X p s m args c cJ7_fill_53178 yJ7_fill_53178.cls 4 am_pJ G (am_fr G)) (hr : meth.sig.returnType = none ∧ meth.locks = false)  (k5 : Nat → Nat → Int32 → Int32 → Int32 → am_S → Option (am_S)) (hk5 : ∀ (ox0 : Nat) (ix0 : Nat) (x1 : Int32) (x2 : Int32) (x3 : Int32) (σ : am_S), k5 ox0 ix0 x1 x2 x3 σ = some q → am_A p l e (am_ro 0) s m args below meth c 4 G (am_fr G) 0 0 (MQ below (am_Qc G none q) args s 0 0 (am_fr G)) (5, [(0, am_r ox0 4 ix0), (1, am_i x1), (2, am_i x2), (3, am_i x3)], [], σ)) (ox0 : Nat) (ix0 : Nat) (x1 : Int32) (x2 : Int32) (x3 : Int32) (σ : am_S) (h : lb_J7_fill_53178_4_5 k5 ox0 ix0 x1 x2 x3 σ = some q) : am_A p l e (am_ro 0) s m args below meth c 4 G (am_fr G) 0 0 (MQ below (am_Qc G none q) args s 0 0 (am_fr G)) (5, [(0, am_r ox0 4 ix0), (1, am_i x1), (2, am_i x2), (3, am_i x3)], [], σ) := by
  have hc := ct_J7_fill_53178
  unfold lb_J7_fill_53178_4_5 at h
  refine am_blk hc X 5 2 (fr' := (7, [(0, am_r ox0 4 ix0), (1, am_i x1), (2, am_i x2), (3, am_i x3)], [am_i x3, am_i x2], σ)) rfl ⟨trivial, trivial, trivial⟩ ?_
  refine am_icmp_ge hc X 7 (tgt := 20) rfl (by decide) (fun c2 => ?_) (fun c2 => ?_)
  · replace h := am_ip c2 h
    obtain rfl := Option.some.inj h
    exact am_vret hc X hr 14 rfl rfl rfl
  · replace h := am_in2 c2 h
    obtain ⟨ob1, h⟩ := am_ci h
    refine am_blk hc X 8 6 (fr' := (5, [(0, am_r ox0 4 ix0), (1, am_i x1), (2, am_i (x2 + 1)), (3, am_i x3)], [], (am_u σ ox0 4 ix0 ((x2 : Int32).toNatClampNeg) x1))) rfl ⟨trivial, trivial, trivial, (am_in_vp ob1), trivial, trivial, trivial⟩ ?_
    exact hk5 ox0 ix0 x1 (x2 + 1) x3 _ h
def lp_J7_fill_53178_4_5  : Nat → Nat → Nat → Int32 → Int32 → Int32 → am_S → Option (am_S)
  | 0 => fun _ _ _ _ _ _ => none
  | n + 1 => lb_J7_fill_53178_4_5  (lp_J7_fill_53178_4_5  n)
theorem ll_J7_fill_53178_4_5 {p : Program} {l : Launch} {e : Env} {s : State} {m : MethodId} {args : Array Value} {below : List Frame} {meth : Method} {c : Code} {G : am_G} {q : am_S} (X : am_X p s m args c cJ7_fill_53178 yJ7_fill_53178.cls 4 am_pJ G (am_fr G)) (hr : meth.sig.returnType = none ∧ meth.locks = false)    : ∀ (n : Nat) (ox0 : Nat) (ix0 : Nat) (x1 : Int32) (x2 : Int32) (x3 : Int32) (σ : am_S), lp_J7_fill_53178_4_5  n ox0 ix0 x1 x2 x3 σ = some q → am_A p l e (am_ro 0) s m args below meth c 4 G (am_fr G) 0 0 (MQ below (am_Qc G none q) args s 0 0 (am_fr G)) (5, [(0, am_r ox0 4 ix0), (1, am_i x1), (2, am_i x2), (3, am_i x3)], [], σ) := by
  intro n
  induction n with
  | zero =>
    intro ox0 ix0 x1 x2 x3 σ h
    have h : (none : Option (am_S)) = some q := h
    cases h
  | succ n ih =>
    intro ox0 ix0 x1 x2 x3 σ h
    exact lc_J7_fill_53178_4_5 X hr  (lp_J7_fill_53178_4_5  n) ih ox0 ix0 x1 x2 x3 σ h
def fn_J7_fill_53178_4 (oa0 : Nat) (ia0 : Nat) (a1 : Int32) (σ : am_S) : Option (am_S) :=
  lp_J7_fill_53178_4_5  1000 oa0 ia0 a1 0 7 (σ)
set_option maxRecDepth 100000 in
theorem ok_J7_fill_53178_4 (l : Launch) (oa0 : Nat) (ia0 : Nat) (a1 : Int32) (σ : am_S) {q : am_S} (h : fn_J7_fill_53178_4 oa0 ia0 a1 σ = some q) : am_M l yJ7_fill_53178 cJ7_fill_53178 4 none 0 [am_r oa0 4 ia0, am_i a1] σ none q := by
  refine am_M_of (P := am_pJ) (by decide +kernel) am_pJ_ok rfl ?_
  intro G p e s m args below meth c X hr
  have hc := ct_J7_fill_53178
  unfold fn_J7_fill_53178_4 at h
  refine am_blk hc X 0 5 (fr' := (5, [(0, am_r oa0 4 ia0), (1, am_i a1), (2, am_i 0), (3, am_i 7)], [], σ)) rfl ⟨trivial, trivial, trivial, trivial, trivial, trivial⟩ ?_
  exact ll_J7_fill_53178_4_5 X hr   1000 oa0 ia0 a1 0 7 _ h
def lb_J7_fill_53178_10_5 (k5 : Int32 → Int32 → Int32 → am_S → Option (am_S)) (x1 : Int32) (x2 : Int32) (x3 : Int32) (σ : am_S) : Option (am_S) :=
  (if x3 ≤ x2 then some (σ) else (bif am_in x2 8 then k5 x1 (x2 + 1) x3 (am_u σ 10 10 0 ((x2 : Int32).toNatClampNeg) x1) else none))
set_option maxRecDepth 100000 in
theorem lc_J7_fill_53178_10_5 {p : Program} {l : Launch} {e : Env} {s : State} {m : MethodId} {args : Array Value} {below : List Frame} {meth : Method} {c : Code} {G : am_G} {q : am_S} (X : am_X p s m args c cJ7_fill_53178 yJ7_fill_53178.cls 4 am_pJ G (am_fr G)) (hr : meth.sig.returnType = none ∧ meth.locks = false)  (k5 : Int32 → Int32 → Int32 → am_S → Option (am_S)) (hk5 : ∀ (x1 : Int32) (x2 : Int32) (x3 : Int32) (σ : am_S), k5 x1 x2 x3 σ = some q → am_A p l e (am_ro 0) s m args below meth c 4 G (am_fr G) 0 0 (MQ below (am_Qc G none q) args s 0 0 (am_fr G)) (5, [(0, am_r 10 10 0), (1, am_i x1), (2, am_i x2), (3, am_i x3)], [], σ)) (x1 : Int32) (x2 : Int32) (x3 : Int32) (σ : am_S) (h : lb_J7_fill_53178_10_5 k5 x1 x2 x3 σ = some q) : am_A p l e (am_ro 0) s m args below meth c 4 G (am_fr G) 0 0 (MQ below (am_Qc G none q) args s 0 0 (am_fr G)) (5, [(0, am_r 10 10 0), (1, am_i x1), (2, am_i x2), (3, am_i x3)], [], σ) := by
  have hc := ct_J7_fill_53178
  unfold lb_J7_fill_53178_10_5 at h
  refine am_blk hc X 5 2 (fr' := (7, [(0, am_r 10 10 0), (1, am_i x1), (2, am_i x2), (3, am_i x3)], [am_i x3, am_i x2], σ)) rfl ⟨trivial, trivial, trivial⟩ ?_
  refine am_icmp_ge hc X 7 (tgt := 20) rfl (by decide) (fun c2 => ?_) (fun c2 => ?_)
  · replace h := am_ip c2 h
    obtain rfl := Option.some.inj h
    exact am_vret hc X hr 14 rfl rfl rfl
  · replace h := am_in2 c2 h
    obtain ⟨ob1, h⟩ := am_ci h
    refine am_blk hc X 8 6 (fr' := (5, [(0, am_r 10 10 0), (1, am_i x1), (2, am_i (x2 + 1)), (3, am_i x3)], [], (am_u σ 10 10 0 ((x2 : Int32).toNatClampNeg) x1))) rfl ⟨trivial, trivial, trivial, (am_in_vp ob1), trivial, trivial, trivial⟩ ?_
    exact hk5 x1 (x2 + 1) x3 _ h
def lp_J7_fill_53178_10_5  : Nat → Int32 → Int32 → Int32 → am_S → Option (am_S)
  | 0 => fun _ _ _ _ => none
  | n + 1 => lb_J7_fill_53178_10_5  (lp_J7_fill_53178_10_5  n)
theorem ll_J7_fill_53178_10_5 {p : Program} {l : Launch} {e : Env} {s : State} {m : MethodId} {args : Array Value} {below : List Frame} {meth : Method} {c : Code} {G : am_G} {q : am_S} (X : am_X p s m args c cJ7_fill_53178 yJ7_fill_53178.cls 4 am_pJ G (am_fr G)) (hr : meth.sig.returnType = none ∧ meth.locks = false)    : ∀ (n : Nat) (x1 : Int32) (x2 : Int32) (x3 : Int32) (σ : am_S), lp_J7_fill_53178_10_5  n x1 x2 x3 σ = some q → am_A p l e (am_ro 0) s m args below meth c 4 G (am_fr G) 0 0 (MQ below (am_Qc G none q) args s 0 0 (am_fr G)) (5, [(0, am_r 10 10 0), (1, am_i x1), (2, am_i x2), (3, am_i x3)], [], σ) := by
  intro n
  induction n with
  | zero =>
    intro x1 x2 x3 σ h
    have h : (none : Option (am_S)) = some q := h
    cases h
  | succ n ih =>
    intro x1 x2 x3 σ h
    exact lc_J7_fill_53178_10_5 X hr  (lp_J7_fill_53178_10_5  n) ih x1 x2 x3 σ h
def fn_J7_fill_53178_10 (a1 : Int32) (σ : am_S) : Option (am_S) :=
  lp_J7_fill_53178_10_5  1000 a1 0 8 (σ)
set_option maxRecDepth 100000 in
theorem ok_J7_fill_53178_10 (l : Launch) (a1 : Int32) (σ : am_S) {q : am_S} (h : fn_J7_fill_53178_10 a1 σ = some q) : am_M l yJ7_fill_53178 cJ7_fill_53178 4 none 0 [am_r 10 10 0, am_i a1] σ none q := by
  refine am_M_of (P := am_pJ) (by decide +kernel) am_pJ_ok rfl ?_
  intro G p e s m args below meth c X hr
  have hc := ct_J7_fill_53178
  unfold fn_J7_fill_53178_10 at h
  refine am_blk hc X 0 5 (fr' := (5, [(0, am_r 10 10 0), (1, am_i a1), (2, am_i 0), (3, am_i 8)], [], σ)) rfl ⟨trivial, trivial, trivial, trivial, trivial, trivial⟩ ?_
  exact ll_J7_fill_53178_10_5 X hr   1000 a1 0 8 _ h
