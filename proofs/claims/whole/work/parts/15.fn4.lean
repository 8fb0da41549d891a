def jn_X8_manyAt_28 (k4 : Nat → Int32 → Int32 → Int32 → am_S → Option (Int32 × am_S)) (ox0 : Nat) (x1 : Int32) (x3 : Int32) (y0 : Int32) (y1 : Int32) (σ : am_S) : Option (Int32 × am_S) :=
  k4 ox0 x1 (y1 + y0) (x3 + 1) (σ)
set_option maxRecDepth 100000 in
theorem jl_X8_manyAt_28 {p : Program} {l : Launch} {e : Env} {s : State} {m : MethodId} {args : Array Value} {below : List Frame} {meth : Method} {c : Code} {G : am_G} {q : Int32 × am_S} (X : am_X p s m args c cX8_manyAt yX8_manyAt.cls 4 am_p8 G (am_fr G)) (hr : meth.sig.returnType = (some .int) ∧ meth.locks = false)  (k4 : Nat → Int32 → Int32 → Int32 → am_S → Option (Int32 × am_S)) (hk4 : ∀ (ox0 : Nat) (x1 : Int32) (x2 : Int32) (x3 : Int32) (σ : am_S), k4 ox0 x1 x2 x3 σ = some q → am_A p l e (am_ro 0) s m args below meth c 4 G (am_fr G) 0 0 (MQ below (am_Qc G (some (am_i q.1)) q.2) args s 0 0 (am_fr G)) (4, [(0, am_r ox0 40 0), (1, am_i x1), (2, am_i x2), (3, am_i x3)], [], σ)) (ox0 : Nat) (x1 : Int32) (x3 : Int32) (y0 : Int32) (y1 : Int32) (σ : am_S) (h : jn_X8_manyAt_28 k4 ox0 x1 x3 y0 y1 σ = some q) : am_A p l e (am_ro 0) s m args below meth c 4 G (am_fr G) 0 0 (MQ below (am_Qc G (some (am_i q.1)) q.2) args s 0 0 (am_fr G)) (28, [(0, am_r ox0 40 0), (1, am_i x1), (3, am_i x3)], [am_i y0, am_i y1], σ) := by
  have hc := ct_X8_manyAt
  unfold jn_X8_manyAt_28 at h
  refine am_blk hc X 18 4 (fr' := (4, [(0, am_r ox0 40 0), (1, am_i x1), (2, am_i (y1 + y0)), (3, am_i (x3 + 1))], [], σ)) rfl ⟨trivial, trivial, trivial, trivial, trivial⟩ ?_
  exact hk4 ox0 x1 (y1 + y0) (x3 + 1) _ h
def lb_X8_manyAt_4 (k4 : Nat → Int32 → Int32 → Int32 → am_S → Option (Int32 × am_S)) (ox0 : Nat) (x1 : Int32) (x2 : Int32) (x3 : Int32) (σ : am_S) : Option (Int32 × am_S) :=
  (if (σ.1 ox0 40 0 15) ≤ x3 then some (x2, σ) else (bif am_in x3 6 then (if (σ.1 ox0 58 0 ((x3 : Int32).toNatClampNeg)) = x1 then jn_X8_manyAt_28 k4 ox0 x1 x3 1 x2 (σ) else jn_X8_manyAt_28 k4 ox0 x1 x3 0 x2 (σ)) else none))
set_option maxRecDepth 100000 in
theorem lc_X8_manyAt_4 {p : Program} {l : Launch} {e : Env} {s : State} {m : MethodId} {args : Array Value} {below : List Frame} {meth : Method} {c : Code} {G : am_G} {q : Int32 × am_S} (X : am_X p s m args c cX8_manyAt yX8_manyAt.cls 4 am_p8 G (am_fr G)) (hr : meth.sig.returnType = (some .int) ∧ meth.locks = false)  (k4 : Nat → Int32 → Int32 → Int32 → am_S → Option (Int32 × am_S)) (hk4 : ∀ (ox0 : Nat) (x1 : Int32) (x2 : Int32) (x3 : Int32) (σ : am_S), k4 ox0 x1 x2 x3 σ = some q → am_A p l e (am_ro 0) s m args below meth c 4 G (am_fr G) 0 0 (MQ below (am_Qc G (some (am_i q.1)) q.2) args s 0 0 (am_fr G)) (4, [(0, am_r ox0 40 0), (1, am_i x1), (2, am_i x2), (3, am_i x3)], [], σ)) (ox0 : Nat) (x1 : Int32) (x2 : Int32) (x3 : Int32) (σ : am_S) (h : lb_X8_manyAt_4 k4 ox0 x1 x2 x3 σ = some q) : am_A p l e (am_ro 0) s m args below meth c 4 G (am_fr G) 0 0 (MQ below (am_Qc G (some (am_i q.1)) q.2) args s 0 0 (am_fr G)) (4, [(0, am_r ox0 40 0), (1, am_i x1), (2, am_i x2), (3, am_i x3)], [], σ) := by
  have hc := ct_X8_manyAt
  unfold lb_X8_manyAt_4 at h
  refine am_blk hc X 4 3 (fr' := (9, [(0, am_r ox0 40 0), (1, am_i x1), (2, am_i x2), (3, am_i x3)], [am_i (σ.1 ox0 40 0 15), am_i x3], σ)) rfl ⟨trivial, trivial, trivial, trivial⟩ ?_
  refine am_icmp_ge hc X 7 (tgt := 36) rfl (by decide) (fun c3 => ?_) (fun c3 => ?_)
  · replace h := am_ip c3 h
    refine am_blk hc X 22 1 (fr' := (37, [(0, am_r ox0 40 0), (1, am_i x1), (2, am_i x2), (3, am_i x3)], [am_i x2], σ)) rfl ⟨trivial, trivial⟩ ?_
    obtain rfl := Option.some.inj h
    exact am_iret hc X hr 23 rfl rfl rfl
  · replace h := am_in2 c3 h
    obtain ⟨ob1, h⟩ := am_ci h
    refine am_blk hc X 8 6 (fr' := (20, [(0, am_r ox0 40 0), (1, am_i x1), (2, am_i x2), (3, am_i x3)], [am_i x1, am_i (σ.1 ox0 58 0 ((x3 : Int32).toNatClampNeg)), am_i x2], σ)) rfl ⟨trivial, trivial, trivial, trivial, (am_in_vp ob1), trivial, trivial⟩ ?_
    refine am_icmp_ne hc X 14 (tgt := 27) rfl (by decide) (fun c2 => ?_) (fun c2 => ?_)
    · replace h := am_in2 c2 h
      refine am_blk hc X 17 1 (fr' := (28, [(0, am_r ox0 40 0), (1, am_i x1), (2, am_i x2), (3, am_i x3)], [am_i 0, am_i x2], σ)) rfl ⟨trivial, trivial⟩ ?_
      refine am_less [0, 1, 3] rfl ?_
      exact jl_X8_manyAt_28 X hr k4 hk4 ox0 x1 x3 0 x2 _ h
    · replace h := am_ip c2 h
      refine am_blk hc X 15 2 (fr' := (28, [(0, am_r ox0 40 0), (1, am_i x1), (2, am_i x2), (3, am_i x3)], [am_i 1, am_i x2], σ)) rfl ⟨trivial, trivial, trivial⟩ ?_
      refine am_less [0, 1, 3] rfl ?_
      exact jl_X8_manyAt_28 X hr k4 hk4 ox0 x1 x3 1 x2 _ h
def lp_X8_manyAt_4  : Nat → Nat → Int32 → Int32 → Int32 → am_S → Option (Int32 × am_S)
  | 0 => fun _ _ _ _ _ => none
  | n + 1 => lb_X8_manyAt_4  (lp_X8_manyAt_4  n)
theorem ll_X8_manyAt_4 {p : Program} {l : Launch} {e : Env} {s : State} {m : MethodId} {args : Array Value} {below : List Frame} {meth : Method} {c : Code} {G : am_G} {q : Int32 × am_S} (X : am_X p s m args c cX8_manyAt yX8_manyAt.cls 4 am_p8 G (am_fr G)) (hr : meth.sig.returnType = (some .int) ∧ meth.locks = false)    : ∀ (n : Nat) (ox0 : Nat) (x1 : Int32) (x2 : Int32) (x3 : Int32) (σ : am_S), lp_X8_manyAt_4  n ox0 x1 x2 x3 σ = some q → am_A p l e (am_ro 0) s m args below meth c 4 G (am_fr G) 0 0 (MQ below (am_Qc G (some (am_i q.1)) q.2) args s 0 0 (am_fr G)) (4, [(0, am_r ox0 40 0), (1, am_i x1), (2, am_i x2), (3, am_i x3)], [], σ) := by
  intro n
  induction n with
  | zero =>
    intro ox0 x1 x2 x3 σ h
    have h : (none : Option (Int32 × am_S)) = some q := h
    cases h
  | succ n ih =>
    intro ox0 x1 x2 x3 σ h
    exact lc_X8_manyAt_4 X hr  (lp_X8_manyAt_4  n) ih ox0 x1 x2 x3 σ h
def fn_X8_manyAt (oa0 : Nat) (a1 : Int32) (σ : am_S) : Option (Int32 × am_S) :=
  lp_X8_manyAt_4  1000 oa0 a1 0 0 (σ)
set_option maxRecDepth 100000 in
theorem ok_X8_manyAt (l : Launch) (oa0 : Nat) (a1 : Int32) (σ : am_S) {q : Int32 × am_S} (h : fn_X8_manyAt oa0 a1 σ = some q) : am_M l yX8_manyAt cX8_manyAt 4 (some .int) 0 [am_r oa0 40 0, am_i a1] σ (some (am_i q.1)) q.2 := by
  refine am_M_of (P := am_p8) (by decide +kernel) am_p8_ok rfl ?_
  intro G p e s m args below meth c X hr
  have hc := ct_X8_manyAt
  unfold fn_X8_manyAt at h
  refine am_blk hc X 0 4 (fr' := (4, [(0, am_r oa0 40 0), (1, am_i a1), (2, am_i 0), (3, am_i 0)], [], σ)) rfl ⟨trivial, trivial, trivial, trivial, trivial⟩ ?_
  exact ll_X8_manyAt_4 X hr   1000 oa0 a1 0 0 _ h
def jn_X8_crowd_28 (k4 : Nat → Int32 → Int32 → am_S → Option (Int32 × am_S)) (ox0 : Nat) (x2 : Int32) (y0 : Int32) (σ : am_S) : Option (Int32 × am_S) :=
  k4 ox0 y0 (x2 + 1) (σ)
set_option maxRecDepth 100000 in
theorem jl_X8_crowd_28 {p : Program} {l : Launch} {e : Env} {s : State} {m : MethodId} {args : Array Value} {below : List Frame} {meth : Method} {c : Code} {G : am_G} {q : Int32 × am_S} (X : am_X p s m args c cX8_crowd yX8_crowd.cls 3 am_p8 G (am_fr G)) (hr : meth.sig.returnType = (some .int) ∧ meth.locks = false)  (k4 : Nat → Int32 → Int32 → am_S → Option (Int32 × am_S)) (hk4 : ∀ (ox0 : Nat) (x1 : Int32) (x2 : Int32) (σ : am_S), k4 ox0 x1 x2 σ = some q → am_A p l e (am_ro 1) s m args below meth c 3 G (am_fr G) 0 0 (MQ below (am_Qc G (some (am_i q.1)) q.2) args s 0 0 (am_fr G)) (4, [(0, am_r ox0 40 0), (1, am_i x1), (2, am_i x2)], [], σ)) (ox0 : Nat) (x2 : Int32) (y0 : Int32) (σ : am_S) (h : jn_X8_crowd_28 k4 ox0 x2 y0 σ = some q) : am_A p l e (am_ro 1) s m args below meth c 3 G (am_fr G) 0 0 (MQ below (am_Qc G (some (am_i q.1)) q.2) args s 0 0 (am_fr G)) (28, [(0, am_r ox0 40 0), (2, am_i x2)], [am_i y0], σ) := by
  have hc := ct_X8_crowd
  unfold jn_X8_crowd_28 at h
  refine am_blk hc X 17 3 (fr' := (4, [(0, am_r ox0 40 0), (1, am_i y0), (2, am_i (x2 + 1))], [], σ)) rfl ⟨trivial, trivial, trivial, trivial⟩ ?_
  exact hk4 ox0 y0 (x2 + 1) _ h
def lb_X8_crowd_4 (k4 : Nat → Int32 → Int32 → am_S → Option (Int32 × am_S)) (ox0 : Nat) (x1 : Int32) (x2 : Int32) (σ : am_S) : Option (Int32 × am_S) :=
  (if 7 ≤ x2 then some (x1, σ) else (fn_X8_manyAt ox0 x2 (σ)).bind fun q1 => (fn_X8_manyAt ox0 x1 q1.2).bind fun q3 => (if q1.1 ≤ q3.1 then jn_X8_crowd_28 k4 ox0 x2 x1 q3.2 else jn_X8_crowd_28 k4 ox0 x2 x2 q3.2))
set_option maxRecDepth 100000 in
theorem lc_X8_crowd_4 {p : Program} {l : Launch} {e : Env} {s : State} {m : MethodId} {args : Array Value} {below : List Frame} {meth : Method} {c : Code} {G : am_G} {q : Int32 × am_S} (X : am_X p s m args c cX8_crowd yX8_crowd.cls 3 am_p8 G (am_fr G)) (hr : meth.sig.returnType = (some .int) ∧ meth.locks = false)  (k4 : Nat → Int32 → Int32 → am_S → Option (Int32 × am_S)) (hk4 : ∀ (ox0 : Nat) (x1 : Int32) (x2 : Int32) (σ : am_S), k4 ox0 x1 x2 σ = some q → am_A p l e (am_ro 1) s m args below meth c 3 G (am_fr G) 0 0 (MQ below (am_Qc G (some (am_i q.1)) q.2) args s 0 0 (am_fr G)) (4, [(0, am_r ox0 40 0), (1, am_i x1), (2, am_i x2)], [], σ)) (ox0 : Nat) (x1 : Int32) (x2 : Int32) (σ : am_S) (h : lb_X8_crowd_4 k4 ox0 x1 x2 σ = some q) : am_A p l e (am_ro 1) s m args below meth c 3 G (am_fr G) 0 0 (MQ below (am_Qc G (some (am_i q.1)) q.2) args s 0 0 (am_fr G)) (4, [(0, am_r ox0 40 0), (1, am_i x1), (2, am_i x2)], [], σ) := by
  have hc := ct_X8_crowd
  unfold lb_X8_crowd_4 at h
  refine am_blk hc X 4 2 (fr' := (7, [(0, am_r ox0 40 0), (1, am_i x1), (2, am_i x2)], [am_i 7, am_i x2], σ)) rfl ⟨trivial, trivial, trivial⟩ ?_
  refine am_icmp_ge hc X 6 (tgt := 35) rfl (by decide) (fun c6 => ?_) (fun c6 => ?_)
  · replace h := am_ip c6 h
    refine am_blk hc X 20 1 (fr' := (36, [(0, am_r ox0 40 0), (1, am_i x1), (2, am_i x2)], [am_i x1], σ)) rfl ⟨trivial, trivial⟩ ?_
    obtain rfl := Option.some.inj h
    exact am_iret hc X hr 21 rfl rfl rfl
  · replace h := am_in2 c6 h
    refine am_blk hc X 7 2 (fr' := (12, [(0, am_r ox0 40 0), (1, am_i x1), (2, am_i x2)], [am_i x2, am_r ox0 40 0], σ)) rfl ⟨trivial, trivial, trivial⟩ ?_
    obtain ⟨q1, hq2, h⟩ := am_bs h
    refine am_callV hc 9 X (k := 40) (i := 0) (o := ox0) (As := [am_i x2]) (rest := []) rfl (ok_X8_manyAt l ox0 x2 (σ) hq2) yv_X8_manyAt ml_X8_284 (cl_40) rfl rfl rfl rfl rfl ?_
    refine am_blk hc X 10 2 (fr' := (17, [(0, am_r ox0 40 0), (1, am_i x1), (2, am_i x2)], [am_i x1, am_r ox0 40 0, am_i q1.1], q1.2)) rfl ⟨trivial, trivial, trivial⟩ ?_
    obtain ⟨q3, hq4, h⟩ := am_bs h
    refine am_callV hc 12 X (k := 40) (i := 0) (o := ox0) (As := [am_i x1]) (rest := [am_i q1.1]) rfl (ok_X8_manyAt l ox0 x1 q1.2 hq4) yv_X8_manyAt ml_X8_284 (cl_40) rfl rfl rfl rfl rfl ?_
    refine am_icmp_le hc X 13 (tgt := 27) rfl (by decide) (fun c5 => ?_) (fun c5 => ?_)
    · replace h := am_ip c5 h
      refine am_blk hc X 16 1 (fr' := (28, [(0, am_r ox0 40 0), (1, am_i x1), (2, am_i x2)], [am_i x1], q3.2)) rfl ⟨trivial, trivial⟩ ?_
      refine am_less [0, 2] rfl ?_
      exact jl_X8_crowd_28 X hr k4 hk4 ox0 x2 x1 _ h
    · replace h := am_in2 c5 h
      refine am_blk hc X 14 2 (fr' := (28, [(0, am_r ox0 40 0), (1, am_i x1), (2, am_i x2)], [am_i x2], q3.2)) rfl ⟨trivial, trivial, trivial⟩ ?_
      refine am_less [0, 2] rfl ?_
      exact jl_X8_crowd_28 X hr k4 hk4 ox0 x2 x2 _ h
def lp_X8_crowd_4  : Nat → Nat → Int32 → Int32 → am_S → Option (Int32 × am_S)
  | 0 => fun _ _ _ _ => none
  | n + 1 => lb_X8_crowd_4  (lp_X8_crowd_4  n)
theorem ll_X8_crowd_4 {p : Program} {l : Launch} {e : Env} {s : State} {m : MethodId} {args : Array Value} {below : List Frame} {meth : Method} {c : Code} {G : am_G} {q : Int32 × am_S} (X : am_X p s m args c cX8_crowd yX8_crowd.cls 3 am_p8 G (am_fr G)) (hr : meth.sig.returnType = (some .int) ∧ meth.locks = false)    : ∀ (n : Nat) (ox0 : Nat) (x1 : Int32) (x2 : Int32) (σ : am_S), lp_X8_crowd_4  n ox0 x1 x2 σ = some q → am_A p l e (am_ro 1) s m args below meth c 3 G (am_fr G) 0 0 (MQ below (am_Qc G (some (am_i q.1)) q.2) args s 0 0 (am_fr G)) (4, [(0, am_r ox0 40 0), (1, am_i x1), (2, am_i x2)], [], σ) := by
  intro n
  induction n with
  | zero =>
    intro ox0 x1 x2 σ h
    have h : (none : Option (Int32 × am_S)) = some q := h
    cases h
  | succ n ih =>
    intro ox0 x1 x2 σ h
    exact lc_X8_crowd_4 X hr  (lp_X8_crowd_4  n) ih ox0 x1 x2 σ h
def fn_X8_crowd (oa0 : Nat) (σ : am_S) : Option (Int32 × am_S) :=
  lp_X8_crowd_4  1000 oa0 0 1 (σ)
set_option maxRecDepth 100000 in
theorem ok_X8_crowd (l : Launch) (oa0 : Nat) (σ : am_S) {q : Int32 × am_S} (h : fn_X8_crowd oa0 σ = some q) : am_M l yX8_crowd cX8_crowd 3 (some .int) 1 [am_r oa0 40 0] σ (some (am_i q.1)) q.2 := by
  refine am_M_of (P := am_p8) (by decide +kernel) am_p8_ok rfl ?_
  intro G p e s m args below meth c X hr
  have hc := ct_X8_crowd
  unfold fn_X8_crowd at h
  refine am_blk hc X 0 4 (fr' := (4, [(0, am_r oa0 40 0), (1, am_i 0), (2, am_i 1)], [], σ)) rfl ⟨trivial, trivial, trivial, trivial, trivial⟩ ?_
  exact ll_X8_crowd_4 X hr   1000 oa0 0 1 _ h
def jn_X8_dearest_83 (k19 : Nat → Int32 → Int32 → Int32 → am_S → Option (Int32 × am_S)) (ox0 : Nat) (x1 : Int32) (x3 : Int32) (y0 : Int32) (σ : am_S) : Option (Int32 × am_S) :=
  k19 ox0 x1 y0 (x3 + 1) (σ)
set_option maxRecDepth 100000 in
theorem jl_X8_dearest_83 {p : Program} {l : Launch} {e : Env} {s : State} {m : MethodId} {args : Array Value} {below : List Frame} {meth : Method} {c : Code} {G : am_G} {q : Int32 × am_S} (X : am_X p s m args c cX8_dearest yX8_dearest.cls 5 am_p8 G (am_fr G)) (hr : meth.sig.returnType = (some .int) ∧ meth.locks = false)  (k19 : Nat → Int32 → Int32 → Int32 → am_S → Option (Int32 × am_S)) (hk19 : ∀ (ox0 : Nat) (x1 : Int32) (x2 : Int32) (x3 : Int32) (σ : am_S), k19 ox0 x1 x2 x3 σ = some q → am_A p l e (am_ro 3) s m args below meth c 5 G (am_fr G) 0 0 (MQ below (am_Qc G (some (am_i q.1)) q.2) args s 0 0 (am_fr G)) (19, [(0, am_r ox0 40 0), (1, am_i x1), (2, am_i x2), (3, am_i x3)], [], σ)) (ox0 : Nat) (x1 : Int32) (x3 : Int32) (y0 : Int32) (σ : am_S) (h : jn_X8_dearest_83 k19 ox0 x1 x3 y0 σ = some q) : am_A p l e (am_ro 3) s m args below meth c 5 G (am_fr G) 0 0 (MQ below (am_Qc G (some (am_i q.1)) q.2) args s 0 0 (am_fr G)) (83, [(0, am_r ox0 40 0), (1, am_i x1), (3, am_i x3)], [am_i y0], σ) := by
  have hc := ct_X8_dearest
  unfold jn_X8_dearest_83 at h
  refine am_blk hc X 50 3 (fr' := (19, [(0, am_r ox0 40 0), (1, am_i x1), (2, am_i y0), (3, am_i (x3 + 1))], [], σ)) rfl ⟨trivial, trivial, trivial, trivial⟩ ?_
  exact hk19 ox0 x1 y0 (x3 + 1) _ h
def jn_X8_dearest_82 (k19 : Nat → Int32 → Int32 → Int32 → am_S → Option (Int32 × am_S)) (ox0 : Nat) (x1 : Int32) (x2 : Int32) (x3 : Int32) (σ : am_S) : Option (Int32 × am_S) :=
  jn_X8_dearest_83 k19 ox0 x1 x3 x2 (σ)
set_option maxRecDepth 100000 in
theorem jl_X8_dearest_82 {p : Program} {l : Launch} {e : Env} {s : State} {m : MethodId} {args : Array Value} {below : List Frame} {meth : Method} {c : Code} {G : am_G} {q : Int32 × am_S} (X : am_X p s m args c cX8_dearest yX8_dearest.cls 5 am_p8 G (am_fr G)) (hr : meth.sig.returnType = (some .int) ∧ meth.locks = false)  (k19 : Nat → Int32 → Int32 → Int32 → am_S → Option (Int32 × am_S)) (hk19 : ∀ (ox0 : Nat) (x1 : Int32) (x2 : Int32) (x3 : Int32) (σ : am_S), k19 ox0 x1 x2 x3 σ = some q → am_A p l e (am_ro 3) s m args below meth c 5 G (am_fr G) 0 0 (MQ below (am_Qc G (some (am_i q.1)) q.2) args s 0 0 (am_fr G)) (19, [(0, am_r ox0 40 0), (1, am_i x1), (2, am_i x2), (3, am_i x3)], [], σ)) (ox0 : Nat) (x1 : Int32) (x2 : Int32) (x3 : Int32) (σ : am_S) (h : jn_X8_dearest_82 k19 ox0 x1 x2 x3 σ = some q) : am_A p l e (am_ro 3) s m args below meth c 5 G (am_fr G) 0 0 (MQ below (am_Qc G (some (am_i q.1)) q.2) args s 0 0 (am_fr G)) (82, [(0, am_r ox0 40 0), (1, am_i x1), (2, am_i x2), (3, am_i x3)], [], σ) := by
  have hc := ct_X8_dearest
  unfold jn_X8_dearest_82 at h
  refine am_blk hc X 49 1 (fr' := (83, [(0, am_r ox0 40 0), (1, am_i x1), (2, am_i x2), (3, am_i x3)], [am_i x2], σ)) rfl ⟨trivial, trivial⟩ ?_
  refine am_less [0, 1, 3] rfl ?_
  exact jl_X8_dearest_83 X hr k19 hk19 ox0 x1 x3 x2 _ h
def jn_X8_dearest_44 (k19 : Nat → Int32 → Int32 → Int32 → am_S → Option (Int32 × am_S)) (ox0 : Nat) (x1 : Int32) (x2 : Int32) (x3 : Int32) (y0 : Int32) (σ : am_S) : Option (Int32 × am_S) :=
  (if y0 = 0 then jn_X8_dearest_82 k19 ox0 x1 x2 x3 (σ) else (bif am_in x1 6 then (fn_X8_priceOf ox0 x1 (σ.1 ox0 58 0 ((x1 : Int32).toNatClampNeg)) x3 (σ)).bind fun q7 => (bif am_in x1 6 then (fn_X8_priceOf ox0 x1 (q7.2.1 ox0 58 0 ((x1 : Int32).toNatClampNeg)) x2 q7.2).bind fun q10 => (if q7.1 ≤ q10.1 then jn_X8_dearest_82 k19 ox0 x1 x2 x3 q10.2 else jn_X8_dearest_83 k19 ox0 x1 x3 x3 q10.2) else none) else none))
set_option maxRecDepth 100000 in
theorem jl_X8_dearest_44 {p : Program} {l : Launch} {e : Env} {s : State} {m : MethodId} {args : Array Value} {below : List Frame} {meth : Method} {c : Code} {G : am_G} {q : Int32 × am_S} (X : am_X p s m args c cX8_dearest yX8_dearest.cls 5 am_p8 G (am_fr G)) (hr : meth.sig.returnType = (some .int) ∧ meth.locks = false)  (k19 : Nat → Int32 → Int32 → Int32 → am_S → Option (Int32 × am_S)) (hk19 : ∀ (ox0 : Nat) (x1 : Int32) (x2 : Int32) (x3 : Int32) (σ : am_S), k19 ox0 x1 x2 x3 σ = some q → am_A p l e (am_ro 3) s m args below meth c 5 G (am_fr G) 0 0 (MQ below (am_Qc G (some (am_i q.1)) q.2) args s 0 0 (am_fr G)) (19, [(0, am_r ox0 40 0), (1, am_i x1), (2, am_i x2), (3, am_i x3)], [], σ)) (ox0 : Nat) (x1 : Int32) (x2 : Int32) (x3 : Int32) (y0 : Int32) (σ : am_S) (h : jn_X8_dearest_44 k19 ox0 x1 x2 x3 y0 σ = some q) : am_A p l e (am_ro 3) s m args below meth c 5 G (am_fr G) 0 0 (MQ below (am_Qc G (some (am_i q.1)) q.2) args s 0 0 (am_fr G)) (44, [(0, am_r ox0 40 0), (1, am_i x1), (2, am_i x2), (3, am_i x3)], [am_i y0], σ) := by
  have hc := ct_X8_dearest
  unfold jn_X8_dearest_44 at h
  refine am_blk hc X 27 2 (fr' := (48, [(0, am_r ox0 40 0), (1, am_i x1), (2, am_i x2), (3, am_i x3), (4, am_i y0)], [am_i y0], σ)) rfl ⟨trivial, trivial, trivial⟩ ?_
  refine am_if_eq hc X 29 (tgt := 82) rfl (by decide) (fun c13 => ?_) (fun c13 => ?_)
  · replace h := am_ip c13 h
    refine am_less [0, 1, 2, 3] rfl ?_
    exact jl_X8_dearest_82 X hr k19 hk19 ox0 x1 x2 x3 _ h
  · replace h := am_in2 c13 h
    obtain ⟨ob6, h⟩ := am_ci h
    refine am_blk hc X 30 7 (fr' := (60, [(0, am_r ox0 40 0), (1, am_i x1), (2, am_i x2), (3, am_i x3), (4, am_i y0)], [am_i x3, am_i (σ.1 ox0 58 0 ((x1 : Int32).toNatClampNeg)), am_i x1, am_r ox0 40 0], σ)) rfl ⟨trivial, trivial, trivial, trivial, trivial, (am_in_vp ob6), trivial, trivial⟩ ?_
    obtain ⟨q7, hq8, h⟩ := am_bs h
    refine am_callV hc 37 X (k := 40) (i := 0) (o := ox0) (As := [am_i x1, am_i (σ.1 ox0 58 0 ((x1 : Int32).toNatClampNeg)), am_i x3]) (rest := []) rfl (ok_X8_priceOf l ox0 x1 (σ.1 ox0 58 0 ((x1 : Int32).toNatClampNeg)) x3 (σ) hq8) yv_X8_priceOf ml_X8_150 (cl_40) rfl rfl rfl rfl rfl ?_
    obtain ⟨ob9, h⟩ := am_ci h
    refine am_blk hc X 38 7 (fr' := (72, [(0, am_r ox0 40 0), (1, am_i x1), (2, am_i x2), (3, am_i x3), (4, am_i y0)], [am_i x2, am_i (q7.2.1 ox0 58 0 ((x1 : Int32).toNatClampNeg)), am_i x1, am_r ox0 40 0, am_i q7.1], q7.2)) rfl ⟨trivial, trivial, trivial, trivial, trivial, (am_in_vp ob9), trivial, trivial⟩ ?_
    obtain ⟨q10, hq11, h⟩ := am_bs h
    refine am_callV hc 45 X (k := 40) (i := 0) (o := ox0) (As := [am_i x1, am_i (q7.2.1 ox0 58 0 ((x1 : Int32).toNatClampNeg)), am_i x2]) (rest := [am_i q7.1]) rfl (ok_X8_priceOf l ox0 x1 (q7.2.1 ox0 58 0 ((x1 : Int32).toNatClampNeg)) x2 q7.2 hq11) yv_X8_priceOf ml_X8_150 (cl_40) rfl rfl rfl rfl rfl ?_
    refine am_icmp_le hc X 46 (tgt := 82) rfl (by decide) (fun c12 => ?_) (fun c12 => ?_)
    · replace h := am_ip c12 h
      refine am_less [0, 1, 2, 3] rfl ?_
      exact jl_X8_dearest_82 X hr k19 hk19 ox0 x1 x2 x3 _ h
    · replace h := am_in2 c12 h
      refine am_blk hc X 47 2 (fr' := (83, [(0, am_r ox0 40 0), (1, am_i x1), (2, am_i x2), (3, am_i x3), (4, am_i y0)], [am_i x3], q10.2)) rfl ⟨trivial, trivial, trivial⟩ ?_
      refine am_less [0, 1, 3] rfl ?_
      exact jl_X8_dearest_83 X hr k19 hk19 ox0 x1 x3 x3 _ h
def lb_X8_dearest_19 (k19 : Nat → Int32 → Int32 → Int32 → am_S → Option (Int32 × am_S)) (ox0 : Nat) (x1 : Int32) (x2 : Int32) (x3 : Int32) (σ : am_S) : Option (Int32 × am_S) :=
  (if 5 ≤ x3 then some (x2, σ) else (bif am_in x1 6 then (fn_X8_nextOf ox0 (σ.1 ox0 58 0 ((x1 : Int32).toNatClampNeg)) x3 (σ)).bind fun q4 => (if q4.1 = (-1) then jn_X8_dearest_44 k19 ox0 x1 x2 x3 0 q4.2 else jn_X8_dearest_44 k19 ox0 x1 x2 x3 1 q4.2) else none))
set_option maxRecDepth 100000 in
theorem lc_X8_dearest_19 {p : Program} {l : Launch} {e : Env} {s : State} {m : MethodId} {args : Array Value} {below : List Frame} {meth : Method} {c : Code} {G : am_G} {q : Int32 × am_S} (X : am_X p s m args c cX8_dearest yX8_dearest.cls 5 am_p8 G (am_fr G)) (hr : meth.sig.returnType = (some .int) ∧ meth.locks = false)  (k19 : Nat → Int32 → Int32 → Int32 → am_S → Option (Int32 × am_S)) (hk19 : ∀ (ox0 : Nat) (x1 : Int32) (x2 : Int32) (x3 : Int32) (σ : am_S), k19 ox0 x1 x2 x3 σ = some q → am_A p l e (am_ro 3) s m args below meth c 5 G (am_fr G) 0 0 (MQ below (am_Qc G (some (am_i q.1)) q.2) args s 0 0 (am_fr G)) (19, [(0, am_r ox0 40 0), (1, am_i x1), (2, am_i x2), (3, am_i x3)], [], σ)) (ox0 : Nat) (x1 : Int32) (x2 : Int32) (x3 : Int32) (σ : am_S) (h : lb_X8_dearest_19 k19 ox0 x1 x2 x3 σ = some q) : am_A p l e (am_ro 3) s m args below meth c 5 G (am_fr G) 0 0 (MQ below (am_Qc G (some (am_i q.1)) q.2) args s 0 0 (am_fr G)) (19, [(0, am_r ox0 40 0), (1, am_i x1), (2, am_i x2), (3, am_i x3)], [], σ) := by
  have hc := ct_X8_dearest
  unfold lb_X8_dearest_19 at h
  refine am_blk hc X 12 2 (fr' := (21, [(0, am_r ox0 40 0), (1, am_i x1), (2, am_i x2), (3, am_i x3)], [am_i 5, am_i x3], σ)) rfl ⟨trivial, trivial, trivial⟩ ?_
  refine am_icmp_ge hc X 14 (tgt := 90) rfl (by decide) (fun c15 => ?_) (fun c15 => ?_)
  · replace h := am_ip c15 h
    refine am_blk hc X 53 1 (fr' := (91, [(0, am_r ox0 40 0), (1, am_i x1), (2, am_i x2), (3, am_i x3)], [am_i x2], σ)) rfl ⟨trivial, trivial⟩ ?_
    obtain rfl := Option.some.inj h
    exact am_iret hc X hr 54 rfl rfl rfl
  · replace h := am_in2 c15 h
    obtain ⟨ob3, h⟩ := am_ci h
    refine am_blk hc X 15 6 (fr' := (32, [(0, am_r ox0 40 0), (1, am_i x1), (2, am_i x2), (3, am_i x3)], [am_i x3, am_i (σ.1 ox0 58 0 ((x1 : Int32).toNatClampNeg)), am_r ox0 40 0], σ)) rfl ⟨trivial, trivial, trivial, trivial, (am_in_vp ob3), trivial, trivial⟩ ?_
    obtain ⟨q4, hq5, h⟩ := am_bs h
    refine am_callV hc 21 X (k := 40) (i := 0) (o := ox0) (As := [am_i (σ.1 ox0 58 0 ((x1 : Int32).toNatClampNeg)), am_i x3]) (rest := []) rfl (ok_X8_nextOf l ox0 (σ.1 ox0 58 0 ((x1 : Int32).toNatClampNeg)) x3 (σ) hq5) yv_X8_nextOf ml_X8_287 (cl_40) rfl rfl rfl rfl rfl ?_
    refine am_blk hc X 22 1 (fr' := (36, [(0, am_r ox0 40 0), (1, am_i x1), (2, am_i x2), (3, am_i x3)], [am_i (-1), am_i q4.1], q4.2)) rfl ⟨trivial, trivial⟩ ?_
    refine am_icmp_eq hc X 23 (tgt := 43) rfl (by decide) (fun c14 => ?_) (fun c14 => ?_)
    · replace h := am_ip c14 h
      refine am_blk hc X 26 1 (fr' := (44, [(0, am_r ox0 40 0), (1, am_i x1), (2, am_i x2), (3, am_i x3)], [am_i 0], q4.2)) rfl ⟨trivial, trivial⟩ ?_
      exact jl_X8_dearest_44 X hr k19 hk19 ox0 x1 x2 x3 0 _ h
    · replace h := am_in2 c14 h
      refine am_blk hc X 24 2 (fr' := (44, [(0, am_r ox0 40 0), (1, am_i x1), (2, am_i x2), (3, am_i x3)], [am_i 1], q4.2)) rfl ⟨trivial, trivial, trivial⟩ ?_
      exact jl_X8_dearest_44 X hr k19 hk19 ox0 x1 x2 x3 1 _ h
def lp_X8_dearest_19  : Nat → Nat → Int32 → Int32 → Int32 → am_S → Option (Int32 × am_S)
  | 0 => fun _ _ _ _ _ => none
  | n + 1 => lb_X8_dearest_19  (lp_X8_dearest_19  n)
theorem ll_X8_dearest_19 {p : Program} {l : Launch} {e : Env} {s : State} {m : MethodId} {args : Array Value} {below : List Frame} {meth : Method} {c : Code} {G : am_G} {q : Int32 × am_S} (X : am_X p s m args c cX8_dearest yX8_dearest.cls 5 am_p8 G (am_fr G)) (hr : meth.sig.returnType = (some .int) ∧ meth.locks = false)    : ∀ (n : Nat) (ox0 : Nat) (x1 : Int32) (x2 : Int32) (x3 : Int32) (σ : am_S), lp_X8_dearest_19  n ox0 x1 x2 x3 σ = some q → am_A p l e (am_ro 3) s m args below meth c 5 G (am_fr G) 0 0 (MQ below (am_Qc G (some (am_i q.1)) q.2) args s 0 0 (am_fr G)) (19, [(0, am_r ox0 40 0), (1, am_i x1), (2, am_i x2), (3, am_i x3)], [], σ) := by
  intro n
  induction n with
  | zero =>
    intro ox0 x1 x2 x3 σ h
    have h : (none : Option (Int32 × am_S)) = some q := h
    cases h
  | succ n ih =>
    intro ox0 x1 x2 x3 σ h
    exact lc_X8_dearest_19 X hr  (lp_X8_dearest_19  n) ih ox0 x1 x2 x3 σ h
def fn_X8_dearest (oa0 : Nat) (a1 : Int32) (σ : am_S) : Option (Int32 × am_S) :=
  (fn_X8_isOne oa0 a1 (σ)).bind fun q1 => (if q1.1 = 0 then (fn_X8_refuse oa0 (-2) q1.2).bind fun q16 => some (q16.1, q16.2) else lp_X8_dearest_19  1000 oa0 a1 0 1 q1.2)
set_option maxRecDepth 100000 in
theorem ok_X8_dearest (l : Launch) (oa0 : Nat) (a1 : Int32) (σ : am_S) {q : Int32 × am_S} (h : fn_X8_dearest oa0 a1 σ = some q) : am_M l yX8_dearest cX8_dearest 5 (some .int) 3 [am_r oa0 40 0, am_i a1] σ (some (am_i q.1)) q.2 := by
  refine am_M_of (P := am_p8) (by decide +kernel) am_p8_ok rfl ?_
  intro G p e s m args below meth c X hr
  have hc := ct_X8_dearest
  unfold fn_X8_dearest at h
  refine am_blk hc X 0 2 (fr' := (2, [(0, am_r oa0 40 0), (1, am_i a1)], [am_i a1, am_r oa0 40 0], σ)) rfl ⟨trivial, trivial, trivial⟩ ?_
  obtain ⟨q1, hq2, h⟩ := am_bs h
  refine am_callV hc 2 X (k := 40) (i := 0) (o := oa0) (As := [am_i a1]) (rest := []) rfl (ok_X8_isOne l oa0 a1 (σ) hq2) yv_X8_isOne ml_X8_140 (cl_40) rfl rfl rfl rfl rfl ?_
  refine am_if_ne hc X 3 (tgt := 15) rfl (by decide) (fun c18 => ?_) (fun c18 => ?_)
  · replace h := am_in2 c18 h
    refine am_blk hc X 8 4 (fr' := (19, [(0, am_r oa0 40 0), (1, am_i a1), (2, am_i 0), (3, am_i 1)], [], q1.2)) rfl ⟨trivial, trivial, trivial, trivial, trivial⟩ ?_
    exact ll_X8_dearest_19 X hr   1000 oa0 a1 0 1 _ h
  · replace h := am_ip c18 h
    refine am_blk hc X 4 2 (fr' := (11, [(0, am_r oa0 40 0), (1, am_i a1)], [am_i (-2), am_r oa0 40 0], q1.2)) rfl ⟨trivial, trivial, trivial⟩ ?_
    obtain ⟨q16, hq17, h⟩ := am_bs h
    refine am_callV hc 6 X (k := 40) (i := 0) (o := oa0) (As := [am_i (-2)]) (rest := []) rfl (ok_X8_refuse l oa0 (-2) q1.2 hq17) yv_X8_refuse ml_X8_129 (cl_40) rfl rfl rfl rfl rfl ?_
    obtain rfl := Option.some.inj h
    exact am_iret hc X hr 7 rfl rfl rfl
def jn_X8_duty_16  (ox0 : Nat) (σ : am_S) : Option (Int32 × am_S) :=
  (fn_X8_refuse ox0 (-2) (σ)).bind fun q3 => some (q3.1, q3.2)
set_option maxRecDepth 100000 in
theorem jl_X8_duty_16 {p : Program} {l : Launch} {e : Env} {s : State} {m : MethodId} {args : Array Value} {below : List Frame} {meth : Method} {c : Code} {G : am_G} {q : Int32 × am_S} (X : am_X p s m args c cX8_duty yX8_duty.cls 5 am_p8 G (am_fr G)) (hr : meth.sig.returnType = (some .int) ∧ meth.locks = false)    (ox0 : Nat) (σ : am_S) (h : jn_X8_duty_16  ox0 σ = some q) : am_A p l e (am_ro 2) s m args below meth c 5 G (am_fr G) 0 0 (MQ below (am_Qc G (some (am_i q.1)) q.2) args s 0 0 (am_fr G)) (16, [(0, am_r ox0 40 0)], [], σ) := by
  have hc := ct_X8_duty
  unfold jn_X8_duty_16 at h
  refine am_blk hc X 8 2 (fr' := (19, [(0, am_r ox0 40 0)], [am_i (-2), am_r ox0 40 0], σ)) rfl ⟨trivial, trivial, trivial⟩ ?_
  obtain ⟨q3, hq4, h⟩ := am_bs h
  refine am_callV hc 10 X (k := 40) (i := 0) (o := ox0) (As := [am_i (-2)]) (rest := []) rfl (ok_X8_refuse l ox0 (-2) (σ) hq4) yv_X8_refuse ml_X8_129 (cl_40) rfl rfl rfl rfl rfl ?_
  obtain rfl := Option.some.inj h
  exact am_iret hc X hr 11 rfl rfl rfl
def jn_X8_duty_69  (x4 : Int32) (y0 : Int32) (y1 : Int32) (oy2 : Nat) (σ : am_S) : Option (Int32 × am_S) :=
  (bif am_in y1 6 then some (x4, (am_u σ oy2 59 0 ((y1 : Int32).toNatClampNeg) y0)) else none)
set_option maxRecDepth 100000 in
theorem jl_X8_duty_69 {p : Program} {l : Launch} {e : Env} {s : State} {m : MethodId} {args : Array Value} {below : List Frame} {meth : Method} {c : Code} {G : am_G} {q : Int32 × am_S} (X : am_X p s m args c cX8_duty yX8_duty.cls 5 am_p8 G (am_fr G)) (hr : meth.sig.returnType = (some .int) ∧ meth.locks = false)    (x4 : Int32) (y0 : Int32) (y1 : Int32) (oy2 : Nat) (σ : am_S) (h : jn_X8_duty_69  x4 y0 y1 oy2 σ = some q) : am_A p l e (am_ro 2) s m args below meth c 5 G (am_fr G) 0 0 (MQ below (am_Qc G (some (am_i q.1)) q.2) args s 0 0 (am_fr G)) (69, [(4, am_i x4)], [am_i y0, am_i y1, am_r oy2 59 0], σ) := by
  have hc := ct_X8_duty
  unfold jn_X8_duty_69 at h
  obtain ⟨ob9, h⟩ := am_ci h
  refine am_blk hc X 45 2 (fr' := (72, [(4, am_i x4)], [am_i x4], (am_u σ oy2 59 0 ((y1 : Int32).toNatClampNeg) y0))) rfl ⟨(am_in_vp ob9), trivial, trivial⟩ ?_
  obtain rfl := Option.some.inj h
  exact am_iret hc X hr 47 rfl rfl rfl
def fn_X8_duty (oa0 : Nat) (a1 : Int32) (a2 : Int32) (a3 : Int32) (σ : am_S) : Option (Int32 × am_S) :=
  (fn_X8_isOne oa0 a1 (σ)).bind fun q1 => (if q1.1 = 0 then jn_X8_duty_16  oa0 q1.2 else (fn_X8_isValley ((a2 : Int32).toInt64) q1.2).bind fun q5 => (if q5.1 = 0 then jn_X8_duty_16  oa0 q5.2 else (bif am_in a1 6 then (if a3 = 0 then (bif am_in a1 6 then jn_X8_duty_69  (((q5.2.1 oa0 59 0 ((a1 : Int32).toNatClampNeg)) >>> (a2 &&& 31)) &&& (1 : Int32)) ((q5.2.1 oa0 59 0 ((a1 : Int32).toNatClampNeg)) &&& (((1 : Int32) <<< (a2 &&& 31)) ^^^ (-1 : Int32))) a1 oa0 q5.2 else none) else (bif am_in a1 6 then jn_X8_duty_69  (((q5.2.1 oa0 59 0 ((a1 : Int32).toNatClampNeg)) >>> (a2 &&& 31)) &&& (1 : Int32)) ((q5.2.1 oa0 59 0 ((a1 : Int32).toNatClampNeg)) ||| ((1 : Int32) <<< (a2 &&& 31))) a1 oa0 q5.2 else none)) else none)))
set_option maxRecDepth 100000 in
theorem ok_X8_duty (l : Launch) (oa0 : Nat) (a1 : Int32) (a2 : Int32) (a3 : Int32) (σ : am_S) {q : Int32 × am_S} (h : fn_X8_duty oa0 a1 a2 a3 σ = some q) : am_M l yX8_duty cX8_duty 5 (some .int) 2 [am_r oa0 40 0, am_i a1, am_i a2, am_i a3] σ (some (am_i q.1)) q.2 := by
  refine am_M_of (P := am_p8) (by decide +kernel) am_p8_ok rfl ?_
  intro G p e s m args below meth c X hr
  have hc := ct_X8_duty
  unfold fn_X8_duty at h
  refine am_blk hc X 0 2 (fr' := (2, [(0, am_r oa0 40 0), (1, am_i a1), (2, am_i a2), (3, am_i a3)], [am_i a1, am_r oa0 40 0], σ)) rfl ⟨trivial, trivial, trivial⟩ ?_
  obtain ⟨q1, hq2, h⟩ := am_bs h
  refine am_callV hc 2 X (k := 40) (i := 0) (o := oa0) (As := [am_i a1]) (rest := []) rfl (ok_X8_isOne l oa0 a1 (σ) hq2) yv_X8_isOne ml_X8_140 (cl_40) rfl rfl rfl rfl rfl ?_
  refine am_if_eq hc X 3 (tgt := 16) rfl (by decide) (fun c13 => ?_) (fun c13 => ?_)
  · replace h := am_ip c13 h
    refine am_less [0] rfl ?_
    exact jl_X8_duty_16 X hr   oa0 _ h
  · replace h := am_in2 c13 h
    refine am_blk hc X 4 2 (fr' := (10, [(0, am_r oa0 40 0), (1, am_i a1), (2, am_i a2), (3, am_i a3)], [am_l ((a2 : Int32).toInt64)], q1.2)) rfl ⟨trivial, trivial, trivial⟩ ?_
    obtain ⟨q5, hq6, h⟩ := am_bs h
    refine am_callS hc 6 X (As := [am_l ((a2 : Int32).toInt64)]) (rest := []) rfl (ok_X8_isValley l ((a2 : Int32).toInt64) q1.2 hq6) yv_X8_isValley ml_X8_154 rfl rfl rfl rfl rfl ?_
    refine am_if_ne hc X 7 (tgt := 23) rfl (by decide) (fun c12 => ?_) (fun c12 => ?_)
    · replace h := am_in2 c12 h
      obtain ⟨ob7, h⟩ := am_ci h
      refine am_blk hc X 12 13 (fr' := (41, [(0, am_r oa0 40 0), (1, am_i a1), (2, am_i a2), (3, am_i a3), (4, am_i (((q5.2.1 oa0 59 0 ((a1 : Int32).toNatClampNeg)) >>> (a2 &&& 31)) &&& (1 : Int32)))], [am_i a3, am_i a1, am_r oa0 59 0], q5.2)) rfl ⟨trivial, trivial, trivial, (am_in_vp ob7), trivial, trivial, trivial, trivial, trivial, trivial, trivial, trivial, trivial, trivial⟩ ?_
      refine am_if_eq hc X 25 (tgt := 57) rfl (by decide) (fun c11 => ?_) (fun c11 => ?_)
      · replace h := am_ip c11 h
        obtain ⟨ob8, h⟩ := am_ci h
        refine am_blk hc X 35 10 (fr' := (69, [(0, am_r oa0 40 0), (1, am_i a1), (2, am_i a2), (3, am_i a3), (4, am_i (((q5.2.1 oa0 59 0 ((a1 : Int32).toNatClampNeg)) >>> (a2 &&& 31)) &&& (1 : Int32)))], [am_i ((q5.2.1 oa0 59 0 ((a1 : Int32).toNatClampNeg)) &&& (((1 : Int32) <<< (a2 &&& 31)) ^^^ (-1 : Int32))), am_i a1, am_r oa0 59 0], q5.2)) rfl ⟨trivial, trivial, trivial, (am_in_vp ob8), trivial, trivial, trivial, trivial, trivial, trivial, trivial⟩ ?_
        refine am_less [4] rfl ?_
        exact jl_X8_duty_69 X hr   (((q5.2.1 oa0 59 0 ((a1 : Int32).toNatClampNeg)) >>> (a2 &&& 31)) &&& (1 : Int32)) ((q5.2.1 oa0 59 0 ((a1 : Int32).toNatClampNeg)) &&& (((1 : Int32) <<< (a2 &&& 31)) ^^^ (-1 : Int32))) a1 oa0 _ h
      · replace h := am_in2 c11 h
        obtain ⟨ob10, h⟩ := am_ci h
        refine am_blk hc X 26 9 (fr' := (69, [(0, am_r oa0 40 0), (1, am_i a1), (2, am_i a2), (3, am_i a3), (4, am_i (((q5.2.1 oa0 59 0 ((a1 : Int32).toNatClampNeg)) >>> (a2 &&& 31)) &&& (1 : Int32)))], [am_i ((q5.2.1 oa0 59 0 ((a1 : Int32).toNatClampNeg)) ||| ((1 : Int32) <<< (a2 &&& 31))), am_i a1, am_r oa0 59 0], q5.2)) rfl ⟨trivial, trivial, trivial, (am_in_vp ob10), trivial, trivial, trivial, trivial, trivial, trivial⟩ ?_
        refine am_less [4] rfl ?_
        exact jl_X8_duty_69 X hr   (((q5.2.1 oa0 59 0 ((a1 : Int32).toNatClampNeg)) >>> (a2 &&& 31)) &&& (1 : Int32)) ((q5.2.1 oa0 59 0 ((a1 : Int32).toNatClampNeg)) ||| ((1 : Int32) <<< (a2 &&& 31))) a1 oa0 _ h
    · replace h := am_ip c12 h
      refine am_less [0] rfl ?_
      exact jl_X8_duty_16 X hr   oa0 _ h
def jn_X8_element_51   (σ : am_S) : Option (Int64 × am_S) :=
  some (0, σ)
set_option maxRecDepth 100000 in
theorem jl_X8_element_51 {p : Program} {l : Launch} {e : Env} {s : State} {m : MethodId} {args : Array Value} {below : List Frame} {meth : Method} {c : Code} {G : am_G} {q : Int64 × am_S} (X : am_X p s m args c cX8_element yX8_element.cls 3 am_p8 G (am_fr G)) (hr : meth.sig.returnType = (some .long) ∧ meth.locks = false)     (σ : am_S) (h : jn_X8_element_51   σ = some q) : am_A p l e (am_ro 1) s m args below meth c 3 G (am_fr G) 0 0 (MQ below (am_Qc G (some (am_l q.1)) q.2) args s 0 0 (am_fr G)) (51, [], [], σ) := by
  have hc := ct_X8_element
  unfold jn_X8_element_51 at h
  refine am_blk hc X 31 1 (fr' := (52, [], [am_l 0], σ)) rfl ⟨trivial, trivial⟩ ?_
  obtain rfl := Option.some.inj h
  exact am_lret hc X hr 32 rfl rfl rfl
def fn_X8_element (oa0 : Nat) (a1 : Int32) (a2 : Int32) (σ : am_S) : Option (Int64 × am_S) :=
  (fn_X8_in ((a1 : Int32).toInt64) 0 7 (σ)).bind fun q1 => (if q1.1 = 0 then jn_X8_element_51   q1.2 else (bif am_in a1 8 then (if (q1.2.1 oa0 41 0 ((a1 : Int32).toNatClampNeg)) = 1 then (bif am_in a1 8 then (fn_X8_in ((a2 : Int32).toInt64) 0 ((((q1.2.1 oa0 43 0 ((a1 : Int32).toNatClampNeg)) - (1 : Int32)) : Int32).toInt64) q1.2).bind fun q5 => (if q5.1 = 0 then jn_X8_element_51   q5.2 else (bif am_in a1 8 then (bif am_in a2 40 then some ((q5.2.2 oa0 45 ((a1 : Int32).toNatClampNeg) ((a2 : Int32).toNatClampNeg)), q5.2) else none) else none)) else none) else jn_X8_element_51   q1.2) else none))
set_option maxRecDepth 100000 in
theorem ok_X8_element (l : Launch) (oa0 : Nat) (a1 : Int32) (a2 : Int32) (σ : am_S) {q : Int64 × am_S} (h : fn_X8_element oa0 a1 a2 σ = some q) : am_M l yX8_element cX8_element 3 (some .long) 1 [am_r oa0 40 0, am_i a1, am_i a2] σ (some (am_l q.1)) q.2 := by
  refine am_M_of (P := am_p8) (by decide +kernel) am_p8_ok rfl ?_
  intro G p e s m args below meth c X hr
  have hc := ct_X8_element
  unfold fn_X8_element at h
  refine am_blk hc X 0 4 (fr' := (6, [(0, am_r oa0 40 0), (1, am_i a1), (2, am_i a2)], [am_l 7, am_l 0, am_l ((a1 : Int32).toInt64)], σ)) rfl ⟨trivial, trivial, trivial, trivial, trivial⟩ ?_
  obtain ⟨q1, hq2, h⟩ := am_bs h
  refine am_callS hc 4 X (As := [am_l ((a1 : Int32).toInt64), am_l 0, am_l 7]) (rest := []) rfl (ok_X8_in l ((a1 : Int32).toInt64) 0 7 (σ) hq2) yv_X8_in ml_X8_117 rfl rfl rfl rfl rfl ?_
  refine am_if_eq hc X 5 (tgt := 51) rfl (by decide) (fun c11 => ?_) (fun c11 => ?_)
  · replace h := am_ip c11 h
    refine am_less [] rfl ?_
    exact jl_X8_element_51 X hr    _ h
  · replace h := am_in2 c11 h
    obtain ⟨ob3, h⟩ := am_ci h
    refine am_blk hc X 6 5 (fr' := (19, [(0, am_r oa0 40 0), (1, am_i a1), (2, am_i a2)], [am_i 1, am_i (q1.2.1 oa0 41 0 ((a1 : Int32).toNatClampNeg))], q1.2)) rfl ⟨trivial, trivial, trivial, (am_in_vp ob3), trivial, trivial⟩ ?_
    refine am_icmp_ne hc X 11 (tgt := 51) rfl (by decide) (fun c10 => ?_) (fun c10 => ?_)
    · replace h := am_in2 c10 h
      refine am_less [] rfl ?_
      exact jl_X8_element_51 X hr    _ h
    · replace h := am_ip c10 h
      obtain ⟨ob4, h⟩ := am_ci h
      refine am_blk hc X 12 10 (fr' := (34, [(0, am_r oa0 40 0), (1, am_i a1), (2, am_i a2)], [am_l ((((q1.2.1 oa0 43 0 ((a1 : Int32).toNatClampNeg)) - (1 : Int32)) : Int32).toInt64), am_l 0, am_l ((a2 : Int32).toInt64)], q1.2)) rfl ⟨trivial, trivial, trivial, trivial, trivial, trivial, (am_in_vp ob4), trivial, trivial, trivial, trivial⟩ ?_
      obtain ⟨q5, hq6, h⟩ := am_bs h
      refine am_callS hc 22 X (As := [am_l ((a2 : Int32).toInt64), am_l 0, am_l ((((q1.2.1 oa0 43 0 ((a1 : Int32).toNatClampNeg)) - (1 : Int32)) : Int32).toInt64)]) (rest := []) rfl (ok_X8_in l ((a2 : Int32).toInt64) 0 ((((q1.2.1 oa0 43 0 ((a1 : Int32).toNatClampNeg)) - (1 : Int32)) : Int32).toInt64) q1.2 hq6) yv_X8_in ml_X8_117 rfl rfl rfl rfl rfl ?_
      refine am_if_eq hc X 23 (tgt := 51) rfl (by decide) (fun c9 => ?_) (fun c9 => ?_)
      · replace h := am_ip c9 h
        refine am_less [] rfl ?_
        exact jl_X8_element_51 X hr    _ h
      · replace h := am_in2 c9 h
        obtain ⟨ob7, h⟩ := am_ci h
        obtain ⟨ob8, h⟩ := am_ci h
        refine am_blk hc X 24 7 (fr' := (52, [(0, am_r oa0 40 0), (1, am_i a1), (2, am_i a2)], [am_l (q5.2.2 oa0 45 ((a1 : Int32).toNatClampNeg) ((a2 : Int32).toNatClampNeg))], q5.2)) rfl ⟨trivial, trivial, trivial, (am_in_vp ob7), trivial, (am_in_vp ob8), trivial, trivial⟩ ?_
        obtain rfl := Option.some.inj h
        exact am_lret hc X hr 32 rfl rfl rfl
def fn_X8_feed (oa0 : Nat) (a1 : Int32) (σ : am_S) : Option (Int32 × am_S) :=
  (fn_X8_in ((a1 : Int32).toInt64) 0 255 (σ)).bind fun q1 => (if q1.1 = 0 then (fn_X8_refuse oa0 (-2) q1.2).bind fun q7 => some (q7.1, q7.2) else (if (q1.2.1 oa0 40 0 7) = 250 then (fn_X8_refuse oa0 (-6) q1.2).bind fun q4 => some (q4.1, q4.2) else (bif am_in (q1.2.1 oa0 40 0 7) 250 then some (((am_u q1.2 oa0 40 0 7 ((q1.2.1 oa0 40 0 7) + (1 : Int32))).1 oa0 40 0 7), (am_u (am_u q1.2 oa0 40 0 7 ((q1.2.1 oa0 40 0 7) + (1 : Int32))) oa0 48 0 (((q1.2.1 oa0 40 0 7) : Int32).toNatClampNeg) a1)) else none)))
set_option maxRecDepth 100000 in
theorem ok_X8_feed (l : Launch) (oa0 : Nat) (a1 : Int32) (σ : am_S) {q : Int32 × am_S} (h : fn_X8_feed oa0 a1 σ = some q) : am_M l yX8_feed cX8_feed 2 (some .int) 1 [am_r oa0 40 0, am_i a1] σ (some (am_i q.1)) q.2 := by
  refine am_M_of (P := am_p8) (by decide +kernel) am_p8_ok rfl ?_
  intro G p e s m args below meth c X hr
  have hc := ct_X8_feed
  unfold fn_X8_feed at h
  refine am_blk hc X 0 4 (fr' := (6, [(0, am_r oa0 40 0), (1, am_i a1)], [am_l 255, am_l 0, am_l ((a1 : Int32).toInt64)], σ)) rfl ⟨trivial, trivial, trivial, trivial, trivial⟩ ?_
  obtain ⟨q1, hq2, h⟩ := am_bs h
  refine am_callS hc 4 X (As := [am_l ((a1 : Int32).toInt64), am_l 0, am_l 255]) (rest := []) rfl (ok_X8_in l ((a1 : Int32).toInt64) 0 255 (σ) hq2) yv_X8_in ml_X8_117 rfl rfl rfl rfl rfl ?_
  refine am_if_ne hc X 5 (tgt := 19) rfl (by decide) (fun c9 => ?_) (fun c9 => ?_)
  · replace h := am_in2 c9 h
    refine am_blk hc X 10 3 (fr' := (26, [(0, am_r oa0 40 0), (1, am_i a1)], [am_i 250, am_i (q1.2.1 oa0 40 0 7)], q1.2)) rfl ⟨trivial, trivial, trivial, trivial⟩ ?_
    refine am_icmp_ne hc X 13 (tgt := 36) rfl (by decide) (fun c6 => ?_) (fun c6 => ?_)
    · replace h := am_in2 c6 h
      obtain ⟨ob3, h⟩ := am_ci h
      refine am_blk hc X 18 13 (fr' := (57, [(0, am_r oa0 40 0), (1, am_i a1)], [am_i ((am_u q1.2 oa0 40 0 7 ((q1.2.1 oa0 40 0 7) + (1 : Int32))).1 oa0 40 0 7)], (am_u (am_u q1.2 oa0 40 0 7 ((q1.2.1 oa0 40 0 7) + (1 : Int32))) oa0 48 0 (((q1.2.1 oa0 40 0 7) : Int32).toNatClampNeg) a1))) rfl ⟨trivial, trivial, trivial, trivial, trivial, trivial, trivial, trivial, trivial, trivial, (am_in_vp ob3), trivial, trivial, trivial⟩ ?_
      obtain rfl := Option.some.inj h
      exact am_iret hc X hr 31 rfl rfl rfl
    · replace h := am_ip c6 h
      refine am_blk hc X 14 2 (fr' := (32, [(0, am_r oa0 40 0), (1, am_i a1)], [am_i (-6), am_r oa0 40 0], q1.2)) rfl ⟨trivial, trivial, trivial⟩ ?_
      obtain ⟨q4, hq5, h⟩ := am_bs h
      refine am_callV hc 16 X (k := 40) (i := 0) (o := oa0) (As := [am_i (-6)]) (rest := []) rfl (ok_X8_refuse l oa0 (-6) q1.2 hq5) yv_X8_refuse ml_X8_129 (cl_40) rfl rfl rfl rfl rfl ?_
      obtain rfl := Option.some.inj h
      exact am_iret hc X hr 17 rfl rfl rfl
  · replace h := am_ip c9 h
    refine am_blk hc X 6 2 (fr' := (15, [(0, am_r oa0 40 0), (1, am_i a1)], [am_i (-2), am_r oa0 40 0], q1.2)) rfl ⟨trivial, trivial, trivial⟩ ?_
    obtain ⟨q7, hq8, h⟩ := am_bs h
    refine am_callV hc 8 X (k := 40) (i := 0) (o := oa0) (As := [am_i (-2)]) (rest := []) rfl (ok_X8_refuse l oa0 (-2) q1.2 hq8) yv_X8_refuse ml_X8_129 (cl_40) rfl rfl rfl rfl rfl ?_
    obtain rfl := Option.some.inj h
    exact am_iret hc X hr 9 rfl rfl rfl
def fn_X8_valueOf (oa0 : Nat) (a1 : Int32) (a2 : Int32) (σ : am_S) : Option (Int32 × am_S) :=
  (if a2 = 0 then (bif am_in a1 6 then some ((σ.1 oa0 60 0 ((a1 : Int32).toNatClampNeg)), σ) else none) else (if a2 = 1 then (bif am_in a1 6 then some ((σ.1 oa0 61 0 ((a1 : Int32).toNatClampNeg)), σ) else none) else (bif am_in a1 6 then some ((σ.1 oa0 62 0 ((a1 : Int32).toNatClampNeg)), σ) else none)))
set_option maxRecDepth 100000 in
theorem ok_X8_valueOf (l : Launch) (oa0 : Nat) (a1 : Int32) (a2 : Int32) (σ : am_S) {q : Int32 × am_S} (h : fn_X8_valueOf oa0 a1 a2 σ = some q) : am_M l yX8_valueOf cX8_valueOf 3 (some .int) 0 [am_r oa0 40 0, am_i a1, am_i a2] σ (some (am_i q.1)) q.2 := by
  refine am_M_of (P := am_p8) (by decide +kernel) am_p8_ok rfl ?_
  intro G p e s m args below meth c X hr
  have hc := ct_X8_valueOf
  unfold fn_X8_valueOf at h
  refine am_blk hc X 0 1 (fr' := (1, [(0, am_r oa0 40 0), (1, am_i a1), (2, am_i a2)], [am_i a2], σ)) rfl ⟨trivial, trivial⟩ ?_
  refine am_if_ne hc X 1 (tgt := 13) rfl (by decide) (fun c5 => ?_) (fun c5 => ?_)
  · replace h := am_in2 c5 h
    refine am_blk hc X 7 2 (fr' := (15, [(0, am_r oa0 40 0), (1, am_i a1), (2, am_i a2)], [am_i 1, am_i a2], σ)) rfl ⟨trivial, trivial, trivial⟩ ?_
    refine am_icmp_ne hc X 9 (tgt := 27) rfl (by decide) (fun c3 => ?_) (fun c3 => ?_)
    · replace h := am_in2 c3 h
      obtain ⟨ob1, h⟩ := am_ci h
      refine am_blk hc X 15 4 (fr' := (33, [(0, am_r oa0 40 0), (1, am_i a1), (2, am_i a2)], [am_i (σ.1 oa0 62 0 ((a1 : Int32).toNatClampNeg))], σ)) rfl ⟨trivial, trivial, trivial, (am_in_vp ob1), trivial⟩ ?_
      obtain rfl := Option.some.inj h
      exact am_iret hc X hr 19 rfl rfl rfl
    · replace h := am_ip c3 h
      obtain ⟨ob2, h⟩ := am_ci h
      refine am_blk hc X 10 5 (fr' := (33, [(0, am_r oa0 40 0), (1, am_i a1), (2, am_i a2)], [am_i (σ.1 oa0 61 0 ((a1 : Int32).toNatClampNeg))], σ)) rfl ⟨trivial, trivial, trivial, (am_in_vp ob2), trivial, trivial⟩ ?_
      obtain rfl := Option.some.inj h
      exact am_iret hc X hr 19 rfl rfl rfl
  · replace h := am_ip c5 h
    obtain ⟨ob4, h⟩ := am_ci h
    refine am_blk hc X 2 5 (fr' := (33, [(0, am_r oa0 40 0), (1, am_i a1), (2, am_i a2)], [am_i (σ.1 oa0 60 0 ((a1 : Int32).toNatClampNeg))], σ)) rfl ⟨trivial, trivial, trivial, (am_in_vp ob4), trivial, trivial⟩ ?_
    obtain rfl := Option.some.inj h
    exact am_iret hc X hr 19 rfl rfl rfl
def jn_X8_first_65 (k37 : Nat → Int32 → Int32 → Int32 → am_S → Option (Int32 × am_S)) (ox0 : Nat) (x1 : Int32) (x3 : Int32) (y0 : Int32) (σ : am_S) : Option (Int32 × am_S) :=
  k37 ox0 x1 y0 (x3 + 1) (σ)
set_option maxRecDepth 100000 in
theorem jl_X8_first_65 {p : Program} {l : Launch} {e : Env} {s : State} {m : MethodId} {args : Array Value} {below : List Frame} {meth : Method} {c : Code} {G : am_G} {q : Int32 × am_S} (X : am_X p s m args c cX8_first yX8_first.cls 4 am_p8 G (am_fr G)) (hr : meth.sig.returnType = (some .int) ∧ meth.locks = false)  (k37 : Nat → Int32 → Int32 → Int32 → am_S → Option (Int32 × am_S)) (hk37 : ∀ (ox0 : Nat) (x1 : Int32) (x2 : Int32) (x3 : Int32) (σ : am_S), k37 ox0 x1 x2 x3 σ = some q → am_A p l e (am_ro 1) s m args below meth c 4 G (am_fr G) 0 0 (MQ below (am_Qc G (some (am_i q.1)) q.2) args s 0 0 (am_fr G)) (37, [(0, am_r ox0 40 0), (1, am_i x1), (2, am_i x2), (3, am_i x3)], [], σ)) (ox0 : Nat) (x1 : Int32) (x3 : Int32) (y0 : Int32) (σ : am_S) (h : jn_X8_first_65 k37 ox0 x1 x3 y0 σ = some q) : am_A p l e (am_ro 1) s m args below meth c 4 G (am_fr G) 0 0 (MQ below (am_Qc G (some (am_i q.1)) q.2) args s 0 0 (am_fr G)) (65, [(0, am_r ox0 40 0), (1, am_i x1), (3, am_i x3)], [am_i y0], σ) := by
  have hc := ct_X8_first
  unfold jn_X8_first_65 at h
  refine am_blk hc X 37 3 (fr' := (37, [(0, am_r ox0 40 0), (1, am_i x1), (2, am_i y0), (3, am_i (x3 + 1))], [], σ)) rfl ⟨trivial, trivial, trivial, trivial⟩ ?_
  exact hk37 ox0 x1 y0 (x3 + 1) _ h
def lb_X8_first_37 (k37 : Nat → Int32 → Int32 → Int32 → am_S → Option (Int32 × am_S)) (ox0 : Nat) (x1 : Int32) (x2 : Int32) (x3 : Int32) (σ : am_S) : Option (Int32 × am_S) :=
  (if (σ.1 ox0 40 0 15) ≤ x3 then some (x2, σ) else (fn_X8_valueOf ox0 x3 x1 (σ)).bind fun q3 => (fn_X8_valueOf ox0 x2 x1 q3.2).bind fun q5 => (if q3.1 ≤ q5.1 then jn_X8_first_65 k37 ox0 x1 x3 x2 q5.2 else jn_X8_first_65 k37 ox0 x1 x3 x3 q5.2))
set_option maxRecDepth 100000 in
theorem lc_X8_first_37 {p : Program} {l : Launch} {e : Env} {s : State} {m : MethodId} {args : Array Value} {below : List Frame} {meth : Method} {c : Code} {G : am_G} {q : Int32 × am_S} (X : am_X p s m args c cX8_first yX8_first.cls 4 am_p8 G (am_fr G)) (hr : meth.sig.returnType = (some .int) ∧ meth.locks = false)  (k37 : Nat → Int32 → Int32 → Int32 → am_S → Option (Int32 × am_S)) (hk37 : ∀ (ox0 : Nat) (x1 : Int32) (x2 : Int32) (x3 : Int32) (σ : am_S), k37 ox0 x1 x2 x3 σ = some q → am_A p l e (am_ro 1) s m args below meth c 4 G (am_fr G) 0 0 (MQ below (am_Qc G (some (am_i q.1)) q.2) args s 0 0 (am_fr G)) (37, [(0, am_r ox0 40 0), (1, am_i x1), (2, am_i x2), (3, am_i x3)], [], σ)) (ox0 : Nat) (x1 : Int32) (x2 : Int32) (x3 : Int32) (σ : am_S) (h : lb_X8_first_37 k37 ox0 x1 x2 x3 σ = some q) : am_A p l e (am_ro 1) s m args below meth c 4 G (am_fr G) 0 0 (MQ below (am_Qc G (some (am_i q.1)) q.2) args s 0 0 (am_fr G)) (37, [(0, am_r ox0 40 0), (1, am_i x1), (2, am_i x2), (3, am_i x3)], [], σ) := by
  have hc := ct_X8_first
  unfold lb_X8_first_37 at h
  refine am_blk hc X 21 3 (fr' := (42, [(0, am_r ox0 40 0), (1, am_i x1), (2, am_i x2), (3, am_i x3)], [am_i (σ.1 ox0 40 0 15), am_i x3], σ)) rfl ⟨trivial, trivial, trivial, trivial⟩ ?_
  refine am_icmp_ge hc X 24 (tgt := 72) rfl (by decide) (fun c8 => ?_) (fun c8 => ?_)
  · replace h := am_ip c8 h
    refine am_blk hc X 40 1 (fr' := (73, [(0, am_r ox0 40 0), (1, am_i x1), (2, am_i x2), (3, am_i x3)], [am_i x2], σ)) rfl ⟨trivial, trivial⟩ ?_
    obtain rfl := Option.some.inj h
    exact am_iret hc X hr 41 rfl rfl rfl
  · replace h := am_in2 c8 h
    refine am_blk hc X 25 3 (fr' := (48, [(0, am_r ox0 40 0), (1, am_i x1), (2, am_i x2), (3, am_i x3)], [am_i x1, am_i x3, am_r ox0 40 0], σ)) rfl ⟨trivial, trivial, trivial, trivial⟩ ?_
    obtain ⟨q3, hq4, h⟩ := am_bs h
    refine am_callV hc 28 X (k := 40) (i := 0) (o := ox0) (As := [am_i x3, am_i x1]) (rest := []) rfl (ok_X8_valueOf l ox0 x3 x1 (σ) hq4) yv_X8_valueOf ml_X8_330 (cl_40) rfl rfl rfl rfl rfl ?_
    refine am_blk hc X 29 3 (fr' := (54, [(0, am_r ox0 40 0), (1, am_i x1), (2, am_i x2), (3, am_i x3)], [am_i x1, am_i x2, am_r ox0 40 0, am_i q3.1], q3.2)) rfl ⟨trivial, trivial, trivial, trivial⟩ ?_
    obtain ⟨q5, hq6, h⟩ := am_bs h
    refine am_callV hc 32 X (k := 40) (i := 0) (o := ox0) (As := [am_i x2, am_i x1]) (rest := [am_i q3.1]) rfl (ok_X8_valueOf l ox0 x2 x1 q3.2 hq6) yv_X8_valueOf ml_X8_330 (cl_40) rfl rfl rfl rfl rfl ?_
    refine am_icmp_le hc X 33 (tgt := 64) rfl (by decide) (fun c7 => ?_) (fun c7 => ?_)
    · replace h := am_ip c7 h
      refine am_blk hc X 36 1 (fr' := (65, [(0, am_r ox0 40 0), (1, am_i x1), (2, am_i x2), (3, am_i x3)], [am_i x2], q5.2)) rfl ⟨trivial, trivial⟩ ?_
      refine am_less [0, 1, 3] rfl ?_
      exact jl_X8_first_65 X hr k37 hk37 ox0 x1 x3 x2 _ h
    · replace h := am_in2 c7 h
      refine am_blk hc X 34 2 (fr' := (65, [(0, am_r ox0 40 0), (1, am_i x1), (2, am_i x2), (3, am_i x3)], [am_i x3], q5.2)) rfl ⟨trivial, trivial, trivial⟩ ?_
      refine am_less [0, 1, 3] rfl ?_
      exact jl_X8_first_65 X hr k37 hk37 ox0 x1 x3 x3 _ h
def lp_X8_first_37  : Nat → Nat → Int32 → Int32 → Int32 → am_S → Option (Int32 × am_S)
  | 0 => fun _ _ _ _ _ => none
  | n + 1 => lb_X8_first_37  (lp_X8_first_37  n)
theorem ll_X8_first_37 {p : Program} {l : Launch} {e : Env} {s : State} {m : MethodId} {args : Array Value} {below : List Frame} {meth : Method} {c : Code} {G : am_G} {q : Int32 × am_S} (X : am_X p s m args c cX8_first yX8_first.cls 4 am_p8 G (am_fr G)) (hr : meth.sig.returnType = (some .int) ∧ meth.locks = false)    : ∀ (n : Nat) (ox0 : Nat) (x1 : Int32) (x2 : Int32) (x3 : Int32) (σ : am_S), lp_X8_first_37  n ox0 x1 x2 x3 σ = some q → am_A p l e (am_ro 1) s m args below meth c 4 G (am_fr G) 0 0 (MQ below (am_Qc G (some (am_i q.1)) q.2) args s 0 0 (am_fr G)) (37, [(0, am_r ox0 40 0), (1, am_i x1), (2, am_i x2), (3, am_i x3)], [], σ) := by
  intro n
  induction n with
  | zero =>
    intro ox0 x1 x2 x3 σ h
    have h : (none : Option (Int32 × am_S)) = some q := h
    cases h
  | succ n ih =>
    intro ox0 x1 x2 x3 σ h
    exact lc_X8_first_37 X hr  (lp_X8_first_37  n) ih ox0 x1 x2 x3 σ h
def fn_X8_first (oa0 : Nat) (a1 : Int32) (σ : am_S) : Option (Int32 × am_S) :=
  (fn_X8_in ((a1 : Int32).toInt64) 0 2 (σ)).bind fun q1 => (if q1.1 = 0 then (fn_X8_refuse oa0 (-2) q1.2).bind fun q12 => some (q12.1, q12.2) else (if (q1.2.1 oa0 40 0 15) = 0 then (fn_X8_refuse oa0 (-5) q1.2).bind fun q9 => some (q9.1, q9.2) else lp_X8_first_37  1000 oa0 a1 0 1 q1.2))
set_option maxRecDepth 100000 in
theorem ok_X8_first (l : Launch) (oa0 : Nat) (a1 : Int32) (σ : am_S) {q : Int32 × am_S} (h : fn_X8_first oa0 a1 σ = some q) : am_M l yX8_first cX8_first 4 (some .int) 1 [am_r oa0 40 0, am_i a1] σ (some (am_i q.1)) q.2 := by
  refine am_M_of (P := am_p8) (by decide +kernel) am_p8_ok rfl ?_
  intro G p e s m args below meth c X hr
  have hc := ct_X8_first
  unfold fn_X8_first at h
  refine am_blk hc X 0 4 (fr' := (6, [(0, am_r oa0 40 0), (1, am_i a1)], [am_l 2, am_l 0, am_l ((a1 : Int32).toInt64)], σ)) rfl ⟨trivial, trivial, trivial, trivial, trivial⟩ ?_
  obtain ⟨q1, hq2, h⟩ := am_bs h
  refine am_callS hc 4 X (As := [am_l ((a1 : Int32).toInt64), am_l 0, am_l 2]) (rest := []) rfl (ok_X8_in l ((a1 : Int32).toInt64) 0 2 (σ) hq2) yv_X8_in ml_X8_117 rfl rfl rfl rfl rfl ?_
  refine am_if_ne hc X 5 (tgt := 19) rfl (by decide) (fun c14 => ?_) (fun c14 => ?_)
  · replace h := am_in2 c14 h
    refine am_blk hc X 10 2 (fr' := (23, [(0, am_r oa0 40 0), (1, am_i a1)], [am_i (q1.2.1 oa0 40 0 15)], q1.2)) rfl ⟨trivial, trivial, trivial⟩ ?_
    refine am_if_ne hc X 12 (tgt := 33) rfl (by decide) (fun c11 => ?_) (fun c11 => ?_)
    · replace h := am_in2 c11 h
      refine am_blk hc X 17 4 (fr' := (37, [(0, am_r oa0 40 0), (1, am_i a1), (2, am_i 0), (3, am_i 1)], [], q1.2)) rfl ⟨trivial, trivial, trivial, trivial, trivial⟩ ?_
      exact ll_X8_first_37 X hr   1000 oa0 a1 0 1 _ h
    · replace h := am_ip c11 h
      refine am_blk hc X 13 2 (fr' := (29, [(0, am_r oa0 40 0), (1, am_i a1)], [am_i (-5), am_r oa0 40 0], q1.2)) rfl ⟨trivial, trivial, trivial⟩ ?_
      obtain ⟨q9, hq10, h⟩ := am_bs h
      refine am_callV hc 15 X (k := 40) (i := 0) (o := oa0) (As := [am_i (-5)]) (rest := []) rfl (ok_X8_refuse l oa0 (-5) q1.2 hq10) yv_X8_refuse ml_X8_129 (cl_40) rfl rfl rfl rfl rfl ?_
      obtain rfl := Option.some.inj h
      exact am_iret hc X hr 16 rfl rfl rfl
  · replace h := am_ip c14 h
    refine am_blk hc X 6 2 (fr' := (15, [(0, am_r oa0 40 0), (1, am_i a1)], [am_i (-2), am_r oa0 40 0], q1.2)) rfl ⟨trivial, trivial, trivial⟩ ?_
    obtain ⟨q12, hq13, h⟩ := am_bs h
    refine am_callV hc 8 X (k := 40) (i := 0) (o := oa0) (As := [am_i (-2)]) (rest := []) rfl (ok_X8_refuse l oa0 (-2) q1.2 hq13) yv_X8_refuse ml_X8_129 (cl_40) rfl rfl rfl rfl rfl ?_
    obtain rfl := Option.some.inj h
    exact am_iret hc X hr 9 rfl rfl rfl
def fn_X8_fit (a0 : Int32) (a1 : Int64) (σ : am_S) : Option (Int64 × am_S) :=
  (if a0 = 0 then some (((((((a1 : Int64).toInt32) : Int32).toInt8.toInt32) : Int32).toInt64), σ) else (if a0 = 1 then some (((((((a1 : Int64).toInt32) : Int32).toInt16.toInt32) : Int32).toInt64), σ) else (if a0 = 2 then some (((((a1 : Int64).toInt32) : Int32).toInt64), σ) else (if a0 = 3 then some (a1, σ) else (if (lg_cmp a1 0) = 0 then some (0, σ) else some (1, σ))))))
set_option maxRecDepth 100000 in
theorem ok_X8_fit (l : Launch) (a0 : Int32) (a1 : Int64) (σ : am_S) {q : Int64 × am_S} (h : fn_X8_fit a0 a1 σ = some q) : am_M l yX8_fit cX8_fit 3 (some .long) 0 [am_i a0, am_l a1] σ (some (am_l q.1)) q.2 := by
  refine am_M_of (P := am_p8) (by decide +kernel) am_p8_ok rfl ?_
  intro G p e s m args below meth c X hr
  have hc := ct_X8_fit
  unfold fn_X8_fit at h
  refine am_blk hc X 0 1 (fr' := (1, [(0, am_i a0), (1, am_l a1)], [am_i a0], σ)) rfl ⟨trivial, trivial⟩ ?_
  by_cases c2 : a0 = 0
  · replace h := am_ip c2 h
    refine am_tin hc X 1 (tgt := 32) (off := 31) rfl (by rw [c2]; decide) (by rw [c2]; decide) (by rw [c2]; rfl) (by decide) ?_
    refine am_blk hc X 2 4 (fr' := (36, [(0, am_i a0), (1, am_l a1)], [am_l ((((((a1 : Int64).toInt32) : Int32).toInt8.toInt32) : Int32).toInt64)], σ)) rfl ⟨trivial, trivial, trivial, trivial, trivial⟩ ?_
    obtain rfl := Option.some.inj h
    exact am_lret hc X hr 6 rfl rfl rfl
  · replace h := am_in2 c2 h
    by_cases c3 : a0 = 1
    · replace h := am_ip c3 h
      refine am_tin hc X 1 (tgt := 37) (off := 36) rfl (by rw [c3]; decide) (by rw [c3]; decide) (by rw [c3]; rfl) (by decide) ?_
      refine am_blk hc X 7 4 (fr' := (41, [(0, am_i a0), (1, am_l a1)], [am_l ((((((a1 : Int64).toInt32) : Int32).toInt16.toInt32) : Int32).toInt64)], σ)) rfl ⟨trivial, trivial, trivial, trivial, trivial⟩ ?_
      obtain rfl := Option.some.inj h
      exact am_lret hc X hr 11 rfl rfl rfl
    · replace h := am_in2 c3 h
      by_cases c4 : a0 = 2
      · replace h := am_ip c4 h
        refine am_tin hc X 1 (tgt := 42) (off := 41) rfl (by rw [c4]; decide) (by rw [c4]; decide) (by rw [c4]; rfl) (by decide) ?_
        refine am_blk hc X 12 3 (fr' := (45, [(0, am_i a0), (1, am_l a1)], [am_l ((((a1 : Int64).toInt32) : Int32).toInt64)], σ)) rfl ⟨trivial, trivial, trivial, trivial⟩ ?_
        obtain rfl := Option.some.inj h
        exact am_lret hc X hr 15 rfl rfl rfl
      · replace h := am_in2 c4 h
        by_cases c5 : a0 = 3
        · replace h := am_ip c5 h
          refine am_tin hc X 1 (tgt := 46) (off := 45) rfl (by rw [c5]; decide) (by rw [c5]; decide) (by rw [c5]; rfl) (by decide) ?_
          refine am_blk hc X 16 1 (fr' := (47, [(0, am_i a0), (1, am_l a1)], [am_l a1], σ)) rfl ⟨trivial, trivial⟩ ?_
          obtain rfl := Option.some.inj h
          exact am_lret hc X hr 17 rfl rfl rfl
        · replace h := am_in2 c5 h
          refine am_tout hc X 1 (tgt := 48) rfl (am_sw 0 3 (fun z h1 h2 => ?_)) (by decide) ?_
          · rcases (show z = 0 ∨ z = 1 ∨ z = 2 ∨ z = 3 by omega) with rfl | rfl | rfl | rfl
            · exact lv_neT c2 rfl
            · exact lv_neT c3 rfl
            · exact lv_neT c4 rfl
            · exact lv_neT c5 rfl
          · refine am_blk hc X 18 3 (fr' := (51, [(0, am_i a0), (1, am_l a1)], [am_i (lg_cmp a1 0)], σ)) rfl ⟨trivial, trivial, trivial, trivial⟩ ?_
            refine am_if_eq hc X 21 (tgt := 58) rfl (by decide) (fun c1 => ?_) (fun c1 => ?_)
            · replace h := am_ip c1 h
              refine am_blk hc X 24 1 (fr' := (59, [(0, am_i a0), (1, am_l a1)], [am_l 0], σ)) rfl ⟨trivial, trivial⟩ ?_
              obtain rfl := Option.some.inj h
              exact am_lret hc X hr 25 rfl rfl rfl
            · replace h := am_in2 c1 h
              refine am_blk hc X 22 2 (fr' := (59, [(0, am_i a0), (1, am_l a1)], [am_l 1], σ)) rfl ⟨trivial, trivial, trivial⟩ ?_
              obtain rfl := Option.some.inj h
              exact am_lret hc X hr 25 rfl rfl rfl
def jn_X8_fits_15   (σ : am_S) : Option (Int32 × am_S) :=
  some (1, σ)
set_option maxRecDepth 100000 in
theorem jl_X8_fits_15 {p : Program} {l : Launch} {e : Env} {s : State} {m : MethodId} {args : Array Value} {below : List Frame} {meth : Method} {c : Code} {G : am_G} {q : Int32 × am_S} (X : am_X p s m args c cX8_fits yX8_fits.cls 3 am_p8 G (am_fr G)) (hr : meth.sig.returnType = (some .boolean) ∧ meth.locks = false)     (σ : am_S) (h : jn_X8_fits_15   σ = some q) : am_A p l e (am_ro 0) s m args below meth c 3 G (am_fr G) 0 0 (MQ below (am_Qc G (some (am_i q.1)) q.2) args s 0 0 (am_fr G)) (15, [], [], σ) := by
  have hc := ct_X8_fits
  unfold jn_X8_fits_15 at h
  refine am_blk hc X 9 2 (fr' := (20, [], [am_i 1], σ)) rfl ⟨trivial, trivial, trivial⟩ ?_
  obtain rfl := Option.some.inj h
  exact am_zret hc X hr 12 rfl (by decide) rfl rfl
def fn_X8_fits (a0 : Int64) (a1 : Int32) (σ : am_S) : Option (Int32 × am_S) :=
  (if (lg_cmp a0 (-1)) = 0 then jn_X8_fits_15   (σ) else (if (lg_cmp a0 ((a1 : Int32).toInt64)) = 0 then jn_X8_fits_15   (σ) else some (0, σ)))
set_option maxRecDepth 100000 in
theorem ok_X8_fits (l : Launch) (a0 : Int64) (a1 : Int32) (σ : am_S) {q : Int32 × am_S} (h : fn_X8_fits a0 a1 σ = some q) : am_M l yX8_fits cX8_fits 3 (some .boolean) 0 [am_l a0, am_i a1] σ (some (am_i q.1)) q.2 := by
  refine am_M_of (P := am_p8) (by decide +kernel) am_p8_ok rfl ?_
  intro G p e s m args below meth c X hr
  have hc := ct_X8_fits
  unfold fn_X8_fits at h
  refine am_blk hc X 0 3 (fr' := (5, [(0, am_l a0), (2, am_i a1)], [am_i (lg_cmp a0 (-1))], σ)) rfl ⟨trivial, trivial, trivial, trivial⟩ ?_
  refine am_if_eq hc X 3 (tgt := 15) rfl (by decide) (fun c2 => ?_) (fun c2 => ?_)
  · replace h := am_ip c2 h
    refine am_less [] rfl ?_
    exact jl_X8_fits_15 X hr    _ h
  · replace h := am_in2 c2 h
    refine am_blk hc X 4 4 (fr' := (12, [(0, am_l a0), (2, am_i a1)], [am_i (lg_cmp a0 ((a1 : Int32).toInt64))], σ)) rfl ⟨trivial, trivial, trivial, trivial, trivial⟩ ?_
    refine am_if_ne hc X 8 (tgt := 19) rfl (by decide) (fun c1 => ?_) (fun c1 => ?_)
    · replace h := am_in2 c1 h
      refine am_blk hc X 11 1 (fr' := (20, [(0, am_l a0), (2, am_i a1)], [am_i 0], σ)) rfl ⟨trivial, trivial⟩ ?_
      obtain rfl := Option.some.inj h
      exact am_zret hc X hr 12 rfl (by decide) rfl rfl
    · replace h := am_ip c1 h
      refine am_less [] rfl ?_
      exact jl_X8_fits_15 X hr    _ h
def lb_X8_journeysTo_4 (k4 : Nat → Int32 → Int32 → Int32 → am_S → Option (Int32 × am_S)) (ox0 : Nat) (x1 : Int32) (x2 : Int32) (x3 : Int32) (σ : am_S) : Option (Int32 × am_S) :=
  (if 7 ≤ x3 then (if 1000000 ≤ x2 then some (1000000, σ) else some (x2, σ)) else (bif am_in x1 41 then (bif am_in x3 7 then k4 ox0 x1 (x2 + (σ.1 ox0 74 ((x1 : Int32).toNatClampNeg) ((x3 : Int32).toNatClampNeg))) (x3 + 1) (σ) else none) else none))
set_option maxRecDepth 100000 in
theorem lc_X8_journeysTo_4 {p : Program} {l : Launch} {e : Env} {s : State} {m : MethodId} {args : Array Value} {below : List Frame} {meth : Method} {c : Code} {G : am_G} {q : Int32 × am_S} (X : am_X p s m args c cX8_journeysTo yX8_journeysTo.cls 4 am_p8 G (am_fr G)) (hr : meth.sig.returnType = (some .int) ∧ meth.locks = false)  (k4 : Nat → Int32 → Int32 → Int32 → am_S → Option (Int32 × am_S)) (hk4 : ∀ (ox0 : Nat) (x1 : Int32) (x2 : Int32) (x3 : Int32) (σ : am_S), k4 ox0 x1 x2 x3 σ = some q → am_A p l e (am_ro 0) s m args below meth c 4 G (am_fr G) 0 0 (MQ below (am_Qc G (some (am_i q.1)) q.2) args s 0 0 (am_fr G)) (4, [(0, am_r ox0 40 0), (1, am_i x1), (2, am_i x2), (3, am_i x3)], [], σ)) (ox0 : Nat) (x1 : Int32) (x2 : Int32) (x3 : Int32) (σ : am_S) (h : lb_X8_journeysTo_4 k4 ox0 x1 x2 x3 σ = some q) : am_A p l e (am_ro 0) s m args below meth c 4 G (am_fr G) 0 0 (MQ below (am_Qc G (some (am_i q.1)) q.2) args s 0 0 (am_fr G)) (4, [(0, am_r ox0 40 0), (1, am_i x1), (2, am_i x2), (3, am_i x3)], [], σ) := by
  have hc := ct_X8_journeysTo
  unfold lb_X8_journeysTo_4 at h
  refine am_blk hc X 4 2 (fr' := (7, [(0, am_r ox0 40 0), (1, am_i x1), (2, am_i x2), (3, am_i x3)], [am_i 7, am_i x3], σ)) rfl ⟨trivial, trivial, trivial⟩ ?_
  refine am_icmp_ge hc X 6 (tgt := 27) rfl (by decide) (fun c4 => ?_) (fun c4 => ?_)
  · replace h := am_ip c4 h
    refine am_blk hc X 18 2 (fr' := (31, [(0, am_r ox0 40 0), (1, am_i x1), (2, am_i x2), (3, am_i x3)], [am_i 1000000, am_i x2], σ)) rfl ⟨trivial, trivial, trivial⟩ ?_
    refine am_icmp_ge hc X 20 (tgt := 38) rfl (by decide) (fun c1 => ?_) (fun c1 => ?_)
    · replace h := am_ip c1 h
      refine am_blk hc X 23 1 (fr' := (41, [(0, am_r ox0 40 0), (1, am_i x1), (2, am_i x2), (3, am_i x3)], [am_i 1000000], σ)) rfl ⟨trivial, trivial⟩ ?_
      obtain rfl := Option.some.inj h
      exact am_iret hc X hr 24 rfl rfl rfl
    · replace h := am_in2 c1 h
      refine am_blk hc X 21 2 (fr' := (41, [(0, am_r ox0 40 0), (1, am_i x1), (2, am_i x2), (3, am_i x3)], [am_i x2], σ)) rfl ⟨trivial, trivial, trivial⟩ ?_
      obtain rfl := Option.some.inj h
      exact am_iret hc X hr 24 rfl rfl rfl
  · replace h := am_in2 c4 h
    obtain ⟨ob2, h⟩ := am_ci h
    obtain ⟨ob3, h⟩ := am_ci h
    refine am_blk hc X 7 11 (fr' := (4, [(0, am_r ox0 40 0), (1, am_i x1), (2, am_i (x2 + (σ.1 ox0 74 ((x1 : Int32).toNatClampNeg) ((x3 : Int32).toNatClampNeg)))), (3, am_i (x3 + 1))], [], σ)) rfl ⟨trivial, trivial, trivial, trivial, (am_in_vp ob2), trivial, (am_in_vp ob3), trivial, trivial, trivial, trivial, trivial⟩ ?_
    exact hk4 ox0 x1 (x2 + (σ.1 ox0 74 ((x1 : Int32).toNatClampNeg) ((x3 : Int32).toNatClampNeg))) (x3 + 1) _ h
def lp_X8_journeysTo_4  : Nat → Nat → Int32 → Int32 → Int32 → am_S → Option (Int32 × am_S)
  | 0 => fun _ _ _ _ _ => none
  | n + 1 => lb_X8_journeysTo_4  (lp_X8_journeysTo_4  n)
theorem ll_X8_journeysTo_4 {p : Program} {l : Launch} {e : Env} {s : State} {m : MethodId} {args : Array Value} {below : List Frame} {meth : Method} {c : Code} {G : am_G} {q : Int32 × am_S} (X : am_X p s m args c cX8_journeysTo yX8_journeysTo.cls 4 am_p8 G (am_fr G)) (hr : meth.sig.returnType = (some .int) ∧ meth.locks = false)    : ∀ (n : Nat) (ox0 : Nat) (x1 : Int32) (x2 : Int32) (x3 : Int32) (σ : am_S), lp_X8_journeysTo_4  n ox0 x1 x2 x3 σ = some q → am_A p l e (am_ro 0) s m args below meth c 4 G (am_fr G) 0 0 (MQ below (am_Qc G (some (am_i q.1)) q.2) args s 0 0 (am_fr G)) (4, [(0, am_r ox0 40 0), (1, am_i x1), (2, am_i x2), (3, am_i x3)], [], σ) := by
  intro n
  induction n with
  | zero =>
    intro ox0 x1 x2 x3 σ h
    have h : (none : Option (Int32 × am_S)) = some q := h
    cases h
  | succ n ih =>
    intro ox0 x1 x2 x3 σ h
    exact lc_X8_journeysTo_4 X hr  (lp_X8_journeysTo_4  n) ih ox0 x1 x2 x3 σ h
def fn_X8_journeysTo (oa0 : Nat) (a1 : Int32) (σ : am_S) : Option (Int32 × am_S) :=
  lp_X8_journeysTo_4  1000 oa0 a1 0 0 (σ)
set_option maxRecDepth 100000 in
theorem ok_X8_journeysTo (l : Launch) (oa0 : Nat) (a1 : Int32) (σ : am_S) {q : Int32 × am_S} (h : fn_X8_journeysTo oa0 a1 σ = some q) : am_M l yX8_journeysTo cX8_journeysTo 4 (some .int) 0 [am_r oa0 40 0, am_i a1] σ (some (am_i q.1)) q.2 := by
  refine am_M_of (P := am_p8) (by decide +kernel) am_p8_ok rfl ?_
  intro G p e s m args below meth c X hr
  have hc := ct_X8_journeysTo
  unfold fn_X8_journeysTo at h
  refine am_blk hc X 0 4 (fr' := (4, [(0, am_r oa0 40 0), (1, am_i a1), (2, am_i 0), (3, am_i 0)], [], σ)) rfl ⟨trivial, trivial, trivial, trivial, trivial⟩ ?_
  exact ll_X8_journeysTo_4 X hr   1000 oa0 a1 0 0 _ h
def lb_X8_forged_2 (k2 : Nat → Int32 → Int32 → am_S → Option (Int32 × am_S)) (ox0 : Nat) (x1 : Int32) (x2 : Int32) (σ : am_S) : Option (Int32 × am_S) :=
  (if x1 ≤ x2 then some ((-1), σ) else (fn_X8_journeysTo ox0 (x2 + (1 : Int32)) (σ)).bind fun q1 => (if q1.1 = 0 then some (x2, q1.2) else k2 ox0 x1 (x2 + 1) q1.2))
set_option maxRecDepth 100000 in
theorem lc_X8_forged_2 {p : Program} {l : Launch} {e : Env} {s : State} {m : MethodId} {args : Array Value} {below : List Frame} {meth : Method} {c : Code} {G : am_G} {q : Int32 × am_S} (X : am_X p s m args c cX8_forged yX8_forged.cls 3 am_p8 G (am_fr G)) (hr : meth.sig.returnType = (some .int) ∧ meth.locks = false)  (k2 : Nat → Int32 → Int32 → am_S → Option (Int32 × am_S)) (hk2 : ∀ (ox0 : Nat) (x1 : Int32) (x2 : Int32) (σ : am_S), k2 ox0 x1 x2 σ = some q → am_A p l e (am_ro 1) s m args below meth c 3 G (am_fr G) 0 0 (MQ below (am_Qc G (some (am_i q.1)) q.2) args s 0 0 (am_fr G)) (2, [(0, am_r ox0 40 0), (1, am_i x1), (2, am_i x2)], [], σ)) (ox0 : Nat) (x1 : Int32) (x2 : Int32) (σ : am_S) (h : lb_X8_forged_2 k2 ox0 x1 x2 σ = some q) : am_A p l e (am_ro 1) s m args below meth c 3 G (am_fr G) 0 0 (MQ below (am_Qc G (some (am_i q.1)) q.2) args s 0 0 (am_fr G)) (2, [(0, am_r ox0 40 0), (1, am_i x1), (2, am_i x2)], [], σ) := by
  have hc := ct_X8_forged
  unfold lb_X8_forged_2 at h
  refine am_blk hc X 2 2 (fr' := (4, [(0, am_r ox0 40 0), (1, am_i x1), (2, am_i x2)], [am_i x1, am_i x2], σ)) rfl ⟨trivial, trivial, trivial⟩ ?_
  refine am_icmp_ge hc X 4 (tgt := 25) rfl (by decide) (fun c4 => ?_) (fun c4 => ?_)
  · replace h := am_ip c4 h
    refine am_blk hc X 15 1 (fr' := (26, [(0, am_r ox0 40 0), (1, am_i x1), (2, am_i x2)], [am_i (-1)], σ)) rfl ⟨trivial, trivial⟩ ?_
    obtain rfl := Option.some.inj h
    exact am_iret hc X hr 16 rfl rfl rfl
  · replace h := am_in2 c4 h
    refine am_blk hc X 5 4 (fr' := (11, [(0, am_r ox0 40 0), (1, am_i x1), (2, am_i x2)], [am_i (x2 + (1 : Int32)), am_r ox0 40 0], σ)) rfl ⟨trivial, trivial, trivial, trivial, trivial⟩ ?_
    obtain ⟨q1, hq2, h⟩ := am_bs h
    refine am_callV hc 9 X (k := 40) (i := 0) (o := ox0) (As := [am_i (x2 + (1 : Int32))]) (rest := []) rfl (ok_X8_journeysTo l ox0 (x2 + (1 : Int32)) (σ) hq2) yv_X8_journeysTo ml_X8_349 (cl_40) rfl rfl rfl rfl rfl ?_
    refine am_if_ne hc X 10 (tgt := 19) rfl (by decide) (fun c3 => ?_) (fun c3 => ?_)
    · replace h := am_in2 c3 h
      refine am_blk hc X 13 2 (fr' := (2, [(0, am_r ox0 40 0), (1, am_i x1), (2, am_i (x2 + 1))], [], q1.2)) rfl ⟨trivial, trivial, trivial⟩ ?_
      exact hk2 ox0 x1 (x2 + 1) _ h
    · replace h := am_ip c3 h
      refine am_blk hc X 11 1 (fr' := (18, [(0, am_r ox0 40 0), (1, am_i x1), (2, am_i x2)], [am_i x2], q1.2)) rfl ⟨trivial, trivial⟩ ?_
      obtain rfl := Option.some.inj h
      exact am_iret hc X hr 12 rfl rfl rfl
def lp_X8_forged_2  : Nat → Nat → Int32 → Int32 → am_S → Option (Int32 × am_S)
  | 0 => fun _ _ _ _ => none
  | n + 1 => lb_X8_forged_2  (lp_X8_forged_2  n)
theorem ll_X8_forged_2 {p : Program} {l : Launch} {e : Env} {s : State} {m : MethodId} {args : Array Value} {below : List Frame} {meth : Method} {c : Code} {G : am_G} {q : Int32 × am_S} (X : am_X p s m args c cX8_forged yX8_forged.cls 3 am_p8 G (am_fr G)) (hr : meth.sig.returnType = (some .int) ∧ meth.locks = false)    : ∀ (n : Nat) (ox0 : Nat) (x1 : Int32) (x2 : Int32) (σ : am_S), lp_X8_forged_2  n ox0 x1 x2 σ = some q → am_A p l e (am_ro 1) s m args below meth c 3 G (am_fr G) 0 0 (MQ below (am_Qc G (some (am_i q.1)) q.2) args s 0 0 (am_fr G)) (2, [(0, am_r ox0 40 0), (1, am_i x1), (2, am_i x2)], [], σ) := by
  intro n
  induction n with
  | zero =>
    intro ox0 x1 x2 σ h
    have h : (none : Option (Int32 × am_S)) = some q := h
    cases h
  | succ n ih =>
    intro ox0 x1 x2 σ h
    exact lc_X8_forged_2 X hr  (lp_X8_forged_2  n) ih ox0 x1 x2 σ h
def fn_X8_forged (oa0 : Nat) (a1 : Int32) (σ : am_S) : Option (Int32 × am_S) :=
  lp_X8_forged_2  1000 oa0 a1 0 (σ)
set_option maxRecDepth 100000 in
theorem ok_X8_forged (l : Launch) (oa0 : Nat) (a1 : Int32) (σ : am_S) {q : Int32 × am_S} (h : fn_X8_forged oa0 a1 σ = some q) : am_M l yX8_forged cX8_forged 3 (some .int) 1 [am_r oa0 40 0, am_i a1] σ (some (am_i q.1)) q.2 := by
  refine am_M_of (P := am_p8) (by decide +kernel) am_p8_ok rfl ?_
  intro G p e s m args below meth c X hr
  have hc := ct_X8_forged
  unfold fn_X8_forged at h
  refine am_blk hc X 0 2 (fr' := (2, [(0, am_r oa0 40 0), (1, am_i a1), (2, am_i 0)], [], σ)) rfl ⟨trivial, trivial, trivial⟩ ?_
  exact ll_X8_forged_2 X hr   1000 oa0 a1 0 _ h
def fn_X8_holds (oa0 : Nat) (a1 : Int32) (σ : am_S) : Option (Int32 × am_S) :=
  (fn_X8_in ((a1 : Int32).toInt64) 0 7 (σ)).bind fun q1 => (if q1.1 = 0 then some ((-1), q1.2) else (bif am_in a1 8 then (if (q1.2.1 oa0 41 0 ((a1 : Int32).toNatClampNeg)) = 0 then some ((-1), q1.2) else (bif am_in a1 8 then (if (q1.2.1 oa0 41 0 ((a1 : Int32).toNatClampNeg)) = 1 then (bif am_in a1 8 then some ((q1.2.1 oa0 42 0 ((a1 : Int32).toNatClampNeg)), q1.2) else none) else (bif am_in a1 8 then some (((10 : Int32) + (q1.2.1 oa0 47 0 ((a1 : Int32).toNatClampNeg))), q1.2) else none)) else none)) else none))
set_option maxRecDepth 100000 in
theorem ok_X8_holds (l : Launch) (oa0 : Nat) (a1 : Int32) (σ : am_S) {q : Int32 × am_S} (h : fn_X8_holds oa0 a1 σ = some q) : am_M l yX8_holds cX8_holds 2 (some .int) 1 [am_r oa0 40 0, am_i a1] σ (some (am_i q.1)) q.2 := by
  refine am_M_of (P := am_p8) (by decide +kernel) am_p8_ok rfl ?_
  intro G p e s m args below meth c X hr
  have hc := ct_X8_holds
  unfold fn_X8_holds at h
  refine am_blk hc X 0 4 (fr' := (6, [(0, am_r oa0 40 0), (1, am_i a1)], [am_l 7, am_l 0, am_l ((a1 : Int32).toInt64)], σ)) rfl ⟨trivial, trivial, trivial, trivial, trivial⟩ ?_
  obtain ⟨q1, hq2, h⟩ := am_bs h
  refine am_callS hc 4 X (As := [am_l ((a1 : Int32).toInt64), am_l 0, am_l 7]) (rest := []) rfl (ok_X8_in l ((a1 : Int32).toInt64) 0 7 (σ) hq2) yv_X8_in ml_X8_117 rfl rfl rfl rfl rfl ?_
  refine am_if_eq hc X 5 (tgt := 21) rfl (by decide) (fun c9 => ?_) (fun c9 => ?_)
  · replace h := am_ip c9 h
    refine am_blk hc X 11 1 (fr' := (22, [(0, am_r oa0 40 0), (1, am_i a1)], [am_i (-1)], q1.2)) rfl ⟨trivial, trivial⟩ ?_
    obtain rfl := Option.some.inj h
    exact am_iret hc X hr 12 rfl rfl rfl
  · replace h := am_in2 c9 h
    obtain ⟨ob3, h⟩ := am_ci h
    refine am_blk hc X 6 4 (fr' := (18, [(0, am_r oa0 40 0), (1, am_i a1)], [am_i (q1.2.1 oa0 41 0 ((a1 : Int32).toNatClampNeg))], q1.2)) rfl ⟨trivial, trivial, trivial, (am_in_vp ob3), trivial⟩ ?_
    refine am_if_ne hc X 10 (tgt := 23) rfl (by decide) (fun c8 => ?_) (fun c8 => ?_)
    · replace h := am_in2 c8 h
      obtain ⟨ob4, h⟩ := am_ci h
      refine am_blk hc X 13 5 (fr' := (30, [(0, am_r oa0 40 0), (1, am_i a1)], [am_i 1, am_i (q1.2.1 oa0 41 0 ((a1 : Int32).toNatClampNeg))], q1.2)) rfl ⟨trivial, trivial, trivial, (am_in_vp ob4), trivial, trivial⟩ ?_
      refine am_icmp_ne hc X 18 (tgt := 42) rfl (by decide) (fun c7 => ?_) (fun c7 => ?_)
      · replace h := am_in2 c7 h
        obtain ⟨ob5, h⟩ := am_ci h
        refine am_blk hc X 24 6 (fr' := (51, [(0, am_r oa0 40 0), (1, am_i a1)], [am_i ((10 : Int32) + (q1.2.1 oa0 47 0 ((a1 : Int32).toNatClampNeg)))], q1.2)) rfl ⟨trivial, trivial, trivial, trivial, (am_in_vp ob5), trivial, trivial⟩ ?_
        obtain rfl := Option.some.inj h
        exact am_iret hc X hr 30 rfl rfl rfl
      · replace h := am_ip c7 h
        obtain ⟨ob6, h⟩ := am_ci h
        refine am_blk hc X 19 5 (fr' := (51, [(0, am_r oa0 40 0), (1, am_i a1)], [am_i (q1.2.1 oa0 42 0 ((a1 : Int32).toNatClampNeg))], q1.2)) rfl ⟨trivial, trivial, trivial, (am_in_vp ob6), trivial, trivial⟩ ?_
        obtain rfl := Option.some.inj h
        exact am_iret hc X hr 30 rfl rfl rfl
    · replace h := am_ip c8 h
      refine am_blk hc X 11 1 (fr' := (22, [(0, am_r oa0 40 0), (1, am_i a1)], [am_i (-1)], q1.2)) rfl ⟨trivial, trivial⟩ ?_
      obtain rfl := Option.some.inj h
      exact am_iret hc X hr 12 rfl rfl rfl
def lb_X8_copied_71_72_2 (k2 : Nat → Nat → Int32 → am_S → Option (am_S)) (ox0 : Nat) (ox1 : Nat) (x2 : Int32) (σ : am_S) : Option (am_S) :=
  (if 6 ≤ x2 then some (σ) else (bif am_in x2 6 then (bif am_in x2 6 then k2 ox0 ox1 (x2 + 1) (am_u σ ox1 72 0 ((x2 : Int32).toNatClampNeg) (σ.1 ox0 71 0 ((x2 : Int32).toNatClampNeg))) else none) else none))
set_option maxRecDepth 100000 in
theorem lc_X8_copied_71_72_2 {p : Program} {l : Launch} {e : Env} {s : State} {m : MethodId} {args : Array Value} {below : List Frame} {meth : Method} {c : Code} {G : am_G} {q : am_S} (X : am_X p s m args c cX8_copied yX8_copied.cls 3 am_p8 G (am_fr G)) (hr : meth.sig.returnType = none ∧ meth.locks = false)  (k2 : Nat → Nat → Int32 → am_S → Option (am_S)) (hk2 : ∀ (ox0 : Nat) (ox1 : Nat) (x2 : Int32) (σ : am_S), k2 ox0 ox1 x2 σ = some q → am_A p l e (am_ro 0) s m args below meth c 3 G (am_fr G) 0 0 (MQ below (am_Qc G none q) args s 0 0 (am_fr G)) (2, [(0, am_r ox0 71 0), (1, am_r ox1 72 0), (2, am_i x2)], [], σ)) (ox0 : Nat) (ox1 : Nat) (x2 : Int32) (σ : am_S) (h : lb_X8_copied_71_72_2 k2 ox0 ox1 x2 σ = some q) : am_A p l e (am_ro 0) s m args below meth c 3 G (am_fr G) 0 0 (MQ below (am_Qc G none q) args s 0 0 (am_fr G)) (2, [(0, am_r ox0 71 0), (1, am_r ox1 72 0), (2, am_i x2)], [], σ) := by
  have hc := ct_X8_copied
  unfold lb_X8_copied_71_72_2 at h
  refine am_blk hc X 2 3 (fr' := (5, [(0, am_r ox0 71 0), (1, am_r ox1 72 0), (2, am_i x2)], [am_i 6, am_i x2], σ)) rfl ⟨trivial, trivial, trivial, trivial⟩ ?_
  refine am_icmp_ge hc X 5 (tgt := 20) rfl (by decide) (fun c3 => ?_) (fun c3 => ?_)
  · replace h := am_ip c3 h
    obtain rfl := Option.some.inj h
    exact am_vret hc X hr 14 rfl rfl rfl
  · replace h := am_in2 c3 h
    obtain ⟨ob1, h⟩ := am_ci h
    obtain ⟨ob2, h⟩ := am_ci h
    refine am_blk hc X 6 8 (fr' := (2, [(0, am_r ox0 71 0), (1, am_r ox1 72 0), (2, am_i (x2 + 1))], [], (am_u σ ox1 72 0 ((x2 : Int32).toNatClampNeg) (σ.1 ox0 71 0 ((x2 : Int32).toNatClampNeg))))) rfl ⟨trivial, trivial, trivial, trivial, (am_in_vp ob1), (am_in_vp ob2), trivial, trivial, trivial⟩ ?_
    exact hk2 ox0 ox1 (x2 + 1) _ h
def lp_X8_copied_71_72_2  : Nat → Nat → Nat → Int32 → am_S → Option (am_S)
  | 0 => fun _ _ _ _ => none
  | n + 1 => lb_X8_copied_71_72_2  (lp_X8_copied_71_72_2  n)
theorem ll_X8_copied_71_72_2 {p : Program} {l : Launch} {e : Env} {s : State} {m : MethodId} {args : Array Value} {below : List Frame} {meth : Method} {c : Code} {G : am_G} {q : am_S} (X : am_X p s m args c cX8_copied yX8_copied.cls 3 am_p8 G (am_fr G)) (hr : meth.sig.returnType = none ∧ meth.locks = false)    : ∀ (n : Nat) (ox0 : Nat) (ox1 : Nat) (x2 : Int32) (σ : am_S), lp_X8_copied_71_72_2  n ox0 ox1 x2 σ = some q → am_A p l e (am_ro 0) s m args below meth c 3 G (am_fr G) 0 0 (MQ below (am_Qc G none q) args s 0 0 (am_fr G)) (2, [(0, am_r ox0 71 0), (1, am_r ox1 72 0), (2, am_i x2)], [], σ) := by
  intro n
  induction n with
  | zero =>
    intro ox0 ox1 x2 σ h
    have h : (none : Option (am_S)) = some q := h
    cases h
  | succ n ih =>
    intro ox0 ox1 x2 σ h
    exact lc_X8_copied_71_72_2 X hr  (lp_X8_copied_71_72_2  n) ih ox0 ox1 x2 σ h
def fn_X8_copied_71_72 (oa0 : Nat) (oa1 : Nat) (σ : am_S) : Option (am_S) :=
  lp_X8_copied_71_72_2  1000 oa0 oa1 0 (σ)
set_option maxRecDepth 100000 in
theorem ok_X8_copied_71_72 (l : Launch) (oa0 : Nat) (oa1 : Nat) (σ : am_S) {q : am_S} (h : fn_X8_copied_71_72 oa0 oa1 σ = some q) : am_M l yX8_copied cX8_copied 3 none 0 [am_r oa0 71 0, am_r oa1 72 0] σ none q := by
  refine am_M_of (P := am_p8) (by decide +kernel) am_p8_ok rfl ?_
  intro G p e s m args below meth c X hr
  have hc := ct_X8_copied
  unfold fn_X8_copied_71_72 at h
  refine am_blk hc X 0 2 (fr' := (2, [(0, am_r oa0 71 0), (1, am_r oa1 72 0), (2, am_i 0)], [], σ)) rfl ⟨trivial, trivial, trivial⟩ ?_
  exact ll_X8_copied_71_72_2 X hr   1000 oa0 oa1 0 _ h
def jn_X8_seekHomes_92 (rec : Nat → Int32 → Int32 → Int32 → am_S → Option (am_S)) (k44 : Nat → Int32 → Int32 → Int32 → Int32 → am_S → Option (am_S)) (ox0 : Nat) (x1 : Int32) (x2 : Int32) (x3 : Int32) (x4 : Int32) (σ : am_S) : Option (am_S) :=
  k44 ox0 x1 x2 x3 (x4 + 1) (σ)
set_option maxRecDepth 100000 in
theorem jl_X8_seekHomes_92 {p : Program} {l : Launch} {e : Env} {s : State} {m : MethodId} {args : Array Value} {below : List Frame} {meth : Method} {c : Code} {G : am_G} {q : am_S} (X : am_X p s m args c cX8_seekHomes yX8_seekHomes.cls 5 am_p8 G (am_fr G)) (hr : meth.sig.returnType = none ∧ meth.locks = false) {d : Nat} (rec : Nat → Int32 → Int32 → Int32 → am_S → Option (am_S)) (hrec : ∀ (oa0 : Nat) (a1 : Int32) (a2 : Int32) (a3 : Int32) (σ : am_S) {q : am_S}, rec oa0 a1 a2 a3 σ = some q → am_M l yX8_seekHomes cX8_seekHomes 5 none d [am_r oa0 40 0, am_i a1, am_i a2, am_i a3] σ none q)  (k44 : Nat → Int32 → Int32 → Int32 → Int32 → am_S → Option (am_S)) (hk44 : ∀ (ox0 : Nat) (x1 : Int32) (x2 : Int32) (x3 : Int32) (x4 : Int32) (σ : am_S), k44 ox0 x1 x2 x3 x4 σ = some q → am_A p l e (am_ro (d + 1)) s m args below meth c 5 G (am_fr G) 0 0 (MQ below (am_Qc G none q) args s 0 0 (am_fr G)) (44, [(0, am_r ox0 40 0), (1, am_i x1), (2, am_i x2), (3, am_i x3), (4, am_i x4)], [], σ)) (ox0 : Nat) (x1 : Int32) (x2 : Int32) (x3 : Int32) (x4 : Int32) (σ : am_S) (h : jn_X8_seekHomes_92 rec k44 ox0 x1 x2 x3 x4 σ = some q) : am_A p l e (am_ro (d + 1)) s m args below meth c 5 G (am_fr G) 0 0 (MQ below (am_Qc G none q) args s 0 0 (am_fr G)) (92, [(0, am_r ox0 40 0), (1, am_i x1), (2, am_i x2), (3, am_i x3), (4, am_i x4)], [], σ) := by
  have hc := ct_X8_seekHomes
  unfold jn_X8_seekHomes_92 at h
  refine am_blk hc X 55 2 (fr' := (44, [(0, am_r ox0 40 0), (1, am_i x1), (2, am_i x2), (3, am_i x3), (4, am_i (x4 + 1))], [], σ)) rfl ⟨trivial, trivial, trivial⟩ ?_
  exact hk44 ox0 x1 x2 x3 (x4 + 1) _ h
def lb_X8_seekHomes_44 (rec : Nat → Int32 → Int32 → Int32 → am_S → Option (am_S)) (k44 : Nat → Int32 → Int32 → Int32 → Int32 → am_S → Option (am_S)) (ox0 : Nat) (x1 : Int32) (x2 : Int32) (x3 : Int32) (x4 : Int32) (σ : am_S) : Option (am_S) :=
  (if 7 ≤ x4 then some (σ) else (if ((x2 >>> (x4 &&& 31)) &&& (1 : Int32)) = 0 then (bif am_in x1 6 then (bif am_in x1 6 then (bif am_in x4 7 then (rec ox0 (x1 + (1 : Int32)) (x2 ||| ((1 : Int32) <<< (x4 &&& 31))) (x3 + (σ.1 ox0 70 ((x1 : Int32).toNatClampNeg) ((x4 : Int32).toNatClampNeg))) (am_u σ ox0 71 0 ((x1 : Int32).toNatClampNeg) x4)).bind fun q4 => jn_X8_seekHomes_92 rec k44 ox0 x1 x2 x3 x4 q4 else none) else none) else none) else jn_X8_seekHomes_92 rec k44 ox0 x1 x2 x3 x4 (σ)))
set_option maxRecDepth 100000 in
theorem lc_X8_seekHomes_44 {p : Program} {l : Launch} {e : Env} {s : State} {m : MethodId} {args : Array Value} {below : List Frame} {meth : Method} {c : Code} {G : am_G} {q : am_S} (X : am_X p s m args c cX8_seekHomes yX8_seekHomes.cls 5 am_p8 G (am_fr G)) (hr : meth.sig.returnType = none ∧ meth.locks = false) {d : Nat} (rec : Nat → Int32 → Int32 → Int32 → am_S → Option (am_S)) (hrec : ∀ (oa0 : Nat) (a1 : Int32) (a2 : Int32) (a3 : Int32) (σ : am_S) {q : am_S}, rec oa0 a1 a2 a3 σ = some q → am_M l yX8_seekHomes cX8_seekHomes 5 none d [am_r oa0 40 0, am_i a1, am_i a2, am_i a3] σ none q)  (k44 : Nat → Int32 → Int32 → Int32 → Int32 → am_S → Option (am_S)) (hk44 : ∀ (ox0 : Nat) (x1 : Int32) (x2 : Int32) (x3 : Int32) (x4 : Int32) (σ : am_S), k44 ox0 x1 x2 x3 x4 σ = some q → am_A p l e (am_ro (d + 1)) s m args below meth c 5 G (am_fr G) 0 0 (MQ below (am_Qc G none q) args s 0 0 (am_fr G)) (44, [(0, am_r ox0 40 0), (1, am_i x1), (2, am_i x2), (3, am_i x3), (4, am_i x4)], [], σ)) (ox0 : Nat) (x1 : Int32) (x2 : Int32) (x3 : Int32) (x4 : Int32) (σ : am_S) (h : lb_X8_seekHomes_44 rec k44 ox0 x1 x2 x3 x4 σ = some q) : am_A p l e (am_ro (d + 1)) s m args below meth c 5 G (am_fr G) 0 0 (MQ below (am_Qc G none q) args s 0 0 (am_fr G)) (44, [(0, am_r ox0 40 0), (1, am_i x1), (2, am_i x2), (3, am_i x3), (4, am_i x4)], [], σ) := by
  have hc := ct_X8_seekHomes
  unfold lb_X8_seekHomes_44 at h
  refine am_blk hc X 23 2 (fr' := (48, [(0, am_r ox0 40 0), (1, am_i x1), (2, am_i x2), (3, am_i x3), (4, am_i x4)], [am_i 7, am_i x4], σ)) rfl ⟨trivial, trivial, trivial⟩ ?_
  refine am_icmp_ge hc X 25 (tgt := 98) rfl (by decide) (fun c7 => ?_) (fun c7 => ?_)
  · replace h := am_ip c7 h
    obtain rfl := Option.some.inj h
    exact am_vret hc X hr 57 rfl rfl rfl
  · replace h := am_in2 c7 h
    refine am_blk hc X 26 5 (fr' := (57, [(0, am_r ox0 40 0), (1, am_i x1), (2, am_i x2), (3, am_i x3), (4, am_i x4)], [am_i ((x2 >>> (x4 &&& 31)) &&& (1 : Int32))], σ)) rfl ⟨trivial, trivial, trivial, trivial, trivial, trivial⟩ ?_
    refine am_if_ne hc X 31 (tgt := 92) rfl (by decide) (fun c6 => ?_) (fun c6 => ?_)
    · replace h := am_in2 c6 h
      exact jl_X8_seekHomes_92 X hr rec hrec k44 hk44 ox0 x1 x2 x3 x4 _ h
    · replace h := am_ip c6 h
      obtain ⟨ob1, h⟩ := am_ci h
      obtain ⟨ob2, h⟩ := am_ci h
      obtain ⟨ob3, h⟩ := am_ci h
      refine am_blk hc X 32 22 (fr' := (89, [(0, am_r ox0 40 0), (1, am_i x1), (2, am_i x2), (3, am_i x3), (4, am_i x4)], [am_i (x3 + (σ.1 ox0 70 ((x1 : Int32).toNatClampNeg) ((x4 : Int32).toNatClampNeg))), am_i (x2 ||| ((1 : Int32) <<< (x4 &&& 31))), am_i (x1 + (1 : Int32)), am_r ox0 40 0], (am_u σ ox0 71 0 ((x1 : Int32).toNatClampNeg) x4))) rfl ⟨trivial, trivial, trivial, trivial, (am_in_vp ob1), trivial, trivial, trivial, trivial, trivial, trivial, trivial, trivial, trivial, trivial, trivial, trivial, trivial, (am_in_vp ob2), trivial, (am_in_vp ob3), trivial, trivial⟩ ?_
      obtain ⟨q4, hq5, h⟩ := am_bs h
      refine am_callV hc 54 X (k := 40) (i := 0) (o := ox0) (As := [am_i (x1 + (1 : Int32)), am_i (x2 ||| ((1 : Int32) <<< (x4 &&& 31))), am_i (x3 + (σ.1 ox0 70 ((x1 : Int32).toNatClampNeg) ((x4 : Int32).toNatClampNeg)))]) (rest := []) rfl (hrec ox0 (x1 + (1 : Int32)) (x2 ||| ((1 : Int32) <<< (x4 &&& 31))) (x3 + (σ.1 ox0 70 ((x1 : Int32).toNatClampNeg) ((x4 : Int32).toNatClampNeg))) (am_u σ ox0 71 0 ((x1 : Int32).toNatClampNeg) x4) hq5) yv_X8_seekHomes ml_X8_336 (cl_40) (am_ble _) rfl rfl rfl rfl ?_
      exact jl_X8_seekHomes_92 X hr rec hrec k44 hk44 ox0 x1 x2 x3 x4 _ h
def lp_X8_seekHomes_44 (rec : Nat → Int32 → Int32 → Int32 → am_S → Option (am_S))  : Nat → Nat → Int32 → Int32 → Int32 → Int32 → am_S → Option (am_S)
  | 0 => fun _ _ _ _ _ _ => none
  | n + 1 => lb_X8_seekHomes_44 rec  (lp_X8_seekHomes_44 rec  n)
theorem ll_X8_seekHomes_44 {p : Program} {l : Launch} {e : Env} {s : State} {m : MethodId} {args : Array Value} {below : List Frame} {meth : Method} {c : Code} {G : am_G} {q : am_S} (X : am_X p s m args c cX8_seekHomes yX8_seekHomes.cls 5 am_p8 G (am_fr G)) (hr : meth.sig.returnType = none ∧ meth.locks = false) {d : Nat} (rec : Nat → Int32 → Int32 → Int32 → am_S → Option (am_S)) (hrec : ∀ (oa0 : Nat) (a1 : Int32) (a2 : Int32) (a3 : Int32) (σ : am_S) {q : am_S}, rec oa0 a1 a2 a3 σ = some q → am_M l yX8_seekHomes cX8_seekHomes 5 none d [am_r oa0 40 0, am_i a1, am_i a2, am_i a3] σ none q)    : ∀ (n : Nat) (ox0 : Nat) (x1 : Int32) (x2 : Int32) (x3 : Int32) (x4 : Int32) (σ : am_S), lp_X8_seekHomes_44 rec  n ox0 x1 x2 x3 x4 σ = some q → am_A p l e (am_ro (d + 1)) s m args below meth c 5 G (am_fr G) 0 0 (MQ below (am_Qc G none q) args s 0 0 (am_fr G)) (44, [(0, am_r ox0 40 0), (1, am_i x1), (2, am_i x2), (3, am_i x3), (4, am_i x4)], [], σ) := by
  intro n
  induction n with
  | zero =>
    intro ox0 x1 x2 x3 x4 σ h
    have h : (none : Option (am_S)) = some q := h
    cases h
  | succ n ih =>
    intro ox0 x1 x2 x3 x4 σ h
    exact lc_X8_seekHomes_44 X hr rec hrec  (lp_X8_seekHomes_44 rec  n) ih ox0 x1 x2 x3 x4 σ h
def jn_X8_seekHomes_24 (rec : Nat → Int32 → Int32 → Int32 → am_S → Option (am_S))  (ox0 : Nat) (x3 : Int32) (σ : am_S) : Option (am_S) :=
  (fn_X8_copied_71_72 ox0 ox0 (am_u σ ox0 40 0 44 x3)).bind fun q8 => some q8
set_option maxRecDepth 100000 in
theorem jl_X8_seekHomes_24 {p : Program} {l : Launch} {e : Env} {s : State} {m : MethodId} {args : Array Value} {below : List Frame} {meth : Method} {c : Code} {G : am_G} {q : am_S} (X : am_X p s m args c cX8_seekHomes yX8_seekHomes.cls 5 am_p8 G (am_fr G)) (hr : meth.sig.returnType = none ∧ meth.locks = false) {d : Nat} (rec : Nat → Int32 → Int32 → Int32 → am_S → Option (am_S)) (hrec : ∀ (oa0 : Nat) (a1 : Int32) (a2 : Int32) (a3 : Int32) (σ : am_S) {q : am_S}, rec oa0 a1 a2 a3 σ = some q → am_M l yX8_seekHomes cX8_seekHomes 5 none d [am_r oa0 40 0, am_i a1, am_i a2, am_i a3] σ none q)    (ox0 : Nat) (x3 : Int32) (σ : am_S) (h : jn_X8_seekHomes_24 rec  ox0 x3 σ = some q) : am_A p l e (am_ro (d + 1)) s m args below meth c 5 G (am_fr G) 0 0 (MQ below (am_Qc G none q) args s 0 0 (am_fr G)) (24, [(0, am_r ox0 40 0), (3, am_i x3)], [], σ) := by
  have hc := ct_X8_seekHomes
  unfold jn_X8_seekHomes_24 at h
  refine am_blk hc X 12 7 (fr' := (37, [(0, am_r ox0 40 0), (3, am_i x3)], [am_r ox0 72 0, am_r ox0 71 0], (am_u σ ox0 40 0 44 x3))) rfl ⟨trivial, trivial, trivial, trivial, trivial, trivial, trivial, trivial⟩ ?_
  obtain ⟨q8, hq9, h⟩ := am_bs h
  refine am_callS hc 19 X (As := [am_r ox0 71 0, am_r ox0 72 0]) (rest := []) rfl (ok_X8_copied_71_72 l ox0 ox0 (am_u σ ox0 40 0 44 x3) hq9) yv_X8_copied ml_X8_307 rfl rfl rfl rfl rfl ?_
  obtain rfl := Option.some.inj h
  exact am_vret hc X hr 20 rfl rfl rfl
def fb_X8_seekHomes (rec : Nat → Int32 → Int32 → Int32 → am_S → Option (am_S)) (oa0 : Nat) (a1 : Int32) (a2 : Int32) (a3 : Int32) (σ : am_S) : Option (am_S) :=
  (if a1 = (σ.1 oa0 40 0 15) then (if (σ.1 oa0 40 0 44) = (-1) then jn_X8_seekHomes_24 rec  oa0 a3 (σ) else (if (σ.1 oa0 40 0 44) ≤ a3 then some (σ) else jn_X8_seekHomes_24 rec  oa0 a3 (σ))) else lp_X8_seekHomes_44 rec  1000 oa0 a1 a2 a3 0 (σ))
set_option maxRecDepth 100000 in
theorem ob_X8_seekHomes (l : Launch) {d : Nat} (rec : Nat → Int32 → Int32 → Int32 → am_S → Option (am_S)) (hrec : ∀ (oa0 : Nat) (a1 : Int32) (a2 : Int32) (a3 : Int32) (σ : am_S) {q : am_S}, rec oa0 a1 a2 a3 σ = some q → am_M l yX8_seekHomes cX8_seekHomes 5 none d [am_r oa0 40 0, am_i a1, am_i a2, am_i a3] σ none q) (oa0 : Nat) (a1 : Int32) (a2 : Int32) (a3 : Int32) (σ : am_S) {q : am_S} (h : fb_X8_seekHomes rec oa0 a1 a2 a3 σ = some q) : am_M l yX8_seekHomes cX8_seekHomes 5 none (d + 1) [am_r oa0 40 0, am_i a1, am_i a2, am_i a3] σ none q := by
  refine am_M_of (P := am_p8) (by decide +kernel) am_p8_ok rfl ?_
  intro G p e s m args below meth c X hr
  have hc := ct_X8_seekHomes
  unfold fb_X8_seekHomes at h
  refine am_blk hc X 0 3 (fr' := (5, [(0, am_r oa0 40 0), (1, am_i a1), (2, am_i a2), (3, am_i a3)], [am_i (σ.1 oa0 40 0 15), am_i a1], σ)) rfl ⟨trivial, trivial, trivial, trivial⟩ ?_
  refine am_icmp_ne hc X 3 (tgt := 41) rfl (by decide) (fun c12 => ?_) (fun c12 => ?_)
  · replace h := am_in2 c12 h
    refine am_blk hc X 21 2 (fr' := (44, [(0, am_r oa0 40 0), (1, am_i a1), (2, am_i a2), (3, am_i a3), (4, am_i 0)], [], σ)) rfl ⟨trivial, trivial, trivial⟩ ?_
    exact ll_X8_seekHomes_44 X hr rec hrec   1000 oa0 a1 a2 a3 0 _ h
  · replace h := am_ip c12 h
    refine am_blk hc X 4 3 (fr' := (13, [(0, am_r oa0 40 0), (1, am_i a1), (2, am_i a2), (3, am_i a3)], [am_i (-1), am_i (σ.1 oa0 40 0 44)], σ)) rfl ⟨trivial, trivial, trivial, trivial⟩ ?_
    refine am_icmp_eq hc X 7 (tgt := 24) rfl (by decide) (fun c11 => ?_) (fun c11 => ?_)
    · replace h := am_ip c11 h
      refine am_less [0, 3] rfl ?_
      exact jl_X8_seekHomes_24 X hr rec hrec   oa0 a3 _ h
    · replace h := am_in2 c11 h
      refine am_blk hc X 8 3 (fr' := (21, [(0, am_r oa0 40 0), (1, am_i a1), (2, am_i a2), (3, am_i a3)], [am_i (σ.1 oa0 40 0 44), am_i a3], σ)) rfl ⟨trivial, trivial, trivial, trivial⟩ ?_
      refine am_icmp_ge hc X 11 (tgt := 40) rfl (by decide) (fun c10 => ?_) (fun c10 => ?_)
      · replace h := am_ip c10 h
        obtain rfl := Option.some.inj h
        exact am_vret hc X hr 20 rfl rfl rfl
      · replace h := am_in2 c10 h
        refine am_less [0, 3] rfl ?_
        exact jl_X8_seekHomes_24 X hr rec hrec   oa0 a3 _ h
def fn_X8_seekHomes : Nat → Nat → Int32 → Int32 → Int32 → am_S → Option (am_S)
  | 0 => fun _ _ _ _ _ => none
  | n + 1 => fb_X8_seekHomes (fn_X8_seekHomes n)
theorem ok_X8_seekHomes (l : Launch) : ∀ (n : Nat) (oa0 : Nat) (a1 : Int32) (a2 : Int32) (a3 : Int32) (σ : am_S) {q : am_S}, fn_X8_seekHomes n oa0 a1 a2 a3 σ = some q → am_M l yX8_seekHomes cX8_seekHomes 5 none n [am_r oa0 40 0, am_i a1, am_i a2, am_i a3] σ none q := by
  intro n
  induction n with
  | zero =>
    intro oa0 a1 a2 a3 σ q h
    have h : (none : Option (am_S)) = some q := h
    cases h
  | succ n ih =>
    intro oa0 a1 a2 a3 σ q h
    exact ob_X8_seekHomes l (fn_X8_seekHomes n) ih oa0 a1 a2 a3 σ h
def lb_X8_homes_58 (k41 : Nat → Int32 → Int32 → am_S → Option (Int32 × am_S)) (k58 : Nat → Int32 → Int32 → Int32 → am_S → Option (Int32 × am_S)) (ox0 : Nat) (x1 : Int32) (x2 : Int32) (x3 : Int32) (σ : am_S) : Option (Int32 × am_S) :=
  (if 7 ≤ x3 then k41 ox0 x1 (x2 + 1) (σ) else (bif am_in x2 6 then (fn_X8_tourFrom ox0 x2 x3 x3 (σ)).bind fun q10 => (bif am_in x3 7 then k58 ox0 x1 x2 (x3 + 1) (am_u q10.2 ox0 70 ((x2 : Int32).toNatClampNeg) ((x3 : Int32).toNatClampNeg) q10.1) else none) else none))
set_option maxRecDepth 100000 in
theorem lc_X8_homes_58 {p : Program} {l : Launch} {e : Env} {s : State} {m : MethodId} {args : Array Value} {below : List Frame} {meth : Method} {c : Code} {G : am_G} {q : Int32 × am_S} (X : am_X p s m args c cX8_homes yX8_homes.cls 4 am_p8 G (am_fr G)) (hr : meth.sig.returnType = (some .int) ∧ meth.locks = false)  (k41 : Nat → Int32 → Int32 → am_S → Option (Int32 × am_S)) (k58 : Nat → Int32 → Int32 → Int32 → am_S → Option (Int32 × am_S)) (hk41 : ∀ (ox0 : Nat) (x1 : Int32) (x2 : Int32) (σ : am_S), k41 ox0 x1 x2 σ = some q → am_A p l e (am_ro 10) s m args below meth c 4 G (am_fr G) 0 0 (MQ below (am_Qc G (some (am_i q.1)) q.2) args s 0 0 (am_fr G)) (41, [(0, am_r ox0 40 0), (1, am_i x1), (2, am_i x2)], [], σ)) (hk58 : ∀ (ox0 : Nat) (x1 : Int32) (x2 : Int32) (x3 : Int32) (σ : am_S), k58 ox0 x1 x2 x3 σ = some q → am_A p l e (am_ro 10) s m args below meth c 4 G (am_fr G) 0 0 (MQ below (am_Qc G (some (am_i q.1)) q.2) args s 0 0 (am_fr G)) (58, [(0, am_r ox0 40 0), (1, am_i x1), (2, am_i x2), (3, am_i x3)], [], σ)) (ox0 : Nat) (x1 : Int32) (x2 : Int32) (x3 : Int32) (σ : am_S) (h : lb_X8_homes_58 k41 k58 ox0 x1 x2 x3 σ = some q) : am_A p l e (am_ro 10) s m args below meth c 4 G (am_fr G) 0 0 (MQ below (am_Qc G (some (am_i q.1)) q.2) args s 0 0 (am_fr G)) (58, [(0, am_r ox0 40 0), (1, am_i x1), (2, am_i x2), (3, am_i x3)], [], σ) := by
  have hc := ct_X8_homes
  unfold lb_X8_homes_58 at h
  refine am_blk hc X 34 2 (fr' := (61, [(0, am_r ox0 40 0), (1, am_i x1), (2, am_i x2), (3, am_i x3)], [am_i 7, am_i x3], σ)) rfl ⟨trivial, trivial, trivial⟩ ?_
  refine am_icmp_ge hc X 36 (tgt := 85) rfl (by decide) (fun c13 => ?_) (fun c13 => ?_)
  · replace h := am_ip c13 h
    refine am_blk hc X 50 2 (fr' := (41, [(0, am_r ox0 40 0), (1, am_i x1), (2, am_i (x2 + 1)), (3, am_i x3)], [], σ)) rfl ⟨trivial, trivial, trivial⟩ ?_
    refine am_less [0, 1, 2] rfl ?_
    exact hk41 ox0 x1 (x2 + 1) _ h
  · replace h := am_in2 c13 h
    obtain ⟨ob9, h⟩ := am_ci h
    refine am_blk hc X 37 9 (fr' := (75, [(0, am_r ox0 40 0), (1, am_i x1), (2, am_i x2), (3, am_i x3)], [am_i x3, am_i x3, am_i x2, am_r ox0 40 0, am_i x3, am_r ox0 70 ((x2 : Int32).toNatClampNeg)], σ)) rfl ⟨trivial, trivial, trivial, (am_in_vp ob9), trivial, trivial, trivial, trivial, trivial, trivial⟩ ?_
    obtain ⟨q10, hq11, h⟩ := am_bs h
    refine am_callV hc 46 X (k := 40) (i := 0) (o := ox0) (As := [am_i x2, am_i x3, am_i x3]) (rest := [am_i x3, am_r ox0 70 ((x2 : Int32).toNatClampNeg)]) rfl (ok_X8_tourFrom l ox0 x2 x3 x3 (σ) hq11) yv_X8_tourFrom ml_X8_321 (cl_40) rfl rfl rfl rfl rfl ?_
    obtain ⟨ob12, h⟩ := am_ci h
    refine am_blk hc X 47 3 (fr' := (58, [(0, am_r ox0 40 0), (1, am_i x1), (2, am_i x2), (3, am_i (x3 + 1))], [], (am_u q10.2 ox0 70 ((x2 : Int32).toNatClampNeg) ((x3 : Int32).toNatClampNeg) q10.1))) rfl ⟨(am_in_vp ob12), trivial, trivial, trivial⟩ ?_
    exact hk58 ox0 x1 x2 (x3 + 1) _ h
def lp_X8_homes_58 (k41 : Nat → Int32 → Int32 → am_S → Option (Int32 × am_S)) : Nat → Nat → Int32 → Int32 → Int32 → am_S → Option (Int32 × am_S)
  | 0 => fun _ _ _ _ _ => none
  | n + 1 => lb_X8_homes_58 k41 (lp_X8_homes_58 k41 n)
theorem ll_X8_homes_58 {p : Program} {l : Launch} {e : Env} {s : State} {m : MethodId} {args : Array Value} {below : List Frame} {meth : Method} {c : Code} {G : am_G} {q : Int32 × am_S} (X : am_X p s m args c cX8_homes yX8_homes.cls 4 am_p8 G (am_fr G)) (hr : meth.sig.returnType = (some .int) ∧ meth.locks = false)  (k41 : Nat → Int32 → Int32 → am_S → Option (Int32 × am_S)) (hk41 : ∀ (ox0 : Nat) (x1 : Int32) (x2 : Int32) (σ : am_S), k41 ox0 x1 x2 σ = some q → am_A p l e (am_ro 10) s m args below meth c 4 G (am_fr G) 0 0 (MQ below (am_Qc G (some (am_i q.1)) q.2) args s 0 0 (am_fr G)) (41, [(0, am_r ox0 40 0), (1, am_i x1), (2, am_i x2)], [], σ)) : ∀ (n : Nat) (ox0 : Nat) (x1 : Int32) (x2 : Int32) (x3 : Int32) (σ : am_S), lp_X8_homes_58 k41 n ox0 x1 x2 x3 σ = some q → am_A p l e (am_ro 10) s m args below meth c 4 G (am_fr G) 0 0 (MQ below (am_Qc G (some (am_i q.1)) q.2) args s 0 0 (am_fr G)) (58, [(0, am_r ox0 40 0), (1, am_i x1), (2, am_i x2), (3, am_i x3)], [], σ) := by
  intro n
  induction n with
  | zero =>
    intro ox0 x1 x2 x3 σ h
    have h : (none : Option (Int32 × am_S)) = some q := h
    cases h
  | succ n ih =>
    intro ox0 x1 x2 x3 σ h
    exact lc_X8_homes_58 X hr k41 (lp_X8_homes_58 k41 n) hk41 ih ox0 x1 x2 x3 σ h
def lb_X8_homes_41 (k41 : Nat → Int32 → Int32 → am_S → Option (Int32 × am_S)) (ox0 : Nat) (x1 : Int32) (x2 : Int32) (σ : am_S) : Option (Int32 × am_S) :=
  (if (σ.1 ox0 40 0 15) ≤ x2 then (fn_X8_seekHomes 7 ox0 0 0 0 (am_u σ ox0 40 0 44 (-1))).bind fun q3 => (if x1 = (-1) then some ((q3.1 ox0 40 0 44), q3) else (bif am_in x1 6 then some ((q3.1 ox0 72 0 ((x1 : Int32).toNatClampNeg)), q3) else none)) else (fn_X8_findFar ox0 x2 0 (-1) (σ)).bind fun q7 => lp_X8_homes_58 k41 1000 ox0 x1 x2 0 q7)
set_option maxRecDepth 100000 in
theorem lc_X8_homes_41 {p : Program} {l : Launch} {e : Env} {s : State} {m : MethodId} {args : Array Value} {below : List Frame} {meth : Method} {c : Code} {G : am_G} {q : Int32 × am_S} (X : am_X p s m args c cX8_homes yX8_homes.cls 4 am_p8 G (am_fr G)) (hr : meth.sig.returnType = (some .int) ∧ meth.locks = false)  (k41 : Nat → Int32 → Int32 → am_S → Option (Int32 × am_S)) (hk41 : ∀ (ox0 : Nat) (x1 : Int32) (x2 : Int32) (σ : am_S), k41 ox0 x1 x2 σ = some q → am_A p l e (am_ro 10) s m args below meth c 4 G (am_fr G) 0 0 (MQ below (am_Qc G (some (am_i q.1)) q.2) args s 0 0 (am_fr G)) (41, [(0, am_r ox0 40 0), (1, am_i x1), (2, am_i x2)], [], σ)) (ox0 : Nat) (x1 : Int32) (x2 : Int32) (σ : am_S) (h : lb_X8_homes_41 k41 ox0 x1 x2 σ = some q) : am_A p l e (am_ro 10) s m args below meth c 4 G (am_fr G) 0 0 (MQ below (am_Qc G (some (am_i q.1)) q.2) args s 0 0 (am_fr G)) (41, [(0, am_r ox0 40 0), (1, am_i x1), (2, am_i x2)], [], σ) := by
  have hc := ct_X8_homes
  unfold lb_X8_homes_41 at h
  refine am_blk hc X 23 3 (fr' := (46, [(0, am_r ox0 40 0), (1, am_i x1), (2, am_i x2)], [am_i (σ.1 ox0 40 0 15), am_i x2], σ)) rfl ⟨trivial, trivial, trivial, trivial⟩ ?_
  refine am_icmp_ge hc X 26 (tgt := 91) rfl (by decide) (fun c14 => ?_) (fun c14 => ?_)
  · replace h := am_ip c14 h
    refine am_blk hc X 52 7 (fr' := (100, [(0, am_r ox0 40 0), (1, am_i x1), (2, am_i x2)], [am_i 0, am_i 0, am_i 0, am_r ox0 40 0], (am_u σ ox0 40 0 44 (-1)))) rfl ⟨trivial, trivial, trivial, trivial, trivial, trivial, trivial, trivial⟩ ?_
    obtain ⟨q3, hq4, h⟩ := am_bs h
    refine am_callV hc 59 X (k := 40) (i := 0) (o := ox0) (As := [am_i 0, am_i 0, am_i 0]) (rest := []) rfl (ok_X8_seekHomes l  7 ox0 0 0 0 (am_u σ ox0 40 0 44 (-1)) hq4) yv_X8_seekHomes ml_X8_336 (cl_40) rfl rfl rfl rfl rfl ?_
    refine am_blk hc X 60 2 (fr' := (105, [(0, am_r ox0 40 0), (1, am_i x1), (2, am_i x2)], [am_i (-1), am_i x1], q3)) rfl ⟨trivial, trivial, trivial⟩ ?_
    refine am_icmp_ne hc X 62 (tgt := 115) rfl (by decide) (fun c6 => ?_) (fun c6 => ?_)
    · replace h := am_in2 c6 h
      obtain ⟨ob5, h⟩ := am_ci h
      refine am_blk hc X 66 4 (fr' := (121, [(0, am_r ox0 40 0), (1, am_i x1), (2, am_i x2)], [am_i (q3.1 ox0 72 0 ((x1 : Int32).toNatClampNeg))], q3)) rfl ⟨trivial, trivial, trivial, (am_in_vp ob5), trivial⟩ ?_
      obtain rfl := Option.some.inj h
      exact am_iret hc X hr 70 rfl rfl rfl
    · replace h := am_ip c6 h
      refine am_blk hc X 63 3 (fr' := (121, [(0, am_r ox0 40 0), (1, am_i x1), (2, am_i x2)], [am_i (q3.1 ox0 40 0 44)], q3)) rfl ⟨trivial, trivial, trivial, trivial⟩ ?_
      obtain rfl := Option.some.inj h
      exact am_iret hc X hr 70 rfl rfl rfl
  · replace h := am_in2 c14 h
    refine am_blk hc X 27 4 (fr' := (53, [(0, am_r ox0 40 0), (1, am_i x1), (2, am_i x2)], [am_i (-1), am_i 0, am_i x2, am_r ox0 40 0], σ)) rfl ⟨trivial, trivial, trivial, trivial, trivial⟩ ?_
    obtain ⟨q7, hq8, h⟩ := am_bs h
    refine am_callV hc 31 X (k := 40) (i := 0) (o := ox0) (As := [am_i x2, am_i 0, am_i (-1)]) (rest := []) rfl (ok_X8_findFar l ox0 x2 0 (-1) (σ) hq8) yv_X8_findFar ml_X8_304 (cl_40) rfl rfl rfl rfl rfl ?_
    refine am_blk hc X 32 2 (fr' := (58, [(0, am_r ox0 40 0), (1, am_i x1), (2, am_i x2), (3, am_i 0)], [], q7)) rfl ⟨trivial, trivial, trivial⟩ ?_
    exact ll_X8_homes_58 X hr k41 hk41 1000 ox0 x1 x2 0 _ h
def lp_X8_homes_41  : Nat → Nat → Int32 → Int32 → am_S → Option (Int32 × am_S)
  | 0 => fun _ _ _ _ => none
  | n + 1 => lb_X8_homes_41  (lp_X8_homes_41  n)
theorem ll_X8_homes_41 {p : Program} {l : Launch} {e : Env} {s : State} {m : MethodId} {args : Array Value} {below : List Frame} {meth : Method} {c : Code} {G : am_G} {q : Int32 × am_S} (X : am_X p s m args c cX8_homes yX8_homes.cls 4 am_p8 G (am_fr G)) (hr : meth.sig.returnType = (some .int) ∧ meth.locks = false)    : ∀ (n : Nat) (ox0 : Nat) (x1 : Int32) (x2 : Int32) (σ : am_S), lp_X8_homes_41  n ox0 x1 x2 σ = some q → am_A p l e (am_ro 10) s m args below meth c 4 G (am_fr G) 0 0 (MQ below (am_Qc G (some (am_i q.1)) q.2) args s 0 0 (am_fr G)) (41, [(0, am_r ox0 40 0), (1, am_i x1), (2, am_i x2)], [], σ) := by
  intro n
  induction n with
  | zero =>
    intro ox0 x1 x2 σ h
    have h : (none : Option (Int32 × am_S)) = some q := h
    cases h
  | succ n ih =>
    intro ox0 x1 x2 σ h
    exact lc_X8_homes_41 X hr  (lp_X8_homes_41  n) ih ox0 x1 x2 σ h
def fn_X8_homes (oa0 : Nat) (a1 : Int32) (σ : am_S) : Option (Int32 × am_S) :=
  (fn_X8_in ((a1 : Int32).toInt64) (-1) ((((σ.1 oa0 40 0 15) - (1 : Int32)) : Int32).toInt64) (σ)).bind fun q1 => (if q1.1 = 0 then (fn_X8_refuse oa0 (-2) q1.2).bind fun q18 => some (q18.1, q18.2) else (if (q1.2.1 oa0 40 0 15) = 0 then (fn_X8_refuse oa0 (-5) q1.2).bind fun q15 => some (q15.1, q15.2) else lp_X8_homes_41  1000 oa0 a1 0 q1.2))
set_option maxRecDepth 100000 in
theorem ok_X8_homes (l : Launch) (oa0 : Nat) (a1 : Int32) (σ : am_S) {q : Int32 × am_S} (h : fn_X8_homes oa0 a1 σ = some q) : am_M l yX8_homes cX8_homes 4 (some .int) 10 [am_r oa0 40 0, am_i a1] σ (some (am_i q.1)) q.2 := by
  refine am_M_of (P := am_p8) (by decide +kernel) am_p8_ok rfl ?_
  intro G p e s m args below meth c X hr
  have hc := ct_X8_homes
  unfold fn_X8_homes at h
  refine am_blk hc X 0 8 (fr' := (12, [(0, am_r oa0 40 0), (1, am_i a1)], [am_l ((((σ.1 oa0 40 0 15) - (1 : Int32)) : Int32).toInt64), am_l (-1), am_l ((a1 : Int32).toInt64)], σ)) rfl ⟨trivial, trivial, trivial, trivial, trivial, trivial, trivial, trivial, trivial⟩ ?_
  obtain ⟨q1, hq2, h⟩ := am_bs h
  refine am_callS hc 8 X (As := [am_l ((a1 : Int32).toInt64), am_l (-1), am_l ((((σ.1 oa0 40 0 15) - (1 : Int32)) : Int32).toInt64)]) (rest := []) rfl (ok_X8_in l ((a1 : Int32).toInt64) (-1) ((((σ.1 oa0 40 0 15) - (1 : Int32)) : Int32).toInt64) (σ) hq2) yv_X8_in ml_X8_117 rfl rfl rfl rfl rfl ?_
  refine am_if_ne hc X 9 (tgt := 25) rfl (by decide) (fun c20 => ?_) (fun c20 => ?_)
  · replace h := am_in2 c20 h
    refine am_blk hc X 14 2 (fr' := (29, [(0, am_r oa0 40 0), (1, am_i a1)], [am_i (q1.2.1 oa0 40 0 15)], q1.2)) rfl ⟨trivial, trivial, trivial⟩ ?_
    refine am_if_ne hc X 16 (tgt := 39) rfl (by decide) (fun c17 => ?_) (fun c17 => ?_)
    · replace h := am_in2 c17 h
      refine am_blk hc X 21 2 (fr' := (41, [(0, am_r oa0 40 0), (1, am_i a1), (2, am_i 0)], [], q1.2)) rfl ⟨trivial, trivial, trivial⟩ ?_
      exact ll_X8_homes_41 X hr   1000 oa0 a1 0 _ h
    · replace h := am_ip c17 h
      refine am_blk hc X 17 2 (fr' := (35, [(0, am_r oa0 40 0), (1, am_i a1)], [am_i (-5), am_r oa0 40 0], q1.2)) rfl ⟨trivial, trivial, trivial⟩ ?_
      obtain ⟨q15, hq16, h⟩ := am_bs h
      refine am_callV hc 19 X (k := 40) (i := 0) (o := oa0) (As := [am_i (-5)]) (rest := []) rfl (ok_X8_refuse l oa0 (-5) q1.2 hq16) yv_X8_refuse ml_X8_129 (cl_40) rfl rfl rfl rfl rfl ?_
      obtain rfl := Option.some.inj h
      exact am_iret hc X hr 20 rfl rfl rfl
  · replace h := am_ip c20 h
    refine am_blk hc X 10 2 (fr' := (21, [(0, am_r oa0 40 0), (1, am_i a1)], [am_i (-2), am_r oa0 40 0], q1.2)) rfl ⟨trivial, trivial, trivial⟩ ?_
    obtain ⟨q18, hq19, h⟩ := am_bs h
    refine am_callV hc 12 X (k := 40) (i := 0) (o := oa0) (As := [am_i (-2)]) (rest := []) rfl (ok_X8_refuse l oa0 (-2) q1.2 hq19) yv_X8_refuse ml_X8_129 (cl_40) rfl rfl rfl rfl rfl ?_
    obtain rfl := Option.some.inj h
    exact am_iret hc X hr 13 rfl rfl rfl
def fn_X8_isDigit (a0 : Int32) (σ : am_S) : Option (Int32 × am_S) :=
  (if a0 < 48 then some (0, σ) else (if 57 < a0 then some (0, σ) else some (1, σ)))
set_option maxRecDepth 100000 in
theorem ok_X8_isDigit (l : Launch) (a0 : Int32) (σ : am_S) {q : Int32 × am_S} (h : fn_X8_isDigit a0 σ = some q) : am_M l yX8_isDigit cX8_isDigit 1 (some .boolean) 0 [am_i a0] σ (some (am_i q.1)) q.2 := by
  refine am_M_of (P := am_p8) (by decide +kernel) am_p8_ok rfl ?_
  intro G p e s m args below meth c X hr
  have hc := ct_X8_isDigit
  unfold fn_X8_isDigit at h
  refine am_blk hc X 0 2 (fr' := (3, [(0, am_i a0)], [am_i 48, am_i a0], σ)) rfl ⟨trivial, trivial, trivial⟩ ?_
  refine am_icmp_lt hc X 2 (tgt := 16) rfl (by decide) (fun c2 => ?_) (fun c2 => ?_)
  · replace h := am_ip c2 h
    refine am_blk hc X 8 1 (fr' := (17, [(0, am_i a0)], [am_i 0], σ)) rfl ⟨trivial, trivial⟩ ?_
    obtain rfl := Option.some.inj h
    exact am_zret hc X hr 9 rfl (by decide) rfl rfl
  · replace h := am_in2 c2 h
    refine am_blk hc X 3 2 (fr' := (9, [(0, am_i a0)], [am_i 57, am_i a0], σ)) rfl ⟨trivial, trivial, trivial⟩ ?_
    refine am_icmp_gt hc X 5 (tgt := 16) rfl (by decide) (fun c1 => ?_) (fun c1 => ?_)
    · replace h := am_ip c1 h
      refine am_blk hc X 8 1 (fr' := (17, [(0, am_i a0)], [am_i 0], σ)) rfl ⟨trivial, trivial⟩ ?_
      obtain rfl := Option.some.inj h
      exact am_zret hc X hr 9 rfl (by decide) rfl rfl
    · replace h := am_in2 c1 h
      refine am_blk hc X 6 2 (fr' := (17, [(0, am_i a0)], [am_i 1], σ)) rfl ⟨trivial, trivial, trivial⟩ ?_
      obtain rfl := Option.some.inj h
      exact am_zret hc X hr 9 rfl (by decide) rfl rfl
def fn_X8_isLetter (a0 : Int32) (σ : am_S) : Option (Int32 × am_S) :=
  (if a0 < 97 then some (0, σ) else (if 122 < a0 then some (0, σ) else some (1, σ)))
set_option maxRecDepth 100000 in
theorem ok_X8_isLetter (l : Launch) (a0 : Int32) (σ : am_S) {q : Int32 × am_S} (h : fn_X8_isLetter a0 σ = some q) : am_M l yX8_isLetter cX8_isLetter 1 (some .boolean) 0 [am_i a0] σ (some (am_i q.1)) q.2 := by
  refine am_M_of (P := am_p8) (by decide +kernel) am_p8_ok rfl ?_
  intro G p e s m args below meth c X hr
  have hc := ct_X8_isLetter
  unfold fn_X8_isLetter at h
  refine am_blk hc X 0 2 (fr' := (3, [(0, am_i a0)], [am_i 97, am_i a0], σ)) rfl ⟨trivial, trivial, trivial⟩ ?_
  refine am_icmp_lt hc X 2 (tgt := 16) rfl (by decide) (fun c2 => ?_) (fun c2 => ?_)
  · replace h := am_ip c2 h
    refine am_blk hc X 8 1 (fr' := (17, [(0, am_i a0)], [am_i 0], σ)) rfl ⟨trivial, trivial⟩ ?_
    obtain rfl := Option.some.inj h
    exact am_zret hc X hr 9 rfl (by decide) rfl rfl
  · replace h := am_in2 c2 h
    refine am_blk hc X 3 2 (fr' := (9, [(0, am_i a0)], [am_i 122, am_i a0], σ)) rfl ⟨trivial, trivial, trivial⟩ ?_
    refine am_icmp_gt hc X 5 (tgt := 16) rfl (by decide) (fun c1 => ?_) (fun c1 => ?_)
    · replace h := am_ip c1 h
      refine am_blk hc X 8 1 (fr' := (17, [(0, am_i a0)], [am_i 0], σ)) rfl ⟨trivial, trivial⟩ ?_
      obtain rfl := Option.some.inj h
      exact am_zret hc X hr 9 rfl (by decide) rfl rfl
    · replace h := am_in2 c1 h
      refine am_blk hc X 6 2 (fr' := (17, [(0, am_i a0)], [am_i 1], σ)) rfl ⟨trivial, trivial, trivial⟩ ?_
      obtain rfl := Option.some.inj h
      exact am_zret hc X hr 9 rfl (by decide) rfl rfl
def jn_X8_isUnder_29   (σ : am_S) : Option (Int32 × am_S) :=
  some (1, σ)
set_option maxRecDepth 100000 in
theorem jl_X8_isUnder_29 {p : Program} {l : Launch} {e : Env} {s : State} {m : MethodId} {args : Array Value} {below : List Frame} {meth : Method} {c : Code} {G : am_G} {q : Int32 × am_S} (X : am_X p s m args c cX8_isUnder yX8_isUnder.cls 2 am_p8 G (am_fr G)) (hr : meth.sig.returnType = (some .boolean) ∧ meth.locks = false)     (σ : am_S) (h : jn_X8_isUnder_29   σ = some q) : am_A p l e (am_ro 0) s m args below meth c 2 G (am_fr G) 0 0 (MQ below (am_Qc G (some (am_i q.1)) q.2) args s 0 0 (am_fr G)) (29, [], [], σ) := by
  have hc := ct_X8_isUnder
  unfold jn_X8_isUnder_29 at h
  refine am_blk hc X 17 2 (fr' := (34, [], [am_i 1], σ)) rfl ⟨trivial, trivial, trivial⟩ ?_
  obtain rfl := Option.some.inj h
  exact am_zret hc X hr 20 rfl (by decide) rfl rfl
def jn_X8_isUnder_19  (x0 : Int32) (x1 : Int32) (σ : am_S) : Option (Int32 × am_S) :=
  (if x1 = 2 then (if x0 = 4 then jn_X8_isUnder_29   (σ) else some (0, σ)) else some (0, σ))
set_option maxRecDepth 100000 in
theorem jl_X8_isUnder_19 {p : Program} {l : Launch} {e : Env} {s : State} {m : MethodId} {args : Array Value} {below : List Frame} {meth : Method} {c : Code} {G : am_G} {q : Int32 × am_S} (X : am_X p s m args c cX8_isUnder yX8_isUnder.cls 2 am_p8 G (am_fr G)) (hr : meth.sig.returnType = (some .boolean) ∧ meth.locks = false)    (x0 : Int32) (x1 : Int32) (σ : am_S) (h : jn_X8_isUnder_19  x0 x1 σ = some q) : am_A p l e (am_ro 0) s m args below meth c 2 G (am_fr G) 0 0 (MQ below (am_Qc G (some (am_i q.1)) q.2) args s 0 0 (am_fr G)) (19, [(0, am_i x0), (1, am_i x1)], [], σ) := by
  have hc := ct_X8_isUnder
  unfold jn_X8_isUnder_19 at h
  refine am_blk hc X 11 2 (fr' := (21, [(0, am_i x0), (1, am_i x1)], [am_i 2, am_i x1], σ)) rfl ⟨trivial, trivial, trivial⟩ ?_
  refine am_icmp_ne hc X 13 (tgt := 33) rfl (by decide) (fun c2 => ?_) (fun c2 => ?_)
  · replace h := am_in2 c2 h
    refine am_blk hc X 19 1 (fr' := (34, [(0, am_i x0), (1, am_i x1)], [am_i 0], σ)) rfl ⟨trivial, trivial⟩ ?_
    obtain rfl := Option.some.inj h
    exact am_zret hc X hr 20 rfl (by decide) rfl rfl
  · replace h := am_ip c2 h
    refine am_blk hc X 14 2 (fr' := (26, [(0, am_i x0), (1, am_i x1)], [am_i 4, am_i x0], σ)) rfl ⟨trivial, trivial, trivial⟩ ?_
    refine am_icmp_ne hc X 16 (tgt := 33) rfl (by decide) (fun c1 => ?_) (fun c1 => ?_)
    · replace h := am_in2 c1 h
      refine am_blk hc X 19 1 (fr' := (34, [(0, am_i x0), (1, am_i x1)], [am_i 0], σ)) rfl ⟨trivial, trivial⟩ ?_
      obtain rfl := Option.some.inj h
      exact am_zret hc X hr 20 rfl (by decide) rfl rfl
    · replace h := am_ip c1 h
      refine am_less [] rfl ?_
      exact jl_X8_isUnder_29 X hr    _ h
def fn_X8_isUnder (a0 : Int32) (a1 : Int32) (σ : am_S) : Option (Int32 × am_S) :=
  (if a1 = 0 then jn_X8_isUnder_29   (σ) else (if a0 = a1 then jn_X8_isUnder_29   (σ) else (if a1 = 1 then (if a0 = 3 then jn_X8_isUnder_29   (σ) else jn_X8_isUnder_19  a0 a1 (σ)) else jn_X8_isUnder_19  a0 a1 (σ))))
set_option maxRecDepth 100000 in
theorem ok_X8_isUnder (l : Launch) (a0 : Int32) (a1 : Int32) (σ : am_S) {q : Int32 × am_S} (h : fn_X8_isUnder a0 a1 σ = some q) : am_M l yX8_isUnder cX8_isUnder 2 (some .boolean) 0 [am_i a0, am_i a1] σ (some (am_i q.1)) q.2 := by
  refine am_M_of (P := am_p8) (by decide +kernel) am_p8_ok rfl ?_
  intro G p e s m args below meth c X hr
  have hc := ct_X8_isUnder
  unfold fn_X8_isUnder at h
  refine am_blk hc X 0 1 (fr' := (1, [(0, am_i a0), (1, am_i a1)], [am_i a1], σ)) rfl ⟨trivial, trivial⟩ ?_
  refine am_if_eq hc X 1 (tgt := 29) rfl (by decide) (fun c6 => ?_) (fun c6 => ?_)
  · replace h := am_ip c6 h
    refine am_less [] rfl ?_
    exact jl_X8_isUnder_29 X hr    _ h
  · replace h := am_in2 c6 h
    refine am_blk hc X 2 2 (fr' := (6, [(0, am_i a0), (1, am_i a1)], [am_i a1, am_i a0], σ)) rfl ⟨trivial, trivial, trivial⟩ ?_
    refine am_icmp_eq hc X 4 (tgt := 29) rfl (by decide) (fun c5 => ?_) (fun c5 => ?_)
    · replace h := am_ip c5 h
      refine am_less [] rfl ?_
      exact jl_X8_isUnder_29 X hr    _ h
    · replace h := am_in2 c5 h
      refine am_blk hc X 5 2 (fr' := (11, [(0, am_i a0), (1, am_i a1)], [am_i 1, am_i a1], σ)) rfl ⟨trivial, trivial, trivial⟩ ?_
      refine am_icmp_ne hc X 7 (tgt := 19) rfl (by decide) (fun c4 => ?_) (fun c4 => ?_)
      · replace h := am_in2 c4 h
        exact jl_X8_isUnder_19 X hr   a0 a1 _ h
      · replace h := am_ip c4 h
        refine am_blk hc X 8 2 (fr' := (16, [(0, am_i a0), (1, am_i a1)], [am_i 3, am_i a0], σ)) rfl ⟨trivial, trivial, trivial⟩ ?_
        refine am_icmp_eq hc X 10 (tgt := 29) rfl (by decide) (fun c3 => ?_) (fun c3 => ?_)
        · replace h := am_ip c3 h
          refine am_less [] rfl ?_
          exact jl_X8_isUnder_29 X hr    _ h
        · replace h := am_in2 c3 h
          exact jl_X8_isUnder_19 X hr   a0 a1 _ h
def lb_X8_isWord_36_28 (k28 : Nat → Nat → Int32 → am_S → Option (Int32 × am_S)) (ox0 : Nat) (ix1 : Nat) (x2 : Int32) (σ : am_S) : Option (Int32 × am_S) :=
  (fn_J0_length_8abf5_36 ix1 (σ)).bind fun q3 => (if q3.1 ≤ x2 then some (1, q3.2) else (bif am_in ((q3.2.1 ox0 40 0 30) + x2) 250 then (fn_J0_charAt_5068e_36 ix1 x2 q3.2).bind fun q6 => (if (q3.2.1 ox0 48 0 ((((q3.2.1 ox0 40 0 30) + x2) : Int32).toNatClampNeg)) = q6.1 then k28 ox0 ix1 (x2 + 1) q6.2 else some (0, q6.2)) else none))
set_option maxRecDepth 100000 in
theorem lc_X8_isWord_36_28 {p : Program} {l : Launch} {e : Env} {s : State} {m : MethodId} {args : Array Value} {below : List Frame} {meth : Method} {c : Code} {G : am_G} {q : Int32 × am_S} (X : am_X p s m args c cX8_isWord yX8_isWord.cls 3 am_p8 G (am_fr G)) (hr : meth.sig.returnType = (some .boolean) ∧ meth.locks = false)  (k28 : Nat → Nat → Int32 → am_S → Option (Int32 × am_S)) (hk28 : ∀ (ox0 : Nat) (ix1 : Nat) (x2 : Int32) (σ : am_S), k28 ox0 ix1 x2 σ = some q → am_A p l e (am_ro 4) s m args below meth c 3 G (am_fr G) 0 0 (MQ below (am_Qc G (some (am_i q.1)) q.2) args s 0 0 (am_fr G)) (28, [(0, am_r ox0 40 0), (1, am_r 17 36 ix1), (2, am_i x2)], [], σ)) (ox0 : Nat) (ix1 : Nat) (x2 : Int32) (σ : am_S) (h : lb_X8_isWord_36_28 k28 ox0 ix1 x2 σ = some q) : am_A p l e (am_ro 4) s m args below meth c 3 G (am_fr G) 0 0 (MQ below (am_Qc G (some (am_i q.1)) q.2) args s 0 0 (am_fr G)) (28, [(0, am_r ox0 40 0), (1, am_r 17 36 ix1), (2, am_i x2)], [], σ) := by
  have hc := ct_X8_isWord
  unfold lb_X8_isWord_36_28 at h
  refine am_blk hc X 16 2 (fr' := (30, [(0, am_r ox0 40 0), (1, am_r 17 36 ix1), (2, am_i x2)], [am_r 17 36 ix1, am_i x2], σ)) rfl ⟨trivial, trivial, trivial⟩ ?_
  obtain ⟨q3, hq4, h⟩ := am_bs h
  refine am_callT hc 18 X (i := ix1) (As := []) (rest := [am_i x2]) rfl (ok_J0_length_8abf5_36 l ix1 (σ) hq4) yv_J0_length_8abf5 ml_X8_203 rfl rfl rfl rfl rfl rfl ?_
  refine am_icmp_ge hc X 19 (tgt := 63) rfl (by decide) (fun c9 => ?_) (fun c9 => ?_)
  · replace h := am_ip c9 h
    refine am_blk hc X 35 1 (fr' := (64, [(0, am_r ox0 40 0), (1, am_r 17 36 ix1), (2, am_i x2)], [am_i 1], q3.2)) rfl ⟨trivial, trivial⟩ ?_
    obtain rfl := Option.some.inj h
    exact am_zret hc X hr 36 rfl (by decide) rfl rfl
  · replace h := am_in2 c9 h
    obtain ⟨ob5, h⟩ := am_ci h
    refine am_blk hc X 20 9 (fr' := (49, [(0, am_r ox0 40 0), (1, am_r 17 36 ix1), (2, am_i x2)], [am_i x2, am_r 17 36 ix1, am_i (q3.2.1 ox0 48 0 ((((q3.2.1 ox0 40 0 30) + x2) : Int32).toNatClampNeg))], q3.2)) rfl ⟨trivial, trivial, trivial, trivial, trivial, trivial, (am_in_vp ob5), trivial, trivial, trivial⟩ ?_
    obtain ⟨q6, hq7, h⟩ := am_bs h
    refine am_callT hc 29 X (i := ix1) (As := [am_i x2]) (rest := [am_i (q3.2.1 ox0 48 0 ((((q3.2.1 ox0 40 0 30) + x2) : Int32).toNatClampNeg))]) rfl (ok_J0_charAt_5068e_36 l ix1 x2 q3.2 hq7) yv_J0_charAt_5068e ml_X8_209 rfl rfl rfl rfl rfl rfl ?_
    refine am_icmp_eq hc X 30 (tgt := 57) rfl (by decide) (fun c8 => ?_) (fun c8 => ?_)
    · replace h := am_ip c8 h
      refine am_blk hc X 33 2 (fr' := (28, [(0, am_r ox0 40 0), (1, am_r 17 36 ix1), (2, am_i (x2 + 1))], [], q6.2)) rfl ⟨trivial, trivial, trivial⟩ ?_
      exact hk28 ox0 ix1 (x2 + 1) _ h
    · replace h := am_in2 c8 h
      refine am_blk hc X 31 1 (fr' := (56, [(0, am_r ox0 40 0), (1, am_r 17 36 ix1), (2, am_i x2)], [am_i 0], q6.2)) rfl ⟨trivial, trivial⟩ ?_
      obtain rfl := Option.some.inj h
      exact am_zret hc X hr 32 rfl (by decide) rfl rfl
def lp_X8_isWord_36_28  : Nat → Nat → Nat → Int32 → am_S → Option (Int32 × am_S)
  | 0 => fun _ _ _ _ => none
  | n + 1 => lb_X8_isWord_36_28  (lp_X8_isWord_36_28  n)
theorem ll_X8_isWord_36_28 {p : Program} {l : Launch} {e : Env} {s : State} {m : MethodId} {args : Array Value} {below : List Frame} {meth : Method} {c : Code} {G : am_G} {q : Int32 × am_S} (X : am_X p s m args c cX8_isWord yX8_isWord.cls 3 am_p8 G (am_fr G)) (hr : meth.sig.returnType = (some .boolean) ∧ meth.locks = false)    : ∀ (n : Nat) (ox0 : Nat) (ix1 : Nat) (x2 : Int32) (σ : am_S), lp_X8_isWord_36_28  n ox0 ix1 x2 σ = some q → am_A p l e (am_ro 4) s m args below meth c 3 G (am_fr G) 0 0 (MQ below (am_Qc G (some (am_i q.1)) q.2) args s 0 0 (am_fr G)) (28, [(0, am_r ox0 40 0), (1, am_r 17 36 ix1), (2, am_i x2)], [], σ) := by
  intro n
  induction n with
  | zero =>
    intro ox0 ix1 x2 σ h
    have h : (none : Option (Int32 × am_S)) = some q := h
    cases h
  | succ n ih =>
    intro ox0 ix1 x2 σ h
    exact lc_X8_isWord_36_28 X hr  (lp_X8_isWord_36_28  n) ih ox0 ix1 x2 σ h
def fn_X8_isWord_36 (oa0 : Nat) (ia1 : Nat) (σ : am_S) : Option (Int32 × am_S) :=
  (if (σ.1 oa0 40 0 29) = 1 then (fn_J0_length_8abf5_36 ia1 (σ)).bind fun q1 => (if ((σ.1 oa0 40 0 28) - (σ.1 oa0 40 0 30)) = q1.1 then lp_X8_isWord_36_28  1000 oa0 ia1 0 q1.2 else some (0, q1.2)) else some (0, σ))
set_option maxRecDepth 100000 in
theorem ok_X8_isWord_36 (l : Launch) (oa0 : Nat) (ia1 : Nat) (σ : am_S) {q : Int32 × am_S} (h : fn_X8_isWord_36 oa0 ia1 σ = some q) : am_M l yX8_isWord cX8_isWord 3 (some .boolean) 4 [am_r oa0 40 0, am_r 17 36 ia1] σ (some (am_i q.1)) q.2 := by
  refine am_M_of (P := am_p8) (by decide +kernel) am_p8_ok rfl ?_
  intro G p e s m args below meth c X hr
  have hc := ct_X8_isWord
  unfold fn_X8_isWord_36 at h
  refine am_blk hc X 0 3 (fr' := (5, [(0, am_r oa0 40 0), (1, am_r 17 36 ia1)], [am_i 1, am_i (σ.1 oa0 40 0 29)], σ)) rfl ⟨trivial, trivial, trivial, trivial⟩ ?_
  refine am_icmp_ne hc X 3 (tgt := 24) rfl (by decide) (fun c11 => ?_) (fun c11 => ?_)
  · replace h := am_in2 c11 h
    refine am_blk hc X 12 1 (fr' := (25, [(0, am_r oa0 40 0), (1, am_r 17 36 ia1)], [am_i 0], σ)) rfl ⟨trivial, trivial⟩ ?_
    obtain rfl := Option.some.inj h
    exact am_zret hc X hr 13 rfl (by decide) rfl rfl
  · replace h := am_ip c11 h
    refine am_blk hc X 4 6 (fr' := (18, [(0, am_r oa0 40 0), (1, am_r 17 36 ia1)], [am_r 17 36 ia1, am_i ((σ.1 oa0 40 0 28) - (σ.1 oa0 40 0 30))], σ)) rfl ⟨trivial, trivial, trivial, trivial, trivial, trivial, trivial⟩ ?_
    obtain ⟨q1, hq2, h⟩ := am_bs h
    refine am_callT hc 10 X (i := ia1) (As := []) (rest := [am_i ((σ.1 oa0 40 0 28) - (σ.1 oa0 40 0 30))]) rfl (ok_J0_length_8abf5_36 l ia1 (σ) hq2) yv_J0_length_8abf5 ml_X8_203 rfl rfl rfl rfl rfl rfl ?_
    refine am_icmp_eq hc X 11 (tgt := 26) rfl (by decide) (fun c10 => ?_) (fun c10 => ?_)
    · replace h := am_ip c10 h
      refine am_blk hc X 14 2 (fr' := (28, [(0, am_r oa0 40 0), (1, am_r 17 36 ia1), (2, am_i 0)], [], q1.2)) rfl ⟨trivial, trivial, trivial⟩ ?_
      exact ll_X8_isWord_36_28 X hr   1000 oa0 ia1 0 _ h
    · replace h := am_in2 c10 h
      refine am_blk hc X 12 1 (fr' := (25, [(0, am_r oa0 40 0), (1, am_r 17 36 ia1)], [am_i 0], q1.2)) rfl ⟨trivial, trivial⟩ ?_
      obtain rfl := Option.some.inj h
      exact am_zret hc X hr 13 rfl (by decide) rfl rfl
def jn_X8_findJourneys_45_303 (k215 : Nat → Nat → Nat → Int32 → am_S → Option (am_S)) (k223 : Nat → Nat → Nat → Int32 → Int32 → am_S → Option (am_S)) (k233 : Nat → Nat → Nat → Int32 → Int32 → Int32 → am_S → Option (am_S)) (ox0 : Nat) (ox1 : Nat) (ix1 : Nat) (x4 : Int32) (x5 : Int32) (x6 : Int32) (y0 : Int32) (y1 : Int32) (y2 : Int32) (oy3 : Nat) (iy3 : Nat) (σ : am_S) : Option (am_S) :=
  (bif am_in y2 7 then k233 ox0 ox1 ix1 x4 x5 (x6 + 1) (am_u σ oy3 76 iy3 ((y2 : Int32).toNatClampNeg) (vp_nar .boolean (y1 ||| y0))) else none)
set_option maxRecDepth 100000 in
theorem jl_X8_findJourneys_45_303 {p : Program} {l : Launch} {e : Env} {s : State} {m : MethodId} {args : Array Value} {below : List Frame} {meth : Method} {c : Code} {G : am_G} {q : am_S} (X : am_X p s m args c cX8_findJourneys yX8_findJourneys.cls 9 am_p8 G (am_fr G)) (hr : meth.sig.returnType = none ∧ meth.locks = false)  (k215 : Nat → Nat → Nat → Int32 → am_S → Option (am_S)) (k223 : Nat → Nat → Nat → Int32 → Int32 → am_S → Option (am_S)) (k233 : Nat → Nat → Nat → Int32 → Int32 → Int32 → am_S → Option (am_S)) (hk215 : ∀ (ox0 : Nat) (ox1 : Nat) (ix1 : Nat) (x4 : Int32) (σ : am_S), k215 ox0 ox1 ix1 x4 σ = some q → am_A p l e (am_ro 1) s m args below meth c 9 G (am_fr G) 0 0 (MQ below (am_Qc G none q) args s 0 0 (am_fr G)) (215, [(0, am_r ox0 40 0), (1, am_r ox1 45 ix1), (4, am_i x4)], [], σ)) (hk223 : ∀ (ox0 : Nat) (ox1 : Nat) (ix1 : Nat) (x4 : Int32) (x5 : Int32) (σ : am_S), k223 ox0 ox1 ix1 x4 x5 σ = some q → am_A p l e (am_ro 1) s m args below meth c 9 G (am_fr G) 0 0 (MQ below (am_Qc G none q) args s 0 0 (am_fr G)) (223, [(0, am_r ox0 40 0), (1, am_r ox1 45 ix1), (4, am_i x4), (5, am_i x5)], [], σ)) (hk233 : ∀ (ox0 : Nat) (ox1 : Nat) (ix1 : Nat) (x4 : Int32) (x5 : Int32) (x6 : Int32) (σ : am_S), k233 ox0 ox1 ix1 x4 x5 x6 σ = some q → am_A p l e (am_ro 1) s m args below meth c 9 G (am_fr G) 0 0 (MQ below (am_Qc G none q) args s 0 0 (am_fr G)) (233, [(0, am_r ox0 40 0), (1, am_r ox1 45 ix1), (4, am_i x4), (5, am_i x5), (6, am_i x6)], [], σ)) (ox0 : Nat) (ox1 : Nat) (ix1 : Nat) (x4 : Int32) (x5 : Int32) (x6 : Int32) (y0 : Int32) (y1 : Int32) (y2 : Int32) (oy3 : Nat) (iy3 : Nat) (σ : am_S) (h : jn_X8_findJourneys_45_303 k215 k223 k233 ox0 ox1 ix1 x4 x5 x6 y0 y1 y2 oy3 iy3 σ = some q) : am_A p l e (am_ro 1) s m args below meth c 9 G (am_fr G) 0 0 (MQ below (am_Qc G none q) args s 0 0 (am_fr G)) (303, [(0, am_r ox0 40 0), (1, am_r ox1 45 ix1), (4, am_i x4), (5, am_i x5), (6, am_i x6)], [am_i y0, am_i y1, am_i y2, am_r oy3 76 iy3], σ) := by
  have hc := ct_X8_findJourneys
  unfold jn_X8_findJourneys_45_303 at h
  obtain ⟨ob5, h⟩ := am_ci h
  refine am_blk hc X 160 4 (fr' := (233, [(0, am_r ox0 40 0), (1, am_r ox1 45 ix1), (4, am_i x4), (5, am_i x5), (6, am_i (x6 + 1))], [], (am_u σ oy3 76 iy3 ((y2 : Int32).toNatClampNeg) (vp_nar .boolean (y1 ||| y0))))) rfl ⟨trivial, (am_in_vp ob5), trivial, trivial, trivial⟩ ?_
  exact hk233 ox0 ox1 ix1 x4 x5 (x6 + 1) _ h
def jn_X8_findJourneys_45_302 (k215 : Nat → Nat → Nat → Int32 → am_S → Option (am_S)) (k223 : Nat → Nat → Nat → Int32 → Int32 → am_S → Option (am_S)) (k233 : Nat → Nat → Nat → Int32 → Int32 → Int32 → am_S → Option (am_S)) (ox0 : Nat) (ox1 : Nat) (ix1 : Nat) (x4 : Int32) (x5 : Int32) (x6 : Int32) (y0 : Int32) (y1 : Int32) (oy2 : Nat) (iy2 : Nat) (σ : am_S) : Option (am_S) :=
  jn_X8_findJourneys_45_303 k215 k223 k233 ox0 ox1 ix1 x4 x5 x6 0 y0 y1 oy2 iy2 (σ)
set_option maxRecDepth 100000 in
theorem jl_X8_findJourneys_45_302 {p : Program} {l : Launch} {e : Env} {s : State} {m : MethodId} {args : Array Value} {below : List Frame} {meth : Method} {c : Code} {G : am_G} {q : am_S} (X : am_X p s m args c cX8_findJourneys yX8_findJourneys.cls 9 am_p8 G (am_fr G)) (hr : meth.sig.returnType = none ∧ meth.locks = false)  (k215 : Nat → Nat → Nat → Int32 → am_S → Option (am_S)) (k223 : Nat → Nat → Nat → Int32 → Int32 → am_S → Option (am_S)) (k233 : Nat → Nat → Nat → Int32 → Int32 → Int32 → am_S → Option (am_S)) (hk215 : ∀ (ox0 : Nat) (ox1 : Nat) (ix1 : Nat) (x4 : Int32) (σ : am_S), k215 ox0 ox1 ix1 x4 σ = some q → am_A p l e (am_ro 1) s m args below meth c 9 G (am_fr G) 0 0 (MQ below (am_Qc G none q) args s 0 0 (am_fr G)) (215, [(0, am_r ox0 40 0), (1, am_r ox1 45 ix1), (4, am_i x4)], [], σ)) (hk223 : ∀ (ox0 : Nat) (ox1 : Nat) (ix1 : Nat) (x4 : Int32) (x5 : Int32) (σ : am_S), k223 ox0 ox1 ix1 x4 x5 σ = some q → am_A p l e (am_ro 1) s m args below meth c 9 G (am_fr G) 0 0 (MQ below (am_Qc G none q) args s 0 0 (am_fr G)) (223, [(0, am_r ox0 40 0), (1, am_r ox1 45 ix1), (4, am_i x4), (5, am_i x5)], [], σ)) (hk233 : ∀ (ox0 : Nat) (ox1 : Nat) (ix1 : Nat) (x4 : Int32) (x5 : Int32) (x6 : Int32) (σ : am_S), k233 ox0 ox1 ix1 x4 x5 x6 σ = some q → am_A p l e (am_ro 1) s m args below meth c 9 G (am_fr G) 0 0 (MQ below (am_Qc G none q) args s 0 0 (am_fr G)) (233, [(0, am_r ox0 40 0), (1, am_r ox1 45 ix1), (4, am_i x4), (5, am_i x5), (6, am_i x6)], [], σ)) (ox0 : Nat) (ox1 : Nat) (ix1 : Nat) (x4 : Int32) (x5 : Int32) (x6 : Int32) (y0 : Int32) (y1 : Int32) (oy2 : Nat) (iy2 : Nat) (σ : am_S) (h : jn_X8_findJourneys_45_302 k215 k223 k233 ox0 ox1 ix1 x4 x5 x6 y0 y1 oy2 iy2 σ = some q) : am_A p l e (am_ro 1) s m args below meth c 9 G (am_fr G) 0 0 (MQ below (am_Qc G none q) args s 0 0 (am_fr G)) (302, [(0, am_r ox0 40 0), (1, am_r ox1 45 ix1), (4, am_i x4), (5, am_i x5), (6, am_i x6)], [am_i y0, am_i y1, am_r oy2 76 iy2], σ) := by
  have hc := ct_X8_findJourneys
  unfold jn_X8_findJourneys_45_302 at h
  refine am_blk hc X 159 1 (fr' := (303, [(0, am_r ox0 40 0), (1, am_r ox1 45 ix1), (4, am_i x4), (5, am_i x5), (6, am_i x6)], [am_i 0, am_i y0, am_i y1, am_r oy2 76 iy2], σ)) rfl ⟨trivial, trivial⟩ ?_
  exact jl_X8_findJourneys_45_303 X hr k215 k223 k233 hk215 hk223 hk233 ox0 ox1 ix1 x4 x5 x6 0 y0 y1 oy2 iy2 _ h
def lb_X8_findJourneys_45_233 (k215 : Nat → Nat → Nat → Int32 → am_S → Option (am_S)) (k223 : Nat → Nat → Nat → Int32 → Int32 → am_S → Option (am_S)) (k233 : Nat → Nat → Nat → Int32 → Int32 → Int32 → am_S → Option (am_S)) (ox0 : Nat) (ox1 : Nat) (ix1 : Nat) (x4 : Int32) (x5 : Int32) (x6 : Int32) (σ : am_S) : Option (am_S) :=
  (if ((2 : Int32) + (σ.1 ox0 40 0 13)) ≤ x6 then k223 ox0 ox1 ix1 x4 (x5 + 1) (σ) else (fn_X8_nextOf ox0 x5 x6 (σ)).bind fun q1 => (bif am_in x4 41 then (bif am_in x5 7 then (if q1.1 = (-1) then jn_X8_findJourneys_45_302 k215 k223 k233 ox0 ox1 ix1 x4 x5 x6 (q1.2.1 ox0 76 ((x4 : Int32).toNatClampNeg) ((x5 : Int32).toNatClampNeg)) x5 ox0 ((x4 : Int32).toNatClampNeg) q1.2 else (bif am_in x4 40 then (fn_X8_fits (q1.2.2 ox1 45 ix1 ((x4 : Int32).toNatClampNeg)) q1.1 q1.2).bind fun q7 => (if q7.1 = 0 then jn_X8_findJourneys_45_302 k215 k223 k233 ox0 ox1 ix1 x4 x5 x6 (q1.2.1 ox0 76 ((x4 : Int32).toNatClampNeg) ((x5 : Int32).toNatClampNeg)) x5 ox0 ((x4 : Int32).toNatClampNeg) q7.2 else (bif am_in (x4 + (1 : Int32)) 41 then (bif am_in q1.1 7 then (if (q7.2.1 ox0 76 (((x4 + (1 : Int32)) : Int32).toNatClampNeg) ((q1.1 : Int32).toNatClampNeg)) = 0 then jn_X8_findJourneys_45_302 k215 k223 k233 ox0 ox1 ix1 x4 x5 x6 (q1.2.1 ox0 76 ((x4 : Int32).toNatClampNeg) ((x5 : Int32).toNatClampNeg)) x5 ox0 ((x4 : Int32).toNatClampNeg) q7.2 else jn_X8_findJourneys_45_303 k215 k223 k233 ox0 ox1 ix1 x4 x5 x6 1 (q1.2.1 ox0 76 ((x4 : Int32).toNatClampNeg) ((x5 : Int32).toNatClampNeg)) x5 ox0 ((x4 : Int32).toNatClampNeg) q7.2) else none) else none)) else none)) else none) else none))
set_option maxRecDepth 100000 in
theorem lc_X8_findJourneys_45_233 {p : Program} {l : Launch} {e : Env} {s : State} {m : MethodId} {args : Array Value} {below : List Frame} {meth : Method} {c : Code} {G : am_G} {q : am_S} (X : am_X p s m args c cX8_findJourneys yX8_findJourneys.cls 9 am_p8 G (am_fr G)) (hr : meth.sig.returnType = none ∧ meth.locks = false)  (k215 : Nat → Nat → Nat → Int32 → am_S → Option (am_S)) (k223 : Nat → Nat → Nat → Int32 → Int32 → am_S → Option (am_S)) (k233 : Nat → Nat → Nat → Int32 → Int32 → Int32 → am_S → Option (am_S)) (hk215 : ∀ (ox0 : Nat) (ox1 : Nat) (ix1 : Nat) (x4 : Int32) (σ : am_S), k215 ox0 ox1 ix1 x4 σ = some q → am_A p l e (am_ro 1) s m args below meth c 9 G (am_fr G) 0 0 (MQ below (am_Qc G none q) args s 0 0 (am_fr G)) (215, [(0, am_r ox0 40 0), (1, am_r ox1 45 ix1), (4, am_i x4)], [], σ)) (hk223 : ∀ (ox0 : Nat) (ox1 : Nat) (ix1 : Nat) (x4 : Int32) (x5 : Int32) (σ : am_S), k223 ox0 ox1 ix1 x4 x5 σ = some q → am_A p l e (am_ro 1) s m args below meth c 9 G (am_fr G) 0 0 (MQ below (am_Qc G none q) args s 0 0 (am_fr G)) (223, [(0, am_r ox0 40 0), (1, am_r ox1 45 ix1), (4, am_i x4), (5, am_i x5)], [], σ)) (hk233 : ∀ (ox0 : Nat) (ox1 : Nat) (ix1 : Nat) (x4 : Int32) (x5 : Int32) (x6 : Int32) (σ : am_S), k233 ox0 ox1 ix1 x4 x5 x6 σ = some q → am_A p l e (am_ro 1) s m args below meth c 9 G (am_fr G) 0 0 (MQ below (am_Qc G none q) args s 0 0 (am_fr G)) (233, [(0, am_r ox0 40 0), (1, am_r ox1 45 ix1), (4, am_i x4), (5, am_i x5), (6, am_i x6)], [], σ)) (ox0 : Nat) (ox1 : Nat) (ix1 : Nat) (x4 : Int32) (x5 : Int32) (x6 : Int32) (σ : am_S) (h : lb_X8_findJourneys_45_233 k215 k223 k233 ox0 ox1 ix1 x4 x5 x6 σ = some q) : am_A p l e (am_ro 1) s m args below meth c 9 G (am_fr G) 0 0 (MQ below (am_Qc G none q) args s 0 0 (am_fr G)) (233, [(0, am_r ox0 40 0), (1, am_r ox1 45 ix1), (4, am_i x4), (5, am_i x5), (6, am_i x6)], [], σ) := by
  have hc := ct_X8_findJourneys
  unfold lb_X8_findJourneys_45_233 at h
  refine am_blk hc X 121 5 (fr' := (241, [(0, am_r ox0 40 0), (1, am_r ox1 45 ix1), (4, am_i x4), (5, am_i x5), (6, am_i x6)], [am_i ((2 : Int32) + (σ.1 ox0 40 0 13)), am_i x6], σ)) rfl ⟨trivial, trivial, trivial, trivial, trivial, trivial⟩ ?_
  refine am_icmp_ge hc X 126 (tgt := 311) rfl (by decide) (fun c14 => ?_) (fun c14 => ?_)
  · replace h := am_ip c14 h
    refine am_blk hc X 164 2 (fr' := (223, [(0, am_r ox0 40 0), (1, am_r ox1 45 ix1), (4, am_i x4), (5, am_i (x5 + 1)), (6, am_i x6)], [], σ)) rfl ⟨trivial, trivial, trivial⟩ ?_
    refine am_less [0, 1, 2, 3] rfl ?_
    exact hk223 ox0 ox1 ix1 x4 (x5 + 1) _ h
  · replace h := am_in2 c14 h
    refine am_blk hc X 127 3 (fr' := (249, [(0, am_r ox0 40 0), (1, am_r ox1 45 ix1), (4, am_i x4), (5, am_i x5), (6, am_i x6)], [am_i x6, am_i x5, am_r ox0 40 0], σ)) rfl ⟨trivial, trivial, trivial, trivial⟩ ?_
    obtain ⟨q1, hq2, h⟩ := am_bs h
    refine am_callV hc 130 X (k := 40) (i := 0) (o := ox0) (As := [am_i x5, am_i x6]) (rest := []) rfl (ok_X8_nextOf l ox0 x5 x6 (σ) hq2) yv_X8_nextOf ml_X8_287 (cl_40) rfl rfl rfl rfl rfl ?_
    obtain ⟨ob3, h⟩ := am_ci h
    obtain ⟨ob4, h⟩ := am_ci h
    refine am_blk hc X 131 10 (fr' := (268, [(0, am_r ox0 40 0), (1, am_r ox1 45 ix1), (4, am_i x4), (5, am_i x5), (6, am_i x6), (7, am_i q1.1)], [am_i (-1), am_i q1.1, am_i (q1.2.1 ox0 76 ((x4 : Int32).toNatClampNeg) ((x5 : Int32).toNatClampNeg)), am_i x5, am_r ox0 76 ((x4 : Int32).toNatClampNeg)], q1.2)) rfl ⟨trivial, trivial, trivial, trivial, (am_in_vp ob3), trivial, trivial, (am_in_vp ob4), trivial, trivial, trivial⟩ ?_
    refine am_icmp_eq hc X 141 (tgt := 302) rfl (by decide) (fun c13 => ?_) (fun c13 => ?_)
    · replace h := am_ip c13 h
      refine am_less [0, 1, 2, 3, 4] rfl ?_
      exact jl_X8_findJourneys_45_302 X hr k215 k223 k233 hk215 hk223 hk233 ox0 ox1 ix1 x4 x5 x6 (q1.2.1 ox0 76 ((x4 : Int32).toNatClampNeg) ((x5 : Int32).toNatClampNeg)) x5 ox0 ((x4 : Int32).toNatClampNeg) _ h
    · replace h := am_in2 c13 h
      obtain ⟨ob6, h⟩ := am_ci h
      refine am_blk hc X 142 4 (fr' := (277, [(0, am_r ox0 40 0), (1, am_r ox1 45 ix1), (4, am_i x4), (5, am_i x5), (6, am_i x6), (7, am_i q1.1)], [am_i q1.1, am_l (q1.2.2 ox1 45 ix1 ((x4 : Int32).toNatClampNeg)), am_i (q1.2.1 ox0 76 ((x4 : Int32).toNatClampNeg) ((x5 : Int32).toNatClampNeg)), am_i x5, am_r ox0 76 ((x4 : Int32).toNatClampNeg)], q1.2)) rfl ⟨trivial, trivial, (am_in_vp ob6), trivial, trivial⟩ ?_
      obtain ⟨q7, hq8, h⟩ := am_bs h
      refine am_callS hc 146 X (As := [am_l (q1.2.2 ox1 45 ix1 ((x4 : Int32).toNatClampNeg)), am_i q1.1]) (rest := [am_i (q1.2.1 ox0 76 ((x4 : Int32).toNatClampNeg) ((x5 : Int32).toNatClampNeg)), am_i x5, am_r ox0 76 ((x4 : Int32).toNatClampNeg)]) rfl (ok_X8_fits l (q1.2.2 ox1 45 ix1 ((x4 : Int32).toNatClampNeg)) q1.1 q1.2 hq8) yv_X8_fits ml_X8_344 rfl rfl rfl rfl rfl ?_
      refine am_if_eq hc X 147 (tgt := 302) rfl (by decide) (fun c12 => ?_) (fun c12 => ?_)
      · replace h := am_ip c12 h
        refine am_less [0, 1, 2, 3, 4] rfl ?_
        exact jl_X8_findJourneys_45_302 X hr k215 k223 k233 hk215 hk223 hk233 ox0 ox1 ix1 x4 x5 x6 (q1.2.1 ox0 76 ((x4 : Int32).toNatClampNeg) ((x5 : Int32).toNatClampNeg)) x5 ox0 ((x4 : Int32).toNatClampNeg) _ h
      · replace h := am_in2 c12 h
        obtain ⟨ob9, h⟩ := am_ci h
        obtain ⟨ob10, h⟩ := am_ci h
        refine am_blk hc X 148 8 (fr' := (295, [(0, am_r ox0 40 0), (1, am_r ox1 45 ix1), (4, am_i x4), (5, am_i x5), (6, am_i x6), (7, am_i q1.1)], [am_i (q7.2.1 ox0 76 (((x4 + (1 : Int32)) : Int32).toNatClampNeg) ((q1.1 : Int32).toNatClampNeg)), am_i (q1.2.1 ox0 76 ((x4 : Int32).toNatClampNeg) ((x5 : Int32).toNatClampNeg)), am_i x5, am_r ox0 76 ((x4 : Int32).toNatClampNeg)], q7.2)) rfl ⟨trivial, trivial, trivial, trivial, trivial, (am_in_vp ob9), trivial, (am_in_vp ob10), trivial⟩ ?_
        refine am_if_eq hc X 156 (tgt := 302) rfl (by decide) (fun c11 => ?_) (fun c11 => ?_)
        · replace h := am_ip c11 h
          refine am_less [0, 1, 2, 3, 4] rfl ?_
          exact jl_X8_findJourneys_45_302 X hr k215 k223 k233 hk215 hk223 hk233 ox0 ox1 ix1 x4 x5 x6 (q1.2.1 ox0 76 ((x4 : Int32).toNatClampNeg) ((x5 : Int32).toNatClampNeg)) x5 ox0 ((x4 : Int32).toNatClampNeg) _ h
        · replace h := am_in2 c11 h
          refine am_blk hc X 157 2 (fr' := (303, [(0, am_r ox0 40 0), (1, am_r ox1 45 ix1), (4, am_i x4), (5, am_i x5), (6, am_i x6), (7, am_i q1.1)], [am_i 1, am_i (q1.2.1 ox0 76 ((x4 : Int32).toNatClampNeg) ((x5 : Int32).toNatClampNeg)), am_i x5, am_r ox0 76 ((x4 : Int32).toNatClampNeg)], q7.2)) rfl ⟨trivial, trivial, trivial⟩ ?_
          refine am_less [0, 1, 2, 3, 4] rfl ?_
          exact jl_X8_findJourneys_45_303 X hr k215 k223 k233 hk215 hk223 hk233 ox0 ox1 ix1 x4 x5 x6 1 (q1.2.1 ox0 76 ((x4 : Int32).toNatClampNeg) ((x5 : Int32).toNatClampNeg)) x5 ox0 ((x4 : Int32).toNatClampNeg) _ h
def lp_X8_findJourneys_45_233 (k215 : Nat → Nat → Nat → Int32 → am_S → Option (am_S)) (k223 : Nat → Nat → Nat → Int32 → Int32 → am_S → Option (am_S)) : Nat → Nat → Nat → Nat → Int32 → Int32 → Int32 → am_S → Option (am_S)
  | 0 => fun _ _ _ _ _ _ _ => none
  | n + 1 => lb_X8_findJourneys_45_233 k215 k223 (lp_X8_findJourneys_45_233 k215 k223 n)
theorem ll_X8_findJourneys_45_233 {p : Program} {l : Launch} {e : Env} {s : State} {m : MethodId} {args : Array Value} {below : List Frame} {meth : Method} {c : Code} {G : am_G} {q : am_S} (X : am_X p s m args c cX8_findJourneys yX8_findJourneys.cls 9 am_p8 G (am_fr G)) (hr : meth.sig.returnType = none ∧ meth.locks = false)  (k215 : Nat → Nat → Nat → Int32 → am_S → Option (am_S)) (k223 : Nat → Nat → Nat → Int32 → Int32 → am_S → Option (am_S)) (hk215 : ∀ (ox0 : Nat) (ox1 : Nat) (ix1 : Nat) (x4 : Int32) (σ : am_S), k215 ox0 ox1 ix1 x4 σ = some q → am_A p l e (am_ro 1) s m args below meth c 9 G (am_fr G) 0 0 (MQ below (am_Qc G none q) args s 0 0 (am_fr G)) (215, [(0, am_r ox0 40 0), (1, am_r ox1 45 ix1), (4, am_i x4)], [], σ)) (hk223 : ∀ (ox0 : Nat) (ox1 : Nat) (ix1 : Nat) (x4 : Int32) (x5 : Int32) (σ : am_S), k223 ox0 ox1 ix1 x4 x5 σ = some q → am_A p l e (am_ro 1) s m args below meth c 9 G (am_fr G) 0 0 (MQ below (am_Qc G none q) args s 0 0 (am_fr G)) (223, [(0, am_r ox0 40 0), (1, am_r ox1 45 ix1), (4, am_i x4), (5, am_i x5)], [], σ)) : ∀ (n : Nat) (ox0 : Nat) (ox1 : Nat) (ix1 : Nat) (x4 : Int32) (x5 : Int32) (x6 : Int32) (σ : am_S), lp_X8_findJourneys_45_233 k215 k223 n ox0 ox1 ix1 x4 x5 x6 σ = some q → am_A p l e (am_ro 1) s m args below meth c 9 G (am_fr G) 0 0 (MQ below (am_Qc G none q) args s 0 0 (am_fr G)) (233, [(0, am_r ox0 40 0), (1, am_r ox1 45 ix1), (4, am_i x4), (5, am_i x5), (6, am_i x6)], [], σ) := by
  intro n
  induction n with
  | zero =>
    intro ox0 ox1 ix1 x4 x5 x6 σ h
    have h : (none : Option (am_S)) = some q := h
    cases h
  | succ n ih =>
    intro ox0 ox1 ix1 x4 x5 x6 σ h
    exact lc_X8_findJourneys_45_233 X hr k215 k223 (lp_X8_findJourneys_45_233 k215 k223 n) hk215 hk223 ih ox0 ox1 ix1 x4 x5 x6 σ h
def lb_X8_findJourneys_45_223 (k215 : Nat → Nat → Nat → Int32 → am_S → Option (am_S)) (k223 : Nat → Nat → Nat → Int32 → Int32 → am_S → Option (am_S)) (ox0 : Nat) (ox1 : Nat) (ix1 : Nat) (x4 : Int32) (x5 : Int32) (σ : am_S) : Option (am_S) :=
  (if 7 ≤ x5 then k215 ox0 ox1 ix1 (x4 + (-1)) (σ) else lp_X8_findJourneys_45_233 k215 k223 1000 ox0 ox1 ix1 x4 x5 0 (σ))
set_option maxRecDepth 100000 in
theorem lc_X8_findJourneys_45_223 {p : Program} {l : Launch} {e : Env} {s : State} {m : MethodId} {args : Array Value} {below : List Frame} {meth : Method} {c : Code} {G : am_G} {q : am_S} (X : am_X p s m args c cX8_findJourneys yX8_findJourneys.cls 9 am_p8 G (am_fr G)) (hr : meth.sig.returnType = none ∧ meth.locks = false)  (k215 : Nat → Nat → Nat → Int32 → am_S → Option (am_S)) (k223 : Nat → Nat → Nat → Int32 → Int32 → am_S → Option (am_S)) (hk215 : ∀ (ox0 : Nat) (ox1 : Nat) (ix1 : Nat) (x4 : Int32) (σ : am_S), k215 ox0 ox1 ix1 x4 σ = some q → am_A p l e (am_ro 1) s m args below meth c 9 G (am_fr G) 0 0 (MQ below (am_Qc G none q) args s 0 0 (am_fr G)) (215, [(0, am_r ox0 40 0), (1, am_r ox1 45 ix1), (4, am_i x4)], [], σ)) (hk223 : ∀ (ox0 : Nat) (ox1 : Nat) (ix1 : Nat) (x4 : Int32) (x5 : Int32) (σ : am_S), k223 ox0 ox1 ix1 x4 x5 σ = some q → am_A p l e (am_ro 1) s m args below meth c 9 G (am_fr G) 0 0 (MQ below (am_Qc G none q) args s 0 0 (am_fr G)) (223, [(0, am_r ox0 40 0), (1, am_r ox1 45 ix1), (4, am_i x4), (5, am_i x5)], [], σ)) (ox0 : Nat) (ox1 : Nat) (ix1 : Nat) (x4 : Int32) (x5 : Int32) (σ : am_S) (h : lb_X8_findJourneys_45_223 k215 k223 ox0 ox1 ix1 x4 x5 σ = some q) : am_A p l e (am_ro 1) s m args below meth c 9 G (am_fr G) 0 0 (MQ below (am_Qc G none q) args s 0 0 (am_fr G)) (223, [(0, am_r ox0 40 0), (1, am_r ox1 45 ix1), (4, am_i x4), (5, am_i x5)], [], σ) := by
  have hc := ct_X8_findJourneys
  unfold lb_X8_findJourneys_45_223 at h
  refine am_blk hc X 116 2 (fr' := (227, [(0, am_r ox0 40 0), (1, am_r ox1 45 ix1), (4, am_i x4), (5, am_i x5)], [am_i 7, am_i x5], σ)) rfl ⟨trivial, trivial, trivial⟩ ?_
  refine am_icmp_ge hc X 118 (tgt := 317) rfl (by decide) (fun c15 => ?_) (fun c15 => ?_)
  · replace h := am_ip c15 h
    refine am_blk hc X 166 2 (fr' := (215, [(0, am_r ox0 40 0), (1, am_r ox1 45 ix1), (4, am_i (x4 + (-1))), (5, am_i x5)], [], σ)) rfl ⟨trivial, trivial, trivial⟩ ?_
    refine am_less [0, 1, 2] rfl ?_
    exact hk215 ox0 ox1 ix1 (x4 + (-1)) _ h
  · replace h := am_in2 c15 h
    refine am_blk hc X 119 2 (fr' := (233, [(0, am_r ox0 40 0), (1, am_r ox1 45 ix1), (4, am_i x4), (5, am_i x5), (6, am_i 0)], [], σ)) rfl ⟨trivial, trivial, trivial⟩ ?_
    exact ll_X8_findJourneys_45_233 X hr k215 k223 hk215 hk223 1000 ox0 ox1 ix1 x4 x5 0 _ h
def lp_X8_findJourneys_45_223 (k215 : Nat → Nat → Nat → Int32 → am_S → Option (am_S)) : Nat → Nat → Nat → Nat → Int32 → Int32 → am_S → Option (am_S)
  | 0 => fun _ _ _ _ _ _ => none
  | n + 1 => lb_X8_findJourneys_45_223 k215 (lp_X8_findJourneys_45_223 k215 n)
theorem ll_X8_findJourneys_45_223 {p : Program} {l : Launch} {e : Env} {s : State} {m : MethodId} {args : Array Value} {below : List Frame} {meth : Method} {c : Code} {G : am_G} {q : am_S} (X : am_X p s m args c cX8_findJourneys yX8_findJourneys.cls 9 am_p8 G (am_fr G)) (hr : meth.sig.returnType = none ∧ meth.locks = false)  (k215 : Nat → Nat → Nat → Int32 → am_S → Option (am_S)) (hk215 : ∀ (ox0 : Nat) (ox1 : Nat) (ix1 : Nat) (x4 : Int32) (σ : am_S), k215 ox0 ox1 ix1 x4 σ = some q → am_A p l e (am_ro 1) s m args below meth c 9 G (am_fr G) 0 0 (MQ below (am_Qc G none q) args s 0 0 (am_fr G)) (215, [(0, am_r ox0 40 0), (1, am_r ox1 45 ix1), (4, am_i x4)], [], σ)) : ∀ (n : Nat) (ox0 : Nat) (ox1 : Nat) (ix1 : Nat) (x4 : Int32) (x5 : Int32) (σ : am_S), lp_X8_findJourneys_45_223 k215 n ox0 ox1 ix1 x4 x5 σ = some q → am_A p l e (am_ro 1) s m args below meth c 9 G (am_fr G) 0 0 (MQ below (am_Qc G none q) args s 0 0 (am_fr G)) (223, [(0, am_r ox0 40 0), (1, am_r ox1 45 ix1), (4, am_i x4), (5, am_i x5)], [], σ) := by
  intro n
  induction n with
  | zero =>
    intro ox0 ox1 ix1 x4 x5 σ h
    have h : (none : Option (am_S)) = some q := h
    cases h
  | succ n ih =>
    intro ox0 ox1 ix1 x4 x5 σ h
    exact lc_X8_findJourneys_45_223 X hr k215 (lp_X8_findJourneys_45_223 k215 n) hk215 ih ox0 ox1 ix1 x4 x5 σ h
def lb_X8_findJourneys_45_215 (k215 : Nat → Nat → Nat → Int32 → am_S → Option (am_S)) (ox0 : Nat) (ox1 : Nat) (ix1 : Nat) (x4 : Int32) (σ : am_S) : Option (am_S) :=
  (if x4 < 0 then some (σ) else lp_X8_findJourneys_45_223 k215 1000 ox0 ox1 ix1 x4 0 (σ))
set_option maxRecDepth 100000 in
theorem lc_X8_findJourneys_45_215 {p : Program} {l : Launch} {e : Env} {s : State} {m : MethodId} {args : Array Value} {below : List Frame} {meth : Method} {c : Code} {G : am_G} {q : am_S} (X : am_X p s m args c cX8_findJourneys yX8_findJourneys.cls 9 am_p8 G (am_fr G)) (hr : meth.sig.returnType = none ∧ meth.locks = false)  (k215 : Nat → Nat → Nat → Int32 → am_S → Option (am_S)) (hk215 : ∀ (ox0 : Nat) (ox1 : Nat) (ix1 : Nat) (x4 : Int32) (σ : am_S), k215 ox0 ox1 ix1 x4 σ = some q → am_A p l e (am_ro 1) s m args below meth c 9 G (am_fr G) 0 0 (MQ below (am_Qc G none q) args s 0 0 (am_fr G)) (215, [(0, am_r ox0 40 0), (1, am_r ox1 45 ix1), (4, am_i x4)], [], σ)) (ox0 : Nat) (ox1 : Nat) (ix1 : Nat) (x4 : Int32) (σ : am_S) (h : lb_X8_findJourneys_45_215 k215 ox0 ox1 ix1 x4 σ = some q) : am_A p l e (am_ro 1) s m args below meth c 9 G (am_fr G) 0 0 (MQ below (am_Qc G none q) args s 0 0 (am_fr G)) (215, [(0, am_r ox0 40 0), (1, am_r ox1 45 ix1), (4, am_i x4)], [], σ) := by
  have hc := ct_X8_findJourneys
  unfold lb_X8_findJourneys_45_215 at h
  refine am_blk hc X 112 1 (fr' := (217, [(0, am_r ox0 40 0), (1, am_r ox1 45 ix1), (4, am_i x4)], [am_i x4], σ)) rfl ⟨trivial, trivial⟩ ?_
  refine am_if_lt hc X 113 (tgt := 323) rfl (by decide) (fun c16 => ?_) (fun c16 => ?_)
  · replace h := am_ip c16 h
    obtain rfl := Option.some.inj h
    exact am_vret hc X hr 168 rfl rfl rfl
  · replace h := am_in2 c16 h
    refine am_blk hc X 114 2 (fr' := (223, [(0, am_r ox0 40 0), (1, am_r ox1 45 ix1), (4, am_i x4), (5, am_i 0)], [], σ)) rfl ⟨trivial, trivial, trivial⟩ ?_
    exact ll_X8_findJourneys_45_223 X hr k215 hk215 1000 ox0 ox1 ix1 x4 0 _ h
def lp_X8_findJourneys_45_215  : Nat → Nat → Nat → Nat → Int32 → am_S → Option (am_S)
  | 0 => fun _ _ _ _ _ => none
  | n + 1 => lb_X8_findJourneys_45_215  (lp_X8_findJourneys_45_215  n)
theorem ll_X8_findJourneys_45_215 {p : Program} {l : Launch} {e : Env} {s : State} {m : MethodId} {args : Array Value} {below : List Frame} {meth : Method} {c : Code} {G : am_G} {q : am_S} (X : am_X p s m args c cX8_findJourneys yX8_findJourneys.cls 9 am_p8 G (am_fr G)) (hr : meth.sig.returnType = none ∧ meth.locks = false)    : ∀ (n : Nat) (ox0 : Nat) (ox1 : Nat) (ix1 : Nat) (x4 : Int32) (σ : am_S), lp_X8_findJourneys_45_215  n ox0 ox1 ix1 x4 σ = some q → am_A p l e (am_ro 1) s m args below meth c 9 G (am_fr G) 0 0 (MQ below (am_Qc G none q) args s 0 0 (am_fr G)) (215, [(0, am_r ox0 40 0), (1, am_r ox1 45 ix1), (4, am_i x4)], [], σ) := by
  intro n
  induction n with
  | zero =>
    intro ox0 ox1 ix1 x4 σ h
    have h : (none : Option (am_S)) = some q := h
    cases h
  | succ n ih =>
    intro ox0 ox1 ix1 x4 σ h
    exact lc_X8_findJourneys_45_215 X hr  (lp_X8_findJourneys_45_215  n) ih ox0 ox1 ix1 x4 σ h
def jn_X8_findJourneys_45_192 (k81 : Nat → Nat → Nat → Int32 → Int32 → am_S → Option (am_S)) (k90 : Nat → Nat → Nat → Int32 → Int32 → Int32 → am_S → Option (am_S)) (k100 : Nat → Nat → Nat → Int32 → Int32 → Int32 → Int32 → am_S → Option (am_S)) (ox0 : Nat) (ox1 : Nat) (ix1 : Nat) (x2 : Int32) (x4 : Int32) (x5 : Int32) (x6 : Int32) (σ : am_S) : Option (am_S) :=
  k100 ox0 ox1 ix1 x2 x4 x5 (x6 + 1) (σ)
set_option maxRecDepth 100000 in
theorem jl_X8_findJourneys_45_192 {p : Program} {l : Launch} {e : Env} {s : State} {m : MethodId} {args : Array Value} {below : List Frame} {meth : Method} {c : Code} {G : am_G} {q : am_S} (X : am_X p s m args c cX8_findJourneys yX8_findJourneys.cls 9 am_p8 G (am_fr G)) (hr : meth.sig.returnType = none ∧ meth.locks = false)  (k81 : Nat → Nat → Nat → Int32 → Int32 → am_S → Option (am_S)) (k90 : Nat → Nat → Nat → Int32 → Int32 → Int32 → am_S → Option (am_S)) (k100 : Nat → Nat → Nat → Int32 → Int32 → Int32 → Int32 → am_S → Option (am_S)) (hk81 : ∀ (ox0 : Nat) (ox1 : Nat) (ix1 : Nat) (x2 : Int32) (x4 : Int32) (σ : am_S), k81 ox0 ox1 ix1 x2 x4 σ = some q → am_A p l e (am_ro 1) s m args below meth c 9 G (am_fr G) 0 0 (MQ below (am_Qc G none q) args s 0 0 (am_fr G)) (81, [(0, am_r ox0 40 0), (1, am_r ox1 45 ix1), (2, am_i x2), (4, am_i x4)], [], σ)) (hk90 : ∀ (ox0 : Nat) (ox1 : Nat) (ix1 : Nat) (x2 : Int32) (x4 : Int32) (x5 : Int32) (σ : am_S), k90 ox0 ox1 ix1 x2 x4 x5 σ = some q → am_A p l e (am_ro 1) s m args below meth c 9 G (am_fr G) 0 0 (MQ below (am_Qc G none q) args s 0 0 (am_fr G)) (90, [(0, am_r ox0 40 0), (1, am_r ox1 45 ix1), (2, am_i x2), (4, am_i x4), (5, am_i x5)], [], σ)) (hk100 : ∀ (ox0 : Nat) (ox1 : Nat) (ix1 : Nat) (x2 : Int32) (x4 : Int32) (x5 : Int32) (x6 : Int32) (σ : am_S), k100 ox0 ox1 ix1 x2 x4 x5 x6 σ = some q → am_A p l e (am_ro 1) s m args below meth c 9 G (am_fr G) 0 0 (MQ below (am_Qc G none q) args s 0 0 (am_fr G)) (100, [(0, am_r ox0 40 0), (1, am_r ox1 45 ix1), (2, am_i x2), (4, am_i x4), (5, am_i x5), (6, am_i x6)], [], σ)) (ox0 : Nat) (ox1 : Nat) (ix1 : Nat) (x2 : Int32) (x4 : Int32) (x5 : Int32) (x6 : Int32) (σ : am_S) (h : jn_X8_findJourneys_45_192 k81 k90 k100 ox0 ox1 ix1 x2 x4 x5 x6 σ = some q) : am_A p l e (am_ro 1) s m args below meth c 9 G (am_fr G) 0 0 (MQ below (am_Qc G none q) args s 0 0 (am_fr G)) (192, [(0, am_r ox0 40 0), (1, am_r ox1 45 ix1), (2, am_i x2), (4, am_i x4), (5, am_i x5), (6, am_i x6)], [], σ) := by
  have hc := ct_X8_findJourneys
  unfold jn_X8_findJourneys_45_192 at h
  refine am_blk hc X 102 2 (fr' := (100, [(0, am_r ox0 40 0), (1, am_r ox1 45 ix1), (2, am_i x2), (4, am_i x4), (5, am_i x5), (6, am_i (x6 + 1))], [], σ)) rfl ⟨trivial, trivial, trivial⟩ ?_
  exact hk100 ox0 ox1 ix1 x2 x4 x5 (x6 + 1) _ h
def jn_X8_findJourneys_45_191 (k81 : Nat → Nat → Nat → Int32 → Int32 → am_S → Option (am_S)) (k90 : Nat → Nat → Nat → Int32 → Int32 → Int32 → am_S → Option (am_S)) (k100 : Nat → Nat → Nat → Int32 → Int32 → Int32 → Int32 → am_S → Option (am_S)) (ox0 : Nat) (ox1 : Nat) (ix1 : Nat) (x2 : Int32) (x4 : Int32) (x5 : Int32) (x6 : Int32) (y0 : Int32) (y1 : Int32) (oy2 : Nat) (iy2 : Nat) (σ : am_S) : Option (am_S) :=
  (bif am_in y1 7 then jn_X8_findJourneys_45_192 k81 k90 k100 ox0 ox1 ix1 x2 x4 x5 x6 (am_u σ oy2 74 iy2 ((y1 : Int32).toNatClampNeg) y0) else none)
set_option maxRecDepth 100000 in
theorem jl_X8_findJourneys_45_191 {p : Program} {l : Launch} {e : Env} {s : State} {m : MethodId} {args : Array Value} {below : List Frame} {meth : Method} {c : Code} {G : am_G} {q : am_S} (X : am_X p s m args c cX8_findJourneys yX8_findJourneys.cls 9 am_p8 G (am_fr G)) (hr : meth.sig.returnType = none ∧ meth.locks = false)  (k81 : Nat → Nat → Nat → Int32 → Int32 → am_S → Option (am_S)) (k90 : Nat → Nat → Nat → Int32 → Int32 → Int32 → am_S → Option (am_S)) (k100 : Nat → Nat → Nat → Int32 → Int32 → Int32 → Int32 → am_S → Option (am_S)) (hk81 : ∀ (ox0 : Nat) (ox1 : Nat) (ix1 : Nat) (x2 : Int32) (x4 : Int32) (σ : am_S), k81 ox0 ox1 ix1 x2 x4 σ = some q → am_A p l e (am_ro 1) s m args below meth c 9 G (am_fr G) 0 0 (MQ below (am_Qc G none q) args s 0 0 (am_fr G)) (81, [(0, am_r ox0 40 0), (1, am_r ox1 45 ix1), (2, am_i x2), (4, am_i x4)], [], σ)) (hk90 : ∀ (ox0 : Nat) (ox1 : Nat) (ix1 : Nat) (x2 : Int32) (x4 : Int32) (x5 : Int32) (σ : am_S), k90 ox0 ox1 ix1 x2 x4 x5 σ = some q → am_A p l e (am_ro 1) s m args below meth c 9 G (am_fr G) 0 0 (MQ below (am_Qc G none q) args s 0 0 (am_fr G)) (90, [(0, am_r ox0 40 0), (1, am_r ox1 45 ix1), (2, am_i x2), (4, am_i x4), (5, am_i x5)], [], σ)) (hk100 : ∀ (ox0 : Nat) (ox1 : Nat) (ix1 : Nat) (x2 : Int32) (x4 : Int32) (x5 : Int32) (x6 : Int32) (σ : am_S), k100 ox0 ox1 ix1 x2 x4 x5 x6 σ = some q → am_A p l e (am_ro 1) s m args below meth c 9 G (am_fr G) 0 0 (MQ below (am_Qc G none q) args s 0 0 (am_fr G)) (100, [(0, am_r ox0 40 0), (1, am_r ox1 45 ix1), (2, am_i x2), (4, am_i x4), (5, am_i x5), (6, am_i x6)], [], σ)) (ox0 : Nat) (ox1 : Nat) (ix1 : Nat) (x2 : Int32) (x4 : Int32) (x5 : Int32) (x6 : Int32) (y0 : Int32) (y1 : Int32) (oy2 : Nat) (iy2 : Nat) (σ : am_S) (h : jn_X8_findJourneys_45_191 k81 k90 k100 ox0 ox1 ix1 x2 x4 x5 x6 y0 y1 oy2 iy2 σ = some q) : am_A p l e (am_ro 1) s m args below meth c 9 G (am_fr G) 0 0 (MQ below (am_Qc G none q) args s 0 0 (am_fr G)) (191, [(0, am_r ox0 40 0), (1, am_r ox1 45 ix1), (2, am_i x2), (4, am_i x4), (5, am_i x5), (6, am_i x6)], [am_i y0, am_i y1, am_r oy2 74 iy2], σ) := by
  have hc := ct_X8_findJourneys
  unfold jn_X8_findJourneys_45_191 at h
  obtain ⟨ob27, h⟩ := am_ci h
  refine am_blk hc X 101 1 (fr' := (192, [(0, am_r ox0 40 0), (1, am_r ox1 45 ix1), (2, am_i x2), (4, am_i x4), (5, am_i x5), (6, am_i x6)], [], (am_u σ oy2 74 iy2 ((y1 : Int32).toNatClampNeg) y0))) rfl ⟨(am_in_vp ob27), trivial⟩ ?_
  exact jl_X8_findJourneys_45_192 X hr k81 k90 k100 hk81 hk90 hk100 ox0 ox1 ix1 x2 x4 x5 x6 _ h
def lb_X8_findJourneys_45_100 (k81 : Nat → Nat → Nat → Int32 → Int32 → am_S → Option (am_S)) (k90 : Nat → Nat → Nat → Int32 → Int32 → Int32 → am_S → Option (am_S)) (k100 : Nat → Nat → Nat → Int32 → Int32 → Int32 → Int32 → am_S → Option (am_S)) (ox0 : Nat) (ox1 : Nat) (ix1 : Nat) (x2 : Int32) (x4 : Int32) (x5 : Int32) (x6 : Int32) (σ : am_S) : Option (am_S) :=
  (if ((2 : Int32) + (σ.1 ox0 40 0 13)) ≤ x6 then k90 ox0 ox1 ix1 x2 x4 (x5 + 1) (σ) else (fn_X8_nextOf ox0 x5 x6 (σ)).bind fun q17 => (if q17.1 = (-1) then jn_X8_findJourneys_45_192 k81 k90 k100 ox0 ox1 ix1 x2 x4 x5 x6 q17.2 else (bif am_in x4 40 then (fn_X8_fits (q17.2.2 ox1 45 ix1 ((x4 : Int32).toNatClampNeg)) q17.1 q17.2).bind fun q20 => (if q20.1 = 0 then jn_X8_findJourneys_45_192 k81 k90 k100 ox0 ox1 ix1 x2 x4 x5 x6 q20.2 else (bif am_in (x4 + (1 : Int32)) 41 then (bif am_in q17.1 7 then (bif am_in x4 41 then (bif am_in x5 7 then (bif am_in (x4 + (1 : Int32)) 41 then (if 1000000 ≤ ((q20.2.1 ox0 74 (((x4 + (1 : Int32)) : Int32).toNatClampNeg) ((q17.1 : Int32).toNatClampNeg)) + (q20.2.1 ox0 74 ((x4 : Int32).toNatClampNeg) ((x5 : Int32).toNatClampNeg))) then jn_X8_findJourneys_45_191 k81 k90 k100 ox0 ox1 ix1 x2 x4 x5 x6 1000000 q17.1 ox0 (((x4 + (1 : Int32)) : Int32).toNatClampNeg) q20.2 else jn_X8_findJourneys_45_191 k81 k90 k100 ox0 ox1 ix1 x2 x4 x5 x6 ((q20.2.1 ox0 74 (((x4 + (1 : Int32)) : Int32).toNatClampNeg) ((q17.1 : Int32).toNatClampNeg)) + (q20.2.1 ox0 74 ((x4 : Int32).toNatClampNeg) ((x5 : Int32).toNatClampNeg))) q17.1 ox0 (((x4 + (1 : Int32)) : Int32).toNatClampNeg) q20.2) else none) else none) else none) else none) else none)) else none)))
set_option maxRecDepth 100000 in
theorem lc_X8_findJourneys_45_100 {p : Program} {l : Launch} {e : Env} {s : State} {m : MethodId} {args : Array Value} {below : List Frame} {meth : Method} {c : Code} {G : am_G} {q : am_S} (X : am_X p s m args c cX8_findJourneys yX8_findJourneys.cls 9 am_p8 G (am_fr G)) (hr : meth.sig.returnType = none ∧ meth.locks = false)  (k81 : Nat → Nat → Nat → Int32 → Int32 → am_S → Option (am_S)) (k90 : Nat → Nat → Nat → Int32 → Int32 → Int32 → am_S → Option (am_S)) (k100 : Nat → Nat → Nat → Int32 → Int32 → Int32 → Int32 → am_S → Option (am_S)) (hk81 : ∀ (ox0 : Nat) (ox1 : Nat) (ix1 : Nat) (x2 : Int32) (x4 : Int32) (σ : am_S), k81 ox0 ox1 ix1 x2 x4 σ = some q → am_A p l e (am_ro 1) s m args below meth c 9 G (am_fr G) 0 0 (MQ below (am_Qc G none q) args s 0 0 (am_fr G)) (81, [(0, am_r ox0 40 0), (1, am_r ox1 45 ix1), (2, am_i x2), (4, am_i x4)], [], σ)) (hk90 : ∀ (ox0 : Nat) (ox1 : Nat) (ix1 : Nat) (x2 : Int32) (x4 : Int32) (x5 : Int32) (σ : am_S), k90 ox0 ox1 ix1 x2 x4 x5 σ = some q → am_A p l e (am_ro 1) s m args below meth c 9 G (am_fr G) 0 0 (MQ below (am_Qc G none q) args s 0 0 (am_fr G)) (90, [(0, am_r ox0 40 0), (1, am_r ox1 45 ix1), (2, am_i x2), (4, am_i x4), (5, am_i x5)], [], σ)) (hk100 : ∀ (ox0 : Nat) (ox1 : Nat) (ix1 : Nat) (x2 : Int32) (x4 : Int32) (x5 : Int32) (x6 : Int32) (σ : am_S), k100 ox0 ox1 ix1 x2 x4 x5 x6 σ = some q → am_A p l e (am_ro 1) s m args below meth c 9 G (am_fr G) 0 0 (MQ below (am_Qc G none q) args s 0 0 (am_fr G)) (100, [(0, am_r ox0 40 0), (1, am_r ox1 45 ix1), (2, am_i x2), (4, am_i x4), (5, am_i x5), (6, am_i x6)], [], σ)) (ox0 : Nat) (ox1 : Nat) (ix1 : Nat) (x2 : Int32) (x4 : Int32) (x5 : Int32) (x6 : Int32) (σ : am_S) (h : lb_X8_findJourneys_45_100 k81 k90 k100 ox0 ox1 ix1 x2 x4 x5 x6 σ = some q) : am_A p l e (am_ro 1) s m args below meth c 9 G (am_fr G) 0 0 (MQ below (am_Qc G none q) args s 0 0 (am_fr G)) (100, [(0, am_r ox0 40 0), (1, am_r ox1 45 ix1), (2, am_i x2), (4, am_i x4), (5, am_i x5), (6, am_i x6)], [], σ) := by
  have hc := ct_X8_findJourneys
  unfold lb_X8_findJourneys_45_100 at h
  refine am_blk hc X 52 5 (fr' := (108, [(0, am_r ox0 40 0), (1, am_r ox1 45 ix1), (2, am_i x2), (4, am_i x4), (5, am_i x5), (6, am_i x6)], [am_i ((2 : Int32) + (σ.1 ox0 40 0 13)), am_i x6], σ)) rfl ⟨trivial, trivial, trivial, trivial, trivial, trivial⟩ ?_
  refine am_icmp_ge hc X 57 (tgt := 198) rfl (by decide) (fun c31 => ?_) (fun c31 => ?_)
  · replace h := am_ip c31 h
    refine am_blk hc X 104 2 (fr' := (90, [(0, am_r ox0 40 0), (1, am_r ox1 45 ix1), (2, am_i x2), (4, am_i x4), (5, am_i (x5 + 1)), (6, am_i x6)], [], σ)) rfl ⟨trivial, trivial, trivial⟩ ?_
    refine am_less [0, 1, 2, 3, 4] rfl ?_
    exact hk90 ox0 ox1 ix1 x2 x4 (x5 + 1) _ h
  · replace h := am_in2 c31 h
    refine am_blk hc X 58 3 (fr' := (116, [(0, am_r ox0 40 0), (1, am_r ox1 45 ix1), (2, am_i x2), (4, am_i x4), (5, am_i x5), (6, am_i x6)], [am_i x6, am_i x5, am_r ox0 40 0], σ)) rfl ⟨trivial, trivial, trivial, trivial⟩ ?_
    obtain ⟨q17, hq18, h⟩ := am_bs h
    refine am_callV hc 61 X (k := 40) (i := 0) (o := ox0) (As := [am_i x5, am_i x6]) (rest := []) rfl (ok_X8_nextOf l ox0 x5 x6 (σ) hq18) yv_X8_nextOf ml_X8_287 (cl_40) rfl rfl rfl rfl rfl ?_
    refine am_blk hc X 62 3 (fr' := (124, [(0, am_r ox0 40 0), (1, am_r ox1 45 ix1), (2, am_i x2), (4, am_i x4), (5, am_i x5), (6, am_i x6), (7, am_i q17.1)], [am_i (-1), am_i q17.1], q17.2)) rfl ⟨trivial, trivial, trivial, trivial⟩ ?_
    refine am_icmp_eq hc X 65 (tgt := 192) rfl (by decide) (fun c30 => ?_) (fun c30 => ?_)
    · replace h := am_ip c30 h
      refine am_less [0, 1, 2, 3, 4, 5] rfl ?_
      exact jl_X8_findJourneys_45_192 X hr k81 k90 k100 hk81 hk90 hk100 ox0 ox1 ix1 x2 x4 x5 x6 _ h
    · replace h := am_in2 c30 h
      obtain ⟨ob19, h⟩ := am_ci h
      refine am_blk hc X 66 4 (fr' := (133, [(0, am_r ox0 40 0), (1, am_r ox1 45 ix1), (2, am_i x2), (4, am_i x4), (5, am_i x5), (6, am_i x6), (7, am_i q17.1)], [am_i q17.1, am_l (q17.2.2 ox1 45 ix1 ((x4 : Int32).toNatClampNeg))], q17.2)) rfl ⟨trivial, trivial, (am_in_vp ob19), trivial, trivial⟩ ?_
      obtain ⟨q20, hq21, h⟩ := am_bs h
      refine am_callS hc 70 X (As := [am_l (q17.2.2 ox1 45 ix1 ((x4 : Int32).toNatClampNeg)), am_i q17.1]) (rest := []) rfl (ok_X8_fits l (q17.2.2 ox1 45 ix1 ((x4 : Int32).toNatClampNeg)) q17.1 q17.2 hq21) yv_X8_fits ml_X8_344 rfl rfl rfl rfl rfl ?_
      refine am_if_eq hc X 71 (tgt := 192) rfl (by decide) (fun c29 => ?_) (fun c29 => ?_)
      · replace h := am_ip c29 h
        refine am_less [0, 1, 2, 3, 4, 5] rfl ?_
        exact jl_X8_findJourneys_45_192 X hr k81 k90 k100 hk81 hk90 hk100 ox0 ox1 ix1 x2 x4 x5 x6 _ h
      · replace h := am_in2 c29 h
        obtain ⟨ob22, h⟩ := am_ci h
        obtain ⟨ob23, h⟩ := am_ci h
        obtain ⟨ob24, h⟩ := am_ci h
        obtain ⟨ob25, h⟩ := am_ci h
        obtain ⟨ob26, h⟩ := am_ci h
        refine am_blk hc X 72 25 (fr' := (180, [(0, am_r ox0 40 0), (1, am_r ox1 45 ix1), (2, am_i x2), (4, am_i x4), (5, am_i x5), (6, am_i x6), (7, am_i q17.1), (8, am_i ((q20.2.1 ox0 74 (((x4 + (1 : Int32)) : Int32).toNatClampNeg) ((q17.1 : Int32).toNatClampNeg)) + (q20.2.1 ox0 74 ((x4 : Int32).toNatClampNeg) ((x5 : Int32).toNatClampNeg))))], [am_i 1000000, am_i ((q20.2.1 ox0 74 (((x4 + (1 : Int32)) : Int32).toNatClampNeg) ((q17.1 : Int32).toNatClampNeg)) + (q20.2.1 ox0 74 ((x4 : Int32).toNatClampNeg) ((x5 : Int32).toNatClampNeg))), am_i q17.1, am_r ox0 74 (((x4 + (1 : Int32)) : Int32).toNatClampNeg)], q20.2)) rfl ⟨trivial, trivial, trivial, trivial, trivial, (am_in_vp ob22), trivial, (am_in_vp ob23), trivial, trivial, trivial, (am_in_vp ob24), trivial, (am_in_vp ob25), trivial, trivial, trivial, trivial, trivial, trivial, trivial, (am_in_vp ob26), trivial, trivial, trivial, trivial⟩ ?_
        refine am_icmp_ge hc X 97 (tgt := 188) rfl (by decide) (fun c28 => ?_) (fun c28 => ?_)
        · replace h := am_ip c28 h
          refine am_blk hc X 100 1 (fr' := (191, [(0, am_r ox0 40 0), (1, am_r ox1 45 ix1), (2, am_i x2), (4, am_i x4), (5, am_i x5), (6, am_i x6), (7, am_i q17.1), (8, am_i ((q20.2.1 ox0 74 (((x4 + (1 : Int32)) : Int32).toNatClampNeg) ((q17.1 : Int32).toNatClampNeg)) + (q20.2.1 ox0 74 ((x4 : Int32).toNatClampNeg) ((x5 : Int32).toNatClampNeg))))], [am_i 1000000, am_i q17.1, am_r ox0 74 (((x4 + (1 : Int32)) : Int32).toNatClampNeg)], q20.2)) rfl ⟨trivial, trivial⟩ ?_
          refine am_less [0, 1, 2, 3, 4, 5] rfl ?_
          exact jl_X8_findJourneys_45_191 X hr k81 k90 k100 hk81 hk90 hk100 ox0 ox1 ix1 x2 x4 x5 x6 1000000 q17.1 ox0 (((x4 + (1 : Int32)) : Int32).toNatClampNeg) _ h
        · replace h := am_in2 c28 h
          refine am_blk hc X 98 2 (fr' := (191, [(0, am_r ox0 40 0), (1, am_r ox1 45 ix1), (2, am_i x2), (4, am_i x4), (5, am_i x5), (6, am_i x6), (7, am_i q17.1), (8, am_i ((q20.2.1 ox0 74 (((x4 + (1 : Int32)) : Int32).toNatClampNeg) ((q17.1 : Int32).toNatClampNeg)) + (q20.2.1 ox0 74 ((x4 : Int32).toNatClampNeg) ((x5 : Int32).toNatClampNeg))))], [am_i ((q20.2.1 ox0 74 (((x4 + (1 : Int32)) : Int32).toNatClampNeg) ((q17.1 : Int32).toNatClampNeg)) + (q20.2.1 ox0 74 ((x4 : Int32).toNatClampNeg) ((x5 : Int32).toNatClampNeg))), am_i q17.1, am_r ox0 74 (((x4 + (1 : Int32)) : Int32).toNatClampNeg)], q20.2)) rfl ⟨trivial, trivial, trivial⟩ ?_
          refine am_less [0, 1, 2, 3, 4, 5] rfl ?_
          exact jl_X8_findJourneys_45_191 X hr k81 k90 k100 hk81 hk90 hk100 ox0 ox1 ix1 x2 x4 x5 x6 ((q20.2.1 ox0 74 (((x4 + (1 : Int32)) : Int32).toNatClampNeg) ((q17.1 : Int32).toNatClampNeg)) + (q20.2.1 ox0 74 ((x4 : Int32).toNatClampNeg) ((x5 : Int32).toNatClampNeg))) q17.1 ox0 (((x4 + (1 : Int32)) : Int32).toNatClampNeg) _ h
def lp_X8_findJourneys_45_100 (k81 : Nat → Nat → Nat → Int32 → Int32 → am_S → Option (am_S)) (k90 : Nat → Nat → Nat → Int32 → Int32 → Int32 → am_S → Option (am_S)) : Nat → Nat → Nat → Nat → Int32 → Int32 → Int32 → Int32 → am_S → Option (am_S)
  | 0 => fun _ _ _ _ _ _ _ _ => none
  | n + 1 => lb_X8_findJourneys_45_100 k81 k90 (lp_X8_findJourneys_45_100 k81 k90 n)
theorem ll_X8_findJourneys_45_100 {p : Program} {l : Launch} {e : Env} {s : State} {m : MethodId} {args : Array Value} {below : List Frame} {meth : Method} {c : Code} {G : am_G} {q : am_S} (X : am_X p s m args c cX8_findJourneys yX8_findJourneys.cls 9 am_p8 G (am_fr G)) (hr : meth.sig.returnType = none ∧ meth.locks = false)  (k81 : Nat → Nat → Nat → Int32 → Int32 → am_S → Option (am_S)) (k90 : Nat → Nat → Nat → Int32 → Int32 → Int32 → am_S → Option (am_S)) (hk81 : ∀ (ox0 : Nat) (ox1 : Nat) (ix1 : Nat) (x2 : Int32) (x4 : Int32) (σ : am_S), k81 ox0 ox1 ix1 x2 x4 σ = some q → am_A p l e (am_ro 1) s m args below meth c 9 G (am_fr G) 0 0 (MQ below (am_Qc G none q) args s 0 0 (am_fr G)) (81, [(0, am_r ox0 40 0), (1, am_r ox1 45 ix1), (2, am_i x2), (4, am_i x4)], [], σ)) (hk90 : ∀ (ox0 : Nat) (ox1 : Nat) (ix1 : Nat) (x2 : Int32) (x4 : Int32) (x5 : Int32) (σ : am_S), k90 ox0 ox1 ix1 x2 x4 x5 σ = some q → am_A p l e (am_ro 1) s m args below meth c 9 G (am_fr G) 0 0 (MQ below (am_Qc G none q) args s 0 0 (am_fr G)) (90, [(0, am_r ox0 40 0), (1, am_r ox1 45 ix1), (2, am_i x2), (4, am_i x4), (5, am_i x5)], [], σ)) : ∀ (n : Nat) (ox0 : Nat) (ox1 : Nat) (ix1 : Nat) (x2 : Int32) (x4 : Int32) (x5 : Int32) (x6 : Int32) (σ : am_S), lp_X8_findJourneys_45_100 k81 k90 n ox0 ox1 ix1 x2 x4 x5 x6 σ = some q → am_A p l e (am_ro 1) s m args below meth c 9 G (am_fr G) 0 0 (MQ below (am_Qc G none q) args s 0 0 (am_fr G)) (100, [(0, am_r ox0 40 0), (1, am_r ox1 45 ix1), (2, am_i x2), (4, am_i x4), (5, am_i x5), (6, am_i x6)], [], σ) := by
  intro n
  induction n with
  | zero =>
    intro ox0 ox1 ix1 x2 x4 x5 x6 σ h
    have h : (none : Option (am_S)) = some q := h
    cases h
  | succ n ih =>
    intro ox0 ox1 ix1 x2 x4 x5 x6 σ h
    exact lc_X8_findJourneys_45_100 X hr k81 k90 (lp_X8_findJourneys_45_100 k81 k90 n) hk81 hk90 ih ox0 ox1 ix1 x2 x4 x5 x6 σ h
def lb_X8_findJourneys_45_90 (k81 : Nat → Nat → Nat → Int32 → Int32 → am_S → Option (am_S)) (k90 : Nat → Nat → Nat → Int32 → Int32 → Int32 → am_S → Option (am_S)) (ox0 : Nat) (ox1 : Nat) (ix1 : Nat) (x2 : Int32) (x4 : Int32) (x5 : Int32) (σ : am_S) : Option (am_S) :=
  (if 7 ≤ x5 then k81 ox0 ox1 ix1 x2 (x4 + 1) (σ) else lp_X8_findJourneys_45_100 k81 k90 1000 ox0 ox1 ix1 x2 x4 x5 0 (σ))
set_option maxRecDepth 100000 in
theorem lc_X8_findJourneys_45_90 {p : Program} {l : Launch} {e : Env} {s : State} {m : MethodId} {args : Array Value} {below : List Frame} {meth : Method} {c : Code} {G : am_G} {q : am_S} (X : am_X p s m args c cX8_findJourneys yX8_findJourneys.cls 9 am_p8 G (am_fr G)) (hr : meth.sig.returnType = none ∧ meth.locks = false)  (k81 : Nat → Nat → Nat → Int32 → Int32 → am_S → Option (am_S)) (k90 : Nat → Nat → Nat → Int32 → Int32 → Int32 → am_S → Option (am_S)) (hk81 : ∀ (ox0 : Nat) (ox1 : Nat) (ix1 : Nat) (x2 : Int32) (x4 : Int32) (σ : am_S), k81 ox0 ox1 ix1 x2 x4 σ = some q → am_A p l e (am_ro 1) s m args below meth c 9 G (am_fr G) 0 0 (MQ below (am_Qc G none q) args s 0 0 (am_fr G)) (81, [(0, am_r ox0 40 0), (1, am_r ox1 45 ix1), (2, am_i x2), (4, am_i x4)], [], σ)) (hk90 : ∀ (ox0 : Nat) (ox1 : Nat) (ix1 : Nat) (x2 : Int32) (x4 : Int32) (x5 : Int32) (σ : am_S), k90 ox0 ox1 ix1 x2 x4 x5 σ = some q → am_A p l e (am_ro 1) s m args below meth c 9 G (am_fr G) 0 0 (MQ below (am_Qc G none q) args s 0 0 (am_fr G)) (90, [(0, am_r ox0 40 0), (1, am_r ox1 45 ix1), (2, am_i x2), (4, am_i x4), (5, am_i x5)], [], σ)) (ox0 : Nat) (ox1 : Nat) (ix1 : Nat) (x2 : Int32) (x4 : Int32) (x5 : Int32) (σ : am_S) (h : lb_X8_findJourneys_45_90 k81 k90 ox0 ox1 ix1 x2 x4 x5 σ = some q) : am_A p l e (am_ro 1) s m args below meth c 9 G (am_fr G) 0 0 (MQ below (am_Qc G none q) args s 0 0 (am_fr G)) (90, [(0, am_r ox0 40 0), (1, am_r ox1 45 ix1), (2, am_i x2), (4, am_i x4), (5, am_i x5)], [], σ) := by
  have hc := ct_X8_findJourneys
  unfold lb_X8_findJourneys_45_90 at h
  refine am_blk hc X 47 2 (fr' := (94, [(0, am_r ox0 40 0), (1, am_r ox1 45 ix1), (2, am_i x2), (4, am_i x4), (5, am_i x5)], [am_i 7, am_i x5], σ)) rfl ⟨trivial, trivial, trivial⟩ ?_
  refine am_icmp_ge hc X 49 (tgt := 204) rfl (by decide) (fun c32 => ?_) (fun c32 => ?_)
  · replace h := am_ip c32 h
    refine am_blk hc X 106 2 (fr' := (81, [(0, am_r ox0 40 0), (1, am_r ox1 45 ix1), (2, am_i x2), (4, am_i (x4 + 1)), (5, am_i x5)], [], σ)) rfl ⟨trivial, trivial, trivial⟩ ?_
    refine am_less [0, 1, 2, 3] rfl ?_
    exact hk81 ox0 ox1 ix1 x2 (x4 + 1) _ h
  · replace h := am_in2 c32 h
    refine am_blk hc X 50 2 (fr' := (100, [(0, am_r ox0 40 0), (1, am_r ox1 45 ix1), (2, am_i x2), (4, am_i x4), (5, am_i x5), (6, am_i 0)], [], σ)) rfl ⟨trivial, trivial, trivial⟩ ?_
    exact ll_X8_findJourneys_45_100 X hr k81 k90 hk81 hk90 1000 ox0 ox1 ix1 x2 x4 x5 0 _ h
def lp_X8_findJourneys_45_90 (k81 : Nat → Nat → Nat → Int32 → Int32 → am_S → Option (am_S)) : Nat → Nat → Nat → Nat → Int32 → Int32 → Int32 → am_S → Option (am_S)
  | 0 => fun _ _ _ _ _ _ _ => none
  | n + 1 => lb_X8_findJourneys_45_90 k81 (lp_X8_findJourneys_45_90 k81 n)
theorem ll_X8_findJourneys_45_90 {p : Program} {l : Launch} {e : Env} {s : State} {m : MethodId} {args : Array Value} {below : List Frame} {meth : Method} {c : Code} {G : am_G} {q : am_S} (X : am_X p s m args c cX8_findJourneys yX8_findJourneys.cls 9 am_p8 G (am_fr G)) (hr : meth.sig.returnType = none ∧ meth.locks = false)  (k81 : Nat → Nat → Nat → Int32 → Int32 → am_S → Option (am_S)) (hk81 : ∀ (ox0 : Nat) (ox1 : Nat) (ix1 : Nat) (x2 : Int32) (x4 : Int32) (σ : am_S), k81 ox0 ox1 ix1 x2 x4 σ = some q → am_A p l e (am_ro 1) s m args below meth c 9 G (am_fr G) 0 0 (MQ below (am_Qc G none q) args s 0 0 (am_fr G)) (81, [(0, am_r ox0 40 0), (1, am_r ox1 45 ix1), (2, am_i x2), (4, am_i x4)], [], σ)) : ∀ (n : Nat) (ox0 : Nat) (ox1 : Nat) (ix1 : Nat) (x2 : Int32) (x4 : Int32) (x5 : Int32) (σ : am_S), lp_X8_findJourneys_45_90 k81 n ox0 ox1 ix1 x2 x4 x5 σ = some q → am_A p l e (am_ro 1) s m args below meth c 9 G (am_fr G) 0 0 (MQ below (am_Qc G none q) args s 0 0 (am_fr G)) (90, [(0, am_r ox0 40 0), (1, am_r ox1 45 ix1), (2, am_i x2), (4, am_i x4), (5, am_i x5)], [], σ) := by
  intro n
  induction n with
  | zero =>
    intro ox0 ox1 ix1 x2 x4 x5 σ h
    have h : (none : Option (am_S)) = some q := h
    cases h
  | succ n ih =>
    intro ox0 ox1 ix1 x2 x4 x5 σ h
    exact lc_X8_findJourneys_45_90 X hr k81 (lp_X8_findJourneys_45_90 k81 n) hk81 ih ox0 ox1 ix1 x2 x4 x5 σ h
def lb_X8_findJourneys_45_81 (k81 : Nat → Nat → Nat → Int32 → Int32 → am_S → Option (am_S)) (ox0 : Nat) (ox1 : Nat) (ix1 : Nat) (x2 : Int32) (x4 : Int32) (σ : am_S) : Option (am_S) :=
  (if x2 ≤ x4 then lp_X8_findJourneys_45_215  1000 ox0 ox1 ix1 (x2 - (1 : Int32)) (σ) else lp_X8_findJourneys_45_90 k81 1000 ox0 ox1 ix1 x2 x4 0 (σ))
set_option maxRecDepth 100000 in
theorem lc_X8_findJourneys_45_81 {p : Program} {l : Launch} {e : Env} {s : State} {m : MethodId} {args : Array Value} {below : List Frame} {meth : Method} {c : Code} {G : am_G} {q : am_S} (X : am_X p s m args c cX8_findJourneys yX8_findJourneys.cls 9 am_p8 G (am_fr G)) (hr : meth.sig.returnType = none ∧ meth.locks = false)  (k81 : Nat → Nat → Nat → Int32 → Int32 → am_S → Option (am_S)) (hk81 : ∀ (ox0 : Nat) (ox1 : Nat) (ix1 : Nat) (x2 : Int32) (x4 : Int32) (σ : am_S), k81 ox0 ox1 ix1 x2 x4 σ = some q → am_A p l e (am_ro 1) s m args below meth c 9 G (am_fr G) 0 0 (MQ below (am_Qc G none q) args s 0 0 (am_fr G)) (81, [(0, am_r ox0 40 0), (1, am_r ox1 45 ix1), (2, am_i x2), (4, am_i x4)], [], σ)) (ox0 : Nat) (ox1 : Nat) (ix1 : Nat) (x2 : Int32) (x4 : Int32) (σ : am_S) (h : lb_X8_findJourneys_45_81 k81 ox0 ox1 ix1 x2 x4 σ = some q) : am_A p l e (am_ro 1) s m args below meth c 9 G (am_fr G) 0 0 (MQ below (am_Qc G none q) args s 0 0 (am_fr G)) (81, [(0, am_r ox0 40 0), (1, am_r ox1 45 ix1), (2, am_i x2), (4, am_i x4)], [], σ) := by
  have hc := ct_X8_findJourneys
  unfold lb_X8_findJourneys_45_81 at h
  refine am_blk hc X 42 2 (fr' := (84, [(0, am_r ox0 40 0), (1, am_r ox1 45 ix1), (2, am_i x2), (4, am_i x4)], [am_i x2, am_i x4], σ)) rfl ⟨trivial, trivial, trivial⟩ ?_
  refine am_icmp_ge hc X 44 (tgt := 210) rfl (by decide) (fun c33 => ?_) (fun c33 => ?_)
  · replace h := am_ip c33 h
    refine am_blk hc X 108 4 (fr' := (215, [(0, am_r ox0 40 0), (1, am_r ox1 45 ix1), (2, am_i x2), (4, am_i (x2 - (1 : Int32)))], [], σ)) rfl ⟨trivial, trivial, trivial, trivial, trivial⟩ ?_
    refine am_less [0, 1, 3] rfl ?_
    exact ll_X8_findJourneys_45_215 X hr   1000 ox0 ox1 ix1 (x2 - (1 : Int32)) _ h
  · replace h := am_in2 c33 h
    refine am_blk hc X 45 2 (fr' := (90, [(0, am_r ox0 40 0), (1, am_r ox1 45 ix1), (2, am_i x2), (4, am_i x4), (5, am_i 0)], [], σ)) rfl ⟨trivial, trivial, trivial⟩ ?_
    exact ll_X8_findJourneys_45_90 X hr k81 hk81 1000 ox0 ox1 ix1 x2 x4 0 _ h
def lp_X8_findJourneys_45_81  : Nat → Nat → Nat → Nat → Int32 → Int32 → am_S → Option (am_S)
  | 0 => fun _ _ _ _ _ _ => none
  | n + 1 => lb_X8_findJourneys_45_81  (lp_X8_findJourneys_45_81  n)
theorem ll_X8_findJourneys_45_81 {p : Program} {l : Launch} {e : Env} {s : State} {m : MethodId} {args : Array Value} {below : List Frame} {meth : Method} {c : Code} {G : am_G} {q : am_S} (X : am_X p s m args c cX8_findJourneys yX8_findJourneys.cls 9 am_p8 G (am_fr G)) (hr : meth.sig.returnType = none ∧ meth.locks = false)    : ∀ (n : Nat) (ox0 : Nat) (ox1 : Nat) (ix1 : Nat) (x2 : Int32) (x4 : Int32) (σ : am_S), lp_X8_findJourneys_45_81  n ox0 ox1 ix1 x2 x4 σ = some q → am_A p l e (am_ro 1) s m args below meth c 9 G (am_fr G) 0 0 (MQ below (am_Qc G none q) args s 0 0 (am_fr G)) (81, [(0, am_r ox0 40 0), (1, am_r ox1 45 ix1), (2, am_i x2), (4, am_i x4)], [], σ) := by
  intro n
  induction n with
  | zero =>
    intro ox0 ox1 ix1 x2 x4 σ h
    have h : (none : Option (am_S)) = some q := h
    cases h
  | succ n ih =>
    intro ox0 ox1 ix1 x2 x4 σ h
    exact lc_X8_findJourneys_45_81 X hr  (lp_X8_findJourneys_45_81  n) ih ox0 ox1 ix1 x2 x4 σ h
def jn_X8_findJourneys_45_65 (k3 : Nat → Nat → Nat → Int32 → Int32 → Int32 → am_S → Option (am_S)) (k12 : Nat → Nat → Nat → Int32 → Int32 → Int32 → Int32 → am_S → Option (am_S)) (ox0 : Nat) (ox1 : Nat) (ix1 : Nat) (x2 : Int32) (x3 : Int32) (x4 : Int32) (x5 : Int32) (y0 : Int32) (y1 : Int32) (oy2 : Nat) (iy2 : Nat) (σ : am_S) : Option (am_S) :=
  (bif am_in y1 7 then k12 ox0 ox1 ix1 x2 x3 x4 (x5 + 1) (am_u σ oy2 76 iy2 ((y1 : Int32).toNatClampNeg) (vp_nar .boolean y0)) else none)
set_option maxRecDepth 100000 in
theorem jl_X8_findJourneys_45_65 {p : Program} {l : Launch} {e : Env} {s : State} {m : MethodId} {args : Array Value} {below : List Frame} {meth : Method} {c : Code} {G : am_G} {q : am_S} (X : am_X p s m args c cX8_findJourneys yX8_findJourneys.cls 9 am_p8 G (am_fr G)) (hr : meth.sig.returnType = none ∧ meth.locks = false)  (k3 : Nat → Nat → Nat → Int32 → Int32 → Int32 → am_S → Option (am_S)) (k12 : Nat → Nat → Nat → Int32 → Int32 → Int32 → Int32 → am_S → Option (am_S)) (hk3 : ∀ (ox0 : Nat) (ox1 : Nat) (ix1 : Nat) (x2 : Int32) (x3 : Int32) (x4 : Int32) (σ : am_S), k3 ox0 ox1 ix1 x2 x3 x4 σ = some q → am_A p l e (am_ro 1) s m args below meth c 9 G (am_fr G) 0 0 (MQ below (am_Qc G none q) args s 0 0 (am_fr G)) (3, [(0, am_r ox0 40 0), (1, am_r ox1 45 ix1), (2, am_i x2), (3, am_i x3), (4, am_i x4)], [], σ)) (hk12 : ∀ (ox0 : Nat) (ox1 : Nat) (ix1 : Nat) (x2 : Int32) (x3 : Int32) (x4 : Int32) (x5 : Int32) (σ : am_S), k12 ox0 ox1 ix1 x2 x3 x4 x5 σ = some q → am_A p l e (am_ro 1) s m args below meth c 9 G (am_fr G) 0 0 (MQ below (am_Qc G none q) args s 0 0 (am_fr G)) (12, [(0, am_r ox0 40 0), (1, am_r ox1 45 ix1), (2, am_i x2), (3, am_i x3), (4, am_i x4), (5, am_i x5)], [], σ)) (ox0 : Nat) (ox1 : Nat) (ix1 : Nat) (x2 : Int32) (x3 : Int32) (x4 : Int32) (x5 : Int32) (y0 : Int32) (y1 : Int32) (oy2 : Nat) (iy2 : Nat) (σ : am_S) (h : jn_X8_findJourneys_45_65 k3 k12 ox0 ox1 ix1 x2 x3 x4 x5 y0 y1 oy2 iy2 σ = some q) : am_A p l e (am_ro 1) s m args below meth c 9 G (am_fr G) 0 0 (MQ below (am_Qc G none q) args s 0 0 (am_fr G)) (65, [(0, am_r ox0 40 0), (1, am_r ox1 45 ix1), (2, am_i x2), (3, am_i x3), (4, am_i x4), (5, am_i x5)], [am_i y0, am_i y1, am_r oy2 76 iy2], σ) := by
  have hc := ct_X8_findJourneys
  unfold jn_X8_findJourneys_45_65 at h
  obtain ⟨ob37, h⟩ := am_ci h
  refine am_blk hc X 35 3 (fr' := (12, [(0, am_r ox0 40 0), (1, am_r ox1 45 ix1), (2, am_i x2), (3, am_i x3), (4, am_i x4), (5, am_i (x5 + 1))], [], (am_u σ oy2 76 iy2 ((y1 : Int32).toNatClampNeg) (vp_nar .boolean y0)))) rfl ⟨(am_in_vp ob37), trivial, trivial, trivial⟩ ?_
  exact hk12 ox0 ox1 ix1 x2 x3 x4 (x5 + 1) _ h
def jn_X8_findJourneys_45_44 (k3 : Nat → Nat → Nat → Int32 → Int32 → Int32 → am_S → Option (am_S)) (k12 : Nat → Nat → Nat → Int32 → Int32 → Int32 → Int32 → am_S → Option (am_S)) (ox0 : Nat) (ox1 : Nat) (ix1 : Nat) (x2 : Int32) (x3 : Int32) (x4 : Int32) (x5 : Int32) (y0 : Int32) (y1 : Int32) (oy2 : Nat) (iy2 : Nat) (σ : am_S) : Option (am_S) :=
  (bif am_in y1 7 then (bif am_in x4 41 then (if x4 = x2 then jn_X8_findJourneys_45_65 k3 k12 ox0 ox1 ix1 x2 x3 x4 x5 1 x5 ox0 ((x4 : Int32).toNatClampNeg) (am_u σ oy2 74 iy2 ((y1 : Int32).toNatClampNeg) y0) else jn_X8_findJourneys_45_65 k3 k12 ox0 ox1 ix1 x2 x3 x4 x5 0 x5 ox0 ((x4 : Int32).toNatClampNeg) (am_u σ oy2 74 iy2 ((y1 : Int32).toNatClampNeg) y0)) else none) else none)
set_option maxRecDepth 100000 in
theorem jl_X8_findJourneys_45_44 {p : Program} {l : Launch} {e : Env} {s : State} {m : MethodId} {args : Array Value} {below : List Frame} {meth : Method} {c : Code} {G : am_G} {q : am_S} (X : am_X p s m args c cX8_findJourneys yX8_findJourneys.cls 9 am_p8 G (am_fr G)) (hr : meth.sig.returnType = none ∧ meth.locks = false)  (k3 : Nat → Nat → Nat → Int32 → Int32 → Int32 → am_S → Option (am_S)) (k12 : Nat → Nat → Nat → Int32 → Int32 → Int32 → Int32 → am_S → Option (am_S)) (hk3 : ∀ (ox0 : Nat) (ox1 : Nat) (ix1 : Nat) (x2 : Int32) (x3 : Int32) (x4 : Int32) (σ : am_S), k3 ox0 ox1 ix1 x2 x3 x4 σ = some q → am_A p l e (am_ro 1) s m args below meth c 9 G (am_fr G) 0 0 (MQ below (am_Qc G none q) args s 0 0 (am_fr G)) (3, [(0, am_r ox0 40 0), (1, am_r ox1 45 ix1), (2, am_i x2), (3, am_i x3), (4, am_i x4)], [], σ)) (hk12 : ∀ (ox0 : Nat) (ox1 : Nat) (ix1 : Nat) (x2 : Int32) (x3 : Int32) (x4 : Int32) (x5 : Int32) (σ : am_S), k12 ox0 ox1 ix1 x2 x3 x4 x5 σ = some q → am_A p l e (am_ro 1) s m args below meth c 9 G (am_fr G) 0 0 (MQ below (am_Qc G none q) args s 0 0 (am_fr G)) (12, [(0, am_r ox0 40 0), (1, am_r ox1 45 ix1), (2, am_i x2), (3, am_i x3), (4, am_i x4), (5, am_i x5)], [], σ)) (ox0 : Nat) (ox1 : Nat) (ix1 : Nat) (x2 : Int32) (x3 : Int32) (x4 : Int32) (x5 : Int32) (y0 : Int32) (y1 : Int32) (oy2 : Nat) (iy2 : Nat) (σ : am_S) (h : jn_X8_findJourneys_45_44 k3 k12 ox0 ox1 ix1 x2 x3 x4 x5 y0 y1 oy2 iy2 σ = some q) : am_A p l e (am_ro 1) s m args below meth c 9 G (am_fr G) 0 0 (MQ below (am_Qc G none q) args s 0 0 (am_fr G)) (44, [(0, am_r ox0 40 0), (1, am_r ox1 45 ix1), (2, am_i x2), (3, am_i x3), (4, am_i x4), (5, am_i x5)], [am_i y0, am_i y1, am_r oy2 74 iy2], σ) := by
  have hc := ct_X8_findJourneys
  unfold jn_X8_findJourneys_45_44 at h
  obtain ⟨ob35, h⟩ := am_ci h
  obtain ⟨ob36, h⟩ := am_ci h
  refine am_blk hc X 23 8 (fr' := (57, [(0, am_r ox0 40 0), (1, am_r ox1 45 ix1), (2, am_i x2), (3, am_i x3), (4, am_i x4), (5, am_i x5)], [am_i x2, am_i x4, am_i x5, am_r ox0 76 ((x4 : Int32).toNatClampNeg)], (am_u σ oy2 74 iy2 ((y1 : Int32).toNatClampNeg) y0))) rfl ⟨(am_in_vp ob35), trivial, trivial, trivial, (am_in_vp ob36), trivial, trivial, trivial, trivial⟩ ?_
  refine am_icmp_ne hc X 31 (tgt := 64) rfl (by decide) (fun c38 => ?_) (fun c38 => ?_)
  · replace h := am_in2 c38 h
    refine am_blk hc X 34 1 (fr' := (65, [(0, am_r ox0 40 0), (1, am_r ox1 45 ix1), (2, am_i x2), (3, am_i x3), (4, am_i x4), (5, am_i x5)], [am_i 0, am_i x5, am_r ox0 76 ((x4 : Int32).toNatClampNeg)], (am_u σ oy2 74 iy2 ((y1 : Int32).toNatClampNeg) y0))) rfl ⟨trivial, trivial⟩ ?_
    exact jl_X8_findJourneys_45_65 X hr k3 k12 hk3 hk12 ox0 ox1 ix1 x2 x3 x4 x5 0 x5 ox0 ((x4 : Int32).toNatClampNeg) _ h
  · replace h := am_ip c38 h
    refine am_blk hc X 32 2 (fr' := (65, [(0, am_r ox0 40 0), (1, am_r ox1 45 ix1), (2, am_i x2), (3, am_i x3), (4, am_i x4), (5, am_i x5)], [am_i 1, am_i x5, am_r ox0 76 ((x4 : Int32).toNatClampNeg)], (am_u σ oy2 74 iy2 ((y1 : Int32).toNatClampNeg) y0))) rfl ⟨trivial, trivial, trivial⟩ ?_
    exact jl_X8_findJourneys_45_65 X hr k3 k12 hk3 hk12 ox0 ox1 ix1 x2 x3 x4 x5 1 x5 ox0 ((x4 : Int32).toNatClampNeg) _ h
def jn_X8_findJourneys_45_43 (k3 : Nat → Nat → Nat → Int32 → Int32 → Int32 → am_S → Option (am_S)) (k12 : Nat → Nat → Nat → Int32 → Int32 → Int32 → Int32 → am_S → Option (am_S)) (ox0 : Nat) (ox1 : Nat) (ix1 : Nat) (x2 : Int32) (x3 : Int32) (x4 : Int32) (x5 : Int32) (y0 : Int32) (oy1 : Nat) (iy1 : Nat) (σ : am_S) : Option (am_S) :=
  jn_X8_findJourneys_45_44 k3 k12 ox0 ox1 ix1 x2 x3 x4 x5 0 y0 oy1 iy1 (σ)
set_option maxRecDepth 100000 in
theorem jl_X8_findJourneys_45_43 {p : Program} {l : Launch} {e : Env} {s : State} {m : MethodId} {args : Array Value} {below : List Frame} {meth : Method} {c : Code} {G : am_G} {q : am_S} (X : am_X p s m args c cX8_findJourneys yX8_findJourneys.cls 9 am_p8 G (am_fr G)) (hr : meth.sig.returnType = none ∧ meth.locks = false)  (k3 : Nat → Nat → Nat → Int32 → Int32 → Int32 → am_S → Option (am_S)) (k12 : Nat → Nat → Nat → Int32 → Int32 → Int32 → Int32 → am_S → Option (am_S)) (hk3 : ∀ (ox0 : Nat) (ox1 : Nat) (ix1 : Nat) (x2 : Int32) (x3 : Int32) (x4 : Int32) (σ : am_S), k3 ox0 ox1 ix1 x2 x3 x4 σ = some q → am_A p l e (am_ro 1) s m args below meth c 9 G (am_fr G) 0 0 (MQ below (am_Qc G none q) args s 0 0 (am_fr G)) (3, [(0, am_r ox0 40 0), (1, am_r ox1 45 ix1), (2, am_i x2), (3, am_i x3), (4, am_i x4)], [], σ)) (hk12 : ∀ (ox0 : Nat) (ox1 : Nat) (ix1 : Nat) (x2 : Int32) (x3 : Int32) (x4 : Int32) (x5 : Int32) (σ : am_S), k12 ox0 ox1 ix1 x2 x3 x4 x5 σ = some q → am_A p l e (am_ro 1) s m args below meth c 9 G (am_fr G) 0 0 (MQ below (am_Qc G none q) args s 0 0 (am_fr G)) (12, [(0, am_r ox0 40 0), (1, am_r ox1 45 ix1), (2, am_i x2), (3, am_i x3), (4, am_i x4), (5, am_i x5)], [], σ)) (ox0 : Nat) (ox1 : Nat) (ix1 : Nat) (x2 : Int32) (x3 : Int32) (x4 : Int32) (x5 : Int32) (y0 : Int32) (oy1 : Nat) (iy1 : Nat) (σ : am_S) (h : jn_X8_findJourneys_45_43 k3 k12 ox0 ox1 ix1 x2 x3 x4 x5 y0 oy1 iy1 σ = some q) : am_A p l e (am_ro 1) s m args below meth c 9 G (am_fr G) 0 0 (MQ below (am_Qc G none q) args s 0 0 (am_fr G)) (43, [(0, am_r ox0 40 0), (1, am_r ox1 45 ix1), (2, am_i x2), (3, am_i x3), (4, am_i x4), (5, am_i x5)], [am_i y0, am_r oy1 74 iy1], σ) := by
  have hc := ct_X8_findJourneys
  unfold jn_X8_findJourneys_45_43 at h
  refine am_blk hc X 22 1 (fr' := (44, [(0, am_r ox0 40 0), (1, am_r ox1 45 ix1), (2, am_i x2), (3, am_i x3), (4, am_i x4), (5, am_i x5)], [am_i 0, am_i y0, am_r oy1 74 iy1], σ)) rfl ⟨trivial, trivial⟩ ?_
  exact jl_X8_findJourneys_45_44 X hr k3 k12 hk3 hk12 ox0 ox1 ix1 x2 x3 x4 x5 0 y0 oy1 iy1 _ h
def lb_X8_findJourneys_45_12 (k3 : Nat → Nat → Nat → Int32 → Int32 → Int32 → am_S → Option (am_S)) (k12 : Nat → Nat → Nat → Int32 → Int32 → Int32 → Int32 → am_S → Option (am_S)) (ox0 : Nat) (ox1 : Nat) (ix1 : Nat) (x2 : Int32) (x3 : Int32) (x4 : Int32) (x5 : Int32) (σ : am_S) : Option (am_S) :=
  (if 7 ≤ x5 then k3 ox0 ox1 ix1 x2 x3 (x4 + 1) (σ) else (bif am_in x4 41 then (if x4 = 0 then (if x5 = x3 then jn_X8_findJourneys_45_44 k3 k12 ox0 ox1 ix1 x2 x3 x4 x5 1 x5 ox0 ((x4 : Int32).toNatClampNeg) (σ) else jn_X8_findJourneys_45_43 k3 k12 ox0 ox1 ix1 x2 x3 x4 x5 x5 ox0 ((x4 : Int32).toNatClampNeg) (σ)) else jn_X8_findJourneys_45_43 k3 k12 ox0 ox1 ix1 x2 x3 x4 x5 x5 ox0 ((x4 : Int32).toNatClampNeg) (σ)) else none))
set_option maxRecDepth 100000 in
theorem lc_X8_findJourneys_45_12 {p : Program} {l : Launch} {e : Env} {s : State} {m : MethodId} {args : Array Value} {below : List Frame} {meth : Method} {c : Code} {G : am_G} {q : am_S} (X : am_X p s m args c cX8_findJourneys yX8_findJourneys.cls 9 am_p8 G (am_fr G)) (hr : meth.sig.returnType = none ∧ meth.locks = false)  (k3 : Nat → Nat → Nat → Int32 → Int32 → Int32 → am_S → Option (am_S)) (k12 : Nat → Nat → Nat → Int32 → Int32 → Int32 → Int32 → am_S → Option (am_S)) (hk3 : ∀ (ox0 : Nat) (ox1 : Nat) (ix1 : Nat) (x2 : Int32) (x3 : Int32) (x4 : Int32) (σ : am_S), k3 ox0 ox1 ix1 x2 x3 x4 σ = some q → am_A p l e (am_ro 1) s m args below meth c 9 G (am_fr G) 0 0 (MQ below (am_Qc G none q) args s 0 0 (am_fr G)) (3, [(0, am_r ox0 40 0), (1, am_r ox1 45 ix1), (2, am_i x2), (3, am_i x3), (4, am_i x4)], [], σ)) (hk12 : ∀ (ox0 : Nat) (ox1 : Nat) (ix1 : Nat) (x2 : Int32) (x3 : Int32) (x4 : Int32) (x5 : Int32) (σ : am_S), k12 ox0 ox1 ix1 x2 x3 x4 x5 σ = some q → am_A p l e (am_ro 1) s m args below meth c 9 G (am_fr G) 0 0 (MQ below (am_Qc G none q) args s 0 0 (am_fr G)) (12, [(0, am_r ox0 40 0), (1, am_r ox1 45 ix1), (2, am_i x2), (3, am_i x3), (4, am_i x4), (5, am_i x5)], [], σ)) (ox0 : Nat) (ox1 : Nat) (ix1 : Nat) (x2 : Int32) (x3 : Int32) (x4 : Int32) (x5 : Int32) (σ : am_S) (h : lb_X8_findJourneys_45_12 k3 k12 ox0 ox1 ix1 x2 x3 x4 x5 σ = some q) : am_A p l e (am_ro 1) s m args below meth c 9 G (am_fr G) 0 0 (MQ below (am_Qc G none q) args s 0 0 (am_fr G)) (12, [(0, am_r ox0 40 0), (1, am_r ox1 45 ix1), (2, am_i x2), (3, am_i x3), (4, am_i x4), (5, am_i x5)], [], σ) := by
  have hc := ct_X8_findJourneys
  unfold lb_X8_findJourneys_45_12 at h
  refine am_blk hc X 7 2 (fr' := (16, [(0, am_r ox0 40 0), (1, am_r ox1 45 ix1), (2, am_i x2), (3, am_i x3), (4, am_i x4), (5, am_i x5)], [am_i 7, am_i x5], σ)) rfl ⟨trivial, trivial, trivial⟩ ?_
  refine am_icmp_ge hc X 9 (tgt := 72) rfl (by decide) (fun c41 => ?_) (fun c41 => ?_)
  · replace h := am_ip c41 h
    refine am_blk hc X 38 2 (fr' := (3, [(0, am_r ox0 40 0), (1, am_r ox1 45 ix1), (2, am_i x2), (3, am_i x3), (4, am_i (x4 + 1)), (5, am_i x5)], [], σ)) rfl ⟨trivial, trivial, trivial⟩ ?_
    refine am_less [0, 1, 2, 3, 4] rfl ?_
    exact hk3 ox0 ox1 ix1 x2 x3 (x4 + 1) _ h
  · replace h := am_in2 c41 h
    obtain ⟨ob34, h⟩ := am_ci h
    refine am_blk hc X 10 6 (fr' := (30, [(0, am_r ox0 40 0), (1, am_r ox1 45 ix1), (2, am_i x2), (3, am_i x3), (4, am_i x4), (5, am_i x5)], [am_i x4, am_i x5, am_r ox0 74 ((x4 : Int32).toNatClampNeg)], σ)) rfl ⟨trivial, trivial, trivial, (am_in_vp ob34), trivial, trivial, trivial⟩ ?_
    refine am_if_ne hc X 16 (tgt := 43) rfl (by decide) (fun c40 => ?_) (fun c40 => ?_)
    · replace h := am_in2 c40 h
      exact jl_X8_findJourneys_45_43 X hr k3 k12 hk3 hk12 ox0 ox1 ix1 x2 x3 x4 x5 x5 ox0 ((x4 : Int32).toNatClampNeg) _ h
    · replace h := am_ip c40 h
      refine am_blk hc X 17 2 (fr' := (36, [(0, am_r ox0 40 0), (1, am_r ox1 45 ix1), (2, am_i x2), (3, am_i x3), (4, am_i x4), (5, am_i x5)], [am_i x3, am_i x5, am_i x5, am_r ox0 74 ((x4 : Int32).toNatClampNeg)], σ)) rfl ⟨trivial, trivial, trivial⟩ ?_
      refine am_icmp_ne hc X 19 (tgt := 43) rfl (by decide) (fun c39 => ?_) (fun c39 => ?_)
      · replace h := am_in2 c39 h
        exact jl_X8_findJourneys_45_43 X hr k3 k12 hk3 hk12 ox0 ox1 ix1 x2 x3 x4 x5 x5 ox0 ((x4 : Int32).toNatClampNeg) _ h
      · replace h := am_ip c39 h
        refine am_blk hc X 20 2 (fr' := (44, [(0, am_r ox0 40 0), (1, am_r ox1 45 ix1), (2, am_i x2), (3, am_i x3), (4, am_i x4), (5, am_i x5)], [am_i 1, am_i x5, am_r ox0 74 ((x4 : Int32).toNatClampNeg)], σ)) rfl ⟨trivial, trivial, trivial⟩ ?_
        exact jl_X8_findJourneys_45_44 X hr k3 k12 hk3 hk12 ox0 ox1 ix1 x2 x3 x4 x5 1 x5 ox0 ((x4 : Int32).toNatClampNeg) _ h
def lp_X8_findJourneys_45_12 (k3 : Nat → Nat → Nat → Int32 → Int32 → Int32 → am_S → Option (am_S)) : Nat → Nat → Nat → Nat → Int32 → Int32 → Int32 → Int32 → am_S → Option (am_S)
  | 0 => fun _ _ _ _ _ _ _ _ => none
  | n + 1 => lb_X8_findJourneys_45_12 k3 (lp_X8_findJourneys_45_12 k3 n)
theorem ll_X8_findJourneys_45_12 {p : Program} {l : Launch} {e : Env} {s : State} {m : MethodId} {args : Array Value} {below : List Frame} {meth : Method} {c : Code} {G : am_G} {q : am_S} (X : am_X p s m args c cX8_findJourneys yX8_findJourneys.cls 9 am_p8 G (am_fr G)) (hr : meth.sig.returnType = none ∧ meth.locks = false)  (k3 : Nat → Nat → Nat → Int32 → Int32 → Int32 → am_S → Option (am_S)) (hk3 : ∀ (ox0 : Nat) (ox1 : Nat) (ix1 : Nat) (x2 : Int32) (x3 : Int32) (x4 : Int32) (σ : am_S), k3 ox0 ox1 ix1 x2 x3 x4 σ = some q → am_A p l e (am_ro 1) s m args below meth c 9 G (am_fr G) 0 0 (MQ below (am_Qc G none q) args s 0 0 (am_fr G)) (3, [(0, am_r ox0 40 0), (1, am_r ox1 45 ix1), (2, am_i x2), (3, am_i x3), (4, am_i x4)], [], σ)) : ∀ (n : Nat) (ox0 : Nat) (ox1 : Nat) (ix1 : Nat) (x2 : Int32) (x3 : Int32) (x4 : Int32) (x5 : Int32) (σ : am_S), lp_X8_findJourneys_45_12 k3 n ox0 ox1 ix1 x2 x3 x4 x5 σ = some q → am_A p l e (am_ro 1) s m args below meth c 9 G (am_fr G) 0 0 (MQ below (am_Qc G none q) args s 0 0 (am_fr G)) (12, [(0, am_r ox0 40 0), (1, am_r ox1 45 ix1), (2, am_i x2), (3, am_i x3), (4, am_i x4), (5, am_i x5)], [], σ) := by
  intro n
  induction n with
  | zero =>
    intro ox0 ox1 ix1 x2 x3 x4 x5 σ h
    have h : (none : Option (am_S)) = some q := h
    cases h
  | succ n ih =>
    intro ox0 ox1 ix1 x2 x3 x4 x5 σ h
    exact lc_X8_findJourneys_45_12 X hr k3 (lp_X8_findJourneys_45_12 k3 n) hk3 ih ox0 ox1 ix1 x2 x3 x4 x5 σ h
def lb_X8_findJourneys_45_3 (k3 : Nat → Nat → Nat → Int32 → Int32 → Int32 → am_S → Option (am_S)) (ox0 : Nat) (ox1 : Nat) (ix1 : Nat) (x2 : Int32) (x3 : Int32) (x4 : Int32) (σ : am_S) : Option (am_S) :=
  (if x2 < x4 then lp_X8_findJourneys_45_81  1000 ox0 ox1 ix1 x2 0 (σ) else lp_X8_findJourneys_45_12 k3 1000 ox0 ox1 ix1 x2 x3 x4 0 (σ))
set_option maxRecDepth 100000 in
theorem lc_X8_findJourneys_45_3 {p : Program} {l : Launch} {e : Env} {s : State} {m : MethodId} {args : Array Value} {below : List Frame} {meth : Method} {c : Code} {G : am_G} {q : am_S} (X : am_X p s m args c cX8_findJourneys yX8_findJourneys.cls 9 am_p8 G (am_fr G)) (hr : meth.sig.returnType = none ∧ meth.locks = false)  (k3 : Nat → Nat → Nat → Int32 → Int32 → Int32 → am_S → Option (am_S)) (hk3 : ∀ (ox0 : Nat) (ox1 : Nat) (ix1 : Nat) (x2 : Int32) (x3 : Int32) (x4 : Int32) (σ : am_S), k3 ox0 ox1 ix1 x2 x3 x4 σ = some q → am_A p l e (am_ro 1) s m args below meth c 9 G (am_fr G) 0 0 (MQ below (am_Qc G none q) args s 0 0 (am_fr G)) (3, [(0, am_r ox0 40 0), (1, am_r ox1 45 ix1), (2, am_i x2), (3, am_i x3), (4, am_i x4)], [], σ)) (ox0 : Nat) (ox1 : Nat) (ix1 : Nat) (x2 : Int32) (x3 : Int32) (x4 : Int32) (σ : am_S) (h : lb_X8_findJourneys_45_3 k3 ox0 ox1 ix1 x2 x3 x4 σ = some q) : am_A p l e (am_ro 1) s m args below meth c 9 G (am_fr G) 0 0 (MQ below (am_Qc G none q) args s 0 0 (am_fr G)) (3, [(0, am_r ox0 40 0), (1, am_r ox1 45 ix1), (2, am_i x2), (3, am_i x3), (4, am_i x4)], [], σ) := by
  have hc := ct_X8_findJourneys
  unfold lb_X8_findJourneys_45_3 at h
  refine am_blk hc X 2 2 (fr' := (6, [(0, am_r ox0 40 0), (1, am_r ox1 45 ix1), (2, am_i x2), (3, am_i x3), (4, am_i x4)], [am_i x2, am_i x4], σ)) rfl ⟨trivial, trivial, trivial⟩ ?_
  refine am_icmp_gt hc X 4 (tgt := 78) rfl (by decide) (fun c42 => ?_) (fun c42 => ?_)
  · replace h := am_ip c42 h
    refine am_blk hc X 40 2 (fr' := (81, [(0, am_r ox0 40 0), (1, am_r ox1 45 ix1), (2, am_i x2), (3, am_i x3), (4, am_i 0)], [], σ)) rfl ⟨trivial, trivial, trivial⟩ ?_
    refine am_less [0, 1, 2, 4] rfl ?_
    exact ll_X8_findJourneys_45_81 X hr   1000 ox0 ox1 ix1 x2 0 _ h
  · replace h := am_in2 c42 h
    refine am_blk hc X 5 2 (fr' := (12, [(0, am_r ox0 40 0), (1, am_r ox1 45 ix1), (2, am_i x2), (3, am_i x3), (4, am_i x4), (5, am_i 0)], [], σ)) rfl ⟨trivial, trivial, trivial⟩ ?_
    exact ll_X8_findJourneys_45_12 X hr k3 hk3 1000 ox0 ox1 ix1 x2 x3 x4 0 _ h
def lp_X8_findJourneys_45_3  : Nat → Nat → Nat → Nat → Int32 → Int32 → Int32 → am_S → Option (am_S)
  | 0 => fun _ _ _ _ _ _ _ => none
  | n + 1 => lb_X8_findJourneys_45_3  (lp_X8_findJourneys_45_3  n)
theorem ll_X8_findJourneys_45_3 {p : Program} {l : Launch} {e : Env} {s : State} {m : MethodId} {args : Array Value} {below : List Frame} {meth : Method} {c : Code} {G : am_G} {q : am_S} (X : am_X p s m args c cX8_findJourneys yX8_findJourneys.cls 9 am_p8 G (am_fr G)) (hr : meth.sig.returnType = none ∧ meth.locks = false)    : ∀ (n : Nat) (ox0 : Nat) (ox1 : Nat) (ix1 : Nat) (x2 : Int32) (x3 : Int32) (x4 : Int32) (σ : am_S), lp_X8_findJourneys_45_3  n ox0 ox1 ix1 x2 x3 x4 σ = some q → am_A p l e (am_ro 1) s m args below meth c 9 G (am_fr G) 0 0 (MQ below (am_Qc G none q) args s 0 0 (am_fr G)) (3, [(0, am_r ox0 40 0), (1, am_r ox1 45 ix1), (2, am_i x2), (3, am_i x3), (4, am_i x4)], [], σ) := by
  intro n
  induction n with
  | zero =>
    intro ox0 ox1 ix1 x2 x3 x4 σ h
    have h : (none : Option (am_S)) = some q := h
    cases h
  | succ n ih =>
    intro ox0 ox1 ix1 x2 x3 x4 σ h
    exact lc_X8_findJourneys_45_3 X hr  (lp_X8_findJourneys_45_3  n) ih ox0 ox1 ix1 x2 x3 x4 σ h
def fn_X8_findJourneys_45 (oa0 : Nat) (oa1 : Nat) (ia1 : Nat) (a2 : Int32) (a3 : Int32) (σ : am_S) : Option (am_S) :=
  lp_X8_findJourneys_45_3  1000 oa0 oa1 ia1 a2 a3 0 (σ)
set_option maxRecDepth 100000 in
theorem ok_X8_findJourneys_45 (l : Launch) (oa0 : Nat) (oa1 : Nat) (ia1 : Nat) (a2 : Int32) (a3 : Int32) (σ : am_S) {q : am_S} (h : fn_X8_findJourneys_45 oa0 oa1 ia1 a2 a3 σ = some q) : am_M l yX8_findJourneys cX8_findJourneys 9 none 1 [am_r oa0 40 0, am_r oa1 45 ia1, am_i a2, am_i a3] σ none q := by
  refine am_M_of (P := am_p8) (by decide +kernel) am_p8_ok rfl ?_
  intro G p e s m args below meth c X hr
  have hc := ct_X8_findJourneys
  unfold fn_X8_findJourneys_45 at h
  refine am_blk hc X 0 2 (fr' := (3, [(0, am_r oa0 40 0), (1, am_r oa1 45 ia1), (2, am_i a2), (3, am_i a3), (4, am_i 0)], [], σ)) rfl ⟨trivial, trivial, trivial⟩ ?_
  exact ll_X8_findJourneys_45_3 X hr   1000 oa0 oa1 ia1 a2 a3 0 _ h
def jn_X8_maybeAt_40 (k4 : Nat → Int32 → Int32 → Int32 → am_S → Option (Int32 × am_S)) (ox0 : Nat) (x1 : Int32) (x3 : Int32) (y0 : Int32) (y1 : Int32) (σ : am_S) : Option (Int32 × am_S) :=
  k4 ox0 x1 (y1 ||| y0) (x3 + 1) (σ)
set_option maxRecDepth 100000 in
theorem jl_X8_maybeAt_40 {p : Program} {l : Launch} {e : Env} {s : State} {m : MethodId} {args : Array Value} {below : List Frame} {meth : Method} {c : Code} {G : am_G} {q : Int32 × am_S} (X : am_X p s m args c cX8_maybeAt yX8_maybeAt.cls 4 am_p8 G (am_fr G)) (hr : meth.sig.returnType = (some .int) ∧ meth.locks = false)  (k4 : Nat → Int32 → Int32 → Int32 → am_S → Option (Int32 × am_S)) (hk4 : ∀ (ox0 : Nat) (x1 : Int32) (x2 : Int32) (x3 : Int32) (σ : am_S), k4 ox0 x1 x2 x3 σ = some q → am_A p l e (am_ro 0) s m args below meth c 4 G (am_fr G) 0 0 (MQ below (am_Qc G (some (am_i q.1)) q.2) args s 0 0 (am_fr G)) (4, [(0, am_r ox0 40 0), (1, am_i x1), (2, am_i x2), (3, am_i x3)], [], σ)) (ox0 : Nat) (x1 : Int32) (x3 : Int32) (y0 : Int32) (y1 : Int32) (σ : am_S) (h : jn_X8_maybeAt_40 k4 ox0 x1 x3 y0 y1 σ = some q) : am_A p l e (am_ro 0) s m args below meth c 4 G (am_fr G) 0 0 (MQ below (am_Qc G (some (am_i q.1)) q.2) args s 0 0 (am_fr G)) (40, [(0, am_r ox0 40 0), (1, am_i x1), (3, am_i x3)], [am_i y0, am_i y1], σ) := by
  have hc := ct_X8_maybeAt
  unfold jn_X8_maybeAt_40 at h
  refine am_blk hc X 27 4 (fr' := (4, [(0, am_r ox0 40 0), (1, am_i x1), (2, am_i (y1 ||| y0)), (3, am_i (x3 + 1))], [], σ)) rfl ⟨trivial, trivial, trivial, trivial, trivial⟩ ?_
  exact hk4 ox0 x1 (y1 ||| y0) (x3 + 1) _ h
def jn_X8_maybeAt_39 (k4 : Nat → Int32 → Int32 → Int32 → am_S → Option (Int32 × am_S)) (ox0 : Nat) (x1 : Int32) (x3 : Int32) (y0 : Int32) (σ : am_S) : Option (Int32 × am_S) :=
  jn_X8_maybeAt_40 k4 ox0 x1 x3 0 y0 (σ)
set_option maxRecDepth 100000 in
theorem jl_X8_maybeAt_39 {p : Program} {l : Launch} {e : Env} {s : State} {m : MethodId} {args : Array Value} {below : List Frame} {meth : Method} {c : Code} {G : am_G} {q : Int32 × am_S} (X : am_X p s m args c cX8_maybeAt yX8_maybeAt.cls 4 am_p8 G (am_fr G)) (hr : meth.sig.returnType = (some .int) ∧ meth.locks = false)  (k4 : Nat → Int32 → Int32 → Int32 → am_S → Option (Int32 × am_S)) (hk4 : ∀ (ox0 : Nat) (x1 : Int32) (x2 : Int32) (x3 : Int32) (σ : am_S), k4 ox0 x1 x2 x3 σ = some q → am_A p l e (am_ro 0) s m args below meth c 4 G (am_fr G) 0 0 (MQ below (am_Qc G (some (am_i q.1)) q.2) args s 0 0 (am_fr G)) (4, [(0, am_r ox0 40 0), (1, am_i x1), (2, am_i x2), (3, am_i x3)], [], σ)) (ox0 : Nat) (x1 : Int32) (x3 : Int32) (y0 : Int32) (σ : am_S) (h : jn_X8_maybeAt_39 k4 ox0 x1 x3 y0 σ = some q) : am_A p l e (am_ro 0) s m args below meth c 4 G (am_fr G) 0 0 (MQ below (am_Qc G (some (am_i q.1)) q.2) args s 0 0 (am_fr G)) (39, [(0, am_r ox0 40 0), (1, am_i x1), (3, am_i x3)], [am_i y0], σ) := by
  have hc := ct_X8_maybeAt
  unfold jn_X8_maybeAt_39 at h
  refine am_blk hc X 26 1 (fr' := (40, [(0, am_r ox0 40 0), (1, am_i x1), (3, am_i x3)], [am_i 0, am_i y0], σ)) rfl ⟨trivial, trivial⟩ ?_
  exact jl_X8_maybeAt_40 X hr k4 hk4 ox0 x1 x3 0 y0 _ h
def lb_X8_maybeAt_4 (k4 : Nat → Int32 → Int32 → Int32 → am_S → Option (Int32 × am_S)) (ox0 : Nat) (x1 : Int32) (x2 : Int32) (x3 : Int32) (σ : am_S) : Option (Int32 × am_S) :=
  (if 7 ≤ x3 then some (x2, σ) else (bif am_in x1 41 then (bif am_in x3 7 then (if (σ.1 ox0 74 ((x1 : Int32).toNatClampNeg) ((x3 : Int32).toNatClampNeg)) ≤ 0 then jn_X8_maybeAt_39 k4 ox0 x1 x3 x2 (σ) else (bif am_in x1 41 then (bif am_in x3 7 then (if (σ.1 ox0 76 ((x1 : Int32).toNatClampNeg) ((x3 : Int32).toNatClampNeg)) = 0 then jn_X8_maybeAt_39 k4 ox0 x1 x3 x2 (σ) else jn_X8_maybeAt_40 k4 ox0 x1 x3 ((1 : Int32) <<< (x3 &&& 31)) x2 (σ)) else none) else none)) else none) else none))
set_option maxRecDepth 100000 in
theorem lc_X8_maybeAt_4 {p : Program} {l : Launch} {e : Env} {s : State} {m : MethodId} {args : Array Value} {below : List Frame} {meth : Method} {c : Code} {G : am_G} {q : Int32 × am_S} (X : am_X p s m args c cX8_maybeAt yX8_maybeAt.cls 4 am_p8 G (am_fr G)) (hr : meth.sig.returnType = (some .int) ∧ meth.locks = false)  (k4 : Nat → Int32 → Int32 → Int32 → am_S → Option (Int32 × am_S)) (hk4 : ∀ (ox0 : Nat) (x1 : Int32) (x2 : Int32) (x3 : Int32) (σ : am_S), k4 ox0 x1 x2 x3 σ = some q → am_A p l e (am_ro 0) s m args below meth c 4 G (am_fr G) 0 0 (MQ below (am_Qc G (some (am_i q.1)) q.2) args s 0 0 (am_fr G)) (4, [(0, am_r ox0 40 0), (1, am_i x1), (2, am_i x2), (3, am_i x3)], [], σ)) (ox0 : Nat) (x1 : Int32) (x2 : Int32) (x3 : Int32) (σ : am_S) (h : lb_X8_maybeAt_4 k4 ox0 x1 x2 x3 σ = some q) : am_A p l e (am_ro 0) s m args below meth c 4 G (am_fr G) 0 0 (MQ below (am_Qc G (some (am_i q.1)) q.2) args s 0 0 (am_fr G)) (4, [(0, am_r ox0 40 0), (1, am_i x1), (2, am_i x2), (3, am_i x3)], [], σ) := by
  have hc := ct_X8_maybeAt
  unfold lb_X8_maybeAt_4 at h
  refine am_blk hc X 4 2 (fr' := (7, [(0, am_r ox0 40 0), (1, am_i x1), (2, am_i x2), (3, am_i x3)], [am_i 7, am_i x3], σ)) rfl ⟨trivial, trivial, trivial⟩ ?_
  refine am_icmp_ge hc X 6 (tgt := 48) rfl (by decide) (fun c7 => ?_) (fun c7 => ?_)
  · replace h := am_ip c7 h
    refine am_blk hc X 31 1 (fr' := (49, [(0, am_r ox0 40 0), (1, am_i x1), (2, am_i x2), (3, am_i x3)], [am_i x2], σ)) rfl ⟨trivial, trivial⟩ ?_
    obtain rfl := Option.some.inj h
    exact am_iret hc X hr 32 rfl rfl rfl
  · replace h := am_in2 c7 h
    obtain ⟨ob1, h⟩ := am_ci h
    obtain ⟨ob2, h⟩ := am_ci h
    refine am_blk hc X 7 7 (fr' := (19, [(0, am_r ox0 40 0), (1, am_i x1), (2, am_i x2), (3, am_i x3)], [am_i (σ.1 ox0 74 ((x1 : Int32).toNatClampNeg) ((x3 : Int32).toNatClampNeg)), am_i x2], σ)) rfl ⟨trivial, trivial, trivial, trivial, (am_in_vp ob1), trivial, (am_in_vp ob2), trivial⟩ ?_
    refine am_if_le hc X 14 (tgt := 39) rfl (by decide) (fun c6 => ?_) (fun c6 => ?_)
    · replace h := am_ip c6 h
      refine am_less [0, 1, 3] rfl ?_
      exact jl_X8_maybeAt_39 X hr k4 hk4 ox0 x1 x3 x2 _ h
    · replace h := am_in2 c6 h
      obtain ⟨ob3, h⟩ := am_ci h
      obtain ⟨ob4, h⟩ := am_ci h
      refine am_blk hc X 15 6 (fr' := (30, [(0, am_r ox0 40 0), (1, am_i x1), (2, am_i x2), (3, am_i x3)], [am_i (σ.1 ox0 76 ((x1 : Int32).toNatClampNeg) ((x3 : Int32).toNatClampNeg)), am_i x2], σ)) rfl ⟨trivial, trivial, trivial, (am_in_vp ob3), trivial, (am_in_vp ob4), trivial⟩ ?_
      refine am_if_eq hc X 21 (tgt := 39) rfl (by decide) (fun c5 => ?_) (fun c5 => ?_)
      · replace h := am_ip c5 h
        refine am_less [0, 1, 3] rfl ?_
        exact jl_X8_maybeAt_39 X hr k4 hk4 ox0 x1 x3 x2 _ h
      · replace h := am_in2 c5 h
        refine am_blk hc X 22 4 (fr' := (40, [(0, am_r ox0 40 0), (1, am_i x1), (2, am_i x2), (3, am_i x3)], [am_i ((1 : Int32) <<< (x3 &&& 31)), am_i x2], σ)) rfl ⟨trivial, trivial, trivial, trivial, trivial⟩ ?_
        refine am_less [0, 1, 3] rfl ?_
        exact jl_X8_maybeAt_40 X hr k4 hk4 ox0 x1 x3 ((1 : Int32) <<< (x3 &&& 31)) x2 _ h
def lp_X8_maybeAt_4  : Nat → Nat → Int32 → Int32 → Int32 → am_S → Option (Int32 × am_S)
  | 0 => fun _ _ _ _ _ => none
  | n + 1 => lb_X8_maybeAt_4  (lp_X8_maybeAt_4  n)
theorem ll_X8_maybeAt_4 {p : Program} {l : Launch} {e : Env} {s : State} {m : MethodId} {args : Array Value} {below : List Frame} {meth : Method} {c : Code} {G : am_G} {q : Int32 × am_S} (X : am_X p s m args c cX8_maybeAt yX8_maybeAt.cls 4 am_p8 G (am_fr G)) (hr : meth.sig.returnType = (some .int) ∧ meth.locks = false)    : ∀ (n : Nat) (ox0 : Nat) (x1 : Int32) (x2 : Int32) (x3 : Int32) (σ : am_S), lp_X8_maybeAt_4  n ox0 x1 x2 x3 σ = some q → am_A p l e (am_ro 0) s m args below meth c 4 G (am_fr G) 0 0 (MQ below (am_Qc G (some (am_i q.1)) q.2) args s 0 0 (am_fr G)) (4, [(0, am_r ox0 40 0), (1, am_i x1), (2, am_i x2), (3, am_i x3)], [], σ) := by
  intro n
  induction n with
  | zero =>
    intro ox0 x1 x2 x3 σ h
    have h : (none : Option (Int32 × am_S)) = some q := h
    cases h
  | succ n ih =>
    intro ox0 x1 x2 x3 σ h
    exact lc_X8_maybeAt_4 X hr  (lp_X8_maybeAt_4  n) ih ox0 x1 x2 x3 σ h
def fn_X8_maybeAt (oa0 : Nat) (a1 : Int32) (σ : am_S) : Option (Int32 × am_S) :=
  lp_X8_maybeAt_4  1000 oa0 a1 0 0 (σ)
set_option maxRecDepth 100000 in
theorem ok_X8_maybeAt (l : Launch) (oa0 : Nat) (a1 : Int32) (σ : am_S) {q : Int32 × am_S} (h : fn_X8_maybeAt oa0 a1 σ = some q) : am_M l yX8_maybeAt cX8_maybeAt 4 (some .int) 0 [am_r oa0 40 0, am_i a1] σ (some (am_i q.1)) q.2 := by
  refine am_M_of (P := am_p8) (by decide +kernel) am_p8_ok rfl ?_
  intro G p e s m args below meth c X hr
  have hc := ct_X8_maybeAt
  unfold fn_X8_maybeAt at h
  refine am_blk hc X 0 4 (fr' := (4, [(0, am_r oa0 40 0), (1, am_i a1), (2, am_i 0), (3, am_i 0)], [], σ)) rfl ⟨trivial, trivial, trivial, trivial, trivial⟩ ?_
  exact ll_X8_maybeAt_4 X hr   1000 oa0 a1 0 0 _ h
def jn_X8_sure_45_53 (k5 : Nat → Nat → Nat → Int32 → Int32 → Int32 → am_S → Option (Int32 × am_S)) (ox0 : Nat) (ox1 : Nat) (ix1 : Nat) (x2 : Int32) (x4 : Int32) (y0 : Int32) (y1 : Int32) (σ : am_S) : Option (Int32 × am_S) :=
  k5 ox0 ox1 ix1 x2 (y1 + y0) (x4 + 1) (σ)
set_option maxRecDepth 100000 in
theorem jl_X8_sure_45_53 {p : Program} {l : Launch} {e : Env} {s : State} {m : MethodId} {args : Array Value} {below : List Frame} {meth : Method} {c : Code} {G : am_G} {q : Int32 × am_S} (X : am_X p s m args c cX8_sure yX8_sure.cls 6 am_p8 G (am_fr G)) (hr : meth.sig.returnType = (some .int) ∧ meth.locks = false)  (k5 : Nat → Nat → Nat → Int32 → Int32 → Int32 → am_S → Option (Int32 × am_S)) (hk5 : ∀ (ox0 : Nat) (ox1 : Nat) (ix1 : Nat) (x2 : Int32) (x3 : Int32) (x4 : Int32) (σ : am_S), k5 ox0 ox1 ix1 x2 x3 x4 σ = some q → am_A p l e (am_ro 1) s m args below meth c 6 G (am_fr G) 0 0 (MQ below (am_Qc G (some (am_i q.1)) q.2) args s 0 0 (am_fr G)) (5, [(0, am_r ox0 40 0), (1, am_r ox1 45 ix1), (2, am_i x2), (3, am_i x3), (4, am_i x4)], [], σ)) (ox0 : Nat) (ox1 : Nat) (ix1 : Nat) (x2 : Int32) (x4 : Int32) (y0 : Int32) (y1 : Int32) (σ : am_S) (h : jn_X8_sure_45_53 k5 ox0 ox1 ix1 x2 x4 y0 y1 σ = some q) : am_A p l e (am_ro 1) s m args below meth c 6 G (am_fr G) 0 0 (MQ below (am_Qc G (some (am_i q.1)) q.2) args s 0 0 (am_fr G)) (53, [(0, am_r ox0 40 0), (1, am_r ox1 45 ix1), (2, am_i x2), (4, am_i x4)], [am_i y0, am_i y1], σ) := by
  have hc := ct_X8_sure
  unfold jn_X8_sure_45_53 at h
  refine am_blk hc X 31 4 (fr' := (5, [(0, am_r ox0 40 0), (1, am_r ox1 45 ix1), (2, am_i x2), (3, am_i (y1 + y0)), (4, am_i (x4 + 1))], [], σ)) rfl ⟨trivial, trivial, trivial, trivial, trivial⟩ ?_
  exact hk5 ox0 ox1 ix1 x2 (y1 + y0) (x4 + 1) _ h
def jn_X8_sure_45_52 (k5 : Nat → Nat → Nat → Int32 → Int32 → Int32 → am_S → Option (Int32 × am_S)) (ox0 : Nat) (ox1 : Nat) (ix1 : Nat) (x2 : Int32) (x4 : Int32) (y0 : Int32) (σ : am_S) : Option (Int32 × am_S) :=
  jn_X8_sure_45_53 k5 ox0 ox1 ix1 x2 x4 0 y0 (σ)
set_option maxRecDepth 100000 in
theorem jl_X8_sure_45_52 {p : Program} {l : Launch} {e : Env} {s : State} {m : MethodId} {args : Array Value} {below : List Frame} {meth : Method} {c : Code} {G : am_G} {q : Int32 × am_S} (X : am_X p s m args c cX8_sure yX8_sure.cls 6 am_p8 G (am_fr G)) (hr : meth.sig.returnType = (some .int) ∧ meth.locks = false)  (k5 : Nat → Nat → Nat → Int32 → Int32 → Int32 → am_S → Option (Int32 × am_S)) (hk5 : ∀ (ox0 : Nat) (ox1 : Nat) (ix1 : Nat) (x2 : Int32) (x3 : Int32) (x4 : Int32) (σ : am_S), k5 ox0 ox1 ix1 x2 x3 x4 σ = some q → am_A p l e (am_ro 1) s m args below meth c 6 G (am_fr G) 0 0 (MQ below (am_Qc G (some (am_i q.1)) q.2) args s 0 0 (am_fr G)) (5, [(0, am_r ox0 40 0), (1, am_r ox1 45 ix1), (2, am_i x2), (3, am_i x3), (4, am_i x4)], [], σ)) (ox0 : Nat) (ox1 : Nat) (ix1 : Nat) (x2 : Int32) (x4 : Int32) (y0 : Int32) (σ : am_S) (h : jn_X8_sure_45_52 k5 ox0 ox1 ix1 x2 x4 y0 σ = some q) : am_A p l e (am_ro 1) s m args below meth c 6 G (am_fr G) 0 0 (MQ below (am_Qc G (some (am_i q.1)) q.2) args s 0 0 (am_fr G)) (52, [(0, am_r ox0 40 0), (1, am_r ox1 45 ix1), (2, am_i x2), (4, am_i x4)], [am_i y0], σ) := by
  have hc := ct_X8_sure
  unfold jn_X8_sure_45_52 at h
  refine am_blk hc X 30 1 (fr' := (53, [(0, am_r ox0 40 0), (1, am_r ox1 45 ix1), (2, am_i x2), (4, am_i x4)], [am_i 0, am_i y0], σ)) rfl ⟨trivial, trivial⟩ ?_
  exact jl_X8_sure_45_53 X hr k5 hk5 ox0 ox1 ix1 x2 x4 0 y0 _ h
def lb_X8_sure_45_5 (k5 : Nat → Nat → Nat → Int32 → Int32 → Int32 → am_S → Option (Int32 × am_S)) (ox0 : Nat) (ox1 : Nat) (ix1 : Nat) (x2 : Int32) (x3 : Int32) (x4 : Int32) (σ : am_S) : Option (Int32 × am_S) :=
  (if x2 ≤ x4 then some (x3, σ) else (fn_X8_maybeAt ox0 (x4 + (1 : Int32)) (σ)).bind fun q1 => (bif am_in x4 40 then (if (lg_cmp (q1.2.2 ox1 45 ix1 ((x4 : Int32).toNatClampNeg)) (-1)) = 0 then (if q1.1 = 0 then jn_X8_sure_45_52 k5 ox0 ox1 ix1 x2 x4 x3 q1.2 else (if (q1.1 &&& (q1.1 - (1 : Int32))) = 0 then jn_X8_sure_45_53 k5 ox0 ox1 ix1 x2 x4 1 x3 q1.2 else jn_X8_sure_45_52 k5 ox0 ox1 ix1 x2 x4 x3 q1.2)) else jn_X8_sure_45_52 k5 ox0 ox1 ix1 x2 x4 x3 q1.2) else none))
set_option maxRecDepth 100000 in
theorem lc_X8_sure_45_5 {p : Program} {l : Launch} {e : Env} {s : State} {m : MethodId} {args : Array Value} {below : List Frame} {meth : Method} {c : Code} {G : am_G} {q : Int32 × am_S} (X : am_X p s m args c cX8_sure yX8_sure.cls 6 am_p8 G (am_fr G)) (hr : meth.sig.returnType = (some .int) ∧ meth.locks = false)  (k5 : Nat → Nat → Nat → Int32 → Int32 → Int32 → am_S → Option (Int32 × am_S)) (hk5 : ∀ (ox0 : Nat) (ox1 : Nat) (ix1 : Nat) (x2 : Int32) (x3 : Int32) (x4 : Int32) (σ : am_S), k5 ox0 ox1 ix1 x2 x3 x4 σ = some q → am_A p l e (am_ro 1) s m args below meth c 6 G (am_fr G) 0 0 (MQ below (am_Qc G (some (am_i q.1)) q.2) args s 0 0 (am_fr G)) (5, [(0, am_r ox0 40 0), (1, am_r ox1 45 ix1), (2, am_i x2), (3, am_i x3), (4, am_i x4)], [], σ)) (ox0 : Nat) (ox1 : Nat) (ix1 : Nat) (x2 : Int32) (x3 : Int32) (x4 : Int32) (σ : am_S) (h : lb_X8_sure_45_5 k5 ox0 ox1 ix1 x2 x3 x4 σ = some q) : am_A p l e (am_ro 1) s m args below meth c 6 G (am_fr G) 0 0 (MQ below (am_Qc G (some (am_i q.1)) q.2) args s 0 0 (am_fr G)) (5, [(0, am_r ox0 40 0), (1, am_r ox1 45 ix1), (2, am_i x2), (3, am_i x3), (4, am_i x4)], [], σ) := by
  have hc := ct_X8_sure
  unfold lb_X8_sure_45_5 at h
  refine am_blk hc X 4 2 (fr' := (8, [(0, am_r ox0 40 0), (1, am_r ox1 45 ix1), (2, am_i x2), (3, am_i x3), (4, am_i x4)], [am_i x2, am_i x4], σ)) rfl ⟨trivial, trivial, trivial⟩ ?_
  refine am_icmp_ge hc X 6 (tgt := 61) rfl (by decide) (fun c7 => ?_) (fun c7 => ?_)
  · replace h := am_ip c7 h
    refine am_blk hc X 35 1 (fr' := (62, [(0, am_r ox0 40 0), (1, am_r ox1 45 ix1), (2, am_i x2), (3, am_i x3), (4, am_i x4)], [am_i x3], σ)) rfl ⟨trivial, trivial⟩ ?_
    obtain rfl := Option.some.inj h
    exact am_iret hc X hr 36 rfl rfl rfl
  · replace h := am_in2 c7 h
    refine am_blk hc X 7 4 (fr' := (16, [(0, am_r ox0 40 0), (1, am_r ox1 45 ix1), (2, am_i x2), (3, am_i x3), (4, am_i x4)], [am_i (x4 + (1 : Int32)), am_r ox0 40 0], σ)) rfl ⟨trivial, trivial, trivial, trivial, trivial⟩ ?_
    obtain ⟨q1, hq2, h⟩ := am_bs h
    refine am_callV hc 11 X (k := 40) (i := 0) (o := ox0) (As := [am_i (x4 + (1 : Int32))]) (rest := []) rfl (ok_X8_maybeAt l ox0 (x4 + (1 : Int32)) (σ) hq2) yv_X8_maybeAt ml_X8_352 (cl_40) rfl rfl rfl rfl rfl ?_
    obtain ⟨ob3, h⟩ := am_ci h
    refine am_blk hc X 12 7 (fr' := (30, [(0, am_r ox0 40 0), (1, am_r ox1 45 ix1), (2, am_i x2), (3, am_i x3), (4, am_i x4), (5, am_i q1.1)], [am_i (lg_cmp (q1.2.2 ox1 45 ix1 ((x4 : Int32).toNatClampNeg)) (-1)), am_i x3], q1.2)) rfl ⟨trivial, trivial, trivial, trivial, (am_in_vp ob3), trivial, trivial, trivial⟩ ?_
    refine am_if_ne hc X 19 (tgt := 52) rfl (by decide) (fun c6 => ?_) (fun c6 => ?_)
    · replace h := am_in2 c6 h
      refine am_less [0, 1, 2, 4] rfl ?_
      exact jl_X8_sure_45_52 X hr k5 hk5 ox0 ox1 ix1 x2 x4 x3 _ h
    · replace h := am_ip c6 h
      refine am_blk hc X 20 1 (fr' := (35, [(0, am_r ox0 40 0), (1, am_r ox1 45 ix1), (2, am_i x2), (3, am_i x3), (4, am_i x4), (5, am_i q1.1)], [am_i q1.1, am_i x3], q1.2)) rfl ⟨trivial, trivial⟩ ?_
      refine am_if_eq hc X 21 (tgt := 52) rfl (by decide) (fun c5 => ?_) (fun c5 => ?_)
      · replace h := am_ip c5 h
        refine am_less [0, 1, 2, 4] rfl ?_
        exact jl_X8_sure_45_52 X hr k5 hk5 ox0 ox1 ix1 x2 x4 x3 _ h
      · replace h := am_in2 c5 h
        refine am_blk hc X 22 5 (fr' := (45, [(0, am_r ox0 40 0), (1, am_r ox1 45 ix1), (2, am_i x2), (3, am_i x3), (4, am_i x4), (5, am_i q1.1)], [am_i (q1.1 &&& (q1.1 - (1 : Int32))), am_i x3], q1.2)) rfl ⟨trivial, trivial, trivial, trivial, trivial, trivial⟩ ?_
        refine am_if_ne hc X 27 (tgt := 52) rfl (by decide) (fun c4 => ?_) (fun c4 => ?_)
        · replace h := am_in2 c4 h
          refine am_less [0, 1, 2, 4] rfl ?_
          exact jl_X8_sure_45_52 X hr k5 hk5 ox0 ox1 ix1 x2 x4 x3 _ h
        · replace h := am_ip c4 h
          refine am_blk hc X 28 2 (fr' := (53, [(0, am_r ox0 40 0), (1, am_r ox1 45 ix1), (2, am_i x2), (3, am_i x3), (4, am_i x4), (5, am_i q1.1)], [am_i 1, am_i x3], q1.2)) rfl ⟨trivial, trivial, trivial⟩ ?_
          refine am_less [0, 1, 2, 4] rfl ?_
          exact jl_X8_sure_45_53 X hr k5 hk5 ox0 ox1 ix1 x2 x4 1 x3 _ h
def lp_X8_sure_45_5  : Nat → Nat → Nat → Nat → Int32 → Int32 → Int32 → am_S → Option (Int32 × am_S)
  | 0 => fun _ _ _ _ _ _ _ => none
  | n + 1 => lb_X8_sure_45_5  (lp_X8_sure_45_5  n)
theorem ll_X8_sure_45_5 {p : Program} {l : Launch} {e : Env} {s : State} {m : MethodId} {args : Array Value} {below : List Frame} {meth : Method} {c : Code} {G : am_G} {q : Int32 × am_S} (X : am_X p s m args c cX8_sure yX8_sure.cls 6 am_p8 G (am_fr G)) (hr : meth.sig.returnType = (some .int) ∧ meth.locks = false)    : ∀ (n : Nat) (ox0 : Nat) (ox1 : Nat) (ix1 : Nat) (x2 : Int32) (x3 : Int32) (x4 : Int32) (σ : am_S), lp_X8_sure_45_5  n ox0 ox1 ix1 x2 x3 x4 σ = some q → am_A p l e (am_ro 1) s m args below meth c 6 G (am_fr G) 0 0 (MQ below (am_Qc G (some (am_i q.1)) q.2) args s 0 0 (am_fr G)) (5, [(0, am_r ox0 40 0), (1, am_r ox1 45 ix1), (2, am_i x2), (3, am_i x3), (4, am_i x4)], [], σ) := by
  intro n
  induction n with
  | zero =>
    intro ox0 ox1 ix1 x2 x3 x4 σ h
    have h : (none : Option (Int32 × am_S)) = some q := h
    cases h
  | succ n ih =>
    intro ox0 ox1 ix1 x2 x3 x4 σ h
    exact lc_X8_sure_45_5 X hr  (lp_X8_sure_45_5  n) ih ox0 ox1 ix1 x2 x3 x4 σ h
def fn_X8_sure_45 (oa0 : Nat) (oa1 : Nat) (ia1 : Nat) (a2 : Int32) (σ : am_S) : Option (Int32 × am_S) :=
  lp_X8_sure_45_5  1000 oa0 oa1 ia1 a2 0 0 (σ)
set_option maxRecDepth 100000 in
theorem ok_X8_sure_45 (l : Launch) (oa0 : Nat) (oa1 : Nat) (ia1 : Nat) (a2 : Int32) (σ : am_S) {q : Int32 × am_S} (h : fn_X8_sure_45 oa0 oa1 ia1 a2 σ = some q) : am_M l yX8_sure cX8_sure 6 (some .int) 1 [am_r oa0 40 0, am_r oa1 45 ia1, am_i a2] σ (some (am_i q.1)) q.2 := by
  refine am_M_of (P := am_p8) (by decide +kernel) am_p8_ok rfl ?_
  intro G p e s m args below meth c X hr
  have hc := ct_X8_sure
  unfold fn_X8_sure_45 at h
  refine am_blk hc X 0 4 (fr' := (5, [(0, am_r oa0 40 0), (1, am_r oa1 45 ia1), (2, am_i a2), (3, am_i 0), (4, am_i 0)], [], σ)) rfl ⟨trivial, trivial, trivial, trivial, trivial⟩ ?_
  exact ll_X8_sure_45_5 X hr   1000 oa0 oa1 ia1 a2 0 0 _ h
def jn_X8_journeys_45  (ox0 : Nat) (σ : am_S) : Option (Int32 × am_S) :=
  (fn_X8_refuse ox0 (-2) (σ)).bind fun q3 => some (q3.1, q3.2)
set_option maxRecDepth 100000 in
theorem jl_X8_journeys_45 {p : Program} {l : Launch} {e : Env} {s : State} {m : MethodId} {args : Array Value} {below : List Frame} {meth : Method} {c : Code} {G : am_G} {q : Int32 × am_S} (X : am_X p s m args c cX8_journeys yX8_journeys.cls 7 am_p8 G (am_fr G)) (hr : meth.sig.returnType = (some .int) ∧ meth.locks = false)    (ox0 : Nat) (σ : am_S) (h : jn_X8_journeys_45  ox0 σ = some q) : am_A p l e (am_ro 2) s m args below meth c 7 G (am_fr G) 0 0 (MQ below (am_Qc G (some (am_i q.1)) q.2) args s 0 0 (am_fr G)) (45, [(0, am_r ox0 40 0)], [], σ) := by
  have hc := ct_X8_journeys
  unfold jn_X8_journeys_45 at h
  refine am_blk hc X 22 2 (fr' := (48, [(0, am_r ox0 40 0)], [am_i (-2), am_r ox0 40 0], σ)) rfl ⟨trivial, trivial, trivial⟩ ?_
  obtain ⟨q3, hq4, h⟩ := am_bs h
  refine am_callV hc 24 X (k := 40) (i := 0) (o := ox0) (As := [am_i (-2)]) (rest := []) rfl (ok_X8_refuse l ox0 (-2) (σ) hq4) yv_X8_refuse ml_X8_129 (cl_40) rfl rfl rfl rfl rfl ?_
  obtain rfl := Option.some.inj h
  exact am_iret hc X hr 25 rfl rfl rfl
def jn_X8_journeys_131 (k87 : Nat → Int32 → Int32 → Int32 → Int32 → Int32 → am_S → Option (Int32 × am_S)) (ox0 : Nat) (x1 : Int32) (x2 : Int32) (x3 : Int32) (x4 : Int32) (x6 : Int32) (σ : am_S) : Option (Int32 × am_S) :=
  k87 ox0 x1 x2 x3 x4 (x6 + 1) (σ)
set_option maxRecDepth 100000 in
theorem jl_X8_journeys_131 {p : Program} {l : Launch} {e : Env} {s : State} {m : MethodId} {args : Array Value} {below : List Frame} {meth : Method} {c : Code} {G : am_G} {q : Int32 × am_S} (X : am_X p s m args c cX8_journeys yX8_journeys.cls 7 am_p8 G (am_fr G)) (hr : meth.sig.returnType = (some .int) ∧ meth.locks = false)  (k87 : Nat → Int32 → Int32 → Int32 → Int32 → Int32 → am_S → Option (Int32 × am_S)) (hk87 : ∀ (ox0 : Nat) (x1 : Int32) (x2 : Int32) (x3 : Int32) (x4 : Int32) (x6 : Int32) (σ : am_S), k87 ox0 x1 x2 x3 x4 x6 σ = some q → am_A p l e (am_ro 2) s m args below meth c 7 G (am_fr G) 0 0 (MQ below (am_Qc G (some (am_i q.1)) q.2) args s 0 0 (am_fr G)) (87, [(0, am_r ox0 40 0), (1, am_i x1), (2, am_i x2), (3, am_i x3), (4, am_i x4), (6, am_i x6)], [], σ)) (ox0 : Nat) (x1 : Int32) (x2 : Int32) (x3 : Int32) (x4 : Int32) (x6 : Int32) (σ : am_S) (h : jn_X8_journeys_131 k87 ox0 x1 x2 x3 x4 x6 σ = some q) : am_A p l e (am_ro 2) s m args below meth c 7 G (am_fr G) 0 0 (MQ below (am_Qc G (some (am_i q.1)) q.2) args s 0 0 (am_fr G)) (131, [(0, am_r ox0 40 0), (1, am_i x1), (2, am_i x2), (3, am_i x3), (4, am_i x4), (6, am_i x6)], [], σ) := by
  have hc := ct_X8_journeys
  unfold jn_X8_journeys_131 at h
  refine am_blk hc X 70 2 (fr' := (87, [(0, am_r ox0 40 0), (1, am_i x1), (2, am_i x2), (3, am_i x3), (4, am_i x4), (6, am_i (x6 + 1))], [], σ)) rfl ⟨trivial, trivial, trivial⟩ ?_
  exact hk87 ox0 x1 x2 x3 x4 (x6 + 1) _ h
def lb_X8_journeys_87 (k87 : Nat → Int32 → Int32 → Int32 → Int32 → Int32 → am_S → Option (Int32 × am_S)) (ox0 : Nat) (x1 : Int32) (x2 : Int32) (x3 : Int32) (x4 : Int32) (x6 : Int32) (σ : am_S) : Option (Int32 × am_S) :=
  (if x2 ≤ x6 then (bif am_in x1 8 then (fn_X8_findJourneys_45 ox0 ox0 ((x1 : Int32).toNatClampNeg) x2 x3 (σ)).bind fun q15 => (if x4 = 0 then (fn_X8_journeysTo ox0 x2 q15).bind fun q27 => some (q27.1, q27.2) else (if x4 = 1 then (fn_X8_maybeAt ox0 x2 q15).bind fun q25 => some (q25.1, q25.2) else (if x4 = 2 then (fn_X8_forged ox0 x2 q15).bind fun q23 => some (q23.1, q23.2) else (bif am_in x1 8 then (fn_X8_sure_45 ox0 ox0 ((x1 : Int32).toNatClampNeg) x2 q15).bind fun q18 => some (q18.1, q18.2) else none)))) else none) else (bif am_in x1 8 then (bif am_in x6 40 then (if (lg_cmp (σ.2 ox0 45 ((x1 : Int32).toNatClampNeg) ((x6 : Int32).toNatClampNeg)) (-1)) = 0 then jn_X8_journeys_131 k87 ox0 x1 x2 x3 x4 x6 (σ) else (bif am_in x1 8 then (bif am_in x6 40 then (fn_X8_isValley (σ.2 ox0 45 ((x1 : Int32).toNatClampNeg) ((x6 : Int32).toNatClampNeg)) (σ)).bind fun q33 => (if q33.1 = 0 then (fn_X8_refuse ox0 (-5) q33.2).bind fun q35 => some (q35.1, q35.2) else jn_X8_journeys_131 k87 ox0 x1 x2 x3 x4 x6 q33.2) else none) else none)) else none) else none))
set_option maxRecDepth 100000 in
theorem lc_X8_journeys_87 {p : Program} {l : Launch} {e : Env} {s : State} {m : MethodId} {args : Array Value} {below : List Frame} {meth : Method} {c : Code} {G : am_G} {q : Int32 × am_S} (X : am_X p s m args c cX8_journeys yX8_journeys.cls 7 am_p8 G (am_fr G)) (hr : meth.sig.returnType = (some .int) ∧ meth.locks = false)  (k87 : Nat → Int32 → Int32 → Int32 → Int32 → Int32 → am_S → Option (Int32 × am_S)) (hk87 : ∀ (ox0 : Nat) (x1 : Int32) (x2 : Int32) (x3 : Int32) (x4 : Int32) (x6 : Int32) (σ : am_S), k87 ox0 x1 x2 x3 x4 x6 σ = some q → am_A p l e (am_ro 2) s m args below meth c 7 G (am_fr G) 0 0 (MQ below (am_Qc G (some (am_i q.1)) q.2) args s 0 0 (am_fr G)) (87, [(0, am_r ox0 40 0), (1, am_i x1), (2, am_i x2), (3, am_i x3), (4, am_i x4), (6, am_i x6)], [], σ)) (ox0 : Nat) (x1 : Int32) (x2 : Int32) (x3 : Int32) (x4 : Int32) (x6 : Int32) (σ : am_S) (h : lb_X8_journeys_87 k87 ox0 x1 x2 x3 x4 x6 σ = some q) : am_A p l e (am_ro 2) s m args below meth c 7 G (am_fr G) 0 0 (MQ below (am_Qc G (some (am_i q.1)) q.2) args s 0 0 (am_fr G)) (87, [(0, am_r ox0 40 0), (1, am_i x1), (2, am_i x2), (3, am_i x3), (4, am_i x4), (6, am_i x6)], [], σ) := by
  have hc := ct_X8_journeys
  unfold lb_X8_journeys_87 at h
  refine am_blk hc X 46 2 (fr' := (90, [(0, am_r ox0 40 0), (1, am_i x1), (2, am_i x2), (3, am_i x3), (4, am_i x4), (6, am_i x6)], [am_i x2, am_i x6], σ)) rfl ⟨trivial, trivial, trivial⟩ ?_
  refine am_icmp_ge hc X 48 (tgt := 137) rfl (by decide) (fun c39 => ?_) (fun c39 => ?_)
  · replace h := am_ip c39 h
    obtain ⟨ob14, h⟩ := am_ci h
    refine am_blk hc X 72 7 (fr' := (146, [(0, am_r ox0 40 0), (1, am_i x1), (2, am_i x2), (3, am_i x3), (4, am_i x4), (6, am_i x6)], [am_i x3, am_i x2, am_r ox0 45 ((x1 : Int32).toNatClampNeg), am_r ox0 40 0], σ)) rfl ⟨trivial, trivial, trivial, trivial, (am_in_vp ob14), trivial, trivial, trivial⟩ ?_
    obtain ⟨q15, hq16, h⟩ := am_bs h
    refine am_callV hc 79 X (k := 40) (i := 0) (o := ox0) (As := [am_r ox0 45 ((x1 : Int32).toNatClampNeg), am_i x2, am_i x3]) (rest := []) rfl (ok_X8_findJourneys_45 l ox0 ox0 ((x1 : Int32).toNatClampNeg) x2 x3 (σ) hq16) yv_X8_findJourneys ml_X8_355 (cl_40) rfl rfl rfl rfl rfl ?_
    refine am_blk hc X 80 1 (fr' := (151, [(0, am_r ox0 40 0), (1, am_i x1), (2, am_i x2), (3, am_i x3), (4, am_i x4), (6, am_i x6)], [am_i x4], q15)) rfl ⟨trivial, trivial⟩ ?_
    by_cases c20 : x4 = 0
    · replace h := am_ip c20 h
      refine am_tin hc X 81 (tgt := 176) (off := 25) rfl (by rw [c20]; decide) (by rw [c20]; decide) (by rw [c20]; rfl) (by decide) ?_
      refine am_blk hc X 82 2 (fr' := (178, [(0, am_r ox0 40 0), (1, am_i x1), (2, am_i x2), (3, am_i x3), (4, am_i x4), (6, am_i x6)], [am_i x2, am_r ox0 40 0], q15)) rfl ⟨trivial, trivial, trivial⟩ ?_
      obtain ⟨q27, hq28, h⟩ := am_bs h
      refine am_callV hc 84 X (k := 40) (i := 0) (o := ox0) (As := [am_i x2]) (rest := []) rfl (ok_X8_journeysTo l ox0 x2 q15 hq28) yv_X8_journeysTo ml_X8_349 (cl_40) rfl rfl rfl rfl rfl ?_
      obtain rfl := Option.some.inj h
      exact am_iret hc X hr 85 rfl rfl rfl
    · replace h := am_in2 c20 h
      by_cases c21 : x4 = 1
      · replace h := am_ip c21 h
        refine am_tin hc X 81 (tgt := 182) (off := 31) rfl (by rw [c21]; decide) (by rw [c21]; decide) (by rw [c21]; rfl) (by decide) ?_
        refine am_blk hc X 86 2 (fr' := (184, [(0, am_r ox0 40 0), (1, am_i x1), (2, am_i x2), (3, am_i x3), (4, am_i x4), (6, am_i x6)], [am_i x2, am_r ox0 40 0], q15)) rfl ⟨trivial, trivial, trivial⟩ ?_
        obtain ⟨q25, hq26, h⟩ := am_bs h
        refine am_callV hc 88 X (k := 40) (i := 0) (o := ox0) (As := [am_i x2]) (rest := []) rfl (ok_X8_maybeAt l ox0 x2 q15 hq26) yv_X8_maybeAt ml_X8_352 (cl_40) rfl rfl rfl rfl rfl ?_
        obtain rfl := Option.some.inj h
        exact am_iret hc X hr 89 rfl rfl rfl
      · replace h := am_in2 c21 h
        by_cases c22 : x4 = 2
        · replace h := am_ip c22 h
          refine am_tin hc X 81 (tgt := 188) (off := 37) rfl (by rw [c22]; decide) (by rw [c22]; decide) (by rw [c22]; rfl) (by decide) ?_
          refine am_blk hc X 90 2 (fr' := (190, [(0, am_r ox0 40 0), (1, am_i x1), (2, am_i x2), (3, am_i x3), (4, am_i x4), (6, am_i x6)], [am_i x2, am_r ox0 40 0], q15)) rfl ⟨trivial, trivial, trivial⟩ ?_
          obtain ⟨q23, hq24, h⟩ := am_bs h
          refine am_callV hc 92 X (k := 40) (i := 0) (o := ox0) (As := [am_i x2]) (rest := []) rfl (ok_X8_forged l ox0 x2 q15 hq24) yv_X8_forged ml_X8_359 (cl_40) rfl rfl rfl rfl rfl ?_
          obtain rfl := Option.some.inj h
          exact am_iret hc X hr 93 rfl rfl rfl
        · replace h := am_in2 c22 h
          refine am_tout hc X 81 (tgt := 194) rfl (am_sw 0 2 (fun z h1 h2 => ?_)) (by decide) ?_
          · rcases (show z = 0 ∨ z = 1 ∨ z = 2 by omega) with rfl | rfl | rfl
            · exact lv_neT c20 rfl
            · exact lv_neT c21 rfl
            · exact lv_neT c22 rfl
          · obtain ⟨ob17, h⟩ := am_ci h
            refine am_blk hc X 94 6 (fr' := (202, [(0, am_r ox0 40 0), (1, am_i x1), (2, am_i x2), (3, am_i x3), (4, am_i x4), (6, am_i x6)], [am_i x2, am_r ox0 45 ((x1 : Int32).toNatClampNeg), am_r ox0 40 0], q15)) rfl ⟨trivial, trivial, trivial, trivial, (am_in_vp ob17), trivial, trivial⟩ ?_
            obtain ⟨q18, hq19, h⟩ := am_bs h
            refine am_callV hc 100 X (k := 40) (i := 0) (o := ox0) (As := [am_r ox0 45 ((x1 : Int32).toNatClampNeg), am_i x2]) (rest := []) rfl (ok_X8_sure_45 l ox0 ox0 ((x1 : Int32).toNatClampNeg) x2 q15 hq19) yv_X8_sure ml_X8_362 (cl_40) rfl rfl rfl rfl rfl ?_
            obtain rfl := Option.some.inj h
            exact am_iret hc X hr 101 rfl rfl rfl
  · replace h := am_in2 c39 h
    obtain ⟨ob29, h⟩ := am_ci h
    obtain ⟨ob30, h⟩ := am_ci h
    refine am_blk hc X 49 8 (fr' := (106, [(0, am_r ox0 40 0), (1, am_i x1), (2, am_i x2), (3, am_i x3), (4, am_i x4), (6, am_i x6)], [am_i (lg_cmp (σ.2 ox0 45 ((x1 : Int32).toNatClampNeg) ((x6 : Int32).toNatClampNeg)) (-1))], σ)) rfl ⟨trivial, trivial, trivial, (am_in_vp ob29), trivial, (am_in_vp ob30), trivial, trivial, trivial⟩ ?_
    refine am_if_eq hc X 57 (tgt := 131) rfl (by decide) (fun c38 => ?_) (fun c38 => ?_)
    · replace h := am_ip c38 h
      exact jl_X8_journeys_131 X hr k87 hk87 ox0 x1 x2 x3 x4 x6 _ h
    · replace h := am_in2 c38 h
      obtain ⟨ob31, h⟩ := am_ci h
      obtain ⟨ob32, h⟩ := am_ci h
      refine am_blk hc X 58 6 (fr' := (118, [(0, am_r ox0 40 0), (1, am_i x1), (2, am_i x2), (3, am_i x3), (4, am_i x4), (6, am_i x6)], [am_l (σ.2 ox0 45 ((x1 : Int32).toNatClampNeg) ((x6 : Int32).toNatClampNeg))], σ)) rfl ⟨trivial, trivial, trivial, (am_in_vp ob31), trivial, (am_in_vp ob32), trivial⟩ ?_
      obtain ⟨q33, hq34, h⟩ := am_bs h
      refine am_callS hc 64 X (As := [am_l (σ.2 ox0 45 ((x1 : Int32).toNatClampNeg) ((x6 : Int32).toNatClampNeg))]) (rest := []) rfl (ok_X8_isValley l (σ.2 ox0 45 ((x1 : Int32).toNatClampNeg) ((x6 : Int32).toNatClampNeg)) (σ) hq34) yv_X8_isValley ml_X8_154 rfl rfl rfl rfl rfl ?_
      refine am_if_ne hc X 65 (tgt := 131) rfl (by decide) (fun c37 => ?_) (fun c37 => ?_)
      · replace h := am_in2 c37 h
        exact jl_X8_journeys_131 X hr k87 hk87 ox0 x1 x2 x3 x4 x6 _ h
      · replace h := am_ip c37 h
        refine am_blk hc X 66 2 (fr' := (127, [(0, am_r ox0 40 0), (1, am_i x1), (2, am_i x2), (3, am_i x3), (4, am_i x4), (6, am_i x6)], [am_i (-5), am_r ox0 40 0], q33.2)) rfl ⟨trivial, trivial, trivial⟩ ?_
        obtain ⟨q35, hq36, h⟩ := am_bs h
        refine am_callV hc 68 X (k := 40) (i := 0) (o := ox0) (As := [am_i (-5)]) (rest := []) rfl (ok_X8_refuse l ox0 (-5) q33.2 hq36) yv_X8_refuse ml_X8_129 (cl_40) rfl rfl rfl rfl rfl ?_
        obtain rfl := Option.some.inj h
        exact am_iret hc X hr 69 rfl rfl rfl
def lp_X8_journeys_87  : Nat → Nat → Int32 → Int32 → Int32 → Int32 → Int32 → am_S → Option (Int32 × am_S)
  | 0 => fun _ _ _ _ _ _ _ => none
  | n + 1 => lb_X8_journeys_87  (lp_X8_journeys_87  n)
theorem ll_X8_journeys_87 {p : Program} {l : Launch} {e : Env} {s : State} {m : MethodId} {args : Array Value} {below : List Frame} {meth : Method} {c : Code} {G : am_G} {q : Int32 × am_S} (X : am_X p s m args c cX8_journeys yX8_journeys.cls 7 am_p8 G (am_fr G)) (hr : meth.sig.returnType = (some .int) ∧ meth.locks = false)    : ∀ (n : Nat) (ox0 : Nat) (x1 : Int32) (x2 : Int32) (x3 : Int32) (x4 : Int32) (x6 : Int32) (σ : am_S), lp_X8_journeys_87  n ox0 x1 x2 x3 x4 x6 σ = some q → am_A p l e (am_ro 2) s m args below meth c 7 G (am_fr G) 0 0 (MQ below (am_Qc G (some (am_i q.1)) q.2) args s 0 0 (am_fr G)) (87, [(0, am_r ox0 40 0), (1, am_i x1), (2, am_i x2), (3, am_i x3), (4, am_i x4), (6, am_i x6)], [], σ) := by
  intro n
  induction n with
  | zero =>
    intro ox0 x1 x2 x3 x4 x6 σ h
    have h : (none : Option (Int32 × am_S)) = some q := h
    cases h
  | succ n ih =>
    intro ox0 x1 x2 x3 x4 x6 σ h
    exact lc_X8_journeys_87 X hr  (lp_X8_journeys_87  n) ih ox0 x1 x2 x3 x4 x6 σ h
def fn_X8_journeys (oa0 : Nat) (a1 : Int32) (a2 : Int32) (a3 : Int32) (a4 : Int32) (σ : am_S) : Option (Int32 × am_S) :=
  (fn_X8_in ((a1 : Int32).toInt64) 0 7 (σ)).bind fun q1 => (if q1.1 = 0 then jn_X8_journeys_45  oa0 q1.2 else (fn_X8_in ((a2 : Int32).toInt64) 0 40 q1.2).bind fun q5 => (if q5.1 = 0 then jn_X8_journeys_45  oa0 q5.2 else (fn_X8_isValley ((a3 : Int32).toInt64) q5.2).bind fun q7 => (if q7.1 = 0 then jn_X8_journeys_45  oa0 q7.2 else (fn_X8_in ((a4 : Int32).toInt64) 0 3 q7.2).bind fun q9 => (if q9.1 = 0 then jn_X8_journeys_45  oa0 q9.2 else (fn_X8_noRow oa0 a1 q9.2).bind fun q11 => (if q11.1 = 0 then (bif am_in a1 8 then (if a2 ≤ (q11.2.1 oa0 43 0 ((a1 : Int32).toNatClampNeg)) then lp_X8_journeys_87  1000 oa0 a1 a2 a3 a4 0 q11.2 else (fn_X8_refuse oa0 (-2) q11.2).bind fun q40 => some (q40.1, q40.2)) else none) else some (q11.1, q11.2))))))
set_option maxRecDepth 100000 in
theorem ok_X8_journeys (l : Launch) (oa0 : Nat) (a1 : Int32) (a2 : Int32) (a3 : Int32) (a4 : Int32) (σ : am_S) {q : Int32 × am_S} (h : fn_X8_journeys oa0 a1 a2 a3 a4 σ = some q) : am_M l yX8_journeys cX8_journeys 7 (some .int) 2 [am_r oa0 40 0, am_i a1, am_i a2, am_i a3, am_i a4] σ (some (am_i q.1)) q.2 := by
  refine am_M_of (P := am_p8) (by decide +kernel) am_p8_ok rfl ?_
  intro G p e s m args below meth c X hr
  have hc := ct_X8_journeys
  unfold fn_X8_journeys at h
  refine am_blk hc X 0 4 (fr' := (6, [(0, am_r oa0 40 0), (1, am_i a1), (2, am_i a2), (3, am_i a3), (4, am_i a4)], [am_l 7, am_l 0, am_l ((a1 : Int32).toInt64)], σ)) rfl ⟨trivial, trivial, trivial, trivial, trivial⟩ ?_
  obtain ⟨q1, hq2, h⟩ := am_bs h
  refine am_callS hc 4 X (As := [am_l ((a1 : Int32).toInt64), am_l 0, am_l 7]) (rest := []) rfl (ok_X8_in l ((a1 : Int32).toInt64) 0 7 (σ) hq2) yv_X8_in ml_X8_117 rfl rfl rfl rfl rfl ?_
  refine am_if_eq hc X 5 (tgt := 45) rfl (by decide) (fun c47 => ?_) (fun c47 => ?_)
  · replace h := am_ip c47 h
    refine am_less [0] rfl ?_
    exact jl_X8_journeys_45 X hr   oa0 _ h
  · replace h := am_in2 c47 h
    refine am_blk hc X 6 4 (fr' := (18, [(0, am_r oa0 40 0), (1, am_i a1), (2, am_i a2), (3, am_i a3), (4, am_i a4)], [am_l 40, am_l 0, am_l ((a2 : Int32).toInt64)], q1.2)) rfl ⟨trivial, trivial, trivial, trivial, trivial⟩ ?_
    obtain ⟨q5, hq6, h⟩ := am_bs h
    refine am_callS hc 10 X (As := [am_l ((a2 : Int32).toInt64), am_l 0, am_l 40]) (rest := []) rfl (ok_X8_in l ((a2 : Int32).toInt64) 0 40 q1.2 hq6) yv_X8_in ml_X8_117 rfl rfl rfl rfl rfl ?_
    refine am_if_eq hc X 11 (tgt := 45) rfl (by decide) (fun c46 => ?_) (fun c46 => ?_)
    · replace h := am_ip c46 h
      refine am_less [0] rfl ?_
      exact jl_X8_journeys_45 X hr   oa0 _ h
    · replace h := am_in2 c46 h
      refine am_blk hc X 12 2 (fr' := (26, [(0, am_r oa0 40 0), (1, am_i a1), (2, am_i a2), (3, am_i a3), (4, am_i a4)], [am_l ((a3 : Int32).toInt64)], q5.2)) rfl ⟨trivial, trivial, trivial⟩ ?_
      obtain ⟨q7, hq8, h⟩ := am_bs h
      refine am_callS hc 14 X (As := [am_l ((a3 : Int32).toInt64)]) (rest := []) rfl (ok_X8_isValley l ((a3 : Int32).toInt64) q5.2 hq8) yv_X8_isValley ml_X8_154 rfl rfl rfl rfl rfl ?_
      refine am_if_eq hc X 15 (tgt := 45) rfl (by decide) (fun c45 => ?_) (fun c45 => ?_)
      · replace h := am_ip c45 h
        refine am_less [0] rfl ?_
        exact jl_X8_journeys_45 X hr   oa0 _ h
      · replace h := am_in2 c45 h
        refine am_blk hc X 16 4 (fr' := (39, [(0, am_r oa0 40 0), (1, am_i a1), (2, am_i a2), (3, am_i a3), (4, am_i a4)], [am_l 3, am_l 0, am_l ((a4 : Int32).toInt64)], q7.2)) rfl ⟨trivial, trivial, trivial, trivial, trivial⟩ ?_
        obtain ⟨q9, hq10, h⟩ := am_bs h
        refine am_callS hc 20 X (As := [am_l ((a4 : Int32).toInt64), am_l 0, am_l 3]) (rest := []) rfl (ok_X8_in l ((a4 : Int32).toInt64) 0 3 q7.2 hq10) yv_X8_in ml_X8_117 rfl rfl rfl rfl rfl ?_
        refine am_if_ne hc X 21 (tgt := 52) rfl (by decide) (fun c44 => ?_) (fun c44 => ?_)
        · replace h := am_in2 c44 h
          refine am_blk hc X 26 2 (fr' := (54, [(0, am_r oa0 40 0), (1, am_i a1), (2, am_i a2), (3, am_i a3), (4, am_i a4)], [am_i a1, am_r oa0 40 0], q9.2)) rfl ⟨trivial, trivial, trivial⟩ ?_
          obtain ⟨q11, hq12, h⟩ := am_bs h
          refine am_callV hc 28 X (k := 40) (i := 0) (o := oa0) (As := [am_i a1]) (rest := []) rfl (ok_X8_noRow l oa0 a1 q9.2 hq12) yv_X8_noRow ml_X8_133 (cl_40) rfl rfl rfl rfl rfl ?_
          refine am_blk hc X 29 2 (fr' := (61, [(0, am_r oa0 40 0), (1, am_i a1), (2, am_i a2), (3, am_i a3), (4, am_i a4), (5, am_i q11.1)], [am_i q11.1], q11.2)) rfl ⟨trivial, trivial, trivial⟩ ?_
          refine am_if_eq hc X 31 (tgt := 67) rfl (by decide) (fun c43 => ?_) (fun c43 => ?_)
          · replace h := am_ip c43 h
            obtain ⟨ob13, h⟩ := am_ci h
            refine am_blk hc X 34 5 (fr' := (74, [(0, am_r oa0 40 0), (1, am_i a1), (2, am_i a2), (3, am_i a3), (4, am_i a4), (5, am_i q11.1)], [am_i a2, am_i (q11.2.1 oa0 43 0 ((a1 : Int32).toNatClampNeg))], q11.2)) rfl ⟨trivial, trivial, trivial, (am_in_vp ob13), trivial, trivial⟩ ?_
            refine am_icmp_ge hc X 39 (tgt := 84) rfl (by decide) (fun c42 => ?_) (fun c42 => ?_)
            · replace h := am_ip c42 h
              refine am_blk hc X 44 2 (fr' := (87, [(0, am_r oa0 40 0), (1, am_i a1), (2, am_i a2), (3, am_i a3), (4, am_i a4), (5, am_i q11.1), (6, am_i 0)], [], q11.2)) rfl ⟨trivial, trivial, trivial⟩ ?_
              refine am_less [0, 1, 2, 3, 4, 6] rfl ?_
              exact ll_X8_journeys_87 X hr   1000 oa0 a1 a2 a3 a4 0 _ h
            · replace h := am_in2 c42 h
              refine am_blk hc X 40 2 (fr' := (80, [(0, am_r oa0 40 0), (1, am_i a1), (2, am_i a2), (3, am_i a3), (4, am_i a4), (5, am_i q11.1)], [am_i (-2), am_r oa0 40 0], q11.2)) rfl ⟨trivial, trivial, trivial⟩ ?_
              obtain ⟨q40, hq41, h⟩ := am_bs h
              refine am_callV hc 42 X (k := 40) (i := 0) (o := oa0) (As := [am_i (-2)]) (rest := []) rfl (ok_X8_refuse l oa0 (-2) q11.2 hq41) yv_X8_refuse ml_X8_129 (cl_40) rfl rfl rfl rfl rfl ?_
              obtain rfl := Option.some.inj h
              exact am_iret hc X hr 43 rfl rfl rfl
          · replace h := am_in2 c43 h
            refine am_blk hc X 32 1 (fr' := (66, [(0, am_r oa0 40 0), (1, am_i a1), (2, am_i a2), (3, am_i a3), (4, am_i a4), (5, am_i q11.1)], [am_i q11.1], q11.2)) rfl ⟨trivial, trivial⟩ ?_
            obtain rfl := Option.some.inj h
            exact am_iret hc X hr 33 rfl rfl rfl
        · replace h := am_ip c44 h
          refine am_less [0] rfl ?_
          exact jl_X8_journeys_45 X hr   oa0 _ h
def jn_X8_look_251  (ox0 : Nat) (y0 : Int32) (oy1 : Nat) (σ : am_S) : Option (am_S) :=
  some (am_u (am_u σ oy1 40 0 29 y0) ox0 40 0 28 ((σ.1 ox0 40 0 28) + (1 : Int32)))
set_option maxRecDepth 100000 in
theorem jl_X8_look_251 {p : Program} {l : Launch} {e : Env} {s : State} {m : MethodId} {args : Array Value} {below : List Frame} {meth : Method} {c : Code} {G : am_G} {q : am_S} (X : am_X p s m args c cX8_look yX8_look.cls 1 am_p8 G (am_fr G)) (hr : meth.sig.returnType = none ∧ meth.locks = false)    (ox0 : Nat) (y0 : Int32) (oy1 : Nat) (σ : am_S) (h : jn_X8_look_251  ox0 y0 oy1 σ = some q) : am_A p l e (am_ro 1) s m args below meth c 1 G (am_fr G) 0 0 (MQ below (am_Qc G none q) args s 0 0 (am_fr G)) (251, [(0, am_r ox0 40 0)], [am_i y0, am_r oy1 40 0], σ) := by
  have hc := ct_X8_look
  unfold jn_X8_look_251 at h
  refine am_blk hc X 127 7 (fr' := (264, [(0, am_r ox0 40 0)], [], (am_u (am_u σ oy1 40 0 29 y0) ox0 40 0 28 ((σ.1 ox0 40 0 28) + (1 : Int32))))) rfl ⟨trivial, trivial, trivial, trivial, trivial, trivial, trivial, trivial⟩ ?_
  obtain rfl := Option.some.inj h
  exact am_vret hc X hr 134 rfl rfl rfl
def jn_X8_look_215 (k149 : Nat → am_S → Option (am_S)) (ox0 : Nat) (y0 : Int32) (oy1 : Nat) (σ : am_S) : Option (am_S) :=
  k149 ox0 (am_u (am_u σ oy1 40 0 31 y0) ox0 40 0 28 ((σ.1 ox0 40 0 28) + (1 : Int32)))
set_option maxRecDepth 100000 in
theorem jl_X8_look_215 {p : Program} {l : Launch} {e : Env} {s : State} {m : MethodId} {args : Array Value} {below : List Frame} {meth : Method} {c : Code} {G : am_G} {q : am_S} (X : am_X p s m args c cX8_look yX8_look.cls 1 am_p8 G (am_fr G)) (hr : meth.sig.returnType = none ∧ meth.locks = false)  (k149 : Nat → am_S → Option (am_S)) (hk149 : ∀ (ox0 : Nat) (σ : am_S), k149 ox0 σ = some q → am_A p l e (am_ro 1) s m args below meth c 1 G (am_fr G) 0 0 (MQ below (am_Qc G none q) args s 0 0 (am_fr G)) (149, [(0, am_r ox0 40 0)], [], σ)) (ox0 : Nat) (y0 : Int32) (oy1 : Nat) (σ : am_S) (h : jn_X8_look_215 k149 ox0 y0 oy1 σ = some q) : am_A p l e (am_ro 1) s m args below meth c 1 G (am_fr G) 0 0 (MQ below (am_Qc G none q) args s 0 0 (am_fr G)) (215, [(0, am_r ox0 40 0)], [am_i y0, am_r oy1 40 0], σ) := by
  have hc := ct_X8_look
  unfold jn_X8_look_215 at h
  refine am_blk hc X 108 8 (fr' := (149, [(0, am_r ox0 40 0)], [], (am_u (am_u σ oy1 40 0 31 y0) ox0 40 0 28 ((σ.1 ox0 40 0 28) + (1 : Int32))))) rfl ⟨trivial, trivial, trivial, trivial, trivial, trivial, trivial, trivial, trivial⟩ ?_
  exact hk149 ox0 _ h
def lb_X8_look_149 (k149 : Nat → am_S → Option (am_S)) (ox0 : Nat) (σ : am_S) : Option (am_S) :=
  (if (σ.1 ox0 40 0 7) ≤ (σ.1 ox0 40 0 28) then some (σ) else (bif am_in (σ.1 ox0 40 0 28) 250 then (fn_X8_isDigit (σ.1 ox0 48 0 (((σ.1 ox0 40 0 28) : Int32).toNatClampNeg)) (σ)).bind fun q10 => (if q10.1 = 0 then some q10.2 else (if 3 ≤ ((q10.2.1 ox0 40 0 28) - (q10.2.1 ox0 40 0 30)) then jn_X8_look_215 k149 ox0 10000 ox0 q10.2 else (bif am_in (q10.2.1 ox0 40 0 28) 250 then jn_X8_look_215 k149 ox0 ((((q10.2.1 ox0 40 0 31) * (10 : Int32)) + (q10.2.1 ox0 48 0 (((q10.2.1 ox0 40 0 28) : Int32).toNatClampNeg))) - (48 : Int32)) ox0 q10.2 else none))) else none))
set_option maxRecDepth 100000 in
theorem lc_X8_look_149 {p : Program} {l : Launch} {e : Env} {s : State} {m : MethodId} {args : Array Value} {below : List Frame} {meth : Method} {c : Code} {G : am_G} {q : am_S} (X : am_X p s m args c cX8_look yX8_look.cls 1 am_p8 G (am_fr G)) (hr : meth.sig.returnType = none ∧ meth.locks = false)  (k149 : Nat → am_S → Option (am_S)) (hk149 : ∀ (ox0 : Nat) (σ : am_S), k149 ox0 σ = some q → am_A p l e (am_ro 1) s m args below meth c 1 G (am_fr G) 0 0 (MQ below (am_Qc G none q) args s 0 0 (am_fr G)) (149, [(0, am_r ox0 40 0)], [], σ)) (ox0 : Nat) (σ : am_S) (h : lb_X8_look_149 k149 ox0 σ = some q) : am_A p l e (am_ro 1) s m args below meth c 1 G (am_fr G) 0 0 (MQ below (am_Qc G none q) args s 0 0 (am_fr G)) (149, [(0, am_r ox0 40 0)], [], σ) := by
  have hc := ct_X8_look
  unfold lb_X8_look_149 at h
  refine am_blk hc X 74 4 (fr' := (157, [(0, am_r ox0 40 0)], [am_i (σ.1 ox0 40 0 7), am_i (σ.1 ox0 40 0 28)], σ)) rfl ⟨trivial, trivial, trivial, trivial, trivial⟩ ?_
  refine am_icmp_ge hc X 78 (tgt := 264) rfl (by decide) (fun c15 => ?_) (fun c15 => ?_)
  · replace h := am_ip c15 h
    obtain rfl := Option.some.inj h
    exact am_vret hc X hr 134 rfl rfl rfl
  · replace h := am_in2 c15 h
    obtain ⟨ob9, h⟩ := am_ci h
    refine am_blk hc X 79 5 (fr' := (169, [(0, am_r ox0 40 0)], [am_i (σ.1 ox0 48 0 (((σ.1 ox0 40 0 28) : Int32).toNatClampNeg))], σ)) rfl ⟨trivial, trivial, trivial, trivial, (am_in_vp ob9), trivial⟩ ?_
    obtain ⟨q10, hq11, h⟩ := am_bs h
    refine am_callS hc 84 X (As := [am_i (σ.1 ox0 48 0 (((σ.1 ox0 40 0 28) : Int32).toNatClampNeg))]) (rest := []) rfl (ok_X8_isDigit l (σ.1 ox0 48 0 (((σ.1 ox0 40 0 28) : Int32).toNatClampNeg)) (σ) hq11) yv_X8_isDigit ml_X8_197 rfl rfl rfl rfl rfl ?_
    refine am_if_eq hc X 85 (tgt := 264) rfl (by decide) (fun c14 => ?_) (fun c14 => ?_)
    · replace h := am_ip c14 h
      obtain rfl := Option.some.inj h
      exact am_vret hc X hr 134 rfl rfl rfl
    · replace h := am_in2 c14 h
      refine am_blk hc X 86 7 (fr' := (186, [(0, am_r ox0 40 0)], [am_i 3, am_i ((q10.2.1 ox0 40 0 28) - (q10.2.1 ox0 40 0 30)), am_r ox0 40 0], q10.2)) rfl ⟨trivial, trivial, trivial, trivial, trivial, trivial, trivial, trivial⟩ ?_
      refine am_icmp_ge hc X 93 (tgt := 212) rfl (by decide) (fun c13 => ?_) (fun c13 => ?_)
      · replace h := am_ip c13 h
        refine am_blk hc X 107 1 (fr' := (215, [(0, am_r ox0 40 0)], [am_i 10000, am_r ox0 40 0], q10.2)) rfl ⟨trivial, trivial⟩ ?_
        exact jl_X8_look_215 X hr k149 hk149 ox0 10000 ox0 _ h
      · replace h := am_in2 c13 h
        obtain ⟨ob12, h⟩ := am_ci h
        refine am_blk hc X 94 13 (fr' := (215, [(0, am_r ox0 40 0)], [am_i ((((q10.2.1 ox0 40 0 31) * (10 : Int32)) + (q10.2.1 ox0 48 0 (((q10.2.1 ox0 40 0 28) : Int32).toNatClampNeg))) - (48 : Int32)), am_r ox0 40 0], q10.2)) rfl ⟨trivial, trivial, trivial, trivial, trivial, trivial, trivial, trivial, (am_in_vp ob12), trivial, trivial, trivial, trivial, trivial⟩ ?_
        exact jl_X8_look_215 X hr k149 hk149 ox0 ((((q10.2.1 ox0 40 0 31) * (10 : Int32)) + (q10.2.1 ox0 48 0 (((q10.2.1 ox0 40 0 28) : Int32).toNatClampNeg))) - (48 : Int32)) ox0 _ h
def lp_X8_look_149  : Nat → Nat → am_S → Option (am_S)
  | 0 => fun _ _ => none
  | n + 1 => lb_X8_look_149  (lp_X8_look_149  n)
theorem ll_X8_look_149 {p : Program} {l : Launch} {e : Env} {s : State} {m : MethodId} {args : Array Value} {below : List Frame} {meth : Method} {c : Code} {G : am_G} {q : am_S} (X : am_X p s m args c cX8_look yX8_look.cls 1 am_p8 G (am_fr G)) (hr : meth.sig.returnType = none ∧ meth.locks = false)    : ∀ (n : Nat) (ox0 : Nat) (σ : am_S), lp_X8_look_149  n ox0 σ = some q → am_A p l e (am_ro 1) s m args below meth c 1 G (am_fr G) 0 0 (MQ below (am_Qc G none q) args s 0 0 (am_fr G)) (149, [(0, am_r ox0 40 0)], [], σ) := by
  intro n
  induction n with
  | zero =>
    intro ox0 σ h
    have h : (none : Option (am_S)) = some q := h
    cases h
  | succ n ih =>
    intro ox0 σ h
    exact lc_X8_look_149 X hr  (lp_X8_look_149  n) ih ox0 σ h
def lb_X8_look_90 (k90 : Nat → am_S → Option (am_S)) (ox0 : Nat) (σ : am_S) : Option (am_S) :=
  (if (σ.1 ox0 40 0 7) ≤ (σ.1 ox0 40 0 28) then some (σ) else (bif am_in (σ.1 ox0 40 0 28) 250 then (fn_X8_isLetter (σ.1 ox0 48 0 (((σ.1 ox0 40 0 28) : Int32).toNatClampNeg)) (σ)).bind fun q18 => (if q18.1 = 0 then some q18.2 else k90 ox0 (am_u q18.2 ox0 40 0 28 ((q18.2.1 ox0 40 0 28) + (1 : Int32)))) else none))
set_option maxRecDepth 100000 in
theorem lc_X8_look_90 {p : Program} {l : Launch} {e : Env} {s : State} {m : MethodId} {args : Array Value} {below : List Frame} {meth : Method} {c : Code} {G : am_G} {q : am_S} (X : am_X p s m args c cX8_look yX8_look.cls 1 am_p8 G (am_fr G)) (hr : meth.sig.returnType = none ∧ meth.locks = false)  (k90 : Nat → am_S → Option (am_S)) (hk90 : ∀ (ox0 : Nat) (σ : am_S), k90 ox0 σ = some q → am_A p l e (am_ro 1) s m args below meth c 1 G (am_fr G) 0 0 (MQ below (am_Qc G none q) args s 0 0 (am_fr G)) (90, [(0, am_r ox0 40 0)], [], σ)) (ox0 : Nat) (σ : am_S) (h : lb_X8_look_90 k90 ox0 σ = some q) : am_A p l e (am_ro 1) s m args below meth c 1 G (am_fr G) 0 0 (MQ below (am_Qc G none q) args s 0 0 (am_fr G)) (90, [(0, am_r ox0 40 0)], [], σ) := by
  have hc := ct_X8_look
  unfold lb_X8_look_90 at h
  refine am_blk hc X 45 4 (fr' := (98, [(0, am_r ox0 40 0)], [am_i (σ.1 ox0 40 0 7), am_i (σ.1 ox0 40 0 28)], σ)) rfl ⟨trivial, trivial, trivial, trivial, trivial⟩ ?_
  refine am_icmp_ge hc X 49 (tgt := 264) rfl (by decide) (fun c21 => ?_) (fun c21 => ?_)
  · replace h := am_ip c21 h
    obtain rfl := Option.some.inj h
    exact am_vret hc X hr 134 rfl rfl rfl
  · replace h := am_in2 c21 h
    obtain ⟨ob17, h⟩ := am_ci h
    refine am_blk hc X 50 5 (fr' := (110, [(0, am_r ox0 40 0)], [am_i (σ.1 ox0 48 0 (((σ.1 ox0 40 0 28) : Int32).toNatClampNeg))], σ)) rfl ⟨trivial, trivial, trivial, trivial, (am_in_vp ob17), trivial⟩ ?_
    obtain ⟨q18, hq19, h⟩ := am_bs h
    refine am_callS hc 55 X (As := [am_i (σ.1 ox0 48 0 (((σ.1 ox0 40 0 28) : Int32).toNatClampNeg))]) (rest := []) rfl (ok_X8_isLetter l (σ.1 ox0 48 0 (((σ.1 ox0 40 0 28) : Int32).toNatClampNeg)) (σ) hq19) yv_X8_isLetter ml_X8_194 rfl rfl rfl rfl rfl ?_
    refine am_if_eq hc X 56 (tgt := 264) rfl (by decide) (fun c20 => ?_) (fun c20 => ?_)
    · replace h := am_ip c20 h
      obtain rfl := Option.some.inj h
      exact am_vret hc X hr 134 rfl rfl rfl
    · replace h := am_in2 c20 h
      refine am_blk hc X 57 7 (fr' := (90, [(0, am_r ox0 40 0)], [], (am_u q18.2 ox0 40 0 28 ((q18.2.1 ox0 40 0 28) + (1 : Int32))))) rfl ⟨trivial, trivial, trivial, trivial, trivial, trivial, trivial, trivial⟩ ?_
      exact hk90 ox0 _ h
def lp_X8_look_90  : Nat → Nat → am_S → Option (am_S)
  | 0 => fun _ _ => none
  | n + 1 => lb_X8_look_90  (lp_X8_look_90  n)
theorem ll_X8_look_90 {p : Program} {l : Launch} {e : Env} {s : State} {m : MethodId} {args : Array Value} {below : List Frame} {meth : Method} {c : Code} {G : am_G} {q : am_S} (X : am_X p s m args c cX8_look yX8_look.cls 1 am_p8 G (am_fr G)) (hr : meth.sig.returnType = none ∧ meth.locks = false)    : ∀ (n : Nat) (ox0 : Nat) (σ : am_S), lp_X8_look_90  n ox0 σ = some q → am_A p l e (am_ro 1) s m args below meth c 1 G (am_fr G) 0 0 (MQ below (am_Qc G none q) args s 0 0 (am_fr G)) (90, [(0, am_r ox0 40 0)], [], σ) := by
  intro n
  induction n with
  | zero =>
    intro ox0 σ h
    have h : (none : Option (am_S)) = some q := h
    cases h
  | succ n ih =>
    intro ox0 σ h
    exact lc_X8_look_90 X hr  (lp_X8_look_90  n) ih ox0 σ h
def jn_X8_look_38  (ox0 : Nat) (σ : am_S) : Option (am_S) :=
  (if (σ.1 ox0 40 0 28) = (σ.1 ox0 40 0 7) then some (am_u (am_u (am_u σ ox0 40 0 30 (σ.1 ox0 40 0 28)) ox0 40 0 31 0) ox0 40 0 29 0) else (bif am_in (σ.1 ox0 40 0 28) 250 then (fn_X8_isLetter (σ.1 ox0 48 0 (((σ.1 ox0 40 0 28) : Int32).toNatClampNeg)) (am_u (am_u σ ox0 40 0 30 (σ.1 ox0 40 0 28)) ox0 40 0 31 0)).bind fun q2 => (if q2.1 = 0 then (bif am_in (q2.2.1 ox0 40 0 28) 250 then (fn_X8_isDigit (q2.2.1 ox0 48 0 (((q2.2.1 ox0 40 0 28) : Int32).toNatClampNeg)) q2.2).bind fun q5 => (if q5.1 = 0 then (bif am_in (q5.2.1 ox0 40 0 28) 250 then (if (q5.2.1 ox0 48 0 (((q5.2.1 ox0 40 0 28) : Int32).toNatClampNeg)) = 59 then jn_X8_look_251  ox0 3 ox0 q5.2 else jn_X8_look_251  ox0 4 ox0 q5.2) else none) else lp_X8_look_149  1000 ox0 (am_u q5.2 ox0 40 0 29 2)) else none) else lp_X8_look_90  1000 ox0 (am_u q2.2 ox0 40 0 29 1)) else none))
set_option maxRecDepth 100000 in
theorem jl_X8_look_38 {p : Program} {l : Launch} {e : Env} {s : State} {m : MethodId} {args : Array Value} {below : List Frame} {meth : Method} {c : Code} {G : am_G} {q : am_S} (X : am_X p s m args c cX8_look yX8_look.cls 1 am_p8 G (am_fr G)) (hr : meth.sig.returnType = none ∧ meth.locks = false)    (ox0 : Nat) (σ : am_S) (h : jn_X8_look_38  ox0 σ = some q) : am_A p l e (am_ro 1) s m args below meth c 1 G (am_fr G) 0 0 (MQ below (am_Qc G none q) args s 0 0 (am_fr G)) (38, [(0, am_r ox0 40 0)], [], σ) := by
  have hc := ct_X8_look
  unfold jn_X8_look_38 at h
  refine am_blk hc X 19 11 (fr' := (59, [(0, am_r ox0 40 0)], [am_i (σ.1 ox0 40 0 7), am_i (σ.1 ox0 40 0 28)], (am_u (am_u σ ox0 40 0 30 (σ.1 ox0 40 0 28)) ox0 40 0 31 0))) rfl ⟨trivial, trivial, trivial, trivial, trivial, trivial, trivial, trivial, trivial, trivial, trivial, trivial⟩ ?_
  refine am_icmp_ne hc X 30 (tgt := 70) rfl (by decide) (fun c23 => ?_) (fun c23 => ?_)
  · replace h := am_in2 c23 h
    obtain ⟨ob1, h⟩ := am_ci h
    refine am_blk hc X 35 5 (fr' := (79, [(0, am_r ox0 40 0)], [am_i (σ.1 ox0 48 0 (((σ.1 ox0 40 0 28) : Int32).toNatClampNeg))], (am_u (am_u σ ox0 40 0 30 (σ.1 ox0 40 0 28)) ox0 40 0 31 0))) rfl ⟨trivial, trivial, trivial, trivial, (am_in_vp ob1), trivial⟩ ?_
    obtain ⟨q2, hq3, h⟩ := am_bs h
    refine am_callS hc 40 X (As := [am_i (σ.1 ox0 48 0 (((σ.1 ox0 40 0 28) : Int32).toNatClampNeg))]) (rest := []) rfl (ok_X8_isLetter l (σ.1 ox0 48 0 (((σ.1 ox0 40 0 28) : Int32).toNatClampNeg)) (am_u (am_u σ ox0 40 0 30 (σ.1 ox0 40 0 28)) ox0 40 0 31 0) hq3) yv_X8_isLetter ml_X8_194 rfl rfl rfl rfl rfl ?_
    refine am_if_eq hc X 41 (tgt := 129) rfl (by decide) (fun c22 => ?_) (fun c22 => ?_)
    · replace h := am_ip c22 h
      obtain ⟨ob4, h⟩ := am_ci h
      refine am_blk hc X 64 5 (fr' := (138, [(0, am_r ox0 40 0)], [am_i (q2.2.1 ox0 48 0 (((q2.2.1 ox0 40 0 28) : Int32).toNatClampNeg))], q2.2)) rfl ⟨trivial, trivial, trivial, trivial, (am_in_vp ob4), trivial⟩ ?_
      obtain ⟨q5, hq6, h⟩ := am_bs h
      refine am_callS hc 69 X (As := [am_i (q2.2.1 ox0 48 0 (((q2.2.1 ox0 40 0 28) : Int32).toNatClampNeg))]) (rest := []) rfl (ok_X8_isDigit l (q2.2.1 ox0 48 0 (((q2.2.1 ox0 40 0 28) : Int32).toNatClampNeg)) q2.2 hq6) yv_X8_isDigit ml_X8_197 rfl rfl rfl rfl rfl ?_
      refine am_if_eq hc X 70 (tgt := 231) rfl (by decide) (fun c16 => ?_) (fun c16 => ?_)
      · replace h := am_ip c16 h
        obtain ⟨ob7, h⟩ := am_ci h
        refine am_blk hc X 116 7 (fr' := (243, [(0, am_r ox0 40 0)], [am_i 59, am_i (q5.2.1 ox0 48 0 (((q5.2.1 ox0 40 0 28) : Int32).toNatClampNeg)), am_r ox0 40 0], q5.2)) rfl ⟨trivial, trivial, trivial, trivial, trivial, (am_in_vp ob7), trivial, trivial⟩ ?_
        refine am_icmp_ne hc X 123 (tgt := 250) rfl (by decide) (fun c8 => ?_) (fun c8 => ?_)
        · replace h := am_in2 c8 h
          refine am_blk hc X 126 1 (fr' := (251, [(0, am_r ox0 40 0)], [am_i 4, am_r ox0 40 0], q5.2)) rfl ⟨trivial, trivial⟩ ?_
          exact jl_X8_look_251 X hr   ox0 4 ox0 _ h
        · replace h := am_ip c8 h
          refine am_blk hc X 124 2 (fr' := (251, [(0, am_r ox0 40 0)], [am_i 3, am_r ox0 40 0], q5.2)) rfl ⟨trivial, trivial, trivial⟩ ?_
          exact jl_X8_look_251 X hr   ox0 3 ox0 _ h
      · replace h := am_in2 c16 h
        refine am_blk hc X 71 3 (fr' := (149, [(0, am_r ox0 40 0)], [], (am_u q5.2 ox0 40 0 29 2))) rfl ⟨trivial, trivial, trivial, trivial⟩ ?_
        exact ll_X8_look_149 X hr   1000 ox0 _ h
    · replace h := am_in2 c22 h
      refine am_blk hc X 42 3 (fr' := (90, [(0, am_r ox0 40 0)], [], (am_u q2.2 ox0 40 0 29 1))) rfl ⟨trivial, trivial, trivial, trivial⟩ ?_
      exact ll_X8_look_90 X hr   1000 ox0 _ h
  · replace h := am_ip c23 h
    refine am_blk hc X 31 4 (fr' := (264, [(0, am_r ox0 40 0)], [], (am_u (am_u (am_u σ ox0 40 0 30 (σ.1 ox0 40 0 28)) ox0 40 0 31 0) ox0 40 0 29 0))) rfl ⟨trivial, trivial, trivial, trivial, trivial⟩ ?_
    obtain rfl := Option.some.inj h
    exact am_vret hc X hr 134 rfl rfl rfl
def lb_X8_look_0 (k0 : Nat → am_S → Option (am_S)) (ox0 : Nat) (σ : am_S) : Option (am_S) :=
  (if (σ.1 ox0 40 0 7) ≤ (σ.1 ox0 40 0 28) then jn_X8_look_38  ox0 (σ) else (bif am_in (σ.1 ox0 40 0 28) 250 then (if (σ.1 ox0 48 0 (((σ.1 ox0 40 0 28) : Int32).toNatClampNeg)) = 32 then k0 ox0 (am_u σ ox0 40 0 28 ((σ.1 ox0 40 0 28) + (1 : Int32))) else jn_X8_look_38  ox0 (σ)) else none))
set_option maxRecDepth 100000 in
theorem lc_X8_look_0 {p : Program} {l : Launch} {e : Env} {s : State} {m : MethodId} {args : Array Value} {below : List Frame} {meth : Method} {c : Code} {G : am_G} {q : am_S} (X : am_X p s m args c cX8_look yX8_look.cls 1 am_p8 G (am_fr G)) (hr : meth.sig.returnType = none ∧ meth.locks = false)  (k0 : Nat → am_S → Option (am_S)) (hk0 : ∀ (ox0 : Nat) (σ : am_S), k0 ox0 σ = some q → am_A p l e (am_ro 1) s m args below meth c 1 G (am_fr G) 0 0 (MQ below (am_Qc G none q) args s 0 0 (am_fr G)) (0, [(0, am_r ox0 40 0)], [], σ)) (ox0 : Nat) (σ : am_S) (h : lb_X8_look_0 k0 ox0 σ = some q) : am_A p l e (am_ro 1) s m args below meth c 1 G (am_fr G) 0 0 (MQ below (am_Qc G none q) args s 0 0 (am_fr G)) (0, [(0, am_r ox0 40 0)], [], σ) := by
  have hc := ct_X8_look
  unfold lb_X8_look_0 at h
  refine am_blk hc X 0 4 (fr' := (8, [(0, am_r ox0 40 0)], [am_i (σ.1 ox0 40 0 7), am_i (σ.1 ox0 40 0 28)], σ)) rfl ⟨trivial, trivial, trivial, trivial, trivial⟩ ?_
  refine am_icmp_ge hc X 4 (tgt := 38) rfl (by decide) (fun c26 => ?_) (fun c26 => ?_)
  · replace h := am_ip c26 h
    exact jl_X8_look_38 X hr   ox0 _ h
  · replace h := am_in2 c26 h
    obtain ⟨ob24, h⟩ := am_ci h
    refine am_blk hc X 5 6 (fr' := (22, [(0, am_r ox0 40 0)], [am_i 32, am_i (σ.1 ox0 48 0 (((σ.1 ox0 40 0 28) : Int32).toNatClampNeg))], σ)) rfl ⟨trivial, trivial, trivial, trivial, (am_in_vp ob24), trivial, trivial⟩ ?_
    refine am_icmp_ne hc X 11 (tgt := 38) rfl (by decide) (fun c25 => ?_) (fun c25 => ?_)
    · replace h := am_in2 c25 h
      exact jl_X8_look_38 X hr   ox0 _ h
    · replace h := am_ip c25 h
      refine am_blk hc X 12 7 (fr' := (0, [(0, am_r ox0 40 0)], [], (am_u σ ox0 40 0 28 ((σ.1 ox0 40 0 28) + (1 : Int32))))) rfl ⟨trivial, trivial, trivial, trivial, trivial, trivial, trivial, trivial⟩ ?_
      exact hk0 ox0 _ h
def lp_X8_look_0  : Nat → Nat → am_S → Option (am_S)
  | 0 => fun _ _ => none
  | n + 1 => lb_X8_look_0  (lp_X8_look_0  n)
theorem ll_X8_look_0 {p : Program} {l : Launch} {e : Env} {s : State} {m : MethodId} {args : Array Value} {below : List Frame} {meth : Method} {c : Code} {G : am_G} {q : am_S} (X : am_X p s m args c cX8_look yX8_look.cls 1 am_p8 G (am_fr G)) (hr : meth.sig.returnType = none ∧ meth.locks = false)    : ∀ (n : Nat) (ox0 : Nat) (σ : am_S), lp_X8_look_0  n ox0 σ = some q → am_A p l e (am_ro 1) s m args below meth c 1 G (am_fr G) 0 0 (MQ below (am_Qc G none q) args s 0 0 (am_fr G)) (0, [(0, am_r ox0 40 0)], [], σ) := by
  intro n
  induction n with
  | zero =>
    intro ox0 σ h
    have h : (none : Option (am_S)) = some q := h
    cases h
  | succ n ih =>
    intro ox0 σ h
    exact lc_X8_look_0 X hr  (lp_X8_look_0  n) ih ox0 σ h
def fn_X8_look (oa0 : Nat) (σ : am_S) : Option (am_S) :=
  lp_X8_look_0  1000 oa0 (σ)
set_option maxRecDepth 100000 in
theorem ok_X8_look (l : Launch) (oa0 : Nat) (σ : am_S) {q : am_S} (h : fn_X8_look oa0 σ = some q) : am_M l yX8_look cX8_look 1 none 1 [am_r oa0 40 0] σ none q := by
  refine am_M_of (P := am_p8) (by decide +kernel) am_p8_ok rfl ?_
  intro G p e s m args below meth c X hr
  have hc := ct_X8_look
  unfold fn_X8_look at h
  exact ll_X8_look_0 X hr   1000 oa0 _ h
def fn_X8_wrong (oa0 : Nat) (σ : am_S) : Option (Int32 × am_S) :=
  some (0, (am_u σ oa0 40 0 32 (σ.1 oa0 40 0 30)))
set_option maxRecDepth 100000 in
theorem ok_X8_wrong (l : Launch) (oa0 : Nat) (σ : am_S) {q : Int32 × am_S} (h : fn_X8_wrong oa0 σ = some q) : am_M l yX8_wrong cX8_wrong 1 (some .boolean) 0 [am_r oa0 40 0] σ (some (am_i q.1)) q.2 := by
  refine am_M_of (P := am_p8) (by decide +kernel) am_p8_ok rfl ?_
  intro G p e s m args below meth c X hr
  have hc := ct_X8_wrong
  unfold fn_X8_wrong at h
  refine am_blk hc X 0 5 (fr' := (9, [(0, am_r oa0 40 0)], [am_i 0], (am_u σ oa0 40 0 32 (σ.1 oa0 40 0 30)))) rfl ⟨trivial, trivial, trivial, trivial, trivial, trivial⟩ ?_
  obtain rfl := Option.some.inj h
  exact am_zret hc X hr 5 rfl (by decide) rfl rfl
def jn_X8_number_23  (ox0 : Nat) (σ : am_S) : Option (Int32 × am_S) :=
  (fn_X8_wrong ox0 (σ)).bind fun q1 => (if q1.1 = 0 ∨ q1.1 = 1 then some (q1.1, q1.2) else none)
set_option maxRecDepth 100000 in
theorem jl_X8_number_23 {p : Program} {l : Launch} {e : Env} {s : State} {m : MethodId} {args : Array Value} {below : List Frame} {meth : Method} {c : Code} {G : am_G} {q : Int32 × am_S} (X : am_X p s m args c cX8_number yX8_number.cls 4 am_p8 G (am_fr G)) (hr : meth.sig.returnType = (some .boolean) ∧ meth.locks = false)    (ox0 : Nat) (σ : am_S) (h : jn_X8_number_23  ox0 σ = some q) : am_A p l e (am_ro 2) s m args below meth c 4 G (am_fr G) 0 0 (MQ below (am_Qc G (some (am_i q.1)) q.2) args s 0 0 (am_fr G)) (23, [(0, am_r ox0 40 0)], [], σ) := by
  have hc := ct_X8_number
  unfold jn_X8_number_23 at h
  refine am_blk hc X 13 1 (fr' := (24, [(0, am_r ox0 40 0)], [am_r ox0 40 0], σ)) rfl ⟨trivial, trivial⟩ ?_
  obtain ⟨q1, hq2, h⟩ := am_bs h
  refine am_callV hc 14 X (k := 40) (i := 0) (o := ox0) (As := []) (rest := []) rfl (ok_X8_wrong l ox0 (σ) hq2) yv_X8_wrong ml_X8_213 (cl_40) rfl rfl rfl rfl rfl ?_
  obtain ⟨ob3, h⟩ := am_ct2 h
  obtain rfl := Option.some.inj h
  exact am_zret hc X hr 15 rfl ob3 rfl rfl
def fn_X8_number (oa0 : Nat) (a1 : Int32) (a2 : Int32) (a3 : Int32) (σ : am_S) : Option (Int32 × am_S) :=
  (if (σ.1 oa0 40 0 29) = 2 then (fn_X8_in (((σ.1 oa0 40 0 31) : Int32).toInt64) ((a2 : Int32).toInt64) ((a3 : Int32).toInt64) (σ)).bind fun q4 => (if q4.1 = 0 then jn_X8_number_23  oa0 q4.2 else (bif am_in a1 4 then (fn_X8_look oa0 (am_u q4.2 oa0 63 0 ((a1 : Int32).toNatClampNeg) (q4.2.1 oa0 40 0 31))).bind fun q7 => some (1, q7) else none)) else jn_X8_number_23  oa0 (σ))
set_option maxRecDepth 100000 in
theorem ok_X8_number (l : Launch) (oa0 : Nat) (a1 : Int32) (a2 : Int32) (a3 : Int32) (σ : am_S) {q : Int32 × am_S} (h : fn_X8_number oa0 a1 a2 a3 σ = some q) : am_M l yX8_number cX8_number 4 (some .boolean) 2 [am_r oa0 40 0, am_i a1, am_i a2, am_i a3] σ (some (am_i q.1)) q.2 := by
  refine am_M_of (P := am_p8) (by decide +kernel) am_p8_ok rfl ?_
  intro G p e s m args below meth c X hr
  have hc := ct_X8_number
  unfold fn_X8_number at h
  refine am_blk hc X 0 3 (fr' := (5, [(0, am_r oa0 40 0), (1, am_i a1), (2, am_i a2), (3, am_i a3)], [am_i 2, am_i (σ.1 oa0 40 0 29)], σ)) rfl ⟨trivial, trivial, trivial, trivial⟩ ?_
  refine am_icmp_ne hc X 3 (tgt := 23) rfl (by decide) (fun c10 => ?_) (fun c10 => ?_)
  · replace h := am_in2 c10 h
    refine am_less [0] rfl ?_
    exact jl_X8_number_23 X hr   oa0 _ h
  · replace h := am_ip c10 h
    refine am_blk hc X 4 7 (fr' := (17, [(0, am_r oa0 40 0), (1, am_i a1), (2, am_i a2), (3, am_i a3)], [am_l ((a3 : Int32).toInt64), am_l ((a2 : Int32).toInt64), am_l (((σ.1 oa0 40 0 31) : Int32).toInt64)], σ)) rfl ⟨trivial, trivial, trivial, trivial, trivial, trivial, trivial, trivial⟩ ?_
    obtain ⟨q4, hq5, h⟩ := am_bs h
    refine am_callS hc 11 X (As := [am_l (((σ.1 oa0 40 0 31) : Int32).toInt64), am_l ((a2 : Int32).toInt64), am_l ((a3 : Int32).toInt64)]) (rest := []) rfl (ok_X8_in l (((σ.1 oa0 40 0 31) : Int32).toInt64) ((a2 : Int32).toInt64) ((a3 : Int32).toInt64) (σ) hq5) yv_X8_in ml_X8_117 rfl rfl rfl rfl rfl ?_
    refine am_if_ne hc X 12 (tgt := 28) rfl (by decide) (fun c9 => ?_) (fun c9 => ?_)
    · replace h := am_in2 c9 h
      obtain ⟨ob6, h⟩ := am_ci h
      refine am_blk hc X 16 7 (fr' := (39, [(0, am_r oa0 40 0), (1, am_i a1), (2, am_i a2), (3, am_i a3)], [am_r oa0 40 0], (am_u q4.2 oa0 63 0 ((a1 : Int32).toNatClampNeg) (q4.2.1 oa0 40 0 31)))) rfl ⟨trivial, trivial, trivial, trivial, trivial, (am_in_vp ob6), trivial, trivial⟩ ?_
      obtain ⟨q7, hq8, h⟩ := am_bs h
      refine am_callV hc 23 X (k := 40) (i := 0) (o := oa0) (As := []) (rest := []) rfl (ok_X8_look l oa0 (am_u q4.2 oa0 63 0 ((a1 : Int32).toNatClampNeg) (q4.2.1 oa0 40 0 31)) hq8) yv_X8_look ml_X8_217 (cl_40) rfl rfl rfl rfl rfl ?_
      refine am_blk hc X 24 1 (fr' := (43, [(0, am_r oa0 40 0), (1, am_i a1), (2, am_i a2), (3, am_i a3)], [am_i 1], q7)) rfl ⟨trivial, trivial⟩ ?_
      obtain rfl := Option.some.inj h
      exact am_zret hc X hr 25 rfl (by decide) rfl rfl
    · replace h := am_ip c9 h
      refine am_less [0] rfl ?_
      exact jl_X8_number_23 X hr   oa0 _ h
def fn_X8_tells (oa0 : Nat) (a1 : Int32) (σ : am_S) : Option (Int32 × am_S) :=
  (fn_X8_look oa0 (σ)).bind fun q1 => (fn_X8_number oa0 0 0 a1 q1).bind fun q3 => (if q3.1 = 0 ∨ q3.1 = 1 then some (q3.1, q3.2) else none)
set_option maxRecDepth 100000 in
theorem ok_X8_tells (l : Launch) (oa0 : Nat) (a1 : Int32) (σ : am_S) {q : Int32 × am_S} (h : fn_X8_tells oa0 a1 σ = some q) : am_M l yX8_tells cX8_tells 2 (some .boolean) 3 [am_r oa0 40 0, am_i a1] σ (some (am_i q.1)) q.2 := by
  refine am_M_of (P := am_p8) (by decide +kernel) am_p8_ok rfl ?_
  intro G p e s m args below meth c X hr
  have hc := ct_X8_tells
  unfold fn_X8_tells at h
  refine am_blk hc X 0 1 (fr' := (1, [(0, am_r oa0 40 0), (1, am_i a1)], [am_r oa0 40 0], σ)) rfl ⟨trivial, trivial⟩ ?_
  obtain ⟨q1, hq2, h⟩ := am_bs h
  refine am_callV hc 1 X (k := 40) (i := 0) (o := oa0) (As := []) (rest := []) rfl (ok_X8_look l oa0 (σ) hq2) yv_X8_look ml_X8_217 (cl_40) rfl rfl rfl rfl rfl ?_
  refine am_blk hc X 2 4 (fr' := (8, [(0, am_r oa0 40 0), (1, am_i a1)], [am_i a1, am_i 0, am_i 0, am_r oa0 40 0], q1)) rfl ⟨trivial, trivial, trivial, trivial, trivial⟩ ?_
  obtain ⟨q3, hq4, h⟩ := am_bs h
  refine am_callV hc 6 X (k := 40) (i := 0) (o := oa0) (As := [am_i 0, am_i 0, am_i a1]) (rest := []) rfl (ok_X8_number l oa0 0 0 a1 q1 hq4) yv_X8_number ml_X8_220 (cl_40) rfl rfl rfl rfl rfl ?_
  obtain ⟨ob5, h⟩ := am_ct2 h
  obtain rfl := Option.some.inj h
  exact am_zret hc X hr 7 rfl ob5 rfl rfl
def fn_X8_ofOne (oa0 : Nat) (a1 : Int32) (σ : am_S) : Option (Int32 × am_S) :=
  (fn_X8_tells oa0 ((σ.1 oa0 40 0 15) - (1 : Int32)) (σ)).bind fun q1 => (if q1.1 = 0 then some (0, q1.2) else (fn_X8_number oa0 1 0 a1 q1.2).bind fun q3 => (if q3.1 = 0 then some (0, q3.2) else some (1, q3.2)))
set_option maxRecDepth 100000 in
theorem ok_X8_ofOne (l : Launch) (oa0 : Nat) (a1 : Int32) (σ : am_S) {q : Int32 × am_S} (h : fn_X8_ofOne oa0 a1 σ = some q) : am_M l yX8_ofOne cX8_ofOne 2 (some .boolean) 4 [am_r oa0 40 0, am_i a1] σ (some (am_i q.1)) q.2 := by
  refine am_M_of (P := am_p8) (by decide +kernel) am_p8_ok rfl ?_
  intro G p e s m args below meth c X hr
  have hc := ct_X8_ofOne
  unfold fn_X8_ofOne at h
  refine am_blk hc X 0 5 (fr' := (7, [(0, am_r oa0 40 0), (1, am_i a1)], [am_i ((σ.1 oa0 40 0 15) - (1 : Int32)), am_r oa0 40 0], σ)) rfl ⟨trivial, trivial, trivial, trivial, trivial, trivial⟩ ?_
  obtain ⟨q1, hq2, h⟩ := am_bs h
  refine am_callV hc 5 X (k := 40) (i := 0) (o := oa0) (As := [am_i ((σ.1 oa0 40 0 15) - (1 : Int32))]) (rest := []) rfl (ok_X8_tells l oa0 ((σ.1 oa0 40 0 15) - (1 : Int32)) (σ) hq2) yv_X8_tells ml_X8_224 (cl_40) rfl rfl rfl rfl rfl ?_
  refine am_if_eq hc X 6 (tgt := 27) rfl (by decide) (fun c6 => ?_) (fun c6 => ?_)
  · replace h := am_ip c6 h
    refine am_blk hc X 15 1 (fr' := (28, [(0, am_r oa0 40 0), (1, am_i a1)], [am_i 0], q1.2)) rfl ⟨trivial, trivial⟩ ?_
    obtain rfl := Option.some.inj h
    exact am_zret hc X hr 16 rfl (by decide) rfl rfl
  · replace h := am_in2 c6 h
    refine am_blk hc X 7 4 (fr' := (17, [(0, am_r oa0 40 0), (1, am_i a1)], [am_i a1, am_i 0, am_i 1, am_r oa0 40 0], q1.2)) rfl ⟨trivial, trivial, trivial, trivial, trivial⟩ ?_
    obtain ⟨q3, hq4, h⟩ := am_bs h
    refine am_callV hc 11 X (k := 40) (i := 0) (o := oa0) (As := [am_i 1, am_i 0, am_i a1]) (rest := []) rfl (ok_X8_number l oa0 1 0 a1 q1.2 hq4) yv_X8_number ml_X8_220 (cl_40) rfl rfl rfl rfl rfl ?_
    refine am_if_eq hc X 12 (tgt := 27) rfl (by decide) (fun c5 => ?_) (fun c5 => ?_)
    · replace h := am_ip c5 h
      refine am_blk hc X 15 1 (fr' := (28, [(0, am_r oa0 40 0), (1, am_i a1)], [am_i 0], q3.2)) rfl ⟨trivial, trivial⟩ ?_
      obtain rfl := Option.some.inj h
      exact am_zret hc X hr 16 rfl (by decide) rfl rfl
    · replace h := am_in2 c5 h
      refine am_blk hc X 13 2 (fr' := (28, [(0, am_r oa0 40 0), (1, am_i a1)], [am_i 1], q3.2)) rfl ⟨trivial, trivial, trivial⟩ ?_
      obtain rfl := Option.some.inj h
      exact am_zret hc X hr 16 rfl (by decide) rfl rfl
def fn_X8_ofPeople (oa0 : Nat) (σ : am_S) : Option (Int32 × am_S) :=
  (fn_X8_isWord_36 oa0 6 (σ)).bind fun q1 => (if q1.1 = 0 then (fn_X8_isWord_36 oa0 7 q1.2).bind fun q3 => (if q3.1 = 0 then (fn_X8_isWord_36 oa0 8 q3.2).bind fun q5 => (if q5.1 = 0 then (fn_X8_wrong oa0 q5.2).bind fun q7 => (if q7.1 = 0 ∨ q7.1 = 1 then some (q7.1, q7.2) else none) else (fn_X8_ofOne oa0 999 q5.2).bind fun q10 => (if q10.1 = 0 then some (0, q10.2) else (bif am_in (q10.2.1 oa0 63 0 0) 6 then some (1, (am_u q10.2 oa0 60 0 (((q10.2.1 oa0 63 0 0) : Int32).toNatClampNeg) (q10.2.1 oa0 63 0 1))) else none))) else (fn_X8_ofOne oa0 6 q3.2).bind fun q15 => (if q15.1 = 0 then some (0, q15.2) else (bif am_in (q15.2.1 oa0 63 0 0) 6 then some (1, (am_u q15.2 oa0 58 0 (((q15.2.1 oa0 63 0 0) : Int32).toNatClampNeg) (q15.2.1 oa0 63 0 1))) else none))) else (fn_X8_ofOne oa0 6 q1.2).bind fun q20 => (if q20.1 = 0 then some (0, q20.2) else (bif am_in (q20.2.1 oa0 63 0 0) 6 then (bif am_in (q20.2.1 oa0 63 0 0) 6 then some (1, (am_u q20.2 oa0 59 0 (((q20.2.1 oa0 63 0 0) : Int32).toNatClampNeg) ((q20.2.1 oa0 59 0 (((q20.2.1 oa0 63 0 0) : Int32).toNatClampNeg)) ||| ((1 : Int32) <<< ((q20.2.1 oa0 63 0 1) &&& 31))))) else none) else none)))
set_option maxRecDepth 100000 in
theorem ok_X8_ofPeople (l : Launch) (oa0 : Nat) (σ : am_S) {q : Int32 × am_S} (h : fn_X8_ofPeople oa0 σ = some q) : am_M l yX8_ofPeople cX8_ofPeople 1 (some .boolean) 5 [am_r oa0 40 0] σ (some (am_i q.1)) q.2 := by
  refine am_M_of (P := am_p8) (by decide +kernel) am_p8_ok rfl ?_
  intro G p e s m args below meth c X hr
  have hc := ct_X8_ofPeople
  unfold fn_X8_ofPeople at h
  refine am_blk hc X 0 2 (fr' := (3, [(0, am_r oa0 40 0)], [am_r 17 36 6, am_r oa0 40 0], σ)) rfl ⟨trivial, trivial, trivial⟩ ?_
  obtain ⟨q1, hq2, h⟩ := am_bs h
  refine am_callV hc 2 X (k := 40) (i := 0) (o := oa0) (As := [am_r 17 36 6]) (rest := []) rfl (ok_X8_isWord_36 l oa0 6 (σ) hq2) yv_X8_isWord ml_X8_231 (cl_40) rfl rfl rfl rfl rfl ?_
  refine am_if_eq hc X 3 (tgt := 44) rfl (by decide) (fun c25 => ?_) (fun c25 => ?_)
  · replace h := am_ip c25 h
    refine am_blk hc X 28 2 (fr' := (48, [(0, am_r oa0 40 0)], [am_r 17 36 7, am_r oa0 40 0], q1.2)) rfl ⟨trivial, trivial, trivial⟩ ?_
    obtain ⟨q3, hq4, h⟩ := am_bs h
    refine am_callV hc 30 X (k := 40) (i := 0) (o := oa0) (As := [am_r 17 36 7]) (rest := []) rfl (ok_X8_isWord_36 l oa0 7 q1.2 hq4) yv_X8_isWord ml_X8_231 (cl_40) rfl rfl rfl rfl rfl ?_
    refine am_if_eq hc X 31 (tgt := 84) rfl (by decide) (fun c19 => ?_) (fun c19 => ?_)
    · replace h := am_ip c19 h
      refine am_blk hc X 51 2 (fr' := (88, [(0, am_r oa0 40 0)], [am_r 17 36 8, am_r oa0 40 0], q3.2)) rfl ⟨trivial, trivial, trivial⟩ ?_
      obtain ⟨q5, hq6, h⟩ := am_bs h
      refine am_callV hc 53 X (k := 40) (i := 0) (o := oa0) (As := [am_r 17 36 8]) (rest := []) rfl (ok_X8_isWord_36 l oa0 8 q3.2 hq6) yv_X8_isWord ml_X8_231 (cl_40) rfl rfl rfl rfl rfl ?_
      refine am_if_eq hc X 54 (tgt := 125) rfl (by decide) (fun c14 => ?_) (fun c14 => ?_)
      · replace h := am_ip c14 h
        refine am_blk hc X 74 1 (fr' := (126, [(0, am_r oa0 40 0)], [am_r oa0 40 0], q5.2)) rfl ⟨trivial, trivial⟩ ?_
        obtain ⟨q7, hq8, h⟩ := am_bs h
        refine am_callV hc 75 X (k := 40) (i := 0) (o := oa0) (As := []) (rest := []) rfl (ok_X8_wrong l oa0 q5.2 hq8) yv_X8_wrong ml_X8_213 (cl_40) rfl rfl rfl rfl rfl ?_
        obtain ⟨ob9, h⟩ := am_ct2 h
        obtain rfl := Option.some.inj h
        exact am_zret hc X hr 76 rfl ob9 rfl rfl
      · replace h := am_in2 c14 h
        refine am_blk hc X 55 2 (fr' := (98, [(0, am_r oa0 40 0)], [am_i 999, am_r oa0 40 0], q5.2)) rfl ⟨trivial, trivial, trivial⟩ ?_
        obtain ⟨q10, hq11, h⟩ := am_bs h
        refine am_callV hc 57 X (k := 40) (i := 0) (o := oa0) (As := [am_i 999]) (rest := []) rfl (ok_X8_ofOne l oa0 999 q5.2 hq11) yv_X8_ofOne ml_X8_255 (cl_40) rfl rfl rfl rfl rfl ?_
        refine am_if_ne hc X 58 (tgt := 106) rfl (by decide) (fun c13 => ?_) (fun c13 => ?_)
        · replace h := am_in2 c13 h
          obtain ⟨ob12, h⟩ := am_ci h
          refine am_blk hc X 61 12 (fr' := (124, [(0, am_r oa0 40 0)], [am_i 1], (am_u q10.2 oa0 60 0 (((q10.2.1 oa0 63 0 0) : Int32).toNatClampNeg) (q10.2.1 oa0 63 0 1)))) rfl ⟨trivial, trivial, trivial, trivial, trivial, (am_in_vp (by decide)), trivial, trivial, trivial, (am_in_vp (by decide)), (am_in_vp ob12), trivial, trivial⟩ ?_
          obtain rfl := Option.some.inj h
          exact am_zret hc X hr 73 rfl (by decide) rfl rfl
        · replace h := am_ip c13 h
          refine am_blk hc X 59 1 (fr' := (105, [(0, am_r oa0 40 0)], [am_i 0], q10.2)) rfl ⟨trivial, trivial⟩ ?_
          obtain rfl := Option.some.inj h
          exact am_zret hc X hr 60 rfl (by decide) rfl rfl
    · replace h := am_in2 c19 h
      refine am_blk hc X 32 2 (fr' := (57, [(0, am_r oa0 40 0)], [am_i 6, am_r oa0 40 0], q3.2)) rfl ⟨trivial, trivial, trivial⟩ ?_
      obtain ⟨q15, hq16, h⟩ := am_bs h
      refine am_callV hc 34 X (k := 40) (i := 0) (o := oa0) (As := [am_i 6]) (rest := []) rfl (ok_X8_ofOne l oa0 6 q3.2 hq16) yv_X8_ofOne ml_X8_255 (cl_40) rfl rfl rfl rfl rfl ?_
      refine am_if_ne hc X 35 (tgt := 65) rfl (by decide) (fun c18 => ?_) (fun c18 => ?_)
      · replace h := am_in2 c18 h
        obtain ⟨ob17, h⟩ := am_ci h
        refine am_blk hc X 38 12 (fr' := (83, [(0, am_r oa0 40 0)], [am_i 1], (am_u q15.2 oa0 58 0 (((q15.2.1 oa0 63 0 0) : Int32).toNatClampNeg) (q15.2.1 oa0 63 0 1)))) rfl ⟨trivial, trivial, trivial, trivial, trivial, (am_in_vp (by decide)), trivial, trivial, trivial, (am_in_vp (by decide)), (am_in_vp ob17), trivial, trivial⟩ ?_
        obtain rfl := Option.some.inj h
        exact am_zret hc X hr 50 rfl (by decide) rfl rfl
      · replace h := am_ip c18 h
        refine am_blk hc X 36 1 (fr' := (64, [(0, am_r oa0 40 0)], [am_i 0], q15.2)) rfl ⟨trivial, trivial⟩ ?_
        obtain rfl := Option.some.inj h
        exact am_zret hc X hr 37 rfl (by decide) rfl rfl
  · replace h := am_in2 c25 h
    refine am_blk hc X 4 2 (fr' := (12, [(0, am_r oa0 40 0)], [am_i 6, am_r oa0 40 0], q1.2)) rfl ⟨trivial, trivial, trivial⟩ ?_
    obtain ⟨q20, hq21, h⟩ := am_bs h
    refine am_callV hc 6 X (k := 40) (i := 0) (o := oa0) (As := [am_i 6]) (rest := []) rfl (ok_X8_ofOne l oa0 6 q1.2 hq21) yv_X8_ofOne ml_X8_255 (cl_40) rfl rfl rfl rfl rfl ?_
    refine am_if_ne hc X 7 (tgt := 20) rfl (by decide) (fun c24 => ?_) (fun c24 => ?_)
    · replace h := am_in2 c24 h
      obtain ⟨ob22, h⟩ := am_ci h
      obtain ⟨ob23, h⟩ := am_ci h
      refine am_blk hc X 10 17 (fr' := (43, [(0, am_r oa0 40 0)], [am_i 1], (am_u q20.2 oa0 59 0 (((q20.2.1 oa0 63 0 0) : Int32).toNatClampNeg) ((q20.2.1 oa0 59 0 (((q20.2.1 oa0 63 0 0) : Int32).toNatClampNeg)) ||| ((1 : Int32) <<< ((q20.2.1 oa0 63 0 1) &&& 31)))))) rfl ⟨trivial, trivial, trivial, trivial, trivial, (am_in_vp (by decide)), trivial, (am_in_vp ob22), trivial, trivial, trivial, trivial, (am_in_vp (by decide)), trivial, trivial, (am_in_vp ob23), trivial, trivial⟩ ?_
      obtain rfl := Option.some.inj h
      exact am_zret hc X hr 27 rfl (by decide) rfl rfl
    · replace h := am_ip c24 h
      refine am_blk hc X 8 1 (fr' := (19, [(0, am_r oa0 40 0)], [am_i 0], q20.2)) rfl ⟨trivial, trivial⟩ ?_
      obtain rfl := Option.some.inj h
      exact am_zret hc X hr 9 rfl (by decide) rfl rfl
def fn_X8_wrongSame (oa0 : Nat) (σ : am_S) : Option (Int32 × am_S) :=
  (fn_X8_wrong oa0 (σ)).bind fun q1 => some (1, q1.2)
set_option maxRecDepth 100000 in
theorem ok_X8_wrongSame (l : Launch) (oa0 : Nat) (σ : am_S) {q : Int32 × am_S} (h : fn_X8_wrongSame oa0 σ = some q) : am_M l yX8_wrongSame cX8_wrongSame 1 (some .boolean) 1 [am_r oa0 40 0] σ (some (am_i q.1)) q.2 := by
  refine am_M_of (P := am_p8) (by decide +kernel) am_p8_ok rfl ?_
  intro G p e s m args below meth c X hr
  have hc := ct_X8_wrongSame
  unfold fn_X8_wrongSame at h
  refine am_blk hc X 0 1 (fr' := (1, [(0, am_r oa0 40 0)], [am_r oa0 40 0], σ)) rfl ⟨trivial, trivial⟩ ?_
  obtain ⟨q1, hq2, h⟩ := am_bs h
  refine am_callV hc 1 X (k := 40) (i := 0) (o := oa0) (As := []) (rest := []) rfl (ok_X8_wrong l oa0 (σ) hq2) yv_X8_wrong ml_X8_213 (cl_40) rfl rfl rfl rfl rfl ?_
  refine am_blk hc X 2 2 (fr' := (6, [(0, am_r oa0 40 0)], [am_i 1], q1.2)) rfl ⟨trivial, trivial, trivial⟩ ?_
  obtain rfl := Option.some.inj h
  exact am_zret hc X hr 4 rfl (by decide) rfl rfl
def jn_X8_passTold_37  (ox0 : Nat) (σ : am_S) : Option (Int32 × am_S) :=
  (fn_X8_number ox0 1 0 6 (σ)).bind fun q3 => (if q3.1 = 0 then some (0, q3.2) else (fn_X8_number ox0 2 0 9 q3.2).bind fun q5 => (if q5.1 = 0 then some (0, q5.2) else (fn_X8_number ox0 3 1 12 q5.2).bind fun q7 => (if q7.1 = 0 then some (0, q7.2) else (fn_X8_addPass ox0 (q7.2.1 ox0 63 0 0) (q7.2.1 ox0 63 0 1) (q7.2.1 ox0 63 0 2) (q7.2.1 ox0 63 0 3) q7.2).bind fun q9 => some (1, q9))))
set_option maxRecDepth 100000 in
theorem jl_X8_passTold_37 {p : Program} {l : Launch} {e : Env} {s : State} {m : MethodId} {args : Array Value} {below : List Frame} {meth : Method} {c : Code} {G : am_G} {q : Int32 × am_S} (X : am_X p s m args c cX8_passTold yX8_passTold.cls 1 am_p8 G (am_fr G)) (hr : meth.sig.returnType = (some .boolean) ∧ meth.locks = false)    (ox0 : Nat) (σ : am_S) (h : jn_X8_passTold_37  ox0 σ = some q) : am_A p l e (am_ro 4) s m args below meth c 1 G (am_fr G) 0 0 (MQ below (am_Qc G (some (am_i q.1)) q.2) args s 0 0 (am_fr G)) (37, [(0, am_r ox0 40 0)], [], σ) := by
  have hc := ct_X8_passTold
  unfold jn_X8_passTold_37 at h
  refine am_blk hc X 18 4 (fr' := (42, [(0, am_r ox0 40 0)], [am_i 6, am_i 0, am_i 1, am_r ox0 40 0], σ)) rfl ⟨trivial, trivial, trivial, trivial, trivial⟩ ?_
  obtain ⟨q3, hq4, h⟩ := am_bs h
  refine am_callV hc 22 X (k := 40) (i := 0) (o := ox0) (As := [am_i 1, am_i 0, am_i 6]) (rest := []) rfl (ok_X8_number l ox0 1 0 6 (σ) hq4) yv_X8_number ml_X8_220 (cl_40) rfl rfl rfl rfl rfl ?_
  refine am_if_ne hc X 23 (tgt := 50) rfl (by decide) (fun c13 => ?_) (fun c13 => ?_)
  · replace h := am_in2 c13 h
    refine am_blk hc X 26 4 (fr' := (55, [(0, am_r ox0 40 0)], [am_i 9, am_i 0, am_i 2, am_r ox0 40 0], q3.2)) rfl ⟨trivial, trivial, trivial, trivial, trivial⟩ ?_
    obtain ⟨q5, hq6, h⟩ := am_bs h
    refine am_callV hc 30 X (k := 40) (i := 0) (o := ox0) (As := [am_i 2, am_i 0, am_i 9]) (rest := []) rfl (ok_X8_number l ox0 2 0 9 q3.2 hq6) yv_X8_number ml_X8_220 (cl_40) rfl rfl rfl rfl rfl ?_
    refine am_if_eq hc X 31 (tgt := 72) rfl (by decide) (fun c12 => ?_) (fun c12 => ?_)
    · replace h := am_ip c12 h
      refine am_blk hc X 38 1 (fr' := (73, [(0, am_r ox0 40 0)], [am_i 0], q5.2)) rfl ⟨trivial, trivial⟩ ?_
      obtain rfl := Option.some.inj h
      exact am_zret hc X hr 39 rfl (by decide) rfl rfl
    · replace h := am_in2 c12 h
      refine am_blk hc X 32 4 (fr' := (66, [(0, am_r ox0 40 0)], [am_i 12, am_i 1, am_i 3, am_r ox0 40 0], q5.2)) rfl ⟨trivial, trivial, trivial, trivial, trivial⟩ ?_
      obtain ⟨q7, hq8, h⟩ := am_bs h
      refine am_callV hc 36 X (k := 40) (i := 0) (o := ox0) (As := [am_i 3, am_i 1, am_i 12]) (rest := []) rfl (ok_X8_number l ox0 3 1 12 q5.2 hq8) yv_X8_number ml_X8_220 (cl_40) rfl rfl rfl rfl rfl ?_
      refine am_if_ne hc X 37 (tgt := 74) rfl (by decide) (fun c11 => ?_) (fun c11 => ?_)
      · replace h := am_in2 c11 h
        refine am_blk hc X 40 17 (fr' := (99, [(0, am_r ox0 40 0)], [am_i (q7.2.1 ox0 63 0 3), am_i (q7.2.1 ox0 63 0 2), am_i (q7.2.1 ox0 63 0 1), am_i (q7.2.1 ox0 63 0 0), am_r ox0 40 0], q7.2)) rfl ⟨trivial, trivial, trivial, trivial, (am_in_vp (by decide)), trivial, trivial, trivial, (am_in_vp (by decide)), trivial, trivial, trivial, (am_in_vp (by decide)), trivial, trivial, trivial, (am_in_vp (by decide)), trivial⟩ ?_
        obtain ⟨q9, hq10, h⟩ := am_bs h
        refine am_callV hc 57 X (k := 40) (i := 0) (o := ox0) (As := [am_i (q7.2.1 ox0 63 0 0), am_i (q7.2.1 ox0 63 0 1), am_i (q7.2.1 ox0 63 0 2), am_i (q7.2.1 ox0 63 0 3)]) (rest := []) rfl (ok_X8_addPass l ox0 (q7.2.1 ox0 63 0 0) (q7.2.1 ox0 63 0 1) (q7.2.1 ox0 63 0 2) (q7.2.1 ox0 63 0 3) q7.2 hq10) yv_X8_addPass ml_X8_167 (cl_40) rfl rfl rfl rfl rfl ?_
        refine am_blk hc X 58 1 (fr' := (103, [(0, am_r ox0 40 0)], [am_i 1], q9)) rfl ⟨trivial, trivial⟩ ?_
        obtain rfl := Option.some.inj h
        exact am_zret hc X hr 59 rfl (by decide) rfl rfl
      · replace h := am_ip c11 h
        refine am_blk hc X 38 1 (fr' := (73, [(0, am_r ox0 40 0)], [am_i 0], q7.2)) rfl ⟨trivial, trivial⟩ ?_
        obtain rfl := Option.some.inj h
        exact am_zret hc X hr 39 rfl (by decide) rfl rfl
  · replace h := am_ip c13 h
    refine am_blk hc X 24 1 (fr' := (49, [(0, am_r ox0 40 0)], [am_i 0], q3.2)) rfl ⟨trivial, trivial⟩ ?_
    obtain rfl := Option.some.inj h
    exact am_zret hc X hr 25 rfl (by decide) rfl rfl
def fn_X8_passTold (oa0 : Nat) (σ : am_S) : Option (Int32 × am_S) :=
  (fn_X8_tells oa0 6 (σ)).bind fun q1 => (if q1.1 = 0 then some (0, q1.2) else (if (q1.2.1 oa0 40 0 29) = 2 then (if (q1.2.1 oa0 40 0 31) = (q1.2.1 oa0 63 0 0) then (fn_X8_wrongSame oa0 q1.2).bind fun q14 => (if q14.1 = 0 then jn_X8_passTold_37  oa0 q14.2 else some (0, q14.2)) else jn_X8_passTold_37  oa0 q1.2) else jn_X8_passTold_37  oa0 q1.2))
set_option maxRecDepth 100000 in
theorem ok_X8_passTold (l : Launch) (oa0 : Nat) (σ : am_S) {q : Int32 × am_S} (h : fn_X8_passTold oa0 σ = some q) : am_M l yX8_passTold cX8_passTold 1 (some .boolean) 4 [am_r oa0 40 0] σ (some (am_i q.1)) q.2 := by
  refine am_M_of (P := am_p8) (by decide +kernel) am_p8_ok rfl ?_
  intro G p e s m args below meth c X hr
  have hc := ct_X8_passTold
  unfold fn_X8_passTold at h
  refine am_blk hc X 0 2 (fr' := (3, [(0, am_r oa0 40 0)], [am_i 6, am_r oa0 40 0], σ)) rfl ⟨trivial, trivial, trivial⟩ ?_
  obtain ⟨q1, hq2, h⟩ := am_bs h
  refine am_callV hc 2 X (k := 40) (i := 0) (o := oa0) (As := [am_i 6]) (rest := []) rfl (ok_X8_tells l oa0 6 (σ) hq2) yv_X8_tells ml_X8_224 (cl_40) rfl rfl rfl rfl rfl ?_
  refine am_if_eq hc X 3 (tgt := 48) rfl (by decide) (fun c19 => ?_) (fun c19 => ?_)
  · replace h := am_ip c19 h
    refine am_blk hc X 24 1 (fr' := (49, [(0, am_r oa0 40 0)], [am_i 0], q1.2)) rfl ⟨trivial, trivial⟩ ?_
    obtain rfl := Option.some.inj h
    exact am_zret hc X hr 25 rfl (by decide) rfl rfl
  · replace h := am_in2 c19 h
    refine am_blk hc X 4 3 (fr' := (14, [(0, am_r oa0 40 0)], [am_i 2, am_i (q1.2.1 oa0 40 0 29)], q1.2)) rfl ⟨trivial, trivial, trivial, trivial⟩ ?_
    refine am_icmp_ne hc X 7 (tgt := 37) rfl (by decide) (fun c18 => ?_) (fun c18 => ?_)
    · replace h := am_in2 c18 h
      exact jl_X8_passTold_37 X hr   oa0 _ h
    · replace h := am_ip c18 h
      refine am_blk hc X 8 6 (fr' := (27, [(0, am_r oa0 40 0)], [am_i (q1.2.1 oa0 63 0 0), am_i (q1.2.1 oa0 40 0 31)], q1.2)) rfl ⟨trivial, trivial, trivial, trivial, trivial, (am_in_vp (by decide)), trivial⟩ ?_
      refine am_icmp_ne hc X 14 (tgt := 37) rfl (by decide) (fun c17 => ?_) (fun c17 => ?_)
      · replace h := am_in2 c17 h
        exact jl_X8_passTold_37 X hr   oa0 _ h
      · replace h := am_ip c17 h
        refine am_blk hc X 15 1 (fr' := (31, [(0, am_r oa0 40 0)], [am_r oa0 40 0], q1.2)) rfl ⟨trivial, trivial⟩ ?_
        obtain ⟨q14, hq15, h⟩ := am_bs h
        refine am_callV hc 16 X (k := 40) (i := 0) (o := oa0) (As := []) (rest := []) rfl (ok_X8_wrongSame l oa0 q1.2 hq15) yv_X8_wrongSame ml_X8_227 (cl_40) rfl rfl rfl rfl rfl ?_
        refine am_if_ne hc X 17 (tgt := 48) rfl (by decide) (fun c16 => ?_) (fun c16 => ?_)
        · replace h := am_in2 c16 h
          refine am_blk hc X 24 1 (fr' := (49, [(0, am_r oa0 40 0)], [am_i 0], q14.2)) rfl ⟨trivial, trivial⟩ ?_
          obtain rfl := Option.some.inj h
          exact am_zret hc X hr 25 rfl (by decide) rfl rfl
        · replace h := am_ip c16 h
          exact jl_X8_passTold_37 X hr   oa0 _ h
def fn_X8_asks_52 (oa0 : Nat) (oa1 : Nat) (a2 : Int32) (a3 : Int32) (σ : am_S) : Option (Int32 × am_S) :=
  (fn_X8_tells oa0 6 (σ)).bind fun q1 => (if q1.1 = 0 then some (0, q1.2) else (fn_X8_number oa0 1 a2 a3 q1.2).bind fun q3 => (if q3.1 = 0 then some (0, q3.2) else (bif am_in (q3.2.1 oa0 63 0 0) 7 then some (1, (am_u q3.2 oa1 52 0 (((q3.2.1 oa0 63 0 0) : Int32).toNatClampNeg) (q3.2.1 oa0 63 0 1))) else none)))
set_option maxRecDepth 100000 in
theorem ok_X8_asks_52 (l : Launch) (oa0 : Nat) (oa1 : Nat) (a2 : Int32) (a3 : Int32) (σ : am_S) {q : Int32 × am_S} (h : fn_X8_asks_52 oa0 oa1 a2 a3 σ = some q) : am_M l yX8_asks cX8_asks 4 (some .boolean) 4 [am_r oa0 40 0, am_r oa1 52 0, am_i a2, am_i a3] σ (some (am_i q.1)) q.2 := by
  refine am_M_of (P := am_p8) (by decide +kernel) am_p8_ok rfl ?_
  intro G p e s m args below meth c X hr
  have hc := ct_X8_asks
  unfold fn_X8_asks_52 at h
  refine am_blk hc X 0 2 (fr' := (3, [(0, am_r oa0 40 0), (1, am_r oa1 52 0), (2, am_i a2), (3, am_i a3)], [am_i 6, am_r oa0 40 0], σ)) rfl ⟨trivial, trivial, trivial⟩ ?_
  obtain ⟨q1, hq2, h⟩ := am_bs h
  refine am_callV hc 2 X (k := 40) (i := 0) (o := oa0) (As := [am_i 6]) (rest := []) rfl (ok_X8_tells l oa0 6 (σ) hq2) yv_X8_tells ml_X8_224 (cl_40) rfl rfl rfl rfl rfl ?_
  refine am_if_eq hc X 3 (tgt := 19) rfl (by decide) (fun c7 => ?_) (fun c7 => ?_)
  · replace h := am_ip c7 h
    refine am_blk hc X 10 1 (fr' := (20, [(0, am_r oa0 40 0), (1, am_r oa1 52 0), (2, am_i a2), (3, am_i a3)], [am_i 0], q1.2)) rfl ⟨trivial, trivial⟩ ?_
    obtain rfl := Option.some.inj h
    exact am_zret hc X hr 11 rfl (by decide) rfl rfl
  · replace h := am_in2 c7 h
    refine am_blk hc X 4 4 (fr' := (13, [(0, am_r oa0 40 0), (1, am_r oa1 52 0), (2, am_i a2), (3, am_i a3)], [am_i a3, am_i a2, am_i 1, am_r oa0 40 0], q1.2)) rfl ⟨trivial, trivial, trivial, trivial, trivial⟩ ?_
    obtain ⟨q3, hq4, h⟩ := am_bs h
    refine am_callV hc 8 X (k := 40) (i := 0) (o := oa0) (As := [am_i 1, am_i a2, am_i a3]) (rest := []) rfl (ok_X8_number l oa0 1 a2 a3 q1.2 hq4) yv_X8_number ml_X8_220 (cl_40) rfl rfl rfl rfl rfl ?_
    refine am_if_ne hc X 9 (tgt := 21) rfl (by decide) (fun c6 => ?_) (fun c6 => ?_)
    · replace h := am_in2 c6 h
      obtain ⟨ob5, h⟩ := am_ci h
      refine am_blk hc X 12 11 (fr' := (36, [(0, am_r oa0 40 0), (1, am_r oa1 52 0), (2, am_i a2), (3, am_i a3)], [am_i 1], (am_u q3.2 oa1 52 0 (((q3.2.1 oa0 63 0 0) : Int32).toNatClampNeg) (q3.2.1 oa0 63 0 1)))) rfl ⟨trivial, trivial, trivial, trivial, (am_in_vp (by decide)), trivial, trivial, trivial, (am_in_vp (by decide)), (am_in_vp ob5), trivial, trivial⟩ ?_
      obtain rfl := Option.some.inj h
      exact am_zret hc X hr 23 rfl (by decide) rfl rfl
    · replace h := am_ip c6 h
      refine am_blk hc X 10 1 (fr' := (20, [(0, am_r oa0 40 0), (1, am_r oa1 52 0), (2, am_i a2), (3, am_i a3)], [am_i 0], q3.2)) rfl ⟨trivial, trivial⟩ ?_
      obtain rfl := Option.some.inj h
      exact am_zret hc X hr 11 rfl (by decide) rfl rfl
def fn_X8_asks_51 (oa0 : Nat) (oa1 : Nat) (a2 : Int32) (a3 : Int32) (σ : am_S) : Option (Int32 × am_S) :=
  (fn_X8_tells oa0 6 (σ)).bind fun q1 => (if q1.1 = 0 then some (0, q1.2) else (fn_X8_number oa0 1 a2 a3 q1.2).bind fun q3 => (if q3.1 = 0 then some (0, q3.2) else (bif am_in (q3.2.1 oa0 63 0 0) 7 then some (1, (am_u q3.2 oa1 51 0 (((q3.2.1 oa0 63 0 0) : Int32).toNatClampNeg) (q3.2.1 oa0 63 0 1))) else none)))
set_option maxRecDepth 100000 in
theorem ok_X8_asks_51 (l : Launch) (oa0 : Nat) (oa1 : Nat) (a2 : Int32) (a3 : Int32) (σ : am_S) {q : Int32 × am_S} (h : fn_X8_asks_51 oa0 oa1 a2 a3 σ = some q) : am_M l yX8_asks cX8_asks 4 (some .boolean) 4 [am_r oa0 40 0, am_r oa1 51 0, am_i a2, am_i a3] σ (some (am_i q.1)) q.2 := by
  refine am_M_of (P := am_p8) (by decide +kernel) am_p8_ok rfl ?_
  intro G p e s m args below meth c X hr
  have hc := ct_X8_asks
  unfold fn_X8_asks_51 at h
  refine am_blk hc X 0 2 (fr' := (3, [(0, am_r oa0 40 0), (1, am_r oa1 51 0), (2, am_i a2), (3, am_i a3)], [am_i 6, am_r oa0 40 0], σ)) rfl ⟨trivial, trivial, trivial⟩ ?_
  obtain ⟨q1, hq2, h⟩ := am_bs h
  refine am_callV hc 2 X (k := 40) (i := 0) (o := oa0) (As := [am_i 6]) (rest := []) rfl (ok_X8_tells l oa0 6 (σ) hq2) yv_X8_tells ml_X8_224 (cl_40) rfl rfl rfl rfl rfl ?_
  refine am_if_eq hc X 3 (tgt := 19) rfl (by decide) (fun c7 => ?_) (fun c7 => ?_)
  · replace h := am_ip c7 h
    refine am_blk hc X 10 1 (fr' := (20, [(0, am_r oa0 40 0), (1, am_r oa1 51 0), (2, am_i a2), (3, am_i a3)], [am_i 0], q1.2)) rfl ⟨trivial, trivial⟩ ?_
    obtain rfl := Option.some.inj h
    exact am_zret hc X hr 11 rfl (by decide) rfl rfl
  · replace h := am_in2 c7 h
    refine am_blk hc X 4 4 (fr' := (13, [(0, am_r oa0 40 0), (1, am_r oa1 51 0), (2, am_i a2), (3, am_i a3)], [am_i a3, am_i a2, am_i 1, am_r oa0 40 0], q1.2)) rfl ⟨trivial, trivial, trivial, trivial, trivial⟩ ?_
    obtain ⟨q3, hq4, h⟩ := am_bs h
    refine am_callV hc 8 X (k := 40) (i := 0) (o := oa0) (As := [am_i 1, am_i a2, am_i a3]) (rest := []) rfl (ok_X8_number l oa0 1 a2 a3 q1.2 hq4) yv_X8_number ml_X8_220 (cl_40) rfl rfl rfl rfl rfl ?_
    refine am_if_ne hc X 9 (tgt := 21) rfl (by decide) (fun c6 => ?_) (fun c6 => ?_)
    · replace h := am_in2 c6 h
      obtain ⟨ob5, h⟩ := am_ci h
      refine am_blk hc X 12 11 (fr' := (36, [(0, am_r oa0 40 0), (1, am_r oa1 51 0), (2, am_i a2), (3, am_i a3)], [am_i 1], (am_u q3.2 oa1 51 0 (((q3.2.1 oa0 63 0 0) : Int32).toNatClampNeg) (q3.2.1 oa0 63 0 1)))) rfl ⟨trivial, trivial, trivial, trivial, (am_in_vp (by decide)), trivial, trivial, trivial, (am_in_vp (by decide)), (am_in_vp ob5), trivial, trivial⟩ ?_
      obtain rfl := Option.some.inj h
      exact am_zret hc X hr 23 rfl (by decide) rfl rfl
    · replace h := am_ip c6 h
      refine am_blk hc X 10 1 (fr' := (20, [(0, am_r oa0 40 0), (1, am_r oa1 51 0), (2, am_i a2), (3, am_i a3)], [am_i 0], q3.2)) rfl ⟨trivial, trivial⟩ ?_
      obtain rfl := Option.some.inj h
      exact am_zret hc X hr 11 rfl (by decide) rfl rfl
def fn_X8_asks_50 (oa0 : Nat) (oa1 : Nat) (a2 : Int32) (a3 : Int32) (σ : am_S) : Option (Int32 × am_S) :=
  (fn_X8_tells oa0 6 (σ)).bind fun q1 => (if q1.1 = 0 then some (0, q1.2) else (fn_X8_number oa0 1 a2 a3 q1.2).bind fun q3 => (if q3.1 = 0 then some (0, q3.2) else (bif am_in (q3.2.1 oa0 63 0 0) 7 then some (1, (am_u q3.2 oa1 50 0 (((q3.2.1 oa0 63 0 0) : Int32).toNatClampNeg) (q3.2.1 oa0 63 0 1))) else none)))
set_option maxRecDepth 100000 in
theorem ok_X8_asks_50 (l : Launch) (oa0 : Nat) (oa1 : Nat) (a2 : Int32) (a3 : Int32) (σ : am_S) {q : Int32 × am_S} (h : fn_X8_asks_50 oa0 oa1 a2 a3 σ = some q) : am_M l yX8_asks cX8_asks 4 (some .boolean) 4 [am_r oa0 40 0, am_r oa1 50 0, am_i a2, am_i a3] σ (some (am_i q.1)) q.2 := by
  refine am_M_of (P := am_p8) (by decide +kernel) am_p8_ok rfl ?_
  intro G p e s m args below meth c X hr
  have hc := ct_X8_asks
  unfold fn_X8_asks_50 at h
  refine am_blk hc X 0 2 (fr' := (3, [(0, am_r oa0 40 0), (1, am_r oa1 50 0), (2, am_i a2), (3, am_i a3)], [am_i 6, am_r oa0 40 0], σ)) rfl ⟨trivial, trivial, trivial⟩ ?_
  obtain ⟨q1, hq2, h⟩ := am_bs h
  refine am_callV hc 2 X (k := 40) (i := 0) (o := oa0) (As := [am_i 6]) (rest := []) rfl (ok_X8_tells l oa0 6 (σ) hq2) yv_X8_tells ml_X8_224 (cl_40) rfl rfl rfl rfl rfl ?_
  refine am_if_eq hc X 3 (tgt := 19) rfl (by decide) (fun c7 => ?_) (fun c7 => ?_)
  · replace h := am_ip c7 h
    refine am_blk hc X 10 1 (fr' := (20, [(0, am_r oa0 40 0), (1, am_r oa1 50 0), (2, am_i a2), (3, am_i a3)], [am_i 0], q1.2)) rfl ⟨trivial, trivial⟩ ?_
    obtain rfl := Option.some.inj h
    exact am_zret hc X hr 11 rfl (by decide) rfl rfl
  · replace h := am_in2 c7 h
    refine am_blk hc X 4 4 (fr' := (13, [(0, am_r oa0 40 0), (1, am_r oa1 50 0), (2, am_i a2), (3, am_i a3)], [am_i a3, am_i a2, am_i 1, am_r oa0 40 0], q1.2)) rfl ⟨trivial, trivial, trivial, trivial, trivial⟩ ?_
    obtain ⟨q3, hq4, h⟩ := am_bs h
    refine am_callV hc 8 X (k := 40) (i := 0) (o := oa0) (As := [am_i 1, am_i a2, am_i a3]) (rest := []) rfl (ok_X8_number l oa0 1 a2 a3 q1.2 hq4) yv_X8_number ml_X8_220 (cl_40) rfl rfl rfl rfl rfl ?_
    refine am_if_ne hc X 9 (tgt := 21) rfl (by decide) (fun c6 => ?_) (fun c6 => ?_)
    · replace h := am_in2 c6 h
      obtain ⟨ob5, h⟩ := am_ci h
      refine am_blk hc X 12 11 (fr' := (36, [(0, am_r oa0 40 0), (1, am_r oa1 50 0), (2, am_i a2), (3, am_i a3)], [am_i 1], (am_u q3.2 oa1 50 0 (((q3.2.1 oa0 63 0 0) : Int32).toNatClampNeg) (q3.2.1 oa0 63 0 1)))) rfl ⟨trivial, trivial, trivial, trivial, (am_in_vp (by decide)), trivial, trivial, trivial, (am_in_vp (by decide)), (am_in_vp ob5), trivial, trivial⟩ ?_
      obtain rfl := Option.some.inj h
      exact am_zret hc X hr 23 rfl (by decide) rfl rfl
    · replace h := am_ip c6 h
      refine am_blk hc X 10 1 (fr' := (20, [(0, am_r oa0 40 0), (1, am_r oa1 50 0), (2, am_i a2), (3, am_i a3)], [am_i 0], q3.2)) rfl ⟨trivial, trivial⟩ ?_
      obtain rfl := Option.some.inj h
      exact am_zret hc X hr 11 rfl (by decide) rfl rfl
def jn_X8_statement_198  (ox0 : Nat) (σ : am_S) : Option (Int32 × am_S) :=
  (fn_X8_ofPeople ox0 (σ)).bind fun q13 => (if q13.1 = 0 ∨ q13.1 = 1 then some (q13.1, q13.2) else none)
set_option maxRecDepth 100000 in
theorem jl_X8_statement_198 {p : Program} {l : Launch} {e : Env} {s : State} {m : MethodId} {args : Array Value} {below : List Frame} {meth : Method} {c : Code} {G : am_G} {q : Int32 × am_S} (X : am_X p s m args c cX8_statement yX8_statement.cls 2 am_p8 G (am_fr G)) (hr : meth.sig.returnType = (some .boolean) ∧ meth.locks = false)    (ox0 : Nat) (σ : am_S) (h : jn_X8_statement_198  ox0 σ = some q) : am_A p l e (am_ro 6) s m args below meth c 2 G (am_fr G) 0 0 (MQ below (am_Qc G (some (am_i q.1)) q.2) args s 0 0 (am_fr G)) (198, [(0, am_r ox0 40 0)], [], σ) := by
  have hc := ct_X8_statement
  unfold jn_X8_statement_198 at h
  refine am_blk hc X 107 1 (fr' := (199, [(0, am_r ox0 40 0)], [am_r ox0 40 0], σ)) rfl ⟨trivial, trivial⟩ ?_
  obtain ⟨q13, hq14, h⟩ := am_bs h
  refine am_callV hc 108 X (k := 40) (i := 0) (o := ox0) (As := []) (rest := []) rfl (ok_X8_ofPeople l ox0 (σ) hq14) yv_X8_ofPeople ml_X8_250 (cl_40) rfl rfl rfl rfl rfl ?_
  obtain ⟨ob15, h⟩ := am_ct2 h
  obtain rfl := Option.some.inj h
  exact am_zret hc X hr 109 rfl ob15 rfl rfl
def jn_X8_statement_124  (ox0 : Nat) (σ : am_S) : Option (Int32 × am_S) :=
  (fn_X8_isWord_36 ox0 5 (σ)).bind fun q11 => (if q11.1 = 0 then jn_X8_statement_198  ox0 q11.2 else (if 6 ≤ (q11.2.1 ox0 40 0 15) then jn_X8_statement_198  ox0 q11.2 else (fn_X8_tells ox0 5 q11.2).bind fun q16 => (if q16.1 = 0 then some (0, q16.2) else (fn_X8_number ox0 1 0 9 q16.2).bind fun q18 => (if q18.1 = 0 then some (0, q18.2) else (fn_X8_number ox0 2 0 6 q18.2).bind fun q20 => (if q20.1 = 0 then some (0, q20.2) else (fn_X8_addPerson ox0 (q20.2.1 ox0 63 0 0) (q20.2.1 ox0 63 0 1) (q20.2.1 ox0 63 0 2) q20.2).bind fun q22 => some (1, q22))))))
set_option maxRecDepth 100000 in
theorem jl_X8_statement_124 {p : Program} {l : Launch} {e : Env} {s : State} {m : MethodId} {args : Array Value} {below : List Frame} {meth : Method} {c : Code} {G : am_G} {q : Int32 × am_S} (X : am_X p s m args c cX8_statement yX8_statement.cls 2 am_p8 G (am_fr G)) (hr : meth.sig.returnType = (some .boolean) ∧ meth.locks = false)    (ox0 : Nat) (σ : am_S) (h : jn_X8_statement_124  ox0 σ = some q) : am_A p l e (am_ro 6) s m args below meth c 2 G (am_fr G) 0 0 (MQ below (am_Qc G (some (am_i q.1)) q.2) args s 0 0 (am_fr G)) (124, [(0, am_r ox0 40 0)], [], σ) := by
  have hc := ct_X8_statement
  unfold jn_X8_statement_124 at h
  refine am_blk hc X 65 2 (fr' := (127, [(0, am_r ox0 40 0)], [am_r 17 36 5, am_r ox0 40 0], σ)) rfl ⟨trivial, trivial, trivial⟩ ?_
  obtain ⟨q11, hq12, h⟩ := am_bs h
  refine am_callV hc 67 X (k := 40) (i := 0) (o := ox0) (As := [am_r 17 36 5]) (rest := []) rfl (ok_X8_isWord_36 l ox0 5 (σ) hq12) yv_X8_isWord ml_X8_231 (cl_40) rfl rfl rfl rfl rfl ?_
  refine am_if_eq hc X 68 (tgt := 198) rfl (by decide) (fun c28 => ?_) (fun c28 => ?_)
  · replace h := am_ip c28 h
    exact jl_X8_statement_198 X hr   ox0 _ h
  · replace h := am_in2 c28 h
    refine am_blk hc X 69 3 (fr' := (139, [(0, am_r ox0 40 0)], [am_i 6, am_i (q11.2.1 ox0 40 0 15)], q11.2)) rfl ⟨trivial, trivial, trivial, trivial⟩ ?_
    refine am_icmp_ge hc X 72 (tgt := 198) rfl (by decide) (fun c27 => ?_) (fun c27 => ?_)
    · replace h := am_ip c27 h
      exact jl_X8_statement_198 X hr   ox0 _ h
    · replace h := am_in2 c27 h
      refine am_blk hc X 73 2 (fr' := (144, [(0, am_r ox0 40 0)], [am_i 5, am_r ox0 40 0], q11.2)) rfl ⟨trivial, trivial, trivial⟩ ?_
      obtain ⟨q16, hq17, h⟩ := am_bs h
      refine am_callV hc 75 X (k := 40) (i := 0) (o := ox0) (As := [am_i 5]) (rest := []) rfl (ok_X8_tells l ox0 5 q11.2 hq17) yv_X8_tells ml_X8_224 (cl_40) rfl rfl rfl rfl rfl ?_
      refine am_if_eq hc X 76 (tgt := 172) rfl (by decide) (fun c26 => ?_) (fun c26 => ?_)
      · replace h := am_ip c26 h
        refine am_blk hc X 89 1 (fr' := (173, [(0, am_r ox0 40 0)], [am_i 0], q16.2)) rfl ⟨trivial, trivial⟩ ?_
        obtain rfl := Option.some.inj h
        exact am_zret hc X hr 90 rfl (by decide) rfl rfl
      · replace h := am_in2 c26 h
        refine am_blk hc X 77 4 (fr' := (155, [(0, am_r ox0 40 0)], [am_i 9, am_i 0, am_i 1, am_r ox0 40 0], q16.2)) rfl ⟨trivial, trivial, trivial, trivial, trivial⟩ ?_
        obtain ⟨q18, hq19, h⟩ := am_bs h
        refine am_callV hc 81 X (k := 40) (i := 0) (o := ox0) (As := [am_i 1, am_i 0, am_i 9]) (rest := []) rfl (ok_X8_number l ox0 1 0 9 q16.2 hq19) yv_X8_number ml_X8_220 (cl_40) rfl rfl rfl rfl rfl ?_
        refine am_if_eq hc X 82 (tgt := 172) rfl (by decide) (fun c25 => ?_) (fun c25 => ?_)
        · replace h := am_ip c25 h
          refine am_blk hc X 89 1 (fr' := (173, [(0, am_r ox0 40 0)], [am_i 0], q18.2)) rfl ⟨trivial, trivial⟩ ?_
          obtain rfl := Option.some.inj h
          exact am_zret hc X hr 90 rfl (by decide) rfl rfl
        · replace h := am_in2 c25 h
          refine am_blk hc X 83 4 (fr' := (166, [(0, am_r ox0 40 0)], [am_i 6, am_i 0, am_i 2, am_r ox0 40 0], q18.2)) rfl ⟨trivial, trivial, trivial, trivial, trivial⟩ ?_
          obtain ⟨q20, hq21, h⟩ := am_bs h
          refine am_callV hc 87 X (k := 40) (i := 0) (o := ox0) (As := [am_i 2, am_i 0, am_i 6]) (rest := []) rfl (ok_X8_number l ox0 2 0 6 q18.2 hq21) yv_X8_number ml_X8_220 (cl_40) rfl rfl rfl rfl rfl ?_
          refine am_if_ne hc X 88 (tgt := 174) rfl (by decide) (fun c24 => ?_) (fun c24 => ?_)
          · replace h := am_in2 c24 h
            refine am_blk hc X 91 13 (fr' := (193, [(0, am_r ox0 40 0)], [am_i (q20.2.1 ox0 63 0 2), am_i (q20.2.1 ox0 63 0 1), am_i (q20.2.1 ox0 63 0 0), am_r ox0 40 0], q20.2)) rfl ⟨trivial, trivial, trivial, trivial, (am_in_vp (by decide)), trivial, trivial, trivial, (am_in_vp (by decide)), trivial, trivial, trivial, (am_in_vp (by decide)), trivial⟩ ?_
            obtain ⟨q22, hq23, h⟩ := am_bs h
            refine am_callV hc 104 X (k := 40) (i := 0) (o := ox0) (As := [am_i (q20.2.1 ox0 63 0 0), am_i (q20.2.1 ox0 63 0 1), am_i (q20.2.1 ox0 63 0 2)]) (rest := []) rfl (ok_X8_addPerson l ox0 (q20.2.1 ox0 63 0 0) (q20.2.1 ox0 63 0 1) (q20.2.1 ox0 63 0 2) q20.2 hq23) yv_X8_addPerson ml_X8_171 (cl_40) rfl rfl rfl rfl rfl ?_
            refine am_blk hc X 105 1 (fr' := (197, [(0, am_r ox0 40 0)], [am_i 1], q22)) rfl ⟨trivial, trivial⟩ ?_
            obtain rfl := Option.some.inj h
            exact am_zret hc X hr 106 rfl (by decide) rfl rfl
          · replace h := am_ip c24 h
            refine am_blk hc X 89 1 (fr' := (173, [(0, am_r ox0 40 0)], [am_i 0], q20.2)) rfl ⟨trivial, trivial⟩ ?_
            obtain rfl := Option.some.inj h
            exact am_zret hc X hr 90 rfl (by decide) rfl rfl
def jn_X8_statement_97  (x1 : Int32) (y0 : Int32) (oy1 : Nat) (σ : am_S) : Option (Int32 × am_S) :=
  (if x1 = 0 ∨ x1 = 1 then some (x1, (am_u σ oy1 40 0 12 y0)) else none)
set_option maxRecDepth 100000 in
theorem jl_X8_statement_97 {p : Program} {l : Launch} {e : Env} {s : State} {m : MethodId} {args : Array Value} {below : List Frame} {meth : Method} {c : Code} {G : am_G} {q : Int32 × am_S} (X : am_X p s m args c cX8_statement yX8_statement.cls 2 am_p8 G (am_fr G)) (hr : meth.sig.returnType = (some .boolean) ∧ meth.locks = false)    (x1 : Int32) (y0 : Int32) (oy1 : Nat) (σ : am_S) (h : jn_X8_statement_97  x1 y0 oy1 σ = some q) : am_A p l e (am_ro 6) s m args below meth c 2 G (am_fr G) 0 0 (MQ below (am_Qc G (some (am_i q.1)) q.2) args s 0 0 (am_fr G)) (97, [(1, am_i x1)], [am_i y0, am_r oy1 40 0], σ) := by
  have hc := ct_X8_statement
  unfold jn_X8_statement_97 at h
  refine am_blk hc X 51 2 (fr' := (101, [(1, am_i x1)], [am_i x1], (am_u σ oy1 40 0 12 y0))) rfl ⟨trivial, trivial, trivial⟩ ?_
  obtain ⟨ob36, h⟩ := am_ct2 h
  obtain rfl := Option.some.inj h
  exact am_zret hc X hr 53 rfl ob36 rfl rfl
def fn_X8_statement (oa0 : Nat) (σ : am_S) : Option (Int32 × am_S) :=
  (fn_X8_isWord_36 oa0 0 (σ)).bind fun q1 => (if q1.1 = 0 then (fn_X8_isWord_36 oa0 1 q1.2).bind fun q3 => (if q3.1 = 0 then (fn_X8_isWord_36 oa0 2 q3.2).bind fun q5 => (if q5.1 = 0 then (fn_X8_isWord_36 oa0 3 q5.2).bind fun q7 => (if q7.1 = 0 then (fn_X8_isWord_36 oa0 4 q7.2).bind fun q9 => (if q9.1 = 0 then jn_X8_statement_124  oa0 q9.2 else (if 3 ≤ (q9.2.1 oa0 40 0 13) then jn_X8_statement_124  oa0 q9.2 else (fn_X8_passTold oa0 q9.2).bind fun q29 => (if q29.1 = 0 ∨ q29.1 = 1 then some (q29.1, q29.2) else none))) else (fn_X8_tells oa0 9 q7.2).bind fun q34 => (if q34.1 = 0 then jn_X8_statement_97  q34.1 (q34.2.1 oa0 40 0 12) oa0 q34.2 else jn_X8_statement_97  q34.1 (q34.2.1 oa0 63 0 0) oa0 q34.2)) else (fn_X8_asks_52 oa0 oa0 0 20 q5.2).bind fun q39 => (if q39.1 = 0 ∨ q39.1 = 1 then some (q39.1, q39.2) else none)) else (fn_X8_asks_51 oa0 oa0 1 12 q3.2).bind fun q43 => (if q43.1 = 0 ∨ q43.1 = 1 then some (q43.1, q43.2) else none)) else (fn_X8_asks_50 oa0 oa0 0 9 q1.2).bind fun q47 => (if q47.1 = 0 ∨ q47.1 = 1 then some (q47.1, q47.2) else none))
set_option maxRecDepth 100000 in
theorem ok_X8_statement (l : Launch) (oa0 : Nat) (σ : am_S) {q : Int32 × am_S} (h : fn_X8_statement oa0 σ = some q) : am_M l yX8_statement cX8_statement 2 (some .boolean) 6 [am_r oa0 40 0] σ (some (am_i q.1)) q.2 := by
  refine am_M_of (P := am_p8) (by decide +kernel) am_p8_ok rfl ?_
  intro G p e s m args below meth c X hr
  have hc := ct_X8_statement
  unfold fn_X8_statement at h
  refine am_blk hc X 0 2 (fr' := (3, [(0, am_r oa0 40 0)], [am_r 17 36 0, am_r oa0 40 0], σ)) rfl ⟨trivial, trivial, trivial⟩ ?_
  obtain ⟨q1, hq2, h⟩ := am_bs h
  refine am_callV hc 2 X (k := 40) (i := 0) (o := oa0) (As := [am_r 17 36 0]) (rest := []) rfl (ok_X8_isWord_36 l oa0 0 (σ) hq2) yv_X8_isWord ml_X8_231 (cl_40) rfl rfl rfl rfl rfl ?_
  refine am_if_eq hc X 3 (tgt := 21) rfl (by decide) (fun c50 => ?_) (fun c50 => ?_)
  · replace h := am_ip c50 h
    refine am_blk hc X 11 2 (fr' := (24, [(0, am_r oa0 40 0)], [am_r 17 36 1, am_r oa0 40 0], q1.2)) rfl ⟨trivial, trivial, trivial⟩ ?_
    obtain ⟨q3, hq4, h⟩ := am_bs h
    refine am_callV hc 13 X (k := 40) (i := 0) (o := oa0) (As := [am_r 17 36 1]) (rest := []) rfl (ok_X8_isWord_36 l oa0 1 q1.2 hq4) yv_X8_isWord ml_X8_231 (cl_40) rfl rfl rfl rfl rfl ?_
    refine am_if_eq hc X 14 (tgt := 42) rfl (by decide) (fun c46 => ?_) (fun c46 => ?_)
    · replace h := am_ip c46 h
      refine am_blk hc X 22 2 (fr' := (45, [(0, am_r oa0 40 0)], [am_r 17 36 2, am_r oa0 40 0], q3.2)) rfl ⟨trivial, trivial, trivial⟩ ?_
      obtain ⟨q5, hq6, h⟩ := am_bs h
      refine am_callV hc 24 X (k := 40) (i := 0) (o := oa0) (As := [am_r 17 36 2]) (rest := []) rfl (ok_X8_isWord_36 l oa0 2 q3.2 hq6) yv_X8_isWord ml_X8_231 (cl_40) rfl rfl rfl rfl rfl ?_
      refine am_if_eq hc X 25 (tgt := 63) rfl (by decide) (fun c42 => ?_) (fun c42 => ?_)
      · replace h := am_ip c42 h
        refine am_blk hc X 33 2 (fr' := (66, [(0, am_r oa0 40 0)], [am_r 17 36 3, am_r oa0 40 0], q5.2)) rfl ⟨trivial, trivial, trivial⟩ ?_
        obtain ⟨q7, hq8, h⟩ := am_bs h
        refine am_callV hc 35 X (k := 40) (i := 0) (o := oa0) (As := [am_r 17 36 3]) (rest := []) rfl (ok_X8_isWord_36 l oa0 3 q5.2 hq8) yv_X8_isWord ml_X8_231 (cl_40) rfl rfl rfl rfl rfl ?_
        refine am_if_eq hc X 36 (tgt := 102) rfl (by decide) (fun c38 => ?_) (fun c38 => ?_)
        · replace h := am_ip c38 h
          refine am_blk hc X 54 2 (fr' := (105, [(0, am_r oa0 40 0)], [am_r 17 36 4, am_r oa0 40 0], q7.2)) rfl ⟨trivial, trivial, trivial⟩ ?_
          obtain ⟨q9, hq10, h⟩ := am_bs h
          refine am_callV hc 56 X (k := 40) (i := 0) (o := oa0) (As := [am_r 17 36 4]) (rest := []) rfl (ok_X8_isWord_36 l oa0 4 q7.2 hq10) yv_X8_isWord ml_X8_231 (cl_40) rfl rfl rfl rfl rfl ?_
          refine am_if_eq hc X 57 (tgt := 124) rfl (by decide) (fun c33 => ?_) (fun c33 => ?_)
          · replace h := am_ip c33 h
            exact jl_X8_statement_124 X hr   oa0 _ h
          · replace h := am_in2 c33 h
            refine am_blk hc X 58 3 (fr' := (116, [(0, am_r oa0 40 0)], [am_i 3, am_i (q9.2.1 oa0 40 0 13)], q9.2)) rfl ⟨trivial, trivial, trivial, trivial⟩ ?_
            refine am_icmp_ge hc X 61 (tgt := 124) rfl (by decide) (fun c32 => ?_) (fun c32 => ?_)
            · replace h := am_ip c32 h
              exact jl_X8_statement_124 X hr   oa0 _ h
            · replace h := am_in2 c32 h
              refine am_blk hc X 62 1 (fr' := (120, [(0, am_r oa0 40 0)], [am_r oa0 40 0], q9.2)) rfl ⟨trivial, trivial⟩ ?_
              obtain ⟨q29, hq30, h⟩ := am_bs h
              refine am_callV hc 63 X (k := 40) (i := 0) (o := oa0) (As := []) (rest := []) rfl (ok_X8_passTold l oa0 q9.2 hq30) yv_X8_passTold ml_X8_245 (cl_40) rfl rfl rfl rfl rfl ?_
              obtain ⟨ob31, h⟩ := am_ct2 h
              obtain rfl := Option.some.inj h
              exact am_zret hc X hr 64 rfl ob31 rfl rfl
        · replace h := am_in2 c38 h
          refine am_blk hc X 37 2 (fr' := (75, [(0, am_r oa0 40 0)], [am_i 9, am_r oa0 40 0], q7.2)) rfl ⟨trivial, trivial, trivial⟩ ?_
          obtain ⟨q34, hq35, h⟩ := am_bs h
          refine am_callV hc 39 X (k := 40) (i := 0) (o := oa0) (As := [am_i 9]) (rest := []) rfl (ok_X8_tells l oa0 9 q7.2 hq35) yv_X8_tells ml_X8_224 (cl_40) rfl rfl rfl rfl rfl ?_
          refine am_blk hc X 40 3 (fr' := (81, [(0, am_r oa0 40 0), (1, am_i q34.1)], [am_i q34.1, am_r oa0 40 0], q34.2)) rfl ⟨trivial, trivial, trivial, trivial⟩ ?_
          refine am_if_eq hc X 43 (tgt := 93) rfl (by decide) (fun c37 => ?_) (fun c37 => ?_)
          · replace h := am_ip c37 h
            refine am_blk hc X 49 2 (fr' := (97, [(0, am_r oa0 40 0), (1, am_i q34.1)], [am_i (q34.2.1 oa0 40 0 12), am_r oa0 40 0], q34.2)) rfl ⟨trivial, trivial, trivial⟩ ?_
            refine am_less [1] rfl ?_
            exact jl_X8_statement_97 X hr   q34.1 (q34.2.1 oa0 40 0 12) oa0 _ h
          · replace h := am_in2 c37 h
            refine am_blk hc X 44 5 (fr' := (97, [(0, am_r oa0 40 0), (1, am_i q34.1)], [am_i (q34.2.1 oa0 63 0 0), am_r oa0 40 0], q34.2)) rfl ⟨trivial, trivial, trivial, (am_in_vp (by decide)), trivial, trivial⟩ ?_
            refine am_less [1] rfl ?_
            exact jl_X8_statement_97 X hr   q34.1 (q34.2.1 oa0 63 0 0) oa0 _ h
      · replace h := am_in2 c42 h
        refine am_blk hc X 26 5 (fr' := (59, [(0, am_r oa0 40 0)], [am_i 20, am_i 0, am_r oa0 52 0, am_r oa0 40 0], q5.2)) rfl ⟨trivial, trivial, trivial, trivial, trivial, trivial⟩ ?_
        obtain ⟨q39, hq40, h⟩ := am_bs h
        refine am_callV hc 31 X (k := 40) (i := 0) (o := oa0) (As := [am_r oa0 52 0, am_i 0, am_i 20]) (rest := []) rfl (ok_X8_asks_52 l oa0 oa0 0 20 q5.2 hq40) yv_X8_asks ml_X8_235 (cl_40) rfl rfl rfl rfl rfl ?_
        obtain ⟨ob41, h⟩ := am_ct2 h
        obtain rfl := Option.some.inj h
        exact am_zret hc X hr 32 rfl ob41 rfl rfl
    · replace h := am_in2 c46 h
      refine am_blk hc X 15 5 (fr' := (38, [(0, am_r oa0 40 0)], [am_i 12, am_i 1, am_r oa0 51 0, am_r oa0 40 0], q3.2)) rfl ⟨trivial, trivial, trivial, trivial, trivial, trivial⟩ ?_
      obtain ⟨q43, hq44, h⟩ := am_bs h
      refine am_callV hc 20 X (k := 40) (i := 0) (o := oa0) (As := [am_r oa0 51 0, am_i 1, am_i 12]) (rest := []) rfl (ok_X8_asks_51 l oa0 oa0 1 12 q3.2 hq44) yv_X8_asks ml_X8_235 (cl_40) rfl rfl rfl rfl rfl ?_
      obtain ⟨ob45, h⟩ := am_ct2 h
      obtain rfl := Option.some.inj h
      exact am_zret hc X hr 21 rfl ob45 rfl rfl
  · replace h := am_in2 c50 h
    refine am_blk hc X 4 5 (fr' := (17, [(0, am_r oa0 40 0)], [am_i 9, am_i 0, am_r oa0 50 0, am_r oa0 40 0], q1.2)) rfl ⟨trivial, trivial, trivial, trivial, trivial, trivial⟩ ?_
    obtain ⟨q47, hq48, h⟩ := am_bs h
    refine am_callV hc 9 X (k := 40) (i := 0) (o := oa0) (As := [am_r oa0 50 0, am_i 0, am_i 9]) (rest := []) rfl (ok_X8_asks_50 l oa0 oa0 0 9 q1.2 hq48) yv_X8_asks ml_X8_235 (cl_40) rfl rfl rfl rfl rfl ?_
    obtain ⟨ob49, h⟩ := am_ct2 h
    obtain rfl := Option.some.inj h
    exact am_zret hc X hr 10 rfl ob49 rfl rfl
