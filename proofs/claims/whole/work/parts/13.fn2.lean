def jn_X7_bestPass_46 (k6 : Int32 → Int32 → Int32 → am_S → Option (Int32 × am_S)) (x1 : Int32) (x2 : Int32) (x3 : Int32) (σ : am_S) : Option (Int32 × am_S) :=
  k6 x1 x2 (x3 + 1) (σ)
set_option maxRecDepth 100000 in
theorem jl_X7_bestPass_46 {p : Program} {l : Launch} {e : Env} {s : State} {m : MethodId} {args : Array Value} {below : List Frame} {meth : Method} {c : Code} {G : am_G} {q : Int32 × am_S} (X : am_X p s m args c cX7_bestPass yX7_bestPass.cls 5 am_p7 G (am_fr G)) (hr : meth.sig.returnType = (some .int) ∧ meth.locks = false)  (k6 : Int32 → Int32 → Int32 → am_S → Option (Int32 × am_S)) (hk6 : ∀ (x1 : Int32) (x2 : Int32) (x3 : Int32) (σ : am_S), k6 x1 x2 x3 σ = some q → am_A p l e (am_ro 7) s m args below meth c 5 G (am_fr G) 0 0 (MQ below (am_Qc G (some (am_i q.1)) q.2) args s 0 0 (am_fr G)) (6, [(0, am_r 0 0 0), (1, am_i x1), (2, am_i x2), (3, am_i x3)], [], σ)) (x1 : Int32) (x2 : Int32) (x3 : Int32) (σ : am_S) (h : jn_X7_bestPass_46 k6 x1 x2 x3 σ = some q) : am_A p l e (am_ro 7) s m args below meth c 5 G (am_fr G) 0 0 (MQ below (am_Qc G (some (am_i q.1)) q.2) args s 0 0 (am_fr G)) (46, [(0, am_r 0 0 0), (1, am_i x1), (2, am_i x2), (3, am_i x3)], [], σ) := by
  have hc := ct_X7_bestPass
  unfold jn_X7_bestPass_46 at h
  refine am_blk hc X 27 2 (fr' := (6, [(0, am_r 0 0 0), (1, am_i x1), (2, am_i x2), (3, am_i (x3 + 1))], [], σ)) rfl ⟨trivial, trivial, trivial⟩ ?_
  exact hk6 x1 x2 (x3 + 1) _ h
def lb_X7_bestPass_6 (k6 : Int32 → Int32 → Int32 → am_S → Option (Int32 × am_S)) (x1 : Int32) (x2 : Int32) (x3 : Int32) (σ : am_S) : Option (Int32 × am_S) :=
  (if (σ.1 1 2 0 3) ≤ x3 then (if x1 = (-1) then (fn_X7_refuse (-5) (σ)).bind fun q1 => some (q1.1, q1.2) else some (x1, σ)) else (fn_X5_savedBy 1 x3 (σ)).bind fun q4 => (if q4.1 ≤ x2 then jn_X7_bestPass_46 k6 x1 x2 x3 q4.2 else jn_X7_bestPass_46 k6 x3 q4.1 x3 q4.2))
set_option maxRecDepth 100000 in
theorem lc_X7_bestPass_6 {p : Program} {l : Launch} {e : Env} {s : State} {m : MethodId} {args : Array Value} {below : List Frame} {meth : Method} {c : Code} {G : am_G} {q : Int32 × am_S} (X : am_X p s m args c cX7_bestPass yX7_bestPass.cls 5 am_p7 G (am_fr G)) (hr : meth.sig.returnType = (some .int) ∧ meth.locks = false)  (k6 : Int32 → Int32 → Int32 → am_S → Option (Int32 × am_S)) (hk6 : ∀ (x1 : Int32) (x2 : Int32) (x3 : Int32) (σ : am_S), k6 x1 x2 x3 σ = some q → am_A p l e (am_ro 7) s m args below meth c 5 G (am_fr G) 0 0 (MQ below (am_Qc G (some (am_i q.1)) q.2) args s 0 0 (am_fr G)) (6, [(0, am_r 0 0 0), (1, am_i x1), (2, am_i x2), (3, am_i x3)], [], σ)) (x1 : Int32) (x2 : Int32) (x3 : Int32) (σ : am_S) (h : lb_X7_bestPass_6 k6 x1 x2 x3 σ = some q) : am_A p l e (am_ro 7) s m args below meth c 5 G (am_fr G) 0 0 (MQ below (am_Qc G (some (am_i q.1)) q.2) args s 0 0 (am_fr G)) (6, [(0, am_r 0 0 0), (1, am_i x1), (2, am_i x2), (3, am_i x3)], [], σ) := by
  have hc := ct_X7_bestPass
  unfold lb_X7_bestPass_6 at h
  refine am_blk hc X 6 4 (fr' := (14, [(0, am_r 0 0 0), (1, am_i x1), (2, am_i x2), (3, am_i x3)], [am_i (σ.1 1 2 0 3), am_i x3], σ)) rfl ⟨trivial, trivial, trivial, trivial, trivial⟩ ?_
  refine am_icmp_ge hc X 10 (tgt := 52) rfl (by decide) (fun c7 => ?_) (fun c7 => ?_)
  · replace h := am_ip c7 h
    refine am_blk hc X 29 2 (fr' := (54, [(0, am_r 0 0 0), (1, am_i x1), (2, am_i x2), (3, am_i x3)], [am_i (-1), am_i x1], σ)) rfl ⟨trivial, trivial, trivial⟩ ?_
    refine am_icmp_ne hc X 31 (tgt := 66) rfl (by decide) (fun c3 => ?_) (fun c3 => ?_)
    · replace h := am_in2 c3 h
      refine am_blk hc X 36 1 (fr' := (67, [(0, am_r 0 0 0), (1, am_i x1), (2, am_i x2), (3, am_i x3)], [am_i x1], σ)) rfl ⟨trivial, trivial⟩ ?_
      obtain rfl := Option.some.inj h
      exact am_iret hc X hr 37 rfl rfl rfl
    · replace h := am_ip c3 h
      refine am_blk hc X 32 2 (fr' := (60, [(0, am_r 0 0 0), (1, am_i x1), (2, am_i x2), (3, am_i x3)], [am_i (-5), am_r 0 0 0], σ)) rfl ⟨trivial, trivial, trivial⟩ ?_
      obtain ⟨q1, hq2, h⟩ := am_bs h
      refine am_callV hc 34 X (k := 0) (i := 0) (o := 0) (As := [am_i (-5)]) (rest := []) rfl (ok_X7_refuse l (-5) (σ) hq2) yv_X7_refuse ml_X7_77 (cl_0) rfl rfl rfl rfl rfl ?_
      refine am_blk hc X 35 1 (fr' := (67, [(0, am_r 0 0 0), (1, am_i x1), (2, am_i x2), (3, am_i x3)], [am_i q1.1], q1.2)) rfl ⟨trivial, trivial⟩ ?_
      obtain rfl := Option.some.inj h
      exact am_iret hc X hr 37 rfl rfl rfl
  · replace h := am_in2 c7 h
    refine am_blk hc X 11 7 (fr' := (30, [(0, am_r 0 0 0), (1, am_i x1), (2, am_i x2), (3, am_i x3)], [am_i x3, am_r 12 17 0, am_r 1 2 0, am_r 13 22 0], σ)) rfl ⟨trivial, trivial, trivial, trivial, trivial, trivial, trivial, trivial⟩ ?_
    obtain ⟨q4, hq5, h⟩ := am_bs h
    refine am_callV hc 18 X (k := 22) (i := 0) (o := 13) (As := [am_r 1 2 0, am_r 12 17 0, am_i x3]) (rest := []) rfl (ok_X5_savedBy l 1 x3 (σ) hq5) yv_X5_savedBy ml_X7_212 (cl_22) rfl rfl rfl rfl rfl ?_
    refine am_blk hc X 19 3 (fr' := (38, [(0, am_r 0 0 0), (1, am_i x1), (2, am_i x2), (3, am_i x3), (4, am_i q4.1)], [am_i x2, am_i q4.1], q4.2)) rfl ⟨trivial, trivial, trivial, trivial⟩ ?_
    refine am_icmp_le hc X 22 (tgt := 46) rfl (by decide) (fun c6 => ?_) (fun c6 => ?_)
    · replace h := am_ip c6 h
      refine am_less [0, 1, 2, 3] rfl ?_
      exact jl_X7_bestPass_46 X hr k6 hk6 x1 x2 x3 _ h
    · replace h := am_in2 c6 h
      refine am_blk hc X 23 4 (fr' := (46, [(0, am_r 0 0 0), (1, am_i x3), (2, am_i q4.1), (3, am_i x3), (4, am_i q4.1)], [], q4.2)) rfl ⟨trivial, trivial, trivial, trivial, trivial⟩ ?_
      refine am_less [0, 1, 2, 3] rfl ?_
      exact jl_X7_bestPass_46 X hr k6 hk6 x3 q4.1 x3 _ h
def lp_X7_bestPass_6  : Nat → Int32 → Int32 → Int32 → am_S → Option (Int32 × am_S)
  | 0 => fun _ _ _ _ => none
  | n + 1 => lb_X7_bestPass_6  (lp_X7_bestPass_6  n)
theorem ll_X7_bestPass_6 {p : Program} {l : Launch} {e : Env} {s : State} {m : MethodId} {args : Array Value} {below : List Frame} {meth : Method} {c : Code} {G : am_G} {q : Int32 × am_S} (X : am_X p s m args c cX7_bestPass yX7_bestPass.cls 5 am_p7 G (am_fr G)) (hr : meth.sig.returnType = (some .int) ∧ meth.locks = false)    : ∀ (n : Nat) (x1 : Int32) (x2 : Int32) (x3 : Int32) (σ : am_S), lp_X7_bestPass_6  n x1 x2 x3 σ = some q → am_A p l e (am_ro 7) s m args below meth c 5 G (am_fr G) 0 0 (MQ below (am_Qc G (some (am_i q.1)) q.2) args s 0 0 (am_fr G)) (6, [(0, am_r 0 0 0), (1, am_i x1), (2, am_i x2), (3, am_i x3)], [], σ) := by
  intro n
  induction n with
  | zero =>
    intro x1 x2 x3 σ h
    have h : (none : Option (Int32 × am_S)) = some q := h
    cases h
  | succ n ih =>
    intro x1 x2 x3 σ h
    exact lc_X7_bestPass_6 X hr  (lp_X7_bestPass_6  n) ih x1 x2 x3 σ h
def fn_X7_bestPass  (σ : am_S) : Option (Int32 × am_S) :=
  lp_X7_bestPass_6  1000 (-1) (-1) 0 (σ)
set_option maxRecDepth 100000 in
theorem ok_X7_bestPass (l : Launch)  (σ : am_S) {q : Int32 × am_S} (h : fn_X7_bestPass  σ = some q) : am_M l yX7_bestPass cX7_bestPass 5 (some .int) 7 [am_r 0 0 0] σ (some (am_i q.1)) q.2 := by
  refine am_M_of (P := am_p7) (by decide +kernel) am_p7_ok rfl ?_
  intro G p e s m args below meth c X hr
  have hc := ct_X7_bestPass
  unfold fn_X7_bestPass at h
  refine am_blk hc X 0 6 (fr' := (6, [(0, am_r 0 0 0), (1, am_i (-1)), (2, am_i (-1)), (3, am_i 0)], [], σ)) rfl ⟨trivial, trivial, trivial, trivial, trivial, trivial, trivial⟩ ?_
  exact ll_X7_bestPass_6 X hr   1000 (-1) (-1) 0 _ h
def jn_X7_copy_68  (x1 : Int32) (x2 : Int32) (x3 : Int32) (x4 : Int32) (x5 : Int32) (x6 : Int32) (σ : am_S) : Option (Int32 × am_S) :=
  (if x6 = 0 then (fn_X2_copyElements x1 x2 x3 x4 x5 (σ)).bind fun q3 => some (x5, q3) else (fn_X7_refuse x6 (σ)).bind fun q5 => some (q5.1, q5.2))
set_option maxRecDepth 100000 in
theorem jl_X7_copy_68 {p : Program} {l : Launch} {e : Env} {s : State} {m : MethodId} {args : Array Value} {below : List Frame} {meth : Method} {c : Code} {G : am_G} {q : Int32 × am_S} (X : am_X p s m args c cX7_copy yX7_copy.cls 7 am_p7 G (am_fr G)) (hr : meth.sig.returnType = (some .int) ∧ meth.locks = false)    (x1 : Int32) (x2 : Int32) (x3 : Int32) (x4 : Int32) (x5 : Int32) (x6 : Int32) (σ : am_S) (h : jn_X7_copy_68  x1 x2 x3 x4 x5 x6 σ = some q) : am_A p l e (am_ro 3) s m args below meth c 7 G (am_fr G) 0 0 (MQ below (am_Qc G (some (am_i q.1)) q.2) args s 0 0 (am_fr G)) (68, [(0, am_r 0 0 0), (1, am_i x1), (2, am_i x2), (3, am_i x3), (4, am_i x4), (5, am_i x5), (6, am_i x6)], [], σ) := by
  have hc := ct_X7_copy
  unfold jn_X7_copy_68 at h
  refine am_blk hc X 32 1 (fr' := (70, [(0, am_r 0 0 0), (1, am_i x1), (2, am_i x2), (3, am_i x3), (4, am_i x4), (5, am_i x5), (6, am_i x6)], [am_i x6], σ)) rfl ⟨trivial, trivial⟩ ?_
  refine am_if_eq hc X 33 (tgt := 80) rfl (by decide) (fun c7 => ?_) (fun c7 => ?_)
  · replace h := am_ip c7 h
    refine am_blk hc X 38 7 (fr' := (91, [(0, am_r 0 0 0), (1, am_i x1), (2, am_i x2), (3, am_i x3), (4, am_i x4), (5, am_i x5), (6, am_i x6)], [am_i x5, am_i x4, am_i x3, am_i x2, am_i x1, am_r 10 9 0], σ)) rfl ⟨trivial, trivial, trivial, trivial, trivial, trivial, trivial, trivial⟩ ?_
    obtain ⟨q3, hq4, h⟩ := am_bs h
    refine am_callV hc 45 X (k := 9) (i := 0) (o := 10) (As := [am_i x1, am_i x2, am_i x3, am_i x4, am_i x5]) (rest := []) rfl (ok_X2_copyElements l x1 x2 x3 x4 x5 (σ) hq4) yv_X2_copyElements ml_X7_103 (cl_9) rfl rfl rfl rfl rfl ?_
    refine am_blk hc X 46 1 (fr' := (96, [(0, am_r 0 0 0), (1, am_i x1), (2, am_i x2), (3, am_i x3), (4, am_i x4), (5, am_i x5), (6, am_i x6)], [am_i x5], q3)) rfl ⟨trivial, trivial⟩ ?_
    obtain rfl := Option.some.inj h
    exact am_iret hc X hr 47 rfl rfl rfl
  · replace h := am_in2 c7 h
    refine am_blk hc X 34 2 (fr' := (76, [(0, am_r 0 0 0), (1, am_i x1), (2, am_i x2), (3, am_i x3), (4, am_i x4), (5, am_i x5), (6, am_i x6)], [am_i x6, am_r 0 0 0], σ)) rfl ⟨trivial, trivial, trivial⟩ ?_
    obtain ⟨q5, hq6, h⟩ := am_bs h
    refine am_callV hc 36 X (k := 0) (i := 0) (o := 0) (As := [am_i x6]) (rest := []) rfl (ok_X7_refuse l x6 (σ) hq6) yv_X7_refuse ml_X7_77 (cl_0) rfl rfl rfl rfl rfl ?_
    obtain rfl := Option.some.inj h
    exact am_iret hc X hr 37 rfl rfl rfl
def jn_X7_copy_64  (x1 : Int32) (x2 : Int32) (x3 : Int32) (x4 : Int32) (x5 : Int32) (σ : am_S) : Option (Int32 × am_S) :=
  jn_X7_copy_68  x1 x2 x3 x4 x5 (-2) (σ)
set_option maxRecDepth 100000 in
theorem jl_X7_copy_64 {p : Program} {l : Launch} {e : Env} {s : State} {m : MethodId} {args : Array Value} {below : List Frame} {meth : Method} {c : Code} {G : am_G} {q : Int32 × am_S} (X : am_X p s m args c cX7_copy yX7_copy.cls 7 am_p7 G (am_fr G)) (hr : meth.sig.returnType = (some .int) ∧ meth.locks = false)    (x1 : Int32) (x2 : Int32) (x3 : Int32) (x4 : Int32) (x5 : Int32) (σ : am_S) (h : jn_X7_copy_64  x1 x2 x3 x4 x5 σ = some q) : am_A p l e (am_ro 3) s m args below meth c 7 G (am_fr G) 0 0 (MQ below (am_Qc G (some (am_i q.1)) q.2) args s 0 0 (am_fr G)) (64, [(0, am_r 0 0 0), (1, am_i x1), (2, am_i x2), (3, am_i x3), (4, am_i x4), (5, am_i x5)], [], σ) := by
  have hc := ct_X7_copy
  unfold jn_X7_copy_64 at h
  refine am_blk hc X 30 2 (fr' := (68, [(0, am_r 0 0 0), (1, am_i x1), (2, am_i x2), (3, am_i x3), (4, am_i x4), (5, am_i x5), (6, am_i (-2))], [], σ)) rfl ⟨trivial, trivial, trivial⟩ ?_
  exact jl_X7_copy_68 X hr   x1 x2 x3 x4 x5 (-2) _ h
def jn_X7_copy_28  (x1 : Int32) (x2 : Int32) (x3 : Int32) (x4 : Int32) (x5 : Int32) (y0 : Int32) (σ : am_S) : Option (Int32 × am_S) :=
  (if y0 = 0 then (fn_X2_hasElements x1 x3 x5 (σ)).bind fun q8 => (if q8.1 = 0 then jn_X7_copy_64  x1 x2 x3 x4 x5 q8.2 else (fn_X2_hasElements x2 x4 x5 q8.2).bind fun q10 => (if q10.1 = 0 then jn_X7_copy_64  x1 x2 x3 x4 x5 q10.2 else jn_X7_copy_68  x1 x2 x3 x4 x5 y0 q10.2)) else jn_X7_copy_68  x1 x2 x3 x4 x5 y0 (σ))
set_option maxRecDepth 100000 in
theorem jl_X7_copy_28 {p : Program} {l : Launch} {e : Env} {s : State} {m : MethodId} {args : Array Value} {below : List Frame} {meth : Method} {c : Code} {G : am_G} {q : Int32 × am_S} (X : am_X p s m args c cX7_copy yX7_copy.cls 7 am_p7 G (am_fr G)) (hr : meth.sig.returnType = (some .int) ∧ meth.locks = false)    (x1 : Int32) (x2 : Int32) (x3 : Int32) (x4 : Int32) (x5 : Int32) (y0 : Int32) (σ : am_S) (h : jn_X7_copy_28  x1 x2 x3 x4 x5 y0 σ = some q) : am_A p l e (am_ro 3) s m args below meth c 7 G (am_fr G) 0 0 (MQ below (am_Qc G (some (am_i q.1)) q.2) args s 0 0 (am_fr G)) (28, [(0, am_r 0 0 0), (1, am_i x1), (2, am_i x2), (3, am_i x3), (4, am_i x4), (5, am_i x5)], [am_i y0], σ) := by
  have hc := ct_X7_copy
  unfold jn_X7_copy_28 at h
  refine am_blk hc X 13 2 (fr' := (32, [(0, am_r 0 0 0), (1, am_i x1), (2, am_i x2), (3, am_i x3), (4, am_i x4), (5, am_i x5), (6, am_i y0)], [am_i y0], σ)) rfl ⟨trivial, trivial, trivial⟩ ?_
  refine am_if_ne hc X 15 (tgt := 68) rfl (by decide) (fun c14 => ?_) (fun c14 => ?_)
  · replace h := am_in2 c14 h
    exact jl_X7_copy_68 X hr   x1 x2 x3 x4 x5 y0 _ h
  · replace h := am_ip c14 h
    refine am_blk hc X 16 5 (fr' := (43, [(0, am_r 0 0 0), (1, am_i x1), (2, am_i x2), (3, am_i x3), (4, am_i x4), (5, am_i x5), (6, am_i y0)], [am_i x5, am_i x3, am_i x1, am_r 10 9 0], σ)) rfl ⟨trivial, trivial, trivial, trivial, trivial, trivial⟩ ?_
    obtain ⟨q8, hq9, h⟩ := am_bs h
    refine am_callV hc 21 X (k := 9) (i := 0) (o := 10) (As := [am_i x1, am_i x3, am_i x5]) (rest := []) rfl (ok_X2_hasElements l x1 x3 x5 (σ) hq9) yv_X2_hasElements ml_X7_100 (cl_9) rfl rfl rfl rfl rfl ?_
    refine am_if_eq hc X 22 (tgt := 64) rfl (by decide) (fun c13 => ?_) (fun c13 => ?_)
    · replace h := am_ip c13 h
      refine am_less [0, 1, 2, 3, 4, 5] rfl ?_
      exact jl_X7_copy_64 X hr   x1 x2 x3 x4 x5 _ h
    · replace h := am_in2 c13 h
      refine am_blk hc X 23 5 (fr' := (58, [(0, am_r 0 0 0), (1, am_i x1), (2, am_i x2), (3, am_i x3), (4, am_i x4), (5, am_i x5), (6, am_i y0)], [am_i x5, am_i x4, am_i x2, am_r 10 9 0], q8.2)) rfl ⟨trivial, trivial, trivial, trivial, trivial, trivial⟩ ?_
      obtain ⟨q10, hq11, h⟩ := am_bs h
      refine am_callV hc 28 X (k := 9) (i := 0) (o := 10) (As := [am_i x2, am_i x4, am_i x5]) (rest := []) rfl (ok_X2_hasElements l x2 x4 x5 q8.2 hq11) yv_X2_hasElements ml_X7_100 (cl_9) rfl rfl rfl rfl rfl ?_
      refine am_if_ne hc X 29 (tgt := 68) rfl (by decide) (fun c12 => ?_) (fun c12 => ?_)
      · replace h := am_in2 c12 h
        exact jl_X7_copy_68 X hr   x1 x2 x3 x4 x5 y0 _ h
      · replace h := am_ip c12 h
        refine am_less [0, 1, 2, 3, 4, 5] rfl ?_
        exact jl_X7_copy_64 X hr   x1 x2 x3 x4 x5 _ h
def jn_X7_copy_26  (x1 : Int32) (x2 : Int32) (x3 : Int32) (x4 : Int32) (x5 : Int32) (σ : am_S) : Option (Int32 × am_S) :=
  jn_X7_copy_28  x1 x2 x3 x4 x5 (-2) (σ)
set_option maxRecDepth 100000 in
theorem jl_X7_copy_26 {p : Program} {l : Launch} {e : Env} {s : State} {m : MethodId} {args : Array Value} {below : List Frame} {meth : Method} {c : Code} {G : am_G} {q : Int32 × am_S} (X : am_X p s m args c cX7_copy yX7_copy.cls 7 am_p7 G (am_fr G)) (hr : meth.sig.returnType = (some .int) ∧ meth.locks = false)    (x1 : Int32) (x2 : Int32) (x3 : Int32) (x4 : Int32) (x5 : Int32) (σ : am_S) (h : jn_X7_copy_26  x1 x2 x3 x4 x5 σ = some q) : am_A p l e (am_ro 3) s m args below meth c 7 G (am_fr G) 0 0 (MQ below (am_Qc G (some (am_i q.1)) q.2) args s 0 0 (am_fr G)) (26, [(0, am_r 0 0 0), (1, am_i x1), (2, am_i x2), (3, am_i x3), (4, am_i x4), (5, am_i x5)], [], σ) := by
  have hc := ct_X7_copy
  unfold jn_X7_copy_26 at h
  refine am_blk hc X 12 1 (fr' := (28, [(0, am_r 0 0 0), (1, am_i x1), (2, am_i x2), (3, am_i x3), (4, am_i x4), (5, am_i x5)], [am_i (-2)], σ)) rfl ⟨trivial, trivial⟩ ?_
  exact jl_X7_copy_28 X hr   x1 x2 x3 x4 x5 (-2) _ h
def fn_X7_copy (a1 : Int32) (a2 : Int32) (a3 : Int32) (a4 : Int32) (a5 : Int32) (σ : am_S) : Option (Int32 × am_S) :=
  (fn_X7_isShelf a1 (σ)).bind fun q1 => (if q1.1 = 0 then jn_X7_copy_26  a1 a2 a3 a4 a5 q1.2 else (fn_X7_isShelf a2 q1.2).bind fun q15 => (if q15.1 = 0 then jn_X7_copy_26  a1 a2 a3 a4 a5 q15.2 else (fn_X2_refusalOfTwoRows a1 a2 q15.2).bind fun q17 => jn_X7_copy_28  a1 a2 a3 a4 a5 q17.1 q17.2))
set_option maxRecDepth 100000 in
theorem ok_X7_copy (l : Launch) (a1 : Int32) (a2 : Int32) (a3 : Int32) (a4 : Int32) (a5 : Int32) (σ : am_S) {q : Int32 × am_S} (h : fn_X7_copy a1 a2 a3 a4 a5 σ = some q) : am_M l yX7_copy cX7_copy 7 (some .int) 3 [am_r 0 0 0, am_i a1, am_i a2, am_i a3, am_i a4, am_i a5] σ (some (am_i q.1)) q.2 := by
  refine am_M_of (P := am_p7) (by decide +kernel) am_p7_ok rfl ?_
  intro G p e s m args below meth c X hr
  have hc := ct_X7_copy
  unfold fn_X7_copy at h
  refine am_blk hc X 0 1 (fr' := (1, [(0, am_r 0 0 0), (1, am_i a1), (2, am_i a2), (3, am_i a3), (4, am_i a4), (5, am_i a5)], [am_i a1], σ)) rfl ⟨trivial, trivial⟩ ?_
  obtain ⟨q1, hq2, h⟩ := am_bs h
  refine am_callS hc 1 X (As := [am_i a1]) (rest := []) rfl (ok_X7_isShelf l a1 (σ) hq2) yv_X7_isShelf ml_X7_69 rfl rfl rfl rfl rfl ?_
  refine am_if_eq hc X 2 (tgt := 26) rfl (by decide) (fun c20 => ?_) (fun c20 => ?_)
  · replace h := am_ip c20 h
    exact jl_X7_copy_26 X hr   a1 a2 a3 a4 a5 _ h
  · replace h := am_in2 c20 h
    refine am_blk hc X 3 1 (fr' := (8, [(0, am_r 0 0 0), (1, am_i a1), (2, am_i a2), (3, am_i a3), (4, am_i a4), (5, am_i a5)], [am_i a2], q1.2)) rfl ⟨trivial, trivial⟩ ?_
    obtain ⟨q15, hq16, h⟩ := am_bs h
    refine am_callS hc 4 X (As := [am_i a2]) (rest := []) rfl (ok_X7_isShelf l a2 q1.2 hq16) yv_X7_isShelf ml_X7_69 rfl rfl rfl rfl rfl ?_
    refine am_if_eq hc X 5 (tgt := 26) rfl (by decide) (fun c19 => ?_) (fun c19 => ?_)
    · replace h := am_ip c19 h
      exact jl_X7_copy_26 X hr   a1 a2 a3 a4 a5 _ h
    · replace h := am_in2 c19 h
      refine am_blk hc X 6 4 (fr' := (20, [(0, am_r 0 0 0), (1, am_i a1), (2, am_i a2), (3, am_i a3), (4, am_i a4), (5, am_i a5)], [am_i a2, am_i a1, am_r 10 9 0], q15.2)) rfl ⟨trivial, trivial, trivial, trivial, trivial⟩ ?_
      obtain ⟨q17, hq18, h⟩ := am_bs h
      refine am_callV hc 10 X (k := 9) (i := 0) (o := 10) (As := [am_i a1, am_i a2]) (rest := []) rfl (ok_X2_refusalOfTwoRows l a1 a2 q15.2 hq18) yv_X2_refusalOfTwoRows ml_X7_96 (cl_9) rfl rfl rfl rfl rfl ?_
      refine am_blk hc X 11 1 (fr' := (28, [(0, am_r 0 0 0), (1, am_i a1), (2, am_i a2), (3, am_i a3), (4, am_i a4), (5, am_i a5)], [am_i q17.1], q17.2)) rfl ⟨trivial, trivial⟩ ?_
      exact jl_X7_copy_28 X hr   a1 a2 a3 a4 a5 q17.1 _ h
def jn_X7_crowd_33 (k6 : Int32 → Int32 → Int32 → am_S → Option (Int32 × am_S)) (x1 : Int32) (x2 : Int32) (x3 : Int32) (σ : am_S) : Option (Int32 × am_S) :=
  k6 x1 x2 (x3 + 1) (σ)
set_option maxRecDepth 100000 in
theorem jl_X7_crowd_33 {p : Program} {l : Launch} {e : Env} {s : State} {m : MethodId} {args : Array Value} {below : List Frame} {meth : Method} {c : Code} {G : am_G} {q : Int32 × am_S} (X : am_X p s m args c cX7_crowd yX7_crowd.cls 5 am_p7 G (am_fr G)) (hr : meth.sig.returnType = (some .int) ∧ meth.locks = false)  (k6 : Int32 → Int32 → Int32 → am_S → Option (Int32 × am_S)) (hk6 : ∀ (x1 : Int32) (x2 : Int32) (x3 : Int32) (σ : am_S), k6 x1 x2 x3 σ = some q → am_A p l e (am_ro 1) s m args below meth c 5 G (am_fr G) 0 0 (MQ below (am_Qc G (some (am_i q.1)) q.2) args s 0 0 (am_fr G)) (6, [(0, am_r 0 0 0), (1, am_i x1), (2, am_i x2), (3, am_i x3)], [], σ)) (x1 : Int32) (x2 : Int32) (x3 : Int32) (σ : am_S) (h : jn_X7_crowd_33 k6 x1 x2 x3 σ = some q) : am_A p l e (am_ro 1) s m args below meth c 5 G (am_fr G) 0 0 (MQ below (am_Qc G (some (am_i q.1)) q.2) args s 0 0 (am_fr G)) (33, [(0, am_r 0 0 0), (1, am_i x1), (2, am_i x2), (3, am_i x3)], [], σ) := by
  have hc := ct_X7_crowd
  unfold jn_X7_crowd_33 at h
  refine am_blk hc X 21 2 (fr' := (6, [(0, am_r 0 0 0), (1, am_i x1), (2, am_i x2), (3, am_i (x3 + 1))], [], σ)) rfl ⟨trivial, trivial, trivial⟩ ?_
  exact hk6 x1 x2 (x3 + 1) _ h
def lb_X7_crowd_6 (k6 : Int32 → Int32 → Int32 → am_S → Option (Int32 × am_S)) (x1 : Int32) (x2 : Int32) (x3 : Int32) (σ : am_S) : Option (Int32 × am_S) :=
  (if 7 ≤ x3 then some (x1, σ) else (fn_X0_peopleAt 1 x3 (σ)).bind fun q1 => (if q1.1 ≤ x2 then jn_X7_crowd_33 k6 x1 x2 x3 q1.2 else jn_X7_crowd_33 k6 x3 q1.1 x3 q1.2))
set_option maxRecDepth 100000 in
theorem lc_X7_crowd_6 {p : Program} {l : Launch} {e : Env} {s : State} {m : MethodId} {args : Array Value} {below : List Frame} {meth : Method} {c : Code} {G : am_G} {q : Int32 × am_S} (X : am_X p s m args c cX7_crowd yX7_crowd.cls 5 am_p7 G (am_fr G)) (hr : meth.sig.returnType = (some .int) ∧ meth.locks = false)  (k6 : Int32 → Int32 → Int32 → am_S → Option (Int32 × am_S)) (hk6 : ∀ (x1 : Int32) (x2 : Int32) (x3 : Int32) (σ : am_S), k6 x1 x2 x3 σ = some q → am_A p l e (am_ro 1) s m args below meth c 5 G (am_fr G) 0 0 (MQ below (am_Qc G (some (am_i q.1)) q.2) args s 0 0 (am_fr G)) (6, [(0, am_r 0 0 0), (1, am_i x1), (2, am_i x2), (3, am_i x3)], [], σ)) (x1 : Int32) (x2 : Int32) (x3 : Int32) (σ : am_S) (h : lb_X7_crowd_6 k6 x1 x2 x3 σ = some q) : am_A p l e (am_ro 1) s m args below meth c 5 G (am_fr G) 0 0 (MQ below (am_Qc G (some (am_i q.1)) q.2) args s 0 0 (am_fr G)) (6, [(0, am_r 0 0 0), (1, am_i x1), (2, am_i x2), (3, am_i x3)], [], σ) := by
  have hc := ct_X7_crowd
  unfold lb_X7_crowd_6 at h
  refine am_blk hc X 6 2 (fr' := (9, [(0, am_r 0 0 0), (1, am_i x1), (2, am_i x2), (3, am_i x3)], [am_i 7, am_i x3], σ)) rfl ⟨trivial, trivial, trivial⟩ ?_
  refine am_icmp_ge hc X 8 (tgt := 39) rfl (by decide) (fun c4 => ?_) (fun c4 => ?_)
  · replace h := am_ip c4 h
    refine am_blk hc X 23 1 (fr' := (40, [(0, am_r 0 0 0), (1, am_i x1), (2, am_i x2), (3, am_i x3)], [am_i x1], σ)) rfl ⟨trivial, trivial⟩ ?_
    obtain rfl := Option.some.inj h
    exact am_iret hc X hr 24 rfl rfl rfl
  · replace h := am_in2 c4 h
    refine am_blk hc X 9 3 (fr' := (17, [(0, am_r 0 0 0), (1, am_i x1), (2, am_i x2), (3, am_i x3)], [am_i x3, am_r 1 2 0], σ)) rfl ⟨trivial, trivial, trivial, trivial⟩ ?_
    obtain ⟨q1, hq2, h⟩ := am_bs h
    refine am_callV hc 12 X (k := 2) (i := 0) (o := 1) (As := [am_i x3]) (rest := []) rfl (ok_X0_peopleAt l 1 x3 (σ) hq2) yv_X0_peopleAt ml_X7_161 (cl_2) rfl rfl rfl rfl rfl ?_
    refine am_blk hc X 13 3 (fr' := (25, [(0, am_r 0 0 0), (1, am_i x1), (2, am_i x2), (3, am_i x3), (4, am_i q1.1)], [am_i x2, am_i q1.1], q1.2)) rfl ⟨trivial, trivial, trivial, trivial⟩ ?_
    refine am_icmp_le hc X 16 (tgt := 33) rfl (by decide) (fun c3 => ?_) (fun c3 => ?_)
    · replace h := am_ip c3 h
      refine am_less [0, 1, 2, 3] rfl ?_
      exact jl_X7_crowd_33 X hr k6 hk6 x1 x2 x3 _ h
    · replace h := am_in2 c3 h
      refine am_blk hc X 17 4 (fr' := (33, [(0, am_r 0 0 0), (1, am_i x3), (2, am_i q1.1), (3, am_i x3), (4, am_i q1.1)], [], q1.2)) rfl ⟨trivial, trivial, trivial, trivial, trivial⟩ ?_
      refine am_less [0, 1, 2, 3] rfl ?_
      exact jl_X7_crowd_33 X hr k6 hk6 x3 q1.1 x3 _ h
def lp_X7_crowd_6  : Nat → Int32 → Int32 → Int32 → am_S → Option (Int32 × am_S)
  | 0 => fun _ _ _ _ => none
  | n + 1 => lb_X7_crowd_6  (lp_X7_crowd_6  n)
theorem ll_X7_crowd_6 {p : Program} {l : Launch} {e : Env} {s : State} {m : MethodId} {args : Array Value} {below : List Frame} {meth : Method} {c : Code} {G : am_G} {q : Int32 × am_S} (X : am_X p s m args c cX7_crowd yX7_crowd.cls 5 am_p7 G (am_fr G)) (hr : meth.sig.returnType = (some .int) ∧ meth.locks = false)    : ∀ (n : Nat) (x1 : Int32) (x2 : Int32) (x3 : Int32) (σ : am_S), lp_X7_crowd_6  n x1 x2 x3 σ = some q → am_A p l e (am_ro 1) s m args below meth c 5 G (am_fr G) 0 0 (MQ below (am_Qc G (some (am_i q.1)) q.2) args s 0 0 (am_fr G)) (6, [(0, am_r 0 0 0), (1, am_i x1), (2, am_i x2), (3, am_i x3)], [], σ) := by
  intro n
  induction n with
  | zero =>
    intro x1 x2 x3 σ h
    have h : (none : Option (Int32 × am_S)) = some q := h
    cases h
  | succ n ih =>
    intro x1 x2 x3 σ h
    exact lc_X7_crowd_6 X hr  (lp_X7_crowd_6  n) ih x1 x2 x3 σ h
def fn_X7_crowd  (σ : am_S) : Option (Int32 × am_S) :=
  lp_X7_crowd_6  1000 0 0 0 (σ)
set_option maxRecDepth 100000 in
theorem ok_X7_crowd (l : Launch)  (σ : am_S) {q : Int32 × am_S} (h : fn_X7_crowd  σ = some q) : am_M l yX7_crowd cX7_crowd 5 (some .int) 1 [am_r 0 0 0] σ (some (am_i q.1)) q.2 := by
  refine am_M_of (P := am_p7) (by decide +kernel) am_p7_ok rfl ?_
  intro G p e s m args below meth c X hr
  have hc := ct_X7_crowd
  unfold fn_X7_crowd at h
  refine am_blk hc X 0 6 (fr' := (6, [(0, am_r 0 0 0), (1, am_i 0), (2, am_i 0), (3, am_i 0)], [], σ)) rfl ⟨trivial, trivial, trivial, trivial, trivial, trivial, trivial⟩ ?_
  exact ll_X7_crowd_6 X hr   1000 0 0 0 _ h
def jn_X7_dearest_91 (k36 : Nat → Nat → Int32 → Int32 → Int32 → am_S → Option (Int32 × am_S)) (ox2 : Nat) (ix2 : Nat) (x3 : Int32) (x4 : Int32) (x5 : Int32) (σ : am_S) : Option (Int32 × am_S) :=
  k36 ox2 ix2 x3 x4 (x5 + 1) (σ)
set_option maxRecDepth 100000 in
theorem jl_X7_dearest_91 {p : Program} {l : Launch} {e : Env} {s : State} {m : MethodId} {args : Array Value} {below : List Frame} {meth : Method} {c : Code} {G : am_G} {q : Int32 × am_S} (X : am_X p s m args c cX7_dearest yX7_dearest.cls 7 am_p7 G (am_fr G)) (hr : meth.sig.returnType = (some .int) ∧ meth.locks = false)  (k36 : Nat → Nat → Int32 → Int32 → Int32 → am_S → Option (Int32 × am_S)) (hk36 : ∀ (ox2 : Nat) (ix2 : Nat) (x3 : Int32) (x4 : Int32) (x5 : Int32) (σ : am_S), k36 ox2 ix2 x3 x4 x5 σ = some q → am_A p l e (am_ro 3) s m args below meth c 7 G (am_fr G) 0 0 (MQ below (am_Qc G (some (am_i q.1)) q.2) args s 0 0 (am_fr G)) (36, [(0, am_r 0 0 0), (2, am_r ox2 8 ix2), (3, am_i x3), (4, am_i x4), (5, am_i x5)], [], σ)) (ox2 : Nat) (ix2 : Nat) (x3 : Int32) (x4 : Int32) (x5 : Int32) (σ : am_S) (h : jn_X7_dearest_91 k36 ox2 ix2 x3 x4 x5 σ = some q) : am_A p l e (am_ro 3) s m args below meth c 7 G (am_fr G) 0 0 (MQ below (am_Qc G (some (am_i q.1)) q.2) args s 0 0 (am_fr G)) (91, [(0, am_r 0 0 0), (2, am_r ox2 8 ix2), (3, am_i x3), (4, am_i x4), (5, am_i x5)], [], σ) := by
  have hc := ct_X7_dearest
  unfold jn_X7_dearest_91 at h
  refine am_blk hc X 51 2 (fr' := (36, [(0, am_r 0 0 0), (2, am_r ox2 8 ix2), (3, am_i x3), (4, am_i x4), (5, am_i (x5 + 1))], [], σ)) rfl ⟨trivial, trivial, trivial⟩ ?_
  exact hk36 ox2 ix2 x3 x4 (x5 + 1) _ h
def jn_X7_dearest_75 (k36 : Nat → Nat → Int32 → Int32 → Int32 → am_S → Option (Int32 × am_S)) (ox2 : Nat) (ix2 : Nat) (x3 : Int32) (x4 : Int32) (x5 : Int32) (y0 : Int32) (σ : am_S) : Option (Int32 × am_S) :=
  (if y0 ≤ x4 then jn_X7_dearest_91 k36 ox2 ix2 x3 x4 x5 (σ) else jn_X7_dearest_91 k36 ox2 ix2 x5 y0 x5 (σ))
set_option maxRecDepth 100000 in
theorem jl_X7_dearest_75 {p : Program} {l : Launch} {e : Env} {s : State} {m : MethodId} {args : Array Value} {below : List Frame} {meth : Method} {c : Code} {G : am_G} {q : Int32 × am_S} (X : am_X p s m args c cX7_dearest yX7_dearest.cls 7 am_p7 G (am_fr G)) (hr : meth.sig.returnType = (some .int) ∧ meth.locks = false)  (k36 : Nat → Nat → Int32 → Int32 → Int32 → am_S → Option (Int32 × am_S)) (hk36 : ∀ (ox2 : Nat) (ix2 : Nat) (x3 : Int32) (x4 : Int32) (x5 : Int32) (σ : am_S), k36 ox2 ix2 x3 x4 x5 σ = some q → am_A p l e (am_ro 3) s m args below meth c 7 G (am_fr G) 0 0 (MQ below (am_Qc G (some (am_i q.1)) q.2) args s 0 0 (am_fr G)) (36, [(0, am_r 0 0 0), (2, am_r ox2 8 ix2), (3, am_i x3), (4, am_i x4), (5, am_i x5)], [], σ)) (ox2 : Nat) (ix2 : Nat) (x3 : Int32) (x4 : Int32) (x5 : Int32) (y0 : Int32) (σ : am_S) (h : jn_X7_dearest_75 k36 ox2 ix2 x3 x4 x5 y0 σ = some q) : am_A p l e (am_ro 3) s m args below meth c 7 G (am_fr G) 0 0 (MQ below (am_Qc G (some (am_i q.1)) q.2) args s 0 0 (am_fr G)) (75, [(0, am_r 0 0 0), (2, am_r ox2 8 ix2), (3, am_i x3), (4, am_i x4), (5, am_i x5)], [am_i y0], σ) := by
  have hc := ct_X7_dearest
  unfold jn_X7_dearest_75 at h
  refine am_blk hc X 43 3 (fr' := (81, [(0, am_r 0 0 0), (2, am_r ox2 8 ix2), (3, am_i x3), (4, am_i x4), (5, am_i x5), (6, am_i y0)], [am_i x4, am_i y0], σ)) rfl ⟨trivial, trivial, trivial, trivial⟩ ?_
  refine am_icmp_le hc X 46 (tgt := 91) rfl (by decide) (fun c8 => ?_) (fun c8 => ?_)
  · replace h := am_ip c8 h
    refine am_less [0, 1, 2, 3, 4] rfl ?_
    exact jl_X7_dearest_91 X hr k36 hk36 ox2 ix2 x3 x4 x5 _ h
  · replace h := am_in2 c8 h
    refine am_blk hc X 47 4 (fr' := (91, [(0, am_r 0 0 0), (2, am_r ox2 8 ix2), (3, am_i x5), (4, am_i y0), (5, am_i x5), (6, am_i y0)], [], σ)) rfl ⟨trivial, trivial, trivial, trivial, trivial⟩ ?_
    refine am_less [0, 1, 2, 3, 4] rfl ?_
    exact jl_X7_dearest_91 X hr k36 hk36 ox2 ix2 x5 y0 x5 _ h
def lb_X7_dearest_36 (k36 : Nat → Nat → Int32 → Int32 → Int32 → am_S → Option (Int32 × am_S)) (ox2 : Nat) (ix2 : Nat) (x3 : Int32) (x4 : Int32) (x5 : Int32) (σ : am_S) : Option (Int32 × am_S) :=
  (if 5 ≤ x5 then some (x3, σ) else (fn_X0_endOf 1 (σ.1 ox2 8 ix2 3) x5 (σ)).bind fun q4 => (if q4.1 = (-1) then jn_X7_dearest_75 k36 ox2 ix2 x3 x4 x5 (-1) q4.2 else (fn_X0_priceFor_8 1 ox2 ix2 (q4.2.1 ox2 8 ix2 3) x5 q4.2).bind fun q6 => jn_X7_dearest_75 k36 ox2 ix2 x3 x4 x5 q6.1 q6.2))
set_option maxRecDepth 100000 in
theorem lc_X7_dearest_36 {p : Program} {l : Launch} {e : Env} {s : State} {m : MethodId} {args : Array Value} {below : List Frame} {meth : Method} {c : Code} {G : am_G} {q : Int32 × am_S} (X : am_X p s m args c cX7_dearest yX7_dearest.cls 7 am_p7 G (am_fr G)) (hr : meth.sig.returnType = (some .int) ∧ meth.locks = false)  (k36 : Nat → Nat → Int32 → Int32 → Int32 → am_S → Option (Int32 × am_S)) (hk36 : ∀ (ox2 : Nat) (ix2 : Nat) (x3 : Int32) (x4 : Int32) (x5 : Int32) (σ : am_S), k36 ox2 ix2 x3 x4 x5 σ = some q → am_A p l e (am_ro 3) s m args below meth c 7 G (am_fr G) 0 0 (MQ below (am_Qc G (some (am_i q.1)) q.2) args s 0 0 (am_fr G)) (36, [(0, am_r 0 0 0), (2, am_r ox2 8 ix2), (3, am_i x3), (4, am_i x4), (5, am_i x5)], [], σ)) (ox2 : Nat) (ix2 : Nat) (x3 : Int32) (x4 : Int32) (x5 : Int32) (σ : am_S) (h : lb_X7_dearest_36 k36 ox2 ix2 x3 x4 x5 σ = some q) : am_A p l e (am_ro 3) s m args below meth c 7 G (am_fr G) 0 0 (MQ below (am_Qc G (some (am_i q.1)) q.2) args s 0 0 (am_fr G)) (36, [(0, am_r 0 0 0), (2, am_r ox2 8 ix2), (3, am_i x3), (4, am_i x4), (5, am_i x5)], [], σ) := by
  have hc := ct_X7_dearest
  unfold lb_X7_dearest_36 at h
  refine am_blk hc X 21 2 (fr' := (39, [(0, am_r 0 0 0), (2, am_r ox2 8 ix2), (3, am_i x3), (4, am_i x4), (5, am_i x5)], [am_i 5, am_i x5], σ)) rfl ⟨trivial, trivial, trivial⟩ ?_
  refine am_icmp_ge hc X 23 (tgt := 97) rfl (by decide) (fun c10 => ?_) (fun c10 => ?_)
  · replace h := am_ip c10 h
    refine am_blk hc X 53 1 (fr' := (98, [(0, am_r 0 0 0), (2, am_r ox2 8 ix2), (3, am_i x3), (4, am_i x4), (5, am_i x5)], [am_i x3], σ)) rfl ⟨trivial, trivial⟩ ?_
    obtain rfl := Option.some.inj h
    exact am_iret hc X hr 54 rfl rfl rfl
  · replace h := am_in2 c10 h
    refine am_blk hc X 24 6 (fr' := (51, [(0, am_r 0 0 0), (2, am_r ox2 8 ix2), (3, am_i x3), (4, am_i x4), (5, am_i x5)], [am_i x5, am_i (σ.1 ox2 8 ix2 3), am_r 1 2 0], σ)) rfl ⟨trivial, trivial, trivial, trivial, (am_in_vp (by decide)), trivial, trivial⟩ ?_
    obtain ⟨q4, hq5, h⟩ := am_bs h
    refine am_callV hc 30 X (k := 2) (i := 0) (o := 1) (As := [am_i (σ.1 ox2 8 ix2 3), am_i x5]) (rest := []) rfl (ok_X0_endOf l 1 (σ.1 ox2 8 ix2 3) x5 (σ) hq5) yv_X0_endOf ml_X7_188 (cl_2) rfl rfl rfl rfl rfl ?_
    refine am_blk hc X 31 1 (fr' := (55, [(0, am_r 0 0 0), (2, am_r ox2 8 ix2), (3, am_i x3), (4, am_i x4), (5, am_i x5)], [am_i (-1), am_i q4.1], q4.2)) rfl ⟨trivial, trivial⟩ ?_
    refine am_icmp_ne hc X 32 (tgt := 62) rfl (by decide) (fun c9 => ?_) (fun c9 => ?_)
    · replace h := am_in2 c9 h
      refine am_blk hc X 35 7 (fr' := (72, [(0, am_r 0 0 0), (2, am_r ox2 8 ix2), (3, am_i x3), (4, am_i x4), (5, am_i x5)], [am_i x5, am_i (q4.2.1 ox2 8 ix2 3), am_r ox2 8 ix2, am_r 1 2 0], q4.2)) rfl ⟨trivial, trivial, trivial, trivial, trivial, (am_in_vp (by decide)), trivial, trivial⟩ ?_
      obtain ⟨q6, hq7, h⟩ := am_bs h
      refine am_callV hc 42 X (k := 2) (i := 0) (o := 1) (As := [am_r ox2 8 ix2, am_i (q4.2.1 ox2 8 ix2 3), am_i x5]) (rest := []) rfl (ok_X0_priceFor_8 l 1 ox2 ix2 (q4.2.1 ox2 8 ix2 3) x5 q4.2 hq7) yv_X0_priceFor ml_X7_124 (cl_2) rfl rfl rfl rfl rfl ?_
      exact jl_X7_dearest_75 X hr k36 hk36 ox2 ix2 x3 x4 x5 q6.1 _ h
    · replace h := am_ip c9 h
      refine am_blk hc X 33 2 (fr' := (75, [(0, am_r 0 0 0), (2, am_r ox2 8 ix2), (3, am_i x3), (4, am_i x4), (5, am_i x5)], [am_i (-1)], q4.2)) rfl ⟨trivial, trivial, trivial⟩ ?_
      exact jl_X7_dearest_75 X hr k36 hk36 ox2 ix2 x3 x4 x5 (-1) _ h
def lp_X7_dearest_36  : Nat → Nat → Nat → Int32 → Int32 → Int32 → am_S → Option (Int32 × am_S)
  | 0 => fun _ _ _ _ _ _ => none
  | n + 1 => lb_X7_dearest_36  (lp_X7_dearest_36  n)
theorem ll_X7_dearest_36 {p : Program} {l : Launch} {e : Env} {s : State} {m : MethodId} {args : Array Value} {below : List Frame} {meth : Method} {c : Code} {G : am_G} {q : Int32 × am_S} (X : am_X p s m args c cX7_dearest yX7_dearest.cls 7 am_p7 G (am_fr G)) (hr : meth.sig.returnType = (some .int) ∧ meth.locks = false)    : ∀ (n : Nat) (ox2 : Nat) (ix2 : Nat) (x3 : Int32) (x4 : Int32) (x5 : Int32) (σ : am_S), lp_X7_dearest_36  n ox2 ix2 x3 x4 x5 σ = some q → am_A p l e (am_ro 3) s m args below meth c 7 G (am_fr G) 0 0 (MQ below (am_Qc G (some (am_i q.1)) q.2) args s 0 0 (am_fr G)) (36, [(0, am_r 0 0 0), (2, am_r ox2 8 ix2), (3, am_i x3), (4, am_i x4), (5, am_i x5)], [], σ) := by
  intro n
  induction n with
  | zero =>
    intro ox2 ix2 x3 x4 x5 σ h
    have h : (none : Option (Int32 × am_S)) = some q := h
    cases h
  | succ n ih =>
    intro ox2 ix2 x3 x4 x5 σ h
    exact lc_X7_dearest_36 X hr  (lp_X7_dearest_36  n) ih ox2 ix2 x3 x4 x5 σ h
def fn_X7_dearest (a1 : Int32) (σ : am_S) : Option (Int32 × am_S) :=
  (fn_X0_hasPerson 1 a1 (σ)).bind fun q1 => (if q1.1 = 0 then (fn_X7_refuse (-2) q1.2).bind fun q11 => some (q11.1, q11.2) else (bif am_in a1 6 then lp_X7_dearest_36  1000 1 ((a1 : Int32).toNatClampNeg) (-1) (-1) 0 q1.2 else none))
set_option maxRecDepth 100000 in
theorem ok_X7_dearest (l : Launch) (a1 : Int32) (σ : am_S) {q : Int32 × am_S} (h : fn_X7_dearest a1 σ = some q) : am_M l yX7_dearest cX7_dearest 7 (some .int) 3 [am_r 0 0 0, am_i a1] σ (some (am_i q.1)) q.2 := by
  refine am_M_of (P := am_p7) (by decide +kernel) am_p7_ok rfl ?_
  intro G p e s m args below meth c X hr
  have hc := ct_X7_dearest
  unfold fn_X7_dearest at h
  refine am_blk hc X 0 3 (fr' := (5, [(0, am_r 0 0 0), (1, am_i a1)], [am_i a1, am_r 1 2 0], σ)) rfl ⟨trivial, trivial, trivial, trivial⟩ ?_
  obtain ⟨q1, hq2, h⟩ := am_bs h
  refine am_callV hc 3 X (k := 2) (i := 0) (o := 1) (As := [am_i a1]) (rest := []) rfl (ok_X0_hasPerson l 1 a1 (σ) hq2) yv_X0_hasPerson ml_X7_114 (cl_2) rfl rfl rfl rfl rfl ?_
  refine am_if_ne hc X 4 (tgt := 18) rfl (by decide) (fun c13 => ?_) (fun c13 => ?_)
  · replace h := am_in2 c13 h
    obtain ⟨ob3, h⟩ := am_ci h
    refine am_blk hc X 9 12 (fr' := (36, [(0, am_r 0 0 0), (1, am_i a1), (2, am_r 1 8 ((a1 : Int32).toNatClampNeg)), (3, am_i (-1)), (4, am_i (-1)), (5, am_i 0)], [], q1.2)) rfl ⟨trivial, trivial, trivial, trivial, (am_in_vp ob3), trivial, trivial, trivial, trivial, trivial, trivial, trivial, trivial⟩ ?_
    refine am_less [0, 2, 3, 4, 5] rfl ?_
    exact ll_X7_dearest_36 X hr   1000 1 ((a1 : Int32).toNatClampNeg) (-1) (-1) 0 _ h
  · replace h := am_ip c13 h
    refine am_blk hc X 5 2 (fr' := (14, [(0, am_r 0 0 0), (1, am_i a1)], [am_i (-2), am_r 0 0 0], q1.2)) rfl ⟨trivial, trivial, trivial⟩ ?_
    obtain ⟨q11, hq12, h⟩ := am_bs h
    refine am_callV hc 7 X (k := 0) (i := 0) (o := 0) (As := [am_i (-2)]) (rest := []) rfl (ok_X7_refuse l (-2) q1.2 hq12) yv_X7_refuse ml_X7_77 (cl_0) rfl rfl rfl rfl rfl ?_
    obtain rfl := Option.some.inj h
    exact am_iret hc X hr 8 rfl rfl rfl
def fn_X7_done (a1 : Int32) (a2 : Int32) (a3 : Int32) (σ : am_S) : Option (Int32 × am_S) :=
  (fn_X7_refusalOfPlan a1 a2 a3 (σ)).bind fun q1 => (if q1.1 = 0 then (bif am_in a3 6 then (bif am_cok 0 0 8 8 8 then some (((am_row q1.2 1 8 ((a3 : Int32).toNatClampNeg) (va_cpy (q1.2.1 15 33 0) (q1.2.1 1 8 ((a3 : Int32).toNatClampNeg)) 0 0 8)).1 1 8 ((a3 : Int32).toNatClampNeg) 3), (am_u (am_row q1.2 1 8 ((a3 : Int32).toNatClampNeg) (va_cpy (q1.2.1 15 33 0) (q1.2.1 1 8 ((a3 : Int32).toNatClampNeg)) 0 0 8)) 1 2 0 7 ((q1.2.1 1 2 0 7) + a2))) else none) else none) else (fn_X7_refuse q1.1 q1.2).bind fun q5 => some (q5.1, q5.2))
set_option maxRecDepth 100000 in
theorem ok_X7_done (l : Launch) (a1 : Int32) (a2 : Int32) (a3 : Int32) (σ : am_S) {q : Int32 × am_S} (h : fn_X7_done a1 a2 a3 σ = some q) : am_M l yX7_done cX7_done 6 (some .int) 7 [am_r 0 0 0, am_i a1, am_i a2, am_i a3] σ (some (am_i q.1)) q.2 := by
  refine am_M_of (P := am_p7) (by decide +kernel) am_p7_ok rfl ?_
  intro G p e s m args below meth c X hr
  have hc := ct_X7_done
  unfold fn_X7_done at h
  refine am_blk hc X 0 4 (fr' := (4, [(0, am_r 0 0 0), (1, am_i a1), (2, am_i a2), (3, am_i a3)], [am_i a3, am_i a2, am_i a1, am_r 0 0 0], σ)) rfl ⟨trivial, trivial, trivial, trivial, trivial⟩ ?_
  obtain ⟨q1, hq2, h⟩ := am_bs h
  refine am_callV hc 4 X (k := 0) (i := 0) (o := 0) (As := [am_i a1, am_i a2, am_i a3]) (rest := []) rfl (ok_X7_refusalOfPlan l a1 a2 a3 (σ) hq2) yv_X7_refusalOfPlan ml_X7_270 (cl_0) rfl rfl rfl rfl rfl ?_
  refine am_blk hc X 5 2 (fr' := (11, [(0, am_r 0 0 0), (1, am_i a1), (2, am_i a2), (3, am_i a3), (4, am_i q1.1)], [am_i q1.1], q1.2)) rfl ⟨trivial, trivial, trivial⟩ ?_
  refine am_if_eq hc X 7 (tgt := 21) rfl (by decide) (fun c7 => ?_) (fun c7 => ?_)
  · replace h := am_ip c7 h
    obtain ⟨ob3, h⟩ := am_ci h
    refine am_blk hc X 12 13 (fr' := (45, [(0, am_r 0 0 0), (1, am_i a1), (2, am_i a2), (3, am_i a3), (4, am_i q1.1), (5, am_r 1 8 ((a3 : Int32).toNatClampNeg))], [am_i 8, am_i 0, am_r 1 8 ((a3 : Int32).toNatClampNeg), am_i 0, am_r 15 33 0], q1.2)) rfl ⟨trivial, trivial, trivial, trivial, (am_in_vp ob3), trivial, trivial, trivial, trivial, trivial, trivial, trivial, trivial, trivial⟩ ?_
    obtain ⟨ob4, h⟩ := am_ci h
    refine am_cpi hc 25 X (k := 8) (k0 := 33) (rest := []) rfl ml_X7_279 am_acw (by decide +kernel) ob4 rfl ?_
    refine am_blk hc X 26 10 (fr' := (65, [(0, am_r 0 0 0), (1, am_i a1), (2, am_i a2), (3, am_i a3), (4, am_i q1.1), (5, am_r 1 8 ((a3 : Int32).toNatClampNeg))], [am_i ((am_row q1.2 1 8 ((a3 : Int32).toNatClampNeg) (va_cpy (q1.2.1 15 33 0) (q1.2.1 1 8 ((a3 : Int32).toNatClampNeg)) 0 0 8)).1 1 8 ((a3 : Int32).toNatClampNeg) 3)], (am_u (am_row q1.2 1 8 ((a3 : Int32).toNatClampNeg) (va_cpy (q1.2.1 15 33 0) (q1.2.1 1 8 ((a3 : Int32).toNatClampNeg)) 0 0 8)) 1 2 0 7 ((q1.2.1 1 2 0 7) + a2)))) rfl ⟨trivial, trivial, trivial, trivial, trivial, trivial, trivial, trivial, trivial, (am_in_vp (by decide)), trivial⟩ ?_
    obtain rfl := Option.some.inj h
    exact am_iret hc X hr 36 rfl rfl rfl
  · replace h := am_in2 c7 h
    refine am_blk hc X 8 2 (fr' := (17, [(0, am_r 0 0 0), (1, am_i a1), (2, am_i a2), (3, am_i a3), (4, am_i q1.1)], [am_i q1.1, am_r 0 0 0], q1.2)) rfl ⟨trivial, trivial, trivial⟩ ?_
    obtain ⟨q5, hq6, h⟩ := am_bs h
    refine am_callV hc 10 X (k := 0) (i := 0) (o := 0) (As := [am_i q1.1]) (rest := []) rfl (ok_X7_refuse l q1.1 q1.2 hq6) yv_X7_refuse ml_X7_77 (cl_0) rfl rfl rfl rfl rfl ?_
    obtain rfl := Option.some.inj h
    exact am_iret hc X hr 11 rfl rfl rfl
def jn_X7_duty_18   (σ : am_S) : Option (Int32 × am_S) :=
  (fn_X7_refuse (-2) (σ)).bind fun q3 => some (q3.1, q3.2)
set_option maxRecDepth 100000 in
theorem jl_X7_duty_18 {p : Program} {l : Launch} {e : Env} {s : State} {m : MethodId} {args : Array Value} {below : List Frame} {meth : Method} {c : Code} {G : am_G} {q : Int32 × am_S} (X : am_X p s m args c cX7_duty yX7_duty.cls 7 am_p7 G (am_fr G)) (hr : meth.sig.returnType = (some .int) ∧ meth.locks = false)     (σ : am_S) (h : jn_X7_duty_18   σ = some q) : am_A p l e (am_ro 2) s m args below meth c 7 G (am_fr G) 0 0 (MQ below (am_Qc G (some (am_i q.1)) q.2) args s 0 0 (am_fr G)) (18, [(0, am_r 0 0 0)], [], σ) := by
  have hc := ct_X7_duty
  unfold jn_X7_duty_18 at h
  refine am_blk hc X 8 2 (fr' := (21, [(0, am_r 0 0 0)], [am_i (-2), am_r 0 0 0], σ)) rfl ⟨trivial, trivial, trivial⟩ ?_
  obtain ⟨q3, hq4, h⟩ := am_bs h
  refine am_callV hc 10 X (k := 0) (i := 0) (o := 0) (As := [am_i (-2)]) (rest := []) rfl (ok_X7_refuse l (-2) (σ) hq4) yv_X7_refuse ml_X7_77 (cl_0) rfl rfl rfl rfl rfl ?_
  obtain rfl := Option.some.inj h
  exact am_iret hc X hr 11 rfl rfl rfl
def jn_X7_duty_84  (x6 : Int32) (y0 : Int32) (y1 : Int32) (oy2 : Nat) (iy2 : Nat) (σ : am_S) : Option (Int32 × am_S) :=
  (bif am_in y1 8 then some (x6, (am_u σ oy2 8 iy2 ((y1 : Int32).toNatClampNeg) y0)) else none)
set_option maxRecDepth 100000 in
theorem jl_X7_duty_84 {p : Program} {l : Launch} {e : Env} {s : State} {m : MethodId} {args : Array Value} {below : List Frame} {meth : Method} {c : Code} {G : am_G} {q : Int32 × am_S} (X : am_X p s m args c cX7_duty yX7_duty.cls 7 am_p7 G (am_fr G)) (hr : meth.sig.returnType = (some .int) ∧ meth.locks = false)    (x6 : Int32) (y0 : Int32) (y1 : Int32) (oy2 : Nat) (iy2 : Nat) (σ : am_S) (h : jn_X7_duty_84  x6 y0 y1 oy2 iy2 σ = some q) : am_A p l e (am_ro 2) s m args below meth c 7 G (am_fr G) 0 0 (MQ below (am_Qc G (some (am_i q.1)) q.2) args s 0 0 (am_fr G)) (84, [(6, am_i x6)], [am_i y0, am_i y1, am_r oy2 8 iy2], σ) := by
  have hc := ct_X7_duty
  unfold jn_X7_duty_84 at h
  obtain ⟨ob8, h⟩ := am_ci h
  refine am_blk hc X 49 2 (fr' := (87, [(6, am_i x6)], [am_i x6], (am_u σ oy2 8 iy2 ((y1 : Int32).toNatClampNeg) y0))) rfl ⟨(am_in_vp ob8), trivial, trivial⟩ ?_
  obtain rfl := Option.some.inj h
  exact am_iret hc X hr 51 rfl rfl rfl
def jn_X7_duty_56  (x3 : Int32) (ox4 : Nat) (ix4 : Nat) (x5 : Int32) (y0 : Int32) (σ : am_S) : Option (Int32 × am_S) :=
  (if x3 = 0 then jn_X7_duty_84  y0 ((σ.1 ox4 8 ix4 4) &&& (x5 ^^^ (-1 : Int32))) 4 ox4 ix4 (σ) else jn_X7_duty_84  y0 ((σ.1 ox4 8 ix4 4) ||| x5) 4 ox4 ix4 (σ))
set_option maxRecDepth 100000 in
theorem jl_X7_duty_56 {p : Program} {l : Launch} {e : Env} {s : State} {m : MethodId} {args : Array Value} {below : List Frame} {meth : Method} {c : Code} {G : am_G} {q : Int32 × am_S} (X : am_X p s m args c cX7_duty yX7_duty.cls 7 am_p7 G (am_fr G)) (hr : meth.sig.returnType = (some .int) ∧ meth.locks = false)    (x3 : Int32) (ox4 : Nat) (ix4 : Nat) (x5 : Int32) (y0 : Int32) (σ : am_S) (h : jn_X7_duty_56  x3 ox4 ix4 x5 y0 σ = some q) : am_A p l e (am_ro 2) s m args below meth c 7 G (am_fr G) 0 0 (MQ below (am_Qc G (some (am_i q.1)) q.2) args s 0 0 (am_fr G)) (56, [(3, am_i x3), (4, am_r ox4 8 ix4), (5, am_i x5)], [am_i y0], σ) := by
  have hc := ct_X7_duty
  unfold jn_X7_duty_56 at h
  refine am_blk hc X 31 4 (fr' := (62, [(3, am_i x3), (4, am_r ox4 8 ix4), (5, am_i x5), (6, am_i y0)], [am_i x3, am_i 4, am_r ox4 8 ix4], σ)) rfl ⟨trivial, trivial, trivial, trivial, trivial⟩ ?_
  refine am_if_eq hc X 35 (tgt := 75) rfl (by decide) (fun c9 => ?_) (fun c9 => ?_)
  · replace h := am_ip c9 h
    refine am_blk hc X 42 7 (fr' := (84, [(3, am_i x3), (4, am_r ox4 8 ix4), (5, am_i x5), (6, am_i y0)], [am_i ((σ.1 ox4 8 ix4 4) &&& (x5 ^^^ (-1 : Int32))), am_i 4, am_r ox4 8 ix4], σ)) rfl ⟨trivial, trivial, (am_in_vp (by decide)), trivial, trivial, trivial, trivial, trivial⟩ ?_
    refine am_less [3] rfl ?_
    exact jl_X7_duty_84 X hr   y0 ((σ.1 ox4 8 ix4 4) &&& (x5 ^^^ (-1 : Int32))) 4 ox4 ix4 _ h
  · replace h := am_in2 c9 h
    refine am_blk hc X 36 6 (fr' := (84, [(3, am_i x3), (4, am_r ox4 8 ix4), (5, am_i x5), (6, am_i y0)], [am_i ((σ.1 ox4 8 ix4 4) ||| x5), am_i 4, am_r ox4 8 ix4], σ)) rfl ⟨trivial, trivial, (am_in_vp (by decide)), trivial, trivial, trivial, trivial⟩ ?_
    refine am_less [3] rfl ?_
    exact jl_X7_duty_84 X hr   y0 ((σ.1 ox4 8 ix4 4) ||| x5) 4 ox4 ix4 _ h
def fn_X7_duty (a1 : Int32) (a2 : Int32) (a3 : Int32) (σ : am_S) : Option (Int32 × am_S) :=
  (fn_X0_hasPerson 1 a1 (σ)).bind fun q1 => (if q1.1 = 0 then jn_X7_duty_18   q1.2 else (fn_X7_isValley a2 q1.2).bind fun q5 => (if q5.1 = 0 then jn_X7_duty_18   q5.2 else (bif am_in a1 6 then (if ((q5.2.1 1 8 ((a1 : Int32).toNatClampNeg) 4) &&& ((1 : Int32) <<< (a2 &&& 31))) = 0 then jn_X7_duty_56  a3 1 ((a1 : Int32).toNatClampNeg) ((1 : Int32) <<< (a2 &&& 31)) 0 q5.2 else jn_X7_duty_56  a3 1 ((a1 : Int32).toNatClampNeg) ((1 : Int32) <<< (a2 &&& 31)) 1 q5.2) else none)))
set_option maxRecDepth 100000 in
theorem ok_X7_duty (l : Launch) (a1 : Int32) (a2 : Int32) (a3 : Int32) (σ : am_S) {q : Int32 × am_S} (h : fn_X7_duty a1 a2 a3 σ = some q) : am_M l yX7_duty cX7_duty 7 (some .int) 2 [am_r 0 0 0, am_i a1, am_i a2, am_i a3] σ (some (am_i q.1)) q.2 := by
  refine am_M_of (P := am_p7) (by decide +kernel) am_p7_ok rfl ?_
  intro G p e s m args below meth c X hr
  have hc := ct_X7_duty
  unfold fn_X7_duty at h
  refine am_blk hc X 0 3 (fr' := (5, [(0, am_r 0 0 0), (1, am_i a1), (2, am_i a2), (3, am_i a3)], [am_i a1, am_r 1 2 0], σ)) rfl ⟨trivial, trivial, trivial, trivial⟩ ?_
  obtain ⟨q1, hq2, h⟩ := am_bs h
  refine am_callV hc 3 X (k := 2) (i := 0) (o := 1) (As := [am_i a1]) (rest := []) rfl (ok_X0_hasPerson l 1 a1 (σ) hq2) yv_X0_hasPerson ml_X7_114 (cl_2) rfl rfl rfl rfl rfl ?_
  refine am_if_eq hc X 4 (tgt := 18) rfl (by decide) (fun c12 => ?_) (fun c12 => ?_)
  · replace h := am_ip c12 h
    refine am_less [0] rfl ?_
    exact jl_X7_duty_18 X hr    _ h
  · replace h := am_in2 c12 h
    refine am_blk hc X 5 1 (fr' := (12, [(0, am_r 0 0 0), (1, am_i a1), (2, am_i a2), (3, am_i a3)], [am_i a2], q1.2)) rfl ⟨trivial, trivial⟩ ?_
    obtain ⟨q5, hq6, h⟩ := am_bs h
    refine am_callS hc 6 X (As := [am_i a2]) (rest := []) rfl (ok_X7_isValley l a2 q1.2 hq6) yv_X7_isValley ml_X7_132 rfl rfl rfl rfl rfl ?_
    refine am_if_ne hc X 7 (tgt := 25) rfl (by decide) (fun c11 => ?_) (fun c11 => ?_)
    · replace h := am_in2 c11 h
      obtain ⟨ob7, h⟩ := am_ci h
      refine am_blk hc X 12 15 (fr' := (48, [(0, am_r 0 0 0), (1, am_i a1), (2, am_i a2), (3, am_i a3), (4, am_r 1 8 ((a1 : Int32).toNatClampNeg)), (5, am_i ((1 : Int32) <<< (a2 &&& 31)))], [am_i ((q5.2.1 1 8 ((a1 : Int32).toNatClampNeg) 4) &&& ((1 : Int32) <<< (a2 &&& 31)))], q5.2)) rfl ⟨trivial, trivial, trivial, trivial, (am_in_vp ob7), trivial, trivial, trivial, trivial, trivial, trivial, trivial, (am_in_vp (by decide)), trivial, trivial, trivial⟩ ?_
      refine am_if_eq hc X 27 (tgt := 55) rfl (by decide) (fun c10 => ?_) (fun c10 => ?_)
      · replace h := am_ip c10 h
        refine am_blk hc X 30 1 (fr' := (56, [(0, am_r 0 0 0), (1, am_i a1), (2, am_i a2), (3, am_i a3), (4, am_r 1 8 ((a1 : Int32).toNatClampNeg)), (5, am_i ((1 : Int32) <<< (a2 &&& 31)))], [am_i 0], q5.2)) rfl ⟨trivial, trivial⟩ ?_
        refine am_less [3, 4, 5] rfl ?_
        exact jl_X7_duty_56 X hr   a3 1 ((a1 : Int32).toNatClampNeg) ((1 : Int32) <<< (a2 &&& 31)) 0 _ h
      · replace h := am_in2 c10 h
        refine am_blk hc X 28 2 (fr' := (56, [(0, am_r 0 0 0), (1, am_i a1), (2, am_i a2), (3, am_i a3), (4, am_r 1 8 ((a1 : Int32).toNatClampNeg)), (5, am_i ((1 : Int32) <<< (a2 &&& 31)))], [am_i 1], q5.2)) rfl ⟨trivial, trivial, trivial⟩ ?_
        refine am_less [3, 4, 5] rfl ?_
        exact jl_X7_duty_56 X hr   a3 1 ((a1 : Int32).toNatClampNeg) ((1 : Int32) <<< (a2 &&& 31)) 1 _ h
    · replace h := am_ip c11 h
      refine am_less [0] rfl ?_
      exact jl_X7_duty_18 X hr    _ h
def fn_X7_element (a1 : Int32) (a2 : Int32) (σ : am_S) : Option (Int64 × am_S) :=
  (fn_X2_elementAt a1 a2 (σ)).bind fun q1 => some (q1.1, q1.2)
set_option maxRecDepth 100000 in
theorem ok_X7_element (l : Launch) (a1 : Int32) (a2 : Int32) (σ : am_S) {q : Int64 × am_S} (h : fn_X7_element a1 a2 σ = some q) : am_M l yX7_element cX7_element 3 (some .long) 3 [am_r 0 0 0, am_i a1, am_i a2] σ (some (am_l q.1)) q.2 := by
  refine am_M_of (P := am_p7) (by decide +kernel) am_p7_ok rfl ?_
  intro G p e s m args below meth c X hr
  have hc := ct_X7_element
  unfold fn_X7_element at h
  refine am_blk hc X 0 4 (fr' := (6, [(0, am_r 0 0 0), (1, am_i a1), (2, am_i a2)], [am_i a2, am_i a1, am_r 10 9 0], σ)) rfl ⟨trivial, trivial, trivial, trivial, trivial⟩ ?_
  obtain ⟨q1, hq2, h⟩ := am_bs h
  refine am_callV hc 4 X (k := 9) (i := 0) (o := 10) (As := [am_i a1, am_i a2]) (rest := []) rfl (ok_X2_elementAt l a1 a2 (σ) hq2) yv_X2_elementAt ml_X7_107 (cl_9) rfl rfl rfl rfl rfl ?_
  obtain rfl := Option.some.inj h
  exact am_lret hc X hr 5 rfl rfl rfl
def fn_X7_feed (a1 : Int32) (σ : am_S) : Option (Int32 × am_S) :=
  (fn_X7_isWithin a1 0 255 (σ)).bind fun q1 => (if q1.1 = 0 then (fn_X7_refuse (-2) q1.2).bind fun q8 => some (q8.1, q8.2) else (if (q1.2.1 11 14 0 2) < 250 then (fn_X4_putByte a1 q1.2).bind fun q3 => some ((q3.1 11 14 0 2), q3) else (fn_X7_refuse (-6) q1.2).bind fun q5 => some (q5.1, q5.2)))
set_option maxRecDepth 100000 in
theorem ok_X7_feed (l : Launch) (a1 : Int32) (σ : am_S) {q : Int32 × am_S} (h : fn_X7_feed a1 σ = some q) : am_M l yX7_feed cX7_feed 2 (some .int) 2 [am_r 0 0 0, am_i a1] σ (some (am_i q.1)) q.2 := by
  refine am_M_of (P := am_p7) (by decide +kernel) am_p7_ok rfl ?_
  intro G p e s m args below meth c X hr
  have hc := ct_X7_feed
  unfold fn_X7_feed at h
  refine am_blk hc X 0 3 (fr' := (5, [(0, am_r 0 0 0), (1, am_i a1)], [am_i 255, am_i 0, am_i a1], σ)) rfl ⟨trivial, trivial, trivial, trivial⟩ ?_
  obtain ⟨q1, hq2, h⟩ := am_bs h
  refine am_callS hc 3 X (As := [am_i a1, am_i 0, am_i 255]) (rest := []) rfl (ok_X7_isWithin l a1 0 255 (σ) hq2) yv_X7_isWithin ml_X7_73 rfl rfl rfl rfl rfl ?_
  refine am_if_ne hc X 4 (tgt := 18) rfl (by decide) (fun c10 => ?_) (fun c10 => ?_)
  · replace h := am_in2 c10 h
    refine am_blk hc X 9 4 (fr' := (28, [(0, am_r 0 0 0), (1, am_i a1)], [am_i 250, am_i (q1.2.1 11 14 0 2)], q1.2)) rfl ⟨trivial, trivial, trivial, trivial, trivial⟩ ?_
    refine am_icmp_lt hc X 13 (tgt := 38) rfl (by decide) (fun c7 => ?_) (fun c7 => ?_)
    · replace h := am_ip c7 h
      refine am_blk hc X 18 3 (fr' := (43, [(0, am_r 0 0 0), (1, am_i a1)], [am_i a1, am_r 11 14 0], q1.2)) rfl ⟨trivial, trivial, trivial, trivial⟩ ?_
      obtain ⟨q3, hq4, h⟩ := am_bs h
      refine am_callV hc 21 X (k := 14) (i := 0) (o := 11) (As := [am_i a1]) (rest := []) rfl (ok_X4_putByte l a1 q1.2 hq4) yv_X4_putByte ml_X7_173 (cl_14) rfl rfl rfl rfl rfl ?_
      refine am_blk hc X 22 3 (fr' := (53, [(0, am_r 0 0 0), (1, am_i a1)], [am_i (q3.1 11 14 0 2)], q3)) rfl ⟨trivial, trivial, trivial, trivial⟩ ?_
      obtain rfl := Option.some.inj h
      exact am_iret hc X hr 25 rfl rfl rfl
    · replace h := am_in2 c7 h
      refine am_blk hc X 14 2 (fr' := (34, [(0, am_r 0 0 0), (1, am_i a1)], [am_i (-6), am_r 0 0 0], q1.2)) rfl ⟨trivial, trivial, trivial⟩ ?_
      obtain ⟨q5, hq6, h⟩ := am_bs h
      refine am_callV hc 16 X (k := 0) (i := 0) (o := 0) (As := [am_i (-6)]) (rest := []) rfl (ok_X7_refuse l (-6) q1.2 hq6) yv_X7_refuse ml_X7_77 (cl_0) rfl rfl rfl rfl rfl ?_
      obtain rfl := Option.some.inj h
      exact am_iret hc X hr 17 rfl rfl rfl
  · replace h := am_ip c10 h
    refine am_blk hc X 5 2 (fr' := (14, [(0, am_r 0 0 0), (1, am_i a1)], [am_i (-2), am_r 0 0 0], q1.2)) rfl ⟨trivial, trivial, trivial⟩ ?_
    obtain ⟨q8, hq9, h⟩ := am_bs h
    refine am_callV hc 7 X (k := 0) (i := 0) (o := 0) (As := [am_i (-2)]) (rest := []) rfl (ok_X7_refuse l (-2) q1.2 hq9) yv_X7_refuse ml_X7_77 (cl_0) rfl rfl rfl rfl rfl ?_
    obtain rfl := Option.some.inj h
    exact am_iret hc X hr 8 rfl rfl rfl
def jn_X7_first_63 (k23 : Int32 → Int32 → Int32 → Int32 → am_S → Option (Int32 × am_S)) (x1 : Int32) (x2 : Int32) (x3 : Int32) (x4 : Int32) (σ : am_S) : Option (Int32 × am_S) :=
  k23 x1 x2 x3 (x4 + 1) (σ)
set_option maxRecDepth 100000 in
theorem jl_X7_first_63 {p : Program} {l : Launch} {e : Env} {s : State} {m : MethodId} {args : Array Value} {below : List Frame} {meth : Method} {c : Code} {G : am_G} {q : Int32 × am_S} (X : am_X p s m args c cX7_first yX7_first.cls 6 am_p7 G (am_fr G)) (hr : meth.sig.returnType = (some .int) ∧ meth.locks = false)  (k23 : Int32 → Int32 → Int32 → Int32 → am_S → Option (Int32 × am_S)) (hk23 : ∀ (x1 : Int32) (x2 : Int32) (x3 : Int32) (x4 : Int32) (σ : am_S), k23 x1 x2 x3 x4 σ = some q → am_A p l e (am_ro 2) s m args below meth c 6 G (am_fr G) 0 0 (MQ below (am_Qc G (some (am_i q.1)) q.2) args s 0 0 (am_fr G)) (23, [(0, am_r 0 0 0), (1, am_i x1), (2, am_i x2), (3, am_i x3), (4, am_i x4)], [], σ)) (x1 : Int32) (x2 : Int32) (x3 : Int32) (x4 : Int32) (σ : am_S) (h : jn_X7_first_63 k23 x1 x2 x3 x4 σ = some q) : am_A p l e (am_ro 2) s m args below meth c 6 G (am_fr G) 0 0 (MQ below (am_Qc G (some (am_i q.1)) q.2) args s 0 0 (am_fr G)) (63, [(0, am_r 0 0 0), (1, am_i x1), (2, am_i x2), (3, am_i x3), (4, am_i x4)], [], σ) := by
  have hc := ct_X7_first
  unfold jn_X7_first_63 at h
  refine am_blk hc X 37 2 (fr' := (23, [(0, am_r 0 0 0), (1, am_i x1), (2, am_i x2), (3, am_i x3), (4, am_i (x4 + 1))], [], σ)) rfl ⟨trivial, trivial, trivial⟩ ?_
  exact hk23 x1 x2 x3 (x4 + 1) _ h
def lb_X7_first_23 (k23 : Int32 → Int32 → Int32 → Int32 → am_S → Option (Int32 × am_S)) (x1 : Int32) (x2 : Int32) (x3 : Int32) (x4 : Int32) (σ : am_S) : Option (Int32 × am_S) :=
  (if (σ.1 1 2 0 4) ≤ x4 then (if x2 = (-1) then (fn_X7_refuse (-5) (σ)).bind fun q3 => some (q3.1, q3.2) else some (x2, σ)) else (bif am_in x4 6 then (bif am_in ((5 : Int32) + x1) 8 then (if (σ.1 1 8 ((x4 : Int32).toNatClampNeg) ((((5 : Int32) + x1) : Int32).toNatClampNeg)) ≤ x3 then jn_X7_first_63 k23 x1 x2 x3 x4 (σ) else jn_X7_first_63 k23 x1 x4 (σ.1 1 8 ((x4 : Int32).toNatClampNeg) ((((5 : Int32) + x1) : Int32).toNatClampNeg)) x4 (σ)) else none) else none))
set_option maxRecDepth 100000 in
theorem lc_X7_first_23 {p : Program} {l : Launch} {e : Env} {s : State} {m : MethodId} {args : Array Value} {below : List Frame} {meth : Method} {c : Code} {G : am_G} {q : Int32 × am_S} (X : am_X p s m args c cX7_first yX7_first.cls 6 am_p7 G (am_fr G)) (hr : meth.sig.returnType = (some .int) ∧ meth.locks = false)  (k23 : Int32 → Int32 → Int32 → Int32 → am_S → Option (Int32 × am_S)) (hk23 : ∀ (x1 : Int32) (x2 : Int32) (x3 : Int32) (x4 : Int32) (σ : am_S), k23 x1 x2 x3 x4 σ = some q → am_A p l e (am_ro 2) s m args below meth c 6 G (am_fr G) 0 0 (MQ below (am_Qc G (some (am_i q.1)) q.2) args s 0 0 (am_fr G)) (23, [(0, am_r 0 0 0), (1, am_i x1), (2, am_i x2), (3, am_i x3), (4, am_i x4)], [], σ)) (x1 : Int32) (x2 : Int32) (x3 : Int32) (x4 : Int32) (σ : am_S) (h : lb_X7_first_23 k23 x1 x2 x3 x4 σ = some q) : am_A p l e (am_ro 2) s m args below meth c 6 G (am_fr G) 0 0 (MQ below (am_Qc G (some (am_i q.1)) q.2) args s 0 0 (am_fr G)) (23, [(0, am_r 0 0 0), (1, am_i x1), (2, am_i x2), (3, am_i x3), (4, am_i x4)], [], σ) := by
  have hc := ct_X7_first
  unfold lb_X7_first_23 at h
  refine am_blk hc X 15 4 (fr' := (32, [(0, am_r 0 0 0), (1, am_i x1), (2, am_i x2), (3, am_i x3), (4, am_i x4)], [am_i (σ.1 1 2 0 4), am_i x4], σ)) rfl ⟨trivial, trivial, trivial, trivial, trivial⟩ ?_
  refine am_icmp_ge hc X 19 (tgt := 69) rfl (by decide) (fun c9 => ?_) (fun c9 => ?_)
  · replace h := am_ip c9 h
    refine am_blk hc X 39 2 (fr' := (71, [(0, am_r 0 0 0), (1, am_i x1), (2, am_i x2), (3, am_i x3), (4, am_i x4)], [am_i (-1), am_i x2], σ)) rfl ⟨trivial, trivial, trivial⟩ ?_
    refine am_icmp_ne hc X 41 (tgt := 83) rfl (by decide) (fun c5 => ?_) (fun c5 => ?_)
    · replace h := am_in2 c5 h
      refine am_blk hc X 46 1 (fr' := (84, [(0, am_r 0 0 0), (1, am_i x1), (2, am_i x2), (3, am_i x3), (4, am_i x4)], [am_i x2], σ)) rfl ⟨trivial, trivial⟩ ?_
      obtain rfl := Option.some.inj h
      exact am_iret hc X hr 47 rfl rfl rfl
    · replace h := am_ip c5 h
      refine am_blk hc X 42 2 (fr' := (77, [(0, am_r 0 0 0), (1, am_i x1), (2, am_i x2), (3, am_i x3), (4, am_i x4)], [am_i (-5), am_r 0 0 0], σ)) rfl ⟨trivial, trivial, trivial⟩ ?_
      obtain ⟨q3, hq4, h⟩ := am_bs h
      refine am_callV hc 44 X (k := 0) (i := 0) (o := 0) (As := [am_i (-5)]) (rest := []) rfl (ok_X7_refuse l (-5) (σ) hq4) yv_X7_refuse ml_X7_77 (cl_0) rfl rfl rfl rfl rfl ?_
      refine am_blk hc X 45 1 (fr' := (84, [(0, am_r 0 0 0), (1, am_i x1), (2, am_i x2), (3, am_i x3), (4, am_i x4)], [am_i q3.1], q3.2)) rfl ⟨trivial, trivial⟩ ?_
      obtain rfl := Option.some.inj h
      exact am_iret hc X hr 47 rfl rfl rfl
  · replace h := am_in2 c9 h
    obtain ⟨ob6, h⟩ := am_ci h
    obtain ⟨ob7, h⟩ := am_ci h
    refine am_blk hc X 20 12 (fr' := (54, [(0, am_r 0 0 0), (1, am_i x1), (2, am_i x2), (3, am_i x3), (4, am_i x4), (5, am_i (σ.1 1 8 ((x4 : Int32).toNatClampNeg) ((((5 : Int32) + x1) : Int32).toNatClampNeg)))], [am_i x3, am_i (σ.1 1 8 ((x4 : Int32).toNatClampNeg) ((((5 : Int32) + x1) : Int32).toNatClampNeg))], σ)) rfl ⟨trivial, trivial, trivial, trivial, (am_in_vp ob6), trivial, trivial, trivial, (am_in_vp ob7), trivial, trivial, trivial, trivial⟩ ?_
    refine am_icmp_le hc X 32 (tgt := 63) rfl (by decide) (fun c8 => ?_) (fun c8 => ?_)
    · replace h := am_ip c8 h
      refine am_less [0, 1, 2, 3, 4] rfl ?_
      exact jl_X7_first_63 X hr k23 hk23 x1 x2 x3 x4 _ h
    · replace h := am_in2 c8 h
      refine am_blk hc X 33 4 (fr' := (63, [(0, am_r 0 0 0), (1, am_i x1), (2, am_i x4), (3, am_i (σ.1 1 8 ((x4 : Int32).toNatClampNeg) ((((5 : Int32) + x1) : Int32).toNatClampNeg))), (4, am_i x4), (5, am_i (σ.1 1 8 ((x4 : Int32).toNatClampNeg) ((((5 : Int32) + x1) : Int32).toNatClampNeg)))], [], σ)) rfl ⟨trivial, trivial, trivial, trivial, trivial⟩ ?_
      refine am_less [0, 1, 2, 3, 4] rfl ?_
      exact jl_X7_first_63 X hr k23 hk23 x1 x4 (σ.1 1 8 ((x4 : Int32).toNatClampNeg) ((((5 : Int32) + x1) : Int32).toNatClampNeg)) x4 _ h
def lp_X7_first_23  : Nat → Int32 → Int32 → Int32 → Int32 → am_S → Option (Int32 × am_S)
  | 0 => fun _ _ _ _ _ => none
  | n + 1 => lb_X7_first_23  (lp_X7_first_23  n)
theorem ll_X7_first_23 {p : Program} {l : Launch} {e : Env} {s : State} {m : MethodId} {args : Array Value} {below : List Frame} {meth : Method} {c : Code} {G : am_G} {q : Int32 × am_S} (X : am_X p s m args c cX7_first yX7_first.cls 6 am_p7 G (am_fr G)) (hr : meth.sig.returnType = (some .int) ∧ meth.locks = false)    : ∀ (n : Nat) (x1 : Int32) (x2 : Int32) (x3 : Int32) (x4 : Int32) (σ : am_S), lp_X7_first_23  n x1 x2 x3 x4 σ = some q → am_A p l e (am_ro 2) s m args below meth c 6 G (am_fr G) 0 0 (MQ below (am_Qc G (some (am_i q.1)) q.2) args s 0 0 (am_fr G)) (23, [(0, am_r 0 0 0), (1, am_i x1), (2, am_i x2), (3, am_i x3), (4, am_i x4)], [], σ) := by
  intro n
  induction n with
  | zero =>
    intro x1 x2 x3 x4 σ h
    have h : (none : Option (Int32 × am_S)) = some q := h
    cases h
  | succ n ih =>
    intro x1 x2 x3 x4 σ h
    exact lc_X7_first_23 X hr  (lp_X7_first_23  n) ih x1 x2 x3 x4 σ h
def fn_X7_first (a1 : Int32) (σ : am_S) : Option (Int32 × am_S) :=
  (fn_X7_isWithin a1 0 2 (σ)).bind fun q1 => (if q1.1 = 0 then (fn_X7_refuse (-2) q1.2).bind fun q10 => some (q10.1, q10.2) else lp_X7_first_23  1000 a1 (-1) (-1) 0 q1.2)
set_option maxRecDepth 100000 in
theorem ok_X7_first (l : Launch) (a1 : Int32) (σ : am_S) {q : Int32 × am_S} (h : fn_X7_first a1 σ = some q) : am_M l yX7_first cX7_first 6 (some .int) 2 [am_r 0 0 0, am_i a1] σ (some (am_i q.1)) q.2 := by
  refine am_M_of (P := am_p7) (by decide +kernel) am_p7_ok rfl ?_
  intro G p e s m args below meth c X hr
  have hc := ct_X7_first
  unfold fn_X7_first at h
  refine am_blk hc X 0 3 (fr' := (3, [(0, am_r 0 0 0), (1, am_i a1)], [am_i 2, am_i 0, am_i a1], σ)) rfl ⟨trivial, trivial, trivial, trivial⟩ ?_
  obtain ⟨q1, hq2, h⟩ := am_bs h
  refine am_callS hc 3 X (As := [am_i a1, am_i 0, am_i 2]) (rest := []) rfl (ok_X7_isWithin l a1 0 2 (σ) hq2) yv_X7_isWithin ml_X7_73 rfl rfl rfl rfl rfl ?_
  refine am_if_ne hc X 4 (tgt := 16) rfl (by decide) (fun c12 => ?_) (fun c12 => ?_)
  · replace h := am_in2 c12 h
    refine am_blk hc X 9 6 (fr' := (23, [(0, am_r 0 0 0), (1, am_i a1), (2, am_i (-1)), (3, am_i (-1)), (4, am_i 0)], [], q1.2)) rfl ⟨trivial, trivial, trivial, trivial, trivial, trivial, trivial⟩ ?_
    exact ll_X7_first_23 X hr   1000 a1 (-1) (-1) 0 _ h
  · replace h := am_ip c12 h
    refine am_blk hc X 5 2 (fr' := (12, [(0, am_r 0 0 0), (1, am_i a1)], [am_i (-2), am_r 0 0 0], q1.2)) rfl ⟨trivial, trivial, trivial⟩ ?_
    obtain ⟨q10, hq11, h⟩ := am_bs h
    refine am_callV hc 7 X (k := 0) (i := 0) (o := 0) (As := [am_i (-2)]) (rest := []) rfl (ok_X7_refuse l (-2) q1.2 hq11) yv_X7_refuse ml_X7_77 (cl_0) rfl rfl rfl rfl rfl ?_
    obtain rfl := Option.some.inj h
    exact am_iret hc X hr 8 rfl rfl rfl
def fn_X7_holds (a1 : Int32) (σ : am_S) : Option (Int32 × am_S) :=
  (fn_X7_isShelf a1 (σ)).bind fun q1 => (if q1.1 = 0 then some ((-1), q1.2) else (bif am_in a1 8 then some ((q1.2.1 10 10 0 ((a1 : Int32).toNatClampNeg)), q1.2) else none))
set_option maxRecDepth 100000 in
theorem ok_X7_holds (l : Launch) (a1 : Int32) (σ : am_S) {q : Int32 × am_S} (h : fn_X7_holds a1 σ = some q) : am_M l yX7_holds cX7_holds 2 (some .int) 1 [am_r 0 0 0, am_i a1] σ (some (am_i q.1)) q.2 := by
  refine am_M_of (P := am_p7) (by decide +kernel) am_p7_ok rfl ?_
  intro G p e s m args below meth c X hr
  have hc := ct_X7_holds
  unfold fn_X7_holds at h
  refine am_blk hc X 0 1 (fr' := (1, [(0, am_r 0 0 0), (1, am_i a1)], [am_i a1], σ)) rfl ⟨trivial, trivial⟩ ?_
  obtain ⟨q1, hq2, h⟩ := am_bs h
  refine am_callS hc 1 X (As := [am_i a1]) (rest := []) rfl (ok_X7_isShelf l a1 (σ) hq2) yv_X7_isShelf ml_X7_69 rfl rfl rfl rfl rfl ?_
  refine am_if_eq hc X 2 (tgt := 19) rfl (by decide) (fun c4 => ?_) (fun c4 => ?_)
  · replace h := am_ip c4 h
    refine am_blk hc X 9 1 (fr' := (20, [(0, am_r 0 0 0), (1, am_i a1)], [am_i (-1)], q1.2)) rfl ⟨trivial, trivial⟩ ?_
    obtain rfl := Option.some.inj h
    exact am_iret hc X hr 10 rfl rfl rfl
  · replace h := am_in2 c4 h
    obtain ⟨ob3, h⟩ := am_ci h
    refine am_blk hc X 3 6 (fr' := (20, [(0, am_r 0 0 0), (1, am_i a1)], [am_i (q1.2.1 10 10 0 ((a1 : Int32).toNatClampNeg))], q1.2)) rfl ⟨trivial, trivial, trivial, trivial, (am_in_vp ob3), trivial, trivial⟩ ?_
    obtain rfl := Option.some.inj h
    exact am_iret hc X hr 10 rfl rfl rfl
def jn_X7_homes_23  (x1 : Int32) (σ : am_S) : Option (Int32 × am_S) :=
  (if (σ.1 1 2 0 4) = 0 then (fn_X7_refuse (-5) (σ)).bind fun q5 => some (q5.1, q5.2) else (fn_X5_settle 1 (σ)).bind fun q1 => (if x1 = (-1) then some (q1.1, q1.2) else (bif am_in x1 6 then some ((q1.2.1 13 28 0 ((x1 : Int32).toNatClampNeg)), q1.2) else none)))
set_option maxRecDepth 100000 in
theorem jl_X7_homes_23 {p : Program} {l : Launch} {e : Env} {s : State} {m : MethodId} {args : Array Value} {below : List Frame} {meth : Method} {c : Code} {G : am_G} {q : Int32 × am_S} (X : am_X p s m args c cX7_homes yX7_homes.cls 3 am_p7 G (am_fr G)) (hr : meth.sig.returnType = (some .int) ∧ meth.locks = false)    (x1 : Int32) (σ : am_S) (h : jn_X7_homes_23  x1 σ = some q) : am_A p l e (am_ro 6) s m args below meth c 3 G (am_fr G) 0 0 (MQ below (am_Qc G (some (am_i q.1)) q.2) args s 0 0 (am_fr G)) (23, [(0, am_r 0 0 0), (1, am_i x1)], [], σ) := by
  have hc := ct_X7_homes
  unfold jn_X7_homes_23 at h
  refine am_blk hc X 12 3 (fr' := (30, [(0, am_r 0 0 0), (1, am_i x1)], [am_i (σ.1 1 2 0 4)], σ)) rfl ⟨trivial, trivial, trivial, trivial⟩ ?_
  refine am_if_ne hc X 15 (tgt := 40) rfl (by decide) (fun c7 => ?_) (fun c7 => ?_)
  · replace h := am_in2 c7 h
    refine am_blk hc X 20 6 (fr' := (52, [(0, am_r 0 0 0), (1, am_i x1)], [am_r 12 17 0, am_r 1 2 0, am_r 13 22 0], σ)) rfl ⟨trivial, trivial, trivial, trivial, trivial, trivial, trivial⟩ ?_
    obtain ⟨q1, hq2, h⟩ := am_bs h
    refine am_callV hc 26 X (k := 22) (i := 0) (o := 13) (As := [am_r 1 2 0, am_r 12 17 0]) (rest := []) rfl (ok_X5_settle l 1 (σ) hq2) yv_X5_settle ml_X7_225 (cl_22) rfl rfl rfl rfl rfl ?_
    refine am_blk hc X 27 3 (fr' := (58, [(0, am_r 0 0 0), (1, am_i x1), (2, am_i q1.1)], [am_i (-1), am_i x1], q1.2)) rfl ⟨trivial, trivial, trivial, trivial⟩ ?_
    refine am_icmp_ne hc X 30 (tgt := 65) rfl (by decide) (fun c4 => ?_) (fun c4 => ?_)
    · replace h := am_in2 c4 h
      obtain ⟨ob3, h⟩ := am_ci h
      refine am_blk hc X 33 5 (fr' := (74, [(0, am_r 0 0 0), (1, am_i x1), (2, am_i q1.1)], [am_i (q1.2.1 13 28 0 ((x1 : Int32).toNatClampNeg))], q1.2)) rfl ⟨trivial, trivial, trivial, trivial, (am_in_vp ob3), trivial⟩ ?_
      obtain rfl := Option.some.inj h
      exact am_iret hc X hr 38 rfl rfl rfl
    · replace h := am_ip c4 h
      refine am_blk hc X 31 2 (fr' := (74, [(0, am_r 0 0 0), (1, am_i x1), (2, am_i q1.1)], [am_i q1.1], q1.2)) rfl ⟨trivial, trivial, trivial⟩ ?_
      obtain rfl := Option.some.inj h
      exact am_iret hc X hr 38 rfl rfl rfl
  · replace h := am_ip c7 h
    refine am_blk hc X 16 2 (fr' := (36, [(0, am_r 0 0 0), (1, am_i x1)], [am_i (-5), am_r 0 0 0], σ)) rfl ⟨trivial, trivial, trivial⟩ ?_
    obtain ⟨q5, hq6, h⟩ := am_bs h
    refine am_callV hc 18 X (k := 0) (i := 0) (o := 0) (As := [am_i (-5)]) (rest := []) rfl (ok_X7_refuse l (-5) (σ) hq6) yv_X7_refuse ml_X7_77 (cl_0) rfl rfl rfl rfl rfl ?_
    obtain rfl := Option.some.inj h
    exact am_iret hc X hr 19 rfl rfl rfl
def fn_X7_homes (a1 : Int32) (σ : am_S) : Option (Int32 × am_S) :=
  (if a1 = (-1) then jn_X7_homes_23  a1 (σ) else (fn_X0_hasPerson 1 a1 (σ)).bind fun q8 => (if q8.1 = 0 then (fn_X7_refuse (-2) q8.2).bind fun q10 => some (q10.1, q10.2) else jn_X7_homes_23  a1 q8.2))
set_option maxRecDepth 100000 in
theorem ok_X7_homes (l : Launch) (a1 : Int32) (σ : am_S) {q : Int32 × am_S} (h : fn_X7_homes a1 σ = some q) : am_M l yX7_homes cX7_homes 3 (some .int) 6 [am_r 0 0 0, am_i a1] σ (some (am_i q.1)) q.2 := by
  refine am_M_of (P := am_p7) (by decide +kernel) am_p7_ok rfl ?_
  intro G p e s m args below meth c X hr
  have hc := ct_X7_homes
  unfold fn_X7_homes at h
  refine am_blk hc X 0 2 (fr' := (2, [(0, am_r 0 0 0), (1, am_i a1)], [am_i (-1), am_i a1], σ)) rfl ⟨trivial, trivial, trivial⟩ ?_
  refine am_icmp_eq hc X 2 (tgt := 23) rfl (by decide) (fun c13 => ?_) (fun c13 => ?_)
  · replace h := am_ip c13 h
    exact jl_X7_homes_23 X hr   a1 _ h
  · replace h := am_in2 c13 h
    refine am_blk hc X 3 3 (fr' := (10, [(0, am_r 0 0 0), (1, am_i a1)], [am_i a1, am_r 1 2 0], σ)) rfl ⟨trivial, trivial, trivial, trivial⟩ ?_
    obtain ⟨q8, hq9, h⟩ := am_bs h
    refine am_callV hc 6 X (k := 2) (i := 0) (o := 1) (As := [am_i a1]) (rest := []) rfl (ok_X0_hasPerson l 1 a1 (σ) hq9) yv_X0_hasPerson ml_X7_114 (cl_2) rfl rfl rfl rfl rfl ?_
    refine am_if_ne hc X 7 (tgt := 23) rfl (by decide) (fun c12 => ?_) (fun c12 => ?_)
    · replace h := am_in2 c12 h
      exact jl_X7_homes_23 X hr   a1 _ h
    · replace h := am_ip c12 h
      refine am_blk hc X 8 2 (fr' := (19, [(0, am_r 0 0 0), (1, am_i a1)], [am_i (-2), am_r 0 0 0], q8.2)) rfl ⟨trivial, trivial, trivial⟩ ?_
      obtain ⟨q10, hq11, h⟩ := am_bs h
      refine am_callV hc 10 X (k := 0) (i := 0) (o := 0) (As := [am_i (-2)]) (rest := []) rfl (ok_X7_refuse l (-2) q8.2 hq11) yv_X7_refuse ml_X7_77 (cl_0) rfl rfl rfl rfl rfl ?_
      obtain rfl := Option.some.inj h
      exact am_iret hc X hr 11 rfl rfl rfl
def fn_X7_image  (σ : am_S) : Option (Int32 × am_S) :=
  (fn_X0_becomes 2 1 (σ)).bind fun q1 => some (1, (am_u q1 0 0 0 2 1))
set_option maxRecDepth 100000 in
theorem ok_X7_image (l : Launch)  (σ : am_S) {q : Int32 × am_S} (h : fn_X7_image  σ = some q) : am_M l yX7_image cX7_image 1 (some .int) 3 [am_r 0 0 0] σ (some (am_i q.1)) q.2 := by
  refine am_M_of (P := am_p7) (by decide +kernel) am_p7_ok rfl ?_
  intro G p e s m args below meth c X hr
  have hc := ct_X7_image
  unfold fn_X7_image at h
  refine am_blk hc X 0 4 (fr' := (8, [(0, am_r 0 0 0)], [am_r 1 2 0, am_r 2 2 0], σ)) rfl ⟨trivial, trivial, trivial, trivial, trivial⟩ ?_
  obtain ⟨q1, hq2, h⟩ := am_bs h
  refine am_callV hc 4 X (k := 2) (i := 0) (o := 2) (As := [am_r 1 2 0]) (rest := []) rfl (ok_X0_becomes l 2 1 (σ) hq2) yv_X0_becomes ml_X7_184 (cl_2) rfl rfl rfl rfl rfl ?_
  refine am_blk hc X 5 4 (fr' := (17, [(0, am_r 0 0 0)], [am_i 1], (am_u q1 0 0 0 2 1))) rfl ⟨trivial, trivial, (by decide), trivial, trivial⟩ ?_
  obtain rfl := Option.some.inj h
  exact am_iret hc X hr 9 rfl rfl rfl
def lb_J7_fill_53178_31_5 (k5 : Nat → Int32 → Int32 → Int32 → am_S → Option (am_S)) (ix0 : Nat) (x1 : Int32) (x2 : Int32) (x3 : Int32) (σ : am_S) : Option (am_S) :=
  (if x3 ≤ x2 then some (σ) else (bif am_in x2 7 then k5 ix0 x1 (x2 + 1) x3 (am_u σ 14 31 ix0 ((x2 : Int32).toNatClampNeg) x1) else none))
set_option maxRecDepth 100000 in
theorem lc_J7_fill_53178_31_5 {p : Program} {l : Launch} {e : Env} {s : State} {m : MethodId} {args : Array Value} {below : List Frame} {meth : Method} {c : Code} {G : am_G} {q : am_S} (X : am_X p s m args c cJ7_fill_53178 yJ7_fill_53178.cls 4 am_pJ G (am_fr G)) (hr : meth.sig.returnType = none ∧ meth.locks = false)  (k5 : Nat → Int32 → Int32 → Int32 → am_S → Option (am_S)) (hk5 : ∀ (ix0 : Nat) (x1 : Int32) (x2 : Int32) (x3 : Int32) (σ : am_S), k5 ix0 x1 x2 x3 σ = some q → am_A p l e (am_ro 0) s m args below meth c 4 G (am_fr G) 0 0 (MQ below (am_Qc G none q) args s 0 0 (am_fr G)) (5, [(0, am_r 14 31 ix0), (1, am_i x1), (2, am_i x2), (3, am_i x3)], [], σ)) (ix0 : Nat) (x1 : Int32) (x2 : Int32) (x3 : Int32) (σ : am_S) (h : lb_J7_fill_53178_31_5 k5 ix0 x1 x2 x3 σ = some q) : am_A p l e (am_ro 0) s m args below meth c 4 G (am_fr G) 0 0 (MQ below (am_Qc G none q) args s 0 0 (am_fr G)) (5, [(0, am_r 14 31 ix0), (1, am_i x1), (2, am_i x2), (3, am_i x3)], [], σ) := by
  have hc := ct_J7_fill_53178
  unfold lb_J7_fill_53178_31_5 at h
  refine am_blk hc X 5 2 (fr' := (7, [(0, am_r 14 31 ix0), (1, am_i x1), (2, am_i x2), (3, am_i x3)], [am_i x3, am_i x2], σ)) rfl ⟨trivial, trivial, trivial⟩ ?_
  refine am_icmp_ge hc X 7 (tgt := 20) rfl (by decide) (fun c2 => ?_) (fun c2 => ?_)
  · replace h := am_ip c2 h
    obtain rfl := Option.some.inj h
    exact am_vret hc X hr 14 rfl rfl rfl
  · replace h := am_in2 c2 h
    obtain ⟨ob1, h⟩ := am_ci h
    refine am_blk hc X 8 6 (fr' := (5, [(0, am_r 14 31 ix0), (1, am_i x1), (2, am_i (x2 + 1)), (3, am_i x3)], [], (am_u σ 14 31 ix0 ((x2 : Int32).toNatClampNeg) x1))) rfl ⟨trivial, trivial, trivial, (am_in_vp ob1), trivial, trivial, trivial⟩ ?_
    exact hk5 ix0 x1 (x2 + 1) x3 _ h
def lp_J7_fill_53178_31_5  : Nat → Nat → Int32 → Int32 → Int32 → am_S → Option (am_S)
  | 0 => fun _ _ _ _ _ => none
  | n + 1 => lb_J7_fill_53178_31_5  (lp_J7_fill_53178_31_5  n)
theorem ll_J7_fill_53178_31_5 {p : Program} {l : Launch} {e : Env} {s : State} {m : MethodId} {args : Array Value} {below : List Frame} {meth : Method} {c : Code} {G : am_G} {q : am_S} (X : am_X p s m args c cJ7_fill_53178 yJ7_fill_53178.cls 4 am_pJ G (am_fr G)) (hr : meth.sig.returnType = none ∧ meth.locks = false)    : ∀ (n : Nat) (ix0 : Nat) (x1 : Int32) (x2 : Int32) (x3 : Int32) (σ : am_S), lp_J7_fill_53178_31_5  n ix0 x1 x2 x3 σ = some q → am_A p l e (am_ro 0) s m args below meth c 4 G (am_fr G) 0 0 (MQ below (am_Qc G none q) args s 0 0 (am_fr G)) (5, [(0, am_r 14 31 ix0), (1, am_i x1), (2, am_i x2), (3, am_i x3)], [], σ) := by
  intro n
  induction n with
  | zero =>
    intro ix0 x1 x2 x3 σ h
    have h : (none : Option (am_S)) = some q := h
    cases h
  | succ n ih =>
    intro ix0 x1 x2 x3 σ h
    exact lc_J7_fill_53178_31_5 X hr  (lp_J7_fill_53178_31_5  n) ih ix0 x1 x2 x3 σ h
def fn_J7_fill_53178_31 (ia0 : Nat) (a1 : Int32) (σ : am_S) : Option (am_S) :=
  lp_J7_fill_53178_31_5  1000 ia0 a1 0 7 (σ)
set_option maxRecDepth 100000 in
theorem ok_J7_fill_53178_31 (l : Launch) (ia0 : Nat) (a1 : Int32) (σ : am_S) {q : am_S} (h : fn_J7_fill_53178_31 ia0 a1 σ = some q) : am_M l yJ7_fill_53178 cJ7_fill_53178 4 none 0 [am_r 14 31 ia0, am_i a1] σ none q := by
  refine am_M_of (P := am_pJ) (by decide +kernel) am_pJ_ok rfl ?_
  intro G p e s m args below meth c X hr
  have hc := ct_J7_fill_53178
  unfold fn_J7_fill_53178_31 at h
  refine am_blk hc X 0 5 (fr' := (5, [(0, am_r 14 31 ia0), (1, am_i a1), (2, am_i 0), (3, am_i 7)], [], σ)) rfl ⟨trivial, trivial, trivial, trivial, trivial, trivial⟩ ?_
  exact ll_J7_fill_53178_31_5 X hr   1000 ia0 a1 0 7 _ h
def lb_X3_follow_13_59 (k23 : Nat → Nat → Int32 → Int32 → am_S → Option (am_S)) (k59 : Nat → Nat → Int32 → Int32 → Int32 → am_S → Option (am_S)) (ox1 : Nat) (ix2 : Nat) (x3 : Int32) (x5 : Int32) (x6 : Int32) (σ : am_S) : Option (am_S) :=
  (if 7 ≤ x6 then k23 ox1 ix2 x3 (x5 + 1) (σ) else (bif am_in x5 40 then (fn_X3_stepOn ox1 x5 x6 (σ.2 10 13 ix2 ((x5 : Int32).toNatClampNeg)) (σ)).bind fun q8 => k59 ox1 ix2 x3 x5 (x6 + 1) q8 else none))
set_option maxRecDepth 100000 in
theorem lc_X3_follow_13_59 {p : Program} {l : Launch} {e : Env} {s : State} {m : MethodId} {args : Array Value} {below : List Frame} {meth : Method} {c : Code} {G : am_G} {q : am_S} (X : am_X p s m args c cX3_follow yX3_follow.cls 7 am_p3 G (am_fr G)) (hr : meth.sig.returnType = none ∧ meth.locks = false)  (k23 : Nat → Nat → Int32 → Int32 → am_S → Option (am_S)) (k59 : Nat → Nat → Int32 → Int32 → Int32 → am_S → Option (am_S)) (hk23 : ∀ (ox1 : Nat) (ix2 : Nat) (x3 : Int32) (x5 : Int32) (σ : am_S), k23 ox1 ix2 x3 x5 σ = some q → am_A p l e (am_ro 3) s m args below meth c 7 G (am_fr G) 0 0 (MQ below (am_Qc G none q) args s 0 0 (am_fr G)) (23, [(0, am_r 14 29 0), (1, am_r ox1 2 0), (2, am_r 10 13 ix2), (3, am_i x3), (5, am_i x5)], [], σ)) (hk59 : ∀ (ox1 : Nat) (ix2 : Nat) (x3 : Int32) (x5 : Int32) (x6 : Int32) (σ : am_S), k59 ox1 ix2 x3 x5 x6 σ = some q → am_A p l e (am_ro 3) s m args below meth c 7 G (am_fr G) 0 0 (MQ below (am_Qc G none q) args s 0 0 (am_fr G)) (59, [(0, am_r 14 29 0), (1, am_r ox1 2 0), (2, am_r 10 13 ix2), (3, am_i x3), (5, am_i x5), (6, am_i x6)], [], σ)) (ox1 : Nat) (ix2 : Nat) (x3 : Int32) (x5 : Int32) (x6 : Int32) (σ : am_S) (h : lb_X3_follow_13_59 k23 k59 ox1 ix2 x3 x5 x6 σ = some q) : am_A p l e (am_ro 3) s m args below meth c 7 G (am_fr G) 0 0 (MQ below (am_Qc G none q) args s 0 0 (am_fr G)) (59, [(0, am_r 14 29 0), (1, am_r ox1 2 0), (2, am_r 10 13 ix2), (3, am_i x3), (5, am_i x5), (6, am_i x6)], [], σ) := by
  have hc := ct_X3_follow
  unfold lb_X3_follow_13_59 at h
  refine am_blk hc X 35 2 (fr' := (63, [(0, am_r 14 29 0), (1, am_r ox1 2 0), (2, am_r 10 13 ix2), (3, am_i x3), (5, am_i x5), (6, am_i x6)], [am_i 7, am_i x6], σ)) rfl ⟨trivial, trivial, trivial⟩ ?_
  refine am_icmp_ge hc X 37 (tgt := 85) rfl (by decide) (fun c10 => ?_) (fun c10 => ?_)
  · replace h := am_ip c10 h
    refine am_blk hc X 48 2 (fr' := (23, [(0, am_r 14 29 0), (1, am_r ox1 2 0), (2, am_r 10 13 ix2), (3, am_i x3), (5, am_i (x5 + 1)), (6, am_i x6)], [], σ)) rfl ⟨trivial, trivial, trivial⟩ ?_
    refine am_less [0, 1, 2, 3, 4] rfl ?_
    exact hk23 ox1 ix2 x3 (x5 + 1) _ h
  · replace h := am_in2 c10 h
    obtain ⟨ob7, h⟩ := am_ci h
    refine am_blk hc X 38 7 (fr' := (76, [(0, am_r 14 29 0), (1, am_r ox1 2 0), (2, am_r 10 13 ix2), (3, am_i x3), (5, am_i x5), (6, am_i x6)], [am_l (σ.2 10 13 ix2 ((x5 : Int32).toNatClampNeg)), am_i x6, am_i x5, am_r ox1 2 0, am_r 14 29 0], σ)) rfl ⟨trivial, trivial, trivial, trivial, trivial, trivial, (am_in_vp ob7), trivial⟩ ?_
    obtain ⟨q8, hq9, h⟩ := am_bs h
    refine am_callV hc 45 X (k := 29) (i := 0) (o := 14) (As := [am_r ox1 2 0, am_i x5, am_i x6, am_l (σ.2 10 13 ix2 ((x5 : Int32).toNatClampNeg))]) (rest := []) rfl (ok_X3_stepOn l ox1 x5 x6 (σ.2 10 13 ix2 ((x5 : Int32).toNatClampNeg)) (σ) hq9) yv_X3_stepOn ml_X3_22 (cl_29) rfl rfl rfl rfl rfl ?_
    refine am_blk hc X 46 2 (fr' := (59, [(0, am_r 14 29 0), (1, am_r ox1 2 0), (2, am_r 10 13 ix2), (3, am_i x3), (5, am_i x5), (6, am_i (x6 + 1))], [], q8)) rfl ⟨trivial, trivial, trivial⟩ ?_
    exact hk59 ox1 ix2 x3 x5 (x6 + 1) _ h
def lp_X3_follow_13_59 (k23 : Nat → Nat → Int32 → Int32 → am_S → Option (am_S)) : Nat → Nat → Nat → Int32 → Int32 → Int32 → am_S → Option (am_S)
  | 0 => fun _ _ _ _ _ _ => none
  | n + 1 => lb_X3_follow_13_59 k23 (lp_X3_follow_13_59 k23 n)
theorem ll_X3_follow_13_59 {p : Program} {l : Launch} {e : Env} {s : State} {m : MethodId} {args : Array Value} {below : List Frame} {meth : Method} {c : Code} {G : am_G} {q : am_S} (X : am_X p s m args c cX3_follow yX3_follow.cls 7 am_p3 G (am_fr G)) (hr : meth.sig.returnType = none ∧ meth.locks = false)  (k23 : Nat → Nat → Int32 → Int32 → am_S → Option (am_S)) (hk23 : ∀ (ox1 : Nat) (ix2 : Nat) (x3 : Int32) (x5 : Int32) (σ : am_S), k23 ox1 ix2 x3 x5 σ = some q → am_A p l e (am_ro 3) s m args below meth c 7 G (am_fr G) 0 0 (MQ below (am_Qc G none q) args s 0 0 (am_fr G)) (23, [(0, am_r 14 29 0), (1, am_r ox1 2 0), (2, am_r 10 13 ix2), (3, am_i x3), (5, am_i x5)], [], σ)) : ∀ (n : Nat) (ox1 : Nat) (ix2 : Nat) (x3 : Int32) (x5 : Int32) (x6 : Int32) (σ : am_S), lp_X3_follow_13_59 k23 n ox1 ix2 x3 x5 x6 σ = some q → am_A p l e (am_ro 3) s m args below meth c 7 G (am_fr G) 0 0 (MQ below (am_Qc G none q) args s 0 0 (am_fr G)) (59, [(0, am_r 14 29 0), (1, am_r ox1 2 0), (2, am_r 10 13 ix2), (3, am_i x3), (5, am_i x5), (6, am_i x6)], [], σ) := by
  intro n
  induction n with
  | zero =>
    intro ox1 ix2 x3 x5 x6 σ h
    have h : (none : Option (am_S)) = some q := h
    cases h
  | succ n ih =>
    intro ox1 ix2 x3 x5 x6 σ h
    exact lc_X3_follow_13_59 X hr k23 (lp_X3_follow_13_59 k23 n) hk23 ih ox1 ix2 x3 x5 x6 σ h
def lb_X3_follow_13_23 (k23 : Nat → Nat → Int32 → Int32 → am_S → Option (am_S)) (ox1 : Nat) (ix2 : Nat) (x3 : Int32) (x5 : Int32) (σ : am_S) : Option (am_S) :=
  (if x3 ≤ x5 then some (σ) else (if 40 ≤ x5 then some (σ) else (if 40 ≤ x5 then some (σ) else (bif am_in (x5 + (1 : Int32)) 41 then (fn_J7_fill_53178_31 (((x5 + (1 : Int32)) : Int32).toNatClampNeg) 0 (σ)).bind fun q5 => lp_X3_follow_13_59 k23 1000 ox1 ix2 x3 x5 0 q5 else none))))
set_option maxRecDepth 100000 in
theorem lc_X3_follow_13_23 {p : Program} {l : Launch} {e : Env} {s : State} {m : MethodId} {args : Array Value} {below : List Frame} {meth : Method} {c : Code} {G : am_G} {q : am_S} (X : am_X p s m args c cX3_follow yX3_follow.cls 7 am_p3 G (am_fr G)) (hr : meth.sig.returnType = none ∧ meth.locks = false)  (k23 : Nat → Nat → Int32 → Int32 → am_S → Option (am_S)) (hk23 : ∀ (ox1 : Nat) (ix2 : Nat) (x3 : Int32) (x5 : Int32) (σ : am_S), k23 ox1 ix2 x3 x5 σ = some q → am_A p l e (am_ro 3) s m args below meth c 7 G (am_fr G) 0 0 (MQ below (am_Qc G none q) args s 0 0 (am_fr G)) (23, [(0, am_r 14 29 0), (1, am_r ox1 2 0), (2, am_r 10 13 ix2), (3, am_i x3), (5, am_i x5)], [], σ)) (ox1 : Nat) (ix2 : Nat) (x3 : Int32) (x5 : Int32) (σ : am_S) (h : lb_X3_follow_13_23 k23 ox1 ix2 x3 x5 σ = some q) : am_A p l e (am_ro 3) s m args below meth c 7 G (am_fr G) 0 0 (MQ below (am_Qc G none q) args s 0 0 (am_fr G)) (23, [(0, am_r 14 29 0), (1, am_r ox1 2 0), (2, am_r 10 13 ix2), (3, am_i x3), (5, am_i x5)], [], σ) := by
  have hc := ct_X3_follow
  unfold lb_X3_follow_13_23 at h
  refine am_blk hc X 15 2 (fr' := (26, [(0, am_r 14 29 0), (1, am_r ox1 2 0), (2, am_r 10 13 ix2), (3, am_i x3), (5, am_i x5)], [am_i x3, am_i x5], σ)) rfl ⟨trivial, trivial, trivial⟩ ?_
  refine am_icmp_ge hc X 17 (tgt := 91) rfl (by decide) (fun c13 => ?_) (fun c13 => ?_)
  · replace h := am_ip c13 h
    obtain rfl := Option.some.inj h
    exact am_vret hc X hr 50 rfl rfl rfl
  · replace h := am_in2 c13 h
    refine am_blk hc X 18 2 (fr' := (33, [(0, am_r 14 29 0), (1, am_r ox1 2 0), (2, am_r 10 13 ix2), (3, am_i x3), (5, am_i x5)], [am_i 40, am_i x5], σ)) rfl ⟨trivial, trivial, trivial⟩ ?_
    refine am_icmp_ge hc X 20 (tgt := 91) rfl (by decide) (fun c12 => ?_) (fun c12 => ?_)
    · replace h := am_ip c12 h
      obtain rfl := Option.some.inj h
      exact am_vret hc X hr 50 rfl rfl rfl
    · replace h := am_in2 c12 h
      refine am_blk hc X 21 3 (fr' := (40, [(0, am_r 14 29 0), (1, am_r ox1 2 0), (2, am_r 10 13 ix2), (3, am_i x3), (5, am_i x5)], [am_i 40, am_i x5], σ)) rfl ⟨trivial, trivial, trivial, trivial⟩ ?_
      refine am_icmp_ge hc X 24 (tgt := 91) rfl (by decide) (fun c11 => ?_) (fun c11 => ?_)
      · replace h := am_ip c11 h
        obtain rfl := Option.some.inj h
        exact am_vret hc X hr 50 rfl rfl rfl
      · replace h := am_in2 c11 h
        obtain ⟨ob4, h⟩ := am_ci h
        refine am_blk hc X 25 7 (fr' := (53, [(0, am_r 14 29 0), (1, am_r ox1 2 0), (2, am_r 10 13 ix2), (3, am_i x3), (5, am_i x5)], [am_i 0, am_r 14 31 (((x5 + (1 : Int32)) : Int32).toNatClampNeg)], σ)) rfl ⟨trivial, trivial, trivial, trivial, trivial, (am_in_vp ob4), trivial, trivial⟩ ?_
        obtain ⟨q5, hq6, h⟩ := am_bs h
        refine am_callS hc 32 X (As := [am_r 14 31 (((x5 + (1 : Int32)) : Int32).toNatClampNeg), am_i 0]) (rest := []) rfl (ok_J7_fill_53178_31 l (((x5 + (1 : Int32)) : Int32).toNatClampNeg) 0 (σ) hq6) yv_J7_fill_53178 ml_X3_16 rfl rfl rfl rfl rfl ?_
        refine am_blk hc X 33 2 (fr' := (59, [(0, am_r 14 29 0), (1, am_r ox1 2 0), (2, am_r 10 13 ix2), (3, am_i x3), (5, am_i x5), (6, am_i 0)], [], q5)) rfl ⟨trivial, trivial, trivial⟩ ?_
        exact ll_X3_follow_13_59 X hr k23 hk23 1000 ox1 ix2 x3 x5 0 _ h
def lp_X3_follow_13_23  : Nat → Nat → Nat → Int32 → Int32 → am_S → Option (am_S)
  | 0 => fun _ _ _ _ _ => none
  | n + 1 => lb_X3_follow_13_23  (lp_X3_follow_13_23  n)
theorem ll_X3_follow_13_23 {p : Program} {l : Launch} {e : Env} {s : State} {m : MethodId} {args : Array Value} {below : List Frame} {meth : Method} {c : Code} {G : am_G} {q : am_S} (X : am_X p s m args c cX3_follow yX3_follow.cls 7 am_p3 G (am_fr G)) (hr : meth.sig.returnType = none ∧ meth.locks = false)    : ∀ (n : Nat) (ox1 : Nat) (ix2 : Nat) (x3 : Int32) (x5 : Int32) (σ : am_S), lp_X3_follow_13_23  n ox1 ix2 x3 x5 σ = some q → am_A p l e (am_ro 3) s m args below meth c 7 G (am_fr G) 0 0 (MQ below (am_Qc G none q) args s 0 0 (am_fr G)) (23, [(0, am_r 14 29 0), (1, am_r ox1 2 0), (2, am_r 10 13 ix2), (3, am_i x3), (5, am_i x5)], [], σ) := by
  intro n
  induction n with
  | zero =>
    intro ox1 ix2 x3 x5 σ h
    have h : (none : Option (am_S)) = some q := h
    cases h
  | succ n ih =>
    intro ox1 ix2 x3 x5 σ h
    exact lc_X3_follow_13_23 X hr  (lp_X3_follow_13_23  n) ih ox1 ix2 x3 x5 σ h
def fn_X3_follow_13 (oa1 : Nat) (ia2 : Nat) (a3 : Int32) (a4 : Int32) (σ : am_S) : Option (am_S) :=
  (fn_J7_fill_53178_31 0 0 (σ)).bind fun q1 => (bif am_in a4 7 then lp_X3_follow_13_23  1000 oa1 ia2 a3 0 (am_u q1 14 31 0 ((a4 : Int32).toNatClampNeg) 1) else none)
set_option maxRecDepth 100000 in
theorem ok_X3_follow_13 (l : Launch) (oa1 : Nat) (ia2 : Nat) (a3 : Int32) (a4 : Int32) (σ : am_S) {q : am_S} (h : fn_X3_follow_13 oa1 ia2 a3 a4 σ = some q) : am_M l yX3_follow cX3_follow 7 none 3 [am_r 14 29 0, am_r oa1 2 0, am_r 10 13 ia2, am_i a3, am_i a4] σ none q := by
  refine am_M_of (P := am_p3) (by decide +kernel) am_p3_ok rfl ?_
  intro G p e s m args below meth c X hr
  have hc := ct_X3_follow
  unfold fn_X3_follow_13 at h
  refine am_blk hc X 0 5 (fr' := (7, [(0, am_r 14 29 0), (1, am_r oa1 2 0), (2, am_r 10 13 ia2), (3, am_i a3), (4, am_i a4)], [am_i 0, am_r 14 31 0], σ)) rfl ⟨trivial, trivial, trivial, (am_in_vp (by decide)), trivial, trivial⟩ ?_
  obtain ⟨q1, hq2, h⟩ := am_bs h
  refine am_callS hc 5 X (As := [am_r 14 31 0, am_i 0]) (rest := []) rfl (ok_J7_fill_53178_31 l 0 0 (σ) hq2) yv_J7_fill_53178 ml_X3_16 rfl rfl rfl rfl rfl ?_
  obtain ⟨ob3, h⟩ := am_ci h
  refine am_blk hc X 6 9 (fr' := (23, [(0, am_r 14 29 0), (1, am_r oa1 2 0), (2, am_r 10 13 ia2), (3, am_i a3), (4, am_i a4), (5, am_i 0)], [], (am_u q1 14 31 0 ((a4 : Int32).toNatClampNeg) 1))) rfl ⟨trivial, trivial, trivial, (am_in_vp (by decide)), trivial, trivial, (am_in_vp ob3), trivial, trivial, trivial⟩ ?_
  refine am_less [0, 1, 2, 3, 5] rfl ?_
  exact ll_X3_follow_13_23 X hr   1000 oa1 ia2 a3 0 _ h
def jn_X3_howManySure_13_43 (k13 : Nat → Nat → Int32 → Int32 → Int32 → am_S → Option (Int32 × am_S)) (ox1 : Nat) (ix2 : Nat) (x4 : Int32) (x5 : Int32) (x6 : Int32) (σ : am_S) : Option (Int32 × am_S) :=
  (fn_X3_comeTo (x6 - (1 : Int32)) (σ)).bind fun q4 => (fn_X3_leadingInto ox1 x5 q4.2).bind fun q6 => k13 ox1 ix2 x4 (q4.1 &&& q6.1) (x6 + (-1)) q6.2
set_option maxRecDepth 100000 in
theorem jl_X3_howManySure_13_43 {p : Program} {l : Launch} {e : Env} {s : State} {m : MethodId} {args : Array Value} {below : List Frame} {meth : Method} {c : Code} {G : am_G} {q : Int32 × am_S} (X : am_X p s m args c cX3_howManySure yX3_howManySure.cls 7 am_p3 G (am_fr G)) (hr : meth.sig.returnType = (some .int) ∧ meth.locks = false)  (k13 : Nat → Nat → Int32 → Int32 → Int32 → am_S → Option (Int32 × am_S)) (hk13 : ∀ (ox1 : Nat) (ix2 : Nat) (x4 : Int32) (x5 : Int32) (x6 : Int32) (σ : am_S), k13 ox1 ix2 x4 x5 x6 σ = some q → am_A p l e (am_ro 3) s m args below meth c 7 G (am_fr G) 0 0 (MQ below (am_Qc G (some (am_i q.1)) q.2) args s 0 0 (am_fr G)) (13, [(0, am_r 14 29 0), (1, am_r ox1 2 0), (2, am_r 10 13 ix2), (4, am_i x4), (5, am_i x5), (6, am_i x6)], [], σ)) (ox1 : Nat) (ix2 : Nat) (x4 : Int32) (x5 : Int32) (x6 : Int32) (σ : am_S) (h : jn_X3_howManySure_13_43 k13 ox1 ix2 x4 x5 x6 σ = some q) : am_A p l e (am_ro 3) s m args below meth c 7 G (am_fr G) 0 0 (MQ below (am_Qc G (some (am_i q.1)) q.2) args s 0 0 (am_fr G)) (43, [(0, am_r 14 29 0), (1, am_r ox1 2 0), (2, am_r 10 13 ix2), (4, am_i x4), (5, am_i x5), (6, am_i x6)], [], σ) := by
  have hc := ct_X3_howManySure
  unfold jn_X3_howManySure_13_43 at h
  refine am_blk hc X 23 4 (fr' := (48, [(0, am_r 14 29 0), (1, am_r ox1 2 0), (2, am_r 10 13 ix2), (4, am_i x4), (5, am_i x5), (6, am_i x6)], [am_i (x6 - (1 : Int32)), am_r 14 29 0], σ)) rfl ⟨trivial, trivial, trivial, trivial, trivial⟩ ?_
  obtain ⟨q4, hq5, h⟩ := am_bs h
  refine am_callV hc 27 X (k := 29) (i := 0) (o := 14) (As := [am_i (x6 - (1 : Int32))]) (rest := []) rfl (ok_X3_comeTo l (x6 - (1 : Int32)) (σ) hq5) yv_X3_comeTo ml_X3_40 (cl_29) rfl rfl rfl rfl rfl ?_
  refine am_blk hc X 28 2 (fr' := (54, [(0, am_r 14 29 0), (1, am_r ox1 2 0), (2, am_r 10 13 ix2), (4, am_i x4), (5, am_i x5), (6, am_i x6)], [am_i x5, am_r ox1 2 0, am_i q4.1], q4.2)) rfl ⟨trivial, trivial, trivial⟩ ?_
  obtain ⟨q6, hq7, h⟩ := am_bs h
  refine am_callS hc 30 X (As := [am_r ox1 2 0, am_i x5]) (rest := [am_i q4.1]) rfl (ok_X3_leadingInto l ox1 x5 q4.2 hq7) yv_X3_leadingInto ml_X3_49 rfl rfl rfl rfl rfl ?_
  refine am_blk hc X 31 4 (fr' := (13, [(0, am_r 14 29 0), (1, am_r ox1 2 0), (2, am_r 10 13 ix2), (4, am_i x4), (5, am_i (q4.1 &&& q6.1)), (6, am_i (x6 + (-1)))], [], q6.2)) rfl ⟨trivial, trivial, trivial, trivial, trivial⟩ ?_
  exact hk13 ox1 ix2 x4 (q4.1 &&& q6.1) (x6 + (-1)) _ h
def lb_X3_howManySure_13_13 (k13 : Nat → Nat → Int32 → Int32 → Int32 → am_S → Option (Int32 × am_S)) (ox1 : Nat) (ix2 : Nat) (x4 : Int32) (x5 : Int32) (x6 : Int32) (σ : am_S) : Option (Int32 × am_S) :=
  (if x6 ≤ 0 then some (x4, σ) else (bif am_in (x6 - (1 : Int32)) 40 then (if (lg_cmp (σ.2 10 13 ix2 (((x6 - (1 : Int32)) : Int32).toNatClampNeg)) (-1)) = 0 then (fn_J6_bitCount_0f7a4 x5 (σ)).bind fun q8 => (if q8.1 = 1 then jn_X3_howManySure_13_43 k13 ox1 ix2 (x4 + 1) x5 x6 q8.2 else jn_X3_howManySure_13_43 k13 ox1 ix2 x4 x5 x6 q8.2) else jn_X3_howManySure_13_43 k13 ox1 ix2 x4 x5 x6 (σ)) else none))
set_option maxRecDepth 100000 in
theorem lc_X3_howManySure_13_13 {p : Program} {l : Launch} {e : Env} {s : State} {m : MethodId} {args : Array Value} {below : List Frame} {meth : Method} {c : Code} {G : am_G} {q : Int32 × am_S} (X : am_X p s m args c cX3_howManySure yX3_howManySure.cls 7 am_p3 G (am_fr G)) (hr : meth.sig.returnType = (some .int) ∧ meth.locks = false)  (k13 : Nat → Nat → Int32 → Int32 → Int32 → am_S → Option (Int32 × am_S)) (hk13 : ∀ (ox1 : Nat) (ix2 : Nat) (x4 : Int32) (x5 : Int32) (x6 : Int32) (σ : am_S), k13 ox1 ix2 x4 x5 x6 σ = some q → am_A p l e (am_ro 3) s m args below meth c 7 G (am_fr G) 0 0 (MQ below (am_Qc G (some (am_i q.1)) q.2) args s 0 0 (am_fr G)) (13, [(0, am_r 14 29 0), (1, am_r ox1 2 0), (2, am_r 10 13 ix2), (4, am_i x4), (5, am_i x5), (6, am_i x6)], [], σ)) (ox1 : Nat) (ix2 : Nat) (x4 : Int32) (x5 : Int32) (x6 : Int32) (σ : am_S) (h : lb_X3_howManySure_13_13 k13 ox1 ix2 x4 x5 x6 σ = some q) : am_A p l e (am_ro 3) s m args below meth c 7 G (am_fr G) 0 0 (MQ below (am_Qc G (some (am_i q.1)) q.2) args s 0 0 (am_fr G)) (13, [(0, am_r 14 29 0), (1, am_r ox1 2 0), (2, am_r 10 13 ix2), (4, am_i x4), (5, am_i x5), (6, am_i x6)], [], σ) := by
  have hc := ct_X3_howManySure
  unfold lb_X3_howManySure_13_13 at h
  refine am_blk hc X 8 1 (fr' := (15, [(0, am_r 14 29 0), (1, am_r ox1 2 0), (2, am_r 10 13 ix2), (4, am_i x4), (5, am_i x5), (6, am_i x6)], [am_i x6], σ)) rfl ⟨trivial, trivial⟩ ?_
  refine am_if_le hc X 9 (tgt := 66) rfl (by decide) (fun c12 => ?_) (fun c12 => ?_)
  · replace h := am_ip c12 h
    refine am_blk hc X 35 1 (fr' := (68, [(0, am_r 14 29 0), (1, am_r ox1 2 0), (2, am_r 10 13 ix2), (4, am_i x4), (5, am_i x5), (6, am_i x6)], [am_i x4], σ)) rfl ⟨trivial, trivial⟩ ?_
    obtain rfl := Option.some.inj h
    exact am_iret hc X hr 36 rfl rfl rfl
  · replace h := am_in2 c12 h
    obtain ⟨ob3, h⟩ := am_ci h
    refine am_blk hc X 10 7 (fr' := (28, [(0, am_r 14 29 0), (1, am_r ox1 2 0), (2, am_r 10 13 ix2), (4, am_i x4), (5, am_i x5), (6, am_i x6)], [am_i (lg_cmp (σ.2 10 13 ix2 (((x6 - (1 : Int32)) : Int32).toNatClampNeg)) (-1))], σ)) rfl ⟨trivial, trivial, trivial, trivial, (am_in_vp ob3), trivial, trivial, trivial⟩ ?_
    refine am_if_ne hc X 17 (tgt := 43) rfl (by decide) (fun c11 => ?_) (fun c11 => ?_)
    · replace h := am_in2 c11 h
      exact jl_X3_howManySure_13_43 X hr k13 hk13 ox1 ix2 x4 x5 x6 _ h
    · replace h := am_ip c11 h
      refine am_blk hc X 18 1 (fr' := (33, [(0, am_r 14 29 0), (1, am_r ox1 2 0), (2, am_r 10 13 ix2), (4, am_i x4), (5, am_i x5), (6, am_i x6)], [am_i x5], σ)) rfl ⟨trivial, trivial⟩ ?_
      obtain ⟨q8, hq9, h⟩ := am_bs h
      refine am_callS hc 19 X (As := [am_i x5]) (rest := []) rfl (ok_J6_bitCount_0f7a4 l x5 (σ) hq9) yv_J6_bitCount_0f7a4 ml_X3_44 rfl rfl rfl rfl rfl ?_
      refine am_blk hc X 20 1 (fr' := (37, [(0, am_r 14 29 0), (1, am_r ox1 2 0), (2, am_r 10 13 ix2), (4, am_i x4), (5, am_i x5), (6, am_i x6)], [am_i 1, am_i q8.1], q8.2)) rfl ⟨trivial, trivial⟩ ?_
      refine am_icmp_ne hc X 21 (tgt := 43) rfl (by decide) (fun c10 => ?_) (fun c10 => ?_)
      · replace h := am_in2 c10 h
        exact jl_X3_howManySure_13_43 X hr k13 hk13 ox1 ix2 x4 x5 x6 _ h
      · replace h := am_ip c10 h
        refine am_blk hc X 22 1 (fr' := (43, [(0, am_r 14 29 0), (1, am_r ox1 2 0), (2, am_r 10 13 ix2), (4, am_i (x4 + 1)), (5, am_i x5), (6, am_i x6)], [], q8.2)) rfl ⟨trivial, trivial⟩ ?_
        exact jl_X3_howManySure_13_43 X hr k13 hk13 ox1 ix2 (x4 + 1) x5 x6 _ h
def lp_X3_howManySure_13_13  : Nat → Nat → Nat → Int32 → Int32 → Int32 → am_S → Option (Int32 × am_S)
  | 0 => fun _ _ _ _ _ _ => none
  | n + 1 => lb_X3_howManySure_13_13  (lp_X3_howManySure_13_13  n)
theorem ll_X3_howManySure_13_13 {p : Program} {l : Launch} {e : Env} {s : State} {m : MethodId} {args : Array Value} {below : List Frame} {meth : Method} {c : Code} {G : am_G} {q : Int32 × am_S} (X : am_X p s m args c cX3_howManySure yX3_howManySure.cls 7 am_p3 G (am_fr G)) (hr : meth.sig.returnType = (some .int) ∧ meth.locks = false)    : ∀ (n : Nat) (ox1 : Nat) (ix2 : Nat) (x4 : Int32) (x5 : Int32) (x6 : Int32) (σ : am_S), lp_X3_howManySure_13_13  n ox1 ix2 x4 x5 x6 σ = some q → am_A p l e (am_ro 3) s m args below meth c 7 G (am_fr G) 0 0 (MQ below (am_Qc G (some (am_i q.1)) q.2) args s 0 0 (am_fr G)) (13, [(0, am_r 14 29 0), (1, am_r ox1 2 0), (2, am_r 10 13 ix2), (4, am_i x4), (5, am_i x5), (6, am_i x6)], [], σ) := by
  intro n
  induction n with
  | zero =>
    intro ox1 ix2 x4 x5 x6 σ h
    have h : (none : Option (Int32 × am_S)) = some q := h
    cases h
  | succ n ih =>
    intro ox1 ix2 x4 x5 x6 σ h
    exact lc_X3_howManySure_13_13 X hr  (lp_X3_howManySure_13_13  n) ih ox1 ix2 x4 x5 x6 σ h
def fn_X3_howManySure_13 (oa1 : Nat) (ia2 : Nat) (a3 : Int32) (σ : am_S) : Option (Int32 × am_S) :=
  (fn_X3_comeTo a3 (σ)).bind fun q1 => lp_X3_howManySure_13_13  1000 oa1 ia2 0 q1.1 a3 q1.2
set_option maxRecDepth 100000 in
theorem ok_X3_howManySure_13 (l : Launch) (oa1 : Nat) (ia2 : Nat) (a3 : Int32) (σ : am_S) {q : Int32 × am_S} (h : fn_X3_howManySure_13 oa1 ia2 a3 σ = some q) : am_M l yX3_howManySure cX3_howManySure 7 (some .int) 3 [am_r 14 29 0, am_r oa1 2 0, am_r 10 13 ia2, am_i a3] σ (some (am_i q.1)) q.2 := by
  refine am_M_of (P := am_p3) (by decide +kernel) am_p3_ok rfl ?_
  intro G p e s m args below meth c X hr
  have hc := ct_X3_howManySure
  unfold fn_X3_howManySure_13 at h
  refine am_blk hc X 0 4 (fr' := (5, [(0, am_r 14 29 0), (1, am_r oa1 2 0), (2, am_r 10 13 ia2), (3, am_i a3), (4, am_i 0)], [am_i a3, am_r 14 29 0], σ)) rfl ⟨trivial, trivial, trivial, trivial, trivial⟩ ?_
  obtain ⟨q1, hq2, h⟩ := am_bs h
  refine am_callV hc 4 X (k := 29) (i := 0) (o := 14) (As := [am_i a3]) (rest := []) rfl (ok_X3_comeTo l a3 (σ) hq2) yv_X3_comeTo ml_X3_40 (cl_29) rfl rfl rfl rfl rfl ?_
  refine am_blk hc X 5 3 (fr' := (13, [(0, am_r 14 29 0), (1, am_r oa1 2 0), (2, am_r 10 13 ia2), (3, am_i a3), (4, am_i 0), (5, am_i q1.1), (6, am_i a3)], [], q1.2)) rfl ⟨trivial, trivial, trivial, trivial⟩ ?_
  refine am_less [0, 1, 2, 4, 5, 6] rfl ?_
  exact ll_X3_howManySure_13_13 X hr   1000 oa1 ia2 0 q1.1 a3 _ h
def jn_X7_journeys_17   (σ : am_S) : Option (Int32 × am_S) :=
  (fn_X7_refuse (-2) (σ)).bind fun q3 => some (q3.1, q3.2)
set_option maxRecDepth 100000 in
theorem jl_X7_journeys_17 {p : Program} {l : Launch} {e : Env} {s : State} {m : MethodId} {args : Array Value} {below : List Frame} {meth : Method} {c : Code} {G : am_G} {q : Int32 × am_S} (X : am_X p s m args c cX7_journeys yX7_journeys.cls 6 am_p7 G (am_fr G)) (hr : meth.sig.returnType = (some .int) ∧ meth.locks = false)     (σ : am_S) (h : jn_X7_journeys_17   σ = some q) : am_A p l e (am_ro 4) s m args below meth c 6 G (am_fr G) 0 0 (MQ below (am_Qc G (some (am_i q.1)) q.2) args s 0 0 (am_fr G)) (17, [(0, am_r 0 0 0)], [], σ) := by
  have hc := ct_X7_journeys
  unfold jn_X7_journeys_17 at h
  refine am_blk hc X 8 2 (fr' := (20, [(0, am_r 0 0 0)], [am_i (-2), am_r 0 0 0], σ)) rfl ⟨trivial, trivial, trivial⟩ ?_
  obtain ⟨q3, hq4, h⟩ := am_bs h
  refine am_callV hc 10 X (k := 0) (i := 0) (o := 0) (As := [am_i (-2)]) (rest := []) rfl (ok_X7_refuse l (-2) (σ) hq4) yv_X7_refuse ml_X7_77 (cl_0) rfl rfl rfl rfl rfl ?_
  obtain rfl := Option.some.inj h
  exact am_iret hc X hr 11 rfl rfl rfl
def jn_X7_journeys_50  (x1 : Int32) (x2 : Int32) (x3 : Int32) (x4 : Int32) (x5 : Int32) (σ : am_S) : Option (Int32 × am_S) :=
  (if x5 = 0 then (bif am_in x1 8 then (fn_X3_follow_13 1 ((x1 : Int32).toNatClampNeg) x2 x3 (σ)).bind fun q10 => (if x4 = 0 then (fn_X3_howMany x2 q10).bind fun q22 => some (q22.1, q22.2) else (if x4 = 1 then (fn_X3_comeTo x2 q10).bind fun q20 => some (q20.1, q20.2) else (if x4 = 2 then (fn_X3_forged x2 q10).bind fun q18 => some (q18.1, q18.2) else (bif am_in x1 8 then (fn_X3_howManySure_13 1 ((x1 : Int32).toNatClampNeg) x2 q10).bind fun q13 => some (q13.1, q13.2) else none)))) else none) else (fn_X7_refuse x5 (σ)).bind fun q24 => some (q24.1, q24.2))
set_option maxRecDepth 100000 in
theorem jl_X7_journeys_50 {p : Program} {l : Launch} {e : Env} {s : State} {m : MethodId} {args : Array Value} {below : List Frame} {meth : Method} {c : Code} {G : am_G} {q : Int32 × am_S} (X : am_X p s m args c cX7_journeys yX7_journeys.cls 6 am_p7 G (am_fr G)) (hr : meth.sig.returnType = (some .int) ∧ meth.locks = false)    (x1 : Int32) (x2 : Int32) (x3 : Int32) (x4 : Int32) (x5 : Int32) (σ : am_S) (h : jn_X7_journeys_50  x1 x2 x3 x4 x5 σ = some q) : am_A p l e (am_ro 4) s m args below meth c 6 G (am_fr G) 0 0 (MQ below (am_Qc G (some (am_i q.1)) q.2) args s 0 0 (am_fr G)) (50, [(0, am_r 0 0 0), (1, am_i x1), (2, am_i x2), (3, am_i x3), (4, am_i x4), (5, am_i x5)], [], σ) := by
  have hc := ct_X7_journeys
  unfold jn_X7_journeys_50 at h
  refine am_blk hc X 26 1 (fr' := (52, [(0, am_r 0 0 0), (1, am_i x1), (2, am_i x2), (3, am_i x3), (4, am_i x4), (5, am_i x5)], [am_i x5], σ)) rfl ⟨trivial, trivial⟩ ?_
  refine am_if_eq hc X 27 (tgt := 62) rfl (by decide) (fun c26 => ?_) (fun c26 => ?_)
  · replace h := am_ip c26 h
    obtain ⟨ob9, h⟩ := am_ci h
    refine am_blk hc X 32 11 (fr' := (81, [(0, am_r 0 0 0), (1, am_i x1), (2, am_i x2), (3, am_i x3), (4, am_i x4), (5, am_i x5)], [am_i x3, am_i x2, am_r 10 13 ((x1 : Int32).toNatClampNeg), am_r 1 2 0, am_r 14 29 0], σ)) rfl ⟨trivial, trivial, trivial, trivial, trivial, trivial, trivial, trivial, (am_in_vp ob9), trivial, trivial, trivial⟩ ?_
    obtain ⟨q10, hq11, h⟩ := am_bs h
    refine am_callV hc 43 X (k := 29) (i := 0) (o := 14) (As := [am_r 1 2 0, am_r 10 13 ((x1 : Int32).toNatClampNeg), am_i x2, am_i x3]) (rest := []) rfl (ok_X3_follow_13 l 1 ((x1 : Int32).toNatClampNeg) x2 x3 (σ) hq11) yv_X3_follow ml_X7_249 (cl_29) rfl rfl rfl rfl rfl ?_
    refine am_blk hc X 44 1 (fr' := (86, [(0, am_r 0 0 0), (1, am_i x1), (2, am_i x2), (3, am_i x3), (4, am_i x4), (5, am_i x5)], [am_i x4], q10)) rfl ⟨trivial, trivial⟩ ?_
    by_cases c15 : x4 = 0
    · replace h := am_ip c15 h
      refine am_tin hc X 45 (tgt := 112) (off := 26) rfl (by rw [c15]; decide) (by rw [c15]; decide) (by rw [c15]; rfl) (by decide) ?_
      refine am_blk hc X 46 3 (fr' := (117, [(0, am_r 0 0 0), (1, am_i x1), (2, am_i x2), (3, am_i x3), (4, am_i x4), (5, am_i x5)], [am_i x2, am_r 14 29 0], q10)) rfl ⟨trivial, trivial, trivial, trivial⟩ ?_
      obtain ⟨q22, hq23, h⟩ := am_bs h
      refine am_callV hc 49 X (k := 29) (i := 0) (o := 14) (As := [am_i x2]) (rest := []) rfl (ok_X3_howMany l x2 q10 hq23) yv_X3_howMany ml_X7_253 (cl_29) rfl rfl rfl rfl rfl ?_
      obtain rfl := Option.some.inj h
      exact am_iret hc X hr 50 rfl rfl rfl
    · replace h := am_in2 c15 h
      by_cases c16 : x4 = 1
      · replace h := am_ip c16 h
        refine am_tin hc X 45 (tgt := 121) (off := 35) rfl (by rw [c16]; decide) (by rw [c16]; decide) (by rw [c16]; rfl) (by decide) ?_
        refine am_blk hc X 51 3 (fr' := (126, [(0, am_r 0 0 0), (1, am_i x1), (2, am_i x2), (3, am_i x3), (4, am_i x4), (5, am_i x5)], [am_i x2, am_r 14 29 0], q10)) rfl ⟨trivial, trivial, trivial, trivial⟩ ?_
        obtain ⟨q20, hq21, h⟩ := am_bs h
        refine am_callV hc 54 X (k := 29) (i := 0) (o := 14) (As := [am_i x2]) (rest := []) rfl (ok_X3_comeTo l x2 q10 hq21) yv_X3_comeTo ml_X7_256 (cl_29) rfl rfl rfl rfl rfl ?_
        obtain rfl := Option.some.inj h
        exact am_iret hc X hr 55 rfl rfl rfl
      · replace h := am_in2 c16 h
        by_cases c17 : x4 = 2
        · replace h := am_ip c17 h
          refine am_tin hc X 45 (tgt := 130) (off := 44) rfl (by rw [c17]; decide) (by rw [c17]; decide) (by rw [c17]; rfl) (by decide) ?_
          refine am_blk hc X 56 3 (fr' := (135, [(0, am_r 0 0 0), (1, am_i x1), (2, am_i x2), (3, am_i x3), (4, am_i x4), (5, am_i x5)], [am_i x2, am_r 14 29 0], q10)) rfl ⟨trivial, trivial, trivial, trivial⟩ ?_
          obtain ⟨q18, hq19, h⟩ := am_bs h
          refine am_callV hc 59 X (k := 29) (i := 0) (o := 14) (As := [am_i x2]) (rest := []) rfl (ok_X3_forged l x2 q10 hq19) yv_X3_forged ml_X7_259 (cl_29) rfl rfl rfl rfl rfl ?_
          obtain rfl := Option.some.inj h
          exact am_iret hc X hr 60 rfl rfl rfl
        · replace h := am_in2 c17 h
          refine am_tout hc X 45 (tgt := 139) rfl (am_sw 0 2 (fun z h1 h2 => ?_)) (by decide) ?_
          · rcases (show z = 0 ∨ z = 1 ∨ z = 2 by omega) with rfl | rfl | rfl
            · exact lv_neT c15 rfl
            · exact lv_neT c16 rfl
            · exact lv_neT c17 rfl
          · obtain ⟨ob12, h⟩ := am_ci h
            refine am_blk hc X 61 10 (fr' := (157, [(0, am_r 0 0 0), (1, am_i x1), (2, am_i x2), (3, am_i x3), (4, am_i x4), (5, am_i x5)], [am_i x2, am_r 10 13 ((x1 : Int32).toNatClampNeg), am_r 1 2 0, am_r 14 29 0], q10)) rfl ⟨trivial, trivial, trivial, trivial, trivial, trivial, trivial, trivial, (am_in_vp ob12), trivial, trivial⟩ ?_
            obtain ⟨q13, hq14, h⟩ := am_bs h
            refine am_callV hc 71 X (k := 29) (i := 0) (o := 14) (As := [am_r 1 2 0, am_r 10 13 ((x1 : Int32).toNatClampNeg), am_i x2]) (rest := []) rfl (ok_X3_howManySure_13 l 1 ((x1 : Int32).toNatClampNeg) x2 q10 hq14) yv_X3_howManySure ml_X7_262 (cl_29) rfl rfl rfl rfl rfl ?_
            obtain rfl := Option.some.inj h
            exact am_iret hc X hr 72 rfl rfl rfl
  · replace h := am_in2 c26 h
    refine am_blk hc X 28 2 (fr' := (58, [(0, am_r 0 0 0), (1, am_i x1), (2, am_i x2), (3, am_i x3), (4, am_i x4), (5, am_i x5)], [am_i x5, am_r 0 0 0], σ)) rfl ⟨trivial, trivial, trivial⟩ ?_
    obtain ⟨q24, hq25, h⟩ := am_bs h
    refine am_callV hc 30 X (k := 0) (i := 0) (o := 0) (As := [am_i x5]) (rest := []) rfl (ok_X7_refuse l x5 (σ) hq25) yv_X7_refuse ml_X7_77 (cl_0) rfl rfl rfl rfl rfl ?_
    obtain rfl := Option.some.inj h
    exact am_iret hc X hr 31 rfl rfl rfl
def fn_X7_journeys (a1 : Int32) (a2 : Int32) (a3 : Int32) (a4 : Int32) (σ : am_S) : Option (Int32 × am_S) :=
  (fn_X7_isValley a3 (σ)).bind fun q1 => (if q1.1 = 0 then jn_X7_journeys_17   q1.2 else (fn_X7_isWithin a4 0 3 q1.2).bind fun q5 => (if q5.1 = 0 then jn_X7_journeys_17   q5.2 else (fn_X7_refusalOfElements a1 a2 q5.2).bind fun q7 => (if q7.1 = 0 then (fn_X7_areStamps a1 a2 q7.2).bind fun q27 => (if q27.1 = 0 then jn_X7_journeys_50  a1 a2 a3 a4 (-5) q27.2 else jn_X7_journeys_50  a1 a2 a3 a4 q7.1 q27.2) else jn_X7_journeys_50  a1 a2 a3 a4 q7.1 q7.2)))
set_option maxRecDepth 100000 in
theorem ok_X7_journeys (l : Launch) (a1 : Int32) (a2 : Int32) (a3 : Int32) (a4 : Int32) (σ : am_S) {q : Int32 × am_S} (h : fn_X7_journeys a1 a2 a3 a4 σ = some q) : am_M l yX7_journeys cX7_journeys 6 (some .int) 4 [am_r 0 0 0, am_i a1, am_i a2, am_i a3, am_i a4] σ (some (am_i q.1)) q.2 := by
  refine am_M_of (P := am_p7) (by decide +kernel) am_p7_ok rfl ?_
  intro G p e s m args below meth c X hr
  have hc := ct_X7_journeys
  unfold fn_X7_journeys at h
  refine am_blk hc X 0 1 (fr' := (1, [(0, am_r 0 0 0), (1, am_i a1), (2, am_i a2), (3, am_i a3), (4, am_i a4)], [am_i a3], σ)) rfl ⟨trivial, trivial⟩ ?_
  obtain ⟨q1, hq2, h⟩ := am_bs h
  refine am_callS hc 1 X (As := [am_i a3]) (rest := []) rfl (ok_X7_isValley l a3 (σ) hq2) yv_X7_isValley ml_X7_132 rfl rfl rfl rfl rfl ?_
  refine am_if_eq hc X 2 (tgt := 17) rfl (by decide) (fun c32 => ?_) (fun c32 => ?_)
  · replace h := am_ip c32 h
    refine am_less [0] rfl ?_
    exact jl_X7_journeys_17 X hr    _ h
  · replace h := am_in2 c32 h
    refine am_blk hc X 3 3 (fr' := (11, [(0, am_r 0 0 0), (1, am_i a1), (2, am_i a2), (3, am_i a3), (4, am_i a4)], [am_i 3, am_i 0, am_i a4], q1.2)) rfl ⟨trivial, trivial, trivial, trivial⟩ ?_
    obtain ⟨q5, hq6, h⟩ := am_bs h
    refine am_callS hc 6 X (As := [am_i a4, am_i 0, am_i 3]) (rest := []) rfl (ok_X7_isWithin l a4 0 3 q1.2 hq6) yv_X7_isWithin ml_X7_73 rfl rfl rfl rfl rfl ?_
    refine am_if_ne hc X 7 (tgt := 24) rfl (by decide) (fun c31 => ?_) (fun c31 => ?_)
    · replace h := am_in2 c31 h
      refine am_blk hc X 12 3 (fr' := (27, [(0, am_r 0 0 0), (1, am_i a1), (2, am_i a2), (3, am_i a3), (4, am_i a4)], [am_i a2, am_i a1, am_r 0 0 0], q5.2)) rfl ⟨trivial, trivial, trivial, trivial⟩ ?_
      obtain ⟨q7, hq8, h⟩ := am_bs h
      refine am_callV hc 15 X (k := 0) (i := 0) (o := 0) (As := [am_i a1, am_i a2]) (rest := []) rfl (ok_X7_refusalOfElements l a1 a2 q5.2 hq8) yv_X7_refusalOfElements ml_X7_239 (cl_0) rfl rfl rfl rfl rfl ?_
      refine am_blk hc X 16 2 (fr' := (34, [(0, am_r 0 0 0), (1, am_i a1), (2, am_i a2), (3, am_i a3), (4, am_i a4), (5, am_i q7.1)], [am_i q7.1], q7.2)) rfl ⟨trivial, trivial, trivial⟩ ?_
      refine am_if_ne hc X 18 (tgt := 50) rfl (by decide) (fun c30 => ?_) (fun c30 => ?_)
      · replace h := am_in2 c30 h
        exact jl_X7_journeys_50 X hr   a1 a2 a3 a4 q7.1 _ h
      · replace h := am_ip c30 h
        refine am_blk hc X 19 3 (fr' := (40, [(0, am_r 0 0 0), (1, am_i a1), (2, am_i a2), (3, am_i a3), (4, am_i a4), (5, am_i q7.1)], [am_i a2, am_i a1, am_r 0 0 0], q7.2)) rfl ⟨trivial, trivial, trivial, trivial⟩ ?_
        obtain ⟨q27, hq28, h⟩ := am_bs h
        refine am_callV hc 22 X (k := 0) (i := 0) (o := 0) (As := [am_i a1, am_i a2]) (rest := []) rfl (ok_X7_areStamps l a1 a2 q7.2 hq28) yv_X7_areStamps ml_X7_242 (cl_0) rfl rfl rfl rfl rfl ?_
        refine am_if_ne hc X 23 (tgt := 50) rfl (by decide) (fun c29 => ?_) (fun c29 => ?_)
        · replace h := am_in2 c29 h
          exact jl_X7_journeys_50 X hr   a1 a2 a3 a4 q7.1 _ h
        · replace h := am_ip c29 h
          refine am_blk hc X 24 2 (fr' := (50, [(0, am_r 0 0 0), (1, am_i a1), (2, am_i a2), (3, am_i a3), (4, am_i a4), (5, am_i (-5))], [], q27.2)) rfl ⟨trivial, trivial, trivial⟩ ?_
          exact jl_X7_journeys_50 X hr   a1 a2 a3 a4 (-5) _ h
    · replace h := am_ip c31 h
      refine am_less [0] rfl ?_
      exact jl_X7_journeys_17 X hr    _ h
def jn_X7_judge_22  (x1 : Int32) (x2 : Int32) (x3 : Int32) (y0 : Int32) (σ : am_S) : Option (Int32 × am_S) :=
  (if y0 = 0 then (bif am_in x1 8 then (fn_X1_findWrong_13 1 ((x1 : Int32).toNatClampNeg) x2 x3 (σ)).bind fun q4 => some (q4.1, q4.2) else none) else (fn_X7_refuse y0 (σ)).bind fun q6 => some (q6.1, q6.2))
set_option maxRecDepth 100000 in
theorem jl_X7_judge_22 {p : Program} {l : Launch} {e : Env} {s : State} {m : MethodId} {args : Array Value} {below : List Frame} {meth : Method} {c : Code} {G : am_G} {q : Int32 × am_S} (X : am_X p s m args c cX7_judge yX7_judge.cls 5 am_p7 G (am_fr G)) (hr : meth.sig.returnType = (some .int) ∧ meth.locks = false)    (x1 : Int32) (x2 : Int32) (x3 : Int32) (y0 : Int32) (σ : am_S) (h : jn_X7_judge_22  x1 x2 x3 y0 σ = some q) : am_A p l e (am_ro 6) s m args below meth c 5 G (am_fr G) 0 0 (MQ below (am_Qc G (some (am_i q.1)) q.2) args s 0 0 (am_fr G)) (22, [(0, am_r 0 0 0), (1, am_i x1), (2, am_i x2), (3, am_i x3)], [am_i y0], σ) := by
  have hc := ct_X7_judge
  unfold jn_X7_judge_22 at h
  refine am_blk hc X 11 2 (fr' := (26, [(0, am_r 0 0 0), (1, am_i x1), (2, am_i x2), (3, am_i x3), (4, am_i y0)], [am_i y0], σ)) rfl ⟨trivial, trivial, trivial⟩ ?_
  refine am_if_eq hc X 13 (tgt := 36) rfl (by decide) (fun c8 => ?_) (fun c8 => ?_)
  · replace h := am_ip c8 h
    obtain ⟨ob3, h⟩ := am_ci h
    refine am_blk hc X 18 11 (fr' := (55, [(0, am_r 0 0 0), (1, am_i x1), (2, am_i x2), (3, am_i x3), (4, am_i y0)], [am_i x3, am_i x2, am_r 10 13 ((x1 : Int32).toNatClampNeg), am_r 1 2 0, am_r 15 32 0], σ)) rfl ⟨trivial, trivial, trivial, trivial, trivial, trivial, trivial, trivial, (am_in_vp ob3), trivial, trivial, trivial⟩ ?_
    obtain ⟨q4, hq5, h⟩ := am_bs h
    refine am_callV hc 29 X (k := 32) (i := 0) (o := 15) (As := [am_r 1 2 0, am_r 10 13 ((x1 : Int32).toNatClampNeg), am_i x2, am_i x3]) (rest := []) rfl (ok_X1_findWrong_13 l 1 ((x1 : Int32).toNatClampNeg) x2 x3 (σ) hq5) yv_X1_findWrong ml_X7_266 (cl_32) rfl rfl rfl rfl rfl ?_
    obtain rfl := Option.some.inj h
    exact am_iret hc X hr 30 rfl rfl rfl
  · replace h := am_in2 c8 h
    refine am_blk hc X 14 2 (fr' := (32, [(0, am_r 0 0 0), (1, am_i x1), (2, am_i x2), (3, am_i x3), (4, am_i y0)], [am_i y0, am_r 0 0 0], σ)) rfl ⟨trivial, trivial, trivial⟩ ?_
    obtain ⟨q6, hq7, h⟩ := am_bs h
    refine am_callV hc 16 X (k := 0) (i := 0) (o := 0) (As := [am_i y0]) (rest := []) rfl (ok_X7_refuse l y0 (σ) hq7) yv_X7_refuse ml_X7_77 (cl_0) rfl rfl rfl rfl rfl ?_
    obtain rfl := Option.some.inj h
    exact am_iret hc X hr 17 rfl rfl rfl
def fn_X7_judge (a1 : Int32) (a2 : Int32) (a3 : Int32) (σ : am_S) : Option (Int32 × am_S) :=
  (fn_X0_hasPerson 1 a3 (σ)).bind fun q1 => (if q1.1 = 0 then jn_X7_judge_22  a1 a2 a3 (-2) q1.2 else (fn_X7_refusalOfElements a1 a2 q1.2).bind fun q9 => jn_X7_judge_22  a1 a2 a3 q9.1 q9.2)
set_option maxRecDepth 100000 in
theorem ok_X7_judge (l : Launch) (a1 : Int32) (a2 : Int32) (a3 : Int32) (σ : am_S) {q : Int32 × am_S} (h : fn_X7_judge a1 a2 a3 σ = some q) : am_M l yX7_judge cX7_judge 5 (some .int) 6 [am_r 0 0 0, am_i a1, am_i a2, am_i a3] σ (some (am_i q.1)) q.2 := by
  refine am_M_of (P := am_p7) (by decide +kernel) am_p7_ok rfl ?_
  intro G p e s m args below meth c X hr
  have hc := ct_X7_judge
  unfold fn_X7_judge at h
  refine am_blk hc X 0 3 (fr' := (5, [(0, am_r 0 0 0), (1, am_i a1), (2, am_i a2), (3, am_i a3)], [am_i a3, am_r 1 2 0], σ)) rfl ⟨trivial, trivial, trivial, trivial⟩ ?_
  obtain ⟨q1, hq2, h⟩ := am_bs h
  refine am_callV hc 3 X (k := 2) (i := 0) (o := 1) (As := [am_i a3]) (rest := []) rfl (ok_X0_hasPerson l 1 a3 (σ) hq2) yv_X0_hasPerson ml_X7_114 (cl_2) rfl rfl rfl rfl rfl ?_
  refine am_if_eq hc X 4 (tgt := 20) rfl (by decide) (fun c11 => ?_) (fun c11 => ?_)
  · replace h := am_ip c11 h
    refine am_blk hc X 10 1 (fr' := (22, [(0, am_r 0 0 0), (1, am_i a1), (2, am_i a2), (3, am_i a3)], [am_i (-2)], q1.2)) rfl ⟨trivial, trivial⟩ ?_
    exact jl_X7_judge_22 X hr   a1 a2 a3 (-2) _ h
  · replace h := am_in2 c11 h
    refine am_blk hc X 5 3 (fr' := (14, [(0, am_r 0 0 0), (1, am_i a1), (2, am_i a2), (3, am_i a3)], [am_i a2, am_i a1, am_r 0 0 0], q1.2)) rfl ⟨trivial, trivial, trivial, trivial⟩ ?_
    obtain ⟨q9, hq10, h⟩ := am_bs h
    refine am_callV hc 8 X (k := 0) (i := 0) (o := 0) (As := [am_i a1, am_i a2]) (rest := []) rfl (ok_X7_refusalOfElements l a1 a2 q1.2 hq10) yv_X7_refusalOfElements ml_X7_239 (cl_0) rfl rfl rfl rfl rfl ?_
    refine am_blk hc X 9 1 (fr' := (22, [(0, am_r 0 0 0), (1, am_i a1), (2, am_i a2), (3, am_i a3)], [am_i q9.1], q9.2)) rfl ⟨trivial, trivial⟩ ?_
    exact jl_X7_judge_22 X hr   a1 a2 a3 q9.1 _ h
def fn_X7_land  (σ : am_S) : Option (Int32 × am_S) :=
  (fn_X4_readLand 1 (σ)).bind fun q1 => (if 0 ≤ q1.1 then (fn_X0_becomes 1 3 (am_u q1.2 11 14 0 2 0)).bind fun q3 => some (q1.1, q3) else (fn_X7_refuse (-2) (am_u q1.2 11 14 0 2 0)).bind fun q5 => some (q1.1, q5.2))
set_option maxRecDepth 100000 in
theorem ok_X7_land (l : Launch)  (σ : am_S) {q : Int32 × am_S} (h : fn_X7_land  σ = some q) : am_M l yX7_land cX7_land 2 (some .int) 8 [am_r 0 0 0] σ (some (am_i q.1)) q.2 := by
  refine am_M_of (P := am_p7) (by decide +kernel) am_p7_ok rfl ?_
  intro G p e s m args below meth c X hr
  have hc := ct_X7_land
  unfold fn_X7_land at h
  refine am_blk hc X 0 4 (fr' := (8, [(0, am_r 0 0 0)], [am_r 1 2 0, am_r 11 14 0], σ)) rfl ⟨trivial, trivial, trivial, trivial, trivial⟩ ?_
  obtain ⟨q1, hq2, h⟩ := am_bs h
  refine am_callV hc 4 X (k := 14) (i := 0) (o := 11) (As := [am_r 1 2 0]) (rest := []) rfl (ok_X4_readLand l 1 (σ) hq2) yv_X4_readLand ml_X7_177 (cl_14) rfl rfl rfl rfl rfl ?_
  refine am_blk hc X 5 6 (fr' := (21, [(0, am_r 0 0 0), (1, am_i q1.1)], [am_i q1.1], (am_u q1.2 11 14 0 2 0))) rfl ⟨trivial, trivial, trivial, trivial, trivial, trivial, trivial⟩ ?_
  refine am_if_ge hc X 11 (tgt := 33) rfl (by decide) (fun c7 => ?_) (fun c7 => ?_)
  · replace h := am_ip c7 h
    refine am_blk hc X 18 5 (fr' := (44, [(0, am_r 0 0 0), (1, am_i q1.1)], [am_r 3 2 0, am_r 1 2 0], (am_u q1.2 11 14 0 2 0))) rfl ⟨trivial, trivial, trivial, trivial, trivial, trivial⟩ ?_
    obtain ⟨q3, hq4, h⟩ := am_bs h
    refine am_callV hc 23 X (k := 2) (i := 0) (o := 1) (As := [am_r 3 2 0]) (rest := []) rfl (ok_X0_becomes l 1 3 (am_u q1.2 11 14 0 2 0) hq4) yv_X0_becomes ml_X7_184 (cl_2) rfl rfl rfl rfl rfl ?_
    refine am_blk hc X 24 1 (fr' := (48, [(0, am_r 0 0 0), (1, am_i q1.1)], [am_i q1.1], q3)) rfl ⟨trivial, trivial⟩ ?_
    obtain rfl := Option.some.inj h
    exact am_iret hc X hr 25 rfl rfl rfl
  · replace h := am_in2 c7 h
    refine am_blk hc X 12 2 (fr' := (27, [(0, am_r 0 0 0), (1, am_i q1.1)], [am_i (-2), am_r 0 0 0], (am_u q1.2 11 14 0 2 0))) rfl ⟨trivial, trivial, trivial⟩ ?_
    obtain ⟨q5, hq6, h⟩ := am_bs h
    refine am_callV hc 14 X (k := 0) (i := 0) (o := 0) (As := [am_i (-2)]) (rest := []) rfl (ok_X7_refuse l (-2) (am_u q1.2 11 14 0 2 0) hq6) yv_X7_refuse ml_X7_77 (cl_0) rfl rfl rfl rfl rfl ?_
    refine am_blk hc X 15 2 (fr' := (32, [(0, am_r 0 0 0), (1, am_i q1.1)], [am_i q1.1], q5.2)) rfl ⟨trivial, trivial, trivial⟩ ?_
    obtain rfl := Option.some.inj h
    exact am_iret hc X hr 17 rfl rfl rfl
def fn_X7_longest (a1 : Int32) (σ : am_S) : Option (Int32 × am_S) :=
  (fn_X0_hasPerson 1 a1 (σ)).bind fun q1 => (if q1.1 = 0 then (fn_X7_refuse (-2) q1.2).bind fun q5 => some (q5.1, q5.2) else (bif am_in a1 6 then (if (q1.2.1 1 8 ((a1 : Int32).toNatClampNeg) 3) = 6 then some (0, q1.2) else some ((((20 : Int32) - (q1.2.1 1 8 ((a1 : Int32).toNatClampNeg) 6)) / (2 : Int32)), q1.2)) else none))
set_option maxRecDepth 100000 in
theorem ok_X7_longest (l : Launch) (a1 : Int32) (σ : am_S) {q : Int32 × am_S} (h : fn_X7_longest a1 σ = some q) : am_M l yX7_longest cX7_longest 3 (some .int) 2 [am_r 0 0 0, am_i a1] σ (some (am_i q.1)) q.2 := by
  refine am_M_of (P := am_p7) (by decide +kernel) am_p7_ok rfl ?_
  intro G p e s m args below meth c X hr
  have hc := ct_X7_longest
  unfold fn_X7_longest at h
  refine am_blk hc X 0 3 (fr' := (5, [(0, am_r 0 0 0), (1, am_i a1)], [am_i a1, am_r 1 2 0], σ)) rfl ⟨trivial, trivial, trivial, trivial⟩ ?_
  obtain ⟨q1, hq2, h⟩ := am_bs h
  refine am_callV hc 3 X (k := 2) (i := 0) (o := 1) (As := [am_i a1]) (rest := []) rfl (ok_X0_hasPerson l 1 a1 (σ) hq2) yv_X0_hasPerson ml_X7_114 (cl_2) rfl rfl rfl rfl rfl ?_
  refine am_if_ne hc X 4 (tgt := 18) rfl (by decide) (fun c7 => ?_) (fun c7 => ?_)
  · replace h := am_in2 c7 h
    obtain ⟨ob3, h⟩ := am_ci h
    refine am_blk hc X 9 10 (fr' := (33, [(0, am_r 0 0 0), (1, am_i a1), (2, am_r 1 8 ((a1 : Int32).toNatClampNeg))], [am_i 6, am_i (q1.2.1 1 8 ((a1 : Int32).toNatClampNeg) 3)], q1.2)) rfl ⟨trivial, trivial, trivial, trivial, (am_in_vp ob3), trivial, trivial, trivial, (am_in_vp (by decide)), trivial, trivial⟩ ?_
    refine am_icmp_ne hc X 19 (tgt := 40) rfl (by decide) (fun c4 => ?_) (fun c4 => ?_)
    · replace h := am_in2 c4 h
      refine am_blk hc X 22 7 (fr' := (49, [(0, am_r 0 0 0), (1, am_i a1), (2, am_r 1 8 ((a1 : Int32).toNatClampNeg))], [am_i (((20 : Int32) - (q1.2.1 1 8 ((a1 : Int32).toNatClampNeg) 6)) / (2 : Int32))], q1.2)) rfl ⟨trivial, trivial, trivial, (am_in_vp (by decide)), trivial, trivial, (by decide), trivial⟩ ?_
      obtain rfl := Option.some.inj h
      exact am_iret hc X hr 29 rfl rfl rfl
    · replace h := am_ip c4 h
      refine am_blk hc X 20 2 (fr' := (49, [(0, am_r 0 0 0), (1, am_i a1), (2, am_r 1 8 ((a1 : Int32).toNatClampNeg))], [am_i 0], q1.2)) rfl ⟨trivial, trivial, trivial⟩ ?_
      obtain rfl := Option.some.inj h
      exact am_iret hc X hr 29 rfl rfl rfl
  · replace h := am_ip c7 h
    refine am_blk hc X 5 2 (fr' := (14, [(0, am_r 0 0 0), (1, am_i a1)], [am_i (-2), am_r 0 0 0], q1.2)) rfl ⟨trivial, trivial, trivial⟩ ?_
    obtain ⟨q5, hq6, h⟩ := am_bs h
    refine am_callV hc 7 X (k := 0) (i := 0) (o := 0) (As := [am_i (-2)]) (rest := []) rfl (ok_X7_refuse l (-2) q1.2 hq6) yv_X7_refuse ml_X7_77 (cl_0) rfl rfl rfl rfl rfl ?_
    obtain rfl := Option.some.inj h
    exact am_iret hc X hr 8 rfl rfl rfl
def fn_X7_market  (σ : am_S) : Option (Int32 × am_S) :=
  (fn_X6_bestPlace 1 0 (σ)).bind fun q1 => some (q1.1, q1.2)
set_option maxRecDepth 100000 in
theorem ok_X7_market (l : Launch)  (σ : am_S) {q : Int32 × am_S} (h : fn_X7_market  σ = some q) : am_M l yX7_market cX7_market 1 (some .int) 6 [am_r 0 0 0] σ (some (am_i q.1)) q.2 := by
  refine am_M_of (P := am_p7) (by decide +kernel) am_p7_ok rfl ?_
  intro G p e s m args below meth c X hr
  have hc := ct_X7_market
  unfold fn_X7_market at h
  refine am_blk hc X 0 5 (fr' := (9, [(0, am_r 0 0 0)], [am_i 0, am_r 1 2 0, am_r 12 17 0], σ)) rfl ⟨trivial, trivial, trivial, trivial, trivial, trivial⟩ ?_
  obtain ⟨q1, hq2, h⟩ := am_bs h
  refine am_callV hc 5 X (k := 17) (i := 0) (o := 12) (As := [am_r 1 2 0, am_i 0]) (rest := []) rfl (ok_X6_bestPlace l 1 0 (σ) hq2) yv_X6_bestPlace ml_X7_232 (cl_17) rfl rfl rfl rfl rfl ?_
  obtain rfl := Option.some.inj h
  exact am_iret hc X hr 6 rfl rfl rfl
def fn_X7_meet (a1 : Int32) (σ : am_S) : Option (Int32 × am_S) :=
  (fn_X7_isWithin a1 0 1 (σ)).bind fun q1 => (if q1.1 = 0 then (fn_X7_refuse (-2) q1.2).bind fun q7 => some (q7.1, q7.2) else (fn_X6_bestPlace 1 1 q1.2).bind fun q3 => (if a1 = 0 then some (q3.1, q3.2) else (bif am_in q3.1 7 then some ((q3.2.1 12 21 0 ((q3.1 : Int32).toNatClampNeg)), q3.2) else none)))
set_option maxRecDepth 100000 in
theorem ok_X7_meet (l : Launch) (a1 : Int32) (σ : am_S) {q : Int32 × am_S} (h : fn_X7_meet a1 σ = some q) : am_M l yX7_meet cX7_meet 3 (some .int) 6 [am_r 0 0 0, am_i a1] σ (some (am_i q.1)) q.2 := by
  refine am_M_of (P := am_p7) (by decide +kernel) am_p7_ok rfl ?_
  intro G p e s m args below meth c X hr
  have hc := ct_X7_meet
  unfold fn_X7_meet at h
  refine am_blk hc X 0 3 (fr' := (3, [(0, am_r 0 0 0), (1, am_i a1)], [am_i 1, am_i 0, am_i a1], σ)) rfl ⟨trivial, trivial, trivial, trivial⟩ ?_
  obtain ⟨q1, hq2, h⟩ := am_bs h
  refine am_callS hc 3 X (As := [am_i a1, am_i 0, am_i 1]) (rest := []) rfl (ok_X7_isWithin l a1 0 1 (σ) hq2) yv_X7_isWithin ml_X7_73 rfl rfl rfl rfl rfl ?_
  refine am_if_ne hc X 4 (tgt := 16) rfl (by decide) (fun c9 => ?_) (fun c9 => ?_)
  · replace h := am_in2 c9 h
    refine am_blk hc X 9 5 (fr' := (25, [(0, am_r 0 0 0), (1, am_i a1)], [am_i 1, am_r 1 2 0, am_r 12 17 0], q1.2)) rfl ⟨trivial, trivial, trivial, trivial, trivial, trivial⟩ ?_
    obtain ⟨q3, hq4, h⟩ := am_bs h
    refine am_callV hc 14 X (k := 17) (i := 0) (o := 12) (As := [am_r 1 2 0, am_i 1]) (rest := []) rfl (ok_X6_bestPlace l 1 1 q1.2 hq4) yv_X6_bestPlace ml_X7_232 (cl_17) rfl rfl rfl rfl rfl ?_
    refine am_blk hc X 15 2 (fr' := (30, [(0, am_r 0 0 0), (1, am_i a1), (2, am_i q3.1)], [am_i a1], q3.2)) rfl ⟨trivial, trivial, trivial⟩ ?_
    refine am_if_ne hc X 17 (tgt := 37) rfl (by decide) (fun c6 => ?_) (fun c6 => ?_)
    · replace h := am_in2 c6 h
      obtain ⟨ob5, h⟩ := am_ci h
      refine am_blk hc X 20 5 (fr' := (46, [(0, am_r 0 0 0), (1, am_i a1), (2, am_i q3.1)], [am_i (q3.2.1 12 21 0 ((q3.1 : Int32).toNatClampNeg))], q3.2)) rfl ⟨trivial, trivial, trivial, trivial, (am_in_vp ob5), trivial⟩ ?_
      obtain rfl := Option.some.inj h
      exact am_iret hc X hr 25 rfl rfl rfl
    · replace h := am_ip c6 h
      refine am_blk hc X 18 2 (fr' := (46, [(0, am_r 0 0 0), (1, am_i a1), (2, am_i q3.1)], [am_i q3.1], q3.2)) rfl ⟨trivial, trivial, trivial⟩ ?_
      obtain rfl := Option.some.inj h
      exact am_iret hc X hr 25 rfl rfl rfl
  · replace h := am_ip c9 h
    refine am_blk hc X 5 2 (fr' := (12, [(0, am_r 0 0 0), (1, am_i a1)], [am_i (-2), am_r 0 0 0], q1.2)) rfl ⟨trivial, trivial, trivial⟩ ?_
    obtain ⟨q7, hq8, h⟩ := am_bs h
    refine am_callV hc 7 X (k := 0) (i := 0) (o := 0) (As := [am_i (-2)]) (rest := []) rfl (ok_X7_refuse l (-2) q1.2 hq8) yv_X7_refuse ml_X7_77 (cl_0) rfl rfl rfl rfl rfl ?_
    obtain rfl := Option.some.inj h
    exact am_iret hc X hr 8 rfl rfl rfl
def fn_X7_mostOfFact (a0 : Int32) (σ : am_S) : Option (Int32 × am_S) :=
  (if a0 = 5 then some (999, σ) else (if a0 = 6 then some (20, σ) else some (6, σ)))
set_option maxRecDepth 100000 in
theorem ok_X7_mostOfFact (l : Launch) (a0 : Int32) (σ : am_S) {q : Int32 × am_S} (h : fn_X7_mostOfFact a0 σ = some q) : am_M l yX7_mostOfFact cX7_mostOfFact 1 (some .int) 0 [am_i a0] σ (some (am_i q.1)) q.2 := by
  refine am_M_of (P := am_p7) (by decide +kernel) am_p7_ok rfl ?_
  intro G p e s m args below meth c X hr
  have hc := ct_X7_mostOfFact
  unfold fn_X7_mostOfFact at h
  refine am_blk hc X 0 1 (fr' := (1, [(0, am_i a0)], [am_i a0], σ)) rfl ⟨trivial, trivial⟩ ?_
  by_cases c1 : a0 = 5
  · replace h := am_ip c1 h
    refine am_look hc X 1 (tgt := 28) (off := 27) rfl (by decide) (by rw [c1]; rfl) (by decide) ?_
    refine am_blk hc X 2 1 (fr' := (31, [(0, am_i a0)], [am_i 999], σ)) rfl ⟨trivial, trivial⟩ ?_
    obtain rfl := Option.some.inj h
    exact am_iret hc X hr 3 rfl rfl rfl
  · replace h := am_in2 c1 h
    by_cases c2 : a0 = 6
    · replace h := am_ip c2 h
      refine am_look hc X 1 (tgt := 32) (off := 31) rfl (by decide) (by rw [c2]; rfl) (by decide) ?_
      refine am_blk hc X 4 1 (fr' := (34, [(0, am_i a0)], [am_i 20], σ)) rfl ⟨trivial, trivial⟩ ?_
      obtain rfl := Option.some.inj h
      exact am_iret hc X hr 5 rfl rfl rfl
    · replace h := am_in2 c2 h
      refine am_look hc X 1 (tgt := 35) (off := 34) rfl (by decide) ((lv_osw c1 rfl).trans ((lv_osw c2 rfl).trans (rfl))) (by decide) ?_
      refine am_blk hc X 6 1 (fr' := (37, [(0, am_i a0)], [am_i 6], σ)) rfl ⟨trivial, trivial⟩ ?_
      obtain rfl := Option.some.inj h
      exact am_iret hc X hr 7 rfl rfl rfl
def jn_X7_pass_40   (σ : am_S) : Option (Int32 × am_S) :=
  (fn_X7_refuse (-2) (σ)).bind fun q3 => some (q3.1, q3.2)
set_option maxRecDepth 100000 in
theorem jl_X7_pass_40 {p : Program} {l : Launch} {e : Env} {s : State} {m : MethodId} {args : Array Value} {below : List Frame} {meth : Method} {c : Code} {G : am_G} {q : Int32 × am_S} (X : am_X p s m args c cX7_pass yX7_pass.cls 5 am_p7 G (am_fr G)) (hr : meth.sig.returnType = (some .int) ∧ meth.locks = false)     (σ : am_S) (h : jn_X7_pass_40   σ = some q) : am_A p l e (am_ro 2) s m args below meth c 5 G (am_fr G) 0 0 (MQ below (am_Qc G (some (am_i q.1)) q.2) args s 0 0 (am_fr G)) (40, [(0, am_r 0 0 0)], [], σ) := by
  have hc := ct_X7_pass
  unfold jn_X7_pass_40 at h
  refine am_blk hc X 19 2 (fr' := (43, [(0, am_r 0 0 0)], [am_i (-2), am_r 0 0 0], σ)) rfl ⟨trivial, trivial, trivial⟩ ?_
  obtain ⟨q3, hq4, h⟩ := am_bs h
  refine am_callV hc 21 X (k := 0) (i := 0) (o := 0) (As := [am_i (-2)]) (rest := []) rfl (ok_X7_refuse l (-2) (σ) hq4) yv_X7_refuse ml_X7_77 (cl_0) rfl rfl rfl rfl rfl ?_
  obtain rfl := Option.some.inj h
  exact am_iret hc X hr 22 rfl rfl rfl
def fn_X7_pass (a1 : Int32) (a2 : Int32) (a3 : Int32) (a4 : Int32) (σ : am_S) : Option (Int32 × am_S) :=
  (fn_X7_isValley a1 (σ)).bind fun q1 => (if q1.1 = 0 then jn_X7_pass_40   q1.2 else (fn_X7_isValley a2 q1.2).bind fun q5 => (if q5.1 = 0 then jn_X7_pass_40   q5.2 else (if a1 = a2 then jn_X7_pass_40   q5.2 else (fn_X7_isWithin a3 0 9 q5.2).bind fun q7 => (if q7.1 = 0 then jn_X7_pass_40   q7.2 else (fn_X7_isWithin a4 1 12 q7.2).bind fun q9 => (if q9.1 = 0 then jn_X7_pass_40   q9.2 else (if (q9.2.1 1 2 0 3) < 3 then (fn_X0_addPass 1 a1 a2 a3 a4 q9.2).bind fun q11 => some (q11.1, q11.2) else (fn_X7_refuse (-6) q9.2).bind fun q13 => some (q13.1, q13.2)))))))
set_option maxRecDepth 100000 in
theorem ok_X7_pass (l : Launch) (a1 : Int32) (a2 : Int32) (a3 : Int32) (a4 : Int32) (σ : am_S) {q : Int32 × am_S} (h : fn_X7_pass a1 a2 a3 a4 σ = some q) : am_M l yX7_pass cX7_pass 5 (some .int) 2 [am_r 0 0 0, am_i a1, am_i a2, am_i a3, am_i a4] σ (some (am_i q.1)) q.2 := by
  refine am_M_of (P := am_p7) (by decide +kernel) am_p7_ok rfl ?_
  intro G p e s m args below meth c X hr
  have hc := ct_X7_pass
  unfold fn_X7_pass at h
  refine am_blk hc X 0 1 (fr' := (1, [(0, am_r 0 0 0), (1, am_i a1), (2, am_i a2), (3, am_i a3), (4, am_i a4)], [am_i a1], σ)) rfl ⟨trivial, trivial⟩ ?_
  obtain ⟨q1, hq2, h⟩ := am_bs h
  refine am_callS hc 1 X (As := [am_i a1]) (rest := []) rfl (ok_X7_isValley l a1 (σ) hq2) yv_X7_isValley ml_X7_132 rfl rfl rfl rfl rfl ?_
  refine am_if_eq hc X 2 (tgt := 40) rfl (by decide) (fun c20 => ?_) (fun c20 => ?_)
  · replace h := am_ip c20 h
    refine am_less [0] rfl ?_
    exact jl_X7_pass_40 X hr    _ h
  · replace h := am_in2 c20 h
    refine am_blk hc X 3 1 (fr' := (8, [(0, am_r 0 0 0), (1, am_i a1), (2, am_i a2), (3, am_i a3), (4, am_i a4)], [am_i a2], q1.2)) rfl ⟨trivial, trivial⟩ ?_
    obtain ⟨q5, hq6, h⟩ := am_bs h
    refine am_callS hc 4 X (As := [am_i a2]) (rest := []) rfl (ok_X7_isValley l a2 q1.2 hq6) yv_X7_isValley ml_X7_132 rfl rfl rfl rfl rfl ?_
    refine am_if_eq hc X 5 (tgt := 40) rfl (by decide) (fun c19 => ?_) (fun c19 => ?_)
    · replace h := am_ip c19 h
      refine am_less [0] rfl ?_
      exact jl_X7_pass_40 X hr    _ h
    · replace h := am_in2 c19 h
      refine am_blk hc X 6 2 (fr' := (16, [(0, am_r 0 0 0), (1, am_i a1), (2, am_i a2), (3, am_i a3), (4, am_i a4)], [am_i a2, am_i a1], q5.2)) rfl ⟨trivial, trivial, trivial⟩ ?_
      refine am_icmp_eq hc X 8 (tgt := 40) rfl (by decide) (fun c18 => ?_) (fun c18 => ?_)
      · replace h := am_ip c18 h
        refine am_less [0] rfl ?_
        exact jl_X7_pass_40 X hr    _ h
      · replace h := am_in2 c18 h
        refine am_blk hc X 9 3 (fr' := (23, [(0, am_r 0 0 0), (1, am_i a1), (2, am_i a2), (3, am_i a3), (4, am_i a4)], [am_i 9, am_i 0, am_i a3], q5.2)) rfl ⟨trivial, trivial, trivial, trivial⟩ ?_
        obtain ⟨q7, hq8, h⟩ := am_bs h
        refine am_callS hc 12 X (As := [am_i a3, am_i 0, am_i 9]) (rest := []) rfl (ok_X7_isWithin l a3 0 9 q5.2 hq8) yv_X7_isWithin ml_X7_73 rfl rfl rfl rfl rfl ?_
        refine am_if_eq hc X 13 (tgt := 40) rfl (by decide) (fun c17 => ?_) (fun c17 => ?_)
        · replace h := am_ip c17 h
          refine am_less [0] rfl ?_
          exact jl_X7_pass_40 X hr    _ h
        · replace h := am_in2 c17 h
          refine am_blk hc X 14 3 (fr' := (34, [(0, am_r 0 0 0), (1, am_i a1), (2, am_i a2), (3, am_i a3), (4, am_i a4)], [am_i 12, am_i 1, am_i a4], q7.2)) rfl ⟨trivial, trivial, trivial, trivial⟩ ?_
          obtain ⟨q9, hq10, h⟩ := am_bs h
          refine am_callS hc 17 X (As := [am_i a4, am_i 1, am_i 12]) (rest := []) rfl (ok_X7_isWithin l a4 1 12 q7.2 hq10) yv_X7_isWithin ml_X7_73 rfl rfl rfl rfl rfl ?_
          refine am_if_ne hc X 18 (tgt := 47) rfl (by decide) (fun c16 => ?_) (fun c16 => ?_)
          · replace h := am_in2 c16 h
            refine am_blk hc X 23 4 (fr' := (55, [(0, am_r 0 0 0), (1, am_i a1), (2, am_i a2), (3, am_i a3), (4, am_i a4)], [am_i 3, am_i (q9.2.1 1 2 0 3)], q9.2)) rfl ⟨trivial, trivial, trivial, trivial, trivial⟩ ?_
            refine am_icmp_lt hc X 27 (tgt := 67) rfl (by decide) (fun c15 => ?_) (fun c15 => ?_)
            · replace h := am_ip c15 h
              refine am_blk hc X 32 6 (fr' := (76, [(0, am_r 0 0 0), (1, am_i a1), (2, am_i a2), (3, am_i a3), (4, am_i a4)], [am_i a4, am_i a3, am_i a2, am_i a1, am_r 1 2 0], q9.2)) rfl ⟨trivial, trivial, trivial, trivial, trivial, trivial, trivial⟩ ?_
              obtain ⟨q11, hq12, h⟩ := am_bs h
              refine am_callV hc 38 X (k := 2) (i := 0) (o := 1) (As := [am_i a1, am_i a2, am_i a3, am_i a4]) (rest := []) rfl (ok_X0_addPass l 1 a1 a2 a3 a4 q9.2 hq12) yv_X0_addPass ml_X7_144 (cl_2) rfl rfl rfl rfl rfl ?_
              obtain rfl := Option.some.inj h
              exact am_iret hc X hr 39 rfl rfl rfl
            · replace h := am_in2 c15 h
              refine am_blk hc X 28 2 (fr' := (61, [(0, am_r 0 0 0), (1, am_i a1), (2, am_i a2), (3, am_i a3), (4, am_i a4)], [am_i (-6), am_r 0 0 0], q9.2)) rfl ⟨trivial, trivial, trivial⟩ ?_
              obtain ⟨q13, hq14, h⟩ := am_bs h
              refine am_callV hc 30 X (k := 0) (i := 0) (o := 0) (As := [am_i (-6)]) (rest := []) rfl (ok_X7_refuse l (-6) q9.2 hq14) yv_X7_refuse ml_X7_77 (cl_0) rfl rfl rfl rfl rfl ?_
              refine am_blk hc X 31 1 (fr' := (79, [(0, am_r 0 0 0), (1, am_i a1), (2, am_i a2), (3, am_i a3), (4, am_i a4)], [am_i q13.1], q13.2)) rfl ⟨trivial, trivial⟩ ?_
              obtain rfl := Option.some.inj h
              exact am_iret hc X hr 39 rfl rfl rfl
          · replace h := am_ip c16 h
            refine am_less [0] rfl ?_
            exact jl_X7_pass_40 X hr    _ h
def jn_X7_passOf_20   (σ : am_S) : Option (Int32 × am_S) :=
  (fn_X7_refuse (-2) (σ)).bind fun q3 => some (q3.1, q3.2)
set_option maxRecDepth 100000 in
theorem jl_X7_passOf_20 {p : Program} {l : Launch} {e : Env} {s : State} {m : MethodId} {args : Array Value} {below : List Frame} {meth : Method} {c : Code} {G : am_G} {q : Int32 × am_S} (X : am_X p s m args c cX7_passOf yX7_passOf.cls 3 am_p7 G (am_fr G)) (hr : meth.sig.returnType = (some .int) ∧ meth.locks = false)     (σ : am_S) (h : jn_X7_passOf_20   σ = some q) : am_A p l e (am_ro 2) s m args below meth c 3 G (am_fr G) 0 0 (MQ below (am_Qc G (some (am_i q.1)) q.2) args s 0 0 (am_fr G)) (20, [(0, am_r 0 0 0)], [], σ) := by
  have hc := ct_X7_passOf
  unfold jn_X7_passOf_20 at h
  refine am_blk hc X 10 2 (fr' := (23, [(0, am_r 0 0 0)], [am_i (-2), am_r 0 0 0], σ)) rfl ⟨trivial, trivial, trivial⟩ ?_
  obtain ⟨q3, hq4, h⟩ := am_bs h
  refine am_callV hc 12 X (k := 0) (i := 0) (o := 0) (As := [am_i (-2)]) (rest := []) rfl (ok_X7_refuse l (-2) (σ) hq4) yv_X7_refuse ml_X7_77 (cl_0) rfl rfl rfl rfl rfl ?_
  obtain rfl := Option.some.inj h
  exact am_iret hc X hr 13 rfl rfl rfl
def fn_X7_passOf (a1 : Int32) (a2 : Int32) (σ : am_S) : Option (Int32 × am_S) :=
  (fn_X0_hasPass 1 a1 (σ)).bind fun q1 => (if q1.1 = 0 then jn_X7_passOf_20   q1.2 else (fn_X7_isWithin a2 0 3 q1.2).bind fun q5 => (if q5.1 = 0 then jn_X7_passOf_20   q5.2 else (bif am_in a1 3 then (bif am_in a2 4 then some ((q5.2.1 1 6 ((a1 : Int32).toNatClampNeg) ((a2 : Int32).toNatClampNeg)), q5.2) else none) else none)))
set_option maxRecDepth 100000 in
theorem ok_X7_passOf (l : Launch) (a1 : Int32) (a2 : Int32) (σ : am_S) {q : Int32 × am_S} (h : fn_X7_passOf a1 a2 σ = some q) : am_M l yX7_passOf cX7_passOf 3 (some .int) 2 [am_r 0 0 0, am_i a1, am_i a2] σ (some (am_i q.1)) q.2 := by
  refine am_M_of (P := am_p7) (by decide +kernel) am_p7_ok rfl ?_
  intro G p e s m args below meth c X hr
  have hc := ct_X7_passOf
  unfold fn_X7_passOf at h
  refine am_blk hc X 0 3 (fr' := (5, [(0, am_r 0 0 0), (1, am_i a1), (2, am_i a2)], [am_i a1, am_r 1 2 0], σ)) rfl ⟨trivial, trivial, trivial, trivial⟩ ?_
  obtain ⟨q1, hq2, h⟩ := am_bs h
  refine am_callV hc 3 X (k := 2) (i := 0) (o := 1) (As := [am_i a1]) (rest := []) rfl (ok_X0_hasPass l 1 a1 (σ) hq2) yv_X0_hasPass ml_X7_164 (cl_2) rfl rfl rfl rfl rfl ?_
  refine am_if_eq hc X 4 (tgt := 20) rfl (by decide) (fun c10 => ?_) (fun c10 => ?_)
  · replace h := am_ip c10 h
    refine am_less [0] rfl ?_
    exact jl_X7_passOf_20 X hr    _ h
  · replace h := am_in2 c10 h
    refine am_blk hc X 5 3 (fr' := (14, [(0, am_r 0 0 0), (1, am_i a1), (2, am_i a2)], [am_i 3, am_i 0, am_i a2], q1.2)) rfl ⟨trivial, trivial, trivial, trivial⟩ ?_
    obtain ⟨q5, hq6, h⟩ := am_bs h
    refine am_callS hc 8 X (As := [am_i a2, am_i 0, am_i 3]) (rest := []) rfl (ok_X7_isWithin l a2 0 3 q1.2 hq6) yv_X7_isWithin ml_X7_73 rfl rfl rfl rfl rfl ?_
    refine am_if_ne hc X 9 (tgt := 27) rfl (by decide) (fun c9 => ?_) (fun c9 => ?_)
    · replace h := am_in2 c9 h
      obtain ⟨ob7, h⟩ := am_ci h
      obtain ⟨ob8, h⟩ := am_ci h
      refine am_blk hc X 14 7 (fr' := (38, [(0, am_r 0 0 0), (1, am_i a1), (2, am_i a2)], [am_i (q5.2.1 1 6 ((a1 : Int32).toNatClampNeg) ((a2 : Int32).toNatClampNeg))], q5.2)) rfl ⟨trivial, trivial, trivial, trivial, (am_in_vp ob7), trivial, (am_in_vp ob8), trivial⟩ ?_
      obtain rfl := Option.some.inj h
      exact am_iret hc X hr 21 rfl rfl rfl
    · replace h := am_ip c9 h
      refine am_less [0] rfl ?_
      exact jl_X7_passOf_20 X hr    _ h
def jn_X7_person_26   (σ : am_S) : Option (Int32 × am_S) :=
  (fn_X7_refuse (-2) (σ)).bind fun q3 => some (q3.1, q3.2)
set_option maxRecDepth 100000 in
theorem jl_X7_person_26 {p : Program} {l : Launch} {e : Env} {s : State} {m : MethodId} {args : Array Value} {below : List Frame} {meth : Method} {c : Code} {G : am_G} {q : Int32 × am_S} (X : am_X p s m args c cX7_person yX7_person.cls 4 am_p7 G (am_fr G)) (hr : meth.sig.returnType = (some .int) ∧ meth.locks = false)     (σ : am_S) (h : jn_X7_person_26   σ = some q) : am_A p l e (am_ro 2) s m args below meth c 4 G (am_fr G) 0 0 (MQ below (am_Qc G (some (am_i q.1)) q.2) args s 0 0 (am_fr G)) (26, [(0, am_r 0 0 0)], [], σ) := by
  have hc := ct_X7_person
  unfold jn_X7_person_26 at h
  refine am_blk hc X 13 2 (fr' := (29, [(0, am_r 0 0 0)], [am_i (-2), am_r 0 0 0], σ)) rfl ⟨trivial, trivial, trivial⟩ ?_
  obtain ⟨q3, hq4, h⟩ := am_bs h
  refine am_callV hc 15 X (k := 0) (i := 0) (o := 0) (As := [am_i (-2)]) (rest := []) rfl (ok_X7_refuse l (-2) (σ) hq4) yv_X7_refuse ml_X7_77 (cl_0) rfl rfl rfl rfl rfl ?_
  obtain rfl := Option.some.inj h
  exact am_iret hc X hr 16 rfl rfl rfl
def fn_X7_person (a1 : Int32) (a2 : Int32) (a3 : Int32) (σ : am_S) : Option (Int32 × am_S) :=
  (fn_X7_isWithin a1 0 5 (σ)).bind fun q1 => (if q1.1 = 0 then jn_X7_person_26   q1.2 else (fn_X7_isWithin a2 0 9 q1.2).bind fun q5 => (if q5.1 = 0 then jn_X7_person_26   q5.2 else (fn_X7_isValley a3 q5.2).bind fun q7 => (if q7.1 = 0 then jn_X7_person_26   q7.2 else (if (q7.2.1 1 2 0 4) < 6 then (fn_X0_addPerson 1 a1 a2 a3 q7.2).bind fun q9 => some (q9.1, q9.2) else (fn_X7_refuse (-6) q7.2).bind fun q11 => some (q11.1, q11.2)))))
set_option maxRecDepth 100000 in
theorem ok_X7_person (l : Launch) (a1 : Int32) (a2 : Int32) (a3 : Int32) (σ : am_S) {q : Int32 × am_S} (h : fn_X7_person a1 a2 a3 σ = some q) : am_M l yX7_person cX7_person 4 (some .int) 2 [am_r 0 0 0, am_i a1, am_i a2, am_i a3] σ (some (am_i q.1)) q.2 := by
  refine am_M_of (P := am_p7) (by decide +kernel) am_p7_ok rfl ?_
  intro G p e s m args below meth c X hr
  have hc := ct_X7_person
  unfold fn_X7_person at h
  refine am_blk hc X 0 3 (fr' := (3, [(0, am_r 0 0 0), (1, am_i a1), (2, am_i a2), (3, am_i a3)], [am_i 5, am_i 0, am_i a1], σ)) rfl ⟨trivial, trivial, trivial, trivial⟩ ?_
  obtain ⟨q1, hq2, h⟩ := am_bs h
  refine am_callS hc 3 X (As := [am_i a1, am_i 0, am_i 5]) (rest := []) rfl (ok_X7_isWithin l a1 0 5 (σ) hq2) yv_X7_isWithin ml_X7_73 rfl rfl rfl rfl rfl ?_
  refine am_if_eq hc X 4 (tgt := 26) rfl (by decide) (fun c16 => ?_) (fun c16 => ?_)
  · replace h := am_ip c16 h
    refine am_less [0] rfl ?_
    exact jl_X7_person_26 X hr    _ h
  · replace h := am_in2 c16 h
    refine am_blk hc X 5 3 (fr' := (13, [(0, am_r 0 0 0), (1, am_i a1), (2, am_i a2), (3, am_i a3)], [am_i 9, am_i 0, am_i a2], q1.2)) rfl ⟨trivial, trivial, trivial, trivial⟩ ?_
    obtain ⟨q5, hq6, h⟩ := am_bs h
    refine am_callS hc 8 X (As := [am_i a2, am_i 0, am_i 9]) (rest := []) rfl (ok_X7_isWithin l a2 0 9 q1.2 hq6) yv_X7_isWithin ml_X7_73 rfl rfl rfl rfl rfl ?_
    refine am_if_eq hc X 9 (tgt := 26) rfl (by decide) (fun c15 => ?_) (fun c15 => ?_)
    · replace h := am_ip c15 h
      refine am_less [0] rfl ?_
      exact jl_X7_person_26 X hr    _ h
    · replace h := am_in2 c15 h
      refine am_blk hc X 10 1 (fr' := (20, [(0, am_r 0 0 0), (1, am_i a1), (2, am_i a2), (3, am_i a3)], [am_i a3], q5.2)) rfl ⟨trivial, trivial⟩ ?_
      obtain ⟨q7, hq8, h⟩ := am_bs h
      refine am_callS hc 11 X (As := [am_i a3]) (rest := []) rfl (ok_X7_isValley l a3 q5.2 hq8) yv_X7_isValley ml_X7_132 rfl rfl rfl rfl rfl ?_
      refine am_if_ne hc X 12 (tgt := 33) rfl (by decide) (fun c14 => ?_) (fun c14 => ?_)
      · replace h := am_in2 c14 h
        refine am_blk hc X 17 4 (fr' := (42, [(0, am_r 0 0 0), (1, am_i a1), (2, am_i a2), (3, am_i a3)], [am_i 6, am_i (q7.2.1 1 2 0 4)], q7.2)) rfl ⟨trivial, trivial, trivial, trivial, trivial⟩ ?_
        refine am_icmp_lt hc X 21 (tgt := 54) rfl (by decide) (fun c13 => ?_) (fun c13 => ?_)
        · replace h := am_ip c13 h
          refine am_blk hc X 26 5 (fr' := (61, [(0, am_r 0 0 0), (1, am_i a1), (2, am_i a2), (3, am_i a3)], [am_i a3, am_i a2, am_i a1, am_r 1 2 0], q7.2)) rfl ⟨trivial, trivial, trivial, trivial, trivial, trivial⟩ ?_
          obtain ⟨q9, hq10, h⟩ := am_bs h
          refine am_callV hc 31 X (k := 2) (i := 0) (o := 1) (As := [am_i a1, am_i a2, am_i a3]) (rest := []) rfl (ok_X0_addPerson l 1 a1 a2 a3 q7.2 hq10) yv_X0_addPerson ml_X7_151 (cl_2) rfl rfl rfl rfl rfl ?_
          obtain rfl := Option.some.inj h
          exact am_iret hc X hr 32 rfl rfl rfl
        · replace h := am_in2 c13 h
          refine am_blk hc X 22 2 (fr' := (48, [(0, am_r 0 0 0), (1, am_i a1), (2, am_i a2), (3, am_i a3)], [am_i (-6), am_r 0 0 0], q7.2)) rfl ⟨trivial, trivial, trivial⟩ ?_
          obtain ⟨q11, hq12, h⟩ := am_bs h
          refine am_callV hc 24 X (k := 0) (i := 0) (o := 0) (As := [am_i (-6)]) (rest := []) rfl (ok_X7_refuse l (-6) q7.2 hq12) yv_X7_refuse ml_X7_77 (cl_0) rfl rfl rfl rfl rfl ?_
          refine am_blk hc X 25 1 (fr' := (64, [(0, am_r 0 0 0), (1, am_i a1), (2, am_i a2), (3, am_i a3)], [am_i q11.1], q11.2)) rfl ⟨trivial, trivial⟩ ?_
          obtain rfl := Option.some.inj h
          exact am_iret hc X hr 32 rfl rfl rfl
      · replace h := am_ip c14 h
        refine am_less [0] rfl ?_
        exact jl_X7_person_26 X hr    _ h
def jn_X7_personOf_21   (σ : am_S) : Option (Int32 × am_S) :=
  (fn_X7_refuse (-2) (σ)).bind fun q3 => some (q3.1, q3.2)
set_option maxRecDepth 100000 in
theorem jl_X7_personOf_21 {p : Program} {l : Launch} {e : Env} {s : State} {m : MethodId} {args : Array Value} {below : List Frame} {meth : Method} {c : Code} {G : am_G} {q : Int32 × am_S} (X : am_X p s m args c cX7_personOf yX7_personOf.cls 3 am_p7 G (am_fr G)) (hr : meth.sig.returnType = (some .int) ∧ meth.locks = false)     (σ : am_S) (h : jn_X7_personOf_21   σ = some q) : am_A p l e (am_ro 2) s m args below meth c 3 G (am_fr G) 0 0 (MQ below (am_Qc G (some (am_i q.1)) q.2) args s 0 0 (am_fr G)) (21, [(0, am_r 0 0 0)], [], σ) := by
  have hc := ct_X7_personOf
  unfold jn_X7_personOf_21 at h
  refine am_blk hc X 10 2 (fr' := (24, [(0, am_r 0 0 0)], [am_i (-2), am_r 0 0 0], σ)) rfl ⟨trivial, trivial, trivial⟩ ?_
  obtain ⟨q3, hq4, h⟩ := am_bs h
  refine am_callV hc 12 X (k := 0) (i := 0) (o := 0) (As := [am_i (-2)]) (rest := []) rfl (ok_X7_refuse l (-2) (σ) hq4) yv_X7_refuse ml_X7_77 (cl_0) rfl rfl rfl rfl rfl ?_
  obtain rfl := Option.some.inj h
  exact am_iret hc X hr 13 rfl rfl rfl
def fn_X7_personOf (a1 : Int32) (a2 : Int32) (σ : am_S) : Option (Int32 × am_S) :=
  (fn_X0_hasPerson 1 a1 (σ)).bind fun q1 => (if q1.1 = 0 then jn_X7_personOf_21   q1.2 else (fn_X7_isWithin a2 0 7 q1.2).bind fun q5 => (if q5.1 = 0 then jn_X7_personOf_21   q5.2 else (bif am_in a1 6 then (bif am_in a2 8 then some ((q5.2.1 1 8 ((a1 : Int32).toNatClampNeg) ((a2 : Int32).toNatClampNeg)), q5.2) else none) else none)))
set_option maxRecDepth 100000 in
theorem ok_X7_personOf (l : Launch) (a1 : Int32) (a2 : Int32) (σ : am_S) {q : Int32 × am_S} (h : fn_X7_personOf a1 a2 σ = some q) : am_M l yX7_personOf cX7_personOf 3 (some .int) 2 [am_r 0 0 0, am_i a1, am_i a2] σ (some (am_i q.1)) q.2 := by
  refine am_M_of (P := am_p7) (by decide +kernel) am_p7_ok rfl ?_
  intro G p e s m args below meth c X hr
  have hc := ct_X7_personOf
  unfold fn_X7_personOf at h
  refine am_blk hc X 0 3 (fr' := (5, [(0, am_r 0 0 0), (1, am_i a1), (2, am_i a2)], [am_i a1, am_r 1 2 0], σ)) rfl ⟨trivial, trivial, trivial, trivial⟩ ?_
  obtain ⟨q1, hq2, h⟩ := am_bs h
  refine am_callV hc 3 X (k := 2) (i := 0) (o := 1) (As := [am_i a1]) (rest := []) rfl (ok_X0_hasPerson l 1 a1 (σ) hq2) yv_X0_hasPerson ml_X7_114 (cl_2) rfl rfl rfl rfl rfl ?_
  refine am_if_eq hc X 4 (tgt := 21) rfl (by decide) (fun c10 => ?_) (fun c10 => ?_)
  · replace h := am_ip c10 h
    refine am_less [0] rfl ?_
    exact jl_X7_personOf_21 X hr    _ h
  · replace h := am_in2 c10 h
    refine am_blk hc X 5 3 (fr' := (15, [(0, am_r 0 0 0), (1, am_i a1), (2, am_i a2)], [am_i 7, am_i 0, am_i a2], q1.2)) rfl ⟨trivial, trivial, trivial, trivial⟩ ?_
    obtain ⟨q5, hq6, h⟩ := am_bs h
    refine am_callS hc 8 X (As := [am_i a2, am_i 0, am_i 7]) (rest := []) rfl (ok_X7_isWithin l a2 0 7 q1.2 hq6) yv_X7_isWithin ml_X7_73 rfl rfl rfl rfl rfl ?_
    refine am_if_ne hc X 9 (tgt := 28) rfl (by decide) (fun c9 => ?_) (fun c9 => ?_)
    · replace h := am_in2 c9 h
      obtain ⟨ob7, h⟩ := am_ci h
      obtain ⟨ob8, h⟩ := am_ci h
      refine am_blk hc X 14 7 (fr' := (39, [(0, am_r 0 0 0), (1, am_i a1), (2, am_i a2)], [am_i (q5.2.1 1 8 ((a1 : Int32).toNatClampNeg) ((a2 : Int32).toNatClampNeg))], q5.2)) rfl ⟨trivial, trivial, trivial, trivial, (am_in_vp ob7), trivial, (am_in_vp ob8), trivial⟩ ?_
      obtain rfl := Option.some.inj h
      exact am_iret hc X hr 21 rfl rfl rfl
    · replace h := am_ip c9 h
      refine am_less [0] rfl ?_
      exact jl_X7_personOf_21 X hr    _ h
def jn_X7_price_27   (σ : am_S) : Option (Int32 × am_S) :=
  (fn_X7_refuse (-2) (σ)).bind fun q3 => some (q3.1, q3.2)
set_option maxRecDepth 100000 in
theorem jl_X7_price_27 {p : Program} {l : Launch} {e : Env} {s : State} {m : MethodId} {args : Array Value} {below : List Frame} {meth : Method} {c : Code} {G : am_G} {q : Int32 × am_S} (X : am_X p s m args c cX7_price yX7_price.cls 4 am_p7 G (am_fr G)) (hr : meth.sig.returnType = (some .int) ∧ meth.locks = false)     (σ : am_S) (h : jn_X7_price_27   σ = some q) : am_A p l e (am_ro 3) s m args below meth c 4 G (am_fr G) 0 0 (MQ below (am_Qc G (some (am_i q.1)) q.2) args s 0 0 (am_fr G)) (27, [(0, am_r 0 0 0)], [], σ) := by
  have hc := ct_X7_price
  unfold jn_X7_price_27 at h
  refine am_blk hc X 13 2 (fr' := (30, [(0, am_r 0 0 0)], [am_i (-2), am_r 0 0 0], σ)) rfl ⟨trivial, trivial, trivial⟩ ?_
  obtain ⟨q3, hq4, h⟩ := am_bs h
  refine am_callV hc 15 X (k := 0) (i := 0) (o := 0) (As := [am_i (-2)]) (rest := []) rfl (ok_X7_refuse l (-2) (σ) hq4) yv_X7_refuse ml_X7_77 (cl_0) rfl rfl rfl rfl rfl ?_
  obtain rfl := Option.some.inj h
  exact am_iret hc X hr 16 rfl rfl rfl
def fn_X7_price (a1 : Int32) (a2 : Int32) (a3 : Int32) (σ : am_S) : Option (Int32 × am_S) :=
  (fn_X0_hasPerson 1 a1 (σ)).bind fun q1 => (if q1.1 = 0 then jn_X7_price_27   q1.2 else (fn_X7_isValley a2 q1.2).bind fun q5 => (if q5.1 = 0 then jn_X7_price_27   q5.2 else (fn_X7_isWithin a3 0 4 q5.2).bind fun q7 => (if q7.1 = 0 then jn_X7_price_27   q7.2 else (fn_X0_endOf 1 a2 a3 q7.2).bind fun q9 => (if q9.1 = (-1) then (fn_X7_refuse (-5) q9.2).bind fun q14 => some (q14.1, q14.2) else (bif am_in a1 6 then (fn_X0_priceFor_8 1 1 ((a1 : Int32).toNatClampNeg) a2 a3 q9.2).bind fun q12 => some (q12.1, q12.2) else none)))))
set_option maxRecDepth 100000 in
theorem ok_X7_price (l : Launch) (a1 : Int32) (a2 : Int32) (a3 : Int32) (σ : am_S) {q : Int32 × am_S} (h : fn_X7_price a1 a2 a3 σ = some q) : am_M l yX7_price cX7_price 4 (some .int) 3 [am_r 0 0 0, am_i a1, am_i a2, am_i a3] σ (some (am_i q.1)) q.2 := by
  refine am_M_of (P := am_p7) (by decide +kernel) am_p7_ok rfl ?_
  intro G p e s m args below meth c X hr
  have hc := ct_X7_price
  unfold fn_X7_price at h
  refine am_blk hc X 0 3 (fr' := (5, [(0, am_r 0 0 0), (1, am_i a1), (2, am_i a2), (3, am_i a3)], [am_i a1, am_r 1 2 0], σ)) rfl ⟨trivial, trivial, trivial, trivial⟩ ?_
  obtain ⟨q1, hq2, h⟩ := am_bs h
  refine am_callV hc 3 X (k := 2) (i := 0) (o := 1) (As := [am_i a1]) (rest := []) rfl (ok_X0_hasPerson l 1 a1 (σ) hq2) yv_X0_hasPerson ml_X7_114 (cl_2) rfl rfl rfl rfl rfl ?_
  refine am_if_eq hc X 4 (tgt := 27) rfl (by decide) (fun c19 => ?_) (fun c19 => ?_)
  · replace h := am_ip c19 h
    refine am_less [0] rfl ?_
    exact jl_X7_price_27 X hr    _ h
  · replace h := am_in2 c19 h
    refine am_blk hc X 5 1 (fr' := (12, [(0, am_r 0 0 0), (1, am_i a1), (2, am_i a2), (3, am_i a3)], [am_i a2], q1.2)) rfl ⟨trivial, trivial⟩ ?_
    obtain ⟨q5, hq6, h⟩ := am_bs h
    refine am_callS hc 6 X (As := [am_i a2]) (rest := []) rfl (ok_X7_isValley l a2 q1.2 hq6) yv_X7_isValley ml_X7_132 rfl rfl rfl rfl rfl ?_
    refine am_if_eq hc X 7 (tgt := 27) rfl (by decide) (fun c18 => ?_) (fun c18 => ?_)
    · replace h := am_ip c18 h
      refine am_less [0] rfl ?_
      exact jl_X7_price_27 X hr    _ h
    · replace h := am_in2 c18 h
      refine am_blk hc X 8 3 (fr' := (21, [(0, am_r 0 0 0), (1, am_i a1), (2, am_i a2), (3, am_i a3)], [am_i 4, am_i 0, am_i a3], q5.2)) rfl ⟨trivial, trivial, trivial, trivial⟩ ?_
      obtain ⟨q7, hq8, h⟩ := am_bs h
      refine am_callS hc 11 X (As := [am_i a3, am_i 0, am_i 4]) (rest := []) rfl (ok_X7_isWithin l a3 0 4 q5.2 hq8) yv_X7_isWithin ml_X7_73 rfl rfl rfl rfl rfl ?_
      refine am_if_ne hc X 12 (tgt := 34) rfl (by decide) (fun c17 => ?_) (fun c17 => ?_)
      · replace h := am_in2 c17 h
        refine am_blk hc X 17 4 (fr' := (40, [(0, am_r 0 0 0), (1, am_i a1), (2, am_i a2), (3, am_i a3)], [am_i a3, am_i a2, am_r 1 2 0], q7.2)) rfl ⟨trivial, trivial, trivial, trivial, trivial⟩ ?_
        obtain ⟨q9, hq10, h⟩ := am_bs h
        refine am_callV hc 21 X (k := 2) (i := 0) (o := 1) (As := [am_i a2, am_i a3]) (rest := []) rfl (ok_X0_endOf l 1 a2 a3 q7.2 hq10) yv_X0_endOf ml_X7_188 (cl_2) rfl rfl rfl rfl rfl ?_
        refine am_blk hc X 22 1 (fr' := (44, [(0, am_r 0 0 0), (1, am_i a1), (2, am_i a2), (3, am_i a3)], [am_i (-1), am_i q9.1], q9.2)) rfl ⟨trivial, trivial⟩ ?_
        refine am_icmp_ne hc X 23 (tgt := 54) rfl (by decide) (fun c16 => ?_) (fun c16 => ?_)
        · replace h := am_in2 c16 h
          obtain ⟨ob11, h⟩ := am_ci h
          refine am_blk hc X 28 9 (fr' := (69, [(0, am_r 0 0 0), (1, am_i a1), (2, am_i a2), (3, am_i a3)], [am_i a3, am_i a2, am_r 1 8 ((a1 : Int32).toNatClampNeg), am_r 1 2 0], q9.2)) rfl ⟨trivial, trivial, trivial, trivial, trivial, trivial, (am_in_vp ob11), trivial, trivial, trivial⟩ ?_
          obtain ⟨q12, hq13, h⟩ := am_bs h
          refine am_callV hc 37 X (k := 2) (i := 0) (o := 1) (As := [am_r 1 8 ((a1 : Int32).toNatClampNeg), am_i a2, am_i a3]) (rest := []) rfl (ok_X0_priceFor_8 l 1 1 ((a1 : Int32).toNatClampNeg) a2 a3 q9.2 hq13) yv_X0_priceFor ml_X7_124 (cl_2) rfl rfl rfl rfl rfl ?_
          obtain rfl := Option.some.inj h
          exact am_iret hc X hr 38 rfl rfl rfl
        · replace h := am_ip c16 h
          refine am_blk hc X 24 2 (fr' := (50, [(0, am_r 0 0 0), (1, am_i a1), (2, am_i a2), (3, am_i a3)], [am_i (-5), am_r 0 0 0], q9.2)) rfl ⟨trivial, trivial, trivial⟩ ?_
          obtain ⟨q14, hq15, h⟩ := am_bs h
          refine am_callV hc 26 X (k := 0) (i := 0) (o := 0) (As := [am_i (-5)]) (rest := []) rfl (ok_X7_refuse l (-5) q9.2 hq15) yv_X7_refuse ml_X7_77 (cl_0) rfl rfl rfl rfl rfl ?_
          obtain rfl := Option.some.inj h
          exact am_iret hc X hr 27 rfl rfl rfl
      · replace h := am_ip c17 h
        refine am_less [0] rfl ?_
        exact jl_X7_price_27 X hr    _ h
def lb_X7_ring_22 (k22 : Int32 → Int32 → Int32 → am_S → Option (Int32 × am_S)) (x1 : Int32) (x2 : Int32) (x3 : Int32) (σ : am_S) : Option (Int32 × am_S) :=
  (if 7 ≤ x3 then some (x2, σ) else (bif am_in x1 6 then (fn_X0_priceFor_8 1 1 ((x1 : Int32).toNatClampNeg) x3 0 (σ)).bind fun q4 => k22 x1 (x2 + q4.1) (x3 + 1) q4.2 else none))
set_option maxRecDepth 100000 in
theorem lc_X7_ring_22 {p : Program} {l : Launch} {e : Env} {s : State} {m : MethodId} {args : Array Value} {below : List Frame} {meth : Method} {c : Code} {G : am_G} {q : Int32 × am_S} (X : am_X p s m args c cX7_ring yX7_ring.cls 4 am_p7 G (am_fr G)) (hr : meth.sig.returnType = (some .int) ∧ meth.locks = false)  (k22 : Int32 → Int32 → Int32 → am_S → Option (Int32 × am_S)) (hk22 : ∀ (x1 : Int32) (x2 : Int32) (x3 : Int32) (σ : am_S), k22 x1 x2 x3 σ = some q → am_A p l e (am_ro 3) s m args below meth c 4 G (am_fr G) 0 0 (MQ below (am_Qc G (some (am_i q.1)) q.2) args s 0 0 (am_fr G)) (22, [(0, am_r 0 0 0), (1, am_i x1), (2, am_i x2), (3, am_i x3)], [], σ)) (x1 : Int32) (x2 : Int32) (x3 : Int32) (σ : am_S) (h : lb_X7_ring_22 k22 x1 x2 x3 σ = some q) : am_A p l e (am_ro 3) s m args below meth c 4 G (am_fr G) 0 0 (MQ below (am_Qc G (some (am_i q.1)) q.2) args s 0 0 (am_fr G)) (22, [(0, am_r 0 0 0), (1, am_i x1), (2, am_i x2), (3, am_i x3)], [], σ) := by
  have hc := ct_X7_ring
  unfold lb_X7_ring_22 at h
  refine am_blk hc X 13 2 (fr' := (25, [(0, am_r 0 0 0), (1, am_i x1), (2, am_i x2), (3, am_i x3)], [am_i 7, am_i x3], σ)) rfl ⟨trivial, trivial, trivial⟩ ?_
  refine am_icmp_ge hc X 15 (tgt := 55) rfl (by decide) (fun c6 => ?_) (fun c6 => ?_)
  · replace h := am_ip c6 h
    refine am_blk hc X 31 1 (fr' := (56, [(0, am_r 0 0 0), (1, am_i x1), (2, am_i x2), (3, am_i x3)], [am_i x2], σ)) rfl ⟨trivial, trivial⟩ ?_
    obtain rfl := Option.some.inj h
    exact am_iret hc X hr 32 rfl rfl rfl
  · replace h := am_in2 c6 h
    obtain ⟨ob3, h⟩ := am_ci h
    refine am_blk hc X 16 10 (fr' := (44, [(0, am_r 0 0 0), (1, am_i x1), (2, am_i x2), (3, am_i x3)], [am_i 0, am_i x3, am_r 1 8 ((x1 : Int32).toNatClampNeg), am_r 1 2 0, am_i x2], σ)) rfl ⟨trivial, trivial, trivial, trivial, trivial, trivial, trivial, (am_in_vp ob3), trivial, trivial, trivial⟩ ?_
    obtain ⟨q4, hq5, h⟩ := am_bs h
    refine am_callV hc 26 X (k := 2) (i := 0) (o := 1) (As := [am_r 1 8 ((x1 : Int32).toNatClampNeg), am_i x3, am_i 0]) (rest := [am_i x2]) rfl (ok_X0_priceFor_8 l 1 1 ((x1 : Int32).toNatClampNeg) x3 0 (σ) hq5) yv_X0_priceFor ml_X7_124 (cl_2) rfl rfl rfl rfl rfl ?_
    refine am_blk hc X 27 4 (fr' := (22, [(0, am_r 0 0 0), (1, am_i x1), (2, am_i (x2 + q4.1)), (3, am_i (x3 + 1))], [], q4.2)) rfl ⟨trivial, trivial, trivial, trivial, trivial⟩ ?_
    exact hk22 x1 (x2 + q4.1) (x3 + 1) _ h
def lp_X7_ring_22  : Nat → Int32 → Int32 → Int32 → am_S → Option (Int32 × am_S)
  | 0 => fun _ _ _ _ => none
  | n + 1 => lb_X7_ring_22  (lp_X7_ring_22  n)
theorem ll_X7_ring_22 {p : Program} {l : Launch} {e : Env} {s : State} {m : MethodId} {args : Array Value} {below : List Frame} {meth : Method} {c : Code} {G : am_G} {q : Int32 × am_S} (X : am_X p s m args c cX7_ring yX7_ring.cls 4 am_p7 G (am_fr G)) (hr : meth.sig.returnType = (some .int) ∧ meth.locks = false)    : ∀ (n : Nat) (x1 : Int32) (x2 : Int32) (x3 : Int32) (σ : am_S), lp_X7_ring_22  n x1 x2 x3 σ = some q → am_A p l e (am_ro 3) s m args below meth c 4 G (am_fr G) 0 0 (MQ below (am_Qc G (some (am_i q.1)) q.2) args s 0 0 (am_fr G)) (22, [(0, am_r 0 0 0), (1, am_i x1), (2, am_i x2), (3, am_i x3)], [], σ) := by
  intro n
  induction n with
  | zero =>
    intro x1 x2 x3 σ h
    have h : (none : Option (Int32 × am_S)) = some q := h
    cases h
  | succ n ih =>
    intro x1 x2 x3 σ h
    exact lc_X7_ring_22 X hr  (lp_X7_ring_22  n) ih x1 x2 x3 σ h
def fn_X7_ring (a1 : Int32) (σ : am_S) : Option (Int32 × am_S) :=
  (fn_X0_hasPerson 1 a1 (σ)).bind fun q1 => (if q1.1 = 0 then (fn_X7_refuse (-2) q1.2).bind fun q7 => some (q7.1, q7.2) else lp_X7_ring_22  1000 a1 0 0 q1.2)
set_option maxRecDepth 100000 in
theorem ok_X7_ring (l : Launch) (a1 : Int32) (σ : am_S) {q : Int32 × am_S} (h : fn_X7_ring a1 σ = some q) : am_M l yX7_ring cX7_ring 4 (some .int) 3 [am_r 0 0 0, am_i a1] σ (some (am_i q.1)) q.2 := by
  refine am_M_of (P := am_p7) (by decide +kernel) am_p7_ok rfl ?_
  intro G p e s m args below meth c X hr
  have hc := ct_X7_ring
  unfold fn_X7_ring at h
  refine am_blk hc X 0 3 (fr' := (5, [(0, am_r 0 0 0), (1, am_i a1)], [am_i a1, am_r 1 2 0], σ)) rfl ⟨trivial, trivial, trivial, trivial⟩ ?_
  obtain ⟨q1, hq2, h⟩ := am_bs h
  refine am_callV hc 3 X (k := 2) (i := 0) (o := 1) (As := [am_i a1]) (rest := []) rfl (ok_X0_hasPerson l 1 a1 (σ) hq2) yv_X0_hasPerson ml_X7_114 (cl_2) rfl rfl rfl rfl rfl ?_
  refine am_if_ne hc X 4 (tgt := 18) rfl (by decide) (fun c9 => ?_) (fun c9 => ?_)
  · replace h := am_in2 c9 h
    refine am_blk hc X 9 4 (fr' := (22, [(0, am_r 0 0 0), (1, am_i a1), (2, am_i 0), (3, am_i 0)], [], q1.2)) rfl ⟨trivial, trivial, trivial, trivial, trivial⟩ ?_
    exact ll_X7_ring_22 X hr   1000 a1 0 0 _ h
  · replace h := am_ip c9 h
    refine am_blk hc X 5 2 (fr' := (14, [(0, am_r 0 0 0), (1, am_i a1)], [am_i (-2), am_r 0 0 0], q1.2)) rfl ⟨trivial, trivial, trivial⟩ ?_
    obtain ⟨q7, hq8, h⟩ := am_bs h
    refine am_callV hc 7 X (k := 0) (i := 0) (o := 0) (As := [am_i (-2)]) (rest := []) rfl (ok_X7_refuse l (-2) q1.2 hq8) yv_X7_refuse ml_X7_77 (cl_0) rfl rfl rfl rfl rfl ?_
    obtain rfl := Option.some.inj h
    exact am_iret hc X hr 8 rfl rfl rfl
def jn_X6_firstStep_8_59 (k3 : Nat → Nat → Nat → Int32 → Int32 → Int32 → am_S → Option (Int32 × am_S)) (ox1 : Nat) (ox2 : Nat) (ix2 : Nat) (x3 : Int32) (x4 : Int32) (x5 : Int32) (σ : am_S) : Option (Int32 × am_S) :=
  k3 ox1 ox2 ix2 x3 x4 (x5 + 1) (σ)
set_option maxRecDepth 100000 in
theorem jl_X6_firstStep_8_59 {p : Program} {l : Launch} {e : Env} {s : State} {m : MethodId} {args : Array Value} {below : List Frame} {meth : Method} {c : Code} {G : am_G} {q : Int32 × am_S} (X : am_X p s m args c cX6_firstStep yX6_firstStep.cls 8 am_p6 G (am_fr G)) (hr : meth.sig.returnType = (some .int) ∧ meth.locks = false)  (k3 : Nat → Nat → Nat → Int32 → Int32 → Int32 → am_S → Option (Int32 × am_S)) (hk3 : ∀ (ox1 : Nat) (ox2 : Nat) (ix2 : Nat) (x3 : Int32) (x4 : Int32) (x5 : Int32) (σ : am_S), k3 ox1 ox2 ix2 x3 x4 x5 σ = some q → am_A p l e (am_ro 4) s m args below meth c 8 G (am_fr G) 0 0 (MQ below (am_Qc G (some (am_i q.1)) q.2) args s 0 0 (am_fr G)) (3, [(0, am_r 12 17 0), (1, am_r ox1 2 0), (2, am_r ox2 8 ix2), (3, am_i x3), (4, am_i x4), (5, am_i x5)], [], σ)) (ox1 : Nat) (ox2 : Nat) (ix2 : Nat) (x3 : Int32) (x4 : Int32) (x5 : Int32) (σ : am_S) (h : jn_X6_firstStep_8_59 k3 ox1 ox2 ix2 x3 x4 x5 σ = some q) : am_A p l e (am_ro 4) s m args below meth c 8 G (am_fr G) 0 0 (MQ below (am_Qc G (some (am_i q.1)) q.2) args s 0 0 (am_fr G)) (59, [(0, am_r 12 17 0), (1, am_r ox1 2 0), (2, am_r ox2 8 ix2), (3, am_i x3), (4, am_i x4), (5, am_i x5)], [], σ) := by
  have hc := ct_X6_firstStep
  unfold jn_X6_firstStep_8_59 at h
  refine am_blk hc X 33 2 (fr' := (3, [(0, am_r 12 17 0), (1, am_r ox1 2 0), (2, am_r ox2 8 ix2), (3, am_i x3), (4, am_i x4), (5, am_i (x5 + 1))], [], σ)) rfl ⟨trivial, trivial, trivial⟩ ?_
  exact hk3 ox1 ox2 ix2 x3 x4 (x5 + 1) _ h
def lb_X6_firstStep_8_3 (k3 : Nat → Nat → Nat → Int32 → Int32 → Int32 → am_S → Option (Int32 × am_S)) (ox1 : Nat) (ox2 : Nat) (ix2 : Nat) (x3 : Int32) (x4 : Int32) (x5 : Int32) (σ : am_S) : Option (Int32 × am_S) :=
  (if 5 ≤ x5 then some ((-1), σ) else (fn_X0_endOf ox1 x3 x5 (σ)).bind fun q1 => (fn_X6_weight_8 ox1 ox2 ix2 x3 x5 4 q1.2).bind fun q3 => (if q1.1 = (-1) then jn_X6_firstStep_8_59 k3 ox1 ox2 ix2 x3 x4 x5 q3.2 else (fn_X6_between q1.1 x4 q3.2).bind fun q5 => (fn_X6_between x3 x4 q5.2).bind fun q7 => (if (q3.1 + q5.1) = q7.1 then some (x5, q7.2) else jn_X6_firstStep_8_59 k3 ox1 ox2 ix2 x3 x4 x5 q7.2)))
set_option maxRecDepth 100000 in
theorem lc_X6_firstStep_8_3 {p : Program} {l : Launch} {e : Env} {s : State} {m : MethodId} {args : Array Value} {below : List Frame} {meth : Method} {c : Code} {G : am_G} {q : Int32 × am_S} (X : am_X p s m args c cX6_firstStep yX6_firstStep.cls 8 am_p6 G (am_fr G)) (hr : meth.sig.returnType = (some .int) ∧ meth.locks = false)  (k3 : Nat → Nat → Nat → Int32 → Int32 → Int32 → am_S → Option (Int32 × am_S)) (hk3 : ∀ (ox1 : Nat) (ox2 : Nat) (ix2 : Nat) (x3 : Int32) (x4 : Int32) (x5 : Int32) (σ : am_S), k3 ox1 ox2 ix2 x3 x4 x5 σ = some q → am_A p l e (am_ro 4) s m args below meth c 8 G (am_fr G) 0 0 (MQ below (am_Qc G (some (am_i q.1)) q.2) args s 0 0 (am_fr G)) (3, [(0, am_r 12 17 0), (1, am_r ox1 2 0), (2, am_r ox2 8 ix2), (3, am_i x3), (4, am_i x4), (5, am_i x5)], [], σ)) (ox1 : Nat) (ox2 : Nat) (ix2 : Nat) (x3 : Int32) (x4 : Int32) (x5 : Int32) (σ : am_S) (h : lb_X6_firstStep_8_3 k3 ox1 ox2 ix2 x3 x4 x5 σ = some q) : am_A p l e (am_ro 4) s m args below meth c 8 G (am_fr G) 0 0 (MQ below (am_Qc G (some (am_i q.1)) q.2) args s 0 0 (am_fr G)) (3, [(0, am_r 12 17 0), (1, am_r ox1 2 0), (2, am_r ox2 8 ix2), (3, am_i x3), (4, am_i x4), (5, am_i x5)], [], σ) := by
  have hc := ct_X6_firstStep
  unfold lb_X6_firstStep_8_3 at h
  refine am_blk hc X 2 2 (fr' := (6, [(0, am_r 12 17 0), (1, am_r ox1 2 0), (2, am_r ox2 8 ix2), (3, am_i x3), (4, am_i x4), (5, am_i x5)], [am_i 5, am_i x5], σ)) rfl ⟨trivial, trivial, trivial⟩ ?_
  refine am_icmp_ge hc X 4 (tgt := 65) rfl (by decide) (fun c11 => ?_) (fun c11 => ?_)
  · replace h := am_ip c11 h
    refine am_blk hc X 35 1 (fr' := (66, [(0, am_r 12 17 0), (1, am_r ox1 2 0), (2, am_r ox2 8 ix2), (3, am_i x3), (4, am_i x4), (5, am_i x5)], [am_i (-1)], σ)) rfl ⟨trivial, trivial⟩ ?_
    obtain rfl := Option.some.inj h
    exact am_iret hc X hr 36 rfl rfl rfl
  · replace h := am_in2 c11 h
    refine am_blk hc X 5 3 (fr' := (13, [(0, am_r 12 17 0), (1, am_r ox1 2 0), (2, am_r ox2 8 ix2), (3, am_i x3), (4, am_i x4), (5, am_i x5)], [am_i x5, am_i x3, am_r ox1 2 0], σ)) rfl ⟨trivial, trivial, trivial, trivial⟩ ?_
    obtain ⟨q1, hq2, h⟩ := am_bs h
    refine am_callV hc 8 X (k := 2) (i := 0) (o := ox1) (As := [am_i x3, am_i x5]) (rest := []) rfl (ok_X0_endOf l ox1 x3 x5 (σ) hq2) yv_X0_endOf ml_X6_30 (cl_2) rfl rfl rfl rfl rfl ?_
    refine am_blk hc X 9 6 (fr' := (24, [(0, am_r 12 17 0), (1, am_r ox1 2 0), (2, am_r ox2 8 ix2), (3, am_i x3), (4, am_i x4), (5, am_i x5), (6, am_i q1.1)], [am_i 4, am_i x5, am_i x3, am_r ox2 8 ix2, am_r ox1 2 0], q1.2)) rfl ⟨trivial, trivial, trivial, trivial, trivial, trivial, trivial⟩ ?_
    obtain ⟨q3, hq4, h⟩ := am_bs h
    refine am_callS hc 15 X (As := [am_r ox1 2 0, am_r ox2 8 ix2, am_i x3, am_i x5, am_i 4]) (rest := []) rfl (ok_X6_weight_8 l ox1 ox2 ix2 x3 x5 4 q1.2 hq4) yv_X6_weight ml_X6_36 rfl rfl rfl rfl rfl ?_
    refine am_blk hc X 16 3 (fr' := (32, [(0, am_r 12 17 0), (1, am_r ox1 2 0), (2, am_r ox2 8 ix2), (3, am_i x3), (4, am_i x4), (5, am_i x5), (6, am_i q1.1), (7, am_i q3.1)], [am_i (-1), am_i q1.1], q3.2)) rfl ⟨trivial, trivial, trivial, trivial⟩ ?_
    refine am_icmp_eq hc X 19 (tgt := 59) rfl (by decide) (fun c10 => ?_) (fun c10 => ?_)
    · replace h := am_ip c10 h
      refine am_less [0, 1, 2, 3, 4, 5] rfl ?_
      exact jl_X6_firstStep_8_59 X hr k3 hk3 ox1 ox2 ix2 x3 x4 x5 _ h
    · replace h := am_in2 c10 h
      refine am_blk hc X 20 4 (fr' := (42, [(0, am_r 12 17 0), (1, am_r ox1 2 0), (2, am_r ox2 8 ix2), (3, am_i x3), (4, am_i x4), (5, am_i x5), (6, am_i q1.1), (7, am_i q3.1)], [am_i x4, am_i q1.1, am_r 12 17 0, am_i q3.1], q3.2)) rfl ⟨trivial, trivial, trivial, trivial, trivial⟩ ?_
      obtain ⟨q5, hq6, h⟩ := am_bs h
      refine am_callV hc 24 X (k := 17) (i := 0) (o := 12) (As := [am_i q1.1, am_i x4]) (rest := [am_i q3.1]) rfl (ok_X6_between l q1.1 x4 q3.2 hq6) yv_X6_between ml_X6_68 (cl_17) rfl rfl rfl rfl rfl ?_
      refine am_blk hc X 25 4 (fr' := (50, [(0, am_r 12 17 0), (1, am_r ox1 2 0), (2, am_r ox2 8 ix2), (3, am_i x3), (4, am_i x4), (5, am_i x5), (6, am_i q1.1), (7, am_i q3.1)], [am_i x4, am_i x3, am_r 12 17 0, am_i (q3.1 + q5.1)], q5.2)) rfl ⟨trivial, trivial, trivial, trivial, trivial⟩ ?_
      obtain ⟨q7, hq8, h⟩ := am_bs h
      refine am_callV hc 29 X (k := 17) (i := 0) (o := 12) (As := [am_i x3, am_i x4]) (rest := [am_i (q3.1 + q5.1)]) rfl (ok_X6_between l x3 x4 q5.2 hq8) yv_X6_between ml_X6_68 (cl_17) rfl rfl rfl rfl rfl ?_
      refine am_icmp_ne hc X 30 (tgt := 59) rfl (by decide) (fun c9 => ?_) (fun c9 => ?_)
      · replace h := am_in2 c9 h
        refine am_less [0, 1, 2, 3, 4, 5] rfl ?_
        exact jl_X6_firstStep_8_59 X hr k3 hk3 ox1 ox2 ix2 x3 x4 x5 _ h
      · replace h := am_ip c9 h
        refine am_blk hc X 31 1 (fr' := (58, [(0, am_r 12 17 0), (1, am_r ox1 2 0), (2, am_r ox2 8 ix2), (3, am_i x3), (4, am_i x4), (5, am_i x5), (6, am_i q1.1), (7, am_i q3.1)], [am_i x5], q7.2)) rfl ⟨trivial, trivial⟩ ?_
        obtain rfl := Option.some.inj h
        exact am_iret hc X hr 32 rfl rfl rfl
def lp_X6_firstStep_8_3  : Nat → Nat → Nat → Nat → Int32 → Int32 → Int32 → am_S → Option (Int32 × am_S)
  | 0 => fun _ _ _ _ _ _ _ => none
  | n + 1 => lb_X6_firstStep_8_3  (lp_X6_firstStep_8_3  n)
theorem ll_X6_firstStep_8_3 {p : Program} {l : Launch} {e : Env} {s : State} {m : MethodId} {args : Array Value} {below : List Frame} {meth : Method} {c : Code} {G : am_G} {q : Int32 × am_S} (X : am_X p s m args c cX6_firstStep yX6_firstStep.cls 8 am_p6 G (am_fr G)) (hr : meth.sig.returnType = (some .int) ∧ meth.locks = false)    : ∀ (n : Nat) (ox1 : Nat) (ox2 : Nat) (ix2 : Nat) (x3 : Int32) (x4 : Int32) (x5 : Int32) (σ : am_S), lp_X6_firstStep_8_3  n ox1 ox2 ix2 x3 x4 x5 σ = some q → am_A p l e (am_ro 4) s m args below meth c 8 G (am_fr G) 0 0 (MQ below (am_Qc G (some (am_i q.1)) q.2) args s 0 0 (am_fr G)) (3, [(0, am_r 12 17 0), (1, am_r ox1 2 0), (2, am_r ox2 8 ix2), (3, am_i x3), (4, am_i x4), (5, am_i x5)], [], σ) := by
  intro n
  induction n with
  | zero =>
    intro ox1 ox2 ix2 x3 x4 x5 σ h
    have h : (none : Option (Int32 × am_S)) = some q := h
    cases h
  | succ n ih =>
    intro ox1 ox2 ix2 x3 x4 x5 σ h
    exact lc_X6_firstStep_8_3 X hr  (lp_X6_firstStep_8_3  n) ih ox1 ox2 ix2 x3 x4 x5 σ h
def fn_X6_firstStep_8 (oa1 : Nat) (oa2 : Nat) (ia2 : Nat) (a3 : Int32) (a4 : Int32) (σ : am_S) : Option (Int32 × am_S) :=
  lp_X6_firstStep_8_3  1000 oa1 oa2 ia2 a3 a4 0 (σ)
set_option maxRecDepth 100000 in
theorem ok_X6_firstStep_8 (l : Launch) (oa1 : Nat) (oa2 : Nat) (ia2 : Nat) (a3 : Int32) (a4 : Int32) (σ : am_S) {q : Int32 × am_S} (h : fn_X6_firstStep_8 oa1 oa2 ia2 a3 a4 σ = some q) : am_M l yX6_firstStep cX6_firstStep 8 (some .int) 4 [am_r 12 17 0, am_r oa1 2 0, am_r oa2 8 ia2, am_i a3, am_i a4] σ (some (am_i q.1)) q.2 := by
  refine am_M_of (P := am_p6) (by decide +kernel) am_p6_ok rfl ?_
  intro G p e s m args below meth c X hr
  have hc := ct_X6_firstStep
  unfold fn_X6_firstStep_8 at h
  refine am_blk hc X 0 2 (fr' := (3, [(0, am_r 12 17 0), (1, am_r oa1 2 0), (2, am_r oa2 8 ia2), (3, am_i a3), (4, am_i a4), (5, am_i 0)], [], σ)) rfl ⟨trivial, trivial, trivial⟩ ?_
  exact ll_X6_firstStep_8_3 X hr   1000 oa1 oa2 ia2 a3 a4 0 _ h
def lb_X6_findRoute_8_16 (k16 : Nat → Nat → Nat → Int32 → Int32 → Int32 → am_S → Option (Int32 × am_S)) (ox1 : Nat) (ox2 : Nat) (ix2 : Nat) (x3 : Int32) (x4 : Int32) (x5 : Int32) (σ : am_S) : Option (Int32 × am_S) :=
  (if 7 ≤ x5 then some (x5, σ) else (if x4 = x3 then some (x5, σ) else (fn_X6_firstStep_8 ox1 ox2 ix2 x4 x3 (σ)).bind fun q3 => (bif am_in x5 7 then (fn_X0_endOf ox1 x4 q3.1 (am_u q3.2 12 20 0 ((x5 : Int32).toNatClampNeg) q3.1)).bind fun q6 => k16 ox1 ox2 ix2 x3 q6.1 (x5 + 1) q6.2 else none)))
set_option maxRecDepth 100000 in
theorem lc_X6_findRoute_8_16 {p : Program} {l : Launch} {e : Env} {s : State} {m : MethodId} {args : Array Value} {below : List Frame} {meth : Method} {c : Code} {G : am_G} {q : Int32 × am_S} (X : am_X p s m args c cX6_findRoute yX6_findRoute.cls 7 am_p6 G (am_fr G)) (hr : meth.sig.returnType = (some .int) ∧ meth.locks = false)  (k16 : Nat → Nat → Nat → Int32 → Int32 → Int32 → am_S → Option (Int32 × am_S)) (hk16 : ∀ (ox1 : Nat) (ox2 : Nat) (ix2 : Nat) (x3 : Int32) (x4 : Int32) (x5 : Int32) (σ : am_S), k16 ox1 ox2 ix2 x3 x4 x5 σ = some q → am_A p l e (am_ro 5) s m args below meth c 7 G (am_fr G) 0 0 (MQ below (am_Qc G (some (am_i q.1)) q.2) args s 0 0 (am_fr G)) (16, [(0, am_r 12 17 0), (1, am_r ox1 2 0), (2, am_r ox2 8 ix2), (3, am_i x3), (4, am_i x4), (5, am_i x5)], [], σ)) (ox1 : Nat) (ox2 : Nat) (ix2 : Nat) (x3 : Int32) (x4 : Int32) (x5 : Int32) (σ : am_S) (h : lb_X6_findRoute_8_16 k16 ox1 ox2 ix2 x3 x4 x5 σ = some q) : am_A p l e (am_ro 5) s m args below meth c 7 G (am_fr G) 0 0 (MQ below (am_Qc G (some (am_i q.1)) q.2) args s 0 0 (am_fr G)) (16, [(0, am_r 12 17 0), (1, am_r ox1 2 0), (2, am_r ox2 8 ix2), (3, am_i x3), (4, am_i x4), (5, am_i x5)], [], σ) := by
  have hc := ct_X6_findRoute
  unfold lb_X6_findRoute_8_16 at h
  refine am_blk hc X 12 2 (fr' := (20, [(0, am_r 12 17 0), (1, am_r ox1 2 0), (2, am_r ox2 8 ix2), (3, am_i x3), (4, am_i x4), (5, am_i x5)], [am_i 7, am_i x5], σ)) rfl ⟨trivial, trivial, trivial⟩ ?_
  refine am_icmp_ge hc X 14 (tgt := 65) rfl (by decide) (fun c9 => ?_) (fun c9 => ?_)
  · replace h := am_ip c9 h
    refine am_blk hc X 37 1 (fr' := (67, [(0, am_r 12 17 0), (1, am_r ox1 2 0), (2, am_r ox2 8 ix2), (3, am_i x3), (4, am_i x4), (5, am_i x5)], [am_i x5], σ)) rfl ⟨trivial, trivial⟩ ?_
    obtain rfl := Option.some.inj h
    exact am_iret hc X hr 38 rfl rfl rfl
  · replace h := am_in2 c9 h
    refine am_blk hc X 15 2 (fr' := (26, [(0, am_r 12 17 0), (1, am_r ox1 2 0), (2, am_r ox2 8 ix2), (3, am_i x3), (4, am_i x4), (5, am_i x5)], [am_i x3, am_i x4], σ)) rfl ⟨trivial, trivial, trivial⟩ ?_
    refine am_icmp_eq hc X 17 (tgt := 65) rfl (by decide) (fun c8 => ?_) (fun c8 => ?_)
    · replace h := am_ip c8 h
      refine am_blk hc X 37 1 (fr' := (67, [(0, am_r 12 17 0), (1, am_r ox1 2 0), (2, am_r ox2 8 ix2), (3, am_i x3), (4, am_i x4), (5, am_i x5)], [am_i x5], σ)) rfl ⟨trivial, trivial⟩ ?_
      obtain rfl := Option.some.inj h
      exact am_iret hc X hr 38 rfl rfl rfl
    · replace h := am_in2 c8 h
      refine am_blk hc X 18 5 (fr' := (35, [(0, am_r 12 17 0), (1, am_r ox1 2 0), (2, am_r ox2 8 ix2), (3, am_i x3), (4, am_i x4), (5, am_i x5)], [am_i x3, am_i x4, am_r ox2 8 ix2, am_r ox1 2 0, am_r 12 17 0], σ)) rfl ⟨trivial, trivial, trivial, trivial, trivial, trivial⟩ ?_
      obtain ⟨q3, hq4, h⟩ := am_bs h
      refine am_callV hc 23 X (k := 17) (i := 0) (o := 12) (As := [am_r ox1 2 0, am_r ox2 8 ix2, am_i x4, am_i x3]) (rest := []) rfl (ok_X6_firstStep_8 l ox1 ox2 ix2 x4 x3 (σ) hq4) yv_X6_firstStep ml_X6_64 (cl_17) rfl rfl rfl rfl rfl ?_
      obtain ⟨ob5, h⟩ := am_ci h
      refine am_blk hc X 24 9 (fr' := (54, [(0, am_r 12 17 0), (1, am_r ox1 2 0), (2, am_r ox2 8 ix2), (3, am_i x3), (4, am_i x4), (5, am_i x5), (6, am_i q3.1)], [am_i q3.1, am_i x4, am_r ox1 2 0], (am_u q3.2 12 20 0 ((x5 : Int32).toNatClampNeg) q3.1))) rfl ⟨trivial, trivial, trivial, trivial, trivial, (am_in_vp ob5), trivial, trivial, trivial, trivial⟩ ?_
      obtain ⟨q6, hq7, h⟩ := am_bs h
      refine am_callV hc 33 X (k := 2) (i := 0) (o := ox1) (As := [am_i x4, am_i q3.1]) (rest := []) rfl (ok_X0_endOf l ox1 x4 q3.1 (am_u q3.2 12 20 0 ((x5 : Int32).toNatClampNeg) q3.1) hq7) yv_X0_endOf ml_X6_30 (cl_2) rfl rfl rfl rfl rfl ?_
      refine am_blk hc X 34 3 (fr' := (16, [(0, am_r 12 17 0), (1, am_r ox1 2 0), (2, am_r ox2 8 ix2), (3, am_i x3), (4, am_i q6.1), (5, am_i (x5 + 1)), (6, am_i q3.1)], [], q6.2)) rfl ⟨trivial, trivial, trivial, trivial⟩ ?_
      refine am_less [0, 1, 2, 3, 4, 5] rfl ?_
      exact hk16 ox1 ox2 ix2 x3 q6.1 (x5 + 1) _ h
def lp_X6_findRoute_8_16  : Nat → Nat → Nat → Nat → Int32 → Int32 → Int32 → am_S → Option (Int32 × am_S)
  | 0 => fun _ _ _ _ _ _ _ => none
  | n + 1 => lb_X6_findRoute_8_16  (lp_X6_findRoute_8_16  n)
theorem ll_X6_findRoute_8_16 {p : Program} {l : Launch} {e : Env} {s : State} {m : MethodId} {args : Array Value} {below : List Frame} {meth : Method} {c : Code} {G : am_G} {q : Int32 × am_S} (X : am_X p s m args c cX6_findRoute yX6_findRoute.cls 7 am_p6 G (am_fr G)) (hr : meth.sig.returnType = (some .int) ∧ meth.locks = false)    : ∀ (n : Nat) (ox1 : Nat) (ox2 : Nat) (ix2 : Nat) (x3 : Int32) (x4 : Int32) (x5 : Int32) (σ : am_S), lp_X6_findRoute_8_16  n ox1 ox2 ix2 x3 x4 x5 σ = some q → am_A p l e (am_ro 5) s m args below meth c 7 G (am_fr G) 0 0 (MQ below (am_Qc G (some (am_i q.1)) q.2) args s 0 0 (am_fr G)) (16, [(0, am_r 12 17 0), (1, am_r ox1 2 0), (2, am_r ox2 8 ix2), (3, am_i x3), (4, am_i x4), (5, am_i x5)], [], σ) := by
  intro n
  induction n with
  | zero =>
    intro ox1 ox2 ix2 x3 x4 x5 σ h
    have h : (none : Option (Int32 × am_S)) = some q := h
    cases h
  | succ n ih =>
    intro ox1 ox2 ix2 x3 x4 x5 σ h
    exact lc_X6_findRoute_8_16 X hr  (lp_X6_findRoute_8_16  n) ih ox1 ox2 ix2 x3 x4 x5 σ h
def fn_X6_findRoute_8 (oa1 : Nat) (oa2 : Nat) (ia2 : Nat) (a3 : Int32) (σ : am_S) : Option (Int32 × am_S) :=
  (fn_X6_measure_8 oa1 oa2 ia2 4 (-1) (σ)).bind fun q1 => lp_X6_findRoute_8_16  1000 oa1 oa2 ia2 a3 (q1.1 oa2 8 ia2 3) 0 q1
set_option maxRecDepth 100000 in
theorem ok_X6_findRoute_8 (l : Launch) (oa1 : Nat) (oa2 : Nat) (ia2 : Nat) (a3 : Int32) (σ : am_S) {q : Int32 × am_S} (h : fn_X6_findRoute_8 oa1 oa2 ia2 a3 σ = some q) : am_M l yX6_findRoute cX6_findRoute 7 (some .int) 5 [am_r 12 17 0, am_r oa1 2 0, am_r oa2 8 ia2, am_i a3] σ (some (am_i q.1)) q.2 := by
  refine am_M_of (P := am_p6) (by decide +kernel) am_p6_ok rfl ?_
  intro G p e s m args below meth c X hr
  have hc := ct_X6_findRoute
  unfold fn_X6_findRoute_8 at h
  refine am_blk hc X 0 5 (fr' := (5, [(0, am_r 12 17 0), (1, am_r oa1 2 0), (2, am_r oa2 8 ia2), (3, am_i a3)], [am_i (-1), am_i 4, am_r oa2 8 ia2, am_r oa1 2 0, am_r 12 17 0], σ)) rfl ⟨trivial, trivial, trivial, trivial, trivial, trivial⟩ ?_
  obtain ⟨q1, hq2, h⟩ := am_bs h
  refine am_callV hc 5 X (k := 17) (i := 0) (o := 12) (As := [am_r oa1 2 0, am_r oa2 8 ia2, am_i 4, am_i (-1)]) (rest := []) rfl (ok_X6_measure_8 l oa1 oa2 ia2 4 (-1) (σ) hq2) yv_X6_measure ml_X6_60 (cl_17) rfl rfl rfl rfl rfl ?_
  refine am_blk hc X 6 6 (fr' := (16, [(0, am_r 12 17 0), (1, am_r oa1 2 0), (2, am_r oa2 8 ia2), (3, am_i a3), (4, am_i (q1.1 oa2 8 ia2 3)), (5, am_i 0)], [], q1)) rfl ⟨trivial, trivial, (am_in_vp (by decide)), trivial, trivial, trivial, trivial⟩ ?_
  exact ll_X6_findRoute_8_16 X hr   1000 oa1 oa2 ia2 a3 (q1.1 oa2 8 ia2 3) 0 _ h
def jn_X7_route_23   (σ : am_S) : Option (Int32 × am_S) :=
  (fn_X7_refuse (-2) (σ)).bind fun q3 => some (q3.1, q3.2)
set_option maxRecDepth 100000 in
theorem jl_X7_route_23 {p : Program} {l : Launch} {e : Env} {s : State} {m : MethodId} {args : Array Value} {below : List Frame} {meth : Method} {c : Code} {G : am_G} {q : Int32 × am_S} (X : am_X p s m args c cX7_route yX7_route.cls 5 am_p7 G (am_fr G)) (hr : meth.sig.returnType = (some .int) ∧ meth.locks = false)     (σ : am_S) (h : jn_X7_route_23   σ = some q) : am_A p l e (am_ro 6) s m args below meth c 5 G (am_fr G) 0 0 (MQ below (am_Qc G (some (am_i q.1)) q.2) args s 0 0 (am_fr G)) (23, [(0, am_r 0 0 0)], [], σ) := by
  have hc := ct_X7_route
  unfold jn_X7_route_23 at h
  refine am_blk hc X 11 2 (fr' := (26, [(0, am_r 0 0 0)], [am_i (-2), am_r 0 0 0], σ)) rfl ⟨trivial, trivial, trivial⟩ ?_
  obtain ⟨q3, hq4, h⟩ := am_bs h
  refine am_callV hc 13 X (k := 0) (i := 0) (o := 0) (As := [am_i (-2)]) (rest := []) rfl (ok_X7_refuse l (-2) (σ) hq4) yv_X7_refuse ml_X7_77 (cl_0) rfl rfl rfl rfl rfl ?_
  obtain rfl := Option.some.inj h
  exact am_iret hc X hr 14 rfl rfl rfl
def jn_X7_route_85   (σ : am_S) : Option (Int32 × am_S) :=
  (fn_X7_refuse (-5) (σ)).bind fun q10 => some (q10.1, q10.2)
set_option maxRecDepth 100000 in
theorem jl_X7_route_85 {p : Program} {l : Launch} {e : Env} {s : State} {m : MethodId} {args : Array Value} {below : List Frame} {meth : Method} {c : Code} {G : am_G} {q : Int32 × am_S} (X : am_X p s m args c cX7_route yX7_route.cls 5 am_p7 G (am_fr G)) (hr : meth.sig.returnType = (some .int) ∧ meth.locks = false)     (σ : am_S) (h : jn_X7_route_85   σ = some q) : am_A p l e (am_ro 6) s m args below meth c 5 G (am_fr G) 0 0 (MQ below (am_Qc G (some (am_i q.1)) q.2) args s 0 0 (am_fr G)) (85, [(0, am_r 0 0 0)], [], σ) := by
  have hc := ct_X7_route
  unfold jn_X7_route_85 at h
  refine am_blk hc X 44 2 (fr' := (88, [(0, am_r 0 0 0)], [am_i (-5), am_r 0 0 0], σ)) rfl ⟨trivial, trivial, trivial⟩ ?_
  obtain ⟨q10, hq11, h⟩ := am_bs h
  refine am_callV hc 46 X (k := 0) (i := 0) (o := 0) (As := [am_i (-5)]) (rest := []) rfl (ok_X7_refuse l (-5) (σ) hq11) yv_X7_refuse ml_X7_77 (cl_0) rfl rfl rfl rfl rfl ?_
  obtain rfl := Option.some.inj h
  exact am_iret hc X hr 47 rfl rfl rfl
def fn_X7_route (a1 : Int32) (a2 : Int32) (a3 : Int32) (σ : am_S) : Option (Int32 × am_S) :=
  (fn_X0_hasPerson 1 a1 (σ)).bind fun q1 => (if q1.1 = 0 then jn_X7_route_23   q1.2 else (fn_X7_isValley a2 q1.2).bind fun q5 => (if q5.1 = 0 then jn_X7_route_23   q5.2 else (if (-1) ≤ a3 then (bif am_in a1 6 then (fn_X6_findRoute_8 1 1 ((a1 : Int32).toNatClampNeg) a2 q5.2).bind fun q8 => (if a3 = (-1) then some (q8.1, q8.2) else (if q8.1 ≤ a3 then jn_X7_route_85   q8.2 else (if 7 ≤ a3 then jn_X7_route_85   q8.2 else (bif am_in a3 7 then some ((q8.2.1 12 20 0 ((a3 : Int32).toNatClampNeg)), q8.2) else none)))) else none) else jn_X7_route_23   q5.2)))
set_option maxRecDepth 100000 in
theorem ok_X7_route (l : Launch) (a1 : Int32) (a2 : Int32) (a3 : Int32) (σ : am_S) {q : Int32 × am_S} (h : fn_X7_route a1 a2 a3 σ = some q) : am_M l yX7_route cX7_route 5 (some .int) 6 [am_r 0 0 0, am_i a1, am_i a2, am_i a3] σ (some (am_i q.1)) q.2 := by
  refine am_M_of (P := am_p7) (by decide +kernel) am_p7_ok rfl ?_
  intro G p e s m args below meth c X hr
  have hc := ct_X7_route
  unfold fn_X7_route at h
  refine am_blk hc X 0 3 (fr' := (5, [(0, am_r 0 0 0), (1, am_i a1), (2, am_i a2), (3, am_i a3)], [am_i a1, am_r 1 2 0], σ)) rfl ⟨trivial, trivial, trivial, trivial⟩ ?_
  obtain ⟨q1, hq2, h⟩ := am_bs h
  refine am_callV hc 3 X (k := 2) (i := 0) (o := 1) (As := [am_i a1]) (rest := []) rfl (ok_X0_hasPerson l 1 a1 (σ) hq2) yv_X0_hasPerson ml_X7_114 (cl_2) rfl rfl rfl rfl rfl ?_
  refine am_if_eq hc X 4 (tgt := 23) rfl (by decide) (fun c18 => ?_) (fun c18 => ?_)
  · replace h := am_ip c18 h
    refine am_less [0] rfl ?_
    exact jl_X7_route_23 X hr    _ h
  · replace h := am_in2 c18 h
    refine am_blk hc X 5 1 (fr' := (12, [(0, am_r 0 0 0), (1, am_i a1), (2, am_i a2), (3, am_i a3)], [am_i a2], q1.2)) rfl ⟨trivial, trivial⟩ ?_
    obtain ⟨q5, hq6, h⟩ := am_bs h
    refine am_callS hc 6 X (As := [am_i a2]) (rest := []) rfl (ok_X7_isValley l a2 q1.2 hq6) yv_X7_isValley ml_X7_132 rfl rfl rfl rfl rfl ?_
    refine am_if_eq hc X 7 (tgt := 23) rfl (by decide) (fun c17 => ?_) (fun c17 => ?_)
    · replace h := am_ip c17 h
      refine am_less [0] rfl ?_
      exact jl_X7_route_23 X hr    _ h
    · replace h := am_in2 c17 h
      refine am_blk hc X 8 2 (fr' := (20, [(0, am_r 0 0 0), (1, am_i a1), (2, am_i a2), (3, am_i a3)], [am_i (-1), am_i a3], q5.2)) rfl ⟨trivial, trivial, trivial⟩ ?_
      refine am_icmp_ge hc X 10 (tgt := 30) rfl (by decide) (fun c16 => ?_) (fun c16 => ?_)
      · replace h := am_ip c16 h
        obtain ⟨ob7, h⟩ := am_ci h
        refine am_blk hc X 15 10 (fr' := (48, [(0, am_r 0 0 0), (1, am_i a1), (2, am_i a2), (3, am_i a3)], [am_i a2, am_r 1 8 ((a1 : Int32).toNatClampNeg), am_r 1 2 0, am_r 12 17 0], q5.2)) rfl ⟨trivial, trivial, trivial, trivial, trivial, trivial, trivial, trivial, (am_in_vp ob7), trivial, trivial⟩ ?_
        obtain ⟨q8, hq9, h⟩ := am_bs h
        refine am_callV hc 25 X (k := 17) (i := 0) (o := 12) (As := [am_r 1 2 0, am_r 1 8 ((a1 : Int32).toNatClampNeg), am_i a2]) (rest := []) rfl (ok_X6_findRoute_8 l 1 1 ((a1 : Int32).toNatClampNeg) a2 q5.2 hq9) yv_X6_findRoute ml_X7_198 (cl_17) rfl rfl rfl rfl rfl ?_
        refine am_blk hc X 26 3 (fr' := (55, [(0, am_r 0 0 0), (1, am_i a1), (2, am_i a2), (3, am_i a3), (4, am_i q8.1)], [am_i (-1), am_i a3], q8.2)) rfl ⟨trivial, trivial, trivial, trivial⟩ ?_
        refine am_icmp_ne hc X 29 (tgt := 61) rfl (by decide) (fun c15 => ?_) (fun c15 => ?_)
        · replace h := am_in2 c15 h
          refine am_blk hc X 32 2 (fr' := (64, [(0, am_r 0 0 0), (1, am_i a1), (2, am_i a2), (3, am_i a3), (4, am_i q8.1)], [am_i q8.1, am_i a3], q8.2)) rfl ⟨trivial, trivial, trivial⟩ ?_
          refine am_icmp_ge hc X 34 (tgt := 85) rfl (by decide) (fun c14 => ?_) (fun c14 => ?_)
          · replace h := am_ip c14 h
            refine am_less [0] rfl ?_
            exact jl_X7_route_85 X hr    _ h
          · replace h := am_in2 c14 h
            refine am_blk hc X 35 2 (fr' := (70, [(0, am_r 0 0 0), (1, am_i a1), (2, am_i a2), (3, am_i a3), (4, am_i q8.1)], [am_i 7, am_i a3], q8.2)) rfl ⟨trivial, trivial, trivial⟩ ?_
            refine am_icmp_ge hc X 37 (tgt := 85) rfl (by decide) (fun c13 => ?_) (fun c13 => ?_)
            · replace h := am_ip c13 h
              refine am_less [0] rfl ?_
              exact jl_X7_route_85 X hr    _ h
            · replace h := am_in2 c13 h
              obtain ⟨ob12, h⟩ := am_ci h
              refine am_blk hc X 38 6 (fr' := (91, [(0, am_r 0 0 0), (1, am_i a1), (2, am_i a2), (3, am_i a3), (4, am_i q8.1)], [am_i (q8.2.1 12 20 0 ((a3 : Int32).toNatClampNeg))], q8.2)) rfl ⟨trivial, trivial, trivial, trivial, (am_in_vp ob12), trivial, trivial⟩ ?_
              obtain rfl := Option.some.inj h
              exact am_iret hc X hr 47 rfl rfl rfl
        · replace h := am_ip c15 h
          refine am_blk hc X 30 1 (fr' := (60, [(0, am_r 0 0 0), (1, am_i a1), (2, am_i a2), (3, am_i a3), (4, am_i q8.1)], [am_i q8.1], q8.2)) rfl ⟨trivial, trivial⟩ ?_
          obtain rfl := Option.some.inj h
          exact am_iret hc X hr 31 rfl rfl rfl
      · replace h := am_in2 c16 h
        refine am_less [0] rfl ?_
        exact jl_X7_route_23 X hr    _ h
def jn_X7_row_26   (σ : am_S) : Option (Int32 × am_S) :=
  (fn_X7_refuse (-2) (σ)).bind fun q3 => some (q3.1, q3.2)
set_option maxRecDepth 100000 in
theorem jl_X7_row_26 {p : Program} {l : Launch} {e : Env} {s : State} {m : MethodId} {args : Array Value} {below : List Frame} {meth : Method} {c : Code} {G : am_G} {q : Int32 × am_S} (X : am_X p s m args c cX7_row yX7_row.cls 4 am_p7 G (am_fr G)) (hr : meth.sig.returnType = (some .int) ∧ meth.locks = false)     (σ : am_S) (h : jn_X7_row_26   σ = some q) : am_A p l e (am_ro 2) s m args below meth c 4 G (am_fr G) 0 0 (MQ below (am_Qc G (some (am_i q.1)) q.2) args s 0 0 (am_fr G)) (26, [(0, am_r 0 0 0)], [], σ) := by
  have hc := ct_X7_row
  unfold jn_X7_row_26 at h
  refine am_blk hc X 13 2 (fr' := (29, [(0, am_r 0 0 0)], [am_i (-2), am_r 0 0 0], σ)) rfl ⟨trivial, trivial, trivial⟩ ?_
  obtain ⟨q3, hq4, h⟩ := am_bs h
  refine am_callV hc 15 X (k := 0) (i := 0) (o := 0) (As := [am_i (-2)]) (rest := []) rfl (ok_X7_refuse l (-2) (σ) hq4) yv_X7_refuse ml_X7_77 (cl_0) rfl rfl rfl rfl rfl ?_
  obtain rfl := Option.some.inj h
  exact am_iret hc X hr 16 rfl rfl rfl
def fn_X7_row (a1 : Int32) (a2 : Int32) (a3 : Int32) (σ : am_S) : Option (Int32 × am_S) :=
  (fn_X7_isShelf a1 (σ)).bind fun q1 => (if q1.1 = 0 then jn_X7_row_26   q1.2 else (fn_X7_isWithin a2 0 4 q1.2).bind fun q5 => (if q5.1 = 0 then jn_X7_row_26   q5.2 else (fn_X7_isWithin a3 0 40 q5.2).bind fun q7 => (if q7.1 = 0 then jn_X7_row_26   q7.2 else (fn_X2_putRow a1 a2 a3 q7.2).bind fun q9 => some (1, q9))))
set_option maxRecDepth 100000 in
theorem ok_X7_row (l : Launch) (a1 : Int32) (a2 : Int32) (a3 : Int32) (σ : am_S) {q : Int32 × am_S} (h : fn_X7_row a1 a2 a3 σ = some q) : am_M l yX7_row cX7_row 4 (some .int) 2 [am_r 0 0 0, am_i a1, am_i a2, am_i a3] σ (some (am_i q.1)) q.2 := by
  refine am_M_of (P := am_p7) (by decide +kernel) am_p7_ok rfl ?_
  intro G p e s m args below meth c X hr
  have hc := ct_X7_row
  unfold fn_X7_row at h
  refine am_blk hc X 0 1 (fr' := (1, [(0, am_r 0 0 0), (1, am_i a1), (2, am_i a2), (3, am_i a3)], [am_i a1], σ)) rfl ⟨trivial, trivial⟩ ?_
  obtain ⟨q1, hq2, h⟩ := am_bs h
  refine am_callS hc 1 X (As := [am_i a1]) (rest := []) rfl (ok_X7_isShelf l a1 (σ) hq2) yv_X7_isShelf ml_X7_69 rfl rfl rfl rfl rfl ?_
  refine am_if_eq hc X 2 (tgt := 26) rfl (by decide) (fun c13 => ?_) (fun c13 => ?_)
  · replace h := am_ip c13 h
    refine am_less [0] rfl ?_
    exact jl_X7_row_26 X hr    _ h
  · replace h := am_in2 c13 h
    refine am_blk hc X 3 3 (fr' := (10, [(0, am_r 0 0 0), (1, am_i a1), (2, am_i a2), (3, am_i a3)], [am_i 4, am_i 0, am_i a2], q1.2)) rfl ⟨trivial, trivial, trivial, trivial⟩ ?_
    obtain ⟨q5, hq6, h⟩ := am_bs h
    refine am_callS hc 6 X (As := [am_i a2, am_i 0, am_i 4]) (rest := []) rfl (ok_X7_isWithin l a2 0 4 q1.2 hq6) yv_X7_isWithin ml_X7_73 rfl rfl rfl rfl rfl ?_
    refine am_if_eq hc X 7 (tgt := 26) rfl (by decide) (fun c12 => ?_) (fun c12 => ?_)
    · replace h := am_ip c12 h
      refine am_less [0] rfl ?_
      exact jl_X7_row_26 X hr    _ h
    · replace h := am_in2 c12 h
      refine am_blk hc X 8 3 (fr' := (20, [(0, am_r 0 0 0), (1, am_i a1), (2, am_i a2), (3, am_i a3)], [am_i 40, am_i 0, am_i a3], q5.2)) rfl ⟨trivial, trivial, trivial, trivial⟩ ?_
      obtain ⟨q7, hq8, h⟩ := am_bs h
      refine am_callS hc 11 X (As := [am_i a3, am_i 0, am_i 40]) (rest := []) rfl (ok_X7_isWithin l a3 0 40 q5.2 hq8) yv_X7_isWithin ml_X7_73 rfl rfl rfl rfl rfl ?_
      refine am_if_ne hc X 12 (tgt := 33) rfl (by decide) (fun c11 => ?_) (fun c11 => ?_)
      · replace h := am_in2 c11 h
        refine am_blk hc X 17 5 (fr' := (40, [(0, am_r 0 0 0), (1, am_i a1), (2, am_i a2), (3, am_i a3)], [am_i a3, am_i a2, am_i a1, am_r 10 9 0], q7.2)) rfl ⟨trivial, trivial, trivial, trivial, trivial, trivial⟩ ?_
        obtain ⟨q9, hq10, h⟩ := am_bs h
        refine am_callV hc 22 X (k := 9) (i := 0) (o := 10) (As := [am_i a1, am_i a2, am_i a3]) (rest := []) rfl (ok_X2_putRow l a1 a2 a3 q7.2 hq10) yv_X2_putRow ml_X7_81 (cl_9) rfl rfl rfl rfl rfl ?_
        refine am_blk hc X 23 1 (fr' := (44, [(0, am_r 0 0 0), (1, am_i a1), (2, am_i a2), (3, am_i a3)], [am_i 1], q9)) rfl ⟨trivial, trivial⟩ ?_
        obtain rfl := Option.some.inj h
        exact am_iret hc X hr 24 rfl rfl rfl
      · replace h := am_ip c11 h
        refine am_less [0] rfl ?_
        exact jl_X7_row_26 X hr    _ h
def fn_X7_saved (a1 : Int32) (σ : am_S) : Option (Int32 × am_S) :=
  (fn_X0_hasPass 1 a1 (σ)).bind fun q1 => (if q1.1 = 0 then (fn_X7_refuse (-2) q1.2).bind fun q3 => some (q3.1, q3.2) else (fn_X5_savedBy 1 a1 q1.2).bind fun q5 => some (q5.1, q5.2))
set_option maxRecDepth 100000 in
theorem ok_X7_saved (l : Launch) (a1 : Int32) (σ : am_S) {q : Int32 × am_S} (h : fn_X7_saved a1 σ = some q) : am_M l yX7_saved cX7_saved 2 (some .int) 7 [am_r 0 0 0, am_i a1] σ (some (am_i q.1)) q.2 := by
  refine am_M_of (P := am_p7) (by decide +kernel) am_p7_ok rfl ?_
  intro G p e s m args below meth c X hr
  have hc := ct_X7_saved
  unfold fn_X7_saved at h
  refine am_blk hc X 0 3 (fr' := (5, [(0, am_r 0 0 0), (1, am_i a1)], [am_i a1, am_r 1 2 0], σ)) rfl ⟨trivial, trivial, trivial, trivial⟩ ?_
  obtain ⟨q1, hq2, h⟩ := am_bs h
  refine am_callV hc 3 X (k := 2) (i := 0) (o := 1) (As := [am_i a1]) (rest := []) rfl (ok_X0_hasPass l 1 a1 (σ) hq2) yv_X0_hasPass ml_X7_164 (cl_2) rfl rfl rfl rfl rfl ?_
  refine am_if_eq hc X 4 (tgt := 30) rfl (by decide) (fun c7 => ?_) (fun c7 => ?_)
  · replace h := am_ip c7 h
    refine am_blk hc X 14 2 (fr' := (33, [(0, am_r 0 0 0), (1, am_i a1)], [am_i (-2), am_r 0 0 0], q1.2)) rfl ⟨trivial, trivial, trivial⟩ ?_
    obtain ⟨q3, hq4, h⟩ := am_bs h
    refine am_callV hc 16 X (k := 0) (i := 0) (o := 0) (As := [am_i (-2)]) (rest := []) rfl (ok_X7_refuse l (-2) q1.2 hq4) yv_X7_refuse ml_X7_77 (cl_0) rfl rfl rfl rfl rfl ?_
    obtain rfl := Option.some.inj h
    exact am_iret hc X hr 17 rfl rfl rfl
  · replace h := am_in2 c7 h
    refine am_blk hc X 5 7 (fr' := (24, [(0, am_r 0 0 0), (1, am_i a1)], [am_i a1, am_r 12 17 0, am_r 1 2 0, am_r 13 22 0], q1.2)) rfl ⟨trivial, trivial, trivial, trivial, trivial, trivial, trivial, trivial⟩ ?_
    obtain ⟨q5, hq6, h⟩ := am_bs h
    refine am_callV hc 12 X (k := 22) (i := 0) (o := 13) (As := [am_r 1 2 0, am_r 12 17 0, am_i a1]) (rest := []) rfl (ok_X5_savedBy l 1 a1 q1.2 hq6) yv_X5_savedBy ml_X7_212 (cl_22) rfl rfl rfl rfl rfl ?_
    refine am_blk hc X 13 1 (fr' := (36, [(0, am_r 0 0 0), (1, am_i a1)], [am_i q5.1], q5.2)) rfl ⟨trivial, trivial⟩ ?_
    obtain rfl := Option.some.inj h
    exact am_iret hc X hr 17 rfl rfl rfl
def jn_X7_says_16   (σ : am_S) : Option (Int32 × am_S) :=
  (fn_X7_refuse (-2) (σ)).bind fun q3 => some (q3.1, q3.2)
set_option maxRecDepth 100000 in
theorem jl_X7_says_16 {p : Program} {l : Launch} {e : Env} {s : State} {m : MethodId} {args : Array Value} {below : List Frame} {meth : Method} {c : Code} {G : am_G} {q : Int32 × am_S} (X : am_X p s m args c cX7_says yX7_says.cls 6 am_p7 G (am_fr G)) (hr : meth.sig.returnType = (some .int) ∧ meth.locks = false)     (σ : am_S) (h : jn_X7_says_16   σ = some q) : am_A p l e (am_ro 3) s m args below meth c 6 G (am_fr G) 0 0 (MQ below (am_Qc G (some (am_i q.1)) q.2) args s 0 0 (am_fr G)) (16, [(0, am_r 0 0 0)], [], σ) := by
  have hc := ct_X7_says
  unfold jn_X7_says_16 at h
  refine am_blk hc X 8 2 (fr' := (19, [(0, am_r 0 0 0)], [am_i (-2), am_r 0 0 0], σ)) rfl ⟨trivial, trivial, trivial⟩ ?_
  obtain ⟨q3, hq4, h⟩ := am_bs h
  refine am_callV hc 10 X (k := 0) (i := 0) (o := 0) (As := [am_i (-2)]) (rest := []) rfl (ok_X7_refuse l (-2) (σ) hq4) yv_X7_refuse ml_X7_77 (cl_0) rfl rfl rfl rfl rfl ?_
  obtain rfl := Option.some.inj h
  exact am_iret hc X hr 11 rfl rfl rfl
def jn_X7_says_82   (σ : am_S) : Option (Int32 × am_S) :=
  (fn_X7_refuse (-3) (σ)).bind fun q10 => some (q10.1, q10.2)
set_option maxRecDepth 100000 in
theorem jl_X7_says_82 {p : Program} {l : Launch} {e : Env} {s : State} {m : MethodId} {args : Array Value} {below : List Frame} {meth : Method} {c : Code} {G : am_G} {q : Int32 × am_S} (X : am_X p s m args c cX7_says yX7_says.cls 6 am_p7 G (am_fr G)) (hr : meth.sig.returnType = (some .int) ∧ meth.locks = false)     (σ : am_S) (h : jn_X7_says_82   σ = some q) : am_A p l e (am_ro 3) s m args below meth c 6 G (am_fr G) 0 0 (MQ below (am_Qc G (some (am_i q.1)) q.2) args s 0 0 (am_fr G)) (82, [(0, am_r 0 0 0)], [], σ) := by
  have hc := ct_X7_says
  unfold jn_X7_says_82 at h
  refine am_blk hc X 44 2 (fr' := (85, [(0, am_r 0 0 0)], [am_i (-3), am_r 0 0 0], σ)) rfl ⟨trivial, trivial, trivial⟩ ?_
  obtain ⟨q10, hq11, h⟩ := am_bs h
  refine am_callV hc 46 X (k := 0) (i := 0) (o := 0) (As := [am_i (-3)]) (rest := []) rfl (ok_X7_refuse l (-3) (σ) hq11) yv_X7_refuse ml_X7_77 (cl_0) rfl rfl rfl rfl rfl ?_
  obtain rfl := Option.some.inj h
  exact am_iret hc X hr 47 rfl rfl rfl
def fn_X7_says (a1 : Int32) (a2 : Int32) (σ : am_S) : Option (Int32 × am_S) :=
  (fn_X7_isShelf a1 (σ)).bind fun q1 => (if q1.1 = 0 then jn_X7_says_16   q1.2 else (fn_X7_isWithin a2 0 5 q1.2).bind fun q5 => (if q5.1 = 0 then jn_X7_says_16   q5.2 else (bif am_in a1 8 then (if (q5.2.1 10 10 0 ((a1 : Int32).toNatClampNeg)) = (-1) then (fn_X7_refuse (-4) q5.2).bind fun q21 => some (q21.1, q21.2) else (fn_X0_hasPerson 1 ((q5.2.1 10 10 0 ((a1 : Int32).toNatClampNeg)) - (10 : Int32)) q5.2).bind fun q8 => (if q8.1 = 0 then jn_X7_says_82   q8.2 else (bif am_in ((q5.2.1 10 10 0 ((a1 : Int32).toNatClampNeg)) - (10 : Int32)) 6 then (fn_X7_isOfKind (q8.2.1 1 8 ((((q5.2.1 10 10 0 ((a1 : Int32).toNatClampNeg)) - (10 : Int32)) : Int32).toNatClampNeg) 0) a2 q8.2).bind fun q13 => (if q13.1 = 0 then jn_X7_says_82   q13.2 else (bif am_in ((q5.2.1 10 10 0 ((a1 : Int32).toNatClampNeg)) - (10 : Int32)) 6 then (if a2 = 0 then some ((q13.2.1 1 8 ((((q5.2.1 10 10 0 ((a1 : Int32).toNatClampNeg)) - (10 : Int32)) : Int32).toNatClampNeg) 1), q13.2) else (fn_X0_priceFor_8 1 1 ((((q5.2.1 10 10 0 ((a1 : Int32).toNatClampNeg)) - (10 : Int32)) : Int32).toNatClampNeg) (q13.2.1 1 8 ((((q5.2.1 10 10 0 ((a1 : Int32).toNatClampNeg)) - (10 : Int32)) : Int32).toNatClampNeg) 3) 0 q13.2).bind fun q16 => some (q16.1, q16.2)) else none)) else none))) else none)))
set_option maxRecDepth 100000 in
theorem ok_X7_says (l : Launch) (a1 : Int32) (a2 : Int32) (σ : am_S) {q : Int32 × am_S} (h : fn_X7_says a1 a2 σ = some q) : am_M l yX7_says cX7_says 6 (some .int) 3 [am_r 0 0 0, am_i a1, am_i a2] σ (some (am_i q.1)) q.2 := by
  refine am_M_of (P := am_p7) (by decide +kernel) am_p7_ok rfl ?_
  intro G p e s m args below meth c X hr
  have hc := ct_X7_says
  unfold fn_X7_says at h
  refine am_blk hc X 0 1 (fr' := (1, [(0, am_r 0 0 0), (1, am_i a1), (2, am_i a2)], [am_i a1], σ)) rfl ⟨trivial, trivial⟩ ?_
  obtain ⟨q1, hq2, h⟩ := am_bs h
  refine am_callS hc 1 X (As := [am_i a1]) (rest := []) rfl (ok_X7_isShelf l a1 (σ) hq2) yv_X7_isShelf ml_X7_69 rfl rfl rfl rfl rfl ?_
  refine am_if_eq hc X 2 (tgt := 16) rfl (by decide) (fun c25 => ?_) (fun c25 => ?_)
  · replace h := am_ip c25 h
    refine am_less [0] rfl ?_
    exact jl_X7_says_16 X hr    _ h
  · replace h := am_in2 c25 h
    refine am_blk hc X 3 3 (fr' := (10, [(0, am_r 0 0 0), (1, am_i a1), (2, am_i a2)], [am_i 5, am_i 0, am_i a2], q1.2)) rfl ⟨trivial, trivial, trivial, trivial⟩ ?_
    obtain ⟨q5, hq6, h⟩ := am_bs h
    refine am_callS hc 6 X (As := [am_i a2, am_i 0, am_i 5]) (rest := []) rfl (ok_X7_isWithin l a2 0 5 q1.2 hq6) yv_X7_isWithin ml_X7_73 rfl rfl rfl rfl rfl ?_
    refine am_if_ne hc X 7 (tgt := 23) rfl (by decide) (fun c24 => ?_) (fun c24 => ?_)
    · replace h := am_in2 c24 h
      obtain ⟨ob7, h⟩ := am_ci h
      refine am_blk hc X 12 8 (fr' := (35, [(0, am_r 0 0 0), (1, am_i a1), (2, am_i a2), (3, am_i (q5.2.1 10 10 0 ((a1 : Int32).toNatClampNeg)))], [am_i (-1), am_i (q5.2.1 10 10 0 ((a1 : Int32).toNatClampNeg))], q5.2)) rfl ⟨trivial, trivial, trivial, trivial, (am_in_vp ob7), trivial, trivial, trivial, trivial⟩ ?_
      refine am_icmp_ne hc X 20 (tgt := 45) rfl (by decide) (fun c23 => ?_) (fun c23 => ?_)
      · replace h := am_in2 c23 h
        refine am_blk hc X 25 7 (fr' := (57, [(0, am_r 0 0 0), (1, am_i a1), (2, am_i a2), (3, am_i (q5.2.1 10 10 0 ((a1 : Int32).toNatClampNeg))), (4, am_i ((q5.2.1 10 10 0 ((a1 : Int32).toNatClampNeg)) - (10 : Int32)))], [am_i ((q5.2.1 10 10 0 ((a1 : Int32).toNatClampNeg)) - (10 : Int32)), am_r 1 2 0], q5.2)) rfl ⟨trivial, trivial, trivial, trivial, trivial, trivial, trivial, trivial⟩ ?_
        obtain ⟨q8, hq9, h⟩ := am_bs h
        refine am_callV hc 32 X (k := 2) (i := 0) (o := 1) (As := [am_i ((q5.2.1 10 10 0 ((a1 : Int32).toNatClampNeg)) - (10 : Int32))]) (rest := []) rfl (ok_X0_hasPerson l 1 ((q5.2.1 10 10 0 ((a1 : Int32).toNatClampNeg)) - (10 : Int32)) q5.2 hq9) yv_X0_hasPerson ml_X7_114 (cl_2) rfl rfl rfl rfl rfl ?_
        refine am_if_eq hc X 33 (tgt := 82) rfl (by decide) (fun c20 => ?_) (fun c20 => ?_)
        · replace h := am_ip c20 h
          refine am_less [0] rfl ?_
          exact jl_X7_says_82 X hr    _ h
        · replace h := am_in2 c20 h
          obtain ⟨ob12, h⟩ := am_ci h
          refine am_blk hc X 34 8 (fr' := (76, [(0, am_r 0 0 0), (1, am_i a1), (2, am_i a2), (3, am_i (q5.2.1 10 10 0 ((a1 : Int32).toNatClampNeg))), (4, am_i ((q5.2.1 10 10 0 ((a1 : Int32).toNatClampNeg)) - (10 : Int32)))], [am_i a2, am_i (q8.2.1 1 8 ((((q5.2.1 10 10 0 ((a1 : Int32).toNatClampNeg)) - (10 : Int32)) : Int32).toNatClampNeg) 0)], q8.2)) rfl ⟨trivial, trivial, trivial, trivial, (am_in_vp ob12), trivial, (am_in_vp (by decide)), trivial, trivial⟩ ?_
          obtain ⟨q13, hq14, h⟩ := am_bs h
          refine am_callS hc 42 X (As := [am_i (q8.2.1 1 8 ((((q5.2.1 10 10 0 ((a1 : Int32).toNatClampNeg)) - (10 : Int32)) : Int32).toNatClampNeg) 0), am_i a2]) (rest := []) rfl (ok_X7_isOfKind l (q8.2.1 1 8 ((((q5.2.1 10 10 0 ((a1 : Int32).toNatClampNeg)) - (10 : Int32)) : Int32).toNatClampNeg) 0) a2 q8.2 hq14) yv_X7_isOfKind ml_X7_121 rfl rfl rfl rfl rfl ?_
          refine am_if_ne hc X 43 (tgt := 89) rfl (by decide) (fun c19 => ?_) (fun c19 => ?_)
          · replace h := am_in2 c19 h
            obtain ⟨ob15, h⟩ := am_ci h
            refine am_blk hc X 48 7 (fr' := (102, [(0, am_r 0 0 0), (1, am_i a1), (2, am_i a2), (3, am_i (q5.2.1 10 10 0 ((a1 : Int32).toNatClampNeg))), (4, am_i ((q5.2.1 10 10 0 ((a1 : Int32).toNatClampNeg)) - (10 : Int32))), (5, am_r 1 8 ((((q5.2.1 10 10 0 ((a1 : Int32).toNatClampNeg)) - (10 : Int32)) : Int32).toNatClampNeg))], [am_i a2], q13.2)) rfl ⟨trivial, trivial, trivial, trivial, (am_in_vp ob15), trivial, trivial, trivial⟩ ?_
            refine am_if_ne hc X 55 (tgt := 112) rfl (by decide) (fun c18 => ?_) (fun c18 => ?_)
            · replace h := am_in2 c18 h
              refine am_blk hc X 60 7 (fr' := (123, [(0, am_r 0 0 0), (1, am_i a1), (2, am_i a2), (3, am_i (q5.2.1 10 10 0 ((a1 : Int32).toNatClampNeg))), (4, am_i ((q5.2.1 10 10 0 ((a1 : Int32).toNatClampNeg)) - (10 : Int32))), (5, am_r 1 8 ((((q5.2.1 10 10 0 ((a1 : Int32).toNatClampNeg)) - (10 : Int32)) : Int32).toNatClampNeg))], [am_i 0, am_i (q13.2.1 1 8 ((((q5.2.1 10 10 0 ((a1 : Int32).toNatClampNeg)) - (10 : Int32)) : Int32).toNatClampNeg) 3), am_r 1 8 ((((q5.2.1 10 10 0 ((a1 : Int32).toNatClampNeg)) - (10 : Int32)) : Int32).toNatClampNeg), am_r 1 2 0], q13.2)) rfl ⟨trivial, trivial, trivial, trivial, trivial, (am_in_vp (by decide)), trivial, trivial⟩ ?_
              obtain ⟨q16, hq17, h⟩ := am_bs h
              refine am_callV hc 67 X (k := 2) (i := 0) (o := 1) (As := [am_r 1 8 ((((q5.2.1 10 10 0 ((a1 : Int32).toNatClampNeg)) - (10 : Int32)) : Int32).toNatClampNeg), am_i (q13.2.1 1 8 ((((q5.2.1 10 10 0 ((a1 : Int32).toNatClampNeg)) - (10 : Int32)) : Int32).toNatClampNeg) 3), am_i 0]) (rest := []) rfl (ok_X0_priceFor_8 l 1 1 ((((q5.2.1 10 10 0 ((a1 : Int32).toNatClampNeg)) - (10 : Int32)) : Int32).toNatClampNeg) (q13.2.1 1 8 ((((q5.2.1 10 10 0 ((a1 : Int32).toNatClampNeg)) - (10 : Int32)) : Int32).toNatClampNeg) 3) 0 q13.2 hq17) yv_X0_priceFor ml_X7_124 (cl_2) rfl rfl rfl rfl rfl ?_
              obtain rfl := Option.some.inj h
              exact am_iret hc X hr 68 rfl rfl rfl
            · replace h := am_ip c18 h
              refine am_blk hc X 56 4 (fr' := (126, [(0, am_r 0 0 0), (1, am_i a1), (2, am_i a2), (3, am_i (q5.2.1 10 10 0 ((a1 : Int32).toNatClampNeg))), (4, am_i ((q5.2.1 10 10 0 ((a1 : Int32).toNatClampNeg)) - (10 : Int32))), (5, am_r 1 8 ((((q5.2.1 10 10 0 ((a1 : Int32).toNatClampNeg)) - (10 : Int32)) : Int32).toNatClampNeg))], [am_i (q13.2.1 1 8 ((((q5.2.1 10 10 0 ((a1 : Int32).toNatClampNeg)) - (10 : Int32)) : Int32).toNatClampNeg) 1)], q13.2)) rfl ⟨trivial, trivial, (am_in_vp (by decide)), trivial, trivial⟩ ?_
              obtain rfl := Option.some.inj h
              exact am_iret hc X hr 68 rfl rfl rfl
          · replace h := am_ip c19 h
            refine am_less [0] rfl ?_
            exact jl_X7_says_82 X hr    _ h
      · replace h := am_ip c23 h
        refine am_blk hc X 21 2 (fr' := (41, [(0, am_r 0 0 0), (1, am_i a1), (2, am_i a2), (3, am_i (q5.2.1 10 10 0 ((a1 : Int32).toNatClampNeg)))], [am_i (-4), am_r 0 0 0], q5.2)) rfl ⟨trivial, trivial, trivial⟩ ?_
        obtain ⟨q21, hq22, h⟩ := am_bs h
        refine am_callV hc 23 X (k := 0) (i := 0) (o := 0) (As := [am_i (-4)]) (rest := []) rfl (ok_X7_refuse l (-4) q5.2 hq22) yv_X7_refuse ml_X7_77 (cl_0) rfl rfl rfl rfl rfl ?_
        obtain rfl := Option.some.inj h
        exact am_iret hc X hr 24 rfl rfl rfl
    · replace h := am_ip c24 h
      refine am_less [0] rfl ?_
      exact jl_X7_says_16 X hr    _ h
def fn_X7_seed (a1 : Int32) (σ : am_S) : Option (Int32 × am_S) :=
  some ((σ.1 1 2 0 6), (am_u σ 1 2 0 6 a1))
set_option maxRecDepth 100000 in
theorem ok_X7_seed (l : Launch) (a1 : Int32) (σ : am_S) {q : Int32 × am_S} (h : fn_X7_seed a1 σ = some q) : am_M l yX7_seed cX7_seed 3 (some .int) 0 [am_r 0 0 0, am_i a1] σ (some (am_i q.1)) q.2 := by
  refine am_M_of (P := am_p7) (by decide +kernel) am_p7_ok rfl ?_
  intro G p e s m args below meth c X hr
  have hc := ct_X7_seed
  unfold fn_X7_seed at h
  refine am_blk hc X 0 9 (fr' := (17, [(0, am_r 0 0 0), (1, am_i a1), (2, am_i (σ.1 1 2 0 6))], [am_i (σ.1 1 2 0 6)], (am_u σ 1 2 0 6 a1))) rfl ⟨trivial, trivial, trivial, trivial, trivial, trivial, trivial, trivial, trivial, trivial⟩ ?_
  obtain rfl := Option.some.inj h
  exact am_iret hc X hr 9 rfl rfl rfl
def jn_X7_set_43  (x1 : Int32) (x2 : Int32) (x3 : Int64) (x5 : Int32) (σ : am_S) : Option (Int32 × am_S) :=
  (if x5 = 0 then (fn_X2_putElement x1 x2 x3 (σ)).bind fun q3 => some (1, q3) else (fn_X7_refuse x5 (σ)).bind fun q5 => some (q5.1, q5.2))
set_option maxRecDepth 100000 in
theorem jl_X7_set_43 {p : Program} {l : Launch} {e : Env} {s : State} {m : MethodId} {args : Array Value} {below : List Frame} {meth : Method} {c : Code} {G : am_G} {q : Int32 × am_S} (X : am_X p s m args c cX7_set yX7_set.cls 6 am_p7 G (am_fr G)) (hr : meth.sig.returnType = (some .int) ∧ meth.locks = false)    (x1 : Int32) (x2 : Int32) (x3 : Int64) (x5 : Int32) (σ : am_S) (h : jn_X7_set_43  x1 x2 x3 x5 σ = some q) : am_A p l e (am_ro 3) s m args below meth c 6 G (am_fr G) 0 0 (MQ below (am_Qc G (some (am_i q.1)) q.2) args s 0 0 (am_fr G)) (43, [(0, am_r 0 0 0), (1, am_i x1), (2, am_i x2), (3, am_l x3), (5, am_i x5)], [], σ) := by
  have hc := ct_X7_set
  unfold jn_X7_set_43 at h
  refine am_blk hc X 20 1 (fr' := (45, [(0, am_r 0 0 0), (1, am_i x1), (2, am_i x2), (3, am_l x3), (5, am_i x5)], [am_i x5], σ)) rfl ⟨trivial, trivial⟩ ?_
  refine am_if_eq hc X 21 (tgt := 55) rfl (by decide) (fun c7 => ?_) (fun c7 => ?_)
  · replace h := am_ip c7 h
    refine am_blk hc X 26 5 (fr' := (62, [(0, am_r 0 0 0), (1, am_i x1), (2, am_i x2), (3, am_l x3), (5, am_i x5)], [am_l x3, am_i x2, am_i x1, am_r 10 9 0], σ)) rfl ⟨trivial, trivial, trivial, trivial, trivial, trivial⟩ ?_
    obtain ⟨q3, hq4, h⟩ := am_bs h
    refine am_callV hc 31 X (k := 9) (i := 0) (o := 10) (As := [am_i x1, am_i x2, am_l x3]) (rest := []) rfl (ok_X2_putElement l x1 x2 x3 (σ) hq4) yv_X2_putElement ml_X7_92 (cl_9) rfl rfl rfl rfl rfl ?_
    refine am_blk hc X 32 1 (fr' := (66, [(0, am_r 0 0 0), (1, am_i x1), (2, am_i x2), (3, am_l x3), (5, am_i x5)], [am_i 1], q3)) rfl ⟨trivial, trivial⟩ ?_
    obtain rfl := Option.some.inj h
    exact am_iret hc X hr 33 rfl rfl rfl
  · replace h := am_in2 c7 h
    refine am_blk hc X 22 2 (fr' := (51, [(0, am_r 0 0 0), (1, am_i x1), (2, am_i x2), (3, am_l x3), (5, am_i x5)], [am_i x5, am_r 0 0 0], σ)) rfl ⟨trivial, trivial, trivial⟩ ?_
    obtain ⟨q5, hq6, h⟩ := am_bs h
    refine am_callV hc 24 X (k := 0) (i := 0) (o := 0) (As := [am_i x5]) (rest := []) rfl (ok_X7_refuse l x5 (σ) hq6) yv_X7_refuse ml_X7_77 (cl_0) rfl rfl rfl rfl rfl ?_
    obtain rfl := Option.some.inj h
    exact am_iret hc X hr 25 rfl rfl rfl
def jn_X7_set_20  (x1 : Int32) (x2 : Int32) (x3 : Int64) (y0 : Int32) (σ : am_S) : Option (Int32 × am_S) :=
  (if y0 = 0 then (fn_X2_hasElement x1 x2 (σ)).bind fun q8 => (if q8.1 = 0 then jn_X7_set_43  x1 x2 x3 (-2) q8.2 else jn_X7_set_43  x1 x2 x3 y0 q8.2) else jn_X7_set_43  x1 x2 x3 y0 (σ))
set_option maxRecDepth 100000 in
theorem jl_X7_set_20 {p : Program} {l : Launch} {e : Env} {s : State} {m : MethodId} {args : Array Value} {below : List Frame} {meth : Method} {c : Code} {G : am_G} {q : Int32 × am_S} (X : am_X p s m args c cX7_set yX7_set.cls 6 am_p7 G (am_fr G)) (hr : meth.sig.returnType = (some .int) ∧ meth.locks = false)    (x1 : Int32) (x2 : Int32) (x3 : Int64) (y0 : Int32) (σ : am_S) (h : jn_X7_set_20  x1 x2 x3 y0 σ = some q) : am_A p l e (am_ro 3) s m args below meth c 6 G (am_fr G) 0 0 (MQ below (am_Qc G (some (am_i q.1)) q.2) args s 0 0 (am_fr G)) (20, [(0, am_r 0 0 0), (1, am_i x1), (2, am_i x2), (3, am_l x3)], [am_i y0], σ) := by
  have hc := ct_X7_set
  unfold jn_X7_set_20 at h
  refine am_blk hc X 9 2 (fr' := (24, [(0, am_r 0 0 0), (1, am_i x1), (2, am_i x2), (3, am_l x3), (5, am_i y0)], [am_i y0], σ)) rfl ⟨trivial, trivial, trivial⟩ ?_
  refine am_if_ne hc X 11 (tgt := 43) rfl (by decide) (fun c11 => ?_) (fun c11 => ?_)
  · replace h := am_in2 c11 h
    exact jl_X7_set_43 X hr   x1 x2 x3 y0 _ h
  · replace h := am_ip c11 h
    refine am_blk hc X 12 4 (fr' := (33, [(0, am_r 0 0 0), (1, am_i x1), (2, am_i x2), (3, am_l x3), (5, am_i y0)], [am_i x2, am_i x1, am_r 10 9 0], σ)) rfl ⟨trivial, trivial, trivial, trivial, trivial⟩ ?_
    obtain ⟨q8, hq9, h⟩ := am_bs h
    refine am_callV hc 16 X (k := 9) (i := 0) (o := 10) (As := [am_i x1, am_i x2]) (rest := []) rfl (ok_X2_hasElement l x1 x2 (σ) hq9) yv_X2_hasElement ml_X7_88 (cl_9) rfl rfl rfl rfl rfl ?_
    refine am_if_ne hc X 17 (tgt := 43) rfl (by decide) (fun c10 => ?_) (fun c10 => ?_)
    · replace h := am_in2 c10 h
      exact jl_X7_set_43 X hr   x1 x2 x3 y0 _ h
    · replace h := am_ip c10 h
      refine am_blk hc X 18 2 (fr' := (43, [(0, am_r 0 0 0), (1, am_i x1), (2, am_i x2), (3, am_l x3), (5, am_i (-2))], [], q8.2)) rfl ⟨trivial, trivial, trivial⟩ ?_
      exact jl_X7_set_43 X hr   x1 x2 x3 (-2) _ h
def fn_X7_set (a1 : Int32) (a2 : Int32) (a3 : Int64) (σ : am_S) : Option (Int32 × am_S) :=
  (fn_X7_isShelf a1 (σ)).bind fun q1 => (if q1.1 = 0 then jn_X7_set_20  a1 a2 a3 (-2) q1.2 else (fn_X2_refusalOfRow a1 q1.2).bind fun q12 => jn_X7_set_20  a1 a2 a3 q12.1 q12.2)
set_option maxRecDepth 100000 in
theorem ok_X7_set (l : Launch) (a1 : Int32) (a2 : Int32) (a3 : Int64) (σ : am_S) {q : Int32 × am_S} (h : fn_X7_set a1 a2 a3 σ = some q) : am_M l yX7_set cX7_set 6 (some .int) 3 [am_r 0 0 0, am_i a1, am_i a2, am_l a3] σ (some (am_i q.1)) q.2 := by
  refine am_M_of (P := am_p7) (by decide +kernel) am_p7_ok rfl ?_
  intro G p e s m args below meth c X hr
  have hc := ct_X7_set
  unfold fn_X7_set at h
  refine am_blk hc X 0 1 (fr' := (1, [(0, am_r 0 0 0), (1, am_i a1), (2, am_i a2), (3, am_l a3)], [am_i a1], σ)) rfl ⟨trivial, trivial⟩ ?_
  obtain ⟨q1, hq2, h⟩ := am_bs h
  refine am_callS hc 1 X (As := [am_i a1]) (rest := []) rfl (ok_X7_isShelf l a1 (σ) hq2) yv_X7_isShelf ml_X7_69 rfl rfl rfl rfl rfl ?_
  refine am_if_eq hc X 2 (tgt := 18) rfl (by decide) (fun c14 => ?_) (fun c14 => ?_)
  · replace h := am_ip c14 h
    refine am_blk hc X 8 1 (fr' := (20, [(0, am_r 0 0 0), (1, am_i a1), (2, am_i a2), (3, am_l a3)], [am_i (-2)], q1.2)) rfl ⟨trivial, trivial⟩ ?_
    exact jl_X7_set_20 X hr   a1 a2 a3 (-2) _ h
  · replace h := am_in2 c14 h
    refine am_blk hc X 3 3 (fr' := (12, [(0, am_r 0 0 0), (1, am_i a1), (2, am_i a2), (3, am_l a3)], [am_i a1, am_r 10 9 0], q1.2)) rfl ⟨trivial, trivial, trivial, trivial⟩ ?_
    obtain ⟨q12, hq13, h⟩ := am_bs h
    refine am_callV hc 6 X (k := 9) (i := 0) (o := 10) (As := [am_i a1]) (rest := []) rfl (ok_X2_refusalOfRow l a1 q1.2 hq13) yv_X2_refusalOfRow ml_X7_85 (cl_9) rfl rfl rfl rfl rfl ?_
    refine am_blk hc X 7 1 (fr' := (20, [(0, am_r 0 0 0), (1, am_i a1), (2, am_i a2), (3, am_l a3)], [am_i q12.1], q12.2)) rfl ⟨trivial, trivial⟩ ?_
    exact jl_X7_set_20 X hr   a1 a2 a3 q12.1 _ h
def jn_X7_show_23   (σ : am_S) : Option (Int32 × am_S) :=
  (fn_X7_refuse (-2) (σ)).bind fun q3 => some (q3.1, q3.2)
set_option maxRecDepth 100000 in
theorem jl_X7_show_23 {p : Program} {l : Launch} {e : Env} {s : State} {m : MethodId} {args : Array Value} {below : List Frame} {meth : Method} {c : Code} {G : am_G} {q : Int32 × am_S} (X : am_X p s m args c cX7_show yX7_show.cls 3 am_p7 G (am_fr G)) (hr : meth.sig.returnType = (some .int) ∧ meth.locks = false)     (σ : am_S) (h : jn_X7_show_23   σ = some q) : am_A p l e (am_ro 2) s m args below meth c 3 G (am_fr G) 0 0 (MQ below (am_Qc G (some (am_i q.1)) q.2) args s 0 0 (am_fr G)) (23, [(0, am_r 0 0 0)], [], σ) := by
  have hc := ct_X7_show
  unfold jn_X7_show_23 at h
  refine am_blk hc X 11 2 (fr' := (26, [(0, am_r 0 0 0)], [am_i (-2), am_r 0 0 0], σ)) rfl ⟨trivial, trivial, trivial⟩ ?_
  obtain ⟨q3, hq4, h⟩ := am_bs h
  refine am_callV hc 13 X (k := 0) (i := 0) (o := 0) (As := [am_i (-2)]) (rest := []) rfl (ok_X7_refuse l (-2) (σ) hq4) yv_X7_refuse ml_X7_77 (cl_0) rfl rfl rfl rfl rfl ?_
  obtain rfl := Option.some.inj h
  exact am_iret hc X hr 14 rfl rfl rfl
def jn_X7_show_51  (y0 : Int32) (y1 : Int32) (σ : am_S) : Option (Int32 × am_S) :=
  (bif am_in y1 8 then some (1, (am_u σ 10 10 0 ((y1 : Int32).toNatClampNeg) y0)) else none)
set_option maxRecDepth 100000 in
theorem jl_X7_show_51 {p : Program} {l : Launch} {e : Env} {s : State} {m : MethodId} {args : Array Value} {below : List Frame} {meth : Method} {c : Code} {G : am_G} {q : Int32 × am_S} (X : am_X p s m args c cX7_show yX7_show.cls 3 am_p7 G (am_fr G)) (hr : meth.sig.returnType = (some .int) ∧ meth.locks = false)    (y0 : Int32) (y1 : Int32) (σ : am_S) (h : jn_X7_show_51  y0 y1 σ = some q) : am_A p l e (am_ro 2) s m args below meth c 3 G (am_fr G) 0 0 (MQ below (am_Qc G (some (am_i q.1)) q.2) args s 0 0 (am_fr G)) (51, [], [am_i y0, am_i y1, am_r 10 10 0], σ) := by
  have hc := ct_X7_show
  unfold jn_X7_show_51 at h
  obtain ⟨ob5, h⟩ := am_ci h
  refine am_blk hc X 27 2 (fr' := (53, [], [am_i 1], (am_u σ 10 10 0 ((y1 : Int32).toNatClampNeg) y0))) rfl ⟨(am_in_vp ob5), trivial, trivial⟩ ?_
  obtain rfl := Option.some.inj h
  exact am_iret hc X hr 29 rfl rfl rfl
def jn_X7_show_30  (x1 : Int32) (x2 : Int32) (σ : am_S) : Option (Int32 × am_S) :=
  (if x2 = (-1) then jn_X7_show_51  (-1) x1 (σ) else jn_X7_show_51  ((10 : Int32) + x2) x1 (σ))
set_option maxRecDepth 100000 in
theorem jl_X7_show_30 {p : Program} {l : Launch} {e : Env} {s : State} {m : MethodId} {args : Array Value} {below : List Frame} {meth : Method} {c : Code} {G : am_G} {q : Int32 × am_S} (X : am_X p s m args c cX7_show yX7_show.cls 3 am_p7 G (am_fr G)) (hr : meth.sig.returnType = (some .int) ∧ meth.locks = false)    (x1 : Int32) (x2 : Int32) (σ : am_S) (h : jn_X7_show_30  x1 x2 σ = some q) : am_A p l e (am_ro 2) s m args below meth c 3 G (am_fr G) 0 0 (MQ below (am_Qc G (some (am_i q.1)) q.2) args s 0 0 (am_fr G)) (30, [(0, am_r 0 0 0), (1, am_i x1), (2, am_i x2)], [], σ) := by
  have hc := ct_X7_show
  unfold jn_X7_show_30 at h
  refine am_blk hc X 15 6 (fr' := (40, [(0, am_r 0 0 0), (1, am_i x1), (2, am_i x2)], [am_i (-1), am_i x2, am_i x1, am_r 10 10 0], σ)) rfl ⟨trivial, trivial, trivial, trivial, trivial, trivial, trivial⟩ ?_
  refine am_icmp_ne hc X 21 (tgt := 47) rfl (by decide) (fun c6 => ?_) (fun c6 => ?_)
  · replace h := am_in2 c6 h
    refine am_blk hc X 24 3 (fr' := (51, [(0, am_r 0 0 0), (1, am_i x1), (2, am_i x2)], [am_i ((10 : Int32) + x2), am_i x1, am_r 10 10 0], σ)) rfl ⟨trivial, trivial, trivial, trivial⟩ ?_
    refine am_less [] rfl ?_
    exact jl_X7_show_51 X hr   ((10 : Int32) + x2) x1 _ h
  · replace h := am_ip c6 h
    refine am_blk hc X 22 2 (fr' := (51, [(0, am_r 0 0 0), (1, am_i x1), (2, am_i x2)], [am_i (-1), am_i x1, am_r 10 10 0], σ)) rfl ⟨trivial, trivial, trivial⟩ ?_
    refine am_less [] rfl ?_
    exact jl_X7_show_51 X hr   (-1) x1 _ h
def fn_X7_show (a1 : Int32) (a2 : Int32) (σ : am_S) : Option (Int32 × am_S) :=
  (fn_X7_isShelf a1 (σ)).bind fun q1 => (if q1.1 = 0 then jn_X7_show_23   q1.2 else (if a2 = (-1) then jn_X7_show_30  a1 a2 q1.2 else (fn_X0_hasPerson 1 a2 q1.2).bind fun q7 => (if q7.1 = 0 then jn_X7_show_23   q7.2 else jn_X7_show_30  a1 a2 q7.2)))
set_option maxRecDepth 100000 in
theorem ok_X7_show (l : Launch) (a1 : Int32) (a2 : Int32) (σ : am_S) {q : Int32 × am_S} (h : fn_X7_show a1 a2 σ = some q) : am_M l yX7_show cX7_show 3 (some .int) 2 [am_r 0 0 0, am_i a1, am_i a2] σ (some (am_i q.1)) q.2 := by
  refine am_M_of (P := am_p7) (by decide +kernel) am_p7_ok rfl ?_
  intro G p e s m args below meth c X hr
  have hc := ct_X7_show
  unfold fn_X7_show at h
  refine am_blk hc X 0 1 (fr' := (1, [(0, am_r 0 0 0), (1, am_i a1), (2, am_i a2)], [am_i a1], σ)) rfl ⟨trivial, trivial⟩ ?_
  obtain ⟨q1, hq2, h⟩ := am_bs h
  refine am_callS hc 1 X (As := [am_i a1]) (rest := []) rfl (ok_X7_isShelf l a1 (σ) hq2) yv_X7_isShelf ml_X7_69 rfl rfl rfl rfl rfl ?_
  refine am_if_eq hc X 2 (tgt := 23) rfl (by decide) (fun c11 => ?_) (fun c11 => ?_)
  · replace h := am_ip c11 h
    refine am_less [0] rfl ?_
    exact jl_X7_show_23 X hr    _ h
  · replace h := am_in2 c11 h
    refine am_blk hc X 3 2 (fr' := (9, [(0, am_r 0 0 0), (1, am_i a1), (2, am_i a2)], [am_i (-1), am_i a2], q1.2)) rfl ⟨trivial, trivial, trivial⟩ ?_
    refine am_icmp_eq hc X 5 (tgt := 30) rfl (by decide) (fun c10 => ?_) (fun c10 => ?_)
    · replace h := am_ip c10 h
      exact jl_X7_show_30 X hr   a1 a2 _ h
    · replace h := am_in2 c10 h
      refine am_blk hc X 6 3 (fr' := (17, [(0, am_r 0 0 0), (1, am_i a1), (2, am_i a2)], [am_i a2, am_r 1 2 0], q1.2)) rfl ⟨trivial, trivial, trivial, trivial⟩ ?_
      obtain ⟨q7, hq8, h⟩ := am_bs h
      refine am_callV hc 9 X (k := 2) (i := 0) (o := 1) (As := [am_i a2]) (rest := []) rfl (ok_X0_hasPerson l 1 a2 q1.2 hq8) yv_X0_hasPerson ml_X7_114 (cl_2) rfl rfl rfl rfl rfl ?_
      refine am_if_ne hc X 10 (tgt := 30) rfl (by decide) (fun c9 => ?_) (fun c9 => ?_)
      · replace h := am_in2 c9 h
        exact jl_X7_show_30 X hr   a1 a2 _ h
      · replace h := am_ip c9 h
        refine am_less [0] rfl ?_
        exact jl_X7_show_23 X hr    _ h
def fn_X7_status (a1 : Int32) (σ : am_S) : Option (Int32 × am_S) :=
  (if a1 = 0 then some ((σ.1 1 2 0 4), σ) else (if a1 = 1 then some ((σ.1 1 2 0 3), σ) else (if a1 = 2 then some ((σ.1 1 2 0 5), σ) else (if a1 = 3 then (fn_X0_together 1 5 (σ)).bind fun q18 => some (q18.1, q18.2) else (if a1 = 4 then (fn_X0_together 1 7 (σ)).bind fun q16 => some (q16.1, q16.2) else (if a1 = 5 then some ((σ.1 1 2 0 7), σ) else (if a1 = 6 then some ((σ.1 11 14 0 2), σ) else (if a1 = 7 then some ((σ.1 1 2 0 6), σ) else (if a1 = 8 then (fn_X2_howManyHold  (σ)).bind fun q14 => some (q14.1, q14.2) else (fn_X7_isWithin a1 12 16 (σ)).bind fun q1 => (if q1.1 = 0 then some ((-1), q1.2) else (bif am_in (a1 - (12 : Int32)) 5 then some ((q1.2.1 0 1 0 (((a1 - (12 : Int32)) : Int32).toNatClampNeg)), q1.2) else none)))))))))))
set_option maxRecDepth 100000 in
theorem ok_X7_status (l : Launch) (a1 : Int32) (σ : am_S) {q : Int32 × am_S} (h : fn_X7_status a1 σ = some q) : am_M l yX7_status cX7_status 2 (some .int) 1 [am_r 0 0 0, am_i a1] σ (some (am_i q.1)) q.2 := by
  refine am_M_of (P := am_p7) (by decide +kernel) am_p7_ok rfl ?_
  intro G p e s m args below meth c X hr
  have hc := ct_X7_status
  unfold fn_X7_status at h
  refine am_blk hc X 0 1 (fr' := (1, [(0, am_r 0 0 0), (1, am_i a1)], [am_i a1], σ)) rfl ⟨trivial, trivial⟩ ?_
  by_cases c5 : a1 = 0
  · replace h := am_ip c5 h
    refine am_tin hc X 1 (tgt := 52) (off := 51) rfl (by rw [c5]; decide) (by rw [c5]; decide) (by rw [c5]; rfl) (by decide) ?_
    refine am_blk hc X 2 3 (fr' := (59, [(0, am_r 0 0 0), (1, am_i a1)], [am_i (σ.1 1 2 0 4)], σ)) rfl ⟨trivial, trivial, trivial, trivial⟩ ?_
    obtain rfl := Option.some.inj h
    exact am_iret hc X hr 5 rfl rfl rfl
  · replace h := am_in2 c5 h
    by_cases c6 : a1 = 1
    · replace h := am_ip c6 h
      refine am_tin hc X 1 (tgt := 60) (off := 59) rfl (by rw [c6]; decide) (by rw [c6]; decide) (by rw [c6]; rfl) (by decide) ?_
      refine am_blk hc X 6 3 (fr' := (67, [(0, am_r 0 0 0), (1, am_i a1)], [am_i (σ.1 1 2 0 3)], σ)) rfl ⟨trivial, trivial, trivial, trivial⟩ ?_
      obtain rfl := Option.some.inj h
      exact am_iret hc X hr 9 rfl rfl rfl
    · replace h := am_in2 c6 h
      by_cases c7 : a1 = 2
      · replace h := am_ip c7 h
        refine am_tin hc X 1 (tgt := 68) (off := 67) rfl (by rw [c7]; decide) (by rw [c7]; decide) (by rw [c7]; rfl) (by decide) ?_
        refine am_blk hc X 10 3 (fr' := (75, [(0, am_r 0 0 0), (1, am_i a1)], [am_i (σ.1 1 2 0 5)], σ)) rfl ⟨trivial, trivial, trivial, trivial⟩ ?_
        obtain rfl := Option.some.inj h
        exact am_iret hc X hr 13 rfl rfl rfl
      · replace h := am_in2 c7 h
        by_cases c8 : a1 = 3
        · replace h := am_ip c8 h
          refine am_tin hc X 1 (tgt := 76) (off := 75) rfl (by rw [c8]; decide) (by rw [c8]; decide) (by rw [c8]; rfl) (by decide) ?_
          refine am_blk hc X 14 3 (fr' := (81, [(0, am_r 0 0 0), (1, am_i a1)], [am_i 5, am_r 1 2 0], σ)) rfl ⟨trivial, trivial, trivial, trivial⟩ ?_
          obtain ⟨q18, hq19, h⟩ := am_bs h
          refine am_callV hc 17 X (k := 2) (i := 0) (o := 1) (As := [am_i 5]) (rest := []) rfl (ok_X0_together l 1 5 (σ) hq19) yv_X0_together ml_X7_304 (cl_2) rfl rfl rfl rfl rfl ?_
          obtain rfl := Option.some.inj h
          exact am_iret hc X hr 18 rfl rfl rfl
        · replace h := am_in2 c8 h
          by_cases c9 : a1 = 4
          · replace h := am_ip c9 h
            refine am_tin hc X 1 (tgt := 85) (off := 84) rfl (by rw [c9]; decide) (by rw [c9]; decide) (by rw [c9]; rfl) (by decide) ?_
            refine am_blk hc X 19 3 (fr' := (91, [(0, am_r 0 0 0), (1, am_i a1)], [am_i 7, am_r 1 2 0], σ)) rfl ⟨trivial, trivial, trivial, trivial⟩ ?_
            obtain ⟨q16, hq17, h⟩ := am_bs h
            refine am_callV hc 22 X (k := 2) (i := 0) (o := 1) (As := [am_i 7]) (rest := []) rfl (ok_X0_together l 1 7 (σ) hq17) yv_X0_together ml_X7_304 (cl_2) rfl rfl rfl rfl rfl ?_
            obtain rfl := Option.some.inj h
            exact am_iret hc X hr 23 rfl rfl rfl
          · replace h := am_in2 c9 h
            by_cases c10 : a1 = 5
            · replace h := am_ip c10 h
              refine am_tin hc X 1 (tgt := 95) (off := 94) rfl (by rw [c10]; decide) (by rw [c10]; decide) (by rw [c10]; rfl) (by decide) ?_
              refine am_blk hc X 24 3 (fr' := (102, [(0, am_r 0 0 0), (1, am_i a1)], [am_i (σ.1 1 2 0 7)], σ)) rfl ⟨trivial, trivial, trivial, trivial⟩ ?_
              obtain rfl := Option.some.inj h
              exact am_iret hc X hr 27 rfl rfl rfl
            · replace h := am_in2 c10 h
              by_cases c11 : a1 = 6
              · replace h := am_ip c11 h
                refine am_tin hc X 1 (tgt := 103) (off := 102) rfl (by rw [c11]; decide) (by rw [c11]; decide) (by rw [c11]; rfl) (by decide) ?_
                refine am_blk hc X 28 3 (fr' := (110, [(0, am_r 0 0 0), (1, am_i a1)], [am_i (σ.1 11 14 0 2)], σ)) rfl ⟨trivial, trivial, trivial, trivial⟩ ?_
                obtain rfl := Option.some.inj h
                exact am_iret hc X hr 31 rfl rfl rfl
              · replace h := am_in2 c11 h
                by_cases c12 : a1 = 7
                · replace h := am_ip c12 h
                  refine am_tin hc X 1 (tgt := 111) (off := 110) rfl (by rw [c12]; decide) (by rw [c12]; decide) (by rw [c12]; rfl) (by decide) ?_
                  refine am_blk hc X 32 3 (fr' := (118, [(0, am_r 0 0 0), (1, am_i a1)], [am_i (σ.1 1 2 0 6)], σ)) rfl ⟨trivial, trivial, trivial, trivial⟩ ?_
                  obtain rfl := Option.some.inj h
                  exact am_iret hc X hr 35 rfl rfl rfl
                · replace h := am_in2 c12 h
                  by_cases c13 : a1 = 8
                  · replace h := am_ip c13 h
                    refine am_tin hc X 1 (tgt := 119) (off := 118) rfl (by rw [c13]; decide) (by rw [c13]; decide) (by rw [c13]; rfl) (by decide) ?_
                    refine am_blk hc X 36 2 (fr' := (123, [(0, am_r 0 0 0), (1, am_i a1)], [am_r 10 9 0], σ)) rfl ⟨trivial, trivial, trivial⟩ ?_
                    obtain ⟨q14, hq15, h⟩ := am_bs h
                    refine am_callV hc 38 X (k := 9) (i := 0) (o := 10) (As := []) (rest := []) rfl (ok_X2_howManyHold l  (σ) hq15) yv_X2_howManyHold ml_X7_307 (cl_9) rfl rfl rfl rfl rfl ?_
                    obtain rfl := Option.some.inj h
                    exact am_iret hc X hr 39 rfl rfl rfl
                  · replace h := am_in2 c13 h
                    refine am_tout hc X 1 (tgt := 127) rfl (am_sw 0 8 (fun z h1 h2 => ?_)) (by decide) ?_
                    · rcases (show z = 0 ∨ z = 1 ∨ z = 2 ∨ z = 3 ∨ z = 4 ∨ z = 5 ∨ z = 6 ∨ z = 7 ∨ z = 8 by omega) with rfl | rfl | rfl | rfl | rfl | rfl | rfl | rfl | rfl
                      · exact lv_neT c5 rfl
                      · exact lv_neT c6 rfl
                      · exact lv_neT c7 rfl
                      · exact lv_neT c8 rfl
                      · exact lv_neT c9 rfl
                      · exact lv_neT c10 rfl
                      · exact lv_neT c11 rfl
                      · exact lv_neT c12 rfl
                      · exact lv_neT c13 rfl
                    · refine am_blk hc X 40 3 (fr' := (132, [(0, am_r 0 0 0), (1, am_i a1)], [am_i 16, am_i 12, am_i a1], σ)) rfl ⟨trivial, trivial, trivial, trivial⟩ ?_
                      obtain ⟨q1, hq2, h⟩ := am_bs h
                      refine am_callS hc 43 X (As := [am_i a1, am_i 12, am_i 16]) (rest := []) rfl (ok_X7_isWithin l a1 12 16 (σ) hq2) yv_X7_isWithin ml_X7_73 rfl rfl rfl rfl rfl ?_
                      refine am_if_eq hc X 44 (tgt := 150) rfl (by decide) (fun c4 => ?_) (fun c4 => ?_)
                      · replace h := am_ip c4 h
                        refine am_blk hc X 52 1 (fr' := (151, [(0, am_r 0 0 0), (1, am_i a1)], [am_i (-1)], q1.2)) rfl ⟨trivial, trivial⟩ ?_
                        obtain rfl := Option.some.inj h
                        exact am_iret hc X hr 53 rfl rfl rfl
                      · replace h := am_in2 c4 h
                        obtain ⟨ob3, h⟩ := am_ci h
                        refine am_blk hc X 45 7 (fr' := (151, [(0, am_r 0 0 0), (1, am_i a1)], [am_i (q1.2.1 0 1 0 (((a1 - (12 : Int32)) : Int32).toNatClampNeg))], q1.2)) rfl ⟨trivial, trivial, trivial, trivial, trivial, (am_in_vp ob3), trivial, trivial⟩ ?_
                        obtain rfl := Option.some.inj h
                        exact am_iret hc X hr 53 rfl rfl rfl
def jn_X7_steps_18   (σ : am_S) : Option (Int32 × am_S) :=
  (fn_X7_refuse (-2) (σ)).bind fun q3 => some (q3.1, q3.2)
set_option maxRecDepth 100000 in
theorem jl_X7_steps_18 {p : Program} {l : Launch} {e : Env} {s : State} {m : MethodId} {args : Array Value} {below : List Frame} {meth : Method} {c : Code} {G : am_G} {q : Int32 × am_S} (X : am_X p s m args c cX7_steps yX7_steps.cls 3 am_p7 G (am_fr G)) (hr : meth.sig.returnType = (some .int) ∧ meth.locks = false)     (σ : am_S) (h : jn_X7_steps_18   σ = some q) : am_A p l e (am_ro 6) s m args below meth c 3 G (am_fr G) 0 0 (MQ below (am_Qc G (some (am_i q.1)) q.2) args s 0 0 (am_fr G)) (18, [(0, am_r 0 0 0)], [], σ) := by
  have hc := ct_X7_steps
  unfold jn_X7_steps_18 at h
  refine am_blk hc X 8 2 (fr' := (21, [(0, am_r 0 0 0)], [am_i (-2), am_r 0 0 0], σ)) rfl ⟨trivial, trivial, trivial⟩ ?_
  obtain ⟨q3, hq4, h⟩ := am_bs h
  refine am_callV hc 10 X (k := 0) (i := 0) (o := 0) (As := [am_i (-2)]) (rest := []) rfl (ok_X7_refuse l (-2) (σ) hq4) yv_X7_refuse ml_X7_77 (cl_0) rfl rfl rfl rfl rfl ?_
  obtain rfl := Option.some.inj h
  exact am_iret hc X hr 11 rfl rfl rfl
def fn_X7_steps (a1 : Int32) (a2 : Int32) (σ : am_S) : Option (Int32 × am_S) :=
  (fn_X0_hasPerson 1 a1 (σ)).bind fun q1 => (if q1.1 = 0 then jn_X7_steps_18   q1.2 else (fn_X7_isValley a2 q1.2).bind fun q5 => (if q5.1 = 0 then jn_X7_steps_18   q5.2 else (fn_X7_leastWay a1 a2 3 q5.2).bind fun q7 => some (q7.1, q7.2)))
set_option maxRecDepth 100000 in
theorem ok_X7_steps (l : Launch) (a1 : Int32) (a2 : Int32) (σ : am_S) {q : Int32 × am_S} (h : fn_X7_steps a1 a2 σ = some q) : am_M l yX7_steps cX7_steps 3 (some .int) 6 [am_r 0 0 0, am_i a1, am_i a2] σ (some (am_i q.1)) q.2 := by
  refine am_M_of (P := am_p7) (by decide +kernel) am_p7_ok rfl ?_
  intro G p e s m args below meth c X hr
  have hc := ct_X7_steps
  unfold fn_X7_steps at h
  refine am_blk hc X 0 3 (fr' := (5, [(0, am_r 0 0 0), (1, am_i a1), (2, am_i a2)], [am_i a1, am_r 1 2 0], σ)) rfl ⟨trivial, trivial, trivial, trivial⟩ ?_
  obtain ⟨q1, hq2, h⟩ := am_bs h
  refine am_callV hc 3 X (k := 2) (i := 0) (o := 1) (As := [am_i a1]) (rest := []) rfl (ok_X0_hasPerson l 1 a1 (σ) hq2) yv_X0_hasPerson ml_X7_114 (cl_2) rfl rfl rfl rfl rfl ?_
  refine am_if_eq hc X 4 (tgt := 18) rfl (by decide) (fun c10 => ?_) (fun c10 => ?_)
  · replace h := am_ip c10 h
    refine am_less [0] rfl ?_
    exact jl_X7_steps_18 X hr    _ h
  · replace h := am_in2 c10 h
    refine am_blk hc X 5 1 (fr' := (12, [(0, am_r 0 0 0), (1, am_i a1), (2, am_i a2)], [am_i a2], q1.2)) rfl ⟨trivial, trivial⟩ ?_
    obtain ⟨q5, hq6, h⟩ := am_bs h
    refine am_callS hc 6 X (As := [am_i a2]) (rest := []) rfl (ok_X7_isValley l a2 q1.2 hq6) yv_X7_isValley ml_X7_132 rfl rfl rfl rfl rfl ?_
    refine am_if_ne hc X 7 (tgt := 25) rfl (by decide) (fun c9 => ?_) (fun c9 => ?_)
    · replace h := am_in2 c9 h
      refine am_blk hc X 12 4 (fr' := (29, [(0, am_r 0 0 0), (1, am_i a1), (2, am_i a2)], [am_i 3, am_i a2, am_i a1, am_r 0 0 0], q5.2)) rfl ⟨trivial, trivial, trivial, trivial, trivial⟩ ?_
      obtain ⟨q7, hq8, h⟩ := am_bs h
      refine am_callV hc 16 X (k := 0) (i := 0) (o := 0) (As := [am_i a1, am_i a2, am_i 3]) (rest := []) rfl (ok_X7_leastWay l a1 a2 3 q5.2 hq8) yv_X7_leastWay ml_X7_191 (cl_0) rfl rfl rfl rfl rfl ?_
      obtain rfl := Option.some.inj h
      exact am_iret hc X hr 17 rfl rfl rfl
    · replace h := am_ip c9 h
      refine am_less [0] rfl ?_
      exact jl_X7_steps_18 X hr    _ h
def fn_X7_toldFact (a0 : Int32) (σ : am_S) : Option (Int32 × am_S) :=
  (if a0 = 0 then some (3, σ) else (if a0 = 1 then some (5, σ) else (if a0 = 2 then some (6, σ) else (if a0 = 3 then some (2, σ) else some ((-1), σ)))))
set_option maxRecDepth 100000 in
theorem ok_X7_toldFact (l : Launch) (a0 : Int32) (σ : am_S) {q : Int32 × am_S} (h : fn_X7_toldFact a0 σ = some q) : am_M l yX7_toldFact cX7_toldFact 1 (some .int) 0 [am_i a0] σ (some (am_i q.1)) q.2 := by
  refine am_M_of (P := am_p7) (by decide +kernel) am_p7_ok rfl ?_
  intro G p e s m args below meth c X hr
  have hc := ct_X7_toldFact
  unfold fn_X7_toldFact at h
  refine am_blk hc X 0 1 (fr' := (1, [(0, am_i a0)], [am_i a0], σ)) rfl ⟨trivial, trivial⟩ ?_
  by_cases c1 : a0 = 0
  · replace h := am_ip c1 h
    refine am_tin hc X 1 (tgt := 32) (off := 31) rfl (by rw [c1]; decide) (by rw [c1]; decide) (by rw [c1]; rfl) (by decide) ?_
    refine am_blk hc X 2 1 (fr' := (33, [(0, am_i a0)], [am_i 3], σ)) rfl ⟨trivial, trivial⟩ ?_
    obtain rfl := Option.some.inj h
    exact am_iret hc X hr 3 rfl rfl rfl
  · replace h := am_in2 c1 h
    by_cases c2 : a0 = 1
    · replace h := am_ip c2 h
      refine am_tin hc X 1 (tgt := 34) (off := 33) rfl (by rw [c2]; decide) (by rw [c2]; decide) (by rw [c2]; rfl) (by decide) ?_
      refine am_blk hc X 4 1 (fr' := (35, [(0, am_i a0)], [am_i 5], σ)) rfl ⟨trivial, trivial⟩ ?_
      obtain rfl := Option.some.inj h
      exact am_iret hc X hr 5 rfl rfl rfl
    · replace h := am_in2 c2 h
      by_cases c3 : a0 = 2
      · replace h := am_ip c3 h
        refine am_tin hc X 1 (tgt := 36) (off := 35) rfl (by rw [c3]; decide) (by rw [c3]; decide) (by rw [c3]; rfl) (by decide) ?_
        refine am_blk hc X 6 1 (fr' := (38, [(0, am_i a0)], [am_i 6], σ)) rfl ⟨trivial, trivial⟩ ?_
        obtain rfl := Option.some.inj h
        exact am_iret hc X hr 7 rfl rfl rfl
      · replace h := am_in2 c3 h
        by_cases c4 : a0 = 3
        · replace h := am_ip c4 h
          refine am_tin hc X 1 (tgt := 39) (off := 38) rfl (by rw [c4]; decide) (by rw [c4]; decide) (by rw [c4]; rfl) (by decide) ?_
          refine am_blk hc X 8 1 (fr' := (40, [(0, am_i a0)], [am_i 2], σ)) rfl ⟨trivial, trivial⟩ ?_
          obtain rfl := Option.some.inj h
          exact am_iret hc X hr 9 rfl rfl rfl
        · replace h := am_in2 c4 h
          refine am_tout hc X 1 (tgt := 41) rfl (am_sw 0 3 (fun z h1 h2 => ?_)) (by decide) ?_
          · rcases (show z = 0 ∨ z = 1 ∨ z = 2 ∨ z = 3 by omega) with rfl | rfl | rfl | rfl
            · exact lv_neT c1 rfl
            · exact lv_neT c2 rfl
            · exact lv_neT c3 rfl
            · exact lv_neT c4 rfl
          · refine am_blk hc X 10 1 (fr' := (42, [(0, am_i a0)], [am_i (-1)], σ)) rfl ⟨trivial, trivial⟩ ?_
            obtain rfl := Option.some.inj h
            exact am_iret hc X hr 11 rfl rfl rfl
def jn_X7_tell_36   (σ : am_S) : Option (Int32 × am_S) :=
  (fn_X7_refuse (-2) (σ)).bind fun q5 => some (q5.1, q5.2)
set_option maxRecDepth 100000 in
theorem jl_X7_tell_36 {p : Program} {l : Launch} {e : Env} {s : State} {m : MethodId} {args : Array Value} {below : List Frame} {meth : Method} {c : Code} {G : am_G} {q : Int32 × am_S} (X : am_X p s m args c cX7_tell yX7_tell.cls 6 am_p7 G (am_fr G)) (hr : meth.sig.returnType = (some .int) ∧ meth.locks = false)     (σ : am_S) (h : jn_X7_tell_36   σ = some q) : am_A p l e (am_ro 2) s m args below meth c 6 G (am_fr G) 0 0 (MQ below (am_Qc G (some (am_i q.1)) q.2) args s 0 0 (am_fr G)) (36, [(0, am_r 0 0 0)], [], σ) := by
  have hc := ct_X7_tell
  unfold jn_X7_tell_36 at h
  refine am_blk hc X 17 2 (fr' := (39, [(0, am_r 0 0 0)], [am_i (-2), am_r 0 0 0], σ)) rfl ⟨trivial, trivial, trivial⟩ ?_
  obtain ⟨q5, hq6, h⟩ := am_bs h
  refine am_callV hc 19 X (k := 0) (i := 0) (o := 0) (As := [am_i (-2)]) (rest := []) rfl (ok_X7_refuse l (-2) (σ) hq6) yv_X7_refuse ml_X7_77 (cl_0) rfl rfl rfl rfl rfl ?_
  obtain rfl := Option.some.inj h
  exact am_iret hc X hr 20 rfl rfl rfl
def fn_X7_tell (a1 : Int32) (a2 : Int32) (a3 : Int32) (σ : am_S) : Option (Int32 × am_S) :=
  (fn_X7_toldFact a2 (σ)).bind fun q1 => (fn_X0_hasPerson 1 a1 q1.2).bind fun q3 => (if q3.1 = 0 then jn_X7_tell_36   q3.2 else (if q1.1 = (-1) then jn_X7_tell_36   q3.2 else (fn_X7_mostOfFact q1.1 q3.2).bind fun q7 => (fn_X7_isWithin a3 0 q7.1 q7.2).bind fun q9 => (if q9.1 = 0 then jn_X7_tell_36   q9.2 else (bif am_in a1 6 then (bif am_in q1.1 8 then (bif am_in a1 6 then (bif am_in q1.1 8 then some ((q9.2.1 1 8 ((a1 : Int32).toNatClampNeg) ((q1.1 : Int32).toNatClampNeg)), (am_u q9.2 1 8 ((a1 : Int32).toNatClampNeg) ((q1.1 : Int32).toNatClampNeg) a3)) else none) else none) else none) else none))))
set_option maxRecDepth 100000 in
theorem ok_X7_tell (l : Launch) (a1 : Int32) (a2 : Int32) (a3 : Int32) (σ : am_S) {q : Int32 × am_S} (h : fn_X7_tell a1 a2 a3 σ = some q) : am_M l yX7_tell cX7_tell 6 (some .int) 2 [am_r 0 0 0, am_i a1, am_i a2, am_i a3] σ (some (am_i q.1)) q.2 := by
  refine am_M_of (P := am_p7) (by decide +kernel) am_p7_ok rfl ?_
  intro G p e s m args below meth c X hr
  have hc := ct_X7_tell
  unfold fn_X7_tell at h
  refine am_blk hc X 0 1 (fr' := (1, [(0, am_r 0 0 0), (1, am_i a1), (2, am_i a2), (3, am_i a3)], [am_i a2], σ)) rfl ⟨trivial, trivial⟩ ?_
  obtain ⟨q1, hq2, h⟩ := am_bs h
  refine am_callS hc 1 X (As := [am_i a2]) (rest := []) rfl (ok_X7_toldFact l a2 (σ) hq2) yv_X7_toldFact ml_X7_155 rfl rfl rfl rfl rfl ?_
  refine am_blk hc X 2 4 (fr' := (11, [(0, am_r 0 0 0), (1, am_i a1), (2, am_i a2), (3, am_i a3), (4, am_i q1.1)], [am_i a1, am_r 1 2 0], q1.2)) rfl ⟨trivial, trivial, trivial, trivial, trivial⟩ ?_
  obtain ⟨q3, hq4, h⟩ := am_bs h
  refine am_callV hc 6 X (k := 2) (i := 0) (o := 1) (As := [am_i a1]) (rest := []) rfl (ok_X0_hasPerson l 1 a1 q1.2 hq4) yv_X0_hasPerson ml_X7_114 (cl_2) rfl rfl rfl rfl rfl ?_
  refine am_if_eq hc X 7 (tgt := 36) rfl (by decide) (fun c17 => ?_) (fun c17 => ?_)
  · replace h := am_ip c17 h
    refine am_less [0] rfl ?_
    exact jl_X7_tell_36 X hr    _ h
  · replace h := am_in2 c17 h
    refine am_blk hc X 8 2 (fr' := (20, [(0, am_r 0 0 0), (1, am_i a1), (2, am_i a2), (3, am_i a3), (4, am_i q1.1)], [am_i (-1), am_i q1.1], q3.2)) rfl ⟨trivial, trivial, trivial⟩ ?_
    refine am_icmp_eq hc X 10 (tgt := 36) rfl (by decide) (fun c16 => ?_) (fun c16 => ?_)
    · replace h := am_ip c16 h
      refine am_less [0] rfl ?_
      exact jl_X7_tell_36 X hr    _ h
    · replace h := am_in2 c16 h
      refine am_blk hc X 11 3 (fr' := (27, [(0, am_r 0 0 0), (1, am_i a1), (2, am_i a2), (3, am_i a3), (4, am_i q1.1)], [am_i q1.1, am_i 0, am_i a3], q3.2)) rfl ⟨trivial, trivial, trivial, trivial⟩ ?_
      obtain ⟨q7, hq8, h⟩ := am_bs h
      refine am_callS hc 14 X (As := [am_i q1.1]) (rest := [am_i 0, am_i a3]) rfl (ok_X7_mostOfFact l q1.1 q3.2 hq8) yv_X7_mostOfFact ml_X7_158 rfl rfl rfl rfl rfl ?_
      obtain ⟨q9, hq10, h⟩ := am_bs h
      refine am_callS hc 15 X (As := [am_i a3, am_i 0, am_i q7.1]) (rest := []) rfl (ok_X7_isWithin l a3 0 q7.1 q7.2 hq10) yv_X7_isWithin ml_X7_73 rfl rfl rfl rfl rfl ?_
      refine am_if_ne hc X 16 (tgt := 43) rfl (by decide) (fun c15 => ?_) (fun c15 => ?_)
      · replace h := am_in2 c15 h
        obtain ⟨ob11, h⟩ := am_ci h
        obtain ⟨ob12, h⟩ := am_ci h
        obtain ⟨ob13, h⟩ := am_ci h
        obtain ⟨ob14, h⟩ := am_ci h
        refine am_blk hc X 21 17 (fr' := (72, [(0, am_r 0 0 0), (1, am_i a1), (2, am_i a2), (3, am_i a3), (4, am_i q1.1), (5, am_i (q9.2.1 1 8 ((a1 : Int32).toNatClampNeg) ((q1.1 : Int32).toNatClampNeg)))], [am_i (q9.2.1 1 8 ((a1 : Int32).toNatClampNeg) ((q1.1 : Int32).toNatClampNeg))], (am_u q9.2 1 8 ((a1 : Int32).toNatClampNeg) ((q1.1 : Int32).toNatClampNeg) a3))) rfl ⟨trivial, trivial, trivial, trivial, (am_in_vp ob11), trivial, (am_in_vp ob12), trivial, trivial, trivial, trivial, trivial, (am_in_vp ob13), trivial, trivial, (am_in_vp ob14), trivial, trivial⟩ ?_
        obtain rfl := Option.some.inj h
        exact am_iret hc X hr 38 rfl rfl rfl
      · replace h := am_ip c15 h
        refine am_less [0] rfl ?_
        exact jl_X7_tell_36 X hr    _ h
def jn_X7_tour_20   (σ : am_S) : Option (Int32 × am_S) :=
  (fn_X7_refuse (-2) (σ)).bind fun q3 => some (q3.1, q3.2)
set_option maxRecDepth 100000 in
theorem jl_X7_tour_20 {p : Program} {l : Launch} {e : Env} {s : State} {m : MethodId} {args : Array Value} {below : List Frame} {meth : Method} {c : Code} {G : am_G} {q : Int32 × am_S} (X : am_X p s m args c cX7_tour yX7_tour.cls 4 am_p7 G (am_fr G)) (hr : meth.sig.returnType = (some .int) ∧ meth.locks = false)     (σ : am_S) (h : jn_X7_tour_20   σ = some q) : am_A p l e (am_ro 6) s m args below meth c 4 G (am_fr G) 0 0 (MQ below (am_Qc G (some (am_i q.1)) q.2) args s 0 0 (am_fr G)) (20, [(0, am_r 0 0 0)], [], σ) := by
  have hc := ct_X7_tour
  unfold jn_X7_tour_20 at h
  refine am_blk hc X 10 2 (fr' := (23, [(0, am_r 0 0 0)], [am_i (-2), am_r 0 0 0], σ)) rfl ⟨trivial, trivial, trivial⟩ ?_
  obtain ⟨q3, hq4, h⟩ := am_bs h
  refine am_callV hc 12 X (k := 0) (i := 0) (o := 0) (As := [am_i (-2)]) (rest := []) rfl (ok_X7_refuse l (-2) (σ) hq4) yv_X7_refuse ml_X7_77 (cl_0) rfl rfl rfl rfl rfl ?_
  obtain rfl := Option.some.inj h
  exact am_iret hc X hr 13 rfl rfl rfl
def fn_X7_tour (a1 : Int32) (a2 : Int32) (σ : am_S) : Option (Int32 × am_S) :=
  (fn_X0_hasPerson 1 a1 (σ)).bind fun q1 => (if q1.1 = 0 then jn_X7_tour_20   q1.2 else (fn_X7_isWithin a2 0 1 q1.2).bind fun q5 => (if q5.1 = 0 then jn_X7_tour_20   q5.2 else (fn_X5_leastTour 1 a1 (-1) q5.2).bind fun q7 => (if a2 = 0 then some (q7.1, q7.2) else (bif am_in a1 6 then (if (q7.2.1 1 8 ((a1 : Int32).toNatClampNeg) 5) < q7.1 then some (0, q7.2) else some (1, q7.2)) else none))))
set_option maxRecDepth 100000 in
theorem ok_X7_tour (l : Launch) (a1 : Int32) (a2 : Int32) (σ : am_S) {q : Int32 × am_S} (h : fn_X7_tour a1 a2 σ = some q) : am_M l yX7_tour cX7_tour 4 (some .int) 6 [am_r 0 0 0, am_i a1, am_i a2] σ (some (am_i q.1)) q.2 := by
  refine am_M_of (P := am_p7) (by decide +kernel) am_p7_ok rfl ?_
  intro G p e s m args below meth c X hr
  have hc := ct_X7_tour
  unfold fn_X7_tour at h
  refine am_blk hc X 0 3 (fr' := (5, [(0, am_r 0 0 0), (1, am_i a1), (2, am_i a2)], [am_i a1, am_r 1 2 0], σ)) rfl ⟨trivial, trivial, trivial, trivial⟩ ?_
  obtain ⟨q1, hq2, h⟩ := am_bs h
  refine am_callV hc 3 X (k := 2) (i := 0) (o := 1) (As := [am_i a1]) (rest := []) rfl (ok_X0_hasPerson l 1 a1 (σ) hq2) yv_X0_hasPerson ml_X7_114 (cl_2) rfl rfl rfl rfl rfl ?_
  refine am_if_eq hc X 4 (tgt := 20) rfl (by decide) (fun c13 => ?_) (fun c13 => ?_)
  · replace h := am_ip c13 h
    refine am_less [0] rfl ?_
    exact jl_X7_tour_20 X hr    _ h
  · replace h := am_in2 c13 h
    refine am_blk hc X 5 3 (fr' := (14, [(0, am_r 0 0 0), (1, am_i a1), (2, am_i a2)], [am_i 1, am_i 0, am_i a2], q1.2)) rfl ⟨trivial, trivial, trivial, trivial⟩ ?_
    obtain ⟨q5, hq6, h⟩ := am_bs h
    refine am_callS hc 8 X (As := [am_i a2, am_i 0, am_i 1]) (rest := []) rfl (ok_X7_isWithin l a2 0 1 q1.2 hq6) yv_X7_isWithin ml_X7_73 rfl rfl rfl rfl rfl ?_
    refine am_if_ne hc X 9 (tgt := 27) rfl (by decide) (fun c12 => ?_) (fun c12 => ?_)
    · replace h := am_in2 c12 h
      refine am_blk hc X 14 8 (fr' := (41, [(0, am_r 0 0 0), (1, am_i a1), (2, am_i a2)], [am_i (-1), am_i a1, am_r 12 17 0, am_r 1 2 0, am_r 13 22 0], q5.2)) rfl ⟨trivial, trivial, trivial, trivial, trivial, trivial, trivial, trivial, trivial⟩ ?_
      obtain ⟨q7, hq8, h⟩ := am_bs h
      refine am_callV hc 22 X (k := 22) (i := 0) (o := 13) (As := [am_r 1 2 0, am_r 12 17 0, am_i a1, am_i (-1)]) (rest := []) rfl (ok_X5_leastTour l 1 a1 (-1) q5.2 hq8) yv_X5_leastTour ml_X7_194 (cl_22) rfl rfl rfl rfl rfl ?_
      refine am_blk hc X 23 2 (fr' := (46, [(0, am_r 0 0 0), (1, am_i a1), (2, am_i a2), (3, am_i q7.1)], [am_i a2], q7.2)) rfl ⟨trivial, trivial, trivial⟩ ?_
      refine am_if_ne hc X 25 (tgt := 51) rfl (by decide) (fun c11 => ?_) (fun c11 => ?_)
      · replace h := am_in2 c11 h
        obtain ⟨ob9, h⟩ := am_ci h
        refine am_blk hc X 28 8 (fr' := (63, [(0, am_r 0 0 0), (1, am_i a1), (2, am_i a2), (3, am_i q7.1)], [am_i q7.1, am_i (q7.2.1 1 8 ((a1 : Int32).toNatClampNeg) 5)], q7.2)) rfl ⟨trivial, trivial, trivial, trivial, (am_in_vp ob9), trivial, (am_in_vp (by decide)), trivial, trivial⟩ ?_
        refine am_icmp_lt hc X 36 (tgt := 70) rfl (by decide) (fun c10 => ?_) (fun c10 => ?_)
        · replace h := am_ip c10 h
          refine am_blk hc X 39 1 (fr' := (71, [(0, am_r 0 0 0), (1, am_i a1), (2, am_i a2), (3, am_i q7.1)], [am_i 0], q7.2)) rfl ⟨trivial, trivial⟩ ?_
          obtain rfl := Option.some.inj h
          exact am_iret hc X hr 40 rfl rfl rfl
        · replace h := am_in2 c10 h
          refine am_blk hc X 37 2 (fr' := (71, [(0, am_r 0 0 0), (1, am_i a1), (2, am_i a2), (3, am_i q7.1)], [am_i 1], q7.2)) rfl ⟨trivial, trivial, trivial⟩ ?_
          obtain rfl := Option.some.inj h
          exact am_iret hc X hr 40 rfl rfl rfl
      · replace h := am_ip c11 h
        refine am_blk hc X 26 1 (fr' := (50, [(0, am_r 0 0 0), (1, am_i a1), (2, am_i a2), (3, am_i q7.1)], [am_i q7.1], q7.2)) rfl ⟨trivial, trivial⟩ ?_
        obtain rfl := Option.some.inj h
        exact am_iret hc X hr 27 rfl rfl rfl
    · replace h := am_ip c12 h
      refine am_less [0] rfl ?_
      exact jl_X7_tour_20 X hr    _ h
def jn_X7_tourOf_16   (σ : am_S) : Option (Int32 × am_S) :=
  (fn_X7_refuse (-2) (σ)).bind fun q3 => some (q3.1, q3.2)
set_option maxRecDepth 100000 in
theorem jl_X7_tourOf_16 {p : Program} {l : Launch} {e : Env} {s : State} {m : MethodId} {args : Array Value} {below : List Frame} {meth : Method} {c : Code} {G : am_G} {q : Int32 × am_S} (X : am_X p s m args c cX7_tourOf yX7_tourOf.cls 4 am_p7 G (am_fr G)) (hr : meth.sig.returnType = (some .int) ∧ meth.locks = false)     (σ : am_S) (h : jn_X7_tourOf_16   σ = some q) : am_A p l e (am_ro 7) s m args below meth c 4 G (am_fr G) 0 0 (MQ below (am_Qc G (some (am_i q.1)) q.2) args s 0 0 (am_fr G)) (16, [(0, am_r 0 0 0)], [], σ) := by
  have hc := ct_X7_tourOf
  unfold jn_X7_tourOf_16 at h
  refine am_blk hc X 8 2 (fr' := (19, [(0, am_r 0 0 0)], [am_i (-2), am_r 0 0 0], σ)) rfl ⟨trivial, trivial, trivial⟩ ?_
  obtain ⟨q3, hq4, h⟩ := am_bs h
  refine am_callV hc 10 X (k := 0) (i := 0) (o := 0) (As := [am_i (-2)]) (rest := []) rfl (ok_X7_refuse l (-2) (σ) hq4) yv_X7_refuse ml_X7_77 (cl_0) rfl rfl rfl rfl rfl ?_
  obtain rfl := Option.some.inj h
  exact am_iret hc X hr 11 rfl rfl rfl
def jn_X7_tourOf_70   (σ : am_S) : Option (Int32 × am_S) :=
  (fn_X7_refuse (-5) (σ)).bind fun q7 => some (q7.1, q7.2)
set_option maxRecDepth 100000 in
theorem jl_X7_tourOf_70 {p : Program} {l : Launch} {e : Env} {s : State} {m : MethodId} {args : Array Value} {below : List Frame} {meth : Method} {c : Code} {G : am_G} {q : Int32 × am_S} (X : am_X p s m args c cX7_tourOf yX7_tourOf.cls 4 am_p7 G (am_fr G)) (hr : meth.sig.returnType = (some .int) ∧ meth.locks = false)     (σ : am_S) (h : jn_X7_tourOf_70   σ = some q) : am_A p l e (am_ro 7) s m args below meth c 4 G (am_fr G) 0 0 (MQ below (am_Qc G (some (am_i q.1)) q.2) args s 0 0 (am_fr G)) (70, [(0, am_r 0 0 0)], [], σ) := by
  have hc := ct_X7_tourOf
  unfold jn_X7_tourOf_70 at h
  refine am_blk hc X 38 2 (fr' := (73, [(0, am_r 0 0 0)], [am_i (-5), am_r 0 0 0], σ)) rfl ⟨trivial, trivial, trivial⟩ ?_
  obtain ⟨q7, hq8, h⟩ := am_bs h
  refine am_callV hc 40 X (k := 0) (i := 0) (o := 0) (As := [am_i (-5)]) (rest := []) rfl (ok_X7_refuse l (-5) (σ) hq8) yv_X7_refuse ml_X7_77 (cl_0) rfl rfl rfl rfl rfl ?_
  obtain rfl := Option.some.inj h
  exact am_iret hc X hr 41 rfl rfl rfl
def fn_X7_tourOf (a1 : Int32) (a2 : Int32) (σ : am_S) : Option (Int32 × am_S) :=
  (fn_X0_hasPerson 1 a1 (σ)).bind fun q1 => (if q1.1 = 0 then jn_X7_tourOf_16   q1.2 else (if (-1) ≤ a2 then (fn_X5_findOrder 1 a1 q1.2).bind fun q5 => (if a2 = (-1) then some (q5.1, q5.2) else (if q5.1 ≤ a2 then jn_X7_tourOf_70   q5.2 else (if 7 ≤ a2 then jn_X7_tourOf_70   q5.2 else (bif am_in a2 7 then some ((q5.2.1 13 24 0 ((a2 : Int32).toNatClampNeg)), q5.2) else none)))) else jn_X7_tourOf_16   q1.2))
set_option maxRecDepth 100000 in
theorem ok_X7_tourOf (l : Launch) (a1 : Int32) (a2 : Int32) (σ : am_S) {q : Int32 × am_S} (h : fn_X7_tourOf a1 a2 σ = some q) : am_M l yX7_tourOf cX7_tourOf 4 (some .int) 7 [am_r 0 0 0, am_i a1, am_i a2] σ (some (am_i q.1)) q.2 := by
  refine am_M_of (P := am_p7) (by decide +kernel) am_p7_ok rfl ?_
  intro G p e s m args below meth c X hr
  have hc := ct_X7_tourOf
  unfold fn_X7_tourOf at h
  refine am_blk hc X 0 3 (fr' := (5, [(0, am_r 0 0 0), (1, am_i a1), (2, am_i a2)], [am_i a1, am_r 1 2 0], σ)) rfl ⟨trivial, trivial, trivial, trivial⟩ ?_
  obtain ⟨q1, hq2, h⟩ := am_bs h
  refine am_callV hc 3 X (k := 2) (i := 0) (o := 1) (As := [am_i a1]) (rest := []) rfl (ok_X0_hasPerson l 1 a1 (σ) hq2) yv_X0_hasPerson ml_X7_114 (cl_2) rfl rfl rfl rfl rfl ?_
  refine am_if_eq hc X 4 (tgt := 16) rfl (by decide) (fun c14 => ?_) (fun c14 => ?_)
  · replace h := am_ip c14 h
    refine am_less [0] rfl ?_
    exact jl_X7_tourOf_16 X hr    _ h
  · replace h := am_in2 c14 h
    refine am_blk hc X 5 2 (fr' := (13, [(0, am_r 0 0 0), (1, am_i a1), (2, am_i a2)], [am_i (-1), am_i a2], q1.2)) rfl ⟨trivial, trivial, trivial⟩ ?_
    refine am_icmp_ge hc X 7 (tgt := 23) rfl (by decide) (fun c13 => ?_) (fun c13 => ?_)
    · replace h := am_ip c13 h
      refine am_blk hc X 12 7 (fr' := (36, [(0, am_r 0 0 0), (1, am_i a1), (2, am_i a2)], [am_i a1, am_r 12 17 0, am_r 1 2 0, am_r 13 22 0], q1.2)) rfl ⟨trivial, trivial, trivial, trivial, trivial, trivial, trivial, trivial⟩ ?_
      obtain ⟨q5, hq6, h⟩ := am_bs h
      refine am_callV hc 19 X (k := 22) (i := 0) (o := 13) (As := [am_r 1 2 0, am_r 12 17 0, am_i a1]) (rest := []) rfl (ok_X5_findOrder l 1 a1 q1.2 hq6) yv_X5_findOrder ml_X7_205 (cl_22) rfl rfl rfl rfl rfl ?_
      refine am_blk hc X 20 3 (fr' := (42, [(0, am_r 0 0 0), (1, am_i a1), (2, am_i a2), (3, am_i q5.1)], [am_i (-1), am_i a2], q5.2)) rfl ⟨trivial, trivial, trivial, trivial⟩ ?_
      refine am_icmp_ne hc X 23 (tgt := 47) rfl (by decide) (fun c12 => ?_) (fun c12 => ?_)
      · replace h := am_in2 c12 h
        refine am_blk hc X 26 2 (fr' := (49, [(0, am_r 0 0 0), (1, am_i a1), (2, am_i a2), (3, am_i q5.1)], [am_i q5.1, am_i a2], q5.2)) rfl ⟨trivial, trivial, trivial⟩ ?_
        refine am_icmp_ge hc X 28 (tgt := 70) rfl (by decide) (fun c11 => ?_) (fun c11 => ?_)
        · replace h := am_ip c11 h
          refine am_less [0] rfl ?_
          exact jl_X7_tourOf_70 X hr    _ h
        · replace h := am_in2 c11 h
          refine am_blk hc X 29 2 (fr' := (55, [(0, am_r 0 0 0), (1, am_i a1), (2, am_i a2), (3, am_i q5.1)], [am_i 7, am_i a2], q5.2)) rfl ⟨trivial, trivial, trivial⟩ ?_
          refine am_icmp_ge hc X 31 (tgt := 70) rfl (by decide) (fun c10 => ?_) (fun c10 => ?_)
          · replace h := am_ip c10 h
            refine am_less [0] rfl ?_
            exact jl_X7_tourOf_70 X hr    _ h
          · replace h := am_in2 c10 h
            obtain ⟨ob9, h⟩ := am_ci h
            refine am_blk hc X 32 6 (fr' := (76, [(0, am_r 0 0 0), (1, am_i a1), (2, am_i a2), (3, am_i q5.1)], [am_i (q5.2.1 13 24 0 ((a2 : Int32).toNatClampNeg))], q5.2)) rfl ⟨trivial, trivial, trivial, trivial, (am_in_vp ob9), trivial, trivial⟩ ?_
            obtain rfl := Option.some.inj h
            exact am_iret hc X hr 41 rfl rfl rfl
      · replace h := am_ip c12 h
        refine am_blk hc X 24 1 (fr' := (46, [(0, am_r 0 0 0), (1, am_i a1), (2, am_i a2), (3, am_i q5.1)], [am_i q5.1], q5.2)) rfl ⟨trivial, trivial⟩ ?_
        obtain rfl := Option.some.inj h
        exact am_iret hc X hr 25 rfl rfl rfl
    · replace h := am_in2 c13 h
      refine am_less [0] rfl ?_
      exact jl_X7_tourOf_16 X hr    _ h
def jn_X7_valleyOf_16   (σ : am_S) : Option (Int32 × am_S) :=
  (fn_X7_refuse (-2) (σ)).bind fun q3 => some (q3.1, q3.2)
set_option maxRecDepth 100000 in
theorem jl_X7_valleyOf_16 {p : Program} {l : Launch} {e : Env} {s : State} {m : MethodId} {args : Array Value} {below : List Frame} {meth : Method} {c : Code} {G : am_G} {q : Int32 × am_S} (X : am_X p s m args c cX7_valleyOf yX7_valleyOf.cls 3 am_p7 G (am_fr G)) (hr : meth.sig.returnType = (some .int) ∧ meth.locks = false)     (σ : am_S) (h : jn_X7_valleyOf_16   σ = some q) : am_A p l e (am_ro 2) s m args below meth c 3 G (am_fr G) 0 0 (MQ below (am_Qc G (some (am_i q.1)) q.2) args s 0 0 (am_fr G)) (16, [(0, am_r 0 0 0)], [], σ) := by
  have hc := ct_X7_valleyOf
  unfold jn_X7_valleyOf_16 at h
  refine am_blk hc X 8 2 (fr' := (19, [(0, am_r 0 0 0)], [am_i (-2), am_r 0 0 0], σ)) rfl ⟨trivial, trivial, trivial⟩ ?_
  obtain ⟨q3, hq4, h⟩ := am_bs h
  refine am_callV hc 10 X (k := 0) (i := 0) (o := 0) (As := [am_i (-2)]) (rest := []) rfl (ok_X7_refuse l (-2) (σ) hq4) yv_X7_refuse ml_X7_77 (cl_0) rfl rfl rfl rfl rfl ?_
  obtain rfl := Option.some.inj h
  exact am_iret hc X hr 11 rfl rfl rfl
def fn_X7_valleyOf (a1 : Int32) (a2 : Int32) (σ : am_S) : Option (Int32 × am_S) :=
  (fn_X7_isValley a1 (σ)).bind fun q1 => (if q1.1 = 0 then jn_X7_valleyOf_16   q1.2 else (fn_X7_isWithin a2 0 3 q1.2).bind fun q5 => (if q5.1 = 0 then jn_X7_valleyOf_16   q5.2 else (if a2 = 3 then (fn_X0_peopleAt 1 a1 q5.2).bind fun q9 => some (q9.1, q9.2) else (bif am_in a2 3 then (bif am_in a1 7 then some ((q5.2.1 1 4 ((a2 : Int32).toNatClampNeg) ((a1 : Int32).toNatClampNeg)), q5.2) else none) else none))))
set_option maxRecDepth 100000 in
theorem ok_X7_valleyOf (l : Launch) (a1 : Int32) (a2 : Int32) (σ : am_S) {q : Int32 × am_S} (h : fn_X7_valleyOf a1 a2 σ = some q) : am_M l yX7_valleyOf cX7_valleyOf 3 (some .int) 2 [am_r 0 0 0, am_i a1, am_i a2] σ (some (am_i q.1)) q.2 := by
  refine am_M_of (P := am_p7) (by decide +kernel) am_p7_ok rfl ?_
  intro G p e s m args below meth c X hr
  have hc := ct_X7_valleyOf
  unfold fn_X7_valleyOf at h
  refine am_blk hc X 0 1 (fr' := (1, [(0, am_r 0 0 0), (1, am_i a1), (2, am_i a2)], [am_i a1], σ)) rfl ⟨trivial, trivial⟩ ?_
  obtain ⟨q1, hq2, h⟩ := am_bs h
  refine am_callS hc 1 X (As := [am_i a1]) (rest := []) rfl (ok_X7_isValley l a1 (σ) hq2) yv_X7_isValley ml_X7_132 rfl rfl rfl rfl rfl ?_
  refine am_if_eq hc X 2 (tgt := 16) rfl (by decide) (fun c13 => ?_) (fun c13 => ?_)
  · replace h := am_ip c13 h
    refine am_less [0] rfl ?_
    exact jl_X7_valleyOf_16 X hr    _ h
  · replace h := am_in2 c13 h
    refine am_blk hc X 3 3 (fr' := (10, [(0, am_r 0 0 0), (1, am_i a1), (2, am_i a2)], [am_i 3, am_i 0, am_i a2], q1.2)) rfl ⟨trivial, trivial, trivial, trivial⟩ ?_
    obtain ⟨q5, hq6, h⟩ := am_bs h
    refine am_callS hc 6 X (As := [am_i a2, am_i 0, am_i 3]) (rest := []) rfl (ok_X7_isWithin l a2 0 3 q1.2 hq6) yv_X7_isWithin ml_X7_73 rfl rfl rfl rfl rfl ?_
    refine am_if_ne hc X 7 (tgt := 23) rfl (by decide) (fun c12 => ?_) (fun c12 => ?_)
    · replace h := am_in2 c12 h
      refine am_blk hc X 12 2 (fr' := (25, [(0, am_r 0 0 0), (1, am_i a1), (2, am_i a2)], [am_i 3, am_i a2], q5.2)) rfl ⟨trivial, trivial, trivial⟩ ?_
      refine am_icmp_ne hc X 14 (tgt := 39) rfl (by decide) (fun c11 => ?_) (fun c11 => ?_)
      · replace h := am_in2 c11 h
        obtain ⟨ob7, h⟩ := am_ci h
        obtain ⟨ob8, h⟩ := am_ci h
        refine am_blk hc X 20 7 (fr' := (50, [(0, am_r 0 0 0), (1, am_i a1), (2, am_i a2)], [am_i (q5.2.1 1 4 ((a2 : Int32).toNatClampNeg) ((a1 : Int32).toNatClampNeg))], q5.2)) rfl ⟨trivial, trivial, trivial, trivial, (am_in_vp ob7), trivial, (am_in_vp ob8), trivial⟩ ?_
        obtain rfl := Option.some.inj h
        exact am_iret hc X hr 27 rfl rfl rfl
      · replace h := am_ip c11 h
        refine am_blk hc X 15 3 (fr' := (33, [(0, am_r 0 0 0), (1, am_i a1), (2, am_i a2)], [am_i a1, am_r 1 2 0], q5.2)) rfl ⟨trivial, trivial, trivial, trivial⟩ ?_
        obtain ⟨q9, hq10, h⟩ := am_bs h
        refine am_callV hc 18 X (k := 2) (i := 0) (o := 1) (As := [am_i a1]) (rest := []) rfl (ok_X0_peopleAt l 1 a1 q5.2 hq10) yv_X0_peopleAt ml_X7_161 (cl_2) rfl rfl rfl rfl rfl ?_
        refine am_blk hc X 19 1 (fr' := (50, [(0, am_r 0 0 0), (1, am_i a1), (2, am_i a2)], [am_i q9.1], q9.2)) rfl ⟨trivial, trivial⟩ ?_
        obtain rfl := Option.some.inj h
        exact am_iret hc X hr 27 rfl rfl rfl
    · replace h := am_ip c12 h
      refine am_less [0] rfl ?_
      exact jl_X7_valleyOf_16 X hr    _ h
def jn_X7_way_27   (σ : am_S) : Option (Int32 × am_S) :=
  (fn_X7_refuse (-2) (σ)).bind fun q3 => some (q3.1, q3.2)
set_option maxRecDepth 100000 in
theorem jl_X7_way_27 {p : Program} {l : Launch} {e : Env} {s : State} {m : MethodId} {args : Array Value} {below : List Frame} {meth : Method} {c : Code} {G : am_G} {q : Int32 × am_S} (X : am_X p s m args c cX7_way yX7_way.cls 4 am_p7 G (am_fr G)) (hr : meth.sig.returnType = (some .int) ∧ meth.locks = false)     (σ : am_S) (h : jn_X7_way_27   σ = some q) : am_A p l e (am_ro 6) s m args below meth c 4 G (am_fr G) 0 0 (MQ below (am_Qc G (some (am_i q.1)) q.2) args s 0 0 (am_fr G)) (27, [(0, am_r 0 0 0)], [], σ) := by
  have hc := ct_X7_way
  unfold jn_X7_way_27 at h
  refine am_blk hc X 13 2 (fr' := (30, [(0, am_r 0 0 0)], [am_i (-2), am_r 0 0 0], σ)) rfl ⟨trivial, trivial, trivial⟩ ?_
  obtain ⟨q3, hq4, h⟩ := am_bs h
  refine am_callV hc 15 X (k := 0) (i := 0) (o := 0) (As := [am_i (-2)]) (rest := []) rfl (ok_X7_refuse l (-2) (σ) hq4) yv_X7_refuse ml_X7_77 (cl_0) rfl rfl rfl rfl rfl ?_
  obtain rfl := Option.some.inj h
  exact am_iret hc X hr 16 rfl rfl rfl
def fn_X7_way (a1 : Int32) (a2 : Int32) (a3 : Int32) (σ : am_S) : Option (Int32 × am_S) :=
  (fn_X0_hasPerson 1 a1 (σ)).bind fun q1 => (if q1.1 = 0 then jn_X7_way_27   q1.2 else (fn_X7_isValley a2 q1.2).bind fun q5 => (if q5.1 = 0 then jn_X7_way_27   q5.2 else (fn_X7_isWithin a3 0 2 q5.2).bind fun q7 => (if q7.1 = 0 then jn_X7_way_27   q7.2 else (fn_X7_leastWay a1 a2 a3 q7.2).bind fun q9 => some (q9.1, q9.2))))
set_option maxRecDepth 100000 in
theorem ok_X7_way (l : Launch) (a1 : Int32) (a2 : Int32) (a3 : Int32) (σ : am_S) {q : Int32 × am_S} (h : fn_X7_way a1 a2 a3 σ = some q) : am_M l yX7_way cX7_way 4 (some .int) 6 [am_r 0 0 0, am_i a1, am_i a2, am_i a3] σ (some (am_i q.1)) q.2 := by
  refine am_M_of (P := am_p7) (by decide +kernel) am_p7_ok rfl ?_
  intro G p e s m args below meth c X hr
  have hc := ct_X7_way
  unfold fn_X7_way at h
  refine am_blk hc X 0 3 (fr' := (5, [(0, am_r 0 0 0), (1, am_i a1), (2, am_i a2), (3, am_i a3)], [am_i a1, am_r 1 2 0], σ)) rfl ⟨trivial, trivial, trivial, trivial⟩ ?_
  obtain ⟨q1, hq2, h⟩ := am_bs h
  refine am_callV hc 3 X (k := 2) (i := 0) (o := 1) (As := [am_i a1]) (rest := []) rfl (ok_X0_hasPerson l 1 a1 (σ) hq2) yv_X0_hasPerson ml_X7_114 (cl_2) rfl rfl rfl rfl rfl ?_
  refine am_if_eq hc X 4 (tgt := 27) rfl (by decide) (fun c13 => ?_) (fun c13 => ?_)
  · replace h := am_ip c13 h
    refine am_less [0] rfl ?_
    exact jl_X7_way_27 X hr    _ h
  · replace h := am_in2 c13 h
    refine am_blk hc X 5 1 (fr' := (12, [(0, am_r 0 0 0), (1, am_i a1), (2, am_i a2), (3, am_i a3)], [am_i a2], q1.2)) rfl ⟨trivial, trivial⟩ ?_
    obtain ⟨q5, hq6, h⟩ := am_bs h
    refine am_callS hc 6 X (As := [am_i a2]) (rest := []) rfl (ok_X7_isValley l a2 q1.2 hq6) yv_X7_isValley ml_X7_132 rfl rfl rfl rfl rfl ?_
    refine am_if_eq hc X 7 (tgt := 27) rfl (by decide) (fun c12 => ?_) (fun c12 => ?_)
    · replace h := am_ip c12 h
      refine am_less [0] rfl ?_
      exact jl_X7_way_27 X hr    _ h
    · replace h := am_in2 c12 h
      refine am_blk hc X 8 3 (fr' := (21, [(0, am_r 0 0 0), (1, am_i a1), (2, am_i a2), (3, am_i a3)], [am_i 2, am_i 0, am_i a3], q5.2)) rfl ⟨trivial, trivial, trivial, trivial⟩ ?_
      obtain ⟨q7, hq8, h⟩ := am_bs h
      refine am_callS hc 11 X (As := [am_i a3, am_i 0, am_i 2]) (rest := []) rfl (ok_X7_isWithin l a3 0 2 q5.2 hq8) yv_X7_isWithin ml_X7_73 rfl rfl rfl rfl rfl ?_
      refine am_if_ne hc X 12 (tgt := 34) rfl (by decide) (fun c11 => ?_) (fun c11 => ?_)
      · replace h := am_in2 c11 h
        refine am_blk hc X 17 4 (fr' := (38, [(0, am_r 0 0 0), (1, am_i a1), (2, am_i a2), (3, am_i a3)], [am_i a3, am_i a2, am_i a1, am_r 0 0 0], q7.2)) rfl ⟨trivial, trivial, trivial, trivial, trivial⟩ ?_
        obtain ⟨q9, hq10, h⟩ := am_bs h
        refine am_callV hc 21 X (k := 0) (i := 0) (o := 0) (As := [am_i a1, am_i a2, am_i a3]) (rest := []) rfl (ok_X7_leastWay l a1 a2 a3 q7.2 hq10) yv_X7_leastWay ml_X7_191 (cl_0) rfl rfl rfl rfl rfl ?_
        obtain rfl := Option.some.inj h
        exact am_iret hc X hr 22 rfl rfl rfl
      · replace h := am_ip c11 h
        refine am_less [0] rfl ?_
        exact jl_X7_way_27 X hr    _ h
def fn_X7_weeks (a1 : Int32) (σ : am_S) : Option (Int32 × am_S) :=
  (fn_X7_isWithin a1 1 60 (σ)).bind fun q1 => (if q1.1 = 0 then (fn_X7_refuse (-2) q1.2).bind fun q3 => some (q3.1, q3.2) else (fn_X0_passWeeks 1 a1 q1.2).bind fun q5 => some (q5.1, q5.2))
set_option maxRecDepth 100000 in
theorem ok_X7_weeks (l : Launch) (a1 : Int32) (σ : am_S) {q : Int32 × am_S} (h : fn_X7_weeks a1 σ = some q) : am_M l yX7_weeks cX7_weeks 2 (some .int) 7 [am_r 0 0 0, am_i a1] σ (some (am_i q.1)) q.2 := by
  refine am_M_of (P := am_p7) (by decide +kernel) am_p7_ok rfl ?_
  intro G p e s m args below meth c X hr
  have hc := ct_X7_weeks
  unfold fn_X7_weeks at h
  refine am_blk hc X 0 3 (fr' := (4, [(0, am_r 0 0 0), (1, am_i a1)], [am_i 60, am_i 1, am_i a1], σ)) rfl ⟨trivial, trivial, trivial, trivial⟩ ?_
  obtain ⟨q1, hq2, h⟩ := am_bs h
  refine am_callS hc 3 X (As := [am_i a1, am_i 1, am_i 60]) (rest := []) rfl (ok_X7_isWithin l a1 1 60 (σ) hq2) yv_X7_isWithin ml_X7_73 rfl rfl rfl rfl rfl ?_
  refine am_if_eq hc X 4 (tgt := 21) rfl (by decide) (fun c7 => ?_) (fun c7 => ?_)
  · replace h := am_ip c7 h
    refine am_blk hc X 10 2 (fr' := (24, [(0, am_r 0 0 0), (1, am_i a1)], [am_i (-2), am_r 0 0 0], q1.2)) rfl ⟨trivial, trivial, trivial⟩ ?_
    obtain ⟨q3, hq4, h⟩ := am_bs h
    refine am_callV hc 12 X (k := 0) (i := 0) (o := 0) (As := [am_i (-2)]) (rest := []) rfl (ok_X7_refuse l (-2) q1.2 hq4) yv_X7_refuse ml_X7_77 (cl_0) rfl rfl rfl rfl rfl ?_
    obtain rfl := Option.some.inj h
    exact am_iret hc X hr 13 rfl rfl rfl
  · replace h := am_in2 c7 h
    refine am_blk hc X 5 3 (fr' := (15, [(0, am_r 0 0 0), (1, am_i a1)], [am_i a1, am_r 1 2 0], q1.2)) rfl ⟨trivial, trivial, trivial, trivial⟩ ?_
    obtain ⟨q5, hq6, h⟩ := am_bs h
    refine am_callV hc 8 X (k := 2) (i := 0) (o := 1) (As := [am_i a1]) (rest := []) rfl (ok_X0_passWeeks l 1 a1 q1.2 hq6) yv_X0_passWeeks ml_X7_295 (cl_2) rfl rfl rfl rfl rfl ?_
    refine am_blk hc X 9 1 (fr' := (27, [(0, am_r 0 0 0), (1, am_i a1)], [am_i q5.1], q5.2)) rfl ⟨trivial, trivial⟩ ?_
    obtain rfl := Option.some.inj h
    exact am_iret hc X hr 13 rfl rfl rfl
def fn_X7_wipe  (σ : am_S) : Option (Int32 × am_S) :=
  some ((σ.1 11 14 0 2), (am_u σ 11 14 0 2 0))
set_option maxRecDepth 100000 in
theorem ok_X7_wipe (l : Launch)  (σ : am_S) {q : Int32 × am_S} (h : fn_X7_wipe  σ = some q) : am_M l yX7_wipe cX7_wipe 2 (some .int) 0 [am_r 0 0 0] σ (some (am_i q.1)) q.2 := by
  refine am_M_of (P := am_p7) (by decide +kernel) am_p7_ok rfl ?_
  intro G p e s m args below meth c X hr
  have hc := ct_X7_wipe
  unfold fn_X7_wipe at h
  refine am_blk hc X 0 9 (fr' := (17, [(0, am_r 0 0 0), (1, am_i (σ.1 11 14 0 2))], [am_i (σ.1 11 14 0 2)], (am_u σ 11 14 0 2 0))) rfl ⟨trivial, trivial, trivial, trivial, trivial, trivial, trivial, trivial, trivial, trivial⟩ ?_
  obtain rfl := Option.some.inj h
  exact am_iret hc X hr 9 rfl rfl rfl
def jn_X7_within_31   (σ : am_S) : Option (Int32 × am_S) :=
  (fn_X7_refuse (-2) (σ)).bind fun q3 => some (q3.1, q3.2)
set_option maxRecDepth 100000 in
theorem jl_X7_within_31 {p : Program} {l : Launch} {e : Env} {s : State} {m : MethodId} {args : Array Value} {below : List Frame} {meth : Method} {c : Code} {G : am_G} {q : Int32 × am_S} (X : am_X p s m args c cX7_within yX7_within.cls 7 am_p7 G (am_fr G)) (hr : meth.sig.returnType = (some .int) ∧ meth.locks = false)     (σ : am_S) (h : jn_X7_within_31   σ = some q) : am_A p l e (am_ro 5) s m args below meth c 7 G (am_fr G) 0 0 (MQ below (am_Qc G (some (am_i q.1)) q.2) args s 0 0 (am_fr G)) (31, [(0, am_r 0 0 0)], [], σ) := by
  have hc := ct_X7_within
  unfold jn_X7_within_31 at h
  refine am_blk hc X 15 2 (fr' := (34, [(0, am_r 0 0 0)], [am_i (-2), am_r 0 0 0], σ)) rfl ⟨trivial, trivial, trivial⟩ ?_
  obtain ⟨q3, hq4, h⟩ := am_bs h
  refine am_callV hc 17 X (k := 0) (i := 0) (o := 0) (As := [am_i (-2)]) (rest := []) rfl (ok_X7_refuse l (-2) (σ) hq4) yv_X7_refuse ml_X7_77 (cl_0) rfl rfl rfl rfl rfl ?_
  obtain rfl := Option.some.inj h
  exact am_iret hc X hr 18 rfl rfl rfl
def jn_X7_within_111 (k78 : Int32 → Nat → Nat → Int32 → Int32 → am_S → Option (Int32 × am_S)) (x2 : Int32) (ox4 : Nat) (ix4 : Nat) (x5 : Int32) (x6 : Int32) (σ : am_S) : Option (Int32 × am_S) :=
  k78 x2 ox4 ix4 x5 (x6 + 1) (σ)
set_option maxRecDepth 100000 in
theorem jl_X7_within_111 {p : Program} {l : Launch} {e : Env} {s : State} {m : MethodId} {args : Array Value} {below : List Frame} {meth : Method} {c : Code} {G : am_G} {q : Int32 × am_S} (X : am_X p s m args c cX7_within yX7_within.cls 7 am_p7 G (am_fr G)) (hr : meth.sig.returnType = (some .int) ∧ meth.locks = false)  (k78 : Int32 → Nat → Nat → Int32 → Int32 → am_S → Option (Int32 × am_S)) (hk78 : ∀ (x2 : Int32) (ox4 : Nat) (ix4 : Nat) (x5 : Int32) (x6 : Int32) (σ : am_S), k78 x2 ox4 ix4 x5 x6 σ = some q → am_A p l e (am_ro 5) s m args below meth c 7 G (am_fr G) 0 0 (MQ below (am_Qc G (some (am_i q.1)) q.2) args s 0 0 (am_fr G)) (78, [(0, am_r 0 0 0), (2, am_i x2), (4, am_r ox4 8 ix4), (5, am_i x5), (6, am_i x6)], [], σ)) (x2 : Int32) (ox4 : Nat) (ix4 : Nat) (x5 : Int32) (x6 : Int32) (σ : am_S) (h : jn_X7_within_111 k78 x2 ox4 ix4 x5 x6 σ = some q) : am_A p l e (am_ro 5) s m args below meth c 7 G (am_fr G) 0 0 (MQ below (am_Qc G (some (am_i q.1)) q.2) args s 0 0 (am_fr G)) (111, [(0, am_r 0 0 0), (2, am_i x2), (4, am_r ox4 8 ix4), (5, am_i x5), (6, am_i x6)], [], σ) := by
  have hc := ct_X7_within
  unfold jn_X7_within_111 at h
  refine am_blk hc X 59 2 (fr' := (78, [(0, am_r 0 0 0), (2, am_i x2), (4, am_r ox4 8 ix4), (5, am_i x5), (6, am_i (x6 + 1))], [], σ)) rfl ⟨trivial, trivial, trivial⟩ ?_
  exact hk78 x2 ox4 ix4 x5 (x6 + 1) _ h
def lb_X7_within_78 (k78 : Int32 → Nat → Nat → Int32 → Int32 → am_S → Option (Int32 × am_S)) (x2 : Int32) (ox4 : Nat) (ix4 : Nat) (x5 : Int32) (x6 : Int32) (σ : am_S) : Option (Int32 × am_S) :=
  (if 7 ≤ x6 then some (x5, σ) else (fn_X6_between (σ.1 ox4 8 ix4 3) x6 (σ)).bind fun q12 => (if x2 < q12.1 then jn_X7_within_111 k78 x2 ox4 ix4 x5 x6 q12.2 else jn_X7_within_111 k78 x2 ox4 ix4 (x5 ||| ((1 : Int32) <<< (x6 &&& 31))) x6 q12.2))
set_option maxRecDepth 100000 in
theorem lc_X7_within_78 {p : Program} {l : Launch} {e : Env} {s : State} {m : MethodId} {args : Array Value} {below : List Frame} {meth : Method} {c : Code} {G : am_G} {q : Int32 × am_S} (X : am_X p s m args c cX7_within yX7_within.cls 7 am_p7 G (am_fr G)) (hr : meth.sig.returnType = (some .int) ∧ meth.locks = false)  (k78 : Int32 → Nat → Nat → Int32 → Int32 → am_S → Option (Int32 × am_S)) (hk78 : ∀ (x2 : Int32) (ox4 : Nat) (ix4 : Nat) (x5 : Int32) (x6 : Int32) (σ : am_S), k78 x2 ox4 ix4 x5 x6 σ = some q → am_A p l e (am_ro 5) s m args below meth c 7 G (am_fr G) 0 0 (MQ below (am_Qc G (some (am_i q.1)) q.2) args s 0 0 (am_fr G)) (78, [(0, am_r 0 0 0), (2, am_i x2), (4, am_r ox4 8 ix4), (5, am_i x5), (6, am_i x6)], [], σ)) (x2 : Int32) (ox4 : Nat) (ix4 : Nat) (x5 : Int32) (x6 : Int32) (σ : am_S) (h : lb_X7_within_78 k78 x2 ox4 ix4 x5 x6 σ = some q) : am_A p l e (am_ro 5) s m args below meth c 7 G (am_fr G) 0 0 (MQ below (am_Qc G (some (am_i q.1)) q.2) args s 0 0 (am_fr G)) (78, [(0, am_r 0 0 0), (2, am_i x2), (4, am_r ox4 8 ix4), (5, am_i x5), (6, am_i x6)], [], σ) := by
  have hc := ct_X7_within
  unfold lb_X7_within_78 at h
  refine am_blk hc X 41 2 (fr' := (82, [(0, am_r 0 0 0), (2, am_i x2), (4, am_r ox4 8 ix4), (5, am_i x5), (6, am_i x6)], [am_i 7, am_i x6], σ)) rfl ⟨trivial, trivial, trivial⟩ ?_
  refine am_icmp_ge hc X 43 (tgt := 117) rfl (by decide) (fun c15 => ?_) (fun c15 => ?_)
  · replace h := am_ip c15 h
    refine am_blk hc X 61 1 (fr' := (119, [(0, am_r 0 0 0), (2, am_i x2), (4, am_r ox4 8 ix4), (5, am_i x5), (6, am_i x6)], [am_i x5], σ)) rfl ⟨trivial, trivial⟩ ?_
    obtain rfl := Option.some.inj h
    exact am_iret hc X hr 62 rfl rfl rfl
  · replace h := am_in2 c15 h
    refine am_blk hc X 44 6 (fr' := (95, [(0, am_r 0 0 0), (2, am_i x2), (4, am_r ox4 8 ix4), (5, am_i x5), (6, am_i x6)], [am_i x6, am_i (σ.1 ox4 8 ix4 3), am_r 12 17 0], σ)) rfl ⟨trivial, trivial, trivial, trivial, (am_in_vp (by decide)), trivial, trivial⟩ ?_
    obtain ⟨q12, hq13, h⟩ := am_bs h
    refine am_callV hc 50 X (k := 17) (i := 0) (o := 12) (As := [am_i (σ.1 ox4 8 ix4 3), am_i x6]) (rest := []) rfl (ok_X6_between l (σ.1 ox4 8 ix4 3) x6 (σ) hq13) yv_X6_between ml_X7_222 (cl_17) rfl rfl rfl rfl rfl ?_
    refine am_blk hc X 51 1 (fr' := (99, [(0, am_r 0 0 0), (2, am_i x2), (4, am_r ox4 8 ix4), (5, am_i x5), (6, am_i x6)], [am_i x2, am_i q12.1], q12.2)) rfl ⟨trivial, trivial⟩ ?_
    refine am_icmp_gt hc X 52 (tgt := 111) rfl (by decide) (fun c14 => ?_) (fun c14 => ?_)
    · replace h := am_ip c14 h
      exact jl_X7_within_111 X hr k78 hk78 x2 ox4 ix4 x5 x6 _ h
    · replace h := am_in2 c14 h
      refine am_blk hc X 53 6 (fr' := (111, [(0, am_r 0 0 0), (2, am_i x2), (4, am_r ox4 8 ix4), (5, am_i (x5 ||| ((1 : Int32) <<< (x6 &&& 31)))), (6, am_i x6)], [], q12.2)) rfl ⟨trivial, trivial, trivial, trivial, trivial, trivial, trivial⟩ ?_
      exact jl_X7_within_111 X hr k78 hk78 x2 ox4 ix4 (x5 ||| ((1 : Int32) <<< (x6 &&& 31))) x6 _ h
def lp_X7_within_78  : Nat → Int32 → Nat → Nat → Int32 → Int32 → am_S → Option (Int32 × am_S)
  | 0 => fun _ _ _ _ _ _ => none
  | n + 1 => lb_X7_within_78  (lp_X7_within_78  n)
theorem ll_X7_within_78 {p : Program} {l : Launch} {e : Env} {s : State} {m : MethodId} {args : Array Value} {below : List Frame} {meth : Method} {c : Code} {G : am_G} {q : Int32 × am_S} (X : am_X p s m args c cX7_within yX7_within.cls 7 am_p7 G (am_fr G)) (hr : meth.sig.returnType = (some .int) ∧ meth.locks = false)    : ∀ (n : Nat) (x2 : Int32) (ox4 : Nat) (ix4 : Nat) (x5 : Int32) (x6 : Int32) (σ : am_S), lp_X7_within_78  n x2 ox4 ix4 x5 x6 σ = some q → am_A p l e (am_ro 5) s m args below meth c 7 G (am_fr G) 0 0 (MQ below (am_Qc G (some (am_i q.1)) q.2) args s 0 0 (am_fr G)) (78, [(0, am_r 0 0 0), (2, am_i x2), (4, am_r ox4 8 ix4), (5, am_i x5), (6, am_i x6)], [], σ) := by
  intro n
  induction n with
  | zero =>
    intro x2 ox4 ix4 x5 x6 σ h
    have h : (none : Option (Int32 × am_S)) = some q := h
    cases h
  | succ n ih =>
    intro x2 ox4 ix4 x5 x6 σ h
    exact lc_X7_within_78 X hr  (lp_X7_within_78  n) ih x2 ox4 ix4 x5 x6 σ h
def jn_X7_within_68  (x2 : Int32) (ox4 : Nat) (ix4 : Nat) (y0 : Int32) (oy1 : Nat) (iy1 : Nat) (oy2 : Nat) (σ : am_S) : Option (Int32 × am_S) :=
  (fn_X6_measure_8 oy2 oy1 iy1 y0 (-1) (σ)).bind fun q10 => lp_X7_within_78  1000 x2 ox4 ix4 0 0 q10
set_option maxRecDepth 100000 in
theorem jl_X7_within_68 {p : Program} {l : Launch} {e : Env} {s : State} {m : MethodId} {args : Array Value} {below : List Frame} {meth : Method} {c : Code} {G : am_G} {q : Int32 × am_S} (X : am_X p s m args c cX7_within yX7_within.cls 7 am_p7 G (am_fr G)) (hr : meth.sig.returnType = (some .int) ∧ meth.locks = false)    (x2 : Int32) (ox4 : Nat) (ix4 : Nat) (y0 : Int32) (oy1 : Nat) (iy1 : Nat) (oy2 : Nat) (σ : am_S) (h : jn_X7_within_68  x2 ox4 ix4 y0 oy1 iy1 oy2 σ = some q) : am_A p l e (am_ro 5) s m args below meth c 7 G (am_fr G) 0 0 (MQ below (am_Qc G (some (am_i q.1)) q.2) args s 0 0 (am_fr G)) (68, [(0, am_r 0 0 0), (2, am_i x2), (4, am_r ox4 8 ix4)], [am_i y0, am_r oy1 8 iy1, am_r oy2 2 0, am_r 12 17 0], σ) := by
  have hc := ct_X7_within
  unfold jn_X7_within_68 at h
  refine am_blk hc X 35 1 (fr' := (69, [(0, am_r 0 0 0), (2, am_i x2), (4, am_r ox4 8 ix4)], [am_i (-1), am_i y0, am_r oy1 8 iy1, am_r oy2 2 0, am_r 12 17 0], σ)) rfl ⟨trivial, trivial⟩ ?_
  obtain ⟨q10, hq11, h⟩ := am_bs h
  refine am_callV hc 36 X (k := 17) (i := 0) (o := 12) (As := [am_r oy2 2 0, am_r oy1 8 iy1, am_i y0, am_i (-1)]) (rest := []) rfl (ok_X6_measure_8 l oy2 oy1 iy1 y0 (-1) (σ) hq11) yv_X6_measure ml_X7_218 (cl_17) rfl rfl rfl rfl rfl ?_
  refine am_blk hc X 37 4 (fr' := (78, [(0, am_r 0 0 0), (2, am_i x2), (4, am_r ox4 8 ix4), (5, am_i 0), (6, am_i 0)], [], q10)) rfl ⟨trivial, trivial, trivial, trivial, trivial⟩ ?_
  exact ll_X7_within_78 X hr   1000 x2 ox4 ix4 0 0 _ h
def fn_X7_within (a1 : Int32) (a2 : Int32) (a3 : Int32) (σ : am_S) : Option (Int32 × am_S) :=
  (fn_X0_hasPerson 1 a1 (σ)).bind fun q1 => (if q1.1 = 0 then jn_X7_within_31   q1.2 else (fn_X7_isWithin a2 0 999 q1.2).bind fun q5 => (if q5.1 = 0 then jn_X7_within_31   q5.2 else (fn_X7_isWithin a3 0 1 q5.2).bind fun q7 => (if q7.1 = 0 then jn_X7_within_31   q7.2 else (bif am_in a1 6 then (if a3 = 0 then jn_X7_within_68  a2 1 ((a1 : Int32).toNatClampNeg) 1 1 ((a1 : Int32).toNatClampNeg) 1 q7.2 else jn_X7_within_68  a2 1 ((a1 : Int32).toNatClampNeg) 0 1 ((a1 : Int32).toNatClampNeg) 1 q7.2) else none))))
set_option maxRecDepth 100000 in
theorem ok_X7_within (l : Launch) (a1 : Int32) (a2 : Int32) (a3 : Int32) (σ : am_S) {q : Int32 × am_S} (h : fn_X7_within a1 a2 a3 σ = some q) : am_M l yX7_within cX7_within 7 (some .int) 5 [am_r 0 0 0, am_i a1, am_i a2, am_i a3] σ (some (am_i q.1)) q.2 := by
  refine am_M_of (P := am_p7) (by decide +kernel) am_p7_ok rfl ?_
  intro G p e s m args below meth c X hr
  have hc := ct_X7_within
  unfold fn_X7_within at h
  refine am_blk hc X 0 3 (fr' := (5, [(0, am_r 0 0 0), (1, am_i a1), (2, am_i a2), (3, am_i a3)], [am_i a1, am_r 1 2 0], σ)) rfl ⟨trivial, trivial, trivial, trivial⟩ ?_
  obtain ⟨q1, hq2, h⟩ := am_bs h
  refine am_callV hc 3 X (k := 2) (i := 0) (o := 1) (As := [am_i a1]) (rest := []) rfl (ok_X0_hasPerson l 1 a1 (σ) hq2) yv_X0_hasPerson ml_X7_114 (cl_2) rfl rfl rfl rfl rfl ?_
  refine am_if_eq hc X 4 (tgt := 31) rfl (by decide) (fun c19 => ?_) (fun c19 => ?_)
  · replace h := am_ip c19 h
    refine am_less [0] rfl ?_
    exact jl_X7_within_31 X hr    _ h
  · replace h := am_in2 c19 h
    refine am_blk hc X 5 3 (fr' := (16, [(0, am_r 0 0 0), (1, am_i a1), (2, am_i a2), (3, am_i a3)], [am_i 999, am_i 0, am_i a2], q1.2)) rfl ⟨trivial, trivial, trivial, trivial⟩ ?_
    obtain ⟨q5, hq6, h⟩ := am_bs h
    refine am_callS hc 8 X (As := [am_i a2, am_i 0, am_i 999]) (rest := []) rfl (ok_X7_isWithin l a2 0 999 q1.2 hq6) yv_X7_isWithin ml_X7_73 rfl rfl rfl rfl rfl ?_
    refine am_if_eq hc X 9 (tgt := 31) rfl (by decide) (fun c18 => ?_) (fun c18 => ?_)
    · replace h := am_ip c18 h
      refine am_less [0] rfl ?_
      exact jl_X7_within_31 X hr    _ h
    · replace h := am_in2 c18 h
      refine am_blk hc X 10 3 (fr' := (25, [(0, am_r 0 0 0), (1, am_i a1), (2, am_i a2), (3, am_i a3)], [am_i 1, am_i 0, am_i a3], q5.2)) rfl ⟨trivial, trivial, trivial, trivial⟩ ?_
      obtain ⟨q7, hq8, h⟩ := am_bs h
      refine am_callS hc 13 X (As := [am_i a3, am_i 0, am_i 1]) (rest := []) rfl (ok_X7_isWithin l a3 0 1 q5.2 hq8) yv_X7_isWithin ml_X7_73 rfl rfl rfl rfl rfl ?_
      refine am_if_ne hc X 14 (tgt := 38) rfl (by decide) (fun c17 => ?_) (fun c17 => ?_)
      · replace h := am_in2 c17 h
        obtain ⟨ob9, h⟩ := am_ci h
        refine am_blk hc X 19 12 (fr' := (60, [(0, am_r 0 0 0), (1, am_i a1), (2, am_i a2), (3, am_i a3), (4, am_r 1 8 ((a1 : Int32).toNatClampNeg))], [am_i a3, am_r 1 8 ((a1 : Int32).toNatClampNeg), am_r 1 2 0, am_r 12 17 0], q7.2)) rfl ⟨trivial, trivial, trivial, trivial, (am_in_vp ob9), trivial, trivial, trivial, trivial, trivial, trivial, trivial, trivial⟩ ?_
        refine am_if_ne hc X 31 (tgt := 67) rfl (by decide) (fun c16 => ?_) (fun c16 => ?_)
        · replace h := am_in2 c16 h
          refine am_blk hc X 34 1 (fr' := (68, [(0, am_r 0 0 0), (1, am_i a1), (2, am_i a2), (3, am_i a3), (4, am_r 1 8 ((a1 : Int32).toNatClampNeg))], [am_i 0, am_r 1 8 ((a1 : Int32).toNatClampNeg), am_r 1 2 0, am_r 12 17 0], q7.2)) rfl ⟨trivial, trivial⟩ ?_
          refine am_less [0, 2, 4] rfl ?_
          exact jl_X7_within_68 X hr   a2 1 ((a1 : Int32).toNatClampNeg) 0 1 ((a1 : Int32).toNatClampNeg) 1 _ h
        · replace h := am_ip c16 h
          refine am_blk hc X 32 2 (fr' := (68, [(0, am_r 0 0 0), (1, am_i a1), (2, am_i a2), (3, am_i a3), (4, am_r 1 8 ((a1 : Int32).toNatClampNeg))], [am_i 1, am_r 1 8 ((a1 : Int32).toNatClampNeg), am_r 1 2 0, am_r 12 17 0], q7.2)) rfl ⟨trivial, trivial, trivial⟩ ?_
          refine am_less [0, 2, 4] rfl ?_
          exact jl_X7_within_68 X hr   a2 1 ((a1 : Int32).toNatClampNeg) 1 1 ((a1 : Int32).toNatClampNeg) 1 _ h
      · replace h := am_ip c17 h
        refine am_less [0] rfl ?_
        exact jl_X7_within_31 X hr    _ h
