def jn_X7_works_84   (σ : am_S) : Option (Int32 × am_S) :=
  some ((-1), σ)
set_option maxRecDepth 100000 in
theorem jl_X7_works_84 {p : Program} {l : Launch} {e : Env} {s : State} {m : MethodId} {args : Array Value} {below : List Frame} {meth : Method} {c : Code} {G : am_G} {q : Int32 × am_S} (X : am_X p s m args c cX7_works yX7_works.cls 6 am_p7 G (am_fr G)) (hr : meth.sig.returnType = (some .int) ∧ meth.locks = false)     (σ : am_S) (h : jn_X7_works_84   σ = some q) : am_A p l e (am_ro 6) s m args below meth c 6 G (am_fr G) 0 0 (MQ below (am_Qc G (some (am_i q.1)) q.2) args s 0 0 (am_fr G)) (84, [], [], σ) := by
  have hc := ct_X7_works
  unfold jn_X7_works_84 at h
  refine am_blk hc X 47 2 (fr' := (98, [], [am_i (-1)], σ)) rfl ⟨trivial, trivial, trivial⟩ ?_
  obtain rfl := Option.some.inj h
  exact am_iret hc X hr 56 rfl rfl rfl
def fn_X7_works (a1 : Int32) (σ : am_S) : Option (Int32 × am_S) :=
  (fn_X0_hasPerson 1 a1 (σ)).bind fun q1 => (if q1.1 = 0 then (fn_X7_refuse (-2) q1.2).bind fun q12 => some (q12.1, q12.2) else (bif am_in a1 6 then (fn_X5_leastTour 1 a1 (-1) q1.2).bind fun q4 => (if 0 < (q4.1 - (q4.2.1 1 8 ((a1 : Int32).toNatClampNeg) 5)) then (fn_X0_payAt 1 (q4.2.1 1 8 ((a1 : Int32).toNatClampNeg) 3) q4.2).bind fun q6 => (if q6.1 ≤ 0 then jn_X7_works_84   q6.2 else (if q4.1 ≤ 999 then (if q6.1 = 0 then none else some (((((q4.1 - (q4.2.1 1 8 ((a1 : Int32).toNatClampNeg) 5)) + q6.1) - (1 : Int32)) / q6.1), q6.2)) else jn_X7_works_84   q6.2)) else some (0, q4.2)) else none))
set_option maxRecDepth 100000 in
theorem ok_X7_works (l : Launch) (a1 : Int32) (σ : am_S) {q : Int32 × am_S} (h : fn_X7_works a1 σ = some q) : am_M l yX7_works cX7_works 6 (some .int) 6 [am_r 0 0 0, am_i a1] σ (some (am_i q.1)) q.2 := by
  refine am_M_of (P := am_p7) (by decide +kernel) am_p7_ok rfl ?_
  intro G p e s m args below meth c X hr
  have hc := ct_X7_works
  unfold fn_X7_works at h
  refine am_blk hc X 0 3 (fr' := (5, [(0, am_r 0 0 0), (1, am_i a1)], [am_i a1, am_r 1 2 0], σ)) rfl ⟨trivial, trivial, trivial, trivial⟩ ?_
  obtain ⟨q1, hq2, h⟩ := am_bs h
  refine am_callV hc 3 X (k := 2) (i := 0) (o := 1) (As := [am_i a1]) (rest := []) rfl (ok_X0_hasPerson l 1 a1 (σ) hq2) yv_X0_hasPerson ml_X7_114 (cl_2) rfl rfl rfl rfl rfl ?_
  refine am_if_ne hc X 4 (tgt := 18) rfl (by decide) (fun c14 => ?_) (fun c14 => ?_)
  · replace h := am_in2 c14 h
    obtain ⟨ob3, h⟩ := am_ci h
    refine am_blk hc X 9 14 (fr' := (42, [(0, am_r 0 0 0), (1, am_i a1), (2, am_r 1 8 ((a1 : Int32).toNatClampNeg))], [am_i (-1), am_i a1, am_r 12 17 0, am_r 1 2 0, am_r 13 22 0], q1.2)) rfl ⟨trivial, trivial, trivial, trivial, (am_in_vp ob3), trivial, trivial, trivial, trivial, trivial, trivial, trivial, trivial, trivial, trivial⟩ ?_
    obtain ⟨q4, hq5, h⟩ := am_bs h
    refine am_callV hc 23 X (k := 22) (i := 0) (o := 13) (As := [am_r 1 2 0, am_r 12 17 0, am_i a1, am_i (-1)]) (rest := []) rfl (ok_X5_leastTour l 1 a1 (-1) q1.2 hq5) yv_X5_leastTour ml_X7_194 (cl_22) rfl rfl rfl rfl rfl ?_
    refine am_blk hc X 24 8 (fr' := (55, [(0, am_r 0 0 0), (1, am_i a1), (2, am_r 1 8 ((a1 : Int32).toNatClampNeg)), (3, am_i q4.1), (4, am_i (q4.1 - (q4.2.1 1 8 ((a1 : Int32).toNatClampNeg) 5)))], [am_i (q4.1 - (q4.2.1 1 8 ((a1 : Int32).toNatClampNeg) 5))], q4.2)) rfl ⟨trivial, trivial, trivial, trivial, (am_in_vp (by decide)), trivial, trivial, trivial, trivial⟩ ?_
    refine am_if_gt hc X 32 (tgt := 60) rfl (by decide) (fun c11 => ?_) (fun c11 => ?_)
    · replace h := am_ip c11 h
      refine am_blk hc X 35 5 (fr' := (67, [(0, am_r 0 0 0), (1, am_i a1), (2, am_r 1 8 ((a1 : Int32).toNatClampNeg)), (3, am_i q4.1), (4, am_i (q4.1 - (q4.2.1 1 8 ((a1 : Int32).toNatClampNeg) 5)))], [am_i (q4.2.1 1 8 ((a1 : Int32).toNatClampNeg) 3), am_r 1 2 0], q4.2)) rfl ⟨trivial, trivial, trivial, trivial, (am_in_vp (by decide)), trivial⟩ ?_
      obtain ⟨q6, hq7, h⟩ := am_bs h
      refine am_callV hc 40 X (k := 2) (i := 0) (o := 1) (As := [am_i (q4.2.1 1 8 ((a1 : Int32).toNatClampNeg) 3)]) (rest := []) rfl (ok_X0_payAt l 1 (q4.2.1 1 8 ((a1 : Int32).toNatClampNeg) 3) q4.2 hq7) yv_X0_payAt ml_X7_215 (cl_2) rfl rfl rfl rfl rfl ?_
      refine am_blk hc X 41 2 (fr' := (74, [(0, am_r 0 0 0), (1, am_i a1), (2, am_r 1 8 ((a1 : Int32).toNatClampNeg)), (3, am_i q4.1), (4, am_i (q4.1 - (q4.2.1 1 8 ((a1 : Int32).toNatClampNeg) 5))), (5, am_i q6.1)], [am_i q6.1], q6.2)) rfl ⟨trivial, trivial, trivial⟩ ?_
      refine am_if_le hc X 43 (tgt := 84) rfl (by decide) (fun c10 => ?_) (fun c10 => ?_)
      · replace h := am_ip c10 h
        refine am_less [] rfl ?_
        exact jl_X7_works_84 X hr    _ h
      · replace h := am_in2 c10 h
        refine am_blk hc X 44 2 (fr' := (81, [(0, am_r 0 0 0), (1, am_i a1), (2, am_r 1 8 ((a1 : Int32).toNatClampNeg)), (3, am_i q4.1), (4, am_i (q4.1 - (q4.2.1 1 8 ((a1 : Int32).toNatClampNeg) 5))), (5, am_i q6.1)], [am_i 999, am_i q4.1], q6.2)) rfl ⟨trivial, trivial, trivial⟩ ?_
        refine am_icmp_le hc X 46 (tgt := 88) rfl (by decide) (fun c9 => ?_) (fun c9 => ?_)
        · replace h := am_ip c9 h
          obtain ⟨ob8, h⟩ := am_nz h
          refine am_blk hc X 49 7 (fr' := (98, [(0, am_r 0 0 0), (1, am_i a1), (2, am_r 1 8 ((a1 : Int32).toNatClampNeg)), (3, am_i q4.1), (4, am_i (q4.1 - (q4.2.1 1 8 ((a1 : Int32).toNatClampNeg) 5))), (5, am_i q6.1)], [am_i ((((q4.1 - (q4.2.1 1 8 ((a1 : Int32).toNatClampNeg) 5)) + q6.1) - (1 : Int32)) / q6.1)], q6.2)) rfl ⟨trivial, trivial, trivial, trivial, trivial, trivial, ob8, trivial⟩ ?_
          obtain rfl := Option.some.inj h
          exact am_iret hc X hr 56 rfl rfl rfl
        · replace h := am_in2 c9 h
          refine am_less [] rfl ?_
          exact jl_X7_works_84 X hr    _ h
    · replace h := am_in2 c11 h
      refine am_blk hc X 33 1 (fr' := (59, [(0, am_r 0 0 0), (1, am_i a1), (2, am_r 1 8 ((a1 : Int32).toNatClampNeg)), (3, am_i q4.1), (4, am_i (q4.1 - (q4.2.1 1 8 ((a1 : Int32).toNatClampNeg) 5)))], [am_i 0], q4.2)) rfl ⟨trivial, trivial⟩ ?_
      obtain rfl := Option.some.inj h
      exact am_iret hc X hr 34 rfl rfl rfl
  · replace h := am_ip c14 h
    refine am_blk hc X 5 2 (fr' := (14, [(0, am_r 0 0 0), (1, am_i a1)], [am_i (-2), am_r 0 0 0], q1.2)) rfl ⟨trivial, trivial, trivial⟩ ?_
    obtain ⟨q12, hq13, h⟩ := am_bs h
    refine am_callV hc 7 X (k := 0) (i := 0) (o := 0) (As := [am_i (-2)]) (rest := []) rfl (ok_X7_refuse l (-2) q1.2 hq13) yv_X7_refuse ml_X7_77 (cl_0) rfl rfl rfl rfl rfl ?_
    obtain rfl := Option.some.inj h
    exact am_iret hc X hr 8 rfl rfl rfl
def fn_X8_in (a0 : Int64) (a1 : Int64) (a2 : Int64) (σ : am_S) : Option (Int32 × am_S) :=
  (if (lg_cmp a0 a1) < 0 then some (0, σ) else (if 0 < (lg_cmp a0 a2) then some (0, σ) else some (1, σ)))
set_option maxRecDepth 100000 in
theorem ok_X8_in (l : Launch) (a0 : Int64) (a1 : Int64) (a2 : Int64) (σ : am_S) {q : Int32 × am_S} (h : fn_X8_in a0 a1 a2 σ = some q) : am_M l yX8_in cX8_in 6 (some .boolean) 0 [am_l a0, am_l a1, am_l a2] σ (some (am_i q.1)) q.2 := by
  refine am_M_of (P := am_p8) (by decide +kernel) am_p8_ok rfl ?_
  intro G p e s m args below meth c X hr
  have hc := ct_X8_in
  unfold fn_X8_in at h
  refine am_blk hc X 0 3 (fr' := (3, [(0, am_l a0), (2, am_l a1), (4, am_l a2)], [am_i (lg_cmp a0 a1)], σ)) rfl ⟨trivial, trivial, trivial, trivial⟩ ?_
  refine am_if_lt hc X 3 (tgt := 17) rfl (by decide) (fun c2 => ?_) (fun c2 => ?_)
  · replace h := am_ip c2 h
    refine am_blk hc X 10 1 (fr' := (18, [(0, am_l a0), (2, am_l a1), (4, am_l a2)], [am_i 0], σ)) rfl ⟨trivial, trivial⟩ ?_
    obtain rfl := Option.some.inj h
    exact am_zret hc X hr 11 rfl (by decide) rfl rfl
  · replace h := am_in2 c2 h
    refine am_blk hc X 4 3 (fr' := (10, [(0, am_l a0), (2, am_l a1), (4, am_l a2)], [am_i (lg_cmp a0 a2)], σ)) rfl ⟨trivial, trivial, trivial, trivial⟩ ?_
    refine am_if_gt hc X 7 (tgt := 17) rfl (by decide) (fun c1 => ?_) (fun c1 => ?_)
    · replace h := am_ip c1 h
      refine am_blk hc X 10 1 (fr' := (18, [(0, am_l a0), (2, am_l a1), (4, am_l a2)], [am_i 0], σ)) rfl ⟨trivial, trivial⟩ ?_
      obtain rfl := Option.some.inj h
      exact am_zret hc X hr 11 rfl (by decide) rfl rfl
    · replace h := am_in2 c1 h
      refine am_blk hc X 8 2 (fr' := (18, [(0, am_l a0), (2, am_l a1), (4, am_l a2)], [am_i 1], σ)) rfl ⟨trivial, trivial, trivial⟩ ?_
      obtain rfl := Option.some.inj h
      exact am_zret hc X hr 11 rfl (by decide) rfl rfl
def fn_X8_isOne (oa0 : Nat) (a1 : Int32) (σ : am_S) : Option (Int32 × am_S) :=
  (fn_X8_in ((a1 : Int32).toInt64) 0 ((((σ.1 oa0 40 0 15) - (1 : Int32)) : Int32).toInt64) (σ)).bind fun q1 => (if q1.1 = 0 ∨ q1.1 = 1 then some (q1.1, q1.2) else none)
set_option maxRecDepth 100000 in
theorem ok_X8_isOne (l : Launch) (oa0 : Nat) (a1 : Int32) (σ : am_S) {q : Int32 × am_S} (h : fn_X8_isOne oa0 a1 σ = some q) : am_M l yX8_isOne cX8_isOne 2 (some .boolean) 1 [am_r oa0 40 0, am_i a1] σ (some (am_i q.1)) q.2 := by
  refine am_M_of (P := am_p8) (by decide +kernel) am_p8_ok rfl ?_
  intro G p e s m args below meth c X hr
  have hc := ct_X8_isOne
  unfold fn_X8_isOne at h
  refine am_blk hc X 0 8 (fr' := (10, [(0, am_r oa0 40 0), (1, am_i a1)], [am_l ((((σ.1 oa0 40 0 15) - (1 : Int32)) : Int32).toInt64), am_l 0, am_l ((a1 : Int32).toInt64)], σ)) rfl ⟨trivial, trivial, trivial, trivial, trivial, trivial, trivial, trivial, trivial⟩ ?_
  obtain ⟨q1, hq2, h⟩ := am_bs h
  refine am_callS hc 8 X (As := [am_l ((a1 : Int32).toInt64), am_l 0, am_l ((((σ.1 oa0 40 0 15) - (1 : Int32)) : Int32).toInt64)]) (rest := []) rfl (ok_X8_in l ((a1 : Int32).toInt64) 0 ((((σ.1 oa0 40 0 15) - (1 : Int32)) : Int32).toInt64) (σ) hq2) yv_X8_in ml_X8_117 rfl rfl rfl rfl rfl ?_
  obtain ⟨ob3, h⟩ := am_ct2 h
  obtain rfl := Option.some.inj h
  exact am_zret hc X hr 9 rfl ob3 rfl rfl
def fn_X8_refuse (oa0 : Nat) (a1 : Int32) (σ : am_S) : Option (Int32 × am_S) :=
  (bif am_in (-a1) 8 then (bif am_in (-a1) 8 then some (a1, (am_u σ oa0 49 0 (((-a1) : Int32).toNatClampNeg) ((σ.1 oa0 49 0 (((-a1) : Int32).toNatClampNeg)) + (1 : Int32)))) else none) else none)
set_option maxRecDepth 100000 in
theorem ok_X8_refuse (l : Launch) (oa0 : Nat) (a1 : Int32) (σ : am_S) {q : Int32 × am_S} (h : fn_X8_refuse oa0 a1 σ = some q) : am_M l yX8_refuse cX8_refuse 2 (some .int) 0 [am_r oa0 40 0, am_i a1] σ (some (am_i q.1)) q.2 := by
  refine am_M_of (P := am_p8) (by decide +kernel) am_p8_ok rfl ?_
  intro G p e s m args below meth c X hr
  have hc := ct_X8_refuse
  unfold fn_X8_refuse at h
  obtain ⟨ob1, h⟩ := am_ci h
  obtain ⟨ob2, h⟩ := am_ci h
  refine am_blk hc X 0 10 (fr' := (12, [(0, am_r oa0 40 0), (1, am_i a1)], [am_i a1], (am_u σ oa0 49 0 (((-a1) : Int32).toNatClampNeg) ((σ.1 oa0 49 0 (((-a1) : Int32).toNatClampNeg)) + (1 : Int32))))) rfl ⟨trivial, trivial, trivial, trivial, trivial, (am_in_vp ob1), trivial, trivial, (am_in_vp ob2), trivial, trivial⟩ ?_
  obtain rfl := Option.some.inj h
  exact am_iret hc X hr 10 rfl rfl rfl
def jn_X8_isAct_27   (σ : am_S) : Option (Int32 × am_S) :=
  some (1, σ)
set_option maxRecDepth 100000 in
theorem jl_X8_isAct_27 {p : Program} {l : Launch} {e : Env} {s : State} {m : MethodId} {args : Array Value} {below : List Frame} {meth : Method} {c : Code} {G : am_G} {q : Int32 × am_S} (X : am_X p s m args c cX8_isAct yX8_isAct.cls 2 am_p8 G (am_fr G)) (hr : meth.sig.returnType = (some .boolean) ∧ meth.locks = false)     (σ : am_S) (h : jn_X8_isAct_27   σ = some q) : am_A p l e (am_ro 1) s m args below meth c 2 G (am_fr G) 0 0 (MQ below (am_Qc G (some (am_i q.1)) q.2) args s 0 0 (am_fr G)) (27, [], [], σ) := by
  have hc := ct_X8_isAct
  unfold jn_X8_isAct_27 at h
  refine am_blk hc X 13 2 (fr' := (32, [], [am_i 1], σ)) rfl ⟨trivial, trivial, trivial⟩ ?_
  obtain rfl := Option.some.inj h
  exact am_zret hc X hr 16 rfl (by decide) rfl rfl
def fn_X8_isAct (a0 : Int64) (σ : am_S) : Option (Int32 × am_S) :=
  (fn_X8_in a0 0 4 (σ)).bind fun q1 => (if q1.1 = 0 then (if (lg_cmp a0 8) = 0 then jn_X8_isAct_27   q1.2 else (if (lg_cmp a0 9) = 0 then jn_X8_isAct_27   q1.2 else some (0, q1.2))) else jn_X8_isAct_27   q1.2)
set_option maxRecDepth 100000 in
theorem ok_X8_isAct (l : Launch) (a0 : Int64) (σ : am_S) {q : Int32 × am_S} (h : fn_X8_isAct a0 σ = some q) : am_M l yX8_isAct cX8_isAct 2 (some .boolean) 1 [am_l a0] σ (some (am_i q.1)) q.2 := by
  refine am_M_of (P := am_p8) (by decide +kernel) am_p8_ok rfl ?_
  intro G p e s m args below meth c X hr
  have hc := ct_X8_isAct
  unfold fn_X8_isAct at h
  refine am_blk hc X 0 3 (fr' := (5, [(0, am_l a0)], [am_l 4, am_l 0, am_l a0], σ)) rfl ⟨trivial, trivial, trivial, trivial⟩ ?_
  obtain ⟨q1, hq2, h⟩ := am_bs h
  refine am_callS hc 3 X (As := [am_l a0, am_l 0, am_l 4]) (rest := []) rfl (ok_X8_in l a0 0 4 (σ) hq2) yv_X8_in ml_X8_117 rfl rfl rfl rfl rfl ?_
  refine am_if_ne hc X 4 (tgt := 27) rfl (by decide) (fun c5 => ?_) (fun c5 => ?_)
  · replace h := am_in2 c5 h
    refine am_less [] rfl ?_
    exact jl_X8_isAct_27 X hr    _ h
  · replace h := am_ip c5 h
    refine am_blk hc X 5 3 (fr' := (16, [(0, am_l a0)], [am_i (lg_cmp a0 8)], q1.2)) rfl ⟨trivial, trivial, trivial, trivial⟩ ?_
    refine am_if_eq hc X 8 (tgt := 27) rfl (by decide) (fun c4 => ?_) (fun c4 => ?_)
    · replace h := am_ip c4 h
      refine am_less [] rfl ?_
      exact jl_X8_isAct_27 X hr    _ h
    · replace h := am_in2 c4 h
      refine am_blk hc X 9 3 (fr' := (24, [(0, am_l a0)], [am_i (lg_cmp a0 9)], q1.2)) rfl ⟨trivial, trivial, trivial, trivial⟩ ?_
      refine am_if_ne hc X 12 (tgt := 31) rfl (by decide) (fun c3 => ?_) (fun c3 => ?_)
      · replace h := am_in2 c3 h
        refine am_blk hc X 15 1 (fr' := (32, [(0, am_l a0)], [am_i 0], q1.2)) rfl ⟨trivial, trivial⟩ ?_
        obtain rfl := Option.some.inj h
        exact am_zret hc X hr 16 rfl (by decide) rfl rfl
      · replace h := am_ip c3 h
        refine am_less [] rfl ?_
        exact jl_X8_isAct_27 X hr    _ h
def fn_X8_nextOf (oa0 : Nat) (a1 : Int32) (a2 : Int32) (σ : am_S) : Option (Int32 × am_S) :=
  (if a2 = 0 then some (((a1 + (1 : Int32)) - (a1 + (1 : Int32)) / (7 : Int32) * (7 : Int32)), σ) else (if a2 = 1 then some ((((a1 + (7 : Int32)) - (1 : Int32)) - ((a1 + (7 : Int32)) - (1 : Int32)) / (7 : Int32) * (7 : Int32)), σ) else (if (σ.1 oa0 40 0 13) ≤ (a2 - (2 : Int32)) then some ((-1), σ) else (bif am_in (a2 - (2 : Int32)) 3 then (if (σ.1 oa0 54 (((a2 - (2 : Int32)) : Int32).toNatClampNeg) 0) = a1 then (bif am_in (a2 - (2 : Int32)) 3 then some ((σ.1 oa0 54 (((a2 - (2 : Int32)) : Int32).toNatClampNeg) 1), σ) else none) else some ((-1), σ)) else none))))
set_option maxRecDepth 100000 in
theorem ok_X8_nextOf (l : Launch) (oa0 : Nat) (a1 : Int32) (a2 : Int32) (σ : am_S) {q : Int32 × am_S} (h : fn_X8_nextOf oa0 a1 a2 σ = some q) : am_M l yX8_nextOf cX8_nextOf 4 (some .int) 0 [am_r oa0 40 0, am_i a1, am_i a2] σ (some (am_i q.1)) q.2 := by
  refine am_M_of (P := am_p8) (by decide +kernel) am_p8_ok rfl ?_
  intro G p e s m args below meth c X hr
  have hc := ct_X8_nextOf
  unfold fn_X8_nextOf at h
  refine am_blk hc X 0 1 (fr' := (1, [(0, am_r oa0 40 0), (1, am_i a1), (2, am_i a2)], [am_i a2], σ)) rfl ⟨trivial, trivial⟩ ?_
  refine am_if_ne hc X 1 (tgt := 11) rfl (by decide) (fun c6 => ?_) (fun c6 => ?_)
  · replace h := am_in2 c6 h
    refine am_blk hc X 8 2 (fr' := (13, [(0, am_r oa0 40 0), (1, am_i a1), (2, am_i a2)], [am_i 1, am_i a2], σ)) rfl ⟨trivial, trivial, trivial⟩ ?_
    refine am_icmp_ne hc X 10 (tgt := 26) rfl (by decide) (fun c5 => ?_) (fun c5 => ?_)
    · replace h := am_in2 c5 h
      refine am_blk hc X 19 7 (fr' := (35, [(0, am_r oa0 40 0), (1, am_i a1), (2, am_i a2), (3, am_i (a2 - (2 : Int32)))], [am_i (σ.1 oa0 40 0 13), am_i (a2 - (2 : Int32))], σ)) rfl ⟨trivial, trivial, trivial, trivial, trivial, trivial, trivial, trivial⟩ ?_
      refine am_icmp_ge hc X 26 (tgt := 61) rfl (by decide) (fun c4 => ?_) (fun c4 => ?_)
      · replace h := am_ip c4 h
        refine am_blk hc X 42 1 (fr' := (62, [(0, am_r oa0 40 0), (1, am_i a1), (2, am_i a2), (3, am_i (a2 - (2 : Int32)))], [am_i (-1)], σ)) rfl ⟨trivial, trivial⟩ ?_
        obtain rfl := Option.some.inj h
        exact am_iret hc X hr 43 rfl rfl rfl
      · replace h := am_in2 c4 h
        obtain ⟨ob1, h⟩ := am_ci h
        refine am_blk hc X 27 7 (fr' := (47, [(0, am_r oa0 40 0), (1, am_i a1), (2, am_i a2), (3, am_i (a2 - (2 : Int32)))], [am_i a1, am_i (σ.1 oa0 54 (((a2 - (2 : Int32)) : Int32).toNatClampNeg) 0)], σ)) rfl ⟨trivial, trivial, trivial, (am_in_vp ob1), trivial, (am_in_vp (by decide)), trivial, trivial⟩ ?_
        refine am_icmp_ne hc X 34 (tgt := 61) rfl (by decide) (fun c3 => ?_) (fun c3 => ?_)
        · replace h := am_in2 c3 h
          refine am_blk hc X 42 1 (fr' := (62, [(0, am_r oa0 40 0), (1, am_i a1), (2, am_i a2), (3, am_i (a2 - (2 : Int32)))], [am_i (-1)], σ)) rfl ⟨trivial, trivial⟩ ?_
          obtain rfl := Option.some.inj h
          exact am_iret hc X hr 43 rfl rfl rfl
        · replace h := am_ip c3 h
          obtain ⟨ob2, h⟩ := am_ci h
          refine am_blk hc X 35 7 (fr' := (62, [(0, am_r oa0 40 0), (1, am_i a1), (2, am_i a2), (3, am_i (a2 - (2 : Int32)))], [am_i (σ.1 oa0 54 (((a2 - (2 : Int32)) : Int32).toNatClampNeg) 1)], σ)) rfl ⟨trivial, trivial, trivial, (am_in_vp ob2), trivial, (am_in_vp (by decide)), trivial, trivial⟩ ?_
          obtain rfl := Option.some.inj h
          exact am_iret hc X hr 43 rfl rfl rfl
    · replace h := am_ip c5 h
      refine am_blk hc X 11 7 (fr' := (25, [(0, am_r oa0 40 0), (1, am_i a1), (2, am_i a2)], [am_i (((a1 + (7 : Int32)) - (1 : Int32)) - ((a1 + (7 : Int32)) - (1 : Int32)) / (7 : Int32) * (7 : Int32))], σ)) rfl ⟨trivial, trivial, trivial, trivial, trivial, trivial, (by decide), trivial⟩ ?_
      obtain rfl := Option.some.inj h
      exact am_iret hc X hr 18 rfl rfl rfl
  · replace h := am_ip c6 h
    refine am_blk hc X 2 5 (fr' := (10, [(0, am_r oa0 40 0), (1, am_i a1), (2, am_i a2)], [am_i ((a1 + (1 : Int32)) - (a1 + (1 : Int32)) / (7 : Int32) * (7 : Int32))], σ)) rfl ⟨trivial, trivial, trivial, trivial, (by decide), trivial⟩ ?_
    obtain rfl := Option.some.inj h
    exact am_iret hc X hr 7 rfl rfl rfl
def fn_X8_fareOf (oa0 : Nat) (a1 : Int32) (a2 : Int32) (σ : am_S) : Option (Int32 × am_S) :=
  (if a2 = 0 then (bif am_in a1 7 then some ((σ.1 oa0 50 0 ((a1 : Int32).toNatClampNeg)), σ) else none) else (if a2 = 1 then (fn_X8_nextOf oa0 a1 1 (σ)).bind fun q2 => (bif am_in q2.1 7 then some (((q2.2.1 oa0 50 0 ((q2.1 : Int32).toNatClampNeg)) + (q2.2.1 oa0 40 0 12)), q2.2) else none) else (bif am_in (a2 - (2 : Int32)) 3 then some ((σ.1 oa0 54 (((a2 - (2 : Int32)) : Int32).toNatClampNeg) 2), σ) else none)))
set_option maxRecDepth 100000 in
theorem ok_X8_fareOf (l : Launch) (oa0 : Nat) (a1 : Int32) (a2 : Int32) (σ : am_S) {q : Int32 × am_S} (h : fn_X8_fareOf oa0 a1 a2 σ = some q) : am_M l yX8_fareOf cX8_fareOf 3 (some .int) 1 [am_r oa0 40 0, am_i a1, am_i a2] σ (some (am_i q.1)) q.2 := by
  refine am_M_of (P := am_p8) (by decide +kernel) am_p8_ok rfl ?_
  intro G p e s m args below meth c X hr
  have hc := ct_X8_fareOf
  unfold fn_X8_fareOf at h
  refine am_blk hc X 0 1 (fr' := (1, [(0, am_r oa0 40 0), (1, am_i a1), (2, am_i a2)], [am_i a2], σ)) rfl ⟨trivial, trivial⟩ ?_
  refine am_if_ne hc X 1 (tgt := 11) rfl (by decide) (fun c7 => ?_) (fun c7 => ?_)
  · replace h := am_in2 c7 h
    refine am_blk hc X 7 2 (fr' := (13, [(0, am_r oa0 40 0), (1, am_i a1), (2, am_i a2)], [am_i 1, am_i a2], σ)) rfl ⟨trivial, trivial, trivial⟩ ?_
    refine am_icmp_ne hc X 9 (tgt := 35) rfl (by decide) (fun c5 => ?_) (fun c5 => ?_)
    · replace h := am_in2 c5 h
      obtain ⟨ob1, h⟩ := am_ci h
      refine am_blk hc X 21 8 (fr' := (45, [(0, am_r oa0 40 0), (1, am_i a1), (2, am_i a2)], [am_i (σ.1 oa0 54 (((a2 - (2 : Int32)) : Int32).toNatClampNeg) 2)], σ)) rfl ⟨trivial, trivial, trivial, trivial, trivial, (am_in_vp ob1), trivial, (am_in_vp (by decide)), trivial⟩ ?_
      obtain rfl := Option.some.inj h
      exact am_iret hc X hr 29 rfl rfl rfl
    · replace h := am_ip c5 h
      refine am_blk hc X 10 5 (fr' := (23, [(0, am_r oa0 40 0), (1, am_i a1), (2, am_i a2)], [am_i 1, am_i a1, am_r oa0 40 0, am_r oa0 50 0], σ)) rfl ⟨trivial, trivial, trivial, trivial, trivial, trivial⟩ ?_
      obtain ⟨q2, hq3, h⟩ := am_bs h
      refine am_callV hc 15 X (k := 40) (i := 0) (o := oa0) (As := [am_i a1, am_i 1]) (rest := [am_r oa0 50 0]) rfl (ok_X8_nextOf l oa0 a1 1 (σ) hq3) yv_X8_nextOf ml_X8_287 (cl_40) rfl rfl rfl rfl rfl ?_
      obtain ⟨ob4, h⟩ := am_ci h
      refine am_blk hc X 16 5 (fr' := (45, [(0, am_r oa0 40 0), (1, am_i a1), (2, am_i a2)], [am_i ((q2.2.1 oa0 50 0 ((q2.1 : Int32).toNatClampNeg)) + (q2.2.1 oa0 40 0 12))], q2.2)) rfl ⟨(am_in_vp ob4), trivial, trivial, trivial, trivial, trivial⟩ ?_
      obtain rfl := Option.some.inj h
      exact am_iret hc X hr 29 rfl rfl rfl
  · replace h := am_ip c7 h
    obtain ⟨ob6, h⟩ := am_ci h
    refine am_blk hc X 2 4 (fr' := (10, [(0, am_r oa0 40 0), (1, am_i a1), (2, am_i a2)], [am_i (σ.1 oa0 50 0 ((a1 : Int32).toNatClampNeg))], σ)) rfl ⟨trivial, trivial, trivial, (am_in_vp ob6), trivial⟩ ?_
    obtain rfl := Option.some.inj h
    exact am_iret hc X hr 6 rfl rfl rfl
def fn_X8_priceOf (oa0 : Nat) (a1 : Int32) (a2 : Int32) (a3 : Int32) (σ : am_S) : Option (Int32 × am_S) :=
  (fn_X8_fareOf oa0 a2 a3 (σ)).bind fun q1 => (bif am_in a1 6 then (if (q1.2.1 oa0 55 0 ((a1 : Int32).toNatClampNeg)) = 1 then some ((q1.1 / (2 : Int32)), q1.2) else (if (q1.2.1 oa0 55 0 ((a1 : Int32).toNatClampNeg)) = 2 then (bif am_in a1 6 then some ((q1.1 + (q1.2.1 oa0 56 0 ((a1 : Int32).toNatClampNeg))), q1.2) else none) else (if (q1.2.1 oa0 55 0 ((a1 : Int32).toNatClampNeg)) = 3 then (bif am_in a1 6 then (if (q1.1 / (2 : Int32)) ≤ (q1.2.1 oa0 56 0 ((a1 : Int32).toNatClampNeg)) then some (0, q1.2) else (bif am_in a1 6 then some (((q1.1 / (2 : Int32)) - (q1.2.1 oa0 56 0 ((a1 : Int32).toNatClampNeg))), q1.2) else none)) else none) else (if (q1.2.1 oa0 55 0 ((a1 : Int32).toNatClampNeg)) = 4 then (if a3 ≤ 1 then (bif am_in a1 6 then some ((q1.1 + (q1.2.1 oa0 56 0 ((a1 : Int32).toNatClampNeg))), q1.2) else none) else some (0, q1.2)) else (if (q1.2.1 oa0 55 0 ((a1 : Int32).toNatClampNeg)) = 5 then some (((2 : Int32) * q1.1), q1.2) else some (q1.1, q1.2)))))) else none)
set_option maxRecDepth 100000 in
theorem ok_X8_priceOf (l : Launch) (oa0 : Nat) (a1 : Int32) (a2 : Int32) (a3 : Int32) (σ : am_S) {q : Int32 × am_S} (h : fn_X8_priceOf oa0 a1 a2 a3 σ = some q) : am_M l yX8_priceOf cX8_priceOf 5 (some .int) 2 [am_r oa0 40 0, am_i a1, am_i a2, am_i a3] σ (some (am_i q.1)) q.2 := by
  refine am_M_of (P := am_p8) (by decide +kernel) am_p8_ok rfl ?_
  intro G p e s m args below meth c X hr
  have hc := ct_X8_priceOf
  unfold fn_X8_priceOf at h
  refine am_blk hc X 0 3 (fr' := (3, [(0, am_r oa0 40 0), (1, am_i a1), (2, am_i a2), (3, am_i a3)], [am_i a3, am_i a2, am_r oa0 40 0], σ)) rfl ⟨trivial, trivial, trivial, trivial⟩ ?_
  obtain ⟨q1, hq2, h⟩ := am_bs h
  refine am_callV hc 3 X (k := 40) (i := 0) (o := oa0) (As := [am_i a2, am_i a3]) (rest := []) rfl (ok_X8_fareOf l oa0 a2 a3 (σ) hq2) yv_X8_fareOf ml_X8_291 (cl_40) rfl rfl rfl rfl rfl ?_
  obtain ⟨ob3, h⟩ := am_ci h
  refine am_blk hc X 4 5 (fr' := (14, [(0, am_r oa0 40 0), (1, am_i a1), (2, am_i a2), (3, am_i a3), (4, am_i q1.1)], [am_i (q1.2.1 oa0 55 0 ((a1 : Int32).toNatClampNeg))], q1.2)) rfl ⟨trivial, trivial, trivial, trivial, (am_in_vp ob3), trivial⟩ ?_
  by_cases c4 : (q1.2.1 oa0 55 0 ((a1 : Int32).toNatClampNeg)) = 1
  · replace h := am_ip c4 h
    refine am_tin hc X 9 (tgt := 48) (off := 34) rfl (by rw [c4]; decide) (by rw [c4]; decide) (by rw [c4]; rfl) (by decide) ?_
    refine am_blk hc X 10 3 (fr' := (52, [(0, am_r oa0 40 0), (1, am_i a1), (2, am_i a2), (3, am_i a3), (4, am_i q1.1)], [am_i (q1.1 / (2 : Int32))], q1.2)) rfl ⟨trivial, trivial, (by decide), trivial⟩ ?_
    obtain rfl := Option.some.inj h
    exact am_iret hc X hr 13 rfl rfl rfl
  · replace h := am_in2 c4 h
    by_cases c5 : (q1.2.1 oa0 55 0 ((a1 : Int32).toNatClampNeg)) = 2
    · replace h := am_ip c5 h
      refine am_tin hc X 9 (tgt := 82) (off := 68) rfl (by rw [c5]; decide) (by rw [c5]; decide) (by rw [c5]; rfl) (by decide) ?_
      obtain ⟨ob14, h⟩ := am_ci h
      refine am_blk hc X 33 6 (fr' := (91, [(0, am_r oa0 40 0), (1, am_i a1), (2, am_i a2), (3, am_i a3), (4, am_i q1.1)], [am_i (q1.1 + (q1.2.1 oa0 56 0 ((a1 : Int32).toNatClampNeg)))], q1.2)) rfl ⟨trivial, trivial, trivial, trivial, (am_in_vp ob14), trivial, trivial⟩ ?_
      obtain rfl := Option.some.inj h
      exact am_iret hc X hr 39 rfl rfl rfl
    · replace h := am_in2 c5 h
      by_cases c6 : (q1.2.1 oa0 55 0 ((a1 : Int32).toNatClampNeg)) = 3
      · replace h := am_ip c6 h
        refine am_tin hc X 9 (tgt := 53) (off := 39) rfl (by rw [c6]; decide) (by rw [c6]; decide) (by rw [c6]; rfl) (by decide) ?_
        obtain ⟨ob11, h⟩ := am_ci h
        refine am_blk hc X 14 7 (fr' := (63, [(0, am_r oa0 40 0), (1, am_i a1), (2, am_i a2), (3, am_i a3), (4, am_i q1.1)], [am_i (q1.2.1 oa0 56 0 ((a1 : Int32).toNatClampNeg)), am_i (q1.1 / (2 : Int32))], q1.2)) rfl ⟨trivial, trivial, (by decide), trivial, trivial, trivial, (am_in_vp ob11), trivial⟩ ?_
        refine am_icmp_le hc X 21 (tgt := 80) rfl (by decide) (fun c13 => ?_) (fun c13 => ?_)
        · replace h := am_ip c13 h
          refine am_blk hc X 31 1 (fr' := (81, [(0, am_r oa0 40 0), (1, am_i a1), (2, am_i a2), (3, am_i a3), (4, am_i q1.1)], [am_i 0], q1.2)) rfl ⟨trivial, trivial⟩ ?_
          obtain rfl := Option.some.inj h
          exact am_iret hc X hr 32 rfl rfl rfl
        · replace h := am_in2 c13 h
          obtain ⟨ob12, h⟩ := am_ci h
          refine am_blk hc X 22 9 (fr' := (81, [(0, am_r oa0 40 0), (1, am_i a1), (2, am_i a2), (3, am_i a3), (4, am_i q1.1)], [am_i ((q1.1 / (2 : Int32)) - (q1.2.1 oa0 56 0 ((a1 : Int32).toNatClampNeg)))], q1.2)) rfl ⟨trivial, trivial, (by decide), trivial, trivial, trivial, (am_in_vp ob12), trivial, trivial, trivial⟩ ?_
          obtain rfl := Option.some.inj h
          exact am_iret hc X hr 32 rfl rfl rfl
      · replace h := am_in2 c6 h
        by_cases c7 : (q1.2.1 oa0 55 0 ((a1 : Int32).toNatClampNeg)) = 4
        · replace h := am_ip c7 h
          refine am_tin hc X 9 (tgt := 92) (off := 78) rfl (by rw [c7]; decide) (by rw [c7]; decide) (by rw [c7]; rfl) (by decide) ?_
          refine am_blk hc X 40 2 (fr' := (94, [(0, am_r oa0 40 0), (1, am_i a1), (2, am_i a2), (3, am_i a3), (4, am_i q1.1)], [am_i 1, am_i a3], q1.2)) rfl ⟨trivial, trivial, trivial⟩ ?_
          refine am_icmp_le hc X 42 (tgt := 101) rfl (by decide) (fun c10 => ?_) (fun c10 => ?_)
          · replace h := am_ip c10 h
            obtain ⟨ob9, h⟩ := am_ci h
            refine am_blk hc X 45 6 (fr' := (110, [(0, am_r oa0 40 0), (1, am_i a1), (2, am_i a2), (3, am_i a3), (4, am_i q1.1)], [am_i (q1.1 + (q1.2.1 oa0 56 0 ((a1 : Int32).toNatClampNeg)))], q1.2)) rfl ⟨trivial, trivial, trivial, trivial, (am_in_vp ob9), trivial, trivial⟩ ?_
            obtain rfl := Option.some.inj h
            exact am_iret hc X hr 51 rfl rfl rfl
          · replace h := am_in2 c10 h
            refine am_blk hc X 43 2 (fr' := (110, [(0, am_r oa0 40 0), (1, am_i a1), (2, am_i a2), (3, am_i a3), (4, am_i q1.1)], [am_i 0], q1.2)) rfl ⟨trivial, trivial, trivial⟩ ?_
            obtain rfl := Option.some.inj h
            exact am_iret hc X hr 51 rfl rfl rfl
        · replace h := am_in2 c7 h
          by_cases c8 : (q1.2.1 oa0 55 0 ((a1 : Int32).toNatClampNeg)) = 5
          · replace h := am_ip c8 h
            refine am_tin hc X 9 (tgt := 111) (off := 97) rfl (by rw [c8]; decide) (by rw [c8]; decide) (by rw [c8]; rfl) (by decide) ?_
            refine am_blk hc X 52 3 (fr' := (115, [(0, am_r oa0 40 0), (1, am_i a1), (2, am_i a2), (3, am_i a3), (4, am_i q1.1)], [am_i ((2 : Int32) * q1.1)], q1.2)) rfl ⟨trivial, trivial, trivial, trivial⟩ ?_
            obtain rfl := Option.some.inj h
            exact am_iret hc X hr 55 rfl rfl rfl
          · replace h := am_in2 c8 h
            refine am_tout hc X 9 (tgt := 116) rfl (am_sw 1 5 (fun z h1 h2 => ?_)) (by decide) ?_
            · rcases (show z = 1 ∨ z = 2 ∨ z = 3 ∨ z = 4 ∨ z = 5 by omega) with rfl | rfl | rfl | rfl | rfl
              · exact lv_neT c4 rfl
              · exact lv_neT c5 rfl
              · exact lv_neT c6 rfl
              · exact lv_neT c7 rfl
              · exact lv_neT c8 rfl
            · refine am_blk hc X 56 1 (fr' := (118, [(0, am_r oa0 40 0), (1, am_i a1), (2, am_i a2), (3, am_i a3), (4, am_i q1.1)], [am_i q1.1], q1.2)) rfl ⟨trivial, trivial⟩ ?_
              obtain rfl := Option.some.inj h
              exact am_iret hc X hr 57 rfl rfl rfl
def jn_X8_acts_251  (ox0 : Nat) (x1 : Int32) (x4 : Int32) (y0 : Int32) (y1 : Int32) (y2 : Int32) (oy3 : Nat) (σ : am_S) : Option (Int32 × am_S) :=
  (bif am_in y2 6 then (bif am_in x1 6 then some (1, (am_u (am_u σ oy3 62 0 ((y2 : Int32).toNatClampNeg) (y1 + y0)) ox0 58 0 ((x1 : Int32).toNatClampNeg) x4)) else none) else none)
set_option maxRecDepth 100000 in
theorem jl_X8_acts_251 {p : Program} {l : Launch} {e : Env} {s : State} {m : MethodId} {args : Array Value} {below : List Frame} {meth : Method} {c : Code} {G : am_G} {q : Int32 × am_S} (X : am_X p s m args c cX8_acts yX8_acts.cls 6 am_p8 G (am_fr G)) (hr : meth.sig.returnType = (some .boolean) ∧ meth.locks = false)    (ox0 : Nat) (x1 : Int32) (x4 : Int32) (y0 : Int32) (y1 : Int32) (y2 : Int32) (oy3 : Nat) (σ : am_S) (h : jn_X8_acts_251  ox0 x1 x4 y0 y1 y2 oy3 σ = some q) : am_A p l e (am_ro 3) s m args below meth c 6 G (am_fr G) 0 0 (MQ below (am_Qc G (some (am_i q.1)) q.2) args s 0 0 (am_fr G)) (251, [(0, am_r ox0 40 0), (1, am_i x1), (4, am_i x4)], [am_i y0, am_i y1, am_i y2, am_r oy3 62 0], σ) := by
  have hc := ct_X8_acts
  unfold jn_X8_acts_251 at h
  obtain ⟨ob15, h⟩ := am_ci h
  obtain ⟨ob16, h⟩ := am_ci h
  refine am_blk hc X 152 8 (fr' := (262, [(0, am_r ox0 40 0), (1, am_i x1), (4, am_i x4)], [am_i 1], (am_u (am_u σ oy3 62 0 ((y2 : Int32).toNatClampNeg) (y1 + y0)) ox0 58 0 ((x1 : Int32).toNatClampNeg) x4))) rfl ⟨trivial, (am_in_vp ob15), trivial, trivial, trivial, trivial, (am_in_vp ob16), trivial, trivial⟩ ?_
  obtain rfl := Option.some.inj h
  exact am_zret hc X hr 160 rfl (by decide) rfl rfl
def jn_X8_acts_250  (ox0 : Nat) (x1 : Int32) (x4 : Int32) (y0 : Int32) (y1 : Int32) (oy2 : Nat) (σ : am_S) : Option (Int32 × am_S) :=
  jn_X8_acts_251  ox0 x1 x4 0 y0 y1 oy2 (σ)
set_option maxRecDepth 100000 in
theorem jl_X8_acts_250 {p : Program} {l : Launch} {e : Env} {s : State} {m : MethodId} {args : Array Value} {below : List Frame} {meth : Method} {c : Code} {G : am_G} {q : Int32 × am_S} (X : am_X p s m args c cX8_acts yX8_acts.cls 6 am_p8 G (am_fr G)) (hr : meth.sig.returnType = (some .boolean) ∧ meth.locks = false)    (ox0 : Nat) (x1 : Int32) (x4 : Int32) (y0 : Int32) (y1 : Int32) (oy2 : Nat) (σ : am_S) (h : jn_X8_acts_250  ox0 x1 x4 y0 y1 oy2 σ = some q) : am_A p l e (am_ro 3) s m args below meth c 6 G (am_fr G) 0 0 (MQ below (am_Qc G (some (am_i q.1)) q.2) args s 0 0 (am_fr G)) (250, [(0, am_r ox0 40 0), (1, am_i x1), (4, am_i x4)], [am_i y0, am_i y1, am_r oy2 62 0], σ) := by
  have hc := ct_X8_acts
  unfold jn_X8_acts_250 at h
  refine am_blk hc X 151 1 (fr' := (251, [(0, am_r ox0 40 0), (1, am_i x1), (4, am_i x4)], [am_i 0, am_i y0, am_i y1, am_r oy2 62 0], σ)) rfl ⟨trivial, trivial⟩ ?_
  exact jl_X8_acts_251 X hr   ox0 x1 x4 0 y0 y1 oy2 _ h
def jn_X8_acts_140  (ox0 : Nat) (x1 : Int32) (x4 : Int32) (y0 : Int32) (y1 : Int32) (oy2 : Nat) (σ : am_S) : Option (Int32 × am_S) :=
  (bif am_in y1 6 then (bif am_in x1 6 then (bif am_in x1 6 then (if x4 = 0 ∨ x4 = 1 then some (x4, (am_u (am_u σ oy2 60 0 ((y1 : Int32).toNatClampNeg) y0) ox0 61 0 ((x1 : Int32).toNatClampNeg) ((σ.1 ox0 61 0 ((x1 : Int32).toNatClampNeg)) + (2 : Int32)))) else none) else none) else none) else none)
set_option maxRecDepth 100000 in
theorem jl_X8_acts_140 {p : Program} {l : Launch} {e : Env} {s : State} {m : MethodId} {args : Array Value} {below : List Frame} {meth : Method} {c : Code} {G : am_G} {q : Int32 × am_S} (X : am_X p s m args c cX8_acts yX8_acts.cls 6 am_p8 G (am_fr G)) (hr : meth.sig.returnType = (some .boolean) ∧ meth.locks = false)    (ox0 : Nat) (x1 : Int32) (x4 : Int32) (y0 : Int32) (y1 : Int32) (oy2 : Nat) (σ : am_S) (h : jn_X8_acts_140  ox0 x1 x4 y0 y1 oy2 σ = some q) : am_A p l e (am_ro 3) s m args below meth c 6 G (am_fr G) 0 0 (MQ below (am_Qc G (some (am_i q.1)) q.2) args s 0 0 (am_fr G)) (140, [(0, am_r ox0 40 0), (1, am_i x1), (4, am_i x4)], [am_i y0, am_i y1, am_r oy2 60 0], σ) := by
  have hc := ct_X8_acts
  unfold jn_X8_acts_140 at h
  obtain ⟨ob26, h⟩ := am_ci h
  obtain ⟨ob27, h⟩ := am_ci h
  obtain ⟨ob28, h⟩ := am_ci h
  refine am_blk hc X 79 10 (fr' := (153, [(0, am_r ox0 40 0), (1, am_i x1), (4, am_i x4)], [am_i x4], (am_u (am_u σ oy2 60 0 ((y1 : Int32).toNatClampNeg) y0) ox0 61 0 ((x1 : Int32).toNatClampNeg) ((σ.1 ox0 61 0 ((x1 : Int32).toNatClampNeg)) + (2 : Int32))))) rfl ⟨(am_in_vp ob26), trivial, trivial, trivial, trivial, (am_in_vp ob27), trivial, trivial, (am_in_vp ob28), trivial, trivial⟩ ?_
  obtain ⟨ob29, h⟩ := am_ct2 h
  obtain rfl := Option.some.inj h
  exact am_zret hc X hr 89 rfl ob29 rfl rfl
def jn_X8_acts_97  (ox0 : Nat) (x1 : Int32) (x3 : Int32) (y0 : Int32) (σ : am_S) : Option (Int32 × am_S) :=
  (if y0 = 0 then (if y0 = 0 ∨ y0 = 1 then some (y0, σ) else none) else (bif am_in x1 6 then (bif am_in x3 7 then (if 999 ≤ ((σ.1 ox0 60 0 ((x1 : Int32).toNatClampNeg)) + (σ.1 ox0 52 0 ((x3 : Int32).toNatClampNeg))) then jn_X8_acts_140  ox0 x1 y0 999 x1 ox0 (σ) else jn_X8_acts_140  ox0 x1 y0 ((σ.1 ox0 60 0 ((x1 : Int32).toNatClampNeg)) + (σ.1 ox0 52 0 ((x3 : Int32).toNatClampNeg))) x1 ox0 (σ)) else none) else none))
set_option maxRecDepth 100000 in
theorem jl_X8_acts_97 {p : Program} {l : Launch} {e : Env} {s : State} {m : MethodId} {args : Array Value} {below : List Frame} {meth : Method} {c : Code} {G : am_G} {q : Int32 × am_S} (X : am_X p s m args c cX8_acts yX8_acts.cls 6 am_p8 G (am_fr G)) (hr : meth.sig.returnType = (some .boolean) ∧ meth.locks = false)    (ox0 : Nat) (x1 : Int32) (x3 : Int32) (y0 : Int32) (σ : am_S) (h : jn_X8_acts_97  ox0 x1 x3 y0 σ = some q) : am_A p l e (am_ro 3) s m args below meth c 6 G (am_fr G) 0 0 (MQ below (am_Qc G (some (am_i q.1)) q.2) args s 0 0 (am_fr G)) (97, [(0, am_r ox0 40 0), (1, am_i x1), (3, am_i x3)], [am_i y0], σ) := by
  have hc := ct_X8_acts
  unfold jn_X8_acts_97 at h
  refine am_blk hc X 57 2 (fr' := (101, [(0, am_r ox0 40 0), (1, am_i x1), (3, am_i x3), (4, am_i y0)], [am_i y0], σ)) rfl ⟨trivial, trivial, trivial⟩ ?_
  refine am_if_eq hc X 59 (tgt := 151) rfl (by decide) (fun c31 => ?_) (fun c31 => ?_)
  · replace h := am_ip c31 h
    refine am_blk hc X 88 1 (fr' := (153, [(0, am_r ox0 40 0), (1, am_i x1), (3, am_i x3), (4, am_i y0)], [am_i y0], σ)) rfl ⟨trivial, trivial⟩ ?_
    obtain ⟨ob23, h⟩ := am_ct2 h
    obtain rfl := Option.some.inj h
    exact am_zret hc X hr 89 rfl ob23 rfl rfl
  · replace h := am_in2 c31 h
    obtain ⟨ob24, h⟩ := am_ci h
    obtain ⟨ob25, h⟩ := am_ci h
    refine am_blk hc X 60 15 (fr' := (129, [(0, am_r ox0 40 0), (1, am_i x1), (3, am_i x3), (4, am_i y0), (5, am_i ((σ.1 ox0 60 0 ((x1 : Int32).toNatClampNeg)) + (σ.1 ox0 52 0 ((x3 : Int32).toNatClampNeg))))], [am_i 999, am_i ((σ.1 ox0 60 0 ((x1 : Int32).toNatClampNeg)) + (σ.1 ox0 52 0 ((x3 : Int32).toNatClampNeg))), am_i x1, am_r ox0 60 0], σ)) rfl ⟨trivial, trivial, trivial, (am_in_vp ob24), trivial, trivial, trivial, (am_in_vp ob25), trivial, trivial, trivial, trivial, trivial, trivial, trivial, trivial⟩ ?_
    refine am_icmp_ge hc X 75 (tgt := 137) rfl (by decide) (fun c30 => ?_) (fun c30 => ?_)
    · replace h := am_ip c30 h
      refine am_blk hc X 78 1 (fr' := (140, [(0, am_r ox0 40 0), (1, am_i x1), (3, am_i x3), (4, am_i y0), (5, am_i ((σ.1 ox0 60 0 ((x1 : Int32).toNatClampNeg)) + (σ.1 ox0 52 0 ((x3 : Int32).toNatClampNeg))))], [am_i 999, am_i x1, am_r ox0 60 0], σ)) rfl ⟨trivial, trivial⟩ ?_
      refine am_less [0, 1, 3] rfl ?_
      exact jl_X8_acts_140 X hr   ox0 x1 y0 999 x1 ox0 _ h
    · replace h := am_in2 c30 h
      refine am_blk hc X 76 2 (fr' := (140, [(0, am_r ox0 40 0), (1, am_i x1), (3, am_i x3), (4, am_i y0), (5, am_i ((σ.1 ox0 60 0 ((x1 : Int32).toNatClampNeg)) + (σ.1 ox0 52 0 ((x3 : Int32).toNatClampNeg))))], [am_i ((σ.1 ox0 60 0 ((x1 : Int32).toNatClampNeg)) + (σ.1 ox0 52 0 ((x3 : Int32).toNatClampNeg))), am_i x1, am_r ox0 60 0], σ)) rfl ⟨trivial, trivial, trivial⟩ ?_
      refine am_less [0, 1, 3] rfl ?_
      exact jl_X8_acts_140 X hr   ox0 x1 y0 ((σ.1 ox0 60 0 ((x1 : Int32).toNatClampNeg)) + (σ.1 ox0 52 0 ((x3 : Int32).toNatClampNeg))) x1 ox0 _ h
def jn_X8_acts_96  (ox0 : Nat) (x1 : Int32) (x3 : Int32) (σ : am_S) : Option (Int32 × am_S) :=
  jn_X8_acts_97  ox0 x1 x3 0 (σ)
set_option maxRecDepth 100000 in
theorem jl_X8_acts_96 {p : Program} {l : Launch} {e : Env} {s : State} {m : MethodId} {args : Array Value} {below : List Frame} {meth : Method} {c : Code} {G : am_G} {q : Int32 × am_S} (X : am_X p s m args c cX8_acts yX8_acts.cls 6 am_p8 G (am_fr G)) (hr : meth.sig.returnType = (some .boolean) ∧ meth.locks = false)    (ox0 : Nat) (x1 : Int32) (x3 : Int32) (σ : am_S) (h : jn_X8_acts_96  ox0 x1 x3 σ = some q) : am_A p l e (am_ro 3) s m args below meth c 6 G (am_fr G) 0 0 (MQ below (am_Qc G (some (am_i q.1)) q.2) args s 0 0 (am_fr G)) (96, [(0, am_r ox0 40 0), (1, am_i x1), (3, am_i x3)], [], σ) := by
  have hc := ct_X8_acts
  unfold jn_X8_acts_96 at h
  refine am_blk hc X 56 1 (fr' := (97, [(0, am_r ox0 40 0), (1, am_i x1), (3, am_i x3)], [am_i 0], σ)) rfl ⟨trivial, trivial⟩ ?_
  exact jl_X8_acts_97 X hr   ox0 x1 x3 0 _ h
def jn_X8_acts_57  (x3 : Int32) (σ : am_S) : Option (Int32 × am_S) :=
  (if x3 = 6 then some (1, σ) else some (0, σ))
set_option maxRecDepth 100000 in
theorem jl_X8_acts_57 {p : Program} {l : Launch} {e : Env} {s : State} {m : MethodId} {args : Array Value} {below : List Frame} {meth : Method} {c : Code} {G : am_G} {q : Int32 × am_S} (X : am_X p s m args c cX8_acts yX8_acts.cls 6 am_p8 G (am_fr G)) (hr : meth.sig.returnType = (some .boolean) ∧ meth.locks = false)    (x3 : Int32) (σ : am_S) (h : jn_X8_acts_57  x3 σ = some q) : am_A p l e (am_ro 3) s m args below meth c 6 G (am_fr G) 0 0 (MQ below (am_Qc G (some (am_i q.1)) q.2) args s 0 0 (am_fr G)) (57, [(3, am_i x3)], [], σ) := by
  have hc := ct_X8_acts
  unfold jn_X8_acts_57 at h
  refine am_blk hc X 35 2 (fr' := (60, [(3, am_i x3)], [am_i 6, am_i x3], σ)) rfl ⟨trivial, trivial, trivial⟩ ?_
  refine am_icmp_ne hc X 37 (tgt := 67) rfl (by decide) (fun c36 => ?_) (fun c36 => ?_)
  · replace h := am_in2 c36 h
    refine am_blk hc X 40 1 (fr' := (68, [(3, am_i x3)], [am_i 0], σ)) rfl ⟨trivial, trivial⟩ ?_
    obtain rfl := Option.some.inj h
    exact am_zret hc X hr 41 rfl (by decide) rfl rfl
  · replace h := am_ip c36 h
    refine am_blk hc X 38 2 (fr' := (68, [(3, am_i x3)], [am_i 1], σ)) rfl ⟨trivial, trivial, trivial⟩ ?_
    obtain rfl := Option.some.inj h
    exact am_zret hc X hr 41 rfl (by decide) rfl rfl
def jn_X8_acts_56  (x3 : Int32) (y0 : Int32) (y1 : Int32) (oy2 : Nat) (σ : am_S) : Option (Int32 × am_S) :=
  (bif am_in y1 6 then jn_X8_acts_57  x3 (am_u σ oy2 61 0 ((y1 : Int32).toNatClampNeg) y0) else none)
set_option maxRecDepth 100000 in
theorem jl_X8_acts_56 {p : Program} {l : Launch} {e : Env} {s : State} {m : MethodId} {args : Array Value} {below : List Frame} {meth : Method} {c : Code} {G : am_G} {q : Int32 × am_S} (X : am_X p s m args c cX8_acts yX8_acts.cls 6 am_p8 G (am_fr G)) (hr : meth.sig.returnType = (some .boolean) ∧ meth.locks = false)    (x3 : Int32) (y0 : Int32) (y1 : Int32) (oy2 : Nat) (σ : am_S) (h : jn_X8_acts_56  x3 y0 y1 oy2 σ = some q) : am_A p l e (am_ro 3) s m args below meth c 6 G (am_fr G) 0 0 (MQ below (am_Qc G (some (am_i q.1)) q.2) args s 0 0 (am_fr G)) (56, [(3, am_i x3)], [am_i y0, am_i y1, am_r oy2 61 0], σ) := by
  have hc := ct_X8_acts
  unfold jn_X8_acts_56 at h
  obtain ⟨ob39, h⟩ := am_ci h
  refine am_blk hc X 34 1 (fr' := (57, [(3, am_i x3)], [], (am_u σ oy2 61 0 ((y1 : Int32).toNatClampNeg) y0))) rfl ⟨(am_in_vp ob39), trivial⟩ ?_
  exact jl_X8_acts_57 X hr   x3 _ h
def jn_X8_acts_44  (ox0 : Nat) (x1 : Int32) (x3 : Int32) (y0 : Int32) (oy1 : Nat) (σ : am_S) : Option (Int32 × am_S) :=
  (bif am_in x1 6 then jn_X8_acts_56  x3 ((σ.1 ox0 61 0 ((x1 : Int32).toNatClampNeg)) / (2 : Int32)) y0 oy1 (σ) else none)
set_option maxRecDepth 100000 in
theorem jl_X8_acts_44 {p : Program} {l : Launch} {e : Env} {s : State} {m : MethodId} {args : Array Value} {below : List Frame} {meth : Method} {c : Code} {G : am_G} {q : Int32 × am_S} (X : am_X p s m args c cX8_acts yX8_acts.cls 6 am_p8 G (am_fr G)) (hr : meth.sig.returnType = (some .boolean) ∧ meth.locks = false)    (ox0 : Nat) (x1 : Int32) (x3 : Int32) (y0 : Int32) (oy1 : Nat) (σ : am_S) (h : jn_X8_acts_44  ox0 x1 x3 y0 oy1 σ = some q) : am_A p l e (am_ro 3) s m args below meth c 6 G (am_fr G) 0 0 (MQ below (am_Qc G (some (am_i q.1)) q.2) args s 0 0 (am_fr G)) (44, [(0, am_r ox0 40 0), (1, am_i x1), (3, am_i x3)], [am_i y0, am_r oy1 61 0], σ) := by
  have hc := ct_X8_acts
  unfold jn_X8_acts_44 at h
  obtain ⟨ob38, h⟩ := am_ci h
  refine am_blk hc X 26 7 (fr' := (56, [(0, am_r ox0 40 0), (1, am_i x1), (3, am_i x3)], [am_i ((σ.1 ox0 61 0 ((x1 : Int32).toNatClampNeg)) / (2 : Int32)), am_i y0, am_r oy1 61 0], σ)) rfl ⟨trivial, trivial, trivial, (am_in_vp ob38), trivial, (by decide), trivial, trivial⟩ ?_
  refine am_less [2] rfl ?_
  exact jl_X8_acts_56 X hr   x3 ((σ.1 ox0 61 0 ((x1 : Int32).toNatClampNeg)) / (2 : Int32)) y0 oy1 _ h
def fn_X8_acts (oa0 : Nat) (a1 : Int32) (a2 : Int32) (σ : am_S) : Option (Int32 × am_S) :=
  (bif am_in a1 6 then (if a2 = 9 then (if (σ.1 oa0 58 0 ((a1 : Int32).toNatClampNeg)) = 6 then (bif am_in a1 6 then (if (σ.1 oa0 55 0 ((a1 : Int32).toNatClampNeg)) = 2 then jn_X8_acts_44  oa0 a1 (σ.1 oa0 58 0 ((a1 : Int32).toNatClampNeg)) a1 oa0 (σ) else (bif am_in a1 6 then (if (σ.1 oa0 55 0 ((a1 : Int32).toNatClampNeg)) = 4 then jn_X8_acts_44  oa0 a1 (σ.1 oa0 58 0 ((a1 : Int32).toNatClampNeg)) a1 oa0 (σ) else jn_X8_acts_56  (σ.1 oa0 58 0 ((a1 : Int32).toNatClampNeg)) 0 a1 oa0 (σ)) else none)) else none) else jn_X8_acts_57  (σ.1 oa0 58 0 ((a1 : Int32).toNatClampNeg)) (σ)) else (if a2 = 8 then (if (σ.1 oa0 58 0 ((a1 : Int32).toNatClampNeg)) = 6 then jn_X8_acts_96  oa0 a1 (σ.1 oa0 58 0 ((a1 : Int32).toNatClampNeg)) (σ) else (bif am_in a1 6 then (if 18 < (σ.1 oa0 61 0 ((a1 : Int32).toNatClampNeg)) then jn_X8_acts_96  oa0 a1 (σ.1 oa0 58 0 ((a1 : Int32).toNatClampNeg)) (σ) else jn_X8_acts_97  oa0 a1 (σ.1 oa0 58 0 ((a1 : Int32).toNatClampNeg)) 1 (σ)) else none)) else (fn_X8_nextOf oa0 (σ.1 oa0 58 0 ((a1 : Int32).toNatClampNeg)) a2 (σ)).bind fun q2 => (if q2.1 = (-1) then some (0, q2.2) else (bif am_in a1 6 then (if (q2.2.1 oa0 61 0 ((a1 : Int32).toNatClampNeg)) = 20 then some (0, q2.2) else (bif am_in a1 6 then (fn_X8_priceOf oa0 a1 (σ.1 oa0 58 0 ((a1 : Int32).toNatClampNeg)) a2 q2.2).bind fun q6 => (if q6.1 ≤ (q2.2.1 oa0 60 0 ((a1 : Int32).toNatClampNeg)) then (bif am_in a1 6 then (fn_X8_priceOf oa0 a1 (σ.1 oa0 58 0 ((a1 : Int32).toNatClampNeg)) a2 q6.2).bind fun q9 => (bif am_in a1 6 then (bif am_in a1 6 then (bif am_in a1 6 then (bif am_in a1 6 then (if a2 = 0 then (bif am_in a1 6 then (if 999 ≤ (q9.2.1 oa0 62 0 ((a1 : Int32).toNatClampNeg)) then jn_X8_acts_250  oa0 a1 q2.1 (q9.2.1 oa0 62 0 ((a1 : Int32).toNatClampNeg)) a1 oa0 (am_u (am_u q9.2 oa0 60 0 ((a1 : Int32).toNatClampNeg) ((q6.2.1 oa0 60 0 ((a1 : Int32).toNatClampNeg)) - q9.1)) oa0 61 0 ((a1 : Int32).toNatClampNeg) ((q9.2.1 oa0 61 0 ((a1 : Int32).toNatClampNeg)) + (1 : Int32))) else jn_X8_acts_251  oa0 a1 q2.1 1 (q9.2.1 oa0 62 0 ((a1 : Int32).toNatClampNeg)) a1 oa0 (am_u (am_u q9.2 oa0 60 0 ((a1 : Int32).toNatClampNeg) ((q6.2.1 oa0 60 0 ((a1 : Int32).toNatClampNeg)) - q9.1)) oa0 61 0 ((a1 : Int32).toNatClampNeg) ((q9.2.1 oa0 61 0 ((a1 : Int32).toNatClampNeg)) + (1 : Int32)))) else none) else jn_X8_acts_250  oa0 a1 q2.1 (q9.2.1 oa0 62 0 ((a1 : Int32).toNatClampNeg)) a1 oa0 (am_u (am_u q9.2 oa0 60 0 ((a1 : Int32).toNatClampNeg) ((q6.2.1 oa0 60 0 ((a1 : Int32).toNatClampNeg)) - q9.1)) oa0 61 0 ((a1 : Int32).toNatClampNeg) ((q9.2.1 oa0 61 0 ((a1 : Int32).toNatClampNeg)) + (1 : Int32)))) else none) else none) else none) else none) else none) else some (0, q6.2)) else none)) else none)))) else none)
set_option maxRecDepth 100000 in
theorem ok_X8_acts (l : Launch) (oa0 : Nat) (a1 : Int32) (a2 : Int32) (σ : am_S) {q : Int32 × am_S} (h : fn_X8_acts oa0 a1 a2 σ = some q) : am_M l yX8_acts cX8_acts 6 (some .boolean) 3 [am_r oa0 40 0, am_i a1, am_i a2] σ (some (am_i q.1)) q.2 := by
  refine am_M_of (P := am_p8) (by decide +kernel) am_p8_ok rfl ?_
  intro G p e s m args below meth c X hr
  have hc := ct_X8_acts
  unfold fn_X8_acts at h
  obtain ⟨ob1, h⟩ := am_ci h
  refine am_blk hc X 0 7 (fr' := (10, [(0, am_r oa0 40 0), (1, am_i a1), (2, am_i a2), (3, am_i (σ.1 oa0 58 0 ((a1 : Int32).toNatClampNeg)))], [am_i 9, am_i a2], σ)) rfl ⟨trivial, trivial, trivial, (am_in_vp ob1), trivial, trivial, trivial, trivial⟩ ?_
  refine am_icmp_ne hc X 7 (tgt := 69) rfl (by decide) (fun c44 => ?_) (fun c44 => ?_)
  · replace h := am_in2 c44 h
    refine am_blk hc X 42 2 (fr' := (72, [(0, am_r oa0 40 0), (1, am_i a1), (2, am_i a2), (3, am_i (σ.1 oa0 58 0 ((a1 : Int32).toNatClampNeg)))], [am_i 8, am_i a2], σ)) rfl ⟨trivial, trivial, trivial⟩ ?_
    refine am_icmp_ne hc X 44 (tgt := 154) rfl (by decide) (fun c35 => ?_) (fun c35 => ?_)
    · replace h := am_in2 c35 h
      refine am_blk hc X 90 3 (fr' := (157, [(0, am_r oa0 40 0), (1, am_i a1), (2, am_i a2), (3, am_i (σ.1 oa0 58 0 ((a1 : Int32).toNatClampNeg)))], [am_i a2, am_i (σ.1 oa0 58 0 ((a1 : Int32).toNatClampNeg)), am_r oa0 40 0], σ)) rfl ⟨trivial, trivial, trivial, trivial⟩ ?_
      obtain ⟨q2, hq3, h⟩ := am_bs h
      refine am_callV hc 93 X (k := 40) (i := 0) (o := oa0) (As := [am_i (σ.1 oa0 58 0 ((a1 : Int32).toNatClampNeg)), am_i a2]) (rest := []) rfl (ok_X8_nextOf l oa0 (σ.1 oa0 58 0 ((a1 : Int32).toNatClampNeg)) a2 (σ) hq3) yv_X8_nextOf ml_X8_287 (cl_40) rfl rfl rfl rfl rfl ?_
      refine am_blk hc X 94 3 (fr' := (165, [(0, am_r oa0 40 0), (1, am_i a1), (2, am_i a2), (3, am_i (σ.1 oa0 58 0 ((a1 : Int32).toNatClampNeg))), (4, am_i q2.1)], [am_i (-1), am_i q2.1], q2.2)) rfl ⟨trivial, trivial, trivial, trivial⟩ ?_
      refine am_icmp_eq hc X 97 (tgt := 195) rfl (by decide) (fun c22 => ?_) (fun c22 => ?_)
      · replace h := am_ip c22 h
        refine am_blk hc X 114 1 (fr' := (196, [(0, am_r oa0 40 0), (1, am_i a1), (2, am_i a2), (3, am_i (σ.1 oa0 58 0 ((a1 : Int32).toNatClampNeg))), (4, am_i q2.1)], [am_i 0], q2.2)) rfl ⟨trivial, trivial⟩ ?_
        obtain rfl := Option.some.inj h
        exact am_zret hc X hr 115 rfl (by decide) rfl rfl
      · replace h := am_in2 c22 h
        obtain ⟨ob4, h⟩ := am_ci h
        refine am_blk hc X 98 5 (fr' := (176, [(0, am_r oa0 40 0), (1, am_i a1), (2, am_i a2), (3, am_i (σ.1 oa0 58 0 ((a1 : Int32).toNatClampNeg))), (4, am_i q2.1)], [am_i 20, am_i (q2.2.1 oa0 61 0 ((a1 : Int32).toNatClampNeg))], q2.2)) rfl ⟨trivial, trivial, trivial, (am_in_vp ob4), trivial, trivial⟩ ?_
        refine am_icmp_eq hc X 103 (tgt := 195) rfl (by decide) (fun c21 => ?_) (fun c21 => ?_)
        · replace h := am_ip c21 h
          refine am_blk hc X 114 1 (fr' := (196, [(0, am_r oa0 40 0), (1, am_i a1), (2, am_i a2), (3, am_i (σ.1 oa0 58 0 ((a1 : Int32).toNatClampNeg))), (4, am_i q2.1)], [am_i 0], q2.2)) rfl ⟨trivial, trivial⟩ ?_
          obtain rfl := Option.some.inj h
          exact am_zret hc X hr 115 rfl (by decide) rfl rfl
        · replace h := am_in2 c21 h
          obtain ⟨ob5, h⟩ := am_ci h
          refine am_blk hc X 104 8 (fr' := (189, [(0, am_r oa0 40 0), (1, am_i a1), (2, am_i a2), (3, am_i (σ.1 oa0 58 0 ((a1 : Int32).toNatClampNeg))), (4, am_i q2.1)], [am_i a2, am_i (σ.1 oa0 58 0 ((a1 : Int32).toNatClampNeg)), am_i a1, am_r oa0 40 0, am_i (q2.2.1 oa0 60 0 ((a1 : Int32).toNatClampNeg))], q2.2)) rfl ⟨trivial, trivial, trivial, (am_in_vp ob5), trivial, trivial, trivial, trivial, trivial⟩ ?_
          obtain ⟨q6, hq7, h⟩ := am_bs h
          refine am_callV hc 112 X (k := 40) (i := 0) (o := oa0) (As := [am_i a1, am_i (σ.1 oa0 58 0 ((a1 : Int32).toNatClampNeg)), am_i a2]) (rest := [am_i (q2.2.1 oa0 60 0 ((a1 : Int32).toNatClampNeg))]) rfl (ok_X8_priceOf l oa0 a1 (σ.1 oa0 58 0 ((a1 : Int32).toNatClampNeg)) a2 q2.2 hq7) yv_X8_priceOf ml_X8_150 (cl_40) rfl rfl rfl rfl rfl ?_
          refine am_icmp_ge hc X 113 (tgt := 197) rfl (by decide) (fun c20 => ?_) (fun c20 => ?_)
          · replace h := am_ip c20 h
            obtain ⟨ob8, h⟩ := am_ci h
            refine am_blk hc X 116 9 (fr' := (208, [(0, am_r oa0 40 0), (1, am_i a1), (2, am_i a2), (3, am_i (σ.1 oa0 58 0 ((a1 : Int32).toNatClampNeg))), (4, am_i q2.1)], [am_i a2, am_i (σ.1 oa0 58 0 ((a1 : Int32).toNatClampNeg)), am_i a1, am_r oa0 40 0, am_i (q6.2.1 oa0 60 0 ((a1 : Int32).toNatClampNeg)), am_i a1, am_r oa0 60 0], q6.2)) rfl ⟨trivial, trivial, trivial, trivial, (am_in_vp ob8), trivial, trivial, trivial, trivial, trivial⟩ ?_
            obtain ⟨q9, hq10, h⟩ := am_bs h
            refine am_callV hc 125 X (k := 40) (i := 0) (o := oa0) (As := [am_i a1, am_i (σ.1 oa0 58 0 ((a1 : Int32).toNatClampNeg)), am_i a2]) (rest := [am_i (q6.2.1 oa0 60 0 ((a1 : Int32).toNatClampNeg)), am_i a1, am_r oa0 60 0]) rfl (ok_X8_priceOf l oa0 a1 (σ.1 oa0 58 0 ((a1 : Int32).toNatClampNeg)) a2 q6.2 hq10) yv_X8_priceOf ml_X8_150 (cl_40) rfl rfl rfl rfl rfl ?_
            obtain ⟨ob11, h⟩ := am_ci h
            obtain ⟨ob12, h⟩ := am_ci h
            obtain ⟨ob13, h⟩ := am_ci h
            obtain ⟨ob14, h⟩ := am_ci h
            refine am_blk hc X 126 16 (fr' := (231, [(0, am_r oa0 40 0), (1, am_i a1), (2, am_i a2), (3, am_i (σ.1 oa0 58 0 ((a1 : Int32).toNatClampNeg))), (4, am_i q2.1)], [am_i a2, am_i (q9.2.1 oa0 62 0 ((a1 : Int32).toNatClampNeg)), am_i a1, am_r oa0 62 0], (am_u (am_u q9.2 oa0 60 0 ((a1 : Int32).toNatClampNeg) ((q6.2.1 oa0 60 0 ((a1 : Int32).toNatClampNeg)) - q9.1)) oa0 61 0 ((a1 : Int32).toNatClampNeg) ((q9.2.1 oa0 61 0 ((a1 : Int32).toNatClampNeg)) + (1 : Int32))))) rfl ⟨trivial, (am_in_vp ob11), trivial, trivial, trivial, trivial, (am_in_vp ob12), trivial, trivial, (am_in_vp ob13), trivial, trivial, trivial, trivial, (am_in_vp ob14), trivial, trivial⟩ ?_
            refine am_if_ne hc X 142 (tgt := 250) rfl (by decide) (fun c19 => ?_) (fun c19 => ?_)
            · replace h := am_in2 c19 h
              refine am_less [0, 1, 4] rfl ?_
              exact jl_X8_acts_250 X hr   oa0 a1 q2.1 (q9.2.1 oa0 62 0 ((a1 : Int32).toNatClampNeg)) a1 oa0 _ h
            · replace h := am_ip c19 h
              obtain ⟨ob17, h⟩ := am_ci h
              refine am_blk hc X 143 5 (fr' := (243, [(0, am_r oa0 40 0), (1, am_i a1), (2, am_i a2), (3, am_i (σ.1 oa0 58 0 ((a1 : Int32).toNatClampNeg))), (4, am_i q2.1)], [am_i 999, am_i (q9.2.1 oa0 62 0 ((a1 : Int32).toNatClampNeg)), am_i (q9.2.1 oa0 62 0 ((a1 : Int32).toNatClampNeg)), am_i a1, am_r oa0 62 0], (am_u (am_u q9.2 oa0 60 0 ((a1 : Int32).toNatClampNeg) ((q6.2.1 oa0 60 0 ((a1 : Int32).toNatClampNeg)) - q9.1)) oa0 61 0 ((a1 : Int32).toNatClampNeg) ((q9.2.1 oa0 61 0 ((a1 : Int32).toNatClampNeg)) + (1 : Int32))))) rfl ⟨trivial, trivial, trivial, (am_in_vp ob17), trivial, trivial⟩ ?_
              refine am_icmp_ge hc X 148 (tgt := 250) rfl (by decide) (fun c18 => ?_) (fun c18 => ?_)
              · replace h := am_ip c18 h
                refine am_less [0, 1, 4] rfl ?_
                exact jl_X8_acts_250 X hr   oa0 a1 q2.1 (q9.2.1 oa0 62 0 ((a1 : Int32).toNatClampNeg)) a1 oa0 _ h
              · replace h := am_in2 c18 h
                refine am_blk hc X 149 2 (fr' := (251, [(0, am_r oa0 40 0), (1, am_i a1), (2, am_i a2), (3, am_i (σ.1 oa0 58 0 ((a1 : Int32).toNatClampNeg))), (4, am_i q2.1)], [am_i 1, am_i (q9.2.1 oa0 62 0 ((a1 : Int32).toNatClampNeg)), am_i a1, am_r oa0 62 0], (am_u (am_u q9.2 oa0 60 0 ((a1 : Int32).toNatClampNeg) ((q6.2.1 oa0 60 0 ((a1 : Int32).toNatClampNeg)) - q9.1)) oa0 61 0 ((a1 : Int32).toNatClampNeg) ((q9.2.1 oa0 61 0 ((a1 : Int32).toNatClampNeg)) + (1 : Int32))))) rfl ⟨trivial, trivial, trivial⟩ ?_
                refine am_less [0, 1, 4] rfl ?_
                exact jl_X8_acts_251 X hr   oa0 a1 q2.1 1 (q9.2.1 oa0 62 0 ((a1 : Int32).toNatClampNeg)) a1 oa0 _ h
          · replace h := am_in2 c20 h
            refine am_blk hc X 114 1 (fr' := (196, [(0, am_r oa0 40 0), (1, am_i a1), (2, am_i a2), (3, am_i (σ.1 oa0 58 0 ((a1 : Int32).toNatClampNeg))), (4, am_i q2.1)], [am_i 0], q6.2)) rfl ⟨trivial, trivial⟩ ?_
            obtain rfl := Option.some.inj h
            exact am_zret hc X hr 115 rfl (by decide) rfl rfl
    · replace h := am_ip c35 h
      refine am_blk hc X 45 2 (fr' := (78, [(0, am_r oa0 40 0), (1, am_i a1), (2, am_i a2), (3, am_i (σ.1 oa0 58 0 ((a1 : Int32).toNatClampNeg)))], [am_i 6, am_i (σ.1 oa0 58 0 ((a1 : Int32).toNatClampNeg))], σ)) rfl ⟨trivial, trivial, trivial⟩ ?_
      refine am_icmp_eq hc X 47 (tgt := 96) rfl (by decide) (fun c34 => ?_) (fun c34 => ?_)
      · replace h := am_ip c34 h
        refine am_less [0, 1, 3] rfl ?_
        exact jl_X8_acts_96 X hr   oa0 a1 (σ.1 oa0 58 0 ((a1 : Int32).toNatClampNeg)) _ h
      · replace h := am_in2 c34 h
        obtain ⟨ob32, h⟩ := am_ci h
        refine am_blk hc X 48 5 (fr' := (89, [(0, am_r oa0 40 0), (1, am_i a1), (2, am_i a2), (3, am_i (σ.1 oa0 58 0 ((a1 : Int32).toNatClampNeg)))], [am_i 18, am_i (σ.1 oa0 61 0 ((a1 : Int32).toNatClampNeg))], σ)) rfl ⟨trivial, trivial, trivial, (am_in_vp ob32), trivial, trivial⟩ ?_
        refine am_icmp_gt hc X 53 (tgt := 96) rfl (by decide) (fun c33 => ?_) (fun c33 => ?_)
        · replace h := am_ip c33 h
          refine am_less [0, 1, 3] rfl ?_
          exact jl_X8_acts_96 X hr   oa0 a1 (σ.1 oa0 58 0 ((a1 : Int32).toNatClampNeg)) _ h
        · replace h := am_in2 c33 h
          refine am_blk hc X 54 2 (fr' := (97, [(0, am_r oa0 40 0), (1, am_i a1), (2, am_i a2), (3, am_i (σ.1 oa0 58 0 ((a1 : Int32).toNatClampNeg)))], [am_i 1], σ)) rfl ⟨trivial, trivial, trivial⟩ ?_
          refine am_less [0, 1, 3] rfl ?_
          exact jl_X8_acts_97 X hr   oa0 a1 (σ.1 oa0 58 0 ((a1 : Int32).toNatClampNeg)) 1 _ h
  · replace h := am_ip c44 h
    refine am_blk hc X 8 2 (fr' := (16, [(0, am_r oa0 40 0), (1, am_i a1), (2, am_i a2), (3, am_i (σ.1 oa0 58 0 ((a1 : Int32).toNatClampNeg)))], [am_i 6, am_i (σ.1 oa0 58 0 ((a1 : Int32).toNatClampNeg))], σ)) rfl ⟨trivial, trivial, trivial⟩ ?_
    refine am_icmp_ne hc X 10 (tgt := 57) rfl (by decide) (fun c43 => ?_) (fun c43 => ?_)
    · replace h := am_in2 c43 h
      refine am_less [3] rfl ?_
      exact jl_X8_acts_57 X hr   (σ.1 oa0 58 0 ((a1 : Int32).toNatClampNeg)) _ h
    · replace h := am_ip c43 h
      obtain ⟨ob37, h⟩ := am_ci h
      refine am_blk hc X 11 8 (fr' := (31, [(0, am_r oa0 40 0), (1, am_i a1), (2, am_i a2), (3, am_i (σ.1 oa0 58 0 ((a1 : Int32).toNatClampNeg)))], [am_i 2, am_i (σ.1 oa0 55 0 ((a1 : Int32).toNatClampNeg)), am_i a1, am_r oa0 61 0], σ)) rfl ⟨trivial, trivial, trivial, trivial, trivial, trivial, (am_in_vp ob37), trivial, trivial⟩ ?_
      refine am_icmp_eq hc X 19 (tgt := 44) rfl (by decide) (fun c42 => ?_) (fun c42 => ?_)
      · replace h := am_ip c42 h
        refine am_less [0, 1, 3] rfl ?_
        exact jl_X8_acts_44 X hr   oa0 a1 (σ.1 oa0 58 0 ((a1 : Int32).toNatClampNeg)) a1 oa0 _ h
      · replace h := am_in2 c42 h
        obtain ⟨ob40, h⟩ := am_ci h
        refine am_blk hc X 20 5 (fr' := (41, [(0, am_r oa0 40 0), (1, am_i a1), (2, am_i a2), (3, am_i (σ.1 oa0 58 0 ((a1 : Int32).toNatClampNeg)))], [am_i 4, am_i (σ.1 oa0 55 0 ((a1 : Int32).toNatClampNeg)), am_i a1, am_r oa0 61 0], σ)) rfl ⟨trivial, trivial, trivial, (am_in_vp ob40), trivial, trivial⟩ ?_
        refine am_icmp_ne hc X 25 (tgt := 55) rfl (by decide) (fun c41 => ?_) (fun c41 => ?_)
        · replace h := am_in2 c41 h
          refine am_blk hc X 33 1 (fr' := (56, [(0, am_r oa0 40 0), (1, am_i a1), (2, am_i a2), (3, am_i (σ.1 oa0 58 0 ((a1 : Int32).toNatClampNeg)))], [am_i 0, am_i a1, am_r oa0 61 0], σ)) rfl ⟨trivial, trivial⟩ ?_
          refine am_less [3] rfl ?_
          exact jl_X8_acts_56 X hr   (σ.1 oa0 58 0 ((a1 : Int32).toNatClampNeg)) 0 a1 oa0 _ h
        · replace h := am_ip c41 h
          refine am_less [0, 1, 3] rfl ?_
          exact jl_X8_acts_44 X hr   oa0 a1 (σ.1 oa0 58 0 ((a1 : Int32).toNatClampNeg)) a1 oa0 _ h
def jn_X8_act_16  (ox0 : Nat) (σ : am_S) : Option (Int32 × am_S) :=
  (fn_X8_refuse ox0 (-2) (σ)).bind fun q3 => some (q3.1, q3.2)
set_option maxRecDepth 100000 in
theorem jl_X8_act_16 {p : Program} {l : Launch} {e : Env} {s : State} {m : MethodId} {args : Array Value} {below : List Frame} {meth : Method} {c : Code} {G : am_G} {q : Int32 × am_S} (X : am_X p s m args c cX8_act yX8_act.cls 3 am_p8 G (am_fr G)) (hr : meth.sig.returnType = (some .int) ∧ meth.locks = false)    (ox0 : Nat) (σ : am_S) (h : jn_X8_act_16  ox0 σ = some q) : am_A p l e (am_ro 4) s m args below meth c 3 G (am_fr G) 0 0 (MQ below (am_Qc G (some (am_i q.1)) q.2) args s 0 0 (am_fr G)) (16, [(0, am_r ox0 40 0)], [], σ) := by
  have hc := ct_X8_act
  unfold jn_X8_act_16 at h
  refine am_blk hc X 8 2 (fr' := (19, [(0, am_r ox0 40 0)], [am_i (-2), am_r ox0 40 0], σ)) rfl ⟨trivial, trivial, trivial⟩ ?_
  obtain ⟨q3, hq4, h⟩ := am_bs h
  refine am_callV hc 10 X (k := 40) (i := 0) (o := ox0) (As := [am_i (-2)]) (rest := []) rfl (ok_X8_refuse l ox0 (-2) (σ) hq4) yv_X8_refuse ml_X8_129 (cl_40) rfl rfl rfl rfl rfl ?_
  obtain rfl := Option.some.inj h
  exact am_iret hc X hr 11 rfl rfl rfl
def fn_X8_act (oa0 : Nat) (a1 : Int32) (a2 : Int32) (σ : am_S) : Option (Int32 × am_S) :=
  (fn_X8_isOne oa0 a1 (σ)).bind fun q1 => (if q1.1 = 0 then jn_X8_act_16  oa0 q1.2 else (fn_X8_isAct ((a2 : Int32).toInt64) q1.2).bind fun q5 => (if q5.1 = 0 then jn_X8_act_16  oa0 q5.2 else (fn_X8_acts oa0 a1 a2 q5.2).bind fun q7 => (if q7.1 = 0 then (fn_X8_refuse oa0 (-5) q7.2).bind fun q10 => some (q10.1, q10.2) else (bif am_in a1 6 then some ((q7.2.1 oa0 58 0 ((a1 : Int32).toNatClampNeg)), (am_u q7.2 oa0 40 0 24 ((q7.2.1 oa0 40 0 24) + (1 : Int32)))) else none))))
set_option maxRecDepth 100000 in
theorem ok_X8_act (l : Launch) (oa0 : Nat) (a1 : Int32) (a2 : Int32) (σ : am_S) {q : Int32 × am_S} (h : fn_X8_act oa0 a1 a2 σ = some q) : am_M l yX8_act cX8_act 3 (some .int) 4 [am_r oa0 40 0, am_i a1, am_i a2] σ (some (am_i q.1)) q.2 := by
  refine am_M_of (P := am_p8) (by decide +kernel) am_p8_ok rfl ?_
  intro G p e s m args below meth c X hr
  have hc := ct_X8_act
  unfold fn_X8_act at h
  refine am_blk hc X 0 2 (fr' := (2, [(0, am_r oa0 40 0), (1, am_i a1), (2, am_i a2)], [am_i a1, am_r oa0 40 0], σ)) rfl ⟨trivial, trivial, trivial⟩ ?_
  obtain ⟨q1, hq2, h⟩ := am_bs h
  refine am_callV hc 2 X (k := 40) (i := 0) (o := oa0) (As := [am_i a1]) (rest := []) rfl (ok_X8_isOne l oa0 a1 (σ) hq2) yv_X8_isOne ml_X8_140 (cl_40) rfl rfl rfl rfl rfl ?_
  refine am_if_eq hc X 3 (tgt := 16) rfl (by decide) (fun c14 => ?_) (fun c14 => ?_)
  · replace h := am_ip c14 h
    refine am_less [0] rfl ?_
    exact jl_X8_act_16 X hr   oa0 _ h
  · replace h := am_in2 c14 h
    refine am_blk hc X 4 2 (fr' := (10, [(0, am_r oa0 40 0), (1, am_i a1), (2, am_i a2)], [am_l ((a2 : Int32).toInt64)], q1.2)) rfl ⟨trivial, trivial, trivial⟩ ?_
    obtain ⟨q5, hq6, h⟩ := am_bs h
    refine am_callS hc 6 X (As := [am_l ((a2 : Int32).toInt64)]) (rest := []) rfl (ok_X8_isAct l ((a2 : Int32).toInt64) q1.2 hq6) yv_X8_isAct ml_X8_371 rfl rfl rfl rfl rfl ?_
    refine am_if_ne hc X 7 (tgt := 23) rfl (by decide) (fun c13 => ?_) (fun c13 => ?_)
    · replace h := am_in2 c13 h
      refine am_blk hc X 12 3 (fr' := (26, [(0, am_r oa0 40 0), (1, am_i a1), (2, am_i a2)], [am_i a2, am_i a1, am_r oa0 40 0], q5.2)) rfl ⟨trivial, trivial, trivial, trivial⟩ ?_
      obtain ⟨q7, hq8, h⟩ := am_bs h
      refine am_callV hc 15 X (k := 40) (i := 0) (o := oa0) (As := [am_i a1, am_i a2]) (rest := []) rfl (ok_X8_acts l oa0 a1 a2 q5.2 hq8) yv_X8_acts ml_X8_374 (cl_40) rfl rfl rfl rfl rfl ?_
      refine am_if_ne hc X 16 (tgt := 39) rfl (by decide) (fun c12 => ?_) (fun c12 => ?_)
      · replace h := am_in2 c12 h
        obtain ⟨ob9, h⟩ := am_ci h
        refine am_blk hc X 21 10 (fr' := (55, [(0, am_r oa0 40 0), (1, am_i a1), (2, am_i a2)], [am_i (q7.2.1 oa0 58 0 ((a1 : Int32).toNatClampNeg))], (am_u q7.2 oa0 40 0 24 ((q7.2.1 oa0 40 0 24) + (1 : Int32))))) rfl ⟨trivial, trivial, trivial, trivial, trivial, trivial, trivial, trivial, trivial, (am_in_vp ob9), trivial⟩ ?_
        obtain rfl := Option.some.inj h
        exact am_iret hc X hr 31 rfl rfl rfl
      · replace h := am_ip c12 h
        refine am_blk hc X 17 2 (fr' := (35, [(0, am_r oa0 40 0), (1, am_i a1), (2, am_i a2)], [am_i (-5), am_r oa0 40 0], q7.2)) rfl ⟨trivial, trivial, trivial⟩ ?_
        obtain ⟨q10, hq11, h⟩ := am_bs h
        refine am_callV hc 19 X (k := 40) (i := 0) (o := oa0) (As := [am_i (-5)]) (rest := []) rfl (ok_X8_refuse l oa0 (-5) q7.2 hq11) yv_X8_refuse ml_X8_129 (cl_40) rfl rfl rfl rfl rfl ?_
        obtain rfl := Option.some.inj h
        exact am_iret hc X hr 20 rfl rfl rfl
    · replace h := am_ip c13 h
      refine am_less [0] rfl ?_
      exact jl_X8_act_16 X hr   oa0 _ h
def fn_X8_addPass (oa0 : Nat) (a1 : Int32) (a2 : Int32) (a3 : Int32) (a4 : Int32) (σ : am_S) : Option (am_S) :=
  (bif am_in (σ.1 oa0 40 0 13) 3 then (bif am_in (σ.1 oa0 40 0 13) 3 then (bif am_in (σ.1 oa0 40 0 13) 3 then (bif am_in (σ.1 oa0 40 0 13) 3 then some (am_u (am_u (am_u (am_u (am_u σ oa0 54 (((σ.1 oa0 40 0 13) : Int32).toNatClampNeg) 0 a1) oa0 54 (((σ.1 oa0 40 0 13) : Int32).toNatClampNeg) 1 a2) oa0 54 (((σ.1 oa0 40 0 13) : Int32).toNatClampNeg) 2 a3) oa0 54 (((σ.1 oa0 40 0 13) : Int32).toNatClampNeg) 3 a4) oa0 40 0 13 ((σ.1 oa0 40 0 13) + (1 : Int32))) else none) else none) else none) else none)
set_option maxRecDepth 100000 in
theorem ok_X8_addPass (l : Launch) (oa0 : Nat) (a1 : Int32) (a2 : Int32) (a3 : Int32) (a4 : Int32) (σ : am_S) {q : am_S} (h : fn_X8_addPass oa0 a1 a2 a3 a4 σ = some q) : am_M l yX8_addPass cX8_addPass 5 none 0 [am_r oa0 40 0, am_i a1, am_i a2, am_i a3, am_i a4] σ none q := by
  refine am_M_of (P := am_p8) (by decide +kernel) am_p8_ok rfl ?_
  intro G p e s m args below meth c X hr
  have hc := ct_X8_addPass
  unfold fn_X8_addPass at h
  obtain ⟨ob1, h⟩ := am_ci h
  obtain ⟨ob2, h⟩ := am_ci h
  obtain ⟨ob3, h⟩ := am_ci h
  obtain ⟨ob4, h⟩ := am_ci h
  refine am_blk hc X 0 38 (fr' := (59, [(0, am_r oa0 40 0), (1, am_i a1), (2, am_i a2), (3, am_i a3), (4, am_i a4)], [], (am_u (am_u (am_u (am_u (am_u σ oa0 54 (((σ.1 oa0 40 0 13) : Int32).toNatClampNeg) 0 a1) oa0 54 (((σ.1 oa0 40 0 13) : Int32).toNatClampNeg) 1 a2) oa0 54 (((σ.1 oa0 40 0 13) : Int32).toNatClampNeg) 2 a3) oa0 54 (((σ.1 oa0 40 0 13) : Int32).toNatClampNeg) 3 a4) oa0 40 0 13 ((σ.1 oa0 40 0 13) + (1 : Int32))))) rfl ⟨trivial, trivial, trivial, trivial, (am_in_vp ob1), trivial, trivial, (am_in_vp (by decide)), trivial, trivial, trivial, trivial, (am_in_vp ob2), trivial, trivial, (am_in_vp (by decide)), trivial, trivial, trivial, trivial, (am_in_vp ob3), trivial, trivial, (am_in_vp (by decide)), trivial, trivial, trivial, trivial, (am_in_vp ob4), trivial, trivial, (am_in_vp (by decide)), trivial, trivial, trivial, trivial, trivial, trivial, trivial⟩ ?_
  obtain rfl := Option.some.inj h
  exact am_vret hc X hr 38 rfl rfl rfl
def fn_X8_addPerson (oa0 : Nat) (a1 : Int32) (a2 : Int32) (a3 : Int32) (σ : am_S) : Option (am_S) :=
  (bif am_in (σ.1 oa0 40 0 15) 6 then (bif am_in (σ.1 oa0 40 0 15) 6 then (bif am_in (σ.1 oa0 40 0 15) 6 then (bif am_in (σ.1 oa0 40 0 15) 6 then (bif am_in (σ.1 oa0 40 0 15) 6 then (bif am_in (σ.1 oa0 40 0 15) 6 then (bif am_in (σ.1 oa0 40 0 15) 6 then (bif am_in (σ.1 oa0 40 0 15) 6 then some (am_u (am_u (am_u (am_u (am_u (am_u (am_u (am_u (am_u σ oa0 55 0 (((σ.1 oa0 40 0 15) : Int32).toNatClampNeg) a1) oa0 56 0 (((σ.1 oa0 40 0 15) : Int32).toNatClampNeg) a2) oa0 57 0 (((σ.1 oa0 40 0 15) : Int32).toNatClampNeg) a3) oa0 58 0 (((σ.1 oa0 40 0 15) : Int32).toNatClampNeg) a3) oa0 59 0 (((σ.1 oa0 40 0 15) : Int32).toNatClampNeg) 0) oa0 60 0 (((σ.1 oa0 40 0 15) : Int32).toNatClampNeg) 20) oa0 61 0 (((σ.1 oa0 40 0 15) : Int32).toNatClampNeg) 0) oa0 62 0 (((σ.1 oa0 40 0 15) : Int32).toNatClampNeg) 0) oa0 40 0 15 ((σ.1 oa0 40 0 15) + (1 : Int32))) else none) else none) else none) else none) else none) else none) else none) else none)
set_option maxRecDepth 100000 in
theorem ok_X8_addPerson (l : Launch) (oa0 : Nat) (a1 : Int32) (a2 : Int32) (a3 : Int32) (σ : am_S) {q : am_S} (h : fn_X8_addPerson oa0 a1 a2 a3 σ = some q) : am_M l yX8_addPerson cX8_addPerson 4 none 0 [am_r oa0 40 0, am_i a1, am_i a2, am_i a3] σ none q := by
  refine am_M_of (P := am_p8) (by decide +kernel) am_p8_ok rfl ?_
  intro G p e s m args below meth c X hr
  have hc := ct_X8_addPerson
  unfold fn_X8_addPerson at h
  obtain ⟨ob1, h⟩ := am_ci h
  obtain ⟨ob2, h⟩ := am_ci h
  obtain ⟨ob3, h⟩ := am_ci h
  obtain ⟨ob4, h⟩ := am_ci h
  obtain ⟨ob5, h⟩ := am_ci h
  obtain ⟨ob6, h⟩ := am_ci h
  obtain ⟨ob7, h⟩ := am_ci h
  obtain ⟨ob8, h⟩ := am_ci h
  refine am_blk hc X 0 54 (fr' := (91, [(0, am_r oa0 40 0), (1, am_i a1), (2, am_i a2), (3, am_i a3)], [], (am_u (am_u (am_u (am_u (am_u (am_u (am_u (am_u (am_u σ oa0 55 0 (((σ.1 oa0 40 0 15) : Int32).toNatClampNeg) a1) oa0 56 0 (((σ.1 oa0 40 0 15) : Int32).toNatClampNeg) a2) oa0 57 0 (((σ.1 oa0 40 0 15) : Int32).toNatClampNeg) a3) oa0 58 0 (((σ.1 oa0 40 0 15) : Int32).toNatClampNeg) a3) oa0 59 0 (((σ.1 oa0 40 0 15) : Int32).toNatClampNeg) 0) oa0 60 0 (((σ.1 oa0 40 0 15) : Int32).toNatClampNeg) 20) oa0 61 0 (((σ.1 oa0 40 0 15) : Int32).toNatClampNeg) 0) oa0 62 0 (((σ.1 oa0 40 0 15) : Int32).toNatClampNeg) 0) oa0 40 0 15 ((σ.1 oa0 40 0 15) + (1 : Int32))))) rfl ⟨trivial, trivial, trivial, trivial, trivial, (am_in_vp ob1), trivial, trivial, trivial, trivial, trivial, (am_in_vp ob2), trivial, trivial, trivial, trivial, trivial, (am_in_vp ob3), trivial, trivial, trivial, trivial, trivial, (am_in_vp ob4), trivial, trivial, trivial, trivial, trivial, (am_in_vp ob5), trivial, trivial, trivial, trivial, trivial, (am_in_vp ob6), trivial, trivial, trivial, trivial, trivial, (am_in_vp ob7), trivial, trivial, trivial, trivial, trivial, (am_in_vp ob8), trivial, trivial, trivial, trivial, trivial, trivial, trivial⟩ ?_
  obtain rfl := Option.some.inj h
  exact am_vret hc X hr 54 rfl rfl rfl
def fn_X8_hoursOf (oa0 : Nat) (a1 : Int32) (a2 : Int32) (σ : am_S) : Option (Int32 × am_S) :=
  (if a2 = 0 then (bif am_in a1 7 then some ((σ.1 oa0 51 0 ((a1 : Int32).toNatClampNeg)), σ) else none) else (if a2 = 1 then (fn_X8_nextOf oa0 a1 1 (σ)).bind fun q2 => (bif am_in q2.1 7 then some ((q2.2.1 oa0 51 0 ((q2.1 : Int32).toNatClampNeg)), q2.2) else none) else (bif am_in (a2 - (2 : Int32)) 3 then some ((σ.1 oa0 54 (((a2 - (2 : Int32)) : Int32).toNatClampNeg) 3), σ) else none)))
set_option maxRecDepth 100000 in
theorem ok_X8_hoursOf (l : Launch) (oa0 : Nat) (a1 : Int32) (a2 : Int32) (σ : am_S) {q : Int32 × am_S} (h : fn_X8_hoursOf oa0 a1 a2 σ = some q) : am_M l yX8_hoursOf cX8_hoursOf 3 (some .int) 1 [am_r oa0 40 0, am_i a1, am_i a2] σ (some (am_i q.1)) q.2 := by
  refine am_M_of (P := am_p8) (by decide +kernel) am_p8_ok rfl ?_
  intro G p e s m args below meth c X hr
  have hc := ct_X8_hoursOf
  unfold fn_X8_hoursOf at h
  refine am_blk hc X 0 1 (fr' := (1, [(0, am_r oa0 40 0), (1, am_i a1), (2, am_i a2)], [am_i a2], σ)) rfl ⟨trivial, trivial⟩ ?_
  refine am_if_ne hc X 1 (tgt := 13) rfl (by decide) (fun c7 => ?_) (fun c7 => ?_)
  · replace h := am_in2 c7 h
    refine am_blk hc X 7 2 (fr' := (15, [(0, am_r oa0 40 0), (1, am_i a1), (2, am_i a2)], [am_i 1, am_i a2], σ)) rfl ⟨trivial, trivial, trivial⟩ ?_
    refine am_icmp_ne hc X 9 (tgt := 32) rfl (by decide) (fun c5 => ?_) (fun c5 => ?_)
    · replace h := am_in2 c5 h
      obtain ⟨ob1, h⟩ := am_ci h
      refine am_blk hc X 18 8 (fr' := (42, [(0, am_r oa0 40 0), (1, am_i a1), (2, am_i a2)], [am_i (σ.1 oa0 54 (((a2 - (2 : Int32)) : Int32).toNatClampNeg) 3)], σ)) rfl ⟨trivial, trivial, trivial, trivial, trivial, (am_in_vp ob1), trivial, (am_in_vp (by decide)), trivial⟩ ?_
      obtain rfl := Option.some.inj h
      exact am_iret hc X hr 26 rfl rfl rfl
    · replace h := am_ip c5 h
      refine am_blk hc X 10 5 (fr' := (25, [(0, am_r oa0 40 0), (1, am_i a1), (2, am_i a2)], [am_i 1, am_i a1, am_r oa0 40 0, am_r oa0 51 0], σ)) rfl ⟨trivial, trivial, trivial, trivial, trivial, trivial⟩ ?_
      obtain ⟨q2, hq3, h⟩ := am_bs h
      refine am_callV hc 15 X (k := 40) (i := 0) (o := oa0) (As := [am_i a1, am_i 1]) (rest := [am_r oa0 51 0]) rfl (ok_X8_nextOf l oa0 a1 1 (σ) hq3) yv_X8_nextOf ml_X8_287 (cl_40) rfl rfl rfl rfl rfl ?_
      obtain ⟨ob4, h⟩ := am_ci h
      refine am_blk hc X 16 2 (fr' := (42, [(0, am_r oa0 40 0), (1, am_i a1), (2, am_i a2)], [am_i (q2.2.1 oa0 51 0 ((q2.1 : Int32).toNatClampNeg))], q2.2)) rfl ⟨(am_in_vp ob4), trivial, trivial⟩ ?_
      obtain rfl := Option.some.inj h
      exact am_iret hc X hr 26 rfl rfl rfl
  · replace h := am_ip c7 h
    obtain ⟨ob6, h⟩ := am_ci h
    refine am_blk hc X 2 5 (fr' := (42, [(0, am_r oa0 40 0), (1, am_i a1), (2, am_i a2)], [am_i (σ.1 oa0 51 0 ((a1 : Int32).toNatClampNeg))], σ)) rfl ⟨trivial, trivial, trivial, (am_in_vp ob6), trivial, trivial⟩ ?_
    obtain rfl := Option.some.inj h
    exact am_iret hc X hr 26 rfl rfl rfl
def fn_X8_weight (oa0 : Nat) (a1 : Int32) (a2 : Int32) (a3 : Int32) (a4 : Int32) (σ : am_S) : Option (Int32 × am_S) :=
  (if a4 = 0 then (fn_X8_priceOf oa0 a1 a2 a3 (σ)).bind fun q10 => some (q10.1, q10.2) else (if a4 = 1 then (fn_X8_hoursOf oa0 a2 a3 (σ)).bind fun q8 => some (q8.1, q8.2) else (if a4 = 2 then (if a3 = 0 then some (1, σ) else some (0, σ)) else (if a4 = 3 then some (1, σ) else (fn_X8_priceOf oa0 a1 a2 a3 (σ)).bind fun q1 => some ((((1000 : Int32) * q1.1) + (1 : Int32)), q1.2)))))
set_option maxRecDepth 100000 in
theorem ok_X8_weight (l : Launch) (oa0 : Nat) (a1 : Int32) (a2 : Int32) (a3 : Int32) (a4 : Int32) (σ : am_S) {q : Int32 × am_S} (h : fn_X8_weight oa0 a1 a2 a3 a4 σ = some q) : am_M l yX8_weight cX8_weight 5 (some .int) 3 [am_r oa0 40 0, am_i a1, am_i a2, am_i a3, am_i a4] σ (some (am_i q.1)) q.2 := by
  refine am_M_of (P := am_p8) (by decide +kernel) am_p8_ok rfl ?_
  intro G p e s m args below meth c X hr
  have hc := ct_X8_weight
  unfold fn_X8_weight at h
  refine am_blk hc X 0 1 (fr' := (2, [(0, am_r oa0 40 0), (1, am_i a1), (2, am_i a2), (3, am_i a3), (4, am_i a4)], [am_i a4], σ)) rfl ⟨trivial, trivial⟩ ?_
  by_cases c3 : a4 = 0
  · replace h := am_ip c3 h
    refine am_tin hc X 1 (tgt := 32) (off := 30) rfl (by rw [c3]; decide) (by rw [c3]; decide) (by rw [c3]; rfl) (by decide) ?_
    refine am_blk hc X 2 4 (fr' := (36, [(0, am_r oa0 40 0), (1, am_i a1), (2, am_i a2), (3, am_i a3), (4, am_i a4)], [am_i a3, am_i a2, am_i a1, am_r oa0 40 0], σ)) rfl ⟨trivial, trivial, trivial, trivial, trivial⟩ ?_
    obtain ⟨q10, hq11, h⟩ := am_bs h
    refine am_callV hc 6 X (k := 40) (i := 0) (o := oa0) (As := [am_i a1, am_i a2, am_i a3]) (rest := []) rfl (ok_X8_priceOf l oa0 a1 a2 a3 (σ) hq11) yv_X8_priceOf ml_X8_150 (cl_40) rfl rfl rfl rfl rfl ?_
    obtain rfl := Option.some.inj h
    exact am_iret hc X hr 7 rfl rfl rfl
  · replace h := am_in2 c3 h
    by_cases c4 : a4 = 1
    · replace h := am_ip c4 h
      refine am_tin hc X 1 (tgt := 40) (off := 38) rfl (by rw [c4]; decide) (by rw [c4]; decide) (by rw [c4]; rfl) (by decide) ?_
      refine am_blk hc X 8 3 (fr' := (43, [(0, am_r oa0 40 0), (1, am_i a1), (2, am_i a2), (3, am_i a3), (4, am_i a4)], [am_i a3, am_i a2, am_r oa0 40 0], σ)) rfl ⟨trivial, trivial, trivial, trivial⟩ ?_
      obtain ⟨q8, hq9, h⟩ := am_bs h
      refine am_callV hc 11 X (k := 40) (i := 0) (o := oa0) (As := [am_i a2, am_i a3]) (rest := []) rfl (ok_X8_hoursOf l oa0 a2 a3 (σ) hq9) yv_X8_hoursOf ml_X8_294 (cl_40) rfl rfl rfl rfl rfl ?_
      obtain rfl := Option.some.inj h
      exact am_iret hc X hr 12 rfl rfl rfl
    · replace h := am_in2 c4 h
      by_cases c5 : a4 = 2
      · replace h := am_ip c5 h
        refine am_tin hc X 1 (tgt := 47) (off := 45) rfl (by rw [c5]; decide) (by rw [c5]; decide) (by rw [c5]; rfl) (by decide) ?_
        refine am_blk hc X 13 1 (fr' := (48, [(0, am_r oa0 40 0), (1, am_i a1), (2, am_i a2), (3, am_i a3), (4, am_i a4)], [am_i a3], σ)) rfl ⟨trivial, trivial⟩ ?_
        refine am_if_ne hc X 14 (tgt := 55) rfl (by decide) (fun c7 => ?_) (fun c7 => ?_)
        · replace h := am_in2 c7 h
          refine am_blk hc X 17 1 (fr' := (56, [(0, am_r oa0 40 0), (1, am_i a1), (2, am_i a2), (3, am_i a3), (4, am_i a4)], [am_i 0], σ)) rfl ⟨trivial, trivial⟩ ?_
          obtain rfl := Option.some.inj h
          exact am_iret hc X hr 18 rfl rfl rfl
        · replace h := am_ip c7 h
          refine am_blk hc X 15 2 (fr' := (56, [(0, am_r oa0 40 0), (1, am_i a1), (2, am_i a2), (3, am_i a3), (4, am_i a4)], [am_i 1], σ)) rfl ⟨trivial, trivial, trivial⟩ ?_
          obtain rfl := Option.some.inj h
          exact am_iret hc X hr 18 rfl rfl rfl
      · replace h := am_in2 c5 h
        by_cases c6 : a4 = 3
        · replace h := am_ip c6 h
          refine am_tin hc X 1 (tgt := 57) (off := 55) rfl (by rw [c6]; decide) (by rw [c6]; decide) (by rw [c6]; rfl) (by decide) ?_
          refine am_blk hc X 19 1 (fr' := (58, [(0, am_r oa0 40 0), (1, am_i a1), (2, am_i a2), (3, am_i a3), (4, am_i a4)], [am_i 1], σ)) rfl ⟨trivial, trivial⟩ ?_
          obtain rfl := Option.some.inj h
          exact am_iret hc X hr 20 rfl rfl rfl
        · replace h := am_in2 c6 h
          refine am_tout hc X 1 (tgt := 59) rfl (am_sw 0 3 (fun z h1 h2 => ?_)) (by decide) ?_
          · rcases (show z = 0 ∨ z = 1 ∨ z = 2 ∨ z = 3 by omega) with rfl | rfl | rfl | rfl
            · exact lv_neT c3 rfl
            · exact lv_neT c4 rfl
            · exact lv_neT c5 rfl
            · exact lv_neT c6 rfl
          · refine am_blk hc X 21 5 (fr' := (66, [(0, am_r oa0 40 0), (1, am_i a1), (2, am_i a2), (3, am_i a3), (4, am_i a4)], [am_i a3, am_i a2, am_i a1, am_r oa0 40 0, am_i 1000], σ)) rfl ⟨trivial, trivial, trivial, trivial, trivial, trivial⟩ ?_
            obtain ⟨q1, hq2, h⟩ := am_bs h
            refine am_callV hc 26 X (k := 40) (i := 0) (o := oa0) (As := [am_i a1, am_i a2, am_i a3]) (rest := [am_i 1000]) rfl (ok_X8_priceOf l oa0 a1 a2 a3 (σ) hq2) yv_X8_priceOf ml_X8_150 (cl_40) rfl rfl rfl rfl rfl ?_
            refine am_blk hc X 27 3 (fr' := (72, [(0, am_r oa0 40 0), (1, am_i a1), (2, am_i a2), (3, am_i a3), (4, am_i a4)], [am_i (((1000 : Int32) * q1.1) + (1 : Int32))], q1.2)) rfl ⟨trivial, trivial, trivial, trivial⟩ ?_
            obtain rfl := Option.some.inj h
            exact am_iret hc X hr 30 rfl rfl rfl
def jn_X8_findFar_252 (k163 : Nat → Int32 → am_S → Option (am_S)) (k173 : Nat → Int32 → Int32 → am_S → Option (am_S)) (k183 : Nat → Int32 → Int32 → Int32 → am_S → Option (am_S)) (ox0 : Nat) (x4 : Int32) (x5 : Int32) (x6 : Int32) (y0 : Int32) (y1 : Int32) (oy2 : Nat) (iy2 : Nat) (σ : am_S) : Option (am_S) :=
  (bif am_in y1 7 then k183 ox0 x4 x5 (x6 + 1) (am_u σ oy2 65 iy2 ((y1 : Int32).toNatClampNeg) y0) else none)
set_option maxRecDepth 100000 in
theorem jl_X8_findFar_252 {p : Program} {l : Launch} {e : Env} {s : State} {m : MethodId} {args : Array Value} {below : List Frame} {meth : Method} {c : Code} {G : am_G} {q : am_S} (X : am_X p s m args c cX8_findFar yX8_findFar.cls 8 am_p8 G (am_fr G)) (hr : meth.sig.returnType = none ∧ meth.locks = false)  (k163 : Nat → Int32 → am_S → Option (am_S)) (k173 : Nat → Int32 → Int32 → am_S → Option (am_S)) (k183 : Nat → Int32 → Int32 → Int32 → am_S → Option (am_S)) (hk163 : ∀ (ox0 : Nat) (x4 : Int32) (σ : am_S), k163 ox0 x4 σ = some q → am_A p l e (am_ro 4) s m args below meth c 8 G (am_fr G) 0 0 (MQ below (am_Qc G none q) args s 0 0 (am_fr G)) (163, [(0, am_r ox0 40 0), (4, am_i x4)], [], σ)) (hk173 : ∀ (ox0 : Nat) (x4 : Int32) (x5 : Int32) (σ : am_S), k173 ox0 x4 x5 σ = some q → am_A p l e (am_ro 4) s m args below meth c 8 G (am_fr G) 0 0 (MQ below (am_Qc G none q) args s 0 0 (am_fr G)) (173, [(0, am_r ox0 40 0), (4, am_i x4), (5, am_i x5)], [], σ)) (hk183 : ∀ (ox0 : Nat) (x4 : Int32) (x5 : Int32) (x6 : Int32) (σ : am_S), k183 ox0 x4 x5 x6 σ = some q → am_A p l e (am_ro 4) s m args below meth c 8 G (am_fr G) 0 0 (MQ below (am_Qc G none q) args s 0 0 (am_fr G)) (183, [(0, am_r ox0 40 0), (4, am_i x4), (5, am_i x5), (6, am_i x6)], [], σ)) (ox0 : Nat) (x4 : Int32) (x5 : Int32) (x6 : Int32) (y0 : Int32) (y1 : Int32) (oy2 : Nat) (iy2 : Nat) (σ : am_S) (h : jn_X8_findFar_252 k163 k173 k183 ox0 x4 x5 x6 y0 y1 oy2 iy2 σ = some q) : am_A p l e (am_ro 4) s m args below meth c 8 G (am_fr G) 0 0 (MQ below (am_Qc G none q) args s 0 0 (am_fr G)) (252, [(0, am_r ox0 40 0), (4, am_i x4), (5, am_i x5), (6, am_i x6)], [am_i y0, am_i y1, am_r oy2 65 iy2], σ) := by
  have hc := ct_X8_findFar
  unfold jn_X8_findFar_252 at h
  obtain ⟨ob10, h⟩ := am_ci h
  refine am_blk hc X 132 3 (fr' := (183, [(0, am_r ox0 40 0), (4, am_i x4), (5, am_i x5), (6, am_i (x6 + 1))], [], (am_u σ oy2 65 iy2 ((y1 : Int32).toNatClampNeg) y0))) rfl ⟨(am_in_vp ob10), trivial, trivial, trivial⟩ ?_
  exact hk183 ox0 x4 x5 (x6 + 1) _ h
def lb_X8_findFar_183 (k163 : Nat → Int32 → am_S → Option (am_S)) (k173 : Nat → Int32 → Int32 → am_S → Option (am_S)) (k183 : Nat → Int32 → Int32 → Int32 → am_S → Option (am_S)) (ox0 : Nat) (x4 : Int32) (x5 : Int32) (x6 : Int32) (σ : am_S) : Option (am_S) :=
  (if 7 ≤ x6 then k173 ox0 x4 (x5 + 1) (σ) else (bif am_in x5 7 then (bif am_in x4 7 then (bif am_in x4 7 then (bif am_in x6 7 then (bif am_in x5 7 then (bif am_in x5 7 then (bif am_in x6 7 then (if (σ.1 ox0 65 ((x5 : Int32).toNatClampNeg) ((x6 : Int32).toNatClampNeg)) ≤ ((σ.1 ox0 65 ((x5 : Int32).toNatClampNeg) ((x4 : Int32).toNatClampNeg)) + (σ.1 ox0 65 ((x4 : Int32).toNatClampNeg) ((x6 : Int32).toNatClampNeg))) then (bif am_in x5 7 then (bif am_in x6 7 then jn_X8_findFar_252 k163 k173 k183 ox0 x4 x5 x6 (σ.1 ox0 65 ((x5 : Int32).toNatClampNeg) ((x6 : Int32).toNatClampNeg)) x6 ox0 ((x5 : Int32).toNatClampNeg) (σ) else none) else none) else jn_X8_findFar_252 k163 k173 k183 ox0 x4 x5 x6 ((σ.1 ox0 65 ((x5 : Int32).toNatClampNeg) ((x4 : Int32).toNatClampNeg)) + (σ.1 ox0 65 ((x4 : Int32).toNatClampNeg) ((x6 : Int32).toNatClampNeg))) x6 ox0 ((x5 : Int32).toNatClampNeg) (σ)) else none) else none) else none) else none) else none) else none) else none))
set_option maxRecDepth 100000 in
theorem lc_X8_findFar_183 {p : Program} {l : Launch} {e : Env} {s : State} {m : MethodId} {args : Array Value} {below : List Frame} {meth : Method} {c : Code} {G : am_G} {q : am_S} (X : am_X p s m args c cX8_findFar yX8_findFar.cls 8 am_p8 G (am_fr G)) (hr : meth.sig.returnType = none ∧ meth.locks = false)  (k163 : Nat → Int32 → am_S → Option (am_S)) (k173 : Nat → Int32 → Int32 → am_S → Option (am_S)) (k183 : Nat → Int32 → Int32 → Int32 → am_S → Option (am_S)) (hk163 : ∀ (ox0 : Nat) (x4 : Int32) (σ : am_S), k163 ox0 x4 σ = some q → am_A p l e (am_ro 4) s m args below meth c 8 G (am_fr G) 0 0 (MQ below (am_Qc G none q) args s 0 0 (am_fr G)) (163, [(0, am_r ox0 40 0), (4, am_i x4)], [], σ)) (hk173 : ∀ (ox0 : Nat) (x4 : Int32) (x5 : Int32) (σ : am_S), k173 ox0 x4 x5 σ = some q → am_A p l e (am_ro 4) s m args below meth c 8 G (am_fr G) 0 0 (MQ below (am_Qc G none q) args s 0 0 (am_fr G)) (173, [(0, am_r ox0 40 0), (4, am_i x4), (5, am_i x5)], [], σ)) (hk183 : ∀ (ox0 : Nat) (x4 : Int32) (x5 : Int32) (x6 : Int32) (σ : am_S), k183 ox0 x4 x5 x6 σ = some q → am_A p l e (am_ro 4) s m args below meth c 8 G (am_fr G) 0 0 (MQ below (am_Qc G none q) args s 0 0 (am_fr G)) (183, [(0, am_r ox0 40 0), (4, am_i x4), (5, am_i x5), (6, am_i x6)], [], σ)) (ox0 : Nat) (x4 : Int32) (x5 : Int32) (x6 : Int32) (σ : am_S) (h : lb_X8_findFar_183 k163 k173 k183 ox0 x4 x5 x6 σ = some q) : am_A p l e (am_ro 4) s m args below meth c 8 G (am_fr G) 0 0 (MQ below (am_Qc G none q) args s 0 0 (am_fr G)) (183, [(0, am_r ox0 40 0), (4, am_i x4), (5, am_i x5), (6, am_i x6)], [], σ) := by
  have hc := ct_X8_findFar
  unfold lb_X8_findFar_183 at h
  refine am_blk hc X 94 2 (fr' := (187, [(0, am_r ox0 40 0), (4, am_i x4), (5, am_i x5), (6, am_i x6)], [am_i 7, am_i x6], σ)) rfl ⟨trivial, trivial, trivial⟩ ?_
  refine am_icmp_ge hc X 96 (tgt := 259) rfl (by decide) (fun c12 => ?_) (fun c12 => ?_)
  · replace h := am_ip c12 h
    refine am_blk hc X 135 2 (fr' := (173, [(0, am_r ox0 40 0), (4, am_i x4), (5, am_i (x5 + 1)), (6, am_i x6)], [], σ)) rfl ⟨trivial, trivial, trivial⟩ ?_
    refine am_less [0, 1, 2] rfl ?_
    exact hk173 ox0 x4 (x5 + 1) _ h
  · replace h := am_in2 c12 h
    obtain ⟨ob1, h⟩ := am_ci h
    obtain ⟨ob2, h⟩ := am_ci h
    obtain ⟨ob3, h⟩ := am_ci h
    obtain ⟨ob4, h⟩ := am_ci h
    obtain ⟨ob5, h⟩ := am_ci h
    obtain ⟨ob6, h⟩ := am_ci h
    obtain ⟨ob7, h⟩ := am_ci h
    refine am_blk hc X 97 26 (fr' := (234, [(0, am_r ox0 40 0), (4, am_i x4), (5, am_i x5), (6, am_i x6), (7, am_i ((σ.1 ox0 65 ((x5 : Int32).toNatClampNeg) ((x4 : Int32).toNatClampNeg)) + (σ.1 ox0 65 ((x4 : Int32).toNatClampNeg) ((x6 : Int32).toNatClampNeg))))], [am_i (σ.1 ox0 65 ((x5 : Int32).toNatClampNeg) ((x6 : Int32).toNatClampNeg)), am_i ((σ.1 ox0 65 ((x5 : Int32).toNatClampNeg) ((x4 : Int32).toNatClampNeg)) + (σ.1 ox0 65 ((x4 : Int32).toNatClampNeg) ((x6 : Int32).toNatClampNeg))), am_i x6, am_r ox0 65 ((x5 : Int32).toNatClampNeg)], σ)) rfl ⟨trivial, trivial, trivial, (am_in_vp ob1), trivial, (am_in_vp ob2), trivial, trivial, trivial, (am_in_vp ob3), trivial, (am_in_vp ob4), trivial, trivial, trivial, trivial, trivial, (am_in_vp ob5), trivial, trivial, trivial, trivial, trivial, (am_in_vp ob6), trivial, (am_in_vp ob7), trivial⟩ ?_
    refine am_icmp_ge hc X 123 (tgt := 242) rfl (by decide) (fun c11 => ?_) (fun c11 => ?_)
    · replace h := am_ip c11 h
      obtain ⟨ob8, h⟩ := am_ci h
      obtain ⟨ob9, h⟩ := am_ci h
      refine am_blk hc X 126 6 (fr' := (252, [(0, am_r ox0 40 0), (4, am_i x4), (5, am_i x5), (6, am_i x6), (7, am_i ((σ.1 ox0 65 ((x5 : Int32).toNatClampNeg) ((x4 : Int32).toNatClampNeg)) + (σ.1 ox0 65 ((x4 : Int32).toNatClampNeg) ((x6 : Int32).toNatClampNeg))))], [am_i (σ.1 ox0 65 ((x5 : Int32).toNatClampNeg) ((x6 : Int32).toNatClampNeg)), am_i x6, am_r ox0 65 ((x5 : Int32).toNatClampNeg)], σ)) rfl ⟨trivial, trivial, trivial, (am_in_vp ob8), trivial, (am_in_vp ob9), trivial⟩ ?_
      refine am_less [0, 1, 2, 3] rfl ?_
      exact jl_X8_findFar_252 X hr k163 k173 k183 hk163 hk173 hk183 ox0 x4 x5 x6 (σ.1 ox0 65 ((x5 : Int32).toNatClampNeg) ((x6 : Int32).toNatClampNeg)) x6 ox0 ((x5 : Int32).toNatClampNeg) _ h
    · replace h := am_in2 c11 h
      refine am_blk hc X 124 2 (fr' := (252, [(0, am_r ox0 40 0), (4, am_i x4), (5, am_i x5), (6, am_i x6), (7, am_i ((σ.1 ox0 65 ((x5 : Int32).toNatClampNeg) ((x4 : Int32).toNatClampNeg)) + (σ.1 ox0 65 ((x4 : Int32).toNatClampNeg) ((x6 : Int32).toNatClampNeg))))], [am_i ((σ.1 ox0 65 ((x5 : Int32).toNatClampNeg) ((x4 : Int32).toNatClampNeg)) + (σ.1 ox0 65 ((x4 : Int32).toNatClampNeg) ((x6 : Int32).toNatClampNeg))), am_i x6, am_r ox0 65 ((x5 : Int32).toNatClampNeg)], σ)) rfl ⟨trivial, trivial, trivial⟩ ?_
      refine am_less [0, 1, 2, 3] rfl ?_
      exact jl_X8_findFar_252 X hr k163 k173 k183 hk163 hk173 hk183 ox0 x4 x5 x6 ((σ.1 ox0 65 ((x5 : Int32).toNatClampNeg) ((x4 : Int32).toNatClampNeg)) + (σ.1 ox0 65 ((x4 : Int32).toNatClampNeg) ((x6 : Int32).toNatClampNeg))) x6 ox0 ((x5 : Int32).toNatClampNeg) _ h
def lp_X8_findFar_183 (k163 : Nat → Int32 → am_S → Option (am_S)) (k173 : Nat → Int32 → Int32 → am_S → Option (am_S)) : Nat → Nat → Int32 → Int32 → Int32 → am_S → Option (am_S)
  | 0 => fun _ _ _ _ _ => none
  | n + 1 => lb_X8_findFar_183 k163 k173 (lp_X8_findFar_183 k163 k173 n)
theorem ll_X8_findFar_183 {p : Program} {l : Launch} {e : Env} {s : State} {m : MethodId} {args : Array Value} {below : List Frame} {meth : Method} {c : Code} {G : am_G} {q : am_S} (X : am_X p s m args c cX8_findFar yX8_findFar.cls 8 am_p8 G (am_fr G)) (hr : meth.sig.returnType = none ∧ meth.locks = false)  (k163 : Nat → Int32 → am_S → Option (am_S)) (k173 : Nat → Int32 → Int32 → am_S → Option (am_S)) (hk163 : ∀ (ox0 : Nat) (x4 : Int32) (σ : am_S), k163 ox0 x4 σ = some q → am_A p l e (am_ro 4) s m args below meth c 8 G (am_fr G) 0 0 (MQ below (am_Qc G none q) args s 0 0 (am_fr G)) (163, [(0, am_r ox0 40 0), (4, am_i x4)], [], σ)) (hk173 : ∀ (ox0 : Nat) (x4 : Int32) (x5 : Int32) (σ : am_S), k173 ox0 x4 x5 σ = some q → am_A p l e (am_ro 4) s m args below meth c 8 G (am_fr G) 0 0 (MQ below (am_Qc G none q) args s 0 0 (am_fr G)) (173, [(0, am_r ox0 40 0), (4, am_i x4), (5, am_i x5)], [], σ)) : ∀ (n : Nat) (ox0 : Nat) (x4 : Int32) (x5 : Int32) (x6 : Int32) (σ : am_S), lp_X8_findFar_183 k163 k173 n ox0 x4 x5 x6 σ = some q → am_A p l e (am_ro 4) s m args below meth c 8 G (am_fr G) 0 0 (MQ below (am_Qc G none q) args s 0 0 (am_fr G)) (183, [(0, am_r ox0 40 0), (4, am_i x4), (5, am_i x5), (6, am_i x6)], [], σ) := by
  intro n
  induction n with
  | zero =>
    intro ox0 x4 x5 x6 σ h
    have h : (none : Option (am_S)) = some q := h
    cases h
  | succ n ih =>
    intro ox0 x4 x5 x6 σ h
    exact lc_X8_findFar_183 X hr k163 k173 (lp_X8_findFar_183 k163 k173 n) hk163 hk173 ih ox0 x4 x5 x6 σ h
def lb_X8_findFar_173 (k163 : Nat → Int32 → am_S → Option (am_S)) (k173 : Nat → Int32 → Int32 → am_S → Option (am_S)) (ox0 : Nat) (x4 : Int32) (x5 : Int32) (σ : am_S) : Option (am_S) :=
  (if 7 ≤ x5 then k163 ox0 (x4 + 1) (σ) else lp_X8_findFar_183 k163 k173 1000 ox0 x4 x5 0 (σ))
set_option maxRecDepth 100000 in
theorem lc_X8_findFar_173 {p : Program} {l : Launch} {e : Env} {s : State} {m : MethodId} {args : Array Value} {below : List Frame} {meth : Method} {c : Code} {G : am_G} {q : am_S} (X : am_X p s m args c cX8_findFar yX8_findFar.cls 8 am_p8 G (am_fr G)) (hr : meth.sig.returnType = none ∧ meth.locks = false)  (k163 : Nat → Int32 → am_S → Option (am_S)) (k173 : Nat → Int32 → Int32 → am_S → Option (am_S)) (hk163 : ∀ (ox0 : Nat) (x4 : Int32) (σ : am_S), k163 ox0 x4 σ = some q → am_A p l e (am_ro 4) s m args below meth c 8 G (am_fr G) 0 0 (MQ below (am_Qc G none q) args s 0 0 (am_fr G)) (163, [(0, am_r ox0 40 0), (4, am_i x4)], [], σ)) (hk173 : ∀ (ox0 : Nat) (x4 : Int32) (x5 : Int32) (σ : am_S), k173 ox0 x4 x5 σ = some q → am_A p l e (am_ro 4) s m args below meth c 8 G (am_fr G) 0 0 (MQ below (am_Qc G none q) args s 0 0 (am_fr G)) (173, [(0, am_r ox0 40 0), (4, am_i x4), (5, am_i x5)], [], σ)) (ox0 : Nat) (x4 : Int32) (x5 : Int32) (σ : am_S) (h : lb_X8_findFar_173 k163 k173 ox0 x4 x5 σ = some q) : am_A p l e (am_ro 4) s m args below meth c 8 G (am_fr G) 0 0 (MQ below (am_Qc G none q) args s 0 0 (am_fr G)) (173, [(0, am_r ox0 40 0), (4, am_i x4), (5, am_i x5)], [], σ) := by
  have hc := ct_X8_findFar
  unfold lb_X8_findFar_173 at h
  refine am_blk hc X 89 2 (fr' := (177, [(0, am_r ox0 40 0), (4, am_i x4), (5, am_i x5)], [am_i 7, am_i x5], σ)) rfl ⟨trivial, trivial, trivial⟩ ?_
  refine am_icmp_ge hc X 91 (tgt := 265) rfl (by decide) (fun c13 => ?_) (fun c13 => ?_)
  · replace h := am_ip c13 h
    refine am_blk hc X 137 2 (fr' := (163, [(0, am_r ox0 40 0), (4, am_i (x4 + 1)), (5, am_i x5)], [], σ)) rfl ⟨trivial, trivial, trivial⟩ ?_
    refine am_less [0, 1] rfl ?_
    exact hk163 ox0 (x4 + 1) _ h
  · replace h := am_in2 c13 h
    refine am_blk hc X 92 2 (fr' := (183, [(0, am_r ox0 40 0), (4, am_i x4), (5, am_i x5), (6, am_i 0)], [], σ)) rfl ⟨trivial, trivial, trivial⟩ ?_
    exact ll_X8_findFar_183 X hr k163 k173 hk163 hk173 1000 ox0 x4 x5 0 _ h
def lp_X8_findFar_173 (k163 : Nat → Int32 → am_S → Option (am_S)) : Nat → Nat → Int32 → Int32 → am_S → Option (am_S)
  | 0 => fun _ _ _ _ => none
  | n + 1 => lb_X8_findFar_173 k163 (lp_X8_findFar_173 k163 n)
theorem ll_X8_findFar_173 {p : Program} {l : Launch} {e : Env} {s : State} {m : MethodId} {args : Array Value} {below : List Frame} {meth : Method} {c : Code} {G : am_G} {q : am_S} (X : am_X p s m args c cX8_findFar yX8_findFar.cls 8 am_p8 G (am_fr G)) (hr : meth.sig.returnType = none ∧ meth.locks = false)  (k163 : Nat → Int32 → am_S → Option (am_S)) (hk163 : ∀ (ox0 : Nat) (x4 : Int32) (σ : am_S), k163 ox0 x4 σ = some q → am_A p l e (am_ro 4) s m args below meth c 8 G (am_fr G) 0 0 (MQ below (am_Qc G none q) args s 0 0 (am_fr G)) (163, [(0, am_r ox0 40 0), (4, am_i x4)], [], σ)) : ∀ (n : Nat) (ox0 : Nat) (x4 : Int32) (x5 : Int32) (σ : am_S), lp_X8_findFar_173 k163 n ox0 x4 x5 σ = some q → am_A p l e (am_ro 4) s m args below meth c 8 G (am_fr G) 0 0 (MQ below (am_Qc G none q) args s 0 0 (am_fr G)) (173, [(0, am_r ox0 40 0), (4, am_i x4), (5, am_i x5)], [], σ) := by
  intro n
  induction n with
  | zero =>
    intro ox0 x4 x5 σ h
    have h : (none : Option (am_S)) = some q := h
    cases h
  | succ n ih =>
    intro ox0 x4 x5 σ h
    exact lc_X8_findFar_173 X hr k163 (lp_X8_findFar_173 k163 n) hk163 ih ox0 x4 x5 σ h
def lb_X8_findFar_163 (k163 : Nat → Int32 → am_S → Option (am_S)) (ox0 : Nat) (x4 : Int32) (σ : am_S) : Option (am_S) :=
  (if 7 ≤ x4 then some (σ) else lp_X8_findFar_173 k163 1000 ox0 x4 0 (σ))
set_option maxRecDepth 100000 in
theorem lc_X8_findFar_163 {p : Program} {l : Launch} {e : Env} {s : State} {m : MethodId} {args : Array Value} {below : List Frame} {meth : Method} {c : Code} {G : am_G} {q : am_S} (X : am_X p s m args c cX8_findFar yX8_findFar.cls 8 am_p8 G (am_fr G)) (hr : meth.sig.returnType = none ∧ meth.locks = false)  (k163 : Nat → Int32 → am_S → Option (am_S)) (hk163 : ∀ (ox0 : Nat) (x4 : Int32) (σ : am_S), k163 ox0 x4 σ = some q → am_A p l e (am_ro 4) s m args below meth c 8 G (am_fr G) 0 0 (MQ below (am_Qc G none q) args s 0 0 (am_fr G)) (163, [(0, am_r ox0 40 0), (4, am_i x4)], [], σ)) (ox0 : Nat) (x4 : Int32) (σ : am_S) (h : lb_X8_findFar_163 k163 ox0 x4 σ = some q) : am_A p l e (am_ro 4) s m args below meth c 8 G (am_fr G) 0 0 (MQ below (am_Qc G none q) args s 0 0 (am_fr G)) (163, [(0, am_r ox0 40 0), (4, am_i x4)], [], σ) := by
  have hc := ct_X8_findFar
  unfold lb_X8_findFar_163 at h
  refine am_blk hc X 84 2 (fr' := (167, [(0, am_r ox0 40 0), (4, am_i x4)], [am_i 7, am_i x4], σ)) rfl ⟨trivial, trivial, trivial⟩ ?_
  refine am_icmp_ge hc X 86 (tgt := 271) rfl (by decide) (fun c14 => ?_) (fun c14 => ?_)
  · replace h := am_ip c14 h
    obtain rfl := Option.some.inj h
    exact am_vret hc X hr 139 rfl rfl rfl
  · replace h := am_in2 c14 h
    refine am_blk hc X 87 2 (fr' := (173, [(0, am_r ox0 40 0), (4, am_i x4), (5, am_i 0)], [], σ)) rfl ⟨trivial, trivial, trivial⟩ ?_
    exact ll_X8_findFar_173 X hr k163 hk163 1000 ox0 x4 0 _ h
def lp_X8_findFar_163  : Nat → Nat → Int32 → am_S → Option (am_S)
  | 0 => fun _ _ _ => none
  | n + 1 => lb_X8_findFar_163  (lp_X8_findFar_163  n)
theorem ll_X8_findFar_163 {p : Program} {l : Launch} {e : Env} {s : State} {m : MethodId} {args : Array Value} {below : List Frame} {meth : Method} {c : Code} {G : am_G} {q : am_S} (X : am_X p s m args c cX8_findFar yX8_findFar.cls 8 am_p8 G (am_fr G)) (hr : meth.sig.returnType = none ∧ meth.locks = false)    : ∀ (n : Nat) (ox0 : Nat) (x4 : Int32) (σ : am_S), lp_X8_findFar_163  n ox0 x4 σ = some q → am_A p l e (am_ro 4) s m args below meth c 8 G (am_fr G) 0 0 (MQ below (am_Qc G none q) args s 0 0 (am_fr G)) (163, [(0, am_r ox0 40 0), (4, am_i x4)], [], σ) := by
  intro n
  induction n with
  | zero =>
    intro ox0 x4 σ h
    have h : (none : Option (am_S)) = some q := h
    cases h
  | succ n ih =>
    intro ox0 x4 σ h
    exact lc_X8_findFar_163 X hr  (lp_X8_findFar_163  n) ih ox0 x4 σ h
def jn_X8_findFar_148 (k3 : Nat → Int32 → Int32 → Int32 → Int32 → am_S → Option (am_S)) (k53 : Nat → Int32 → Int32 → Int32 → Int32 → Int32 → am_S → Option (am_S)) (ox0 : Nat) (x1 : Int32) (x2 : Int32) (x3 : Int32) (x4 : Int32) (x5 : Int32) (σ : am_S) : Option (am_S) :=
  k53 ox0 x1 x2 x3 x4 (x5 + 1) (σ)
set_option maxRecDepth 100000 in
theorem jl_X8_findFar_148 {p : Program} {l : Launch} {e : Env} {s : State} {m : MethodId} {args : Array Value} {below : List Frame} {meth : Method} {c : Code} {G : am_G} {q : am_S} (X : am_X p s m args c cX8_findFar yX8_findFar.cls 8 am_p8 G (am_fr G)) (hr : meth.sig.returnType = none ∧ meth.locks = false)  (k3 : Nat → Int32 → Int32 → Int32 → Int32 → am_S → Option (am_S)) (k53 : Nat → Int32 → Int32 → Int32 → Int32 → Int32 → am_S → Option (am_S)) (hk3 : ∀ (ox0 : Nat) (x1 : Int32) (x2 : Int32) (x3 : Int32) (x4 : Int32) (σ : am_S), k3 ox0 x1 x2 x3 x4 σ = some q → am_A p l e (am_ro 4) s m args below meth c 8 G (am_fr G) 0 0 (MQ below (am_Qc G none q) args s 0 0 (am_fr G)) (3, [(0, am_r ox0 40 0), (1, am_i x1), (2, am_i x2), (3, am_i x3), (4, am_i x4)], [], σ)) (hk53 : ∀ (ox0 : Nat) (x1 : Int32) (x2 : Int32) (x3 : Int32) (x4 : Int32) (x5 : Int32) (σ : am_S), k53 ox0 x1 x2 x3 x4 x5 σ = some q → am_A p l e (am_ro 4) s m args below meth c 8 G (am_fr G) 0 0 (MQ below (am_Qc G none q) args s 0 0 (am_fr G)) (53, [(0, am_r ox0 40 0), (1, am_i x1), (2, am_i x2), (3, am_i x3), (4, am_i x4), (5, am_i x5)], [], σ)) (ox0 : Nat) (x1 : Int32) (x2 : Int32) (x3 : Int32) (x4 : Int32) (x5 : Int32) (σ : am_S) (h : jn_X8_findFar_148 k3 k53 ox0 x1 x2 x3 x4 x5 σ = some q) : am_A p l e (am_ro 4) s m args below meth c 8 G (am_fr G) 0 0 (MQ below (am_Qc G none q) args s 0 0 (am_fr G)) (148, [(0, am_r ox0 40 0), (1, am_i x1), (2, am_i x2), (3, am_i x3), (4, am_i x4), (5, am_i x5)], [], σ) := by
  have hc := ct_X8_findFar
  unfold jn_X8_findFar_148 at h
  refine am_blk hc X 78 2 (fr' := (53, [(0, am_r ox0 40 0), (1, am_i x1), (2, am_i x2), (3, am_i x3), (4, am_i x4), (5, am_i (x5 + 1))], [], σ)) rfl ⟨trivial, trivial, trivial⟩ ?_
  exact hk53 ox0 x1 x2 x3 x4 (x5 + 1) _ h
def jn_X8_findFar_147 (k3 : Nat → Int32 → Int32 → Int32 → Int32 → am_S → Option (am_S)) (k53 : Nat → Int32 → Int32 → Int32 → Int32 → Int32 → am_S → Option (am_S)) (ox0 : Nat) (x1 : Int32) (x2 : Int32) (x3 : Int32) (x4 : Int32) (x5 : Int32) (y0 : Int32) (y1 : Int32) (oy2 : Nat) (iy2 : Nat) (σ : am_S) : Option (am_S) :=
  (bif am_in y1 7 then jn_X8_findFar_148 k3 k53 ox0 x1 x2 x3 x4 x5 (am_u σ oy2 65 iy2 ((y1 : Int32).toNatClampNeg) y0) else none)
set_option maxRecDepth 100000 in
theorem jl_X8_findFar_147 {p : Program} {l : Launch} {e : Env} {s : State} {m : MethodId} {args : Array Value} {below : List Frame} {meth : Method} {c : Code} {G : am_G} {q : am_S} (X : am_X p s m args c cX8_findFar yX8_findFar.cls 8 am_p8 G (am_fr G)) (hr : meth.sig.returnType = none ∧ meth.locks = false)  (k3 : Nat → Int32 → Int32 → Int32 → Int32 → am_S → Option (am_S)) (k53 : Nat → Int32 → Int32 → Int32 → Int32 → Int32 → am_S → Option (am_S)) (hk3 : ∀ (ox0 : Nat) (x1 : Int32) (x2 : Int32) (x3 : Int32) (x4 : Int32) (σ : am_S), k3 ox0 x1 x2 x3 x4 σ = some q → am_A p l e (am_ro 4) s m args below meth c 8 G (am_fr G) 0 0 (MQ below (am_Qc G none q) args s 0 0 (am_fr G)) (3, [(0, am_r ox0 40 0), (1, am_i x1), (2, am_i x2), (3, am_i x3), (4, am_i x4)], [], σ)) (hk53 : ∀ (ox0 : Nat) (x1 : Int32) (x2 : Int32) (x3 : Int32) (x4 : Int32) (x5 : Int32) (σ : am_S), k53 ox0 x1 x2 x3 x4 x5 σ = some q → am_A p l e (am_ro 4) s m args below meth c 8 G (am_fr G) 0 0 (MQ below (am_Qc G none q) args s 0 0 (am_fr G)) (53, [(0, am_r ox0 40 0), (1, am_i x1), (2, am_i x2), (3, am_i x3), (4, am_i x4), (5, am_i x5)], [], σ)) (ox0 : Nat) (x1 : Int32) (x2 : Int32) (x3 : Int32) (x4 : Int32) (x5 : Int32) (y0 : Int32) (y1 : Int32) (oy2 : Nat) (iy2 : Nat) (σ : am_S) (h : jn_X8_findFar_147 k3 k53 ox0 x1 x2 x3 x4 x5 y0 y1 oy2 iy2 σ = some q) : am_A p l e (am_ro 4) s m args below meth c 8 G (am_fr G) 0 0 (MQ below (am_Qc G none q) args s 0 0 (am_fr G)) (147, [(0, am_r ox0 40 0), (1, am_i x1), (2, am_i x2), (3, am_i x3), (4, am_i x4), (5, am_i x5)], [am_i y0, am_i y1, am_r oy2 65 iy2], σ) := by
  have hc := ct_X8_findFar
  unfold jn_X8_findFar_147 at h
  obtain ⟨ob24, h⟩ := am_ci h
  refine am_blk hc X 77 1 (fr' := (148, [(0, am_r ox0 40 0), (1, am_i x1), (2, am_i x2), (3, am_i x3), (4, am_i x4), (5, am_i x5)], [], (am_u σ oy2 65 iy2 ((y1 : Int32).toNatClampNeg) y0))) rfl ⟨(am_in_vp ob24), trivial⟩ ?_
  exact jl_X8_findFar_148 X hr k3 k53 hk3 hk53 ox0 x1 x2 x3 x4 x5 _ h
def jn_X8_findFar_88 (k3 : Nat → Int32 → Int32 → Int32 → Int32 → am_S → Option (am_S)) (k53 : Nat → Int32 → Int32 → Int32 → Int32 → Int32 → am_S → Option (am_S)) (ox0 : Nat) (x1 : Int32) (x2 : Int32) (x3 : Int32) (x4 : Int32) (x5 : Int32) (y0 : Int32) (σ : am_S) : Option (am_S) :=
  (if y0 = (-1) then jn_X8_findFar_148 k3 k53 ox0 x1 x2 x3 x4 x5 (σ) else (fn_X8_weight ox0 x1 x4 x5 x2 (σ)).bind fun q17 => (bif am_in x4 7 then (bif am_in x4 7 then (bif am_in y0 7 then (if (q17.2.1 ox0 65 ((x4 : Int32).toNatClampNeg) ((y0 : Int32).toNatClampNeg)) ≤ q17.1 then (bif am_in x4 7 then (bif am_in y0 7 then jn_X8_findFar_147 k3 k53 ox0 x1 x2 x3 x4 x5 (q17.2.1 ox0 65 ((x4 : Int32).toNatClampNeg) ((y0 : Int32).toNatClampNeg)) y0 ox0 ((x4 : Int32).toNatClampNeg) q17.2 else none) else none) else jn_X8_findFar_147 k3 k53 ox0 x1 x2 x3 x4 x5 q17.1 y0 ox0 ((x4 : Int32).toNatClampNeg) q17.2) else none) else none) else none))
set_option maxRecDepth 100000 in
theorem jl_X8_findFar_88 {p : Program} {l : Launch} {e : Env} {s : State} {m : MethodId} {args : Array Value} {below : List Frame} {meth : Method} {c : Code} {G : am_G} {q : am_S} (X : am_X p s m args c cX8_findFar yX8_findFar.cls 8 am_p8 G (am_fr G)) (hr : meth.sig.returnType = none ∧ meth.locks = false)  (k3 : Nat → Int32 → Int32 → Int32 → Int32 → am_S → Option (am_S)) (k53 : Nat → Int32 → Int32 → Int32 → Int32 → Int32 → am_S → Option (am_S)) (hk3 : ∀ (ox0 : Nat) (x1 : Int32) (x2 : Int32) (x3 : Int32) (x4 : Int32) (σ : am_S), k3 ox0 x1 x2 x3 x4 σ = some q → am_A p l e (am_ro 4) s m args below meth c 8 G (am_fr G) 0 0 (MQ below (am_Qc G none q) args s 0 0 (am_fr G)) (3, [(0, am_r ox0 40 0), (1, am_i x1), (2, am_i x2), (3, am_i x3), (4, am_i x4)], [], σ)) (hk53 : ∀ (ox0 : Nat) (x1 : Int32) (x2 : Int32) (x3 : Int32) (x4 : Int32) (x5 : Int32) (σ : am_S), k53 ox0 x1 x2 x3 x4 x5 σ = some q → am_A p l e (am_ro 4) s m args below meth c 8 G (am_fr G) 0 0 (MQ below (am_Qc G none q) args s 0 0 (am_fr G)) (53, [(0, am_r ox0 40 0), (1, am_i x1), (2, am_i x2), (3, am_i x3), (4, am_i x4), (5, am_i x5)], [], σ)) (ox0 : Nat) (x1 : Int32) (x2 : Int32) (x3 : Int32) (x4 : Int32) (x5 : Int32) (y0 : Int32) (σ : am_S) (h : jn_X8_findFar_88 k3 k53 ox0 x1 x2 x3 x4 x5 y0 σ = some q) : am_A p l e (am_ro 4) s m args below meth c 8 G (am_fr G) 0 0 (MQ below (am_Qc G none q) args s 0 0 (am_fr G)) (88, [(0, am_r ox0 40 0), (1, am_i x1), (2, am_i x2), (3, am_i x3), (4, am_i x4), (5, am_i x5)], [am_i y0], σ) := by
  have hc := ct_X8_findFar
  unfold jn_X8_findFar_88 at h
  refine am_blk hc X 45 3 (fr' := (93, [(0, am_r ox0 40 0), (1, am_i x1), (2, am_i x2), (3, am_i x3), (4, am_i x4), (5, am_i x5), (6, am_i y0)], [am_i (-1), am_i y0], σ)) rfl ⟨trivial, trivial, trivial, trivial⟩ ?_
  refine am_icmp_eq hc X 48 (tgt := 148) rfl (by decide) (fun c26 => ?_) (fun c26 => ?_)
  · replace h := am_ip c26 h
    refine am_less [0, 1, 2, 3, 4, 5] rfl ?_
    exact jl_X8_findFar_148 X hr k3 k53 hk3 hk53 ox0 x1 x2 x3 x4 x5 _ h
  · replace h := am_in2 c26 h
    refine am_blk hc X 49 5 (fr' := (103, [(0, am_r ox0 40 0), (1, am_i x1), (2, am_i x2), (3, am_i x3), (4, am_i x4), (5, am_i x5), (6, am_i y0)], [am_i x2, am_i x5, am_i x4, am_i x1, am_r ox0 40 0], σ)) rfl ⟨trivial, trivial, trivial, trivial, trivial, trivial⟩ ?_
    obtain ⟨q17, hq18, h⟩ := am_bs h
    refine am_callV hc 54 X (k := 40) (i := 0) (o := ox0) (As := [am_i x1, am_i x4, am_i x5, am_i x2]) (rest := []) rfl (ok_X8_weight l ox0 x1 x4 x5 x2 (σ) hq18) yv_X8_weight ml_X8_298 (cl_40) rfl rfl rfl rfl rfl ?_
    obtain ⟨ob19, h⟩ := am_ci h
    obtain ⟨ob20, h⟩ := am_ci h
    obtain ⟨ob21, h⟩ := am_ci h
    refine am_blk hc X 55 13 (fr' := (129, [(0, am_r ox0 40 0), (1, am_i x1), (2, am_i x2), (3, am_i x3), (4, am_i x4), (5, am_i x5), (6, am_i y0), (7, am_i q17.1)], [am_i (q17.2.1 ox0 65 ((x4 : Int32).toNatClampNeg) ((y0 : Int32).toNatClampNeg)), am_i q17.1, am_i y0, am_r ox0 65 ((x4 : Int32).toNatClampNeg)], q17.2)) rfl ⟨trivial, trivial, trivial, trivial, (am_in_vp ob19), trivial, trivial, trivial, trivial, trivial, (am_in_vp ob20), trivial, (am_in_vp ob21), trivial⟩ ?_
    refine am_icmp_ge hc X 68 (tgt := 137) rfl (by decide) (fun c25 => ?_) (fun c25 => ?_)
    · replace h := am_ip c25 h
      obtain ⟨ob22, h⟩ := am_ci h
      obtain ⟨ob23, h⟩ := am_ci h
      refine am_blk hc X 71 6 (fr' := (147, [(0, am_r ox0 40 0), (1, am_i x1), (2, am_i x2), (3, am_i x3), (4, am_i x4), (5, am_i x5), (6, am_i y0), (7, am_i q17.1)], [am_i (q17.2.1 ox0 65 ((x4 : Int32).toNatClampNeg) ((y0 : Int32).toNatClampNeg)), am_i y0, am_r ox0 65 ((x4 : Int32).toNatClampNeg)], q17.2)) rfl ⟨trivial, trivial, trivial, (am_in_vp ob22), trivial, (am_in_vp ob23), trivial⟩ ?_
      refine am_less [0, 1, 2, 3, 4, 5] rfl ?_
      exact jl_X8_findFar_147 X hr k3 k53 hk3 hk53 ox0 x1 x2 x3 x4 x5 (q17.2.1 ox0 65 ((x4 : Int32).toNatClampNeg) ((y0 : Int32).toNatClampNeg)) y0 ox0 ((x4 : Int32).toNatClampNeg) _ h
    · replace h := am_in2 c25 h
      refine am_blk hc X 69 2 (fr' := (147, [(0, am_r ox0 40 0), (1, am_i x1), (2, am_i x2), (3, am_i x3), (4, am_i x4), (5, am_i x5), (6, am_i y0), (7, am_i q17.1)], [am_i q17.1, am_i y0, am_r ox0 65 ((x4 : Int32).toNatClampNeg)], q17.2)) rfl ⟨trivial, trivial, trivial⟩ ?_
      refine am_less [0, 1, 2, 3, 4, 5] rfl ?_
      exact jl_X8_findFar_147 X hr k3 k53 hk3 hk53 ox0 x1 x2 x3 x4 x5 q17.1 y0 ox0 ((x4 : Int32).toNatClampNeg) _ h
def jn_X8_findFar_80 (k3 : Nat → Int32 → Int32 → Int32 → Int32 → am_S → Option (am_S)) (k53 : Nat → Int32 → Int32 → Int32 → Int32 → Int32 → am_S → Option (am_S)) (ox0 : Nat) (x1 : Int32) (x2 : Int32) (x3 : Int32) (x4 : Int32) (x5 : Int32) (σ : am_S) : Option (am_S) :=
  (fn_X8_nextOf ox0 x4 x5 (σ)).bind fun q15 => jn_X8_findFar_88 k3 k53 ox0 x1 x2 x3 x4 x5 q15.1 q15.2
set_option maxRecDepth 100000 in
theorem jl_X8_findFar_80 {p : Program} {l : Launch} {e : Env} {s : State} {m : MethodId} {args : Array Value} {below : List Frame} {meth : Method} {c : Code} {G : am_G} {q : am_S} (X : am_X p s m args c cX8_findFar yX8_findFar.cls 8 am_p8 G (am_fr G)) (hr : meth.sig.returnType = none ∧ meth.locks = false)  (k3 : Nat → Int32 → Int32 → Int32 → Int32 → am_S → Option (am_S)) (k53 : Nat → Int32 → Int32 → Int32 → Int32 → Int32 → am_S → Option (am_S)) (hk3 : ∀ (ox0 : Nat) (x1 : Int32) (x2 : Int32) (x3 : Int32) (x4 : Int32) (σ : am_S), k3 ox0 x1 x2 x3 x4 σ = some q → am_A p l e (am_ro 4) s m args below meth c 8 G (am_fr G) 0 0 (MQ below (am_Qc G none q) args s 0 0 (am_fr G)) (3, [(0, am_r ox0 40 0), (1, am_i x1), (2, am_i x2), (3, am_i x3), (4, am_i x4)], [], σ)) (hk53 : ∀ (ox0 : Nat) (x1 : Int32) (x2 : Int32) (x3 : Int32) (x4 : Int32) (x5 : Int32) (σ : am_S), k53 ox0 x1 x2 x3 x4 x5 σ = some q → am_A p l e (am_ro 4) s m args below meth c 8 G (am_fr G) 0 0 (MQ below (am_Qc G none q) args s 0 0 (am_fr G)) (53, [(0, am_r ox0 40 0), (1, am_i x1), (2, am_i x2), (3, am_i x3), (4, am_i x4), (5, am_i x5)], [], σ)) (ox0 : Nat) (x1 : Int32) (x2 : Int32) (x3 : Int32) (x4 : Int32) (x5 : Int32) (σ : am_S) (h : jn_X8_findFar_80 k3 k53 ox0 x1 x2 x3 x4 x5 σ = some q) : am_A p l e (am_ro 4) s m args below meth c 8 G (am_fr G) 0 0 (MQ below (am_Qc G none q) args s 0 0 (am_fr G)) (80, [(0, am_r ox0 40 0), (1, am_i x1), (2, am_i x2), (3, am_i x3), (4, am_i x4), (5, am_i x5)], [], σ) := by
  have hc := ct_X8_findFar
  unfold jn_X8_findFar_80 at h
  refine am_blk hc X 41 3 (fr' := (85, [(0, am_r ox0 40 0), (1, am_i x1), (2, am_i x2), (3, am_i x3), (4, am_i x4), (5, am_i x5)], [am_i x5, am_i x4, am_r ox0 40 0], σ)) rfl ⟨trivial, trivial, trivial, trivial⟩ ?_
  obtain ⟨q15, hq16, h⟩ := am_bs h
  refine am_callV hc 44 X (k := 40) (i := 0) (o := ox0) (As := [am_i x4, am_i x5]) (rest := []) rfl (ok_X8_nextOf l ox0 x4 x5 (σ) hq16) yv_X8_nextOf ml_X8_287 (cl_40) rfl rfl rfl rfl rfl ?_
  exact jl_X8_findFar_88 X hr k3 k53 hk3 hk53 ox0 x1 x2 x3 x4 x5 q15.1 _ h
def lb_X8_findFar_53 (k3 : Nat → Int32 → Int32 → Int32 → Int32 → am_S → Option (am_S)) (k53 : Nat → Int32 → Int32 → Int32 → Int32 → Int32 → am_S → Option (am_S)) (ox0 : Nat) (x1 : Int32) (x2 : Int32) (x3 : Int32) (x4 : Int32) (x5 : Int32) (σ : am_S) : Option (am_S) :=
  (if ((2 : Int32) + (σ.1 ox0 40 0 13)) ≤ x5 then k3 ox0 x1 x2 x3 (x4 + 1) (σ) else (if x5 = (x3 + (2 : Int32)) then (if x3 < 0 then jn_X8_findFar_80 k3 k53 ox0 x1 x2 x3 x4 x5 (σ) else jn_X8_findFar_88 k3 k53 ox0 x1 x2 x3 x4 x5 (-1) (σ)) else jn_X8_findFar_80 k3 k53 ox0 x1 x2 x3 x4 x5 (σ)))
set_option maxRecDepth 100000 in
theorem lc_X8_findFar_53 {p : Program} {l : Launch} {e : Env} {s : State} {m : MethodId} {args : Array Value} {below : List Frame} {meth : Method} {c : Code} {G : am_G} {q : am_S} (X : am_X p s m args c cX8_findFar yX8_findFar.cls 8 am_p8 G (am_fr G)) (hr : meth.sig.returnType = none ∧ meth.locks = false)  (k3 : Nat → Int32 → Int32 → Int32 → Int32 → am_S → Option (am_S)) (k53 : Nat → Int32 → Int32 → Int32 → Int32 → Int32 → am_S → Option (am_S)) (hk3 : ∀ (ox0 : Nat) (x1 : Int32) (x2 : Int32) (x3 : Int32) (x4 : Int32) (σ : am_S), k3 ox0 x1 x2 x3 x4 σ = some q → am_A p l e (am_ro 4) s m args below meth c 8 G (am_fr G) 0 0 (MQ below (am_Qc G none q) args s 0 0 (am_fr G)) (3, [(0, am_r ox0 40 0), (1, am_i x1), (2, am_i x2), (3, am_i x3), (4, am_i x4)], [], σ)) (hk53 : ∀ (ox0 : Nat) (x1 : Int32) (x2 : Int32) (x3 : Int32) (x4 : Int32) (x5 : Int32) (σ : am_S), k53 ox0 x1 x2 x3 x4 x5 σ = some q → am_A p l e (am_ro 4) s m args below meth c 8 G (am_fr G) 0 0 (MQ below (am_Qc G none q) args s 0 0 (am_fr G)) (53, [(0, am_r ox0 40 0), (1, am_i x1), (2, am_i x2), (3, am_i x3), (4, am_i x4), (5, am_i x5)], [], σ)) (ox0 : Nat) (x1 : Int32) (x2 : Int32) (x3 : Int32) (x4 : Int32) (x5 : Int32) (σ : am_S) (h : lb_X8_findFar_53 k3 k53 ox0 x1 x2 x3 x4 x5 σ = some q) : am_A p l e (am_ro 4) s m args below meth c 8 G (am_fr G) 0 0 (MQ below (am_Qc G none q) args s 0 0 (am_fr G)) (53, [(0, am_r ox0 40 0), (1, am_i x1), (2, am_i x2), (3, am_i x3), (4, am_i x4), (5, am_i x5)], [], σ) := by
  have hc := ct_X8_findFar
  unfold lb_X8_findFar_53 at h
  refine am_blk hc X 26 5 (fr' := (61, [(0, am_r ox0 40 0), (1, am_i x1), (2, am_i x2), (3, am_i x3), (4, am_i x4), (5, am_i x5)], [am_i ((2 : Int32) + (σ.1 ox0 40 0 13)), am_i x5], σ)) rfl ⟨trivial, trivial, trivial, trivial, trivial, trivial⟩ ?_
  refine am_icmp_ge hc X 31 (tgt := 154) rfl (by decide) (fun c29 => ?_) (fun c29 => ?_)
  · replace h := am_ip c29 h
    refine am_blk hc X 80 2 (fr' := (3, [(0, am_r ox0 40 0), (1, am_i x1), (2, am_i x2), (3, am_i x3), (4, am_i (x4 + 1)), (5, am_i x5)], [], σ)) rfl ⟨trivial, trivial, trivial⟩ ?_
    refine am_less [0, 1, 2, 3, 4] rfl ?_
    exact hk3 ox0 x1 x2 x3 (x4 + 1) _ h
  · replace h := am_in2 c29 h
    refine am_blk hc X 32 4 (fr' := (69, [(0, am_r ox0 40 0), (1, am_i x1), (2, am_i x2), (3, am_i x3), (4, am_i x4), (5, am_i x5)], [am_i (x3 + (2 : Int32)), am_i x5], σ)) rfl ⟨trivial, trivial, trivial, trivial, trivial⟩ ?_
    refine am_icmp_ne hc X 36 (tgt := 80) rfl (by decide) (fun c28 => ?_) (fun c28 => ?_)
    · replace h := am_in2 c28 h
      exact jl_X8_findFar_80 X hr k3 k53 hk3 hk53 ox0 x1 x2 x3 x4 x5 _ h
    · replace h := am_ip c28 h
      refine am_blk hc X 37 1 (fr' := (73, [(0, am_r ox0 40 0), (1, am_i x1), (2, am_i x2), (3, am_i x3), (4, am_i x4), (5, am_i x5)], [am_i x3], σ)) rfl ⟨trivial, trivial⟩ ?_
      refine am_if_lt hc X 38 (tgt := 80) rfl (by decide) (fun c27 => ?_) (fun c27 => ?_)
      · replace h := am_ip c27 h
        exact jl_X8_findFar_80 X hr k3 k53 hk3 hk53 ox0 x1 x2 x3 x4 x5 _ h
      · replace h := am_in2 c27 h
        refine am_blk hc X 39 2 (fr' := (88, [(0, am_r ox0 40 0), (1, am_i x1), (2, am_i x2), (3, am_i x3), (4, am_i x4), (5, am_i x5)], [am_i (-1)], σ)) rfl ⟨trivial, trivial, trivial⟩ ?_
        exact jl_X8_findFar_88 X hr k3 k53 hk3 hk53 ox0 x1 x2 x3 x4 x5 (-1) _ h
def lp_X8_findFar_53 (k3 : Nat → Int32 → Int32 → Int32 → Int32 → am_S → Option (am_S)) : Nat → Nat → Int32 → Int32 → Int32 → Int32 → Int32 → am_S → Option (am_S)
  | 0 => fun _ _ _ _ _ _ _ => none
  | n + 1 => lb_X8_findFar_53 k3 (lp_X8_findFar_53 k3 n)
theorem ll_X8_findFar_53 {p : Program} {l : Launch} {e : Env} {s : State} {m : MethodId} {args : Array Value} {below : List Frame} {meth : Method} {c : Code} {G : am_G} {q : am_S} (X : am_X p s m args c cX8_findFar yX8_findFar.cls 8 am_p8 G (am_fr G)) (hr : meth.sig.returnType = none ∧ meth.locks = false)  (k3 : Nat → Int32 → Int32 → Int32 → Int32 → am_S → Option (am_S)) (hk3 : ∀ (ox0 : Nat) (x1 : Int32) (x2 : Int32) (x3 : Int32) (x4 : Int32) (σ : am_S), k3 ox0 x1 x2 x3 x4 σ = some q → am_A p l e (am_ro 4) s m args below meth c 8 G (am_fr G) 0 0 (MQ below (am_Qc G none q) args s 0 0 (am_fr G)) (3, [(0, am_r ox0 40 0), (1, am_i x1), (2, am_i x2), (3, am_i x3), (4, am_i x4)], [], σ)) : ∀ (n : Nat) (ox0 : Nat) (x1 : Int32) (x2 : Int32) (x3 : Int32) (x4 : Int32) (x5 : Int32) (σ : am_S), lp_X8_findFar_53 k3 n ox0 x1 x2 x3 x4 x5 σ = some q → am_A p l e (am_ro 4) s m args below meth c 8 G (am_fr G) 0 0 (MQ below (am_Qc G none q) args s 0 0 (am_fr G)) (53, [(0, am_r ox0 40 0), (1, am_i x1), (2, am_i x2), (3, am_i x3), (4, am_i x4), (5, am_i x5)], [], σ) := by
  intro n
  induction n with
  | zero =>
    intro ox0 x1 x2 x3 x4 x5 σ h
    have h : (none : Option (am_S)) = some q := h
    cases h
  | succ n ih =>
    intro ox0 x1 x2 x3 x4 x5 σ h
    exact lc_X8_findFar_53 X hr k3 (lp_X8_findFar_53 k3 n) hk3 ih ox0 x1 x2 x3 x4 x5 σ h
def jn_X8_findFar_43 (k3 : Nat → Int32 → Int32 → Int32 → Int32 → am_S → Option (am_S)) (k13 : Nat → Int32 → Int32 → Int32 → Int32 → Int32 → am_S → Option (am_S)) (ox0 : Nat) (x1 : Int32) (x2 : Int32) (x3 : Int32) (x4 : Int32) (x5 : Int32) (y0 : Int32) (y1 : Int32) (oy2 : Nat) (iy2 : Nat) (σ : am_S) : Option (am_S) :=
  (bif am_in y1 7 then k13 ox0 x1 x2 x3 x4 (x5 + 1) (am_u σ oy2 65 iy2 ((y1 : Int32).toNatClampNeg) y0) else none)
set_option maxRecDepth 100000 in
theorem jl_X8_findFar_43 {p : Program} {l : Launch} {e : Env} {s : State} {m : MethodId} {args : Array Value} {below : List Frame} {meth : Method} {c : Code} {G : am_G} {q : am_S} (X : am_X p s m args c cX8_findFar yX8_findFar.cls 8 am_p8 G (am_fr G)) (hr : meth.sig.returnType = none ∧ meth.locks = false)  (k3 : Nat → Int32 → Int32 → Int32 → Int32 → am_S → Option (am_S)) (k13 : Nat → Int32 → Int32 → Int32 → Int32 → Int32 → am_S → Option (am_S)) (hk3 : ∀ (ox0 : Nat) (x1 : Int32) (x2 : Int32) (x3 : Int32) (x4 : Int32) (σ : am_S), k3 ox0 x1 x2 x3 x4 σ = some q → am_A p l e (am_ro 4) s m args below meth c 8 G (am_fr G) 0 0 (MQ below (am_Qc G none q) args s 0 0 (am_fr G)) (3, [(0, am_r ox0 40 0), (1, am_i x1), (2, am_i x2), (3, am_i x3), (4, am_i x4)], [], σ)) (hk13 : ∀ (ox0 : Nat) (x1 : Int32) (x2 : Int32) (x3 : Int32) (x4 : Int32) (x5 : Int32) (σ : am_S), k13 ox0 x1 x2 x3 x4 x5 σ = some q → am_A p l e (am_ro 4) s m args below meth c 8 G (am_fr G) 0 0 (MQ below (am_Qc G none q) args s 0 0 (am_fr G)) (13, [(0, am_r ox0 40 0), (1, am_i x1), (2, am_i x2), (3, am_i x3), (4, am_i x4), (5, am_i x5)], [], σ)) (ox0 : Nat) (x1 : Int32) (x2 : Int32) (x3 : Int32) (x4 : Int32) (x5 : Int32) (y0 : Int32) (y1 : Int32) (oy2 : Nat) (iy2 : Nat) (σ : am_S) (h : jn_X8_findFar_43 k3 k13 ox0 x1 x2 x3 x4 x5 y0 y1 oy2 iy2 σ = some q) : am_A p l e (am_ro 4) s m args below meth c 8 G (am_fr G) 0 0 (MQ below (am_Qc G none q) args s 0 0 (am_fr G)) (43, [(0, am_r ox0 40 0), (1, am_i x1), (2, am_i x2), (3, am_i x3), (4, am_i x4), (5, am_i x5)], [am_i y0, am_i y1, am_r oy2 65 iy2], σ) := by
  have hc := ct_X8_findFar
  unfold jn_X8_findFar_43 at h
  obtain ⟨ob31, h⟩ := am_ci h
  refine am_blk hc X 21 3 (fr' := (13, [(0, am_r ox0 40 0), (1, am_i x1), (2, am_i x2), (3, am_i x3), (4, am_i x4), (5, am_i (x5 + 1))], [], (am_u σ oy2 65 iy2 ((y1 : Int32).toNatClampNeg) y0))) rfl ⟨(am_in_vp ob31), trivial, trivial, trivial⟩ ?_
  exact hk13 ox0 x1 x2 x3 x4 (x5 + 1) _ h
def lb_X8_findFar_13 (k3 : Nat → Int32 → Int32 → Int32 → Int32 → am_S → Option (am_S)) (k13 : Nat → Int32 → Int32 → Int32 → Int32 → Int32 → am_S → Option (am_S)) (ox0 : Nat) (x1 : Int32) (x2 : Int32) (x3 : Int32) (x4 : Int32) (x5 : Int32) (σ : am_S) : Option (am_S) :=
  (if 7 ≤ x5 then lp_X8_findFar_53 k3 1000 ox0 x1 x2 x3 x4 0 (σ) else (bif am_in x4 7 then (if x5 = x4 then jn_X8_findFar_43 k3 k13 ox0 x1 x2 x3 x4 x5 0 x5 ox0 ((x4 : Int32).toNatClampNeg) (σ) else jn_X8_findFar_43 k3 k13 ox0 x1 x2 x3 x4 x5 10000000 x5 ox0 ((x4 : Int32).toNatClampNeg) (σ)) else none))
set_option maxRecDepth 100000 in
theorem lc_X8_findFar_13 {p : Program} {l : Launch} {e : Env} {s : State} {m : MethodId} {args : Array Value} {below : List Frame} {meth : Method} {c : Code} {G : am_G} {q : am_S} (X : am_X p s m args c cX8_findFar yX8_findFar.cls 8 am_p8 G (am_fr G)) (hr : meth.sig.returnType = none ∧ meth.locks = false)  (k3 : Nat → Int32 → Int32 → Int32 → Int32 → am_S → Option (am_S)) (k13 : Nat → Int32 → Int32 → Int32 → Int32 → Int32 → am_S → Option (am_S)) (hk3 : ∀ (ox0 : Nat) (x1 : Int32) (x2 : Int32) (x3 : Int32) (x4 : Int32) (σ : am_S), k3 ox0 x1 x2 x3 x4 σ = some q → am_A p l e (am_ro 4) s m args below meth c 8 G (am_fr G) 0 0 (MQ below (am_Qc G none q) args s 0 0 (am_fr G)) (3, [(0, am_r ox0 40 0), (1, am_i x1), (2, am_i x2), (3, am_i x3), (4, am_i x4)], [], σ)) (hk13 : ∀ (ox0 : Nat) (x1 : Int32) (x2 : Int32) (x3 : Int32) (x4 : Int32) (x5 : Int32) (σ : am_S), k13 ox0 x1 x2 x3 x4 x5 σ = some q → am_A p l e (am_ro 4) s m args below meth c 8 G (am_fr G) 0 0 (MQ below (am_Qc G none q) args s 0 0 (am_fr G)) (13, [(0, am_r ox0 40 0), (1, am_i x1), (2, am_i x2), (3, am_i x3), (4, am_i x4), (5, am_i x5)], [], σ)) (ox0 : Nat) (x1 : Int32) (x2 : Int32) (x3 : Int32) (x4 : Int32) (x5 : Int32) (σ : am_S) (h : lb_X8_findFar_13 k3 k13 ox0 x1 x2 x3 x4 x5 σ = some q) : am_A p l e (am_ro 4) s m args below meth c 8 G (am_fr G) 0 0 (MQ below (am_Qc G none q) args s 0 0 (am_fr G)) (13, [(0, am_r ox0 40 0), (1, am_i x1), (2, am_i x2), (3, am_i x3), (4, am_i x4), (5, am_i x5)], [], σ) := by
  have hc := ct_X8_findFar
  unfold lb_X8_findFar_13 at h
  refine am_blk hc X 7 2 (fr' := (17, [(0, am_r ox0 40 0), (1, am_i x1), (2, am_i x2), (3, am_i x3), (4, am_i x4), (5, am_i x5)], [am_i 7, am_i x5], σ)) rfl ⟨trivial, trivial, trivial⟩ ?_
  refine am_icmp_ge hc X 9 (tgt := 50) rfl (by decide) (fun c33 => ?_) (fun c33 => ?_)
  · replace h := am_ip c33 h
    refine am_blk hc X 24 2 (fr' := (53, [(0, am_r ox0 40 0), (1, am_i x1), (2, am_i x2), (3, am_i x3), (4, am_i x4), (5, am_i 0)], [], σ)) rfl ⟨trivial, trivial, trivial⟩ ?_
    exact ll_X8_findFar_53 X hr k3 hk3 1000 ox0 x1 x2 x3 x4 0 _ h
  · replace h := am_in2 c33 h
    obtain ⟨ob30, h⟩ := am_ci h
    refine am_blk hc X 10 7 (fr' := (33, [(0, am_r ox0 40 0), (1, am_i x1), (2, am_i x2), (3, am_i x3), (4, am_i x4), (5, am_i x5)], [am_i x4, am_i x5, am_i x5, am_r ox0 65 ((x4 : Int32).toNatClampNeg)], σ)) rfl ⟨trivial, trivial, trivial, (am_in_vp ob30), trivial, trivial, trivial, trivial⟩ ?_
    refine am_icmp_ne hc X 17 (tgt := 40) rfl (by decide) (fun c32 => ?_) (fun c32 => ?_)
    · replace h := am_in2 c32 h
      refine am_blk hc X 20 1 (fr' := (43, [(0, am_r ox0 40 0), (1, am_i x1), (2, am_i x2), (3, am_i x3), (4, am_i x4), (5, am_i x5)], [am_i 10000000, am_i x5, am_r ox0 65 ((x4 : Int32).toNatClampNeg)], σ)) rfl ⟨trivial, trivial⟩ ?_
      exact jl_X8_findFar_43 X hr k3 k13 hk3 hk13 ox0 x1 x2 x3 x4 x5 10000000 x5 ox0 ((x4 : Int32).toNatClampNeg) _ h
    · replace h := am_ip c32 h
      refine am_blk hc X 18 2 (fr' := (43, [(0, am_r ox0 40 0), (1, am_i x1), (2, am_i x2), (3, am_i x3), (4, am_i x4), (5, am_i x5)], [am_i 0, am_i x5, am_r ox0 65 ((x4 : Int32).toNatClampNeg)], σ)) rfl ⟨trivial, trivial, trivial⟩ ?_
      exact jl_X8_findFar_43 X hr k3 k13 hk3 hk13 ox0 x1 x2 x3 x4 x5 0 x5 ox0 ((x4 : Int32).toNatClampNeg) _ h
def lp_X8_findFar_13 (k3 : Nat → Int32 → Int32 → Int32 → Int32 → am_S → Option (am_S)) : Nat → Nat → Int32 → Int32 → Int32 → Int32 → Int32 → am_S → Option (am_S)
  | 0 => fun _ _ _ _ _ _ _ => none
  | n + 1 => lb_X8_findFar_13 k3 (lp_X8_findFar_13 k3 n)
theorem ll_X8_findFar_13 {p : Program} {l : Launch} {e : Env} {s : State} {m : MethodId} {args : Array Value} {below : List Frame} {meth : Method} {c : Code} {G : am_G} {q : am_S} (X : am_X p s m args c cX8_findFar yX8_findFar.cls 8 am_p8 G (am_fr G)) (hr : meth.sig.returnType = none ∧ meth.locks = false)  (k3 : Nat → Int32 → Int32 → Int32 → Int32 → am_S → Option (am_S)) (hk3 : ∀ (ox0 : Nat) (x1 : Int32) (x2 : Int32) (x3 : Int32) (x4 : Int32) (σ : am_S), k3 ox0 x1 x2 x3 x4 σ = some q → am_A p l e (am_ro 4) s m args below meth c 8 G (am_fr G) 0 0 (MQ below (am_Qc G none q) args s 0 0 (am_fr G)) (3, [(0, am_r ox0 40 0), (1, am_i x1), (2, am_i x2), (3, am_i x3), (4, am_i x4)], [], σ)) : ∀ (n : Nat) (ox0 : Nat) (x1 : Int32) (x2 : Int32) (x3 : Int32) (x4 : Int32) (x5 : Int32) (σ : am_S), lp_X8_findFar_13 k3 n ox0 x1 x2 x3 x4 x5 σ = some q → am_A p l e (am_ro 4) s m args below meth c 8 G (am_fr G) 0 0 (MQ below (am_Qc G none q) args s 0 0 (am_fr G)) (13, [(0, am_r ox0 40 0), (1, am_i x1), (2, am_i x2), (3, am_i x3), (4, am_i x4), (5, am_i x5)], [], σ) := by
  intro n
  induction n with
  | zero =>
    intro ox0 x1 x2 x3 x4 x5 σ h
    have h : (none : Option (am_S)) = some q := h
    cases h
  | succ n ih =>
    intro ox0 x1 x2 x3 x4 x5 σ h
    exact lc_X8_findFar_13 X hr k3 (lp_X8_findFar_13 k3 n) hk3 ih ox0 x1 x2 x3 x4 x5 σ h
def lb_X8_findFar_3 (k3 : Nat → Int32 → Int32 → Int32 → Int32 → am_S → Option (am_S)) (ox0 : Nat) (x1 : Int32) (x2 : Int32) (x3 : Int32) (x4 : Int32) (σ : am_S) : Option (am_S) :=
  (if 7 ≤ x4 then lp_X8_findFar_163  1000 ox0 0 (σ) else lp_X8_findFar_13 k3 1000 ox0 x1 x2 x3 x4 0 (σ))
set_option maxRecDepth 100000 in
theorem lc_X8_findFar_3 {p : Program} {l : Launch} {e : Env} {s : State} {m : MethodId} {args : Array Value} {below : List Frame} {meth : Method} {c : Code} {G : am_G} {q : am_S} (X : am_X p s m args c cX8_findFar yX8_findFar.cls 8 am_p8 G (am_fr G)) (hr : meth.sig.returnType = none ∧ meth.locks = false)  (k3 : Nat → Int32 → Int32 → Int32 → Int32 → am_S → Option (am_S)) (hk3 : ∀ (ox0 : Nat) (x1 : Int32) (x2 : Int32) (x3 : Int32) (x4 : Int32) (σ : am_S), k3 ox0 x1 x2 x3 x4 σ = some q → am_A p l e (am_ro 4) s m args below meth c 8 G (am_fr G) 0 0 (MQ below (am_Qc G none q) args s 0 0 (am_fr G)) (3, [(0, am_r ox0 40 0), (1, am_i x1), (2, am_i x2), (3, am_i x3), (4, am_i x4)], [], σ)) (ox0 : Nat) (x1 : Int32) (x2 : Int32) (x3 : Int32) (x4 : Int32) (σ : am_S) (h : lb_X8_findFar_3 k3 ox0 x1 x2 x3 x4 σ = some q) : am_A p l e (am_ro 4) s m args below meth c 8 G (am_fr G) 0 0 (MQ below (am_Qc G none q) args s 0 0 (am_fr G)) (3, [(0, am_r ox0 40 0), (1, am_i x1), (2, am_i x2), (3, am_i x3), (4, am_i x4)], [], σ) := by
  have hc := ct_X8_findFar
  unfold lb_X8_findFar_3 at h
  refine am_blk hc X 2 2 (fr' := (7, [(0, am_r ox0 40 0), (1, am_i x1), (2, am_i x2), (3, am_i x3), (4, am_i x4)], [am_i 7, am_i x4], σ)) rfl ⟨trivial, trivial, trivial⟩ ?_
  refine am_icmp_ge hc X 4 (tgt := 160) rfl (by decide) (fun c34 => ?_) (fun c34 => ?_)
  · replace h := am_ip c34 h
    refine am_blk hc X 82 2 (fr' := (163, [(0, am_r ox0 40 0), (1, am_i x1), (2, am_i x2), (3, am_i x3), (4, am_i 0)], [], σ)) rfl ⟨trivial, trivial, trivial⟩ ?_
    refine am_less [0, 4] rfl ?_
    exact ll_X8_findFar_163 X hr   1000 ox0 0 _ h
  · replace h := am_in2 c34 h
    refine am_blk hc X 5 2 (fr' := (13, [(0, am_r ox0 40 0), (1, am_i x1), (2, am_i x2), (3, am_i x3), (4, am_i x4), (5, am_i 0)], [], σ)) rfl ⟨trivial, trivial, trivial⟩ ?_
    exact ll_X8_findFar_13 X hr k3 hk3 1000 ox0 x1 x2 x3 x4 0 _ h
def lp_X8_findFar_3  : Nat → Nat → Int32 → Int32 → Int32 → Int32 → am_S → Option (am_S)
  | 0 => fun _ _ _ _ _ _ => none
  | n + 1 => lb_X8_findFar_3  (lp_X8_findFar_3  n)
theorem ll_X8_findFar_3 {p : Program} {l : Launch} {e : Env} {s : State} {m : MethodId} {args : Array Value} {below : List Frame} {meth : Method} {c : Code} {G : am_G} {q : am_S} (X : am_X p s m args c cX8_findFar yX8_findFar.cls 8 am_p8 G (am_fr G)) (hr : meth.sig.returnType = none ∧ meth.locks = false)    : ∀ (n : Nat) (ox0 : Nat) (x1 : Int32) (x2 : Int32) (x3 : Int32) (x4 : Int32) (σ : am_S), lp_X8_findFar_3  n ox0 x1 x2 x3 x4 σ = some q → am_A p l e (am_ro 4) s m args below meth c 8 G (am_fr G) 0 0 (MQ below (am_Qc G none q) args s 0 0 (am_fr G)) (3, [(0, am_r ox0 40 0), (1, am_i x1), (2, am_i x2), (3, am_i x3), (4, am_i x4)], [], σ) := by
  intro n
  induction n with
  | zero =>
    intro ox0 x1 x2 x3 x4 σ h
    have h : (none : Option (am_S)) = some q := h
    cases h
  | succ n ih =>
    intro ox0 x1 x2 x3 x4 σ h
    exact lc_X8_findFar_3 X hr  (lp_X8_findFar_3  n) ih ox0 x1 x2 x3 x4 σ h
def fn_X8_findFar (oa0 : Nat) (a1 : Int32) (a2 : Int32) (a3 : Int32) (σ : am_S) : Option (am_S) :=
  lp_X8_findFar_3  1000 oa0 a1 a2 a3 0 (σ)
set_option maxRecDepth 100000 in
theorem ok_X8_findFar (l : Launch) (oa0 : Nat) (a1 : Int32) (a2 : Int32) (a3 : Int32) (σ : am_S) {q : am_S} (h : fn_X8_findFar oa0 a1 a2 a3 σ = some q) : am_M l yX8_findFar cX8_findFar 8 none 4 [am_r oa0 40 0, am_i a1, am_i a2, am_i a3] σ none q := by
  refine am_M_of (P := am_p8) (by decide +kernel) am_p8_ok rfl ?_
  intro G p e s m args below meth c X hr
  have hc := ct_X8_findFar
  unfold fn_X8_findFar at h
  refine am_blk hc X 0 2 (fr' := (3, [(0, am_r oa0 40 0), (1, am_i a1), (2, am_i a2), (3, am_i a3), (4, am_i 0)], [], σ)) rfl ⟨trivial, trivial, trivial⟩ ?_
  exact ll_X8_findFar_3 X hr   1000 oa0 a1 a2 a3 0 _ h
def lb_X8_copied_65_66_2 (k2 : Nat → Nat → Nat → Int32 → am_S → Option (am_S)) (ox0 : Nat) (ix0 : Nat) (ox1 : Nat) (x2 : Int32) (σ : am_S) : Option (am_S) :=
  (if 7 ≤ x2 then some (σ) else (bif am_in x2 7 then (bif am_in x2 7 then k2 ox0 ix0 ox1 (x2 + 1) (am_u σ ox1 66 0 ((x2 : Int32).toNatClampNeg) (σ.1 ox0 65 ix0 ((x2 : Int32).toNatClampNeg))) else none) else none))
set_option maxRecDepth 100000 in
theorem lc_X8_copied_65_66_2 {p : Program} {l : Launch} {e : Env} {s : State} {m : MethodId} {args : Array Value} {below : List Frame} {meth : Method} {c : Code} {G : am_G} {q : am_S} (X : am_X p s m args c cX8_copied yX8_copied.cls 3 am_p8 G (am_fr G)) (hr : meth.sig.returnType = none ∧ meth.locks = false)  (k2 : Nat → Nat → Nat → Int32 → am_S → Option (am_S)) (hk2 : ∀ (ox0 : Nat) (ix0 : Nat) (ox1 : Nat) (x2 : Int32) (σ : am_S), k2 ox0 ix0 ox1 x2 σ = some q → am_A p l e (am_ro 0) s m args below meth c 3 G (am_fr G) 0 0 (MQ below (am_Qc G none q) args s 0 0 (am_fr G)) (2, [(0, am_r ox0 65 ix0), (1, am_r ox1 66 0), (2, am_i x2)], [], σ)) (ox0 : Nat) (ix0 : Nat) (ox1 : Nat) (x2 : Int32) (σ : am_S) (h : lb_X8_copied_65_66_2 k2 ox0 ix0 ox1 x2 σ = some q) : am_A p l e (am_ro 0) s m args below meth c 3 G (am_fr G) 0 0 (MQ below (am_Qc G none q) args s 0 0 (am_fr G)) (2, [(0, am_r ox0 65 ix0), (1, am_r ox1 66 0), (2, am_i x2)], [], σ) := by
  have hc := ct_X8_copied
  unfold lb_X8_copied_65_66_2 at h
  refine am_blk hc X 2 3 (fr' := (5, [(0, am_r ox0 65 ix0), (1, am_r ox1 66 0), (2, am_i x2)], [am_i 7, am_i x2], σ)) rfl ⟨trivial, trivial, trivial, trivial⟩ ?_
  refine am_icmp_ge hc X 5 (tgt := 20) rfl (by decide) (fun c3 => ?_) (fun c3 => ?_)
  · replace h := am_ip c3 h
    obtain rfl := Option.some.inj h
    exact am_vret hc X hr 14 rfl rfl rfl
  · replace h := am_in2 c3 h
    obtain ⟨ob1, h⟩ := am_ci h
    obtain ⟨ob2, h⟩ := am_ci h
    refine am_blk hc X 6 8 (fr' := (2, [(0, am_r ox0 65 ix0), (1, am_r ox1 66 0), (2, am_i (x2 + 1))], [], (am_u σ ox1 66 0 ((x2 : Int32).toNatClampNeg) (σ.1 ox0 65 ix0 ((x2 : Int32).toNatClampNeg))))) rfl ⟨trivial, trivial, trivial, trivial, (am_in_vp ob1), (am_in_vp ob2), trivial, trivial, trivial⟩ ?_
    exact hk2 ox0 ix0 ox1 (x2 + 1) _ h
def lp_X8_copied_65_66_2  : Nat → Nat → Nat → Nat → Int32 → am_S → Option (am_S)
  | 0 => fun _ _ _ _ _ => none
  | n + 1 => lb_X8_copied_65_66_2  (lp_X8_copied_65_66_2  n)
theorem ll_X8_copied_65_66_2 {p : Program} {l : Launch} {e : Env} {s : State} {m : MethodId} {args : Array Value} {below : List Frame} {meth : Method} {c : Code} {G : am_G} {q : am_S} (X : am_X p s m args c cX8_copied yX8_copied.cls 3 am_p8 G (am_fr G)) (hr : meth.sig.returnType = none ∧ meth.locks = false)    : ∀ (n : Nat) (ox0 : Nat) (ix0 : Nat) (ox1 : Nat) (x2 : Int32) (σ : am_S), lp_X8_copied_65_66_2  n ox0 ix0 ox1 x2 σ = some q → am_A p l e (am_ro 0) s m args below meth c 3 G (am_fr G) 0 0 (MQ below (am_Qc G none q) args s 0 0 (am_fr G)) (2, [(0, am_r ox0 65 ix0), (1, am_r ox1 66 0), (2, am_i x2)], [], σ) := by
  intro n
  induction n with
  | zero =>
    intro ox0 ix0 ox1 x2 σ h
    have h : (none : Option (am_S)) = some q := h
    cases h
  | succ n ih =>
    intro ox0 ix0 ox1 x2 σ h
    exact lc_X8_copied_65_66_2 X hr  (lp_X8_copied_65_66_2  n) ih ox0 ix0 ox1 x2 σ h
def fn_X8_copied_65_66 (oa0 : Nat) (ia0 : Nat) (oa1 : Nat) (σ : am_S) : Option (am_S) :=
  lp_X8_copied_65_66_2  1000 oa0 ia0 oa1 0 (σ)
set_option maxRecDepth 100000 in
theorem ok_X8_copied_65_66 (l : Launch) (oa0 : Nat) (ia0 : Nat) (oa1 : Nat) (σ : am_S) {q : am_S} (h : fn_X8_copied_65_66 oa0 ia0 oa1 σ = some q) : am_M l yX8_copied cX8_copied 3 none 0 [am_r oa0 65 ia0, am_r oa1 66 0] σ none q := by
  refine am_M_of (P := am_p8) (by decide +kernel) am_p8_ok rfl ?_
  intro G p e s m args below meth c X hr
  have hc := ct_X8_copied
  unfold fn_X8_copied_65_66 at h
  refine am_blk hc X 0 2 (fr' := (2, [(0, am_r oa0 65 ia0), (1, am_r oa1 66 0), (2, am_i 0)], [], σ)) rfl ⟨trivial, trivial, trivial⟩ ?_
  exact ll_X8_copied_65_66_2 X hr   1000 oa0 ia0 oa1 0 _ h
def jn_X8_alike_21  (ox0 : Nat) (σ : am_S) : Option (Int32 × am_S) :=
  (fn_X8_refuse ox0 (-2) (σ)).bind fun q3 => some (q3.1, q3.2)
set_option maxRecDepth 100000 in
theorem jl_X8_alike_21 {p : Program} {l : Launch} {e : Env} {s : State} {m : MethodId} {args : Array Value} {below : List Frame} {meth : Method} {c : Code} {G : am_G} {q : Int32 × am_S} (X : am_X p s m args c cX8_alike yX8_alike.cls 5 am_p8 G (am_fr G)) (hr : meth.sig.returnType = (some .int) ∧ meth.locks = false)    (ox0 : Nat) (σ : am_S) (h : jn_X8_alike_21  ox0 σ = some q) : am_A p l e (am_ro 5) s m args below meth c 5 G (am_fr G) 0 0 (MQ below (am_Qc G (some (am_i q.1)) q.2) args s 0 0 (am_fr G)) (21, [(0, am_r ox0 40 0)], [], σ) := by
  have hc := ct_X8_alike
  unfold jn_X8_alike_21 at h
  refine am_blk hc X 11 2 (fr' := (24, [(0, am_r ox0 40 0)], [am_i (-2), am_r ox0 40 0], σ)) rfl ⟨trivial, trivial, trivial⟩ ?_
  obtain ⟨q3, hq4, h⟩ := am_bs h
  refine am_callV hc 13 X (k := 40) (i := 0) (o := ox0) (As := [am_i (-2)]) (rest := []) rfl (ok_X8_refuse l ox0 (-2) (σ) hq4) yv_X8_refuse ml_X8_129 (cl_40) rfl rfl rfl rfl rfl ?_
  obtain rfl := Option.some.inj h
  exact am_iret hc X hr 14 rfl rfl rfl
def jn_X8_alike_105 (k65 : Nat → Int32 → Int32 → Int32 → am_S → Option (Int32 × am_S)) (ox0 : Nat) (x2 : Int32) (x4 : Int32) (y0 : Int32) (y1 : Int32) (σ : am_S) : Option (Int32 × am_S) :=
  k65 ox0 x2 (y1 ||| y0) (x4 + 1) (σ)
set_option maxRecDepth 100000 in
theorem jl_X8_alike_105 {p : Program} {l : Launch} {e : Env} {s : State} {m : MethodId} {args : Array Value} {below : List Frame} {meth : Method} {c : Code} {G : am_G} {q : Int32 × am_S} (X : am_X p s m args c cX8_alike yX8_alike.cls 5 am_p8 G (am_fr G)) (hr : meth.sig.returnType = (some .int) ∧ meth.locks = false)  (k65 : Nat → Int32 → Int32 → Int32 → am_S → Option (Int32 × am_S)) (hk65 : ∀ (ox0 : Nat) (x2 : Int32) (x3 : Int32) (x4 : Int32) (σ : am_S), k65 ox0 x2 x3 x4 σ = some q → am_A p l e (am_ro 5) s m args below meth c 5 G (am_fr G) 0 0 (MQ below (am_Qc G (some (am_i q.1)) q.2) args s 0 0 (am_fr G)) (65, [(0, am_r ox0 40 0), (2, am_i x2), (3, am_i x3), (4, am_i x4)], [], σ)) (ox0 : Nat) (x2 : Int32) (x4 : Int32) (y0 : Int32) (y1 : Int32) (σ : am_S) (h : jn_X8_alike_105 k65 ox0 x2 x4 y0 y1 σ = some q) : am_A p l e (am_ro 5) s m args below meth c 5 G (am_fr G) 0 0 (MQ below (am_Qc G (some (am_i q.1)) q.2) args s 0 0 (am_fr G)) (105, [(0, am_r ox0 40 0), (2, am_i x2), (4, am_i x4)], [am_i y0, am_i y1], σ) := by
  have hc := ct_X8_alike
  unfold jn_X8_alike_105 at h
  refine am_blk hc X 62 4 (fr' := (65, [(0, am_r ox0 40 0), (2, am_i x2), (3, am_i (y1 ||| y0)), (4, am_i (x4 + 1))], [], σ)) rfl ⟨trivial, trivial, trivial, trivial, trivial⟩ ?_
  exact hk65 ox0 x2 (y1 ||| y0) (x4 + 1) _ h
def lb_X8_alike_65 (k65 : Nat → Int32 → Int32 → Int32 → am_S → Option (Int32 × am_S)) (ox0 : Nat) (x2 : Int32) (x3 : Int32) (x4 : Int32) (σ : am_S) : Option (Int32 × am_S) :=
  (if 7 ≤ x4 then some (x3, σ) else (bif am_in x2 6 then (bif am_in (σ.1 ox0 58 0 ((x2 : Int32).toNatClampNeg)) 7 then (bif am_in x4 7 then (bif am_in x4 7 then (if (σ.1 ox0 65 (((σ.1 ox0 58 0 ((x2 : Int32).toNatClampNeg)) : Int32).toNatClampNeg) ((x4 : Int32).toNatClampNeg)) = (σ.1 ox0 66 0 ((x4 : Int32).toNatClampNeg)) then jn_X8_alike_105 k65 ox0 x2 x4 ((1 : Int32) <<< (x4 &&& 31)) x3 (σ) else jn_X8_alike_105 k65 ox0 x2 x4 0 x3 (σ)) else none) else none) else none) else none))
set_option maxRecDepth 100000 in
theorem lc_X8_alike_65 {p : Program} {l : Launch} {e : Env} {s : State} {m : MethodId} {args : Array Value} {below : List Frame} {meth : Method} {c : Code} {G : am_G} {q : Int32 × am_S} (X : am_X p s m args c cX8_alike yX8_alike.cls 5 am_p8 G (am_fr G)) (hr : meth.sig.returnType = (some .int) ∧ meth.locks = false)  (k65 : Nat → Int32 → Int32 → Int32 → am_S → Option (Int32 × am_S)) (hk65 : ∀ (ox0 : Nat) (x2 : Int32) (x3 : Int32) (x4 : Int32) (σ : am_S), k65 ox0 x2 x3 x4 σ = some q → am_A p l e (am_ro 5) s m args below meth c 5 G (am_fr G) 0 0 (MQ below (am_Qc G (some (am_i q.1)) q.2) args s 0 0 (am_fr G)) (65, [(0, am_r ox0 40 0), (2, am_i x2), (3, am_i x3), (4, am_i x4)], [], σ)) (ox0 : Nat) (x2 : Int32) (x3 : Int32) (x4 : Int32) (σ : am_S) (h : lb_X8_alike_65 k65 ox0 x2 x3 x4 σ = some q) : am_A p l e (am_ro 5) s m args below meth c 5 G (am_fr G) 0 0 (MQ below (am_Qc G (some (am_i q.1)) q.2) args s 0 0 (am_fr G)) (65, [(0, am_r ox0 40 0), (2, am_i x2), (3, am_i x3), (4, am_i x4)], [], σ) := by
  have hc := ct_X8_alike
  unfold lb_X8_alike_65 at h
  refine am_blk hc X 39 2 (fr' := (69, [(0, am_r ox0 40 0), (2, am_i x2), (3, am_i x3), (4, am_i x4)], [am_i 7, am_i x4], σ)) rfl ⟨trivial, trivial, trivial⟩ ?_
  refine am_icmp_ge hc X 41 (tgt := 113) rfl (by decide) (fun c20 => ?_) (fun c20 => ?_)
  · replace h := am_ip c20 h
    refine am_blk hc X 66 1 (fr' := (114, [(0, am_r ox0 40 0), (2, am_i x2), (3, am_i x3), (4, am_i x4)], [am_i x3], σ)) rfl ⟨trivial, trivial⟩ ?_
    obtain rfl := Option.some.inj h
    exact am_iret hc X hr 67 rfl rfl rfl
  · replace h := am_in2 c20 h
    obtain ⟨ob15, h⟩ := am_ci h
    obtain ⟨ob16, h⟩ := am_ci h
    obtain ⟨ob17, h⟩ := am_ci h
    obtain ⟨ob18, h⟩ := am_ci h
    refine am_blk hc X 42 14 (fr' := (94, [(0, am_r ox0 40 0), (2, am_i x2), (3, am_i x3), (4, am_i x4)], [am_i (σ.1 ox0 66 0 ((x4 : Int32).toNatClampNeg)), am_i (σ.1 ox0 65 (((σ.1 ox0 58 0 ((x2 : Int32).toNatClampNeg)) : Int32).toNatClampNeg) ((x4 : Int32).toNatClampNeg)), am_i x3], σ)) rfl ⟨trivial, trivial, trivial, trivial, trivial, trivial, (am_in_vp ob15), (am_in_vp ob16), trivial, (am_in_vp ob17), trivial, trivial, trivial, (am_in_vp ob18), trivial⟩ ?_
    refine am_icmp_ne hc X 56 (tgt := 104) rfl (by decide) (fun c19 => ?_) (fun c19 => ?_)
    · replace h := am_in2 c19 h
      refine am_blk hc X 61 1 (fr' := (105, [(0, am_r ox0 40 0), (2, am_i x2), (3, am_i x3), (4, am_i x4)], [am_i 0, am_i x3], σ)) rfl ⟨trivial, trivial⟩ ?_
      refine am_less [0, 1, 3] rfl ?_
      exact jl_X8_alike_105 X hr k65 hk65 ox0 x2 x4 0 x3 _ h
    · replace h := am_ip c19 h
      refine am_blk hc X 57 4 (fr' := (105, [(0, am_r ox0 40 0), (2, am_i x2), (3, am_i x3), (4, am_i x4)], [am_i ((1 : Int32) <<< (x4 &&& 31)), am_i x3], σ)) rfl ⟨trivial, trivial, trivial, trivial, trivial⟩ ?_
      refine am_less [0, 1, 3] rfl ?_
      exact jl_X8_alike_105 X hr k65 hk65 ox0 x2 x4 ((1 : Int32) <<< (x4 &&& 31)) x3 _ h
def lp_X8_alike_65  : Nat → Nat → Int32 → Int32 → Int32 → am_S → Option (Int32 × am_S)
  | 0 => fun _ _ _ _ _ => none
  | n + 1 => lb_X8_alike_65  (lp_X8_alike_65  n)
theorem ll_X8_alike_65 {p : Program} {l : Launch} {e : Env} {s : State} {m : MethodId} {args : Array Value} {below : List Frame} {meth : Method} {c : Code} {G : am_G} {q : Int32 × am_S} (X : am_X p s m args c cX8_alike yX8_alike.cls 5 am_p8 G (am_fr G)) (hr : meth.sig.returnType = (some .int) ∧ meth.locks = false)    : ∀ (n : Nat) (ox0 : Nat) (x2 : Int32) (x3 : Int32) (x4 : Int32) (σ : am_S), lp_X8_alike_65  n ox0 x2 x3 x4 σ = some q → am_A p l e (am_ro 5) s m args below meth c 5 G (am_fr G) 0 0 (MQ below (am_Qc G (some (am_i q.1)) q.2) args s 0 0 (am_fr G)) (65, [(0, am_r ox0 40 0), (2, am_i x2), (3, am_i x3), (4, am_i x4)], [], σ) := by
  intro n
  induction n with
  | zero =>
    intro ox0 x2 x3 x4 σ h
    have h : (none : Option (Int32 × am_S)) = some q := h
    cases h
  | succ n ih =>
    intro ox0 x2 x3 x4 σ h
    exact lc_X8_alike_65 X hr  (lp_X8_alike_65  n) ih ox0 x2 x3 x4 σ h
def fn_X8_alike (oa0 : Nat) (a1 : Int32) (a2 : Int32) (σ : am_S) : Option (Int32 × am_S) :=
  (fn_X8_isOne oa0 a1 (σ)).bind fun q1 => (if q1.1 = 0 then jn_X8_alike_21  oa0 q1.2 else (fn_X8_isOne oa0 a2 q1.2).bind fun q5 => (if q5.1 = 0 then jn_X8_alike_21  oa0 q5.2 else (if a1 = a2 then jn_X8_alike_21  oa0 q5.2 else (fn_X8_findFar oa0 a1 0 (-1) q5.2).bind fun q7 => (bif am_in a1 6 then (bif am_in (q7.1 oa0 58 0 ((a1 : Int32).toNatClampNeg)) 7 then (fn_X8_copied_65_66 oa0 (((q7.1 oa0 58 0 ((a1 : Int32).toNatClampNeg)) : Int32).toNatClampNeg) oa0 q7).bind fun q11 => (fn_X8_findFar oa0 a2 0 (-1) q11).bind fun q13 => lp_X8_alike_65  1000 oa0 a2 0 0 q13 else none) else none))))
set_option maxRecDepth 100000 in
theorem ok_X8_alike (l : Launch) (oa0 : Nat) (a1 : Int32) (a2 : Int32) (σ : am_S) {q : Int32 × am_S} (h : fn_X8_alike oa0 a1 a2 σ = some q) : am_M l yX8_alike cX8_alike 5 (some .int) 5 [am_r oa0 40 0, am_i a1, am_i a2] σ (some (am_i q.1)) q.2 := by
  refine am_M_of (P := am_p8) (by decide +kernel) am_p8_ok rfl ?_
  intro G p e s m args below meth c X hr
  have hc := ct_X8_alike
  unfold fn_X8_alike at h
  refine am_blk hc X 0 2 (fr' := (2, [(0, am_r oa0 40 0), (1, am_i a1), (2, am_i a2)], [am_i a1, am_r oa0 40 0], σ)) rfl ⟨trivial, trivial, trivial⟩ ?_
  obtain ⟨q1, hq2, h⟩ := am_bs h
  refine am_callV hc 2 X (k := 40) (i := 0) (o := oa0) (As := [am_i a1]) (rest := []) rfl (ok_X8_isOne l oa0 a1 (σ) hq2) yv_X8_isOne ml_X8_140 (cl_40) rfl rfl rfl rfl rfl ?_
  refine am_if_eq hc X 3 (tgt := 21) rfl (by decide) (fun c23 => ?_) (fun c23 => ?_)
  · replace h := am_ip c23 h
    refine am_less [0] rfl ?_
    exact jl_X8_alike_21 X hr   oa0 _ h
  · replace h := am_in2 c23 h
    refine am_blk hc X 4 2 (fr' := (10, [(0, am_r oa0 40 0), (1, am_i a1), (2, am_i a2)], [am_i a2, am_r oa0 40 0], q1.2)) rfl ⟨trivial, trivial, trivial⟩ ?_
    obtain ⟨q5, hq6, h⟩ := am_bs h
    refine am_callV hc 6 X (k := 40) (i := 0) (o := oa0) (As := [am_i a2]) (rest := []) rfl (ok_X8_isOne l oa0 a2 q1.2 hq6) yv_X8_isOne ml_X8_140 (cl_40) rfl rfl rfl rfl rfl ?_
    refine am_if_eq hc X 7 (tgt := 21) rfl (by decide) (fun c22 => ?_) (fun c22 => ?_)
    · replace h := am_ip c22 h
      refine am_less [0] rfl ?_
      exact jl_X8_alike_21 X hr   oa0 _ h
    · replace h := am_in2 c22 h
      refine am_blk hc X 8 2 (fr' := (18, [(0, am_r oa0 40 0), (1, am_i a1), (2, am_i a2)], [am_i a2, am_i a1], q5.2)) rfl ⟨trivial, trivial, trivial⟩ ?_
      refine am_icmp_ne hc X 10 (tgt := 28) rfl (by decide) (fun c21 => ?_) (fun c21 => ?_)
      · replace h := am_in2 c21 h
        refine am_blk hc X 15 4 (fr' := (32, [(0, am_r oa0 40 0), (1, am_i a1), (2, am_i a2)], [am_i (-1), am_i 0, am_i a1, am_r oa0 40 0], q5.2)) rfl ⟨trivial, trivial, trivial, trivial, trivial⟩ ?_
        obtain ⟨q7, hq8, h⟩ := am_bs h
        refine am_callV hc 19 X (k := 40) (i := 0) (o := oa0) (As := [am_i a1, am_i 0, am_i (-1)]) (rest := []) rfl (ok_X8_findFar l oa0 a1 0 (-1) q5.2 hq8) yv_X8_findFar ml_X8_304 (cl_40) rfl rfl rfl rfl rfl ?_
        obtain ⟨ob9, h⟩ := am_ci h
        obtain ⟨ob10, h⟩ := am_ci h
        refine am_blk hc X 20 9 (fr' := (50, [(0, am_r oa0 40 0), (1, am_i a1), (2, am_i a2)], [am_r oa0 66 0, am_r oa0 65 (((q7.1 oa0 58 0 ((a1 : Int32).toNatClampNeg)) : Int32).toNatClampNeg)], q7)) rfl ⟨trivial, trivial, trivial, trivial, trivial, (am_in_vp ob9), (am_in_vp ob10), trivial, trivial, trivial⟩ ?_
        obtain ⟨q11, hq12, h⟩ := am_bs h
        refine am_callS hc 29 X (As := [am_r oa0 65 (((q7.1 oa0 58 0 ((a1 : Int32).toNatClampNeg)) : Int32).toNatClampNeg), am_r oa0 66 0]) (rest := []) rfl (ok_X8_copied_65_66 l oa0 (((q7.1 oa0 58 0 ((a1 : Int32).toNatClampNeg)) : Int32).toNatClampNeg) oa0 q7 hq12) yv_X8_copied ml_X8_307 rfl rfl rfl rfl rfl ?_
        refine am_blk hc X 30 4 (fr' := (57, [(0, am_r oa0 40 0), (1, am_i a1), (2, am_i a2)], [am_i (-1), am_i 0, am_i a2, am_r oa0 40 0], q11)) rfl ⟨trivial, trivial, trivial, trivial, trivial⟩ ?_
        obtain ⟨q13, hq14, h⟩ := am_bs h
        refine am_callV hc 34 X (k := 40) (i := 0) (o := oa0) (As := [am_i a2, am_i 0, am_i (-1)]) (rest := []) rfl (ok_X8_findFar l oa0 a2 0 (-1) q11 hq14) yv_X8_findFar ml_X8_304 (cl_40) rfl rfl rfl rfl rfl ?_
        refine am_blk hc X 35 4 (fr' := (65, [(0, am_r oa0 40 0), (1, am_i a1), (2, am_i a2), (3, am_i 0), (4, am_i 0)], [], q13)) rfl ⟨trivial, trivial, trivial, trivial, trivial⟩ ?_
        refine am_less [0, 2, 3, 4] rfl ?_
        exact ll_X8_alike_65 X hr   1000 oa0 a2 0 0 _ h
      · replace h := am_ip c21 h
        refine am_less [0] rfl ?_
        exact jl_X8_alike_21 X hr   oa0 _ h
def fn_X8_isValley (a0 : Int64) (σ : am_S) : Option (Int32 × am_S) :=
  (fn_X8_in a0 0 6 (σ)).bind fun q1 => (if q1.1 = 0 ∨ q1.1 = 1 then some (q1.1, q1.2) else none)
set_option maxRecDepth 100000 in
theorem ok_X8_isValley (l : Launch) (a0 : Int64) (σ : am_S) {q : Int32 × am_S} (h : fn_X8_isValley a0 σ = some q) : am_M l yX8_isValley cX8_isValley 2 (some .boolean) 1 [am_l a0] σ (some (am_i q.1)) q.2 := by
  refine am_M_of (P := am_p8) (by decide +kernel) am_p8_ok rfl ?_
  intro G p e s m args below meth c X hr
  have hc := ct_X8_isValley
  unfold fn_X8_isValley at h
  refine am_blk hc X 0 3 (fr' := (5, [(0, am_l a0)], [am_l 6, am_l 0, am_l a0], σ)) rfl ⟨trivial, trivial, trivial, trivial⟩ ?_
  obtain ⟨q1, hq2, h⟩ := am_bs h
  refine am_callS hc 3 X (As := [am_l a0, am_l 0, am_l 6]) (rest := []) rfl (ok_X8_in l a0 0 6 (σ) hq2) yv_X8_in ml_X8_117 rfl rfl rfl rfl rfl ?_
  obtain ⟨ob3, h⟩ := am_ct2 h
  obtain rfl := Option.some.inj h
  exact am_zret hc X hr 4 rfl ob3 rfl rfl
def jn_X8_ask_84  (ox0 : Nat) (x1 : Int32) (x2 : Int32) (x3 : Int32) (y0 : Int32) (σ : am_S) : Option (Int32 × am_S) :=
  (if y0 = 0 then (fn_X8_refuse ox0 (-2) (σ)).bind fun q12 => some (q12.1, q12.2) else (if x2 = 0 then (bif am_in x1 7 then (bif am_in x1 7 then some ((σ.1 ox0 50 0 ((x1 : Int32).toNatClampNeg)), (am_u σ ox0 50 0 ((x1 : Int32).toNatClampNeg) x3)) else none) else none) else (if x2 = 1 then (bif am_in x1 7 then (bif am_in x1 7 then some ((σ.1 ox0 51 0 ((x1 : Int32).toNatClampNeg)), (am_u σ ox0 51 0 ((x1 : Int32).toNatClampNeg) x3)) else none) else none) else (if x2 = 2 then (bif am_in x1 7 then (bif am_in x1 7 then some ((σ.1 ox0 52 0 ((x1 : Int32).toNatClampNeg)), (am_u σ ox0 52 0 ((x1 : Int32).toNatClampNeg) x3)) else none) else none) else some ((σ.1 ox0 40 0 12), (am_u σ ox0 40 0 12 x3))))))
set_option maxRecDepth 100000 in
theorem jl_X8_ask_84 {p : Program} {l : Launch} {e : Env} {s : State} {m : MethodId} {args : Array Value} {below : List Frame} {meth : Method} {c : Code} {G : am_G} {q : Int32 × am_S} (X : am_X p s m args c cX8_ask yX8_ask.cls 6 am_p8 G (am_fr G)) (hr : meth.sig.returnType = (some .int) ∧ meth.locks = false)    (ox0 : Nat) (x1 : Int32) (x2 : Int32) (x3 : Int32) (y0 : Int32) (σ : am_S) (h : jn_X8_ask_84  ox0 x1 x2 x3 y0 σ = some q) : am_A p l e (am_ro 2) s m args below meth c 6 G (am_fr G) 0 0 (MQ below (am_Qc G (some (am_i q.1)) q.2) args s 0 0 (am_fr G)) (84, [(0, am_r ox0 40 0), (1, am_i x1), (2, am_i x2), (3, am_i x3)], [am_i y0], σ) := by
  have hc := ct_X8_ask
  unfold jn_X8_ask_84 at h
  refine am_blk hc X 44 2 (fr' := (88, [(0, am_r ox0 40 0), (1, am_i x1), (2, am_i x2), (3, am_i x3), (4, am_i y0)], [am_i y0], σ)) rfl ⟨trivial, trivial, trivial⟩ ?_
  refine am_if_ne hc X 46 (tgt := 98) rfl (by decide) (fun c14 => ?_) (fun c14 => ?_)
  · replace h := am_in2 c14 h
    refine am_blk hc X 51 1 (fr' := (99, [(0, am_r ox0 40 0), (1, am_i x1), (2, am_i x2), (3, am_i x3), (4, am_i y0)], [am_i x2], σ)) rfl ⟨trivial, trivial⟩ ?_
    by_cases c3 : x2 = 0
    · replace h := am_ip c3 h
      refine am_tin hc X 52 (tgt := 124) (off := 25) rfl (by rw [c3]; decide) (by rw [c3]; decide) (by rw [c3]; rfl) (by decide) ?_
      obtain ⟨ob10, h⟩ := am_ci h
      obtain ⟨ob11, h⟩ := am_ci h
      refine am_blk hc X 53 11 (fr' := (189, [(0, am_r ox0 40 0), (1, am_i x1), (2, am_i x2), (3, am_i x3), (4, am_i y0), (5, am_i (σ.1 ox0 50 0 ((x1 : Int32).toNatClampNeg)))], [], (am_u σ ox0 50 0 ((x1 : Int32).toNatClampNeg) x3))) rfl ⟨trivial, trivial, trivial, (am_in_vp ob10), trivial, trivial, trivial, trivial, trivial, (am_in_vp ob11), trivial, trivial⟩ ?_
      refine am_blk hc X 92 1 (fr' := (191, [(0, am_r ox0 40 0), (1, am_i x1), (2, am_i x2), (3, am_i x3), (4, am_i y0), (5, am_i (σ.1 ox0 50 0 ((x1 : Int32).toNatClampNeg)))], [am_i (σ.1 ox0 50 0 ((x1 : Int32).toNatClampNeg))], (am_u σ ox0 50 0 ((x1 : Int32).toNatClampNeg) x3))) rfl ⟨trivial, trivial⟩ ?_
      obtain rfl := Option.some.inj h
      exact am_iret hc X hr 93 rfl rfl rfl
    · replace h := am_in2 c3 h
      by_cases c4 : x2 = 1
      · replace h := am_ip c4 h
        refine am_tin hc X 52 (tgt := 142) (off := 43) rfl (by rw [c4]; decide) (by rw [c4]; decide) (by rw [c4]; rfl) (by decide) ?_
        obtain ⟨ob8, h⟩ := am_ci h
        obtain ⟨ob9, h⟩ := am_ci h
        refine am_blk hc X 64 11 (fr' := (189, [(0, am_r ox0 40 0), (1, am_i x1), (2, am_i x2), (3, am_i x3), (4, am_i y0), (5, am_i (σ.1 ox0 51 0 ((x1 : Int32).toNatClampNeg)))], [], (am_u σ ox0 51 0 ((x1 : Int32).toNatClampNeg) x3))) rfl ⟨trivial, trivial, trivial, (am_in_vp ob8), trivial, trivial, trivial, trivial, trivial, (am_in_vp ob9), trivial, trivial⟩ ?_
        refine am_blk hc X 92 1 (fr' := (191, [(0, am_r ox0 40 0), (1, am_i x1), (2, am_i x2), (3, am_i x3), (4, am_i y0), (5, am_i (σ.1 ox0 51 0 ((x1 : Int32).toNatClampNeg)))], [am_i (σ.1 ox0 51 0 ((x1 : Int32).toNatClampNeg))], (am_u σ ox0 51 0 ((x1 : Int32).toNatClampNeg) x3))) rfl ⟨trivial, trivial⟩ ?_
        obtain rfl := Option.some.inj h
        exact am_iret hc X hr 93 rfl rfl rfl
      · replace h := am_in2 c4 h
        by_cases c5 : x2 = 2
        · replace h := am_ip c5 h
          refine am_tin hc X 52 (tgt := 160) (off := 61) rfl (by rw [c5]; decide) (by rw [c5]; decide) (by rw [c5]; rfl) (by decide) ?_
          obtain ⟨ob6, h⟩ := am_ci h
          obtain ⟨ob7, h⟩ := am_ci h
          refine am_blk hc X 75 11 (fr' := (189, [(0, am_r ox0 40 0), (1, am_i x1), (2, am_i x2), (3, am_i x3), (4, am_i y0), (5, am_i (σ.1 ox0 52 0 ((x1 : Int32).toNatClampNeg)))], [], (am_u σ ox0 52 0 ((x1 : Int32).toNatClampNeg) x3))) rfl ⟨trivial, trivial, trivial, (am_in_vp ob6), trivial, trivial, trivial, trivial, trivial, (am_in_vp ob7), trivial, trivial⟩ ?_
          refine am_blk hc X 92 1 (fr' := (191, [(0, am_r ox0 40 0), (1, am_i x1), (2, am_i x2), (3, am_i x3), (4, am_i y0), (5, am_i (σ.1 ox0 52 0 ((x1 : Int32).toNatClampNeg)))], [am_i (σ.1 ox0 52 0 ((x1 : Int32).toNatClampNeg))], (am_u σ ox0 52 0 ((x1 : Int32).toNatClampNeg) x3))) rfl ⟨trivial, trivial⟩ ?_
          obtain rfl := Option.some.inj h
          exact am_iret hc X hr 93 rfl rfl rfl
        · replace h := am_in2 c5 h
          refine am_tout hc X 52 (tgt := 178) rfl (am_sw 0 2 (fun z h1 h2 => ?_)) (by decide) ?_
          · rcases (show z = 0 ∨ z = 1 ∨ z = 2 by omega) with rfl | rfl | rfl
            · exact lv_neT c3 rfl
            · exact lv_neT c4 rfl
            · exact lv_neT c5 rfl
          · refine am_blk hc X 86 7 (fr' := (191, [(0, am_r ox0 40 0), (1, am_i x1), (2, am_i x2), (3, am_i x3), (4, am_i y0), (5, am_i (σ.1 ox0 40 0 12))], [am_i (σ.1 ox0 40 0 12)], (am_u σ ox0 40 0 12 x3))) rfl ⟨trivial, trivial, trivial, trivial, trivial, trivial, trivial, trivial⟩ ?_
            obtain rfl := Option.some.inj h
            exact am_iret hc X hr 93 rfl rfl rfl
  · replace h := am_ip c14 h
    refine am_blk hc X 47 2 (fr' := (94, [(0, am_r ox0 40 0), (1, am_i x1), (2, am_i x2), (3, am_i x3), (4, am_i y0)], [am_i (-2), am_r ox0 40 0], σ)) rfl ⟨trivial, trivial, trivial⟩ ?_
    obtain ⟨q12, hq13, h⟩ := am_bs h
    refine am_callV hc 49 X (k := 40) (i := 0) (o := ox0) (As := [am_i (-2)]) (rest := []) rfl (ok_X8_refuse l ox0 (-2) (σ) hq13) yv_X8_refuse ml_X8_129 (cl_40) rfl rfl rfl rfl rfl ?_
    obtain rfl := Option.some.inj h
    exact am_iret hc X hr 50 rfl rfl rfl
def jn_X8_ask_83  (ox0 : Nat) (x1 : Int32) (x2 : Int32) (x3 : Int32) (σ : am_S) : Option (Int32 × am_S) :=
  jn_X8_ask_84  ox0 x1 x2 x3 0 (σ)
set_option maxRecDepth 100000 in
theorem jl_X8_ask_83 {p : Program} {l : Launch} {e : Env} {s : State} {m : MethodId} {args : Array Value} {below : List Frame} {meth : Method} {c : Code} {G : am_G} {q : Int32 × am_S} (X : am_X p s m args c cX8_ask yX8_ask.cls 6 am_p8 G (am_fr G)) (hr : meth.sig.returnType = (some .int) ∧ meth.locks = false)    (ox0 : Nat) (x1 : Int32) (x2 : Int32) (x3 : Int32) (σ : am_S) (h : jn_X8_ask_83  ox0 x1 x2 x3 σ = some q) : am_A p l e (am_ro 2) s m args below meth c 6 G (am_fr G) 0 0 (MQ below (am_Qc G (some (am_i q.1)) q.2) args s 0 0 (am_fr G)) (83, [(0, am_r ox0 40 0), (1, am_i x1), (2, am_i x2), (3, am_i x3)], [], σ) := by
  have hc := ct_X8_ask
  unfold jn_X8_ask_83 at h
  refine am_blk hc X 43 1 (fr' := (84, [(0, am_r ox0 40 0), (1, am_i x1), (2, am_i x2), (3, am_i x3)], [am_i 0], σ)) rfl ⟨trivial, trivial⟩ ?_
  exact jl_X8_ask_84 X hr   ox0 x1 x2 x3 0 _ h
def jn_X8_ask_79  (ox0 : Nat) (x1 : Int32) (x2 : Int32) (x3 : Int32) (σ : am_S) : Option (Int32 × am_S) :=
  jn_X8_ask_84  ox0 x1 x2 x3 1 (σ)
set_option maxRecDepth 100000 in
theorem jl_X8_ask_79 {p : Program} {l : Launch} {e : Env} {s : State} {m : MethodId} {args : Array Value} {below : List Frame} {meth : Method} {c : Code} {G : am_G} {q : Int32 × am_S} (X : am_X p s m args c cX8_ask yX8_ask.cls 6 am_p8 G (am_fr G)) (hr : meth.sig.returnType = (some .int) ∧ meth.locks = false)    (ox0 : Nat) (x1 : Int32) (x2 : Int32) (x3 : Int32) (σ : am_S) (h : jn_X8_ask_79  ox0 x1 x2 x3 σ = some q) : am_A p l e (am_ro 2) s m args below meth c 6 G (am_fr G) 0 0 (MQ below (am_Qc G (some (am_i q.1)) q.2) args s 0 0 (am_fr G)) (79, [(0, am_r ox0 40 0), (1, am_i x1), (2, am_i x2), (3, am_i x3)], [], σ) := by
  have hc := ct_X8_ask
  unfold jn_X8_ask_79 at h
  refine am_blk hc X 41 2 (fr' := (84, [(0, am_r ox0 40 0), (1, am_i x1), (2, am_i x2), (3, am_i x3)], [am_i 1], σ)) rfl ⟨trivial, trivial, trivial⟩ ?_
  exact jl_X8_ask_84 X hr   ox0 x1 x2 x3 1 _ h
def jn_X8_ask_58  (ox0 : Nat) (x1 : Int32) (x2 : Int32) (x3 : Int32) (σ : am_S) : Option (Int32 × am_S) :=
  (if x2 = 3 then (if x1 = 0 then (fn_X8_in ((x3 : Int32).toInt64) 0 9 (σ)).bind fun q15 => (if q15.1 = 0 then jn_X8_ask_83  ox0 x1 x2 x3 q15.2 else jn_X8_ask_79  ox0 x1 x2 x3 q15.2) else jn_X8_ask_83  ox0 x1 x2 x3 (σ)) else jn_X8_ask_83  ox0 x1 x2 x3 (σ))
set_option maxRecDepth 100000 in
theorem jl_X8_ask_58 {p : Program} {l : Launch} {e : Env} {s : State} {m : MethodId} {args : Array Value} {below : List Frame} {meth : Method} {c : Code} {G : am_G} {q : Int32 × am_S} (X : am_X p s m args c cX8_ask yX8_ask.cls 6 am_p8 G (am_fr G)) (hr : meth.sig.returnType = (some .int) ∧ meth.locks = false)    (ox0 : Nat) (x1 : Int32) (x2 : Int32) (x3 : Int32) (σ : am_S) (h : jn_X8_ask_58  ox0 x1 x2 x3 σ = some q) : am_A p l e (am_ro 2) s m args below meth c 6 G (am_fr G) 0 0 (MQ below (am_Qc G (some (am_i q.1)) q.2) args s 0 0 (am_fr G)) (58, [(0, am_r ox0 40 0), (1, am_i x1), (2, am_i x2), (3, am_i x3)], [], σ) := by
  have hc := ct_X8_ask
  unfold jn_X8_ask_58 at h
  refine am_blk hc X 30 2 (fr' := (60, [(0, am_r ox0 40 0), (1, am_i x1), (2, am_i x2), (3, am_i x3)], [am_i 3, am_i x2], σ)) rfl ⟨trivial, trivial, trivial⟩ ?_
  refine am_icmp_ne hc X 32 (tgt := 83) rfl (by decide) (fun c19 => ?_) (fun c19 => ?_)
  · replace h := am_in2 c19 h
    exact jl_X8_ask_83 X hr   ox0 x1 x2 x3 _ h
  · replace h := am_ip c19 h
    refine am_blk hc X 33 1 (fr' := (64, [(0, am_r ox0 40 0), (1, am_i x1), (2, am_i x2), (3, am_i x3)], [am_i x1], σ)) rfl ⟨trivial, trivial⟩ ?_
    refine am_if_ne hc X 34 (tgt := 83) rfl (by decide) (fun c18 => ?_) (fun c18 => ?_)
    · replace h := am_in2 c18 h
      exact jl_X8_ask_83 X hr   ox0 x1 x2 x3 _ h
    · replace h := am_ip c18 h
      refine am_blk hc X 35 4 (fr' := (73, [(0, am_r ox0 40 0), (1, am_i x1), (2, am_i x2), (3, am_i x3)], [am_l 9, am_l 0, am_l ((x3 : Int32).toInt64)], σ)) rfl ⟨trivial, trivial, trivial, trivial, trivial⟩ ?_
      obtain ⟨q15, hq16, h⟩ := am_bs h
      refine am_callS hc 39 X (As := [am_l ((x3 : Int32).toInt64), am_l 0, am_l 9]) (rest := []) rfl (ok_X8_in l ((x3 : Int32).toInt64) 0 9 (σ) hq16) yv_X8_in ml_X8_117 rfl rfl rfl rfl rfl ?_
      refine am_if_eq hc X 40 (tgt := 83) rfl (by decide) (fun c17 => ?_) (fun c17 => ?_)
      · replace h := am_ip c17 h
        exact jl_X8_ask_83 X hr   ox0 x1 x2 x3 _ h
      · replace h := am_in2 c17 h
        exact jl_X8_ask_79 X hr   ox0 x1 x2 x3 _ h
def jn_X8_ask_41  (ox0 : Nat) (x1 : Int32) (x2 : Int32) (x3 : Int32) (σ : am_S) : Option (Int32 × am_S) :=
  (if x2 = 2 then (fn_X8_in ((x3 : Int32).toInt64) 0 20 (σ)).bind fun q20 => (if q20.1 = 0 then jn_X8_ask_58  ox0 x1 x2 x3 q20.2 else jn_X8_ask_79  ox0 x1 x2 x3 q20.2) else jn_X8_ask_58  ox0 x1 x2 x3 (σ))
set_option maxRecDepth 100000 in
theorem jl_X8_ask_41 {p : Program} {l : Launch} {e : Env} {s : State} {m : MethodId} {args : Array Value} {below : List Frame} {meth : Method} {c : Code} {G : am_G} {q : Int32 × am_S} (X : am_X p s m args c cX8_ask yX8_ask.cls 6 am_p8 G (am_fr G)) (hr : meth.sig.returnType = (some .int) ∧ meth.locks = false)    (ox0 : Nat) (x1 : Int32) (x2 : Int32) (x3 : Int32) (σ : am_S) (h : jn_X8_ask_41  ox0 x1 x2 x3 σ = some q) : am_A p l e (am_ro 2) s m args below meth c 6 G (am_fr G) 0 0 (MQ below (am_Qc G (some (am_i q.1)) q.2) args s 0 0 (am_fr G)) (41, [(0, am_r ox0 40 0), (1, am_i x1), (2, am_i x2), (3, am_i x3)], [], σ) := by
  have hc := ct_X8_ask
  unfold jn_X8_ask_41 at h
  refine am_blk hc X 21 2 (fr' := (43, [(0, am_r ox0 40 0), (1, am_i x1), (2, am_i x2), (3, am_i x3)], [am_i 2, am_i x2], σ)) rfl ⟨trivial, trivial, trivial⟩ ?_
  refine am_icmp_ne hc X 23 (tgt := 58) rfl (by decide) (fun c23 => ?_) (fun c23 => ?_)
  · replace h := am_in2 c23 h
    exact jl_X8_ask_58 X hr   ox0 x1 x2 x3 _ h
  · replace h := am_ip c23 h
    refine am_blk hc X 24 4 (fr' := (52, [(0, am_r ox0 40 0), (1, am_i x1), (2, am_i x2), (3, am_i x3)], [am_l 20, am_l 0, am_l ((x3 : Int32).toInt64)], σ)) rfl ⟨trivial, trivial, trivial, trivial, trivial⟩ ?_
    obtain ⟨q20, hq21, h⟩ := am_bs h
    refine am_callS hc 28 X (As := [am_l ((x3 : Int32).toInt64), am_l 0, am_l 20]) (rest := []) rfl (ok_X8_in l ((x3 : Int32).toInt64) 0 20 (σ) hq21) yv_X8_in ml_X8_117 rfl rfl rfl rfl rfl ?_
    refine am_if_ne hc X 29 (tgt := 79) rfl (by decide) (fun c22 => ?_) (fun c22 => ?_)
    · replace h := am_in2 c22 h
      exact jl_X8_ask_79 X hr   ox0 x1 x2 x3 _ h
    · replace h := am_ip c22 h
      exact jl_X8_ask_58 X hr   ox0 x1 x2 x3 _ h
def jn_X8_ask_24  (ox0 : Nat) (x1 : Int32) (x2 : Int32) (x3 : Int32) (σ : am_S) : Option (Int32 × am_S) :=
  (if x2 = 1 then (fn_X8_in ((x3 : Int32).toInt64) 1 12 (σ)).bind fun q24 => (if q24.1 = 0 then jn_X8_ask_41  ox0 x1 x2 x3 q24.2 else jn_X8_ask_79  ox0 x1 x2 x3 q24.2) else jn_X8_ask_41  ox0 x1 x2 x3 (σ))
set_option maxRecDepth 100000 in
theorem jl_X8_ask_24 {p : Program} {l : Launch} {e : Env} {s : State} {m : MethodId} {args : Array Value} {below : List Frame} {meth : Method} {c : Code} {G : am_G} {q : Int32 × am_S} (X : am_X p s m args c cX8_ask yX8_ask.cls 6 am_p8 G (am_fr G)) (hr : meth.sig.returnType = (some .int) ∧ meth.locks = false)    (ox0 : Nat) (x1 : Int32) (x2 : Int32) (x3 : Int32) (σ : am_S) (h : jn_X8_ask_24  ox0 x1 x2 x3 σ = some q) : am_A p l e (am_ro 2) s m args below meth c 6 G (am_fr G) 0 0 (MQ below (am_Qc G (some (am_i q.1)) q.2) args s 0 0 (am_fr G)) (24, [(0, am_r ox0 40 0), (1, am_i x1), (2, am_i x2), (3, am_i x3)], [], σ) := by
  have hc := ct_X8_ask
  unfold jn_X8_ask_24 at h
  refine am_blk hc X 12 2 (fr' := (26, [(0, am_r ox0 40 0), (1, am_i x1), (2, am_i x2), (3, am_i x3)], [am_i 1, am_i x2], σ)) rfl ⟨trivial, trivial, trivial⟩ ?_
  refine am_icmp_ne hc X 14 (tgt := 41) rfl (by decide) (fun c27 => ?_) (fun c27 => ?_)
  · replace h := am_in2 c27 h
    exact jl_X8_ask_41 X hr   ox0 x1 x2 x3 _ h
  · replace h := am_ip c27 h
    refine am_blk hc X 15 4 (fr' := (35, [(0, am_r ox0 40 0), (1, am_i x1), (2, am_i x2), (3, am_i x3)], [am_l 12, am_l 1, am_l ((x3 : Int32).toInt64)], σ)) rfl ⟨trivial, trivial, trivial, trivial, trivial⟩ ?_
    obtain ⟨q24, hq25, h⟩ := am_bs h
    refine am_callS hc 19 X (As := [am_l ((x3 : Int32).toInt64), am_l 1, am_l 12]) (rest := []) rfl (ok_X8_in l ((x3 : Int32).toInt64) 1 12 (σ) hq25) yv_X8_in ml_X8_117 rfl rfl rfl rfl rfl ?_
    refine am_if_ne hc X 20 (tgt := 79) rfl (by decide) (fun c26 => ?_) (fun c26 => ?_)
    · replace h := am_in2 c26 h
      exact jl_X8_ask_79 X hr   ox0 x1 x2 x3 _ h
    · replace h := am_ip c26 h
      exact jl_X8_ask_41 X hr   ox0 x1 x2 x3 _ h
def fn_X8_ask (oa0 : Nat) (a1 : Int32) (a2 : Int32) (a3 : Int32) (σ : am_S) : Option (Int32 × am_S) :=
  (fn_X8_isValley ((a1 : Int32).toInt64) (σ)).bind fun q1 => (if q1.1 = 0 then jn_X8_ask_83  oa0 a1 a2 a3 q1.2 else (if a2 = 0 then (fn_X8_in ((a3 : Int32).toInt64) 0 9 q1.2).bind fun q28 => (if q28.1 = 0 then jn_X8_ask_24  oa0 a1 a2 a3 q28.2 else jn_X8_ask_79  oa0 a1 a2 a3 q28.2) else jn_X8_ask_24  oa0 a1 a2 a3 q1.2))
set_option maxRecDepth 100000 in
theorem ok_X8_ask (l : Launch) (oa0 : Nat) (a1 : Int32) (a2 : Int32) (a3 : Int32) (σ : am_S) {q : Int32 × am_S} (h : fn_X8_ask oa0 a1 a2 a3 σ = some q) : am_M l yX8_ask cX8_ask 6 (some .int) 2 [am_r oa0 40 0, am_i a1, am_i a2, am_i a3] σ (some (am_i q.1)) q.2 := by
  refine am_M_of (P := am_p8) (by decide +kernel) am_p8_ok rfl ?_
  intro G p e s m args below meth c X hr
  have hc := ct_X8_ask
  unfold fn_X8_ask at h
  refine am_blk hc X 0 2 (fr' := (2, [(0, am_r oa0 40 0), (1, am_i a1), (2, am_i a2), (3, am_i a3)], [am_l ((a1 : Int32).toInt64)], σ)) rfl ⟨trivial, trivial, trivial⟩ ?_
  obtain ⟨q1, hq2, h⟩ := am_bs h
  refine am_callS hc 2 X (As := [am_l ((a1 : Int32).toInt64)]) (rest := []) rfl (ok_X8_isValley l ((a1 : Int32).toInt64) (σ) hq2) yv_X8_isValley ml_X8_154 rfl rfl rfl rfl rfl ?_
  refine am_if_eq hc X 3 (tgt := 83) rfl (by decide) (fun c32 => ?_) (fun c32 => ?_)
  · replace h := am_ip c32 h
    exact jl_X8_ask_83 X hr   oa0 a1 a2 a3 _ h
  · replace h := am_in2 c32 h
    refine am_blk hc X 4 1 (fr' := (9, [(0, am_r oa0 40 0), (1, am_i a1), (2, am_i a2), (3, am_i a3)], [am_i a2], q1.2)) rfl ⟨trivial, trivial⟩ ?_
    refine am_if_ne hc X 5 (tgt := 24) rfl (by decide) (fun c31 => ?_) (fun c31 => ?_)
    · replace h := am_in2 c31 h
      exact jl_X8_ask_24 X hr   oa0 a1 a2 a3 _ h
    · replace h := am_ip c31 h
      refine am_blk hc X 6 4 (fr' := (18, [(0, am_r oa0 40 0), (1, am_i a1), (2, am_i a2), (3, am_i a3)], [am_l 9, am_l 0, am_l ((a3 : Int32).toInt64)], q1.2)) rfl ⟨trivial, trivial, trivial, trivial, trivial⟩ ?_
      obtain ⟨q28, hq29, h⟩ := am_bs h
      refine am_callS hc 10 X (As := [am_l ((a3 : Int32).toInt64), am_l 0, am_l 9]) (rest := []) rfl (ok_X8_in l ((a3 : Int32).toInt64) 0 9 q1.2 hq29) yv_X8_in ml_X8_117 rfl rfl rfl rfl rfl ?_
      refine am_if_ne hc X 11 (tgt := 79) rfl (by decide) (fun c30 => ?_) (fun c30 => ?_)
      · replace h := am_in2 c30 h
        exact jl_X8_ask_79 X hr   oa0 a1 a2 a3 _ h
      · replace h := am_ip c30 h
        exact jl_X8_ask_24 X hr   oa0 a1 a2 a3 _ h
def lb_X8_copied_50_50_2 (k2 : Nat → Nat → Int32 → am_S → Option (am_S)) (ox0 : Nat) (ox1 : Nat) (x2 : Int32) (σ : am_S) : Option (am_S) :=
  (if 7 ≤ x2 then some (σ) else (bif am_in x2 7 then (bif am_in x2 7 then k2 ox0 ox1 (x2 + 1) (am_u σ ox1 50 0 ((x2 : Int32).toNatClampNeg) (σ.1 ox0 50 0 ((x2 : Int32).toNatClampNeg))) else none) else none))
set_option maxRecDepth 100000 in
theorem lc_X8_copied_50_50_2 {p : Program} {l : Launch} {e : Env} {s : State} {m : MethodId} {args : Array Value} {below : List Frame} {meth : Method} {c : Code} {G : am_G} {q : am_S} (X : am_X p s m args c cX8_copied yX8_copied.cls 3 am_p8 G (am_fr G)) (hr : meth.sig.returnType = none ∧ meth.locks = false)  (k2 : Nat → Nat → Int32 → am_S → Option (am_S)) (hk2 : ∀ (ox0 : Nat) (ox1 : Nat) (x2 : Int32) (σ : am_S), k2 ox0 ox1 x2 σ = some q → am_A p l e (am_ro 0) s m args below meth c 3 G (am_fr G) 0 0 (MQ below (am_Qc G none q) args s 0 0 (am_fr G)) (2, [(0, am_r ox0 50 0), (1, am_r ox1 50 0), (2, am_i x2)], [], σ)) (ox0 : Nat) (ox1 : Nat) (x2 : Int32) (σ : am_S) (h : lb_X8_copied_50_50_2 k2 ox0 ox1 x2 σ = some q) : am_A p l e (am_ro 0) s m args below meth c 3 G (am_fr G) 0 0 (MQ below (am_Qc G none q) args s 0 0 (am_fr G)) (2, [(0, am_r ox0 50 0), (1, am_r ox1 50 0), (2, am_i x2)], [], σ) := by
  have hc := ct_X8_copied
  unfold lb_X8_copied_50_50_2 at h
  refine am_blk hc X 2 3 (fr' := (5, [(0, am_r ox0 50 0), (1, am_r ox1 50 0), (2, am_i x2)], [am_i 7, am_i x2], σ)) rfl ⟨trivial, trivial, trivial, trivial⟩ ?_
  refine am_icmp_ge hc X 5 (tgt := 20) rfl (by decide) (fun c3 => ?_) (fun c3 => ?_)
  · replace h := am_ip c3 h
    obtain rfl := Option.some.inj h
    exact am_vret hc X hr 14 rfl rfl rfl
  · replace h := am_in2 c3 h
    obtain ⟨ob1, h⟩ := am_ci h
    obtain ⟨ob2, h⟩ := am_ci h
    refine am_blk hc X 6 8 (fr' := (2, [(0, am_r ox0 50 0), (1, am_r ox1 50 0), (2, am_i (x2 + 1))], [], (am_u σ ox1 50 0 ((x2 : Int32).toNatClampNeg) (σ.1 ox0 50 0 ((x2 : Int32).toNatClampNeg))))) rfl ⟨trivial, trivial, trivial, trivial, (am_in_vp ob1), (am_in_vp ob2), trivial, trivial, trivial⟩ ?_
    exact hk2 ox0 ox1 (x2 + 1) _ h
def lp_X8_copied_50_50_2  : Nat → Nat → Nat → Int32 → am_S → Option (am_S)
  | 0 => fun _ _ _ _ => none
  | n + 1 => lb_X8_copied_50_50_2  (lp_X8_copied_50_50_2  n)
theorem ll_X8_copied_50_50_2 {p : Program} {l : Launch} {e : Env} {s : State} {m : MethodId} {args : Array Value} {below : List Frame} {meth : Method} {c : Code} {G : am_G} {q : am_S} (X : am_X p s m args c cX8_copied yX8_copied.cls 3 am_p8 G (am_fr G)) (hr : meth.sig.returnType = none ∧ meth.locks = false)    : ∀ (n : Nat) (ox0 : Nat) (ox1 : Nat) (x2 : Int32) (σ : am_S), lp_X8_copied_50_50_2  n ox0 ox1 x2 σ = some q → am_A p l e (am_ro 0) s m args below meth c 3 G (am_fr G) 0 0 (MQ below (am_Qc G none q) args s 0 0 (am_fr G)) (2, [(0, am_r ox0 50 0), (1, am_r ox1 50 0), (2, am_i x2)], [], σ) := by
  intro n
  induction n with
  | zero =>
    intro ox0 ox1 x2 σ h
    have h : (none : Option (am_S)) = some q := h
    cases h
  | succ n ih =>
    intro ox0 ox1 x2 σ h
    exact lc_X8_copied_50_50_2 X hr  (lp_X8_copied_50_50_2  n) ih ox0 ox1 x2 σ h
def fn_X8_copied_50_50 (oa0 : Nat) (oa1 : Nat) (σ : am_S) : Option (am_S) :=
  lp_X8_copied_50_50_2  1000 oa0 oa1 0 (σ)
set_option maxRecDepth 100000 in
theorem ok_X8_copied_50_50 (l : Launch) (oa0 : Nat) (oa1 : Nat) (σ : am_S) {q : am_S} (h : fn_X8_copied_50_50 oa0 oa1 σ = some q) : am_M l yX8_copied cX8_copied 3 none 0 [am_r oa0 50 0, am_r oa1 50 0] σ none q := by
  refine am_M_of (P := am_p8) (by decide +kernel) am_p8_ok rfl ?_
  intro G p e s m args below meth c X hr
  have hc := ct_X8_copied
  unfold fn_X8_copied_50_50 at h
  refine am_blk hc X 0 2 (fr' := (2, [(0, am_r oa0 50 0), (1, am_r oa1 50 0), (2, am_i 0)], [], σ)) rfl ⟨trivial, trivial, trivial⟩ ?_
  exact ll_X8_copied_50_50_2 X hr   1000 oa0 oa1 0 _ h
def lb_X8_copied_51_51_2 (k2 : Nat → Nat → Int32 → am_S → Option (am_S)) (ox0 : Nat) (ox1 : Nat) (x2 : Int32) (σ : am_S) : Option (am_S) :=
  (if 7 ≤ x2 then some (σ) else (bif am_in x2 7 then (bif am_in x2 7 then k2 ox0 ox1 (x2 + 1) (am_u σ ox1 51 0 ((x2 : Int32).toNatClampNeg) (σ.1 ox0 51 0 ((x2 : Int32).toNatClampNeg))) else none) else none))
set_option maxRecDepth 100000 in
theorem lc_X8_copied_51_51_2 {p : Program} {l : Launch} {e : Env} {s : State} {m : MethodId} {args : Array Value} {below : List Frame} {meth : Method} {c : Code} {G : am_G} {q : am_S} (X : am_X p s m args c cX8_copied yX8_copied.cls 3 am_p8 G (am_fr G)) (hr : meth.sig.returnType = none ∧ meth.locks = false)  (k2 : Nat → Nat → Int32 → am_S → Option (am_S)) (hk2 : ∀ (ox0 : Nat) (ox1 : Nat) (x2 : Int32) (σ : am_S), k2 ox0 ox1 x2 σ = some q → am_A p l e (am_ro 0) s m args below meth c 3 G (am_fr G) 0 0 (MQ below (am_Qc G none q) args s 0 0 (am_fr G)) (2, [(0, am_r ox0 51 0), (1, am_r ox1 51 0), (2, am_i x2)], [], σ)) (ox0 : Nat) (ox1 : Nat) (x2 : Int32) (σ : am_S) (h : lb_X8_copied_51_51_2 k2 ox0 ox1 x2 σ = some q) : am_A p l e (am_ro 0) s m args below meth c 3 G (am_fr G) 0 0 (MQ below (am_Qc G none q) args s 0 0 (am_fr G)) (2, [(0, am_r ox0 51 0), (1, am_r ox1 51 0), (2, am_i x2)], [], σ) := by
  have hc := ct_X8_copied
  unfold lb_X8_copied_51_51_2 at h
  refine am_blk hc X 2 3 (fr' := (5, [(0, am_r ox0 51 0), (1, am_r ox1 51 0), (2, am_i x2)], [am_i 7, am_i x2], σ)) rfl ⟨trivial, trivial, trivial, trivial⟩ ?_
  refine am_icmp_ge hc X 5 (tgt := 20) rfl (by decide) (fun c3 => ?_) (fun c3 => ?_)
  · replace h := am_ip c3 h
    obtain rfl := Option.some.inj h
    exact am_vret hc X hr 14 rfl rfl rfl
  · replace h := am_in2 c3 h
    obtain ⟨ob1, h⟩ := am_ci h
    obtain ⟨ob2, h⟩ := am_ci h
    refine am_blk hc X 6 8 (fr' := (2, [(0, am_r ox0 51 0), (1, am_r ox1 51 0), (2, am_i (x2 + 1))], [], (am_u σ ox1 51 0 ((x2 : Int32).toNatClampNeg) (σ.1 ox0 51 0 ((x2 : Int32).toNatClampNeg))))) rfl ⟨trivial, trivial, trivial, trivial, (am_in_vp ob1), (am_in_vp ob2), trivial, trivial, trivial⟩ ?_
    exact hk2 ox0 ox1 (x2 + 1) _ h
def lp_X8_copied_51_51_2  : Nat → Nat → Nat → Int32 → am_S → Option (am_S)
  | 0 => fun _ _ _ _ => none
  | n + 1 => lb_X8_copied_51_51_2  (lp_X8_copied_51_51_2  n)
theorem ll_X8_copied_51_51_2 {p : Program} {l : Launch} {e : Env} {s : State} {m : MethodId} {args : Array Value} {below : List Frame} {meth : Method} {c : Code} {G : am_G} {q : am_S} (X : am_X p s m args c cX8_copied yX8_copied.cls 3 am_p8 G (am_fr G)) (hr : meth.sig.returnType = none ∧ meth.locks = false)    : ∀ (n : Nat) (ox0 : Nat) (ox1 : Nat) (x2 : Int32) (σ : am_S), lp_X8_copied_51_51_2  n ox0 ox1 x2 σ = some q → am_A p l e (am_ro 0) s m args below meth c 3 G (am_fr G) 0 0 (MQ below (am_Qc G none q) args s 0 0 (am_fr G)) (2, [(0, am_r ox0 51 0), (1, am_r ox1 51 0), (2, am_i x2)], [], σ) := by
  intro n
  induction n with
  | zero =>
    intro ox0 ox1 x2 σ h
    have h : (none : Option (am_S)) = some q := h
    cases h
  | succ n ih =>
    intro ox0 ox1 x2 σ h
    exact lc_X8_copied_51_51_2 X hr  (lp_X8_copied_51_51_2  n) ih ox0 ox1 x2 σ h
def fn_X8_copied_51_51 (oa0 : Nat) (oa1 : Nat) (σ : am_S) : Option (am_S) :=
  lp_X8_copied_51_51_2  1000 oa0 oa1 0 (σ)
set_option maxRecDepth 100000 in
theorem ok_X8_copied_51_51 (l : Launch) (oa0 : Nat) (oa1 : Nat) (σ : am_S) {q : am_S} (h : fn_X8_copied_51_51 oa0 oa1 σ = some q) : am_M l yX8_copied cX8_copied 3 none 0 [am_r oa0 51 0, am_r oa1 51 0] σ none q := by
  refine am_M_of (P := am_p8) (by decide +kernel) am_p8_ok rfl ?_
  intro G p e s m args below meth c X hr
  have hc := ct_X8_copied
  unfold fn_X8_copied_51_51 at h
  refine am_blk hc X 0 2 (fr' := (2, [(0, am_r oa0 51 0), (1, am_r oa1 51 0), (2, am_i 0)], [], σ)) rfl ⟨trivial, trivial, trivial⟩ ?_
  exact ll_X8_copied_51_51_2 X hr   1000 oa0 oa1 0 _ h
def lb_X8_copied_52_52_2 (k2 : Nat → Nat → Int32 → am_S → Option (am_S)) (ox0 : Nat) (ox1 : Nat) (x2 : Int32) (σ : am_S) : Option (am_S) :=
  (if 7 ≤ x2 then some (σ) else (bif am_in x2 7 then (bif am_in x2 7 then k2 ox0 ox1 (x2 + 1) (am_u σ ox1 52 0 ((x2 : Int32).toNatClampNeg) (σ.1 ox0 52 0 ((x2 : Int32).toNatClampNeg))) else none) else none))
set_option maxRecDepth 100000 in
theorem lc_X8_copied_52_52_2 {p : Program} {l : Launch} {e : Env} {s : State} {m : MethodId} {args : Array Value} {below : List Frame} {meth : Method} {c : Code} {G : am_G} {q : am_S} (X : am_X p s m args c cX8_copied yX8_copied.cls 3 am_p8 G (am_fr G)) (hr : meth.sig.returnType = none ∧ meth.locks = false)  (k2 : Nat → Nat → Int32 → am_S → Option (am_S)) (hk2 : ∀ (ox0 : Nat) (ox1 : Nat) (x2 : Int32) (σ : am_S), k2 ox0 ox1 x2 σ = some q → am_A p l e (am_ro 0) s m args below meth c 3 G (am_fr G) 0 0 (MQ below (am_Qc G none q) args s 0 0 (am_fr G)) (2, [(0, am_r ox0 52 0), (1, am_r ox1 52 0), (2, am_i x2)], [], σ)) (ox0 : Nat) (ox1 : Nat) (x2 : Int32) (σ : am_S) (h : lb_X8_copied_52_52_2 k2 ox0 ox1 x2 σ = some q) : am_A p l e (am_ro 0) s m args below meth c 3 G (am_fr G) 0 0 (MQ below (am_Qc G none q) args s 0 0 (am_fr G)) (2, [(0, am_r ox0 52 0), (1, am_r ox1 52 0), (2, am_i x2)], [], σ) := by
  have hc := ct_X8_copied
  unfold lb_X8_copied_52_52_2 at h
  refine am_blk hc X 2 3 (fr' := (5, [(0, am_r ox0 52 0), (1, am_r ox1 52 0), (2, am_i x2)], [am_i 7, am_i x2], σ)) rfl ⟨trivial, trivial, trivial, trivial⟩ ?_
  refine am_icmp_ge hc X 5 (tgt := 20) rfl (by decide) (fun c3 => ?_) (fun c3 => ?_)
  · replace h := am_ip c3 h
    obtain rfl := Option.some.inj h
    exact am_vret hc X hr 14 rfl rfl rfl
  · replace h := am_in2 c3 h
    obtain ⟨ob1, h⟩ := am_ci h
    obtain ⟨ob2, h⟩ := am_ci h
    refine am_blk hc X 6 8 (fr' := (2, [(0, am_r ox0 52 0), (1, am_r ox1 52 0), (2, am_i (x2 + 1))], [], (am_u σ ox1 52 0 ((x2 : Int32).toNatClampNeg) (σ.1 ox0 52 0 ((x2 : Int32).toNatClampNeg))))) rfl ⟨trivial, trivial, trivial, trivial, (am_in_vp ob1), (am_in_vp ob2), trivial, trivial, trivial⟩ ?_
    exact hk2 ox0 ox1 (x2 + 1) _ h
def lp_X8_copied_52_52_2  : Nat → Nat → Nat → Int32 → am_S → Option (am_S)
  | 0 => fun _ _ _ _ => none
  | n + 1 => lb_X8_copied_52_52_2  (lp_X8_copied_52_52_2  n)
theorem ll_X8_copied_52_52_2 {p : Program} {l : Launch} {e : Env} {s : State} {m : MethodId} {args : Array Value} {below : List Frame} {meth : Method} {c : Code} {G : am_G} {q : am_S} (X : am_X p s m args c cX8_copied yX8_copied.cls 3 am_p8 G (am_fr G)) (hr : meth.sig.returnType = none ∧ meth.locks = false)    : ∀ (n : Nat) (ox0 : Nat) (ox1 : Nat) (x2 : Int32) (σ : am_S), lp_X8_copied_52_52_2  n ox0 ox1 x2 σ = some q → am_A p l e (am_ro 0) s m args below meth c 3 G (am_fr G) 0 0 (MQ below (am_Qc G none q) args s 0 0 (am_fr G)) (2, [(0, am_r ox0 52 0), (1, am_r ox1 52 0), (2, am_i x2)], [], σ) := by
  intro n
  induction n with
  | zero =>
    intro ox0 ox1 x2 σ h
    have h : (none : Option (am_S)) = some q := h
    cases h
  | succ n ih =>
    intro ox0 ox1 x2 σ h
    exact lc_X8_copied_52_52_2 X hr  (lp_X8_copied_52_52_2  n) ih ox0 ox1 x2 σ h
def fn_X8_copied_52_52 (oa0 : Nat) (oa1 : Nat) (σ : am_S) : Option (am_S) :=
  lp_X8_copied_52_52_2  1000 oa0 oa1 0 (σ)
set_option maxRecDepth 100000 in
theorem ok_X8_copied_52_52 (l : Launch) (oa0 : Nat) (oa1 : Nat) (σ : am_S) {q : am_S} (h : fn_X8_copied_52_52 oa0 oa1 σ = some q) : am_M l yX8_copied cX8_copied 3 none 0 [am_r oa0 52 0, am_r oa1 52 0] σ none q := by
  refine am_M_of (P := am_p8) (by decide +kernel) am_p8_ok rfl ?_
  intro G p e s m args below meth c X hr
  have hc := ct_X8_copied
  unfold fn_X8_copied_52_52 at h
  refine am_blk hc X 0 2 (fr' := (2, [(0, am_r oa0 52 0), (1, am_r oa1 52 0), (2, am_i 0)], [], σ)) rfl ⟨trivial, trivial, trivial⟩ ?_
  exact ll_X8_copied_52_52_2 X hr   1000 oa0 oa1 0 _ h
def lb_X8_copied_55_55_2 (k2 : Nat → Nat → Int32 → am_S → Option (am_S)) (ox0 : Nat) (ox1 : Nat) (x2 : Int32) (σ : am_S) : Option (am_S) :=
  (if 6 ≤ x2 then some (σ) else (bif am_in x2 6 then (bif am_in x2 6 then k2 ox0 ox1 (x2 + 1) (am_u σ ox1 55 0 ((x2 : Int32).toNatClampNeg) (σ.1 ox0 55 0 ((x2 : Int32).toNatClampNeg))) else none) else none))
set_option maxRecDepth 100000 in
theorem lc_X8_copied_55_55_2 {p : Program} {l : Launch} {e : Env} {s : State} {m : MethodId} {args : Array Value} {below : List Frame} {meth : Method} {c : Code} {G : am_G} {q : am_S} (X : am_X p s m args c cX8_copied yX8_copied.cls 3 am_p8 G (am_fr G)) (hr : meth.sig.returnType = none ∧ meth.locks = false)  (k2 : Nat → Nat → Int32 → am_S → Option (am_S)) (hk2 : ∀ (ox0 : Nat) (ox1 : Nat) (x2 : Int32) (σ : am_S), k2 ox0 ox1 x2 σ = some q → am_A p l e (am_ro 0) s m args below meth c 3 G (am_fr G) 0 0 (MQ below (am_Qc G none q) args s 0 0 (am_fr G)) (2, [(0, am_r ox0 55 0), (1, am_r ox1 55 0), (2, am_i x2)], [], σ)) (ox0 : Nat) (ox1 : Nat) (x2 : Int32) (σ : am_S) (h : lb_X8_copied_55_55_2 k2 ox0 ox1 x2 σ = some q) : am_A p l e (am_ro 0) s m args below meth c 3 G (am_fr G) 0 0 (MQ below (am_Qc G none q) args s 0 0 (am_fr G)) (2, [(0, am_r ox0 55 0), (1, am_r ox1 55 0), (2, am_i x2)], [], σ) := by
  have hc := ct_X8_copied
  unfold lb_X8_copied_55_55_2 at h
  refine am_blk hc X 2 3 (fr' := (5, [(0, am_r ox0 55 0), (1, am_r ox1 55 0), (2, am_i x2)], [am_i 6, am_i x2], σ)) rfl ⟨trivial, trivial, trivial, trivial⟩ ?_
  refine am_icmp_ge hc X 5 (tgt := 20) rfl (by decide) (fun c3 => ?_) (fun c3 => ?_)
  · replace h := am_ip c3 h
    obtain rfl := Option.some.inj h
    exact am_vret hc X hr 14 rfl rfl rfl
  · replace h := am_in2 c3 h
    obtain ⟨ob1, h⟩ := am_ci h
    obtain ⟨ob2, h⟩ := am_ci h
    refine am_blk hc X 6 8 (fr' := (2, [(0, am_r ox0 55 0), (1, am_r ox1 55 0), (2, am_i (x2 + 1))], [], (am_u σ ox1 55 0 ((x2 : Int32).toNatClampNeg) (σ.1 ox0 55 0 ((x2 : Int32).toNatClampNeg))))) rfl ⟨trivial, trivial, trivial, trivial, (am_in_vp ob1), (am_in_vp ob2), trivial, trivial, trivial⟩ ?_
    exact hk2 ox0 ox1 (x2 + 1) _ h
def lp_X8_copied_55_55_2  : Nat → Nat → Nat → Int32 → am_S → Option (am_S)
  | 0 => fun _ _ _ _ => none
  | n + 1 => lb_X8_copied_55_55_2  (lp_X8_copied_55_55_2  n)
theorem ll_X8_copied_55_55_2 {p : Program} {l : Launch} {e : Env} {s : State} {m : MethodId} {args : Array Value} {below : List Frame} {meth : Method} {c : Code} {G : am_G} {q : am_S} (X : am_X p s m args c cX8_copied yX8_copied.cls 3 am_p8 G (am_fr G)) (hr : meth.sig.returnType = none ∧ meth.locks = false)    : ∀ (n : Nat) (ox0 : Nat) (ox1 : Nat) (x2 : Int32) (σ : am_S), lp_X8_copied_55_55_2  n ox0 ox1 x2 σ = some q → am_A p l e (am_ro 0) s m args below meth c 3 G (am_fr G) 0 0 (MQ below (am_Qc G none q) args s 0 0 (am_fr G)) (2, [(0, am_r ox0 55 0), (1, am_r ox1 55 0), (2, am_i x2)], [], σ) := by
  intro n
  induction n with
  | zero =>
    intro ox0 ox1 x2 σ h
    have h : (none : Option (am_S)) = some q := h
    cases h
  | succ n ih =>
    intro ox0 ox1 x2 σ h
    exact lc_X8_copied_55_55_2 X hr  (lp_X8_copied_55_55_2  n) ih ox0 ox1 x2 σ h
def fn_X8_copied_55_55 (oa0 : Nat) (oa1 : Nat) (σ : am_S) : Option (am_S) :=
  lp_X8_copied_55_55_2  1000 oa0 oa1 0 (σ)
set_option maxRecDepth 100000 in
theorem ok_X8_copied_55_55 (l : Launch) (oa0 : Nat) (oa1 : Nat) (σ : am_S) {q : am_S} (h : fn_X8_copied_55_55 oa0 oa1 σ = some q) : am_M l yX8_copied cX8_copied 3 none 0 [am_r oa0 55 0, am_r oa1 55 0] σ none q := by
  refine am_M_of (P := am_p8) (by decide +kernel) am_p8_ok rfl ?_
  intro G p e s m args below meth c X hr
  have hc := ct_X8_copied
  unfold fn_X8_copied_55_55 at h
  refine am_blk hc X 0 2 (fr' := (2, [(0, am_r oa0 55 0), (1, am_r oa1 55 0), (2, am_i 0)], [], σ)) rfl ⟨trivial, trivial, trivial⟩ ?_
  exact ll_X8_copied_55_55_2 X hr   1000 oa0 oa1 0 _ h
def lb_X8_copied_56_56_2 (k2 : Nat → Nat → Int32 → am_S → Option (am_S)) (ox0 : Nat) (ox1 : Nat) (x2 : Int32) (σ : am_S) : Option (am_S) :=
  (if 6 ≤ x2 then some (σ) else (bif am_in x2 6 then (bif am_in x2 6 then k2 ox0 ox1 (x2 + 1) (am_u σ ox1 56 0 ((x2 : Int32).toNatClampNeg) (σ.1 ox0 56 0 ((x2 : Int32).toNatClampNeg))) else none) else none))
set_option maxRecDepth 100000 in
theorem lc_X8_copied_56_56_2 {p : Program} {l : Launch} {e : Env} {s : State} {m : MethodId} {args : Array Value} {below : List Frame} {meth : Method} {c : Code} {G : am_G} {q : am_S} (X : am_X p s m args c cX8_copied yX8_copied.cls 3 am_p8 G (am_fr G)) (hr : meth.sig.returnType = none ∧ meth.locks = false)  (k2 : Nat → Nat → Int32 → am_S → Option (am_S)) (hk2 : ∀ (ox0 : Nat) (ox1 : Nat) (x2 : Int32) (σ : am_S), k2 ox0 ox1 x2 σ = some q → am_A p l e (am_ro 0) s m args below meth c 3 G (am_fr G) 0 0 (MQ below (am_Qc G none q) args s 0 0 (am_fr G)) (2, [(0, am_r ox0 56 0), (1, am_r ox1 56 0), (2, am_i x2)], [], σ)) (ox0 : Nat) (ox1 : Nat) (x2 : Int32) (σ : am_S) (h : lb_X8_copied_56_56_2 k2 ox0 ox1 x2 σ = some q) : am_A p l e (am_ro 0) s m args below meth c 3 G (am_fr G) 0 0 (MQ below (am_Qc G none q) args s 0 0 (am_fr G)) (2, [(0, am_r ox0 56 0), (1, am_r ox1 56 0), (2, am_i x2)], [], σ) := by
  have hc := ct_X8_copied
  unfold lb_X8_copied_56_56_2 at h
  refine am_blk hc X 2 3 (fr' := (5, [(0, am_r ox0 56 0), (1, am_r ox1 56 0), (2, am_i x2)], [am_i 6, am_i x2], σ)) rfl ⟨trivial, trivial, trivial, trivial⟩ ?_
  refine am_icmp_ge hc X 5 (tgt := 20) rfl (by decide) (fun c3 => ?_) (fun c3 => ?_)
  · replace h := am_ip c3 h
    obtain rfl := Option.some.inj h
    exact am_vret hc X hr 14 rfl rfl rfl
  · replace h := am_in2 c3 h
    obtain ⟨ob1, h⟩ := am_ci h
    obtain ⟨ob2, h⟩ := am_ci h
    refine am_blk hc X 6 8 (fr' := (2, [(0, am_r ox0 56 0), (1, am_r ox1 56 0), (2, am_i (x2 + 1))], [], (am_u σ ox1 56 0 ((x2 : Int32).toNatClampNeg) (σ.1 ox0 56 0 ((x2 : Int32).toNatClampNeg))))) rfl ⟨trivial, trivial, trivial, trivial, (am_in_vp ob1), (am_in_vp ob2), trivial, trivial, trivial⟩ ?_
    exact hk2 ox0 ox1 (x2 + 1) _ h
def lp_X8_copied_56_56_2  : Nat → Nat → Nat → Int32 → am_S → Option (am_S)
  | 0 => fun _ _ _ _ => none
  | n + 1 => lb_X8_copied_56_56_2  (lp_X8_copied_56_56_2  n)
theorem ll_X8_copied_56_56_2 {p : Program} {l : Launch} {e : Env} {s : State} {m : MethodId} {args : Array Value} {below : List Frame} {meth : Method} {c : Code} {G : am_G} {q : am_S} (X : am_X p s m args c cX8_copied yX8_copied.cls 3 am_p8 G (am_fr G)) (hr : meth.sig.returnType = none ∧ meth.locks = false)    : ∀ (n : Nat) (ox0 : Nat) (ox1 : Nat) (x2 : Int32) (σ : am_S), lp_X8_copied_56_56_2  n ox0 ox1 x2 σ = some q → am_A p l e (am_ro 0) s m args below meth c 3 G (am_fr G) 0 0 (MQ below (am_Qc G none q) args s 0 0 (am_fr G)) (2, [(0, am_r ox0 56 0), (1, am_r ox1 56 0), (2, am_i x2)], [], σ) := by
  intro n
  induction n with
  | zero =>
    intro ox0 ox1 x2 σ h
    have h : (none : Option (am_S)) = some q := h
    cases h
  | succ n ih =>
    intro ox0 ox1 x2 σ h
    exact lc_X8_copied_56_56_2 X hr  (lp_X8_copied_56_56_2  n) ih ox0 ox1 x2 σ h
def fn_X8_copied_56_56 (oa0 : Nat) (oa1 : Nat) (σ : am_S) : Option (am_S) :=
  lp_X8_copied_56_56_2  1000 oa0 oa1 0 (σ)
set_option maxRecDepth 100000 in
theorem ok_X8_copied_56_56 (l : Launch) (oa0 : Nat) (oa1 : Nat) (σ : am_S) {q : am_S} (h : fn_X8_copied_56_56 oa0 oa1 σ = some q) : am_M l yX8_copied cX8_copied 3 none 0 [am_r oa0 56 0, am_r oa1 56 0] σ none q := by
  refine am_M_of (P := am_p8) (by decide +kernel) am_p8_ok rfl ?_
  intro G p e s m args below meth c X hr
  have hc := ct_X8_copied
  unfold fn_X8_copied_56_56 at h
  refine am_blk hc X 0 2 (fr' := (2, [(0, am_r oa0 56 0), (1, am_r oa1 56 0), (2, am_i 0)], [], σ)) rfl ⟨trivial, trivial, trivial⟩ ?_
  exact ll_X8_copied_56_56_2 X hr   1000 oa0 oa1 0 _ h
def lb_X8_copied_57_57_2 (k2 : Nat → Nat → Int32 → am_S → Option (am_S)) (ox0 : Nat) (ox1 : Nat) (x2 : Int32) (σ : am_S) : Option (am_S) :=
  (if 6 ≤ x2 then some (σ) else (bif am_in x2 6 then (bif am_in x2 6 then k2 ox0 ox1 (x2 + 1) (am_u σ ox1 57 0 ((x2 : Int32).toNatClampNeg) (σ.1 ox0 57 0 ((x2 : Int32).toNatClampNeg))) else none) else none))
set_option maxRecDepth 100000 in
theorem lc_X8_copied_57_57_2 {p : Program} {l : Launch} {e : Env} {s : State} {m : MethodId} {args : Array Value} {below : List Frame} {meth : Method} {c : Code} {G : am_G} {q : am_S} (X : am_X p s m args c cX8_copied yX8_copied.cls 3 am_p8 G (am_fr G)) (hr : meth.sig.returnType = none ∧ meth.locks = false)  (k2 : Nat → Nat → Int32 → am_S → Option (am_S)) (hk2 : ∀ (ox0 : Nat) (ox1 : Nat) (x2 : Int32) (σ : am_S), k2 ox0 ox1 x2 σ = some q → am_A p l e (am_ro 0) s m args below meth c 3 G (am_fr G) 0 0 (MQ below (am_Qc G none q) args s 0 0 (am_fr G)) (2, [(0, am_r ox0 57 0), (1, am_r ox1 57 0), (2, am_i x2)], [], σ)) (ox0 : Nat) (ox1 : Nat) (x2 : Int32) (σ : am_S) (h : lb_X8_copied_57_57_2 k2 ox0 ox1 x2 σ = some q) : am_A p l e (am_ro 0) s m args below meth c 3 G (am_fr G) 0 0 (MQ below (am_Qc G none q) args s 0 0 (am_fr G)) (2, [(0, am_r ox0 57 0), (1, am_r ox1 57 0), (2, am_i x2)], [], σ) := by
  have hc := ct_X8_copied
  unfold lb_X8_copied_57_57_2 at h
  refine am_blk hc X 2 3 (fr' := (5, [(0, am_r ox0 57 0), (1, am_r ox1 57 0), (2, am_i x2)], [am_i 6, am_i x2], σ)) rfl ⟨trivial, trivial, trivial, trivial⟩ ?_
  refine am_icmp_ge hc X 5 (tgt := 20) rfl (by decide) (fun c3 => ?_) (fun c3 => ?_)
  · replace h := am_ip c3 h
    obtain rfl := Option.some.inj h
    exact am_vret hc X hr 14 rfl rfl rfl
  · replace h := am_in2 c3 h
    obtain ⟨ob1, h⟩ := am_ci h
    obtain ⟨ob2, h⟩ := am_ci h
    refine am_blk hc X 6 8 (fr' := (2, [(0, am_r ox0 57 0), (1, am_r ox1 57 0), (2, am_i (x2 + 1))], [], (am_u σ ox1 57 0 ((x2 : Int32).toNatClampNeg) (σ.1 ox0 57 0 ((x2 : Int32).toNatClampNeg))))) rfl ⟨trivial, trivial, trivial, trivial, (am_in_vp ob1), (am_in_vp ob2), trivial, trivial, trivial⟩ ?_
    exact hk2 ox0 ox1 (x2 + 1) _ h
def lp_X8_copied_57_57_2  : Nat → Nat → Nat → Int32 → am_S → Option (am_S)
  | 0 => fun _ _ _ _ => none
  | n + 1 => lb_X8_copied_57_57_2  (lp_X8_copied_57_57_2  n)
theorem ll_X8_copied_57_57_2 {p : Program} {l : Launch} {e : Env} {s : State} {m : MethodId} {args : Array Value} {below : List Frame} {meth : Method} {c : Code} {G : am_G} {q : am_S} (X : am_X p s m args c cX8_copied yX8_copied.cls 3 am_p8 G (am_fr G)) (hr : meth.sig.returnType = none ∧ meth.locks = false)    : ∀ (n : Nat) (ox0 : Nat) (ox1 : Nat) (x2 : Int32) (σ : am_S), lp_X8_copied_57_57_2  n ox0 ox1 x2 σ = some q → am_A p l e (am_ro 0) s m args below meth c 3 G (am_fr G) 0 0 (MQ below (am_Qc G none q) args s 0 0 (am_fr G)) (2, [(0, am_r ox0 57 0), (1, am_r ox1 57 0), (2, am_i x2)], [], σ) := by
  intro n
  induction n with
  | zero =>
    intro ox0 ox1 x2 σ h
    have h : (none : Option (am_S)) = some q := h
    cases h
  | succ n ih =>
    intro ox0 ox1 x2 σ h
    exact lc_X8_copied_57_57_2 X hr  (lp_X8_copied_57_57_2  n) ih ox0 ox1 x2 σ h
def fn_X8_copied_57_57 (oa0 : Nat) (oa1 : Nat) (σ : am_S) : Option (am_S) :=
  lp_X8_copied_57_57_2  1000 oa0 oa1 0 (σ)
set_option maxRecDepth 100000 in
theorem ok_X8_copied_57_57 (l : Launch) (oa0 : Nat) (oa1 : Nat) (σ : am_S) {q : am_S} (h : fn_X8_copied_57_57 oa0 oa1 σ = some q) : am_M l yX8_copied cX8_copied 3 none 0 [am_r oa0 57 0, am_r oa1 57 0] σ none q := by
  refine am_M_of (P := am_p8) (by decide +kernel) am_p8_ok rfl ?_
  intro G p e s m args below meth c X hr
  have hc := ct_X8_copied
  unfold fn_X8_copied_57_57 at h
  refine am_blk hc X 0 2 (fr' := (2, [(0, am_r oa0 57 0), (1, am_r oa1 57 0), (2, am_i 0)], [], σ)) rfl ⟨trivial, trivial, trivial⟩ ?_
  exact ll_X8_copied_57_57_2 X hr   1000 oa0 oa1 0 _ h
def lb_X8_copied_58_58_2 (k2 : Nat → Nat → Int32 → am_S → Option (am_S)) (ox0 : Nat) (ox1 : Nat) (x2 : Int32) (σ : am_S) : Option (am_S) :=
  (if 6 ≤ x2 then some (σ) else (bif am_in x2 6 then (bif am_in x2 6 then k2 ox0 ox1 (x2 + 1) (am_u σ ox1 58 0 ((x2 : Int32).toNatClampNeg) (σ.1 ox0 58 0 ((x2 : Int32).toNatClampNeg))) else none) else none))
set_option maxRecDepth 100000 in
theorem lc_X8_copied_58_58_2 {p : Program} {l : Launch} {e : Env} {s : State} {m : MethodId} {args : Array Value} {below : List Frame} {meth : Method} {c : Code} {G : am_G} {q : am_S} (X : am_X p s m args c cX8_copied yX8_copied.cls 3 am_p8 G (am_fr G)) (hr : meth.sig.returnType = none ∧ meth.locks = false)  (k2 : Nat → Nat → Int32 → am_S → Option (am_S)) (hk2 : ∀ (ox0 : Nat) (ox1 : Nat) (x2 : Int32) (σ : am_S), k2 ox0 ox1 x2 σ = some q → am_A p l e (am_ro 0) s m args below meth c 3 G (am_fr G) 0 0 (MQ below (am_Qc G none q) args s 0 0 (am_fr G)) (2, [(0, am_r ox0 58 0), (1, am_r ox1 58 0), (2, am_i x2)], [], σ)) (ox0 : Nat) (ox1 : Nat) (x2 : Int32) (σ : am_S) (h : lb_X8_copied_58_58_2 k2 ox0 ox1 x2 σ = some q) : am_A p l e (am_ro 0) s m args below meth c 3 G (am_fr G) 0 0 (MQ below (am_Qc G none q) args s 0 0 (am_fr G)) (2, [(0, am_r ox0 58 0), (1, am_r ox1 58 0), (2, am_i x2)], [], σ) := by
  have hc := ct_X8_copied
  unfold lb_X8_copied_58_58_2 at h
  refine am_blk hc X 2 3 (fr' := (5, [(0, am_r ox0 58 0), (1, am_r ox1 58 0), (2, am_i x2)], [am_i 6, am_i x2], σ)) rfl ⟨trivial, trivial, trivial, trivial⟩ ?_
  refine am_icmp_ge hc X 5 (tgt := 20) rfl (by decide) (fun c3 => ?_) (fun c3 => ?_)
  · replace h := am_ip c3 h
    obtain rfl := Option.some.inj h
    exact am_vret hc X hr 14 rfl rfl rfl
  · replace h := am_in2 c3 h
    obtain ⟨ob1, h⟩ := am_ci h
    obtain ⟨ob2, h⟩ := am_ci h
    refine am_blk hc X 6 8 (fr' := (2, [(0, am_r ox0 58 0), (1, am_r ox1 58 0), (2, am_i (x2 + 1))], [], (am_u σ ox1 58 0 ((x2 : Int32).toNatClampNeg) (σ.1 ox0 58 0 ((x2 : Int32).toNatClampNeg))))) rfl ⟨trivial, trivial, trivial, trivial, (am_in_vp ob1), (am_in_vp ob2), trivial, trivial, trivial⟩ ?_
    exact hk2 ox0 ox1 (x2 + 1) _ h
def lp_X8_copied_58_58_2  : Nat → Nat → Nat → Int32 → am_S → Option (am_S)
  | 0 => fun _ _ _ _ => none
  | n + 1 => lb_X8_copied_58_58_2  (lp_X8_copied_58_58_2  n)
theorem ll_X8_copied_58_58_2 {p : Program} {l : Launch} {e : Env} {s : State} {m : MethodId} {args : Array Value} {below : List Frame} {meth : Method} {c : Code} {G : am_G} {q : am_S} (X : am_X p s m args c cX8_copied yX8_copied.cls 3 am_p8 G (am_fr G)) (hr : meth.sig.returnType = none ∧ meth.locks = false)    : ∀ (n : Nat) (ox0 : Nat) (ox1 : Nat) (x2 : Int32) (σ : am_S), lp_X8_copied_58_58_2  n ox0 ox1 x2 σ = some q → am_A p l e (am_ro 0) s m args below meth c 3 G (am_fr G) 0 0 (MQ below (am_Qc G none q) args s 0 0 (am_fr G)) (2, [(0, am_r ox0 58 0), (1, am_r ox1 58 0), (2, am_i x2)], [], σ) := by
  intro n
  induction n with
  | zero =>
    intro ox0 ox1 x2 σ h
    have h : (none : Option (am_S)) = some q := h
    cases h
  | succ n ih =>
    intro ox0 ox1 x2 σ h
    exact lc_X8_copied_58_58_2 X hr  (lp_X8_copied_58_58_2  n) ih ox0 ox1 x2 σ h
def fn_X8_copied_58_58 (oa0 : Nat) (oa1 : Nat) (σ : am_S) : Option (am_S) :=
  lp_X8_copied_58_58_2  1000 oa0 oa1 0 (σ)
set_option maxRecDepth 100000 in
theorem ok_X8_copied_58_58 (l : Launch) (oa0 : Nat) (oa1 : Nat) (σ : am_S) {q : am_S} (h : fn_X8_copied_58_58 oa0 oa1 σ = some q) : am_M l yX8_copied cX8_copied 3 none 0 [am_r oa0 58 0, am_r oa1 58 0] σ none q := by
  refine am_M_of (P := am_p8) (by decide +kernel) am_p8_ok rfl ?_
  intro G p e s m args below meth c X hr
  have hc := ct_X8_copied
  unfold fn_X8_copied_58_58 at h
  refine am_blk hc X 0 2 (fr' := (2, [(0, am_r oa0 58 0), (1, am_r oa1 58 0), (2, am_i 0)], [], σ)) rfl ⟨trivial, trivial, trivial⟩ ?_
  exact ll_X8_copied_58_58_2 X hr   1000 oa0 oa1 0 _ h
def lb_X8_copied_59_59_2 (k2 : Nat → Nat → Int32 → am_S → Option (am_S)) (ox0 : Nat) (ox1 : Nat) (x2 : Int32) (σ : am_S) : Option (am_S) :=
  (if 6 ≤ x2 then some (σ) else (bif am_in x2 6 then (bif am_in x2 6 then k2 ox0 ox1 (x2 + 1) (am_u σ ox1 59 0 ((x2 : Int32).toNatClampNeg) (σ.1 ox0 59 0 ((x2 : Int32).toNatClampNeg))) else none) else none))
set_option maxRecDepth 100000 in
theorem lc_X8_copied_59_59_2 {p : Program} {l : Launch} {e : Env} {s : State} {m : MethodId} {args : Array Value} {below : List Frame} {meth : Method} {c : Code} {G : am_G} {q : am_S} (X : am_X p s m args c cX8_copied yX8_copied.cls 3 am_p8 G (am_fr G)) (hr : meth.sig.returnType = none ∧ meth.locks = false)  (k2 : Nat → Nat → Int32 → am_S → Option (am_S)) (hk2 : ∀ (ox0 : Nat) (ox1 : Nat) (x2 : Int32) (σ : am_S), k2 ox0 ox1 x2 σ = some q → am_A p l e (am_ro 0) s m args below meth c 3 G (am_fr G) 0 0 (MQ below (am_Qc G none q) args s 0 0 (am_fr G)) (2, [(0, am_r ox0 59 0), (1, am_r ox1 59 0), (2, am_i x2)], [], σ)) (ox0 : Nat) (ox1 : Nat) (x2 : Int32) (σ : am_S) (h : lb_X8_copied_59_59_2 k2 ox0 ox1 x2 σ = some q) : am_A p l e (am_ro 0) s m args below meth c 3 G (am_fr G) 0 0 (MQ below (am_Qc G none q) args s 0 0 (am_fr G)) (2, [(0, am_r ox0 59 0), (1, am_r ox1 59 0), (2, am_i x2)], [], σ) := by
  have hc := ct_X8_copied
  unfold lb_X8_copied_59_59_2 at h
  refine am_blk hc X 2 3 (fr' := (5, [(0, am_r ox0 59 0), (1, am_r ox1 59 0), (2, am_i x2)], [am_i 6, am_i x2], σ)) rfl ⟨trivial, trivial, trivial, trivial⟩ ?_
  refine am_icmp_ge hc X 5 (tgt := 20) rfl (by decide) (fun c3 => ?_) (fun c3 => ?_)
  · replace h := am_ip c3 h
    obtain rfl := Option.some.inj h
    exact am_vret hc X hr 14 rfl rfl rfl
  · replace h := am_in2 c3 h
    obtain ⟨ob1, h⟩ := am_ci h
    obtain ⟨ob2, h⟩ := am_ci h
    refine am_blk hc X 6 8 (fr' := (2, [(0, am_r ox0 59 0), (1, am_r ox1 59 0), (2, am_i (x2 + 1))], [], (am_u σ ox1 59 0 ((x2 : Int32).toNatClampNeg) (σ.1 ox0 59 0 ((x2 : Int32).toNatClampNeg))))) rfl ⟨trivial, trivial, trivial, trivial, (am_in_vp ob1), (am_in_vp ob2), trivial, trivial, trivial⟩ ?_
    exact hk2 ox0 ox1 (x2 + 1) _ h
def lp_X8_copied_59_59_2  : Nat → Nat → Nat → Int32 → am_S → Option (am_S)
  | 0 => fun _ _ _ _ => none
  | n + 1 => lb_X8_copied_59_59_2  (lp_X8_copied_59_59_2  n)
theorem ll_X8_copied_59_59_2 {p : Program} {l : Launch} {e : Env} {s : State} {m : MethodId} {args : Array Value} {below : List Frame} {meth : Method} {c : Code} {G : am_G} {q : am_S} (X : am_X p s m args c cX8_copied yX8_copied.cls 3 am_p8 G (am_fr G)) (hr : meth.sig.returnType = none ∧ meth.locks = false)    : ∀ (n : Nat) (ox0 : Nat) (ox1 : Nat) (x2 : Int32) (σ : am_S), lp_X8_copied_59_59_2  n ox0 ox1 x2 σ = some q → am_A p l e (am_ro 0) s m args below meth c 3 G (am_fr G) 0 0 (MQ below (am_Qc G none q) args s 0 0 (am_fr G)) (2, [(0, am_r ox0 59 0), (1, am_r ox1 59 0), (2, am_i x2)], [], σ) := by
  intro n
  induction n with
  | zero =>
    intro ox0 ox1 x2 σ h
    have h : (none : Option (am_S)) = some q := h
    cases h
  | succ n ih =>
    intro ox0 ox1 x2 σ h
    exact lc_X8_copied_59_59_2 X hr  (lp_X8_copied_59_59_2  n) ih ox0 ox1 x2 σ h
def fn_X8_copied_59_59 (oa0 : Nat) (oa1 : Nat) (σ : am_S) : Option (am_S) :=
  lp_X8_copied_59_59_2  1000 oa0 oa1 0 (σ)
set_option maxRecDepth 100000 in
theorem ok_X8_copied_59_59 (l : Launch) (oa0 : Nat) (oa1 : Nat) (σ : am_S) {q : am_S} (h : fn_X8_copied_59_59 oa0 oa1 σ = some q) : am_M l yX8_copied cX8_copied 3 none 0 [am_r oa0 59 0, am_r oa1 59 0] σ none q := by
  refine am_M_of (P := am_p8) (by decide +kernel) am_p8_ok rfl ?_
  intro G p e s m args below meth c X hr
  have hc := ct_X8_copied
  unfold fn_X8_copied_59_59 at h
  refine am_blk hc X 0 2 (fr' := (2, [(0, am_r oa0 59 0), (1, am_r oa1 59 0), (2, am_i 0)], [], σ)) rfl ⟨trivial, trivial, trivial⟩ ?_
  exact ll_X8_copied_59_59_2 X hr   1000 oa0 oa1 0 _ h
def lb_X8_copied_60_60_2 (k2 : Nat → Nat → Int32 → am_S → Option (am_S)) (ox0 : Nat) (ox1 : Nat) (x2 : Int32) (σ : am_S) : Option (am_S) :=
  (if 6 ≤ x2 then some (σ) else (bif am_in x2 6 then (bif am_in x2 6 then k2 ox0 ox1 (x2 + 1) (am_u σ ox1 60 0 ((x2 : Int32).toNatClampNeg) (σ.1 ox0 60 0 ((x2 : Int32).toNatClampNeg))) else none) else none))
set_option maxRecDepth 100000 in
theorem lc_X8_copied_60_60_2 {p : Program} {l : Launch} {e : Env} {s : State} {m : MethodId} {args : Array Value} {below : List Frame} {meth : Method} {c : Code} {G : am_G} {q : am_S} (X : am_X p s m args c cX8_copied yX8_copied.cls 3 am_p8 G (am_fr G)) (hr : meth.sig.returnType = none ∧ meth.locks = false)  (k2 : Nat → Nat → Int32 → am_S → Option (am_S)) (hk2 : ∀ (ox0 : Nat) (ox1 : Nat) (x2 : Int32) (σ : am_S), k2 ox0 ox1 x2 σ = some q → am_A p l e (am_ro 0) s m args below meth c 3 G (am_fr G) 0 0 (MQ below (am_Qc G none q) args s 0 0 (am_fr G)) (2, [(0, am_r ox0 60 0), (1, am_r ox1 60 0), (2, am_i x2)], [], σ)) (ox0 : Nat) (ox1 : Nat) (x2 : Int32) (σ : am_S) (h : lb_X8_copied_60_60_2 k2 ox0 ox1 x2 σ = some q) : am_A p l e (am_ro 0) s m args below meth c 3 G (am_fr G) 0 0 (MQ below (am_Qc G none q) args s 0 0 (am_fr G)) (2, [(0, am_r ox0 60 0), (1, am_r ox1 60 0), (2, am_i x2)], [], σ) := by
  have hc := ct_X8_copied
  unfold lb_X8_copied_60_60_2 at h
  refine am_blk hc X 2 3 (fr' := (5, [(0, am_r ox0 60 0), (1, am_r ox1 60 0), (2, am_i x2)], [am_i 6, am_i x2], σ)) rfl ⟨trivial, trivial, trivial, trivial⟩ ?_
  refine am_icmp_ge hc X 5 (tgt := 20) rfl (by decide) (fun c3 => ?_) (fun c3 => ?_)
  · replace h := am_ip c3 h
    obtain rfl := Option.some.inj h
    exact am_vret hc X hr 14 rfl rfl rfl
  · replace h := am_in2 c3 h
    obtain ⟨ob1, h⟩ := am_ci h
    obtain ⟨ob2, h⟩ := am_ci h
    refine am_blk hc X 6 8 (fr' := (2, [(0, am_r ox0 60 0), (1, am_r ox1 60 0), (2, am_i (x2 + 1))], [], (am_u σ ox1 60 0 ((x2 : Int32).toNatClampNeg) (σ.1 ox0 60 0 ((x2 : Int32).toNatClampNeg))))) rfl ⟨trivial, trivial, trivial, trivial, (am_in_vp ob1), (am_in_vp ob2), trivial, trivial, trivial⟩ ?_
    exact hk2 ox0 ox1 (x2 + 1) _ h
def lp_X8_copied_60_60_2  : Nat → Nat → Nat → Int32 → am_S → Option (am_S)
  | 0 => fun _ _ _ _ => none
  | n + 1 => lb_X8_copied_60_60_2  (lp_X8_copied_60_60_2  n)
theorem ll_X8_copied_60_60_2 {p : Program} {l : Launch} {e : Env} {s : State} {m : MethodId} {args : Array Value} {below : List Frame} {meth : Method} {c : Code} {G : am_G} {q : am_S} (X : am_X p s m args c cX8_copied yX8_copied.cls 3 am_p8 G (am_fr G)) (hr : meth.sig.returnType = none ∧ meth.locks = false)    : ∀ (n : Nat) (ox0 : Nat) (ox1 : Nat) (x2 : Int32) (σ : am_S), lp_X8_copied_60_60_2  n ox0 ox1 x2 σ = some q → am_A p l e (am_ro 0) s m args below meth c 3 G (am_fr G) 0 0 (MQ below (am_Qc G none q) args s 0 0 (am_fr G)) (2, [(0, am_r ox0 60 0), (1, am_r ox1 60 0), (2, am_i x2)], [], σ) := by
  intro n
  induction n with
  | zero =>
    intro ox0 ox1 x2 σ h
    have h : (none : Option (am_S)) = some q := h
    cases h
  | succ n ih =>
    intro ox0 ox1 x2 σ h
    exact lc_X8_copied_60_60_2 X hr  (lp_X8_copied_60_60_2  n) ih ox0 ox1 x2 σ h
def fn_X8_copied_60_60 (oa0 : Nat) (oa1 : Nat) (σ : am_S) : Option (am_S) :=
  lp_X8_copied_60_60_2  1000 oa0 oa1 0 (σ)
set_option maxRecDepth 100000 in
theorem ok_X8_copied_60_60 (l : Launch) (oa0 : Nat) (oa1 : Nat) (σ : am_S) {q : am_S} (h : fn_X8_copied_60_60 oa0 oa1 σ = some q) : am_M l yX8_copied cX8_copied 3 none 0 [am_r oa0 60 0, am_r oa1 60 0] σ none q := by
  refine am_M_of (P := am_p8) (by decide +kernel) am_p8_ok rfl ?_
  intro G p e s m args below meth c X hr
  have hc := ct_X8_copied
  unfold fn_X8_copied_60_60 at h
  refine am_blk hc X 0 2 (fr' := (2, [(0, am_r oa0 60 0), (1, am_r oa1 60 0), (2, am_i 0)], [], σ)) rfl ⟨trivial, trivial, trivial⟩ ?_
  exact ll_X8_copied_60_60_2 X hr   1000 oa0 oa1 0 _ h
def lb_X8_copied_61_61_2 (k2 : Nat → Nat → Int32 → am_S → Option (am_S)) (ox0 : Nat) (ox1 : Nat) (x2 : Int32) (σ : am_S) : Option (am_S) :=
  (if 6 ≤ x2 then some (σ) else (bif am_in x2 6 then (bif am_in x2 6 then k2 ox0 ox1 (x2 + 1) (am_u σ ox1 61 0 ((x2 : Int32).toNatClampNeg) (σ.1 ox0 61 0 ((x2 : Int32).toNatClampNeg))) else none) else none))
set_option maxRecDepth 100000 in
theorem lc_X8_copied_61_61_2 {p : Program} {l : Launch} {e : Env} {s : State} {m : MethodId} {args : Array Value} {below : List Frame} {meth : Method} {c : Code} {G : am_G} {q : am_S} (X : am_X p s m args c cX8_copied yX8_copied.cls 3 am_p8 G (am_fr G)) (hr : meth.sig.returnType = none ∧ meth.locks = false)  (k2 : Nat → Nat → Int32 → am_S → Option (am_S)) (hk2 : ∀ (ox0 : Nat) (ox1 : Nat) (x2 : Int32) (σ : am_S), k2 ox0 ox1 x2 σ = some q → am_A p l e (am_ro 0) s m args below meth c 3 G (am_fr G) 0 0 (MQ below (am_Qc G none q) args s 0 0 (am_fr G)) (2, [(0, am_r ox0 61 0), (1, am_r ox1 61 0), (2, am_i x2)], [], σ)) (ox0 : Nat) (ox1 : Nat) (x2 : Int32) (σ : am_S) (h : lb_X8_copied_61_61_2 k2 ox0 ox1 x2 σ = some q) : am_A p l e (am_ro 0) s m args below meth c 3 G (am_fr G) 0 0 (MQ below (am_Qc G none q) args s 0 0 (am_fr G)) (2, [(0, am_r ox0 61 0), (1, am_r ox1 61 0), (2, am_i x2)], [], σ) := by
  have hc := ct_X8_copied
  unfold lb_X8_copied_61_61_2 at h
  refine am_blk hc X 2 3 (fr' := (5, [(0, am_r ox0 61 0), (1, am_r ox1 61 0), (2, am_i x2)], [am_i 6, am_i x2], σ)) rfl ⟨trivial, trivial, trivial, trivial⟩ ?_
  refine am_icmp_ge hc X 5 (tgt := 20) rfl (by decide) (fun c3 => ?_) (fun c3 => ?_)
  · replace h := am_ip c3 h
    obtain rfl := Option.some.inj h
    exact am_vret hc X hr 14 rfl rfl rfl
  · replace h := am_in2 c3 h
    obtain ⟨ob1, h⟩ := am_ci h
    obtain ⟨ob2, h⟩ := am_ci h
    refine am_blk hc X 6 8 (fr' := (2, [(0, am_r ox0 61 0), (1, am_r ox1 61 0), (2, am_i (x2 + 1))], [], (am_u σ ox1 61 0 ((x2 : Int32).toNatClampNeg) (σ.1 ox0 61 0 ((x2 : Int32).toNatClampNeg))))) rfl ⟨trivial, trivial, trivial, trivial, (am_in_vp ob1), (am_in_vp ob2), trivial, trivial, trivial⟩ ?_
    exact hk2 ox0 ox1 (x2 + 1) _ h
def lp_X8_copied_61_61_2  : Nat → Nat → Nat → Int32 → am_S → Option (am_S)
  | 0 => fun _ _ _ _ => none
  | n + 1 => lb_X8_copied_61_61_2  (lp_X8_copied_61_61_2  n)
theorem ll_X8_copied_61_61_2 {p : Program} {l : Launch} {e : Env} {s : State} {m : MethodId} {args : Array Value} {below : List Frame} {meth : Method} {c : Code} {G : am_G} {q : am_S} (X : am_X p s m args c cX8_copied yX8_copied.cls 3 am_p8 G (am_fr G)) (hr : meth.sig.returnType = none ∧ meth.locks = false)    : ∀ (n : Nat) (ox0 : Nat) (ox1 : Nat) (x2 : Int32) (σ : am_S), lp_X8_copied_61_61_2  n ox0 ox1 x2 σ = some q → am_A p l e (am_ro 0) s m args below meth c 3 G (am_fr G) 0 0 (MQ below (am_Qc G none q) args s 0 0 (am_fr G)) (2, [(0, am_r ox0 61 0), (1, am_r ox1 61 0), (2, am_i x2)], [], σ) := by
  intro n
  induction n with
  | zero =>
    intro ox0 ox1 x2 σ h
    have h : (none : Option (am_S)) = some q := h
    cases h
  | succ n ih =>
    intro ox0 ox1 x2 σ h
    exact lc_X8_copied_61_61_2 X hr  (lp_X8_copied_61_61_2  n) ih ox0 ox1 x2 σ h
def fn_X8_copied_61_61 (oa0 : Nat) (oa1 : Nat) (σ : am_S) : Option (am_S) :=
  lp_X8_copied_61_61_2  1000 oa0 oa1 0 (σ)
set_option maxRecDepth 100000 in
theorem ok_X8_copied_61_61 (l : Launch) (oa0 : Nat) (oa1 : Nat) (σ : am_S) {q : am_S} (h : fn_X8_copied_61_61 oa0 oa1 σ = some q) : am_M l yX8_copied cX8_copied 3 none 0 [am_r oa0 61 0, am_r oa1 61 0] σ none q := by
  refine am_M_of (P := am_p8) (by decide +kernel) am_p8_ok rfl ?_
  intro G p e s m args below meth c X hr
  have hc := ct_X8_copied
  unfold fn_X8_copied_61_61 at h
  refine am_blk hc X 0 2 (fr' := (2, [(0, am_r oa0 61 0), (1, am_r oa1 61 0), (2, am_i 0)], [], σ)) rfl ⟨trivial, trivial, trivial⟩ ?_
  exact ll_X8_copied_61_61_2 X hr   1000 oa0 oa1 0 _ h
def lb_X8_copied_62_62_2 (k2 : Nat → Nat → Int32 → am_S → Option (am_S)) (ox0 : Nat) (ox1 : Nat) (x2 : Int32) (σ : am_S) : Option (am_S) :=
  (if 6 ≤ x2 then some (σ) else (bif am_in x2 6 then (bif am_in x2 6 then k2 ox0 ox1 (x2 + 1) (am_u σ ox1 62 0 ((x2 : Int32).toNatClampNeg) (σ.1 ox0 62 0 ((x2 : Int32).toNatClampNeg))) else none) else none))
set_option maxRecDepth 100000 in
theorem lc_X8_copied_62_62_2 {p : Program} {l : Launch} {e : Env} {s : State} {m : MethodId} {args : Array Value} {below : List Frame} {meth : Method} {c : Code} {G : am_G} {q : am_S} (X : am_X p s m args c cX8_copied yX8_copied.cls 3 am_p8 G (am_fr G)) (hr : meth.sig.returnType = none ∧ meth.locks = false)  (k2 : Nat → Nat → Int32 → am_S → Option (am_S)) (hk2 : ∀ (ox0 : Nat) (ox1 : Nat) (x2 : Int32) (σ : am_S), k2 ox0 ox1 x2 σ = some q → am_A p l e (am_ro 0) s m args below meth c 3 G (am_fr G) 0 0 (MQ below (am_Qc G none q) args s 0 0 (am_fr G)) (2, [(0, am_r ox0 62 0), (1, am_r ox1 62 0), (2, am_i x2)], [], σ)) (ox0 : Nat) (ox1 : Nat) (x2 : Int32) (σ : am_S) (h : lb_X8_copied_62_62_2 k2 ox0 ox1 x2 σ = some q) : am_A p l e (am_ro 0) s m args below meth c 3 G (am_fr G) 0 0 (MQ below (am_Qc G none q) args s 0 0 (am_fr G)) (2, [(0, am_r ox0 62 0), (1, am_r ox1 62 0), (2, am_i x2)], [], σ) := by
  have hc := ct_X8_copied
  unfold lb_X8_copied_62_62_2 at h
  refine am_blk hc X 2 3 (fr' := (5, [(0, am_r ox0 62 0), (1, am_r ox1 62 0), (2, am_i x2)], [am_i 6, am_i x2], σ)) rfl ⟨trivial, trivial, trivial, trivial⟩ ?_
  refine am_icmp_ge hc X 5 (tgt := 20) rfl (by decide) (fun c3 => ?_) (fun c3 => ?_)
  · replace h := am_ip c3 h
    obtain rfl := Option.some.inj h
    exact am_vret hc X hr 14 rfl rfl rfl
  · replace h := am_in2 c3 h
    obtain ⟨ob1, h⟩ := am_ci h
    obtain ⟨ob2, h⟩ := am_ci h
    refine am_blk hc X 6 8 (fr' := (2, [(0, am_r ox0 62 0), (1, am_r ox1 62 0), (2, am_i (x2 + 1))], [], (am_u σ ox1 62 0 ((x2 : Int32).toNatClampNeg) (σ.1 ox0 62 0 ((x2 : Int32).toNatClampNeg))))) rfl ⟨trivial, trivial, trivial, trivial, (am_in_vp ob1), (am_in_vp ob2), trivial, trivial, trivial⟩ ?_
    exact hk2 ox0 ox1 (x2 + 1) _ h
def lp_X8_copied_62_62_2  : Nat → Nat → Nat → Int32 → am_S → Option (am_S)
  | 0 => fun _ _ _ _ => none
  | n + 1 => lb_X8_copied_62_62_2  (lp_X8_copied_62_62_2  n)
theorem ll_X8_copied_62_62_2 {p : Program} {l : Launch} {e : Env} {s : State} {m : MethodId} {args : Array Value} {below : List Frame} {meth : Method} {c : Code} {G : am_G} {q : am_S} (X : am_X p s m args c cX8_copied yX8_copied.cls 3 am_p8 G (am_fr G)) (hr : meth.sig.returnType = none ∧ meth.locks = false)    : ∀ (n : Nat) (ox0 : Nat) (ox1 : Nat) (x2 : Int32) (σ : am_S), lp_X8_copied_62_62_2  n ox0 ox1 x2 σ = some q → am_A p l e (am_ro 0) s m args below meth c 3 G (am_fr G) 0 0 (MQ below (am_Qc G none q) args s 0 0 (am_fr G)) (2, [(0, am_r ox0 62 0), (1, am_r ox1 62 0), (2, am_i x2)], [], σ) := by
  intro n
  induction n with
  | zero =>
    intro ox0 ox1 x2 σ h
    have h : (none : Option (am_S)) = some q := h
    cases h
  | succ n ih =>
    intro ox0 ox1 x2 σ h
    exact lc_X8_copied_62_62_2 X hr  (lp_X8_copied_62_62_2  n) ih ox0 ox1 x2 σ h
def fn_X8_copied_62_62 (oa0 : Nat) (oa1 : Nat) (σ : am_S) : Option (am_S) :=
  lp_X8_copied_62_62_2  1000 oa0 oa1 0 (σ)
set_option maxRecDepth 100000 in
theorem ok_X8_copied_62_62 (l : Launch) (oa0 : Nat) (oa1 : Nat) (σ : am_S) {q : am_S} (h : fn_X8_copied_62_62 oa0 oa1 σ = some q) : am_M l yX8_copied cX8_copied 3 none 0 [am_r oa0 62 0, am_r oa1 62 0] σ none q := by
  refine am_M_of (P := am_p8) (by decide +kernel) am_p8_ok rfl ?_
  intro G p e s m args below meth c X hr
  have hc := ct_X8_copied
  unfold fn_X8_copied_62_62 at h
  refine am_blk hc X 0 2 (fr' := (2, [(0, am_r oa0 62 0), (1, am_r oa1 62 0), (2, am_i 0)], [], σ)) rfl ⟨trivial, trivial, trivial⟩ ?_
  exact ll_X8_copied_62_62_2 X hr   1000 oa0 oa1 0 _ h
def lb_X8_copied_54_54_2 (k2 : Nat → Nat → Nat → Nat → Int32 → am_S → Option (am_S)) (ox0 : Nat) (ix0 : Nat) (ox1 : Nat) (ix1 : Nat) (x2 : Int32) (σ : am_S) : Option (am_S) :=
  (if 4 ≤ x2 then some (σ) else (bif am_in x2 4 then (bif am_in x2 4 then k2 ox0 ix0 ox1 ix1 (x2 + 1) (am_u σ ox1 54 ix1 ((x2 : Int32).toNatClampNeg) (σ.1 ox0 54 ix0 ((x2 : Int32).toNatClampNeg))) else none) else none))
set_option maxRecDepth 100000 in
theorem lc_X8_copied_54_54_2 {p : Program} {l : Launch} {e : Env} {s : State} {m : MethodId} {args : Array Value} {below : List Frame} {meth : Method} {c : Code} {G : am_G} {q : am_S} (X : am_X p s m args c cX8_copied yX8_copied.cls 3 am_p8 G (am_fr G)) (hr : meth.sig.returnType = none ∧ meth.locks = false)  (k2 : Nat → Nat → Nat → Nat → Int32 → am_S → Option (am_S)) (hk2 : ∀ (ox0 : Nat) (ix0 : Nat) (ox1 : Nat) (ix1 : Nat) (x2 : Int32) (σ : am_S), k2 ox0 ix0 ox1 ix1 x2 σ = some q → am_A p l e (am_ro 0) s m args below meth c 3 G (am_fr G) 0 0 (MQ below (am_Qc G none q) args s 0 0 (am_fr G)) (2, [(0, am_r ox0 54 ix0), (1, am_r ox1 54 ix1), (2, am_i x2)], [], σ)) (ox0 : Nat) (ix0 : Nat) (ox1 : Nat) (ix1 : Nat) (x2 : Int32) (σ : am_S) (h : lb_X8_copied_54_54_2 k2 ox0 ix0 ox1 ix1 x2 σ = some q) : am_A p l e (am_ro 0) s m args below meth c 3 G (am_fr G) 0 0 (MQ below (am_Qc G none q) args s 0 0 (am_fr G)) (2, [(0, am_r ox0 54 ix0), (1, am_r ox1 54 ix1), (2, am_i x2)], [], σ) := by
  have hc := ct_X8_copied
  unfold lb_X8_copied_54_54_2 at h
  refine am_blk hc X 2 3 (fr' := (5, [(0, am_r ox0 54 ix0), (1, am_r ox1 54 ix1), (2, am_i x2)], [am_i 4, am_i x2], σ)) rfl ⟨trivial, trivial, trivial, trivial⟩ ?_
  refine am_icmp_ge hc X 5 (tgt := 20) rfl (by decide) (fun c3 => ?_) (fun c3 => ?_)
  · replace h := am_ip c3 h
    obtain rfl := Option.some.inj h
    exact am_vret hc X hr 14 rfl rfl rfl
  · replace h := am_in2 c3 h
    obtain ⟨ob1, h⟩ := am_ci h
    obtain ⟨ob2, h⟩ := am_ci h
    refine am_blk hc X 6 8 (fr' := (2, [(0, am_r ox0 54 ix0), (1, am_r ox1 54 ix1), (2, am_i (x2 + 1))], [], (am_u σ ox1 54 ix1 ((x2 : Int32).toNatClampNeg) (σ.1 ox0 54 ix0 ((x2 : Int32).toNatClampNeg))))) rfl ⟨trivial, trivial, trivial, trivial, (am_in_vp ob1), (am_in_vp ob2), trivial, trivial, trivial⟩ ?_
    exact hk2 ox0 ix0 ox1 ix1 (x2 + 1) _ h
def lp_X8_copied_54_54_2  : Nat → Nat → Nat → Nat → Nat → Int32 → am_S → Option (am_S)
  | 0 => fun _ _ _ _ _ _ => none
  | n + 1 => lb_X8_copied_54_54_2  (lp_X8_copied_54_54_2  n)
theorem ll_X8_copied_54_54_2 {p : Program} {l : Launch} {e : Env} {s : State} {m : MethodId} {args : Array Value} {below : List Frame} {meth : Method} {c : Code} {G : am_G} {q : am_S} (X : am_X p s m args c cX8_copied yX8_copied.cls 3 am_p8 G (am_fr G)) (hr : meth.sig.returnType = none ∧ meth.locks = false)    : ∀ (n : Nat) (ox0 : Nat) (ix0 : Nat) (ox1 : Nat) (ix1 : Nat) (x2 : Int32) (σ : am_S), lp_X8_copied_54_54_2  n ox0 ix0 ox1 ix1 x2 σ = some q → am_A p l e (am_ro 0) s m args below meth c 3 G (am_fr G) 0 0 (MQ below (am_Qc G none q) args s 0 0 (am_fr G)) (2, [(0, am_r ox0 54 ix0), (1, am_r ox1 54 ix1), (2, am_i x2)], [], σ) := by
  intro n
  induction n with
  | zero =>
    intro ox0 ix0 ox1 ix1 x2 σ h
    have h : (none : Option (am_S)) = some q := h
    cases h
  | succ n ih =>
    intro ox0 ix0 ox1 ix1 x2 σ h
    exact lc_X8_copied_54_54_2 X hr  (lp_X8_copied_54_54_2  n) ih ox0 ix0 ox1 ix1 x2 σ h
def fn_X8_copied_54_54 (oa0 : Nat) (ia0 : Nat) (oa1 : Nat) (ia1 : Nat) (σ : am_S) : Option (am_S) :=
  lp_X8_copied_54_54_2  1000 oa0 ia0 oa1 ia1 0 (σ)
set_option maxRecDepth 100000 in
theorem ok_X8_copied_54_54 (l : Launch) (oa0 : Nat) (ia0 : Nat) (oa1 : Nat) (ia1 : Nat) (σ : am_S) {q : am_S} (h : fn_X8_copied_54_54 oa0 ia0 oa1 ia1 σ = some q) : am_M l yX8_copied cX8_copied 3 none 0 [am_r oa0 54 ia0, am_r oa1 54 ia1] σ none q := by
  refine am_M_of (P := am_p8) (by decide +kernel) am_p8_ok rfl ?_
  intro G p e s m args below meth c X hr
  have hc := ct_X8_copied
  unfold fn_X8_copied_54_54 at h
  refine am_blk hc X 0 2 (fr' := (2, [(0, am_r oa0 54 ia0), (1, am_r oa1 54 ia1), (2, am_i 0)], [], σ)) rfl ⟨trivial, trivial, trivial⟩ ?_
  exact ll_X8_copied_54_54_2 X hr   1000 oa0 ia0 oa1 ia1 0 _ h
def lb_X8_takeFrom_51 (k51 : Nat → Nat → Int32 → am_S → Option (am_S)) (ox0 : Nat) (ox1 : Nat) (x2 : Int32) (σ : am_S) : Option (am_S) :=
  (if 3 ≤ x2 then (fn_X8_copied_55_55 ox1 ox0 (am_u σ ox0 40 0 15 (σ.1 ox1 40 0 15))).bind fun q7 => (fn_X8_copied_56_56 ox1 ox0 q7).bind fun q9 => (fn_X8_copied_57_57 ox1 ox0 q9).bind fun q11 => (fn_X8_copied_58_58 ox1 ox0 q11).bind fun q13 => (fn_X8_copied_59_59 ox1 ox0 q13).bind fun q15 => (fn_X8_copied_60_60 ox1 ox0 q15).bind fun q17 => (fn_X8_copied_61_61 ox1 ox0 q17).bind fun q19 => (fn_X8_copied_62_62 ox1 ox0 q19).bind fun q21 => some (am_u (am_u q21 ox0 40 0 24 (q21.1 ox1 40 0 24)) ox0 40 0 25 (q21.1 ox1 40 0 25)) else (bif am_in x2 3 then (bif am_in x2 3 then (fn_X8_copied_54_54 ox1 ((x2 : Int32).toNatClampNeg) ox0 ((x2 : Int32).toNatClampNeg) (σ)).bind fun q25 => k51 ox0 ox1 (x2 + 1) q25 else none) else none))
set_option maxRecDepth 100000 in
theorem lc_X8_takeFrom_51 {p : Program} {l : Launch} {e : Env} {s : State} {m : MethodId} {args : Array Value} {below : List Frame} {meth : Method} {c : Code} {G : am_G} {q : am_S} (X : am_X p s m args c cX8_takeFrom yX8_takeFrom.cls 3 am_p8 G (am_fr G)) (hr : meth.sig.returnType = none ∧ meth.locks = false)  (k51 : Nat → Nat → Int32 → am_S → Option (am_S)) (hk51 : ∀ (ox0 : Nat) (ox1 : Nat) (x2 : Int32) (σ : am_S), k51 ox0 ox1 x2 σ = some q → am_A p l e (am_ro 1) s m args below meth c 3 G (am_fr G) 0 0 (MQ below (am_Qc G none q) args s 0 0 (am_fr G)) (51, [(0, am_r ox0 40 0), (1, am_r ox1 40 0), (2, am_i x2)], [], σ)) (ox0 : Nat) (ox1 : Nat) (x2 : Int32) (σ : am_S) (h : lb_X8_takeFrom_51 k51 ox0 ox1 x2 σ = some q) : am_A p l e (am_ro 1) s m args below meth c 3 G (am_fr G) 0 0 (MQ below (am_Qc G none q) args s 0 0 (am_fr G)) (51, [(0, am_r ox0 40 0), (1, am_r ox1 40 0), (2, am_i x2)], [], σ) := by
  have hc := ct_X8_takeFrom
  unfold lb_X8_takeFrom_51 at h
  refine am_blk hc X 25 2 (fr' := (53, [(0, am_r ox0 40 0), (1, am_r ox1 40 0), (2, am_i x2)], [am_i 3, am_i x2], σ)) rfl ⟨trivial, trivial, trivial⟩ ?_
  refine am_icmp_ge hc X 27 (tgt := 77) rfl (by decide) (fun c27 => ?_) (fun c27 => ?_)
  · replace h := am_ip c27 h
    refine am_blk hc X 39 8 (fr' := (93, [(0, am_r ox0 40 0), (1, am_r ox1 40 0), (2, am_i x2)], [am_r ox0 55 0, am_r ox1 55 0], (am_u σ ox0 40 0 15 (σ.1 ox1 40 0 15)))) rfl ⟨trivial, trivial, trivial, trivial, trivial, trivial, trivial, trivial, trivial⟩ ?_
    obtain ⟨q7, hq8, h⟩ := am_bs h
    refine am_callS hc 47 X (As := [am_r ox1 55 0, am_r ox0 55 0]) (rest := []) rfl (ok_X8_copied_55_55 l ox1 ox0 (am_u σ ox0 40 0 15 (σ.1 ox1 40 0 15)) hq8) yv_X8_copied ml_X8_307 rfl rfl rfl rfl rfl ?_
    refine am_blk hc X 48 4 (fr' := (104, [(0, am_r ox0 40 0), (1, am_r ox1 40 0), (2, am_i x2)], [am_r ox0 56 0, am_r ox1 56 0], q7)) rfl ⟨trivial, trivial, trivial, trivial, trivial⟩ ?_
    obtain ⟨q9, hq10, h⟩ := am_bs h
    refine am_callS hc 52 X (As := [am_r ox1 56 0, am_r ox0 56 0]) (rest := []) rfl (ok_X8_copied_56_56 l ox1 ox0 q7 hq10) yv_X8_copied ml_X8_307 rfl rfl rfl rfl rfl ?_
    refine am_blk hc X 53 4 (fr' := (115, [(0, am_r ox0 40 0), (1, am_r ox1 40 0), (2, am_i x2)], [am_r ox0 57 0, am_r ox1 57 0], q9)) rfl ⟨trivial, trivial, trivial, trivial, trivial⟩ ?_
    obtain ⟨q11, hq12, h⟩ := am_bs h
    refine am_callS hc 57 X (As := [am_r ox1 57 0, am_r ox0 57 0]) (rest := []) rfl (ok_X8_copied_57_57 l ox1 ox0 q9 hq12) yv_X8_copied ml_X8_307 rfl rfl rfl rfl rfl ?_
    refine am_blk hc X 58 4 (fr' := (126, [(0, am_r ox0 40 0), (1, am_r ox1 40 0), (2, am_i x2)], [am_r ox0 58 0, am_r ox1 58 0], q11)) rfl ⟨trivial, trivial, trivial, trivial, trivial⟩ ?_
    obtain ⟨q13, hq14, h⟩ := am_bs h
    refine am_callS hc 62 X (As := [am_r ox1 58 0, am_r ox0 58 0]) (rest := []) rfl (ok_X8_copied_58_58 l ox1 ox0 q11 hq14) yv_X8_copied ml_X8_307 rfl rfl rfl rfl rfl ?_
    refine am_blk hc X 63 4 (fr' := (137, [(0, am_r ox0 40 0), (1, am_r ox1 40 0), (2, am_i x2)], [am_r ox0 59 0, am_r ox1 59 0], q13)) rfl ⟨trivial, trivial, trivial, trivial, trivial⟩ ?_
    obtain ⟨q15, hq16, h⟩ := am_bs h
    refine am_callS hc 67 X (As := [am_r ox1 59 0, am_r ox0 59 0]) (rest := []) rfl (ok_X8_copied_59_59 l ox1 ox0 q13 hq16) yv_X8_copied ml_X8_307 rfl rfl rfl rfl rfl ?_
    refine am_blk hc X 68 4 (fr' := (148, [(0, am_r ox0 40 0), (1, am_r ox1 40 0), (2, am_i x2)], [am_r ox0 60 0, am_r ox1 60 0], q15)) rfl ⟨trivial, trivial, trivial, trivial, trivial⟩ ?_
    obtain ⟨q17, hq18, h⟩ := am_bs h
    refine am_callS hc 72 X (As := [am_r ox1 60 0, am_r ox0 60 0]) (rest := []) rfl (ok_X8_copied_60_60 l ox1 ox0 q15 hq18) yv_X8_copied ml_X8_307 rfl rfl rfl rfl rfl ?_
    refine am_blk hc X 73 4 (fr' := (159, [(0, am_r ox0 40 0), (1, am_r ox1 40 0), (2, am_i x2)], [am_r ox0 61 0, am_r ox1 61 0], q17)) rfl ⟨trivial, trivial, trivial, trivial, trivial⟩ ?_
    obtain ⟨q19, hq20, h⟩ := am_bs h
    refine am_callS hc 77 X (As := [am_r ox1 61 0, am_r ox0 61 0]) (rest := []) rfl (ok_X8_copied_61_61 l ox1 ox0 q17 hq20) yv_X8_copied ml_X8_307 rfl rfl rfl rfl rfl ?_
    refine am_blk hc X 78 4 (fr' := (170, [(0, am_r ox0 40 0), (1, am_r ox1 40 0), (2, am_i x2)], [am_r ox0 62 0, am_r ox1 62 0], q19)) rfl ⟨trivial, trivial, trivial, trivial, trivial⟩ ?_
    obtain ⟨q21, hq22, h⟩ := am_bs h
    refine am_callS hc 82 X (As := [am_r ox1 62 0, am_r ox0 62 0]) (rest := []) rfl (ok_X8_copied_62_62 l ox1 ox0 q19 hq22) yv_X8_copied ml_X8_307 rfl rfl rfl rfl rfl ?_
    refine am_blk hc X 83 8 (fr' := (189, [(0, am_r ox0 40 0), (1, am_r ox1 40 0), (2, am_i x2)], [], (am_u (am_u q21 ox0 40 0 24 (q21.1 ox1 40 0 24)) ox0 40 0 25 (q21.1 ox1 40 0 25)))) rfl ⟨trivial, trivial, trivial, trivial, trivial, trivial, trivial, trivial, trivial⟩ ?_
    obtain rfl := Option.some.inj h
    exact am_vret hc X hr 91 rfl rfl rfl
  · replace h := am_in2 c27 h
    obtain ⟨ob23, h⟩ := am_ci h
    obtain ⟨ob24, h⟩ := am_ci h
    refine am_blk hc X 28 8 (fr' := (68, [(0, am_r ox0 40 0), (1, am_r ox1 40 0), (2, am_i x2)], [am_r ox0 54 ((x2 : Int32).toNatClampNeg), am_r ox1 54 ((x2 : Int32).toNatClampNeg)], σ)) rfl ⟨trivial, trivial, trivial, (am_in_vp ob23), trivial, trivial, trivial, (am_in_vp ob24), trivial⟩ ?_
    obtain ⟨q25, hq26, h⟩ := am_bs h
    refine am_callS hc 36 X (As := [am_r ox1 54 ((x2 : Int32).toNatClampNeg), am_r ox0 54 ((x2 : Int32).toNatClampNeg)]) (rest := []) rfl (ok_X8_copied_54_54 l ox1 ((x2 : Int32).toNatClampNeg) ox0 ((x2 : Int32).toNatClampNeg) (σ) hq26) yv_X8_copied ml_X8_307 rfl rfl rfl rfl rfl ?_
    refine am_blk hc X 37 2 (fr' := (51, [(0, am_r ox0 40 0), (1, am_r ox1 40 0), (2, am_i (x2 + 1))], [], q25)) rfl ⟨trivial, trivial, trivial⟩ ?_
    exact hk51 ox0 ox1 (x2 + 1) _ h
def lp_X8_takeFrom_51  : Nat → Nat → Nat → Int32 → am_S → Option (am_S)
  | 0 => fun _ _ _ _ => none
  | n + 1 => lb_X8_takeFrom_51  (lp_X8_takeFrom_51  n)
theorem ll_X8_takeFrom_51 {p : Program} {l : Launch} {e : Env} {s : State} {m : MethodId} {args : Array Value} {below : List Frame} {meth : Method} {c : Code} {G : am_G} {q : am_S} (X : am_X p s m args c cX8_takeFrom yX8_takeFrom.cls 3 am_p8 G (am_fr G)) (hr : meth.sig.returnType = none ∧ meth.locks = false)    : ∀ (n : Nat) (ox0 : Nat) (ox1 : Nat) (x2 : Int32) (σ : am_S), lp_X8_takeFrom_51  n ox0 ox1 x2 σ = some q → am_A p l e (am_ro 1) s m args below meth c 3 G (am_fr G) 0 0 (MQ below (am_Qc G none q) args s 0 0 (am_fr G)) (51, [(0, am_r ox0 40 0), (1, am_r ox1 40 0), (2, am_i x2)], [], σ) := by
  intro n
  induction n with
  | zero =>
    intro ox0 ox1 x2 σ h
    have h : (none : Option (am_S)) = some q := h
    cases h
  | succ n ih =>
    intro ox0 ox1 x2 σ h
    exact lc_X8_takeFrom_51 X hr  (lp_X8_takeFrom_51  n) ih ox0 ox1 x2 σ h
def fn_X8_takeFrom (oa0 : Nat) (oa1 : Nat) (σ : am_S) : Option (am_S) :=
  (fn_X8_copied_50_50 oa1 oa0 (σ)).bind fun q1 => (fn_X8_copied_51_51 oa1 oa0 q1).bind fun q3 => (fn_X8_copied_52_52 oa1 oa0 q3).bind fun q5 => lp_X8_takeFrom_51  1000 oa0 oa1 0 (am_u (am_u q5 oa0 40 0 12 (q5.1 oa1 40 0 12)) oa0 40 0 13 (q5.1 oa1 40 0 13))
set_option maxRecDepth 100000 in
theorem ok_X8_takeFrom (l : Launch) (oa0 : Nat) (oa1 : Nat) (σ : am_S) {q : am_S} (h : fn_X8_takeFrom oa0 oa1 σ = some q) : am_M l yX8_takeFrom cX8_takeFrom 3 none 1 [am_r oa0 40 0, am_r oa1 40 0] σ none q := by
  refine am_M_of (P := am_p8) (by decide +kernel) am_p8_ok rfl ?_
  intro G p e s m args below meth c X hr
  have hc := ct_X8_takeFrom
  unfold fn_X8_takeFrom at h
  refine am_blk hc X 0 4 (fr' := (8, [(0, am_r oa0 40 0), (1, am_r oa1 40 0)], [am_r oa0 50 0, am_r oa1 50 0], σ)) rfl ⟨trivial, trivial, trivial, trivial, trivial⟩ ?_
  obtain ⟨q1, hq2, h⟩ := am_bs h
  refine am_callS hc 4 X (As := [am_r oa1 50 0, am_r oa0 50 0]) (rest := []) rfl (ok_X8_copied_50_50 l oa1 oa0 (σ) hq2) yv_X8_copied ml_X8_307 rfl rfl rfl rfl rfl ?_
  refine am_blk hc X 5 4 (fr' := (19, [(0, am_r oa0 40 0), (1, am_r oa1 40 0)], [am_r oa0 51 0, am_r oa1 51 0], q1)) rfl ⟨trivial, trivial, trivial, trivial, trivial⟩ ?_
  obtain ⟨q3, hq4, h⟩ := am_bs h
  refine am_callS hc 9 X (As := [am_r oa1 51 0, am_r oa0 51 0]) (rest := []) rfl (ok_X8_copied_51_51 l oa1 oa0 q1 hq4) yv_X8_copied ml_X8_307 rfl rfl rfl rfl rfl ?_
  refine am_blk hc X 10 4 (fr' := (30, [(0, am_r oa0 40 0), (1, am_r oa1 40 0)], [am_r oa0 52 0, am_r oa1 52 0], q3)) rfl ⟨trivial, trivial, trivial, trivial, trivial⟩ ?_
  obtain ⟨q5, hq6, h⟩ := am_bs h
  refine am_callS hc 14 X (As := [am_r oa1 52 0, am_r oa0 52 0]) (rest := []) rfl (ok_X8_copied_52_52 l oa1 oa0 q3 hq6) yv_X8_copied ml_X8_307 rfl rfl rfl rfl rfl ?_
  refine am_blk hc X 15 10 (fr' := (51, [(0, am_r oa0 40 0), (1, am_r oa1 40 0), (2, am_i 0)], [], (am_u (am_u q5 oa0 40 0 12 (q5.1 oa1 40 0 12)) oa0 40 0 13 (q5.1 oa1 40 0 13)))) rfl ⟨trivial, trivial, trivial, trivial, trivial, trivial, trivial, trivial, trivial, trivial, trivial⟩ ?_
  exact ll_X8_takeFrom_51 X hr   1000 oa0 oa1 0 _ h
def jn_X8_back_60 (k24 : Nat → Int32 → am_S → Option (Int32 × am_S)) (ox0 : Nat) (x1 : Int32) (σ : am_S) : Option (Int32 × am_S) :=
  k24 ox0 (x1 + 1) (σ)
set_option maxRecDepth 100000 in
theorem jl_X8_back_60 {p : Program} {l : Launch} {e : Env} {s : State} {m : MethodId} {args : Array Value} {below : List Frame} {meth : Method} {c : Code} {G : am_G} {q : Int32 × am_S} (X : am_X p s m args c cX8_back yX8_back.cls 2 am_p8 G (am_fr G)) (hr : meth.sig.returnType = (some .int) ∧ meth.locks = false)  (k24 : Nat → Int32 → am_S → Option (Int32 × am_S)) (hk24 : ∀ (ox0 : Nat) (x1 : Int32) (σ : am_S), k24 ox0 x1 σ = some q → am_A p l e (am_ro 2) s m args below meth c 2 G (am_fr G) 0 0 (MQ below (am_Qc G (some (am_i q.1)) q.2) args s 0 0 (am_fr G)) (24, [(0, am_r ox0 40 0), (1, am_i x1)], [], σ)) (ox0 : Nat) (x1 : Int32) (σ : am_S) (h : jn_X8_back_60 k24 ox0 x1 σ = some q) : am_A p l e (am_ro 2) s m args below meth c 2 G (am_fr G) 0 0 (MQ below (am_Qc G (some (am_i q.1)) q.2) args s 0 0 (am_fr G)) (60, [(0, am_r ox0 40 0), (1, am_i x1)], [], σ) := by
  have hc := ct_X8_back
  unfold jn_X8_back_60 at h
  refine am_blk hc X 34 2 (fr' := (24, [(0, am_r ox0 40 0), (1, am_i (x1 + 1))], [], σ)) rfl ⟨trivial, trivial, trivial⟩ ?_
  exact hk24 ox0 (x1 + 1) _ h
def lb_X8_back_24 (k24 : Nat → Int32 → am_S → Option (Int32 × am_S)) (ox0 : Nat) (x1 : Int32) (σ : am_S) : Option (Int32 × am_S) :=
  (if 8 ≤ x1 then some (1, σ) else (bif am_in x1 8 then (if (σ.1 ox0 41 0 ((x1 : Int32).toNatClampNeg)) = 2 then (bif am_in x1 8 then (if (σ.1 ox0 47 0 ((x1 : Int32).toNatClampNeg)) < (σ.1 ox0 40 0 15) then jn_X8_back_60 k24 ox0 x1 (σ) else (bif am_in x1 8 then jn_X8_back_60 k24 ox0 x1 (am_u σ ox0 41 0 ((x1 : Int32).toNatClampNeg) 0) else none)) else none) else jn_X8_back_60 k24 ox0 x1 (σ)) else none))
set_option maxRecDepth 100000 in
theorem lc_X8_back_24 {p : Program} {l : Launch} {e : Env} {s : State} {m : MethodId} {args : Array Value} {below : List Frame} {meth : Method} {c : Code} {G : am_G} {q : Int32 × am_S} (X : am_X p s m args c cX8_back yX8_back.cls 2 am_p8 G (am_fr G)) (hr : meth.sig.returnType = (some .int) ∧ meth.locks = false)  (k24 : Nat → Int32 → am_S → Option (Int32 × am_S)) (hk24 : ∀ (ox0 : Nat) (x1 : Int32) (σ : am_S), k24 ox0 x1 σ = some q → am_A p l e (am_ro 2) s m args below meth c 2 G (am_fr G) 0 0 (MQ below (am_Qc G (some (am_i q.1)) q.2) args s 0 0 (am_fr G)) (24, [(0, am_r ox0 40 0), (1, am_i x1)], [], σ)) (ox0 : Nat) (x1 : Int32) (σ : am_S) (h : lb_X8_back_24 k24 ox0 x1 σ = some q) : am_A p l e (am_ro 2) s m args below meth c 2 G (am_fr G) 0 0 (MQ below (am_Qc G (some (am_i q.1)) q.2) args s 0 0 (am_fr G)) (24, [(0, am_r ox0 40 0), (1, am_i x1)], [], σ) := by
  have hc := ct_X8_back
  unfold lb_X8_back_24 at h
  refine am_blk hc X 13 2 (fr' := (27, [(0, am_r ox0 40 0), (1, am_i x1)], [am_i 8, am_i x1], σ)) rfl ⟨trivial, trivial, trivial⟩ ?_
  refine am_icmp_ge hc X 15 (tgt := 66) rfl (by decide) (fun c10 => ?_) (fun c10 => ?_)
  · replace h := am_ip c10 h
    refine am_blk hc X 36 1 (fr' := (67, [(0, am_r ox0 40 0), (1, am_i x1)], [am_i 1], σ)) rfl ⟨trivial, trivial⟩ ?_
    obtain rfl := Option.some.inj h
    exact am_iret hc X hr 37 rfl rfl rfl
  · replace h := am_in2 c10 h
    obtain ⟨ob5, h⟩ := am_ci h
    refine am_blk hc X 16 5 (fr' := (37, [(0, am_r ox0 40 0), (1, am_i x1)], [am_i 2, am_i (σ.1 ox0 41 0 ((x1 : Int32).toNatClampNeg))], σ)) rfl ⟨trivial, trivial, trivial, (am_in_vp ob5), trivial, trivial⟩ ?_
    refine am_icmp_ne hc X 21 (tgt := 60) rfl (by decide) (fun c9 => ?_) (fun c9 => ?_)
    · replace h := am_in2 c9 h
      exact jl_X8_back_60 X hr k24 hk24 ox0 x1 _ h
    · replace h := am_ip c9 h
      obtain ⟨ob6, h⟩ := am_ci h
      refine am_blk hc X 22 6 (fr' := (50, [(0, am_r ox0 40 0), (1, am_i x1)], [am_i (σ.1 ox0 40 0 15), am_i (σ.1 ox0 47 0 ((x1 : Int32).toNatClampNeg))], σ)) rfl ⟨trivial, trivial, trivial, (am_in_vp ob6), trivial, trivial, trivial⟩ ?_
      refine am_icmp_lt hc X 28 (tgt := 60) rfl (by decide) (fun c8 => ?_) (fun c8 => ?_)
      · replace h := am_ip c8 h
        exact jl_X8_back_60 X hr k24 hk24 ox0 x1 _ h
      · replace h := am_in2 c8 h
        obtain ⟨ob7, h⟩ := am_ci h
        refine am_blk hc X 29 5 (fr' := (60, [(0, am_r ox0 40 0), (1, am_i x1)], [], (am_u σ ox0 41 0 ((x1 : Int32).toNatClampNeg) 0))) rfl ⟨trivial, trivial, trivial, trivial, (am_in_vp ob7), trivial⟩ ?_
        exact jl_X8_back_60 X hr k24 hk24 ox0 x1 _ h
def lp_X8_back_24  : Nat → Nat → Int32 → am_S → Option (Int32 × am_S)
  | 0 => fun _ _ _ => none
  | n + 1 => lb_X8_back_24  (lp_X8_back_24  n)
theorem ll_X8_back_24 {p : Program} {l : Launch} {e : Env} {s : State} {m : MethodId} {args : Array Value} {below : List Frame} {meth : Method} {c : Code} {G : am_G} {q : Int32 × am_S} (X : am_X p s m args c cX8_back yX8_back.cls 2 am_p8 G (am_fr G)) (hr : meth.sig.returnType = (some .int) ∧ meth.locks = false)    : ∀ (n : Nat) (ox0 : Nat) (x1 : Int32) (σ : am_S), lp_X8_back_24  n ox0 x1 σ = some q → am_A p l e (am_ro 2) s m args below meth c 2 G (am_fr G) 0 0 (MQ below (am_Qc G (some (am_i q.1)) q.2) args s 0 0 (am_fr G)) (24, [(0, am_r ox0 40 0), (1, am_i x1)], [], σ) := by
  intro n
  induction n with
  | zero =>
    intro ox0 x1 σ h
    have h : (none : Option (Int32 × am_S)) = some q := h
    cases h
  | succ n ih =>
    intro ox0 x1 σ h
    exact lc_X8_back_24 X hr  (lp_X8_back_24  n) ih ox0 x1 σ h
def fn_X8_back (oa0 : Nat) (σ : am_S) : Option (Int32 × am_S) :=
  (if (σ.1 oa0 40 0 26) = 0 then (fn_X8_refuse oa0 (-5) (σ)).bind fun q11 => some (q11.1, q11.2) else (if (σ.1 oa0 40 0 26) = 0 then none else (fn_X8_takeFrom oa0 6 (σ)).bind fun q3 => lp_X8_back_24  1000 oa0 0 q3))
set_option maxRecDepth 100000 in
theorem ok_X8_back (l : Launch) (oa0 : Nat) (σ : am_S) {q : Int32 × am_S} (h : fn_X8_back oa0 σ = some q) : am_M l yX8_back cX8_back 2 (some .int) 2 [am_r oa0 40 0] σ (some (am_i q.1)) q.2 := by
  refine am_M_of (P := am_p8) (by decide +kernel) am_p8_ok rfl ?_
  intro G p e s m args below meth c X hr
  have hc := ct_X8_back
  unfold fn_X8_back at h
  refine am_blk hc X 0 1 (fr' := (1, [(0, am_r oa0 40 0)], [am_r oa0 40 0], σ)) rfl ⟨trivial, trivial⟩ ?_
  refine am_getd hc X 1 rfl rfl rfl (by decide) (by decide +kernel) (fun c1 => ?_) (fun c1 => ?_)
  · replace h := am_ip c1 h
    refine am_nnN hc X 2 rfl ?_
    refine am_blk hc X 3 2 (fr' := (10, [(0, am_r oa0 40 0)], [am_i (-5), am_r oa0 40 0], σ)) rfl ⟨trivial, trivial, trivial⟩ ?_
    obtain ⟨q11, hq12, h⟩ := am_bs h
    refine am_callV hc 5 X (k := 40) (i := 0) (o := oa0) (As := [am_i (-5)]) (rest := []) rfl (ok_X8_refuse l oa0 (-5) (σ) hq12) yv_X8_refuse ml_X8_129 (cl_40) rfl rfl rfl rfl rfl ?_
    obtain rfl := Option.some.inj h
    exact am_iret hc X hr 6 rfl rfl rfl
  · replace h := am_in2 c1 h
    refine am_nnR hc X 2 (tgt := 14) rfl (by decide) ?_
    refine am_blk hc X 7 2 (fr' := (16, [(0, am_r oa0 40 0)], [am_r oa0 40 0, am_r oa0 40 0], σ)) rfl ⟨trivial, trivial, trivial⟩ ?_
    refine am_getd hc X 9 rfl rfl rfl (by decide) (by decide +kernel) (fun c2 => ?_) (fun c2 => ?_)
    · replace h := am_ip c2 h
      cases h
    · replace h := am_in2 c2 h
      obtain ⟨q3, hq4, h⟩ := am_bs h
      refine am_callV hc 10 X (k := 40) (i := 0) (o := oa0) (As := [am_r 6 40 0]) (rest := []) rfl (ok_X8_takeFrom l oa0 6 (σ) hq4) yv_X8_takeFrom ml_X8_271 (cl_40) rfl rfl rfl rfl rfl ?_
      refine am_blk hc X 11 2 (fr' := (24, [(0, am_r oa0 40 0), (1, am_i 0)], [], q3)) rfl ⟨trivial, trivial, trivial⟩ ?_
      exact ll_X8_back_24 X hr   1000 oa0 0 _ h
def fn_X8_noRow (oa0 : Nat) (a1 : Int32) (σ : am_S) : Option (Int32 × am_S) :=
  (fn_X8_in ((a1 : Int32).toInt64) 0 7 (σ)).bind fun q1 => (if q1.1 = 0 then (fn_X8_refuse oa0 (-2) q1.2).bind fun q11 => some (q11.1, q11.2) else (bif am_in a1 8 then (if (q1.2.1 oa0 41 0 ((a1 : Int32).toNatClampNeg)) = 2 then (fn_X8_refuse oa0 (-3) q1.2).bind fun q8 => some (q8.1, q8.2) else (bif am_in a1 8 then (if (q1.2.1 oa0 41 0 ((a1 : Int32).toNatClampNeg)) = 0 then (fn_X8_refuse oa0 (-4) q1.2).bind fun q5 => some (q5.1, q5.2) else some (0, q1.2)) else none)) else none))
set_option maxRecDepth 100000 in
theorem ok_X8_noRow (l : Launch) (oa0 : Nat) (a1 : Int32) (σ : am_S) {q : Int32 × am_S} (h : fn_X8_noRow oa0 a1 σ = some q) : am_M l yX8_noRow cX8_noRow 2 (some .int) 1 [am_r oa0 40 0, am_i a1] σ (some (am_i q.1)) q.2 := by
  refine am_M_of (P := am_p8) (by decide +kernel) am_p8_ok rfl ?_
  intro G p e s m args below meth c X hr
  have hc := ct_X8_noRow
  unfold fn_X8_noRow at h
  refine am_blk hc X 0 4 (fr' := (6, [(0, am_r oa0 40 0), (1, am_i a1)], [am_l 7, am_l 0, am_l ((a1 : Int32).toInt64)], σ)) rfl ⟨trivial, trivial, trivial, trivial, trivial⟩ ?_
  obtain ⟨q1, hq2, h⟩ := am_bs h
  refine am_callS hc 4 X (As := [am_l ((a1 : Int32).toInt64), am_l 0, am_l 7]) (rest := []) rfl (ok_X8_in l ((a1 : Int32).toInt64) 0 7 (σ) hq2) yv_X8_in ml_X8_117 rfl rfl rfl rfl rfl ?_
  refine am_if_ne hc X 5 (tgt := 19) rfl (by decide) (fun c13 => ?_) (fun c13 => ?_)
  · replace h := am_in2 c13 h
    obtain ⟨ob3, h⟩ := am_ci h
    refine am_blk hc X 10 5 (fr' := (26, [(0, am_r oa0 40 0), (1, am_i a1)], [am_i 2, am_i (q1.2.1 oa0 41 0 ((a1 : Int32).toNatClampNeg))], q1.2)) rfl ⟨trivial, trivial, trivial, (am_in_vp ob3), trivial, trivial⟩ ?_
    refine am_icmp_ne hc X 15 (tgt := 36) rfl (by decide) (fun c10 => ?_) (fun c10 => ?_)
    · replace h := am_in2 c10 h
      obtain ⟨ob4, h⟩ := am_ci h
      refine am_blk hc X 20 4 (fr' := (42, [(0, am_r oa0 40 0), (1, am_i a1)], [am_i (q1.2.1 oa0 41 0 ((a1 : Int32).toNatClampNeg))], q1.2)) rfl ⟨trivial, trivial, trivial, (am_in_vp ob4), trivial⟩ ?_
      refine am_if_ne hc X 24 (tgt := 54) rfl (by decide) (fun c7 => ?_) (fun c7 => ?_)
      · replace h := am_in2 c7 h
        refine am_blk hc X 29 1 (fr' := (55, [(0, am_r oa0 40 0), (1, am_i a1)], [am_i 0], q1.2)) rfl ⟨trivial, trivial⟩ ?_
        obtain rfl := Option.some.inj h
        exact am_iret hc X hr 30 rfl rfl rfl
      · replace h := am_ip c7 h
        refine am_blk hc X 25 2 (fr' := (48, [(0, am_r oa0 40 0), (1, am_i a1)], [am_i (-4), am_r oa0 40 0], q1.2)) rfl ⟨trivial, trivial, trivial⟩ ?_
        obtain ⟨q5, hq6, h⟩ := am_bs h
        refine am_callV hc 27 X (k := 40) (i := 0) (o := oa0) (As := [am_i (-4)]) (rest := []) rfl (ok_X8_refuse l oa0 (-4) q1.2 hq6) yv_X8_refuse ml_X8_129 (cl_40) rfl rfl rfl rfl rfl ?_
        refine am_blk hc X 28 1 (fr' := (55, [(0, am_r oa0 40 0), (1, am_i a1)], [am_i q5.1], q5.2)) rfl ⟨trivial, trivial⟩ ?_
        obtain rfl := Option.some.inj h
        exact am_iret hc X hr 30 rfl rfl rfl
    · replace h := am_ip c10 h
      refine am_blk hc X 16 2 (fr' := (32, [(0, am_r oa0 40 0), (1, am_i a1)], [am_i (-3), am_r oa0 40 0], q1.2)) rfl ⟨trivial, trivial, trivial⟩ ?_
      obtain ⟨q8, hq9, h⟩ := am_bs h
      refine am_callV hc 18 X (k := 40) (i := 0) (o := oa0) (As := [am_i (-3)]) (rest := []) rfl (ok_X8_refuse l oa0 (-3) q1.2 hq9) yv_X8_refuse ml_X8_129 (cl_40) rfl rfl rfl rfl rfl ?_
      obtain rfl := Option.some.inj h
      exact am_iret hc X hr 19 rfl rfl rfl
  · replace h := am_ip c13 h
    refine am_blk hc X 6 2 (fr' := (15, [(0, am_r oa0 40 0), (1, am_i a1)], [am_i (-2), am_r oa0 40 0], q1.2)) rfl ⟨trivial, trivial, trivial⟩ ?_
    obtain ⟨q11, hq12, h⟩ := am_bs h
    refine am_callV hc 8 X (k := 40) (i := 0) (o := oa0) (As := [am_i (-2)]) (rest := []) rfl (ok_X8_refuse l oa0 (-2) q1.2 hq12) yv_X8_refuse ml_X8_129 (cl_40) rfl rfl rfl rfl rfl ?_
    obtain rfl := Option.some.inj h
    exact am_iret hc X hr 9 rfl rfl rfl
def jn_X8_noPlan_32  (ox0 : Nat) (σ : am_S) : Option (Int32 × am_S) :=
  (fn_X8_refuse ox0 (-2) (σ)).bind fun q3 => some (q3.1, q3.2)
set_option maxRecDepth 100000 in
theorem jl_X8_noPlan_32 {p : Program} {l : Launch} {e : Env} {s : State} {m : MethodId} {args : Array Value} {below : List Frame} {meth : Method} {c : Code} {G : am_G} {q : Int32 × am_S} (X : am_X p s m args c cX8_noPlan yX8_noPlan.cls 5 am_p8 G (am_fr G)) (hr : meth.sig.returnType = (some .int) ∧ meth.locks = false)    (ox0 : Nat) (σ : am_S) (h : jn_X8_noPlan_32  ox0 σ = some q) : am_A p l e (am_ro 2) s m args below meth c 5 G (am_fr G) 0 0 (MQ below (am_Qc G (some (am_i q.1)) q.2) args s 0 0 (am_fr G)) (32, [(0, am_r ox0 40 0)], [], σ) := by
  have hc := ct_X8_noPlan
  unfold jn_X8_noPlan_32 at h
  refine am_blk hc X 16 2 (fr' := (35, [(0, am_r ox0 40 0)], [am_i (-2), am_r ox0 40 0], σ)) rfl ⟨trivial, trivial, trivial⟩ ?_
  obtain ⟨q3, hq4, h⟩ := am_bs h
  refine am_callV hc 18 X (k := 40) (i := 0) (o := ox0) (As := [am_i (-2)]) (rest := []) rfl (ok_X8_refuse l ox0 (-2) (σ) hq4) yv_X8_refuse ml_X8_129 (cl_40) rfl rfl rfl rfl rfl ?_
  obtain rfl := Option.some.inj h
  exact am_iret hc X hr 19 rfl rfl rfl
def fn_X8_noPlan (oa0 : Nat) (a1 : Int32) (a2 : Int32) (a3 : Int32) (σ : am_S) : Option (Int32 × am_S) :=
  (fn_X8_in ((a1 : Int32).toInt64) 0 7 (σ)).bind fun q1 => (if q1.1 = 0 then jn_X8_noPlan_32  oa0 q1.2 else (fn_X8_in ((a2 : Int32).toInt64) 0 40 q1.2).bind fun q5 => (if q5.1 = 0 then jn_X8_noPlan_32  oa0 q5.2 else (fn_X8_isOne oa0 a3 q5.2).bind fun q7 => (if q7.1 = 0 then jn_X8_noPlan_32  oa0 q7.2 else (fn_X8_noRow oa0 a1 q7.2).bind fun q9 => (if q9.1 = 0 then (bif am_in a1 8 then (if a2 ≤ (q9.2.1 oa0 43 0 ((a1 : Int32).toNatClampNeg)) then some (0, q9.2) else (fn_X8_refuse oa0 (-2) q9.2).bind fun q12 => some (q12.1, q12.2)) else none) else some (q9.1, q9.2)))))
set_option maxRecDepth 100000 in
theorem ok_X8_noPlan (l : Launch) (oa0 : Nat) (a1 : Int32) (a2 : Int32) (a3 : Int32) (σ : am_S) {q : Int32 × am_S} (h : fn_X8_noPlan oa0 a1 a2 a3 σ = some q) : am_M l yX8_noPlan cX8_noPlan 5 (some .int) 2 [am_r oa0 40 0, am_i a1, am_i a2, am_i a3] σ (some (am_i q.1)) q.2 := by
  refine am_M_of (P := am_p8) (by decide +kernel) am_p8_ok rfl ?_
  intro G p e s m args below meth c X hr
  have hc := ct_X8_noPlan
  unfold fn_X8_noPlan at h
  refine am_blk hc X 0 4 (fr' := (6, [(0, am_r oa0 40 0), (1, am_i a1), (2, am_i a2), (3, am_i a3)], [am_l 7, am_l 0, am_l ((a1 : Int32).toInt64)], σ)) rfl ⟨trivial, trivial, trivial, trivial, trivial⟩ ?_
  obtain ⟨q1, hq2, h⟩ := am_bs h
  refine am_callS hc 4 X (As := [am_l ((a1 : Int32).toInt64), am_l 0, am_l 7]) (rest := []) rfl (ok_X8_in l ((a1 : Int32).toInt64) 0 7 (σ) hq2) yv_X8_in ml_X8_117 rfl rfl rfl rfl rfl ?_
  refine am_if_eq hc X 5 (tgt := 32) rfl (by decide) (fun c18 => ?_) (fun c18 => ?_)
  · replace h := am_ip c18 h
    refine am_less [0] rfl ?_
    exact jl_X8_noPlan_32 X hr   oa0 _ h
  · replace h := am_in2 c18 h
    refine am_blk hc X 6 4 (fr' := (18, [(0, am_r oa0 40 0), (1, am_i a1), (2, am_i a2), (3, am_i a3)], [am_l 40, am_l 0, am_l ((a2 : Int32).toInt64)], q1.2)) rfl ⟨trivial, trivial, trivial, trivial, trivial⟩ ?_
    obtain ⟨q5, hq6, h⟩ := am_bs h
    refine am_callS hc 10 X (As := [am_l ((a2 : Int32).toInt64), am_l 0, am_l 40]) (rest := []) rfl (ok_X8_in l ((a2 : Int32).toInt64) 0 40 q1.2 hq6) yv_X8_in ml_X8_117 rfl rfl rfl rfl rfl ?_
    refine am_if_eq hc X 11 (tgt := 32) rfl (by decide) (fun c17 => ?_) (fun c17 => ?_)
    · replace h := am_ip c17 h
      refine am_less [0] rfl ?_
      exact jl_X8_noPlan_32 X hr   oa0 _ h
    · replace h := am_in2 c17 h
      refine am_blk hc X 12 2 (fr' := (26, [(0, am_r oa0 40 0), (1, am_i a1), (2, am_i a2), (3, am_i a3)], [am_i a3, am_r oa0 40 0], q5.2)) rfl ⟨trivial, trivial, trivial⟩ ?_
      obtain ⟨q7, hq8, h⟩ := am_bs h
      refine am_callV hc 14 X (k := 40) (i := 0) (o := oa0) (As := [am_i a3]) (rest := []) rfl (ok_X8_isOne l oa0 a3 q5.2 hq8) yv_X8_isOne ml_X8_140 (cl_40) rfl rfl rfl rfl rfl ?_
      refine am_if_ne hc X 15 (tgt := 39) rfl (by decide) (fun c16 => ?_) (fun c16 => ?_)
      · replace h := am_in2 c16 h
        refine am_blk hc X 20 2 (fr' := (41, [(0, am_r oa0 40 0), (1, am_i a1), (2, am_i a2), (3, am_i a3)], [am_i a1, am_r oa0 40 0], q7.2)) rfl ⟨trivial, trivial, trivial⟩ ?_
        obtain ⟨q9, hq10, h⟩ := am_bs h
        refine am_callV hc 22 X (k := 40) (i := 0) (o := oa0) (As := [am_i a1]) (rest := []) rfl (ok_X8_noRow l oa0 a1 q7.2 hq10) yv_X8_noRow ml_X8_133 (cl_40) rfl rfl rfl rfl rfl ?_
        refine am_blk hc X 23 2 (fr' := (48, [(0, am_r oa0 40 0), (1, am_i a1), (2, am_i a2), (3, am_i a3), (4, am_i q9.1)], [am_i q9.1], q9.2)) rfl ⟨trivial, trivial, trivial⟩ ?_
        refine am_if_eq hc X 25 (tgt := 54) rfl (by decide) (fun c15 => ?_) (fun c15 => ?_)
        · replace h := am_ip c15 h
          obtain ⟨ob11, h⟩ := am_ci h
          refine am_blk hc X 28 5 (fr' := (61, [(0, am_r oa0 40 0), (1, am_i a1), (2, am_i a2), (3, am_i a3), (4, am_i q9.1)], [am_i a2, am_i (q9.2.1 oa0 43 0 ((a1 : Int32).toNatClampNeg))], q9.2)) rfl ⟨trivial, trivial, trivial, (am_in_vp ob11), trivial, trivial⟩ ?_
          refine am_icmp_ge hc X 33 (tgt := 73) rfl (by decide) (fun c14 => ?_) (fun c14 => ?_)
          · replace h := am_ip c14 h
            refine am_blk hc X 38 1 (fr' := (74, [(0, am_r oa0 40 0), (1, am_i a1), (2, am_i a2), (3, am_i a3), (4, am_i q9.1)], [am_i 0], q9.2)) rfl ⟨trivial, trivial⟩ ?_
            obtain rfl := Option.some.inj h
            exact am_iret hc X hr 39 rfl rfl rfl
          · replace h := am_in2 c14 h
            refine am_blk hc X 34 2 (fr' := (67, [(0, am_r oa0 40 0), (1, am_i a1), (2, am_i a2), (3, am_i a3), (4, am_i q9.1)], [am_i (-2), am_r oa0 40 0], q9.2)) rfl ⟨trivial, trivial, trivial⟩ ?_
            obtain ⟨q12, hq13, h⟩ := am_bs h
            refine am_callV hc 36 X (k := 40) (i := 0) (o := oa0) (As := [am_i (-2)]) (rest := []) rfl (ok_X8_refuse l oa0 (-2) q9.2 hq13) yv_X8_refuse ml_X8_129 (cl_40) rfl rfl rfl rfl rfl ?_
            refine am_blk hc X 37 1 (fr' := (74, [(0, am_r oa0 40 0), (1, am_i a1), (2, am_i a2), (3, am_i a3), (4, am_i q9.1)], [am_i q12.1], q12.2)) rfl ⟨trivial, trivial⟩ ?_
            obtain rfl := Option.some.inj h
            exact am_iret hc X hr 39 rfl rfl rfl
        · replace h := am_in2 c15 h
          refine am_blk hc X 26 1 (fr' := (53, [(0, am_r oa0 40 0), (1, am_i a1), (2, am_i a2), (3, am_i a3), (4, am_i q9.1)], [am_i q9.1], q9.2)) rfl ⟨trivial, trivial⟩ ?_
          obtain rfl := Option.some.inj h
          exact am_iret hc X hr 27 rfl rfl rfl
      · replace h := am_ip c16 h
        refine am_less [0] rfl ?_
        exact jl_X8_noPlan_32 X hr   oa0 _ h
def fn_X8_below (oa0 : Nat) (a1 : Int32) (σ : am_S) : Option (Int32 × am_S) :=
  (if a1 = 0 then none else some (((((((am_u σ oa0 40 0 25 (((σ.1 oa0 40 0 25) * (1103515245 : Int32)) + (12345 : Int32))).1 oa0 40 0 25) : Int32).toUInt32 >>> ((16 : Int32).toUInt32 &&& Int32.toUInt32 31)).toInt32) - (((((am_u σ oa0 40 0 25 (((σ.1 oa0 40 0 25) * (1103515245 : Int32)) + (12345 : Int32))).1 oa0 40 0 25) : Int32).toUInt32 >>> ((16 : Int32).toUInt32 &&& Int32.toUInt32 31)).toInt32) / a1 * a1), (am_u σ oa0 40 0 25 (((σ.1 oa0 40 0 25) * (1103515245 : Int32)) + (12345 : Int32)))))
set_option maxRecDepth 100000 in
theorem ok_X8_below (l : Launch) (oa0 : Nat) (a1 : Int32) (σ : am_S) {q : Int32 × am_S} (h : fn_X8_below oa0 a1 σ = some q) : am_M l yX8_below cX8_below 2 (some .int) 0 [am_r oa0 40 0, am_i a1] σ (some (am_i q.1)) q.2 := by
  refine am_M_of (P := am_p8) (by decide +kernel) am_p8_ok rfl ?_
  intro G p e s m args below meth c X hr
  have hc := ct_X8_below
  unfold fn_X8_below at h
  obtain ⟨ob1, h⟩ := am_nz h
  refine am_blk hc X 0 14 (fr' := (25, [(0, am_r oa0 40 0), (1, am_i a1)], [am_i ((((((am_u σ oa0 40 0 25 (((σ.1 oa0 40 0 25) * (1103515245 : Int32)) + (12345 : Int32))).1 oa0 40 0 25) : Int32).toUInt32 >>> ((16 : Int32).toUInt32 &&& Int32.toUInt32 31)).toInt32) - (((((am_u σ oa0 40 0 25 (((σ.1 oa0 40 0 25) * (1103515245 : Int32)) + (12345 : Int32))).1 oa0 40 0 25) : Int32).toUInt32 >>> ((16 : Int32).toUInt32 &&& Int32.toUInt32 31)).toInt32) / a1 * a1)], (am_u σ oa0 40 0 25 (((σ.1 oa0 40 0 25) * (1103515245 : Int32)) + (12345 : Int32))))) rfl ⟨trivial, trivial, trivial, trivial, trivial, trivial, trivial, trivial, trivial, trivial, trivial, trivial, trivial, ob1, trivial⟩ ?_
  obtain rfl := Option.some.inj h
  exact am_iret hc X hr 14 rfl rfl rfl
def lb_X8_copied_67_68_2 (k2 : Nat → Nat → Int32 → am_S → Option (am_S)) (ox0 : Nat) (ox1 : Nat) (x2 : Int32) (σ : am_S) : Option (am_S) :=
  (if 7 ≤ x2 then some (σ) else (bif am_in x2 7 then (bif am_in x2 7 then k2 ox0 ox1 (x2 + 1) (am_u σ ox1 68 0 ((x2 : Int32).toNatClampNeg) (σ.1 ox0 67 0 ((x2 : Int32).toNatClampNeg))) else none) else none))
set_option maxRecDepth 100000 in
theorem lc_X8_copied_67_68_2 {p : Program} {l : Launch} {e : Env} {s : State} {m : MethodId} {args : Array Value} {below : List Frame} {meth : Method} {c : Code} {G : am_G} {q : am_S} (X : am_X p s m args c cX8_copied yX8_copied.cls 3 am_p8 G (am_fr G)) (hr : meth.sig.returnType = none ∧ meth.locks = false)  (k2 : Nat → Nat → Int32 → am_S → Option (am_S)) (hk2 : ∀ (ox0 : Nat) (ox1 : Nat) (x2 : Int32) (σ : am_S), k2 ox0 ox1 x2 σ = some q → am_A p l e (am_ro 0) s m args below meth c 3 G (am_fr G) 0 0 (MQ below (am_Qc G none q) args s 0 0 (am_fr G)) (2, [(0, am_r ox0 67 0), (1, am_r ox1 68 0), (2, am_i x2)], [], σ)) (ox0 : Nat) (ox1 : Nat) (x2 : Int32) (σ : am_S) (h : lb_X8_copied_67_68_2 k2 ox0 ox1 x2 σ = some q) : am_A p l e (am_ro 0) s m args below meth c 3 G (am_fr G) 0 0 (MQ below (am_Qc G none q) args s 0 0 (am_fr G)) (2, [(0, am_r ox0 67 0), (1, am_r ox1 68 0), (2, am_i x2)], [], σ) := by
  have hc := ct_X8_copied
  unfold lb_X8_copied_67_68_2 at h
  refine am_blk hc X 2 3 (fr' := (5, [(0, am_r ox0 67 0), (1, am_r ox1 68 0), (2, am_i x2)], [am_i 7, am_i x2], σ)) rfl ⟨trivial, trivial, trivial, trivial⟩ ?_
  refine am_icmp_ge hc X 5 (tgt := 20) rfl (by decide) (fun c3 => ?_) (fun c3 => ?_)
  · replace h := am_ip c3 h
    obtain rfl := Option.some.inj h
    exact am_vret hc X hr 14 rfl rfl rfl
  · replace h := am_in2 c3 h
    obtain ⟨ob1, h⟩ := am_ci h
    obtain ⟨ob2, h⟩ := am_ci h
    refine am_blk hc X 6 8 (fr' := (2, [(0, am_r ox0 67 0), (1, am_r ox1 68 0), (2, am_i (x2 + 1))], [], (am_u σ ox1 68 0 ((x2 : Int32).toNatClampNeg) (σ.1 ox0 67 0 ((x2 : Int32).toNatClampNeg))))) rfl ⟨trivial, trivial, trivial, trivial, (am_in_vp ob1), (am_in_vp ob2), trivial, trivial, trivial⟩ ?_
    exact hk2 ox0 ox1 (x2 + 1) _ h
def lp_X8_copied_67_68_2  : Nat → Nat → Nat → Int32 → am_S → Option (am_S)
  | 0 => fun _ _ _ _ => none
  | n + 1 => lb_X8_copied_67_68_2  (lp_X8_copied_67_68_2  n)
theorem ll_X8_copied_67_68_2 {p : Program} {l : Launch} {e : Env} {s : State} {m : MethodId} {args : Array Value} {below : List Frame} {meth : Method} {c : Code} {G : am_G} {q : am_S} (X : am_X p s m args c cX8_copied yX8_copied.cls 3 am_p8 G (am_fr G)) (hr : meth.sig.returnType = none ∧ meth.locks = false)    : ∀ (n : Nat) (ox0 : Nat) (ox1 : Nat) (x2 : Int32) (σ : am_S), lp_X8_copied_67_68_2  n ox0 ox1 x2 σ = some q → am_A p l e (am_ro 0) s m args below meth c 3 G (am_fr G) 0 0 (MQ below (am_Qc G none q) args s 0 0 (am_fr G)) (2, [(0, am_r ox0 67 0), (1, am_r ox1 68 0), (2, am_i x2)], [], σ) := by
  intro n
  induction n with
  | zero =>
    intro ox0 ox1 x2 σ h
    have h : (none : Option (am_S)) = some q := h
    cases h
  | succ n ih =>
    intro ox0 ox1 x2 σ h
    exact lc_X8_copied_67_68_2 X hr  (lp_X8_copied_67_68_2  n) ih ox0 ox1 x2 σ h
def fn_X8_copied_67_68 (oa0 : Nat) (oa1 : Nat) (σ : am_S) : Option (am_S) :=
  lp_X8_copied_67_68_2  1000 oa0 oa1 0 (σ)
set_option maxRecDepth 100000 in
theorem ok_X8_copied_67_68 (l : Launch) (oa0 : Nat) (oa1 : Nat) (σ : am_S) {q : am_S} (h : fn_X8_copied_67_68 oa0 oa1 σ = some q) : am_M l yX8_copied cX8_copied 3 none 0 [am_r oa0 67 0, am_r oa1 68 0] σ none q := by
  refine am_M_of (P := am_p8) (by decide +kernel) am_p8_ok rfl ?_
  intro G p e s m args below meth c X hr
  have hc := ct_X8_copied
  unfold fn_X8_copied_67_68 at h
  refine am_blk hc X 0 2 (fr' := (2, [(0, am_r oa0 67 0), (1, am_r oa1 68 0), (2, am_i 0)], [], σ)) rfl ⟨trivial, trivial, trivial⟩ ?_
  exact ll_X8_copied_67_68_2 X hr   1000 oa0 oa1 0 _ h
def jn_X8_seekTour_117 (rec : Nat → Int32 → Int32 → Int32 → Int32 → Int32 → am_S → Option (am_S)) (k61 : Nat → Int32 → Int32 → Int32 → Int32 → Int32 → Int32 → am_S → Option (am_S)) (ox0 : Nat) (x1 : Int32) (x2 : Int32) (x3 : Int32) (x4 : Int32) (x5 : Int32) (x6 : Int32) (σ : am_S) : Option (am_S) :=
  k61 ox0 x1 x2 x3 x4 x5 (x6 + 1) (σ)
set_option maxRecDepth 100000 in
theorem jl_X8_seekTour_117 {p : Program} {l : Launch} {e : Env} {s : State} {m : MethodId} {args : Array Value} {below : List Frame} {meth : Method} {c : Code} {G : am_G} {q : am_S} (X : am_X p s m args c cX8_seekTour yX8_seekTour.cls 7 am_p8 G (am_fr G)) (hr : meth.sig.returnType = none ∧ meth.locks = false) {d : Nat} (rec : Nat → Int32 → Int32 → Int32 → Int32 → Int32 → am_S → Option (am_S)) (hrec : ∀ (oa0 : Nat) (a1 : Int32) (a2 : Int32) (a3 : Int32) (a4 : Int32) (a5 : Int32) (σ : am_S) {q : am_S}, rec oa0 a1 a2 a3 a4 a5 σ = some q → am_M l yX8_seekTour cX8_seekTour 7 none d [am_r oa0 40 0, am_i a1, am_i a2, am_i a3, am_i a4, am_i a5] σ none q)  (k61 : Nat → Int32 → Int32 → Int32 → Int32 → Int32 → Int32 → am_S → Option (am_S)) (hk61 : ∀ (ox0 : Nat) (x1 : Int32) (x2 : Int32) (x3 : Int32) (x4 : Int32) (x5 : Int32) (x6 : Int32) (σ : am_S), k61 ox0 x1 x2 x3 x4 x5 x6 σ = some q → am_A p l e (am_ro (d + 1)) s m args below meth c 7 G (am_fr G) 0 0 (MQ below (am_Qc G none q) args s 0 0 (am_fr G)) (61, [(0, am_r ox0 40 0), (1, am_i x1), (2, am_i x2), (3, am_i x3), (4, am_i x4), (5, am_i x5), (6, am_i x6)], [], σ)) (ox0 : Nat) (x1 : Int32) (x2 : Int32) (x3 : Int32) (x4 : Int32) (x5 : Int32) (x6 : Int32) (σ : am_S) (h : jn_X8_seekTour_117 rec k61 ox0 x1 x2 x3 x4 x5 x6 σ = some q) : am_A p l e (am_ro (d + 1)) s m args below meth c 7 G (am_fr G) 0 0 (MQ below (am_Qc G none q) args s 0 0 (am_fr G)) (117, [(0, am_r ox0 40 0), (1, am_i x1), (2, am_i x2), (3, am_i x3), (4, am_i x4), (5, am_i x5), (6, am_i x6)], [], σ) := by
  have hc := ct_X8_seekTour
  unfold jn_X8_seekTour_117 at h
  refine am_blk hc X 69 2 (fr' := (61, [(0, am_r ox0 40 0), (1, am_i x1), (2, am_i x2), (3, am_i x3), (4, am_i x4), (5, am_i x5), (6, am_i (x6 + 1))], [], σ)) rfl ⟨trivial, trivial, trivial⟩ ?_
  exact hk61 ox0 x1 x2 x3 x4 x5 (x6 + 1) _ h
def lb_X8_seekTour_61 (rec : Nat → Int32 → Int32 → Int32 → Int32 → Int32 → am_S → Option (am_S)) (k61 : Nat → Int32 → Int32 → Int32 → Int32 → Int32 → Int32 → am_S → Option (am_S)) (ox0 : Nat) (x1 : Int32) (x2 : Int32) (x3 : Int32) (x4 : Int32) (x5 : Int32) (x6 : Int32) (σ : am_S) : Option (am_S) :=
  (if 7 ≤ x6 then some (σ) else (if ((x2 >>> (x6 &&& 31)) &&& (1 : Int32)) = 0 then jn_X8_seekTour_117 rec k61 ox0 x1 x2 x3 x4 x5 x6 (σ) else (bif am_in x4 7 then (bif am_in x1 7 then (bif am_in x6 7 then (rec ox0 x6 (x2 &&& (((1 : Int32) <<< (x6 &&& 31)) ^^^ (-1 : Int32))) x3 (x4 + (1 : Int32)) (x5 + (σ.1 ox0 65 ((x1 : Int32).toNatClampNeg) ((x6 : Int32).toNatClampNeg))) (am_u σ ox0 67 0 ((x4 : Int32).toNatClampNeg) x6)).bind fun q4 => jn_X8_seekTour_117 rec k61 ox0 x1 x2 x3 x4 x5 x6 q4 else none) else none) else none)))
set_option maxRecDepth 100000 in
theorem lc_X8_seekTour_61 {p : Program} {l : Launch} {e : Env} {s : State} {m : MethodId} {args : Array Value} {below : List Frame} {meth : Method} {c : Code} {G : am_G} {q : am_S} (X : am_X p s m args c cX8_seekTour yX8_seekTour.cls 7 am_p8 G (am_fr G)) (hr : meth.sig.returnType = none ∧ meth.locks = false) {d : Nat} (rec : Nat → Int32 → Int32 → Int32 → Int32 → Int32 → am_S → Option (am_S)) (hrec : ∀ (oa0 : Nat) (a1 : Int32) (a2 : Int32) (a3 : Int32) (a4 : Int32) (a5 : Int32) (σ : am_S) {q : am_S}, rec oa0 a1 a2 a3 a4 a5 σ = some q → am_M l yX8_seekTour cX8_seekTour 7 none d [am_r oa0 40 0, am_i a1, am_i a2, am_i a3, am_i a4, am_i a5] σ none q)  (k61 : Nat → Int32 → Int32 → Int32 → Int32 → Int32 → Int32 → am_S → Option (am_S)) (hk61 : ∀ (ox0 : Nat) (x1 : Int32) (x2 : Int32) (x3 : Int32) (x4 : Int32) (x5 : Int32) (x6 : Int32) (σ : am_S), k61 ox0 x1 x2 x3 x4 x5 x6 σ = some q → am_A p l e (am_ro (d + 1)) s m args below meth c 7 G (am_fr G) 0 0 (MQ below (am_Qc G none q) args s 0 0 (am_fr G)) (61, [(0, am_r ox0 40 0), (1, am_i x1), (2, am_i x2), (3, am_i x3), (4, am_i x4), (5, am_i x5), (6, am_i x6)], [], σ)) (ox0 : Nat) (x1 : Int32) (x2 : Int32) (x3 : Int32) (x4 : Int32) (x5 : Int32) (x6 : Int32) (σ : am_S) (h : lb_X8_seekTour_61 rec k61 ox0 x1 x2 x3 x4 x5 x6 σ = some q) : am_A p l e (am_ro (d + 1)) s m args below meth c 7 G (am_fr G) 0 0 (MQ below (am_Qc G none q) args s 0 0 (am_fr G)) (61, [(0, am_r ox0 40 0), (1, am_i x1), (2, am_i x2), (3, am_i x3), (4, am_i x4), (5, am_i x5), (6, am_i x6)], [], σ) := by
  have hc := ct_X8_seekTour
  unfold lb_X8_seekTour_61 at h
  refine am_blk hc X 33 2 (fr' := (65, [(0, am_r ox0 40 0), (1, am_i x1), (2, am_i x2), (3, am_i x3), (4, am_i x4), (5, am_i x5), (6, am_i x6)], [am_i 7, am_i x6], σ)) rfl ⟨trivial, trivial, trivial⟩ ?_
  refine am_icmp_ge hc X 35 (tgt := 123) rfl (by decide) (fun c7 => ?_) (fun c7 => ?_)
  · replace h := am_ip c7 h
    obtain rfl := Option.some.inj h
    exact am_vret hc X hr 71 rfl rfl rfl
  · replace h := am_in2 c7 h
    refine am_blk hc X 36 5 (fr' := (74, [(0, am_r ox0 40 0), (1, am_i x1), (2, am_i x2), (3, am_i x3), (4, am_i x4), (5, am_i x5), (6, am_i x6)], [am_i ((x2 >>> (x6 &&& 31)) &&& (1 : Int32))], σ)) rfl ⟨trivial, trivial, trivial, trivial, trivial, trivial⟩ ?_
    refine am_if_eq hc X 41 (tgt := 117) rfl (by decide) (fun c6 => ?_) (fun c6 => ?_)
    · replace h := am_ip c6 h
      exact jl_X8_seekTour_117 X hr rec hrec k61 hk61 ox0 x1 x2 x3 x4 x5 x6 _ h
    · replace h := am_in2 c6 h
      obtain ⟨ob1, h⟩ := am_ci h
      obtain ⟨ob2, h⟩ := am_ci h
      obtain ⟨ob3, h⟩ := am_ci h
      refine am_blk hc X 42 26 (fr' := (114, [(0, am_r ox0 40 0), (1, am_i x1), (2, am_i x2), (3, am_i x3), (4, am_i x4), (5, am_i x5), (6, am_i x6)], [am_i (x5 + (σ.1 ox0 65 ((x1 : Int32).toNatClampNeg) ((x6 : Int32).toNatClampNeg))), am_i (x4 + (1 : Int32)), am_i x3, am_i (x2 &&& (((1 : Int32) <<< (x6 &&& 31)) ^^^ (-1 : Int32))), am_i x6, am_r ox0 40 0], (am_u σ ox0 67 0 ((x4 : Int32).toNatClampNeg) x6))) rfl ⟨trivial, trivial, trivial, trivial, (am_in_vp ob1), trivial, trivial, trivial, trivial, trivial, trivial, trivial, trivial, trivial, trivial, trivial, trivial, trivial, trivial, trivial, trivial, trivial, (am_in_vp ob2), trivial, (am_in_vp ob3), trivial, trivial⟩ ?_
      obtain ⟨q4, hq5, h⟩ := am_bs h
      refine am_callV hc 68 X (k := 40) (i := 0) (o := ox0) (As := [am_i x6, am_i (x2 &&& (((1 : Int32) <<< (x6 &&& 31)) ^^^ (-1 : Int32))), am_i x3, am_i (x4 + (1 : Int32)), am_i (x5 + (σ.1 ox0 65 ((x1 : Int32).toNatClampNeg) ((x6 : Int32).toNatClampNeg)))]) (rest := []) rfl (hrec ox0 x6 (x2 &&& (((1 : Int32) <<< (x6 &&& 31)) ^^^ (-1 : Int32))) x3 (x4 + (1 : Int32)) (x5 + (σ.1 ox0 65 ((x1 : Int32).toNatClampNeg) ((x6 : Int32).toNatClampNeg))) (am_u σ ox0 67 0 ((x4 : Int32).toNatClampNeg) x6) hq5) yv_X8_seekTour ml_X8_317 (cl_40) (am_ble _) rfl rfl rfl rfl ?_
      exact jl_X8_seekTour_117 X hr rec hrec k61 hk61 ox0 x1 x2 x3 x4 x5 x6 _ h
def lp_X8_seekTour_61 (rec : Nat → Int32 → Int32 → Int32 → Int32 → Int32 → am_S → Option (am_S))  : Nat → Nat → Int32 → Int32 → Int32 → Int32 → Int32 → Int32 → am_S → Option (am_S)
  | 0 => fun _ _ _ _ _ _ _ _ => none
  | n + 1 => lb_X8_seekTour_61 rec  (lp_X8_seekTour_61 rec  n)
theorem ll_X8_seekTour_61 {p : Program} {l : Launch} {e : Env} {s : State} {m : MethodId} {args : Array Value} {below : List Frame} {meth : Method} {c : Code} {G : am_G} {q : am_S} (X : am_X p s m args c cX8_seekTour yX8_seekTour.cls 7 am_p8 G (am_fr G)) (hr : meth.sig.returnType = none ∧ meth.locks = false) {d : Nat} (rec : Nat → Int32 → Int32 → Int32 → Int32 → Int32 → am_S → Option (am_S)) (hrec : ∀ (oa0 : Nat) (a1 : Int32) (a2 : Int32) (a3 : Int32) (a4 : Int32) (a5 : Int32) (σ : am_S) {q : am_S}, rec oa0 a1 a2 a3 a4 a5 σ = some q → am_M l yX8_seekTour cX8_seekTour 7 none d [am_r oa0 40 0, am_i a1, am_i a2, am_i a3, am_i a4, am_i a5] σ none q)    : ∀ (n : Nat) (ox0 : Nat) (x1 : Int32) (x2 : Int32) (x3 : Int32) (x4 : Int32) (x5 : Int32) (x6 : Int32) (σ : am_S), lp_X8_seekTour_61 rec  n ox0 x1 x2 x3 x4 x5 x6 σ = some q → am_A p l e (am_ro (d + 1)) s m args below meth c 7 G (am_fr G) 0 0 (MQ below (am_Qc G none q) args s 0 0 (am_fr G)) (61, [(0, am_r ox0 40 0), (1, am_i x1), (2, am_i x2), (3, am_i x3), (4, am_i x4), (5, am_i x5), (6, am_i x6)], [], σ) := by
  intro n
  induction n with
  | zero =>
    intro ox0 x1 x2 x3 x4 x5 x6 σ h
    have h : (none : Option (am_S)) = some q := h
    cases h
  | succ n ih =>
    intro ox0 x1 x2 x3 x4 x5 x6 σ h
    exact lc_X8_seekTour_61 X hr rec hrec  (lp_X8_seekTour_61 rec  n) ih ox0 x1 x2 x3 x4 x5 x6 σ h
def jn_X8_seekTour_34 (rec : Nat → Int32 → Int32 → Int32 → Int32 → Int32 → am_S → Option (am_S))  (ox0 : Nat) (x4 : Int32) (x6 : Int32) (σ : am_S) : Option (am_S) :=
  (fn_X8_copied_67_68 ox0 ox0 (am_u (am_u σ ox0 40 0 40 x6) ox0 40 0 39 x4)).bind fun q10 => some q10
set_option maxRecDepth 100000 in
theorem jl_X8_seekTour_34 {p : Program} {l : Launch} {e : Env} {s : State} {m : MethodId} {args : Array Value} {below : List Frame} {meth : Method} {c : Code} {G : am_G} {q : am_S} (X : am_X p s m args c cX8_seekTour yX8_seekTour.cls 7 am_p8 G (am_fr G)) (hr : meth.sig.returnType = none ∧ meth.locks = false) {d : Nat} (rec : Nat → Int32 → Int32 → Int32 → Int32 → Int32 → am_S → Option (am_S)) (hrec : ∀ (oa0 : Nat) (a1 : Int32) (a2 : Int32) (a3 : Int32) (a4 : Int32) (a5 : Int32) (σ : am_S) {q : am_S}, rec oa0 a1 a2 a3 a4 a5 σ = some q → am_M l yX8_seekTour cX8_seekTour 7 none d [am_r oa0 40 0, am_i a1, am_i a2, am_i a3, am_i a4, am_i a5] σ none q)    (ox0 : Nat) (x4 : Int32) (x6 : Int32) (σ : am_S) (h : jn_X8_seekTour_34 rec  ox0 x4 x6 σ = some q) : am_A p l e (am_ro (d + 1)) s m args below meth c 7 G (am_fr G) 0 0 (MQ below (am_Qc G none q) args s 0 0 (am_fr G)) (34, [(0, am_r ox0 40 0), (4, am_i x4), (6, am_i x6)], [], σ) := by
  have hc := ct_X8_seekTour
  unfold jn_X8_seekTour_34 at h
  refine am_blk hc X 19 10 (fr' := (54, [(0, am_r ox0 40 0), (4, am_i x4), (6, am_i x6)], [am_r ox0 68 0, am_r ox0 67 0], (am_u (am_u σ ox0 40 0 40 x6) ox0 40 0 39 x4))) rfl ⟨trivial, trivial, trivial, trivial, trivial, trivial, trivial, trivial, trivial, trivial, trivial⟩ ?_
  obtain ⟨q10, hq11, h⟩ := am_bs h
  refine am_callS hc 29 X (As := [am_r ox0 67 0, am_r ox0 68 0]) (rest := []) rfl (ok_X8_copied_67_68 l ox0 ox0 (am_u (am_u σ ox0 40 0 40 x6) ox0 40 0 39 x4) hq11) yv_X8_copied ml_X8_307 rfl rfl rfl rfl rfl ?_
  obtain rfl := Option.some.inj h
  exact am_vret hc X hr 30 rfl rfl rfl
def fb_X8_seekTour (rec : Nat → Int32 → Int32 → Int32 → Int32 → Int32 → am_S → Option (am_S)) (oa0 : Nat) (a1 : Int32) (a2 : Int32) (a3 : Int32) (a4 : Int32) (a5 : Int32) (σ : am_S) : Option (am_S) :=
  (if a2 = 0 then (bif am_in a1 7 then (bif am_in a3 7 then (if (σ.1 oa0 40 0 40) = (-1) then jn_X8_seekTour_34 rec  oa0 a4 (a5 + (σ.1 oa0 65 ((a1 : Int32).toNatClampNeg) ((a3 : Int32).toNatClampNeg))) (σ) else (if (σ.1 oa0 40 0 40) ≤ (a5 + (σ.1 oa0 65 ((a1 : Int32).toNatClampNeg) ((a3 : Int32).toNatClampNeg))) then some (σ) else jn_X8_seekTour_34 rec  oa0 a4 (a5 + (σ.1 oa0 65 ((a1 : Int32).toNatClampNeg) ((a3 : Int32).toNatClampNeg))) (σ))) else none) else none) else lp_X8_seekTour_61 rec  1000 oa0 a1 a2 a3 a4 a5 0 (σ))
set_option maxRecDepth 100000 in
theorem ob_X8_seekTour (l : Launch) {d : Nat} (rec : Nat → Int32 → Int32 → Int32 → Int32 → Int32 → am_S → Option (am_S)) (hrec : ∀ (oa0 : Nat) (a1 : Int32) (a2 : Int32) (a3 : Int32) (a4 : Int32) (a5 : Int32) (σ : am_S) {q : am_S}, rec oa0 a1 a2 a3 a4 a5 σ = some q → am_M l yX8_seekTour cX8_seekTour 7 none d [am_r oa0 40 0, am_i a1, am_i a2, am_i a3, am_i a4, am_i a5] σ none q) (oa0 : Nat) (a1 : Int32) (a2 : Int32) (a3 : Int32) (a4 : Int32) (a5 : Int32) (σ : am_S) {q : am_S} (h : fb_X8_seekTour rec oa0 a1 a2 a3 a4 a5 σ = some q) : am_M l yX8_seekTour cX8_seekTour 7 none (d + 1) [am_r oa0 40 0, am_i a1, am_i a2, am_i a3, am_i a4, am_i a5] σ none q := by
  refine am_M_of (P := am_p8) (by decide +kernel) am_p8_ok rfl ?_
  intro G p e s m args below meth c X hr
  have hc := ct_X8_seekTour
  unfold fb_X8_seekTour at h
  refine am_blk hc X 0 1 (fr' := (1, [(0, am_r oa0 40 0), (1, am_i a1), (2, am_i a2), (3, am_i a3), (4, am_i a4), (5, am_i a5)], [am_i a2], σ)) rfl ⟨trivial, trivial⟩ ?_
  refine am_if_ne hc X 1 (tgt := 58) rfl (by decide) (fun c14 => ?_) (fun c14 => ?_)
  · replace h := am_in2 c14 h
    refine am_blk hc X 31 2 (fr' := (61, [(0, am_r oa0 40 0), (1, am_i a1), (2, am_i a2), (3, am_i a3), (4, am_i a4), (5, am_i a5), (6, am_i 0)], [], σ)) rfl ⟨trivial, trivial, trivial⟩ ?_
    exact ll_X8_seekTour_61 X hr rec hrec   1000 oa0 a1 a2 a3 a4 a5 0 _ h
  · replace h := am_ip c14 h
    obtain ⟨ob8, h⟩ := am_ci h
    obtain ⟨ob9, h⟩ := am_ci h
    refine am_blk hc X 2 12 (fr' := (22, [(0, am_r oa0 40 0), (1, am_i a1), (2, am_i a2), (3, am_i a3), (4, am_i a4), (5, am_i a5), (6, am_i (a5 + (σ.1 oa0 65 ((a1 : Int32).toNatClampNeg) ((a3 : Int32).toNatClampNeg))))], [am_i (-1), am_i (σ.1 oa0 40 0 40)], σ)) rfl ⟨trivial, trivial, trivial, trivial, (am_in_vp ob8), trivial, (am_in_vp ob9), trivial, trivial, trivial, trivial, trivial, trivial⟩ ?_
    refine am_icmp_eq hc X 14 (tgt := 34) rfl (by decide) (fun c13 => ?_) (fun c13 => ?_)
    · replace h := am_ip c13 h
      refine am_less [0, 4, 6] rfl ?_
      exact jl_X8_seekTour_34 X hr rec hrec   oa0 a4 (a5 + (σ.1 oa0 65 ((a1 : Int32).toNatClampNeg) ((a3 : Int32).toNatClampNeg))) _ h
    · replace h := am_in2 c13 h
      refine am_blk hc X 15 3 (fr' := (31, [(0, am_r oa0 40 0), (1, am_i a1), (2, am_i a2), (3, am_i a3), (4, am_i a4), (5, am_i a5), (6, am_i (a5 + (σ.1 oa0 65 ((a1 : Int32).toNatClampNeg) ((a3 : Int32).toNatClampNeg))))], [am_i (σ.1 oa0 40 0 40), am_i (a5 + (σ.1 oa0 65 ((a1 : Int32).toNatClampNeg) ((a3 : Int32).toNatClampNeg)))], σ)) rfl ⟨trivial, trivial, trivial, trivial⟩ ?_
      refine am_icmp_ge hc X 18 (tgt := 57) rfl (by decide) (fun c12 => ?_) (fun c12 => ?_)
      · replace h := am_ip c12 h
        obtain rfl := Option.some.inj h
        exact am_vret hc X hr 30 rfl rfl rfl
      · replace h := am_in2 c12 h
        refine am_less [0, 4, 6] rfl ?_
        exact jl_X8_seekTour_34 X hr rec hrec   oa0 a4 (a5 + (σ.1 oa0 65 ((a1 : Int32).toNatClampNeg) ((a3 : Int32).toNatClampNeg))) _ h
def fn_X8_seekTour : Nat → Nat → Int32 → Int32 → Int32 → Int32 → Int32 → am_S → Option (am_S)
  | 0 => fun _ _ _ _ _ _ _ => none
  | n + 1 => fb_X8_seekTour (fn_X8_seekTour n)
theorem ok_X8_seekTour (l : Launch) : ∀ (n : Nat) (oa0 : Nat) (a1 : Int32) (a2 : Int32) (a3 : Int32) (a4 : Int32) (a5 : Int32) (σ : am_S) {q : am_S}, fn_X8_seekTour n oa0 a1 a2 a3 a4 a5 σ = some q → am_M l yX8_seekTour cX8_seekTour 7 none n [am_r oa0 40 0, am_i a1, am_i a2, am_i a3, am_i a4, am_i a5] σ none q := by
  intro n
  induction n with
  | zero =>
    intro oa0 a1 a2 a3 a4 a5 σ q h
    have h : (none : Option (am_S)) = some q := h
    cases h
  | succ n ih =>
    intro oa0 a1 a2 a3 a4 a5 σ q h
    exact ob_X8_seekTour l (fn_X8_seekTour n) ih oa0 a1 a2 a3 a4 a5 σ h
def fn_X8_tourFrom (oa0 : Nat) (a1 : Int32) (a2 : Int32) (a3 : Int32) (σ : am_S) : Option (Int32 × am_S) :=
  (bif am_in a1 6 then (fn_X8_seekTour 8 oa0 a2 ((σ.1 oa0 59 0 ((a1 : Int32).toNatClampNeg)) &&& (((1 : Int32) <<< (a2 &&& 31)) ^^^ (-1 : Int32))) a3 0 0 (am_u σ oa0 40 0 40 (-1))).bind fun q2 => some ((q2.1 oa0 40 0 40), q2) else none)
set_option maxRecDepth 100000 in
theorem ok_X8_tourFrom (l : Launch) (oa0 : Nat) (a1 : Int32) (a2 : Int32) (a3 : Int32) (σ : am_S) {q : Int32 × am_S} (h : fn_X8_tourFrom oa0 a1 a2 a3 σ = some q) : am_M l yX8_tourFrom cX8_tourFrom 4 (some .int) 9 [am_r oa0 40 0, am_i a1, am_i a2, am_i a3] σ (some (am_i q.1)) q.2 := by
  refine am_M_of (P := am_p8) (by decide +kernel) am_p8_ok rfl ?_
  intro G p e s m args below meth c X hr
  have hc := ct_X8_tourFrom
  unfold fn_X8_tourFrom at h
  obtain ⟨ob1, h⟩ := am_ci h
  refine am_blk hc X 0 18 (fr' := (22, [(0, am_r oa0 40 0), (1, am_i a1), (2, am_i a2), (3, am_i a3)], [am_i 0, am_i 0, am_i a3, am_i ((σ.1 oa0 59 0 ((a1 : Int32).toNatClampNeg)) &&& (((1 : Int32) <<< (a2 &&& 31)) ^^^ (-1 : Int32))), am_i a2, am_r oa0 40 0], (am_u σ oa0 40 0 40 (-1)))) rfl ⟨trivial, trivial, trivial, trivial, trivial, trivial, trivial, trivial, (am_in_vp ob1), trivial, trivial, trivial, trivial, trivial, trivial, trivial, trivial, trivial, trivial⟩ ?_
  obtain ⟨q2, hq3, h⟩ := am_bs h
  refine am_callV hc 18 X (k := 40) (i := 0) (o := oa0) (As := [am_i a2, am_i ((σ.1 oa0 59 0 ((a1 : Int32).toNatClampNeg)) &&& (((1 : Int32) <<< (a2 &&& 31)) ^^^ (-1 : Int32))), am_i a3, am_i 0, am_i 0]) (rest := []) rfl (ok_X8_seekTour l  8 oa0 a2 ((σ.1 oa0 59 0 ((a1 : Int32).toNatClampNeg)) &&& (((1 : Int32) <<< (a2 &&& 31)) ^^^ (-1 : Int32))) a3 0 0 (am_u σ oa0 40 0 40 (-1)) hq3) yv_X8_seekTour ml_X8_317 (cl_40) rfl rfl rfl rfl rfl ?_
  refine am_blk hc X 19 2 (fr' := (29, [(0, am_r oa0 40 0), (1, am_i a1), (2, am_i a2), (3, am_i a3)], [am_i (q2.1 oa0 40 0 40)], q2)) rfl ⟨trivial, trivial, trivial⟩ ?_
  obtain rfl := Option.some.inj h
  exact am_iret hc X hr 21 rfl rfl rfl
def fn_X8_tourNow (oa0 : Nat) (a1 : Int32) (a2 : Int32) (σ : am_S) : Option (Int32 × am_S) :=
  (fn_X8_findFar oa0 a1 0 a2 (σ)).bind fun q1 => (bif am_in a1 6 then (bif am_in a1 6 then (fn_X8_tourFrom oa0 a1 (q1.1 oa0 58 0 ((a1 : Int32).toNatClampNeg)) (q1.1 oa0 57 0 ((a1 : Int32).toNatClampNeg)) q1).bind fun q5 => some (q5.1, q5.2) else none) else none)
set_option maxRecDepth 100000 in
theorem ok_X8_tourNow (l : Launch) (oa0 : Nat) (a1 : Int32) (a2 : Int32) (σ : am_S) {q : Int32 × am_S} (h : fn_X8_tourNow oa0 a1 a2 σ = some q) : am_M l yX8_tourNow cX8_tourNow 3 (some .int) 10 [am_r oa0 40 0, am_i a1, am_i a2] σ (some (am_i q.1)) q.2 := by
  refine am_M_of (P := am_p8) (by decide +kernel) am_p8_ok rfl ?_
  intro G p e s m args below meth c X hr
  have hc := ct_X8_tourNow
  unfold fn_X8_tourNow at h
  refine am_blk hc X 0 4 (fr' := (4, [(0, am_r oa0 40 0), (1, am_i a1), (2, am_i a2)], [am_i a2, am_i 0, am_i a1, am_r oa0 40 0], σ)) rfl ⟨trivial, trivial, trivial, trivial, trivial⟩ ?_
  obtain ⟨q1, hq2, h⟩ := am_bs h
  refine am_callV hc 4 X (k := 40) (i := 0) (o := oa0) (As := [am_i a1, am_i 0, am_i a2]) (rest := []) rfl (ok_X8_findFar l oa0 a1 0 a2 (σ) hq2) yv_X8_findFar ml_X8_304 (cl_40) rfl rfl rfl rfl rfl ?_
  obtain ⟨ob3, h⟩ := am_ci h
  obtain ⟨ob4, h⟩ := am_ci h
  refine am_blk hc X 5 10 (fr' := (21, [(0, am_r oa0 40 0), (1, am_i a1), (2, am_i a2)], [am_i (q1.1 oa0 57 0 ((a1 : Int32).toNatClampNeg)), am_i (q1.1 oa0 58 0 ((a1 : Int32).toNatClampNeg)), am_i a1, am_r oa0 40 0], q1)) rfl ⟨trivial, trivial, trivial, trivial, trivial, (am_in_vp ob3), trivial, trivial, trivial, (am_in_vp ob4), trivial⟩ ?_
  obtain ⟨q5, hq6, h⟩ := am_bs h
  refine am_callV hc 15 X (k := 40) (i := 0) (o := oa0) (As := [am_i a1, am_i (q1.1 oa0 58 0 ((a1 : Int32).toNatClampNeg)), am_i (q1.1 oa0 57 0 ((a1 : Int32).toNatClampNeg))]) (rest := []) rfl (ok_X8_tourFrom l oa0 a1 (q1.1 oa0 58 0 ((a1 : Int32).toNatClampNeg)) (q1.1 oa0 57 0 ((a1 : Int32).toNatClampNeg)) q1 hq6) yv_X8_tourFrom ml_X8_321 (cl_40) rfl rfl rfl rfl rfl ?_
  obtain rfl := Option.some.inj h
  exact am_iret hc X hr 16 rfl rfl rfl
def lb_X8_savedBy_4 (k4 : Nat → Int32 → Int32 → Int32 → am_S → Option (Int32 × am_S)) (ox0 : Nat) (x1 : Int32) (x2 : Int32) (x3 : Int32) (σ : am_S) : Option (Int32 × am_S) :=
  (if (σ.1 ox0 40 0 15) ≤ x3 then some (x2, σ) else (fn_X8_tourNow ox0 x3 x1 (σ)).bind fun q1 => (fn_X8_tourNow ox0 x3 (-1) q1.2).bind fun q3 => k4 ox0 x1 (x2 + (q1.1 - q3.1)) (x3 + 1) q3.2)
set_option maxRecDepth 100000 in
theorem lc_X8_savedBy_4 {p : Program} {l : Launch} {e : Env} {s : State} {m : MethodId} {args : Array Value} {below : List Frame} {meth : Method} {c : Code} {G : am_G} {q : Int32 × am_S} (X : am_X p s m args c cX8_savedBy yX8_savedBy.cls 4 am_p8 G (am_fr G)) (hr : meth.sig.returnType = (some .int) ∧ meth.locks = false)  (k4 : Nat → Int32 → Int32 → Int32 → am_S → Option (Int32 × am_S)) (hk4 : ∀ (ox0 : Nat) (x1 : Int32) (x2 : Int32) (x3 : Int32) (σ : am_S), k4 ox0 x1 x2 x3 σ = some q → am_A p l e (am_ro 11) s m args below meth c 4 G (am_fr G) 0 0 (MQ below (am_Qc G (some (am_i q.1)) q.2) args s 0 0 (am_fr G)) (4, [(0, am_r ox0 40 0), (1, am_i x1), (2, am_i x2), (3, am_i x3)], [], σ)) (ox0 : Nat) (x1 : Int32) (x2 : Int32) (x3 : Int32) (σ : am_S) (h : lb_X8_savedBy_4 k4 ox0 x1 x2 x3 σ = some q) : am_A p l e (am_ro 11) s m args below meth c 4 G (am_fr G) 0 0 (MQ below (am_Qc G (some (am_i q.1)) q.2) args s 0 0 (am_fr G)) (4, [(0, am_r ox0 40 0), (1, am_i x1), (2, am_i x2), (3, am_i x3)], [], σ) := by
  have hc := ct_X8_savedBy
  unfold lb_X8_savedBy_4 at h
  refine am_blk hc X 4 3 (fr' := (9, [(0, am_r ox0 40 0), (1, am_i x1), (2, am_i x2), (3, am_i x3)], [am_i (σ.1 ox0 40 0 15), am_i x3], σ)) rfl ⟨trivial, trivial, trivial, trivial⟩ ?_
  refine am_icmp_ge hc X 7 (tgt := 34) rfl (by decide) (fun c5 => ?_) (fun c5 => ?_)
  · replace h := am_ip c5 h
    refine am_blk hc X 22 1 (fr' := (35, [(0, am_r ox0 40 0), (1, am_i x1), (2, am_i x2), (3, am_i x3)], [am_i x2], σ)) rfl ⟨trivial, trivial⟩ ?_
    obtain rfl := Option.some.inj h
    exact am_iret hc X hr 23 rfl rfl rfl
  · replace h := am_in2 c5 h
    refine am_blk hc X 8 4 (fr' := (16, [(0, am_r ox0 40 0), (1, am_i x1), (2, am_i x2), (3, am_i x3)], [am_i x1, am_i x3, am_r ox0 40 0, am_i x2], σ)) rfl ⟨trivial, trivial, trivial, trivial, trivial⟩ ?_
    obtain ⟨q1, hq2, h⟩ := am_bs h
    refine am_callV hc 12 X (k := 40) (i := 0) (o := ox0) (As := [am_i x3, am_i x1]) (rest := [am_i x2]) rfl (ok_X8_tourNow l ox0 x3 x1 (σ) hq2) yv_X8_tourNow ml_X8_324 (cl_40) rfl rfl rfl rfl rfl ?_
    refine am_blk hc X 13 3 (fr' := (22, [(0, am_r ox0 40 0), (1, am_i x1), (2, am_i x2), (3, am_i x3)], [am_i (-1), am_i x3, am_r ox0 40 0, am_i q1.1, am_i x2], q1.2)) rfl ⟨trivial, trivial, trivial, trivial⟩ ?_
    obtain ⟨q3, hq4, h⟩ := am_bs h
    refine am_callV hc 16 X (k := 40) (i := 0) (o := ox0) (As := [am_i x3, am_i (-1)]) (rest := [am_i q1.1, am_i x2]) rfl (ok_X8_tourNow l ox0 x3 (-1) q1.2 hq4) yv_X8_tourNow ml_X8_324 (cl_40) rfl rfl rfl rfl rfl ?_
    refine am_blk hc X 17 5 (fr' := (4, [(0, am_r ox0 40 0), (1, am_i x1), (2, am_i (x2 + (q1.1 - q3.1))), (3, am_i (x3 + 1))], [], q3.2)) rfl ⟨trivial, trivial, trivial, trivial, trivial, trivial⟩ ?_
    exact hk4 ox0 x1 (x2 + (q1.1 - q3.1)) (x3 + 1) _ h
def lp_X8_savedBy_4  : Nat → Nat → Int32 → Int32 → Int32 → am_S → Option (Int32 × am_S)
  | 0 => fun _ _ _ _ _ => none
  | n + 1 => lb_X8_savedBy_4  (lp_X8_savedBy_4  n)
theorem ll_X8_savedBy_4 {p : Program} {l : Launch} {e : Env} {s : State} {m : MethodId} {args : Array Value} {below : List Frame} {meth : Method} {c : Code} {G : am_G} {q : Int32 × am_S} (X : am_X p s m args c cX8_savedBy yX8_savedBy.cls 4 am_p8 G (am_fr G)) (hr : meth.sig.returnType = (some .int) ∧ meth.locks = false)    : ∀ (n : Nat) (ox0 : Nat) (x1 : Int32) (x2 : Int32) (x3 : Int32) (σ : am_S), lp_X8_savedBy_4  n ox0 x1 x2 x3 σ = some q → am_A p l e (am_ro 11) s m args below meth c 4 G (am_fr G) 0 0 (MQ below (am_Qc G (some (am_i q.1)) q.2) args s 0 0 (am_fr G)) (4, [(0, am_r ox0 40 0), (1, am_i x1), (2, am_i x2), (3, am_i x3)], [], σ) := by
  intro n
  induction n with
  | zero =>
    intro ox0 x1 x2 x3 σ h
    have h : (none : Option (Int32 × am_S)) = some q := h
    cases h
  | succ n ih =>
    intro ox0 x1 x2 x3 σ h
    exact lc_X8_savedBy_4 X hr  (lp_X8_savedBy_4  n) ih ox0 x1 x2 x3 σ h
def fn_X8_savedBy (oa0 : Nat) (a1 : Int32) (σ : am_S) : Option (Int32 × am_S) :=
  lp_X8_savedBy_4  1000 oa0 a1 0 0 (σ)
set_option maxRecDepth 100000 in
theorem ok_X8_savedBy (l : Launch) (oa0 : Nat) (a1 : Int32) (σ : am_S) {q : Int32 × am_S} (h : fn_X8_savedBy oa0 a1 σ = some q) : am_M l yX8_savedBy cX8_savedBy 4 (some .int) 11 [am_r oa0 40 0, am_i a1] σ (some (am_i q.1)) q.2 := by
  refine am_M_of (P := am_p8) (by decide +kernel) am_p8_ok rfl ?_
  intro G p e s m args below meth c X hr
  have hc := ct_X8_savedBy
  unfold fn_X8_savedBy at h
  refine am_blk hc X 0 4 (fr' := (4, [(0, am_r oa0 40 0), (1, am_i a1), (2, am_i 0), (3, am_i 0)], [], σ)) rfl ⟨trivial, trivial, trivial, trivial, trivial⟩ ?_
  exact ll_X8_savedBy_4 X hr   1000 oa0 a1 0 0 _ h
def jn_X8_bestPass_44 (k18 : Nat → Int32 → Int32 → am_S → Option (Int32 × am_S)) (ox0 : Nat) (x2 : Int32) (y0 : Int32) (σ : am_S) : Option (Int32 × am_S) :=
  k18 ox0 y0 (x2 + 1) (σ)
set_option maxRecDepth 100000 in
theorem jl_X8_bestPass_44 {p : Program} {l : Launch} {e : Env} {s : State} {m : MethodId} {args : Array Value} {below : List Frame} {meth : Method} {c : Code} {G : am_G} {q : Int32 × am_S} (X : am_X p s m args c cX8_bestPass yX8_bestPass.cls 3 am_p8 G (am_fr G)) (hr : meth.sig.returnType = (some .int) ∧ meth.locks = false)  (k18 : Nat → Int32 → Int32 → am_S → Option (Int32 × am_S)) (hk18 : ∀ (ox0 : Nat) (x1 : Int32) (x2 : Int32) (σ : am_S), k18 ox0 x1 x2 σ = some q → am_A p l e (am_ro 12) s m args below meth c 3 G (am_fr G) 0 0 (MQ below (am_Qc G (some (am_i q.1)) q.2) args s 0 0 (am_fr G)) (18, [(0, am_r ox0 40 0), (1, am_i x1), (2, am_i x2)], [], σ)) (ox0 : Nat) (x2 : Int32) (y0 : Int32) (σ : am_S) (h : jn_X8_bestPass_44 k18 ox0 x2 y0 σ = some q) : am_A p l e (am_ro 12) s m args below meth c 3 G (am_fr G) 0 0 (MQ below (am_Qc G (some (am_i q.1)) q.2) args s 0 0 (am_fr G)) (44, [(0, am_r ox0 40 0), (2, am_i x2)], [am_i y0], σ) := by
  have hc := ct_X8_bestPass
  unfold jn_X8_bestPass_44 at h
  refine am_blk hc X 25 3 (fr' := (18, [(0, am_r ox0 40 0), (1, am_i y0), (2, am_i (x2 + 1))], [], σ)) rfl ⟨trivial, trivial, trivial, trivial⟩ ?_
  exact hk18 ox0 y0 (x2 + 1) _ h
def lb_X8_bestPass_18 (k18 : Nat → Int32 → Int32 → am_S → Option (Int32 × am_S)) (ox0 : Nat) (x1 : Int32) (x2 : Int32) (σ : am_S) : Option (Int32 × am_S) :=
  (if (σ.1 ox0 40 0 13) ≤ x2 then some (x1, σ) else (fn_X8_savedBy ox0 x2 (σ)).bind fun q1 => (fn_X8_savedBy ox0 x1 q1.2).bind fun q3 => (if q1.1 ≤ q3.1 then jn_X8_bestPass_44 k18 ox0 x2 x1 q3.2 else jn_X8_bestPass_44 k18 ox0 x2 x2 q3.2))
set_option maxRecDepth 100000 in
theorem lc_X8_bestPass_18 {p : Program} {l : Launch} {e : Env} {s : State} {m : MethodId} {args : Array Value} {below : List Frame} {meth : Method} {c : Code} {G : am_G} {q : Int32 × am_S} (X : am_X p s m args c cX8_bestPass yX8_bestPass.cls 3 am_p8 G (am_fr G)) (hr : meth.sig.returnType = (some .int) ∧ meth.locks = false)  (k18 : Nat → Int32 → Int32 → am_S → Option (Int32 × am_S)) (hk18 : ∀ (ox0 : Nat) (x1 : Int32) (x2 : Int32) (σ : am_S), k18 ox0 x1 x2 σ = some q → am_A p l e (am_ro 12) s m args below meth c 3 G (am_fr G) 0 0 (MQ below (am_Qc G (some (am_i q.1)) q.2) args s 0 0 (am_fr G)) (18, [(0, am_r ox0 40 0), (1, am_i x1), (2, am_i x2)], [], σ)) (ox0 : Nat) (x1 : Int32) (x2 : Int32) (σ : am_S) (h : lb_X8_bestPass_18 k18 ox0 x1 x2 σ = some q) : am_A p l e (am_ro 12) s m args below meth c 3 G (am_fr G) 0 0 (MQ below (am_Qc G (some (am_i q.1)) q.2) args s 0 0 (am_fr G)) (18, [(0, am_r ox0 40 0), (1, am_i x1), (2, am_i x2)], [], σ) := by
  have hc := ct_X8_bestPass
  unfold lb_X8_bestPass_18 at h
  refine am_blk hc X 11 3 (fr' := (23, [(0, am_r ox0 40 0), (1, am_i x1), (2, am_i x2)], [am_i (σ.1 ox0 40 0 13), am_i x2], σ)) rfl ⟨trivial, trivial, trivial, trivial⟩ ?_
  refine am_icmp_ge hc X 14 (tgt := 51) rfl (by decide) (fun c6 => ?_) (fun c6 => ?_)
  · replace h := am_ip c6 h
    refine am_blk hc X 28 1 (fr' := (52, [(0, am_r ox0 40 0), (1, am_i x1), (2, am_i x2)], [am_i x1], σ)) rfl ⟨trivial, trivial⟩ ?_
    obtain rfl := Option.some.inj h
    exact am_iret hc X hr 29 rfl rfl rfl
  · replace h := am_in2 c6 h
    refine am_blk hc X 15 2 (fr' := (28, [(0, am_r ox0 40 0), (1, am_i x1), (2, am_i x2)], [am_i x2, am_r ox0 40 0], σ)) rfl ⟨trivial, trivial, trivial⟩ ?_
    obtain ⟨q1, hq2, h⟩ := am_bs h
    refine am_callV hc 17 X (k := 40) (i := 0) (o := ox0) (As := [am_i x2]) (rest := []) rfl (ok_X8_savedBy l ox0 x2 (σ) hq2) yv_X8_savedBy ml_X8_327 (cl_40) rfl rfl rfl rfl rfl ?_
    refine am_blk hc X 18 2 (fr' := (33, [(0, am_r ox0 40 0), (1, am_i x1), (2, am_i x2)], [am_i x1, am_r ox0 40 0, am_i q1.1], q1.2)) rfl ⟨trivial, trivial, trivial⟩ ?_
    obtain ⟨q3, hq4, h⟩ := am_bs h
    refine am_callV hc 20 X (k := 40) (i := 0) (o := ox0) (As := [am_i x1]) (rest := [am_i q1.1]) rfl (ok_X8_savedBy l ox0 x1 q1.2 hq4) yv_X8_savedBy ml_X8_327 (cl_40) rfl rfl rfl rfl rfl ?_
    refine am_icmp_le hc X 21 (tgt := 43) rfl (by decide) (fun c5 => ?_) (fun c5 => ?_)
    · replace h := am_ip c5 h
      refine am_blk hc X 24 1 (fr' := (44, [(0, am_r ox0 40 0), (1, am_i x1), (2, am_i x2)], [am_i x1], q3.2)) rfl ⟨trivial, trivial⟩ ?_
      refine am_less [0, 2] rfl ?_
      exact jl_X8_bestPass_44 X hr k18 hk18 ox0 x2 x1 _ h
    · replace h := am_in2 c5 h
      refine am_blk hc X 22 2 (fr' := (44, [(0, am_r ox0 40 0), (1, am_i x1), (2, am_i x2)], [am_i x2], q3.2)) rfl ⟨trivial, trivial, trivial⟩ ?_
      refine am_less [0, 2] rfl ?_
      exact jl_X8_bestPass_44 X hr k18 hk18 ox0 x2 x2 _ h
def lp_X8_bestPass_18  : Nat → Nat → Int32 → Int32 → am_S → Option (Int32 × am_S)
  | 0 => fun _ _ _ _ => none
  | n + 1 => lb_X8_bestPass_18  (lp_X8_bestPass_18  n)
theorem ll_X8_bestPass_18 {p : Program} {l : Launch} {e : Env} {s : State} {m : MethodId} {args : Array Value} {below : List Frame} {meth : Method} {c : Code} {G : am_G} {q : Int32 × am_S} (X : am_X p s m args c cX8_bestPass yX8_bestPass.cls 3 am_p8 G (am_fr G)) (hr : meth.sig.returnType = (some .int) ∧ meth.locks = false)    : ∀ (n : Nat) (ox0 : Nat) (x1 : Int32) (x2 : Int32) (σ : am_S), lp_X8_bestPass_18  n ox0 x1 x2 σ = some q → am_A p l e (am_ro 12) s m args below meth c 3 G (am_fr G) 0 0 (MQ below (am_Qc G (some (am_i q.1)) q.2) args s 0 0 (am_fr G)) (18, [(0, am_r ox0 40 0), (1, am_i x1), (2, am_i x2)], [], σ) := by
  intro n
  induction n with
  | zero =>
    intro ox0 x1 x2 σ h
    have h : (none : Option (Int32 × am_S)) = some q := h
    cases h
  | succ n ih =>
    intro ox0 x1 x2 σ h
    exact lc_X8_bestPass_18 X hr  (lp_X8_bestPass_18  n) ih ox0 x1 x2 σ h
def fn_X8_bestPass (oa0 : Nat) (σ : am_S) : Option (Int32 × am_S) :=
  (if (σ.1 oa0 40 0 13) = 0 then (fn_X8_refuse oa0 (-5) (σ)).bind fun q7 => some (q7.1, q7.2) else lp_X8_bestPass_18  1000 oa0 0 1 (σ))
set_option maxRecDepth 100000 in
theorem ok_X8_bestPass (l : Launch) (oa0 : Nat) (σ : am_S) {q : Int32 × am_S} (h : fn_X8_bestPass oa0 σ = some q) : am_M l yX8_bestPass cX8_bestPass 3 (some .int) 12 [am_r oa0 40 0] σ (some (am_i q.1)) q.2 := by
  refine am_M_of (P := am_p8) (by decide +kernel) am_p8_ok rfl ?_
  intro G p e s m args below meth c X hr
  have hc := ct_X8_bestPass
  unfold fn_X8_bestPass at h
  refine am_blk hc X 0 2 (fr' := (4, [(0, am_r oa0 40 0)], [am_i (σ.1 oa0 40 0 13)], σ)) rfl ⟨trivial, trivial, trivial⟩ ?_
  refine am_if_ne hc X 2 (tgt := 14) rfl (by decide) (fun c9 => ?_) (fun c9 => ?_)
  · replace h := am_in2 c9 h
    refine am_blk hc X 7 4 (fr' := (18, [(0, am_r oa0 40 0), (1, am_i 0), (2, am_i 1)], [], σ)) rfl ⟨trivial, trivial, trivial, trivial, trivial⟩ ?_
    exact ll_X8_bestPass_18 X hr   1000 oa0 0 1 _ h
  · replace h := am_ip c9 h
    refine am_blk hc X 3 2 (fr' := (10, [(0, am_r oa0 40 0)], [am_i (-5), am_r oa0 40 0], σ)) rfl ⟨trivial, trivial, trivial⟩ ?_
    obtain ⟨q7, hq8, h⟩ := am_bs h
    refine am_callV hc 5 X (k := 40) (i := 0) (o := oa0) (As := [am_i (-5)]) (rest := []) rfl (ok_X8_refuse l oa0 (-5) (σ) hq8) yv_X8_refuse ml_X8_129 (cl_40) rfl rfl rfl rfl rfl ?_
    obtain rfl := Option.some.inj h
    exact am_iret hc X hr 6 rfl rfl rfl
def jn_X8_copy_24  (ox0 : Nat) (σ : am_S) : Option (Int32 × am_S) :=
  (fn_X8_refuse ox0 (-2) (σ)).bind fun q3 => some (q3.1, q3.2)
set_option maxRecDepth 100000 in
theorem jl_X8_copy_24 {p : Program} {l : Launch} {e : Env} {s : State} {m : MethodId} {args : Array Value} {below : List Frame} {meth : Method} {c : Code} {G : am_G} {q : Int32 × am_S} (X : am_X p s m args c cX8_copy yX8_copy.cls 7 am_p8 G (am_fr G)) (hr : meth.sig.returnType = (some .int) ∧ meth.locks = false)    (ox0 : Nat) (σ : am_S) (h : jn_X8_copy_24  ox0 σ = some q) : am_A p l e (am_ro 1) s m args below meth c 7 G (am_fr G) 0 0 (MQ below (am_Qc G (some (am_i q.1)) q.2) args s 0 0 (am_fr G)) (24, [(0, am_r ox0 40 0)], [], σ) := by
  have hc := ct_X8_copy
  unfold jn_X8_copy_24 at h
  refine am_blk hc X 12 2 (fr' := (27, [(0, am_r ox0 40 0)], [am_i (-2), am_r ox0 40 0], σ)) rfl ⟨trivial, trivial, trivial⟩ ?_
  obtain ⟨q3, hq4, h⟩ := am_bs h
  refine am_callV hc 14 X (k := 40) (i := 0) (o := ox0) (As := [am_i (-2)]) (rest := []) rfl (ok_X8_refuse l ox0 (-2) (σ) hq4) yv_X8_refuse ml_X8_129 (cl_40) rfl rfl rfl rfl rfl ?_
  obtain rfl := Option.some.inj h
  exact am_iret hc X hr 15 rfl rfl rfl
def jn_X8_copy_86  (ox0 : Nat) (σ : am_S) : Option (Int32 × am_S) :=
  (fn_X8_refuse ox0 (-3) (σ)).bind fun q8 => some (q8.1, q8.2)
set_option maxRecDepth 100000 in
theorem jl_X8_copy_86 {p : Program} {l : Launch} {e : Env} {s : State} {m : MethodId} {args : Array Value} {below : List Frame} {meth : Method} {c : Code} {G : am_G} {q : Int32 × am_S} (X : am_X p s m args c cX8_copy yX8_copy.cls 7 am_p8 G (am_fr G)) (hr : meth.sig.returnType = (some .int) ∧ meth.locks = false)    (ox0 : Nat) (σ : am_S) (h : jn_X8_copy_86  ox0 σ = some q) : am_A p l e (am_ro 1) s m args below meth c 7 G (am_fr G) 0 0 (MQ below (am_Qc G (some (am_i q.1)) q.2) args s 0 0 (am_fr G)) (86, [(0, am_r ox0 40 0)], [], σ) := by
  have hc := ct_X8_copy
  unfold jn_X8_copy_86 at h
  refine am_blk hc X 49 2 (fr' := (89, [(0, am_r ox0 40 0)], [am_i (-3), am_r ox0 40 0], σ)) rfl ⟨trivial, trivial, trivial⟩ ?_
  obtain ⟨q8, hq9, h⟩ := am_bs h
  refine am_callV hc 51 X (k := 40) (i := 0) (o := ox0) (As := [am_i (-3)]) (rest := []) rfl (ok_X8_refuse l ox0 (-3) (σ) hq9) yv_X8_refuse ml_X8_129 (cl_40) rfl rfl rfl rfl rfl ?_
  obtain rfl := Option.some.inj h
  exact am_iret hc X hr 52 rfl rfl rfl
def jn_X8_copy_111  (ox0 : Nat) (σ : am_S) : Option (Int32 × am_S) :=
  (fn_X8_refuse ox0 (-4) (σ)).bind fun q13 => some (q13.1, q13.2)
set_option maxRecDepth 100000 in
theorem jl_X8_copy_111 {p : Program} {l : Launch} {e : Env} {s : State} {m : MethodId} {args : Array Value} {below : List Frame} {meth : Method} {c : Code} {G : am_G} {q : Int32 × am_S} (X : am_X p s m args c cX8_copy yX8_copy.cls 7 am_p8 G (am_fr G)) (hr : meth.sig.returnType = (some .int) ∧ meth.locks = false)    (ox0 : Nat) (σ : am_S) (h : jn_X8_copy_111  ox0 σ = some q) : am_A p l e (am_ro 1) s m args below meth c 7 G (am_fr G) 0 0 (MQ below (am_Qc G (some (am_i q.1)) q.2) args s 0 0 (am_fr G)) (111, [(0, am_r ox0 40 0)], [], σ) := by
  have hc := ct_X8_copy
  unfold jn_X8_copy_111 at h
  refine am_blk hc X 63 2 (fr' := (114, [(0, am_r ox0 40 0)], [am_i (-4), am_r ox0 40 0], σ)) rfl ⟨trivial, trivial, trivial⟩ ?_
  obtain ⟨q13, hq14, h⟩ := am_bs h
  refine am_callV hc 65 X (k := 40) (i := 0) (o := ox0) (As := [am_i (-4)]) (rest := []) rfl (ok_X8_refuse l ox0 (-4) (σ) hq14) yv_X8_refuse ml_X8_129 (cl_40) rfl rfl rfl rfl rfl ?_
  obtain rfl := Option.some.inj h
  exact am_iret hc X hr 66 rfl rfl rfl
def jn_X8_copy_181  (ox0 : Nat) (σ : am_S) : Option (Int32 × am_S) :=
  (fn_X8_refuse ox0 (-2) (σ)).bind fun q16 => some (q16.1, q16.2)
set_option maxRecDepth 100000 in
theorem jl_X8_copy_181 {p : Program} {l : Launch} {e : Env} {s : State} {m : MethodId} {args : Array Value} {below : List Frame} {meth : Method} {c : Code} {G : am_G} {q : Int32 × am_S} (X : am_X p s m args c cX8_copy yX8_copy.cls 7 am_p8 G (am_fr G)) (hr : meth.sig.returnType = (some .int) ∧ meth.locks = false)    (ox0 : Nat) (σ : am_S) (h : jn_X8_copy_181  ox0 σ = some q) : am_A p l e (am_ro 1) s m args below meth c 7 G (am_fr G) 0 0 (MQ below (am_Qc G (some (am_i q.1)) q.2) args s 0 0 (am_fr G)) (181, [(0, am_r ox0 40 0)], [], σ) := by
  have hc := ct_X8_copy
  unfold jn_X8_copy_181 at h
  refine am_blk hc X 101 2 (fr' := (184, [(0, am_r ox0 40 0)], [am_i (-2), am_r ox0 40 0], σ)) rfl ⟨trivial, trivial, trivial⟩ ?_
  obtain ⟨q16, hq17, h⟩ := am_bs h
  refine am_callV hc 103 X (k := 40) (i := 0) (o := ox0) (As := [am_i (-2)]) (rest := []) rfl (ok_X8_refuse l ox0 (-2) (σ) hq17) yv_X8_refuse ml_X8_129 (cl_40) rfl rfl rfl rfl rfl ?_
  obtain rfl := Option.some.inj h
  exact am_iret hc X hr 104 rfl rfl rfl
def lb_X8_copy_225 (k225 : Nat → Int32 → Int32 → Int32 → Int32 → am_S → Option (Int32 × am_S)) (ox0 : Nat) (x2 : Int32) (x4 : Int32) (x5 : Int32) (x6 : Int32) (σ : am_S) : Option (Int32 × am_S) :=
  (if x5 ≤ x6 then some (x5, σ) else (bif am_in x2 8 then (bif am_in x6 40 then (bif am_in (x4 + x6) 40 then k225 ox0 x2 x4 x5 (x6 + 1) (am_ul σ ox0 45 ((x2 : Int32).toNatClampNeg) (((x4 + x6) : Int32).toNatClampNeg) (σ.2 ox0 46 0 ((x6 : Int32).toNatClampNeg))) else none) else none) else none))
set_option maxRecDepth 100000 in
theorem lc_X8_copy_225 {p : Program} {l : Launch} {e : Env} {s : State} {m : MethodId} {args : Array Value} {below : List Frame} {meth : Method} {c : Code} {G : am_G} {q : Int32 × am_S} (X : am_X p s m args c cX8_copy yX8_copy.cls 7 am_p8 G (am_fr G)) (hr : meth.sig.returnType = (some .int) ∧ meth.locks = false)  (k225 : Nat → Int32 → Int32 → Int32 → Int32 → am_S → Option (Int32 × am_S)) (hk225 : ∀ (ox0 : Nat) (x2 : Int32) (x4 : Int32) (x5 : Int32) (x6 : Int32) (σ : am_S), k225 ox0 x2 x4 x5 x6 σ = some q → am_A p l e (am_ro 1) s m args below meth c 7 G (am_fr G) 0 0 (MQ below (am_Qc G (some (am_i q.1)) q.2) args s 0 0 (am_fr G)) (225, [(0, am_r ox0 40 0), (2, am_i x2), (4, am_i x4), (5, am_i x5), (6, am_i x6)], [], σ)) (ox0 : Nat) (x2 : Int32) (x4 : Int32) (x5 : Int32) (x6 : Int32) (σ : am_S) (h : lb_X8_copy_225 k225 ox0 x2 x4 x5 x6 σ = some q) : am_A p l e (am_ro 1) s m args below meth c 7 G (am_fr G) 0 0 (MQ below (am_Qc G (some (am_i q.1)) q.2) args s 0 0 (am_fr G)) (225, [(0, am_r ox0 40 0), (2, am_i x2), (4, am_i x4), (5, am_i x5), (6, am_i x6)], [], σ) := by
  have hc := ct_X8_copy
  unfold lb_X8_copy_225 at h
  refine am_blk hc X 126 2 (fr' := (229, [(0, am_r ox0 40 0), (2, am_i x2), (4, am_i x4), (5, am_i x5), (6, am_i x6)], [am_i x5, am_i x6], σ)) rfl ⟨trivial, trivial, trivial⟩ ?_
  refine am_icmp_ge hc X 128 (tgt := 257) rfl (by decide) (fun c25 => ?_) (fun c25 => ?_)
  · replace h := am_ip c25 h
    refine am_blk hc X 143 1 (fr' := (259, [(0, am_r ox0 40 0), (2, am_i x2), (4, am_i x4), (5, am_i x5), (6, am_i x6)], [am_i x5], σ)) rfl ⟨trivial, trivial⟩ ?_
    obtain rfl := Option.some.inj h
    exact am_iret hc X hr 144 rfl rfl rfl
  · replace h := am_in2 c25 h
    obtain ⟨ob22, h⟩ := am_ci h
    obtain ⟨ob23, h⟩ := am_ci h
    obtain ⟨ob24, h⟩ := am_ci h
    refine am_blk hc X 129 14 (fr' := (225, [(0, am_r ox0 40 0), (2, am_i x2), (4, am_i x4), (5, am_i x5), (6, am_i (x6 + 1))], [], (am_ul σ ox0 45 ((x2 : Int32).toNatClampNeg) (((x4 + x6) : Int32).toNatClampNeg) (σ.2 ox0 46 0 ((x6 : Int32).toNatClampNeg))))) rfl ⟨trivial, trivial, trivial, (am_in_vp ob22), trivial, trivial, trivial, trivial, trivial, trivial, (am_in_vp ob23), (am_in_vp ob24), trivial, trivial, trivial⟩ ?_
    exact hk225 ox0 x2 x4 x5 (x6 + 1) _ h
def lp_X8_copy_225  : Nat → Nat → Int32 → Int32 → Int32 → Int32 → am_S → Option (Int32 × am_S)
  | 0 => fun _ _ _ _ _ _ => none
  | n + 1 => lb_X8_copy_225  (lp_X8_copy_225  n)
theorem ll_X8_copy_225 {p : Program} {l : Launch} {e : Env} {s : State} {m : MethodId} {args : Array Value} {below : List Frame} {meth : Method} {c : Code} {G : am_G} {q : Int32 × am_S} (X : am_X p s m args c cX8_copy yX8_copy.cls 7 am_p8 G (am_fr G)) (hr : meth.sig.returnType = (some .int) ∧ meth.locks = false)    : ∀ (n : Nat) (ox0 : Nat) (x2 : Int32) (x4 : Int32) (x5 : Int32) (x6 : Int32) (σ : am_S), lp_X8_copy_225  n ox0 x2 x4 x5 x6 σ = some q → am_A p l e (am_ro 1) s m args below meth c 7 G (am_fr G) 0 0 (MQ below (am_Qc G (some (am_i q.1)) q.2) args s 0 0 (am_fr G)) (225, [(0, am_r ox0 40 0), (2, am_i x2), (4, am_i x4), (5, am_i x5), (6, am_i x6)], [], σ) := by
  intro n
  induction n with
  | zero =>
    intro ox0 x2 x4 x5 x6 σ h
    have h : (none : Option (Int32 × am_S)) = some q := h
    cases h
  | succ n ih =>
    intro ox0 x2 x4 x5 x6 σ h
    exact lc_X8_copy_225 X hr  (lp_X8_copy_225  n) ih ox0 x2 x4 x5 x6 σ h
def lb_X8_copy_191 (k191 : Nat → Int32 → Int32 → Int32 → Int32 → Int32 → Int32 → am_S → Option (Int32 × am_S)) (ox0 : Nat) (x1 : Int32) (x2 : Int32) (x3 : Int32) (x4 : Int32) (x5 : Int32) (x6 : Int32) (σ : am_S) : Option (Int32 × am_S) :=
  (if x5 ≤ x6 then lp_X8_copy_225  1000 ox0 x2 x4 x5 0 (σ) else (bif am_in x1 8 then (bif am_in (x3 + x6) 40 then (bif am_in x6 40 then k191 ox0 x1 x2 x3 x4 x5 (x6 + 1) (am_ul σ ox0 46 0 ((x6 : Int32).toNatClampNeg) (σ.2 ox0 45 ((x1 : Int32).toNatClampNeg) (((x3 + x6) : Int32).toNatClampNeg))) else none) else none) else none))
set_option maxRecDepth 100000 in
theorem lc_X8_copy_191 {p : Program} {l : Launch} {e : Env} {s : State} {m : MethodId} {args : Array Value} {below : List Frame} {meth : Method} {c : Code} {G : am_G} {q : Int32 × am_S} (X : am_X p s m args c cX8_copy yX8_copy.cls 7 am_p8 G (am_fr G)) (hr : meth.sig.returnType = (some .int) ∧ meth.locks = false)  (k191 : Nat → Int32 → Int32 → Int32 → Int32 → Int32 → Int32 → am_S → Option (Int32 × am_S)) (hk191 : ∀ (ox0 : Nat) (x1 : Int32) (x2 : Int32) (x3 : Int32) (x4 : Int32) (x5 : Int32) (x6 : Int32) (σ : am_S), k191 ox0 x1 x2 x3 x4 x5 x6 σ = some q → am_A p l e (am_ro 1) s m args below meth c 7 G (am_fr G) 0 0 (MQ below (am_Qc G (some (am_i q.1)) q.2) args s 0 0 (am_fr G)) (191, [(0, am_r ox0 40 0), (1, am_i x1), (2, am_i x2), (3, am_i x3), (4, am_i x4), (5, am_i x5), (6, am_i x6)], [], σ)) (ox0 : Nat) (x1 : Int32) (x2 : Int32) (x3 : Int32) (x4 : Int32) (x5 : Int32) (x6 : Int32) (σ : am_S) (h : lb_X8_copy_191 k191 ox0 x1 x2 x3 x4 x5 x6 σ = some q) : am_A p l e (am_ro 1) s m args below meth c 7 G (am_fr G) 0 0 (MQ below (am_Qc G (some (am_i q.1)) q.2) args s 0 0 (am_fr G)) (191, [(0, am_r ox0 40 0), (1, am_i x1), (2, am_i x2), (3, am_i x3), (4, am_i x4), (5, am_i x5), (6, am_i x6)], [], σ) := by
  have hc := ct_X8_copy
  unfold lb_X8_copy_191 at h
  refine am_blk hc X 107 2 (fr' := (195, [(0, am_r ox0 40 0), (1, am_i x1), (2, am_i x2), (3, am_i x3), (4, am_i x4), (5, am_i x5), (6, am_i x6)], [am_i x5, am_i x6], σ)) rfl ⟨trivial, trivial, trivial⟩ ?_
  refine am_icmp_ge hc X 109 (tgt := 222) rfl (by decide) (fun c29 => ?_) (fun c29 => ?_)
  · replace h := am_ip c29 h
    refine am_blk hc X 124 2 (fr' := (225, [(0, am_r ox0 40 0), (1, am_i x1), (2, am_i x2), (3, am_i x3), (4, am_i x4), (5, am_i x5), (6, am_i 0)], [], σ)) rfl ⟨trivial, trivial, trivial⟩ ?_
    refine am_less [0, 2, 4, 5, 6] rfl ?_
    exact ll_X8_copy_225 X hr   1000 ox0 x2 x4 x5 0 _ h
  · replace h := am_in2 c29 h
    obtain ⟨ob26, h⟩ := am_ci h
    obtain ⟨ob27, h⟩ := am_ci h
    obtain ⟨ob28, h⟩ := am_ci h
    refine am_blk hc X 110 14 (fr' := (191, [(0, am_r ox0 40 0), (1, am_i x1), (2, am_i x2), (3, am_i x3), (4, am_i x4), (5, am_i x5), (6, am_i (x6 + 1))], [], (am_ul σ ox0 46 0 ((x6 : Int32).toNatClampNeg) (σ.2 ox0 45 ((x1 : Int32).toNatClampNeg) (((x3 + x6) : Int32).toNatClampNeg))))) rfl ⟨trivial, trivial, trivial, trivial, trivial, trivial, (am_in_vp ob26), trivial, trivial, trivial, (am_in_vp ob27), (am_in_vp ob28), trivial, trivial, trivial⟩ ?_
    exact hk191 ox0 x1 x2 x3 x4 x5 (x6 + 1) _ h
def lp_X8_copy_191  : Nat → Nat → Int32 → Int32 → Int32 → Int32 → Int32 → Int32 → am_S → Option (Int32 × am_S)
  | 0 => fun _ _ _ _ _ _ _ _ => none
  | n + 1 => lb_X8_copy_191  (lp_X8_copy_191  n)
theorem ll_X8_copy_191 {p : Program} {l : Launch} {e : Env} {s : State} {m : MethodId} {args : Array Value} {below : List Frame} {meth : Method} {c : Code} {G : am_G} {q : Int32 × am_S} (X : am_X p s m args c cX8_copy yX8_copy.cls 7 am_p8 G (am_fr G)) (hr : meth.sig.returnType = (some .int) ∧ meth.locks = false)    : ∀ (n : Nat) (ox0 : Nat) (x1 : Int32) (x2 : Int32) (x3 : Int32) (x4 : Int32) (x5 : Int32) (x6 : Int32) (σ : am_S), lp_X8_copy_191  n ox0 x1 x2 x3 x4 x5 x6 σ = some q → am_A p l e (am_ro 1) s m args below meth c 7 G (am_fr G) 0 0 (MQ below (am_Qc G (some (am_i q.1)) q.2) args s 0 0 (am_fr G)) (191, [(0, am_r ox0 40 0), (1, am_i x1), (2, am_i x2), (3, am_i x3), (4, am_i x4), (5, am_i x5), (6, am_i x6)], [], σ) := by
  intro n
  induction n with
  | zero =>
    intro ox0 x1 x2 x3 x4 x5 x6 σ h
    have h : (none : Option (Int32 × am_S)) = some q := h
    cases h
  | succ n ih =>
    intro ox0 x1 x2 x3 x4 x5 x6 σ h
    exact lc_X8_copy_191 X hr  (lp_X8_copy_191  n) ih ox0 x1 x2 x3 x4 x5 x6 σ h
def jn_X8_copy_93  (ox0 : Nat) (x1 : Int32) (x2 : Int32) (x3 : Int32) (x4 : Int32) (x5 : Int32) (σ : am_S) : Option (Int32 × am_S) :=
  (bif am_in x1 8 then (if (σ.1 ox0 41 0 ((x1 : Int32).toNatClampNeg)) = 0 then jn_X8_copy_111  ox0 (σ) else (bif am_in x2 8 then (if (σ.1 ox0 41 0 ((x2 : Int32).toNatClampNeg)) = 0 then jn_X8_copy_111  ox0 (σ) else (if x5 < 0 then jn_X8_copy_181  ox0 (σ) else (if x3 < 0 then jn_X8_copy_181  ox0 (σ) else (if x4 < 0 then jn_X8_copy_181  ox0 (σ) else (bif am_in x1 8 then (if (σ.1 ox0 43 0 ((x1 : Int32).toNatClampNeg)) < x5 then jn_X8_copy_181  ox0 (σ) else (bif am_in x2 8 then (if (σ.1 ox0 43 0 ((x2 : Int32).toNatClampNeg)) < x5 then jn_X8_copy_181  ox0 (σ) else (bif am_in x1 8 then (if ((σ.1 ox0 43 0 ((x1 : Int32).toNatClampNeg)) - x5) < x3 then jn_X8_copy_181  ox0 (σ) else (bif am_in x2 8 then (if x4 ≤ ((σ.1 ox0 43 0 ((x2 : Int32).toNatClampNeg)) - x5) then lp_X8_copy_191  1000 ox0 x1 x2 x3 x4 x5 0 (σ) else jn_X8_copy_181  ox0 (σ)) else none)) else none)) else none)) else none))))) else none)) else none)
set_option maxRecDepth 100000 in
theorem jl_X8_copy_93 {p : Program} {l : Launch} {e : Env} {s : State} {m : MethodId} {args : Array Value} {below : List Frame} {meth : Method} {c : Code} {G : am_G} {q : Int32 × am_S} (X : am_X p s m args c cX8_copy yX8_copy.cls 7 am_p8 G (am_fr G)) (hr : meth.sig.returnType = (some .int) ∧ meth.locks = false)    (ox0 : Nat) (x1 : Int32) (x2 : Int32) (x3 : Int32) (x4 : Int32) (x5 : Int32) (σ : am_S) (h : jn_X8_copy_93  ox0 x1 x2 x3 x4 x5 σ = some q) : am_A p l e (am_ro 1) s m args below meth c 7 G (am_fr G) 0 0 (MQ below (am_Qc G (some (am_i q.1)) q.2) args s 0 0 (am_fr G)) (93, [(0, am_r ox0 40 0), (1, am_i x1), (2, am_i x2), (3, am_i x3), (4, am_i x4), (5, am_i x5)], [], σ) := by
  have hc := ct_X8_copy
  unfold jn_X8_copy_93 at h
  obtain ⟨ob12, h⟩ := am_ci h
  refine am_blk hc X 53 4 (fr' := (99, [(0, am_r ox0 40 0), (1, am_i x1), (2, am_i x2), (3, am_i x3), (4, am_i x4), (5, am_i x5)], [am_i (σ.1 ox0 41 0 ((x1 : Int32).toNatClampNeg))], σ)) rfl ⟨trivial, trivial, trivial, (am_in_vp ob12), trivial⟩ ?_
  refine am_if_eq hc X 57 (tgt := 111) rfl (by decide) (fun c38 => ?_) (fun c38 => ?_)
  · replace h := am_ip c38 h
    refine am_less [0] rfl ?_
    exact jl_X8_copy_111 X hr   ox0 _ h
  · replace h := am_in2 c38 h
    obtain ⟨ob15, h⟩ := am_ci h
    refine am_blk hc X 58 4 (fr' := (108, [(0, am_r ox0 40 0), (1, am_i x1), (2, am_i x2), (3, am_i x3), (4, am_i x4), (5, am_i x5)], [am_i (σ.1 ox0 41 0 ((x2 : Int32).toNatClampNeg))], σ)) rfl ⟨trivial, trivial, trivial, (am_in_vp ob15), trivial⟩ ?_
    refine am_if_ne hc X 62 (tgt := 118) rfl (by decide) (fun c37 => ?_) (fun c37 => ?_)
    · replace h := am_in2 c37 h
      refine am_blk hc X 67 1 (fr' := (120, [(0, am_r ox0 40 0), (1, am_i x1), (2, am_i x2), (3, am_i x3), (4, am_i x4), (5, am_i x5)], [am_i x5], σ)) rfl ⟨trivial, trivial⟩ ?_
      refine am_if_lt hc X 68 (tgt := 181) rfl (by decide) (fun c36 => ?_) (fun c36 => ?_)
      · replace h := am_ip c36 h
        refine am_less [0] rfl ?_
        exact jl_X8_copy_181 X hr   ox0 _ h
      · replace h := am_in2 c36 h
        refine am_blk hc X 69 1 (fr' := (124, [(0, am_r ox0 40 0), (1, am_i x1), (2, am_i x2), (3, am_i x3), (4, am_i x4), (5, am_i x5)], [am_i x3], σ)) rfl ⟨trivial, trivial⟩ ?_
        refine am_if_lt hc X 70 (tgt := 181) rfl (by decide) (fun c35 => ?_) (fun c35 => ?_)
        · replace h := am_ip c35 h
          refine am_less [0] rfl ?_
          exact jl_X8_copy_181 X hr   ox0 _ h
        · replace h := am_in2 c35 h
          refine am_blk hc X 71 1 (fr' := (129, [(0, am_r ox0 40 0), (1, am_i x1), (2, am_i x2), (3, am_i x3), (4, am_i x4), (5, am_i x5)], [am_i x4], σ)) rfl ⟨trivial, trivial⟩ ?_
          refine am_if_lt hc X 72 (tgt := 181) rfl (by decide) (fun c34 => ?_) (fun c34 => ?_)
          · replace h := am_ip c34 h
            refine am_less [0] rfl ?_
            exact jl_X8_copy_181 X hr   ox0 _ h
          · replace h := am_in2 c34 h
            obtain ⟨ob18, h⟩ := am_ci h
            refine am_blk hc X 73 5 (fr' := (140, [(0, am_r ox0 40 0), (1, am_i x1), (2, am_i x2), (3, am_i x3), (4, am_i x4), (5, am_i x5)], [am_i (σ.1 ox0 43 0 ((x1 : Int32).toNatClampNeg)), am_i x5], σ)) rfl ⟨trivial, trivial, trivial, trivial, (am_in_vp ob18), trivial⟩ ?_
            refine am_icmp_gt hc X 78 (tgt := 181) rfl (by decide) (fun c33 => ?_) (fun c33 => ?_)
            · replace h := am_ip c33 h
              refine am_less [0] rfl ?_
              exact jl_X8_copy_181 X hr   ox0 _ h
            · replace h := am_in2 c33 h
              obtain ⟨ob19, h⟩ := am_ci h
              refine am_blk hc X 79 5 (fr' := (151, [(0, am_r ox0 40 0), (1, am_i x1), (2, am_i x2), (3, am_i x3), (4, am_i x4), (5, am_i x5)], [am_i (σ.1 ox0 43 0 ((x2 : Int32).toNatClampNeg)), am_i x5], σ)) rfl ⟨trivial, trivial, trivial, trivial, (am_in_vp ob19), trivial⟩ ?_
              refine am_icmp_gt hc X 84 (tgt := 181) rfl (by decide) (fun c32 => ?_) (fun c32 => ?_)
              · replace h := am_ip c32 h
                refine am_less [0] rfl ?_
                exact jl_X8_copy_181 X hr   ox0 _ h
              · replace h := am_in2 c32 h
                obtain ⟨ob20, h⟩ := am_ci h
                refine am_blk hc X 85 7 (fr' := (164, [(0, am_r ox0 40 0), (1, am_i x1), (2, am_i x2), (3, am_i x3), (4, am_i x4), (5, am_i x5)], [am_i ((σ.1 ox0 43 0 ((x1 : Int32).toNatClampNeg)) - x5), am_i x3], σ)) rfl ⟨trivial, trivial, trivial, trivial, (am_in_vp ob20), trivial, trivial, trivial⟩ ?_
                refine am_icmp_gt hc X 92 (tgt := 181) rfl (by decide) (fun c31 => ?_) (fun c31 => ?_)
                · replace h := am_ip c31 h
                  refine am_less [0] rfl ?_
                  exact jl_X8_copy_181 X hr   ox0 _ h
                · replace h := am_in2 c31 h
                  obtain ⟨ob21, h⟩ := am_ci h
                  refine am_blk hc X 93 7 (fr' := (178, [(0, am_r ox0 40 0), (1, am_i x1), (2, am_i x2), (3, am_i x3), (4, am_i x4), (5, am_i x5)], [am_i ((σ.1 ox0 43 0 ((x2 : Int32).toNatClampNeg)) - x5), am_i x4], σ)) rfl ⟨trivial, trivial, trivial, trivial, (am_in_vp ob21), trivial, trivial, trivial⟩ ?_
                  refine am_icmp_le hc X 100 (tgt := 188) rfl (by decide) (fun c30 => ?_) (fun c30 => ?_)
                  · replace h := am_ip c30 h
                    refine am_blk hc X 105 2 (fr' := (191, [(0, am_r ox0 40 0), (1, am_i x1), (2, am_i x2), (3, am_i x3), (4, am_i x4), (5, am_i x5), (6, am_i 0)], [], σ)) rfl ⟨trivial, trivial, trivial⟩ ?_
                    exact ll_X8_copy_191 X hr   1000 ox0 x1 x2 x3 x4 x5 0 _ h
                  · replace h := am_in2 c30 h
                    refine am_less [0] rfl ?_
                    exact jl_X8_copy_181 X hr   ox0 _ h
    · replace h := am_ip c37 h
      refine am_less [0] rfl ?_
      exact jl_X8_copy_111 X hr   ox0 _ h
def fn_X8_copy (oa0 : Nat) (a1 : Int32) (a2 : Int32) (a3 : Int32) (a4 : Int32) (a5 : Int32) (σ : am_S) : Option (Int32 × am_S) :=
  (fn_X8_in ((a1 : Int32).toInt64) 0 7 (σ)).bind fun q1 => (if q1.1 = 0 then jn_X8_copy_24  oa0 q1.2 else (fn_X8_in ((a2 : Int32).toInt64) 0 7 q1.2).bind fun q5 => (if q5.1 = 0 then jn_X8_copy_24  oa0 q5.2 else (bif am_in a1 8 then (if (q5.2.1 oa0 41 0 ((a1 : Int32).toNatClampNeg)) = 2 then jn_X8_copy_86  oa0 q5.2 else (bif am_in a2 8 then (if (q5.2.1 oa0 41 0 ((a2 : Int32).toNatClampNeg)) = 2 then jn_X8_copy_86  oa0 q5.2 else (bif am_in a1 8 then (if (q5.2.1 oa0 41 0 ((a1 : Int32).toNatClampNeg)) = 1 then (bif am_in a2 8 then (if (q5.2.1 oa0 41 0 ((a2 : Int32).toNatClampNeg)) = 1 then (bif am_in a1 8 then (bif am_in a2 8 then (if (q5.2.1 oa0 42 0 ((a1 : Int32).toNatClampNeg)) = (q5.2.1 oa0 42 0 ((a2 : Int32).toNatClampNeg)) then jn_X8_copy_93  oa0 a1 a2 a3 a4 a5 q5.2 else jn_X8_copy_86  oa0 q5.2) else none) else none) else jn_X8_copy_93  oa0 a1 a2 a3 a4 a5 q5.2) else none) else jn_X8_copy_93  oa0 a1 a2 a3 a4 a5 q5.2) else none)) else none)) else none)))
set_option maxRecDepth 100000 in
theorem ok_X8_copy (l : Launch) (oa0 : Nat) (a1 : Int32) (a2 : Int32) (a3 : Int32) (a4 : Int32) (a5 : Int32) (σ : am_S) {q : Int32 × am_S} (h : fn_X8_copy oa0 a1 a2 a3 a4 a5 σ = some q) : am_M l yX8_copy cX8_copy 7 (some .int) 1 [am_r oa0 40 0, am_i a1, am_i a2, am_i a3, am_i a4, am_i a5] σ (some (am_i q.1)) q.2 := by
  refine am_M_of (P := am_p8) (by decide +kernel) am_p8_ok rfl ?_
  intro G p e s m args below meth c X hr
  have hc := ct_X8_copy
  unfold fn_X8_copy at h
  refine am_blk hc X 0 4 (fr' := (6, [(0, am_r oa0 40 0), (1, am_i a1), (2, am_i a2), (3, am_i a3), (4, am_i a4), (5, am_i a5)], [am_l 7, am_l 0, am_l ((a1 : Int32).toInt64)], σ)) rfl ⟨trivial, trivial, trivial, trivial, trivial⟩ ?_
  obtain ⟨q1, hq2, h⟩ := am_bs h
  refine am_callS hc 4 X (As := [am_l ((a1 : Int32).toInt64), am_l 0, am_l 7]) (rest := []) rfl (ok_X8_in l ((a1 : Int32).toInt64) 0 7 (σ) hq2) yv_X8_in ml_X8_117 rfl rfl rfl rfl rfl ?_
  refine am_if_eq hc X 5 (tgt := 24) rfl (by decide) (fun c48 => ?_) (fun c48 => ?_)
  · replace h := am_ip c48 h
    refine am_less [0] rfl ?_
    exact jl_X8_copy_24 X hr   oa0 _ h
  · replace h := am_in2 c48 h
    refine am_blk hc X 6 4 (fr' := (18, [(0, am_r oa0 40 0), (1, am_i a1), (2, am_i a2), (3, am_i a3), (4, am_i a4), (5, am_i a5)], [am_l 7, am_l 0, am_l ((a2 : Int32).toInt64)], q1.2)) rfl ⟨trivial, trivial, trivial, trivial, trivial⟩ ?_
    obtain ⟨q5, hq6, h⟩ := am_bs h
    refine am_callS hc 10 X (As := [am_l ((a2 : Int32).toInt64), am_l 0, am_l 7]) (rest := []) rfl (ok_X8_in l ((a2 : Int32).toInt64) 0 7 q1.2 hq6) yv_X8_in ml_X8_117 rfl rfl rfl rfl rfl ?_
    refine am_if_ne hc X 11 (tgt := 31) rfl (by decide) (fun c47 => ?_) (fun c47 => ?_)
    · replace h := am_in2 c47 h
      obtain ⟨ob7, h⟩ := am_ci h
      refine am_blk hc X 16 5 (fr' := (38, [(0, am_r oa0 40 0), (1, am_i a1), (2, am_i a2), (3, am_i a3), (4, am_i a4), (5, am_i a5)], [am_i 2, am_i (q5.2.1 oa0 41 0 ((a1 : Int32).toNatClampNeg))], q5.2)) rfl ⟨trivial, trivial, trivial, (am_in_vp ob7), trivial, trivial⟩ ?_
      refine am_icmp_eq hc X 21 (tgt := 86) rfl (by decide) (fun c46 => ?_) (fun c46 => ?_)
      · replace h := am_ip c46 h
        refine am_less [0] rfl ?_
        exact jl_X8_copy_86 X hr   oa0 _ h
      · replace h := am_in2 c46 h
        obtain ⟨ob10, h⟩ := am_ci h
        refine am_blk hc X 22 5 (fr' := (48, [(0, am_r oa0 40 0), (1, am_i a1), (2, am_i a2), (3, am_i a3), (4, am_i a4), (5, am_i a5)], [am_i 2, am_i (q5.2.1 oa0 41 0 ((a2 : Int32).toNatClampNeg))], q5.2)) rfl ⟨trivial, trivial, trivial, (am_in_vp ob10), trivial, trivial⟩ ?_
        refine am_icmp_eq hc X 27 (tgt := 86) rfl (by decide) (fun c45 => ?_) (fun c45 => ?_)
        · replace h := am_ip c45 h
          refine am_less [0] rfl ?_
          exact jl_X8_copy_86 X hr   oa0 _ h
        · replace h := am_in2 c45 h
          obtain ⟨ob11, h⟩ := am_ci h
          refine am_blk hc X 28 5 (fr' := (58, [(0, am_r oa0 40 0), (1, am_i a1), (2, am_i a2), (3, am_i a3), (4, am_i a4), (5, am_i a5)], [am_i 1, am_i (q5.2.1 oa0 41 0 ((a1 : Int32).toNatClampNeg))], q5.2)) rfl ⟨trivial, trivial, trivial, (am_in_vp ob11), trivial, trivial⟩ ?_
          refine am_icmp_ne hc X 33 (tgt := 93) rfl (by decide) (fun c44 => ?_) (fun c44 => ?_)
          · replace h := am_in2 c44 h
            exact jl_X8_copy_93 X hr   oa0 a1 a2 a3 a4 a5 _ h
          · replace h := am_ip c44 h
            obtain ⟨ob39, h⟩ := am_ci h
            refine am_blk hc X 34 5 (fr' := (68, [(0, am_r oa0 40 0), (1, am_i a1), (2, am_i a2), (3, am_i a3), (4, am_i a4), (5, am_i a5)], [am_i 1, am_i (q5.2.1 oa0 41 0 ((a2 : Int32).toNatClampNeg))], q5.2)) rfl ⟨trivial, trivial, trivial, (am_in_vp ob39), trivial, trivial⟩ ?_
            refine am_icmp_ne hc X 39 (tgt := 93) rfl (by decide) (fun c43 => ?_) (fun c43 => ?_)
            · replace h := am_in2 c43 h
              exact jl_X8_copy_93 X hr   oa0 a1 a2 a3 a4 a5 _ h
            · replace h := am_ip c43 h
              obtain ⟨ob40, h⟩ := am_ci h
              obtain ⟨ob41, h⟩ := am_ci h
              refine am_blk hc X 40 8 (fr' := (83, [(0, am_r oa0 40 0), (1, am_i a1), (2, am_i a2), (3, am_i a3), (4, am_i a4), (5, am_i a5)], [am_i (q5.2.1 oa0 42 0 ((a2 : Int32).toNatClampNeg)), am_i (q5.2.1 oa0 42 0 ((a1 : Int32).toNatClampNeg))], q5.2)) rfl ⟨trivial, trivial, trivial, (am_in_vp ob40), trivial, trivial, trivial, (am_in_vp ob41), trivial⟩ ?_
              refine am_icmp_eq hc X 48 (tgt := 93) rfl (by decide) (fun c42 => ?_) (fun c42 => ?_)
              · replace h := am_ip c42 h
                exact jl_X8_copy_93 X hr   oa0 a1 a2 a3 a4 a5 _ h
              · replace h := am_in2 c42 h
                refine am_less [0] rfl ?_
                exact jl_X8_copy_86 X hr   oa0 _ h
    · replace h := am_ip c47 h
      refine am_less [0] rfl ?_
      exact jl_X8_copy_24 X hr   oa0 _ h
