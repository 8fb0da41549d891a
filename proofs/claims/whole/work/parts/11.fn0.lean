def fn_X0_hasPerson (oa0 : Nat) (a1 : Int32) (σ : am_S) : Option (Int32 × am_S) :=
  (if a1 < 0 then some (0, σ) else (if (σ.1 oa0 2 0 4) ≤ a1 then some (0, σ) else (if 6 ≤ a1 then some (0, σ) else some (1, σ))))
set_option maxRecDepth 100000 in
theorem ok_X0_hasPerson (l : Launch) (oa0 : Nat) (a1 : Int32) (σ : am_S) {q : Int32 × am_S} (h : fn_X0_hasPerson oa0 a1 σ = some q) : am_M l yX0_hasPerson cX0_hasPerson 2 (some .boolean) 0 [am_r oa0 2 0, am_i a1] σ (some (am_i q.1)) q.2 := by
  refine am_M_of (P := am_p0) (by decide +kernel) am_p0_ok rfl ?_
  intro G p e s m args below meth c X hr
  have hc := ct_X0_hasPerson
  unfold fn_X0_hasPerson at h
  refine am_blk hc X 0 1 (fr' := (1, [(0, am_r oa0 2 0), (1, am_i a1)], [am_i a1], σ)) rfl ⟨trivial, trivial⟩ ?_
  refine am_if_lt hc X 1 (tgt := 22) rfl (by decide) (fun c3 => ?_) (fun c3 => ?_)
  · replace h := am_ip c3 h
    refine am_blk hc X 11 1 (fr' := (23, [(0, am_r oa0 2 0), (1, am_i a1)], [am_i 0], σ)) rfl ⟨trivial, trivial⟩ ?_
    obtain rfl := Option.some.inj h
    exact am_zret hc X hr 12 rfl (by decide) rfl rfl
  · replace h := am_in2 c3 h
    refine am_blk hc X 2 3 (fr' := (9, [(0, am_r oa0 2 0), (1, am_i a1)], [am_i (σ.1 oa0 2 0 4), am_i a1], σ)) rfl ⟨trivial, trivial, trivial, trivial⟩ ?_
    refine am_icmp_ge hc X 5 (tgt := 22) rfl (by decide) (fun c2 => ?_) (fun c2 => ?_)
    · replace h := am_ip c2 h
      refine am_blk hc X 11 1 (fr' := (23, [(0, am_r oa0 2 0), (1, am_i a1)], [am_i 0], σ)) rfl ⟨trivial, trivial⟩ ?_
      obtain rfl := Option.some.inj h
      exact am_zret hc X hr 12 rfl (by decide) rfl rfl
    · replace h := am_in2 c2 h
      refine am_blk hc X 6 2 (fr' := (15, [(0, am_r oa0 2 0), (1, am_i a1)], [am_i 6, am_i a1], σ)) rfl ⟨trivial, trivial, trivial⟩ ?_
      refine am_icmp_ge hc X 8 (tgt := 22) rfl (by decide) (fun c1 => ?_) (fun c1 => ?_)
      · replace h := am_ip c1 h
        refine am_blk hc X 11 1 (fr' := (23, [(0, am_r oa0 2 0), (1, am_i a1)], [am_i 0], σ)) rfl ⟨trivial, trivial⟩ ?_
        obtain rfl := Option.some.inj h
        exact am_zret hc X hr 12 rfl (by decide) rfl rfl
      · replace h := am_in2 c1 h
        refine am_blk hc X 9 2 (fr' := (23, [(0, am_r oa0 2 0), (1, am_i a1)], [am_i 1], σ)) rfl ⟨trivial, trivial, trivial⟩ ?_
        obtain rfl := Option.some.inj h
        exact am_zret hc X hr 12 rfl (by decide) rfl rfl
def fn_X7_isValley (a0 : Int32) (σ : am_S) : Option (Int32 × am_S) :=
  (if a0 < 0 then some (0, σ) else (if 7 ≤ a0 then some (0, σ) else some (1, σ)))
set_option maxRecDepth 100000 in
theorem ok_X7_isValley (l : Launch) (a0 : Int32) (σ : am_S) {q : Int32 × am_S} (h : fn_X7_isValley a0 σ = some q) : am_M l yX7_isValley cX7_isValley 1 (some .boolean) 0 [am_i a0] σ (some (am_i q.1)) q.2 := by
  refine am_M_of (P := am_p7) (by decide +kernel) am_p7_ok rfl ?_
  intro G p e s m args below meth c X hr
  have hc := ct_X7_isValley
  unfold fn_X7_isValley at h
  refine am_blk hc X 0 1 (fr' := (1, [(0, am_i a0)], [am_i a0], σ)) rfl ⟨trivial, trivial⟩ ?_
  refine am_if_lt hc X 1 (tgt := 14) rfl (by decide) (fun c2 => ?_) (fun c2 => ?_)
  · replace h := am_ip c2 h
    refine am_blk hc X 7 1 (fr' := (15, [(0, am_i a0)], [am_i 0], σ)) rfl ⟨trivial, trivial⟩ ?_
    obtain rfl := Option.some.inj h
    exact am_zret hc X hr 8 rfl (by decide) rfl rfl
  · replace h := am_in2 c2 h
    refine am_blk hc X 2 2 (fr' := (7, [(0, am_i a0)], [am_i 7, am_i a0], σ)) rfl ⟨trivial, trivial, trivial⟩ ?_
    refine am_icmp_ge hc X 4 (tgt := 14) rfl (by decide) (fun c1 => ?_) (fun c1 => ?_)
    · replace h := am_ip c1 h
      refine am_blk hc X 7 1 (fr' := (15, [(0, am_i a0)], [am_i 0], σ)) rfl ⟨trivial, trivial⟩ ?_
      obtain rfl := Option.some.inj h
      exact am_zret hc X hr 8 rfl (by decide) rfl rfl
    · replace h := am_in2 c1 h
      refine am_blk hc X 5 2 (fr' := (15, [(0, am_i a0)], [am_i 1], σ)) rfl ⟨trivial, trivial, trivial⟩ ?_
      obtain rfl := Option.some.inj h
      exact am_zret hc X hr 8 rfl (by decide) rfl rfl
def jn_X0_passFrom_26  (ox0 : Nat) (x1 : Int32) (x3 : Int32) (y0 : Int32) (σ : am_S) : Option (Int32 × am_S) :=
  (if y0 = 0 then some ((-1), σ) else (bif am_in x3 3 then (if (σ.1 ox0 6 ((x3 : Int32).toNatClampNeg) 0) = x1 then some (x3, σ) else some ((-1), σ)) else none))
set_option maxRecDepth 100000 in
theorem jl_X0_passFrom_26 {p : Program} {l : Launch} {e : Env} {s : State} {m : MethodId} {args : Array Value} {below : List Frame} {meth : Method} {c : Code} {G : am_G} {q : Int32 × am_S} (X : am_X p s m args c cX0_passFrom yX0_passFrom.cls 5 am_p0 G (am_fr G)) (hr : meth.sig.returnType = (some .int) ∧ meth.locks = false)    (ox0 : Nat) (x1 : Int32) (x3 : Int32) (y0 : Int32) (σ : am_S) (h : jn_X0_passFrom_26  ox0 x1 x3 y0 σ = some q) : am_A p l e (am_ro 0) s m args below meth c 5 G (am_fr G) 0 0 (MQ below (am_Qc G (some (am_i q.1)) q.2) args s 0 0 (am_fr G)) (26, [(0, am_r ox0 2 0), (1, am_i x1), (3, am_i x3)], [am_i y0], σ) := by
  have hc := ct_X0_passFrom
  unfold jn_X0_passFrom_26 at h
  refine am_blk hc X 16 2 (fr' := (30, [(0, am_r ox0 2 0), (1, am_i x1), (3, am_i x3), (4, am_i y0)], [am_i y0], σ)) rfl ⟨trivial, trivial, trivial⟩ ?_
  refine am_if_eq hc X 18 (tgt := 49) rfl (by decide) (fun c3 => ?_) (fun c3 => ?_)
  · replace h := am_ip c3 h
    refine am_blk hc X 29 1 (fr' := (50, [(0, am_r ox0 2 0), (1, am_i x1), (3, am_i x3), (4, am_i y0)], [am_i (-1)], σ)) rfl ⟨trivial, trivial⟩ ?_
    obtain rfl := Option.some.inj h
    exact am_iret hc X hr 30 rfl rfl rfl
  · replace h := am_in2 c3 h
    obtain ⟨ob1, h⟩ := am_ci h
    refine am_blk hc X 19 7 (fr' := (42, [(0, am_r ox0 2 0), (1, am_i x1), (3, am_i x3), (4, am_i y0)], [am_i x1, am_i (σ.1 ox0 6 ((x3 : Int32).toNatClampNeg) 0)], σ)) rfl ⟨trivial, trivial, trivial, (am_in_vp ob1), trivial, (am_in_vp (by decide)), trivial, trivial⟩ ?_
    refine am_icmp_ne hc X 26 (tgt := 49) rfl (by decide) (fun c2 => ?_) (fun c2 => ?_)
    · replace h := am_in2 c2 h
      refine am_blk hc X 29 1 (fr' := (50, [(0, am_r ox0 2 0), (1, am_i x1), (3, am_i x3), (4, am_i y0)], [am_i (-1)], σ)) rfl ⟨trivial, trivial⟩ ?_
      obtain rfl := Option.some.inj h
      exact am_iret hc X hr 30 rfl rfl rfl
    · replace h := am_ip c2 h
      refine am_blk hc X 27 2 (fr' := (50, [(0, am_r ox0 2 0), (1, am_i x1), (3, am_i x3), (4, am_i y0)], [am_i x3], σ)) rfl ⟨trivial, trivial, trivial⟩ ?_
      obtain rfl := Option.some.inj h
      exact am_iret hc X hr 30 rfl rfl rfl
def jn_X0_passFrom_25  (ox0 : Nat) (x1 : Int32) (x3 : Int32) (σ : am_S) : Option (Int32 × am_S) :=
  jn_X0_passFrom_26  ox0 x1 x3 0 (σ)
set_option maxRecDepth 100000 in
theorem jl_X0_passFrom_25 {p : Program} {l : Launch} {e : Env} {s : State} {m : MethodId} {args : Array Value} {below : List Frame} {meth : Method} {c : Code} {G : am_G} {q : Int32 × am_S} (X : am_X p s m args c cX0_passFrom yX0_passFrom.cls 5 am_p0 G (am_fr G)) (hr : meth.sig.returnType = (some .int) ∧ meth.locks = false)    (ox0 : Nat) (x1 : Int32) (x3 : Int32) (σ : am_S) (h : jn_X0_passFrom_25  ox0 x1 x3 σ = some q) : am_A p l e (am_ro 0) s m args below meth c 5 G (am_fr G) 0 0 (MQ below (am_Qc G (some (am_i q.1)) q.2) args s 0 0 (am_fr G)) (25, [(0, am_r ox0 2 0), (1, am_i x1), (3, am_i x3)], [], σ) := by
  have hc := ct_X0_passFrom
  unfold jn_X0_passFrom_25 at h
  refine am_blk hc X 15 1 (fr' := (26, [(0, am_r ox0 2 0), (1, am_i x1), (3, am_i x3)], [am_i 0], σ)) rfl ⟨trivial, trivial⟩ ?_
  exact jl_X0_passFrom_26 X hr   ox0 x1 x3 0 _ h
def fn_X0_passFrom (oa0 : Nat) (a1 : Int32) (a2 : Int32) (σ : am_S) : Option (Int32 × am_S) :=
  (if (a2 - (2 : Int32)) < 0 then jn_X0_passFrom_25  oa0 a1 (a2 - (2 : Int32)) (σ) else (if (σ.1 oa0 2 0 3) ≤ (a2 - (2 : Int32)) then jn_X0_passFrom_25  oa0 a1 (a2 - (2 : Int32)) (σ) else (if 3 ≤ (a2 - (2 : Int32)) then jn_X0_passFrom_25  oa0 a1 (a2 - (2 : Int32)) (σ) else jn_X0_passFrom_26  oa0 a1 (a2 - (2 : Int32)) 1 (σ))))
set_option maxRecDepth 100000 in
theorem ok_X0_passFrom (l : Launch) (oa0 : Nat) (a1 : Int32) (a2 : Int32) (σ : am_S) {q : Int32 × am_S} (h : fn_X0_passFrom oa0 a1 a2 σ = some q) : am_M l yX0_passFrom cX0_passFrom 5 (some .int) 0 [am_r oa0 2 0, am_i a1, am_i a2] σ (some (am_i q.1)) q.2 := by
  refine am_M_of (P := am_p0) (by decide +kernel) am_p0_ok rfl ?_
  intro G p e s m args below meth c X hr
  have hc := ct_X0_passFrom
  unfold fn_X0_passFrom at h
  refine am_blk hc X 0 5 (fr' := (5, [(0, am_r oa0 2 0), (1, am_i a1), (2, am_i a2), (3, am_i (a2 - (2 : Int32)))], [am_i (a2 - (2 : Int32))], σ)) rfl ⟨trivial, trivial, trivial, trivial, trivial, trivial⟩ ?_
  refine am_if_lt hc X 5 (tgt := 25) rfl (by decide) (fun c6 => ?_) (fun c6 => ?_)
  · replace h := am_ip c6 h
    refine am_less [0, 1, 3] rfl ?_
    exact jl_X0_passFrom_25 X hr   oa0 a1 (a2 - (2 : Int32)) _ h
  · replace h := am_in2 c6 h
    refine am_blk hc X 6 3 (fr' := (13, [(0, am_r oa0 2 0), (1, am_i a1), (2, am_i a2), (3, am_i (a2 - (2 : Int32)))], [am_i (σ.1 oa0 2 0 3), am_i (a2 - (2 : Int32))], σ)) rfl ⟨trivial, trivial, trivial, trivial⟩ ?_
    refine am_icmp_ge hc X 9 (tgt := 25) rfl (by decide) (fun c5 => ?_) (fun c5 => ?_)
    · replace h := am_ip c5 h
      refine am_less [0, 1, 3] rfl ?_
      exact jl_X0_passFrom_25 X hr   oa0 a1 (a2 - (2 : Int32)) _ h
    · replace h := am_in2 c5 h
      refine am_blk hc X 10 2 (fr' := (18, [(0, am_r oa0 2 0), (1, am_i a1), (2, am_i a2), (3, am_i (a2 - (2 : Int32)))], [am_i 3, am_i (a2 - (2 : Int32))], σ)) rfl ⟨trivial, trivial, trivial⟩ ?_
      refine am_icmp_ge hc X 12 (tgt := 25) rfl (by decide) (fun c4 => ?_) (fun c4 => ?_)
      · replace h := am_ip c4 h
        refine am_less [0, 1, 3] rfl ?_
        exact jl_X0_passFrom_25 X hr   oa0 a1 (a2 - (2 : Int32)) _ h
      · replace h := am_in2 c4 h
        refine am_blk hc X 13 2 (fr' := (26, [(0, am_r oa0 2 0), (1, am_i a1), (2, am_i a2), (3, am_i (a2 - (2 : Int32)))], [am_i 1], σ)) rfl ⟨trivial, trivial, trivial⟩ ?_
        refine am_less [0, 1, 3] rfl ?_
        exact jl_X0_passFrom_26 X hr   oa0 a1 (a2 - (2 : Int32)) 1 _ h
def fn_X0_valleyAhead (a0 : Int32) (σ : am_S) : Option (Int32 × am_S) :=
  some ((((a0 + (7 : Int32)) - (1 : Int32)) - ((a0 + (7 : Int32)) - (1 : Int32)) / (7 : Int32) * (7 : Int32)), σ)
set_option maxRecDepth 100000 in
theorem ok_X0_valleyAhead (l : Launch) (a0 : Int32) (σ : am_S) {q : Int32 × am_S} (h : fn_X0_valleyAhead a0 σ = some q) : am_M l yX0_valleyAhead cX0_valleyAhead 1 (some .int) 0 [am_i a0] σ (some (am_i q.1)) q.2 := by
  refine am_M_of (P := am_p0) (by decide +kernel) am_p0_ok rfl ?_
  intro G p e s m args below meth c X hr
  have hc := ct_X0_valleyAhead
  unfold fn_X0_valleyAhead at h
  refine am_blk hc X 0 7 (fr' := (9, [(0, am_i a0)], [am_i (((a0 + (7 : Int32)) - (1 : Int32)) - ((a0 + (7 : Int32)) - (1 : Int32)) / (7 : Int32) * (7 : Int32))], σ)) rfl ⟨trivial, trivial, trivial, trivial, trivial, trivial, (by decide), trivial⟩ ?_
  obtain rfl := Option.some.inj h
  exact am_iret hc X hr 7 rfl rfl rfl
def fn_X0_endOf (oa0 : Nat) (a1 : Int32) (a2 : Int32) (σ : am_S) : Option (Int32 × am_S) :=
  (fn_X7_isValley a1 (σ)).bind fun q1 => (if q1.1 = 0 then some ((-1), q1.2) else (if a2 = 0 then some (((a1 + (1 : Int32)) - (a1 + (1 : Int32)) / (7 : Int32) * (7 : Int32)), q1.2) else (if a2 = 1 then (fn_X0_valleyAhead a1 q1.2).bind fun q7 => some (q7.1, q7.2) else (fn_X0_passFrom oa0 a1 a2 q1.2).bind fun q3 => (if q3.1 = (-1) then some ((-1), q3.2) else (bif am_in q3.1 3 then some ((q3.2.1 oa0 6 ((q3.1 : Int32).toNatClampNeg) 1), q3.2) else none)))))
set_option maxRecDepth 100000 in
theorem ok_X0_endOf (l : Launch) (oa0 : Nat) (a1 : Int32) (a2 : Int32) (σ : am_S) {q : Int32 × am_S} (h : fn_X0_endOf oa0 a1 a2 σ = some q) : am_M l yX0_endOf cX0_endOf 4 (some .int) 1 [am_r oa0 2 0, am_i a1, am_i a2] σ (some (am_i q.1)) q.2 := by
  refine am_M_of (P := am_p0) (by decide +kernel) am_p0_ok rfl ?_
  intro G p e s m args below meth c X hr
  have hc := ct_X0_endOf
  unfold fn_X0_endOf at h
  refine am_blk hc X 0 1 (fr' := (1, [(0, am_r oa0 2 0), (1, am_i a1), (2, am_i a2)], [am_i a1], σ)) rfl ⟨trivial, trivial⟩ ?_
  obtain ⟨q1, hq2, h⟩ := am_bs h
  refine am_callN hc 1 X (As := [am_i a1]) (rest := []) rfl (ok_X7_isValley l a1 (σ) hq2) yv_X7_isValley mn_X0_54 rfl rfl rfl rfl rfl ?_
  refine am_if_ne hc X 2 (tgt := 9) rfl (by decide) (fun c11 => ?_) (fun c11 => ?_)
  · replace h := am_in2 c11 h
    refine am_blk hc X 5 1 (fr' := (10, [(0, am_r oa0 2 0), (1, am_i a1), (2, am_i a2)], [am_i a2], q1.2)) rfl ⟨trivial, trivial⟩ ?_
    refine am_if_ne hc X 6 (tgt := 20) rfl (by decide) (fun c10 => ?_) (fun c10 => ?_)
    · replace h := am_in2 c10 h
      refine am_blk hc X 13 2 (fr' := (22, [(0, am_r oa0 2 0), (1, am_i a1), (2, am_i a2)], [am_i 1, am_i a2], q1.2)) rfl ⟨trivial, trivial, trivial⟩ ?_
      refine am_icmp_ne hc X 15 (tgt := 30) rfl (by decide) (fun c9 => ?_) (fun c9 => ?_)
      · replace h := am_in2 c9 h
        refine am_blk hc X 19 3 (fr' := (33, [(0, am_r oa0 2 0), (1, am_i a1), (2, am_i a2)], [am_i a2, am_i a1, am_r oa0 2 0], q1.2)) rfl ⟨trivial, trivial, trivial, trivial⟩ ?_
        obtain ⟨q3, hq4, h⟩ := am_bs h
        refine am_callV hc 22 X (k := 2) (i := 0) (o := oa0) (As := [am_i a1, am_i a2]) (rest := []) rfl (ok_X0_passFrom l oa0 a1 a2 q1.2 hq4) yv_X0_passFrom ml_X0_62 (cl_2) rfl rfl rfl rfl rfl ?_
        refine am_blk hc X 23 3 (fr' := (39, [(0, am_r oa0 2 0), (1, am_i a1), (2, am_i a2), (3, am_i q3.1)], [am_i (-1), am_i q3.1], q3.2)) rfl ⟨trivial, trivial, trivial, trivial⟩ ?_
        refine am_icmp_ne hc X 26 (tgt := 46) rfl (by decide) (fun c6 => ?_) (fun c6 => ?_)
        · replace h := am_in2 c6 h
          obtain ⟨ob5, h⟩ := am_ci h
          refine am_blk hc X 29 6 (fr' := (54, [(0, am_r oa0 2 0), (1, am_i a1), (2, am_i a2), (3, am_i q3.1)], [am_i (q3.2.1 oa0 6 ((q3.1 : Int32).toNatClampNeg) 1)], q3.2)) rfl ⟨trivial, trivial, trivial, (am_in_vp ob5), trivial, (am_in_vp (by decide)), trivial⟩ ?_
          obtain rfl := Option.some.inj h
          exact am_iret hc X hr 35 rfl rfl rfl
        · replace h := am_ip c6 h
          refine am_blk hc X 27 2 (fr' := (54, [(0, am_r oa0 2 0), (1, am_i a1), (2, am_i a2), (3, am_i q3.1)], [am_i (-1)], q3.2)) rfl ⟨trivial, trivial, trivial⟩ ?_
          obtain rfl := Option.some.inj h
          exact am_iret hc X hr 35 rfl rfl rfl
      · replace h := am_ip c9 h
        refine am_blk hc X 16 1 (fr' := (26, [(0, am_r oa0 2 0), (1, am_i a1), (2, am_i a2)], [am_i a1], q1.2)) rfl ⟨trivial, trivial⟩ ?_
        obtain ⟨q7, hq8, h⟩ := am_bs h
        refine am_callS hc 17 X (As := [am_i a1]) (rest := []) rfl (ok_X0_valleyAhead l a1 q1.2 hq8) yv_X0_valleyAhead ml_X0_58 rfl rfl rfl rfl rfl ?_
        obtain rfl := Option.some.inj h
        exact am_iret hc X hr 18 rfl rfl rfl
    · replace h := am_ip c10 h
      refine am_blk hc X 7 5 (fr' := (19, [(0, am_r oa0 2 0), (1, am_i a1), (2, am_i a2)], [am_i ((a1 + (1 : Int32)) - (a1 + (1 : Int32)) / (7 : Int32) * (7 : Int32))], q1.2)) rfl ⟨trivial, trivial, trivial, trivial, (by decide), trivial⟩ ?_
      obtain rfl := Option.some.inj h
      exact am_iret hc X hr 12 rfl rfl rfl
  · replace h := am_ip c11 h
    refine am_blk hc X 3 1 (fr' := (8, [(0, am_r oa0 2 0), (1, am_i a1), (2, am_i a2)], [am_i (-1)], q1.2)) rfl ⟨trivial, trivial⟩ ?_
    obtain rfl := Option.some.inj h
    exact am_iret hc X hr 4 rfl rfl rfl
def fn_X0_fareOf (oa0 : Nat) (a1 : Int32) (a2 : Int32) (σ : am_S) : Option (Int32 × am_S) :=
  (fn_X7_isValley a1 (σ)).bind fun q1 => (if q1.1 = 0 then some (0, q1.2) else (if a2 = 0 then (bif am_in a1 7 then some ((q1.2.1 oa0 4 0 ((a1 : Int32).toNatClampNeg)), q1.2) else none) else (if a2 = 1 then (fn_X0_valleyAhead a1 q1.2).bind fun q7 => (bif am_in q7.1 7 then some (((q7.2.1 oa0 4 0 ((q7.1 : Int32).toNatClampNeg)) + (q7.2.1 oa0 2 0 5)), q7.2) else none) else (fn_X0_passFrom oa0 a1 a2 q1.2).bind fun q3 => (if q3.1 = (-1) then some (0, q3.2) else (bif am_in q3.1 3 then some ((q3.2.1 oa0 6 ((q3.1 : Int32).toNatClampNeg) 2), q3.2) else none)))))
set_option maxRecDepth 100000 in
theorem ok_X0_fareOf (l : Launch) (oa0 : Nat) (a1 : Int32) (a2 : Int32) (σ : am_S) {q : Int32 × am_S} (h : fn_X0_fareOf oa0 a1 a2 σ = some q) : am_M l yX0_fareOf cX0_fareOf 4 (some .int) 1 [am_r oa0 2 0, am_i a1, am_i a2] σ (some (am_i q.1)) q.2 := by
  refine am_M_of (P := am_p0) (by decide +kernel) am_p0_ok rfl ?_
  intro G p e s m args below meth c X hr
  have hc := ct_X0_fareOf
  unfold fn_X0_fareOf at h
  refine am_blk hc X 0 1 (fr' := (1, [(0, am_r oa0 2 0), (1, am_i a1), (2, am_i a2)], [am_i a1], σ)) rfl ⟨trivial, trivial⟩ ?_
  obtain ⟨q1, hq2, h⟩ := am_bs h
  refine am_callN hc 1 X (As := [am_i a1]) (rest := []) rfl (ok_X7_isValley l a1 (σ) hq2) yv_X7_isValley mn_X0_54 rfl rfl rfl rfl rfl ?_
  refine am_if_ne hc X 2 (tgt := 9) rfl (by decide) (fun c13 => ?_) (fun c13 => ?_)
  · replace h := am_in2 c13 h
    refine am_blk hc X 5 1 (fr' := (10, [(0, am_r oa0 2 0), (1, am_i a1), (2, am_i a2)], [am_i a2], q1.2)) rfl ⟨trivial, trivial⟩ ?_
    refine am_if_ne hc X 6 (tgt := 22) rfl (by decide) (fun c12 => ?_) (fun c12 => ?_)
    · replace h := am_in2 c12 h
      refine am_blk hc X 14 2 (fr' := (24, [(0, am_r oa0 2 0), (1, am_i a1), (2, am_i a2)], [am_i 1, am_i a2], q1.2)) rfl ⟨trivial, trivial, trivial⟩ ?_
      refine am_icmp_ne hc X 16 (tgt := 44) rfl (by decide) (fun c10 => ?_) (fun c10 => ?_)
      · replace h := am_in2 c10 h
        refine am_blk hc X 28 3 (fr' := (47, [(0, am_r oa0 2 0), (1, am_i a1), (2, am_i a2)], [am_i a2, am_i a1, am_r oa0 2 0], q1.2)) rfl ⟨trivial, trivial, trivial, trivial⟩ ?_
        obtain ⟨q3, hq4, h⟩ := am_bs h
        refine am_callV hc 31 X (k := 2) (i := 0) (o := oa0) (As := [am_i a1, am_i a2]) (rest := []) rfl (ok_X0_passFrom l oa0 a1 a2 q1.2 hq4) yv_X0_passFrom ml_X0_62 (cl_2) rfl rfl rfl rfl rfl ?_
        refine am_blk hc X 32 3 (fr' := (53, [(0, am_r oa0 2 0), (1, am_i a1), (2, am_i a2), (3, am_i q3.1)], [am_i (-1), am_i q3.1], q3.2)) rfl ⟨trivial, trivial, trivial, trivial⟩ ?_
        refine am_icmp_ne hc X 35 (tgt := 60) rfl (by decide) (fun c6 => ?_) (fun c6 => ?_)
        · replace h := am_in2 c6 h
          obtain ⟨ob5, h⟩ := am_ci h
          refine am_blk hc X 38 6 (fr' := (68, [(0, am_r oa0 2 0), (1, am_i a1), (2, am_i a2), (3, am_i q3.1)], [am_i (q3.2.1 oa0 6 ((q3.1 : Int32).toNatClampNeg) 2)], q3.2)) rfl ⟨trivial, trivial, trivial, (am_in_vp ob5), trivial, (am_in_vp (by decide)), trivial⟩ ?_
          obtain rfl := Option.some.inj h
          exact am_iret hc X hr 44 rfl rfl rfl
        · replace h := am_ip c6 h
          refine am_blk hc X 36 2 (fr' := (68, [(0, am_r oa0 2 0), (1, am_i a1), (2, am_i a2), (3, am_i q3.1)], [am_i 0], q3.2)) rfl ⟨trivial, trivial, trivial⟩ ?_
          obtain rfl := Option.some.inj h
          exact am_iret hc X hr 44 rfl rfl rfl
      · replace h := am_ip c10 h
        refine am_blk hc X 17 5 (fr' := (34, [(0, am_r oa0 2 0), (1, am_i a1), (2, am_i a2)], [am_i a1, am_r oa0 4 0], q1.2)) rfl ⟨trivial, trivial, trivial, (am_in_vp (by decide)), trivial, trivial⟩ ?_
        obtain ⟨q7, hq8, h⟩ := am_bs h
        refine am_callS hc 22 X (As := [am_i a1]) (rest := [am_r oa0 4 0]) rfl (ok_X0_valleyAhead l a1 q1.2 hq8) yv_X0_valleyAhead ml_X0_58 rfl rfl rfl rfl rfl ?_
        obtain ⟨ob9, h⟩ := am_ci h
        refine am_blk hc X 23 4 (fr' := (43, [(0, am_r oa0 2 0), (1, am_i a1), (2, am_i a2)], [am_i ((q7.2.1 oa0 4 0 ((q7.1 : Int32).toNatClampNeg)) + (q7.2.1 oa0 2 0 5))], q7.2)) rfl ⟨(am_in_vp ob9), trivial, trivial, trivial, trivial⟩ ?_
        obtain rfl := Option.some.inj h
        exact am_iret hc X hr 27 rfl rfl rfl
    · replace h := am_ip c12 h
      obtain ⟨ob11, h⟩ := am_ci h
      refine am_blk hc X 7 6 (fr' := (21, [(0, am_r oa0 2 0), (1, am_i a1), (2, am_i a2)], [am_i (q1.2.1 oa0 4 0 ((a1 : Int32).toNatClampNeg))], q1.2)) rfl ⟨trivial, trivial, trivial, (am_in_vp (by decide)), trivial, (am_in_vp ob11), trivial⟩ ?_
      obtain rfl := Option.some.inj h
      exact am_iret hc X hr 13 rfl rfl rfl
  · replace h := am_ip c13 h
    refine am_blk hc X 3 1 (fr' := (8, [(0, am_r oa0 2 0), (1, am_i a1), (2, am_i a2)], [am_i 0], q1.2)) rfl ⟨trivial, trivial⟩ ?_
    obtain rfl := Option.some.inj h
    exact am_iret hc X hr 4 rfl rfl rfl
def fn_X0_priceFor_8 (oa0 : Nat) (oa1 : Nat) (ia1 : Nat) (a2 : Int32) (a3 : Int32) (σ : am_S) : Option (Int32 × am_S) :=
  (fn_X0_fareOf oa0 a2 a3 (σ)).bind fun q1 => (if (q1.2.1 oa1 8 ia1 0) = 1 then some ((q1.1 / (2 : Int32)), q1.2) else (if (q1.2.1 oa1 8 ia1 0) = 2 then some ((q1.1 + (q1.2.1 oa1 8 ia1 1)), q1.2) else (if (q1.2.1 oa1 8 ia1 0) = 3 then some ((if 0 < ((q1.1 / (2 : Int32)) - (q1.2.1 oa1 8 ia1 1)) then ((q1.1 / (2 : Int32)) - (q1.2.1 oa1 8 ia1 1)) else 0), q1.2) else (if (q1.2.1 oa1 8 ia1 0) = 4 then (if a3 < 2 then some ((q1.1 + (q1.2.1 oa1 8 ia1 1)), q1.2) else some (0, q1.2)) else (if (q1.2.1 oa1 8 ia1 0) = 5 then some (((2 : Int32) * q1.1), q1.2) else some (q1.1, q1.2))))))
set_option maxRecDepth 100000 in
theorem ok_X0_priceFor_8 (l : Launch) (oa0 : Nat) (oa1 : Nat) (ia1 : Nat) (a2 : Int32) (a3 : Int32) (σ : am_S) {q : Int32 × am_S} (h : fn_X0_priceFor_8 oa0 oa1 ia1 a2 a3 σ = some q) : am_M l yX0_priceFor cX0_priceFor 5 (some .int) 2 [am_r oa0 2 0, am_r oa1 8 ia1, am_i a2, am_i a3] σ (some (am_i q.1)) q.2 := by
  refine am_M_of (P := am_p0) (by decide +kernel) am_p0_ok rfl ?_
  intro G p e s m args below meth c X hr
  have hc := ct_X0_priceFor
  unfold fn_X0_priceFor_8 at h
  refine am_blk hc X 0 3 (fr' := (3, [(0, am_r oa0 2 0), (1, am_r oa1 8 ia1), (2, am_i a2), (3, am_i a3)], [am_i a3, am_i a2, am_r oa0 2 0], σ)) rfl ⟨trivial, trivial, trivial, trivial⟩ ?_
  obtain ⟨q1, hq2, h⟩ := am_bs h
  refine am_callV hc 3 X (k := 2) (i := 0) (o := oa0) (As := [am_i a2, am_i a3]) (rest := []) rfl (ok_X0_fareOf l oa0 a2 a3 (σ) hq2) yv_X0_fareOf ml_X0_66 (cl_2) rfl rfl rfl rfl rfl ?_
  refine am_blk hc X 4 4 (fr' := (11, [(0, am_r oa0 2 0), (1, am_r oa1 8 ia1), (2, am_i a2), (3, am_i a3), (4, am_i q1.1)], [am_i (q1.2.1 oa1 8 ia1 0)], q1.2)) rfl ⟨trivial, trivial, trivial, (am_in_vp (by decide)), trivial⟩ ?_
  by_cases c3 : (q1.2.1 oa1 8 ia1 0) = 1
  · replace h := am_ip c3 h
    refine am_tin hc X 8 (tgt := 44) (off := 33) rfl (by rw [c3]; decide) (by rw [c3]; decide) (by rw [c3]; rfl) (by decide) ?_
    refine am_blk hc X 9 3 (fr' := (48, [(0, am_r oa0 2 0), (1, am_r oa1 8 ia1), (2, am_i a2), (3, am_i a3), (4, am_i q1.1)], [am_i (q1.1 / (2 : Int32))], q1.2)) rfl ⟨trivial, trivial, (by decide), trivial⟩ ?_
    obtain rfl := Option.some.inj h
    exact am_iret hc X hr 12 rfl rfl rfl
  · replace h := am_in2 c3 h
    by_cases c4 : (q1.2.1 oa1 8 ia1 0) = 2
    · replace h := am_ip c4 h
      refine am_tin hc X 8 (tgt := 62) (off := 51) rfl (by rw [c4]; decide) (by rw [c4]; decide) (by rw [c4]; rfl) (by decide) ?_
      refine am_blk hc X 23 5 (fr' := (68, [(0, am_r oa0 2 0), (1, am_r oa1 8 ia1), (2, am_i a2), (3, am_i a3), (4, am_i q1.1)], [am_i (q1.1 + (q1.2.1 oa1 8 ia1 1))], q1.2)) rfl ⟨trivial, trivial, trivial, (am_in_vp (by decide)), trivial, trivial⟩ ?_
      obtain rfl := Option.some.inj h
      exact am_iret hc X hr 28 rfl rfl rfl
    · replace h := am_in2 c4 h
      by_cases c5 : (q1.2.1 oa1 8 ia1 0) = 3
      · replace h := am_ip c5 h
        refine am_tin hc X 8 (tgt := 49) (off := 38) rfl (by rw [c5]; decide) (by rw [c5]; decide) (by rw [c5]; rfl) (by decide) ?_
        refine am_blk hc X 13 8 (fr' := (58, [(0, am_r oa0 2 0), (1, am_r oa1 8 ia1), (2, am_i a2), (3, am_i a3), (4, am_i q1.1)], [am_i ((q1.1 / (2 : Int32)) - (q1.2.1 oa1 8 ia1 1)), am_i 0], q1.2)) rfl ⟨trivial, trivial, trivial, (by decide), trivial, trivial, (am_in_vp (by decide)), trivial, trivial⟩ ?_
        refine am_mmax hc 21 X (rest := []) rfl ml_X0_69 am_wmax rfl rfl ?_
        obtain rfl := Option.some.inj h
        exact am_iret hc X hr 22 rfl rfl rfl
      · replace h := am_in2 c5 h
        by_cases c6 : (q1.2.1 oa1 8 ia1 0) = 4
        · replace h := am_ip c6 h
          refine am_tin hc X 8 (tgt := 69) (off := 58) rfl (by rw [c6]; decide) (by rw [c6]; decide) (by rw [c6]; rfl) (by decide) ?_
          refine am_blk hc X 29 2 (fr' := (71, [(0, am_r oa0 2 0), (1, am_r oa1 8 ia1), (2, am_i a2), (3, am_i a3), (4, am_i q1.1)], [am_i 2, am_i a3], q1.2)) rfl ⟨trivial, trivial, trivial⟩ ?_
          refine am_icmp_lt hc X 31 (tgt := 78) rfl (by decide) (fun c8 => ?_) (fun c8 => ?_)
          · replace h := am_ip c8 h
            refine am_blk hc X 34 5 (fr' := (84, [(0, am_r oa0 2 0), (1, am_r oa1 8 ia1), (2, am_i a2), (3, am_i a3), (4, am_i q1.1)], [am_i (q1.1 + (q1.2.1 oa1 8 ia1 1))], q1.2)) rfl ⟨trivial, trivial, trivial, (am_in_vp (by decide)), trivial, trivial⟩ ?_
            obtain rfl := Option.some.inj h
            exact am_iret hc X hr 39 rfl rfl rfl
          · replace h := am_in2 c8 h
            refine am_blk hc X 32 2 (fr' := (84, [(0, am_r oa0 2 0), (1, am_r oa1 8 ia1), (2, am_i a2), (3, am_i a3), (4, am_i q1.1)], [am_i 0], q1.2)) rfl ⟨trivial, trivial, trivial⟩ ?_
            obtain rfl := Option.some.inj h
            exact am_iret hc X hr 39 rfl rfl rfl
        · replace h := am_in2 c6 h
          by_cases c7 : (q1.2.1 oa1 8 ia1 0) = 5
          · replace h := am_ip c7 h
            refine am_tin hc X 8 (tgt := 85) (off := 74) rfl (by rw [c7]; decide) (by rw [c7]; decide) (by rw [c7]; rfl) (by decide) ?_
            refine am_blk hc X 40 3 (fr' := (89, [(0, am_r oa0 2 0), (1, am_r oa1 8 ia1), (2, am_i a2), (3, am_i a3), (4, am_i q1.1)], [am_i ((2 : Int32) * q1.1)], q1.2)) rfl ⟨trivial, trivial, trivial, trivial⟩ ?_
            obtain rfl := Option.some.inj h
            exact am_iret hc X hr 43 rfl rfl rfl
          · replace h := am_in2 c7 h
            refine am_tout hc X 8 (tgt := 90) rfl (am_sw 1 5 (fun z h1 h2 => ?_)) (by decide) ?_
            · rcases (show z = 1 ∨ z = 2 ∨ z = 3 ∨ z = 4 ∨ z = 5 by omega) with rfl | rfl | rfl | rfl | rfl
              · exact lv_neT c3 rfl
              · exact lv_neT c4 rfl
              · exact lv_neT c5 rfl
              · exact lv_neT c6 rfl
              · exact lv_neT c7 rfl
            · refine am_blk hc X 44 1 (fr' := (92, [(0, am_r oa0 2 0), (1, am_r oa1 8 ia1), (2, am_i a2), (3, am_i a3), (4, am_i q1.1)], [am_i q1.1], q1.2)) rfl ⟨trivial, trivial⟩ ?_
              obtain rfl := Option.some.inj h
              exact am_iret hc X hr 45 rfl rfl rfl
def fn_X0_tryStep_8 (oa0 : Nat) (oa1 : Nat) (ia1 : Nat) (a2 : Int32) (σ : am_S) : Option (Int32 × am_S) :=
  (fn_X0_endOf oa0 (σ.1 oa1 8 ia1 3) a2 (σ)).bind fun q1 => (if q1.1 = (-1) then some (0, q1.2) else (if ((q1.2.1 oa1 8 ia1 6) + (1 : Int32)) ≤ 20 then (fn_X0_priceFor_8 oa0 oa1 ia1 (q1.2.1 oa1 8 ia1 3) a2 q1.2).bind fun q3 => (if q3.1 ≤ (q3.2.1 oa1 8 ia1 5) then (if a2 = 0 then some (1, (am_u (am_u (am_u (am_u q3.2 oa1 8 ia1 5 ((q3.2.1 oa1 8 ia1 5) - q3.1)) oa1 8 ia1 6 ((q3.2.1 oa1 8 ia1 6) + (1 : Int32))) oa1 8 ia1 3 q1.1) oa1 8 ia1 7 (if ((q3.2.1 oa1 8 ia1 7) + (1 : Int32)) < 999 then ((q3.2.1 oa1 8 ia1 7) + (1 : Int32)) else 999))) else some (1, (am_u (am_u (am_u q3.2 oa1 8 ia1 5 ((q3.2.1 oa1 8 ia1 5) - q3.1)) oa1 8 ia1 6 ((q3.2.1 oa1 8 ia1 6) + (1 : Int32))) oa1 8 ia1 3 q1.1))) else some (0, q3.2)) else some (0, q1.2)))
set_option maxRecDepth 100000 in
theorem ok_X0_tryStep_8 (l : Launch) (oa0 : Nat) (oa1 : Nat) (ia1 : Nat) (a2 : Int32) (σ : am_S) {q : Int32 × am_S} (h : fn_X0_tryStep_8 oa0 oa1 ia1 a2 σ = some q) : am_M l yX0_tryStep cX0_tryStep 5 (some .boolean) 3 [am_r oa0 2 0, am_r oa1 8 ia1, am_i a2] σ (some (am_i q.1)) q.2 := by
  refine am_M_of (P := am_p0) (by decide +kernel) am_p0_ok rfl ?_
  intro G p e s m args below meth c X hr
  have hc := ct_X0_tryStep
  unfold fn_X0_tryStep_8 at h
  refine am_blk hc X 0 5 (fr' := (5, [(0, am_r oa0 2 0), (1, am_r oa1 8 ia1), (2, am_i a2)], [am_i a2, am_i (σ.1 oa1 8 ia1 3), am_r oa0 2 0], σ)) rfl ⟨trivial, trivial, trivial, (am_in_vp (by decide)), trivial, trivial⟩ ?_
  obtain ⟨q1, hq2, h⟩ := am_bs h
  refine am_callV hc 5 X (k := 2) (i := 0) (o := oa0) (As := [am_i (σ.1 oa1 8 ia1 3), am_i a2]) (rest := []) rfl (ok_X0_endOf l oa0 (σ.1 oa1 8 ia1 3) a2 (σ) hq2) yv_X0_endOf ml_X0_85 (cl_2) rfl rfl rfl rfl rfl ?_
  refine am_blk hc X 6 3 (fr' := (11, [(0, am_r oa0 2 0), (1, am_r oa1 8 ia1), (2, am_i a2), (3, am_i q1.1)], [am_i (-1), am_i q1.1], q1.2)) rfl ⟨trivial, trivial, trivial, trivial⟩ ?_
  refine am_icmp_eq hc X 9 (tgt := 25) rfl (by decide) (fun c8 => ?_) (fun c8 => ?_)
  · replace h := am_ip c8 h
    refine am_blk hc X 17 1 (fr' := (26, [(0, am_r oa0 2 0), (1, am_r oa1 8 ia1), (2, am_i a2), (3, am_i q1.1)], [am_i 0], q1.2)) rfl ⟨trivial, trivial⟩ ?_
    obtain rfl := Option.some.inj h
    exact am_zret hc X hr 18 rfl (by decide) rfl rfl
  · replace h := am_in2 c8 h
    refine am_blk hc X 10 6 (fr' := (22, [(0, am_r oa0 2 0), (1, am_r oa1 8 ia1), (2, am_i a2), (3, am_i q1.1)], [am_i 20, am_i ((q1.2.1 oa1 8 ia1 6) + (1 : Int32))], q1.2)) rfl ⟨trivial, trivial, (am_in_vp (by decide)), trivial, trivial, trivial, trivial⟩ ?_
    refine am_icmp_le hc X 16 (tgt := 27) rfl (by decide) (fun c7 => ?_) (fun c7 => ?_)
    · replace h := am_ip c7 h
      refine am_blk hc X 19 6 (fr' := (33, [(0, am_r oa0 2 0), (1, am_r oa1 8 ia1), (2, am_i a2), (3, am_i q1.1)], [am_i a2, am_i (q1.2.1 oa1 8 ia1 3), am_r oa1 8 ia1, am_r oa0 2 0], q1.2)) rfl ⟨trivial, trivial, trivial, trivial, (am_in_vp (by decide)), trivial, trivial⟩ ?_
      obtain ⟨q3, hq4, h⟩ := am_bs h
      refine am_callV hc 25 X (k := 2) (i := 0) (o := oa0) (As := [am_r oa1 8 ia1, am_i (q1.2.1 oa1 8 ia1 3), am_i a2]) (rest := []) rfl (ok_X0_priceFor_8 l oa0 oa1 ia1 (q1.2.1 oa1 8 ia1 3) a2 q1.2 hq4) yv_X0_priceFor ml_X0_88 (cl_2) rfl rfl rfl rfl rfl ?_
      refine am_blk hc X 26 5 (fr' := (43, [(0, am_r oa0 2 0), (1, am_r oa1 8 ia1), (2, am_i a2), (3, am_i q1.1), (4, am_i q3.1)], [am_i q3.1, am_i (q3.2.1 oa1 8 ia1 5)], q3.2)) rfl ⟨trivial, trivial, trivial, (am_in_vp (by decide)), trivial, trivial⟩ ?_
      refine am_icmp_ge hc X 31 (tgt := 48) rfl (by decide) (fun c6 => ?_) (fun c6 => ?_)
      · replace h := am_ip c6 h
        refine am_blk hc X 34 19 (fr' := (69, [(0, am_r oa0 2 0), (1, am_r oa1 8 ia1), (2, am_i a2), (3, am_i q1.1), (4, am_i q3.1)], [am_i a2], (am_u (am_u (am_u q3.2 oa1 8 ia1 5 ((q3.2.1 oa1 8 ia1 5) - q3.1)) oa1 8 ia1 6 ((q3.2.1 oa1 8 ia1 6) + (1 : Int32))) oa1 8 ia1 3 q1.1))) rfl ⟨trivial, trivial, trivial, (am_in_vp (by decide)), trivial, trivial, (am_in_vp (by decide)), trivial, trivial, trivial, (am_in_vp (by decide)), trivial, trivial, (am_in_vp (by decide)), trivial, trivial, trivial, (am_in_vp (by decide)), trivial, trivial⟩ ?_
        refine am_if_ne hc X 53 (tgt := 88) rfl (by decide) (fun c5 => ?_) (fun c5 => ?_)
        · replace h := am_in2 c5 h
          refine am_blk hc X 64 1 (fr' := (89, [(0, am_r oa0 2 0), (1, am_r oa1 8 ia1), (2, am_i a2), (3, am_i q1.1), (4, am_i q3.1)], [am_i 1], (am_u (am_u (am_u q3.2 oa1 8 ia1 5 ((q3.2.1 oa1 8 ia1 5) - q3.1)) oa1 8 ia1 6 ((q3.2.1 oa1 8 ia1 6) + (1 : Int32))) oa1 8 ia1 3 q1.1))) rfl ⟨trivial, trivial⟩ ?_
          obtain rfl := Option.some.inj h
          exact am_zret hc X hr 65 rfl (by decide) rfl rfl
        · replace h := am_ip c5 h
          refine am_blk hc X 54 8 (fr' := (84, [(0, am_r oa0 2 0), (1, am_r oa1 8 ia1), (2, am_i a2), (3, am_i q1.1), (4, am_i q3.1)], [am_i ((q3.2.1 oa1 8 ia1 7) + (1 : Int32)), am_i 999, am_i 7, am_r oa1 8 ia1], (am_u (am_u (am_u q3.2 oa1 8 ia1 5 ((q3.2.1 oa1 8 ia1 5) - q3.1)) oa1 8 ia1 6 ((q3.2.1 oa1 8 ia1 6) + (1 : Int32))) oa1 8 ia1 3 q1.1))) rfl ⟨trivial, trivial, trivial, trivial, trivial, (am_in_vp (by decide)), trivial, trivial, trivial⟩ ?_
          refine am_mmin hc 62 X (rest := [am_i 7, am_r oa1 8 ia1]) rfl ml_X0_92 am_wmin rfl rfl ?_
          refine am_blk hc X 63 2 (fr' := (89, [(0, am_r oa0 2 0), (1, am_r oa1 8 ia1), (2, am_i a2), (3, am_i q1.1), (4, am_i q3.1)], [am_i 1], (am_u (am_u (am_u (am_u q3.2 oa1 8 ia1 5 ((q3.2.1 oa1 8 ia1 5) - q3.1)) oa1 8 ia1 6 ((q3.2.1 oa1 8 ia1 6) + (1 : Int32))) oa1 8 ia1 3 q1.1) oa1 8 ia1 7 (if ((q3.2.1 oa1 8 ia1 7) + (1 : Int32)) < 999 then ((q3.2.1 oa1 8 ia1 7) + (1 : Int32)) else 999)))) rfl ⟨(am_in_vp (by decide)), trivial, trivial⟩ ?_
          obtain rfl := Option.some.inj h
          exact am_zret hc X hr 65 rfl (by decide) rfl rfl
      · replace h := am_in2 c6 h
        refine am_blk hc X 32 1 (fr' := (47, [(0, am_r oa0 2 0), (1, am_r oa1 8 ia1), (2, am_i a2), (3, am_i q1.1), (4, am_i q3.1)], [am_i 0], q3.2)) rfl ⟨trivial, trivial⟩ ?_
        obtain rfl := Option.some.inj h
        exact am_zret hc X hr 33 rfl (by decide) rfl rfl
    · replace h := am_in2 c7 h
      refine am_blk hc X 17 1 (fr' := (26, [(0, am_r oa0 2 0), (1, am_r oa1 8 ia1), (2, am_i a2), (3, am_i q1.1)], [am_i 0], q1.2)) rfl ⟨trivial, trivial⟩ ?_
      obtain rfl := Option.some.inj h
      exact am_zret hc X hr 18 rfl (by decide) rfl rfl
def lb_X7_isOfKind_4 (k4 : Int32 → Int32 → Int32 → am_S → Option (Int32 × am_S)) (x1 : Int32) (x2 : Int32) (x3 : Int32) (σ : am_S) : Option (Int32 × am_S) :=
  (if 6 ≤ x3 then some (0, σ) else (if x2 < 0 then some (0, σ) else (if 6 ≤ x2 then some (0, σ) else (if x2 = x1 then some (1, σ) else (bif am_in x2 6 then k4 x1 ((am_stt.getD 0 []).getD ((x2 : Int32).toNatClampNeg) 0) (x3 + 1) (σ) else none)))))
set_option maxRecDepth 100000 in
theorem lc_X7_isOfKind_4 {p : Program} {l : Launch} {e : Env} {s : State} {m : MethodId} {args : Array Value} {below : List Frame} {meth : Method} {c : Code} {G : am_G} {q : Int32 × am_S} (X : am_X p s m args c cX7_isOfKind yX7_isOfKind.cls 4 am_p7 G (am_fr G)) (hr : meth.sig.returnType = (some .boolean) ∧ meth.locks = false)  (k4 : Int32 → Int32 → Int32 → am_S → Option (Int32 × am_S)) (hk4 : ∀ (x1 : Int32) (x2 : Int32) (x3 : Int32) (σ : am_S), k4 x1 x2 x3 σ = some q → am_A p l e (am_ro 0) s m args below meth c 4 G (am_fr G) 0 0 (MQ below (am_Qc G (some (am_i q.1)) q.2) args s 0 0 (am_fr G)) (4, [(1, am_i x1), (2, am_i x2), (3, am_i x3)], [], σ)) (x1 : Int32) (x2 : Int32) (x3 : Int32) (σ : am_S) (h : lb_X7_isOfKind_4 k4 x1 x2 x3 σ = some q) : am_A p l e (am_ro 0) s m args below meth c 4 G (am_fr G) 0 0 (MQ below (am_Qc G (some (am_i q.1)) q.2) args s 0 0 (am_fr G)) (4, [(1, am_i x1), (2, am_i x2), (3, am_i x3)], [], σ) := by
  have hc := ct_X7_isOfKind
  unfold lb_X7_isOfKind_4 at h
  refine am_blk hc X 4 2 (fr' := (7, [(1, am_i x1), (2, am_i x2), (3, am_i x3)], [am_i 6, am_i x3], σ)) rfl ⟨trivial, trivial, trivial⟩ ?_
  refine am_icmp_ge hc X 6 (tgt := 39) rfl (by decide) (fun c5 => ?_) (fun c5 => ?_)
  · replace h := am_ip c5 h
    refine am_blk hc X 23 1 (fr' := (40, [(1, am_i x1), (2, am_i x2), (3, am_i x3)], [am_i 0], σ)) rfl ⟨trivial, trivial⟩ ?_
    obtain rfl := Option.some.inj h
    exact am_zret hc X hr 24 rfl (by decide) rfl rfl
  · replace h := am_in2 c5 h
    refine am_blk hc X 7 1 (fr' := (11, [(1, am_i x1), (2, am_i x2), (3, am_i x3)], [am_i x2], σ)) rfl ⟨trivial, trivial⟩ ?_
    refine am_if_lt hc X 8 (tgt := 39) rfl (by decide) (fun c4 => ?_) (fun c4 => ?_)
    · replace h := am_ip c4 h
      refine am_blk hc X 23 1 (fr' := (40, [(1, am_i x1), (2, am_i x2), (3, am_i x3)], [am_i 0], σ)) rfl ⟨trivial, trivial⟩ ?_
      obtain rfl := Option.some.inj h
      exact am_zret hc X hr 24 rfl (by decide) rfl rfl
    · replace h := am_in2 c4 h
      refine am_blk hc X 9 2 (fr' := (17, [(1, am_i x1), (2, am_i x2), (3, am_i x3)], [am_i 6, am_i x2], σ)) rfl ⟨trivial, trivial, trivial⟩ ?_
      refine am_icmp_ge hc X 11 (tgt := 39) rfl (by decide) (fun c3 => ?_) (fun c3 => ?_)
      · replace h := am_ip c3 h
        refine am_blk hc X 23 1 (fr' := (40, [(1, am_i x1), (2, am_i x2), (3, am_i x3)], [am_i 0], σ)) rfl ⟨trivial, trivial⟩ ?_
        obtain rfl := Option.some.inj h
        exact am_zret hc X hr 24 rfl (by decide) rfl rfl
      · replace h := am_in2 c3 h
        refine am_blk hc X 12 2 (fr' := (22, [(1, am_i x1), (2, am_i x2), (3, am_i x3)], [am_i x1, am_i x2], σ)) rfl ⟨trivial, trivial, trivial⟩ ?_
        refine am_icmp_ne hc X 14 (tgt := 27) rfl (by decide) (fun c2 => ?_) (fun c2 => ?_)
        · replace h := am_in2 c2 h
          obtain ⟨ob1, h⟩ := am_ci h
          refine am_blk hc X 17 6 (fr' := (4, [(1, am_i x1), (2, am_i ((am_stt.getD 0 []).getD ((x2 : Int32).toNatClampNeg) 0)), (3, am_i (x3 + 1))], [], σ)) rfl ⟨trivial, trivial, (am_in_vp ob1), trivial, trivial, trivial, trivial⟩ ?_
          exact hk4 x1 ((am_stt.getD 0 []).getD ((x2 : Int32).toNatClampNeg) 0) (x3 + 1) _ h
        · replace h := am_ip c2 h
          refine am_blk hc X 15 1 (fr' := (26, [(1, am_i x1), (2, am_i x2), (3, am_i x3)], [am_i 1], σ)) rfl ⟨trivial, trivial⟩ ?_
          obtain rfl := Option.some.inj h
          exact am_zret hc X hr 16 rfl (by decide) rfl rfl
def lp_X7_isOfKind_4  : Nat → Int32 → Int32 → Int32 → am_S → Option (Int32 × am_S)
  | 0 => fun _ _ _ _ => none
  | n + 1 => lb_X7_isOfKind_4  (lp_X7_isOfKind_4  n)
theorem ll_X7_isOfKind_4 {p : Program} {l : Launch} {e : Env} {s : State} {m : MethodId} {args : Array Value} {below : List Frame} {meth : Method} {c : Code} {G : am_G} {q : Int32 × am_S} (X : am_X p s m args c cX7_isOfKind yX7_isOfKind.cls 4 am_p7 G (am_fr G)) (hr : meth.sig.returnType = (some .boolean) ∧ meth.locks = false)    : ∀ (n : Nat) (x1 : Int32) (x2 : Int32) (x3 : Int32) (σ : am_S), lp_X7_isOfKind_4  n x1 x2 x3 σ = some q → am_A p l e (am_ro 0) s m args below meth c 4 G (am_fr G) 0 0 (MQ below (am_Qc G (some (am_i q.1)) q.2) args s 0 0 (am_fr G)) (4, [(1, am_i x1), (2, am_i x2), (3, am_i x3)], [], σ) := by
  intro n
  induction n with
  | zero =>
    intro x1 x2 x3 σ h
    have h : (none : Option (Int32 × am_S)) = some q := h
    cases h
  | succ n ih =>
    intro x1 x2 x3 σ h
    exact lc_X7_isOfKind_4 X hr  (lp_X7_isOfKind_4  n) ih x1 x2 x3 σ h
def fn_X7_isOfKind (a0 : Int32) (a1 : Int32) (σ : am_S) : Option (Int32 × am_S) :=
  lp_X7_isOfKind_4  1000 a1 a0 0 (σ)
set_option maxRecDepth 100000 in
theorem ok_X7_isOfKind (l : Launch) (a0 : Int32) (a1 : Int32) (σ : am_S) {q : Int32 × am_S} (h : fn_X7_isOfKind a0 a1 σ = some q) : am_M l yX7_isOfKind cX7_isOfKind 4 (some .boolean) 0 [am_i a0, am_i a1] σ (some (am_i q.1)) q.2 := by
  refine am_M_of (P := am_p7) (by decide +kernel) am_p7_ok rfl ?_
  intro G p e s m args below meth c X hr
  have hc := ct_X7_isOfKind
  unfold fn_X7_isOfKind at h
  refine am_blk hc X 0 4 (fr' := (4, [(0, am_i a0), (1, am_i a1), (2, am_i a0), (3, am_i 0)], [], σ)) rfl ⟨trivial, trivial, trivial, trivial, trivial⟩ ?_
  refine am_less [1, 2, 3] rfl ?_
  exact ll_X7_isOfKind_4 X hr   1000 a1 a0 0 _ h
def jn_X0_tryRest_8_33  (y0 : Int32) (y1 : Int32) (oy2 : Nat) (iy2 : Nat) (σ : am_S) : Option (Int32 × am_S) :=
  (bif am_in y1 8 then some (1, (am_u σ oy2 8 iy2 ((y1 : Int32).toNatClampNeg) y0)) else none)
set_option maxRecDepth 100000 in
theorem jl_X0_tryRest_8_33 {p : Program} {l : Launch} {e : Env} {s : State} {m : MethodId} {args : Array Value} {below : List Frame} {meth : Method} {c : Code} {G : am_G} {q : Int32 × am_S} (X : am_X p s m args c cX0_tryRest yX0_tryRest.cls 1 am_p0 G (am_fr G)) (hr : meth.sig.returnType = (some .boolean) ∧ meth.locks = false)    (y0 : Int32) (y1 : Int32) (oy2 : Nat) (iy2 : Nat) (σ : am_S) (h : jn_X0_tryRest_8_33  y0 y1 oy2 iy2 σ = some q) : am_A p l e (am_ro 1) s m args below meth c 1 G (am_fr G) 0 0 (MQ below (am_Qc G (some (am_i q.1)) q.2) args s 0 0 (am_fr G)) (33, [], [am_i y0, am_i y1, am_r oy2 8 iy2], σ) := by
  have hc := ct_X0_tryRest
  unfold jn_X0_tryRest_8_33 at h
  obtain ⟨ob3, h⟩ := am_ci h
  refine am_blk hc X 22 2 (fr' := (35, [], [am_i 1], (am_u σ oy2 8 iy2 ((y1 : Int32).toNatClampNeg) y0))) rfl ⟨(am_in_vp ob3), trivial, trivial⟩ ?_
  obtain rfl := Option.some.inj h
  exact am_zret hc X hr 24 rfl (by decide) rfl rfl
def fn_X0_tryRest_8 (oa0 : Nat) (ia0 : Nat) (σ : am_S) : Option (Int32 × am_S) :=
  (if (σ.1 oa0 8 ia0 3) = 6 then (fn_X7_isOfKind (σ.1 oa0 8 ia0 0) 2 (σ)).bind fun q1 => (if q1.1 = 0 then jn_X0_tryRest_8_33  0 6 oa0 ia0 q1.2 else jn_X0_tryRest_8_33  ((q1.2.1 oa0 8 ia0 6) / (2 : Int32)) 6 oa0 ia0 q1.2) else some (0, σ))
set_option maxRecDepth 100000 in
theorem ok_X0_tryRest_8 (l : Launch) (oa0 : Nat) (ia0 : Nat) (σ : am_S) {q : Int32 × am_S} (h : fn_X0_tryRest_8 oa0 ia0 σ = some q) : am_M l yX0_tryRest cX0_tryRest 1 (some .boolean) 1 [am_r oa0 8 ia0] σ (some (am_i q.1)) q.2 := by
  refine am_M_of (P := am_p0) (by decide +kernel) am_p0_ok rfl ?_
  intro G p e s m args below meth c X hr
  have hc := ct_X0_tryRest
  unfold fn_X0_tryRest_8 at h
  refine am_blk hc X 0 4 (fr' := (5, [(0, am_r oa0 8 ia0)], [am_i 6, am_i (σ.1 oa0 8 ia0 3)], σ)) rfl ⟨trivial, trivial, (am_in_vp (by decide)), trivial, trivial⟩ ?_
  refine am_icmp_eq hc X 4 (tgt := 10) rfl (by decide) (fun c5 => ?_) (fun c5 => ?_)
  · replace h := am_ip c5 h
    refine am_blk hc X 7 6 (fr' := (17, [(0, am_r oa0 8 ia0)], [am_i 2, am_i (σ.1 oa0 8 ia0 0), am_i 6, am_r oa0 8 ia0], σ)) rfl ⟨trivial, trivial, trivial, trivial, (am_in_vp (by decide)), trivial, trivial⟩ ?_
    obtain ⟨q1, hq2, h⟩ := am_bs h
    refine am_callN hc 13 X (As := [am_i (σ.1 oa0 8 ia0 0), am_i 2]) (rest := [am_i 6, am_r oa0 8 ia0]) rfl (ok_X7_isOfKind l (σ.1 oa0 8 ia0 0) 2 (σ) hq2) yv_X7_isOfKind mn_X0_98 rfl rfl rfl rfl rfl ?_
    refine am_if_eq hc X 14 (tgt := 32) rfl (by decide) (fun c4 => ?_) (fun c4 => ?_)
    · replace h := am_ip c4 h
      refine am_blk hc X 21 1 (fr' := (33, [(0, am_r oa0 8 ia0)], [am_i 0, am_i 6, am_r oa0 8 ia0], q1.2)) rfl ⟨trivial, trivial⟩ ?_
      refine am_less [] rfl ?_
      exact jl_X0_tryRest_8_33 X hr   0 6 oa0 ia0 _ h
    · replace h := am_in2 c4 h
      refine am_blk hc X 15 6 (fr' := (33, [(0, am_r oa0 8 ia0)], [am_i ((q1.2.1 oa0 8 ia0 6) / (2 : Int32)), am_i 6, am_r oa0 8 ia0], q1.2)) rfl ⟨trivial, trivial, (am_in_vp (by decide)), trivial, (by decide), trivial, trivial⟩ ?_
      refine am_less [] rfl ?_
      exact jl_X0_tryRest_8_33 X hr   ((q1.2.1 oa0 8 ia0 6) / (2 : Int32)) 6 oa0 ia0 _ h
  · replace h := am_in2 c5 h
    refine am_blk hc X 5 1 (fr' := (9, [(0, am_r oa0 8 ia0)], [am_i 0], σ)) rfl ⟨trivial, trivial⟩ ?_
    obtain rfl := Option.some.inj h
    exact am_zret hc X hr 6 rfl (by decide) rfl rfl
def fn_X0_payAt (oa0 : Nat) (a1 : Int32) (σ : am_S) : Option (Int32 × am_S) :=
  (fn_X7_isValley a1 (σ)).bind fun q1 => (if q1.1 = 0 then some (0, q1.2) else (if a1 = 6 then some (0, q1.2) else (bif am_in a1 7 then some ((q1.2.1 oa0 4 2 ((a1 : Int32).toNatClampNeg)), q1.2) else none)))
set_option maxRecDepth 100000 in
theorem ok_X0_payAt (l : Launch) (oa0 : Nat) (a1 : Int32) (σ : am_S) {q : Int32 × am_S} (h : fn_X0_payAt oa0 a1 σ = some q) : am_M l yX0_payAt cX0_payAt 2 (some .int) 1 [am_r oa0 2 0, am_i a1] σ (some (am_i q.1)) q.2 := by
  refine am_M_of (P := am_p0) (by decide +kernel) am_p0_ok rfl ?_
  intro G p e s m args below meth c X hr
  have hc := ct_X0_payAt
  unfold fn_X0_payAt at h
  refine am_blk hc X 0 1 (fr' := (1, [(0, am_r oa0 2 0), (1, am_i a1)], [am_i a1], σ)) rfl ⟨trivial, trivial⟩ ?_
  obtain ⟨q1, hq2, h⟩ := am_bs h
  refine am_callN hc 1 X (As := [am_i a1]) (rest := []) rfl (ok_X7_isValley l a1 (σ) hq2) yv_X7_isValley mn_X0_54 rfl rfl rfl rfl rfl ?_
  refine am_if_eq hc X 2 (tgt := 24) rfl (by decide) (fun c5 => ?_) (fun c5 => ?_)
  · replace h := am_ip c5 h
    refine am_blk hc X 13 1 (fr' := (25, [(0, am_r oa0 2 0), (1, am_i a1)], [am_i 0], q1.2)) rfl ⟨trivial, trivial⟩ ?_
    obtain rfl := Option.some.inj h
    exact am_iret hc X hr 14 rfl rfl rfl
  · replace h := am_in2 c5 h
    refine am_blk hc X 3 2 (fr' := (10, [(0, am_r oa0 2 0), (1, am_i a1)], [am_i 6, am_i a1], q1.2)) rfl ⟨trivial, trivial, trivial⟩ ?_
    refine am_icmp_eq hc X 5 (tgt := 24) rfl (by decide) (fun c4 => ?_) (fun c4 => ?_)
    · replace h := am_ip c4 h
      refine am_blk hc X 13 1 (fr' := (25, [(0, am_r oa0 2 0), (1, am_i a1)], [am_i 0], q1.2)) rfl ⟨trivial, trivial⟩ ?_
      obtain rfl := Option.some.inj h
      exact am_iret hc X hr 14 rfl rfl rfl
    · replace h := am_in2 c4 h
      obtain ⟨ob3, h⟩ := am_ci h
      refine am_blk hc X 6 7 (fr' := (25, [(0, am_r oa0 2 0), (1, am_i a1)], [am_i (q1.2.1 oa0 4 2 ((a1 : Int32).toNatClampNeg))], q1.2)) rfl ⟨trivial, trivial, trivial, (am_in_vp (by decide)), trivial, (am_in_vp ob3), trivial, trivial⟩ ?_
      obtain rfl := Option.some.inj h
      exact am_iret hc X hr 14 rfl rfl rfl
def fn_X0_tryWork_8 (oa0 : Nat) (oa1 : Nat) (ia1 : Nat) (σ : am_S) : Option (Int32 × am_S) :=
  (if (σ.1 oa1 8 ia1 3) = 6 then some (0, σ) else (if ((σ.1 oa1 8 ia1 6) + (2 : Int32)) ≤ 20 then (fn_X0_payAt oa0 (σ.1 oa1 8 ia1 3) (σ)).bind fun q1 => some (1, (am_u (am_u q1.2 oa1 8 ia1 5 (if ((σ.1 oa1 8 ia1 5) + q1.1) < 999 then ((σ.1 oa1 8 ia1 5) + q1.1) else 999)) oa1 8 ia1 6 ((q1.2.1 oa1 8 ia1 6) + (2 : Int32)))) else some (0, σ)))
set_option maxRecDepth 100000 in
theorem ok_X0_tryWork_8 (l : Launch) (oa0 : Nat) (oa1 : Nat) (ia1 : Nat) (σ : am_S) {q : Int32 × am_S} (h : fn_X0_tryWork_8 oa0 oa1 ia1 σ = some q) : am_M l yX0_tryWork cX0_tryWork 2 (some .boolean) 2 [am_r oa0 2 0, am_r oa1 8 ia1] σ (some (am_i q.1)) q.2 := by
  refine am_M_of (P := am_p0) (by decide +kernel) am_p0_ok rfl ?_
  intro G p e s m args below meth c X hr
  have hc := ct_X0_tryWork
  unfold fn_X0_tryWork_8 at h
  refine am_blk hc X 0 4 (fr' := (5, [(0, am_r oa0 2 0), (1, am_r oa1 8 ia1)], [am_i 6, am_i (σ.1 oa1 8 ia1 3)], σ)) rfl ⟨trivial, trivial, (am_in_vp (by decide)), trivial, trivial⟩ ?_
  refine am_icmp_eq hc X 4 (tgt := 19) rfl (by decide) (fun c4 => ?_) (fun c4 => ?_)
  · replace h := am_ip c4 h
    refine am_blk hc X 12 1 (fr' := (20, [(0, am_r oa0 2 0), (1, am_r oa1 8 ia1)], [am_i 0], σ)) rfl ⟨trivial, trivial⟩ ?_
    obtain rfl := Option.some.inj h
    exact am_zret hc X hr 13 rfl (by decide) rfl rfl
  · replace h := am_in2 c4 h
    refine am_blk hc X 5 6 (fr' := (16, [(0, am_r oa0 2 0), (1, am_r oa1 8 ia1)], [am_i 20, am_i ((σ.1 oa1 8 ia1 6) + (2 : Int32))], σ)) rfl ⟨trivial, trivial, (am_in_vp (by decide)), trivial, trivial, trivial, trivial⟩ ?_
    refine am_icmp_le hc X 11 (tgt := 21) rfl (by decide) (fun c3 => ?_) (fun c3 => ?_)
    · replace h := am_ip c3 h
      refine am_blk hc X 14 10 (fr' := (33, [(0, am_r oa0 2 0), (1, am_r oa1 8 ia1)], [am_i (σ.1 oa1 8 ia1 3), am_r oa0 2 0, am_i (σ.1 oa1 8 ia1 5), am_i 999, am_i 5, am_r oa1 8 ia1], σ)) rfl ⟨trivial, trivial, trivial, trivial, trivial, (am_in_vp (by decide)), trivial, trivial, trivial, (am_in_vp (by decide)), trivial⟩ ?_
      obtain ⟨q1, hq2, h⟩ := am_bs h
      refine am_callV hc 24 X (k := 2) (i := 0) (o := oa0) (As := [am_i (σ.1 oa1 8 ia1 3)]) (rest := [am_i (σ.1 oa1 8 ia1 5), am_i 999, am_i 5, am_r oa1 8 ia1]) rfl (ok_X0_payAt l oa0 (σ.1 oa1 8 ia1 3) (σ) hq2) yv_X0_payAt ml_X0_95 (cl_2) rfl rfl rfl rfl rfl ?_
      refine am_blk hc X 25 1 (fr' := (37, [(0, am_r oa0 2 0), (1, am_r oa1 8 ia1)], [am_i ((σ.1 oa1 8 ia1 5) + q1.1), am_i 999, am_i 5, am_r oa1 8 ia1], q1.2)) rfl ⟨trivial, trivial⟩ ?_
      refine am_mmin hc 26 X (rest := [am_i 5, am_r oa1 8 ia1]) rfl ml_X0_92 am_wmin rfl rfl ?_
      refine am_blk hc X 27 9 (fr' := (50, [(0, am_r oa0 2 0), (1, am_r oa1 8 ia1)], [am_i 1], (am_u (am_u q1.2 oa1 8 ia1 5 (if ((σ.1 oa1 8 ia1 5) + q1.1) < 999 then ((σ.1 oa1 8 ia1 5) + q1.1) else 999)) oa1 8 ia1 6 ((q1.2.1 oa1 8 ia1 6) + (2 : Int32))))) rfl ⟨(am_in_vp (by decide)), trivial, trivial, trivial, (am_in_vp (by decide)), trivial, trivial, (am_in_vp (by decide)), trivial, trivial⟩ ?_
      obtain rfl := Option.some.inj h
      exact am_zret hc X hr 36 rfl (by decide) rfl rfl
    · replace h := am_in2 c3 h
      refine am_blk hc X 12 1 (fr' := (20, [(0, am_r oa0 2 0), (1, am_r oa1 8 ia1)], [am_i 0], σ)) rfl ⟨trivial, trivial⟩ ?_
      obtain rfl := Option.some.inj h
      exact am_zret hc X hr 13 rfl (by decide) rfl rfl
def fn_X0_tryAct_8 (oa0 : Nat) (oa1 : Nat) (ia1 : Nat) (a2 : Int32) (σ : am_S) : Option (Int32 × am_S) :=
  (if a2 = 8 then (fn_X0_tryWork_8 oa0 oa1 ia1 (σ)).bind fun q9 => (if q9.1 = 0 ∨ q9.1 = 1 then some (q9.1, q9.2) else none) else (if a2 = 9 then (fn_X0_tryRest_8 oa1 ia1 (σ)).bind fun q6 => (if q6.1 = 0 ∨ q6.1 = 1 then some (q6.1, q6.2) else none) else (fn_X0_tryStep_8 oa0 oa1 ia1 a2 (σ)).bind fun q1 => (if q1.1 = 0 ∨ q1.1 = 1 then some (q1.1, q1.2) else none)))
set_option maxRecDepth 100000 in
theorem ok_X0_tryAct_8 (l : Launch) (oa0 : Nat) (oa1 : Nat) (ia1 : Nat) (a2 : Int32) (σ : am_S) {q : Int32 × am_S} (h : fn_X0_tryAct_8 oa0 oa1 ia1 a2 σ = some q) : am_M l yX0_tryAct cX0_tryAct 3 (some .boolean) 4 [am_r oa0 2 0, am_r oa1 8 ia1, am_i a2] σ (some (am_i q.1)) q.2 := by
  refine am_M_of (P := am_p0) (by decide +kernel) am_p0_ok rfl ?_
  intro G p e s m args below meth c X hr
  have hc := ct_X0_tryAct
  unfold fn_X0_tryAct_8 at h
  refine am_blk hc X 0 1 (fr' := (1, [(0, am_r oa0 2 0), (1, am_r oa1 8 ia1), (2, am_i a2)], [am_i a2], σ)) rfl ⟨trivial, trivial⟩ ?_
  by_cases c4 : a2 = 8
  · replace h := am_ip c4 h
    refine am_look hc X 1 (tgt := 28) (off := 27) rfl (by decide) (by rw [c4]; rfl) (by decide) ?_
    refine am_blk hc X 2 2 (fr' := (30, [(0, am_r oa0 2 0), (1, am_r oa1 8 ia1), (2, am_i a2)], [am_r oa1 8 ia1, am_r oa0 2 0], σ)) rfl ⟨trivial, trivial, trivial⟩ ?_
    obtain ⟨q9, hq10, h⟩ := am_bs h
    refine am_callV hc 4 X (k := 2) (i := 0) (o := oa0) (As := [am_r oa1 8 ia1]) (rest := []) rfl (ok_X0_tryWork_8 l oa0 oa1 ia1 (σ) hq10) yv_X0_tryWork ml_X0_74 (cl_2) rfl rfl rfl rfl rfl ?_
    obtain ⟨ob11, h⟩ := am_ct2 h
    obtain rfl := Option.some.inj h
    exact am_zret hc X hr 5 rfl ob11 rfl rfl
  · replace h := am_in2 c4 h
    by_cases c5 : a2 = 9
    · replace h := am_ip c5 h
      refine am_look hc X 1 (tgt := 34) (off := 33) rfl (by decide) (by rw [c5]; rfl) (by decide) ?_
      refine am_blk hc X 6 1 (fr' := (35, [(0, am_r oa0 2 0), (1, am_r oa1 8 ia1), (2, am_i a2)], [am_r oa1 8 ia1], σ)) rfl ⟨trivial, trivial⟩ ?_
      obtain ⟨q6, hq7, h⟩ := am_bs h
      refine am_callS hc 7 X (As := [am_r oa1 8 ia1]) (rest := []) rfl (ok_X0_tryRest_8 l oa1 ia1 (σ) hq7) yv_X0_tryRest ml_X0_78 rfl rfl rfl rfl rfl ?_
      obtain ⟨ob8, h⟩ := am_ct2 h
      obtain rfl := Option.some.inj h
      exact am_zret hc X hr 8 rfl ob8 rfl rfl
    · replace h := am_in2 c5 h
      refine am_look hc X 1 (tgt := 39) (off := 38) rfl (by decide) ((lv_osw c4 rfl).trans ((lv_osw c5 rfl).trans (rfl))) (by decide) ?_
      refine am_blk hc X 9 3 (fr' := (42, [(0, am_r oa0 2 0), (1, am_r oa1 8 ia1), (2, am_i a2)], [am_i a2, am_r oa1 8 ia1, am_r oa0 2 0], σ)) rfl ⟨trivial, trivial, trivial, trivial⟩ ?_
      obtain ⟨q1, hq2, h⟩ := am_bs h
      refine am_callV hc 12 X (k := 2) (i := 0) (o := oa0) (As := [am_r oa1 8 ia1, am_i a2]) (rest := []) rfl (ok_X0_tryStep_8 l oa0 oa1 ia1 a2 (σ) hq2) yv_X0_tryStep ml_X0_81 (cl_2) rfl rfl rfl rfl rfl ?_
      obtain ⟨ob3, h⟩ := am_ct2 h
      obtain rfl := Option.some.inj h
      exact am_zret hc X hr 13 rfl ob3 rfl rfl
def jn_X0_actInTruth_27  (ox0 : Nat) (y0 : Int32) (σ : am_S) : Option (Int32 × am_S) :=
  (if y0 = 0 then (if y0 = 0 ∨ y0 = 1 then some (y0, σ) else none) else (if y0 = 0 ∨ y0 = 1 then some (y0, (am_u σ ox0 2 0 7 ((σ.1 ox0 2 0 7) + (1 : Int32)))) else none))
set_option maxRecDepth 100000 in
theorem jl_X0_actInTruth_27 {p : Program} {l : Launch} {e : Env} {s : State} {m : MethodId} {args : Array Value} {below : List Frame} {meth : Method} {c : Code} {G : am_G} {q : Int32 × am_S} (X : am_X p s m args c cX0_actInTruth yX0_actInTruth.cls 4 am_p0 G (am_fr G)) (hr : meth.sig.returnType = (some .boolean) ∧ meth.locks = false)    (ox0 : Nat) (y0 : Int32) (σ : am_S) (h : jn_X0_actInTruth_27  ox0 y0 σ = some q) : am_A p l e (am_ro 5) s m args below meth c 4 G (am_fr G) 0 0 (MQ below (am_Qc G (some (am_i q.1)) q.2) args s 0 0 (am_fr G)) (27, [(0, am_r ox0 2 0)], [am_i y0], σ) := by
  have hc := ct_X0_actInTruth
  unfold jn_X0_actInTruth_27 at h
  refine am_blk hc X 15 2 (fr' := (29, [(0, am_r ox0 2 0), (3, am_i y0)], [am_i y0], σ)) rfl ⟨trivial, trivial, trivial⟩ ?_
  refine am_if_eq hc X 17 (tgt := 42) rfl (by decide) (fun c5 => ?_) (fun c5 => ?_)
  · replace h := am_ip c5 h
    refine am_blk hc X 24 1 (fr' := (43, [(0, am_r ox0 2 0), (3, am_i y0)], [am_i y0], σ)) rfl ⟨trivial, trivial⟩ ?_
    obtain ⟨ob3, h⟩ := am_ct2 h
    obtain rfl := Option.some.inj h
    exact am_zret hc X hr 25 rfl ob3 rfl rfl
  · replace h := am_in2 c5 h
    refine am_blk hc X 18 7 (fr' := (43, [(0, am_r ox0 2 0), (3, am_i y0)], [am_i y0], (am_u σ ox0 2 0 7 ((σ.1 ox0 2 0 7) + (1 : Int32))))) rfl ⟨trivial, trivial, trivial, trivial, trivial, trivial, trivial, trivial⟩ ?_
    obtain ⟨ob4, h⟩ := am_ct2 h
    obtain rfl := Option.some.inj h
    exact am_zret hc X hr 25 rfl ob4 rfl rfl
def jn_X0_actInTruth_26  (ox0 : Nat) (σ : am_S) : Option (Int32 × am_S) :=
  jn_X0_actInTruth_27  ox0 0 (σ)
set_option maxRecDepth 100000 in
theorem jl_X0_actInTruth_26 {p : Program} {l : Launch} {e : Env} {s : State} {m : MethodId} {args : Array Value} {below : List Frame} {meth : Method} {c : Code} {G : am_G} {q : Int32 × am_S} (X : am_X p s m args c cX0_actInTruth yX0_actInTruth.cls 4 am_p0 G (am_fr G)) (hr : meth.sig.returnType = (some .boolean) ∧ meth.locks = false)    (ox0 : Nat) (σ : am_S) (h : jn_X0_actInTruth_26  ox0 σ = some q) : am_A p l e (am_ro 5) s m args below meth c 4 G (am_fr G) 0 0 (MQ below (am_Qc G (some (am_i q.1)) q.2) args s 0 0 (am_fr G)) (26, [(0, am_r ox0 2 0)], [], σ) := by
  have hc := ct_X0_actInTruth
  unfold jn_X0_actInTruth_26 at h
  refine am_blk hc X 14 1 (fr' := (27, [(0, am_r ox0 2 0)], [am_i 0], σ)) rfl ⟨trivial, trivial⟩ ?_
  exact jl_X0_actInTruth_27 X hr   ox0 0 _ h
def fn_X0_actInTruth (oa0 : Nat) (a1 : Int32) (a2 : Int32) (σ : am_S) : Option (Int32 × am_S) :=
  (fn_X0_hasPerson oa0 a1 (σ)).bind fun q1 => (if q1.1 = 0 then jn_X0_actInTruth_26  oa0 q1.2 else (bif am_in a1 6 then (fn_X0_tryAct_8 oa0 oa0 ((a1 : Int32).toNatClampNeg) a2 q1.2).bind fun q7 => (if q7.1 = 0 then jn_X0_actInTruth_26  oa0 q7.2 else jn_X0_actInTruth_27  oa0 1 q7.2) else none))
set_option maxRecDepth 100000 in
theorem ok_X0_actInTruth (l : Launch) (oa0 : Nat) (a1 : Int32) (a2 : Int32) (σ : am_S) {q : Int32 × am_S} (h : fn_X0_actInTruth oa0 a1 a2 σ = some q) : am_M l yX0_actInTruth cX0_actInTruth 4 (some .boolean) 5 [am_r oa0 2 0, am_i a1, am_i a2] σ (some (am_i q.1)) q.2 := by
  refine am_M_of (P := am_p0) (by decide +kernel) am_p0_ok rfl ?_
  intro G p e s m args below meth c X hr
  have hc := ct_X0_actInTruth
  unfold fn_X0_actInTruth at h
  refine am_blk hc X 0 2 (fr' := (2, [(0, am_r oa0 2 0), (1, am_i a1), (2, am_i a2)], [am_i a1, am_r oa0 2 0], σ)) rfl ⟨trivial, trivial, trivial⟩ ?_
  obtain ⟨q1, hq2, h⟩ := am_bs h
  refine am_callV hc 2 X (k := 2) (i := 0) (o := oa0) (As := [am_i a1]) (rest := []) rfl (ok_X0_hasPerson l oa0 a1 (σ) hq2) yv_X0_hasPerson ml_X0_102 (cl_2) rfl rfl rfl rfl rfl ?_
  refine am_if_eq hc X 3 (tgt := 26) rfl (by decide) (fun c10 => ?_) (fun c10 => ?_)
  · replace h := am_ip c10 h
    refine am_less [0] rfl ?_
    exact jl_X0_actInTruth_26 X hr   oa0 _ h
  · replace h := am_in2 c10 h
    obtain ⟨ob6, h⟩ := am_ci h
    refine am_blk hc X 4 6 (fr' := (16, [(0, am_r oa0 2 0), (1, am_i a1), (2, am_i a2)], [am_i a2, am_r oa0 8 ((a1 : Int32).toNatClampNeg), am_r oa0 2 0], q1.2)) rfl ⟨trivial, trivial, trivial, trivial, (am_in_vp ob6), trivial, trivial⟩ ?_
    obtain ⟨q7, hq8, h⟩ := am_bs h
    refine am_callV hc 10 X (k := 2) (i := 0) (o := oa0) (As := [am_r oa0 8 ((a1 : Int32).toNatClampNeg), am_i a2]) (rest := []) rfl (ok_X0_tryAct_8 l oa0 oa0 ((a1 : Int32).toNatClampNeg) a2 q1.2 hq8) yv_X0_tryAct ml_X0_105 (cl_2) rfl rfl rfl rfl rfl ?_
    refine am_if_eq hc X 11 (tgt := 26) rfl (by decide) (fun c9 => ?_) (fun c9 => ?_)
    · replace h := am_ip c9 h
      refine am_less [0] rfl ?_
      exact jl_X0_actInTruth_26 X hr   oa0 _ h
    · replace h := am_in2 c9 h
      refine am_blk hc X 12 2 (fr' := (27, [(0, am_r oa0 2 0), (1, am_i a1), (2, am_i a2)], [am_i 1], q7.2)) rfl ⟨trivial, trivial, trivial⟩ ?_
      refine am_less [0] rfl ?_
      exact jl_X0_actInTruth_27 X hr   oa0 1 _ h
def fn_X0_addPass (oa0 : Nat) (a1 : Int32) (a2 : Int32) (a3 : Int32) (a4 : Int32) (σ : am_S) : Option (Int32 × am_S) :=
  (if (σ.1 oa0 2 0 3) < 3 then (bif am_in (σ.1 oa0 2 0 3) 3 then some ((σ.1 oa0 2 0 3), (am_u (am_u (am_u (am_u (am_u σ oa0 6 (((σ.1 oa0 2 0 3) : Int32).toNatClampNeg) 0 a1) oa0 6 (((σ.1 oa0 2 0 3) : Int32).toNatClampNeg) 1 a2) oa0 6 (((σ.1 oa0 2 0 3) : Int32).toNatClampNeg) 2 a3) oa0 6 (((σ.1 oa0 2 0 3) : Int32).toNatClampNeg) 3 a4) oa0 2 0 3 ((σ.1 oa0 2 0 3) + (1 : Int32)))) else none) else some ((-1), σ))
set_option maxRecDepth 100000 in
theorem ok_X0_addPass (l : Launch) (oa0 : Nat) (a1 : Int32) (a2 : Int32) (a3 : Int32) (a4 : Int32) (σ : am_S) {q : Int32 × am_S} (h : fn_X0_addPass oa0 a1 a2 a3 a4 σ = some q) : am_M l yX0_addPass cX0_addPass 6 (some .int) 0 [am_r oa0 2 0, am_i a1, am_i a2, am_i a3, am_i a4] σ (some (am_i q.1)) q.2 := by
  refine am_M_of (P := am_p0) (by decide +kernel) am_p0_ok rfl ?_
  intro G p e s m args below meth c X hr
  have hc := ct_X0_addPass
  unfold fn_X0_addPass at h
  refine am_blk hc X 0 3 (fr' := (5, [(0, am_r oa0 2 0), (1, am_i a1), (2, am_i a2), (3, am_i a3), (4, am_i a4)], [am_i 3, am_i (σ.1 oa0 2 0 3)], σ)) rfl ⟨trivial, trivial, trivial, trivial⟩ ?_
  refine am_icmp_lt hc X 3 (tgt := 10) rfl (by decide) (fun c2 => ?_) (fun c2 => ?_)
  · replace h := am_ip c2 h
    obtain ⟨ob1, h⟩ := am_ci h
    refine am_blk hc X 6 29 (fr' := (53, [(0, am_r oa0 2 0), (1, am_i a1), (2, am_i a2), (3, am_i a3), (4, am_i a4), (5, am_r oa0 6 (((σ.1 oa0 2 0 3) : Int32).toNatClampNeg))], [am_i (σ.1 oa0 2 0 3)], (am_u (am_u (am_u (am_u (am_u σ oa0 6 (((σ.1 oa0 2 0 3) : Int32).toNatClampNeg) 0 a1) oa0 6 (((σ.1 oa0 2 0 3) : Int32).toNatClampNeg) 1 a2) oa0 6 (((σ.1 oa0 2 0 3) : Int32).toNatClampNeg) 2 a3) oa0 6 (((σ.1 oa0 2 0 3) : Int32).toNatClampNeg) 3 a4) oa0 2 0 3 ((σ.1 oa0 2 0 3) + (1 : Int32))))) rfl ⟨trivial, trivial, trivial, trivial, (am_in_vp ob1), trivial, trivial, trivial, trivial, (am_in_vp (by decide)), trivial, trivial, trivial, (am_in_vp (by decide)), trivial, trivial, trivial, (am_in_vp (by decide)), trivial, trivial, trivial, (am_in_vp (by decide)), trivial, trivial, trivial, trivial, trivial, trivial, trivial, trivial⟩ ?_
    obtain rfl := Option.some.inj h
    exact am_iret hc X hr 35 rfl rfl rfl
  · replace h := am_in2 c2 h
    refine am_blk hc X 4 1 (fr' := (9, [(0, am_r oa0 2 0), (1, am_i a1), (2, am_i a2), (3, am_i a3), (4, am_i a4)], [am_i (-1)], σ)) rfl ⟨trivial, trivial⟩ ?_
    obtain rfl := Option.some.inj h
    exact am_iret hc X hr 5 rfl rfl rfl
def fn_X0_addPerson (oa0 : Nat) (a1 : Int32) (a2 : Int32) (a3 : Int32) (σ : am_S) : Option (Int32 × am_S) :=
  (if (σ.1 oa0 2 0 4) < 6 then (bif am_in (σ.1 oa0 2 0 4) 6 then some ((σ.1 oa0 2 0 4), (am_u (am_u (am_u (am_u (am_u (am_u (am_u (am_u (am_u σ oa0 8 (((σ.1 oa0 2 0 4) : Int32).toNatClampNeg) 0 a1) oa0 8 (((σ.1 oa0 2 0 4) : Int32).toNatClampNeg) 1 a2) oa0 8 (((σ.1 oa0 2 0 4) : Int32).toNatClampNeg) 2 a3) oa0 8 (((σ.1 oa0 2 0 4) : Int32).toNatClampNeg) 3 a3) oa0 8 (((σ.1 oa0 2 0 4) : Int32).toNatClampNeg) 4 0) oa0 8 (((σ.1 oa0 2 0 4) : Int32).toNatClampNeg) 5 20) oa0 8 (((σ.1 oa0 2 0 4) : Int32).toNatClampNeg) 6 0) oa0 8 (((σ.1 oa0 2 0 4) : Int32).toNatClampNeg) 7 0) oa0 2 0 4 ((σ.1 oa0 2 0 4) + (1 : Int32)))) else none) else some ((-1), σ))
set_option maxRecDepth 100000 in
theorem ok_X0_addPerson (l : Launch) (oa0 : Nat) (a1 : Int32) (a2 : Int32) (a3 : Int32) (σ : am_S) {q : Int32 × am_S} (h : fn_X0_addPerson oa0 a1 a2 a3 σ = some q) : am_M l yX0_addPerson cX0_addPerson 5 (some .int) 0 [am_r oa0 2 0, am_i a1, am_i a2, am_i a3] σ (some (am_i q.1)) q.2 := by
  refine am_M_of (P := am_p0) (by decide +kernel) am_p0_ok rfl ?_
  intro G p e s m args below meth c X hr
  have hc := ct_X0_addPerson
  unfold fn_X0_addPerson at h
  refine am_blk hc X 0 3 (fr' := (6, [(0, am_r oa0 2 0), (1, am_i a1), (2, am_i a2), (3, am_i a3)], [am_i 6, am_i (σ.1 oa0 2 0 4)], σ)) rfl ⟨trivial, trivial, trivial, trivial⟩ ?_
  refine am_icmp_lt hc X 3 (tgt := 11) rfl (by decide) (fun c2 => ?_) (fun c2 => ?_)
  · replace h := am_ip c2 h
    obtain ⟨ob1, h⟩ := am_ci h
    refine am_blk hc X 6 45 (fr' := (76, [(0, am_r oa0 2 0), (1, am_i a1), (2, am_i a2), (3, am_i a3), (4, am_r oa0 8 (((σ.1 oa0 2 0 4) : Int32).toNatClampNeg))], [am_i (σ.1 oa0 2 0 4)], (am_u (am_u (am_u (am_u (am_u (am_u (am_u (am_u (am_u σ oa0 8 (((σ.1 oa0 2 0 4) : Int32).toNatClampNeg) 0 a1) oa0 8 (((σ.1 oa0 2 0 4) : Int32).toNatClampNeg) 1 a2) oa0 8 (((σ.1 oa0 2 0 4) : Int32).toNatClampNeg) 2 a3) oa0 8 (((σ.1 oa0 2 0 4) : Int32).toNatClampNeg) 3 a3) oa0 8 (((σ.1 oa0 2 0 4) : Int32).toNatClampNeg) 4 0) oa0 8 (((σ.1 oa0 2 0 4) : Int32).toNatClampNeg) 5 20) oa0 8 (((σ.1 oa0 2 0 4) : Int32).toNatClampNeg) 6 0) oa0 8 (((σ.1 oa0 2 0 4) : Int32).toNatClampNeg) 7 0) oa0 2 0 4 ((σ.1 oa0 2 0 4) + (1 : Int32))))) rfl ⟨trivial, trivial, trivial, trivial, (am_in_vp ob1), trivial, trivial, trivial, trivial, (am_in_vp (by decide)), trivial, trivial, trivial, (am_in_vp (by decide)), trivial, trivial, trivial, (am_in_vp (by decide)), trivial, trivial, trivial, (am_in_vp (by decide)), trivial, trivial, trivial, (am_in_vp (by decide)), trivial, trivial, trivial, (am_in_vp (by decide)), trivial, trivial, trivial, (am_in_vp (by decide)), trivial, trivial, trivial, (am_in_vp (by decide)), trivial, trivial, trivial, trivial, trivial, trivial, trivial, trivial⟩ ?_
    obtain rfl := Option.some.inj h
    exact am_iret hc X hr 51 rfl rfl rfl
  · replace h := am_in2 c2 h
    refine am_blk hc X 4 1 (fr' := (10, [(0, am_r oa0 2 0), (1, am_i a1), (2, am_i a2), (3, am_i a3)], [am_i (-1)], σ)) rfl ⟨trivial, trivial⟩ ?_
    obtain rfl := Option.some.inj h
    exact am_iret hc X hr 5 rfl rfl rfl
def lb_X0_copyTable_3_3_3 (k3 : Nat → Nat → Int32 → Int32 → Int32 → am_S → Option (am_S)) (ox0 : Nat) (ox1 : Nat) (x2 : Int32) (x3 : Int32) (x4 : Int32) (σ : am_S) : Option (am_S) :=
  (if x2 ≤ x4 then some (σ) else (bif am_in x4 3 then (bif am_in x4 3 then (bif am_cok 0 0 x3 7 7 then k3 ox0 ox1 x2 x3 (x4 + 1) (am_row σ ox1 4 ((x4 : Int32).toNatClampNeg) (va_cpy (σ.1 ox0 4 ((x4 : Int32).toNatClampNeg)) (σ.1 ox1 4 ((x4 : Int32).toNatClampNeg)) 0 0 ((x3 : Int32).toNatClampNeg))) else none) else none) else none))
set_option maxRecDepth 100000 in
theorem lc_X0_copyTable_3_3_3 {p : Program} {l : Launch} {e : Env} {s : State} {m : MethodId} {args : Array Value} {below : List Frame} {meth : Method} {c : Code} {G : am_G} {q : am_S} (X : am_X p s m args c cX0_copyTable yX0_copyTable.cls 5 am_p0 G (am_fr G)) (hr : meth.sig.returnType = none ∧ meth.locks = false)  (k3 : Nat → Nat → Int32 → Int32 → Int32 → am_S → Option (am_S)) (hk3 : ∀ (ox0 : Nat) (ox1 : Nat) (x2 : Int32) (x3 : Int32) (x4 : Int32) (σ : am_S), k3 ox0 ox1 x2 x3 x4 σ = some q → am_A p l e (am_ro 1) s m args below meth c 5 G (am_fr G) 0 0 (MQ below (am_Qc G none q) args s 0 0 (am_fr G)) (3, [(0, am_r ox0 3 0), (1, am_r ox1 3 0), (2, am_i x2), (3, am_i x3), (4, am_i x4)], [], σ)) (ox0 : Nat) (ox1 : Nat) (x2 : Int32) (x3 : Int32) (x4 : Int32) (σ : am_S) (h : lb_X0_copyTable_3_3_3 k3 ox0 ox1 x2 x3 x4 σ = some q) : am_A p l e (am_ro 1) s m args below meth c 5 G (am_fr G) 0 0 (MQ below (am_Qc G none q) args s 0 0 (am_fr G)) (3, [(0, am_r ox0 3 0), (1, am_r ox1 3 0), (2, am_i x2), (3, am_i x3), (4, am_i x4)], [], σ) := by
  have hc := ct_X0_copyTable
  unfold lb_X0_copyTable_3_3_3 at h
  refine am_blk hc X 2 2 (fr' := (6, [(0, am_r ox0 3 0), (1, am_r ox1 3 0), (2, am_i x2), (3, am_i x3), (4, am_i x4)], [am_i x2, am_i x4], σ)) rfl ⟨trivial, trivial, trivial⟩ ?_
  refine am_icmp_ge hc X 4 (tgt := 29) rfl (by decide) (fun c4 => ?_) (fun c4 => ?_)
  · replace h := am_ip c4 h
    obtain rfl := Option.some.inj h
    exact am_vret hc X hr 17 rfl rfl rfl
  · replace h := am_in2 c4 h
    obtain ⟨ob1, h⟩ := am_ci h
    obtain ⟨ob2, h⟩ := am_ci h
    refine am_blk hc X 5 9 (fr' := (20, [(0, am_r ox0 3 0), (1, am_r ox1 3 0), (2, am_i x2), (3, am_i x3), (4, am_i x4)], [am_i x3, am_i 0, am_r ox1 4 ((x4 : Int32).toNatClampNeg), am_i 0, am_r ox0 4 ((x4 : Int32).toNatClampNeg)], σ)) rfl ⟨trivial, trivial, (am_in_vp ob1), trivial, trivial, trivial, (am_in_vp ob2), trivial, trivial, trivial⟩ ?_
    obtain ⟨ob3, h⟩ := am_ci h
    refine am_cpi hc 14 X (k := 4) (k0 := 4) (rest := []) rfl ml_X0_48 am_acw (by decide +kernel) ob3 rfl ?_
    refine am_blk hc X 15 2 (fr' := (3, [(0, am_r ox0 3 0), (1, am_r ox1 3 0), (2, am_i x2), (3, am_i x3), (4, am_i (x4 + 1))], [], (am_row σ ox1 4 ((x4 : Int32).toNatClampNeg) (va_cpy (σ.1 ox0 4 ((x4 : Int32).toNatClampNeg)) (σ.1 ox1 4 ((x4 : Int32).toNatClampNeg)) 0 0 ((x3 : Int32).toNatClampNeg))))) rfl ⟨trivial, trivial, trivial⟩ ?_
    exact hk3 ox0 ox1 x2 x3 (x4 + 1) _ h
def lp_X0_copyTable_3_3_3  : Nat → Nat → Nat → Int32 → Int32 → Int32 → am_S → Option (am_S)
  | 0 => fun _ _ _ _ _ _ => none
  | n + 1 => lb_X0_copyTable_3_3_3  (lp_X0_copyTable_3_3_3  n)
theorem ll_X0_copyTable_3_3_3 {p : Program} {l : Launch} {e : Env} {s : State} {m : MethodId} {args : Array Value} {below : List Frame} {meth : Method} {c : Code} {G : am_G} {q : am_S} (X : am_X p s m args c cX0_copyTable yX0_copyTable.cls 5 am_p0 G (am_fr G)) (hr : meth.sig.returnType = none ∧ meth.locks = false)    : ∀ (n : Nat) (ox0 : Nat) (ox1 : Nat) (x2 : Int32) (x3 : Int32) (x4 : Int32) (σ : am_S), lp_X0_copyTable_3_3_3  n ox0 ox1 x2 x3 x4 σ = some q → am_A p l e (am_ro 1) s m args below meth c 5 G (am_fr G) 0 0 (MQ below (am_Qc G none q) args s 0 0 (am_fr G)) (3, [(0, am_r ox0 3 0), (1, am_r ox1 3 0), (2, am_i x2), (3, am_i x3), (4, am_i x4)], [], σ) := by
  intro n
  induction n with
  | zero =>
    intro ox0 ox1 x2 x3 x4 σ h
    have h : (none : Option (am_S)) = some q := h
    cases h
  | succ n ih =>
    intro ox0 ox1 x2 x3 x4 σ h
    exact lc_X0_copyTable_3_3_3 X hr  (lp_X0_copyTable_3_3_3  n) ih ox0 ox1 x2 x3 x4 σ h
def fn_X0_copyTable_3_3 (oa0 : Nat) (oa1 : Nat) (a2 : Int32) (a3 : Int32) (σ : am_S) : Option (am_S) :=
  lp_X0_copyTable_3_3_3  1000 oa0 oa1 a2 a3 0 (σ)
set_option maxRecDepth 100000 in
theorem ok_X0_copyTable_3_3 (l : Launch) (oa0 : Nat) (oa1 : Nat) (a2 : Int32) (a3 : Int32) (σ : am_S) {q : am_S} (h : fn_X0_copyTable_3_3 oa0 oa1 a2 a3 σ = some q) : am_M l yX0_copyTable cX0_copyTable 5 none 1 [am_r oa0 3 0, am_r oa1 3 0, am_i a2, am_i a3] σ none q := by
  refine am_M_of (P := am_p0) (by decide +kernel) am_p0_ok rfl ?_
  intro G p e s m args below meth c X hr
  have hc := ct_X0_copyTable
  unfold fn_X0_copyTable_3_3 at h
  refine am_blk hc X 0 2 (fr' := (3, [(0, am_r oa0 3 0), (1, am_r oa1 3 0), (2, am_i a2), (3, am_i a3), (4, am_i 0)], [], σ)) rfl ⟨trivial, trivial, trivial⟩ ?_
  exact ll_X0_copyTable_3_3_3 X hr   1000 oa0 oa1 a2 a3 0 _ h
def lb_X0_copyTable_5_5_3 (k3 : Nat → Nat → Int32 → Int32 → Int32 → am_S → Option (am_S)) (ox0 : Nat) (ox1 : Nat) (x2 : Int32) (x3 : Int32) (x4 : Int32) (σ : am_S) : Option (am_S) :=
  (if x2 ≤ x4 then some (σ) else (bif am_in x4 3 then (bif am_in x4 3 then (bif am_cok 0 0 x3 4 4 then k3 ox0 ox1 x2 x3 (x4 + 1) (am_row σ ox1 6 ((x4 : Int32).toNatClampNeg) (va_cpy (σ.1 ox0 6 ((x4 : Int32).toNatClampNeg)) (σ.1 ox1 6 ((x4 : Int32).toNatClampNeg)) 0 0 ((x3 : Int32).toNatClampNeg))) else none) else none) else none))
set_option maxRecDepth 100000 in
theorem lc_X0_copyTable_5_5_3 {p : Program} {l : Launch} {e : Env} {s : State} {m : MethodId} {args : Array Value} {below : List Frame} {meth : Method} {c : Code} {G : am_G} {q : am_S} (X : am_X p s m args c cX0_copyTable yX0_copyTable.cls 5 am_p0 G (am_fr G)) (hr : meth.sig.returnType = none ∧ meth.locks = false)  (k3 : Nat → Nat → Int32 → Int32 → Int32 → am_S → Option (am_S)) (hk3 : ∀ (ox0 : Nat) (ox1 : Nat) (x2 : Int32) (x3 : Int32) (x4 : Int32) (σ : am_S), k3 ox0 ox1 x2 x3 x4 σ = some q → am_A p l e (am_ro 1) s m args below meth c 5 G (am_fr G) 0 0 (MQ below (am_Qc G none q) args s 0 0 (am_fr G)) (3, [(0, am_r ox0 5 0), (1, am_r ox1 5 0), (2, am_i x2), (3, am_i x3), (4, am_i x4)], [], σ)) (ox0 : Nat) (ox1 : Nat) (x2 : Int32) (x3 : Int32) (x4 : Int32) (σ : am_S) (h : lb_X0_copyTable_5_5_3 k3 ox0 ox1 x2 x3 x4 σ = some q) : am_A p l e (am_ro 1) s m args below meth c 5 G (am_fr G) 0 0 (MQ below (am_Qc G none q) args s 0 0 (am_fr G)) (3, [(0, am_r ox0 5 0), (1, am_r ox1 5 0), (2, am_i x2), (3, am_i x3), (4, am_i x4)], [], σ) := by
  have hc := ct_X0_copyTable
  unfold lb_X0_copyTable_5_5_3 at h
  refine am_blk hc X 2 2 (fr' := (6, [(0, am_r ox0 5 0), (1, am_r ox1 5 0), (2, am_i x2), (3, am_i x3), (4, am_i x4)], [am_i x2, am_i x4], σ)) rfl ⟨trivial, trivial, trivial⟩ ?_
  refine am_icmp_ge hc X 4 (tgt := 29) rfl (by decide) (fun c4 => ?_) (fun c4 => ?_)
  · replace h := am_ip c4 h
    obtain rfl := Option.some.inj h
    exact am_vret hc X hr 17 rfl rfl rfl
  · replace h := am_in2 c4 h
    obtain ⟨ob1, h⟩ := am_ci h
    obtain ⟨ob2, h⟩ := am_ci h
    refine am_blk hc X 5 9 (fr' := (20, [(0, am_r ox0 5 0), (1, am_r ox1 5 0), (2, am_i x2), (3, am_i x3), (4, am_i x4)], [am_i x3, am_i 0, am_r ox1 6 ((x4 : Int32).toNatClampNeg), am_i 0, am_r ox0 6 ((x4 : Int32).toNatClampNeg)], σ)) rfl ⟨trivial, trivial, (am_in_vp ob1), trivial, trivial, trivial, (am_in_vp ob2), trivial, trivial, trivial⟩ ?_
    obtain ⟨ob3, h⟩ := am_ci h
    refine am_cpi hc 14 X (k := 6) (k0 := 6) (rest := []) rfl ml_X0_48 am_acw (by decide +kernel) ob3 rfl ?_
    refine am_blk hc X 15 2 (fr' := (3, [(0, am_r ox0 5 0), (1, am_r ox1 5 0), (2, am_i x2), (3, am_i x3), (4, am_i (x4 + 1))], [], (am_row σ ox1 6 ((x4 : Int32).toNatClampNeg) (va_cpy (σ.1 ox0 6 ((x4 : Int32).toNatClampNeg)) (σ.1 ox1 6 ((x4 : Int32).toNatClampNeg)) 0 0 ((x3 : Int32).toNatClampNeg))))) rfl ⟨trivial, trivial, trivial⟩ ?_
    exact hk3 ox0 ox1 x2 x3 (x4 + 1) _ h
def lp_X0_copyTable_5_5_3  : Nat → Nat → Nat → Int32 → Int32 → Int32 → am_S → Option (am_S)
  | 0 => fun _ _ _ _ _ _ => none
  | n + 1 => lb_X0_copyTable_5_5_3  (lp_X0_copyTable_5_5_3  n)
theorem ll_X0_copyTable_5_5_3 {p : Program} {l : Launch} {e : Env} {s : State} {m : MethodId} {args : Array Value} {below : List Frame} {meth : Method} {c : Code} {G : am_G} {q : am_S} (X : am_X p s m args c cX0_copyTable yX0_copyTable.cls 5 am_p0 G (am_fr G)) (hr : meth.sig.returnType = none ∧ meth.locks = false)    : ∀ (n : Nat) (ox0 : Nat) (ox1 : Nat) (x2 : Int32) (x3 : Int32) (x4 : Int32) (σ : am_S), lp_X0_copyTable_5_5_3  n ox0 ox1 x2 x3 x4 σ = some q → am_A p l e (am_ro 1) s m args below meth c 5 G (am_fr G) 0 0 (MQ below (am_Qc G none q) args s 0 0 (am_fr G)) (3, [(0, am_r ox0 5 0), (1, am_r ox1 5 0), (2, am_i x2), (3, am_i x3), (4, am_i x4)], [], σ) := by
  intro n
  induction n with
  | zero =>
    intro ox0 ox1 x2 x3 x4 σ h
    have h : (none : Option (am_S)) = some q := h
    cases h
  | succ n ih =>
    intro ox0 ox1 x2 x3 x4 σ h
    exact lc_X0_copyTable_5_5_3 X hr  (lp_X0_copyTable_5_5_3  n) ih ox0 ox1 x2 x3 x4 σ h
def fn_X0_copyTable_5_5 (oa0 : Nat) (oa1 : Nat) (a2 : Int32) (a3 : Int32) (σ : am_S) : Option (am_S) :=
  lp_X0_copyTable_5_5_3  1000 oa0 oa1 a2 a3 0 (σ)
set_option maxRecDepth 100000 in
theorem ok_X0_copyTable_5_5 (l : Launch) (oa0 : Nat) (oa1 : Nat) (a2 : Int32) (a3 : Int32) (σ : am_S) {q : am_S} (h : fn_X0_copyTable_5_5 oa0 oa1 a2 a3 σ = some q) : am_M l yX0_copyTable cX0_copyTable 5 none 1 [am_r oa0 5 0, am_r oa1 5 0, am_i a2, am_i a3] σ none q := by
  refine am_M_of (P := am_p0) (by decide +kernel) am_p0_ok rfl ?_
  intro G p e s m args below meth c X hr
  have hc := ct_X0_copyTable
  unfold fn_X0_copyTable_5_5 at h
  refine am_blk hc X 0 2 (fr' := (3, [(0, am_r oa0 5 0), (1, am_r oa1 5 0), (2, am_i a2), (3, am_i a3), (4, am_i 0)], [], σ)) rfl ⟨trivial, trivial, trivial⟩ ?_
  exact ll_X0_copyTable_5_5_3 X hr   1000 oa0 oa1 a2 a3 0 _ h
def lb_X0_copyTable_7_7_3 (k3 : Nat → Nat → Int32 → Int32 → Int32 → am_S → Option (am_S)) (ox0 : Nat) (ox1 : Nat) (x2 : Int32) (x3 : Int32) (x4 : Int32) (σ : am_S) : Option (am_S) :=
  (if x2 ≤ x4 then some (σ) else (bif am_in x4 6 then (bif am_in x4 6 then (bif am_cok 0 0 x3 8 8 then k3 ox0 ox1 x2 x3 (x4 + 1) (am_row σ ox1 8 ((x4 : Int32).toNatClampNeg) (va_cpy (σ.1 ox0 8 ((x4 : Int32).toNatClampNeg)) (σ.1 ox1 8 ((x4 : Int32).toNatClampNeg)) 0 0 ((x3 : Int32).toNatClampNeg))) else none) else none) else none))
set_option maxRecDepth 100000 in
theorem lc_X0_copyTable_7_7_3 {p : Program} {l : Launch} {e : Env} {s : State} {m : MethodId} {args : Array Value} {below : List Frame} {meth : Method} {c : Code} {G : am_G} {q : am_S} (X : am_X p s m args c cX0_copyTable yX0_copyTable.cls 5 am_p0 G (am_fr G)) (hr : meth.sig.returnType = none ∧ meth.locks = false)  (k3 : Nat → Nat → Int32 → Int32 → Int32 → am_S → Option (am_S)) (hk3 : ∀ (ox0 : Nat) (ox1 : Nat) (x2 : Int32) (x3 : Int32) (x4 : Int32) (σ : am_S), k3 ox0 ox1 x2 x3 x4 σ = some q → am_A p l e (am_ro 1) s m args below meth c 5 G (am_fr G) 0 0 (MQ below (am_Qc G none q) args s 0 0 (am_fr G)) (3, [(0, am_r ox0 7 0), (1, am_r ox1 7 0), (2, am_i x2), (3, am_i x3), (4, am_i x4)], [], σ)) (ox0 : Nat) (ox1 : Nat) (x2 : Int32) (x3 : Int32) (x4 : Int32) (σ : am_S) (h : lb_X0_copyTable_7_7_3 k3 ox0 ox1 x2 x3 x4 σ = some q) : am_A p l e (am_ro 1) s m args below meth c 5 G (am_fr G) 0 0 (MQ below (am_Qc G none q) args s 0 0 (am_fr G)) (3, [(0, am_r ox0 7 0), (1, am_r ox1 7 0), (2, am_i x2), (3, am_i x3), (4, am_i x4)], [], σ) := by
  have hc := ct_X0_copyTable
  unfold lb_X0_copyTable_7_7_3 at h
  refine am_blk hc X 2 2 (fr' := (6, [(0, am_r ox0 7 0), (1, am_r ox1 7 0), (2, am_i x2), (3, am_i x3), (4, am_i x4)], [am_i x2, am_i x4], σ)) rfl ⟨trivial, trivial, trivial⟩ ?_
  refine am_icmp_ge hc X 4 (tgt := 29) rfl (by decide) (fun c4 => ?_) (fun c4 => ?_)
  · replace h := am_ip c4 h
    obtain rfl := Option.some.inj h
    exact am_vret hc X hr 17 rfl rfl rfl
  · replace h := am_in2 c4 h
    obtain ⟨ob1, h⟩ := am_ci h
    obtain ⟨ob2, h⟩ := am_ci h
    refine am_blk hc X 5 9 (fr' := (20, [(0, am_r ox0 7 0), (1, am_r ox1 7 0), (2, am_i x2), (3, am_i x3), (4, am_i x4)], [am_i x3, am_i 0, am_r ox1 8 ((x4 : Int32).toNatClampNeg), am_i 0, am_r ox0 8 ((x4 : Int32).toNatClampNeg)], σ)) rfl ⟨trivial, trivial, (am_in_vp ob1), trivial, trivial, trivial, (am_in_vp ob2), trivial, trivial, trivial⟩ ?_
    obtain ⟨ob3, h⟩ := am_ci h
    refine am_cpi hc 14 X (k := 8) (k0 := 8) (rest := []) rfl ml_X0_48 am_acw (by decide +kernel) ob3 rfl ?_
    refine am_blk hc X 15 2 (fr' := (3, [(0, am_r ox0 7 0), (1, am_r ox1 7 0), (2, am_i x2), (3, am_i x3), (4, am_i (x4 + 1))], [], (am_row σ ox1 8 ((x4 : Int32).toNatClampNeg) (va_cpy (σ.1 ox0 8 ((x4 : Int32).toNatClampNeg)) (σ.1 ox1 8 ((x4 : Int32).toNatClampNeg)) 0 0 ((x3 : Int32).toNatClampNeg))))) rfl ⟨trivial, trivial, trivial⟩ ?_
    exact hk3 ox0 ox1 x2 x3 (x4 + 1) _ h
def lp_X0_copyTable_7_7_3  : Nat → Nat → Nat → Int32 → Int32 → Int32 → am_S → Option (am_S)
  | 0 => fun _ _ _ _ _ _ => none
  | n + 1 => lb_X0_copyTable_7_7_3  (lp_X0_copyTable_7_7_3  n)
theorem ll_X0_copyTable_7_7_3 {p : Program} {l : Launch} {e : Env} {s : State} {m : MethodId} {args : Array Value} {below : List Frame} {meth : Method} {c : Code} {G : am_G} {q : am_S} (X : am_X p s m args c cX0_copyTable yX0_copyTable.cls 5 am_p0 G (am_fr G)) (hr : meth.sig.returnType = none ∧ meth.locks = false)    : ∀ (n : Nat) (ox0 : Nat) (ox1 : Nat) (x2 : Int32) (x3 : Int32) (x4 : Int32) (σ : am_S), lp_X0_copyTable_7_7_3  n ox0 ox1 x2 x3 x4 σ = some q → am_A p l e (am_ro 1) s m args below meth c 5 G (am_fr G) 0 0 (MQ below (am_Qc G none q) args s 0 0 (am_fr G)) (3, [(0, am_r ox0 7 0), (1, am_r ox1 7 0), (2, am_i x2), (3, am_i x3), (4, am_i x4)], [], σ) := by
  intro n
  induction n with
  | zero =>
    intro ox0 ox1 x2 x3 x4 σ h
    have h : (none : Option (am_S)) = some q := h
    cases h
  | succ n ih =>
    intro ox0 ox1 x2 x3 x4 σ h
    exact lc_X0_copyTable_7_7_3 X hr  (lp_X0_copyTable_7_7_3  n) ih ox0 ox1 x2 x3 x4 σ h
def fn_X0_copyTable_7_7 (oa0 : Nat) (oa1 : Nat) (a2 : Int32) (a3 : Int32) (σ : am_S) : Option (am_S) :=
  lp_X0_copyTable_7_7_3  1000 oa0 oa1 a2 a3 0 (σ)
set_option maxRecDepth 100000 in
theorem ok_X0_copyTable_7_7 (l : Launch) (oa0 : Nat) (oa1 : Nat) (a2 : Int32) (a3 : Int32) (σ : am_S) {q : am_S} (h : fn_X0_copyTable_7_7 oa0 oa1 a2 a3 σ = some q) : am_M l yX0_copyTable cX0_copyTable 5 none 1 [am_r oa0 7 0, am_r oa1 7 0, am_i a2, am_i a3] σ none q := by
  refine am_M_of (P := am_p0) (by decide +kernel) am_p0_ok rfl ?_
  intro G p e s m args below meth c X hr
  have hc := ct_X0_copyTable
  unfold fn_X0_copyTable_7_7 at h
  refine am_blk hc X 0 2 (fr' := (3, [(0, am_r oa0 7 0), (1, am_r oa1 7 0), (2, am_i a2), (3, am_i a3), (4, am_i 0)], [], σ)) rfl ⟨trivial, trivial, trivial⟩ ?_
  exact ll_X0_copyTable_7_7_3 X hr   1000 oa0 oa1 a2 a3 0 _ h
def fn_X0_becomes (oa0 : Nat) (oa1 : Nat) (σ : am_S) : Option (am_S) :=
  (fn_X0_copyTable_3_3 oa1 oa0 3 7 (σ)).bind fun q1 => (fn_X0_copyTable_5_5 oa1 oa0 3 4 q1).bind fun q3 => (fn_X0_copyTable_7_7 oa1 oa0 6 8 q3).bind fun q5 => some (am_u (am_u (am_u (am_u (am_u q5 oa0 2 0 3 (q5.1 oa1 2 0 3)) oa0 2 0 4 (q5.1 oa1 2 0 4)) oa0 2 0 5 (q5.1 oa1 2 0 5)) oa0 2 0 6 (q5.1 oa1 2 0 6)) oa0 2 0 7 (q5.1 oa1 2 0 7))
set_option maxRecDepth 100000 in
theorem ok_X0_becomes (l : Launch) (oa0 : Nat) (oa1 : Nat) (σ : am_S) {q : am_S} (h : fn_X0_becomes oa0 oa1 σ = some q) : am_M l yX0_becomes cX0_becomes 2 none 2 [am_r oa0 2 0, am_r oa1 2 0] σ none q := by
  refine am_M_of (P := am_p0) (by decide +kernel) am_p0_ok rfl ?_
  intro G p e s m args below meth c X hr
  have hc := ct_X0_becomes
  unfold fn_X0_becomes at h
  refine am_blk hc X 0 6 (fr' := (11, [(0, am_r oa0 2 0), (1, am_r oa1 2 0)], [am_i 7, am_i 3, am_r oa0 3 0, am_r oa1 3 0], σ)) rfl ⟨trivial, trivial, trivial, trivial, trivial, trivial, trivial⟩ ?_
  obtain ⟨q1, hq2, h⟩ := am_bs h
  refine am_callS hc 6 X (As := [am_r oa1 3 0, am_r oa0 3 0, am_i 3, am_i 7]) (rest := []) rfl (ok_X0_copyTable_3_3 l oa1 oa0 3 7 (σ) hq2) yv_X0_copyTable ml_X0_44 rfl rfl rfl rfl rfl ?_
  refine am_blk hc X 7 6 (fr' := (24, [(0, am_r oa0 2 0), (1, am_r oa1 2 0)], [am_i 4, am_i 3, am_r oa0 5 0, am_r oa1 5 0], q1)) rfl ⟨trivial, trivial, trivial, trivial, trivial, trivial, trivial⟩ ?_
  obtain ⟨q3, hq4, h⟩ := am_bs h
  refine am_callS hc 13 X (As := [am_r oa1 5 0, am_r oa0 5 0, am_i 3, am_i 4]) (rest := []) rfl (ok_X0_copyTable_5_5 l oa1 oa0 3 4 q1 hq4) yv_X0_copyTable ml_X0_44 rfl rfl rfl rfl rfl ?_
  refine am_blk hc X 14 6 (fr' := (39, [(0, am_r oa0 2 0), (1, am_r oa1 2 0)], [am_i 8, am_i 6, am_r oa0 7 0, am_r oa1 7 0], q3)) rfl ⟨trivial, trivial, trivial, trivial, trivial, trivial, trivial⟩ ?_
  obtain ⟨q5, hq6, h⟩ := am_bs h
  refine am_callS hc 20 X (As := [am_r oa1 7 0, am_r oa0 7 0, am_i 6, am_i 8]) (rest := []) rfl (ok_X0_copyTable_7_7 l oa1 oa0 6 8 q3 hq6) yv_X0_copyTable ml_X0_44 rfl rfl rfl rfl rfl ?_
  refine am_blk hc X 21 20 (fr' := (82, [(0, am_r oa0 2 0), (1, am_r oa1 2 0)], [], (am_u (am_u (am_u (am_u (am_u q5 oa0 2 0 3 (q5.1 oa1 2 0 3)) oa0 2 0 4 (q5.1 oa1 2 0 4)) oa0 2 0 5 (q5.1 oa1 2 0 5)) oa0 2 0 6 (q5.1 oa1 2 0 6)) oa0 2 0 7 (q5.1 oa1 2 0 7)))) rfl ⟨trivial, trivial, trivial, trivial, trivial, trivial, trivial, trivial, trivial, trivial, trivial, trivial, trivial, trivial, trivial, trivial, trivial, trivial, trivial, trivial, trivial⟩ ?_
  obtain rfl := Option.some.inj h
  exact am_vret hc X hr 41 rfl rfl rfl
def fn_X0_hasPass (oa0 : Nat) (a1 : Int32) (σ : am_S) : Option (Int32 × am_S) :=
  (if a1 < 0 then some (0, σ) else (if (σ.1 oa0 2 0 3) ≤ a1 then some (0, σ) else (if 3 ≤ a1 then some (0, σ) else some (1, σ))))
set_option maxRecDepth 100000 in
theorem ok_X0_hasPass (l : Launch) (oa0 : Nat) (a1 : Int32) (σ : am_S) {q : Int32 × am_S} (h : fn_X0_hasPass oa0 a1 σ = some q) : am_M l yX0_hasPass cX0_hasPass 2 (some .boolean) 0 [am_r oa0 2 0, am_i a1] σ (some (am_i q.1)) q.2 := by
  refine am_M_of (P := am_p0) (by decide +kernel) am_p0_ok rfl ?_
  intro G p e s m args below meth c X hr
  have hc := ct_X0_hasPass
  unfold fn_X0_hasPass at h
  refine am_blk hc X 0 1 (fr' := (1, [(0, am_r oa0 2 0), (1, am_i a1)], [am_i a1], σ)) rfl ⟨trivial, trivial⟩ ?_
  refine am_if_lt hc X 1 (tgt := 21) rfl (by decide) (fun c3 => ?_) (fun c3 => ?_)
  · replace h := am_ip c3 h
    refine am_blk hc X 11 1 (fr' := (22, [(0, am_r oa0 2 0), (1, am_i a1)], [am_i 0], σ)) rfl ⟨trivial, trivial⟩ ?_
    obtain rfl := Option.some.inj h
    exact am_zret hc X hr 12 rfl (by decide) rfl rfl
  · replace h := am_in2 c3 h
    refine am_blk hc X 2 3 (fr' := (9, [(0, am_r oa0 2 0), (1, am_i a1)], [am_i (σ.1 oa0 2 0 3), am_i a1], σ)) rfl ⟨trivial, trivial, trivial, trivial⟩ ?_
    refine am_icmp_ge hc X 5 (tgt := 21) rfl (by decide) (fun c2 => ?_) (fun c2 => ?_)
    · replace h := am_ip c2 h
      refine am_blk hc X 11 1 (fr' := (22, [(0, am_r oa0 2 0), (1, am_i a1)], [am_i 0], σ)) rfl ⟨trivial, trivial⟩ ?_
      obtain rfl := Option.some.inj h
      exact am_zret hc X hr 12 rfl (by decide) rfl rfl
    · replace h := am_in2 c2 h
      refine am_blk hc X 6 2 (fr' := (14, [(0, am_r oa0 2 0), (1, am_i a1)], [am_i 3, am_i a1], σ)) rfl ⟨trivial, trivial, trivial⟩ ?_
      refine am_icmp_ge hc X 8 (tgt := 21) rfl (by decide) (fun c1 => ?_) (fun c1 => ?_)
      · replace h := am_ip c1 h
        refine am_blk hc X 11 1 (fr' := (22, [(0, am_r oa0 2 0), (1, am_i a1)], [am_i 0], σ)) rfl ⟨trivial, trivial⟩ ?_
        obtain rfl := Option.some.inj h
        exact am_zret hc X hr 12 rfl (by decide) rfl rfl
      · replace h := am_in2 c1 h
        refine am_blk hc X 9 2 (fr' := (22, [(0, am_r oa0 2 0), (1, am_i a1)], [am_i 1], σ)) rfl ⟨trivial, trivial, trivial⟩ ?_
        obtain rfl := Option.some.inj h
        exact am_zret hc X hr 12 rfl (by decide) rfl rfl
def fn_X0_hoursOf (oa0 : Nat) (a1 : Int32) (a2 : Int32) (σ : am_S) : Option (Int32 × am_S) :=
  (fn_X7_isValley a1 (σ)).bind fun q1 => (if q1.1 = 0 then some (0, q1.2) else (if a2 = 0 then (bif am_in a1 7 then some ((q1.2.1 oa0 4 1 ((a1 : Int32).toNatClampNeg)), q1.2) else none) else (if a2 = 1 then (fn_X0_valleyAhead a1 q1.2).bind fun q7 => (bif am_in q7.1 7 then some ((q7.2.1 oa0 4 1 ((q7.1 : Int32).toNatClampNeg)), q7.2) else none) else (fn_X0_passFrom oa0 a1 a2 q1.2).bind fun q3 => (if q3.1 = (-1) then some (0, q3.2) else (bif am_in q3.1 3 then some ((q3.2.1 oa0 6 ((q3.1 : Int32).toNatClampNeg) 3), q3.2) else none)))))
set_option maxRecDepth 100000 in
theorem ok_X0_hoursOf (l : Launch) (oa0 : Nat) (a1 : Int32) (a2 : Int32) (σ : am_S) {q : Int32 × am_S} (h : fn_X0_hoursOf oa0 a1 a2 σ = some q) : am_M l yX0_hoursOf cX0_hoursOf 4 (some .int) 1 [am_r oa0 2 0, am_i a1, am_i a2] σ (some (am_i q.1)) q.2 := by
  refine am_M_of (P := am_p0) (by decide +kernel) am_p0_ok rfl ?_
  intro G p e s m args below meth c X hr
  have hc := ct_X0_hoursOf
  unfold fn_X0_hoursOf at h
  refine am_blk hc X 0 1 (fr' := (1, [(0, am_r oa0 2 0), (1, am_i a1), (2, am_i a2)], [am_i a1], σ)) rfl ⟨trivial, trivial⟩ ?_
  obtain ⟨q1, hq2, h⟩ := am_bs h
  refine am_callN hc 1 X (As := [am_i a1]) (rest := []) rfl (ok_X7_isValley l a1 (σ) hq2) yv_X7_isValley mn_X0_54 rfl rfl rfl rfl rfl ?_
  refine am_if_ne hc X 2 (tgt := 9) rfl (by decide) (fun c13 => ?_) (fun c13 => ?_)
  · replace h := am_in2 c13 h
    refine am_blk hc X 5 1 (fr' := (10, [(0, am_r oa0 2 0), (1, am_i a1), (2, am_i a2)], [am_i a2], q1.2)) rfl ⟨trivial, trivial⟩ ?_
    refine am_if_ne hc X 6 (tgt := 22) rfl (by decide) (fun c12 => ?_) (fun c12 => ?_)
    · replace h := am_in2 c12 h
      refine am_blk hc X 14 2 (fr' := (24, [(0, am_r oa0 2 0), (1, am_i a1), (2, am_i a2)], [am_i 1, am_i a2], q1.2)) rfl ⟨trivial, trivial, trivial⟩ ?_
      refine am_icmp_ne hc X 16 (tgt := 39) rfl (by decide) (fun c10 => ?_) (fun c10 => ?_)
      · replace h := am_in2 c10 h
        refine am_blk hc X 25 3 (fr' := (42, [(0, am_r oa0 2 0), (1, am_i a1), (2, am_i a2)], [am_i a2, am_i a1, am_r oa0 2 0], q1.2)) rfl ⟨trivial, trivial, trivial, trivial⟩ ?_
        obtain ⟨q3, hq4, h⟩ := am_bs h
        refine am_callV hc 28 X (k := 2) (i := 0) (o := oa0) (As := [am_i a1, am_i a2]) (rest := []) rfl (ok_X0_passFrom l oa0 a1 a2 q1.2 hq4) yv_X0_passFrom ml_X0_62 (cl_2) rfl rfl rfl rfl rfl ?_
        refine am_blk hc X 29 3 (fr' := (48, [(0, am_r oa0 2 0), (1, am_i a1), (2, am_i a2), (3, am_i q3.1)], [am_i (-1), am_i q3.1], q3.2)) rfl ⟨trivial, trivial, trivial, trivial⟩ ?_
        refine am_icmp_ne hc X 32 (tgt := 55) rfl (by decide) (fun c6 => ?_) (fun c6 => ?_)
        · replace h := am_in2 c6 h
          obtain ⟨ob5, h⟩ := am_ci h
          refine am_blk hc X 35 6 (fr' := (63, [(0, am_r oa0 2 0), (1, am_i a1), (2, am_i a2), (3, am_i q3.1)], [am_i (q3.2.1 oa0 6 ((q3.1 : Int32).toNatClampNeg) 3)], q3.2)) rfl ⟨trivial, trivial, trivial, (am_in_vp ob5), trivial, (am_in_vp (by decide)), trivial⟩ ?_
          obtain rfl := Option.some.inj h
          exact am_iret hc X hr 41 rfl rfl rfl
        · replace h := am_ip c6 h
          refine am_blk hc X 33 2 (fr' := (63, [(0, am_r oa0 2 0), (1, am_i a1), (2, am_i a2), (3, am_i q3.1)], [am_i 0], q3.2)) rfl ⟨trivial, trivial, trivial⟩ ?_
          obtain rfl := Option.some.inj h
          exact am_iret hc X hr 41 rfl rfl rfl
      · replace h := am_ip c10 h
        refine am_blk hc X 17 5 (fr' := (34, [(0, am_r oa0 2 0), (1, am_i a1), (2, am_i a2)], [am_i a1, am_r oa0 4 1], q1.2)) rfl ⟨trivial, trivial, trivial, (am_in_vp (by decide)), trivial, trivial⟩ ?_
        obtain ⟨q7, hq8, h⟩ := am_bs h
        refine am_callS hc 22 X (As := [am_i a1]) (rest := [am_r oa0 4 1]) rfl (ok_X0_valleyAhead l a1 q1.2 hq8) yv_X0_valleyAhead ml_X0_58 rfl rfl rfl rfl rfl ?_
        obtain ⟨ob9, h⟩ := am_ci h
        refine am_blk hc X 23 1 (fr' := (38, [(0, am_r oa0 2 0), (1, am_i a1), (2, am_i a2)], [am_i (q7.2.1 oa0 4 1 ((q7.1 : Int32).toNatClampNeg))], q7.2)) rfl ⟨(am_in_vp ob9), trivial⟩ ?_
        obtain rfl := Option.some.inj h
        exact am_iret hc X hr 24 rfl rfl rfl
    · replace h := am_ip c12 h
      obtain ⟨ob11, h⟩ := am_ci h
      refine am_blk hc X 7 6 (fr' := (21, [(0, am_r oa0 2 0), (1, am_i a1), (2, am_i a2)], [am_i (q1.2.1 oa0 4 1 ((a1 : Int32).toNatClampNeg))], q1.2)) rfl ⟨trivial, trivial, trivial, (am_in_vp (by decide)), trivial, (am_in_vp ob11), trivial⟩ ?_
      obtain rfl := Option.some.inj h
      exact am_iret hc X hr 13 rfl rfl rfl
  · replace h := am_ip c13 h
    refine am_blk hc X 3 1 (fr' := (8, [(0, am_r oa0 2 0), (1, am_i a1), (2, am_i a2)], [am_i 0], q1.2)) rfl ⟨trivial, trivial⟩ ?_
    obtain rfl := Option.some.inj h
    exact am_iret hc X hr 4 rfl rfl rfl
def fn_X0_drawAct_8 (oa0 : Nat) (oa1 : Nat) (ia1 : Nat) (σ : am_S) : Option (Int32 × am_S) :=
  (if 5 ≤ ((((((am_u σ oa0 2 0 6 (((σ.1 oa0 2 0 6) * (1103515245 : Int32)) + (12345 : Int32))).1 oa0 2 0 6) : Int32).toUInt32 >>> ((16 : Int32).toUInt32 &&& Int32.toUInt32 31)).toInt32) - (((((am_u σ oa0 2 0 6 (((σ.1 oa0 2 0 6) * (1103515245 : Int32)) + (12345 : Int32))).1 oa0 2 0 6) : Int32).toUInt32 >>> ((16 : Int32).toUInt32 &&& Int32.toUInt32 31)).toInt32) / (6 : Int32) * (6 : Int32)) then (if (σ.1 oa1 8 ia1 3) = 6 then some (9, (am_u σ oa0 2 0 6 (((σ.1 oa0 2 0 6) * (1103515245 : Int32)) + (12345 : Int32)))) else some (8, (am_u σ oa0 2 0 6 (((σ.1 oa0 2 0 6) * (1103515245 : Int32)) + (12345 : Int32))))) else some (((((((am_u σ oa0 2 0 6 (((σ.1 oa0 2 0 6) * (1103515245 : Int32)) + (12345 : Int32))).1 oa0 2 0 6) : Int32).toUInt32 >>> ((16 : Int32).toUInt32 &&& Int32.toUInt32 31)).toInt32) - (((((am_u σ oa0 2 0 6 (((σ.1 oa0 2 0 6) * (1103515245 : Int32)) + (12345 : Int32))).1 oa0 2 0 6) : Int32).toUInt32 >>> ((16 : Int32).toUInt32 &&& Int32.toUInt32 31)).toInt32) / (6 : Int32) * (6 : Int32)), (am_u σ oa0 2 0 6 (((σ.1 oa0 2 0 6) * (1103515245 : Int32)) + (12345 : Int32)))))
set_option maxRecDepth 100000 in
theorem ok_X0_drawAct_8 (l : Launch) (oa0 : Nat) (oa1 : Nat) (ia1 : Nat) (σ : am_S) {q : Int32 × am_S} (h : fn_X0_drawAct_8 oa0 oa1 ia1 σ = some q) : am_M l yX0_drawAct cX0_drawAct 3 (some .int) 0 [am_r oa0 2 0, am_r oa1 8 ia1] σ (some (am_i q.1)) q.2 := by
  refine am_M_of (P := am_p0) (by decide +kernel) am_p0_ok rfl ?_
  intro G p e s m args below meth c X hr
  have hc := ct_X0_drawAct
  unfold fn_X0_drawAct_8 at h
  refine am_blk hc X 0 17 (fr' := (28, [(0, am_r oa0 2 0), (1, am_r oa1 8 ia1), (2, am_i ((((((am_u σ oa0 2 0 6 (((σ.1 oa0 2 0 6) * (1103515245 : Int32)) + (12345 : Int32))).1 oa0 2 0 6) : Int32).toUInt32 >>> ((16 : Int32).toUInt32 &&& Int32.toUInt32 31)).toInt32) - (((((am_u σ oa0 2 0 6 (((σ.1 oa0 2 0 6) * (1103515245 : Int32)) + (12345 : Int32))).1 oa0 2 0 6) : Int32).toUInt32 >>> ((16 : Int32).toUInt32 &&& Int32.toUInt32 31)).toInt32) / (6 : Int32) * (6 : Int32)))], [am_i 5, am_i ((((((am_u σ oa0 2 0 6 (((σ.1 oa0 2 0 6) * (1103515245 : Int32)) + (12345 : Int32))).1 oa0 2 0 6) : Int32).toUInt32 >>> ((16 : Int32).toUInt32 &&& Int32.toUInt32 31)).toInt32) - (((((am_u σ oa0 2 0 6 (((σ.1 oa0 2 0 6) * (1103515245 : Int32)) + (12345 : Int32))).1 oa0 2 0 6) : Int32).toUInt32 >>> ((16 : Int32).toUInt32 &&& Int32.toUInt32 31)).toInt32) / (6 : Int32) * (6 : Int32))], (am_u σ oa0 2 0 6 (((σ.1 oa0 2 0 6) * (1103515245 : Int32)) + (12345 : Int32))))) rfl ⟨trivial, trivial, trivial, trivial, trivial, trivial, trivial, trivial, trivial, trivial, trivial, trivial, trivial, (by decide), trivial, trivial, trivial, trivial⟩ ?_
  refine am_icmp_ge hc X 17 (tgt := 33) rfl (by decide) (fun c2 => ?_) (fun c2 => ?_)
  · replace h := am_ip c2 h
    refine am_blk hc X 20 4 (fr' := (38, [(0, am_r oa0 2 0), (1, am_r oa1 8 ia1), (2, am_i ((((((am_u σ oa0 2 0 6 (((σ.1 oa0 2 0 6) * (1103515245 : Int32)) + (12345 : Int32))).1 oa0 2 0 6) : Int32).toUInt32 >>> ((16 : Int32).toUInt32 &&& Int32.toUInt32 31)).toInt32) - (((((am_u σ oa0 2 0 6 (((σ.1 oa0 2 0 6) * (1103515245 : Int32)) + (12345 : Int32))).1 oa0 2 0 6) : Int32).toUInt32 >>> ((16 : Int32).toUInt32 &&& Int32.toUInt32 31)).toInt32) / (6 : Int32) * (6 : Int32)))], [am_i 6, am_i (σ.1 oa1 8 ia1 3)], (am_u σ oa0 2 0 6 (((σ.1 oa0 2 0 6) * (1103515245 : Int32)) + (12345 : Int32))))) rfl ⟨trivial, trivial, (am_in_vp (by decide)), trivial, trivial⟩ ?_
    refine am_icmp_ne hc X 24 (tgt := 46) rfl (by decide) (fun c1 => ?_) (fun c1 => ?_)
    · replace h := am_in2 c1 h
      refine am_blk hc X 27 1 (fr' := (48, [(0, am_r oa0 2 0), (1, am_r oa1 8 ia1), (2, am_i ((((((am_u σ oa0 2 0 6 (((σ.1 oa0 2 0 6) * (1103515245 : Int32)) + (12345 : Int32))).1 oa0 2 0 6) : Int32).toUInt32 >>> ((16 : Int32).toUInt32 &&& Int32.toUInt32 31)).toInt32) - (((((am_u σ oa0 2 0 6 (((σ.1 oa0 2 0 6) * (1103515245 : Int32)) + (12345 : Int32))).1 oa0 2 0 6) : Int32).toUInt32 >>> ((16 : Int32).toUInt32 &&& Int32.toUInt32 31)).toInt32) / (6 : Int32) * (6 : Int32)))], [am_i 8], (am_u σ oa0 2 0 6 (((σ.1 oa0 2 0 6) * (1103515245 : Int32)) + (12345 : Int32))))) rfl ⟨trivial, trivial⟩ ?_
      obtain rfl := Option.some.inj h
      exact am_iret hc X hr 28 rfl rfl rfl
    · replace h := am_ip c1 h
      refine am_blk hc X 25 2 (fr' := (48, [(0, am_r oa0 2 0), (1, am_r oa1 8 ia1), (2, am_i ((((((am_u σ oa0 2 0 6 (((σ.1 oa0 2 0 6) * (1103515245 : Int32)) + (12345 : Int32))).1 oa0 2 0 6) : Int32).toUInt32 >>> ((16 : Int32).toUInt32 &&& Int32.toUInt32 31)).toInt32) - (((((am_u σ oa0 2 0 6 (((σ.1 oa0 2 0 6) * (1103515245 : Int32)) + (12345 : Int32))).1 oa0 2 0 6) : Int32).toUInt32 >>> ((16 : Int32).toUInt32 &&& Int32.toUInt32 31)).toInt32) / (6 : Int32) * (6 : Int32)))], [am_i 9], (am_u σ oa0 2 0 6 (((σ.1 oa0 2 0 6) * (1103515245 : Int32)) + (12345 : Int32))))) rfl ⟨trivial, trivial, trivial⟩ ?_
      obtain rfl := Option.some.inj h
      exact am_iret hc X hr 28 rfl rfl rfl
  · replace h := am_in2 c2 h
    refine am_blk hc X 18 1 (fr' := (32, [(0, am_r oa0 2 0), (1, am_r oa1 8 ia1), (2, am_i ((((((am_u σ oa0 2 0 6 (((σ.1 oa0 2 0 6) * (1103515245 : Int32)) + (12345 : Int32))).1 oa0 2 0 6) : Int32).toUInt32 >>> ((16 : Int32).toUInt32 &&& Int32.toUInt32 31)).toInt32) - (((((am_u σ oa0 2 0 6 (((σ.1 oa0 2 0 6) * (1103515245 : Int32)) + (12345 : Int32))).1 oa0 2 0 6) : Int32).toUInt32 >>> ((16 : Int32).toUInt32 &&& Int32.toUInt32 31)).toInt32) / (6 : Int32) * (6 : Int32)))], [am_i ((((((am_u σ oa0 2 0 6 (((σ.1 oa0 2 0 6) * (1103515245 : Int32)) + (12345 : Int32))).1 oa0 2 0 6) : Int32).toUInt32 >>> ((16 : Int32).toUInt32 &&& Int32.toUInt32 31)).toInt32) - (((((am_u σ oa0 2 0 6 (((σ.1 oa0 2 0 6) * (1103515245 : Int32)) + (12345 : Int32))).1 oa0 2 0 6) : Int32).toUInt32 >>> ((16 : Int32).toUInt32 &&& Int32.toUInt32 31)).toInt32) / (6 : Int32) * (6 : Int32))], (am_u σ oa0 2 0 6 (((σ.1 oa0 2 0 6) * (1103515245 : Int32)) + (12345 : Int32))))) rfl ⟨trivial, trivial⟩ ?_
    obtain rfl := Option.some.inj h
    exact am_iret hc X hr 19 rfl rfl rfl
def jn_X0_passWeeks_44 (k4 : Nat → Int32 → Int32 → Int32 → am_S → Option (Int32 × am_S)) (k12 : Nat → Int32 → Int32 → Int32 → Int32 → am_S → Option (Int32 × am_S)) (ox0 : Nat) (x1 : Int32) (x2 : Int32) (x3 : Int32) (x4 : Int32) (σ : am_S) : Option (Int32 × am_S) :=
  k12 ox0 x1 x2 x3 (x4 + 1) (σ)
set_option maxRecDepth 100000 in
theorem jl_X0_passWeeks_44 {p : Program} {l : Launch} {e : Env} {s : State} {m : MethodId} {args : Array Value} {below : List Frame} {meth : Method} {c : Code} {G : am_G} {q : Int32 × am_S} (X : am_X p s m args c cX0_passWeeks yX0_passWeeks.cls 5 am_p0 G (am_fr G)) (hr : meth.sig.returnType = (some .int) ∧ meth.locks = false)  (k4 : Nat → Int32 → Int32 → Int32 → am_S → Option (Int32 × am_S)) (k12 : Nat → Int32 → Int32 → Int32 → Int32 → am_S → Option (Int32 × am_S)) (hk4 : ∀ (ox0 : Nat) (x1 : Int32) (x2 : Int32) (x3 : Int32) (σ : am_S), k4 ox0 x1 x2 x3 σ = some q → am_A p l e (am_ro 6) s m args below meth c 5 G (am_fr G) 0 0 (MQ below (am_Qc G (some (am_i q.1)) q.2) args s 0 0 (am_fr G)) (4, [(0, am_r ox0 2 0), (1, am_i x1), (2, am_i x2), (3, am_i x3)], [], σ)) (hk12 : ∀ (ox0 : Nat) (x1 : Int32) (x2 : Int32) (x3 : Int32) (x4 : Int32) (σ : am_S), k12 ox0 x1 x2 x3 x4 σ = some q → am_A p l e (am_ro 6) s m args below meth c 5 G (am_fr G) 0 0 (MQ below (am_Qc G (some (am_i q.1)) q.2) args s 0 0 (am_fr G)) (12, [(0, am_r ox0 2 0), (1, am_i x1), (2, am_i x2), (3, am_i x3), (4, am_i x4)], [], σ)) (ox0 : Nat) (x1 : Int32) (x2 : Int32) (x3 : Int32) (x4 : Int32) (σ : am_S) (h : jn_X0_passWeeks_44 k4 k12 ox0 x1 x2 x3 x4 σ = some q) : am_A p l e (am_ro 6) s m args below meth c 5 G (am_fr G) 0 0 (MQ below (am_Qc G (some (am_i q.1)) q.2) args s 0 0 (am_fr G)) (44, [(0, am_r ox0 2 0), (1, am_i x1), (2, am_i x2), (3, am_i x3), (4, am_i x4)], [], σ) := by
  have hc := ct_X0_passWeeks
  unfold jn_X0_passWeeks_44 at h
  refine am_blk hc X 24 2 (fr' := (12, [(0, am_r ox0 2 0), (1, am_i x1), (2, am_i x2), (3, am_i x3), (4, am_i (x4 + 1))], [], σ)) rfl ⟨trivial, trivial, trivial⟩ ?_
  exact hk12 ox0 x1 x2 x3 (x4 + 1) _ h
def lb_X0_passWeeks_12 (k4 : Nat → Int32 → Int32 → Int32 → am_S → Option (Int32 × am_S)) (k12 : Nat → Int32 → Int32 → Int32 → Int32 → am_S → Option (Int32 × am_S)) (ox0 : Nat) (x1 : Int32) (x2 : Int32) (x3 : Int32) (x4 : Int32) (σ : am_S) : Option (Int32 × am_S) :=
  (if (σ.1 ox0 2 0 4) ≤ x4 then k4 ox0 x1 x2 (x3 + 1) (σ) else (bif am_in x4 6 then (fn_X0_drawAct_8 ox0 ox0 ((x4 : Int32).toNatClampNeg) (σ)).bind fun q2 => (fn_X0_actInTruth ox0 x4 q2.1 q2.2).bind fun q4 => (if q4.1 = 0 then jn_X0_passWeeks_44 k4 k12 ox0 x1 x2 x3 x4 q4.2 else jn_X0_passWeeks_44 k4 k12 ox0 x1 (x2 + 1) x3 x4 q4.2) else none))
set_option maxRecDepth 100000 in
theorem lc_X0_passWeeks_12 {p : Program} {l : Launch} {e : Env} {s : State} {m : MethodId} {args : Array Value} {below : List Frame} {meth : Method} {c : Code} {G : am_G} {q : Int32 × am_S} (X : am_X p s m args c cX0_passWeeks yX0_passWeeks.cls 5 am_p0 G (am_fr G)) (hr : meth.sig.returnType = (some .int) ∧ meth.locks = false)  (k4 : Nat → Int32 → Int32 → Int32 → am_S → Option (Int32 × am_S)) (k12 : Nat → Int32 → Int32 → Int32 → Int32 → am_S → Option (Int32 × am_S)) (hk4 : ∀ (ox0 : Nat) (x1 : Int32) (x2 : Int32) (x3 : Int32) (σ : am_S), k4 ox0 x1 x2 x3 σ = some q → am_A p l e (am_ro 6) s m args below meth c 5 G (am_fr G) 0 0 (MQ below (am_Qc G (some (am_i q.1)) q.2) args s 0 0 (am_fr G)) (4, [(0, am_r ox0 2 0), (1, am_i x1), (2, am_i x2), (3, am_i x3)], [], σ)) (hk12 : ∀ (ox0 : Nat) (x1 : Int32) (x2 : Int32) (x3 : Int32) (x4 : Int32) (σ : am_S), k12 ox0 x1 x2 x3 x4 σ = some q → am_A p l e (am_ro 6) s m args below meth c 5 G (am_fr G) 0 0 (MQ below (am_Qc G (some (am_i q.1)) q.2) args s 0 0 (am_fr G)) (12, [(0, am_r ox0 2 0), (1, am_i x1), (2, am_i x2), (3, am_i x3), (4, am_i x4)], [], σ)) (ox0 : Nat) (x1 : Int32) (x2 : Int32) (x3 : Int32) (x4 : Int32) (σ : am_S) (h : lb_X0_passWeeks_12 k4 k12 ox0 x1 x2 x3 x4 σ = some q) : am_A p l e (am_ro 6) s m args below meth c 5 G (am_fr G) 0 0 (MQ below (am_Qc G (some (am_i q.1)) q.2) args s 0 0 (am_fr G)) (12, [(0, am_r ox0 2 0), (1, am_i x1), (2, am_i x2), (3, am_i x3), (4, am_i x4)], [], σ) := by
  have hc := ct_X0_passWeeks
  unfold lb_X0_passWeeks_12 at h
  refine am_blk hc X 9 3 (fr' := (18, [(0, am_r ox0 2 0), (1, am_i x1), (2, am_i x2), (3, am_i x3), (4, am_i x4)], [am_i (σ.1 ox0 2 0 4), am_i x4], σ)) rfl ⟨trivial, trivial, trivial, trivial⟩ ?_
  refine am_icmp_ge hc X 12 (tgt := 50) rfl (by decide) (fun c7 => ?_) (fun c7 => ?_)
  · replace h := am_ip c7 h
    refine am_blk hc X 26 2 (fr' := (4, [(0, am_r ox0 2 0), (1, am_i x1), (2, am_i x2), (3, am_i (x3 + 1)), (4, am_i x4)], [], σ)) rfl ⟨trivial, trivial, trivial⟩ ?_
    refine am_less [0, 1, 2, 3] rfl ?_
    exact hk4 ox0 x1 x2 (x3 + 1) _ h
  · replace h := am_in2 c7 h
    obtain ⟨ob1, h⟩ := am_ci h
    refine am_blk hc X 13 7 (fr' := (32, [(0, am_r ox0 2 0), (1, am_i x1), (2, am_i x2), (3, am_i x3), (4, am_i x4)], [am_r ox0 8 ((x4 : Int32).toNatClampNeg), am_r ox0 2 0, am_i x4, am_r ox0 2 0], σ)) rfl ⟨trivial, trivial, trivial, trivial, trivial, trivial, (am_in_vp ob1), trivial⟩ ?_
    obtain ⟨q2, hq3, h⟩ := am_bs h
    refine am_callV hc 20 X (k := 2) (i := 0) (o := ox0) (As := [am_r ox0 8 ((x4 : Int32).toNatClampNeg)]) (rest := [am_i x4, am_r ox0 2 0]) rfl (ok_X0_drawAct_8 l ox0 ox0 ((x4 : Int32).toNatClampNeg) (σ) hq3) yv_X0_drawAct ml_X0_108 (cl_2) rfl rfl rfl rfl rfl ?_
    obtain ⟨q4, hq5, h⟩ := am_bs h
    refine am_callV hc 21 X (k := 2) (i := 0) (o := ox0) (As := [am_i x4, am_i q2.1]) (rest := []) rfl (ok_X0_actInTruth l ox0 x4 q2.1 q2.2 hq5) yv_X0_actInTruth ml_X0_112 (cl_2) rfl rfl rfl rfl rfl ?_
    refine am_if_eq hc X 22 (tgt := 44) rfl (by decide) (fun c6 => ?_) (fun c6 => ?_)
    · replace h := am_ip c6 h
      exact jl_X0_passWeeks_44 X hr k4 k12 hk4 hk12 ox0 x1 x2 x3 x4 _ h
    · replace h := am_in2 c6 h
      refine am_blk hc X 23 1 (fr' := (44, [(0, am_r ox0 2 0), (1, am_i x1), (2, am_i (x2 + 1)), (3, am_i x3), (4, am_i x4)], [], q4.2)) rfl ⟨trivial, trivial⟩ ?_
      exact jl_X0_passWeeks_44 X hr k4 k12 hk4 hk12 ox0 x1 (x2 + 1) x3 x4 _ h
def lp_X0_passWeeks_12 (k4 : Nat → Int32 → Int32 → Int32 → am_S → Option (Int32 × am_S)) : Nat → Nat → Int32 → Int32 → Int32 → Int32 → am_S → Option (Int32 × am_S)
  | 0 => fun _ _ _ _ _ _ => none
  | n + 1 => lb_X0_passWeeks_12 k4 (lp_X0_passWeeks_12 k4 n)
theorem ll_X0_passWeeks_12 {p : Program} {l : Launch} {e : Env} {s : State} {m : MethodId} {args : Array Value} {below : List Frame} {meth : Method} {c : Code} {G : am_G} {q : Int32 × am_S} (X : am_X p s m args c cX0_passWeeks yX0_passWeeks.cls 5 am_p0 G (am_fr G)) (hr : meth.sig.returnType = (some .int) ∧ meth.locks = false)  (k4 : Nat → Int32 → Int32 → Int32 → am_S → Option (Int32 × am_S)) (hk4 : ∀ (ox0 : Nat) (x1 : Int32) (x2 : Int32) (x3 : Int32) (σ : am_S), k4 ox0 x1 x2 x3 σ = some q → am_A p l e (am_ro 6) s m args below meth c 5 G (am_fr G) 0 0 (MQ below (am_Qc G (some (am_i q.1)) q.2) args s 0 0 (am_fr G)) (4, [(0, am_r ox0 2 0), (1, am_i x1), (2, am_i x2), (3, am_i x3)], [], σ)) : ∀ (n : Nat) (ox0 : Nat) (x1 : Int32) (x2 : Int32) (x3 : Int32) (x4 : Int32) (σ : am_S), lp_X0_passWeeks_12 k4 n ox0 x1 x2 x3 x4 σ = some q → am_A p l e (am_ro 6) s m args below meth c 5 G (am_fr G) 0 0 (MQ below (am_Qc G (some (am_i q.1)) q.2) args s 0 0 (am_fr G)) (12, [(0, am_r ox0 2 0), (1, am_i x1), (2, am_i x2), (3, am_i x3), (4, am_i x4)], [], σ) := by
  intro n
  induction n with
  | zero =>
    intro ox0 x1 x2 x3 x4 σ h
    have h : (none : Option (Int32 × am_S)) = some q := h
    cases h
  | succ n ih =>
    intro ox0 x1 x2 x3 x4 σ h
    exact lc_X0_passWeeks_12 X hr k4 (lp_X0_passWeeks_12 k4 n) hk4 ih ox0 x1 x2 x3 x4 σ h
def lb_X0_passWeeks_4 (k4 : Nat → Int32 → Int32 → Int32 → am_S → Option (Int32 × am_S)) (ox0 : Nat) (x1 : Int32) (x2 : Int32) (x3 : Int32) (σ : am_S) : Option (Int32 × am_S) :=
  (if x1 ≤ x3 then some (x2, σ) else lp_X0_passWeeks_12 k4 1000 ox0 x1 x2 x3 0 (σ))
set_option maxRecDepth 100000 in
theorem lc_X0_passWeeks_4 {p : Program} {l : Launch} {e : Env} {s : State} {m : MethodId} {args : Array Value} {below : List Frame} {meth : Method} {c : Code} {G : am_G} {q : Int32 × am_S} (X : am_X p s m args c cX0_passWeeks yX0_passWeeks.cls 5 am_p0 G (am_fr G)) (hr : meth.sig.returnType = (some .int) ∧ meth.locks = false)  (k4 : Nat → Int32 → Int32 → Int32 → am_S → Option (Int32 × am_S)) (hk4 : ∀ (ox0 : Nat) (x1 : Int32) (x2 : Int32) (x3 : Int32) (σ : am_S), k4 ox0 x1 x2 x3 σ = some q → am_A p l e (am_ro 6) s m args below meth c 5 G (am_fr G) 0 0 (MQ below (am_Qc G (some (am_i q.1)) q.2) args s 0 0 (am_fr G)) (4, [(0, am_r ox0 2 0), (1, am_i x1), (2, am_i x2), (3, am_i x3)], [], σ)) (ox0 : Nat) (x1 : Int32) (x2 : Int32) (x3 : Int32) (σ : am_S) (h : lb_X0_passWeeks_4 k4 ox0 x1 x2 x3 σ = some q) : am_A p l e (am_ro 6) s m args below meth c 5 G (am_fr G) 0 0 (MQ below (am_Qc G (some (am_i q.1)) q.2) args s 0 0 (am_fr G)) (4, [(0, am_r ox0 2 0), (1, am_i x1), (2, am_i x2), (3, am_i x3)], [], σ) := by
  have hc := ct_X0_passWeeks
  unfold lb_X0_passWeeks_4 at h
  refine am_blk hc X 4 2 (fr' := (6, [(0, am_r ox0 2 0), (1, am_i x1), (2, am_i x2), (3, am_i x3)], [am_i x1, am_i x3], σ)) rfl ⟨trivial, trivial, trivial⟩ ?_
  refine am_icmp_ge hc X 6 (tgt := 56) rfl (by decide) (fun c8 => ?_) (fun c8 => ?_)
  · replace h := am_ip c8 h
    refine am_blk hc X 28 1 (fr' := (57, [(0, am_r ox0 2 0), (1, am_i x1), (2, am_i x2), (3, am_i x3)], [am_i x2], σ)) rfl ⟨trivial, trivial⟩ ?_
    obtain rfl := Option.some.inj h
    exact am_iret hc X hr 29 rfl rfl rfl
  · replace h := am_in2 c8 h
    refine am_blk hc X 7 2 (fr' := (12, [(0, am_r ox0 2 0), (1, am_i x1), (2, am_i x2), (3, am_i x3), (4, am_i 0)], [], σ)) rfl ⟨trivial, trivial, trivial⟩ ?_
    exact ll_X0_passWeeks_12 X hr k4 hk4 1000 ox0 x1 x2 x3 0 _ h
def lp_X0_passWeeks_4  : Nat → Nat → Int32 → Int32 → Int32 → am_S → Option (Int32 × am_S)
  | 0 => fun _ _ _ _ _ => none
  | n + 1 => lb_X0_passWeeks_4  (lp_X0_passWeeks_4  n)
theorem ll_X0_passWeeks_4 {p : Program} {l : Launch} {e : Env} {s : State} {m : MethodId} {args : Array Value} {below : List Frame} {meth : Method} {c : Code} {G : am_G} {q : Int32 × am_S} (X : am_X p s m args c cX0_passWeeks yX0_passWeeks.cls 5 am_p0 G (am_fr G)) (hr : meth.sig.returnType = (some .int) ∧ meth.locks = false)    : ∀ (n : Nat) (ox0 : Nat) (x1 : Int32) (x2 : Int32) (x3 : Int32) (σ : am_S), lp_X0_passWeeks_4  n ox0 x1 x2 x3 σ = some q → am_A p l e (am_ro 6) s m args below meth c 5 G (am_fr G) 0 0 (MQ below (am_Qc G (some (am_i q.1)) q.2) args s 0 0 (am_fr G)) (4, [(0, am_r ox0 2 0), (1, am_i x1), (2, am_i x2), (3, am_i x3)], [], σ) := by
  intro n
  induction n with
  | zero =>
    intro ox0 x1 x2 x3 σ h
    have h : (none : Option (Int32 × am_S)) = some q := h
    cases h
  | succ n ih =>
    intro ox0 x1 x2 x3 σ h
    exact lc_X0_passWeeks_4 X hr  (lp_X0_passWeeks_4  n) ih ox0 x1 x2 x3 σ h
def fn_X0_passWeeks (oa0 : Nat) (a1 : Int32) (σ : am_S) : Option (Int32 × am_S) :=
  lp_X0_passWeeks_4  1000 oa0 a1 0 0 (σ)
set_option maxRecDepth 100000 in
theorem ok_X0_passWeeks (l : Launch) (oa0 : Nat) (a1 : Int32) (σ : am_S) {q : Int32 × am_S} (h : fn_X0_passWeeks oa0 a1 σ = some q) : am_M l yX0_passWeeks cX0_passWeeks 5 (some .int) 6 [am_r oa0 2 0, am_i a1] σ (some (am_i q.1)) q.2 := by
  refine am_M_of (P := am_p0) (by decide +kernel) am_p0_ok rfl ?_
  intro G p e s m args below meth c X hr
  have hc := ct_X0_passWeeks
  unfold fn_X0_passWeeks at h
  refine am_blk hc X 0 4 (fr' := (4, [(0, am_r oa0 2 0), (1, am_i a1), (2, am_i 0), (3, am_i 0)], [], σ)) rfl ⟨trivial, trivial, trivial, trivial, trivial⟩ ?_
  exact ll_X0_passWeeks_4 X hr   1000 oa0 a1 0 0 _ h
def jn_X0_peopleAt_27 (k4 : Nat → Int32 → Int32 → Int32 → am_S → Option (Int32 × am_S)) (ox0 : Nat) (x1 : Int32) (x2 : Int32) (x3 : Int32) (σ : am_S) : Option (Int32 × am_S) :=
  k4 ox0 x1 x2 (x3 + 1) (σ)
set_option maxRecDepth 100000 in
theorem jl_X0_peopleAt_27 {p : Program} {l : Launch} {e : Env} {s : State} {m : MethodId} {args : Array Value} {below : List Frame} {meth : Method} {c : Code} {G : am_G} {q : Int32 × am_S} (X : am_X p s m args c cX0_peopleAt yX0_peopleAt.cls 4 am_p0 G (am_fr G)) (hr : meth.sig.returnType = (some .int) ∧ meth.locks = false)  (k4 : Nat → Int32 → Int32 → Int32 → am_S → Option (Int32 × am_S)) (hk4 : ∀ (ox0 : Nat) (x1 : Int32) (x2 : Int32) (x3 : Int32) (σ : am_S), k4 ox0 x1 x2 x3 σ = some q → am_A p l e (am_ro 0) s m args below meth c 4 G (am_fr G) 0 0 (MQ below (am_Qc G (some (am_i q.1)) q.2) args s 0 0 (am_fr G)) (4, [(0, am_r ox0 2 0), (1, am_i x1), (2, am_i x2), (3, am_i x3)], [], σ)) (ox0 : Nat) (x1 : Int32) (x2 : Int32) (x3 : Int32) (σ : am_S) (h : jn_X0_peopleAt_27 k4 ox0 x1 x2 x3 σ = some q) : am_A p l e (am_ro 0) s m args below meth c 4 G (am_fr G) 0 0 (MQ below (am_Qc G (some (am_i q.1)) q.2) args s 0 0 (am_fr G)) (27, [(0, am_r ox0 2 0), (1, am_i x1), (2, am_i x2), (3, am_i x3)], [], σ) := by
  have hc := ct_X0_peopleAt
  unfold jn_X0_peopleAt_27 at h
  refine am_blk hc X 17 2 (fr' := (4, [(0, am_r ox0 2 0), (1, am_i x1), (2, am_i x2), (3, am_i (x3 + 1))], [], σ)) rfl ⟨trivial, trivial, trivial⟩ ?_
  exact hk4 ox0 x1 x2 (x3 + 1) _ h
def lb_X0_peopleAt_4 (k4 : Nat → Int32 → Int32 → Int32 → am_S → Option (Int32 × am_S)) (ox0 : Nat) (x1 : Int32) (x2 : Int32) (x3 : Int32) (σ : am_S) : Option (Int32 × am_S) :=
  (if (σ.1 ox0 2 0 4) ≤ x3 then some (x2, σ) else (bif am_in x3 6 then (if (σ.1 ox0 8 ((x3 : Int32).toNatClampNeg) 3) = x1 then jn_X0_peopleAt_27 k4 ox0 x1 (x2 + 1) x3 (σ) else jn_X0_peopleAt_27 k4 ox0 x1 x2 x3 (σ)) else none))
set_option maxRecDepth 100000 in
theorem lc_X0_peopleAt_4 {p : Program} {l : Launch} {e : Env} {s : State} {m : MethodId} {args : Array Value} {below : List Frame} {meth : Method} {c : Code} {G : am_G} {q : Int32 × am_S} (X : am_X p s m args c cX0_peopleAt yX0_peopleAt.cls 4 am_p0 G (am_fr G)) (hr : meth.sig.returnType = (some .int) ∧ meth.locks = false)  (k4 : Nat → Int32 → Int32 → Int32 → am_S → Option (Int32 × am_S)) (hk4 : ∀ (ox0 : Nat) (x1 : Int32) (x2 : Int32) (x3 : Int32) (σ : am_S), k4 ox0 x1 x2 x3 σ = some q → am_A p l e (am_ro 0) s m args below meth c 4 G (am_fr G) 0 0 (MQ below (am_Qc G (some (am_i q.1)) q.2) args s 0 0 (am_fr G)) (4, [(0, am_r ox0 2 0), (1, am_i x1), (2, am_i x2), (3, am_i x3)], [], σ)) (ox0 : Nat) (x1 : Int32) (x2 : Int32) (x3 : Int32) (σ : am_S) (h : lb_X0_peopleAt_4 k4 ox0 x1 x2 x3 σ = some q) : am_A p l e (am_ro 0) s m args below meth c 4 G (am_fr G) 0 0 (MQ below (am_Qc G (some (am_i q.1)) q.2) args s 0 0 (am_fr G)) (4, [(0, am_r ox0 2 0), (1, am_i x1), (2, am_i x2), (3, am_i x3)], [], σ) := by
  have hc := ct_X0_peopleAt
  unfold lb_X0_peopleAt_4 at h
  refine am_blk hc X 4 3 (fr' := (9, [(0, am_r ox0 2 0), (1, am_i x1), (2, am_i x2), (3, am_i x3)], [am_i (σ.1 ox0 2 0 4), am_i x3], σ)) rfl ⟨trivial, trivial, trivial, trivial⟩ ?_
  refine am_icmp_ge hc X 7 (tgt := 33) rfl (by decide) (fun c3 => ?_) (fun c3 => ?_)
  · replace h := am_ip c3 h
    refine am_blk hc X 19 1 (fr' := (34, [(0, am_r ox0 2 0), (1, am_i x1), (2, am_i x2), (3, am_i x3)], [am_i x2], σ)) rfl ⟨trivial, trivial⟩ ?_
    obtain rfl := Option.some.inj h
    exact am_iret hc X hr 20 rfl rfl rfl
  · replace h := am_in2 c3 h
    obtain ⟨ob1, h⟩ := am_ci h
    refine am_blk hc X 8 7 (fr' := (21, [(0, am_r ox0 2 0), (1, am_i x1), (2, am_i x2), (3, am_i x3)], [am_i x1, am_i (σ.1 ox0 8 ((x3 : Int32).toNatClampNeg) 3)], σ)) rfl ⟨trivial, trivial, trivial, (am_in_vp ob1), trivial, (am_in_vp (by decide)), trivial, trivial⟩ ?_
    refine am_icmp_ne hc X 15 (tgt := 27) rfl (by decide) (fun c2 => ?_) (fun c2 => ?_)
    · replace h := am_in2 c2 h
      exact jl_X0_peopleAt_27 X hr k4 hk4 ox0 x1 x2 x3 _ h
    · replace h := am_ip c2 h
      refine am_blk hc X 16 1 (fr' := (27, [(0, am_r ox0 2 0), (1, am_i x1), (2, am_i (x2 + 1)), (3, am_i x3)], [], σ)) rfl ⟨trivial, trivial⟩ ?_
      exact jl_X0_peopleAt_27 X hr k4 hk4 ox0 x1 (x2 + 1) x3 _ h
def lp_X0_peopleAt_4  : Nat → Nat → Int32 → Int32 → Int32 → am_S → Option (Int32 × am_S)
  | 0 => fun _ _ _ _ _ => none
  | n + 1 => lb_X0_peopleAt_4  (lp_X0_peopleAt_4  n)
theorem ll_X0_peopleAt_4 {p : Program} {l : Launch} {e : Env} {s : State} {m : MethodId} {args : Array Value} {below : List Frame} {meth : Method} {c : Code} {G : am_G} {q : Int32 × am_S} (X : am_X p s m args c cX0_peopleAt yX0_peopleAt.cls 4 am_p0 G (am_fr G)) (hr : meth.sig.returnType = (some .int) ∧ meth.locks = false)    : ∀ (n : Nat) (ox0 : Nat) (x1 : Int32) (x2 : Int32) (x3 : Int32) (σ : am_S), lp_X0_peopleAt_4  n ox0 x1 x2 x3 σ = some q → am_A p l e (am_ro 0) s m args below meth c 4 G (am_fr G) 0 0 (MQ below (am_Qc G (some (am_i q.1)) q.2) args s 0 0 (am_fr G)) (4, [(0, am_r ox0 2 0), (1, am_i x1), (2, am_i x2), (3, am_i x3)], [], σ) := by
  intro n
  induction n with
  | zero =>
    intro ox0 x1 x2 x3 σ h
    have h : (none : Option (Int32 × am_S)) = some q := h
    cases h
  | succ n ih =>
    intro ox0 x1 x2 x3 σ h
    exact lc_X0_peopleAt_4 X hr  (lp_X0_peopleAt_4  n) ih ox0 x1 x2 x3 σ h
def fn_X0_peopleAt (oa0 : Nat) (a1 : Int32) (σ : am_S) : Option (Int32 × am_S) :=
  lp_X0_peopleAt_4  1000 oa0 a1 0 0 (σ)
set_option maxRecDepth 100000 in
theorem ok_X0_peopleAt (l : Launch) (oa0 : Nat) (a1 : Int32) (σ : am_S) {q : Int32 × am_S} (h : fn_X0_peopleAt oa0 a1 σ = some q) : am_M l yX0_peopleAt cX0_peopleAt 4 (some .int) 0 [am_r oa0 2 0, am_i a1] σ (some (am_i q.1)) q.2 := by
  refine am_M_of (P := am_p0) (by decide +kernel) am_p0_ok rfl ?_
  intro G p e s m args below meth c X hr
  have hc := ct_X0_peopleAt
  unfold fn_X0_peopleAt at h
  refine am_blk hc X 0 4 (fr' := (4, [(0, am_r oa0 2 0), (1, am_i a1), (2, am_i 0), (3, am_i 0)], [], σ)) rfl ⟨trivial, trivial, trivial, trivial, trivial⟩ ?_
  exact ll_X0_peopleAt_4 X hr   1000 oa0 a1 0 0 _ h
def lb_X0_together_4 (k4 : Nat → Int32 → Int32 → Int32 → am_S → Option (Int32 × am_S)) (ox0 : Nat) (x1 : Int32) (x2 : Int32) (x3 : Int32) (σ : am_S) : Option (Int32 × am_S) :=
  (if (σ.1 ox0 2 0 4) ≤ x3 then some (x2, σ) else (bif am_in x3 6 then (bif am_in x1 8 then k4 ox0 x1 (x2 + (σ.1 ox0 8 ((x3 : Int32).toNatClampNeg) ((x1 : Int32).toNatClampNeg))) (x3 + 1) (σ) else none) else none))
set_option maxRecDepth 100000 in
theorem lc_X0_together_4 {p : Program} {l : Launch} {e : Env} {s : State} {m : MethodId} {args : Array Value} {below : List Frame} {meth : Method} {c : Code} {G : am_G} {q : Int32 × am_S} (X : am_X p s m args c cX0_together yX0_together.cls 4 am_p0 G (am_fr G)) (hr : meth.sig.returnType = (some .int) ∧ meth.locks = false)  (k4 : Nat → Int32 → Int32 → Int32 → am_S → Option (Int32 × am_S)) (hk4 : ∀ (ox0 : Nat) (x1 : Int32) (x2 : Int32) (x3 : Int32) (σ : am_S), k4 ox0 x1 x2 x3 σ = some q → am_A p l e (am_ro 0) s m args below meth c 4 G (am_fr G) 0 0 (MQ below (am_Qc G (some (am_i q.1)) q.2) args s 0 0 (am_fr G)) (4, [(0, am_r ox0 2 0), (1, am_i x1), (2, am_i x2), (3, am_i x3)], [], σ)) (ox0 : Nat) (x1 : Int32) (x2 : Int32) (x3 : Int32) (σ : am_S) (h : lb_X0_together_4 k4 ox0 x1 x2 x3 σ = some q) : am_A p l e (am_ro 0) s m args below meth c 4 G (am_fr G) 0 0 (MQ below (am_Qc G (some (am_i q.1)) q.2) args s 0 0 (am_fr G)) (4, [(0, am_r ox0 2 0), (1, am_i x1), (2, am_i x2), (3, am_i x3)], [], σ) := by
  have hc := ct_X0_together
  unfold lb_X0_together_4 at h
  refine am_blk hc X 4 3 (fr' := (9, [(0, am_r ox0 2 0), (1, am_i x1), (2, am_i x2), (3, am_i x3)], [am_i (σ.1 ox0 2 0 4), am_i x3], σ)) rfl ⟨trivial, trivial, trivial, trivial⟩ ?_
  refine am_icmp_ge hc X 7 (tgt := 29) rfl (by decide) (fun c3 => ?_) (fun c3 => ?_)
  · replace h := am_ip c3 h
    refine am_blk hc X 19 1 (fr' := (30, [(0, am_r ox0 2 0), (1, am_i x1), (2, am_i x2), (3, am_i x3)], [am_i x2], σ)) rfl ⟨trivial, trivial⟩ ?_
    obtain rfl := Option.some.inj h
    exact am_iret hc X hr 20 rfl rfl rfl
  · replace h := am_in2 c3 h
    obtain ⟨ob1, h⟩ := am_ci h
    obtain ⟨ob2, h⟩ := am_ci h
    refine am_blk hc X 8 11 (fr' := (4, [(0, am_r ox0 2 0), (1, am_i x1), (2, am_i (x2 + (σ.1 ox0 8 ((x3 : Int32).toNatClampNeg) ((x1 : Int32).toNatClampNeg)))), (3, am_i (x3 + 1))], [], σ)) rfl ⟨trivial, trivial, trivial, trivial, (am_in_vp ob1), trivial, (am_in_vp ob2), trivial, trivial, trivial, trivial, trivial⟩ ?_
    exact hk4 ox0 x1 (x2 + (σ.1 ox0 8 ((x3 : Int32).toNatClampNeg) ((x1 : Int32).toNatClampNeg))) (x3 + 1) _ h
def lp_X0_together_4  : Nat → Nat → Int32 → Int32 → Int32 → am_S → Option (Int32 × am_S)
  | 0 => fun _ _ _ _ _ => none
  | n + 1 => lb_X0_together_4  (lp_X0_together_4  n)
theorem ll_X0_together_4 {p : Program} {l : Launch} {e : Env} {s : State} {m : MethodId} {args : Array Value} {below : List Frame} {meth : Method} {c : Code} {G : am_G} {q : Int32 × am_S} (X : am_X p s m args c cX0_together yX0_together.cls 4 am_p0 G (am_fr G)) (hr : meth.sig.returnType = (some .int) ∧ meth.locks = false)    : ∀ (n : Nat) (ox0 : Nat) (x1 : Int32) (x2 : Int32) (x3 : Int32) (σ : am_S), lp_X0_together_4  n ox0 x1 x2 x3 σ = some q → am_A p l e (am_ro 0) s m args below meth c 4 G (am_fr G) 0 0 (MQ below (am_Qc G (some (am_i q.1)) q.2) args s 0 0 (am_fr G)) (4, [(0, am_r ox0 2 0), (1, am_i x1), (2, am_i x2), (3, am_i x3)], [], σ) := by
  intro n
  induction n with
  | zero =>
    intro ox0 x1 x2 x3 σ h
    have h : (none : Option (Int32 × am_S)) = some q := h
    cases h
  | succ n ih =>
    intro ox0 x1 x2 x3 σ h
    exact lc_X0_together_4 X hr  (lp_X0_together_4  n) ih ox0 x1 x2 x3 σ h
def fn_X0_together (oa0 : Nat) (a1 : Int32) (σ : am_S) : Option (Int32 × am_S) :=
  lp_X0_together_4  1000 oa0 a1 0 0 (σ)
set_option maxRecDepth 100000 in
theorem ok_X0_together (l : Launch) (oa0 : Nat) (a1 : Int32) (σ : am_S) {q : Int32 × am_S} (h : fn_X0_together oa0 a1 σ = some q) : am_M l yX0_together cX0_together 4 (some .int) 0 [am_r oa0 2 0, am_i a1] σ (some (am_i q.1)) q.2 := by
  refine am_M_of (P := am_p0) (by decide +kernel) am_p0_ok rfl ?_
  intro G p e s m args below meth c X hr
  have hc := ct_X0_together
  unfold fn_X0_together at h
  refine am_blk hc X 0 4 (fr' := (4, [(0, am_r oa0 2 0), (1, am_i a1), (2, am_i 0), (3, am_i 0)], [], σ)) rfl ⟨trivial, trivial, trivial, trivial, trivial⟩ ?_
  exact ll_X0_together_4 X hr   1000 oa0 a1 0 0 _ h
def fn_X7_isShelf (a0 : Int32) (σ : am_S) : Option (Int32 × am_S) :=
  (if a0 < 0 then some (0, σ) else (if 8 ≤ a0 then some (0, σ) else some (1, σ)))
set_option maxRecDepth 100000 in
theorem ok_X7_isShelf (l : Launch) (a0 : Int32) (σ : am_S) {q : Int32 × am_S} (h : fn_X7_isShelf a0 σ = some q) : am_M l yX7_isShelf cX7_isShelf 1 (some .boolean) 0 [am_i a0] σ (some (am_i q.1)) q.2 := by
  refine am_M_of (P := am_p7) (by decide +kernel) am_p7_ok rfl ?_
  intro G p e s m args below meth c X hr
  have hc := ct_X7_isShelf
  unfold fn_X7_isShelf at h
  refine am_blk hc X 0 1 (fr' := (1, [(0, am_i a0)], [am_i a0], σ)) rfl ⟨trivial, trivial⟩ ?_
  refine am_if_lt hc X 1 (tgt := 14) rfl (by decide) (fun c2 => ?_) (fun c2 => ?_)
  · replace h := am_ip c2 h
    refine am_blk hc X 7 1 (fr' := (15, [(0, am_i a0)], [am_i 0], σ)) rfl ⟨trivial, trivial⟩ ?_
    obtain rfl := Option.some.inj h
    exact am_zret hc X hr 8 rfl (by decide) rfl rfl
  · replace h := am_in2 c2 h
    refine am_blk hc X 2 2 (fr' := (7, [(0, am_i a0)], [am_i 8, am_i a0], σ)) rfl ⟨trivial, trivial, trivial⟩ ?_
    refine am_icmp_ge hc X 4 (tgt := 14) rfl (by decide) (fun c1 => ?_) (fun c1 => ?_)
    · replace h := am_ip c1 h
      refine am_blk hc X 7 1 (fr' := (15, [(0, am_i a0)], [am_i 0], σ)) rfl ⟨trivial, trivial⟩ ?_
      obtain rfl := Option.some.inj h
      exact am_zret hc X hr 8 rfl (by decide) rfl rfl
    · replace h := am_in2 c1 h
      refine am_blk hc X 5 2 (fr' := (15, [(0, am_i a0)], [am_i 1], σ)) rfl ⟨trivial, trivial, trivial⟩ ?_
      obtain rfl := Option.some.inj h
      exact am_zret hc X hr 8 rfl (by decide) rfl rfl
def fn_X2_isRow (a1 : Int32) (σ : am_S) : Option (Int32 × am_S) :=
  (bif am_in a1 8 then (if (σ.1 10 10 0 ((a1 : Int32).toNatClampNeg)) < 0 then some (0, σ) else (bif am_in a1 8 then (if 5 ≤ (σ.1 10 10 0 ((a1 : Int32).toNatClampNeg)) then some (0, σ) else some (1, σ)) else none)) else none)
set_option maxRecDepth 100000 in
theorem ok_X2_isRow (l : Launch) (a1 : Int32) (σ : am_S) {q : Int32 × am_S} (h : fn_X2_isRow a1 σ = some q) : am_M l yX2_isRow cX2_isRow 2 (some .boolean) 0 [am_r 10 9 0, am_i a1] σ (some (am_i q.1)) q.2 := by
  refine am_M_of (P := am_p2) (by decide +kernel) am_p2_ok rfl ?_
  intro G p e s m args below meth c X hr
  have hc := ct_X2_isRow
  unfold fn_X2_isRow at h
  obtain ⟨ob1, h⟩ := am_ci h
  refine am_blk hc X 0 4 (fr' := (6, [(0, am_r 10 9 0), (1, am_i a1)], [am_i (σ.1 10 10 0 ((a1 : Int32).toNatClampNeg))], σ)) rfl ⟨trivial, trivial, trivial, (am_in_vp ob1), trivial⟩ ?_
  refine am_if_lt hc X 4 (tgt := 23) rfl (by decide) (fun c4 => ?_) (fun c4 => ?_)
  · replace h := am_ip c4 h
    refine am_blk hc X 13 1 (fr' := (24, [(0, am_r 10 9 0), (1, am_i a1)], [am_i 0], σ)) rfl ⟨trivial, trivial⟩ ?_
    obtain rfl := Option.some.inj h
    exact am_zret hc X hr 14 rfl (by decide) rfl rfl
  · replace h := am_in2 c4 h
    obtain ⟨ob2, h⟩ := am_ci h
    refine am_blk hc X 5 5 (fr' := (16, [(0, am_r 10 9 0), (1, am_i a1)], [am_i 5, am_i (σ.1 10 10 0 ((a1 : Int32).toNatClampNeg))], σ)) rfl ⟨trivial, trivial, trivial, (am_in_vp ob2), trivial, trivial⟩ ?_
    refine am_icmp_ge hc X 10 (tgt := 23) rfl (by decide) (fun c3 => ?_) (fun c3 => ?_)
    · replace h := am_ip c3 h
      refine am_blk hc X 13 1 (fr' := (24, [(0, am_r 10 9 0), (1, am_i a1)], [am_i 0], σ)) rfl ⟨trivial, trivial⟩ ?_
      obtain rfl := Option.some.inj h
      exact am_zret hc X hr 14 rfl (by decide) rfl rfl
    · replace h := am_in2 c3 h
      refine am_blk hc X 11 2 (fr' := (24, [(0, am_r 10 9 0), (1, am_i a1)], [am_i 1], σ)) rfl ⟨trivial, trivial, trivial⟩ ?_
      obtain rfl := Option.some.inj h
      exact am_zret hc X hr 14 rfl (by decide) rfl rfl
def fn_X2_hasElements (a1 : Int32) (a2 : Int32) (a3 : Int32) (σ : am_S) : Option (Int32 × am_S) :=
  (fn_X7_isShelf a1 (σ)).bind fun q1 => (if q1.1 = 0 then some (0, q1.2) else (fn_X2_isRow a1 q1.2).bind fun q3 => (if q3.1 = 0 then some (0, q3.2) else (if a2 < 0 then some (0, q3.2) else (if a3 < 0 then some (0, q3.2) else (bif am_in a1 8 then (if (q3.2.1 10 11 0 ((a1 : Int32).toNatClampNeg)) < a2 then some (0, q3.2) else (bif am_in a1 8 then (if ((q3.2.1 10 11 0 ((a1 : Int32).toNatClampNeg)) - a2) < a3 then some (0, q3.2) else some (1, q3.2)) else none)) else none)))))
set_option maxRecDepth 100000 in
theorem ok_X2_hasElements (l : Launch) (a1 : Int32) (a2 : Int32) (a3 : Int32) (σ : am_S) {q : Int32 × am_S} (h : fn_X2_hasElements a1 a2 a3 σ = some q) : am_M l yX2_hasElements cX2_hasElements 4 (some .boolean) 1 [am_r 10 9 0, am_i a1, am_i a2, am_i a3] σ (some (am_i q.1)) q.2 := by
  refine am_M_of (P := am_p2) (by decide +kernel) am_p2_ok rfl ?_
  intro G p e s m args below meth c X hr
  have hc := ct_X2_hasElements
  unfold fn_X2_hasElements at h
  refine am_blk hc X 0 1 (fr' := (1, [(0, am_r 10 9 0), (1, am_i a1), (2, am_i a2), (3, am_i a3)], [am_i a1], σ)) rfl ⟨trivial, trivial⟩ ?_
  obtain ⟨q1, hq2, h⟩ := am_bs h
  refine am_callN hc 1 X (As := [am_i a1]) (rest := []) rfl (ok_X7_isShelf l a1 (σ) hq2) yv_X7_isShelf mn_X2_40 rfl rfl rfl rfl rfl ?_
  refine am_if_eq hc X 2 (tgt := 49) rfl (by decide) (fun c12 => ?_) (fun c12 => ?_)
  · replace h := am_ip c12 h
    refine am_blk hc X 27 1 (fr' := (50, [(0, am_r 10 9 0), (1, am_i a1), (2, am_i a2), (3, am_i a3)], [am_i 0], q1.2)) rfl ⟨trivial, trivial⟩ ?_
    obtain rfl := Option.some.inj h
    exact am_zret hc X hr 28 rfl (by decide) rfl rfl
  · replace h := am_in2 c12 h
    refine am_blk hc X 3 2 (fr' := (9, [(0, am_r 10 9 0), (1, am_i a1), (2, am_i a2), (3, am_i a3)], [am_i a1, am_r 10 9 0], q1.2)) rfl ⟨trivial, trivial, trivial⟩ ?_
    obtain ⟨q3, hq4, h⟩ := am_bs h
    refine am_callV hc 5 X (k := 9) (i := 0) (o := 10) (As := [am_i a1]) (rest := []) rfl (ok_X2_isRow l a1 q1.2 hq4) yv_X2_isRow ml_X2_32 (cl_9) rfl rfl rfl rfl rfl ?_
    refine am_if_eq hc X 6 (tgt := 49) rfl (by decide) (fun c11 => ?_) (fun c11 => ?_)
    · replace h := am_ip c11 h
      refine am_blk hc X 27 1 (fr' := (50, [(0, am_r 10 9 0), (1, am_i a1), (2, am_i a2), (3, am_i a3)], [am_i 0], q3.2)) rfl ⟨trivial, trivial⟩ ?_
      obtain rfl := Option.some.inj h
      exact am_zret hc X hr 28 rfl (by decide) rfl rfl
    · replace h := am_in2 c11 h
      refine am_blk hc X 7 1 (fr' := (16, [(0, am_r 10 9 0), (1, am_i a1), (2, am_i a2), (3, am_i a3)], [am_i a2], q3.2)) rfl ⟨trivial, trivial⟩ ?_
      refine am_if_lt hc X 8 (tgt := 49) rfl (by decide) (fun c10 => ?_) (fun c10 => ?_)
      · replace h := am_ip c10 h
        refine am_blk hc X 27 1 (fr' := (50, [(0, am_r 10 9 0), (1, am_i a1), (2, am_i a2), (3, am_i a3)], [am_i 0], q3.2)) rfl ⟨trivial, trivial⟩ ?_
        obtain rfl := Option.some.inj h
        exact am_zret hc X hr 28 rfl (by decide) rfl rfl
      · replace h := am_in2 c10 h
        refine am_blk hc X 9 1 (fr' := (20, [(0, am_r 10 9 0), (1, am_i a1), (2, am_i a2), (3, am_i a3)], [am_i a3], q3.2)) rfl ⟨trivial, trivial⟩ ?_
        refine am_if_lt hc X 10 (tgt := 49) rfl (by decide) (fun c9 => ?_) (fun c9 => ?_)
        · replace h := am_ip c9 h
          refine am_blk hc X 27 1 (fr' := (50, [(0, am_r 10 9 0), (1, am_i a1), (2, am_i a2), (3, am_i a3)], [am_i 0], q3.2)) rfl ⟨trivial, trivial⟩ ?_
          obtain rfl := Option.some.inj h
          exact am_zret hc X hr 28 rfl (by decide) rfl rfl
        · replace h := am_in2 c9 h
          obtain ⟨ob5, h⟩ := am_ci h
          refine am_blk hc X 11 5 (fr' := (30, [(0, am_r 10 9 0), (1, am_i a1), (2, am_i a2), (3, am_i a3)], [am_i (q3.2.1 10 11 0 ((a1 : Int32).toNatClampNeg)), am_i a2], q3.2)) rfl ⟨trivial, trivial, trivial, trivial, (am_in_vp ob5), trivial⟩ ?_
          refine am_icmp_gt hc X 16 (tgt := 49) rfl (by decide) (fun c8 => ?_) (fun c8 => ?_)
          · replace h := am_ip c8 h
            refine am_blk hc X 27 1 (fr' := (50, [(0, am_r 10 9 0), (1, am_i a1), (2, am_i a2), (3, am_i a3)], [am_i 0], q3.2)) rfl ⟨trivial, trivial⟩ ?_
            obtain rfl := Option.some.inj h
            exact am_zret hc X hr 28 rfl (by decide) rfl rfl
          · replace h := am_in2 c8 h
            obtain ⟨ob6, h⟩ := am_ci h
            refine am_blk hc X 17 7 (fr' := (42, [(0, am_r 10 9 0), (1, am_i a1), (2, am_i a2), (3, am_i a3)], [am_i ((q3.2.1 10 11 0 ((a1 : Int32).toNatClampNeg)) - a2), am_i a3], q3.2)) rfl ⟨trivial, trivial, trivial, trivial, (am_in_vp ob6), trivial, trivial, trivial⟩ ?_
            refine am_icmp_gt hc X 24 (tgt := 49) rfl (by decide) (fun c7 => ?_) (fun c7 => ?_)
            · replace h := am_ip c7 h
              refine am_blk hc X 27 1 (fr' := (50, [(0, am_r 10 9 0), (1, am_i a1), (2, am_i a2), (3, am_i a3)], [am_i 0], q3.2)) rfl ⟨trivial, trivial⟩ ?_
              obtain rfl := Option.some.inj h
              exact am_zret hc X hr 28 rfl (by decide) rfl rfl
            · replace h := am_in2 c7 h
              refine am_blk hc X 25 2 (fr' := (50, [(0, am_r 10 9 0), (1, am_i a1), (2, am_i a2), (3, am_i a3)], [am_i 1], q3.2)) rfl ⟨trivial, trivial, trivial⟩ ?_
              obtain rfl := Option.some.inj h
              exact am_zret hc X hr 28 rfl (by decide) rfl rfl
def fn_X2_copyElements (a1 : Int32) (a2 : Int32) (a3 : Int32) (a4 : Int32) (a5 : Int32) (σ : am_S) : Option (am_S) :=
  (fn_X2_hasElements a1 a3 a5 (σ)).bind fun q1 => (if q1.1 = 0 then some q1.2 else (fn_X2_hasElements a2 a4 a5 q1.2).bind fun q3 => (if q3.1 = 0 then some q3.2 else (bif am_in a1 8 then (bif am_in a2 8 then (bif am_cok a3 a4 a5 40 40 then some (am_rol q3.2 10 13 ((a2 : Int32).toNatClampNeg) (va_cpy (q3.2.2 10 13 ((a1 : Int32).toNatClampNeg)) (q3.2.2 10 13 ((a2 : Int32).toNatClampNeg)) ((a3 : Int32).toNatClampNeg) ((a4 : Int32).toNatClampNeg) ((a5 : Int32).toNatClampNeg))) else none) else none) else none)))
set_option maxRecDepth 100000 in
theorem ok_X2_copyElements (l : Launch) (a1 : Int32) (a2 : Int32) (a3 : Int32) (a4 : Int32) (a5 : Int32) (σ : am_S) {q : am_S} (h : fn_X2_copyElements a1 a2 a3 a4 a5 σ = some q) : am_M l yX2_copyElements cX2_copyElements 6 none 2 [am_r 10 9 0, am_i a1, am_i a2, am_i a3, am_i a4, am_i a5] σ none q := by
  refine am_M_of (P := am_p2) (by decide +kernel) am_p2_ok rfl ?_
  intro G p e s m args below meth c X hr
  have hc := ct_X2_copyElements
  unfold fn_X2_copyElements at h
  refine am_blk hc X 0 4 (fr' := (5, [(0, am_r 10 9 0), (1, am_i a1), (2, am_i a2), (3, am_i a3), (4, am_i a4), (5, am_i a5)], [am_i a5, am_i a3, am_i a1, am_r 10 9 0], σ)) rfl ⟨trivial, trivial, trivial, trivial, trivial⟩ ?_
  obtain ⟨q1, hq2, h⟩ := am_bs h
  refine am_callV hc 4 X (k := 9) (i := 0) (o := 10) (As := [am_i a1, am_i a3, am_i a5]) (rest := []) rfl (ok_X2_hasElements l a1 a3 a5 (σ) hq2) yv_X2_hasElements ml_X2_51 (cl_9) rfl rfl rfl rfl rfl ?_
  refine am_if_eq hc X 5 (tgt := 43) rfl (by decide) (fun c9 => ?_) (fun c9 => ?_)
  · replace h := am_ip c9 h
    obtain rfl := Option.some.inj h
    exact am_vret hc X hr 24 rfl rfl rfl
  · replace h := am_in2 c9 h
    refine am_blk hc X 6 4 (fr' := (17, [(0, am_r 10 9 0), (1, am_i a1), (2, am_i a2), (3, am_i a3), (4, am_i a4), (5, am_i a5)], [am_i a5, am_i a4, am_i a2, am_r 10 9 0], q1.2)) rfl ⟨trivial, trivial, trivial, trivial, trivial⟩ ?_
    obtain ⟨q3, hq4, h⟩ := am_bs h
    refine am_callV hc 10 X (k := 9) (i := 0) (o := 10) (As := [am_i a2, am_i a4, am_i a5]) (rest := []) rfl (ok_X2_hasElements l a2 a4 a5 q1.2 hq4) yv_X2_hasElements ml_X2_51 (cl_9) rfl rfl rfl rfl rfl ?_
    refine am_if_eq hc X 11 (tgt := 43) rfl (by decide) (fun c8 => ?_) (fun c8 => ?_)
    · replace h := am_ip c8 h
      obtain rfl := Option.some.inj h
      exact am_vret hc X hr 24 rfl rfl rfl
    · replace h := am_in2 c8 h
      obtain ⟨ob5, h⟩ := am_ci h
      obtain ⟨ob6, h⟩ := am_ci h
      refine am_blk hc X 12 11 (fr' := (40, [(0, am_r 10 9 0), (1, am_i a1), (2, am_i a2), (3, am_i a3), (4, am_i a4), (5, am_i a5)], [am_i a5, am_i a4, am_r 10 13 ((a2 : Int32).toNatClampNeg), am_i a3, am_r 10 13 ((a1 : Int32).toNatClampNeg)], q3.2)) rfl ⟨trivial, trivial, trivial, (am_in_vp ob5), trivial, trivial, trivial, trivial, (am_in_vp ob6), trivial, trivial, trivial⟩ ?_
      obtain ⟨ob7, h⟩ := am_ci h
      refine am_cpl hc 23 X (k := 13) (k0 := 13) (rest := []) rfl ml_X2_55 am_acw (by decide +kernel) ob7 rfl ?_
      obtain rfl := Option.some.inj h
      exact am_vret hc X hr 24 rfl rfl rfl
def fn_X2_hasElement (a1 : Int32) (a2 : Int32) (σ : am_S) : Option (Int32 × am_S) :=
  (fn_X7_isShelf a1 (σ)).bind fun q1 => (if q1.1 = 0 then some (0, q1.2) else (fn_X2_isRow a1 q1.2).bind fun q3 => (if q3.1 = 0 then some (0, q3.2) else (if a2 < 0 then some (0, q3.2) else (bif am_in a1 8 then (if (q3.2.1 10 11 0 ((a1 : Int32).toNatClampNeg)) ≤ a2 then some (0, q3.2) else (if 40 ≤ a2 then some (0, q3.2) else some (1, q3.2))) else none))))
set_option maxRecDepth 100000 in
theorem ok_X2_hasElement (l : Launch) (a1 : Int32) (a2 : Int32) (σ : am_S) {q : Int32 × am_S} (h : fn_X2_hasElement a1 a2 σ = some q) : am_M l yX2_hasElement cX2_hasElement 3 (some .boolean) 1 [am_r 10 9 0, am_i a1, am_i a2] σ (some (am_i q.1)) q.2 := by
  refine am_M_of (P := am_p2) (by decide +kernel) am_p2_ok rfl ?_
  intro G p e s m args below meth c X hr
  have hc := ct_X2_hasElement
  unfold fn_X2_hasElement at h
  refine am_blk hc X 0 1 (fr' := (1, [(0, am_r 10 9 0), (1, am_i a1), (2, am_i a2)], [am_i a1], σ)) rfl ⟨trivial, trivial⟩ ?_
  obtain ⟨q1, hq2, h⟩ := am_bs h
  refine am_callN hc 1 X (As := [am_i a1]) (rest := []) rfl (ok_X7_isShelf l a1 (σ) hq2) yv_X7_isShelf mn_X2_40 rfl rfl rfl rfl rfl ?_
  refine am_if_eq hc X 2 (tgt := 39) rfl (by decide) (fun c10 => ?_) (fun c10 => ?_)
  · replace h := am_ip c10 h
    refine am_blk hc X 20 1 (fr' := (40, [(0, am_r 10 9 0), (1, am_i a1), (2, am_i a2)], [am_i 0], q1.2)) rfl ⟨trivial, trivial⟩ ?_
    obtain rfl := Option.some.inj h
    exact am_zret hc X hr 21 rfl (by decide) rfl rfl
  · replace h := am_in2 c10 h
    refine am_blk hc X 3 2 (fr' := (9, [(0, am_r 10 9 0), (1, am_i a1), (2, am_i a2)], [am_i a1, am_r 10 9 0], q1.2)) rfl ⟨trivial, trivial, trivial⟩ ?_
    obtain ⟨q3, hq4, h⟩ := am_bs h
    refine am_callV hc 5 X (k := 9) (i := 0) (o := 10) (As := [am_i a1]) (rest := []) rfl (ok_X2_isRow l a1 q1.2 hq4) yv_X2_isRow ml_X2_32 (cl_9) rfl rfl rfl rfl rfl ?_
    refine am_if_eq hc X 6 (tgt := 39) rfl (by decide) (fun c9 => ?_) (fun c9 => ?_)
    · replace h := am_ip c9 h
      refine am_blk hc X 20 1 (fr' := (40, [(0, am_r 10 9 0), (1, am_i a1), (2, am_i a2)], [am_i 0], q3.2)) rfl ⟨trivial, trivial⟩ ?_
      obtain rfl := Option.some.inj h
      exact am_zret hc X hr 21 rfl (by decide) rfl rfl
    · replace h := am_in2 c9 h
      refine am_blk hc X 7 1 (fr' := (16, [(0, am_r 10 9 0), (1, am_i a1), (2, am_i a2)], [am_i a2], q3.2)) rfl ⟨trivial, trivial⟩ ?_
      refine am_if_lt hc X 8 (tgt := 39) rfl (by decide) (fun c8 => ?_) (fun c8 => ?_)
      · replace h := am_ip c8 h
        refine am_blk hc X 20 1 (fr' := (40, [(0, am_r 10 9 0), (1, am_i a1), (2, am_i a2)], [am_i 0], q3.2)) rfl ⟨trivial, trivial⟩ ?_
        obtain rfl := Option.some.inj h
        exact am_zret hc X hr 21 rfl (by decide) rfl rfl
      · replace h := am_in2 c8 h
        obtain ⟨ob5, h⟩ := am_ci h
        refine am_blk hc X 9 5 (fr' := (26, [(0, am_r 10 9 0), (1, am_i a1), (2, am_i a2)], [am_i (q3.2.1 10 11 0 ((a1 : Int32).toNatClampNeg)), am_i a2], q3.2)) rfl ⟨trivial, trivial, trivial, trivial, (am_in_vp ob5), trivial⟩ ?_
        refine am_icmp_ge hc X 14 (tgt := 39) rfl (by decide) (fun c7 => ?_) (fun c7 => ?_)
        · replace h := am_ip c7 h
          refine am_blk hc X 20 1 (fr' := (40, [(0, am_r 10 9 0), (1, am_i a1), (2, am_i a2)], [am_i 0], q3.2)) rfl ⟨trivial, trivial⟩ ?_
          obtain rfl := Option.some.inj h
          exact am_zret hc X hr 21 rfl (by decide) rfl rfl
        · replace h := am_in2 c7 h
          refine am_blk hc X 15 2 (fr' := (32, [(0, am_r 10 9 0), (1, am_i a1), (2, am_i a2)], [am_i 40, am_i a2], q3.2)) rfl ⟨trivial, trivial, trivial⟩ ?_
          refine am_icmp_ge hc X 17 (tgt := 39) rfl (by decide) (fun c6 => ?_) (fun c6 => ?_)
          · replace h := am_ip c6 h
            refine am_blk hc X 20 1 (fr' := (40, [(0, am_r 10 9 0), (1, am_i a1), (2, am_i a2)], [am_i 0], q3.2)) rfl ⟨trivial, trivial⟩ ?_
            obtain rfl := Option.some.inj h
            exact am_zret hc X hr 21 rfl (by decide) rfl rfl
          · replace h := am_in2 c6 h
            refine am_blk hc X 18 2 (fr' := (40, [(0, am_r 10 9 0), (1, am_i a1), (2, am_i a2)], [am_i 1], q3.2)) rfl ⟨trivial, trivial, trivial⟩ ?_
            obtain rfl := Option.some.inj h
            exact am_zret hc X hr 21 rfl (by decide) rfl rfl
def fn_X2_elementAt (a1 : Int32) (a2 : Int32) (σ : am_S) : Option (Int64 × am_S) :=
  (fn_X2_hasElement a1 a2 (σ)).bind fun q1 => (if q1.1 = 0 then some (0, q1.2) else (bif am_in a1 8 then (bif am_in a2 40 then some ((q1.2.2 10 13 ((a1 : Int32).toNatClampNeg) ((a2 : Int32).toNatClampNeg)), q1.2) else none) else none))
set_option maxRecDepth 100000 in
theorem ok_X2_elementAt (l : Launch) (a1 : Int32) (a2 : Int32) (σ : am_S) {q : Int64 × am_S} (h : fn_X2_elementAt a1 a2 σ = some q) : am_M l yX2_elementAt cX2_elementAt 3 (some .long) 2 [am_r 10 9 0, am_i a1, am_i a2] σ (some (am_l q.1)) q.2 := by
  refine am_M_of (P := am_p2) (by decide +kernel) am_p2_ok rfl ?_
  intro G p e s m args below meth c X hr
  have hc := ct_X2_elementAt
  unfold fn_X2_elementAt at h
  refine am_blk hc X 0 3 (fr' := (3, [(0, am_r 10 9 0), (1, am_i a1), (2, am_i a2)], [am_i a2, am_i a1, am_r 10 9 0], σ)) rfl ⟨trivial, trivial, trivial, trivial⟩ ?_
  obtain ⟨q1, hq2, h⟩ := am_bs h
  refine am_callV hc 3 X (k := 9) (i := 0) (o := 10) (As := [am_i a1, am_i a2]) (rest := []) rfl (ok_X2_hasElement l a1 a2 (σ) hq2) yv_X2_hasElement ml_X2_43 (cl_9) rfl rfl rfl rfl rfl ?_
  refine am_if_eq hc X 4 (tgt := 20) rfl (by decide) (fun c5 => ?_) (fun c5 => ?_)
  · replace h := am_ip c5 h
    refine am_blk hc X 12 1 (fr' := (21, [(0, am_r 10 9 0), (1, am_i a1), (2, am_i a2)], [am_l 0], q1.2)) rfl ⟨trivial, trivial⟩ ?_
    obtain rfl := Option.some.inj h
    exact am_lret hc X hr 13 rfl rfl rfl
  · replace h := am_in2 c5 h
    obtain ⟨ob3, h⟩ := am_ci h
    obtain ⟨ob4, h⟩ := am_ci h
    refine am_blk hc X 5 7 (fr' := (21, [(0, am_r 10 9 0), (1, am_i a1), (2, am_i a2)], [am_l (q1.2.2 10 13 ((a1 : Int32).toNatClampNeg) ((a2 : Int32).toNatClampNeg))], q1.2)) rfl ⟨trivial, trivial, trivial, (am_in_vp ob3), trivial, (am_in_vp ob4), trivial, trivial⟩ ?_
    obtain rfl := Option.some.inj h
    exact am_lret hc X hr 13 rfl rfl rfl
def jn_X2_howManyHold_23 (k4 : Int32 → Int32 → am_S → Option (Int32 × am_S)) (x1 : Int32) (x2 : Int32) (σ : am_S) : Option (Int32 × am_S) :=
  k4 x1 (x2 + 1) (σ)
set_option maxRecDepth 100000 in
theorem jl_X2_howManyHold_23 {p : Program} {l : Launch} {e : Env} {s : State} {m : MethodId} {args : Array Value} {below : List Frame} {meth : Method} {c : Code} {G : am_G} {q : Int32 × am_S} (X : am_X p s m args c cX2_howManyHold yX2_howManyHold.cls 3 am_p2 G (am_fr G)) (hr : meth.sig.returnType = (some .int) ∧ meth.locks = false)  (k4 : Int32 → Int32 → am_S → Option (Int32 × am_S)) (hk4 : ∀ (x1 : Int32) (x2 : Int32) (σ : am_S), k4 x1 x2 σ = some q → am_A p l e (am_ro 0) s m args below meth c 3 G (am_fr G) 0 0 (MQ below (am_Qc G (some (am_i q.1)) q.2) args s 0 0 (am_fr G)) (4, [(0, am_r 10 9 0), (1, am_i x1), (2, am_i x2)], [], σ)) (x1 : Int32) (x2 : Int32) (σ : am_S) (h : jn_X2_howManyHold_23 k4 x1 x2 σ = some q) : am_A p l e (am_ro 0) s m args below meth c 3 G (am_fr G) 0 0 (MQ below (am_Qc G (some (am_i q.1)) q.2) args s 0 0 (am_fr G)) (23, [(0, am_r 10 9 0), (1, am_i x1), (2, am_i x2)], [], σ) := by
  have hc := ct_X2_howManyHold
  unfold jn_X2_howManyHold_23 at h
  refine am_blk hc X 14 2 (fr' := (4, [(0, am_r 10 9 0), (1, am_i x1), (2, am_i (x2 + 1))], [], σ)) rfl ⟨trivial, trivial, trivial⟩ ?_
  exact hk4 x1 (x2 + 1) _ h
def lb_X2_howManyHold_4 (k4 : Int32 → Int32 → am_S → Option (Int32 × am_S)) (x1 : Int32) (x2 : Int32) (σ : am_S) : Option (Int32 × am_S) :=
  (if 8 ≤ x2 then some (x1, σ) else (bif am_in x2 8 then (if (σ.1 10 10 0 ((x2 : Int32).toNatClampNeg)) = (-1) then jn_X2_howManyHold_23 k4 x1 x2 (σ) else jn_X2_howManyHold_23 k4 (x1 + 1) x2 (σ)) else none))
set_option maxRecDepth 100000 in
theorem lc_X2_howManyHold_4 {p : Program} {l : Launch} {e : Env} {s : State} {m : MethodId} {args : Array Value} {below : List Frame} {meth : Method} {c : Code} {G : am_G} {q : Int32 × am_S} (X : am_X p s m args c cX2_howManyHold yX2_howManyHold.cls 3 am_p2 G (am_fr G)) (hr : meth.sig.returnType = (some .int) ∧ meth.locks = false)  (k4 : Int32 → Int32 → am_S → Option (Int32 × am_S)) (hk4 : ∀ (x1 : Int32) (x2 : Int32) (σ : am_S), k4 x1 x2 σ = some q → am_A p l e (am_ro 0) s m args below meth c 3 G (am_fr G) 0 0 (MQ below (am_Qc G (some (am_i q.1)) q.2) args s 0 0 (am_fr G)) (4, [(0, am_r 10 9 0), (1, am_i x1), (2, am_i x2)], [], σ)) (x1 : Int32) (x2 : Int32) (σ : am_S) (h : lb_X2_howManyHold_4 k4 x1 x2 σ = some q) : am_A p l e (am_ro 0) s m args below meth c 3 G (am_fr G) 0 0 (MQ below (am_Qc G (some (am_i q.1)) q.2) args s 0 0 (am_fr G)) (4, [(0, am_r 10 9 0), (1, am_i x1), (2, am_i x2)], [], σ) := by
  have hc := ct_X2_howManyHold
  unfold lb_X2_howManyHold_4 at h
  refine am_blk hc X 4 2 (fr' := (7, [(0, am_r 10 9 0), (1, am_i x1), (2, am_i x2)], [am_i 8, am_i x2], σ)) rfl ⟨trivial, trivial, trivial⟩ ?_
  refine am_icmp_ge hc X 6 (tgt := 29) rfl (by decide) (fun c3 => ?_) (fun c3 => ?_)
  · replace h := am_ip c3 h
    refine am_blk hc X 16 1 (fr' := (30, [(0, am_r 10 9 0), (1, am_i x1), (2, am_i x2)], [am_i x1], σ)) rfl ⟨trivial, trivial⟩ ?_
    obtain rfl := Option.some.inj h
    exact am_iret hc X hr 17 rfl rfl rfl
  · replace h := am_in2 c3 h
    obtain ⟨ob1, h⟩ := am_ci h
    refine am_blk hc X 7 5 (fr' := (17, [(0, am_r 10 9 0), (1, am_i x1), (2, am_i x2)], [am_i (-1), am_i (σ.1 10 10 0 ((x2 : Int32).toNatClampNeg))], σ)) rfl ⟨trivial, trivial, trivial, (am_in_vp ob1), trivial, trivial⟩ ?_
    refine am_icmp_eq hc X 12 (tgt := 23) rfl (by decide) (fun c2 => ?_) (fun c2 => ?_)
    · replace h := am_ip c2 h
      exact jl_X2_howManyHold_23 X hr k4 hk4 x1 x2 _ h
    · replace h := am_in2 c2 h
      refine am_blk hc X 13 1 (fr' := (23, [(0, am_r 10 9 0), (1, am_i (x1 + 1)), (2, am_i x2)], [], σ)) rfl ⟨trivial, trivial⟩ ?_
      exact jl_X2_howManyHold_23 X hr k4 hk4 (x1 + 1) x2 _ h
def lp_X2_howManyHold_4  : Nat → Int32 → Int32 → am_S → Option (Int32 × am_S)
  | 0 => fun _ _ _ => none
  | n + 1 => lb_X2_howManyHold_4  (lp_X2_howManyHold_4  n)
theorem ll_X2_howManyHold_4 {p : Program} {l : Launch} {e : Env} {s : State} {m : MethodId} {args : Array Value} {below : List Frame} {meth : Method} {c : Code} {G : am_G} {q : Int32 × am_S} (X : am_X p s m args c cX2_howManyHold yX2_howManyHold.cls 3 am_p2 G (am_fr G)) (hr : meth.sig.returnType = (some .int) ∧ meth.locks = false)    : ∀ (n : Nat) (x1 : Int32) (x2 : Int32) (σ : am_S), lp_X2_howManyHold_4  n x1 x2 σ = some q → am_A p l e (am_ro 0) s m args below meth c 3 G (am_fr G) 0 0 (MQ below (am_Qc G (some (am_i q.1)) q.2) args s 0 0 (am_fr G)) (4, [(0, am_r 10 9 0), (1, am_i x1), (2, am_i x2)], [], σ) := by
  intro n
  induction n with
  | zero =>
    intro x1 x2 σ h
    have h : (none : Option (Int32 × am_S)) = some q := h
    cases h
  | succ n ih =>
    intro x1 x2 σ h
    exact lc_X2_howManyHold_4 X hr  (lp_X2_howManyHold_4  n) ih x1 x2 σ h
def fn_X2_howManyHold  (σ : am_S) : Option (Int32 × am_S) :=
  lp_X2_howManyHold_4  1000 0 0 (σ)
set_option maxRecDepth 100000 in
theorem ok_X2_howManyHold (l : Launch)  (σ : am_S) {q : Int32 × am_S} (h : fn_X2_howManyHold  σ = some q) : am_M l yX2_howManyHold cX2_howManyHold 3 (some .int) 0 [am_r 10 9 0] σ (some (am_i q.1)) q.2 := by
  refine am_M_of (P := am_p2) (by decide +kernel) am_p2_ok rfl ?_
  intro G p e s m args below meth c X hr
  have hc := ct_X2_howManyHold
  unfold fn_X2_howManyHold at h
  refine am_blk hc X 0 4 (fr' := (4, [(0, am_r 10 9 0), (1, am_i 0), (2, am_i 0)], [], σ)) rfl ⟨trivial, trivial, trivial, trivial, trivial⟩ ?_
  exact ll_X2_howManyHold_4 X hr   1000 0 0 _ h
def jn_X2_keepPeopleBelow_28 (k2 : Int32 → Int32 → am_S → Option (am_S)) (x1 : Int32) (x2 : Int32) (σ : am_S) : Option (am_S) :=
  k2 x1 (x2 + 1) (σ)
set_option maxRecDepth 100000 in
theorem jl_X2_keepPeopleBelow_28 {p : Program} {l : Launch} {e : Env} {s : State} {m : MethodId} {args : Array Value} {below : List Frame} {meth : Method} {c : Code} {G : am_G} {q : am_S} (X : am_X p s m args c cX2_keepPeopleBelow yX2_keepPeopleBelow.cls 3 am_p2 G (am_fr G)) (hr : meth.sig.returnType = none ∧ meth.locks = false)  (k2 : Int32 → Int32 → am_S → Option (am_S)) (hk2 : ∀ (x1 : Int32) (x2 : Int32) (σ : am_S), k2 x1 x2 σ = some q → am_A p l e (am_ro 0) s m args below meth c 3 G (am_fr G) 0 0 (MQ below (am_Qc G none q) args s 0 0 (am_fr G)) (2, [(0, am_r 10 9 0), (1, am_i x1), (2, am_i x2)], [], σ)) (x1 : Int32) (x2 : Int32) (σ : am_S) (h : jn_X2_keepPeopleBelow_28 k2 x1 x2 σ = some q) : am_A p l e (am_ro 0) s m args below meth c 3 G (am_fr G) 0 0 (MQ below (am_Qc G none q) args s 0 0 (am_fr G)) (28, [(0, am_r 10 9 0), (1, am_i x1), (2, am_i x2)], [], σ) := by
  have hc := ct_X2_keepPeopleBelow
  unfold jn_X2_keepPeopleBelow_28 at h
  refine am_blk hc X 18 2 (fr' := (2, [(0, am_r 10 9 0), (1, am_i x1), (2, am_i (x2 + 1))], [], σ)) rfl ⟨trivial, trivial, trivial⟩ ?_
  exact hk2 x1 (x2 + 1) _ h
def lb_X2_keepPeopleBelow_2 (k2 : Int32 → Int32 → am_S → Option (am_S)) (x1 : Int32) (x2 : Int32) (σ : am_S) : Option (am_S) :=
  (if 8 ≤ x2 then some (σ) else (bif am_in x2 8 then (if (σ.1 10 10 0 ((x2 : Int32).toNatClampNeg)) < ((10 : Int32) + x1) then jn_X2_keepPeopleBelow_28 k2 x1 x2 (σ) else (bif am_in x2 8 then jn_X2_keepPeopleBelow_28 k2 x1 x2 (am_u σ 10 10 0 ((x2 : Int32).toNatClampNeg) (-1)) else none)) else none))
set_option maxRecDepth 100000 in
theorem lc_X2_keepPeopleBelow_2 {p : Program} {l : Launch} {e : Env} {s : State} {m : MethodId} {args : Array Value} {below : List Frame} {meth : Method} {c : Code} {G : am_G} {q : am_S} (X : am_X p s m args c cX2_keepPeopleBelow yX2_keepPeopleBelow.cls 3 am_p2 G (am_fr G)) (hr : meth.sig.returnType = none ∧ meth.locks = false)  (k2 : Int32 → Int32 → am_S → Option (am_S)) (hk2 : ∀ (x1 : Int32) (x2 : Int32) (σ : am_S), k2 x1 x2 σ = some q → am_A p l e (am_ro 0) s m args below meth c 3 G (am_fr G) 0 0 (MQ below (am_Qc G none q) args s 0 0 (am_fr G)) (2, [(0, am_r 10 9 0), (1, am_i x1), (2, am_i x2)], [], σ)) (x1 : Int32) (x2 : Int32) (σ : am_S) (h : lb_X2_keepPeopleBelow_2 k2 x1 x2 σ = some q) : am_A p l e (am_ro 0) s m args below meth c 3 G (am_fr G) 0 0 (MQ below (am_Qc G none q) args s 0 0 (am_fr G)) (2, [(0, am_r 10 9 0), (1, am_i x1), (2, am_i x2)], [], σ) := by
  have hc := ct_X2_keepPeopleBelow
  unfold lb_X2_keepPeopleBelow_2 at h
  refine am_blk hc X 2 2 (fr' := (5, [(0, am_r 10 9 0), (1, am_i x1), (2, am_i x2)], [am_i 8, am_i x2], σ)) rfl ⟨trivial, trivial, trivial⟩ ?_
  refine am_icmp_ge hc X 4 (tgt := 34) rfl (by decide) (fun c4 => ?_) (fun c4 => ?_)
  · replace h := am_ip c4 h
    obtain rfl := Option.some.inj h
    exact am_vret hc X hr 20 rfl rfl rfl
  · replace h := am_in2 c4 h
    obtain ⟨ob1, h⟩ := am_ci h
    refine am_blk hc X 5 7 (fr' := (18, [(0, am_r 10 9 0), (1, am_i x1), (2, am_i x2)], [am_i ((10 : Int32) + x1), am_i (σ.1 10 10 0 ((x2 : Int32).toNatClampNeg))], σ)) rfl ⟨trivial, trivial, trivial, (am_in_vp ob1), trivial, trivial, trivial, trivial⟩ ?_
    refine am_icmp_lt hc X 12 (tgt := 28) rfl (by decide) (fun c3 => ?_) (fun c3 => ?_)
    · replace h := am_ip c3 h
      exact jl_X2_keepPeopleBelow_28 X hr k2 hk2 x1 x2 _ h
    · replace h := am_in2 c3 h
      obtain ⟨ob2, h⟩ := am_ci h
      refine am_blk hc X 13 5 (fr' := (28, [(0, am_r 10 9 0), (1, am_i x1), (2, am_i x2)], [], (am_u σ 10 10 0 ((x2 : Int32).toNatClampNeg) (-1)))) rfl ⟨trivial, trivial, trivial, trivial, (am_in_vp ob2), trivial⟩ ?_
      exact jl_X2_keepPeopleBelow_28 X hr k2 hk2 x1 x2 _ h
def lp_X2_keepPeopleBelow_2  : Nat → Int32 → Int32 → am_S → Option (am_S)
  | 0 => fun _ _ _ => none
  | n + 1 => lb_X2_keepPeopleBelow_2  (lp_X2_keepPeopleBelow_2  n)
theorem ll_X2_keepPeopleBelow_2 {p : Program} {l : Launch} {e : Env} {s : State} {m : MethodId} {args : Array Value} {below : List Frame} {meth : Method} {c : Code} {G : am_G} {q : am_S} (X : am_X p s m args c cX2_keepPeopleBelow yX2_keepPeopleBelow.cls 3 am_p2 G (am_fr G)) (hr : meth.sig.returnType = none ∧ meth.locks = false)    : ∀ (n : Nat) (x1 : Int32) (x2 : Int32) (σ : am_S), lp_X2_keepPeopleBelow_2  n x1 x2 σ = some q → am_A p l e (am_ro 0) s m args below meth c 3 G (am_fr G) 0 0 (MQ below (am_Qc G none q) args s 0 0 (am_fr G)) (2, [(0, am_r 10 9 0), (1, am_i x1), (2, am_i x2)], [], σ) := by
  intro n
  induction n with
  | zero =>
    intro x1 x2 σ h
    have h : (none : Option (am_S)) = some q := h
    cases h
  | succ n ih =>
    intro x1 x2 σ h
    exact lc_X2_keepPeopleBelow_2 X hr  (lp_X2_keepPeopleBelow_2  n) ih x1 x2 σ h
def fn_X2_keepPeopleBelow (a1 : Int32) (σ : am_S) : Option (am_S) :=
  lp_X2_keepPeopleBelow_2  1000 a1 0 (σ)
set_option maxRecDepth 100000 in
theorem ok_X2_keepPeopleBelow (l : Launch) (a1 : Int32) (σ : am_S) {q : am_S} (h : fn_X2_keepPeopleBelow a1 σ = some q) : am_M l yX2_keepPeopleBelow cX2_keepPeopleBelow 3 none 0 [am_r 10 9 0, am_i a1] σ none q := by
  refine am_M_of (P := am_p2) (by decide +kernel) am_p2_ok rfl ?_
  intro G p e s m args below meth c X hr
  have hc := ct_X2_keepPeopleBelow
  unfold fn_X2_keepPeopleBelow at h
  refine am_blk hc X 0 2 (fr' := (2, [(0, am_r 10 9 0), (1, am_i a1), (2, am_i 0)], [], σ)) rfl ⟨trivial, trivial, trivial⟩ ?_
  exact ll_X2_keepPeopleBelow_2 X hr   1000 a1 0 _ h
def fn_X2_narrowed (a0 : Int32) (a1 : Int64) (σ : am_S) : Option (Int64 × am_S) :=
  (if a0 = 0 then some (((((((a1 : Int64).toInt32) : Int32).toInt8.toInt32) : Int32).toInt64), σ) else (if a0 = 1 then some (((((((a1 : Int64).toInt32) : Int32).toInt16.toInt32) : Int32).toInt64), σ) else (if a0 = 2 then some (((((a1 : Int64).toInt32) : Int32).toInt64), σ) else (if a0 = 3 then some (a1, σ) else (if (lg_cmp a1 0) = 0 then some (0, σ) else some (1, σ))))))
set_option maxRecDepth 100000 in
theorem ok_X2_narrowed (l : Launch) (a0 : Int32) (a1 : Int64) (σ : am_S) {q : Int64 × am_S} (h : fn_X2_narrowed a0 a1 σ = some q) : am_M l yX2_narrowed cX2_narrowed 3 (some .long) 0 [am_i a0, am_l a1] σ (some (am_l q.1)) q.2 := by
  refine am_M_of (P := am_p2) (by decide +kernel) am_p2_ok rfl ?_
  intro G p e s m args below meth c X hr
  have hc := ct_X2_narrowed
  unfold fn_X2_narrowed at h
  refine am_blk hc X 0 1 (fr' := (1, [(0, am_i a0), (1, am_l a1)], [am_i a0], σ)) rfl ⟨trivial, trivial⟩ ?_
  by_cases c2 : a0 = 0
  · replace h := am_ip c2 h
    refine am_tin hc X 1 (tgt := 32) (off := 31) rfl (by rw [c2]; decide) (by rw [c2]; decide) (by rw [c2]; rfl) (by decide) ?_
    refine am_blk hc X 2 4 (fr' := (36, [(0, am_i a0), (1, am_l a1)], [am_l ((((((a1 : Int64).toInt32) : Int32).toInt8.toInt32) : Int32).toInt64)], σ)) rfl ⟨trivial, trivial, trivial, trivial, trivial⟩ ?_
    obtain rfl := Option.some.inj h
    exact am_lret hc X hr 6 rfl rfl rfl
  · replace h := am_in2 c2 h
    by_cases c3 : a0 = 1
    · replace h := am_ip c3 h
      refine am_tin hc X 1 (tgt := 37) (off := 36) rfl (by rw [c3]; decide) (by rw [c3]; decide) (by rw [c3]; rfl) (by decide) ?_
      refine am_blk hc X 7 4 (fr' := (41, [(0, am_i a0), (1, am_l a1)], [am_l ((((((a1 : Int64).toInt32) : Int32).toInt16.toInt32) : Int32).toInt64)], σ)) rfl ⟨trivial, trivial, trivial, trivial, trivial⟩ ?_
      obtain rfl := Option.some.inj h
      exact am_lret hc X hr 11 rfl rfl rfl
    · replace h := am_in2 c3 h
      by_cases c4 : a0 = 2
      · replace h := am_ip c4 h
        refine am_tin hc X 1 (tgt := 42) (off := 41) rfl (by rw [c4]; decide) (by rw [c4]; decide) (by rw [c4]; rfl) (by decide) ?_
        refine am_blk hc X 12 3 (fr' := (45, [(0, am_i a0), (1, am_l a1)], [am_l ((((a1 : Int64).toInt32) : Int32).toInt64)], σ)) rfl ⟨trivial, trivial, trivial, trivial⟩ ?_
        obtain rfl := Option.some.inj h
        exact am_lret hc X hr 15 rfl rfl rfl
      · replace h := am_in2 c4 h
        by_cases c5 : a0 = 3
        · replace h := am_ip c5 h
          refine am_tin hc X 1 (tgt := 46) (off := 45) rfl (by rw [c5]; decide) (by rw [c5]; decide) (by rw [c5]; rfl) (by decide) ?_
          refine am_blk hc X 16 1 (fr' := (47, [(0, am_i a0), (1, am_l a1)], [am_l a1], σ)) rfl ⟨trivial, trivial⟩ ?_
          obtain rfl := Option.some.inj h
          exact am_lret hc X hr 17 rfl rfl rfl
        · replace h := am_in2 c5 h
          refine am_tout hc X 1 (tgt := 48) rfl (am_sw 0 3 (fun z h1 h2 => ?_)) (by decide) ?_
          · rcases (show z = 0 ∨ z = 1 ∨ z = 2 ∨ z = 3 by omega) with rfl | rfl | rfl | rfl
            · exact lv_neT c2 rfl
            · exact lv_neT c3 rfl
            · exact lv_neT c4 rfl
            · exact lv_neT c5 rfl
          · refine am_blk hc X 18 3 (fr' := (51, [(0, am_i a0), (1, am_l a1)], [am_i (lg_cmp a1 0)], σ)) rfl ⟨trivial, trivial, trivial, trivial⟩ ?_
            refine am_if_eq hc X 21 (tgt := 58) rfl (by decide) (fun c1 => ?_) (fun c1 => ?_)
            · replace h := am_ip c1 h
              refine am_blk hc X 24 1 (fr' := (59, [(0, am_i a0), (1, am_l a1)], [am_l 0], σ)) rfl ⟨trivial, trivial⟩ ?_
              obtain rfl := Option.some.inj h
              exact am_lret hc X hr 25 rfl rfl rfl
            · replace h := am_in2 c1 h
              refine am_blk hc X 22 2 (fr' := (59, [(0, am_i a0), (1, am_l a1)], [am_l 1], σ)) rfl ⟨trivial, trivial, trivial⟩ ?_
              obtain rfl := Option.some.inj h
              exact am_lret hc X hr 25 rfl rfl rfl
def fn_X2_putElement (a1 : Int32) (a2 : Int32) (a3 : Int64) (σ : am_S) : Option (am_S) :=
  (fn_X2_hasElement a1 a2 (σ)).bind fun q1 => (if q1.1 = 0 then some q1.2 else (bif am_in a1 8 then (bif am_in a1 8 then (fn_X2_narrowed (q1.2.1 10 10 0 ((a1 : Int32).toNatClampNeg)) a3 q1.2).bind fun q5 => (bif am_in a2 40 then some (am_ul q5.2 10 13 ((a1 : Int32).toNatClampNeg) ((a2 : Int32).toNatClampNeg) q5.1) else none) else none) else none))
set_option maxRecDepth 100000 in
theorem ok_X2_putElement (l : Launch) (a1 : Int32) (a2 : Int32) (a3 : Int64) (σ : am_S) {q : am_S} (h : fn_X2_putElement a1 a2 a3 σ = some q) : am_M l yX2_putElement cX2_putElement 5 none 2 [am_r 10 9 0, am_i a1, am_i a2, am_l a3] σ none q := by
  refine am_M_of (P := am_p2) (by decide +kernel) am_p2_ok rfl ?_
  intro G p e s m args below meth c X hr
  have hc := ct_X2_putElement
  unfold fn_X2_putElement at h
  refine am_blk hc X 0 3 (fr' := (3, [(0, am_r 10 9 0), (1, am_i a1), (2, am_i a2), (3, am_l a3)], [am_i a2, am_i a1, am_r 10 9 0], σ)) rfl ⟨trivial, trivial, trivial, trivial⟩ ?_
  obtain ⟨q1, hq2, h⟩ := am_bs h
  refine am_callV hc 3 X (k := 9) (i := 0) (o := 10) (As := [am_i a1, am_i a2]) (rest := []) rfl (ok_X2_hasElement l a1 a2 (σ) hq2) yv_X2_hasElement ml_X2_43 (cl_9) rfl rfl rfl rfl rfl ?_
  refine am_if_eq hc X 4 (tgt := 27) rfl (by decide) (fun c8 => ?_) (fun c8 => ?_)
  · replace h := am_ip c8 h
    obtain rfl := Option.some.inj h
    exact am_vret hc X hr 17 rfl rfl rfl
  · replace h := am_in2 c8 h
    obtain ⟨ob3, h⟩ := am_ci h
    obtain ⟨ob4, h⟩ := am_ci h
    refine am_blk hc X 5 10 (fr' := (23, [(0, am_r 10 9 0), (1, am_i a1), (2, am_i a2), (3, am_l a3)], [am_l a3, am_i (q1.2.1 10 10 0 ((a1 : Int32).toNatClampNeg)), am_i a2, am_r 10 13 ((a1 : Int32).toNatClampNeg)], q1.2)) rfl ⟨trivial, trivial, trivial, (am_in_vp ob3), trivial, trivial, trivial, trivial, (am_in_vp ob4), trivial, trivial⟩ ?_
    obtain ⟨q5, hq6, h⟩ := am_bs h
    refine am_callS hc 15 X (As := [am_i (q1.2.1 10 10 0 ((a1 : Int32).toNatClampNeg)), am_l a3]) (rest := [am_i a2, am_r 10 13 ((a1 : Int32).toNatClampNeg)]) rfl (ok_X2_narrowed l (q1.2.1 10 10 0 ((a1 : Int32).toNatClampNeg)) a3 q1.2 hq6) yv_X2_narrowed ml_X2_47 rfl rfl rfl rfl rfl ?_
    obtain ⟨ob7, h⟩ := am_ci h
    refine am_blk hc X 16 1 (fr' := (27, [(0, am_r 10 9 0), (1, am_i a1), (2, am_i a2), (3, am_l a3)], [], (am_ul q5.2 10 13 ((a1 : Int32).toNatClampNeg) ((a2 : Int32).toNatClampNeg) q5.1))) rfl ⟨(am_in_vp ob7), trivial⟩ ?_
    obtain rfl := Option.some.inj h
    exact am_vret hc X hr 17 rfl rfl rfl
def lb_J7_fill_d0a16_13_6 (k6 : Nat → Int64 → Int32 → Int32 → am_S → Option (am_S)) (ix0 : Nat) (x1 : Int64) (x3 : Int32) (x4 : Int32) (σ : am_S) : Option (am_S) :=
  (if x4 ≤ x3 then some (σ) else (bif am_in x3 40 then k6 ix0 x1 (x3 + 1) x4 (am_ul σ 10 13 ix0 ((x3 : Int32).toNatClampNeg) x1) else none))
set_option maxRecDepth 100000 in
theorem lc_J7_fill_d0a16_13_6 {p : Program} {l : Launch} {e : Env} {s : State} {m : MethodId} {args : Array Value} {below : List Frame} {meth : Method} {c : Code} {G : am_G} {q : am_S} (X : am_X p s m args c cJ7_fill_d0a16 yJ7_fill_d0a16.cls 5 am_pJ G (am_fr G)) (hr : meth.sig.returnType = none ∧ meth.locks = false)  (k6 : Nat → Int64 → Int32 → Int32 → am_S → Option (am_S)) (hk6 : ∀ (ix0 : Nat) (x1 : Int64) (x3 : Int32) (x4 : Int32) (σ : am_S), k6 ix0 x1 x3 x4 σ = some q → am_A p l e (am_ro 0) s m args below meth c 5 G (am_fr G) 0 0 (MQ below (am_Qc G none q) args s 0 0 (am_fr G)) (6, [(0, am_r 10 13 ix0), (1, am_l x1), (3, am_i x3), (4, am_i x4)], [], σ)) (ix0 : Nat) (x1 : Int64) (x3 : Int32) (x4 : Int32) (σ : am_S) (h : lb_J7_fill_d0a16_13_6 k6 ix0 x1 x3 x4 σ = some q) : am_A p l e (am_ro 0) s m args below meth c 5 G (am_fr G) 0 0 (MQ below (am_Qc G none q) args s 0 0 (am_fr G)) (6, [(0, am_r 10 13 ix0), (1, am_l x1), (3, am_i x3), (4, am_i x4)], [], σ) := by
  have hc := ct_J7_fill_d0a16
  unfold lb_J7_fill_d0a16_13_6 at h
  refine am_blk hc X 5 2 (fr' := (9, [(0, am_r 10 13 ix0), (1, am_l x1), (3, am_i x3), (4, am_i x4)], [am_i x4, am_i x3], σ)) rfl ⟨trivial, trivial, trivial⟩ ?_
  refine am_icmp_ge hc X 7 (tgt := 22) rfl (by decide) (fun c2 => ?_) (fun c2 => ?_)
  · replace h := am_ip c2 h
    obtain rfl := Option.some.inj h
    exact am_vret hc X hr 14 rfl rfl rfl
  · replace h := am_in2 c2 h
    obtain ⟨ob1, h⟩ := am_ci h
    refine am_blk hc X 8 6 (fr' := (6, [(0, am_r 10 13 ix0), (1, am_l x1), (3, am_i (x3 + 1)), (4, am_i x4)], [], (am_ul σ 10 13 ix0 ((x3 : Int32).toNatClampNeg) x1))) rfl ⟨trivial, trivial, trivial, (am_in_vp ob1), trivial, trivial, trivial⟩ ?_
    exact hk6 ix0 x1 (x3 + 1) x4 _ h
def lp_J7_fill_d0a16_13_6  : Nat → Nat → Int64 → Int32 → Int32 → am_S → Option (am_S)
  | 0 => fun _ _ _ _ _ => none
  | n + 1 => lb_J7_fill_d0a16_13_6  (lp_J7_fill_d0a16_13_6  n)
theorem ll_J7_fill_d0a16_13_6 {p : Program} {l : Launch} {e : Env} {s : State} {m : MethodId} {args : Array Value} {below : List Frame} {meth : Method} {c : Code} {G : am_G} {q : am_S} (X : am_X p s m args c cJ7_fill_d0a16 yJ7_fill_d0a16.cls 5 am_pJ G (am_fr G)) (hr : meth.sig.returnType = none ∧ meth.locks = false)    : ∀ (n : Nat) (ix0 : Nat) (x1 : Int64) (x3 : Int32) (x4 : Int32) (σ : am_S), lp_J7_fill_d0a16_13_6  n ix0 x1 x3 x4 σ = some q → am_A p l e (am_ro 0) s m args below meth c 5 G (am_fr G) 0 0 (MQ below (am_Qc G none q) args s 0 0 (am_fr G)) (6, [(0, am_r 10 13 ix0), (1, am_l x1), (3, am_i x3), (4, am_i x4)], [], σ) := by
  intro n
  induction n with
  | zero =>
    intro ix0 x1 x3 x4 σ h
    have h : (none : Option (am_S)) = some q := h
    cases h
  | succ n ih =>
    intro ix0 x1 x3 x4 σ h
    exact lc_J7_fill_d0a16_13_6 X hr  (lp_J7_fill_d0a16_13_6  n) ih ix0 x1 x3 x4 σ h
def fn_J7_fill_d0a16_13 (ia0 : Nat) (a1 : Int64) (σ : am_S) : Option (am_S) :=
  lp_J7_fill_d0a16_13_6  1000 ia0 a1 0 40 (σ)
set_option maxRecDepth 100000 in
theorem ok_J7_fill_d0a16_13 (l : Launch) (ia0 : Nat) (a1 : Int64) (σ : am_S) {q : am_S} (h : fn_J7_fill_d0a16_13 ia0 a1 σ = some q) : am_M l yJ7_fill_d0a16 cJ7_fill_d0a16 5 none 0 [am_r 10 13 ia0, am_l a1] σ none q := by
  refine am_M_of (P := am_pJ) (by decide +kernel) am_pJ_ok rfl ?_
  intro G p e s m args below meth c X hr
  have hc := ct_J7_fill_d0a16
  unfold fn_J7_fill_d0a16_13 at h
  refine am_blk hc X 0 5 (fr' := (6, [(0, am_r 10 13 ia0), (1, am_l a1), (3, am_i 0), (4, am_i 40)], [], σ)) rfl ⟨trivial, trivial, trivial, trivial, trivial, trivial⟩ ?_
  exact ll_J7_fill_d0a16_13_6 X hr   1000 ia0 a1 0 40 _ h
def fn_X2_putRow (a1 : Int32) (a2 : Int32) (a3 : Int32) (σ : am_S) : Option (am_S) :=
  (bif am_in a1 8 then (bif am_in a1 8 then (bif am_in a1 8 then (fn_J7_fill_d0a16_13 ((a1 : Int32).toNatClampNeg) 0 (am_u (am_u σ 10 10 0 ((a1 : Int32).toNatClampNeg) a2) 10 11 0 ((a1 : Int32).toNatClampNeg) a3)).bind fun q4 => some q4 else none) else none) else none)
set_option maxRecDepth 100000 in
theorem ok_X2_putRow (l : Launch) (a1 : Int32) (a2 : Int32) (a3 : Int32) (σ : am_S) {q : am_S} (h : fn_X2_putRow a1 a2 a3 σ = some q) : am_M l yX2_putRow cX2_putRow 4 none 1 [am_r 10 9 0, am_i a1, am_i a2, am_i a3] σ none q := by
  refine am_M_of (P := am_p2) (by decide +kernel) am_p2_ok rfl ?_
  intro G p e s m args below meth c X hr
  have hc := ct_X2_putRow
  unfold fn_X2_putRow at h
  obtain ⟨ob1, h⟩ := am_ci h
  obtain ⟨ob2, h⟩ := am_ci h
  obtain ⟨ob3, h⟩ := am_ci h
  refine am_blk hc X 0 15 (fr' := (21, [(0, am_r 10 9 0), (1, am_i a1), (2, am_i a2), (3, am_i a3)], [am_l 0, am_r 10 13 ((a1 : Int32).toNatClampNeg)], (am_u (am_u σ 10 10 0 ((a1 : Int32).toNatClampNeg) a2) 10 11 0 ((a1 : Int32).toNatClampNeg) a3))) rfl ⟨trivial, trivial, trivial, trivial, (am_in_vp ob1), trivial, trivial, trivial, trivial, (am_in_vp ob2), trivial, trivial, trivial, (am_in_vp ob3), trivial, trivial⟩ ?_
  obtain ⟨q4, hq5, h⟩ := am_bs h
  refine am_callS hc 15 X (As := [am_r 10 13 ((a1 : Int32).toNatClampNeg), am_l 0]) (rest := []) rfl (ok_J7_fill_d0a16_13 l ((a1 : Int32).toNatClampNeg) 0 (am_u (am_u σ 10 10 0 ((a1 : Int32).toNatClampNeg) a2) 10 11 0 ((a1 : Int32).toNatClampNeg) a3) hq5) yv_J7_fill_d0a16 ml_X2_29 rfl rfl rfl rfl rfl ?_
  obtain rfl := Option.some.inj h
  exact am_vret hc X hr 16 rfl rfl rfl
def fn_X2_refusalOfRow (a1 : Int32) (σ : am_S) : Option (Int32 × am_S) :=
  (bif am_in a1 8 then (if (σ.1 10 10 0 ((a1 : Int32).toNatClampNeg)) = (-1) then some ((-4), σ) else (fn_X2_isRow a1 (σ)).bind fun q2 => (if q2.1 = 0 then some ((-3), q2.2) else some (0, q2.2))) else none)
set_option maxRecDepth 100000 in
theorem ok_X2_refusalOfRow (l : Launch) (a1 : Int32) (σ : am_S) {q : Int32 × am_S} (h : fn_X2_refusalOfRow a1 σ = some q) : am_M l yX2_refusalOfRow cX2_refusalOfRow 2 (some .int) 1 [am_r 10 9 0, am_i a1] σ (some (am_i q.1)) q.2 := by
  refine am_M_of (P := am_p2) (by decide +kernel) am_p2_ok rfl ?_
  intro G p e s m args below meth c X hr
  have hc := ct_X2_refusalOfRow
  unfold fn_X2_refusalOfRow at h
  obtain ⟨ob1, h⟩ := am_ci h
  refine am_blk hc X 0 5 (fr' := (7, [(0, am_r 10 9 0), (1, am_i a1)], [am_i (-1), am_i (σ.1 10 10 0 ((a1 : Int32).toNatClampNeg))], σ)) rfl ⟨trivial, trivial, trivial, (am_in_vp ob1), trivial, trivial⟩ ?_
  refine am_icmp_ne hc X 5 (tgt := 13) rfl (by decide) (fun c5 => ?_) (fun c5 => ?_)
  · replace h := am_in2 c5 h
    refine am_blk hc X 8 2 (fr' := (15, [(0, am_r 10 9 0), (1, am_i a1)], [am_i a1, am_r 10 9 0], σ)) rfl ⟨trivial, trivial, trivial⟩ ?_
    obtain ⟨q2, hq3, h⟩ := am_bs h
    refine am_callV hc 10 X (k := 9) (i := 0) (o := 10) (As := [am_i a1]) (rest := []) rfl (ok_X2_isRow l a1 (σ) hq3) yv_X2_isRow ml_X2_32 (cl_9) rfl rfl rfl rfl rfl ?_
    refine am_if_eq hc X 11 (tgt := 25) rfl (by decide) (fun c4 => ?_) (fun c4 => ?_)
    · replace h := am_ip c4 h
      refine am_blk hc X 14 1 (fr' := (27, [(0, am_r 10 9 0), (1, am_i a1)], [am_i (-3)], q2.2)) rfl ⟨trivial, trivial⟩ ?_
      obtain rfl := Option.some.inj h
      exact am_iret hc X hr 15 rfl rfl rfl
    · replace h := am_in2 c4 h
      refine am_blk hc X 12 2 (fr' := (27, [(0, am_r 10 9 0), (1, am_i a1)], [am_i 0], q2.2)) rfl ⟨trivial, trivial, trivial⟩ ?_
      obtain rfl := Option.some.inj h
      exact am_iret hc X hr 15 rfl rfl rfl
  · replace h := am_ip c5 h
    refine am_blk hc X 6 1 (fr' := (12, [(0, am_r 10 9 0), (1, am_i a1)], [am_i (-4)], σ)) rfl ⟨trivial, trivial⟩ ?_
    obtain rfl := Option.some.inj h
    exact am_iret hc X hr 7 rfl rfl rfl
def jn_X2_refusalOfTwoRows_78   (σ : am_S) : Option (Int32 × am_S) :=
  some ((-4), σ)
set_option maxRecDepth 100000 in
theorem jl_X2_refusalOfTwoRows_78 {p : Program} {l : Launch} {e : Env} {s : State} {m : MethodId} {args : Array Value} {below : List Frame} {meth : Method} {c : Code} {G : am_G} {q : Int32 × am_S} (X : am_X p s m args c cX2_refusalOfTwoRows yX2_refusalOfTwoRows.cls 6 am_p2 G (am_fr G)) (hr : meth.sig.returnType = (some .int) ∧ meth.locks = false)     (σ : am_S) (h : jn_X2_refusalOfTwoRows_78   σ = some q) : am_A p l e (am_ro 2) s m args below meth c 6 G (am_fr G) 0 0 (MQ below (am_Qc G (some (am_i q.1)) q.2) args s 0 0 (am_fr G)) (78, [], [], σ) := by
  have hc := ct_X2_refusalOfTwoRows
  unfold jn_X2_refusalOfTwoRows_78 at h
  refine am_blk hc X 41 2 (fr' := (84, [], [am_i (-4)], σ)) rfl ⟨trivial, trivial, trivial⟩ ?_
  obtain rfl := Option.some.inj h
  exact am_iret hc X hr 44 rfl rfl rfl
def jn_X2_refusalOfTwoRows_42  (x3 : Int32) (x4 : Int32) (y0 : Int32) (σ : am_S) : Option (Int32 × am_S) :=
  (if x3 = (-3) then some ((-3), σ) else (if x4 = (-3) then some ((-3), σ) else (if y0 = 0 then (if x3 = (-4) then jn_X2_refusalOfTwoRows_78   (σ) else (if x4 = (-4) then jn_X2_refusalOfTwoRows_78   (σ) else some (0, σ))) else some ((-3), σ))))
set_option maxRecDepth 100000 in
theorem jl_X2_refusalOfTwoRows_42 {p : Program} {l : Launch} {e : Env} {s : State} {m : MethodId} {args : Array Value} {below : List Frame} {meth : Method} {c : Code} {G : am_G} {q : Int32 × am_S} (X : am_X p s m args c cX2_refusalOfTwoRows yX2_refusalOfTwoRows.cls 6 am_p2 G (am_fr G)) (hr : meth.sig.returnType = (some .int) ∧ meth.locks = false)    (x3 : Int32) (x4 : Int32) (y0 : Int32) (σ : am_S) (h : jn_X2_refusalOfTwoRows_42  x3 x4 y0 σ = some q) : am_A p l e (am_ro 2) s m args below meth c 6 G (am_fr G) 0 0 (MQ below (am_Qc G (some (am_i q.1)) q.2) args s 0 0 (am_fr G)) (42, [(3, am_i x3), (4, am_i x4)], [am_i y0], σ) := by
  have hc := ct_X2_refusalOfTwoRows
  unfold jn_X2_refusalOfTwoRows_42 at h
  refine am_blk hc X 24 3 (fr' := (47, [(3, am_i x3), (4, am_i x4), (5, am_i y0)], [am_i (-3), am_i x3], σ)) rfl ⟨trivial, trivial, trivial, trivial⟩ ?_
  refine am_icmp_eq hc X 27 (tgt := 62) rfl (by decide) (fun c9 => ?_) (fun c9 => ?_)
  · replace h := am_ip c9 h
    refine am_blk hc X 33 1 (fr' := (64, [(3, am_i x3), (4, am_i x4), (5, am_i y0)], [am_i (-3)], σ)) rfl ⟨trivial, trivial⟩ ?_
    obtain rfl := Option.some.inj h
    exact am_iret hc X hr 34 rfl rfl rfl
  · replace h := am_in2 c9 h
    refine am_blk hc X 28 2 (fr' := (54, [(3, am_i x3), (4, am_i x4), (5, am_i y0)], [am_i (-3), am_i x4], σ)) rfl ⟨trivial, trivial, trivial⟩ ?_
    refine am_icmp_eq hc X 30 (tgt := 62) rfl (by decide) (fun c8 => ?_) (fun c8 => ?_)
    · replace h := am_ip c8 h
      refine am_blk hc X 33 1 (fr' := (64, [(3, am_i x3), (4, am_i x4), (5, am_i y0)], [am_i (-3)], σ)) rfl ⟨trivial, trivial⟩ ?_
      obtain rfl := Option.some.inj h
      exact am_iret hc X hr 34 rfl rfl rfl
    · replace h := am_in2 c8 h
      refine am_blk hc X 31 1 (fr' := (59, [(3, am_i x3), (4, am_i x4), (5, am_i y0)], [am_i y0], σ)) rfl ⟨trivial, trivial⟩ ?_
      refine am_if_eq hc X 32 (tgt := 65) rfl (by decide) (fun c7 => ?_) (fun c7 => ?_)
      · replace h := am_ip c7 h
        refine am_blk hc X 35 2 (fr' := (68, [(3, am_i x3), (4, am_i x4), (5, am_i y0)], [am_i (-4), am_i x3], σ)) rfl ⟨trivial, trivial, trivial⟩ ?_
        refine am_icmp_eq hc X 37 (tgt := 78) rfl (by decide) (fun c6 => ?_) (fun c6 => ?_)
        · replace h := am_ip c6 h
          refine am_less [] rfl ?_
          exact jl_X2_refusalOfTwoRows_78 X hr    _ h
        · replace h := am_in2 c6 h
          refine am_blk hc X 38 2 (fr' := (75, [(3, am_i x3), (4, am_i x4), (5, am_i y0)], [am_i (-4), am_i x4], σ)) rfl ⟨trivial, trivial, trivial⟩ ?_
          refine am_icmp_ne hc X 40 (tgt := 83) rfl (by decide) (fun c5 => ?_) (fun c5 => ?_)
          · replace h := am_in2 c5 h
            refine am_blk hc X 43 1 (fr' := (84, [(3, am_i x3), (4, am_i x4), (5, am_i y0)], [am_i 0], σ)) rfl ⟨trivial, trivial⟩ ?_
            obtain rfl := Option.some.inj h
            exact am_iret hc X hr 44 rfl rfl rfl
          · replace h := am_ip c5 h
            refine am_less [] rfl ?_
            exact jl_X2_refusalOfTwoRows_78 X hr    _ h
      · replace h := am_in2 c7 h
        refine am_blk hc X 33 1 (fr' := (64, [(3, am_i x3), (4, am_i x4), (5, am_i y0)], [am_i (-3)], σ)) rfl ⟨trivial, trivial⟩ ?_
        obtain rfl := Option.some.inj h
        exact am_iret hc X hr 34 rfl rfl rfl
def jn_X2_refusalOfTwoRows_41  (x3 : Int32) (x4 : Int32) (σ : am_S) : Option (Int32 × am_S) :=
  jn_X2_refusalOfTwoRows_42  x3 x4 0 (σ)
set_option maxRecDepth 100000 in
theorem jl_X2_refusalOfTwoRows_41 {p : Program} {l : Launch} {e : Env} {s : State} {m : MethodId} {args : Array Value} {below : List Frame} {meth : Method} {c : Code} {G : am_G} {q : Int32 × am_S} (X : am_X p s m args c cX2_refusalOfTwoRows yX2_refusalOfTwoRows.cls 6 am_p2 G (am_fr G)) (hr : meth.sig.returnType = (some .int) ∧ meth.locks = false)    (x3 : Int32) (x4 : Int32) (σ : am_S) (h : jn_X2_refusalOfTwoRows_41  x3 x4 σ = some q) : am_A p l e (am_ro 2) s m args below meth c 6 G (am_fr G) 0 0 (MQ below (am_Qc G (some (am_i q.1)) q.2) args s 0 0 (am_fr G)) (41, [(3, am_i x3), (4, am_i x4)], [], σ) := by
  have hc := ct_X2_refusalOfTwoRows
  unfold jn_X2_refusalOfTwoRows_41 at h
  refine am_blk hc X 23 1 (fr' := (42, [(3, am_i x3), (4, am_i x4)], [am_i 0], σ)) rfl ⟨trivial, trivial⟩ ?_
  exact jl_X2_refusalOfTwoRows_42 X hr   x3 x4 0 _ h
def fn_X2_refusalOfTwoRows (a1 : Int32) (a2 : Int32) (σ : am_S) : Option (Int32 × am_S) :=
  (fn_X2_refusalOfRow a1 (σ)).bind fun q1 => (fn_X2_refusalOfRow a2 q1.2).bind fun q3 => (if q1.1 = 0 then (if q3.1 = 0 then (bif am_in a1 8 then (bif am_in a2 8 then (if (q3.2.1 10 10 0 ((a1 : Int32).toNatClampNeg)) = (q3.2.1 10 10 0 ((a2 : Int32).toNatClampNeg)) then jn_X2_refusalOfTwoRows_41  q1.1 q3.1 q3.2 else jn_X2_refusalOfTwoRows_42  q1.1 q3.1 1 q3.2) else none) else none) else jn_X2_refusalOfTwoRows_41  q1.1 q3.1 q3.2) else jn_X2_refusalOfTwoRows_41  q1.1 q3.1 q3.2)
set_option maxRecDepth 100000 in
theorem ok_X2_refusalOfTwoRows (l : Launch) (a1 : Int32) (a2 : Int32) (σ : am_S) {q : Int32 × am_S} (h : fn_X2_refusalOfTwoRows a1 a2 σ = some q) : am_M l yX2_refusalOfTwoRows cX2_refusalOfTwoRows 6 (some .int) 2 [am_r 10 9 0, am_i a1, am_i a2] σ (some (am_i q.1)) q.2 := by
  refine am_M_of (P := am_p2) (by decide +kernel) am_p2_ok rfl ?_
  intro G p e s m args below meth c X hr
  have hc := ct_X2_refusalOfTwoRows
  unfold fn_X2_refusalOfTwoRows at h
  refine am_blk hc X 0 2 (fr' := (2, [(0, am_r 10 9 0), (1, am_i a1), (2, am_i a2)], [am_i a1, am_r 10 9 0], σ)) rfl ⟨trivial, trivial, trivial⟩ ?_
  obtain ⟨q1, hq2, h⟩ := am_bs h
  refine am_callV hc 2 X (k := 9) (i := 0) (o := 10) (As := [am_i a1]) (rest := []) rfl (ok_X2_refusalOfRow l a1 (σ) hq2) yv_X2_refusalOfRow ml_X2_36 (cl_9) rfl rfl rfl rfl rfl ?_
  refine am_blk hc X 3 3 (fr' := (8, [(0, am_r 10 9 0), (1, am_i a1), (2, am_i a2), (3, am_i q1.1)], [am_i a2, am_r 10 9 0], q1.2)) rfl ⟨trivial, trivial, trivial, trivial⟩ ?_
  obtain ⟨q3, hq4, h⟩ := am_bs h
  refine am_callV hc 6 X (k := 9) (i := 0) (o := 10) (As := [am_i a2]) (rest := []) rfl (ok_X2_refusalOfRow l a2 q1.2 hq4) yv_X2_refusalOfRow ml_X2_36 (cl_9) rfl rfl rfl rfl rfl ?_
  refine am_blk hc X 7 2 (fr' := (14, [(0, am_r 10 9 0), (1, am_i a1), (2, am_i a2), (3, am_i q1.1), (4, am_i q3.1)], [am_i q1.1], q3.2)) rfl ⟨trivial, trivial, trivial⟩ ?_
  refine am_if_ne hc X 9 (tgt := 41) rfl (by decide) (fun c14 => ?_) (fun c14 => ?_)
  · replace h := am_in2 c14 h
    refine am_less [3, 4] rfl ?_
    exact jl_X2_refusalOfTwoRows_41 X hr   q1.1 q3.1 _ h
  · replace h := am_ip c14 h
    refine am_blk hc X 10 1 (fr' := (19, [(0, am_r 10 9 0), (1, am_i a1), (2, am_i a2), (3, am_i q1.1), (4, am_i q3.1)], [am_i q3.1], q3.2)) rfl ⟨trivial, trivial⟩ ?_
    refine am_if_ne hc X 11 (tgt := 41) rfl (by decide) (fun c13 => ?_) (fun c13 => ?_)
    · replace h := am_in2 c13 h
      refine am_less [3, 4] rfl ?_
      exact jl_X2_refusalOfTwoRows_41 X hr   q1.1 q3.1 _ h
    · replace h := am_ip c13 h
      obtain ⟨ob10, h⟩ := am_ci h
      obtain ⟨ob11, h⟩ := am_ci h
      refine am_blk hc X 12 8 (fr' := (34, [(0, am_r 10 9 0), (1, am_i a1), (2, am_i a2), (3, am_i q1.1), (4, am_i q3.1)], [am_i (q3.2.1 10 10 0 ((a2 : Int32).toNatClampNeg)), am_i (q3.2.1 10 10 0 ((a1 : Int32).toNatClampNeg))], q3.2)) rfl ⟨trivial, trivial, trivial, (am_in_vp ob10), trivial, trivial, trivial, (am_in_vp ob11), trivial⟩ ?_
      refine am_icmp_eq hc X 20 (tgt := 41) rfl (by decide) (fun c12 => ?_) (fun c12 => ?_)
      · replace h := am_ip c12 h
        refine am_less [3, 4] rfl ?_
        exact jl_X2_refusalOfTwoRows_41 X hr   q1.1 q3.1 _ h
      · replace h := am_in2 c12 h
        refine am_blk hc X 21 2 (fr' := (42, [(0, am_r 10 9 0), (1, am_i a1), (2, am_i a2), (3, am_i q1.1), (4, am_i q3.1)], [am_i 1], q3.2)) rfl ⟨trivial, trivial, trivial⟩ ?_
        refine am_less [3, 4] rfl ?_
        exact jl_X2_refusalOfTwoRows_42 X hr   q1.1 q3.1 1 _ h
def jn_X3_comeTo_27 (k4 : Int32 → Int32 → Int32 → am_S → Option (Int32 × am_S)) (x1 : Int32) (x2 : Int32) (x3 : Int32) (σ : am_S) : Option (Int32 × am_S) :=
  k4 x1 x2 (x3 + 1) (σ)
set_option maxRecDepth 100000 in
theorem jl_X3_comeTo_27 {p : Program} {l : Launch} {e : Env} {s : State} {m : MethodId} {args : Array Value} {below : List Frame} {meth : Method} {c : Code} {G : am_G} {q : Int32 × am_S} (X : am_X p s m args c cX3_comeTo yX3_comeTo.cls 4 am_p3 G (am_fr G)) (hr : meth.sig.returnType = (some .int) ∧ meth.locks = false)  (k4 : Int32 → Int32 → Int32 → am_S → Option (Int32 × am_S)) (hk4 : ∀ (x1 : Int32) (x2 : Int32) (x3 : Int32) (σ : am_S), k4 x1 x2 x3 σ = some q → am_A p l e (am_ro 0) s m args below meth c 4 G (am_fr G) 0 0 (MQ below (am_Qc G (some (am_i q.1)) q.2) args s 0 0 (am_fr G)) (4, [(0, am_r 14 29 0), (1, am_i x1), (2, am_i x2), (3, am_i x3)], [], σ)) (x1 : Int32) (x2 : Int32) (x3 : Int32) (σ : am_S) (h : jn_X3_comeTo_27 k4 x1 x2 x3 σ = some q) : am_A p l e (am_ro 0) s m args below meth c 4 G (am_fr G) 0 0 (MQ below (am_Qc G (some (am_i q.1)) q.2) args s 0 0 (am_fr G)) (27, [(0, am_r 14 29 0), (1, am_i x1), (2, am_i x2), (3, am_i x3)], [], σ) := by
  have hc := ct_X3_comeTo
  unfold jn_X3_comeTo_27 at h
  refine am_blk hc X 20 2 (fr' := (4, [(0, am_r 14 29 0), (1, am_i x1), (2, am_i x2), (3, am_i (x3 + 1))], [], σ)) rfl ⟨trivial, trivial, trivial⟩ ?_
  exact hk4 x1 x2 (x3 + 1) _ h
def lb_X3_comeTo_4 (k4 : Int32 → Int32 → Int32 → am_S → Option (Int32 × am_S)) (x1 : Int32) (x2 : Int32) (x3 : Int32) (σ : am_S) : Option (Int32 × am_S) :=
  (if 7 ≤ x3 then some (x2, σ) else (bif am_in x1 41 then (bif am_in x3 7 then (if (σ.1 14 31 ((x1 : Int32).toNatClampNeg) ((x3 : Int32).toNatClampNeg)) ≤ 0 then jn_X3_comeTo_27 k4 x1 x2 x3 (σ) else jn_X3_comeTo_27 k4 x1 (x2 ||| ((1 : Int32) <<< (x3 &&& 31))) x3 (σ)) else none) else none))
set_option maxRecDepth 100000 in
theorem lc_X3_comeTo_4 {p : Program} {l : Launch} {e : Env} {s : State} {m : MethodId} {args : Array Value} {below : List Frame} {meth : Method} {c : Code} {G : am_G} {q : Int32 × am_S} (X : am_X p s m args c cX3_comeTo yX3_comeTo.cls 4 am_p3 G (am_fr G)) (hr : meth.sig.returnType = (some .int) ∧ meth.locks = false)  (k4 : Int32 → Int32 → Int32 → am_S → Option (Int32 × am_S)) (hk4 : ∀ (x1 : Int32) (x2 : Int32) (x3 : Int32) (σ : am_S), k4 x1 x2 x3 σ = some q → am_A p l e (am_ro 0) s m args below meth c 4 G (am_fr G) 0 0 (MQ below (am_Qc G (some (am_i q.1)) q.2) args s 0 0 (am_fr G)) (4, [(0, am_r 14 29 0), (1, am_i x1), (2, am_i x2), (3, am_i x3)], [], σ)) (x1 : Int32) (x2 : Int32) (x3 : Int32) (σ : am_S) (h : lb_X3_comeTo_4 k4 x1 x2 x3 σ = some q) : am_A p l e (am_ro 0) s m args below meth c 4 G (am_fr G) 0 0 (MQ below (am_Qc G (some (am_i q.1)) q.2) args s 0 0 (am_fr G)) (4, [(0, am_r 14 29 0), (1, am_i x1), (2, am_i x2), (3, am_i x3)], [], σ) := by
  have hc := ct_X3_comeTo
  unfold lb_X3_comeTo_4 at h
  refine am_blk hc X 4 2 (fr' := (7, [(0, am_r 14 29 0), (1, am_i x1), (2, am_i x2), (3, am_i x3)], [am_i 7, am_i x3], σ)) rfl ⟨trivial, trivial, trivial⟩ ?_
  refine am_icmp_ge hc X 6 (tgt := 33) rfl (by decide) (fun c4 => ?_) (fun c4 => ?_)
  · replace h := am_ip c4 h
    refine am_blk hc X 22 1 (fr' := (34, [(0, am_r 14 29 0), (1, am_i x1), (2, am_i x2), (3, am_i x3)], [am_i x2], σ)) rfl ⟨trivial, trivial⟩ ?_
    obtain rfl := Option.some.inj h
    exact am_iret hc X hr 23 rfl rfl rfl
  · replace h := am_in2 c4 h
    obtain ⟨ob1, h⟩ := am_ci h
    obtain ⟨ob2, h⟩ := am_ci h
    refine am_blk hc X 7 6 (fr' := (18, [(0, am_r 14 29 0), (1, am_i x1), (2, am_i x2), (3, am_i x3)], [am_i (σ.1 14 31 ((x1 : Int32).toNatClampNeg) ((x3 : Int32).toNatClampNeg))], σ)) rfl ⟨trivial, trivial, trivial, (am_in_vp ob1), trivial, (am_in_vp ob2), trivial⟩ ?_
    refine am_if_le hc X 13 (tgt := 27) rfl (by decide) (fun c3 => ?_) (fun c3 => ?_)
    · replace h := am_ip c3 h
      exact jl_X3_comeTo_27 X hr k4 hk4 x1 x2 x3 _ h
    · replace h := am_in2 c3 h
      refine am_blk hc X 14 6 (fr' := (27, [(0, am_r 14 29 0), (1, am_i x1), (2, am_i (x2 ||| ((1 : Int32) <<< (x3 &&& 31)))), (3, am_i x3)], [], σ)) rfl ⟨trivial, trivial, trivial, trivial, trivial, trivial, trivial⟩ ?_
      exact jl_X3_comeTo_27 X hr k4 hk4 x1 (x2 ||| ((1 : Int32) <<< (x3 &&& 31))) x3 _ h
def lp_X3_comeTo_4  : Nat → Int32 → Int32 → Int32 → am_S → Option (Int32 × am_S)
  | 0 => fun _ _ _ _ => none
  | n + 1 => lb_X3_comeTo_4  (lp_X3_comeTo_4  n)
theorem ll_X3_comeTo_4 {p : Program} {l : Launch} {e : Env} {s : State} {m : MethodId} {args : Array Value} {below : List Frame} {meth : Method} {c : Code} {G : am_G} {q : Int32 × am_S} (X : am_X p s m args c cX3_comeTo yX3_comeTo.cls 4 am_p3 G (am_fr G)) (hr : meth.sig.returnType = (some .int) ∧ meth.locks = false)    : ∀ (n : Nat) (x1 : Int32) (x2 : Int32) (x3 : Int32) (σ : am_S), lp_X3_comeTo_4  n x1 x2 x3 σ = some q → am_A p l e (am_ro 0) s m args below meth c 4 G (am_fr G) 0 0 (MQ below (am_Qc G (some (am_i q.1)) q.2) args s 0 0 (am_fr G)) (4, [(0, am_r 14 29 0), (1, am_i x1), (2, am_i x2), (3, am_i x3)], [], σ) := by
  intro n
  induction n with
  | zero =>
    intro x1 x2 x3 σ h
    have h : (none : Option (Int32 × am_S)) = some q := h
    cases h
  | succ n ih =>
    intro x1 x2 x3 σ h
    exact lc_X3_comeTo_4 X hr  (lp_X3_comeTo_4  n) ih x1 x2 x3 σ h
def fn_X3_comeTo (a1 : Int32) (σ : am_S) : Option (Int32 × am_S) :=
  lp_X3_comeTo_4  1000 a1 0 0 (σ)
set_option maxRecDepth 100000 in
theorem ok_X3_comeTo (l : Launch) (a1 : Int32) (σ : am_S) {q : Int32 × am_S} (h : fn_X3_comeTo a1 σ = some q) : am_M l yX3_comeTo cX3_comeTo 4 (some .int) 0 [am_r 14 29 0, am_i a1] σ (some (am_i q.1)) q.2 := by
  refine am_M_of (P := am_p3) (by decide +kernel) am_p3_ok rfl ?_
  intro G p e s m args below meth c X hr
  have hc := ct_X3_comeTo
  unfold fn_X3_comeTo at h
  refine am_blk hc X 0 4 (fr' := (4, [(0, am_r 14 29 0), (1, am_i a1), (2, am_i 0), (3, am_i 0)], [], σ)) rfl ⟨trivial, trivial, trivial, trivial, trivial⟩ ?_
  exact ll_X3_comeTo_4 X hr   1000 a1 0 0 _ h
def lb_X3_forged_2 (k2 : Int32 → Int32 → am_S → Option (Int32 × am_S)) (x1 : Int32) (x2 : Int32) (σ : am_S) : Option (Int32 × am_S) :=
  (if x1 ≤ x2 then some ((-1), σ) else (fn_X3_comeTo (x2 + (1 : Int32)) (σ)).bind fun q1 => (if q1.1 = 0 then some (x2, q1.2) else k2 x1 (x2 + 1) q1.2))
set_option maxRecDepth 100000 in
theorem lc_X3_forged_2 {p : Program} {l : Launch} {e : Env} {s : State} {m : MethodId} {args : Array Value} {below : List Frame} {meth : Method} {c : Code} {G : am_G} {q : Int32 × am_S} (X : am_X p s m args c cX3_forged yX3_forged.cls 3 am_p3 G (am_fr G)) (hr : meth.sig.returnType = (some .int) ∧ meth.locks = false)  (k2 : Int32 → Int32 → am_S → Option (Int32 × am_S)) (hk2 : ∀ (x1 : Int32) (x2 : Int32) (σ : am_S), k2 x1 x2 σ = some q → am_A p l e (am_ro 1) s m args below meth c 3 G (am_fr G) 0 0 (MQ below (am_Qc G (some (am_i q.1)) q.2) args s 0 0 (am_fr G)) (2, [(0, am_r 14 29 0), (1, am_i x1), (2, am_i x2)], [], σ)) (x1 : Int32) (x2 : Int32) (σ : am_S) (h : lb_X3_forged_2 k2 x1 x2 σ = some q) : am_A p l e (am_ro 1) s m args below meth c 3 G (am_fr G) 0 0 (MQ below (am_Qc G (some (am_i q.1)) q.2) args s 0 0 (am_fr G)) (2, [(0, am_r 14 29 0), (1, am_i x1), (2, am_i x2)], [], σ) := by
  have hc := ct_X3_forged
  unfold lb_X3_forged_2 at h
  refine am_blk hc X 2 2 (fr' := (4, [(0, am_r 14 29 0), (1, am_i x1), (2, am_i x2)], [am_i x1, am_i x2], σ)) rfl ⟨trivial, trivial, trivial⟩ ?_
  refine am_icmp_ge hc X 4 (tgt := 25) rfl (by decide) (fun c4 => ?_) (fun c4 => ?_)
  · replace h := am_ip c4 h
    refine am_blk hc X 15 1 (fr' := (26, [(0, am_r 14 29 0), (1, am_i x1), (2, am_i x2)], [am_i (-1)], σ)) rfl ⟨trivial, trivial⟩ ?_
    obtain rfl := Option.some.inj h
    exact am_iret hc X hr 16 rfl rfl rfl
  · replace h := am_in2 c4 h
    refine am_blk hc X 5 4 (fr' := (11, [(0, am_r 14 29 0), (1, am_i x1), (2, am_i x2)], [am_i (x2 + (1 : Int32)), am_r 14 29 0], σ)) rfl ⟨trivial, trivial, trivial, trivial, trivial⟩ ?_
    obtain ⟨q1, hq2, h⟩ := am_bs h
    refine am_callV hc 9 X (k := 29) (i := 0) (o := 14) (As := [am_i (x2 + (1 : Int32))]) (rest := []) rfl (ok_X3_comeTo l (x2 + (1 : Int32)) (σ) hq2) yv_X3_comeTo ml_X3_40 (cl_29) rfl rfl rfl rfl rfl ?_
    refine am_if_ne hc X 10 (tgt := 19) rfl (by decide) (fun c3 => ?_) (fun c3 => ?_)
    · replace h := am_in2 c3 h
      refine am_blk hc X 13 2 (fr' := (2, [(0, am_r 14 29 0), (1, am_i x1), (2, am_i (x2 + 1))], [], q1.2)) rfl ⟨trivial, trivial, trivial⟩ ?_
      exact hk2 x1 (x2 + 1) _ h
    · replace h := am_ip c3 h
      refine am_blk hc X 11 1 (fr' := (18, [(0, am_r 14 29 0), (1, am_i x1), (2, am_i x2)], [am_i x2], q1.2)) rfl ⟨trivial, trivial⟩ ?_
      obtain rfl := Option.some.inj h
      exact am_iret hc X hr 12 rfl rfl rfl
def lp_X3_forged_2  : Nat → Int32 → Int32 → am_S → Option (Int32 × am_S)
  | 0 => fun _ _ _ => none
  | n + 1 => lb_X3_forged_2  (lp_X3_forged_2  n)
theorem ll_X3_forged_2 {p : Program} {l : Launch} {e : Env} {s : State} {m : MethodId} {args : Array Value} {below : List Frame} {meth : Method} {c : Code} {G : am_G} {q : Int32 × am_S} (X : am_X p s m args c cX3_forged yX3_forged.cls 3 am_p3 G (am_fr G)) (hr : meth.sig.returnType = (some .int) ∧ meth.locks = false)    : ∀ (n : Nat) (x1 : Int32) (x2 : Int32) (σ : am_S), lp_X3_forged_2  n x1 x2 σ = some q → am_A p l e (am_ro 1) s m args below meth c 3 G (am_fr G) 0 0 (MQ below (am_Qc G (some (am_i q.1)) q.2) args s 0 0 (am_fr G)) (2, [(0, am_r 14 29 0), (1, am_i x1), (2, am_i x2)], [], σ) := by
  intro n
  induction n with
  | zero =>
    intro x1 x2 σ h
    have h : (none : Option (Int32 × am_S)) = some q := h
    cases h
  | succ n ih =>
    intro x1 x2 σ h
    exact lc_X3_forged_2 X hr  (lp_X3_forged_2  n) ih x1 x2 σ h
def fn_X3_forged (a1 : Int32) (σ : am_S) : Option (Int32 × am_S) :=
  lp_X3_forged_2  1000 a1 0 (σ)
set_option maxRecDepth 100000 in
theorem ok_X3_forged (l : Launch) (a1 : Int32) (σ : am_S) {q : Int32 × am_S} (h : fn_X3_forged a1 σ = some q) : am_M l yX3_forged cX3_forged 3 (some .int) 1 [am_r 14 29 0, am_i a1] σ (some (am_i q.1)) q.2 := by
  refine am_M_of (P := am_p3) (by decide +kernel) am_p3_ok rfl ?_
  intro G p e s m args below meth c X hr
  have hc := ct_X3_forged
  unfold fn_X3_forged at h
  refine am_blk hc X 0 2 (fr' := (2, [(0, am_r 14 29 0), (1, am_i a1), (2, am_i 0)], [], σ)) rfl ⟨trivial, trivial, trivial⟩ ?_
  exact ll_X3_forged_2 X hr   1000 a1 0 _ h
def lb_X3_howMany_4 (k4 : Int32 → Int32 → Int32 → am_S → Option (Int32 × am_S)) (x1 : Int32) (x2 : Int32) (x3 : Int32) (σ : am_S) : Option (Int32 × am_S) :=
  (if 7 ≤ x3 then some (x2, σ) else (bif am_in x1 41 then (bif am_in x3 7 then k4 x1 (if (x2 + (σ.1 14 31 ((x1 : Int32).toNatClampNeg) ((x3 : Int32).toNatClampNeg))) < 1000000 then (x2 + (σ.1 14 31 ((x1 : Int32).toNatClampNeg) ((x3 : Int32).toNatClampNeg))) else 1000000) (x3 + 1) (σ) else none) else none))
set_option maxRecDepth 100000 in
theorem lc_X3_howMany_4 {p : Program} {l : Launch} {e : Env} {s : State} {m : MethodId} {args : Array Value} {below : List Frame} {meth : Method} {c : Code} {G : am_G} {q : Int32 × am_S} (X : am_X p s m args c cX3_howMany yX3_howMany.cls 4 am_p3 G (am_fr G)) (hr : meth.sig.returnType = (some .int) ∧ meth.locks = false)  (k4 : Int32 → Int32 → Int32 → am_S → Option (Int32 × am_S)) (hk4 : ∀ (x1 : Int32) (x2 : Int32) (x3 : Int32) (σ : am_S), k4 x1 x2 x3 σ = some q → am_A p l e (am_ro 1) s m args below meth c 4 G (am_fr G) 0 0 (MQ below (am_Qc G (some (am_i q.1)) q.2) args s 0 0 (am_fr G)) (4, [(0, am_r 14 29 0), (1, am_i x1), (2, am_i x2), (3, am_i x3)], [], σ)) (x1 : Int32) (x2 : Int32) (x3 : Int32) (σ : am_S) (h : lb_X3_howMany_4 k4 x1 x2 x3 σ = some q) : am_A p l e (am_ro 1) s m args below meth c 4 G (am_fr G) 0 0 (MQ below (am_Qc G (some (am_i q.1)) q.2) args s 0 0 (am_fr G)) (4, [(0, am_r 14 29 0), (1, am_i x1), (2, am_i x2), (3, am_i x3)], [], σ) := by
  have hc := ct_X3_howMany
  unfold lb_X3_howMany_4 at h
  refine am_blk hc X 4 2 (fr' := (7, [(0, am_r 14 29 0), (1, am_i x1), (2, am_i x2), (3, am_i x3)], [am_i 7, am_i x3], σ)) rfl ⟨trivial, trivial, trivial⟩ ?_
  refine am_icmp_ge hc X 6 (tgt := 32) rfl (by decide) (fun c3 => ?_) (fun c3 => ?_)
  · replace h := am_ip c3 h
    refine am_blk hc X 20 1 (fr' := (33, [(0, am_r 14 29 0), (1, am_i x1), (2, am_i x2), (3, am_i x3)], [am_i x2], σ)) rfl ⟨trivial, trivial⟩ ?_
    obtain rfl := Option.some.inj h
    exact am_iret hc X hr 21 rfl rfl rfl
  · replace h := am_in2 c3 h
    obtain ⟨ob1, h⟩ := am_ci h
    obtain ⟨ob2, h⟩ := am_ci h
    refine am_blk hc X 7 9 (fr' := (22, [(0, am_r 14 29 0), (1, am_i x1), (2, am_i x2), (3, am_i x3)], [am_i (x2 + (σ.1 14 31 ((x1 : Int32).toNatClampNeg) ((x3 : Int32).toNatClampNeg))), am_i 1000000], σ)) rfl ⟨trivial, trivial, trivial, trivial, trivial, (am_in_vp ob1), trivial, (am_in_vp ob2), trivial, trivial⟩ ?_
    refine am_mmin hc 16 X (rest := []) rfl ml_X3_35 am_wmin rfl rfl ?_
    refine am_blk hc X 17 3 (fr' := (4, [(0, am_r 14 29 0), (1, am_i x1), (2, am_i (if (x2 + (σ.1 14 31 ((x1 : Int32).toNatClampNeg) ((x3 : Int32).toNatClampNeg))) < 1000000 then (x2 + (σ.1 14 31 ((x1 : Int32).toNatClampNeg) ((x3 : Int32).toNatClampNeg))) else 1000000)), (3, am_i (x3 + 1))], [], σ)) rfl ⟨trivial, trivial, trivial, trivial⟩ ?_
    exact hk4 x1 (if (x2 + (σ.1 14 31 ((x1 : Int32).toNatClampNeg) ((x3 : Int32).toNatClampNeg))) < 1000000 then (x2 + (σ.1 14 31 ((x1 : Int32).toNatClampNeg) ((x3 : Int32).toNatClampNeg))) else 1000000) (x3 + 1) _ h
def lp_X3_howMany_4  : Nat → Int32 → Int32 → Int32 → am_S → Option (Int32 × am_S)
  | 0 => fun _ _ _ _ => none
  | n + 1 => lb_X3_howMany_4  (lp_X3_howMany_4  n)
theorem ll_X3_howMany_4 {p : Program} {l : Launch} {e : Env} {s : State} {m : MethodId} {args : Array Value} {below : List Frame} {meth : Method} {c : Code} {G : am_G} {q : Int32 × am_S} (X : am_X p s m args c cX3_howMany yX3_howMany.cls 4 am_p3 G (am_fr G)) (hr : meth.sig.returnType = (some .int) ∧ meth.locks = false)    : ∀ (n : Nat) (x1 : Int32) (x2 : Int32) (x3 : Int32) (σ : am_S), lp_X3_howMany_4  n x1 x2 x3 σ = some q → am_A p l e (am_ro 1) s m args below meth c 4 G (am_fr G) 0 0 (MQ below (am_Qc G (some (am_i q.1)) q.2) args s 0 0 (am_fr G)) (4, [(0, am_r 14 29 0), (1, am_i x1), (2, am_i x2), (3, am_i x3)], [], σ) := by
  intro n
  induction n with
  | zero =>
    intro x1 x2 x3 σ h
    have h : (none : Option (Int32 × am_S)) = some q := h
    cases h
  | succ n ih =>
    intro x1 x2 x3 σ h
    exact lc_X3_howMany_4 X hr  (lp_X3_howMany_4  n) ih x1 x2 x3 σ h
def fn_X3_howMany (a1 : Int32) (σ : am_S) : Option (Int32 × am_S) :=
  lp_X3_howMany_4  1000 a1 0 0 (σ)
set_option maxRecDepth 100000 in
theorem ok_X3_howMany (l : Launch) (a1 : Int32) (σ : am_S) {q : Int32 × am_S} (h : fn_X3_howMany a1 σ = some q) : am_M l yX3_howMany cX3_howMany 4 (some .int) 1 [am_r 14 29 0, am_i a1] σ (some (am_i q.1)) q.2 := by
  refine am_M_of (P := am_p3) (by decide +kernel) am_p3_ok rfl ?_
  intro G p e s m args below meth c X hr
  have hc := ct_X3_howMany
  unfold fn_X3_howMany at h
  refine am_blk hc X 0 4 (fr' := (4, [(0, am_r 14 29 0), (1, am_i a1), (2, am_i 0), (3, am_i 0)], [], σ)) rfl ⟨trivial, trivial, trivial, trivial, trivial⟩ ?_
  exact ll_X3_howMany_4 X hr   1000 a1 0 0 _ h
def jn_X3_leadingInto_49 (k4 : Nat → Int32 → Int32 → Int32 → am_S → Option (Int32 × am_S)) (k13 : Nat → Int32 → Int32 → Int32 → Int32 → am_S → Option (Int32 × am_S)) (ox0 : Nat) (x1 : Int32) (x2 : Int32) (x3 : Int32) (x4 : Int32) (σ : am_S) : Option (Int32 × am_S) :=
  k13 ox0 x1 x2 x3 (x4 + 1) (σ)
set_option maxRecDepth 100000 in
theorem jl_X3_leadingInto_49 {p : Program} {l : Launch} {e : Env} {s : State} {m : MethodId} {args : Array Value} {below : List Frame} {meth : Method} {c : Code} {G : am_G} {q : Int32 × am_S} (X : am_X p s m args c cX3_leadingInto yX3_leadingInto.cls 6 am_p3 G (am_fr G)) (hr : meth.sig.returnType = (some .int) ∧ meth.locks = false)  (k4 : Nat → Int32 → Int32 → Int32 → am_S → Option (Int32 × am_S)) (k13 : Nat → Int32 → Int32 → Int32 → Int32 → am_S → Option (Int32 × am_S)) (hk4 : ∀ (ox0 : Nat) (x1 : Int32) (x2 : Int32) (x3 : Int32) (σ : am_S), k4 ox0 x1 x2 x3 σ = some q → am_A p l e (am_ro 2) s m args below meth c 6 G (am_fr G) 0 0 (MQ below (am_Qc G (some (am_i q.1)) q.2) args s 0 0 (am_fr G)) (4, [(0, am_r ox0 2 0), (1, am_i x1), (2, am_i x2), (3, am_i x3)], [], σ)) (hk13 : ∀ (ox0 : Nat) (x1 : Int32) (x2 : Int32) (x3 : Int32) (x4 : Int32) (σ : am_S), k13 ox0 x1 x2 x3 x4 σ = some q → am_A p l e (am_ro 2) s m args below meth c 6 G (am_fr G) 0 0 (MQ below (am_Qc G (some (am_i q.1)) q.2) args s 0 0 (am_fr G)) (13, [(0, am_r ox0 2 0), (1, am_i x1), (2, am_i x2), (3, am_i x3), (4, am_i x4)], [], σ)) (ox0 : Nat) (x1 : Int32) (x2 : Int32) (x3 : Int32) (x4 : Int32) (σ : am_S) (h : jn_X3_leadingInto_49 k4 k13 ox0 x1 x2 x3 x4 σ = some q) : am_A p l e (am_ro 2) s m args below meth c 6 G (am_fr G) 0 0 (MQ below (am_Qc G (some (am_i q.1)) q.2) args s 0 0 (am_fr G)) (49, [(0, am_r ox0 2 0), (1, am_i x1), (2, am_i x2), (3, am_i x3), (4, am_i x4)], [], σ) := by
  have hc := ct_X3_leadingInto
  unfold jn_X3_leadingInto_49 at h
  refine am_blk hc X 32 2 (fr' := (13, [(0, am_r ox0 2 0), (1, am_i x1), (2, am_i x2), (3, am_i x3), (4, am_i (x4 + 1))], [], σ)) rfl ⟨trivial, trivial, trivial⟩ ?_
  exact hk13 ox0 x1 x2 x3 (x4 + 1) _ h
def lb_X3_leadingInto_13 (k4 : Nat → Int32 → Int32 → Int32 → am_S → Option (Int32 × am_S)) (k13 : Nat → Int32 → Int32 → Int32 → Int32 → am_S → Option (Int32 × am_S)) (ox0 : Nat) (x1 : Int32) (x2 : Int32) (x3 : Int32) (x4 : Int32) (σ : am_S) : Option (Int32 × am_S) :=
  (if 5 ≤ x4 then k4 ox0 x1 x2 (x3 + 1) (σ) else (fn_X0_endOf ox0 x3 x4 (σ)).bind fun q1 => (if q1.1 = (-1) then jn_X3_leadingInto_49 k4 k13 ox0 x1 x2 x3 x4 q1.2 else (if (x1 &&& ((1 : Int32) <<< (q1.1 &&& 31))) = 0 then jn_X3_leadingInto_49 k4 k13 ox0 x1 x2 x3 x4 q1.2 else jn_X3_leadingInto_49 k4 k13 ox0 x1 (x2 ||| ((1 : Int32) <<< (x3 &&& 31))) x3 x4 q1.2)))
set_option maxRecDepth 100000 in
theorem lc_X3_leadingInto_13 {p : Program} {l : Launch} {e : Env} {s : State} {m : MethodId} {args : Array Value} {below : List Frame} {meth : Method} {c : Code} {G : am_G} {q : Int32 × am_S} (X : am_X p s m args c cX3_leadingInto yX3_leadingInto.cls 6 am_p3 G (am_fr G)) (hr : meth.sig.returnType = (some .int) ∧ meth.locks = false)  (k4 : Nat → Int32 → Int32 → Int32 → am_S → Option (Int32 × am_S)) (k13 : Nat → Int32 → Int32 → Int32 → Int32 → am_S → Option (Int32 × am_S)) (hk4 : ∀ (ox0 : Nat) (x1 : Int32) (x2 : Int32) (x3 : Int32) (σ : am_S), k4 ox0 x1 x2 x3 σ = some q → am_A p l e (am_ro 2) s m args below meth c 6 G (am_fr G) 0 0 (MQ below (am_Qc G (some (am_i q.1)) q.2) args s 0 0 (am_fr G)) (4, [(0, am_r ox0 2 0), (1, am_i x1), (2, am_i x2), (3, am_i x3)], [], σ)) (hk13 : ∀ (ox0 : Nat) (x1 : Int32) (x2 : Int32) (x3 : Int32) (x4 : Int32) (σ : am_S), k13 ox0 x1 x2 x3 x4 σ = some q → am_A p l e (am_ro 2) s m args below meth c 6 G (am_fr G) 0 0 (MQ below (am_Qc G (some (am_i q.1)) q.2) args s 0 0 (am_fr G)) (13, [(0, am_r ox0 2 0), (1, am_i x1), (2, am_i x2), (3, am_i x3), (4, am_i x4)], [], σ)) (ox0 : Nat) (x1 : Int32) (x2 : Int32) (x3 : Int32) (x4 : Int32) (σ : am_S) (h : lb_X3_leadingInto_13 k4 k13 ox0 x1 x2 x3 x4 σ = some q) : am_A p l e (am_ro 2) s m args below meth c 6 G (am_fr G) 0 0 (MQ below (am_Qc G (some (am_i q.1)) q.2) args s 0 0 (am_fr G)) (13, [(0, am_r ox0 2 0), (1, am_i x1), (2, am_i x2), (3, am_i x3), (4, am_i x4)], [], σ) := by
  have hc := ct_X3_leadingInto
  unfold lb_X3_leadingInto_13 at h
  refine am_blk hc X 9 2 (fr' := (16, [(0, am_r ox0 2 0), (1, am_i x1), (2, am_i x2), (3, am_i x3), (4, am_i x4)], [am_i 5, am_i x4], σ)) rfl ⟨trivial, trivial, trivial⟩ ?_
  refine am_icmp_ge hc X 11 (tgt := 55) rfl (by decide) (fun c5 => ?_) (fun c5 => ?_)
  · replace h := am_ip c5 h
    refine am_blk hc X 34 2 (fr' := (4, [(0, am_r ox0 2 0), (1, am_i x1), (2, am_i x2), (3, am_i (x3 + 1)), (4, am_i x4)], [], σ)) rfl ⟨trivial, trivial, trivial⟩ ?_
    refine am_less [0, 1, 2, 3] rfl ?_
    exact hk4 ox0 x1 x2 (x3 + 1) _ h
  · replace h := am_in2 c5 h
    refine am_blk hc X 12 3 (fr' := (23, [(0, am_r ox0 2 0), (1, am_i x1), (2, am_i x2), (3, am_i x3), (4, am_i x4)], [am_i x4, am_i x3, am_r ox0 2 0], σ)) rfl ⟨trivial, trivial, trivial, trivial⟩ ?_
    obtain ⟨q1, hq2, h⟩ := am_bs h
    refine am_callV hc 15 X (k := 2) (i := 0) (o := ox0) (As := [am_i x3, am_i x4]) (rest := []) rfl (ok_X0_endOf l ox0 x3 x4 (σ) hq2) yv_X0_endOf ml_X3_26 (cl_2) rfl rfl rfl rfl rfl ?_
    refine am_blk hc X 16 3 (fr' := (31, [(0, am_r ox0 2 0), (1, am_i x1), (2, am_i x2), (3, am_i x3), (4, am_i x4), (5, am_i q1.1)], [am_i (-1), am_i q1.1], q1.2)) rfl ⟨trivial, trivial, trivial, trivial⟩ ?_
    refine am_icmp_eq hc X 19 (tgt := 49) rfl (by decide) (fun c4 => ?_) (fun c4 => ?_)
    · replace h := am_ip c4 h
      refine am_less [0, 1, 2, 3, 4] rfl ?_
      exact jl_X3_leadingInto_49 X hr k4 k13 hk4 hk13 ox0 x1 x2 x3 x4 _ h
    · replace h := am_in2 c4 h
      refine am_blk hc X 20 5 (fr' := (40, [(0, am_r ox0 2 0), (1, am_i x1), (2, am_i x2), (3, am_i x3), (4, am_i x4), (5, am_i q1.1)], [am_i (x1 &&& ((1 : Int32) <<< (q1.1 &&& 31)))], q1.2)) rfl ⟨trivial, trivial, trivial, trivial, trivial, trivial⟩ ?_
      refine am_if_eq hc X 25 (tgt := 49) rfl (by decide) (fun c3 => ?_) (fun c3 => ?_)
      · replace h := am_ip c3 h
        refine am_less [0, 1, 2, 3, 4] rfl ?_
        exact jl_X3_leadingInto_49 X hr k4 k13 hk4 hk13 ox0 x1 x2 x3 x4 _ h
      · replace h := am_in2 c3 h
        refine am_blk hc X 26 6 (fr' := (49, [(0, am_r ox0 2 0), (1, am_i x1), (2, am_i (x2 ||| ((1 : Int32) <<< (x3 &&& 31)))), (3, am_i x3), (4, am_i x4), (5, am_i q1.1)], [], q1.2)) rfl ⟨trivial, trivial, trivial, trivial, trivial, trivial, trivial⟩ ?_
        refine am_less [0, 1, 2, 3, 4] rfl ?_
        exact jl_X3_leadingInto_49 X hr k4 k13 hk4 hk13 ox0 x1 (x2 ||| ((1 : Int32) <<< (x3 &&& 31))) x3 x4 _ h
def lp_X3_leadingInto_13 (k4 : Nat → Int32 → Int32 → Int32 → am_S → Option (Int32 × am_S)) : Nat → Nat → Int32 → Int32 → Int32 → Int32 → am_S → Option (Int32 × am_S)
  | 0 => fun _ _ _ _ _ _ => none
  | n + 1 => lb_X3_leadingInto_13 k4 (lp_X3_leadingInto_13 k4 n)
theorem ll_X3_leadingInto_13 {p : Program} {l : Launch} {e : Env} {s : State} {m : MethodId} {args : Array Value} {below : List Frame} {meth : Method} {c : Code} {G : am_G} {q : Int32 × am_S} (X : am_X p s m args c cX3_leadingInto yX3_leadingInto.cls 6 am_p3 G (am_fr G)) (hr : meth.sig.returnType = (some .int) ∧ meth.locks = false)  (k4 : Nat → Int32 → Int32 → Int32 → am_S → Option (Int32 × am_S)) (hk4 : ∀ (ox0 : Nat) (x1 : Int32) (x2 : Int32) (x3 : Int32) (σ : am_S), k4 ox0 x1 x2 x3 σ = some q → am_A p l e (am_ro 2) s m args below meth c 6 G (am_fr G) 0 0 (MQ below (am_Qc G (some (am_i q.1)) q.2) args s 0 0 (am_fr G)) (4, [(0, am_r ox0 2 0), (1, am_i x1), (2, am_i x2), (3, am_i x3)], [], σ)) : ∀ (n : Nat) (ox0 : Nat) (x1 : Int32) (x2 : Int32) (x3 : Int32) (x4 : Int32) (σ : am_S), lp_X3_leadingInto_13 k4 n ox0 x1 x2 x3 x4 σ = some q → am_A p l e (am_ro 2) s m args below meth c 6 G (am_fr G) 0 0 (MQ below (am_Qc G (some (am_i q.1)) q.2) args s 0 0 (am_fr G)) (13, [(0, am_r ox0 2 0), (1, am_i x1), (2, am_i x2), (3, am_i x3), (4, am_i x4)], [], σ) := by
  intro n
  induction n with
  | zero =>
    intro ox0 x1 x2 x3 x4 σ h
    have h : (none : Option (Int32 × am_S)) = some q := h
    cases h
  | succ n ih =>
    intro ox0 x1 x2 x3 x4 σ h
    exact lc_X3_leadingInto_13 X hr k4 (lp_X3_leadingInto_13 k4 n) hk4 ih ox0 x1 x2 x3 x4 σ h
def lb_X3_leadingInto_4 (k4 : Nat → Int32 → Int32 → Int32 → am_S → Option (Int32 × am_S)) (ox0 : Nat) (x1 : Int32) (x2 : Int32) (x3 : Int32) (σ : am_S) : Option (Int32 × am_S) :=
  (if 7 ≤ x3 then some (x2, σ) else lp_X3_leadingInto_13 k4 1000 ox0 x1 x2 x3 0 (σ))
set_option maxRecDepth 100000 in
theorem lc_X3_leadingInto_4 {p : Program} {l : Launch} {e : Env} {s : State} {m : MethodId} {args : Array Value} {below : List Frame} {meth : Method} {c : Code} {G : am_G} {q : Int32 × am_S} (X : am_X p s m args c cX3_leadingInto yX3_leadingInto.cls 6 am_p3 G (am_fr G)) (hr : meth.sig.returnType = (some .int) ∧ meth.locks = false)  (k4 : Nat → Int32 → Int32 → Int32 → am_S → Option (Int32 × am_S)) (hk4 : ∀ (ox0 : Nat) (x1 : Int32) (x2 : Int32) (x3 : Int32) (σ : am_S), k4 ox0 x1 x2 x3 σ = some q → am_A p l e (am_ro 2) s m args below meth c 6 G (am_fr G) 0 0 (MQ below (am_Qc G (some (am_i q.1)) q.2) args s 0 0 (am_fr G)) (4, [(0, am_r ox0 2 0), (1, am_i x1), (2, am_i x2), (3, am_i x3)], [], σ)) (ox0 : Nat) (x1 : Int32) (x2 : Int32) (x3 : Int32) (σ : am_S) (h : lb_X3_leadingInto_4 k4 ox0 x1 x2 x3 σ = some q) : am_A p l e (am_ro 2) s m args below meth c 6 G (am_fr G) 0 0 (MQ below (am_Qc G (some (am_i q.1)) q.2) args s 0 0 (am_fr G)) (4, [(0, am_r ox0 2 0), (1, am_i x1), (2, am_i x2), (3, am_i x3)], [], σ) := by
  have hc := ct_X3_leadingInto
  unfold lb_X3_leadingInto_4 at h
  refine am_blk hc X 4 2 (fr' := (7, [(0, am_r ox0 2 0), (1, am_i x1), (2, am_i x2), (3, am_i x3)], [am_i 7, am_i x3], σ)) rfl ⟨trivial, trivial, trivial⟩ ?_
  refine am_icmp_ge hc X 6 (tgt := 61) rfl (by decide) (fun c6 => ?_) (fun c6 => ?_)
  · replace h := am_ip c6 h
    refine am_blk hc X 36 1 (fr' := (62, [(0, am_r ox0 2 0), (1, am_i x1), (2, am_i x2), (3, am_i x3)], [am_i x2], σ)) rfl ⟨trivial, trivial⟩ ?_
    obtain rfl := Option.some.inj h
    exact am_iret hc X hr 37 rfl rfl rfl
  · replace h := am_in2 c6 h
    refine am_blk hc X 7 2 (fr' := (13, [(0, am_r ox0 2 0), (1, am_i x1), (2, am_i x2), (3, am_i x3), (4, am_i 0)], [], σ)) rfl ⟨trivial, trivial, trivial⟩ ?_
    exact ll_X3_leadingInto_13 X hr k4 hk4 1000 ox0 x1 x2 x3 0 _ h
def lp_X3_leadingInto_4  : Nat → Nat → Int32 → Int32 → Int32 → am_S → Option (Int32 × am_S)
  | 0 => fun _ _ _ _ _ => none
  | n + 1 => lb_X3_leadingInto_4  (lp_X3_leadingInto_4  n)
theorem ll_X3_leadingInto_4 {p : Program} {l : Launch} {e : Env} {s : State} {m : MethodId} {args : Array Value} {below : List Frame} {meth : Method} {c : Code} {G : am_G} {q : Int32 × am_S} (X : am_X p s m args c cX3_leadingInto yX3_leadingInto.cls 6 am_p3 G (am_fr G)) (hr : meth.sig.returnType = (some .int) ∧ meth.locks = false)    : ∀ (n : Nat) (ox0 : Nat) (x1 : Int32) (x2 : Int32) (x3 : Int32) (σ : am_S), lp_X3_leadingInto_4  n ox0 x1 x2 x3 σ = some q → am_A p l e (am_ro 2) s m args below meth c 6 G (am_fr G) 0 0 (MQ below (am_Qc G (some (am_i q.1)) q.2) args s 0 0 (am_fr G)) (4, [(0, am_r ox0 2 0), (1, am_i x1), (2, am_i x2), (3, am_i x3)], [], σ) := by
  intro n
  induction n with
  | zero =>
    intro ox0 x1 x2 x3 σ h
    have h : (none : Option (Int32 × am_S)) = some q := h
    cases h
  | succ n ih =>
    intro ox0 x1 x2 x3 σ h
    exact lc_X3_leadingInto_4 X hr  (lp_X3_leadingInto_4  n) ih ox0 x1 x2 x3 σ h
def fn_X3_leadingInto (oa0 : Nat) (a1 : Int32) (σ : am_S) : Option (Int32 × am_S) :=
  lp_X3_leadingInto_4  1000 oa0 a1 0 0 (σ)
set_option maxRecDepth 100000 in
theorem ok_X3_leadingInto (l : Launch) (oa0 : Nat) (a1 : Int32) (σ : am_S) {q : Int32 × am_S} (h : fn_X3_leadingInto oa0 a1 σ = some q) : am_M l yX3_leadingInto cX3_leadingInto 6 (some .int) 2 [am_r oa0 2 0, am_i a1] σ (some (am_i q.1)) q.2 := by
  refine am_M_of (P := am_p3) (by decide +kernel) am_p3_ok rfl ?_
  intro G p e s m args below meth c X hr
  have hc := ct_X3_leadingInto
  unfold fn_X3_leadingInto at h
  refine am_blk hc X 0 4 (fr' := (4, [(0, am_r oa0 2 0), (1, am_i a1), (2, am_i 0), (3, am_i 0)], [], σ)) rfl ⟨trivial, trivial, trivial, trivial, trivial⟩ ?_
  exact ll_X3_leadingInto_4 X hr   1000 oa0 a1 0 0 _ h
def jn_X3_stepOn_82 (k3 : Nat → Int32 → Int32 → Int64 → Int32 → am_S → Option (am_S)) (ox1 : Nat) (x2 : Int32) (x3 : Int32) (x4 : Int64) (x6 : Int32) (σ : am_S) : Option (am_S) :=
  k3 ox1 x2 x3 x4 (x6 + 1) (σ)
set_option maxRecDepth 100000 in
theorem jl_X3_stepOn_82 {p : Program} {l : Launch} {e : Env} {s : State} {m : MethodId} {args : Array Value} {below : List Frame} {meth : Method} {c : Code} {G : am_G} {q : am_S} (X : am_X p s m args c cX3_stepOn yX3_stepOn.cls 9 am_p3 G (am_fr G)) (hr : meth.sig.returnType = none ∧ meth.locks = false)  (k3 : Nat → Int32 → Int32 → Int64 → Int32 → am_S → Option (am_S)) (hk3 : ∀ (ox1 : Nat) (x2 : Int32) (x3 : Int32) (x4 : Int64) (x6 : Int32) (σ : am_S), k3 ox1 x2 x3 x4 x6 σ = some q → am_A p l e (am_ro 2) s m args below meth c 9 G (am_fr G) 0 0 (MQ below (am_Qc G none q) args s 0 0 (am_fr G)) (3, [(0, am_r 14 29 0), (1, am_r ox1 2 0), (2, am_i x2), (3, am_i x3), (4, am_l x4), (6, am_i x6)], [], σ)) (ox1 : Nat) (x2 : Int32) (x3 : Int32) (x4 : Int64) (x6 : Int32) (σ : am_S) (h : jn_X3_stepOn_82 k3 ox1 x2 x3 x4 x6 σ = some q) : am_A p l e (am_ro 2) s m args below meth c 9 G (am_fr G) 0 0 (MQ below (am_Qc G none q) args s 0 0 (am_fr G)) (82, [(0, am_r 14 29 0), (1, am_r ox1 2 0), (2, am_i x2), (3, am_i x3), (4, am_l x4), (6, am_i x6)], [], σ) := by
  have hc := ct_X3_stepOn
  unfold jn_X3_stepOn_82 at h
  refine am_blk hc X 49 2 (fr' := (3, [(0, am_r 14 29 0), (1, am_r ox1 2 0), (2, am_i x2), (3, am_i x3), (4, am_l x4), (6, am_i (x6 + 1))], [], σ)) rfl ⟨trivial, trivial, trivial⟩ ?_
  exact hk3 ox1 x2 x3 x4 (x6 + 1) _ h
def jn_X3_stepOn_42 (k3 : Nat → Int32 → Int32 → Int64 → Int32 → am_S → Option (am_S)) (ox1 : Nat) (x2 : Int32) (x3 : Int32) (x4 : Int64) (x6 : Int32) (x7 : Int32) (σ : am_S) : Option (am_S) :=
  (bif am_in (x2 + (1 : Int32)) 41 then (bif am_in x7 7 then (bif am_in x2 41 then (bif am_in x3 7 then (bif am_in (x2 + (1 : Int32)) 41 then (bif am_in x7 7 then jn_X3_stepOn_82 k3 ox1 x2 x3 x4 x6 (am_u σ 14 31 (((x2 + (1 : Int32)) : Int32).toNatClampNeg) ((x7 : Int32).toNatClampNeg) (if ((σ.1 14 31 (((x2 + (1 : Int32)) : Int32).toNatClampNeg) ((x7 : Int32).toNatClampNeg)) + (σ.1 14 31 ((x2 : Int32).toNatClampNeg) ((x3 : Int32).toNatClampNeg))) < 1000000 then ((σ.1 14 31 (((x2 + (1 : Int32)) : Int32).toNatClampNeg) ((x7 : Int32).toNatClampNeg)) + (σ.1 14 31 ((x2 : Int32).toNatClampNeg) ((x3 : Int32).toNatClampNeg))) else 1000000)) else none) else none) else none) else none) else none) else none)
set_option maxRecDepth 100000 in
theorem jl_X3_stepOn_42 {p : Program} {l : Launch} {e : Env} {s : State} {m : MethodId} {args : Array Value} {below : List Frame} {meth : Method} {c : Code} {G : am_G} {q : am_S} (X : am_X p s m args c cX3_stepOn yX3_stepOn.cls 9 am_p3 G (am_fr G)) (hr : meth.sig.returnType = none ∧ meth.locks = false)  (k3 : Nat → Int32 → Int32 → Int64 → Int32 → am_S → Option (am_S)) (hk3 : ∀ (ox1 : Nat) (x2 : Int32) (x3 : Int32) (x4 : Int64) (x6 : Int32) (σ : am_S), k3 ox1 x2 x3 x4 x6 σ = some q → am_A p l e (am_ro 2) s m args below meth c 9 G (am_fr G) 0 0 (MQ below (am_Qc G none q) args s 0 0 (am_fr G)) (3, [(0, am_r 14 29 0), (1, am_r ox1 2 0), (2, am_i x2), (3, am_i x3), (4, am_l x4), (6, am_i x6)], [], σ)) (ox1 : Nat) (x2 : Int32) (x3 : Int32) (x4 : Int64) (x6 : Int32) (x7 : Int32) (σ : am_S) (h : jn_X3_stepOn_42 k3 ox1 x2 x3 x4 x6 x7 σ = some q) : am_A p l e (am_ro 2) s m args below meth c 9 G (am_fr G) 0 0 (MQ below (am_Qc G none q) args s 0 0 (am_fr G)) (42, [(0, am_r 14 29 0), (1, am_r ox1 2 0), (2, am_i x2), (3, am_i x3), (4, am_l x4), (6, am_i x6), (7, am_i x7)], [], σ) := by
  have hc := ct_X3_stepOn
  unfold jn_X3_stepOn_42 at h
  obtain ⟨ob3, h⟩ := am_ci h
  obtain ⟨ob4, h⟩ := am_ci h
  obtain ⟨ob5, h⟩ := am_ci h
  obtain ⟨ob6, h⟩ := am_ci h
  obtain ⟨ob7, h⟩ := am_ci h
  refine am_blk hc X 22 25 (fr' := (78, [(0, am_r 14 29 0), (1, am_r ox1 2 0), (2, am_i x2), (3, am_i x3), (4, am_l x4), (6, am_i x6), (7, am_i x7), (8, am_i ((σ.1 14 31 (((x2 + (1 : Int32)) : Int32).toNatClampNeg) ((x7 : Int32).toNatClampNeg)) + (σ.1 14 31 ((x2 : Int32).toNatClampNeg) ((x3 : Int32).toNatClampNeg))))], [am_i ((σ.1 14 31 (((x2 + (1 : Int32)) : Int32).toNatClampNeg) ((x7 : Int32).toNatClampNeg)) + (σ.1 14 31 ((x2 : Int32).toNatClampNeg) ((x3 : Int32).toNatClampNeg))), am_i 1000000, am_i x7, am_r 14 31 (((x2 + (1 : Int32)) : Int32).toNatClampNeg)], σ)) rfl ⟨trivial, trivial, trivial, trivial, trivial, (am_in_vp ob3), trivial, (am_in_vp ob4), trivial, trivial, trivial, (am_in_vp ob5), trivial, (am_in_vp ob6), trivial, trivial, trivial, trivial, trivial, trivial, trivial, (am_in_vp ob7), trivial, trivial, trivial, trivial⟩ ?_
  refine am_mmin hc 47 X (rest := [am_i x7, am_r 14 31 (((x2 + (1 : Int32)) : Int32).toNatClampNeg)]) rfl ml_X3_35 am_wmin rfl rfl ?_
  obtain ⟨ob8, h⟩ := am_ci h
  refine am_blk hc X 48 1 (fr' := (82, [(0, am_r 14 29 0), (1, am_r ox1 2 0), (2, am_i x2), (3, am_i x3), (4, am_l x4), (6, am_i x6), (7, am_i x7), (8, am_i ((σ.1 14 31 (((x2 + (1 : Int32)) : Int32).toNatClampNeg) ((x7 : Int32).toNatClampNeg)) + (σ.1 14 31 ((x2 : Int32).toNatClampNeg) ((x3 : Int32).toNatClampNeg))))], [], (am_u σ 14 31 (((x2 + (1 : Int32)) : Int32).toNatClampNeg) ((x7 : Int32).toNatClampNeg) (if ((σ.1 14 31 (((x2 + (1 : Int32)) : Int32).toNatClampNeg) ((x7 : Int32).toNatClampNeg)) + (σ.1 14 31 ((x2 : Int32).toNatClampNeg) ((x3 : Int32).toNatClampNeg))) < 1000000 then ((σ.1 14 31 (((x2 + (1 : Int32)) : Int32).toNatClampNeg) ((x7 : Int32).toNatClampNeg)) + (σ.1 14 31 ((x2 : Int32).toNatClampNeg) ((x3 : Int32).toNatClampNeg))) else 1000000)))) rfl ⟨(am_in_vp ob8), trivial⟩ ?_
  refine am_less [0, 1, 2, 3, 4, 5] rfl ?_
  exact jl_X3_stepOn_82 X hr k3 hk3 ox1 x2 x3 x4 x6 _ h
def lb_X3_stepOn_3 (k3 : Nat → Int32 → Int32 → Int64 → Int32 → am_S → Option (am_S)) (ox1 : Nat) (x2 : Int32) (x3 : Int32) (x4 : Int64) (x6 : Int32) (σ : am_S) : Option (am_S) :=
  (if 5 ≤ x6 then some (σ) else (fn_X0_endOf ox1 x3 x6 (σ)).bind fun q1 => (if q1.1 = (-1) then jn_X3_stepOn_82 k3 ox1 x2 x3 x4 x6 q1.2 else (if (lg_cmp x4 (-1)) = 0 then jn_X3_stepOn_42 k3 ox1 x2 x3 x4 x6 q1.1 q1.2 else (if (lg_cmp x4 ((q1.1 : Int32).toInt64)) = 0 then jn_X3_stepOn_42 k3 ox1 x2 x3 x4 x6 q1.1 q1.2 else jn_X3_stepOn_82 k3 ox1 x2 x3 x4 x6 q1.2))))
set_option maxRecDepth 100000 in
theorem lc_X3_stepOn_3 {p : Program} {l : Launch} {e : Env} {s : State} {m : MethodId} {args : Array Value} {below : List Frame} {meth : Method} {c : Code} {G : am_G} {q : am_S} (X : am_X p s m args c cX3_stepOn yX3_stepOn.cls 9 am_p3 G (am_fr G)) (hr : meth.sig.returnType = none ∧ meth.locks = false)  (k3 : Nat → Int32 → Int32 → Int64 → Int32 → am_S → Option (am_S)) (hk3 : ∀ (ox1 : Nat) (x2 : Int32) (x3 : Int32) (x4 : Int64) (x6 : Int32) (σ : am_S), k3 ox1 x2 x3 x4 x6 σ = some q → am_A p l e (am_ro 2) s m args below meth c 9 G (am_fr G) 0 0 (MQ below (am_Qc G none q) args s 0 0 (am_fr G)) (3, [(0, am_r 14 29 0), (1, am_r ox1 2 0), (2, am_i x2), (3, am_i x3), (4, am_l x4), (6, am_i x6)], [], σ)) (ox1 : Nat) (x2 : Int32) (x3 : Int32) (x4 : Int64) (x6 : Int32) (σ : am_S) (h : lb_X3_stepOn_3 k3 ox1 x2 x3 x4 x6 σ = some q) : am_A p l e (am_ro 2) s m args below meth c 9 G (am_fr G) 0 0 (MQ below (am_Qc G none q) args s 0 0 (am_fr G)) (3, [(0, am_r 14 29 0), (1, am_r ox1 2 0), (2, am_i x2), (3, am_i x3), (4, am_l x4), (6, am_i x6)], [], σ) := by
  have hc := ct_X3_stepOn
  unfold lb_X3_stepOn_3 at h
  refine am_blk hc X 2 2 (fr' := (6, [(0, am_r 14 29 0), (1, am_r ox1 2 0), (2, am_i x2), (3, am_i x3), (4, am_l x4), (6, am_i x6)], [am_i 5, am_i x6], σ)) rfl ⟨trivial, trivial, trivial⟩ ?_
  refine am_icmp_ge hc X 4 (tgt := 88) rfl (by decide) (fun c12 => ?_) (fun c12 => ?_)
  · replace h := am_ip c12 h
    obtain rfl := Option.some.inj h
    exact am_vret hc X hr 51 rfl rfl rfl
  · replace h := am_in2 c12 h
    refine am_blk hc X 5 3 (fr' := (13, [(0, am_r 14 29 0), (1, am_r ox1 2 0), (2, am_i x2), (3, am_i x3), (4, am_l x4), (6, am_i x6)], [am_i x6, am_i x3, am_r ox1 2 0], σ)) rfl ⟨trivial, trivial, trivial, trivial⟩ ?_
    obtain ⟨q1, hq2, h⟩ := am_bs h
    refine am_callV hc 8 X (k := 2) (i := 0) (o := ox1) (As := [am_i x3, am_i x6]) (rest := []) rfl (ok_X0_endOf l ox1 x3 x6 (σ) hq2) yv_X0_endOf ml_X3_26 (cl_2) rfl rfl rfl rfl rfl ?_
    refine am_blk hc X 9 3 (fr' := (21, [(0, am_r 14 29 0), (1, am_r ox1 2 0), (2, am_i x2), (3, am_i x3), (4, am_l x4), (6, am_i x6), (7, am_i q1.1)], [am_i (-1), am_i q1.1], q1.2)) rfl ⟨trivial, trivial, trivial, trivial⟩ ?_
    refine am_icmp_eq hc X 12 (tgt := 82) rfl (by decide) (fun c11 => ?_) (fun c11 => ?_)
    · replace h := am_ip c11 h
      refine am_less [0, 1, 2, 3, 4, 5] rfl ?_
      exact jl_X3_stepOn_82 X hr k3 hk3 ox1 x2 x3 x4 x6 _ h
    · replace h := am_in2 c11 h
      refine am_blk hc X 13 3 (fr' := (30, [(0, am_r 14 29 0), (1, am_r ox1 2 0), (2, am_i x2), (3, am_i x3), (4, am_l x4), (6, am_i x6), (7, am_i q1.1)], [am_i (lg_cmp x4 (-1))], q1.2)) rfl ⟨trivial, trivial, trivial, trivial⟩ ?_
      refine am_if_eq hc X 16 (tgt := 42) rfl (by decide) (fun c10 => ?_) (fun c10 => ?_)
      · replace h := am_ip c10 h
        exact jl_X3_stepOn_42 X hr k3 hk3 ox1 x2 x3 x4 x6 q1.1 _ h
      · replace h := am_in2 c10 h
        refine am_blk hc X 17 4 (fr' := (39, [(0, am_r 14 29 0), (1, am_r ox1 2 0), (2, am_i x2), (3, am_i x3), (4, am_l x4), (6, am_i x6), (7, am_i q1.1)], [am_i (lg_cmp x4 ((q1.1 : Int32).toInt64))], q1.2)) rfl ⟨trivial, trivial, trivial, trivial, trivial⟩ ?_
        refine am_if_ne hc X 21 (tgt := 82) rfl (by decide) (fun c9 => ?_) (fun c9 => ?_)
        · replace h := am_in2 c9 h
          refine am_less [0, 1, 2, 3, 4, 5] rfl ?_
          exact jl_X3_stepOn_82 X hr k3 hk3 ox1 x2 x3 x4 x6 _ h
        · replace h := am_ip c9 h
          exact jl_X3_stepOn_42 X hr k3 hk3 ox1 x2 x3 x4 x6 q1.1 _ h
def lp_X3_stepOn_3  : Nat → Nat → Int32 → Int32 → Int64 → Int32 → am_S → Option (am_S)
  | 0 => fun _ _ _ _ _ _ => none
  | n + 1 => lb_X3_stepOn_3  (lp_X3_stepOn_3  n)
theorem ll_X3_stepOn_3 {p : Program} {l : Launch} {e : Env} {s : State} {m : MethodId} {args : Array Value} {below : List Frame} {meth : Method} {c : Code} {G : am_G} {q : am_S} (X : am_X p s m args c cX3_stepOn yX3_stepOn.cls 9 am_p3 G (am_fr G)) (hr : meth.sig.returnType = none ∧ meth.locks = false)    : ∀ (n : Nat) (ox1 : Nat) (x2 : Int32) (x3 : Int32) (x4 : Int64) (x6 : Int32) (σ : am_S), lp_X3_stepOn_3  n ox1 x2 x3 x4 x6 σ = some q → am_A p l e (am_ro 2) s m args below meth c 9 G (am_fr G) 0 0 (MQ below (am_Qc G none q) args s 0 0 (am_fr G)) (3, [(0, am_r 14 29 0), (1, am_r ox1 2 0), (2, am_i x2), (3, am_i x3), (4, am_l x4), (6, am_i x6)], [], σ) := by
  intro n
  induction n with
  | zero =>
    intro ox1 x2 x3 x4 x6 σ h
    have h : (none : Option (am_S)) = some q := h
    cases h
  | succ n ih =>
    intro ox1 x2 x3 x4 x6 σ h
    exact lc_X3_stepOn_3 X hr  (lp_X3_stepOn_3  n) ih ox1 x2 x3 x4 x6 σ h
def fn_X3_stepOn (oa1 : Nat) (a2 : Int32) (a3 : Int32) (a4 : Int64) (σ : am_S) : Option (am_S) :=
  lp_X3_stepOn_3  1000 oa1 a2 a3 a4 0 (σ)
set_option maxRecDepth 100000 in
theorem ok_X3_stepOn (l : Launch) (oa1 : Nat) (a2 : Int32) (a3 : Int32) (a4 : Int64) (σ : am_S) {q : am_S} (h : fn_X3_stepOn oa1 a2 a3 a4 σ = some q) : am_M l yX3_stepOn cX3_stepOn 9 none 2 [am_r 14 29 0, am_r oa1 2 0, am_i a2, am_i a3, am_l a4] σ none q := by
  refine am_M_of (P := am_p3) (by decide +kernel) am_p3_ok rfl ?_
  intro G p e s m args below meth c X hr
  have hc := ct_X3_stepOn
  unfold fn_X3_stepOn at h
  refine am_blk hc X 0 2 (fr' := (3, [(0, am_r 14 29 0), (1, am_r oa1 2 0), (2, am_i a2), (3, am_i a3), (4, am_l a4), (6, am_i 0)], [], σ)) rfl ⟨trivial, trivial, trivial⟩ ?_
  exact ll_X3_stepOn_3 X hr   1000 oa1 a2 a3 a4 0 _ h
def jn_X4_comeToPass_52  (x1 : Int32) (σ : am_S) : Option (am_S) :=
  (bif am_in x1 3 then (bif am_in (σ.1 11 16 0 0) 7 then some (am_u σ 3 4 ((x1 : Int32).toNatClampNeg) (((σ.1 11 16 0 0) : Int32).toNatClampNeg) (σ.1 11 16 0 1)) else none) else none)
set_option maxRecDepth 100000 in
theorem jl_X4_comeToPass_52 {p : Program} {l : Launch} {e : Env} {s : State} {m : MethodId} {args : Array Value} {below : List Frame} {meth : Method} {c : Code} {G : am_G} {q : am_S} (X : am_X p s m args c cX4_comeToPass yX4_comeToPass.cls 2 am_p4 G (am_fr G)) (hr : meth.sig.returnType = none ∧ meth.locks = false)    (x1 : Int32) (σ : am_S) (h : jn_X4_comeToPass_52  x1 σ = some q) : am_A p l e (am_ro 1) s m args below meth c 2 G (am_fr G) 0 0 (MQ below (am_Qc G none q) args s 0 0 (am_fr G)) (52, [(0, am_r 11 14 0), (1, am_i x1)], [], σ) := by
  have hc := ct_X4_comeToPass
  unfold jn_X4_comeToPass_52 at h
  obtain ⟨ob17, h⟩ := am_ci h
  obtain ⟨ob18, h⟩ := am_ci h
  refine am_blk hc X 2 15 (fr' := (237, [(0, am_r 11 14 0), (1, am_i x1)], [], (am_u σ 3 4 ((x1 : Int32).toNatClampNeg) (((σ.1 11 16 0 0) : Int32).toNatClampNeg) (σ.1 11 16 0 1)))) rfl ⟨trivial, trivial, trivial, trivial, (am_in_vp ob17), trivial, trivial, trivial, (am_in_vp (by decide)), trivial, trivial, trivial, (am_in_vp (by decide)), (am_in_vp ob18), trivial, trivial⟩ ?_
  obtain rfl := Option.some.inj h
  exact am_vret hc X hr 113 rfl rfl rfl
def fn_X4_comeToPass (a1 : Int32) (σ : am_S) : Option (am_S) :=
  (if a1 = 0 then jn_X4_comeToPass_52  a1 (σ) else (if a1 = 1 then jn_X4_comeToPass_52  a1 (σ) else (if a1 = 2 then jn_X4_comeToPass_52  a1 (σ) else (if a1 = 3 then some (am_u σ 3 2 0 5 (σ.1 11 16 0 0)) else (if a1 = 4 then (fn_X0_addPass 3 (σ.1 11 16 0 0) (σ.1 11 16 0 1) (σ.1 11 16 0 2) (σ.1 11 16 0 3) (σ)).bind fun q15 => some q15.2 else (if a1 = 5 then (fn_X0_addPerson 3 (σ.1 11 16 0 0) (σ.1 11 16 0 1) (σ.1 11 16 0 2) (σ)).bind fun q13 => some q13.2 else (if a1 = 6 then (bif am_in (σ.1 11 16 0 0) 6 then some (am_u σ 3 8 (((σ.1 11 16 0 0) : Int32).toNatClampNeg) 4 ((σ.1 3 8 (((σ.1 11 16 0 0) : Int32).toNatClampNeg) 4) ||| ((1 : Int32) <<< ((σ.1 11 16 0 1) &&& 31)))) else none) else (if a1 = 7 then (bif am_in (σ.1 11 16 0 0) 6 then some (am_u σ 3 8 (((σ.1 11 16 0 0) : Int32).toNatClampNeg) 3 (σ.1 11 16 0 1)) else none) else (if a1 = 8 then (bif am_in (σ.1 11 16 0 0) 6 then some (am_u σ 3 8 (((σ.1 11 16 0 0) : Int32).toNatClampNeg) 5 (σ.1 11 16 0 1)) else none) else some (σ))))))))))
set_option maxRecDepth 100000 in
theorem ok_X4_comeToPass (l : Launch) (a1 : Int32) (σ : am_S) {q : am_S} (h : fn_X4_comeToPass a1 σ = some q) : am_M l yX4_comeToPass cX4_comeToPass 2 none 1 [am_r 11 14 0, am_i a1] σ none q := by
  refine am_M_of (P := am_p4) (by decide +kernel) am_p4_ok rfl ?_
  intro G p e s m args below meth c X hr
  have hc := ct_X4_comeToPass
  unfold fn_X4_comeToPass at h
  refine am_blk hc X 0 1 (fr' := (1, [(0, am_r 11 14 0), (1, am_i a1)], [am_i a1], σ)) rfl ⟨trivial, trivial⟩ ?_
  by_cases c1 : a1 = 0
  · replace h := am_ip c1 h
    refine am_tin hc X 1 (tgt := 52) (off := 51) rfl (by rw [c1]; decide) (by rw [c1]; decide) (by rw [c1]; rfl) (by decide) ?_
    exact jl_X4_comeToPass_52 X hr   a1 _ h
  · replace h := am_in2 c1 h
    by_cases c2 : a1 = 1
    · replace h := am_ip c2 h
      refine am_tin hc X 1 (tgt := 52) (off := 51) rfl (by rw [c2]; decide) (by rw [c2]; decide) (by rw [c2]; rfl) (by decide) ?_
      exact jl_X4_comeToPass_52 X hr   a1 _ h
    · replace h := am_in2 c2 h
      by_cases c3 : a1 = 2
      · replace h := am_ip c3 h
        refine am_tin hc X 1 (tgt := 52) (off := 51) rfl (by rw [c3]; decide) (by rw [c3]; decide) (by rw [c3]; rfl) (by decide) ?_
        exact jl_X4_comeToPass_52 X hr   a1 _ h
      · replace h := am_in2 c3 h
        by_cases c4 : a1 = 3
        · replace h := am_ip c4 h
          refine am_tin hc X 1 (tgt := 77) (off := 76) rfl (by rw [c4]; decide) (by rw [c4]; decide) (by rw [c4]; rfl) (by decide) ?_
          refine am_blk hc X 17 8 (fr' := (237, [(0, am_r 11 14 0), (1, am_i a1)], [], (am_u σ 3 2 0 5 (σ.1 11 16 0 0)))) rfl ⟨trivial, trivial, trivial, trivial, trivial, (am_in_vp (by decide)), trivial, trivial, trivial⟩ ?_
          obtain rfl := Option.some.inj h
          exact am_vret hc X hr 113 rfl rfl rfl
        · replace h := am_in2 c4 h
          by_cases c5 : a1 = 4
          · replace h := am_ip c5 h
            refine am_tin hc X 1 (tgt := 93) (off := 92) rfl (by rw [c5]; decide) (by rw [c5]; decide) (by rw [c5]; rfl) (by decide) ?_
            refine am_blk hc X 25 18 (fr' := (121, [(0, am_r 11 14 0), (1, am_i a1)], [am_i (σ.1 11 16 0 3), am_i (σ.1 11 16 0 2), am_i (σ.1 11 16 0 1), am_i (σ.1 11 16 0 0), am_r 3 2 0], σ)) rfl ⟨trivial, trivial, trivial, trivial, trivial, (am_in_vp (by decide)), trivial, trivial, trivial, (am_in_vp (by decide)), trivial, trivial, trivial, (am_in_vp (by decide)), trivial, trivial, trivial, (am_in_vp (by decide)), trivial⟩ ?_
            obtain ⟨q15, hq16, h⟩ := am_bs h
            refine am_callV hc 43 X (k := 2) (i := 0) (o := 3) (As := [am_i (σ.1 11 16 0 0), am_i (σ.1 11 16 0 1), am_i (σ.1 11 16 0 2), am_i (σ.1 11 16 0 3)]) (rest := []) rfl (ok_X0_addPass l 3 (σ.1 11 16 0 0) (σ.1 11 16 0 1) (σ.1 11 16 0 2) (σ.1 11 16 0 3) (σ) hq16) yv_X0_addPass ml_X4_88 (cl_2) rfl rfl rfl rfl rfl ?_
            refine am_blk hc X 44 2 (fr' := (237, [(0, am_r 11 14 0), (1, am_i a1)], [], q15.2)) rfl ⟨trivial, trivial, trivial⟩ ?_
            obtain rfl := Option.some.inj h
            exact am_vret hc X hr 113 rfl rfl rfl
          · replace h := am_in2 c5 h
            by_cases c6 : a1 = 5
            · replace h := am_ip c6 h
              refine am_tin hc X 1 (tgt := 128) (off := 127) rfl (by rw [c6]; decide) (by rw [c6]; decide) (by rw [c6]; rfl) (by decide) ?_
              refine am_blk hc X 46 14 (fr' := (150, [(0, am_r 11 14 0), (1, am_i a1)], [am_i (σ.1 11 16 0 2), am_i (σ.1 11 16 0 1), am_i (σ.1 11 16 0 0), am_r 3 2 0], σ)) rfl ⟨trivial, trivial, trivial, trivial, trivial, (am_in_vp (by decide)), trivial, trivial, trivial, (am_in_vp (by decide)), trivial, trivial, trivial, (am_in_vp (by decide)), trivial⟩ ?_
              obtain ⟨q13, hq14, h⟩ := am_bs h
              refine am_callV hc 60 X (k := 2) (i := 0) (o := 3) (As := [am_i (σ.1 11 16 0 0), am_i (σ.1 11 16 0 1), am_i (σ.1 11 16 0 2)]) (rest := []) rfl (ok_X0_addPerson l 3 (σ.1 11 16 0 0) (σ.1 11 16 0 1) (σ.1 11 16 0 2) (σ) hq14) yv_X0_addPerson ml_X4_92 (cl_2) rfl rfl rfl rfl rfl ?_
              refine am_blk hc X 61 2 (fr' := (237, [(0, am_r 11 14 0), (1, am_i a1)], [], q13.2)) rfl ⟨trivial, trivial, trivial⟩ ?_
              obtain rfl := Option.some.inj h
              exact am_vret hc X hr 113 rfl rfl rfl
            · replace h := am_in2 c6 h
              by_cases c7 : a1 = 6
              · replace h := am_ip c7 h
                refine am_tin hc X 1 (tgt := 157) (off := 156) rfl (by rw [c7]; decide) (by rw [c7]; decide) (by rw [c7]; rfl) (by decide) ?_
                obtain ⟨ob12, h⟩ := am_ci h
                refine am_blk hc X 63 20 (fr' := (237, [(0, am_r 11 14 0), (1, am_i a1)], [], (am_u σ 3 8 (((σ.1 11 16 0 0) : Int32).toNatClampNeg) 4 ((σ.1 3 8 (((σ.1 11 16 0 0) : Int32).toNatClampNeg) 4) ||| ((1 : Int32) <<< ((σ.1 11 16 0 1) &&& 31)))))) rfl ⟨trivial, trivial, trivial, trivial, trivial, trivial, (am_in_vp (by decide)), (am_in_vp ob12), trivial, trivial, (am_in_vp (by decide)), trivial, trivial, trivial, trivial, (am_in_vp (by decide)), trivial, trivial, (am_in_vp (by decide)), trivial, trivial⟩ ?_
                obtain rfl := Option.some.inj h
                exact am_vret hc X hr 113 rfl rfl rfl
              · replace h := am_in2 c7 h
                by_cases c8 : a1 = 7
                · replace h := am_ip c8 h
                  refine am_tin hc X 1 (tgt := 187) (off := 186) rfl (by rw [c8]; decide) (by rw [c8]; decide) (by rw [c8]; rfl) (by decide) ?_
                  obtain ⟨ob11, h⟩ := am_ci h
                  refine am_blk hc X 83 15 (fr' := (237, [(0, am_r 11 14 0), (1, am_i a1)], [], (am_u σ 3 8 (((σ.1 11 16 0 0) : Int32).toNatClampNeg) 3 (σ.1 11 16 0 1)))) rfl ⟨trivial, trivial, trivial, trivial, trivial, trivial, (am_in_vp (by decide)), (am_in_vp ob11), trivial, trivial, trivial, trivial, (am_in_vp (by decide)), (am_in_vp (by decide)), trivial, trivial⟩ ?_
                  obtain rfl := Option.some.inj h
                  exact am_vret hc X hr 113 rfl rfl rfl
                · replace h := am_in2 c8 h
                  by_cases c9 : a1 = 8
                  · replace h := am_ip c9 h
                    refine am_tin hc X 1 (tgt := 212) (off := 211) rfl (by rw [c9]; decide) (by rw [c9]; decide) (by rw [c9]; rfl) (by decide) ?_
                    obtain ⟨ob10, h⟩ := am_ci h
                    refine am_blk hc X 98 15 (fr' := (237, [(0, am_r 11 14 0), (1, am_i a1)], [], (am_u σ 3 8 (((σ.1 11 16 0 0) : Int32).toNatClampNeg) 5 (σ.1 11 16 0 1)))) rfl ⟨trivial, trivial, trivial, trivial, trivial, trivial, (am_in_vp (by decide)), (am_in_vp ob10), trivial, trivial, trivial, trivial, (am_in_vp (by decide)), (am_in_vp (by decide)), trivial, trivial⟩ ?_
                    obtain rfl := Option.some.inj h
                    exact am_vret hc X hr 113 rfl rfl rfl
                  · replace h := am_in2 c9 h
                    refine am_tout hc X 1 (tgt := 237) rfl (am_sw 0 8 (fun z h1 h2 => ?_)) (by decide) ?_
                    · rcases (show z = 0 ∨ z = 1 ∨ z = 2 ∨ z = 3 ∨ z = 4 ∨ z = 5 ∨ z = 6 ∨ z = 7 ∨ z = 8 by omega) with rfl | rfl | rfl | rfl | rfl | rfl | rfl | rfl | rfl
                      · exact lv_neT c1 rfl
                      · exact lv_neT c2 rfl
                      · exact lv_neT c3 rfl
                      · exact lv_neT c4 rfl
                      · exact lv_neT c5 rfl
                      · exact lv_neT c6 rfl
                      · exact lv_neT c7 rfl
                      · exact lv_neT c8 rfl
                      · exact lv_neT c9 rfl
                    · obtain rfl := Option.some.inj h
                      exact am_vret hc X hr 113 rfl rfl rfl
def fn_X4_hasRoomFor (a1 : Int32) (σ : am_S) : Option (Int32 × am_S) :=
  (if a1 = 4 then (if 3 ≤ (σ.1 3 2 0 3) then some (0, σ) else some (1, σ)) else (if a1 = 5 then (if 6 ≤ (σ.1 3 2 0 4) then some (0, σ) else some (1, σ)) else some (1, σ)))
set_option maxRecDepth 100000 in
theorem ok_X4_hasRoomFor (l : Launch) (a1 : Int32) (σ : am_S) {q : Int32 × am_S} (h : fn_X4_hasRoomFor a1 σ = some q) : am_M l yX4_hasRoomFor cX4_hasRoomFor 2 (some .boolean) 0 [am_r 11 14 0, am_i a1] σ (some (am_i q.1)) q.2 := by
  refine am_M_of (P := am_p4) (by decide +kernel) am_p4_ok rfl ?_
  intro G p e s m args below meth c X hr
  have hc := ct_X4_hasRoomFor
  unfold fn_X4_hasRoomFor at h
  refine am_blk hc X 0 1 (fr' := (1, [(0, am_r 11 14 0), (1, am_i a1)], [am_i a1], σ)) rfl ⟨trivial, trivial⟩ ?_
  by_cases c1 : a1 = 4
  · replace h := am_ip c1 h
    refine am_look hc X 1 (tgt := 28) (off := 27) rfl (by decide) (by rw [c1]; rfl) (by decide) ?_
    refine am_blk hc X 2 4 (fr' := (36, [(0, am_r 11 14 0), (1, am_i a1)], [am_i 3, am_i (σ.1 3 2 0 3)], σ)) rfl ⟨trivial, trivial, trivial, trivial, trivial⟩ ?_
    refine am_icmp_ge hc X 6 (tgt := 43) rfl (by decide) (fun c4 => ?_) (fun c4 => ?_)
    · replace h := am_ip c4 h
      refine am_blk hc X 9 1 (fr' := (44, [(0, am_r 11 14 0), (1, am_i a1)], [am_i 0], σ)) rfl ⟨trivial, trivial⟩ ?_
      obtain rfl := Option.some.inj h
      exact am_zret hc X hr 10 rfl (by decide) rfl rfl
    · replace h := am_in2 c4 h
      refine am_blk hc X 7 2 (fr' := (44, [(0, am_r 11 14 0), (1, am_i a1)], [am_i 1], σ)) rfl ⟨trivial, trivial, trivial⟩ ?_
      obtain rfl := Option.some.inj h
      exact am_zret hc X hr 10 rfl (by decide) rfl rfl
  · replace h := am_in2 c1 h
    by_cases c2 : a1 = 5
    · replace h := am_ip c2 h
      refine am_look hc X 1 (tgt := 45) (off := 44) rfl (by decide) (by rw [c2]; rfl) (by decide) ?_
      refine am_blk hc X 11 4 (fr' := (54, [(0, am_r 11 14 0), (1, am_i a1)], [am_i 6, am_i (σ.1 3 2 0 4)], σ)) rfl ⟨trivial, trivial, trivial, trivial, trivial⟩ ?_
      refine am_icmp_ge hc X 15 (tgt := 61) rfl (by decide) (fun c3 => ?_) (fun c3 => ?_)
      · replace h := am_ip c3 h
        refine am_blk hc X 18 1 (fr' := (62, [(0, am_r 11 14 0), (1, am_i a1)], [am_i 0], σ)) rfl ⟨trivial, trivial⟩ ?_
        obtain rfl := Option.some.inj h
        exact am_zret hc X hr 19 rfl (by decide) rfl rfl
      · replace h := am_in2 c3 h
        refine am_blk hc X 16 2 (fr' := (62, [(0, am_r 11 14 0), (1, am_i a1)], [am_i 1], σ)) rfl ⟨trivial, trivial, trivial⟩ ?_
        obtain rfl := Option.some.inj h
        exact am_zret hc X hr 19 rfl (by decide) rfl rfl
    · replace h := am_in2 c2 h
      refine am_look hc X 1 (tgt := 63) (off := 62) rfl (by decide) ((lv_osw c1 rfl).trans ((lv_osw c2 rfl).trans (rfl))) (by decide) ?_
      refine am_blk hc X 20 1 (fr' := (64, [(0, am_r 11 14 0), (1, am_i a1)], [am_i 1], σ)) rfl ⟨trivial, trivial⟩ ?_
      obtain rfl := Option.some.inj h
      exact am_zret hc X hr 21 rfl (by decide) rfl rfl
def fn_J0_coder_7d493_36 (ia0 : Nat) (σ : am_S) : Option (Int32 × am_S) :=
  (if narrow .byte (.int 0) = .int 0 then some (0, σ) else none)
set_option maxRecDepth 100000 in
theorem ok_J0_coder_7d493_36 (l : Launch) (ia0 : Nat) (σ : am_S) {q : Int32 × am_S} (h : fn_J0_coder_7d493_36 ia0 σ = some q) : am_M l yJ0_coder_7d493 cJ0_coder_7d493 1 (some .byte) 0 [am_r 17 36 ia0] σ (some (am_i q.1)) q.2 := by
  refine am_M_of (P := am_pJ0) (by decide +kernel) am_pJ0_ok rfl ?_
  intro G p e s m args below meth c X hr
  have hc := ct_J0_coder_7d493
  unfold fn_J0_coder_7d493_36 at h
  refine am_blk hc X 0 1 (fr' := (3, [(0, am_r 17 36 ia0)], [am_i 1], σ)) rfl ⟨trivial, trivial⟩ ?_
  refine am_if_eq hc X 1 (tgt := 13) rfl (by decide) (fun c9 => absurd c9 (by decide)) (fun c9 => ?_)
  refine am_blk hc X 2 3 (fr' := (14, [(0, am_r 17 36 ia0)], [am_i 0], σ)) rfl ⟨trivial, trivial, trivial, trivial⟩ ?_
  obtain ⟨ob1, h⟩ := am_ct2 h
  obtain rfl := Option.some.inj h
  exact am_nret hc X hr 6 rfl ob1 rfl rfl
def fn_J0_length_8abf5_36 (ia0 : Nat) (σ : am_S) : Option (Int32 × am_S) :=
  (fn_J0_coder_7d493_36 ia0 (σ)).bind fun q1 => some (((Int32.ofNat (am_len.getD ia0 0)) >>> (q1.1 &&& 31)), q1.2)
set_option maxRecDepth 100000 in
theorem ok_J0_length_8abf5_36 (l : Launch) (ia0 : Nat) (σ : am_S) {q : Int32 × am_S} (h : fn_J0_length_8abf5_36 ia0 σ = some q) : am_M l yJ0_length_8abf5 cJ0_length_8abf5 1 (some .int) 1 [am_r 17 36 ia0] σ (some (am_i q.1)) q.2 := by
  refine am_M_of (P := am_pJ0) (by decide +kernel) am_pJ0_ok rfl ?_
  intro G p e s m args below meth c X hr
  have hc := ct_J0_length_8abf5
  unfold fn_J0_length_8abf5_36 at h
  refine am_blk hc X 0 4 (fr' := (6, [(0, am_r 17 36 ia0)], [am_r 17 36 ia0, am_i (Int32.ofNat (am_len.getD ia0 0))], σ)) rfl ⟨trivial, trivial, trivial, trivial, trivial⟩ ?_
  obtain ⟨q1, hq2, h⟩ := am_bs h
  refine am_callT hc 4 X (i := ia0) (As := []) (rest := [am_i (Int32.ofNat (am_len.getD ia0 0))]) rfl (ok_J0_coder_7d493_36 l ia0 (σ) hq2) yv_J0_coder_7d493 ml_J0_335 rfl rfl rfl rfl rfl rfl ?_
  refine am_blk hc X 5 1 (fr' := (10, [(0, am_r 17 36 ia0)], [am_i ((Int32.ofNat (am_len.getD ia0 0)) >>> (q1.1 &&& 31))], q1.2)) rfl ⟨trivial, trivial⟩ ?_
  obtain rfl := Option.some.inj h
  exact am_iret hc X hr 6 rfl rfl rfl
def fn_J0_isLatin1_aae02_36 (ia0 : Nat) (σ : am_S) : Option (Int32 × am_S) :=
  some (1, σ)
set_option maxRecDepth 100000 in
theorem ok_J0_isLatin1_aae02_36 (l : Launch) (ia0 : Nat) (σ : am_S) {q : Int32 × am_S} (h : fn_J0_isLatin1_aae02_36 ia0 σ = some q) : am_M l yJ0_isLatin1_aae02 cJ0_isLatin1_aae02 1 (some .boolean) 0 [am_r 17 36 ia0] σ (some (am_i q.1)) q.2 := by
  refine am_M_of (P := am_pJ0) (by decide +kernel) am_pJ0_ok rfl ?_
  intro G p e s m args below meth c X hr
  have hc := ct_J0_isLatin1_aae02
  unfold fn_J0_isLatin1_aae02_36 at h
  refine am_blk hc X 0 1 (fr' := (3, [(0, am_r 17 36 ia0)], [am_i 1], σ)) rfl ⟨trivial, trivial⟩ ?_
  refine am_if_eq hc X 1 (tgt := 17) rfl (by decide) (fun c9 => absurd c9 (by decide)) (fun c9 => ?_)
  refine am_blk hc X 2 2 (fr' := (10, [(0, am_r 17 36 ia0)], [am_i 0], σ)) rfl ⟨trivial, trivial, trivial⟩ ?_
  refine am_if_ne hc X 4 (tgt := 17) rfl (by decide) (fun c9 => absurd c9 (by decide)) (fun c9 => ?_)
  refine am_blk hc X 5 2 (fr' := (18, [(0, am_r 17 36 ia0)], [am_i 1], σ)) rfl ⟨trivial, trivial, trivial⟩ ?_
  obtain rfl := Option.some.inj h
  exact am_zret hc X hr 8 rfl (by decide) rfl rfl
def fn_J1_charAt_3b067_37 (ia0 : Nat) (a1 : Int32) (σ : am_S) : Option (Int32 × am_S) :=
  (fn_J0_checkIndex_df160 a1 (Int32.ofNat (am_len.getD ia0 0)) (σ)).bind fun q1 => (bif am_in a1 (am_len.getD ia0 0) then (if narrow .char (.int ((((((am_byt.getD ia0 []).getD ((a1 : Int32).toNatClampNeg) 0) &&& (255 : Int32)) : Int32).toUInt32 % 65536).toInt32)) = .int ((((((am_byt.getD ia0 []).getD ((a1 : Int32).toNatClampNeg) 0) &&& (255 : Int32)) : Int32).toUInt32 % 65536).toInt32) then some (((((((am_byt.getD ia0 []).getD ((a1 : Int32).toNatClampNeg) 0) &&& (255 : Int32)) : Int32).toUInt32 % 65536).toInt32), q1) else none) else none)
set_option maxRecDepth 100000 in
theorem ok_J1_charAt_3b067_37 (l : Launch) (ia0 : Nat) (a1 : Int32) (σ : am_S) {q : Int32 × am_S} (h : fn_J1_charAt_3b067_37 ia0 a1 σ = some q) : am_M l yJ1_charAt_3b067 cJ1_charAt_3b067 2 (some .char) 2 [am_r 17 37 ia0, am_i a1] σ (some (am_i q.1)) q.2 := by
  refine am_M_of (P := am_pJ) (by decide +kernel) am_pJ_ok rfl ?_
  intro G p e s m args below meth c X hr
  have hc := ct_J1_charAt_3b067
  unfold fn_J1_charAt_3b067_37 at h
  refine am_blk hc X 0 3 (fr' := (3, [(0, am_r 17 37 ia0), (1, am_i a1)], [am_i (Int32.ofNat (am_len.getD ia0 0)), am_i a1], σ)) rfl ⟨trivial, trivial, trivial, trivial⟩ ?_
  obtain ⟨q1, hq2, h⟩ := am_bs h
  refine am_callS hc 3 X (As := [am_i a1, am_i (Int32.ofNat (am_len.getD ia0 0))]) (rest := []) rfl (ok_J0_checkIndex_df160 l a1 (Int32.ofNat (am_len.getD ia0 0)) (σ) hq2) yv_J0_checkIndex_df160 ml_J1_9 rfl rfl rfl rfl rfl ?_
  obtain ⟨ob3, h⟩ := am_ci h
  refine am_blk hc X 4 6 (fr' := (14, [(0, am_r 17 37 ia0), (1, am_i a1)], [am_i ((((((am_byt.getD ia0 []).getD ((a1 : Int32).toNatClampNeg) 0) &&& (255 : Int32)) : Int32).toUInt32 % 65536).toInt32)], q1)) rfl ⟨trivial, trivial, (am_in_vp ob3), trivial, trivial, trivial, trivial⟩ ?_
  obtain ⟨ob4, h⟩ := am_ct2 h
  obtain rfl := Option.some.inj h
  exact am_nret hc X hr 10 rfl ob4 rfl rfl
def fn_J0_charAt_5068e_36 (ia0 : Nat) (a1 : Int32) (σ : am_S) : Option (Int32 × am_S) :=
  (fn_J0_isLatin1_aae02_36 ia0 (σ)).bind fun q1 => (if q1.1 = 0 then none else (fn_J1_charAt_3b067_37 ia0 a1 q1.2).bind fun q3 => (if narrow .char (.int q3.1) = .int q3.1 then some (q3.1, q3.2) else none))
set_option maxRecDepth 100000 in
theorem ok_J0_charAt_5068e_36 (l : Launch) (ia0 : Nat) (a1 : Int32) (σ : am_S) {q : Int32 × am_S} (h : fn_J0_charAt_5068e_36 ia0 a1 σ = some q) : am_M l yJ0_charAt_5068e cJ0_charAt_5068e 2 (some .char) 3 [am_r 17 36 ia0, am_i a1] σ (some (am_i q.1)) q.2 := by
  refine am_M_of (P := am_pJ0) (by decide +kernel) am_pJ0_ok rfl ?_
  intro G p e s m args below meth c X hr
  have hc := ct_J0_charAt_5068e
  unfold fn_J0_charAt_5068e_36 at h
  refine am_blk hc X 0 1 (fr' := (1, [(0, am_r 17 36 ia0), (1, am_i a1)], [am_r 17 36 ia0], σ)) rfl ⟨trivial, trivial⟩ ?_
  obtain ⟨q1, hq2, h⟩ := am_bs h
  refine am_callT hc 1 X (i := ia0) (As := []) (rest := []) rfl (ok_J0_isLatin1_aae02_36 l ia0 (σ) hq2) yv_J0_isLatin1_aae02 ml_J0_492 rfl rfl rfl rfl rfl rfl ?_
  refine am_if_eq hc X 2 (tgt := 16) rfl (by decide) (fun c6 => ?_) (fun c6 => ?_)
  · replace h := am_ip c6 h
    refine am_blk hc X 8 3 (fr' := (21, [(0, am_r 17 36 ia0), (1, am_i a1)], [am_i a1, am_r 17 37 ia0], q1.2)) rfl ⟨trivial, trivial, trivial, trivial⟩ ?_
    cases h
  · replace h := am_in2 c6 h
    refine am_blk hc X 3 3 (fr' := (12, [(0, am_r 17 36 ia0), (1, am_i a1)], [am_i a1, am_r 17 37 ia0], q1.2)) rfl ⟨trivial, trivial, trivial, trivial⟩ ?_
    obtain ⟨q3, hq4, h⟩ := am_bs h
    refine am_callS hc 6 X (As := [am_r 17 37 ia0, am_i a1]) (rest := []) rfl (ok_J1_charAt_3b067_37 l ia0 a1 q1.2 hq4) yv_J1_charAt_3b067 ml_J0_495 rfl rfl rfl rfl rfl ?_
    obtain ⟨ob5, h⟩ := am_ct2 h
    obtain rfl := Option.some.inj h
    exact am_nret hc X hr 7 rfl ob5 rfl rfl
def lb_X4_isWord_36_20 (k20 : Nat → Int32 → am_S → Option (Int32 × am_S)) (ix1 : Nat) (x2 : Int32) (σ : am_S) : Option (Int32 × am_S) :=
  (fn_J0_length_8abf5_36 ix1 (σ)).bind fun q3 => (if q3.1 ≤ x2 then some (1, q3.2) else (fn_J0_charAt_5068e_36 ix1 x2 q3.2).bind fun q5 => (bif am_in ((q5.2.1 11 14 0 5) + x2) 250 then (if q5.1 = (q5.2.1 11 15 0 ((((q5.2.1 11 14 0 5) + x2) : Int32).toNatClampNeg)) then k20 ix1 (x2 + 1) q5.2 else some (0, q5.2)) else none))
set_option maxRecDepth 100000 in
theorem lc_X4_isWord_36_20 {p : Program} {l : Launch} {e : Env} {s : State} {m : MethodId} {args : Array Value} {below : List Frame} {meth : Method} {c : Code} {G : am_G} {q : Int32 × am_S} (X : am_X p s m args c cX4_isWord yX4_isWord.cls 3 am_p4 G (am_fr G)) (hr : meth.sig.returnType = (some .boolean) ∧ meth.locks = false)  (k20 : Nat → Int32 → am_S → Option (Int32 × am_S)) (hk20 : ∀ (ix1 : Nat) (x2 : Int32) (σ : am_S), k20 ix1 x2 σ = some q → am_A p l e (am_ro 4) s m args below meth c 3 G (am_fr G) 0 0 (MQ below (am_Qc G (some (am_i q.1)) q.2) args s 0 0 (am_fr G)) (20, [(0, am_r 11 14 0), (1, am_r 17 36 ix1), (2, am_i x2)], [], σ)) (ix1 : Nat) (x2 : Int32) (σ : am_S) (h : lb_X4_isWord_36_20 k20 ix1 x2 σ = some q) : am_A p l e (am_ro 4) s m args below meth c 3 G (am_fr G) 0 0 (MQ below (am_Qc G (some (am_i q.1)) q.2) args s 0 0 (am_fr G)) (20, [(0, am_r 11 14 0), (1, am_r 17 36 ix1), (2, am_i x2)], [], σ) := by
  have hc := ct_X4_isWord
  unfold lb_X4_isWord_36_20 at h
  refine am_blk hc X 12 2 (fr' := (22, [(0, am_r 11 14 0), (1, am_r 17 36 ix1), (2, am_i x2)], [am_r 17 36 ix1, am_i x2], σ)) rfl ⟨trivial, trivial, trivial⟩ ?_
  obtain ⟨q3, hq4, h⟩ := am_bs h
  refine am_callT hc 14 X (i := ix1) (As := []) (rest := [am_i x2]) rfl (ok_J0_length_8abf5_36 l ix1 (σ) hq4) yv_J0_length_8abf5 ml_X4_110 rfl rfl rfl rfl rfl rfl ?_
  refine am_icmp_ge hc X 15 (tgt := 55) rfl (by decide) (fun c9 => ?_) (fun c9 => ?_)
  · replace h := am_ip c9 h
    refine am_blk hc X 31 1 (fr' := (56, [(0, am_r 11 14 0), (1, am_r 17 36 ix1), (2, am_i x2)], [am_i 1], q3.2)) rfl ⟨trivial, trivial⟩ ?_
    obtain rfl := Option.some.inj h
    exact am_zret hc X hr 32 rfl (by decide) rfl rfl
  · replace h := am_in2 c9 h
    refine am_blk hc X 16 2 (fr' := (30, [(0, am_r 11 14 0), (1, am_r 17 36 ix1), (2, am_i x2)], [am_i x2, am_r 17 36 ix1], q3.2)) rfl ⟨trivial, trivial, trivial⟩ ?_
    obtain ⟨q5, hq6, h⟩ := am_bs h
    refine am_callT hc 18 X (i := ix1) (As := [am_i x2]) (rest := []) rfl (ok_J0_charAt_5068e_36 l ix1 x2 q3.2 hq6) yv_J0_charAt_5068e ml_X4_115 rfl rfl rfl rfl rfl rfl ?_
    obtain ⟨ob7, h⟩ := am_ci h
    refine am_blk hc X 19 7 (fr' := (44, [(0, am_r 11 14 0), (1, am_r 17 36 ix1), (2, am_i x2)], [am_i (q5.2.1 11 15 0 ((((q5.2.1 11 14 0 5) + x2) : Int32).toNatClampNeg)), am_i q5.1], q5.2)) rfl ⟨trivial, trivial, trivial, trivial, trivial, trivial, (am_in_vp ob7), trivial⟩ ?_
    refine am_icmp_eq hc X 26 (tgt := 49) rfl (by decide) (fun c8 => ?_) (fun c8 => ?_)
    · replace h := am_ip c8 h
      refine am_blk hc X 29 2 (fr' := (20, [(0, am_r 11 14 0), (1, am_r 17 36 ix1), (2, am_i (x2 + 1))], [], q5.2)) rfl ⟨trivial, trivial, trivial⟩ ?_
      exact hk20 ix1 (x2 + 1) _ h
    · replace h := am_in2 c8 h
      refine am_blk hc X 27 1 (fr' := (48, [(0, am_r 11 14 0), (1, am_r 17 36 ix1), (2, am_i x2)], [am_i 0], q5.2)) rfl ⟨trivial, trivial⟩ ?_
      obtain rfl := Option.some.inj h
      exact am_zret hc X hr 28 rfl (by decide) rfl rfl
def lp_X4_isWord_36_20  : Nat → Nat → Int32 → am_S → Option (Int32 × am_S)
  | 0 => fun _ _ _ => none
  | n + 1 => lb_X4_isWord_36_20  (lp_X4_isWord_36_20  n)
theorem ll_X4_isWord_36_20 {p : Program} {l : Launch} {e : Env} {s : State} {m : MethodId} {args : Array Value} {below : List Frame} {meth : Method} {c : Code} {G : am_G} {q : Int32 × am_S} (X : am_X p s m args c cX4_isWord yX4_isWord.cls 3 am_p4 G (am_fr G)) (hr : meth.sig.returnType = (some .boolean) ∧ meth.locks = false)    : ∀ (n : Nat) (ix1 : Nat) (x2 : Int32) (σ : am_S), lp_X4_isWord_36_20  n ix1 x2 σ = some q → am_A p l e (am_ro 4) s m args below meth c 3 G (am_fr G) 0 0 (MQ below (am_Qc G (some (am_i q.1)) q.2) args s 0 0 (am_fr G)) (20, [(0, am_r 11 14 0), (1, am_r 17 36 ix1), (2, am_i x2)], [], σ) := by
  intro n
  induction n with
  | zero =>
    intro ix1 x2 σ h
    have h : (none : Option (Int32 × am_S)) = some q := h
    cases h
  | succ n ih =>
    intro ix1 x2 σ h
    exact lc_X4_isWord_36_20 X hr  (lp_X4_isWord_36_20  n) ih ix1 x2 σ h
def fn_X4_isWord_36 (ia1 : Nat) (σ : am_S) : Option (Int32 × am_S) :=
  (fn_J0_length_8abf5_36 ia1 (σ)).bind fun q1 => (if q1.1 = ((q1.2.1 11 14 0 6) - (q1.2.1 11 14 0 5)) then lp_X4_isWord_36_20  1000 ia1 0 q1.2 else some (0, q1.2))
set_option maxRecDepth 100000 in
theorem ok_X4_isWord_36 (l : Launch) (ia1 : Nat) (σ : am_S) {q : Int32 × am_S} (h : fn_X4_isWord_36 ia1 σ = some q) : am_M l yX4_isWord cX4_isWord 3 (some .boolean) 4 [am_r 11 14 0, am_r 17 36 ia1] σ (some (am_i q.1)) q.2 := by
  refine am_M_of (P := am_p4) (by decide +kernel) am_p4_ok rfl ?_
  intro G p e s m args below meth c X hr
  have hc := ct_X4_isWord
  unfold fn_X4_isWord_36 at h
  refine am_blk hc X 0 1 (fr' := (1, [(0, am_r 11 14 0), (1, am_r 17 36 ia1)], [am_r 17 36 ia1], σ)) rfl ⟨trivial, trivial⟩ ?_
  obtain ⟨q1, hq2, h⟩ := am_bs h
  refine am_callT hc 1 X (i := ia1) (As := []) (rest := []) rfl (ok_J0_length_8abf5_36 l ia1 (σ) hq2) yv_J0_length_8abf5 ml_X4_110 rfl rfl rfl rfl rfl rfl ?_
  refine am_blk hc X 2 5 (fr' := (13, [(0, am_r 11 14 0), (1, am_r 17 36 ia1)], [am_i ((q1.2.1 11 14 0 6) - (q1.2.1 11 14 0 5)), am_i q1.1], q1.2)) rfl ⟨trivial, trivial, trivial, trivial, trivial, trivial⟩ ?_
  refine am_icmp_eq hc X 7 (tgt := 18) rfl (by decide) (fun c10 => ?_) (fun c10 => ?_)
  · replace h := am_ip c10 h
    refine am_blk hc X 10 2 (fr' := (20, [(0, am_r 11 14 0), (1, am_r 17 36 ia1), (2, am_i 0)], [], q1.2)) rfl ⟨trivial, trivial, trivial⟩ ?_
    exact ll_X4_isWord_36_20 X hr   1000 ia1 0 _ h
  · replace h := am_in2 c10 h
    refine am_blk hc X 8 1 (fr' := (17, [(0, am_r 11 14 0), (1, am_r 17 36 ia1)], [am_i 0], q1.2)) rfl ⟨trivial, trivial⟩ ?_
    obtain rfl := Option.some.inj h
    exact am_zret hc X hr 9 rfl (by decide) rfl rfl
def fn_X4_mostOf (a1 : Int32) (σ : am_S) : Option (Int32 × am_S) :=
  (if a1 = 1 then some (9, σ) else (if a1 = 2 then some (12, σ) else (if a1 = 3 then some (20, σ) else (if a1 = 4 then some (5, σ) else (if a1 = 5 then some (9, σ) else (if a1 = 6 then some (999, σ) else (if a1 = 7 then some (((σ.1 3 2 0 4) - (1 : Int32)), σ) else some (6, σ))))))))
set_option maxRecDepth 100000 in
theorem ok_X4_mostOf (l : Launch) (a1 : Int32) (σ : am_S) {q : Int32 × am_S} (h : fn_X4_mostOf a1 σ = some q) : am_M l yX4_mostOf cX4_mostOf 2 (some .int) 0 [am_r 11 14 0, am_i a1] σ (some (am_i q.1)) q.2 := by
  refine am_M_of (P := am_p4) (by decide +kernel) am_p4_ok rfl ?_
  intro G p e s m args below meth c X hr
  have hc := ct_X4_mostOf
  unfold fn_X4_mostOf at h
  refine am_blk hc X 0 1 (fr' := (1, [(0, am_r 11 14 0), (1, am_i a1)], [am_i a1], σ)) rfl ⟨trivial, trivial⟩ ?_
  by_cases c1 : a1 = 1
  · replace h := am_ip c1 h
    refine am_tin hc X 1 (tgt := 44) (off := 43) rfl (by rw [c1]; decide) (by rw [c1]; decide) (by rw [c1]; rfl) (by decide) ?_
    refine am_blk hc X 2 1 (fr' := (46, [(0, am_r 11 14 0), (1, am_i a1)], [am_i 9], σ)) rfl ⟨trivial, trivial⟩ ?_
    obtain rfl := Option.some.inj h
    exact am_iret hc X hr 3 rfl rfl rfl
  · replace h := am_in2 c1 h
    by_cases c2 : a1 = 2
    · replace h := am_ip c2 h
      refine am_tin hc X 1 (tgt := 47) (off := 46) rfl (by rw [c2]; decide) (by rw [c2]; decide) (by rw [c2]; rfl) (by decide) ?_
      refine am_blk hc X 4 1 (fr' := (49, [(0, am_r 11 14 0), (1, am_i a1)], [am_i 12], σ)) rfl ⟨trivial, trivial⟩ ?_
      obtain rfl := Option.some.inj h
      exact am_iret hc X hr 5 rfl rfl rfl
    · replace h := am_in2 c2 h
      by_cases c3 : a1 = 3
      · replace h := am_ip c3 h
        refine am_tin hc X 1 (tgt := 50) (off := 49) rfl (by rw [c3]; decide) (by rw [c3]; decide) (by rw [c3]; rfl) (by decide) ?_
        refine am_blk hc X 6 1 (fr' := (52, [(0, am_r 11 14 0), (1, am_i a1)], [am_i 20], σ)) rfl ⟨trivial, trivial⟩ ?_
        obtain rfl := Option.some.inj h
        exact am_iret hc X hr 7 rfl rfl rfl
      · replace h := am_in2 c3 h
        by_cases c4 : a1 = 4
        · replace h := am_ip c4 h
          refine am_tin hc X 1 (tgt := 53) (off := 52) rfl (by rw [c4]; decide) (by rw [c4]; decide) (by rw [c4]; rfl) (by decide) ?_
          refine am_blk hc X 8 1 (fr' := (54, [(0, am_r 11 14 0), (1, am_i a1)], [am_i 5], σ)) rfl ⟨trivial, trivial⟩ ?_
          obtain rfl := Option.some.inj h
          exact am_iret hc X hr 9 rfl rfl rfl
        · replace h := am_in2 c4 h
          by_cases c5 : a1 = 5
          · replace h := am_ip c5 h
            refine am_tin hc X 1 (tgt := 55) (off := 54) rfl (by rw [c5]; decide) (by rw [c5]; decide) (by rw [c5]; rfl) (by decide) ?_
            refine am_blk hc X 10 1 (fr' := (57, [(0, am_r 11 14 0), (1, am_i a1)], [am_i 9], σ)) rfl ⟨trivial, trivial⟩ ?_
            obtain rfl := Option.some.inj h
            exact am_iret hc X hr 11 rfl rfl rfl
          · replace h := am_in2 c5 h
            by_cases c6 : a1 = 6
            · replace h := am_ip c6 h
              refine am_tin hc X 1 (tgt := 58) (off := 57) rfl (by rw [c6]; decide) (by rw [c6]; decide) (by rw [c6]; rfl) (by decide) ?_
              refine am_blk hc X 12 1 (fr' := (61, [(0, am_r 11 14 0), (1, am_i a1)], [am_i 999], σ)) rfl ⟨trivial, trivial⟩ ?_
              obtain rfl := Option.some.inj h
              exact am_iret hc X hr 13 rfl rfl rfl
            · replace h := am_in2 c6 h
              by_cases c7 : a1 = 7
              · replace h := am_ip c7 h
                refine am_tin hc X 1 (tgt := 62) (off := 61) rfl (by rw [c7]; decide) (by rw [c7]; decide) (by rw [c7]; rfl) (by decide) ?_
                refine am_blk hc X 14 5 (fr' := (71, [(0, am_r 11 14 0), (1, am_i a1)], [am_i ((σ.1 3 2 0 4) - (1 : Int32))], σ)) rfl ⟨trivial, trivial, trivial, trivial, trivial, trivial⟩ ?_
                obtain rfl := Option.some.inj h
                exact am_iret hc X hr 19 rfl rfl rfl
              · replace h := am_in2 c7 h
                refine am_tout hc X 1 (tgt := 72) rfl (am_sw 1 7 (fun z h1 h2 => ?_)) (by decide) ?_
                · rcases (show z = 1 ∨ z = 2 ∨ z = 3 ∨ z = 4 ∨ z = 5 ∨ z = 6 ∨ z = 7 by omega) with rfl | rfl | rfl | rfl | rfl | rfl | rfl
                  · exact lv_neT c1 rfl
                  · exact lv_neT c2 rfl
                  · exact lv_neT c3 rfl
                  · exact lv_neT c4 rfl
                  · exact lv_neT c5 rfl
                  · exact lv_neT c6 rfl
                  · exact lv_neT c7 rfl
                · refine am_blk hc X 20 1 (fr' := (74, [(0, am_r 11 14 0), (1, am_i a1)], [am_i 6], σ)) rfl ⟨trivial, trivial⟩ ?_
                  obtain rfl := Option.some.inj h
                  exact am_iret hc X hr 21 rfl rfl rfl
def jn_X4_tokenOf_28  (x0 : Int32) (σ : am_S) : Option (Int32 × am_S) :=
  (if x0 = 59 then some (3, σ) else some (4, σ))
set_option maxRecDepth 100000 in
theorem jl_X4_tokenOf_28 {p : Program} {l : Launch} {e : Env} {s : State} {m : MethodId} {args : Array Value} {below : List Frame} {meth : Method} {c : Code} {G : am_G} {q : Int32 × am_S} (X : am_X p s m args c cX4_tokenOf yX4_tokenOf.cls 1 am_p4 G (am_fr G)) (hr : meth.sig.returnType = (some .int) ∧ meth.locks = false)    (x0 : Int32) (σ : am_S) (h : jn_X4_tokenOf_28  x0 σ = some q) : am_A p l e (am_ro 0) s m args below meth c 1 G (am_fr G) 0 0 (MQ below (am_Qc G (some (am_i q.1)) q.2) args s 0 0 (am_fr G)) (28, [(0, am_i x0)], [], σ) := by
  have hc := ct_X4_tokenOf
  unfold jn_X4_tokenOf_28 at h
  refine am_blk hc X 16 2 (fr' := (31, [(0, am_i x0)], [am_i 59, am_i x0], σ)) rfl ⟨trivial, trivial, trivial⟩ ?_
  refine am_icmp_ne hc X 18 (tgt := 38) rfl (by decide) (fun c1 => ?_) (fun c1 => ?_)
  · replace h := am_in2 c1 h
    refine am_blk hc X 21 1 (fr' := (39, [(0, am_i x0)], [am_i 4], σ)) rfl ⟨trivial, trivial⟩ ?_
    obtain rfl := Option.some.inj h
    exact am_iret hc X hr 22 rfl rfl rfl
  · replace h := am_ip c1 h
    refine am_blk hc X 19 2 (fr' := (39, [(0, am_i x0)], [am_i 3], σ)) rfl ⟨trivial, trivial, trivial⟩ ?_
    obtain rfl := Option.some.inj h
    exact am_iret hc X hr 22 rfl rfl rfl
def jn_X4_tokenOf_14  (x0 : Int32) (σ : am_S) : Option (Int32 × am_S) :=
  (if x0 < 48 then jn_X4_tokenOf_28  x0 (σ) else (if 57 < x0 then jn_X4_tokenOf_28  x0 (σ) else some (2, σ)))
set_option maxRecDepth 100000 in
theorem jl_X4_tokenOf_14 {p : Program} {l : Launch} {e : Env} {s : State} {m : MethodId} {args : Array Value} {below : List Frame} {meth : Method} {c : Code} {G : am_G} {q : Int32 × am_S} (X : am_X p s m args c cX4_tokenOf yX4_tokenOf.cls 1 am_p4 G (am_fr G)) (hr : meth.sig.returnType = (some .int) ∧ meth.locks = false)    (x0 : Int32) (σ : am_S) (h : jn_X4_tokenOf_14  x0 σ = some q) : am_A p l e (am_ro 0) s m args below meth c 1 G (am_fr G) 0 0 (MQ below (am_Qc G (some (am_i q.1)) q.2) args s 0 0 (am_fr G)) (14, [(0, am_i x0)], [], σ) := by
  have hc := ct_X4_tokenOf
  unfold jn_X4_tokenOf_14 at h
  refine am_blk hc X 8 2 (fr' := (17, [(0, am_i x0)], [am_i 48, am_i x0], σ)) rfl ⟨trivial, trivial, trivial⟩ ?_
  refine am_icmp_lt hc X 10 (tgt := 28) rfl (by decide) (fun c3 => ?_) (fun c3 => ?_)
  · replace h := am_ip c3 h
    exact jl_X4_tokenOf_28 X hr   x0 _ h
  · replace h := am_in2 c3 h
    refine am_blk hc X 11 2 (fr' := (23, [(0, am_i x0)], [am_i 57, am_i x0], σ)) rfl ⟨trivial, trivial, trivial⟩ ?_
    refine am_icmp_gt hc X 13 (tgt := 28) rfl (by decide) (fun c2 => ?_) (fun c2 => ?_)
    · replace h := am_ip c2 h
      exact jl_X4_tokenOf_28 X hr   x0 _ h
    · replace h := am_in2 c2 h
      refine am_blk hc X 14 1 (fr' := (27, [(0, am_i x0)], [am_i 2], σ)) rfl ⟨trivial, trivial⟩ ?_
      obtain rfl := Option.some.inj h
      exact am_iret hc X hr 15 rfl rfl rfl
def fn_X4_tokenOf (a0 : Int32) (σ : am_S) : Option (Int32 × am_S) :=
  (if a0 < 97 then jn_X4_tokenOf_14  a0 (σ) else (if 122 < a0 then jn_X4_tokenOf_14  a0 (σ) else some (1, σ)))
set_option maxRecDepth 100000 in
theorem ok_X4_tokenOf (l : Launch) (a0 : Int32) (σ : am_S) {q : Int32 × am_S} (h : fn_X4_tokenOf a0 σ = some q) : am_M l yX4_tokenOf cX4_tokenOf 1 (some .int) 0 [am_i a0] σ (some (am_i q.1)) q.2 := by
  refine am_M_of (P := am_p4) (by decide +kernel) am_p4_ok rfl ?_
  intro G p e s m args below meth c X hr
  have hc := ct_X4_tokenOf
  unfold fn_X4_tokenOf at h
  refine am_blk hc X 0 2 (fr' := (3, [(0, am_i a0)], [am_i 97, am_i a0], σ)) rfl ⟨trivial, trivial, trivial⟩ ?_
  refine am_icmp_lt hc X 2 (tgt := 14) rfl (by decide) (fun c5 => ?_) (fun c5 => ?_)
  · replace h := am_ip c5 h
    exact jl_X4_tokenOf_14 X hr   a0 _ h
  · replace h := am_in2 c5 h
    refine am_blk hc X 3 2 (fr' := (9, [(0, am_i a0)], [am_i 122, am_i a0], σ)) rfl ⟨trivial, trivial, trivial⟩ ?_
    refine am_icmp_gt hc X 5 (tgt := 14) rfl (by decide) (fun c4 => ?_) (fun c4 => ?_)
    · replace h := am_ip c4 h
      exact jl_X4_tokenOf_14 X hr   a0 _ h
    · replace h := am_in2 c4 h
      refine am_blk hc X 6 1 (fr' := (13, [(0, am_i a0)], [am_i 1], σ)) rfl ⟨trivial, trivial⟩ ?_
      obtain rfl := Option.some.inj h
      exact am_iret hc X hr 7 rfl rfl rfl
def lb_X4_nextToken_101 (k101 : am_S → Option (am_S))  (σ : am_S) : Option (am_S) :=
  (if (σ.1 11 14 0 2) ≤ (σ.1 11 14 0 6) then some (σ) else (bif am_in (σ.1 11 14 0 6) 250 then (fn_X4_tokenOf (σ.1 11 15 0 (((σ.1 11 14 0 6) : Int32).toNatClampNeg)) (σ)).bind fun q2 => (if q2.1 = (q2.2.1 11 14 0 4) then k101  (am_u q2.2 11 14 0 6 ((q2.2.1 11 14 0 6) + (1 : Int32))) else some q2.2) else none))
set_option maxRecDepth 100000 in
theorem lc_X4_nextToken_101 {p : Program} {l : Launch} {e : Env} {s : State} {m : MethodId} {args : Array Value} {below : List Frame} {meth : Method} {c : Code} {G : am_G} {q : am_S} (X : am_X p s m args c cX4_nextToken yX4_nextToken.cls 1 am_p4 G (am_fr G)) (hr : meth.sig.returnType = none ∧ meth.locks = false)  (k101 : am_S → Option (am_S)) (hk101 : ∀  (σ : am_S), k101  σ = some q → am_A p l e (am_ro 1) s m args below meth c 1 G (am_fr G) 0 0 (MQ below (am_Qc G none q) args s 0 0 (am_fr G)) (101, [(0, am_r 11 14 0)], [], σ))  (σ : am_S) (h : lb_X4_nextToken_101 k101  σ = some q) : am_A p l e (am_ro 1) s m args below meth c 1 G (am_fr G) 0 0 (MQ below (am_Qc G none q) args s 0 0 (am_fr G)) (101, [(0, am_r 11 14 0)], [], σ) := by
  have hc := ct_X4_nextToken
  unfold lb_X4_nextToken_101 at h
  refine am_blk hc X 50 4 (fr' := (109, [(0, am_r 11 14 0)], [am_i (σ.1 11 14 0 2), am_i (σ.1 11 14 0 6)], σ)) rfl ⟨trivial, trivial, trivial, trivial, trivial⟩ ?_
  refine am_icmp_ge hc X 54 (tgt := 161) rfl (by decide) (fun c5 => ?_) (fun c5 => ?_)
  · replace h := am_ip c5 h
    obtain rfl := Option.some.inj h
    exact am_vret hc X hr 80 rfl rfl rfl
  · replace h := am_in2 c5 h
    obtain ⟨ob1, h⟩ := am_ci h
    refine am_blk hc X 55 5 (fr' := (121, [(0, am_r 11 14 0)], [am_i (σ.1 11 15 0 (((σ.1 11 14 0 6) : Int32).toNatClampNeg))], σ)) rfl ⟨trivial, trivial, trivial, trivial, (am_in_vp ob1), trivial⟩ ?_
    obtain ⟨q2, hq3, h⟩ := am_bs h
    refine am_callS hc 60 X (As := [am_i (σ.1 11 15 0 (((σ.1 11 14 0 6) : Int32).toNatClampNeg))]) (rest := []) rfl (ok_X4_tokenOf l (σ.1 11 15 0 (((σ.1 11 14 0 6) : Int32).toNatClampNeg)) (σ) hq3) yv_X4_tokenOf ml_X4_99 rfl rfl rfl rfl rfl ?_
    refine am_blk hc X 61 2 (fr' := (128, [(0, am_r 11 14 0)], [am_i (q2.2.1 11 14 0 4), am_i q2.1], q2.2)) rfl ⟨trivial, trivial, trivial⟩ ?_
    refine am_icmp_ne hc X 63 (tgt := 161) rfl (by decide) (fun c4 => ?_) (fun c4 => ?_)
    · replace h := am_in2 c4 h
      obtain rfl := Option.some.inj h
      exact am_vret hc X hr 80 rfl rfl rfl
    · replace h := am_ip c4 h
      refine am_blk hc X 64 7 (fr' := (101, [(0, am_r 11 14 0)], [], (am_u q2.2 11 14 0 6 ((q2.2.1 11 14 0 6) + (1 : Int32))))) rfl ⟨trivial, trivial, trivial, trivial, trivial, trivial, trivial, trivial⟩ ?_
      exact hk101  _ h
def lp_X4_nextToken_101  : Nat → am_S → Option (am_S)
  | 0 => fun  _ => none
  | n + 1 => lb_X4_nextToken_101  (lp_X4_nextToken_101  n)
theorem ll_X4_nextToken_101 {p : Program} {l : Launch} {e : Env} {s : State} {m : MethodId} {args : Array Value} {below : List Frame} {meth : Method} {c : Code} {G : am_G} {q : am_S} (X : am_X p s m args c cX4_nextToken yX4_nextToken.cls 1 am_p4 G (am_fr G)) (hr : meth.sig.returnType = none ∧ meth.locks = false)    : ∀ (n : Nat)  (σ : am_S), lp_X4_nextToken_101  n  σ = some q → am_A p l e (am_ro 1) s m args below meth c 1 G (am_fr G) 0 0 (MQ below (am_Qc G none q) args s 0 0 (am_fr G)) (101, [(0, am_r 11 14 0)], [], σ) := by
  intro n
  induction n with
  | zero =>
    intro  σ h
    have h : (none : Option (am_S)) = some q := h
    cases h
  | succ n ih =>
    intro  σ h
    exact lc_X4_nextToken_101 X hr  (lp_X4_nextToken_101  n) ih  σ h
def jn_X4_nextToken_74  (y0 : Int32) (σ : am_S) : Option (am_S) :=
  (if y0 = 1 then lp_X4_nextToken_101  1000  (am_u (am_u σ 11 14 0 4 y0) 11 14 0 6 (σ.1 11 14 0 5)) else (if y0 = 2 then lp_X4_nextToken_101  1000  (am_u (am_u σ 11 14 0 4 y0) 11 14 0 6 (σ.1 11 14 0 5)) else (if y0 = 0 then some (am_u (am_u σ 11 14 0 4 y0) 11 14 0 6 (σ.1 11 14 0 5)) else some (am_u (am_u (am_u σ 11 14 0 4 y0) 11 14 0 6 (σ.1 11 14 0 5)) 11 14 0 6 ((σ.1 11 14 0 5) + (1 : Int32))))))
set_option maxRecDepth 100000 in
theorem jl_X4_nextToken_74 {p : Program} {l : Launch} {e : Env} {s : State} {m : MethodId} {args : Array Value} {below : List Frame} {meth : Method} {c : Code} {G : am_G} {q : am_S} (X : am_X p s m args c cX4_nextToken yX4_nextToken.cls 1 am_p4 G (am_fr G)) (hr : meth.sig.returnType = none ∧ meth.locks = false)    (y0 : Int32) (σ : am_S) (h : jn_X4_nextToken_74  y0 σ = some q) : am_A p l e (am_ro 1) s m args below meth c 1 G (am_fr G) 0 0 (MQ below (am_Qc G none q) args s 0 0 (am_fr G)) (74, [(0, am_r 11 14 0)], [am_i y0, am_r 11 14 0], σ) := by
  have hc := ct_X4_nextToken
  unfold jn_X4_nextToken_74 at h
  refine am_blk hc X 37 8 (fr' := (90, [(0, am_r 11 14 0)], [am_i 1, am_i y0], (am_u (am_u σ 11 14 0 4 y0) 11 14 0 6 (σ.1 11 14 0 5)))) rfl ⟨trivial, trivial, trivial, trivial, trivial, trivial, trivial, trivial, trivial⟩ ?_
  refine am_icmp_eq hc X 45 (tgt := 101) rfl (by decide) (fun c8 => ?_) (fun c8 => ?_)
  · replace h := am_ip c8 h
    exact ll_X4_nextToken_101 X hr   1000  _ h
  · replace h := am_in2 c8 h
    refine am_blk hc X 46 3 (fr' := (98, [(0, am_r 11 14 0)], [am_i 2, am_i y0], (am_u (am_u σ 11 14 0 4 y0) 11 14 0 6 (σ.1 11 14 0 5)))) rfl ⟨trivial, trivial, trivial, trivial⟩ ?_
    refine am_icmp_ne hc X 49 (tgt := 144) rfl (by decide) (fun c7 => ?_) (fun c7 => ?_)
    · replace h := am_in2 c7 h
      refine am_blk hc X 71 2 (fr' := (148, [(0, am_r 11 14 0)], [am_i y0], (am_u (am_u σ 11 14 0 4 y0) 11 14 0 6 (σ.1 11 14 0 5)))) rfl ⟨trivial, trivial, trivial⟩ ?_
      refine am_if_eq hc X 73 (tgt := 161) rfl (by decide) (fun c6 => ?_) (fun c6 => ?_)
      · replace h := am_ip c6 h
        obtain rfl := Option.some.inj h
        exact am_vret hc X hr 80 rfl rfl rfl
      · replace h := am_in2 c6 h
        refine am_blk hc X 74 6 (fr' := (161, [(0, am_r 11 14 0)], [], (am_u (am_u (am_u σ 11 14 0 4 y0) 11 14 0 6 (σ.1 11 14 0 5)) 11 14 0 6 ((σ.1 11 14 0 5) + (1 : Int32))))) rfl ⟨trivial, trivial, trivial, trivial, trivial, trivial, trivial⟩ ?_
        obtain rfl := Option.some.inj h
        exact am_vret hc X hr 80 rfl rfl rfl
    · replace h := am_ip c7 h
      exact ll_X4_nextToken_101 X hr   1000  _ h
def jn_X4_nextToken_46   (σ : am_S) : Option (am_S) :=
  (if (σ.1 11 14 0 2) ≤ (σ.1 11 14 0 5) then jn_X4_nextToken_74  0 (σ) else (bif am_in (σ.1 11 14 0 5) 250 then (fn_X4_tokenOf (σ.1 11 15 0 (((σ.1 11 14 0 5) : Int32).toNatClampNeg)) (σ)).bind fun q10 => jn_X4_nextToken_74  q10.1 q10.2 else none))
set_option maxRecDepth 100000 in
theorem jl_X4_nextToken_46 {p : Program} {l : Launch} {e : Env} {s : State} {m : MethodId} {args : Array Value} {below : List Frame} {meth : Method} {c : Code} {G : am_G} {q : am_S} (X : am_X p s m args c cX4_nextToken yX4_nextToken.cls 1 am_p4 G (am_fr G)) (hr : meth.sig.returnType = none ∧ meth.locks = false)     (σ : am_S) (h : jn_X4_nextToken_46   σ = some q) : am_A p l e (am_ro 1) s m args below meth c 1 G (am_fr G) 0 0 (MQ below (am_Qc G none q) args s 0 0 (am_fr G)) (46, [(0, am_r 11 14 0)], [], σ) := by
  have hc := ct_X4_nextToken
  unfold jn_X4_nextToken_46 at h
  refine am_blk hc X 23 5 (fr' := (55, [(0, am_r 11 14 0)], [am_i (σ.1 11 14 0 2), am_i (σ.1 11 14 0 5), am_r 11 14 0], σ)) rfl ⟨trivial, trivial, trivial, trivial, trivial, trivial⟩ ?_
  refine am_icmp_ge hc X 28 (tgt := 73) rfl (by decide) (fun c12 => ?_) (fun c12 => ?_)
  · replace h := am_ip c12 h
    refine am_blk hc X 36 1 (fr' := (74, [(0, am_r 11 14 0)], [am_i 0, am_r 11 14 0], σ)) rfl ⟨trivial, trivial⟩ ?_
    exact jl_X4_nextToken_74 X hr   0 _ h
  · replace h := am_in2 c12 h
    obtain ⟨ob9, h⟩ := am_ci h
    refine am_blk hc X 29 5 (fr' := (67, [(0, am_r 11 14 0)], [am_i (σ.1 11 15 0 (((σ.1 11 14 0 5) : Int32).toNatClampNeg)), am_r 11 14 0], σ)) rfl ⟨trivial, trivial, trivial, trivial, (am_in_vp ob9), trivial⟩ ?_
    obtain ⟨q10, hq11, h⟩ := am_bs h
    refine am_callS hc 34 X (As := [am_i (σ.1 11 15 0 (((σ.1 11 14 0 5) : Int32).toNatClampNeg))]) (rest := [am_r 11 14 0]) rfl (ok_X4_tokenOf l (σ.1 11 15 0 (((σ.1 11 14 0 5) : Int32).toNatClampNeg)) (σ) hq11) yv_X4_tokenOf ml_X4_99 rfl rfl rfl rfl rfl ?_
    refine am_blk hc X 35 1 (fr' := (74, [(0, am_r 11 14 0)], [am_i q10.1, am_r 11 14 0], q10.2)) rfl ⟨trivial, trivial⟩ ?_
    exact jl_X4_nextToken_74 X hr   q10.1 _ h
def lb_X4_nextToken_8 (k8 : am_S → Option (am_S))  (σ : am_S) : Option (am_S) :=
  (if (σ.1 11 14 0 2) ≤ (σ.1 11 14 0 5) then jn_X4_nextToken_46   (σ) else (bif am_in (σ.1 11 14 0 5) 250 then (if (σ.1 11 15 0 (((σ.1 11 14 0 5) : Int32).toNatClampNeg)) = 32 then k8  (am_u σ 11 14 0 5 ((σ.1 11 14 0 5) + (1 : Int32))) else jn_X4_nextToken_46   (σ)) else none))
set_option maxRecDepth 100000 in
theorem lc_X4_nextToken_8 {p : Program} {l : Launch} {e : Env} {s : State} {m : MethodId} {args : Array Value} {below : List Frame} {meth : Method} {c : Code} {G : am_G} {q : am_S} (X : am_X p s m args c cX4_nextToken yX4_nextToken.cls 1 am_p4 G (am_fr G)) (hr : meth.sig.returnType = none ∧ meth.locks = false)  (k8 : am_S → Option (am_S)) (hk8 : ∀  (σ : am_S), k8  σ = some q → am_A p l e (am_ro 1) s m args below meth c 1 G (am_fr G) 0 0 (MQ below (am_Qc G none q) args s 0 0 (am_fr G)) (8, [(0, am_r 11 14 0)], [], σ))  (σ : am_S) (h : lb_X4_nextToken_8 k8  σ = some q) : am_A p l e (am_ro 1) s m args below meth c 1 G (am_fr G) 0 0 (MQ below (am_Qc G none q) args s 0 0 (am_fr G)) (8, [(0, am_r 11 14 0)], [], σ) := by
  have hc := ct_X4_nextToken
  unfold lb_X4_nextToken_8 at h
  refine am_blk hc X 4 4 (fr' := (16, [(0, am_r 11 14 0)], [am_i (σ.1 11 14 0 2), am_i (σ.1 11 14 0 5)], σ)) rfl ⟨trivial, trivial, trivial, trivial, trivial⟩ ?_
  refine am_icmp_ge hc X 8 (tgt := 46) rfl (by decide) (fun c15 => ?_) (fun c15 => ?_)
  · replace h := am_ip c15 h
    exact jl_X4_nextToken_46 X hr    _ h
  · replace h := am_in2 c15 h
    obtain ⟨ob13, h⟩ := am_ci h
    refine am_blk hc X 9 6 (fr' := (30, [(0, am_r 11 14 0)], [am_i 32, am_i (σ.1 11 15 0 (((σ.1 11 14 0 5) : Int32).toNatClampNeg))], σ)) rfl ⟨trivial, trivial, trivial, trivial, (am_in_vp ob13), trivial, trivial⟩ ?_
    refine am_icmp_ne hc X 15 (tgt := 46) rfl (by decide) (fun c14 => ?_) (fun c14 => ?_)
    · replace h := am_in2 c14 h
      exact jl_X4_nextToken_46 X hr    _ h
    · replace h := am_ip c14 h
      refine am_blk hc X 16 7 (fr' := (8, [(0, am_r 11 14 0)], [], (am_u σ 11 14 0 5 ((σ.1 11 14 0 5) + (1 : Int32))))) rfl ⟨trivial, trivial, trivial, trivial, trivial, trivial, trivial, trivial⟩ ?_
      exact hk8  _ h
def lp_X4_nextToken_8  : Nat → am_S → Option (am_S)
  | 0 => fun  _ => none
  | n + 1 => lb_X4_nextToken_8  (lp_X4_nextToken_8  n)
theorem ll_X4_nextToken_8 {p : Program} {l : Launch} {e : Env} {s : State} {m : MethodId} {args : Array Value} {below : List Frame} {meth : Method} {c : Code} {G : am_G} {q : am_S} (X : am_X p s m args c cX4_nextToken yX4_nextToken.cls 1 am_p4 G (am_fr G)) (hr : meth.sig.returnType = none ∧ meth.locks = false)    : ∀ (n : Nat)  (σ : am_S), lp_X4_nextToken_8  n  σ = some q → am_A p l e (am_ro 1) s m args below meth c 1 G (am_fr G) 0 0 (MQ below (am_Qc G none q) args s 0 0 (am_fr G)) (8, [(0, am_r 11 14 0)], [], σ) := by
  intro n
  induction n with
  | zero =>
    intro  σ h
    have h : (none : Option (am_S)) = some q := h
    cases h
  | succ n ih =>
    intro  σ h
    exact lc_X4_nextToken_8 X hr  (lp_X4_nextToken_8  n) ih  σ h
def fn_X4_nextToken  (σ : am_S) : Option (am_S) :=
  lp_X4_nextToken_8  1000  (am_u σ 11 14 0 5 (σ.1 11 14 0 6))
set_option maxRecDepth 100000 in
theorem ok_X4_nextToken (l : Launch)  (σ : am_S) {q : am_S} (h : fn_X4_nextToken  σ = some q) : am_M l yX4_nextToken cX4_nextToken 1 none 1 [am_r 11 14 0] σ none q := by
  refine am_M_of (P := am_p4) (by decide +kernel) am_p4_ok rfl ?_
  intro G p e s m args below meth c X hr
  have hc := ct_X4_nextToken
  unfold fn_X4_nextToken at h
  refine am_blk hc X 0 4 (fr' := (8, [(0, am_r 11 14 0)], [], (am_u σ 11 14 0 5 (σ.1 11 14 0 6)))) rfl ⟨trivial, trivial, trivial, trivial, trivial⟩ ?_
  exact ll_X4_nextToken_8 X hr   1000  _ h
def fn_X4_putByte (a1 : Int32) (σ : am_S) : Option (am_S) :=
  (if 250 ≤ (σ.1 11 14 0 2) then some (σ) else (bif am_in (σ.1 11 14 0 2) 250 then some (am_u (am_u σ 11 15 0 (((σ.1 11 14 0 2) : Int32).toNatClampNeg) a1) 11 14 0 2 ((σ.1 11 14 0 2) + (1 : Int32))) else none))
set_option maxRecDepth 100000 in
theorem ok_X4_putByte (l : Launch) (a1 : Int32) (σ : am_S) {q : am_S} (h : fn_X4_putByte a1 σ = some q) : am_M l yX4_putByte cX4_putByte 2 none 0 [am_r 11 14 0, am_i a1] σ none q := by
  refine am_M_of (P := am_p4) (by decide +kernel) am_p4_ok rfl ?_
  intro G p e s m args below meth c X hr
  have hc := ct_X4_putByte
  unfold fn_X4_putByte at h
  refine am_blk hc X 0 3 (fr' := (7, [(0, am_r 11 14 0), (1, am_i a1)], [am_i 250, am_i (σ.1 11 14 0 2)], σ)) rfl ⟨trivial, trivial, trivial, trivial⟩ ?_
  refine am_icmp_ge hc X 3 (tgt := 30) rfl (by decide) (fun c2 => ?_) (fun c2 => ?_)
  · replace h := am_ip c2 h
    obtain rfl := Option.some.inj h
    exact am_vret hc X hr 16 rfl rfl rfl
  · replace h := am_in2 c2 h
    obtain ⟨ob1, h⟩ := am_ci h
    refine am_blk hc X 4 12 (fr' := (30, [(0, am_r 11 14 0), (1, am_i a1)], [], (am_u (am_u σ 11 15 0 (((σ.1 11 14 0 2) : Int32).toNatClampNeg) a1) 11 14 0 2 ((σ.1 11 14 0 2) + (1 : Int32))))) rfl ⟨trivial, trivial, trivial, trivial, trivial, (am_in_vp ob1), trivial, trivial, trivial, trivial, trivial, trivial, trivial⟩ ?_
    obtain rfl := Option.some.inj h
    exact am_vret hc X hr 16 rfl rfl rfl
def lb_X4_tokenNumber_7 (k7 : Int32 → Int32 → am_S → Option (Int32 × am_S)) (x1 : Int32) (x2 : Int32) (σ : am_S) : Option (Int32 × am_S) :=
  (if (σ.1 11 14 0 6) ≤ x2 then some (x1, σ) else (bif am_in x2 250 then k7 (((x1 * (10 : Int32)) + (σ.1 11 15 0 ((x2 : Int32).toNatClampNeg))) - (48 : Int32)) (x2 + 1) (σ) else none))
set_option maxRecDepth 100000 in
theorem lc_X4_tokenNumber_7 {p : Program} {l : Launch} {e : Env} {s : State} {m : MethodId} {args : Array Value} {below : List Frame} {meth : Method} {c : Code} {G : am_G} {q : Int32 × am_S} (X : am_X p s m args c cX4_tokenNumber yX4_tokenNumber.cls 3 am_p4 G (am_fr G)) (hr : meth.sig.returnType = (some .int) ∧ meth.locks = false)  (k7 : Int32 → Int32 → am_S → Option (Int32 × am_S)) (hk7 : ∀ (x1 : Int32) (x2 : Int32) (σ : am_S), k7 x1 x2 σ = some q → am_A p l e (am_ro 0) s m args below meth c 3 G (am_fr G) 0 0 (MQ below (am_Qc G (some (am_i q.1)) q.2) args s 0 0 (am_fr G)) (7, [(0, am_r 11 14 0), (1, am_i x1), (2, am_i x2)], [], σ)) (x1 : Int32) (x2 : Int32) (σ : am_S) (h : lb_X4_tokenNumber_7 k7 x1 x2 σ = some q) : am_A p l e (am_ro 0) s m args below meth c 3 G (am_fr G) 0 0 (MQ below (am_Qc G (some (am_i q.1)) q.2) args s 0 0 (am_fr G)) (7, [(0, am_r 11 14 0), (1, am_i x1), (2, am_i x2)], [], σ) := by
  have hc := ct_X4_tokenNumber
  unfold lb_X4_tokenNumber_7 at h
  refine am_blk hc X 5 3 (fr' := (12, [(0, am_r 11 14 0), (1, am_i x1), (2, am_i x2)], [am_i (σ.1 11 14 0 6), am_i x2], σ)) rfl ⟨trivial, trivial, trivial, trivial⟩ ?_
  refine am_icmp_ge hc X 8 (tgt := 36) rfl (by decide) (fun c2 => ?_) (fun c2 => ?_)
  · replace h := am_ip c2 h
    refine am_blk hc X 22 1 (fr' := (37, [(0, am_r 11 14 0), (1, am_i x1), (2, am_i x2)], [am_i x1], σ)) rfl ⟨trivial, trivial⟩ ?_
    obtain rfl := Option.some.inj h
    exact am_iret hc X hr 23 rfl rfl rfl
  · replace h := am_in2 c2 h
    obtain ⟨ob1, h⟩ := am_ci h
    refine am_blk hc X 9 13 (fr' := (7, [(0, am_r 11 14 0), (1, am_i (((x1 * (10 : Int32)) + (σ.1 11 15 0 ((x2 : Int32).toNatClampNeg))) - (48 : Int32))), (2, am_i (x2 + 1))], [], σ)) rfl ⟨trivial, trivial, trivial, trivial, trivial, trivial, (am_in_vp ob1), trivial, trivial, trivial, trivial, trivial, trivial, trivial⟩ ?_
    exact hk7 (((x1 * (10 : Int32)) + (σ.1 11 15 0 ((x2 : Int32).toNatClampNeg))) - (48 : Int32)) (x2 + 1) _ h
def lp_X4_tokenNumber_7  : Nat → Int32 → Int32 → am_S → Option (Int32 × am_S)
  | 0 => fun _ _ _ => none
  | n + 1 => lb_X4_tokenNumber_7  (lp_X4_tokenNumber_7  n)
theorem ll_X4_tokenNumber_7 {p : Program} {l : Launch} {e : Env} {s : State} {m : MethodId} {args : Array Value} {below : List Frame} {meth : Method} {c : Code} {G : am_G} {q : Int32 × am_S} (X : am_X p s m args c cX4_tokenNumber yX4_tokenNumber.cls 3 am_p4 G (am_fr G)) (hr : meth.sig.returnType = (some .int) ∧ meth.locks = false)    : ∀ (n : Nat) (x1 : Int32) (x2 : Int32) (σ : am_S), lp_X4_tokenNumber_7  n x1 x2 σ = some q → am_A p l e (am_ro 0) s m args below meth c 3 G (am_fr G) 0 0 (MQ below (am_Qc G (some (am_i q.1)) q.2) args s 0 0 (am_fr G)) (7, [(0, am_r 11 14 0), (1, am_i x1), (2, am_i x2)], [], σ) := by
  intro n
  induction n with
  | zero =>
    intro x1 x2 σ h
    have h : (none : Option (Int32 × am_S)) = some q := h
    cases h
  | succ n ih =>
    intro x1 x2 σ h
    exact lc_X4_tokenNumber_7 X hr  (lp_X4_tokenNumber_7  n) ih x1 x2 σ h
def fn_X4_tokenNumber  (σ : am_S) : Option (Int32 × am_S) :=
  lp_X4_tokenNumber_7  1000 0 (σ.1 11 14 0 5) (σ)
set_option maxRecDepth 100000 in
theorem ok_X4_tokenNumber (l : Launch)  (σ : am_S) {q : Int32 × am_S} (h : fn_X4_tokenNumber  σ = some q) : am_M l yX4_tokenNumber cX4_tokenNumber 3 (some .int) 0 [am_r 11 14 0] σ (some (am_i q.1)) q.2 := by
  refine am_M_of (P := am_p4) (by decide +kernel) am_p4_ok rfl ?_
  intro G p e s m args below meth c X hr
  have hc := ct_X4_tokenNumber
  unfold fn_X4_tokenNumber at h
  refine am_blk hc X 0 5 (fr' := (7, [(0, am_r 11 14 0), (1, am_i 0), (2, am_i (σ.1 11 14 0 5))], [], σ)) rfl ⟨trivial, trivial, trivial, trivial, trivial, trivial⟩ ?_
  exact ll_X4_tokenNumber_7 X hr   1000 0 (σ.1 11 14 0 5) _ h
