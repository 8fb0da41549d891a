def jn_X4_readNumber_72  (x2 : Int32) (x3 : Int32) (x4 : Int32) (y0 : Int32) (σ : am_S) : Option (Int32 × am_S) :=
  (if x3 < x4 then some (0, σ) else (fn_X4_mostOf x2 (σ)).bind fun q6 => (if q6.1 < x3 then some (0, q6.2) else (if y0 = 0 then some (1, q6.2) else some (0, q6.2))))
set_option maxRecDepth 100000 in
theorem jl_X4_readNumber_72 {p : Program} {l : Launch} {e : Env} {s : State} {m : MethodId} {args : Array Value} {below : List Frame} {meth : Method} {c : Code} {G : am_G} {q : Int32 × am_S} (X : am_X p s m args c cX4_readNumber yX4_readNumber.cls 6 am_p4 G (am_fr G)) (hr : meth.sig.returnType = (some .boolean) ∧ meth.locks = false)    (x2 : Int32) (x3 : Int32) (x4 : Int32) (y0 : Int32) (σ : am_S) (h : jn_X4_readNumber_72  x2 x3 x4 y0 σ = some q) : am_A p l e (am_ro 2) s m args below meth c 6 G (am_fr G) 0 0 (MQ below (am_Qc G (some (am_i q.1)) q.2) args s 0 0 (am_fr G)) (72, [(0, am_r 11 14 0), (2, am_i x2), (3, am_i x3), (4, am_i x4)], [am_i y0], σ) := by
  have hc := ct_X4_readNumber
  unfold jn_X4_readNumber_72 at h
  refine am_blk hc X 42 3 (fr' := (77, [(0, am_r 11 14 0), (2, am_i x2), (3, am_i x3), (4, am_i x4), (5, am_i y0)], [am_i x4, am_i x3], σ)) rfl ⟨trivial, trivial, trivial, trivial⟩ ?_
  refine am_icmp_lt hc X 45 (tgt := 98) rfl (by decide) (fun c10 => ?_) (fun c10 => ?_)
  · replace h := am_ip c10 h
    refine am_blk hc X 55 1 (fr' := (99, [(0, am_r 11 14 0), (2, am_i x2), (3, am_i x3), (4, am_i x4), (5, am_i y0)], [am_i 0], σ)) rfl ⟨trivial, trivial⟩ ?_
    obtain rfl := Option.some.inj h
    exact am_zret hc X hr 56 rfl (by decide) rfl rfl
  · replace h := am_in2 c10 h
    refine am_blk hc X 46 3 (fr' := (83, [(0, am_r 11 14 0), (2, am_i x2), (3, am_i x3), (4, am_i x4), (5, am_i y0)], [am_i x2, am_r 11 14 0, am_i x3], σ)) rfl ⟨trivial, trivial, trivial, trivial⟩ ?_
    obtain ⟨q6, hq7, h⟩ := am_bs h
    refine am_callV hc 49 X (k := 14) (i := 0) (o := 11) (As := [am_i x2]) (rest := [am_i x3]) rfl (ok_X4_mostOf l x2 (σ) hq7) yv_X4_mostOf ml_X4_77 (cl_14) rfl rfl rfl rfl rfl ?_
    refine am_icmp_gt hc X 50 (tgt := 98) rfl (by decide) (fun c9 => ?_) (fun c9 => ?_)
    · replace h := am_ip c9 h
      refine am_blk hc X 55 1 (fr' := (99, [(0, am_r 11 14 0), (2, am_i x2), (3, am_i x3), (4, am_i x4), (5, am_i y0)], [am_i 0], q6.2)) rfl ⟨trivial, trivial⟩ ?_
      obtain rfl := Option.some.inj h
      exact am_zret hc X hr 56 rfl (by decide) rfl rfl
    · replace h := am_in2 c9 h
      refine am_blk hc X 51 1 (fr' := (91, [(0, am_r 11 14 0), (2, am_i x2), (3, am_i x3), (4, am_i x4), (5, am_i y0)], [am_i y0], q6.2)) rfl ⟨trivial, trivial⟩ ?_
      refine am_if_ne hc X 52 (tgt := 98) rfl (by decide) (fun c8 => ?_) (fun c8 => ?_)
      · replace h := am_in2 c8 h
        refine am_blk hc X 55 1 (fr' := (99, [(0, am_r 11 14 0), (2, am_i x2), (3, am_i x3), (4, am_i x4), (5, am_i y0)], [am_i 0], q6.2)) rfl ⟨trivial, trivial⟩ ?_
        obtain rfl := Option.some.inj h
        exact am_zret hc X hr 56 rfl (by decide) rfl rfl
      · replace h := am_ip c8 h
        refine am_blk hc X 53 2 (fr' := (99, [(0, am_r 11 14 0), (2, am_i x2), (3, am_i x3), (4, am_i x4), (5, am_i y0)], [am_i 1], q6.2)) rfl ⟨trivial, trivial, trivial⟩ ?_
        obtain rfl := Option.some.inj h
        exact am_zret hc X hr 56 rfl (by decide) rfl rfl
def jn_X4_readNumber_71  (x2 : Int32) (x3 : Int32) (x4 : Int32) (σ : am_S) : Option (Int32 × am_S) :=
  jn_X4_readNumber_72  x2 x3 x4 0 (σ)
set_option maxRecDepth 100000 in
theorem jl_X4_readNumber_71 {p : Program} {l : Launch} {e : Env} {s : State} {m : MethodId} {args : Array Value} {below : List Frame} {meth : Method} {c : Code} {G : am_G} {q : Int32 × am_S} (X : am_X p s m args c cX4_readNumber yX4_readNumber.cls 6 am_p4 G (am_fr G)) (hr : meth.sig.returnType = (some .boolean) ∧ meth.locks = false)    (x2 : Int32) (x3 : Int32) (x4 : Int32) (σ : am_S) (h : jn_X4_readNumber_71  x2 x3 x4 σ = some q) : am_A p l e (am_ro 2) s m args below meth c 6 G (am_fr G) 0 0 (MQ below (am_Qc G (some (am_i q.1)) q.2) args s 0 0 (am_fr G)) (71, [(0, am_r 11 14 0), (2, am_i x2), (3, am_i x3), (4, am_i x4)], [], σ) := by
  have hc := ct_X4_readNumber
  unfold jn_X4_readNumber_71 at h
  refine am_blk hc X 41 1 (fr' := (72, [(0, am_r 11 14 0), (2, am_i x2), (3, am_i x3), (4, am_i x4)], [am_i 0], σ)) rfl ⟨trivial, trivial⟩ ?_
  exact jl_X4_readNumber_72 X hr   x2 x3 x4 0 _ h
def jn_X4_readNumber_49  (x2 : Int32) (x3 : Int32) (y0 : Int32) (σ : am_S) : Option (Int32 × am_S) :=
  (if x2 = 8 then (if x3 = (σ.1 11 16 0 0) then jn_X4_readNumber_72  x2 x3 y0 1 (σ) else jn_X4_readNumber_71  x2 x3 y0 (σ)) else jn_X4_readNumber_71  x2 x3 y0 (σ))
set_option maxRecDepth 100000 in
theorem jl_X4_readNumber_49 {p : Program} {l : Launch} {e : Env} {s : State} {m : MethodId} {args : Array Value} {below : List Frame} {meth : Method} {c : Code} {G : am_G} {q : Int32 × am_S} (X : am_X p s m args c cX4_readNumber yX4_readNumber.cls 6 am_p4 G (am_fr G)) (hr : meth.sig.returnType = (some .boolean) ∧ meth.locks = false)    (x2 : Int32) (x3 : Int32) (y0 : Int32) (σ : am_S) (h : jn_X4_readNumber_49  x2 x3 y0 σ = some q) : am_A p l e (am_ro 2) s m args below meth c 6 G (am_fr G) 0 0 (MQ below (am_Qc G (some (am_i q.1)) q.2) args s 0 0 (am_fr G)) (49, [(0, am_r 11 14 0), (2, am_i x2), (3, am_i x3)], [am_i y0], σ) := by
  have hc := ct_X4_readNumber
  unfold jn_X4_readNumber_49 at h
  refine am_blk hc X 29 3 (fr' := (54, [(0, am_r 11 14 0), (2, am_i x2), (3, am_i x3), (4, am_i y0)], [am_i 8, am_i x2], σ)) rfl ⟨trivial, trivial, trivial, trivial⟩ ?_
  refine am_icmp_ne hc X 32 (tgt := 71) rfl (by decide) (fun c12 => ?_) (fun c12 => ?_)
  · replace h := am_in2 c12 h
    exact jl_X4_readNumber_71 X hr   x2 x3 y0 _ h
  · replace h := am_ip c12 h
    refine am_blk hc X 33 5 (fr' := (64, [(0, am_r 11 14 0), (2, am_i x2), (3, am_i x3), (4, am_i y0)], [am_i (σ.1 11 16 0 0), am_i x3], σ)) rfl ⟨trivial, trivial, trivial, trivial, (am_in_vp (by decide)), trivial⟩ ?_
    refine am_icmp_ne hc X 38 (tgt := 71) rfl (by decide) (fun c11 => ?_) (fun c11 => ?_)
    · replace h := am_in2 c11 h
      exact jl_X4_readNumber_71 X hr   x2 x3 y0 _ h
    · replace h := am_ip c11 h
      refine am_blk hc X 39 2 (fr' := (72, [(0, am_r 11 14 0), (2, am_i x2), (3, am_i x3), (4, am_i y0)], [am_i 1], σ)) rfl ⟨trivial, trivial, trivial⟩ ?_
      exact jl_X4_readNumber_72 X hr   x2 x3 y0 1 _ h
def fn_X4_readNumber (a1 : Int32) (a2 : Int32) (σ : am_S) : Option (Int32 × am_S) :=
  (fn_X4_nextToken  (σ)).bind fun q1 => (if (q1.1 11 14 0 4) = 2 then (if ((q1.1 11 14 0 6) - (q1.1 11 14 0 5)) ≤ 3 then (fn_X4_tokenNumber  q1).bind fun q3 => (bif am_in a1 4 then (if a2 = 2 then jn_X4_readNumber_49  a2 q3.1 1 (am_u q3.2 11 16 0 ((a1 : Int32).toNatClampNeg) q3.1) else jn_X4_readNumber_49  a2 q3.1 0 (am_u q3.2 11 16 0 ((a1 : Int32).toNatClampNeg) q3.1)) else none) else some (0, q1)) else some (0, q1))
set_option maxRecDepth 100000 in
theorem ok_X4_readNumber (l : Launch) (a1 : Int32) (a2 : Int32) (σ : am_S) {q : Int32 × am_S} (h : fn_X4_readNumber a1 a2 σ = some q) : am_M l yX4_readNumber cX4_readNumber 6 (some .boolean) 2 [am_r 11 14 0, am_i a1, am_i a2] σ (some (am_i q.1)) q.2 := by
  refine am_M_of (P := am_p4) (by decide +kernel) am_p4_ok rfl ?_
  intro G p e s m args below meth c X hr
  have hc := ct_X4_readNumber
  unfold fn_X4_readNumber at h
  refine am_blk hc X 0 1 (fr' := (1, [(0, am_r 11 14 0), (1, am_i a1), (2, am_i a2)], [am_r 11 14 0], σ)) rfl ⟨trivial, trivial⟩ ?_
  obtain ⟨q1, hq2, h⟩ := am_bs h
  refine am_callV hc 1 X (k := 14) (i := 0) (o := 11) (As := []) (rest := []) rfl (ok_X4_nextToken l  (σ) hq2) yv_X4_nextToken ml_X4_46 (cl_14) rfl rfl rfl rfl rfl ?_
  refine am_blk hc X 2 3 (fr' := (9, [(0, am_r 11 14 0), (1, am_i a1), (2, am_i a2)], [am_i 2, am_i (q1.1 11 14 0 4)], q1)) rfl ⟨trivial, trivial, trivial, trivial⟩ ?_
  refine am_icmp_ne hc X 5 (tgt := 25) rfl (by decide) (fun c15 => ?_) (fun c15 => ?_)
  · replace h := am_in2 c15 h
    refine am_blk hc X 13 1 (fr' := (26, [(0, am_r 11 14 0), (1, am_i a1), (2, am_i a2)], [am_i 0], q1)) rfl ⟨trivial, trivial⟩ ?_
    obtain rfl := Option.some.inj h
    exact am_zret hc X hr 14 rfl (by decide) rfl rfl
  · replace h := am_ip c15 h
    refine am_blk hc X 6 6 (fr' := (22, [(0, am_r 11 14 0), (1, am_i a1), (2, am_i a2)], [am_i 3, am_i ((q1.1 11 14 0 6) - (q1.1 11 14 0 5))], q1)) rfl ⟨trivial, trivial, trivial, trivial, trivial, trivial, trivial⟩ ?_
    refine am_icmp_le hc X 12 (tgt := 27) rfl (by decide) (fun c14 => ?_) (fun c14 => ?_)
    · replace h := am_ip c14 h
      refine am_blk hc X 15 1 (fr' := (28, [(0, am_r 11 14 0), (1, am_i a1), (2, am_i a2)], [am_r 11 14 0], q1)) rfl ⟨trivial, trivial⟩ ?_
      obtain ⟨q3, hq4, h⟩ := am_bs h
      refine am_callV hc 16 X (k := 14) (i := 0) (o := 11) (As := []) (rest := []) rfl (ok_X4_tokenNumber l  q1 hq4) yv_X4_tokenNumber ml_X4_74 (cl_14) rfl rfl rfl rfl rfl ?_
      obtain ⟨ob5, h⟩ := am_ci h
      refine am_blk hc X 17 8 (fr' := (41, [(0, am_r 11 14 0), (1, am_i a1), (2, am_i a2), (3, am_i q3.1)], [am_i 2, am_i a2], (am_u q3.2 11 16 0 ((a1 : Int32).toNatClampNeg) q3.1))) rfl ⟨trivial, trivial, trivial, trivial, trivial, (am_in_vp ob5), trivial, trivial, trivial⟩ ?_
      refine am_icmp_ne hc X 25 (tgt := 48) rfl (by decide) (fun c13 => ?_) (fun c13 => ?_)
      · replace h := am_in2 c13 h
        refine am_blk hc X 28 1 (fr' := (49, [(0, am_r 11 14 0), (1, am_i a1), (2, am_i a2), (3, am_i q3.1)], [am_i 0], (am_u q3.2 11 16 0 ((a1 : Int32).toNatClampNeg) q3.1))) rfl ⟨trivial, trivial⟩ ?_
        refine am_less [0, 2, 3] rfl ?_
        exact jl_X4_readNumber_49 X hr   a2 q3.1 0 _ h
      · replace h := am_ip c13 h
        refine am_blk hc X 26 2 (fr' := (49, [(0, am_r 11 14 0), (1, am_i a1), (2, am_i a2), (3, am_i q3.1)], [am_i 1], (am_u q3.2 11 16 0 ((a1 : Int32).toNatClampNeg) q3.1))) rfl ⟨trivial, trivial, trivial⟩ ?_
        refine am_less [0, 2, 3] rfl ?_
        exact jl_X4_readNumber_49 X hr   a2 q3.1 1 _ h
    · replace h := am_in2 c14 h
      refine am_blk hc X 13 1 (fr' := (26, [(0, am_r 11 14 0), (1, am_i a1), (2, am_i a2)], [am_i 0], q1)) rfl ⟨trivial, trivial⟩ ?_
      obtain rfl := Option.some.inj h
      exact am_zret hc X hr 14 rfl (by decide) rfl rfl
def fn_X4_wordOf (a0 : Int32) (σ : am_S) : Option (Nat × am_S) :=
  (if a0 = 0 then some (0, σ) else (if a0 = 1 then some (1, σ) else (if a0 = 2 then some (2, σ) else (if a0 = 3 then some (3, σ) else (if a0 = 4 then some (4, σ) else (if a0 = 5 then some (5, σ) else (if a0 = 6 then some (6, σ) else (if a0 = 7 then some (7, σ) else some (8, σ)))))))))
set_option maxRecDepth 100000 in
theorem ok_X4_wordOf (l : Launch) (a0 : Int32) (σ : am_S) {q : Nat × am_S} (h : fn_X4_wordOf a0 σ = some q) : am_M l yX4_wordOf cX4_wordOf 1 (some (.object "java/lang/String")) 0 [am_i a0] σ (some (am_r 17 36 q.1)) q.2 := by
  refine am_M_of (P := am_p4) (by decide +kernel) am_p4_ok rfl ?_
  intro G p e s m args below meth c X hr
  have hc := ct_X4_wordOf
  unfold fn_X4_wordOf at h
  refine am_blk hc X 0 1 (fr' := (1, [(0, am_i a0)], [am_i a0], σ)) rfl ⟨trivial, trivial⟩ ?_
  by_cases c1 : a0 = 0
  · replace h := am_ip c1 h
    refine am_tin hc X 1 (tgt := 48) (off := 47) rfl (by rw [c1]; decide) (by rw [c1]; decide) (by rw [c1]; rfl) (by decide) ?_
    refine am_blk hc X 2 1 (fr' := (50, [(0, am_i a0)], [am_r 17 36 0], σ)) rfl ⟨trivial, trivial⟩ ?_
    obtain rfl := Option.some.inj h
    exact am_aret hc X hr 3 rfl rfl rfl
  · replace h := am_in2 c1 h
    by_cases c2 : a0 = 1
    · replace h := am_ip c2 h
      refine am_tin hc X 1 (tgt := 51) (off := 50) rfl (by rw [c2]; decide) (by rw [c2]; decide) (by rw [c2]; rfl) (by decide) ?_
      refine am_blk hc X 4 1 (fr' := (53, [(0, am_i a0)], [am_r 17 36 1], σ)) rfl ⟨trivial, trivial⟩ ?_
      obtain rfl := Option.some.inj h
      exact am_aret hc X hr 5 rfl rfl rfl
    · replace h := am_in2 c2 h
      by_cases c3 : a0 = 2
      · replace h := am_ip c3 h
        refine am_tin hc X 1 (tgt := 54) (off := 53) rfl (by rw [c3]; decide) (by rw [c3]; decide) (by rw [c3]; rfl) (by decide) ?_
        refine am_blk hc X 6 1 (fr' := (56, [(0, am_i a0)], [am_r 17 36 2], σ)) rfl ⟨trivial, trivial⟩ ?_
        obtain rfl := Option.some.inj h
        exact am_aret hc X hr 7 rfl rfl rfl
      · replace h := am_in2 c3 h
        by_cases c4 : a0 = 3
        · replace h := am_ip c4 h
          refine am_tin hc X 1 (tgt := 57) (off := 56) rfl (by rw [c4]; decide) (by rw [c4]; decide) (by rw [c4]; rfl) (by decide) ?_
          refine am_blk hc X 8 1 (fr' := (59, [(0, am_i a0)], [am_r 17 36 3], σ)) rfl ⟨trivial, trivial⟩ ?_
          obtain rfl := Option.some.inj h
          exact am_aret hc X hr 9 rfl rfl rfl
        · replace h := am_in2 c4 h
          by_cases c5 : a0 = 4
          · replace h := am_ip c5 h
            refine am_tin hc X 1 (tgt := 60) (off := 59) rfl (by rw [c5]; decide) (by rw [c5]; decide) (by rw [c5]; rfl) (by decide) ?_
            refine am_blk hc X 10 1 (fr' := (62, [(0, am_i a0)], [am_r 17 36 4], σ)) rfl ⟨trivial, trivial⟩ ?_
            obtain rfl := Option.some.inj h
            exact am_aret hc X hr 11 rfl rfl rfl
          · replace h := am_in2 c5 h
            by_cases c6 : a0 = 5
            · replace h := am_ip c6 h
              refine am_tin hc X 1 (tgt := 63) (off := 62) rfl (by rw [c6]; decide) (by rw [c6]; decide) (by rw [c6]; rfl) (by decide) ?_
              refine am_blk hc X 12 1 (fr' := (65, [(0, am_i a0)], [am_r 17 36 5], σ)) rfl ⟨trivial, trivial⟩ ?_
              obtain rfl := Option.some.inj h
              exact am_aret hc X hr 13 rfl rfl rfl
            · replace h := am_in2 c6 h
              by_cases c7 : a0 = 6
              · replace h := am_ip c7 h
                refine am_tin hc X 1 (tgt := 66) (off := 65) rfl (by rw [c7]; decide) (by rw [c7]; decide) (by rw [c7]; rfl) (by decide) ?_
                refine am_blk hc X 14 1 (fr' := (68, [(0, am_i a0)], [am_r 17 36 6], σ)) rfl ⟨trivial, trivial⟩ ?_
                obtain rfl := Option.some.inj h
                exact am_aret hc X hr 15 rfl rfl rfl
              · replace h := am_in2 c7 h
                by_cases c8 : a0 = 7
                · replace h := am_ip c8 h
                  refine am_tin hc X 1 (tgt := 69) (off := 68) rfl (by rw [c8]; decide) (by rw [c8]; decide) (by rw [c8]; rfl) (by decide) ?_
                  refine am_blk hc X 16 1 (fr' := (71, [(0, am_i a0)], [am_r 17 36 7], σ)) rfl ⟨trivial, trivial⟩ ?_
                  obtain rfl := Option.some.inj h
                  exact am_aret hc X hr 17 rfl rfl rfl
                · replace h := am_in2 c8 h
                  refine am_tout hc X 1 (tgt := 72) rfl (am_sw 0 7 (fun z h1 h2 => ?_)) (by decide) ?_
                  · rcases (show z = 0 ∨ z = 1 ∨ z = 2 ∨ z = 3 ∨ z = 4 ∨ z = 5 ∨ z = 6 ∨ z = 7 by omega) with rfl | rfl | rfl | rfl | rfl | rfl | rfl | rfl
                    · exact lv_neT c1 rfl
                    · exact lv_neT c2 rfl
                    · exact lv_neT c3 rfl
                    · exact lv_neT c4 rfl
                    · exact lv_neT c5 rfl
                    · exact lv_neT c6 rfl
                    · exact lv_neT c7 rfl
                    · exact lv_neT c8 rfl
                  · refine am_blk hc X 18 1 (fr' := (74, [(0, am_i a0)], [am_r 17 36 8], σ)) rfl ⟨trivial, trivial⟩ ?_
                    obtain rfl := Option.some.inj h
                    exact am_aret hc X hr 19 rfl rfl rfl
def lb_X4_statementOfWord_2 (k2 : Int32 → am_S → Option (Int32 × am_S)) (x1 : Int32) (σ : am_S) : Option (Int32 × am_S) :=
  (if 9 ≤ x1 then some ((-1), σ) else (fn_X4_wordOf x1 (σ)).bind fun q1 => (fn_X4_isWord_36 q1.1 q1.2).bind fun q3 => (if q3.1 = 0 then k2 (x1 + 1) q3.2 else some (x1, q3.2)))
set_option maxRecDepth 100000 in
theorem lc_X4_statementOfWord_2 {p : Program} {l : Launch} {e : Env} {s : State} {m : MethodId} {args : Array Value} {below : List Frame} {meth : Method} {c : Code} {G : am_G} {q : Int32 × am_S} (X : am_X p s m args c cX4_statementOfWord yX4_statementOfWord.cls 2 am_p4 G (am_fr G)) (hr : meth.sig.returnType = (some .int) ∧ meth.locks = false)  (k2 : Int32 → am_S → Option (Int32 × am_S)) (hk2 : ∀ (x1 : Int32) (σ : am_S), k2 x1 σ = some q → am_A p l e (am_ro 5) s m args below meth c 2 G (am_fr G) 0 0 (MQ below (am_Qc G (some (am_i q.1)) q.2) args s 0 0 (am_fr G)) (2, [(0, am_r 11 14 0), (1, am_i x1)], [], σ)) (x1 : Int32) (σ : am_S) (h : lb_X4_statementOfWord_2 k2 x1 σ = some q) : am_A p l e (am_ro 5) s m args below meth c 2 G (am_fr G) 0 0 (MQ below (am_Qc G (some (am_i q.1)) q.2) args s 0 0 (am_fr G)) (2, [(0, am_r 11 14 0), (1, am_i x1)], [], σ) := by
  have hc := ct_X4_statementOfWord
  unfold lb_X4_statementOfWord_2 at h
  refine am_blk hc X 2 2 (fr' := (5, [(0, am_r 11 14 0), (1, am_i x1)], [am_i 9, am_i x1], σ)) rfl ⟨trivial, trivial, trivial⟩ ?_
  refine am_icmp_ge hc X 4 (tgt := 27) rfl (by decide) (fun c6 => ?_) (fun c6 => ?_)
  · replace h := am_ip c6 h
    refine am_blk hc X 14 1 (fr' := (28, [(0, am_r 11 14 0), (1, am_i x1)], [am_i (-1)], σ)) rfl ⟨trivial, trivial⟩ ?_
    obtain rfl := Option.some.inj h
    exact am_iret hc X hr 15 rfl rfl rfl
  · replace h := am_in2 c6 h
    refine am_blk hc X 5 2 (fr' := (10, [(0, am_r 11 14 0), (1, am_i x1)], [am_i x1, am_r 11 14 0], σ)) rfl ⟨trivial, trivial, trivial⟩ ?_
    obtain ⟨q1, hq2, h⟩ := am_bs h
    refine am_callS hc 7 X (As := [am_i x1]) (rest := [am_r 11 14 0]) rfl (ok_X4_wordOf l x1 (σ) hq2) yv_X4_wordOf ml_X4_102 rfl rfl rfl rfl rfl ?_
    obtain ⟨q3, hq4, h⟩ := am_bs h
    refine am_callV hc 8 X (k := 14) (i := 0) (o := 11) (As := [am_r 17 36 q1.1]) (rest := []) rfl (ok_X4_isWord_36 l q1.1 q1.2 hq4) yv_X4_isWord ml_X4_106 (cl_14) rfl rfl rfl rfl rfl ?_
    refine am_if_eq hc X 9 (tgt := 21) rfl (by decide) (fun c5 => ?_) (fun c5 => ?_)
    · replace h := am_ip c5 h
      refine am_blk hc X 12 2 (fr' := (2, [(0, am_r 11 14 0), (1, am_i (x1 + 1))], [], q3.2)) rfl ⟨trivial, trivial, trivial⟩ ?_
      exact hk2 (x1 + 1) _ h
    · replace h := am_in2 c5 h
      refine am_blk hc X 10 1 (fr' := (20, [(0, am_r 11 14 0), (1, am_i x1)], [am_i x1], q3.2)) rfl ⟨trivial, trivial⟩ ?_
      obtain rfl := Option.some.inj h
      exact am_iret hc X hr 11 rfl rfl rfl
def lp_X4_statementOfWord_2  : Nat → Int32 → am_S → Option (Int32 × am_S)
  | 0 => fun _ _ => none
  | n + 1 => lb_X4_statementOfWord_2  (lp_X4_statementOfWord_2  n)
theorem ll_X4_statementOfWord_2 {p : Program} {l : Launch} {e : Env} {s : State} {m : MethodId} {args : Array Value} {below : List Frame} {meth : Method} {c : Code} {G : am_G} {q : Int32 × am_S} (X : am_X p s m args c cX4_statementOfWord yX4_statementOfWord.cls 2 am_p4 G (am_fr G)) (hr : meth.sig.returnType = (some .int) ∧ meth.locks = false)    : ∀ (n : Nat) (x1 : Int32) (σ : am_S), lp_X4_statementOfWord_2  n x1 σ = some q → am_A p l e (am_ro 5) s m args below meth c 2 G (am_fr G) 0 0 (MQ below (am_Qc G (some (am_i q.1)) q.2) args s 0 0 (am_fr G)) (2, [(0, am_r 11 14 0), (1, am_i x1)], [], σ) := by
  intro n
  induction n with
  | zero =>
    intro x1 σ h
    have h : (none : Option (Int32 × am_S)) = some q := h
    cases h
  | succ n ih =>
    intro x1 σ h
    exact lc_X4_statementOfWord_2 X hr  (lp_X4_statementOfWord_2  n) ih x1 σ h
def fn_X4_statementOfWord  (σ : am_S) : Option (Int32 × am_S) :=
  lp_X4_statementOfWord_2  1000 0 (σ)
set_option maxRecDepth 100000 in
theorem ok_X4_statementOfWord (l : Launch)  (σ : am_S) {q : Int32 × am_S} (h : fn_X4_statementOfWord  σ = some q) : am_M l yX4_statementOfWord cX4_statementOfWord 2 (some .int) 5 [am_r 11 14 0] σ (some (am_i q.1)) q.2 := by
  refine am_M_of (P := am_p4) (by decide +kernel) am_p4_ok rfl ?_
  intro G p e s m args below meth c X hr
  have hc := ct_X4_statementOfWord
  unfold fn_X4_statementOfWord at h
  refine am_blk hc X 0 2 (fr' := (2, [(0, am_r 11 14 0), (1, am_i 0)], [], σ)) rfl ⟨trivial, trivial, trivial⟩ ?_
  exact ll_X4_statementOfWord_2 X hr   1000 0 _ h
def jn_X4_readStatement_69 (k38 : Int32 → Int32 → am_S → Option (Int32 × am_S)) (x1 : Int32) (x2 : Int32) (σ : am_S) : Option (Int32 × am_S) :=
  k38 x1 (x2 + 1) (σ)
set_option maxRecDepth 100000 in
theorem jl_X4_readStatement_69 {p : Program} {l : Launch} {e : Env} {s : State} {m : MethodId} {args : Array Value} {below : List Frame} {meth : Method} {c : Code} {G : am_G} {q : Int32 × am_S} (X : am_X p s m args c cX4_readStatement yX4_readStatement.cls 4 am_p4 G (am_fr G)) (hr : meth.sig.returnType = (some .boolean) ∧ meth.locks = false)  (k38 : Int32 → Int32 → am_S → Option (Int32 × am_S)) (hk38 : ∀ (x1 : Int32) (x2 : Int32) (σ : am_S), k38 x1 x2 σ = some q → am_A p l e (am_ro 6) s m args below meth c 4 G (am_fr G) 0 0 (MQ below (am_Qc G (some (am_i q.1)) q.2) args s 0 0 (am_fr G)) (38, [(0, am_r 11 14 0), (1, am_i x1), (2, am_i x2)], [], σ)) (x1 : Int32) (x2 : Int32) (σ : am_S) (h : jn_X4_readStatement_69 k38 x1 x2 σ = some q) : am_A p l e (am_ro 6) s m args below meth c 4 G (am_fr G) 0 0 (MQ below (am_Qc G (some (am_i q.1)) q.2) args s 0 0 (am_fr G)) (69, [(0, am_r 11 14 0), (1, am_i x1), (2, am_i x2)], [], σ) := by
  have hc := ct_X4_readStatement
  unfold jn_X4_readStatement_69 at h
  refine am_blk hc X 43 2 (fr' := (38, [(0, am_r 11 14 0), (1, am_i x1), (2, am_i (x2 + 1))], [], σ)) rfl ⟨trivial, trivial, trivial⟩ ?_
  exact hk38 x1 (x2 + 1) _ h
def lb_X4_readStatement_38 (k38 : Int32 → Int32 → am_S → Option (Int32 × am_S)) (x1 : Int32) (x2 : Int32) (σ : am_S) : Option (Int32 × am_S) :=
  (if 4 ≤ x2 then (fn_X4_comeToPass x1 (σ)).bind fun q5 => some (1, q5) else (bif am_in ((x1 * (4 : Int32)) + x2) 36 then (if ((am_stt.getD 1 []).getD ((((x1 * (4 : Int32)) + x2) : Int32).toNatClampNeg) 0) = (-1) then jn_X4_readStatement_69 k38 x1 x2 (σ) else (fn_X4_readNumber x2 ((am_stt.getD 1 []).getD ((((x1 * (4 : Int32)) + x2) : Int32).toNatClampNeg) 0) (σ)).bind fun q8 => (if q8.1 = 0 then some (0, q8.2) else jn_X4_readStatement_69 k38 x1 x2 q8.2)) else none))
set_option maxRecDepth 100000 in
theorem lc_X4_readStatement_38 {p : Program} {l : Launch} {e : Env} {s : State} {m : MethodId} {args : Array Value} {below : List Frame} {meth : Method} {c : Code} {G : am_G} {q : Int32 × am_S} (X : am_X p s m args c cX4_readStatement yX4_readStatement.cls 4 am_p4 G (am_fr G)) (hr : meth.sig.returnType = (some .boolean) ∧ meth.locks = false)  (k38 : Int32 → Int32 → am_S → Option (Int32 × am_S)) (hk38 : ∀ (x1 : Int32) (x2 : Int32) (σ : am_S), k38 x1 x2 σ = some q → am_A p l e (am_ro 6) s m args below meth c 4 G (am_fr G) 0 0 (MQ below (am_Qc G (some (am_i q.1)) q.2) args s 0 0 (am_fr G)) (38, [(0, am_r 11 14 0), (1, am_i x1), (2, am_i x2)], [], σ)) (x1 : Int32) (x2 : Int32) (σ : am_S) (h : lb_X4_readStatement_38 k38 x1 x2 σ = some q) : am_A p l e (am_ro 6) s m args below meth c 4 G (am_fr G) 0 0 (MQ below (am_Qc G (some (am_i q.1)) q.2) args s 0 0 (am_fr G)) (38, [(0, am_r 11 14 0), (1, am_i x1), (2, am_i x2)], [], σ) := by
  have hc := ct_X4_readStatement
  unfold lb_X4_readStatement_38 at h
  refine am_blk hc X 22 2 (fr' := (40, [(0, am_r 11 14 0), (1, am_i x1), (2, am_i x2)], [am_i 4, am_i x2], σ)) rfl ⟨trivial, trivial, trivial⟩ ?_
  refine am_icmp_ge hc X 24 (tgt := 75) rfl (by decide) (fun c12 => ?_) (fun c12 => ?_)
  · replace h := am_ip c12 h
    refine am_blk hc X 45 2 (fr' := (77, [(0, am_r 11 14 0), (1, am_i x1), (2, am_i x2)], [am_i x1, am_r 11 14 0], σ)) rfl ⟨trivial, trivial, trivial⟩ ?_
    obtain ⟨q5, hq6, h⟩ := am_bs h
    refine am_callV hc 47 X (k := 14) (i := 0) (o := 11) (As := [am_i x1]) (rest := []) rfl (ok_X4_comeToPass l x1 (σ) hq6) yv_X4_comeToPass ml_X4_64 (cl_14) rfl rfl rfl rfl rfl ?_
    refine am_blk hc X 48 1 (fr' := (81, [(0, am_r 11 14 0), (1, am_i x1), (2, am_i x2)], [am_i 1], q5)) rfl ⟨trivial, trivial⟩ ?_
    obtain rfl := Option.some.inj h
    exact am_zret hc X hr 49 rfl (by decide) rfl rfl
  · replace h := am_in2 c12 h
    obtain ⟨ob7, h⟩ := am_ci h
    refine am_blk hc X 25 10 (fr' := (55, [(0, am_r 11 14 0), (1, am_i x1), (2, am_i x2), (3, am_i ((am_stt.getD 1 []).getD ((((x1 * (4 : Int32)) + x2) : Int32).toNatClampNeg) 0))], [am_i (-1), am_i ((am_stt.getD 1 []).getD ((((x1 * (4 : Int32)) + x2) : Int32).toNatClampNeg) 0)], σ)) rfl ⟨trivial, trivial, trivial, trivial, trivial, trivial, (am_in_vp ob7), trivial, trivial, trivial, trivial⟩ ?_
    refine am_icmp_eq hc X 35 (tgt := 69) rfl (by decide) (fun c11 => ?_) (fun c11 => ?_)
    · replace h := am_ip c11 h
      refine am_less [0, 1, 2] rfl ?_
      exact jl_X4_readStatement_69 X hr k38 hk38 x1 x2 _ h
    · replace h := am_in2 c11 h
      refine am_blk hc X 36 3 (fr' := (61, [(0, am_r 11 14 0), (1, am_i x1), (2, am_i x2), (3, am_i ((am_stt.getD 1 []).getD ((((x1 * (4 : Int32)) + x2) : Int32).toNatClampNeg) 0))], [am_i ((am_stt.getD 1 []).getD ((((x1 * (4 : Int32)) + x2) : Int32).toNatClampNeg) 0), am_i x2, am_r 11 14 0], σ)) rfl ⟨trivial, trivial, trivial, trivial⟩ ?_
      obtain ⟨q8, hq9, h⟩ := am_bs h
      refine am_callV hc 39 X (k := 14) (i := 0) (o := 11) (As := [am_i x2, am_i ((am_stt.getD 1 []).getD ((((x1 * (4 : Int32)) + x2) : Int32).toNatClampNeg) 0)]) (rest := []) rfl (ok_X4_readNumber l x2 ((am_stt.getD 1 []).getD ((((x1 * (4 : Int32)) + x2) : Int32).toNatClampNeg) 0) (σ) hq9) yv_X4_readNumber ml_X4_60 (cl_14) rfl rfl rfl rfl rfl ?_
      refine am_if_ne hc X 40 (tgt := 69) rfl (by decide) (fun c10 => ?_) (fun c10 => ?_)
      · replace h := am_in2 c10 h
        refine am_less [0, 1, 2] rfl ?_
        exact jl_X4_readStatement_69 X hr k38 hk38 x1 x2 _ h
      · replace h := am_ip c10 h
        refine am_blk hc X 41 1 (fr' := (68, [(0, am_r 11 14 0), (1, am_i x1), (2, am_i x2), (3, am_i ((am_stt.getD 1 []).getD ((((x1 * (4 : Int32)) + x2) : Int32).toNatClampNeg) 0))], [am_i 0], q8.2)) rfl ⟨trivial, trivial⟩ ?_
        obtain rfl := Option.some.inj h
        exact am_zret hc X hr 42 rfl (by decide) rfl rfl
def lp_X4_readStatement_38  : Nat → Int32 → Int32 → am_S → Option (Int32 × am_S)
  | 0 => fun _ _ _ => none
  | n + 1 => lb_X4_readStatement_38  (lp_X4_readStatement_38  n)
theorem ll_X4_readStatement_38 {p : Program} {l : Launch} {e : Env} {s : State} {m : MethodId} {args : Array Value} {below : List Frame} {meth : Method} {c : Code} {G : am_G} {q : Int32 × am_S} (X : am_X p s m args c cX4_readStatement yX4_readStatement.cls 4 am_p4 G (am_fr G)) (hr : meth.sig.returnType = (some .boolean) ∧ meth.locks = false)    : ∀ (n : Nat) (x1 : Int32) (x2 : Int32) (σ : am_S), lp_X4_readStatement_38  n x1 x2 σ = some q → am_A p l e (am_ro 6) s m args below meth c 4 G (am_fr G) 0 0 (MQ below (am_Qc G (some (am_i q.1)) q.2) args s 0 0 (am_fr G)) (38, [(0, am_r 11 14 0), (1, am_i x1), (2, am_i x2)], [], σ) := by
  intro n
  induction n with
  | zero =>
    intro x1 x2 σ h
    have h : (none : Option (Int32 × am_S)) = some q := h
    cases h
  | succ n ih =>
    intro x1 x2 σ h
    exact lc_X4_readStatement_38 X hr  (lp_X4_readStatement_38  n) ih x1 x2 σ h
def jn_X4_readStatement_20  (y0 : Int32) (σ : am_S) : Option (Int32 × am_S) :=
  (if y0 = (-1) then some (0, σ) else (fn_X4_hasRoomFor y0 (σ)).bind fun q3 => (if q3.1 = 0 then some (0, q3.2) else lp_X4_readStatement_38  1000 y0 0 q3.2))
set_option maxRecDepth 100000 in
theorem jl_X4_readStatement_20 {p : Program} {l : Launch} {e : Env} {s : State} {m : MethodId} {args : Array Value} {below : List Frame} {meth : Method} {c : Code} {G : am_G} {q : Int32 × am_S} (X : am_X p s m args c cX4_readStatement yX4_readStatement.cls 4 am_p4 G (am_fr G)) (hr : meth.sig.returnType = (some .boolean) ∧ meth.locks = false)    (y0 : Int32) (σ : am_S) (h : jn_X4_readStatement_20  y0 σ = some q) : am_A p l e (am_ro 6) s m args below meth c 4 G (am_fr G) 0 0 (MQ below (am_Qc G (some (am_i q.1)) q.2) args s 0 0 (am_fr G)) (20, [(0, am_r 11 14 0)], [am_i y0], σ) := by
  have hc := ct_X4_readStatement
  unfold jn_X4_readStatement_20 at h
  refine am_blk hc X 10 3 (fr' := (23, [(0, am_r 11 14 0), (1, am_i y0)], [am_i (-1), am_i y0], σ)) rfl ⟨trivial, trivial, trivial, trivial⟩ ?_
  refine am_icmp_eq hc X 13 (tgt := 34) rfl (by decide) (fun c14 => ?_) (fun c14 => ?_)
  · replace h := am_ip c14 h
    refine am_blk hc X 18 1 (fr' := (35, [(0, am_r 11 14 0), (1, am_i y0)], [am_i 0], σ)) rfl ⟨trivial, trivial⟩ ?_
    obtain rfl := Option.some.inj h
    exact am_zret hc X hr 19 rfl (by decide) rfl rfl
  · replace h := am_in2 c14 h
    refine am_blk hc X 14 2 (fr' := (28, [(0, am_r 11 14 0), (1, am_i y0)], [am_i y0, am_r 11 14 0], σ)) rfl ⟨trivial, trivial, trivial⟩ ?_
    obtain ⟨q3, hq4, h⟩ := am_bs h
    refine am_callV hc 16 X (k := 14) (i := 0) (o := 11) (As := [am_i y0]) (rest := []) rfl (ok_X4_hasRoomFor l y0 (σ) hq4) yv_X4_hasRoomFor ml_X4_53 (cl_14) rfl rfl rfl rfl rfl ?_
    refine am_if_ne hc X 17 (tgt := 36) rfl (by decide) (fun c13 => ?_) (fun c13 => ?_)
    · replace h := am_in2 c13 h
      refine am_blk hc X 20 2 (fr' := (38, [(0, am_r 11 14 0), (1, am_i y0), (2, am_i 0)], [], q3.2)) rfl ⟨trivial, trivial, trivial⟩ ?_
      exact ll_X4_readStatement_38 X hr   1000 y0 0 _ h
    · replace h := am_ip c13 h
      refine am_blk hc X 18 1 (fr' := (35, [(0, am_r 11 14 0), (1, am_i y0)], [am_i 0], q3.2)) rfl ⟨trivial, trivial⟩ ?_
      obtain rfl := Option.some.inj h
      exact am_zret hc X hr 19 rfl (by decide) rfl rfl
def fn_X4_readStatement  (σ : am_S) : Option (Int32 × am_S) :=
  (fn_X4_nextToken  (σ)).bind fun q1 => (if (q1.1 11 14 0 4) = 1 then (fn_X4_statementOfWord  q1).bind fun q15 => jn_X4_readStatement_20  q15.1 q15.2 else jn_X4_readStatement_20  (-1) q1)
set_option maxRecDepth 100000 in
theorem ok_X4_readStatement (l : Launch)  (σ : am_S) {q : Int32 × am_S} (h : fn_X4_readStatement  σ = some q) : am_M l yX4_readStatement cX4_readStatement 4 (some .boolean) 6 [am_r 11 14 0] σ (some (am_i q.1)) q.2 := by
  refine am_M_of (P := am_p4) (by decide +kernel) am_p4_ok rfl ?_
  intro G p e s m args below meth c X hr
  have hc := ct_X4_readStatement
  unfold fn_X4_readStatement at h
  refine am_blk hc X 0 1 (fr' := (1, [(0, am_r 11 14 0)], [am_r 11 14 0], σ)) rfl ⟨trivial, trivial⟩ ?_
  obtain ⟨q1, hq2, h⟩ := am_bs h
  refine am_callV hc 1 X (k := 14) (i := 0) (o := 11) (As := []) (rest := []) rfl (ok_X4_nextToken l  (σ) hq2) yv_X4_nextToken ml_X4_46 (cl_14) rfl rfl rfl rfl rfl ?_
  refine am_blk hc X 2 3 (fr' := (9, [(0, am_r 11 14 0)], [am_i 1, am_i (q1.1 11 14 0 4)], q1)) rfl ⟨trivial, trivial, trivial, trivial⟩ ?_
  refine am_icmp_ne hc X 5 (tgt := 19) rfl (by decide) (fun c17 => ?_) (fun c17 => ?_)
  · replace h := am_in2 c17 h
    refine am_blk hc X 9 1 (fr' := (20, [(0, am_r 11 14 0)], [am_i (-1)], q1)) rfl ⟨trivial, trivial⟩ ?_
    exact jl_X4_readStatement_20 X hr   (-1) _ h
  · replace h := am_ip c17 h
    refine am_blk hc X 6 1 (fr' := (13, [(0, am_r 11 14 0)], [am_r 11 14 0], q1)) rfl ⟨trivial, trivial⟩ ?_
    obtain ⟨q15, hq16, h⟩ := am_bs h
    refine am_callV hc 7 X (k := 14) (i := 0) (o := 11) (As := []) (rest := []) rfl (ok_X4_statementOfWord l  q1 hq16) yv_X4_statementOfWord ml_X4_49 (cl_14) rfl rfl rfl rfl rfl ?_
    refine am_blk hc X 8 1 (fr' := (20, [(0, am_r 11 14 0)], [am_i q15.1], q15.2)) rfl ⟨trivial, trivial⟩ ?_
    exact jl_X4_readStatement_20 X hr   q15.1 _ h
def lb_X4_readLand_15 (k15 : Int32 → am_S → Option (Int32 × am_S)) (x2 : Int32) (σ : am_S) : Option (Int32 × am_S) :=
  (if 250 < x2 then some (((-20 : Int32) - (σ.1 11 14 0 5)), σ) else (fn_X4_readStatement  (σ)).bind fun q3 => (if q3.1 = 0 then some (((-20 : Int32) - (q3.2.1 11 14 0 5)), q3.2) else (fn_X4_nextToken  q3.2).bind fun q5 => (if (q5.1 11 14 0 4) = 0 then some (x2, q5) else (if (q5.1 11 14 0 4) = 3 then k15 (x2 + 1) q5 else some (((-20 : Int32) - (q5.1 11 14 0 5)), q5)))))
set_option maxRecDepth 100000 in
theorem lc_X4_readLand_15 {p : Program} {l : Launch} {e : Env} {s : State} {m : MethodId} {args : Array Value} {below : List Frame} {meth : Method} {c : Code} {G : am_G} {q : Int32 × am_S} (X : am_X p s m args c cX4_readLand yX4_readLand.cls 3 am_p4 G (am_fr G)) (hr : meth.sig.returnType = (some .int) ∧ meth.locks = false)  (k15 : Int32 → am_S → Option (Int32 × am_S)) (hk15 : ∀ (x2 : Int32) (σ : am_S), k15 x2 σ = some q → am_A p l e (am_ro 7) s m args below meth c 3 G (am_fr G) 0 0 (MQ below (am_Qc G (some (am_i q.1)) q.2) args s 0 0 (am_fr G)) (15, [(0, am_r 11 14 0), (2, am_i x2)], [], σ)) (x2 : Int32) (σ : am_S) (h : lb_X4_readLand_15 k15 x2 σ = some q) : am_A p l e (am_ro 7) s m args below meth c 3 G (am_fr G) 0 0 (MQ below (am_Qc G (some (am_i q.1)) q.2) args s 0 0 (am_fr G)) (15, [(0, am_r 11 14 0), (2, am_i x2)], [], σ) := by
  have hc := ct_X4_readLand
  unfold lb_X4_readLand_15 at h
  refine am_blk hc X 9 2 (fr' := (19, [(0, am_r 11 14 0), (2, am_i x2)], [am_i 250, am_i x2], σ)) rfl ⟨trivial, trivial, trivial⟩ ?_
  refine am_icmp_gt hc X 11 (tgt := 72) rfl (by decide) (fun c10 => ?_) (fun c10 => ?_)
  · replace h := am_ip c10 h
    refine am_blk hc X 38 4 (fr' := (79, [(0, am_r 11 14 0), (2, am_i x2)], [am_i ((-20 : Int32) - (σ.1 11 14 0 5))], σ)) rfl ⟨trivial, trivial, trivial, trivial, trivial⟩ ?_
    obtain rfl := Option.some.inj h
    exact am_iret hc X hr 42 rfl rfl rfl
  · replace h := am_in2 c10 h
    refine am_blk hc X 12 1 (fr' := (23, [(0, am_r 11 14 0), (2, am_i x2)], [am_r 11 14 0], σ)) rfl ⟨trivial, trivial⟩ ?_
    obtain ⟨q3, hq4, h⟩ := am_bs h
    refine am_callV hc 13 X (k := 14) (i := 0) (o := 11) (As := []) (rest := []) rfl (ok_X4_readStatement l  (σ) hq4) yv_X4_readStatement ml_X4_42 (cl_14) rfl rfl rfl rfl rfl ?_
    refine am_if_ne hc X 14 (tgt := 37) rfl (by decide) (fun c9 => ?_) (fun c9 => ?_)
    · replace h := am_in2 c9 h
      refine am_blk hc X 20 1 (fr' := (38, [(0, am_r 11 14 0), (2, am_i x2)], [am_r 11 14 0], q3.2)) rfl ⟨trivial, trivial⟩ ?_
      obtain ⟨q5, hq6, h⟩ := am_bs h
      refine am_callV hc 21 X (k := 14) (i := 0) (o := 11) (As := []) (rest := []) rfl (ok_X4_nextToken l  q3.2 hq6) yv_X4_nextToken ml_X4_46 (cl_14) rfl rfl rfl rfl rfl ?_
      refine am_blk hc X 22 2 (fr' := (45, [(0, am_r 11 14 0), (2, am_i x2)], [am_i (q5.1 11 14 0 4)], q5)) rfl ⟨trivial, trivial, trivial⟩ ?_
      refine am_if_ne hc X 24 (tgt := 50) rfl (by decide) (fun c8 => ?_) (fun c8 => ?_)
      · replace h := am_in2 c8 h
        refine am_blk hc X 27 3 (fr' := (55, [(0, am_r 11 14 0), (2, am_i x2)], [am_i 3, am_i (q5.1 11 14 0 4)], q5)) rfl ⟨trivial, trivial, trivial, trivial⟩ ?_
        refine am_icmp_eq hc X 30 (tgt := 66) rfl (by decide) (fun c7 => ?_) (fun c7 => ?_)
        · replace h := am_ip c7 h
          refine am_blk hc X 36 2 (fr' := (15, [(0, am_r 11 14 0), (2, am_i (x2 + 1))], [], q5)) rfl ⟨trivial, trivial, trivial⟩ ?_
          exact hk15 (x2 + 1) _ h
        · replace h := am_in2 c7 h
          refine am_blk hc X 31 4 (fr' := (65, [(0, am_r 11 14 0), (2, am_i x2)], [am_i ((-20 : Int32) - (q5.1 11 14 0 5))], q5)) rfl ⟨trivial, trivial, trivial, trivial, trivial⟩ ?_
          obtain rfl := Option.some.inj h
          exact am_iret hc X hr 35 rfl rfl rfl
      · replace h := am_ip c8 h
        refine am_blk hc X 25 1 (fr' := (49, [(0, am_r 11 14 0), (2, am_i x2)], [am_i x2], q5)) rfl ⟨trivial, trivial⟩ ?_
        obtain rfl := Option.some.inj h
        exact am_iret hc X hr 26 rfl rfl rfl
    · replace h := am_ip c9 h
      refine am_blk hc X 15 4 (fr' := (36, [(0, am_r 11 14 0), (2, am_i x2)], [am_i ((-20 : Int32) - (q3.2.1 11 14 0 5))], q3.2)) rfl ⟨trivial, trivial, trivial, trivial, trivial⟩ ?_
      obtain rfl := Option.some.inj h
      exact am_iret hc X hr 19 rfl rfl rfl
def lp_X4_readLand_15  : Nat → Int32 → am_S → Option (Int32 × am_S)
  | 0 => fun _ _ => none
  | n + 1 => lb_X4_readLand_15  (lp_X4_readLand_15  n)
theorem ll_X4_readLand_15 {p : Program} {l : Launch} {e : Env} {s : State} {m : MethodId} {args : Array Value} {below : List Frame} {meth : Method} {c : Code} {G : am_G} {q : Int32 × am_S} (X : am_X p s m args c cX4_readLand yX4_readLand.cls 3 am_p4 G (am_fr G)) (hr : meth.sig.returnType = (some .int) ∧ meth.locks = false)    : ∀ (n : Nat) (x2 : Int32) (σ : am_S), lp_X4_readLand_15  n x2 σ = some q → am_A p l e (am_ro 7) s m args below meth c 3 G (am_fr G) 0 0 (MQ below (am_Qc G (some (am_i q.1)) q.2) args s 0 0 (am_fr G)) (15, [(0, am_r 11 14 0), (2, am_i x2)], [], σ) := by
  intro n
  induction n with
  | zero =>
    intro x2 σ h
    have h : (none : Option (Int32 × am_S)) = some q := h
    cases h
  | succ n ih =>
    intro x2 σ h
    exact lc_X4_readLand_15 X hr  (lp_X4_readLand_15  n) ih x2 σ h
def fn_X4_readLand (oa1 : Nat) (σ : am_S) : Option (Int32 × am_S) :=
  (fn_X0_becomes 3 oa1 (σ)).bind fun q1 => lp_X4_readLand_15  1000 1 (am_u q1 11 14 0 6 0)
set_option maxRecDepth 100000 in
theorem ok_X4_readLand (l : Launch) (oa1 : Nat) (σ : am_S) {q : Int32 × am_S} (h : fn_X4_readLand oa1 σ = some q) : am_M l yX4_readLand cX4_readLand 3 (some .int) 7 [am_r 11 14 0, am_r oa1 2 0] σ (some (am_i q.1)) q.2 := by
  refine am_M_of (P := am_p4) (by decide +kernel) am_p4_ok rfl ?_
  intro G p e s m args below meth c X hr
  have hc := ct_X4_readLand
  unfold fn_X4_readLand at h
  refine am_blk hc X 0 3 (fr' := (5, [(0, am_r 11 14 0), (1, am_r oa1 2 0)], [am_r oa1 2 0, am_r 3 2 0], σ)) rfl ⟨trivial, trivial, trivial, trivial⟩ ?_
  obtain ⟨q1, hq2, h⟩ := am_bs h
  refine am_callV hc 3 X (k := 2) (i := 0) (o := 3) (As := [am_r oa1 2 0]) (rest := []) rfl (ok_X0_becomes l 3 oa1 (σ) hq2) yv_X0_becomes ml_X4_38 (cl_2) rfl rfl rfl rfl rfl ?_
  refine am_blk hc X 4 5 (fr' := (15, [(0, am_r 11 14 0), (1, am_r oa1 2 0), (2, am_i 1)], [], (am_u q1 11 14 0 6 0))) rfl ⟨trivial, trivial, trivial, trivial, trivial, trivial⟩ ?_
  refine am_less [0, 2] rfl ?_
  exact ll_X4_readLand_15 X hr   1000 1 _ h
def fn_X5_costWith (a1 : Int32) (a2 : Int32) (a3 : Int32) (σ : am_S) : Option (Int32 × am_S) :=
  (bif am_in a1 6 then (bif am_in a3 7 then (bif am_in (a2 ||| ((1 : Int32) <<< (a3 &&& 31))) 128 then some (((σ.1 13 26 ((a1 : Int32).toNatClampNeg) ((a3 : Int32).toNatClampNeg)) + (σ.1 13 27 0 (((a2 ||| ((1 : Int32) <<< (a3 &&& 31))) : Int32).toNatClampNeg))), σ) else none) else none) else none)
set_option maxRecDepth 100000 in
theorem ok_X5_costWith (l : Launch) (a1 : Int32) (a2 : Int32) (a3 : Int32) (σ : am_S) {q : Int32 × am_S} (h : fn_X5_costWith a1 a2 a3 σ = some q) : am_M l yX5_costWith cX5_costWith 4 (some .int) 0 [am_r 13 22 0, am_i a1, am_i a2, am_i a3] σ (some (am_i q.1)) q.2 := by
  refine am_M_of (P := am_p5) (by decide +kernel) am_p5_ok rfl ?_
  intro G p e s m args below meth c X hr
  have hc := ct_X5_costWith
  unfold fn_X5_costWith at h
  obtain ⟨ob1, h⟩ := am_ci h
  obtain ⟨ob2, h⟩ := am_ci h
  obtain ⟨ob3, h⟩ := am_ci h
  refine am_blk hc X 0 15 (fr' := (19, [(0, am_r 13 22 0), (1, am_i a1), (2, am_i a2), (3, am_i a3)], [am_i ((σ.1 13 26 ((a1 : Int32).toNatClampNeg) ((a3 : Int32).toNatClampNeg)) + (σ.1 13 27 0 (((a2 ||| ((1 : Int32) <<< (a3 &&& 31))) : Int32).toNatClampNeg)))], σ)) rfl ⟨trivial, trivial, trivial, (am_in_vp ob1), trivial, (am_in_vp ob2), trivial, trivial, trivial, trivial, trivial, trivial, trivial, (am_in_vp ob3), trivial, trivial⟩ ?_
  obtain rfl := Option.some.inj h
  exact am_iret hc X hr 15 rfl rfl rfl
def fn_X5_leastOver (a2 : Int32) (a3 : Int32) (a4 : Int32) (σ : am_S) : Option (Int32 × am_S) :=
  (bif am_in a3 7 then (bif am_in a4 7 then (bif am_in (((a2 &&& (((1 : Int32) <<< (a4 &&& 31)) ^^^ (-1 : Int32))) * (7 : Int32)) + a4) 896 then some (((σ.1 12 19 ((a3 : Int32).toNatClampNeg) ((a4 : Int32).toNatClampNeg)) + (σ.1 13 23 0 (((((a2 &&& (((1 : Int32) <<< (a4 &&& 31)) ^^^ (-1 : Int32))) * (7 : Int32)) + a4) : Int32).toNatClampNeg))), σ) else none) else none) else none)
set_option maxRecDepth 100000 in
theorem ok_X5_leastOver (l : Launch) (a2 : Int32) (a3 : Int32) (a4 : Int32) (σ : am_S) {q : Int32 × am_S} (h : fn_X5_leastOver a2 a3 a4 σ = some q) : am_M l yX5_leastOver cX5_leastOver 5 (some .int) 0 [am_r 13 22 0, am_r 12 17 0, am_i a2, am_i a3, am_i a4] σ (some (am_i q.1)) q.2 := by
  refine am_M_of (P := am_p5) (by decide +kernel) am_p5_ok rfl ?_
  intro G p e s m args below meth c X hr
  have hc := ct_X5_leastOver
  unfold fn_X5_leastOver at h
  obtain ⟨ob1, h⟩ := am_ci h
  obtain ⟨ob2, h⟩ := am_ci h
  obtain ⟨ob3, h⟩ := am_ci h
  refine am_blk hc X 0 21 (fr' := (29, [(0, am_r 13 22 0), (1, am_r 12 17 0), (2, am_i a2), (3, am_i a3), (4, am_i a4)], [am_i ((σ.1 12 19 ((a3 : Int32).toNatClampNeg) ((a4 : Int32).toNatClampNeg)) + (σ.1 13 23 0 (((((a2 &&& (((1 : Int32) <<< (a4 &&& 31)) ^^^ (-1 : Int32))) * (7 : Int32)) + a4) : Int32).toNatClampNeg)))], σ)) rfl ⟨trivial, trivial, trivial, (am_in_vp ob1), trivial, (am_in_vp ob2), trivial, trivial, trivial, trivial, trivial, trivial, trivial, trivial, trivial, trivial, trivial, trivial, trivial, (am_in_vp ob3), trivial, trivial⟩ ?_
  obtain rfl := Option.some.inj h
  exact am_iret hc X hr 21 rfl rfl rfl
def jn_X5_leastByNext_39 (k7 : Int32 → Int32 → Int32 → Int32 → am_S → Option (Int32 × am_S)) (x2 : Int32) (x3 : Int32) (x4 : Int32) (x5 : Int32) (σ : am_S) : Option (Int32 × am_S) :=
  k7 x2 x3 x4 (x5 + 1) (σ)
set_option maxRecDepth 100000 in
theorem jl_X5_leastByNext_39 {p : Program} {l : Launch} {e : Env} {s : State} {m : MethodId} {args : Array Value} {below : List Frame} {meth : Method} {c : Code} {G : am_G} {q : Int32 × am_S} (X : am_X p s m args c cX5_leastByNext yX5_leastByNext.cls 6 am_p5 G (am_fr G)) (hr : meth.sig.returnType = (some .int) ∧ meth.locks = false)  (k7 : Int32 → Int32 → Int32 → Int32 → am_S → Option (Int32 × am_S)) (hk7 : ∀ (x2 : Int32) (x3 : Int32) (x4 : Int32) (x5 : Int32) (σ : am_S), k7 x2 x3 x4 x5 σ = some q → am_A p l e (am_ro 1) s m args below meth c 6 G (am_fr G) 0 0 (MQ below (am_Qc G (some (am_i q.1)) q.2) args s 0 0 (am_fr G)) (7, [(0, am_r 13 22 0), (1, am_r 12 17 0), (2, am_i x2), (3, am_i x3), (4, am_i x4), (5, am_i x5)], [], σ)) (x2 : Int32) (x3 : Int32) (x4 : Int32) (x5 : Int32) (σ : am_S) (h : jn_X5_leastByNext_39 k7 x2 x3 x4 x5 σ = some q) : am_A p l e (am_ro 1) s m args below meth c 6 G (am_fr G) 0 0 (MQ below (am_Qc G (some (am_i q.1)) q.2) args s 0 0 (am_fr G)) (39, [(0, am_r 13 22 0), (1, am_r 12 17 0), (2, am_i x2), (3, am_i x3), (4, am_i x4), (5, am_i x5)], [], σ) := by
  have hc := ct_X5_leastByNext
  unfold jn_X5_leastByNext_39 at h
  refine am_blk hc X 22 2 (fr' := (7, [(0, am_r 13 22 0), (1, am_r 12 17 0), (2, am_i x2), (3, am_i x3), (4, am_i x4), (5, am_i (x5 + 1))], [], σ)) rfl ⟨trivial, trivial, trivial⟩ ?_
  exact hk7 x2 x3 x4 (x5 + 1) _ h
def lb_X5_leastByNext_7 (k7 : Int32 → Int32 → Int32 → Int32 → am_S → Option (Int32 × am_S)) (x2 : Int32) (x3 : Int32) (x4 : Int32) (x5 : Int32) (σ : am_S) : Option (Int32 × am_S) :=
  (if 7 ≤ x5 then some (x4, σ) else (if (x2 &&& ((1 : Int32) <<< (x5 &&& 31))) = 0 then jn_X5_leastByNext_39 k7 x2 x3 x4 x5 (σ) else (fn_X5_leastOver x2 x3 x5 (σ)).bind fun q1 => jn_X5_leastByNext_39 k7 x2 x3 (if q1.1 < x4 then q1.1 else x4) x5 q1.2))
set_option maxRecDepth 100000 in
theorem lc_X5_leastByNext_7 {p : Program} {l : Launch} {e : Env} {s : State} {m : MethodId} {args : Array Value} {below : List Frame} {meth : Method} {c : Code} {G : am_G} {q : Int32 × am_S} (X : am_X p s m args c cX5_leastByNext yX5_leastByNext.cls 6 am_p5 G (am_fr G)) (hr : meth.sig.returnType = (some .int) ∧ meth.locks = false)  (k7 : Int32 → Int32 → Int32 → Int32 → am_S → Option (Int32 × am_S)) (hk7 : ∀ (x2 : Int32) (x3 : Int32) (x4 : Int32) (x5 : Int32) (σ : am_S), k7 x2 x3 x4 x5 σ = some q → am_A p l e (am_ro 1) s m args below meth c 6 G (am_fr G) 0 0 (MQ below (am_Qc G (some (am_i q.1)) q.2) args s 0 0 (am_fr G)) (7, [(0, am_r 13 22 0), (1, am_r 12 17 0), (2, am_i x2), (3, am_i x3), (4, am_i x4), (5, am_i x5)], [], σ)) (x2 : Int32) (x3 : Int32) (x4 : Int32) (x5 : Int32) (σ : am_S) (h : lb_X5_leastByNext_7 k7 x2 x3 x4 x5 σ = some q) : am_A p l e (am_ro 1) s m args below meth c 6 G (am_fr G) 0 0 (MQ below (am_Qc G (some (am_i q.1)) q.2) args s 0 0 (am_fr G)) (7, [(0, am_r 13 22 0), (1, am_r 12 17 0), (2, am_i x2), (3, am_i x3), (4, am_i x4), (5, am_i x5)], [], σ) := by
  have hc := ct_X5_leastByNext
  unfold lb_X5_leastByNext_7 at h
  refine am_blk hc X 4 2 (fr' := (11, [(0, am_r 13 22 0), (1, am_r 12 17 0), (2, am_i x2), (3, am_i x3), (4, am_i x4), (5, am_i x5)], [am_i 7, am_i x5], σ)) rfl ⟨trivial, trivial, trivial⟩ ?_
  refine am_icmp_ge hc X 6 (tgt := 45) rfl (by decide) (fun c4 => ?_) (fun c4 => ?_)
  · replace h := am_ip c4 h
    refine am_blk hc X 24 1 (fr' := (47, [(0, am_r 13 22 0), (1, am_r 12 17 0), (2, am_i x2), (3, am_i x3), (4, am_i x4), (5, am_i x5)], [am_i x4], σ)) rfl ⟨trivial, trivial⟩ ?_
    obtain rfl := Option.some.inj h
    exact am_iret hc X hr 25 rfl rfl rfl
  · replace h := am_in2 c4 h
    refine am_blk hc X 7 5 (fr' := (20, [(0, am_r 13 22 0), (1, am_r 12 17 0), (2, am_i x2), (3, am_i x3), (4, am_i x4), (5, am_i x5)], [am_i (x2 &&& ((1 : Int32) <<< (x5 &&& 31)))], σ)) rfl ⟨trivial, trivial, trivial, trivial, trivial, trivial⟩ ?_
    refine am_if_eq hc X 12 (tgt := 39) rfl (by decide) (fun c3 => ?_) (fun c3 => ?_)
    · replace h := am_ip c3 h
      exact jl_X5_leastByNext_39 X hr k7 hk7 x2 x3 x4 x5 _ h
    · replace h := am_in2 c3 h
      refine am_blk hc X 13 6 (fr' := (31, [(0, am_r 13 22 0), (1, am_r 12 17 0), (2, am_i x2), (3, am_i x3), (4, am_i x4), (5, am_i x5)], [am_i x5, am_i x3, am_i x2, am_r 12 17 0, am_r 13 22 0, am_i x4], σ)) rfl ⟨trivial, trivial, trivial, trivial, trivial, trivial, trivial⟩ ?_
      obtain ⟨q1, hq2, h⟩ := am_bs h
      refine am_callV hc 19 X (k := 22) (i := 0) (o := 13) (As := [am_r 12 17 0, am_i x2, am_i x3, am_i x5]) (rest := [am_i x4]) rfl (ok_X5_leastOver l x2 x3 x5 (σ) hq2) yv_X5_leastOver ml_X5_57 (cl_22) rfl rfl rfl rfl rfl ?_
      refine am_mmin hc 20 X (rest := []) rfl ml_X5_60 am_wmin rfl rfl ?_
      refine am_blk hc X 21 1 (fr' := (39, [(0, am_r 13 22 0), (1, am_r 12 17 0), (2, am_i x2), (3, am_i x3), (4, am_i (if q1.1 < x4 then q1.1 else x4)), (5, am_i x5)], [], q1.2)) rfl ⟨trivial, trivial⟩ ?_
      exact jl_X5_leastByNext_39 X hr k7 hk7 x2 x3 (if q1.1 < x4 then q1.1 else x4) x5 _ h
def lp_X5_leastByNext_7  : Nat → Int32 → Int32 → Int32 → Int32 → am_S → Option (Int32 × am_S)
  | 0 => fun _ _ _ _ _ => none
  | n + 1 => lb_X5_leastByNext_7  (lp_X5_leastByNext_7  n)
theorem ll_X5_leastByNext_7 {p : Program} {l : Launch} {e : Env} {s : State} {m : MethodId} {args : Array Value} {below : List Frame} {meth : Method} {c : Code} {G : am_G} {q : Int32 × am_S} (X : am_X p s m args c cX5_leastByNext yX5_leastByNext.cls 6 am_p5 G (am_fr G)) (hr : meth.sig.returnType = (some .int) ∧ meth.locks = false)    : ∀ (n : Nat) (x2 : Int32) (x3 : Int32) (x4 : Int32) (x5 : Int32) (σ : am_S), lp_X5_leastByNext_7  n x2 x3 x4 x5 σ = some q → am_A p l e (am_ro 1) s m args below meth c 6 G (am_fr G) 0 0 (MQ below (am_Qc G (some (am_i q.1)) q.2) args s 0 0 (am_fr G)) (7, [(0, am_r 13 22 0), (1, am_r 12 17 0), (2, am_i x2), (3, am_i x3), (4, am_i x4), (5, am_i x5)], [], σ) := by
  intro n
  induction n with
  | zero =>
    intro x2 x3 x4 x5 σ h
    have h : (none : Option (Int32 × am_S)) = some q := h
    cases h
  | succ n ih =>
    intro x2 x3 x4 x5 σ h
    exact lc_X5_leastByNext_7 X hr  (lp_X5_leastByNext_7  n) ih x2 x3 x4 x5 σ h
def fn_X5_leastByNext (a2 : Int32) (a3 : Int32) (σ : am_S) : Option (Int32 × am_S) :=
  lp_X5_leastByNext_7  1000 a2 a3 1000000 0 (σ)
set_option maxRecDepth 100000 in
theorem ok_X5_leastByNext (l : Launch) (a2 : Int32) (a3 : Int32) (σ : am_S) {q : Int32 × am_S} (h : fn_X5_leastByNext a2 a3 σ = some q) : am_M l yX5_leastByNext cX5_leastByNext 6 (some .int) 1 [am_r 13 22 0, am_r 12 17 0, am_i a2, am_i a3] σ (some (am_i q.1)) q.2 := by
  refine am_M_of (P := am_p5) (by decide +kernel) am_p5_ok rfl ?_
  intro G p e s m args below meth c X hr
  have hc := ct_X5_leastByNext
  unfold fn_X5_leastByNext at h
  refine am_blk hc X 0 4 (fr' := (7, [(0, am_r 13 22 0), (1, am_r 12 17 0), (2, am_i a2), (3, am_i a3), (4, am_i 1000000), (5, am_i 0)], [], σ)) rfl ⟨trivial, trivial, trivial, trivial, trivial⟩ ?_
  exact ll_X5_leastByNext_7 X hr   1000 a2 a3 1000000 0 _ h
def fn_X6_between (a1 : Int32) (a2 : Int32) (σ : am_S) : Option (Int32 × am_S) :=
  (fn_X7_isValley a1 (σ)).bind fun q1 => (if q1.1 = 0 then some (0, q1.2) else (fn_X7_isValley a2 q1.2).bind fun q3 => (if q3.1 = 0 then some (0, q3.2) else (bif am_in a1 7 then (bif am_in a2 7 then some ((q3.2.1 12 19 ((a1 : Int32).toNatClampNeg) ((a2 : Int32).toNatClampNeg)), q3.2) else none) else none)))
set_option maxRecDepth 100000 in
theorem ok_X6_between (l : Launch) (a1 : Int32) (a2 : Int32) (σ : am_S) {q : Int32 × am_S} (h : fn_X6_between a1 a2 σ = some q) : am_M l yX6_between cX6_between 3 (some .int) 1 [am_r 12 17 0, am_i a1, am_i a2] σ (some (am_i q.1)) q.2 := by
  refine am_M_of (P := am_p6) (by decide +kernel) am_p6_ok rfl ?_
  intro G p e s m args below meth c X hr
  have hc := ct_X6_between
  unfold fn_X6_between at h
  refine am_blk hc X 0 1 (fr' := (1, [(0, am_r 12 17 0), (1, am_i a1), (2, am_i a2)], [am_i a1], σ)) rfl ⟨trivial, trivial⟩ ?_
  obtain ⟨q1, hq2, h⟩ := am_bs h
  refine am_callN hc 1 X (As := [am_i a1]) (rest := []) rfl (ok_X7_isValley l a1 (σ) hq2) yv_X7_isValley mn_X6_56 rfl rfl rfl rfl rfl ?_
  refine am_if_eq hc X 2 (tgt := 25) rfl (by decide) (fun c8 => ?_) (fun c8 => ?_)
  · replace h := am_ip c8 h
    refine am_blk hc X 13 1 (fr' := (26, [(0, am_r 12 17 0), (1, am_i a1), (2, am_i a2)], [am_i 0], q1.2)) rfl ⟨trivial, trivial⟩ ?_
    obtain rfl := Option.some.inj h
    exact am_iret hc X hr 14 rfl rfl rfl
  · replace h := am_in2 c8 h
    refine am_blk hc X 3 1 (fr' := (8, [(0, am_r 12 17 0), (1, am_i a1), (2, am_i a2)], [am_i a2], q1.2)) rfl ⟨trivial, trivial⟩ ?_
    obtain ⟨q3, hq4, h⟩ := am_bs h
    refine am_callN hc 4 X (As := [am_i a2]) (rest := []) rfl (ok_X7_isValley l a2 q1.2 hq4) yv_X7_isValley mn_X6_56 rfl rfl rfl rfl rfl ?_
    refine am_if_eq hc X 5 (tgt := 25) rfl (by decide) (fun c7 => ?_) (fun c7 => ?_)
    · replace h := am_ip c7 h
      refine am_blk hc X 13 1 (fr' := (26, [(0, am_r 12 17 0), (1, am_i a1), (2, am_i a2)], [am_i 0], q3.2)) rfl ⟨trivial, trivial⟩ ?_
      obtain rfl := Option.some.inj h
      exact am_iret hc X hr 14 rfl rfl rfl
    · replace h := am_in2 c7 h
      obtain ⟨ob5, h⟩ := am_ci h
      obtain ⟨ob6, h⟩ := am_ci h
      refine am_blk hc X 6 7 (fr' := (26, [(0, am_r 12 17 0), (1, am_i a1), (2, am_i a2)], [am_i (q3.2.1 12 19 ((a1 : Int32).toNatClampNeg) ((a2 : Int32).toNatClampNeg))], q3.2)) rfl ⟨trivial, trivial, trivial, (am_in_vp ob5), trivial, (am_in_vp ob6), trivial, trivial⟩ ?_
      obtain rfl := Option.some.inj h
      exact am_iret hc X hr 14 rfl rfl rfl
def jn_X5_fillSet_54 (k3 : Int32 → Int32 → Int32 → Int32 → am_S → Option (am_S)) (x2 : Int32) (x3 : Int32) (x4 : Int32) (x5 : Int32) (σ : am_S) : Option (am_S) :=
  k3 x2 x3 x4 (x5 + 1) (σ)
set_option maxRecDepth 100000 in
theorem jl_X5_fillSet_54 {p : Program} {l : Launch} {e : Env} {s : State} {m : MethodId} {args : Array Value} {below : List Frame} {meth : Method} {c : Code} {G : am_G} {q : am_S} (X : am_X p s m args c cX5_fillSet yX5_fillSet.cls 6 am_p5 G (am_fr G)) (hr : meth.sig.returnType = none ∧ meth.locks = false)  (k3 : Int32 → Int32 → Int32 → Int32 → am_S → Option (am_S)) (hk3 : ∀ (x2 : Int32) (x3 : Int32) (x4 : Int32) (x5 : Int32) (σ : am_S), k3 x2 x3 x4 x5 σ = some q → am_A p l e (am_ro 2) s m args below meth c 6 G (am_fr G) 0 0 (MQ below (am_Qc G none q) args s 0 0 (am_fr G)) (3, [(0, am_r 13 22 0), (1, am_r 12 17 0), (2, am_i x2), (3, am_i x3), (4, am_i x4), (5, am_i x5)], [], σ)) (x2 : Int32) (x3 : Int32) (x4 : Int32) (x5 : Int32) (σ : am_S) (h : jn_X5_fillSet_54 k3 x2 x3 x4 x5 σ = some q) : am_A p l e (am_ro 2) s m args below meth c 6 G (am_fr G) 0 0 (MQ below (am_Qc G none q) args s 0 0 (am_fr G)) (54, [(0, am_r 13 22 0), (1, am_r 12 17 0), (2, am_i x2), (3, am_i x3), (4, am_i x4), (5, am_i x5)], [], σ) := by
  have hc := ct_X5_fillSet
  unfold jn_X5_fillSet_54 at h
  refine am_blk hc X 31 2 (fr' := (3, [(0, am_r 13 22 0), (1, am_r 12 17 0), (2, am_i x2), (3, am_i x3), (4, am_i x4), (5, am_i (x5 + 1))], [], σ)) rfl ⟨trivial, trivial, trivial⟩ ?_
  exact hk3 x2 x3 x4 (x5 + 1) _ h
def jn_X5_fillSet_53 (k3 : Int32 → Int32 → Int32 → Int32 → am_S → Option (am_S)) (x2 : Int32) (x3 : Int32) (x4 : Int32) (x5 : Int32) (y0 : Int32) (y1 : Int32) (σ : am_S) : Option (am_S) :=
  (bif am_in y1 896 then jn_X5_fillSet_54 k3 x2 x3 x4 x5 (am_u σ 13 23 0 ((y1 : Int32).toNatClampNeg) y0) else none)
set_option maxRecDepth 100000 in
theorem jl_X5_fillSet_53 {p : Program} {l : Launch} {e : Env} {s : State} {m : MethodId} {args : Array Value} {below : List Frame} {meth : Method} {c : Code} {G : am_G} {q : am_S} (X : am_X p s m args c cX5_fillSet yX5_fillSet.cls 6 am_p5 G (am_fr G)) (hr : meth.sig.returnType = none ∧ meth.locks = false)  (k3 : Int32 → Int32 → Int32 → Int32 → am_S → Option (am_S)) (hk3 : ∀ (x2 : Int32) (x3 : Int32) (x4 : Int32) (x5 : Int32) (σ : am_S), k3 x2 x3 x4 x5 σ = some q → am_A p l e (am_ro 2) s m args below meth c 6 G (am_fr G) 0 0 (MQ below (am_Qc G none q) args s 0 0 (am_fr G)) (3, [(0, am_r 13 22 0), (1, am_r 12 17 0), (2, am_i x2), (3, am_i x3), (4, am_i x4), (5, am_i x5)], [], σ)) (x2 : Int32) (x3 : Int32) (x4 : Int32) (x5 : Int32) (y0 : Int32) (y1 : Int32) (σ : am_S) (h : jn_X5_fillSet_53 k3 x2 x3 x4 x5 y0 y1 σ = some q) : am_A p l e (am_ro 2) s m args below meth c 6 G (am_fr G) 0 0 (MQ below (am_Qc G none q) args s 0 0 (am_fr G)) (53, [(0, am_r 13 22 0), (1, am_r 12 17 0), (2, am_i x2), (3, am_i x3), (4, am_i x4), (5, am_i x5)], [am_i y0, am_i y1, am_r 13 23 0], σ) := by
  have hc := ct_X5_fillSet
  unfold jn_X5_fillSet_53 at h
  obtain ⟨ob3, h⟩ := am_ci h
  refine am_blk hc X 30 1 (fr' := (54, [(0, am_r 13 22 0), (1, am_r 12 17 0), (2, am_i x2), (3, am_i x3), (4, am_i x4), (5, am_i x5)], [], (am_u σ 13 23 0 ((y1 : Int32).toNatClampNeg) y0))) rfl ⟨(am_in_vp ob3), trivial⟩ ?_
  exact jl_X5_fillSet_54 X hr k3 hk3 x2 x3 x4 x5 _ h
def lb_X5_fillSet_3 (k3 : Int32 → Int32 → Int32 → Int32 → am_S → Option (am_S)) (x2 : Int32) (x3 : Int32) (x4 : Int32) (x5 : Int32) (σ : am_S) : Option (am_S) :=
  (if 7 ≤ x5 then some (σ) else (if (x3 &&& ((1 : Int32) <<< (x5 &&& 31))) = 0 then jn_X5_fillSet_54 k3 x2 x3 x4 x5 (σ) else (if x2 = 0 then (fn_X6_between x5 x4 (σ)).bind fun q4 => jn_X5_fillSet_53 k3 x2 x3 x4 x5 q4.1 ((x2 * (7 : Int32)) + x5) q4.2 else (fn_X5_leastByNext x2 x5 (σ)).bind fun q1 => jn_X5_fillSet_53 k3 x2 x3 x4 x5 q1.1 ((x2 * (7 : Int32)) + x5) q1.2)))
set_option maxRecDepth 100000 in
theorem lc_X5_fillSet_3 {p : Program} {l : Launch} {e : Env} {s : State} {m : MethodId} {args : Array Value} {below : List Frame} {meth : Method} {c : Code} {G : am_G} {q : am_S} (X : am_X p s m args c cX5_fillSet yX5_fillSet.cls 6 am_p5 G (am_fr G)) (hr : meth.sig.returnType = none ∧ meth.locks = false)  (k3 : Int32 → Int32 → Int32 → Int32 → am_S → Option (am_S)) (hk3 : ∀ (x2 : Int32) (x3 : Int32) (x4 : Int32) (x5 : Int32) (σ : am_S), k3 x2 x3 x4 x5 σ = some q → am_A p l e (am_ro 2) s m args below meth c 6 G (am_fr G) 0 0 (MQ below (am_Qc G none q) args s 0 0 (am_fr G)) (3, [(0, am_r 13 22 0), (1, am_r 12 17 0), (2, am_i x2), (3, am_i x3), (4, am_i x4), (5, am_i x5)], [], σ)) (x2 : Int32) (x3 : Int32) (x4 : Int32) (x5 : Int32) (σ : am_S) (h : lb_X5_fillSet_3 k3 x2 x3 x4 x5 σ = some q) : am_A p l e (am_ro 2) s m args below meth c 6 G (am_fr G) 0 0 (MQ below (am_Qc G none q) args s 0 0 (am_fr G)) (3, [(0, am_r 13 22 0), (1, am_r 12 17 0), (2, am_i x2), (3, am_i x3), (4, am_i x4), (5, am_i x5)], [], σ) := by
  have hc := ct_X5_fillSet
  unfold lb_X5_fillSet_3 at h
  refine am_blk hc X 2 2 (fr' := (7, [(0, am_r 13 22 0), (1, am_r 12 17 0), (2, am_i x2), (3, am_i x3), (4, am_i x4), (5, am_i x5)], [am_i 7, am_i x5], σ)) rfl ⟨trivial, trivial, trivial⟩ ?_
  refine am_icmp_ge hc X 4 (tgt := 60) rfl (by decide) (fun c8 => ?_) (fun c8 => ?_)
  · replace h := am_ip c8 h
    obtain rfl := Option.some.inj h
    exact am_vret hc X hr 33 rfl rfl rfl
  · replace h := am_in2 c8 h
    refine am_blk hc X 5 5 (fr' := (16, [(0, am_r 13 22 0), (1, am_r 12 17 0), (2, am_i x2), (3, am_i x3), (4, am_i x4), (5, am_i x5)], [am_i (x3 &&& ((1 : Int32) <<< (x5 &&& 31)))], σ)) rfl ⟨trivial, trivial, trivial, trivial, trivial, trivial⟩ ?_
    refine am_if_eq hc X 10 (tgt := 54) rfl (by decide) (fun c7 => ?_) (fun c7 => ?_)
    · replace h := am_ip c7 h
      exact jl_X5_fillSet_54 X hr k3 hk3 x2 x3 x4 x5 _ h
    · replace h := am_in2 c7 h
      refine am_blk hc X 11 8 (fr' := (31, [(0, am_r 13 22 0), (1, am_r 12 17 0), (2, am_i x2), (3, am_i x3), (4, am_i x4), (5, am_i x5)], [am_i x2, am_i ((x2 * (7 : Int32)) + x5), am_r 13 23 0], σ)) rfl ⟨trivial, trivial, trivial, trivial, trivial, trivial, trivial, trivial, trivial⟩ ?_
      refine am_if_ne hc X 19 (tgt := 45) rfl (by decide) (fun c6 => ?_) (fun c6 => ?_)
      · replace h := am_in2 c6 h
        refine am_blk hc X 25 4 (fr' := (50, [(0, am_r 13 22 0), (1, am_r 12 17 0), (2, am_i x2), (3, am_i x3), (4, am_i x4), (5, am_i x5)], [am_i x5, am_i x2, am_r 12 17 0, am_r 13 22 0, am_i ((x2 * (7 : Int32)) + x5), am_r 13 23 0], σ)) rfl ⟨trivial, trivial, trivial, trivial, trivial⟩ ?_
        obtain ⟨q1, hq2, h⟩ := am_bs h
        refine am_callV hc 29 X (k := 22) (i := 0) (o := 13) (As := [am_r 12 17 0, am_i x2, am_i x5]) (rest := [am_i ((x2 * (7 : Int32)) + x5), am_r 13 23 0]) rfl (ok_X5_leastByNext l x2 x5 (σ) hq2) yv_X5_leastByNext ml_X5_52 (cl_22) rfl rfl rfl rfl rfl ?_
        exact jl_X5_fillSet_53 X hr k3 hk3 x2 x3 x4 x5 q1.1 ((x2 * (7 : Int32)) + x5) _ h
      · replace h := am_ip c6 h
        refine am_blk hc X 20 3 (fr' := (39, [(0, am_r 13 22 0), (1, am_r 12 17 0), (2, am_i x2), (3, am_i x3), (4, am_i x4), (5, am_i x5)], [am_i x4, am_i x5, am_r 12 17 0, am_i ((x2 * (7 : Int32)) + x5), am_r 13 23 0], σ)) rfl ⟨trivial, trivial, trivial, trivial⟩ ?_
        obtain ⟨q4, hq5, h⟩ := am_bs h
        refine am_callV hc 23 X (k := 17) (i := 0) (o := 12) (As := [am_i x5, am_i x4]) (rest := [am_i ((x2 * (7 : Int32)) + x5), am_r 13 23 0]) rfl (ok_X6_between l x5 x4 (σ) hq5) yv_X6_between ml_X5_48 (cl_17) rfl rfl rfl rfl rfl ?_
        refine am_blk hc X 24 1 (fr' := (53, [(0, am_r 13 22 0), (1, am_r 12 17 0), (2, am_i x2), (3, am_i x3), (4, am_i x4), (5, am_i x5)], [am_i q4.1, am_i ((x2 * (7 : Int32)) + x5), am_r 13 23 0], q4.2)) rfl ⟨trivial, trivial⟩ ?_
        exact jl_X5_fillSet_53 X hr k3 hk3 x2 x3 x4 x5 q4.1 ((x2 * (7 : Int32)) + x5) _ h
def lp_X5_fillSet_3  : Nat → Int32 → Int32 → Int32 → Int32 → am_S → Option (am_S)
  | 0 => fun _ _ _ _ _ => none
  | n + 1 => lb_X5_fillSet_3  (lp_X5_fillSet_3  n)
theorem ll_X5_fillSet_3 {p : Program} {l : Launch} {e : Env} {s : State} {m : MethodId} {args : Array Value} {below : List Frame} {meth : Method} {c : Code} {G : am_G} {q : am_S} (X : am_X p s m args c cX5_fillSet yX5_fillSet.cls 6 am_p5 G (am_fr G)) (hr : meth.sig.returnType = none ∧ meth.locks = false)    : ∀ (n : Nat) (x2 : Int32) (x3 : Int32) (x4 : Int32) (x5 : Int32) (σ : am_S), lp_X5_fillSet_3  n x2 x3 x4 x5 σ = some q → am_A p l e (am_ro 2) s m args below meth c 6 G (am_fr G) 0 0 (MQ below (am_Qc G none q) args s 0 0 (am_fr G)) (3, [(0, am_r 13 22 0), (1, am_r 12 17 0), (2, am_i x2), (3, am_i x3), (4, am_i x4), (5, am_i x5)], [], σ) := by
  intro n
  induction n with
  | zero =>
    intro x2 x3 x4 x5 σ h
    have h : (none : Option (am_S)) = some q := h
    cases h
  | succ n ih =>
    intro x2 x3 x4 x5 σ h
    exact lc_X5_fillSet_3 X hr  (lp_X5_fillSet_3  n) ih x2 x3 x4 x5 σ h
def fn_X5_fillSet (a2 : Int32) (a3 : Int32) (a4 : Int32) (σ : am_S) : Option (am_S) :=
  lp_X5_fillSet_3  1000 a2 a3 a4 0 (σ)
set_option maxRecDepth 100000 in
theorem ok_X5_fillSet (l : Launch) (a2 : Int32) (a3 : Int32) (a4 : Int32) (σ : am_S) {q : am_S} (h : fn_X5_fillSet a2 a3 a4 σ = some q) : am_M l yX5_fillSet cX5_fillSet 6 none 2 [am_r 13 22 0, am_r 12 17 0, am_i a2, am_i a3, am_i a4] σ none q := by
  refine am_M_of (P := am_p5) (by decide +kernel) am_p5_ok rfl ?_
  intro G p e s m args below meth c X hr
  have hc := ct_X5_fillSet
  unfold fn_X5_fillSet at h
  refine am_blk hc X 0 2 (fr' := (3, [(0, am_r 13 22 0), (1, am_r 12 17 0), (2, am_i a2), (3, am_i a3), (4, am_i a4), (5, am_i 0)], [], σ)) rfl ⟨trivial, trivial, trivial⟩ ?_
  exact ll_X5_fillSet_3 X hr   1000 a2 a3 a4 0 _ h
def lb_X6_shortenBy_10 (k2 : Int32 → Int32 → am_S → Option (am_S)) (k10 : Int32 → Int32 → Int32 → am_S → Option (am_S)) (x1 : Int32) (x2 : Int32) (x3 : Int32) (σ : am_S) : Option (am_S) :=
  (if 7 ≤ x3 then k2 x1 (x2 + 1) (σ) else (bif am_in x2 7 then (bif am_in x2 7 then (bif am_in x3 7 then (bif am_in x2 7 then (bif am_in x1 7 then (bif am_in x1 7 then (bif am_in x3 7 then (bif am_in x3 7 then k10 x1 x2 (x3 + 1) (am_u σ 12 19 ((x2 : Int32).toNatClampNeg) ((x3 : Int32).toNatClampNeg) (if ((σ.1 12 19 ((x2 : Int32).toNatClampNeg) ((x1 : Int32).toNatClampNeg)) + (σ.1 12 19 ((x1 : Int32).toNatClampNeg) ((x3 : Int32).toNatClampNeg))) < (σ.1 12 19 ((x2 : Int32).toNatClampNeg) ((x3 : Int32).toNatClampNeg)) then ((σ.1 12 19 ((x2 : Int32).toNatClampNeg) ((x1 : Int32).toNatClampNeg)) + (σ.1 12 19 ((x1 : Int32).toNatClampNeg) ((x3 : Int32).toNatClampNeg))) else (σ.1 12 19 ((x2 : Int32).toNatClampNeg) ((x3 : Int32).toNatClampNeg)))) else none) else none) else none) else none) else none) else none) else none) else none))
set_option maxRecDepth 100000 in
theorem lc_X6_shortenBy_10 {p : Program} {l : Launch} {e : Env} {s : State} {m : MethodId} {args : Array Value} {below : List Frame} {meth : Method} {c : Code} {G : am_G} {q : am_S} (X : am_X p s m args c cX6_shortenBy yX6_shortenBy.cls 4 am_p6 G (am_fr G)) (hr : meth.sig.returnType = none ∧ meth.locks = false)  (k2 : Int32 → Int32 → am_S → Option (am_S)) (k10 : Int32 → Int32 → Int32 → am_S → Option (am_S)) (hk2 : ∀ (x1 : Int32) (x2 : Int32) (σ : am_S), k2 x1 x2 σ = some q → am_A p l e (am_ro 1) s m args below meth c 4 G (am_fr G) 0 0 (MQ below (am_Qc G none q) args s 0 0 (am_fr G)) (2, [(0, am_r 12 17 0), (1, am_i x1), (2, am_i x2)], [], σ)) (hk10 : ∀ (x1 : Int32) (x2 : Int32) (x3 : Int32) (σ : am_S), k10 x1 x2 x3 σ = some q → am_A p l e (am_ro 1) s m args below meth c 4 G (am_fr G) 0 0 (MQ below (am_Qc G none q) args s 0 0 (am_fr G)) (10, [(0, am_r 12 17 0), (1, am_i x1), (2, am_i x2), (3, am_i x3)], [], σ)) (x1 : Int32) (x2 : Int32) (x3 : Int32) (σ : am_S) (h : lb_X6_shortenBy_10 k2 k10 x1 x2 x3 σ = some q) : am_A p l e (am_ro 1) s m args below meth c 4 G (am_fr G) 0 0 (MQ below (am_Qc G none q) args s 0 0 (am_fr G)) (10, [(0, am_r 12 17 0), (1, am_i x1), (2, am_i x2), (3, am_i x3)], [], σ) := by
  have hc := ct_X6_shortenBy
  unfold lb_X6_shortenBy_10 at h
  refine am_blk hc X 7 2 (fr' := (13, [(0, am_r 12 17 0), (1, am_i x1), (2, am_i x2), (3, am_i x3)], [am_i 7, am_i x3], σ)) rfl ⟨trivial, trivial, trivial⟩ ?_
  refine am_icmp_ge hc X 9 (tgt := 58) rfl (by decide) (fun c9 => ?_) (fun c9 => ?_)
  · replace h := am_ip c9 h
    refine am_blk hc X 38 2 (fr' := (2, [(0, am_r 12 17 0), (1, am_i x1), (2, am_i (x2 + 1)), (3, am_i x3)], [], σ)) rfl ⟨trivial, trivial, trivial⟩ ?_
    refine am_less [0, 1, 2] rfl ?_
    exact hk2 x1 (x2 + 1) _ h
  · replace h := am_in2 c9 h
    obtain ⟨ob1, h⟩ := am_ci h
    obtain ⟨ob2, h⟩ := am_ci h
    obtain ⟨ob3, h⟩ := am_ci h
    obtain ⟨ob4, h⟩ := am_ci h
    obtain ⟨ob5, h⟩ := am_ci h
    obtain ⟨ob6, h⟩ := am_ci h
    obtain ⟨ob7, h⟩ := am_ci h
    refine am_blk hc X 10 24 (fr' := (48, [(0, am_r 12 17 0), (1, am_i x1), (2, am_i x2), (3, am_i x3)], [am_i ((σ.1 12 19 ((x2 : Int32).toNatClampNeg) ((x1 : Int32).toNatClampNeg)) + (σ.1 12 19 ((x1 : Int32).toNatClampNeg) ((x3 : Int32).toNatClampNeg))), am_i (σ.1 12 19 ((x2 : Int32).toNatClampNeg) ((x3 : Int32).toNatClampNeg)), am_i x3, am_r 12 19 ((x2 : Int32).toNatClampNeg)], σ)) rfl ⟨trivial, trivial, trivial, (am_in_vp ob1), trivial, trivial, trivial, trivial, (am_in_vp ob2), trivial, (am_in_vp ob3), trivial, trivial, trivial, (am_in_vp ob4), trivial, (am_in_vp ob5), trivial, trivial, trivial, (am_in_vp ob6), trivial, (am_in_vp ob7), trivial, trivial⟩ ?_
    refine am_mmin hc 34 X (rest := [am_i x3, am_r 12 19 ((x2 : Int32).toNatClampNeg)]) rfl ml_X6_40 am_wmin rfl rfl ?_
    obtain ⟨ob8, h⟩ := am_ci h
    refine am_blk hc X 35 3 (fr' := (10, [(0, am_r 12 17 0), (1, am_i x1), (2, am_i x2), (3, am_i (x3 + 1))], [], (am_u σ 12 19 ((x2 : Int32).toNatClampNeg) ((x3 : Int32).toNatClampNeg) (if ((σ.1 12 19 ((x2 : Int32).toNatClampNeg) ((x1 : Int32).toNatClampNeg)) + (σ.1 12 19 ((x1 : Int32).toNatClampNeg) ((x3 : Int32).toNatClampNeg))) < (σ.1 12 19 ((x2 : Int32).toNatClampNeg) ((x3 : Int32).toNatClampNeg)) then ((σ.1 12 19 ((x2 : Int32).toNatClampNeg) ((x1 : Int32).toNatClampNeg)) + (σ.1 12 19 ((x1 : Int32).toNatClampNeg) ((x3 : Int32).toNatClampNeg))) else (σ.1 12 19 ((x2 : Int32).toNatClampNeg) ((x3 : Int32).toNatClampNeg)))))) rfl ⟨(am_in_vp ob8), trivial, trivial, trivial⟩ ?_
    exact hk10 x1 x2 (x3 + 1) _ h
def lp_X6_shortenBy_10 (k2 : Int32 → Int32 → am_S → Option (am_S)) : Nat → Int32 → Int32 → Int32 → am_S → Option (am_S)
  | 0 => fun _ _ _ _ => none
  | n + 1 => lb_X6_shortenBy_10 k2 (lp_X6_shortenBy_10 k2 n)
theorem ll_X6_shortenBy_10 {p : Program} {l : Launch} {e : Env} {s : State} {m : MethodId} {args : Array Value} {below : List Frame} {meth : Method} {c : Code} {G : am_G} {q : am_S} (X : am_X p s m args c cX6_shortenBy yX6_shortenBy.cls 4 am_p6 G (am_fr G)) (hr : meth.sig.returnType = none ∧ meth.locks = false)  (k2 : Int32 → Int32 → am_S → Option (am_S)) (hk2 : ∀ (x1 : Int32) (x2 : Int32) (σ : am_S), k2 x1 x2 σ = some q → am_A p l e (am_ro 1) s m args below meth c 4 G (am_fr G) 0 0 (MQ below (am_Qc G none q) args s 0 0 (am_fr G)) (2, [(0, am_r 12 17 0), (1, am_i x1), (2, am_i x2)], [], σ)) : ∀ (n : Nat) (x1 : Int32) (x2 : Int32) (x3 : Int32) (σ : am_S), lp_X6_shortenBy_10 k2 n x1 x2 x3 σ = some q → am_A p l e (am_ro 1) s m args below meth c 4 G (am_fr G) 0 0 (MQ below (am_Qc G none q) args s 0 0 (am_fr G)) (10, [(0, am_r 12 17 0), (1, am_i x1), (2, am_i x2), (3, am_i x3)], [], σ) := by
  intro n
  induction n with
  | zero =>
    intro x1 x2 x3 σ h
    have h : (none : Option (am_S)) = some q := h
    cases h
  | succ n ih =>
    intro x1 x2 x3 σ h
    exact lc_X6_shortenBy_10 X hr k2 (lp_X6_shortenBy_10 k2 n) hk2 ih x1 x2 x3 σ h
def lb_X6_shortenBy_2 (k2 : Int32 → Int32 → am_S → Option (am_S)) (x1 : Int32) (x2 : Int32) (σ : am_S) : Option (am_S) :=
  (if 7 ≤ x2 then some (σ) else lp_X6_shortenBy_10 k2 1000 x1 x2 0 (σ))
set_option maxRecDepth 100000 in
theorem lc_X6_shortenBy_2 {p : Program} {l : Launch} {e : Env} {s : State} {m : MethodId} {args : Array Value} {below : List Frame} {meth : Method} {c : Code} {G : am_G} {q : am_S} (X : am_X p s m args c cX6_shortenBy yX6_shortenBy.cls 4 am_p6 G (am_fr G)) (hr : meth.sig.returnType = none ∧ meth.locks = false)  (k2 : Int32 → Int32 → am_S → Option (am_S)) (hk2 : ∀ (x1 : Int32) (x2 : Int32) (σ : am_S), k2 x1 x2 σ = some q → am_A p l e (am_ro 1) s m args below meth c 4 G (am_fr G) 0 0 (MQ below (am_Qc G none q) args s 0 0 (am_fr G)) (2, [(0, am_r 12 17 0), (1, am_i x1), (2, am_i x2)], [], σ)) (x1 : Int32) (x2 : Int32) (σ : am_S) (h : lb_X6_shortenBy_2 k2 x1 x2 σ = some q) : am_A p l e (am_ro 1) s m args below meth c 4 G (am_fr G) 0 0 (MQ below (am_Qc G none q) args s 0 0 (am_fr G)) (2, [(0, am_r 12 17 0), (1, am_i x1), (2, am_i x2)], [], σ) := by
  have hc := ct_X6_shortenBy
  unfold lb_X6_shortenBy_2 at h
  refine am_blk hc X 2 2 (fr' := (5, [(0, am_r 12 17 0), (1, am_i x1), (2, am_i x2)], [am_i 7, am_i x2], σ)) rfl ⟨trivial, trivial, trivial⟩ ?_
  refine am_icmp_ge hc X 4 (tgt := 64) rfl (by decide) (fun c10 => ?_) (fun c10 => ?_)
  · replace h := am_ip c10 h
    obtain rfl := Option.some.inj h
    exact am_vret hc X hr 40 rfl rfl rfl
  · replace h := am_in2 c10 h
    refine am_blk hc X 5 2 (fr' := (10, [(0, am_r 12 17 0), (1, am_i x1), (2, am_i x2), (3, am_i 0)], [], σ)) rfl ⟨trivial, trivial, trivial⟩ ?_
    exact ll_X6_shortenBy_10 X hr k2 hk2 1000 x1 x2 0 _ h
def lp_X6_shortenBy_2  : Nat → Int32 → Int32 → am_S → Option (am_S)
  | 0 => fun _ _ _ => none
  | n + 1 => lb_X6_shortenBy_2  (lp_X6_shortenBy_2  n)
theorem ll_X6_shortenBy_2 {p : Program} {l : Launch} {e : Env} {s : State} {m : MethodId} {args : Array Value} {below : List Frame} {meth : Method} {c : Code} {G : am_G} {q : am_S} (X : am_X p s m args c cX6_shortenBy yX6_shortenBy.cls 4 am_p6 G (am_fr G)) (hr : meth.sig.returnType = none ∧ meth.locks = false)    : ∀ (n : Nat) (x1 : Int32) (x2 : Int32) (σ : am_S), lp_X6_shortenBy_2  n x1 x2 σ = some q → am_A p l e (am_ro 1) s m args below meth c 4 G (am_fr G) 0 0 (MQ below (am_Qc G none q) args s 0 0 (am_fr G)) (2, [(0, am_r 12 17 0), (1, am_i x1), (2, am_i x2)], [], σ) := by
  intro n
  induction n with
  | zero =>
    intro x1 x2 σ h
    have h : (none : Option (am_S)) = some q := h
    cases h
  | succ n ih =>
    intro x1 x2 σ h
    exact lc_X6_shortenBy_2 X hr  (lp_X6_shortenBy_2  n) ih x1 x2 σ h
def fn_X6_shortenBy (a1 : Int32) (σ : am_S) : Option (am_S) :=
  lp_X6_shortenBy_2  1000 a1 0 (σ)
set_option maxRecDepth 100000 in
theorem ok_X6_shortenBy (l : Launch) (a1 : Int32) (σ : am_S) {q : am_S} (h : fn_X6_shortenBy a1 σ = some q) : am_M l yX6_shortenBy cX6_shortenBy 4 none 1 [am_r 12 17 0, am_i a1] σ none q := by
  refine am_M_of (P := am_p6) (by decide +kernel) am_p6_ok rfl ?_
  intro G p e s m args below meth c X hr
  have hc := ct_X6_shortenBy
  unfold fn_X6_shortenBy at h
  refine am_blk hc X 0 2 (fr' := (2, [(0, am_r 12 17 0), (1, am_i a1), (2, am_i 0)], [], σ)) rfl ⟨trivial, trivial, trivial⟩ ?_
  exact ll_X6_shortenBy_2 X hr   1000 a1 0 _ h
def lb_J7_fill_53178_19_5 (k5 : Nat → Int32 → Int32 → Int32 → am_S → Option (am_S)) (ix0 : Nat) (x1 : Int32) (x2 : Int32) (x3 : Int32) (σ : am_S) : Option (am_S) :=
  (if x3 ≤ x2 then some (σ) else (bif am_in x2 7 then k5 ix0 x1 (x2 + 1) x3 (am_u σ 12 19 ix0 ((x2 : Int32).toNatClampNeg) x1) else none))
set_option maxRecDepth 100000 in
theorem lc_J7_fill_53178_19_5 {p : Program} {l : Launch} {e : Env} {s : State} {m : MethodId} {args : Array Value} {below : List Frame} {meth : Method} {c : Code} {G : am_G} {q : am_S} (X : am_X p s m args c cJ7_fill_53178 yJ7_fill_53178.cls 4 am_pJ G (am_fr G)) (hr : meth.sig.returnType = none ∧ meth.locks = false)  (k5 : Nat → Int32 → Int32 → Int32 → am_S → Option (am_S)) (hk5 : ∀ (ix0 : Nat) (x1 : Int32) (x2 : Int32) (x3 : Int32) (σ : am_S), k5 ix0 x1 x2 x3 σ = some q → am_A p l e (am_ro 0) s m args below meth c 4 G (am_fr G) 0 0 (MQ below (am_Qc G none q) args s 0 0 (am_fr G)) (5, [(0, am_r 12 19 ix0), (1, am_i x1), (2, am_i x2), (3, am_i x3)], [], σ)) (ix0 : Nat) (x1 : Int32) (x2 : Int32) (x3 : Int32) (σ : am_S) (h : lb_J7_fill_53178_19_5 k5 ix0 x1 x2 x3 σ = some q) : am_A p l e (am_ro 0) s m args below meth c 4 G (am_fr G) 0 0 (MQ below (am_Qc G none q) args s 0 0 (am_fr G)) (5, [(0, am_r 12 19 ix0), (1, am_i x1), (2, am_i x2), (3, am_i x3)], [], σ) := by
  have hc := ct_J7_fill_53178
  unfold lb_J7_fill_53178_19_5 at h
  refine am_blk hc X 5 2 (fr' := (7, [(0, am_r 12 19 ix0), (1, am_i x1), (2, am_i x2), (3, am_i x3)], [am_i x3, am_i x2], σ)) rfl ⟨trivial, trivial, trivial⟩ ?_
  refine am_icmp_ge hc X 7 (tgt := 20) rfl (by decide) (fun c2 => ?_) (fun c2 => ?_)
  · replace h := am_ip c2 h
    obtain rfl := Option.some.inj h
    exact am_vret hc X hr 14 rfl rfl rfl
  · replace h := am_in2 c2 h
    obtain ⟨ob1, h⟩ := am_ci h
    refine am_blk hc X 8 6 (fr' := (5, [(0, am_r 12 19 ix0), (1, am_i x1), (2, am_i (x2 + 1)), (3, am_i x3)], [], (am_u σ 12 19 ix0 ((x2 : Int32).toNatClampNeg) x1))) rfl ⟨trivial, trivial, trivial, (am_in_vp ob1), trivial, trivial, trivial⟩ ?_
    exact hk5 ix0 x1 (x2 + 1) x3 _ h
def lp_J7_fill_53178_19_5  : Nat → Nat → Int32 → Int32 → Int32 → am_S → Option (am_S)
  | 0 => fun _ _ _ _ _ => none
  | n + 1 => lb_J7_fill_53178_19_5  (lp_J7_fill_53178_19_5  n)
theorem ll_J7_fill_53178_19_5 {p : Program} {l : Launch} {e : Env} {s : State} {m : MethodId} {args : Array Value} {below : List Frame} {meth : Method} {c : Code} {G : am_G} {q : am_S} (X : am_X p s m args c cJ7_fill_53178 yJ7_fill_53178.cls 4 am_pJ G (am_fr G)) (hr : meth.sig.returnType = none ∧ meth.locks = false)    : ∀ (n : Nat) (ix0 : Nat) (x1 : Int32) (x2 : Int32) (x3 : Int32) (σ : am_S), lp_J7_fill_53178_19_5  n ix0 x1 x2 x3 σ = some q → am_A p l e (am_ro 0) s m args below meth c 4 G (am_fr G) 0 0 (MQ below (am_Qc G none q) args s 0 0 (am_fr G)) (5, [(0, am_r 12 19 ix0), (1, am_i x1), (2, am_i x2), (3, am_i x3)], [], σ) := by
  intro n
  induction n with
  | zero =>
    intro ix0 x1 x2 x3 σ h
    have h : (none : Option (am_S)) = some q := h
    cases h
  | succ n ih =>
    intro ix0 x1 x2 x3 σ h
    exact lc_J7_fill_53178_19_5 X hr  (lp_J7_fill_53178_19_5  n) ih ix0 x1 x2 x3 σ h
def fn_J7_fill_53178_19 (ia0 : Nat) (a1 : Int32) (σ : am_S) : Option (am_S) :=
  lp_J7_fill_53178_19_5  1000 ia0 a1 0 7 (σ)
set_option maxRecDepth 100000 in
theorem ok_J7_fill_53178_19 (l : Launch) (ia0 : Nat) (a1 : Int32) (σ : am_S) {q : am_S} (h : fn_J7_fill_53178_19 ia0 a1 σ = some q) : am_M l yJ7_fill_53178 cJ7_fill_53178 4 none 0 [am_r 12 19 ia0, am_i a1] σ none q := by
  refine am_M_of (P := am_pJ) (by decide +kernel) am_pJ_ok rfl ?_
  intro G p e s m args below meth c X hr
  have hc := ct_J7_fill_53178
  unfold fn_J7_fill_53178_19 at h
  refine am_blk hc X 0 5 (fr' := (5, [(0, am_r 12 19 ia0), (1, am_i a1), (2, am_i 0), (3, am_i 7)], [], σ)) rfl ⟨trivial, trivial, trivial, trivial, trivial, trivial⟩ ?_
  exact ll_J7_fill_53178_19_5 X hr   1000 ia0 a1 0 7 _ h
def fn_X6_weight_8 (oa0 : Nat) (oa1 : Nat) (ia1 : Nat) (a2 : Int32) (a3 : Int32) (a4 : Int32) (σ : am_S) : Option (Int32 × am_S) :=
  (if a4 = 0 then (fn_X0_priceFor_8 oa0 oa1 ia1 a2 a3 (σ)).bind fun q11 => some (q11.1, q11.2) else (if a4 = 1 then (fn_X0_hoursOf oa0 a2 a3 (σ)).bind fun q9 => some (q9.1, q9.2) else (if a4 = 2 then (if a3 = 0 then some (1, σ) else some (0, σ)) else (if a4 = 3 then some (1, σ) else (if a4 = 4 then (fn_X0_priceFor_8 oa0 oa1 ia1 a2 a3 (σ)).bind fun q6 => some (((q6.1 * (64 : Int32)) + (1 : Int32)), q6.2) else some (1, σ))))))
set_option maxRecDepth 100000 in
theorem ok_X6_weight_8 (l : Launch) (oa0 : Nat) (oa1 : Nat) (ia1 : Nat) (a2 : Int32) (a3 : Int32) (a4 : Int32) (σ : am_S) {q : Int32 × am_S} (h : fn_X6_weight_8 oa0 oa1 ia1 a2 a3 a4 σ = some q) : am_M l yX6_weight cX6_weight 5 (some .int) 3 [am_r oa0 2 0, am_r oa1 8 ia1, am_i a2, am_i a3, am_i a4] σ (some (am_i q.1)) q.2 := by
  refine am_M_of (P := am_p6) (by decide +kernel) am_p6_ok rfl ?_
  intro G p e s m args below meth c X hr
  have hc := ct_X6_weight
  unfold fn_X6_weight_8 at h
  refine am_blk hc X 0 1 (fr' := (2, [(0, am_r oa0 2 0), (1, am_r oa1 8 ia1), (2, am_i a2), (3, am_i a3), (4, am_i a4)], [am_i a4], σ)) rfl ⟨trivial, trivial⟩ ?_
  by_cases c1 : a4 = 0
  · replace h := am_ip c1 h
    refine am_tin hc X 1 (tgt := 36) (off := 34) rfl (by rw [c1]; decide) (by rw [c1]; decide) (by rw [c1]; rfl) (by decide) ?_
    refine am_blk hc X 2 4 (fr' := (40, [(0, am_r oa0 2 0), (1, am_r oa1 8 ia1), (2, am_i a2), (3, am_i a3), (4, am_i a4)], [am_i a3, am_i a2, am_r oa1 8 ia1, am_r oa0 2 0], σ)) rfl ⟨trivial, trivial, trivial, trivial, trivial⟩ ?_
    obtain ⟨q11, hq12, h⟩ := am_bs h
    refine am_callV hc 6 X (k := 2) (i := 0) (o := oa0) (As := [am_r oa1 8 ia1, am_i a2, am_i a3]) (rest := []) rfl (ok_X0_priceFor_8 l oa0 oa1 ia1 a2 a3 (σ) hq12) yv_X0_priceFor ml_X6_49 (cl_2) rfl rfl rfl rfl rfl ?_
    obtain rfl := Option.some.inj h
    exact am_iret hc X hr 7 rfl rfl rfl
  · replace h := am_in2 c1 h
    by_cases c2 : a4 = 1
    · replace h := am_ip c2 h
      refine am_tin hc X 1 (tgt := 44) (off := 42) rfl (by rw [c2]; decide) (by rw [c2]; decide) (by rw [c2]; rfl) (by decide) ?_
      refine am_blk hc X 8 3 (fr' := (47, [(0, am_r oa0 2 0), (1, am_r oa1 8 ia1), (2, am_i a2), (3, am_i a3), (4, am_i a4)], [am_i a3, am_i a2, am_r oa0 2 0], σ)) rfl ⟨trivial, trivial, trivial, trivial⟩ ?_
      obtain ⟨q9, hq10, h⟩ := am_bs h
      refine am_callV hc 11 X (k := 2) (i := 0) (o := oa0) (As := [am_i a2, am_i a3]) (rest := []) rfl (ok_X0_hoursOf l oa0 a2 a3 (σ) hq10) yv_X0_hoursOf ml_X6_53 (cl_2) rfl rfl rfl rfl rfl ?_
      obtain rfl := Option.some.inj h
      exact am_iret hc X hr 12 rfl rfl rfl
    · replace h := am_in2 c2 h
      by_cases c3 : a4 = 2
      · replace h := am_ip c3 h
        refine am_tin hc X 1 (tgt := 51) (off := 49) rfl (by rw [c3]; decide) (by rw [c3]; decide) (by rw [c3]; rfl) (by decide) ?_
        refine am_blk hc X 13 1 (fr' := (52, [(0, am_r oa0 2 0), (1, am_r oa1 8 ia1), (2, am_i a2), (3, am_i a3), (4, am_i a4)], [am_i a3], σ)) rfl ⟨trivial, trivial⟩ ?_
        refine am_if_ne hc X 14 (tgt := 59) rfl (by decide) (fun c8 => ?_) (fun c8 => ?_)
        · replace h := am_in2 c8 h
          refine am_blk hc X 17 1 (fr' := (60, [(0, am_r oa0 2 0), (1, am_r oa1 8 ia1), (2, am_i a2), (3, am_i a3), (4, am_i a4)], [am_i 0], σ)) rfl ⟨trivial, trivial⟩ ?_
          obtain rfl := Option.some.inj h
          exact am_iret hc X hr 18 rfl rfl rfl
        · replace h := am_ip c8 h
          refine am_blk hc X 15 2 (fr' := (60, [(0, am_r oa0 2 0), (1, am_r oa1 8 ia1), (2, am_i a2), (3, am_i a3), (4, am_i a4)], [am_i 1], σ)) rfl ⟨trivial, trivial, trivial⟩ ?_
          obtain rfl := Option.some.inj h
          exact am_iret hc X hr 18 rfl rfl rfl
      · replace h := am_in2 c3 h
        by_cases c4 : a4 = 3
        · replace h := am_ip c4 h
          refine am_tin hc X 1 (tgt := 74) (off := 72) rfl (by rw [c4]; decide) (by rw [c4]; decide) (by rw [c4]; rfl) (by decide) ?_
          refine am_blk hc X 29 1 (fr' := (75, [(0, am_r oa0 2 0), (1, am_r oa1 8 ia1), (2, am_i a2), (3, am_i a3), (4, am_i a4)], [am_i 1], σ)) rfl ⟨trivial, trivial⟩ ?_
          obtain rfl := Option.some.inj h
          exact am_iret hc X hr 30 rfl rfl rfl
        · replace h := am_in2 c4 h
          by_cases c5 : a4 = 4
          · replace h := am_ip c5 h
            refine am_tin hc X 1 (tgt := 61) (off := 59) rfl (by rw [c5]; decide) (by rw [c5]; decide) (by rw [c5]; rfl) (by decide) ?_
            refine am_blk hc X 19 4 (fr' := (65, [(0, am_r oa0 2 0), (1, am_r oa1 8 ia1), (2, am_i a2), (3, am_i a3), (4, am_i a4)], [am_i a3, am_i a2, am_r oa1 8 ia1, am_r oa0 2 0], σ)) rfl ⟨trivial, trivial, trivial, trivial, trivial⟩ ?_
            obtain ⟨q6, hq7, h⟩ := am_bs h
            refine am_callV hc 23 X (k := 2) (i := 0) (o := oa0) (As := [am_r oa1 8 ia1, am_i a2, am_i a3]) (rest := []) rfl (ok_X0_priceFor_8 l oa0 oa1 ia1 a2 a3 (σ) hq7) yv_X0_priceFor ml_X6_49 (cl_2) rfl rfl rfl rfl rfl ?_
            refine am_blk hc X 24 4 (fr' := (73, [(0, am_r oa0 2 0), (1, am_r oa1 8 ia1), (2, am_i a2), (3, am_i a3), (4, am_i a4)], [am_i ((q6.1 * (64 : Int32)) + (1 : Int32))], q6.2)) rfl ⟨trivial, trivial, trivial, trivial, trivial⟩ ?_
            obtain rfl := Option.some.inj h
            exact am_iret hc X hr 28 rfl rfl rfl
          · replace h := am_in2 c5 h
            refine am_tout hc X 1 (tgt := 74) rfl (am_sw 0 4 (fun z h1 h2 => ?_)) (by decide) ?_
            · rcases (show z = 0 ∨ z = 1 ∨ z = 2 ∨ z = 3 ∨ z = 4 by omega) with rfl | rfl | rfl | rfl | rfl
              · exact lv_neT c1 rfl
              · exact lv_neT c2 rfl
              · exact lv_neT c3 rfl
              · exact lv_neT c4 rfl
              · exact lv_neT c5 rfl
            · refine am_blk hc X 29 1 (fr' := (75, [(0, am_r oa0 2 0), (1, am_r oa1 8 ia1), (2, am_i a2), (3, am_i a3), (4, am_i a4)], [am_i 1], σ)) rfl ⟨trivial, trivial⟩ ?_
              obtain rfl := Option.some.inj h
              exact am_iret hc X hr 30 rfl rfl rfl
def lb_X6_measure_8_133 (k133 : Int32 → am_S → Option (am_S)) (x5 : Int32) (σ : am_S) : Option (am_S) :=
  (if 7 ≤ x5 then some (σ) else (fn_X6_shortenBy x5 (σ)).bind fun q1 => k133 (x5 + 1) q1)
set_option maxRecDepth 100000 in
theorem lc_X6_measure_8_133 {p : Program} {l : Launch} {e : Env} {s : State} {m : MethodId} {args : Array Value} {below : List Frame} {meth : Method} {c : Code} {G : am_G} {q : am_S} (X : am_X p s m args c cX6_measure yX6_measure.cls 9 am_p6 G (am_fr G)) (hr : meth.sig.returnType = none ∧ meth.locks = false)  (k133 : Int32 → am_S → Option (am_S)) (hk133 : ∀ (x5 : Int32) (σ : am_S), k133 x5 σ = some q → am_A p l e (am_ro 4) s m args below meth c 9 G (am_fr G) 0 0 (MQ below (am_Qc G none q) args s 0 0 (am_fr G)) (133, [(0, am_r 12 17 0), (5, am_i x5)], [], σ)) (x5 : Int32) (σ : am_S) (h : lb_X6_measure_8_133 k133 x5 σ = some q) : am_A p l e (am_ro 4) s m args below meth c 9 G (am_fr G) 0 0 (MQ below (am_Qc G none q) args s 0 0 (am_fr G)) (133, [(0, am_r 12 17 0), (5, am_i x5)], [], σ) := by
  have hc := ct_X6_measure
  unfold lb_X6_measure_8_133 at h
  refine am_blk hc X 70 2 (fr' := (137, [(0, am_r 12 17 0), (5, am_i x5)], [am_i 7, am_i x5], σ)) rfl ⟨trivial, trivial, trivial⟩ ?_
  refine am_icmp_ge hc X 72 (tgt := 152) rfl (by decide) (fun c3 => ?_) (fun c3 => ?_)
  · replace h := am_ip c3 h
    obtain rfl := Option.some.inj h
    exact am_vret hc X hr 78 rfl rfl rfl
  · replace h := am_in2 c3 h
    refine am_blk hc X 73 2 (fr' := (143, [(0, am_r 12 17 0), (5, am_i x5)], [am_i x5, am_r 12 17 0], σ)) rfl ⟨trivial, trivial, trivial⟩ ?_
    obtain ⟨q1, hq2, h⟩ := am_bs h
    refine am_callV hc 75 X (k := 17) (i := 0) (o := 12) (As := [am_i x5]) (rest := []) rfl (ok_X6_shortenBy l x5 (σ) hq2) yv_X6_shortenBy ml_X6_45 (cl_17) rfl rfl rfl rfl rfl ?_
    refine am_blk hc X 76 2 (fr' := (133, [(0, am_r 12 17 0), (5, am_i (x5 + 1))], [], q1)) rfl ⟨trivial, trivial, trivial⟩ ?_
    exact hk133 (x5 + 1) _ h
def lp_X6_measure_8_133  : Nat → Int32 → am_S → Option (am_S)
  | 0 => fun _ _ => none
  | n + 1 => lb_X6_measure_8_133  (lp_X6_measure_8_133  n)
theorem ll_X6_measure_8_133 {p : Program} {l : Launch} {e : Env} {s : State} {m : MethodId} {args : Array Value} {below : List Frame} {meth : Method} {c : Code} {G : am_G} {q : am_S} (X : am_X p s m args c cX6_measure yX6_measure.cls 9 am_p6 G (am_fr G)) (hr : meth.sig.returnType = none ∧ meth.locks = false)    : ∀ (n : Nat) (x5 : Int32) (σ : am_S), lp_X6_measure_8_133  n x5 σ = some q → am_A p l e (am_ro 4) s m args below meth c 9 G (am_fr G) 0 0 (MQ below (am_Qc G none q) args s 0 0 (am_fr G)) (133, [(0, am_r 12 17 0), (5, am_i x5)], [], σ) := by
  intro n
  induction n with
  | zero =>
    intro x5 σ h
    have h : (none : Option (am_S)) = some q := h
    cases h
  | succ n ih =>
    intro x5 σ h
    exact lc_X6_measure_8_133 X hr  (lp_X6_measure_8_133  n) ih x5 σ h
def jn_X6_measure_8_118 (k3 : Nat → Nat → Nat → Int32 → Int32 → Int32 → am_S → Option (am_S)) (k36 : Nat → Nat → Nat → Int32 → Int32 → Int32 → Int32 → am_S → Option (am_S)) (ox1 : Nat) (ox2 : Nat) (ix2 : Nat) (x3 : Int32) (x4 : Int32) (x5 : Int32) (x6 : Int32) (σ : am_S) : Option (am_S) :=
  k36 ox1 ox2 ix2 x3 x4 x5 (x6 + 1) (σ)
set_option maxRecDepth 100000 in
theorem jl_X6_measure_8_118 {p : Program} {l : Launch} {e : Env} {s : State} {m : MethodId} {args : Array Value} {below : List Frame} {meth : Method} {c : Code} {G : am_G} {q : am_S} (X : am_X p s m args c cX6_measure yX6_measure.cls 9 am_p6 G (am_fr G)) (hr : meth.sig.returnType = none ∧ meth.locks = false)  (k3 : Nat → Nat → Nat → Int32 → Int32 → Int32 → am_S → Option (am_S)) (k36 : Nat → Nat → Nat → Int32 → Int32 → Int32 → Int32 → am_S → Option (am_S)) (hk3 : ∀ (ox1 : Nat) (ox2 : Nat) (ix2 : Nat) (x3 : Int32) (x4 : Int32) (x5 : Int32) (σ : am_S), k3 ox1 ox2 ix2 x3 x4 x5 σ = some q → am_A p l e (am_ro 4) s m args below meth c 9 G (am_fr G) 0 0 (MQ below (am_Qc G none q) args s 0 0 (am_fr G)) (3, [(0, am_r 12 17 0), (1, am_r ox1 2 0), (2, am_r ox2 8 ix2), (3, am_i x3), (4, am_i x4), (5, am_i x5)], [], σ)) (hk36 : ∀ (ox1 : Nat) (ox2 : Nat) (ix2 : Nat) (x3 : Int32) (x4 : Int32) (x5 : Int32) (x6 : Int32) (σ : am_S), k36 ox1 ox2 ix2 x3 x4 x5 x6 σ = some q → am_A p l e (am_ro 4) s m args below meth c 9 G (am_fr G) 0 0 (MQ below (am_Qc G none q) args s 0 0 (am_fr G)) (36, [(0, am_r 12 17 0), (1, am_r ox1 2 0), (2, am_r ox2 8 ix2), (3, am_i x3), (4, am_i x4), (5, am_i x5), (6, am_i x6)], [], σ)) (ox1 : Nat) (ox2 : Nat) (ix2 : Nat) (x3 : Int32) (x4 : Int32) (x5 : Int32) (x6 : Int32) (σ : am_S) (h : jn_X6_measure_8_118 k3 k36 ox1 ox2 ix2 x3 x4 x5 x6 σ = some q) : am_A p l e (am_ro 4) s m args below meth c 9 G (am_fr G) 0 0 (MQ below (am_Qc G none q) args s 0 0 (am_fr G)) (118, [(0, am_r 12 17 0), (1, am_r ox1 2 0), (2, am_r ox2 8 ix2), (3, am_i x3), (4, am_i x4), (5, am_i x5), (6, am_i x6)], [], σ) := by
  have hc := ct_X6_measure
  unfold jn_X6_measure_8_118 at h
  refine am_blk hc X 64 2 (fr' := (36, [(0, am_r 12 17 0), (1, am_r ox1 2 0), (2, am_r ox2 8 ix2), (3, am_i x3), (4, am_i x4), (5, am_i x5), (6, am_i (x6 + 1))], [], σ)) rfl ⟨trivial, trivial, trivial⟩ ?_
  exact hk36 ox1 ox2 ix2 x3 x4 x5 (x6 + 1) _ h
def jn_X6_measure_8_72 (k3 : Nat → Nat → Nat → Int32 → Int32 → Int32 → am_S → Option (am_S)) (k36 : Nat → Nat → Nat → Int32 → Int32 → Int32 → Int32 → am_S → Option (am_S)) (ox1 : Nat) (ox2 : Nat) (ix2 : Nat) (x3 : Int32) (x4 : Int32) (x5 : Int32) (x6 : Int32) (x7 : Int32) (y0 : Int32) (σ : am_S) : Option (am_S) :=
  (if x7 = (-1) then jn_X6_measure_8_118 k3 k36 ox1 ox2 ix2 x3 x4 x5 x6 (σ) else (if y0 = 0 then (bif am_in x5 7 then (bif am_in x5 7 then (bif am_in x7 7 then (fn_X6_weight_8 ox1 ox2 ix2 x5 x6 x3 (σ)).bind fun q14 => (bif am_in x7 7 then jn_X6_measure_8_118 k3 k36 ox1 ox2 ix2 x3 x4 x5 x6 (am_u q14.2 12 19 ((x5 : Int32).toNatClampNeg) ((x7 : Int32).toNatClampNeg) (if q14.1 < (σ.1 12 19 ((x5 : Int32).toNatClampNeg) ((x7 : Int32).toNatClampNeg)) then q14.1 else (σ.1 12 19 ((x5 : Int32).toNatClampNeg) ((x7 : Int32).toNatClampNeg)))) else none) else none) else none) else none) else jn_X6_measure_8_118 k3 k36 ox1 ox2 ix2 x3 x4 x5 x6 (σ)))
set_option maxRecDepth 100000 in
theorem jl_X6_measure_8_72 {p : Program} {l : Launch} {e : Env} {s : State} {m : MethodId} {args : Array Value} {below : List Frame} {meth : Method} {c : Code} {G : am_G} {q : am_S} (X : am_X p s m args c cX6_measure yX6_measure.cls 9 am_p6 G (am_fr G)) (hr : meth.sig.returnType = none ∧ meth.locks = false)  (k3 : Nat → Nat → Nat → Int32 → Int32 → Int32 → am_S → Option (am_S)) (k36 : Nat → Nat → Nat → Int32 → Int32 → Int32 → Int32 → am_S → Option (am_S)) (hk3 : ∀ (ox1 : Nat) (ox2 : Nat) (ix2 : Nat) (x3 : Int32) (x4 : Int32) (x5 : Int32) (σ : am_S), k3 ox1 ox2 ix2 x3 x4 x5 σ = some q → am_A p l e (am_ro 4) s m args below meth c 9 G (am_fr G) 0 0 (MQ below (am_Qc G none q) args s 0 0 (am_fr G)) (3, [(0, am_r 12 17 0), (1, am_r ox1 2 0), (2, am_r ox2 8 ix2), (3, am_i x3), (4, am_i x4), (5, am_i x5)], [], σ)) (hk36 : ∀ (ox1 : Nat) (ox2 : Nat) (ix2 : Nat) (x3 : Int32) (x4 : Int32) (x5 : Int32) (x6 : Int32) (σ : am_S), k36 ox1 ox2 ix2 x3 x4 x5 x6 σ = some q → am_A p l e (am_ro 4) s m args below meth c 9 G (am_fr G) 0 0 (MQ below (am_Qc G none q) args s 0 0 (am_fr G)) (36, [(0, am_r 12 17 0), (1, am_r ox1 2 0), (2, am_r ox2 8 ix2), (3, am_i x3), (4, am_i x4), (5, am_i x5), (6, am_i x6)], [], σ)) (ox1 : Nat) (ox2 : Nat) (ix2 : Nat) (x3 : Int32) (x4 : Int32) (x5 : Int32) (x6 : Int32) (x7 : Int32) (y0 : Int32) (σ : am_S) (h : jn_X6_measure_8_72 k3 k36 ox1 ox2 ix2 x3 x4 x5 x6 x7 y0 σ = some q) : am_A p l e (am_ro 4) s m args below meth c 9 G (am_fr G) 0 0 (MQ below (am_Qc G none q) args s 0 0 (am_fr G)) (72, [(0, am_r 12 17 0), (1, am_r ox1 2 0), (2, am_r ox2 8 ix2), (3, am_i x3), (4, am_i x4), (5, am_i x5), (6, am_i x6), (7, am_i x7)], [am_i y0], σ) := by
  have hc := ct_X6_measure
  unfold jn_X6_measure_8_72 at h
  refine am_blk hc X 39 3 (fr' := (77, [(0, am_r 12 17 0), (1, am_r ox1 2 0), (2, am_r ox2 8 ix2), (3, am_i x3), (4, am_i x4), (5, am_i x5), (6, am_i x6), (7, am_i x7), (8, am_i y0)], [am_i (-1), am_i x7], σ)) rfl ⟨trivial, trivial, trivial, trivial⟩ ?_
  refine am_icmp_eq hc X 42 (tgt := 118) rfl (by decide) (fun c18 => ?_) (fun c18 => ?_)
  · replace h := am_ip c18 h
    refine am_less [0, 1, 2, 3, 4, 5, 6] rfl ?_
    exact jl_X6_measure_8_118 X hr k3 k36 hk3 hk36 ox1 ox2 ix2 x3 x4 x5 x6 _ h
  · replace h := am_in2 c18 h
    refine am_blk hc X 43 1 (fr' := (82, [(0, am_r 12 17 0), (1, am_r ox1 2 0), (2, am_r ox2 8 ix2), (3, am_i x3), (4, am_i x4), (5, am_i x5), (6, am_i x6), (7, am_i x7), (8, am_i y0)], [am_i y0], σ)) rfl ⟨trivial, trivial⟩ ?_
    refine am_if_ne hc X 44 (tgt := 118) rfl (by decide) (fun c17 => ?_) (fun c17 => ?_)
    · replace h := am_in2 c17 h
      refine am_less [0, 1, 2, 3, 4, 5, 6] rfl ?_
      exact jl_X6_measure_8_118 X hr k3 k36 hk3 hk36 ox1 ox2 ix2 x3 x4 x5 x6 _ h
    · replace h := am_ip c17 h
      obtain ⟨ob11, h⟩ := am_ci h
      obtain ⟨ob12, h⟩ := am_ci h
      obtain ⟨ob13, h⟩ := am_ci h
      refine am_blk hc X 45 16 (fr' := (111, [(0, am_r 12 17 0), (1, am_r ox1 2 0), (2, am_r ox2 8 ix2), (3, am_i x3), (4, am_i x4), (5, am_i x5), (6, am_i x6), (7, am_i x7), (8, am_i y0)], [am_i x3, am_i x6, am_i x5, am_r ox2 8 ix2, am_r ox1 2 0, am_i (σ.1 12 19 ((x5 : Int32).toNatClampNeg) ((x7 : Int32).toNatClampNeg)), am_i x7, am_r 12 19 ((x5 : Int32).toNatClampNeg)], σ)) rfl ⟨trivial, trivial, trivial, (am_in_vp ob11), trivial, trivial, trivial, trivial, (am_in_vp ob12), trivial, (am_in_vp ob13), trivial, trivial, trivial, trivial, trivial, trivial⟩ ?_
      obtain ⟨q14, hq15, h⟩ := am_bs h
      refine am_callS hc 61 X (As := [am_r ox1 2 0, am_r ox2 8 ix2, am_i x5, am_i x6, am_i x3]) (rest := [am_i (σ.1 12 19 ((x5 : Int32).toNatClampNeg) ((x7 : Int32).toNatClampNeg)), am_i x7, am_r 12 19 ((x5 : Int32).toNatClampNeg)]) rfl (ok_X6_weight_8 l ox1 ox2 ix2 x5 x6 x3 (σ) hq15) yv_X6_weight ml_X6_36 rfl rfl rfl rfl rfl ?_
      refine am_mmin hc 62 X (rest := [am_i x7, am_r 12 19 ((x5 : Int32).toNatClampNeg)]) rfl ml_X6_40 am_wmin rfl rfl ?_
      obtain ⟨ob16, h⟩ := am_ci h
      refine am_blk hc X 63 1 (fr' := (118, [(0, am_r 12 17 0), (1, am_r ox1 2 0), (2, am_r ox2 8 ix2), (3, am_i x3), (4, am_i x4), (5, am_i x5), (6, am_i x6), (7, am_i x7), (8, am_i y0)], [], (am_u q14.2 12 19 ((x5 : Int32).toNatClampNeg) ((x7 : Int32).toNatClampNeg) (if q14.1 < (σ.1 12 19 ((x5 : Int32).toNatClampNeg) ((x7 : Int32).toNatClampNeg)) then q14.1 else (σ.1 12 19 ((x5 : Int32).toNatClampNeg) ((x7 : Int32).toNatClampNeg)))))) rfl ⟨(am_in_vp ob16), trivial⟩ ?_
      refine am_less [0, 1, 2, 3, 4, 5, 6] rfl ?_
      exact jl_X6_measure_8_118 X hr k3 k36 hk3 hk36 ox1 ox2 ix2 x3 x4 x5 x6 _ h
def jn_X6_measure_8_71 (k3 : Nat → Nat → Nat → Int32 → Int32 → Int32 → am_S → Option (am_S)) (k36 : Nat → Nat → Nat → Int32 → Int32 → Int32 → Int32 → am_S → Option (am_S)) (ox1 : Nat) (ox2 : Nat) (ix2 : Nat) (x3 : Int32) (x4 : Int32) (x5 : Int32) (x6 : Int32) (x7 : Int32) (σ : am_S) : Option (am_S) :=
  jn_X6_measure_8_72 k3 k36 ox1 ox2 ix2 x3 x4 x5 x6 x7 0 (σ)
set_option maxRecDepth 100000 in
theorem jl_X6_measure_8_71 {p : Program} {l : Launch} {e : Env} {s : State} {m : MethodId} {args : Array Value} {below : List Frame} {meth : Method} {c : Code} {G : am_G} {q : am_S} (X : am_X p s m args c cX6_measure yX6_measure.cls 9 am_p6 G (am_fr G)) (hr : meth.sig.returnType = none ∧ meth.locks = false)  (k3 : Nat → Nat → Nat → Int32 → Int32 → Int32 → am_S → Option (am_S)) (k36 : Nat → Nat → Nat → Int32 → Int32 → Int32 → Int32 → am_S → Option (am_S)) (hk3 : ∀ (ox1 : Nat) (ox2 : Nat) (ix2 : Nat) (x3 : Int32) (x4 : Int32) (x5 : Int32) (σ : am_S), k3 ox1 ox2 ix2 x3 x4 x5 σ = some q → am_A p l e (am_ro 4) s m args below meth c 9 G (am_fr G) 0 0 (MQ below (am_Qc G none q) args s 0 0 (am_fr G)) (3, [(0, am_r 12 17 0), (1, am_r ox1 2 0), (2, am_r ox2 8 ix2), (3, am_i x3), (4, am_i x4), (5, am_i x5)], [], σ)) (hk36 : ∀ (ox1 : Nat) (ox2 : Nat) (ix2 : Nat) (x3 : Int32) (x4 : Int32) (x5 : Int32) (x6 : Int32) (σ : am_S), k36 ox1 ox2 ix2 x3 x4 x5 x6 σ = some q → am_A p l e (am_ro 4) s m args below meth c 9 G (am_fr G) 0 0 (MQ below (am_Qc G none q) args s 0 0 (am_fr G)) (36, [(0, am_r 12 17 0), (1, am_r ox1 2 0), (2, am_r ox2 8 ix2), (3, am_i x3), (4, am_i x4), (5, am_i x5), (6, am_i x6)], [], σ)) (ox1 : Nat) (ox2 : Nat) (ix2 : Nat) (x3 : Int32) (x4 : Int32) (x5 : Int32) (x6 : Int32) (x7 : Int32) (σ : am_S) (h : jn_X6_measure_8_71 k3 k36 ox1 ox2 ix2 x3 x4 x5 x6 x7 σ = some q) : am_A p l e (am_ro 4) s m args below meth c 9 G (am_fr G) 0 0 (MQ below (am_Qc G none q) args s 0 0 (am_fr G)) (71, [(0, am_r 12 17 0), (1, am_r ox1 2 0), (2, am_r ox2 8 ix2), (3, am_i x3), (4, am_i x4), (5, am_i x5), (6, am_i x6), (7, am_i x7)], [], σ) := by
  have hc := ct_X6_measure
  unfold jn_X6_measure_8_71 at h
  refine am_blk hc X 38 1 (fr' := (72, [(0, am_r 12 17 0), (1, am_r ox1 2 0), (2, am_r ox2 8 ix2), (3, am_i x3), (4, am_i x4), (5, am_i x5), (6, am_i x6), (7, am_i x7)], [am_i 0], σ)) rfl ⟨trivial, trivial⟩ ?_
  exact jl_X6_measure_8_72 X hr k3 k36 hk3 hk36 ox1 ox2 ix2 x3 x4 x5 x6 x7 0 _ h
def lb_X6_measure_8_36 (k3 : Nat → Nat → Nat → Int32 → Int32 → Int32 → am_S → Option (am_S)) (k36 : Nat → Nat → Nat → Int32 → Int32 → Int32 → Int32 → am_S → Option (am_S)) (ox1 : Nat) (ox2 : Nat) (ix2 : Nat) (x3 : Int32) (x4 : Int32) (x5 : Int32) (x6 : Int32) (σ : am_S) : Option (am_S) :=
  (if 5 ≤ x6 then k3 ox1 ox2 ix2 x3 x4 (x5 + 1) (σ) else (fn_X0_endOf ox1 x5 x6 (σ)).bind fun q9 => (if x4 = (-1) then jn_X6_measure_8_71 k3 k36 ox1 ox2 ix2 x3 x4 x5 x6 q9.1 q9.2 else (if x6 = (x4 + (2 : Int32)) then jn_X6_measure_8_72 k3 k36 ox1 ox2 ix2 x3 x4 x5 x6 q9.1 1 q9.2 else jn_X6_measure_8_71 k3 k36 ox1 ox2 ix2 x3 x4 x5 x6 q9.1 q9.2)))
set_option maxRecDepth 100000 in
theorem lc_X6_measure_8_36 {p : Program} {l : Launch} {e : Env} {s : State} {m : MethodId} {args : Array Value} {below : List Frame} {meth : Method} {c : Code} {G : am_G} {q : am_S} (X : am_X p s m args c cX6_measure yX6_measure.cls 9 am_p6 G (am_fr G)) (hr : meth.sig.returnType = none ∧ meth.locks = false)  (k3 : Nat → Nat → Nat → Int32 → Int32 → Int32 → am_S → Option (am_S)) (k36 : Nat → Nat → Nat → Int32 → Int32 → Int32 → Int32 → am_S → Option (am_S)) (hk3 : ∀ (ox1 : Nat) (ox2 : Nat) (ix2 : Nat) (x3 : Int32) (x4 : Int32) (x5 : Int32) (σ : am_S), k3 ox1 ox2 ix2 x3 x4 x5 σ = some q → am_A p l e (am_ro 4) s m args below meth c 9 G (am_fr G) 0 0 (MQ below (am_Qc G none q) args s 0 0 (am_fr G)) (3, [(0, am_r 12 17 0), (1, am_r ox1 2 0), (2, am_r ox2 8 ix2), (3, am_i x3), (4, am_i x4), (5, am_i x5)], [], σ)) (hk36 : ∀ (ox1 : Nat) (ox2 : Nat) (ix2 : Nat) (x3 : Int32) (x4 : Int32) (x5 : Int32) (x6 : Int32) (σ : am_S), k36 ox1 ox2 ix2 x3 x4 x5 x6 σ = some q → am_A p l e (am_ro 4) s m args below meth c 9 G (am_fr G) 0 0 (MQ below (am_Qc G none q) args s 0 0 (am_fr G)) (36, [(0, am_r 12 17 0), (1, am_r ox1 2 0), (2, am_r ox2 8 ix2), (3, am_i x3), (4, am_i x4), (5, am_i x5), (6, am_i x6)], [], σ)) (ox1 : Nat) (ox2 : Nat) (ix2 : Nat) (x3 : Int32) (x4 : Int32) (x5 : Int32) (x6 : Int32) (σ : am_S) (h : lb_X6_measure_8_36 k3 k36 ox1 ox2 ix2 x3 x4 x5 x6 σ = some q) : am_A p l e (am_ro 4) s m args below meth c 9 G (am_fr G) 0 0 (MQ below (am_Qc G none q) args s 0 0 (am_fr G)) (36, [(0, am_r 12 17 0), (1, am_r ox1 2 0), (2, am_r ox2 8 ix2), (3, am_i x3), (4, am_i x4), (5, am_i x5), (6, am_i x6)], [], σ) := by
  have hc := ct_X6_measure
  unfold lb_X6_measure_8_36 at h
  refine am_blk hc X 20 2 (fr' := (39, [(0, am_r 12 17 0), (1, am_r ox1 2 0), (2, am_r ox2 8 ix2), (3, am_i x3), (4, am_i x4), (5, am_i x5), (6, am_i x6)], [am_i 5, am_i x6], σ)) rfl ⟨trivial, trivial, trivial⟩ ?_
  refine am_icmp_ge hc X 22 (tgt := 124) rfl (by decide) (fun c21 => ?_) (fun c21 => ?_)
  · replace h := am_ip c21 h
    refine am_blk hc X 66 2 (fr' := (3, [(0, am_r 12 17 0), (1, am_r ox1 2 0), (2, am_r ox2 8 ix2), (3, am_i x3), (4, am_i x4), (5, am_i (x5 + 1)), (6, am_i x6)], [], σ)) rfl ⟨trivial, trivial, trivial⟩ ?_
    refine am_less [0, 1, 2, 3, 4, 5] rfl ?_
    exact hk3 ox1 ox2 ix2 x3 x4 (x5 + 1) _ h
  · replace h := am_in2 c21 h
    refine am_blk hc X 23 3 (fr' := (47, [(0, am_r 12 17 0), (1, am_r ox1 2 0), (2, am_r ox2 8 ix2), (3, am_i x3), (4, am_i x4), (5, am_i x5), (6, am_i x6)], [am_i x6, am_i x5, am_r ox1 2 0], σ)) rfl ⟨trivial, trivial, trivial, trivial⟩ ?_
    obtain ⟨q9, hq10, h⟩ := am_bs h
    refine am_callV hc 26 X (k := 2) (i := 0) (o := ox1) (As := [am_i x5, am_i x6]) (rest := []) rfl (ok_X0_endOf l ox1 x5 x6 (σ) hq10) yv_X0_endOf ml_X6_30 (cl_2) rfl rfl rfl rfl rfl ?_
    refine am_blk hc X 27 3 (fr' := (55, [(0, am_r 12 17 0), (1, am_r ox1 2 0), (2, am_r ox2 8 ix2), (3, am_i x3), (4, am_i x4), (5, am_i x5), (6, am_i x6), (7, am_i q9.1)], [am_i (-1), am_i x4], q9.2)) rfl ⟨trivial, trivial, trivial, trivial⟩ ?_
    refine am_icmp_eq hc X 30 (tgt := 71) rfl (by decide) (fun c20 => ?_) (fun c20 => ?_)
    · replace h := am_ip c20 h
      exact jl_X6_measure_8_71 X hr k3 k36 hk3 hk36 ox1 ox2 ix2 x3 x4 x5 x6 q9.1 _ h
    · replace h := am_in2 c20 h
      refine am_blk hc X 31 4 (fr' := (64, [(0, am_r 12 17 0), (1, am_r ox1 2 0), (2, am_r ox2 8 ix2), (3, am_i x3), (4, am_i x4), (5, am_i x5), (6, am_i x6), (7, am_i q9.1)], [am_i (x4 + (2 : Int32)), am_i x6], q9.2)) rfl ⟨trivial, trivial, trivial, trivial, trivial⟩ ?_
      refine am_icmp_ne hc X 35 (tgt := 71) rfl (by decide) (fun c19 => ?_) (fun c19 => ?_)
      · replace h := am_in2 c19 h
        exact jl_X6_measure_8_71 X hr k3 k36 hk3 hk36 ox1 ox2 ix2 x3 x4 x5 x6 q9.1 _ h
      · replace h := am_ip c19 h
        refine am_blk hc X 36 2 (fr' := (72, [(0, am_r 12 17 0), (1, am_r ox1 2 0), (2, am_r ox2 8 ix2), (3, am_i x3), (4, am_i x4), (5, am_i x5), (6, am_i x6), (7, am_i q9.1)], [am_i 1], q9.2)) rfl ⟨trivial, trivial, trivial⟩ ?_
        exact jl_X6_measure_8_72 X hr k3 k36 hk3 hk36 ox1 ox2 ix2 x3 x4 x5 x6 q9.1 1 _ h
def lp_X6_measure_8_36 (k3 : Nat → Nat → Nat → Int32 → Int32 → Int32 → am_S → Option (am_S)) : Nat → Nat → Nat → Nat → Int32 → Int32 → Int32 → Int32 → am_S → Option (am_S)
  | 0 => fun _ _ _ _ _ _ _ _ => none
  | n + 1 => lb_X6_measure_8_36 k3 (lp_X6_measure_8_36 k3 n)
theorem ll_X6_measure_8_36 {p : Program} {l : Launch} {e : Env} {s : State} {m : MethodId} {args : Array Value} {below : List Frame} {meth : Method} {c : Code} {G : am_G} {q : am_S} (X : am_X p s m args c cX6_measure yX6_measure.cls 9 am_p6 G (am_fr G)) (hr : meth.sig.returnType = none ∧ meth.locks = false)  (k3 : Nat → Nat → Nat → Int32 → Int32 → Int32 → am_S → Option (am_S)) (hk3 : ∀ (ox1 : Nat) (ox2 : Nat) (ix2 : Nat) (x3 : Int32) (x4 : Int32) (x5 : Int32) (σ : am_S), k3 ox1 ox2 ix2 x3 x4 x5 σ = some q → am_A p l e (am_ro 4) s m args below meth c 9 G (am_fr G) 0 0 (MQ below (am_Qc G none q) args s 0 0 (am_fr G)) (3, [(0, am_r 12 17 0), (1, am_r ox1 2 0), (2, am_r ox2 8 ix2), (3, am_i x3), (4, am_i x4), (5, am_i x5)], [], σ)) : ∀ (n : Nat) (ox1 : Nat) (ox2 : Nat) (ix2 : Nat) (x3 : Int32) (x4 : Int32) (x5 : Int32) (x6 : Int32) (σ : am_S), lp_X6_measure_8_36 k3 n ox1 ox2 ix2 x3 x4 x5 x6 σ = some q → am_A p l e (am_ro 4) s m args below meth c 9 G (am_fr G) 0 0 (MQ below (am_Qc G none q) args s 0 0 (am_fr G)) (36, [(0, am_r 12 17 0), (1, am_r ox1 2 0), (2, am_r ox2 8 ix2), (3, am_i x3), (4, am_i x4), (5, am_i x5), (6, am_i x6)], [], σ) := by
  intro n
  induction n with
  | zero =>
    intro ox1 ox2 ix2 x3 x4 x5 x6 σ h
    have h : (none : Option (am_S)) = some q := h
    cases h
  | succ n ih =>
    intro ox1 ox2 ix2 x3 x4 x5 x6 σ h
    exact lc_X6_measure_8_36 X hr k3 (lp_X6_measure_8_36 k3 n) hk3 ih ox1 ox2 ix2 x3 x4 x5 x6 σ h
def lb_X6_measure_8_3 (k3 : Nat → Nat → Nat → Int32 → Int32 → Int32 → am_S → Option (am_S)) (ox1 : Nat) (ox2 : Nat) (ix2 : Nat) (x3 : Int32) (x4 : Int32) (x5 : Int32) (σ : am_S) : Option (am_S) :=
  (if 7 ≤ x5 then lp_X6_measure_8_133  1000 0 (σ) else (bif am_in x5 7 then (fn_J7_fill_53178_19 ((x5 : Int32).toNatClampNeg) 1000000 (σ)).bind fun q5 => (bif am_in x5 7 then (bif am_in x5 7 then lp_X6_measure_8_36 k3 1000 ox1 ox2 ix2 x3 x4 x5 0 (am_u q5 12 19 ((x5 : Int32).toNatClampNeg) ((x5 : Int32).toNatClampNeg) 0) else none) else none) else none))
set_option maxRecDepth 100000 in
theorem lc_X6_measure_8_3 {p : Program} {l : Launch} {e : Env} {s : State} {m : MethodId} {args : Array Value} {below : List Frame} {meth : Method} {c : Code} {G : am_G} {q : am_S} (X : am_X p s m args c cX6_measure yX6_measure.cls 9 am_p6 G (am_fr G)) (hr : meth.sig.returnType = none ∧ meth.locks = false)  (k3 : Nat → Nat → Nat → Int32 → Int32 → Int32 → am_S → Option (am_S)) (hk3 : ∀ (ox1 : Nat) (ox2 : Nat) (ix2 : Nat) (x3 : Int32) (x4 : Int32) (x5 : Int32) (σ : am_S), k3 ox1 ox2 ix2 x3 x4 x5 σ = some q → am_A p l e (am_ro 4) s m args below meth c 9 G (am_fr G) 0 0 (MQ below (am_Qc G none q) args s 0 0 (am_fr G)) (3, [(0, am_r 12 17 0), (1, am_r ox1 2 0), (2, am_r ox2 8 ix2), (3, am_i x3), (4, am_i x4), (5, am_i x5)], [], σ)) (ox1 : Nat) (ox2 : Nat) (ix2 : Nat) (x3 : Int32) (x4 : Int32) (x5 : Int32) (σ : am_S) (h : lb_X6_measure_8_3 k3 ox1 ox2 ix2 x3 x4 x5 σ = some q) : am_A p l e (am_ro 4) s m args below meth c 9 G (am_fr G) 0 0 (MQ below (am_Qc G none q) args s 0 0 (am_fr G)) (3, [(0, am_r 12 17 0), (1, am_r ox1 2 0), (2, am_r ox2 8 ix2), (3, am_i x3), (4, am_i x4), (5, am_i x5)], [], σ) := by
  have hc := ct_X6_measure
  unfold lb_X6_measure_8_3 at h
  refine am_blk hc X 2 2 (fr' := (7, [(0, am_r 12 17 0), (1, am_r ox1 2 0), (2, am_r ox2 8 ix2), (3, am_i x3), (4, am_i x4), (5, am_i x5)], [am_i 7, am_i x5], σ)) rfl ⟨trivial, trivial, trivial⟩ ?_
  refine am_icmp_ge hc X 4 (tgt := 130) rfl (by decide) (fun c22 => ?_) (fun c22 => ?_)
  · replace h := am_ip c22 h
    refine am_blk hc X 68 2 (fr' := (133, [(0, am_r 12 17 0), (1, am_r ox1 2 0), (2, am_r ox2 8 ix2), (3, am_i x3), (4, am_i x4), (5, am_i 0)], [], σ)) rfl ⟨trivial, trivial, trivial⟩ ?_
    refine am_less [0, 5] rfl ?_
    exact ll_X6_measure_8_133 X hr   1000 0 _ h
  · replace h := am_in2 c22 h
    obtain ⟨ob4, h⟩ := am_ci h
    refine am_blk hc X 5 5 (fr' := (19, [(0, am_r 12 17 0), (1, am_r ox1 2 0), (2, am_r ox2 8 ix2), (3, am_i x3), (4, am_i x4), (5, am_i x5)], [am_i 1000000, am_r 12 19 ((x5 : Int32).toNatClampNeg)], σ)) rfl ⟨trivial, trivial, trivial, (am_in_vp ob4), trivial, trivial⟩ ?_
    obtain ⟨q5, hq6, h⟩ := am_bs h
    refine am_callS hc 10 X (As := [am_r 12 19 ((x5 : Int32).toNatClampNeg), am_i 1000000]) (rest := []) rfl (ok_J7_fill_53178_19 l ((x5 : Int32).toNatClampNeg) 1000000 (σ) hq6) yv_J7_fill_53178 ml_X6_24 rfl rfl rfl rfl rfl ?_
    obtain ⟨ob7, h⟩ := am_ci h
    obtain ⟨ob8, h⟩ := am_ci h
    refine am_blk hc X 11 9 (fr' := (36, [(0, am_r 12 17 0), (1, am_r ox1 2 0), (2, am_r ox2 8 ix2), (3, am_i x3), (4, am_i x4), (5, am_i x5), (6, am_i 0)], [], (am_u q5 12 19 ((x5 : Int32).toNatClampNeg) ((x5 : Int32).toNatClampNeg) 0))) rfl ⟨trivial, trivial, trivial, (am_in_vp ob7), trivial, trivial, (am_in_vp ob8), trivial, trivial, trivial⟩ ?_
    exact ll_X6_measure_8_36 X hr k3 hk3 1000 ox1 ox2 ix2 x3 x4 x5 0 _ h
def lp_X6_measure_8_3  : Nat → Nat → Nat → Nat → Int32 → Int32 → Int32 → am_S → Option (am_S)
  | 0 => fun _ _ _ _ _ _ _ => none
  | n + 1 => lb_X6_measure_8_3  (lp_X6_measure_8_3  n)
theorem ll_X6_measure_8_3 {p : Program} {l : Launch} {e : Env} {s : State} {m : MethodId} {args : Array Value} {below : List Frame} {meth : Method} {c : Code} {G : am_G} {q : am_S} (X : am_X p s m args c cX6_measure yX6_measure.cls 9 am_p6 G (am_fr G)) (hr : meth.sig.returnType = none ∧ meth.locks = false)    : ∀ (n : Nat) (ox1 : Nat) (ox2 : Nat) (ix2 : Nat) (x3 : Int32) (x4 : Int32) (x5 : Int32) (σ : am_S), lp_X6_measure_8_3  n ox1 ox2 ix2 x3 x4 x5 σ = some q → am_A p l e (am_ro 4) s m args below meth c 9 G (am_fr G) 0 0 (MQ below (am_Qc G none q) args s 0 0 (am_fr G)) (3, [(0, am_r 12 17 0), (1, am_r ox1 2 0), (2, am_r ox2 8 ix2), (3, am_i x3), (4, am_i x4), (5, am_i x5)], [], σ) := by
  intro n
  induction n with
  | zero =>
    intro ox1 ox2 ix2 x3 x4 x5 σ h
    have h : (none : Option (am_S)) = some q := h
    cases h
  | succ n ih =>
    intro ox1 ox2 ix2 x3 x4 x5 σ h
    exact lc_X6_measure_8_3 X hr  (lp_X6_measure_8_3  n) ih ox1 ox2 ix2 x3 x4 x5 σ h
def fn_X6_measure_8 (oa1 : Nat) (oa2 : Nat) (ia2 : Nat) (a3 : Int32) (a4 : Int32) (σ : am_S) : Option (am_S) :=
  lp_X6_measure_8_3  1000 oa1 oa2 ia2 a3 a4 0 (σ)
set_option maxRecDepth 100000 in
theorem ok_X6_measure_8 (l : Launch) (oa1 : Nat) (oa2 : Nat) (ia2 : Nat) (a3 : Int32) (a4 : Int32) (σ : am_S) {q : am_S} (h : fn_X6_measure_8 oa1 oa2 ia2 a3 a4 σ = some q) : am_M l yX6_measure cX6_measure 9 none 4 [am_r 12 17 0, am_r oa1 2 0, am_r oa2 8 ia2, am_i a3, am_i a4] σ none q := by
  refine am_M_of (P := am_p6) (by decide +kernel) am_p6_ok rfl ?_
  intro G p e s m args below meth c X hr
  have hc := ct_X6_measure
  unfold fn_X6_measure_8 at h
  refine am_blk hc X 0 2 (fr' := (3, [(0, am_r 12 17 0), (1, am_r oa1 2 0), (2, am_r oa2 8 ia2), (3, am_i a3), (4, am_i a4), (5, am_i 0)], [], σ)) rfl ⟨trivial, trivial, trivial⟩ ?_
  exact ll_X6_measure_8_3 X hr   1000 oa1 oa2 ia2 a3 a4 0 _ h
def jn_X5_leastFrom_49 (k12 : Int32 → Int32 → Int32 → Int32 → am_S → Option (Int32 × am_S)) (x2 : Int32) (x4 : Int32) (x5 : Int32) (x6 : Int32) (σ : am_S) : Option (Int32 × am_S) :=
  k12 x2 x4 x5 (x6 + 1) (σ)
set_option maxRecDepth 100000 in
theorem jl_X5_leastFrom_49 {p : Program} {l : Launch} {e : Env} {s : State} {m : MethodId} {args : Array Value} {below : List Frame} {meth : Method} {c : Code} {G : am_G} {q : Int32 × am_S} (X : am_X p s m args c cX5_leastFrom yX5_leastFrom.cls 7 am_p5 G (am_fr G)) (hr : meth.sig.returnType = (some .int) ∧ meth.locks = false)  (k12 : Int32 → Int32 → Int32 → Int32 → am_S → Option (Int32 × am_S)) (hk12 : ∀ (x2 : Int32) (x4 : Int32) (x5 : Int32) (x6 : Int32) (σ : am_S), k12 x2 x4 x5 x6 σ = some q → am_A p l e (am_ro 3) s m args below meth c 7 G (am_fr G) 0 0 (MQ below (am_Qc G (some (am_i q.1)) q.2) args s 0 0 (am_fr G)) (12, [(0, am_r 13 22 0), (1, am_r 12 17 0), (2, am_i x2), (4, am_i x4), (5, am_i x5), (6, am_i x6)], [], σ)) (x2 : Int32) (x4 : Int32) (x5 : Int32) (x6 : Int32) (σ : am_S) (h : jn_X5_leastFrom_49 k12 x2 x4 x5 x6 σ = some q) : am_A p l e (am_ro 3) s m args below meth c 7 G (am_fr G) 0 0 (MQ below (am_Qc G (some (am_i q.1)) q.2) args s 0 0 (am_fr G)) (49, [(0, am_r 13 22 0), (1, am_r 12 17 0), (2, am_i x2), (4, am_i x4), (5, am_i x5), (6, am_i x6)], [], σ) := by
  have hc := ct_X5_leastFrom
  unfold jn_X5_leastFrom_49 at h
  refine am_blk hc X 33 2 (fr' := (12, [(0, am_r 13 22 0), (1, am_r 12 17 0), (2, am_i x2), (4, am_i x4), (5, am_i x5), (6, am_i (x6 + 1))], [], σ)) rfl ⟨trivial, trivial, trivial⟩ ?_
  exact hk12 x2 x4 x5 (x6 + 1) _ h
def lb_X5_leastFrom_12 (k12 : Int32 → Int32 → Int32 → Int32 → am_S → Option (Int32 × am_S)) (x2 : Int32) (x4 : Int32) (x5 : Int32) (x6 : Int32) (σ : am_S) : Option (Int32 × am_S) :=
  (if x5 < x6 then (bif am_in ((x5 * (7 : Int32)) + x2) 896 then some ((σ.1 13 23 0 ((((x5 * (7 : Int32)) + x2) : Int32).toNatClampNeg)), σ) else none) else (if (x6 &&& (x5 ^^^ (-1 : Int32))) = 0 then (fn_X5_fillSet x6 ((x5 &&& (x6 ^^^ (-1 : Int32))) ||| ((1 : Int32) <<< (x2 &&& 31))) x4 (σ)).bind fun q2 => jn_X5_leastFrom_49 k12 x2 x4 x5 x6 q2 else jn_X5_leastFrom_49 k12 x2 x4 x5 x6 (σ)))
set_option maxRecDepth 100000 in
theorem lc_X5_leastFrom_12 {p : Program} {l : Launch} {e : Env} {s : State} {m : MethodId} {args : Array Value} {below : List Frame} {meth : Method} {c : Code} {G : am_G} {q : Int32 × am_S} (X : am_X p s m args c cX5_leastFrom yX5_leastFrom.cls 7 am_p5 G (am_fr G)) (hr : meth.sig.returnType = (some .int) ∧ meth.locks = false)  (k12 : Int32 → Int32 → Int32 → Int32 → am_S → Option (Int32 × am_S)) (hk12 : ∀ (x2 : Int32) (x4 : Int32) (x5 : Int32) (x6 : Int32) (σ : am_S), k12 x2 x4 x5 x6 σ = some q → am_A p l e (am_ro 3) s m args below meth c 7 G (am_fr G) 0 0 (MQ below (am_Qc G (some (am_i q.1)) q.2) args s 0 0 (am_fr G)) (12, [(0, am_r 13 22 0), (1, am_r 12 17 0), (2, am_i x2), (4, am_i x4), (5, am_i x5), (6, am_i x6)], [], σ)) (x2 : Int32) (x4 : Int32) (x5 : Int32) (x6 : Int32) (σ : am_S) (h : lb_X5_leastFrom_12 k12 x2 x4 x5 x6 σ = some q) : am_A p l e (am_ro 3) s m args below meth c 7 G (am_fr G) 0 0 (MQ below (am_Qc G (some (am_i q.1)) q.2) args s 0 0 (am_fr G)) (12, [(0, am_r 13 22 0), (1, am_r 12 17 0), (2, am_i x2), (4, am_i x4), (5, am_i x5), (6, am_i x6)], [], σ) := by
  have hc := ct_X5_leastFrom
  unfold lb_X5_leastFrom_12 at h
  refine am_blk hc X 10 2 (fr' := (16, [(0, am_r 13 22 0), (1, am_r 12 17 0), (2, am_i x2), (4, am_i x4), (5, am_i x5), (6, am_i x6)], [am_i x5, am_i x6], σ)) rfl ⟨trivial, trivial, trivial⟩ ?_
  refine am_icmp_gt hc X 12 (tgt := 55) rfl (by decide) (fun c5 => ?_) (fun c5 => ?_)
  · replace h := am_ip c5 h
    obtain ⟨ob1, h⟩ := am_ci h
    refine am_blk hc X 35 8 (fr' := (67, [(0, am_r 13 22 0), (1, am_r 12 17 0), (2, am_i x2), (4, am_i x4), (5, am_i x5), (6, am_i x6)], [am_i (σ.1 13 23 0 ((((x5 * (7 : Int32)) + x2) : Int32).toNatClampNeg))], σ)) rfl ⟨trivial, trivial, trivial, trivial, trivial, trivial, trivial, (am_in_vp ob1), trivial⟩ ?_
    obtain rfl := Option.some.inj h
    exact am_iret hc X hr 43 rfl rfl rfl
  · replace h := am_in2 c5 h
    refine am_blk hc X 13 5 (fr' := (26, [(0, am_r 13 22 0), (1, am_r 12 17 0), (2, am_i x2), (4, am_i x4), (5, am_i x5), (6, am_i x6)], [am_i (x6 &&& (x5 ^^^ (-1 : Int32)))], σ)) rfl ⟨trivial, trivial, trivial, trivial, trivial, trivial⟩ ?_
    refine am_if_ne hc X 18 (tgt := 49) rfl (by decide) (fun c4 => ?_) (fun c4 => ?_)
    · replace h := am_in2 c4 h
      exact jl_X5_leastFrom_49 X hr k12 hk12 x2 x4 x5 x6 _ h
    · replace h := am_ip c4 h
      refine am_blk hc X 19 13 (fr' := (46, [(0, am_r 13 22 0), (1, am_r 12 17 0), (2, am_i x2), (4, am_i x4), (5, am_i x5), (6, am_i x6)], [am_i x4, am_i ((x5 &&& (x6 ^^^ (-1 : Int32))) ||| ((1 : Int32) <<< (x2 &&& 31))), am_i x6, am_r 12 17 0, am_r 13 22 0], σ)) rfl ⟨trivial, trivial, trivial, trivial, trivial, trivial, trivial, trivial, trivial, trivial, trivial, trivial, trivial, trivial⟩ ?_
      obtain ⟨q2, hq3, h⟩ := am_bs h
      refine am_callV hc 32 X (k := 22) (i := 0) (o := 13) (As := [am_r 12 17 0, am_i x6, am_i ((x5 &&& (x6 ^^^ (-1 : Int32))) ||| ((1 : Int32) <<< (x2 &&& 31))), am_i x4]) (rest := []) rfl (ok_X5_fillSet l x6 ((x5 &&& (x6 ^^^ (-1 : Int32))) ||| ((1 : Int32) <<< (x2 &&& 31))) x4 (σ) hq3) yv_X5_fillSet ml_X5_44 (cl_22) rfl rfl rfl rfl rfl ?_
      exact jl_X5_leastFrom_49 X hr k12 hk12 x2 x4 x5 x6 _ h
def lp_X5_leastFrom_12  : Nat → Int32 → Int32 → Int32 → Int32 → am_S → Option (Int32 × am_S)
  | 0 => fun _ _ _ _ _ => none
  | n + 1 => lb_X5_leastFrom_12  (lp_X5_leastFrom_12  n)
theorem ll_X5_leastFrom_12 {p : Program} {l : Launch} {e : Env} {s : State} {m : MethodId} {args : Array Value} {below : List Frame} {meth : Method} {c : Code} {G : am_G} {q : Int32 × am_S} (X : am_X p s m args c cX5_leastFrom yX5_leastFrom.cls 7 am_p5 G (am_fr G)) (hr : meth.sig.returnType = (some .int) ∧ meth.locks = false)    : ∀ (n : Nat) (x2 : Int32) (x4 : Int32) (x5 : Int32) (x6 : Int32) (σ : am_S), lp_X5_leastFrom_12  n x2 x4 x5 x6 σ = some q → am_A p l e (am_ro 3) s m args below meth c 7 G (am_fr G) 0 0 (MQ below (am_Qc G (some (am_i q.1)) q.2) args s 0 0 (am_fr G)) (12, [(0, am_r 13 22 0), (1, am_r 12 17 0), (2, am_i x2), (4, am_i x4), (5, am_i x5), (6, am_i x6)], [], σ) := by
  intro n
  induction n with
  | zero =>
    intro x2 x4 x5 x6 σ h
    have h : (none : Option (Int32 × am_S)) = some q := h
    cases h
  | succ n ih =>
    intro x2 x4 x5 x6 σ h
    exact lc_X5_leastFrom_12 X hr  (lp_X5_leastFrom_12  n) ih x2 x4 x5 x6 σ h
def fn_X5_leastFrom (a2 : Int32) (a3 : Int32) (a4 : Int32) (σ : am_S) : Option (Int32 × am_S) :=
  lp_X5_leastFrom_12  1000 a2 a4 (a3 &&& (((1 : Int32) <<< (a2 &&& 31)) ^^^ (-1 : Int32))) 0 (σ)
set_option maxRecDepth 100000 in
theorem ok_X5_leastFrom (l : Launch) (a2 : Int32) (a3 : Int32) (a4 : Int32) (σ : am_S) {q : Int32 × am_S} (h : fn_X5_leastFrom a2 a3 a4 σ = some q) : am_M l yX5_leastFrom cX5_leastFrom 7 (some .int) 3 [am_r 13 22 0, am_r 12 17 0, am_i a2, am_i a3, am_i a4] σ (some (am_i q.1)) q.2 := by
  refine am_M_of (P := am_p5) (by decide +kernel) am_p5_ok rfl ?_
  intro G p e s m args below meth c X hr
  have hc := ct_X5_leastFrom
  unfold fn_X5_leastFrom at h
  refine am_blk hc X 0 10 (fr' := (12, [(0, am_r 13 22 0), (1, am_r 12 17 0), (2, am_i a2), (3, am_i a3), (4, am_i a4), (5, am_i (a3 &&& (((1 : Int32) <<< (a2 &&& 31)) ^^^ (-1 : Int32)))), (6, am_i 0)], [], σ)) rfl ⟨trivial, trivial, trivial, trivial, trivial, trivial, trivial, trivial, trivial, trivial, trivial⟩ ?_
  refine am_less [0, 1, 2, 4, 5, 6] rfl ?_
  exact ll_X5_leastFrom_12 X hr   1000 a2 a4 (a3 &&& (((1 : Int32) <<< (a2 &&& 31)) ^^^ (-1 : Int32))) 0 _ h
def fn_X5_leastTour (oa1 : Nat) (a3 : Int32) (a4 : Int32) (σ : am_S) : Option (Int32 × am_S) :=
  (bif am_in a3 6 then (fn_X6_measure_8 oa1 oa1 ((a3 : Int32).toNatClampNeg) 0 a4 (σ)).bind fun q2 => (fn_X5_leastFrom (q2.1 oa1 8 ((a3 : Int32).toNatClampNeg) 3) (q2.1 oa1 8 ((a3 : Int32).toNatClampNeg) 4) (q2.1 oa1 8 ((a3 : Int32).toNatClampNeg) 2) q2).bind fun q4 => some (q4.1, q4.2) else none)
set_option maxRecDepth 100000 in
theorem ok_X5_leastTour (l : Launch) (oa1 : Nat) (a3 : Int32) (a4 : Int32) (σ : am_S) {q : Int32 × am_S} (h : fn_X5_leastTour oa1 a3 a4 σ = some q) : am_M l yX5_leastTour cX5_leastTour 6 (some .int) 5 [am_r 13 22 0, am_r oa1 2 0, am_r 12 17 0, am_i a3, am_i a4] σ (some (am_i q.1)) q.2 := by
  refine am_M_of (P := am_p5) (by decide +kernel) am_p5_ok rfl ?_
  intro G p e s m args below meth c X hr
  have hc := ct_X5_leastTour
  unfold fn_X5_leastTour at h
  obtain ⟨ob1, h⟩ := am_ci h
  refine am_blk hc X 0 10 (fr' := (15, [(0, am_r 13 22 0), (1, am_r oa1 2 0), (2, am_r 12 17 0), (3, am_i a3), (4, am_i a4), (5, am_r oa1 8 ((a3 : Int32).toNatClampNeg))], [am_i a4, am_i 0, am_r oa1 8 ((a3 : Int32).toNatClampNeg), am_r oa1 2 0, am_r 12 17 0], σ)) rfl ⟨trivial, trivial, trivial, (am_in_vp ob1), trivial, trivial, trivial, trivial, trivial, trivial, trivial⟩ ?_
  obtain ⟨q2, hq3, h⟩ := am_bs h
  refine am_callV hc 10 X (k := 17) (i := 0) (o := 12) (As := [am_r oa1 2 0, am_r oa1 8 ((a3 : Int32).toNatClampNeg), am_i 0, am_i a4]) (rest := []) rfl (ok_X6_measure_8 l oa1 oa1 ((a3 : Int32).toNatClampNeg) 0 a4 (σ) hq3) yv_X6_measure ml_X5_34 (cl_17) rfl rfl rfl rfl rfl ?_
  refine am_blk hc X 11 11 (fr' := (32, [(0, am_r 13 22 0), (1, am_r oa1 2 0), (2, am_r 12 17 0), (3, am_i a3), (4, am_i a4), (5, am_r oa1 8 ((a3 : Int32).toNatClampNeg))], [am_i (q2.1 oa1 8 ((a3 : Int32).toNatClampNeg) 2), am_i (q2.1 oa1 8 ((a3 : Int32).toNatClampNeg) 4), am_i (q2.1 oa1 8 ((a3 : Int32).toNatClampNeg) 3), am_r 12 17 0, am_r 13 22 0], q2)) rfl ⟨trivial, trivial, trivial, trivial, (am_in_vp (by decide)), trivial, trivial, (am_in_vp (by decide)), trivial, trivial, (am_in_vp (by decide)), trivial⟩ ?_
  obtain ⟨q4, hq5, h⟩ := am_bs h
  refine am_callV hc 22 X (k := 22) (i := 0) (o := 13) (As := [am_r 12 17 0, am_i (q2.1 oa1 8 ((a3 : Int32).toNatClampNeg) 3), am_i (q2.1 oa1 8 ((a3 : Int32).toNatClampNeg) 4), am_i (q2.1 oa1 8 ((a3 : Int32).toNatClampNeg) 2)]) (rest := []) rfl (ok_X5_leastFrom l (q2.1 oa1 8 ((a3 : Int32).toNatClampNeg) 3) (q2.1 oa1 8 ((a3 : Int32).toNatClampNeg) 4) (q2.1 oa1 8 ((a3 : Int32).toNatClampNeg) 2) q2 hq5) yv_X5_leastFrom ml_X5_40 (cl_22) rfl rfl rfl rfl rfl ?_
  obtain rfl := Option.some.inj h
  exact am_iret hc X hr 23 rfl rfl rfl
def jn_X5_firstNext_48 (k7 : Int32 → Int32 → Int32 → Int32 → am_S → Option (Int32 × am_S)) (x2 : Int32) (x3 : Int32) (x4 : Int32) (x5 : Int32) (σ : am_S) : Option (Int32 × am_S) :=
  k7 x2 x3 x4 (x5 + (-1)) (σ)
set_option maxRecDepth 100000 in
theorem jl_X5_firstNext_48 {p : Program} {l : Launch} {e : Env} {s : State} {m : MethodId} {args : Array Value} {below : List Frame} {meth : Method} {c : Code} {G : am_G} {q : Int32 × am_S} (X : am_X p s m args c cX5_firstNext yX5_firstNext.cls 6 am_p5 G (am_fr G)) (hr : meth.sig.returnType = (some .int) ∧ meth.locks = false)  (k7 : Int32 → Int32 → Int32 → Int32 → am_S → Option (Int32 × am_S)) (hk7 : ∀ (x2 : Int32) (x3 : Int32) (x4 : Int32) (x5 : Int32) (σ : am_S), k7 x2 x3 x4 x5 σ = some q → am_A p l e (am_ro 1) s m args below meth c 6 G (am_fr G) 0 0 (MQ below (am_Qc G (some (am_i q.1)) q.2) args s 0 0 (am_fr G)) (7, [(0, am_r 13 22 0), (1, am_r 12 17 0), (2, am_i x2), (3, am_i x3), (4, am_i x4), (5, am_i x5)], [], σ)) (x2 : Int32) (x3 : Int32) (x4 : Int32) (x5 : Int32) (σ : am_S) (h : jn_X5_firstNext_48 k7 x2 x3 x4 x5 σ = some q) : am_A p l e (am_ro 1) s m args below meth c 6 G (am_fr G) 0 0 (MQ below (am_Qc G (some (am_i q.1)) q.2) args s 0 0 (am_fr G)) (48, [(0, am_r 13 22 0), (1, am_r 12 17 0), (2, am_i x2), (3, am_i x3), (4, am_i x4), (5, am_i x5)], [], σ) := by
  have hc := ct_X5_firstNext
  unfold jn_X5_firstNext_48 at h
  refine am_blk hc X 29 2 (fr' := (7, [(0, am_r 13 22 0), (1, am_r 12 17 0), (2, am_i x2), (3, am_i x3), (4, am_i x4), (5, am_i (x5 + (-1)))], [], σ)) rfl ⟨trivial, trivial, trivial⟩ ?_
  exact hk7 x2 x3 x4 (x5 + (-1)) _ h
def lb_X5_firstNext_7 (k7 : Int32 → Int32 → Int32 → Int32 → am_S → Option (Int32 × am_S)) (x2 : Int32) (x3 : Int32) (x4 : Int32) (x5 : Int32) (σ : am_S) : Option (Int32 × am_S) :=
  (if x5 < 0 then some (x4, σ) else (if (x2 &&& ((1 : Int32) <<< (x5 &&& 31))) = 0 then jn_X5_firstNext_48 k7 x2 x3 x4 x5 (σ) else (fn_X5_leastOver x2 x3 x5 (σ)).bind fun q1 => (bif am_in ((x2 * (7 : Int32)) + x3) 896 then (if q1.1 = (q1.2.1 13 23 0 ((((x2 * (7 : Int32)) + x3) : Int32).toNatClampNeg)) then jn_X5_firstNext_48 k7 x2 x3 x5 x5 q1.2 else jn_X5_firstNext_48 k7 x2 x3 x4 x5 q1.2) else none)))
set_option maxRecDepth 100000 in
theorem lc_X5_firstNext_7 {p : Program} {l : Launch} {e : Env} {s : State} {m : MethodId} {args : Array Value} {below : List Frame} {meth : Method} {c : Code} {G : am_G} {q : Int32 × am_S} (X : am_X p s m args c cX5_firstNext yX5_firstNext.cls 6 am_p5 G (am_fr G)) (hr : meth.sig.returnType = (some .int) ∧ meth.locks = false)  (k7 : Int32 → Int32 → Int32 → Int32 → am_S → Option (Int32 × am_S)) (hk7 : ∀ (x2 : Int32) (x3 : Int32) (x4 : Int32) (x5 : Int32) (σ : am_S), k7 x2 x3 x4 x5 σ = some q → am_A p l e (am_ro 1) s m args below meth c 6 G (am_fr G) 0 0 (MQ below (am_Qc G (some (am_i q.1)) q.2) args s 0 0 (am_fr G)) (7, [(0, am_r 13 22 0), (1, am_r 12 17 0), (2, am_i x2), (3, am_i x3), (4, am_i x4), (5, am_i x5)], [], σ)) (x2 : Int32) (x3 : Int32) (x4 : Int32) (x5 : Int32) (σ : am_S) (h : lb_X5_firstNext_7 k7 x2 x3 x4 x5 σ = some q) : am_A p l e (am_ro 1) s m args below meth c 6 G (am_fr G) 0 0 (MQ below (am_Qc G (some (am_i q.1)) q.2) args s 0 0 (am_fr G)) (7, [(0, am_r 13 22 0), (1, am_r 12 17 0), (2, am_i x2), (3, am_i x3), (4, am_i x4), (5, am_i x5)], [], σ) := by
  have hc := ct_X5_firstNext
  unfold lb_X5_firstNext_7 at h
  refine am_blk hc X 4 1 (fr' := (9, [(0, am_r 13 22 0), (1, am_r 12 17 0), (2, am_i x2), (3, am_i x3), (4, am_i x4), (5, am_i x5)], [am_i x5], σ)) rfl ⟨trivial, trivial⟩ ?_
  refine am_if_lt hc X 5 (tgt := 54) rfl (by decide) (fun c6 => ?_) (fun c6 => ?_)
  · replace h := am_ip c6 h
    refine am_blk hc X 31 1 (fr' := (56, [(0, am_r 13 22 0), (1, am_r 12 17 0), (2, am_i x2), (3, am_i x3), (4, am_i x4), (5, am_i x5)], [am_i x4], σ)) rfl ⟨trivial, trivial⟩ ?_
    obtain rfl := Option.some.inj h
    exact am_iret hc X hr 32 rfl rfl rfl
  · replace h := am_in2 c6 h
    refine am_blk hc X 6 5 (fr' := (18, [(0, am_r 13 22 0), (1, am_r 12 17 0), (2, am_i x2), (3, am_i x3), (4, am_i x4), (5, am_i x5)], [am_i (x2 &&& ((1 : Int32) <<< (x5 &&& 31)))], σ)) rfl ⟨trivial, trivial, trivial, trivial, trivial, trivial⟩ ?_
    refine am_if_eq hc X 11 (tgt := 48) rfl (by decide) (fun c5 => ?_) (fun c5 => ?_)
    · replace h := am_ip c5 h
      exact jl_X5_firstNext_48 X hr k7 hk7 x2 x3 x4 x5 _ h
    · replace h := am_in2 c5 h
      refine am_blk hc X 12 5 (fr' := (27, [(0, am_r 13 22 0), (1, am_r 12 17 0), (2, am_i x2), (3, am_i x3), (4, am_i x4), (5, am_i x5)], [am_i x5, am_i x3, am_i x2, am_r 12 17 0, am_r 13 22 0], σ)) rfl ⟨trivial, trivial, trivial, trivial, trivial, trivial⟩ ?_
      obtain ⟨q1, hq2, h⟩ := am_bs h
      refine am_callV hc 17 X (k := 22) (i := 0) (o := 13) (As := [am_r 12 17 0, am_i x2, am_i x3, am_i x5]) (rest := []) rfl (ok_X5_leastOver l x2 x3 x5 (σ) hq2) yv_X5_leastOver ml_X5_57 (cl_22) rfl rfl rfl rfl rfl ?_
      obtain ⟨ob3, h⟩ := am_ci h
      refine am_blk hc X 18 8 (fr' := (41, [(0, am_r 13 22 0), (1, am_r 12 17 0), (2, am_i x2), (3, am_i x3), (4, am_i x4), (5, am_i x5)], [am_i (q1.2.1 13 23 0 ((((x2 * (7 : Int32)) + x3) : Int32).toNatClampNeg)), am_i q1.1], q1.2)) rfl ⟨trivial, trivial, trivial, trivial, trivial, trivial, trivial, (am_in_vp ob3), trivial⟩ ?_
      refine am_icmp_ne hc X 26 (tgt := 48) rfl (by decide) (fun c4 => ?_) (fun c4 => ?_)
      · replace h := am_in2 c4 h
        exact jl_X5_firstNext_48 X hr k7 hk7 x2 x3 x4 x5 _ h
      · replace h := am_ip c4 h
        refine am_blk hc X 27 2 (fr' := (48, [(0, am_r 13 22 0), (1, am_r 12 17 0), (2, am_i x2), (3, am_i x3), (4, am_i x5), (5, am_i x5)], [], q1.2)) rfl ⟨trivial, trivial, trivial⟩ ?_
        exact jl_X5_firstNext_48 X hr k7 hk7 x2 x3 x5 x5 _ h
def lp_X5_firstNext_7  : Nat → Int32 → Int32 → Int32 → Int32 → am_S → Option (Int32 × am_S)
  | 0 => fun _ _ _ _ _ => none
  | n + 1 => lb_X5_firstNext_7  (lp_X5_firstNext_7  n)
theorem ll_X5_firstNext_7 {p : Program} {l : Launch} {e : Env} {s : State} {m : MethodId} {args : Array Value} {below : List Frame} {meth : Method} {c : Code} {G : am_G} {q : Int32 × am_S} (X : am_X p s m args c cX5_firstNext yX5_firstNext.cls 6 am_p5 G (am_fr G)) (hr : meth.sig.returnType = (some .int) ∧ meth.locks = false)    : ∀ (n : Nat) (x2 : Int32) (x3 : Int32) (x4 : Int32) (x5 : Int32) (σ : am_S), lp_X5_firstNext_7  n x2 x3 x4 x5 σ = some q → am_A p l e (am_ro 1) s m args below meth c 6 G (am_fr G) 0 0 (MQ below (am_Qc G (some (am_i q.1)) q.2) args s 0 0 (am_fr G)) (7, [(0, am_r 13 22 0), (1, am_r 12 17 0), (2, am_i x2), (3, am_i x3), (4, am_i x4), (5, am_i x5)], [], σ) := by
  intro n
  induction n with
  | zero =>
    intro x2 x3 x4 x5 σ h
    have h : (none : Option (Int32 × am_S)) = some q := h
    cases h
  | succ n ih =>
    intro x2 x3 x4 x5 σ h
    exact lc_X5_firstNext_7 X hr  (lp_X5_firstNext_7  n) ih x2 x3 x4 x5 σ h
def fn_X5_firstNext (a2 : Int32) (a3 : Int32) (σ : am_S) : Option (Int32 × am_S) :=
  lp_X5_firstNext_7  1000 a2 a3 0 6 (σ)
set_option maxRecDepth 100000 in
theorem ok_X5_firstNext (l : Launch) (a2 : Int32) (a3 : Int32) (σ : am_S) {q : Int32 × am_S} (h : fn_X5_firstNext a2 a3 σ = some q) : am_M l yX5_firstNext cX5_firstNext 6 (some .int) 1 [am_r 13 22 0, am_r 12 17 0, am_i a2, am_i a3] σ (some (am_i q.1)) q.2 := by
  refine am_M_of (P := am_p5) (by decide +kernel) am_p5_ok rfl ?_
  intro G p e s m args below meth c X hr
  have hc := ct_X5_firstNext
  unfold fn_X5_firstNext at h
  refine am_blk hc X 0 4 (fr' := (7, [(0, am_r 13 22 0), (1, am_r 12 17 0), (2, am_i a2), (3, am_i a3), (4, am_i 0), (5, am_i 6)], [], σ)) rfl ⟨trivial, trivial, trivial, trivial, trivial⟩ ?_
  exact ll_X5_firstNext_7 X hr   1000 a2 a3 0 6 _ h
def lb_X5_findOrder_39 (k39 : Int32 → Int32 → Int32 → am_S → Option (Int32 × am_S)) (x4 : Int32) (x5 : Int32) (x6 : Int32) (σ : am_S) : Option (Int32 × am_S) :=
  (if 7 ≤ x6 then some (x6, σ) else (if x5 = 0 then some (x6, σ) else (fn_X5_firstNext x5 x4 (σ)).bind fun q5 => (bif am_in x6 7 then k39 q5.1 (x5 &&& (((1 : Int32) <<< (q5.1 &&& 31)) ^^^ (-1 : Int32))) (x6 + 1) (am_u q5.2 13 24 0 ((x6 : Int32).toNatClampNeg) q5.1) else none)))
set_option maxRecDepth 100000 in
theorem lc_X5_findOrder_39 {p : Program} {l : Launch} {e : Env} {s : State} {m : MethodId} {args : Array Value} {below : List Frame} {meth : Method} {c : Code} {G : am_G} {q : Int32 × am_S} (X : am_X p s m args c cX5_findOrder yX5_findOrder.cls 7 am_p5 G (am_fr G)) (hr : meth.sig.returnType = (some .int) ∧ meth.locks = false)  (k39 : Int32 → Int32 → Int32 → am_S → Option (Int32 × am_S)) (hk39 : ∀ (x4 : Int32) (x5 : Int32) (x6 : Int32) (σ : am_S), k39 x4 x5 x6 σ = some q → am_A p l e (am_ro 6) s m args below meth c 7 G (am_fr G) 0 0 (MQ below (am_Qc G (some (am_i q.1)) q.2) args s 0 0 (am_fr G)) (39, [(0, am_r 13 22 0), (2, am_r 12 17 0), (4, am_i x4), (5, am_i x5), (6, am_i x6)], [], σ)) (x4 : Int32) (x5 : Int32) (x6 : Int32) (σ : am_S) (h : lb_X5_findOrder_39 k39 x4 x5 x6 σ = some q) : am_A p l e (am_ro 6) s m args below meth c 7 G (am_fr G) 0 0 (MQ below (am_Qc G (some (am_i q.1)) q.2) args s 0 0 (am_fr G)) (39, [(0, am_r 13 22 0), (2, am_r 12 17 0), (4, am_i x4), (5, am_i x5), (6, am_i x6)], [], σ) := by
  have hc := ct_X5_findOrder
  unfold lb_X5_findOrder_39 at h
  refine am_blk hc X 29 2 (fr' := (43, [(0, am_r 13 22 0), (2, am_r 12 17 0), (4, am_i x4), (5, am_i x5), (6, am_i x6)], [am_i 7, am_i x6], σ)) rfl ⟨trivial, trivial, trivial⟩ ?_
  refine am_icmp_ge hc X 31 (tgt := 88) rfl (by decide) (fun c9 => ?_) (fun c9 => ?_)
  · replace h := am_ip c9 h
    refine am_blk hc X 55 1 (fr' := (90, [(0, am_r 13 22 0), (2, am_r 12 17 0), (4, am_i x4), (5, am_i x5), (6, am_i x6)], [am_i x6], σ)) rfl ⟨trivial, trivial⟩ ?_
    obtain rfl := Option.some.inj h
    exact am_iret hc X hr 56 rfl rfl rfl
  · replace h := am_in2 c9 h
    refine am_blk hc X 32 1 (fr' := (48, [(0, am_r 13 22 0), (2, am_r 12 17 0), (4, am_i x4), (5, am_i x5), (6, am_i x6)], [am_i x5], σ)) rfl ⟨trivial, trivial⟩ ?_
    refine am_if_eq hc X 33 (tgt := 88) rfl (by decide) (fun c8 => ?_) (fun c8 => ?_)
    · replace h := am_ip c8 h
      refine am_blk hc X 55 1 (fr' := (90, [(0, am_r 13 22 0), (2, am_r 12 17 0), (4, am_i x4), (5, am_i x5), (6, am_i x6)], [am_i x6], σ)) rfl ⟨trivial, trivial⟩ ?_
      obtain rfl := Option.some.inj h
      exact am_iret hc X hr 56 rfl rfl rfl
    · replace h := am_in2 c8 h
      refine am_blk hc X 34 4 (fr' := (57, [(0, am_r 13 22 0), (2, am_r 12 17 0), (4, am_i x4), (5, am_i x5), (6, am_i x6)], [am_i x4, am_i x5, am_r 12 17 0, am_r 13 22 0], σ)) rfl ⟨trivial, trivial, trivial, trivial, trivial⟩ ?_
      obtain ⟨q5, hq6, h⟩ := am_bs h
      refine am_callV hc 38 X (k := 22) (i := 0) (o := 13) (As := [am_r 12 17 0, am_i x5, am_i x4]) (rest := []) rfl (ok_X5_firstNext l x5 x4 (σ) hq6) yv_X5_firstNext ml_X5_72 (cl_22) rfl rfl rfl rfl rfl ?_
      obtain ⟨ob7, h⟩ := am_ci h
      refine am_blk hc X 39 16 (fr' := (39, [(0, am_r 13 22 0), (2, am_r 12 17 0), (4, am_i q5.1), (5, am_i (x5 &&& (((1 : Int32) <<< (q5.1 &&& 31)) ^^^ (-1 : Int32)))), (6, am_i (x6 + 1))], [], (am_u q5.2 13 24 0 ((x6 : Int32).toNatClampNeg) q5.1))) rfl ⟨trivial, trivial, trivial, trivial, trivial, (am_in_vp ob7), trivial, trivial, trivial, trivial, trivial, trivial, trivial, trivial, trivial, trivial, trivial⟩ ?_
      exact hk39 q5.1 (x5 &&& (((1 : Int32) <<< (q5.1 &&& 31)) ^^^ (-1 : Int32))) (x6 + 1) _ h
def lp_X5_findOrder_39  : Nat → Int32 → Int32 → Int32 → am_S → Option (Int32 × am_S)
  | 0 => fun _ _ _ _ => none
  | n + 1 => lb_X5_findOrder_39  (lp_X5_findOrder_39  n)
theorem ll_X5_findOrder_39 {p : Program} {l : Launch} {e : Env} {s : State} {m : MethodId} {args : Array Value} {below : List Frame} {meth : Method} {c : Code} {G : am_G} {q : Int32 × am_S} (X : am_X p s m args c cX5_findOrder yX5_findOrder.cls 7 am_p5 G (am_fr G)) (hr : meth.sig.returnType = (some .int) ∧ meth.locks = false)    : ∀ (n : Nat) (x4 : Int32) (x5 : Int32) (x6 : Int32) (σ : am_S), lp_X5_findOrder_39  n x4 x5 x6 σ = some q → am_A p l e (am_ro 6) s m args below meth c 7 G (am_fr G) 0 0 (MQ below (am_Qc G (some (am_i q.1)) q.2) args s 0 0 (am_fr G)) (39, [(0, am_r 13 22 0), (2, am_r 12 17 0), (4, am_i x4), (5, am_i x5), (6, am_i x6)], [], σ) := by
  intro n
  induction n with
  | zero =>
    intro x4 x5 x6 σ h
    have h : (none : Option (Int32 × am_S)) = some q := h
    cases h
  | succ n ih =>
    intro x4 x5 x6 σ h
    exact lc_X5_findOrder_39 X hr  (lp_X5_findOrder_39  n) ih x4 x5 x6 σ h
def fn_X5_findOrder (oa1 : Nat) (a3 : Int32) (σ : am_S) : Option (Int32 × am_S) :=
  (fn_X5_leastTour oa1 a3 (-1) (σ)).bind fun q1 => (bif am_in a3 6 then (bif am_in a3 6 then lp_X5_findOrder_39  1000 (q1.2.1 oa1 8 ((a3 : Int32).toNatClampNeg) 3) ((q1.2.1 oa1 8 ((a3 : Int32).toNatClampNeg) 4) &&& (((1 : Int32) <<< ((q1.2.1 oa1 8 ((a3 : Int32).toNatClampNeg) 3) &&& 31)) ^^^ (-1 : Int32))) 0 q1.2 else none) else none)
set_option maxRecDepth 100000 in
theorem ok_X5_findOrder (l : Launch) (oa1 : Nat) (a3 : Int32) (σ : am_S) {q : Int32 × am_S} (h : fn_X5_findOrder oa1 a3 σ = some q) : am_M l yX5_findOrder cX5_findOrder 7 (some .int) 6 [am_r 13 22 0, am_r oa1 2 0, am_r 12 17 0, am_i a3] σ (some (am_i q.1)) q.2 := by
  refine am_M_of (P := am_p5) (by decide +kernel) am_p5_ok rfl ?_
  intro G p e s m args below meth c X hr
  have hc := ct_X5_findOrder
  unfold fn_X5_findOrder at h
  refine am_blk hc X 0 5 (fr' := (5, [(0, am_r 13 22 0), (1, am_r oa1 2 0), (2, am_r 12 17 0), (3, am_i a3)], [am_i (-1), am_i a3, am_r 12 17 0, am_r oa1 2 0, am_r 13 22 0], σ)) rfl ⟨trivial, trivial, trivial, trivial, trivial, trivial⟩ ?_
  obtain ⟨q1, hq2, h⟩ := am_bs h
  refine am_callV hc 5 X (k := 22) (i := 0) (o := 13) (As := [am_r oa1 2 0, am_r 12 17 0, am_i a3, am_i (-1)]) (rest := []) rfl (ok_X5_leastTour l oa1 a3 (-1) (σ) hq2) yv_X5_leastTour ml_X5_68 (cl_22) rfl rfl rfl rfl rfl ?_
  obtain ⟨ob3, h⟩ := am_ci h
  obtain ⟨ob4, h⟩ := am_ci h
  refine am_blk hc X 6 23 (fr' := (39, [(0, am_r 13 22 0), (1, am_r oa1 2 0), (2, am_r 12 17 0), (3, am_i a3), (4, am_i (q1.2.1 oa1 8 ((a3 : Int32).toNatClampNeg) 3)), (5, am_i ((q1.2.1 oa1 8 ((a3 : Int32).toNatClampNeg) 4) &&& (((1 : Int32) <<< ((q1.2.1 oa1 8 ((a3 : Int32).toNatClampNeg) 3) &&& 31)) ^^^ (-1 : Int32)))), (6, am_i 0)], [], q1.2)) rfl ⟨trivial, trivial, trivial, trivial, (am_in_vp ob3), trivial, (am_in_vp (by decide)), trivial, trivial, trivial, trivial, (am_in_vp ob4), trivial, (am_in_vp (by decide)), trivial, trivial, trivial, trivial, trivial, trivial, trivial, trivial, trivial, trivial⟩ ?_
  refine am_less [0, 2, 4, 5, 6] rfl ?_
  exact ll_X5_findOrder_39 X hr   1000 (q1.2.1 oa1 8 ((a3 : Int32).toNatClampNeg) 3) ((q1.2.1 oa1 8 ((a3 : Int32).toNatClampNeg) 4) &&& (((1 : Int32) <<< ((q1.2.1 oa1 8 ((a3 : Int32).toNatClampNeg) 3) &&& 31)) ^^^ (-1 : Int32))) 0 _ h
def jn_X5_firstHome_59 (k5 : Int32 → Int32 → Int32 → Int32 → am_S → Option (Int32 × am_S)) (x1 : Int32) (x2 : Int32) (x3 : Int32) (x4 : Int32) (σ : am_S) : Option (Int32 × am_S) :=
  k5 x1 x2 x3 (x4 + 1) (σ)
set_option maxRecDepth 100000 in
theorem jl_X5_firstHome_59 {p : Program} {l : Launch} {e : Env} {s : State} {m : MethodId} {args : Array Value} {below : List Frame} {meth : Method} {c : Code} {G : am_G} {q : Int32 × am_S} (X : am_X p s m args c cX5_firstHome yX5_firstHome.cls 6 am_p5 G (am_fr G)) (hr : meth.sig.returnType = (some .int) ∧ meth.locks = false)  (k5 : Int32 → Int32 → Int32 → Int32 → am_S → Option (Int32 × am_S)) (hk5 : ∀ (x1 : Int32) (x2 : Int32) (x3 : Int32) (x4 : Int32) (σ : am_S), k5 x1 x2 x3 x4 σ = some q → am_A p l e (am_ro 1) s m args below meth c 6 G (am_fr G) 0 0 (MQ below (am_Qc G (some (am_i q.1)) q.2) args s 0 0 (am_fr G)) (5, [(0, am_r 13 22 0), (1, am_i x1), (2, am_i x2), (3, am_i x3), (4, am_i x4)], [], σ)) (x1 : Int32) (x2 : Int32) (x3 : Int32) (x4 : Int32) (σ : am_S) (h : jn_X5_firstHome_59 k5 x1 x2 x3 x4 σ = some q) : am_A p l e (am_ro 1) s m args below meth c 6 G (am_fr G) 0 0 (MQ below (am_Qc G (some (am_i q.1)) q.2) args s 0 0 (am_fr G)) (59, [(0, am_r 13 22 0), (1, am_i x1), (2, am_i x2), (3, am_i x3), (4, am_i x4)], [], σ) := by
  have hc := ct_X5_firstHome
  unfold jn_X5_firstHome_59 at h
  refine am_blk hc X 35 2 (fr' := (5, [(0, am_r 13 22 0), (1, am_i x1), (2, am_i x2), (3, am_i x3), (4, am_i (x4 + 1))], [], σ)) rfl ⟨trivial, trivial, trivial⟩ ?_
  exact hk5 x1 x2 x3 (x4 + 1) _ h
def jn_X5_firstHome_56 (k5 : Int32 → Int32 → Int32 → Int32 → am_S → Option (Int32 × am_S)) (x1 : Int32) (x2 : Int32) (x4 : Int32) (σ : am_S) : Option (Int32 × am_S) :=
  jn_X5_firstHome_59 k5 x1 x2 x4 x4 (σ)
set_option maxRecDepth 100000 in
theorem jl_X5_firstHome_56 {p : Program} {l : Launch} {e : Env} {s : State} {m : MethodId} {args : Array Value} {below : List Frame} {meth : Method} {c : Code} {G : am_G} {q : Int32 × am_S} (X : am_X p s m args c cX5_firstHome yX5_firstHome.cls 6 am_p5 G (am_fr G)) (hr : meth.sig.returnType = (some .int) ∧ meth.locks = false)  (k5 : Int32 → Int32 → Int32 → Int32 → am_S → Option (Int32 × am_S)) (hk5 : ∀ (x1 : Int32) (x2 : Int32) (x3 : Int32) (x4 : Int32) (σ : am_S), k5 x1 x2 x3 x4 σ = some q → am_A p l e (am_ro 1) s m args below meth c 6 G (am_fr G) 0 0 (MQ below (am_Qc G (some (am_i q.1)) q.2) args s 0 0 (am_fr G)) (5, [(0, am_r 13 22 0), (1, am_i x1), (2, am_i x2), (3, am_i x3), (4, am_i x4)], [], σ)) (x1 : Int32) (x2 : Int32) (x4 : Int32) (σ : am_S) (h : jn_X5_firstHome_56 k5 x1 x2 x4 σ = some q) : am_A p l e (am_ro 1) s m args below meth c 6 G (am_fr G) 0 0 (MQ below (am_Qc G (some (am_i q.1)) q.2) args s 0 0 (am_fr G)) (56, [(0, am_r 13 22 0), (1, am_i x1), (2, am_i x2), (4, am_i x4)], [], σ) := by
  have hc := ct_X5_firstHome
  unfold jn_X5_firstHome_56 at h
  refine am_blk hc X 33 2 (fr' := (59, [(0, am_r 13 22 0), (1, am_i x1), (2, am_i x2), (3, am_i x4), (4, am_i x4)], [], σ)) rfl ⟨trivial, trivial, trivial⟩ ?_
  exact jl_X5_firstHome_59 X hr k5 hk5 x1 x2 x4 x4 _ h
def jn_X5_firstHome_26 (k5 : Int32 → Int32 → Int32 → Int32 → am_S → Option (Int32 × am_S)) (x1 : Int32) (x2 : Int32) (x3 : Int32) (x4 : Int32) (y0 : Int32) (σ : am_S) : Option (Int32 × am_S) :=
  (if y0 = 0 then jn_X5_firstHome_59 k5 x1 x2 x3 x4 (σ) else (if x3 = (-1) then jn_X5_firstHome_56 k5 x1 x2 x4 (σ) else (fn_X5_costWith x1 x2 x4 (σ)).bind fun q1 => (fn_X5_costWith x1 x2 x3 q1.2).bind fun q3 => (if q3.1 ≤ q1.1 then jn_X5_firstHome_59 k5 x1 x2 x3 x4 q3.2 else jn_X5_firstHome_56 k5 x1 x2 x4 q3.2)))
set_option maxRecDepth 100000 in
theorem jl_X5_firstHome_26 {p : Program} {l : Launch} {e : Env} {s : State} {m : MethodId} {args : Array Value} {below : List Frame} {meth : Method} {c : Code} {G : am_G} {q : Int32 × am_S} (X : am_X p s m args c cX5_firstHome yX5_firstHome.cls 6 am_p5 G (am_fr G)) (hr : meth.sig.returnType = (some .int) ∧ meth.locks = false)  (k5 : Int32 → Int32 → Int32 → Int32 → am_S → Option (Int32 × am_S)) (hk5 : ∀ (x1 : Int32) (x2 : Int32) (x3 : Int32) (x4 : Int32) (σ : am_S), k5 x1 x2 x3 x4 σ = some q → am_A p l e (am_ro 1) s m args below meth c 6 G (am_fr G) 0 0 (MQ below (am_Qc G (some (am_i q.1)) q.2) args s 0 0 (am_fr G)) (5, [(0, am_r 13 22 0), (1, am_i x1), (2, am_i x2), (3, am_i x3), (4, am_i x4)], [], σ)) (x1 : Int32) (x2 : Int32) (x3 : Int32) (x4 : Int32) (y0 : Int32) (σ : am_S) (h : jn_X5_firstHome_26 k5 x1 x2 x3 x4 y0 σ = some q) : am_A p l e (am_ro 1) s m args below meth c 6 G (am_fr G) 0 0 (MQ below (am_Qc G (some (am_i q.1)) q.2) args s 0 0 (am_fr G)) (26, [(0, am_r 13 22 0), (1, am_i x1), (2, am_i x2), (3, am_i x3), (4, am_i x4)], [am_i y0], σ) := by
  have hc := ct_X5_firstHome
  unfold jn_X5_firstHome_26 at h
  refine am_blk hc X 16 2 (fr' := (30, [(0, am_r 13 22 0), (1, am_i x1), (2, am_i x2), (3, am_i x3), (4, am_i x4), (5, am_i y0)], [am_i y0], σ)) rfl ⟨trivial, trivial, trivial⟩ ?_
  refine am_if_eq hc X 18 (tgt := 59) rfl (by decide) (fun c7 => ?_) (fun c7 => ?_)
  · replace h := am_ip c7 h
    refine am_less [0, 1, 2, 3, 4] rfl ?_
    exact jl_X5_firstHome_59 X hr k5 hk5 x1 x2 x3 x4 _ h
  · replace h := am_in2 c7 h
    refine am_blk hc X 19 2 (fr' := (35, [(0, am_r 13 22 0), (1, am_i x1), (2, am_i x2), (3, am_i x3), (4, am_i x4), (5, am_i y0)], [am_i (-1), am_i x3], σ)) rfl ⟨trivial, trivial, trivial⟩ ?_
    refine am_icmp_eq hc X 21 (tgt := 56) rfl (by decide) (fun c6 => ?_) (fun c6 => ?_)
    · replace h := am_ip c6 h
      refine am_less [0, 1, 2, 4] rfl ?_
      exact jl_X5_firstHome_56 X hr k5 hk5 x1 x2 x4 _ h
    · replace h := am_in2 c6 h
      refine am_blk hc X 22 4 (fr' := (43, [(0, am_r 13 22 0), (1, am_i x1), (2, am_i x2), (3, am_i x3), (4, am_i x4), (5, am_i y0)], [am_i x4, am_i x2, am_i x1, am_r 13 22 0], σ)) rfl ⟨trivial, trivial, trivial, trivial, trivial⟩ ?_
      obtain ⟨q1, hq2, h⟩ := am_bs h
      refine am_callV hc 26 X (k := 22) (i := 0) (o := 13) (As := [am_i x1, am_i x2, am_i x4]) (rest := []) rfl (ok_X5_costWith l x1 x2 x4 (σ) hq2) yv_X5_costWith ml_X5_88 (cl_22) rfl rfl rfl rfl rfl ?_
      refine am_blk hc X 27 4 (fr' := (50, [(0, am_r 13 22 0), (1, am_i x1), (2, am_i x2), (3, am_i x3), (4, am_i x4), (5, am_i y0)], [am_i x3, am_i x2, am_i x1, am_r 13 22 0, am_i q1.1], q1.2)) rfl ⟨trivial, trivial, trivial, trivial, trivial⟩ ?_
      obtain ⟨q3, hq4, h⟩ := am_bs h
      refine am_callV hc 31 X (k := 22) (i := 0) (o := 13) (As := [am_i x1, am_i x2, am_i x3]) (rest := [am_i q1.1]) rfl (ok_X5_costWith l x1 x2 x3 q1.2 hq4) yv_X5_costWith ml_X5_88 (cl_22) rfl rfl rfl rfl rfl ?_
      refine am_icmp_ge hc X 32 (tgt := 59) rfl (by decide) (fun c5 => ?_) (fun c5 => ?_)
      · replace h := am_ip c5 h
        refine am_less [0, 1, 2, 3, 4] rfl ?_
        exact jl_X5_firstHome_59 X hr k5 hk5 x1 x2 x3 x4 _ h
      · replace h := am_in2 c5 h
        refine am_less [0, 1, 2, 4] rfl ?_
        exact jl_X5_firstHome_56 X hr k5 hk5 x1 x2 x4 _ h
def lb_X5_firstHome_5 (k5 : Int32 → Int32 → Int32 → Int32 → am_S → Option (Int32 × am_S)) (x1 : Int32) (x2 : Int32) (x3 : Int32) (x4 : Int32) (σ : am_S) : Option (Int32 × am_S) :=
  (if 7 ≤ x4 then some (x3, σ) else (if (x2 &&& ((1 : Int32) <<< (x4 &&& 31))) = 0 then jn_X5_firstHome_26 k5 x1 x2 x3 x4 1 (σ) else jn_X5_firstHome_26 k5 x1 x2 x3 x4 0 (σ)))
set_option maxRecDepth 100000 in
theorem lc_X5_firstHome_5 {p : Program} {l : Launch} {e : Env} {s : State} {m : MethodId} {args : Array Value} {below : List Frame} {meth : Method} {c : Code} {G : am_G} {q : Int32 × am_S} (X : am_X p s m args c cX5_firstHome yX5_firstHome.cls 6 am_p5 G (am_fr G)) (hr : meth.sig.returnType = (some .int) ∧ meth.locks = false)  (k5 : Int32 → Int32 → Int32 → Int32 → am_S → Option (Int32 × am_S)) (hk5 : ∀ (x1 : Int32) (x2 : Int32) (x3 : Int32) (x4 : Int32) (σ : am_S), k5 x1 x2 x3 x4 σ = some q → am_A p l e (am_ro 1) s m args below meth c 6 G (am_fr G) 0 0 (MQ below (am_Qc G (some (am_i q.1)) q.2) args s 0 0 (am_fr G)) (5, [(0, am_r 13 22 0), (1, am_i x1), (2, am_i x2), (3, am_i x3), (4, am_i x4)], [], σ)) (x1 : Int32) (x2 : Int32) (x3 : Int32) (x4 : Int32) (σ : am_S) (h : lb_X5_firstHome_5 k5 x1 x2 x3 x4 σ = some q) : am_A p l e (am_ro 1) s m args below meth c 6 G (am_fr G) 0 0 (MQ below (am_Qc G (some (am_i q.1)) q.2) args s 0 0 (am_fr G)) (5, [(0, am_r 13 22 0), (1, am_i x1), (2, am_i x2), (3, am_i x3), (4, am_i x4)], [], σ) := by
  have hc := ct_X5_firstHome
  unfold lb_X5_firstHome_5 at h
  refine am_blk hc X 4 2 (fr' := (9, [(0, am_r 13 22 0), (1, am_i x1), (2, am_i x2), (3, am_i x3), (4, am_i x4)], [am_i 7, am_i x4], σ)) rfl ⟨trivial, trivial, trivial⟩ ?_
  refine am_icmp_ge hc X 6 (tgt := 65) rfl (by decide) (fun c9 => ?_) (fun c9 => ?_)
  · replace h := am_ip c9 h
    refine am_blk hc X 37 1 (fr' := (66, [(0, am_r 13 22 0), (1, am_i x1), (2, am_i x2), (3, am_i x3), (4, am_i x4)], [am_i x3], σ)) rfl ⟨trivial, trivial⟩ ?_
    obtain rfl := Option.some.inj h
    exact am_iret hc X hr 38 rfl rfl rfl
  · replace h := am_in2 c9 h
    refine am_blk hc X 7 5 (fr' := (18, [(0, am_r 13 22 0), (1, am_i x1), (2, am_i x2), (3, am_i x3), (4, am_i x4)], [am_i (x2 &&& ((1 : Int32) <<< (x4 &&& 31)))], σ)) rfl ⟨trivial, trivial, trivial, trivial, trivial, trivial⟩ ?_
    refine am_if_ne hc X 12 (tgt := 25) rfl (by decide) (fun c8 => ?_) (fun c8 => ?_)
    · replace h := am_in2 c8 h
      refine am_blk hc X 15 1 (fr' := (26, [(0, am_r 13 22 0), (1, am_i x1), (2, am_i x2), (3, am_i x3), (4, am_i x4)], [am_i 0], σ)) rfl ⟨trivial, trivial⟩ ?_
      exact jl_X5_firstHome_26 X hr k5 hk5 x1 x2 x3 x4 0 _ h
    · replace h := am_ip c8 h
      refine am_blk hc X 13 2 (fr' := (26, [(0, am_r 13 22 0), (1, am_i x1), (2, am_i x2), (3, am_i x3), (4, am_i x4)], [am_i 1], σ)) rfl ⟨trivial, trivial, trivial⟩ ?_
      exact jl_X5_firstHome_26 X hr k5 hk5 x1 x2 x3 x4 1 _ h
def lp_X5_firstHome_5  : Nat → Int32 → Int32 → Int32 → Int32 → am_S → Option (Int32 × am_S)
  | 0 => fun _ _ _ _ _ => none
  | n + 1 => lb_X5_firstHome_5  (lp_X5_firstHome_5  n)
theorem ll_X5_firstHome_5 {p : Program} {l : Launch} {e : Env} {s : State} {m : MethodId} {args : Array Value} {below : List Frame} {meth : Method} {c : Code} {G : am_G} {q : Int32 × am_S} (X : am_X p s m args c cX5_firstHome yX5_firstHome.cls 6 am_p5 G (am_fr G)) (hr : meth.sig.returnType = (some .int) ∧ meth.locks = false)    : ∀ (n : Nat) (x1 : Int32) (x2 : Int32) (x3 : Int32) (x4 : Int32) (σ : am_S), lp_X5_firstHome_5  n x1 x2 x3 x4 σ = some q → am_A p l e (am_ro 1) s m args below meth c 6 G (am_fr G) 0 0 (MQ below (am_Qc G (some (am_i q.1)) q.2) args s 0 0 (am_fr G)) (5, [(0, am_r 13 22 0), (1, am_i x1), (2, am_i x2), (3, am_i x3), (4, am_i x4)], [], σ) := by
  intro n
  induction n with
  | zero =>
    intro x1 x2 x3 x4 σ h
    have h : (none : Option (Int32 × am_S)) = some q := h
    cases h
  | succ n ih =>
    intro x1 x2 x3 x4 σ h
    exact lc_X5_firstHome_5 X hr  (lp_X5_firstHome_5  n) ih x1 x2 x3 x4 σ h
def fn_X5_firstHome (a1 : Int32) (a2 : Int32) (σ : am_S) : Option (Int32 × am_S) :=
  lp_X5_firstHome_5  1000 a1 a2 (-1) 0 (σ)
set_option maxRecDepth 100000 in
theorem ok_X5_firstHome (l : Launch) (a1 : Int32) (a2 : Int32) (σ : am_S) {q : Int32 × am_S} (h : fn_X5_firstHome a1 a2 σ = some q) : am_M l yX5_firstHome cX5_firstHome 6 (some .int) 1 [am_r 13 22 0, am_i a1, am_i a2] σ (some (am_i q.1)) q.2 := by
  refine am_M_of (P := am_p5) (by decide +kernel) am_p5_ok rfl ?_
  intro G p e s m args below meth c X hr
  have hc := ct_X5_firstHome
  unfold fn_X5_firstHome at h
  refine am_blk hc X 0 4 (fr' := (5, [(0, am_r 13 22 0), (1, am_i a1), (2, am_i a2), (3, am_i (-1)), (4, am_i 0)], [], σ)) rfl ⟨trivial, trivial, trivial, trivial, trivial⟩ ?_
  exact ll_X5_firstHome_5 X hr   1000 a1 a2 (-1) 0 _ h
def lb_X5_savedBy_6 (k6 : Nat → Int32 → Int32 → Int32 → am_S → Option (Int32 × am_S)) (ox1 : Nat) (x3 : Int32) (x4 : Int32) (x5 : Int32) (σ : am_S) : Option (Int32 × am_S) :=
  (if (σ.1 ox1 2 0 4) ≤ x5 then some (x4, σ) else (fn_X5_leastTour ox1 x5 x3 (σ)).bind fun q1 => (fn_X5_leastTour ox1 x5 (-1) q1.2).bind fun q3 => k6 ox1 x3 (x4 + (q1.1 - q3.1)) (x5 + 1) q3.2)
set_option maxRecDepth 100000 in
theorem lc_X5_savedBy_6 {p : Program} {l : Launch} {e : Env} {s : State} {m : MethodId} {args : Array Value} {below : List Frame} {meth : Method} {c : Code} {G : am_G} {q : Int32 × am_S} (X : am_X p s m args c cX5_savedBy yX5_savedBy.cls 6 am_p5 G (am_fr G)) (hr : meth.sig.returnType = (some .int) ∧ meth.locks = false)  (k6 : Nat → Int32 → Int32 → Int32 → am_S → Option (Int32 × am_S)) (hk6 : ∀ (ox1 : Nat) (x3 : Int32) (x4 : Int32) (x5 : Int32) (σ : am_S), k6 ox1 x3 x4 x5 σ = some q → am_A p l e (am_ro 6) s m args below meth c 6 G (am_fr G) 0 0 (MQ below (am_Qc G (some (am_i q.1)) q.2) args s 0 0 (am_fr G)) (6, [(0, am_r 13 22 0), (1, am_r ox1 2 0), (2, am_r 12 17 0), (3, am_i x3), (4, am_i x4), (5, am_i x5)], [], σ)) (ox1 : Nat) (x3 : Int32) (x4 : Int32) (x5 : Int32) (σ : am_S) (h : lb_X5_savedBy_6 k6 ox1 x3 x4 x5 σ = some q) : am_A p l e (am_ro 6) s m args below meth c 6 G (am_fr G) 0 0 (MQ below (am_Qc G (some (am_i q.1)) q.2) args s 0 0 (am_fr G)) (6, [(0, am_r 13 22 0), (1, am_r ox1 2 0), (2, am_r 12 17 0), (3, am_i x3), (4, am_i x4), (5, am_i x5)], [], σ) := by
  have hc := ct_X5_savedBy
  unfold lb_X5_savedBy_6 at h
  refine am_blk hc X 4 3 (fr' := (12, [(0, am_r 13 22 0), (1, am_r ox1 2 0), (2, am_r 12 17 0), (3, am_i x3), (4, am_i x4), (5, am_i x5)], [am_i (σ.1 ox1 2 0 4), am_i x5], σ)) rfl ⟨trivial, trivial, trivial, trivial⟩ ?_
  refine am_icmp_ge hc X 7 (tgt := 45) rfl (by decide) (fun c5 => ?_) (fun c5 => ?_)
  · replace h := am_ip c5 h
    refine am_blk hc X 26 1 (fr' := (47, [(0, am_r 13 22 0), (1, am_r ox1 2 0), (2, am_r 12 17 0), (3, am_i x3), (4, am_i x4), (5, am_i x5)], [am_i x4], σ)) rfl ⟨trivial, trivial⟩ ?_
    obtain rfl := Option.some.inj h
    exact am_iret hc X hr 27 rfl rfl rfl
  · replace h := am_in2 c5 h
    refine am_blk hc X 8 6 (fr' := (23, [(0, am_r 13 22 0), (1, am_r ox1 2 0), (2, am_r 12 17 0), (3, am_i x3), (4, am_i x4), (5, am_i x5)], [am_i x3, am_i x5, am_r 12 17 0, am_r ox1 2 0, am_r 13 22 0, am_i x4], σ)) rfl ⟨trivial, trivial, trivial, trivial, trivial, trivial, trivial⟩ ?_
    obtain ⟨q1, hq2, h⟩ := am_bs h
    refine am_callV hc 14 X (k := 22) (i := 0) (o := 13) (As := [am_r ox1 2 0, am_r 12 17 0, am_i x5, am_i x3]) (rest := [am_i x4]) rfl (ok_X5_leastTour l ox1 x5 x3 (σ) hq2) yv_X5_leastTour ml_X5_68 (cl_22) rfl rfl rfl rfl rfl ?_
    refine am_blk hc X 15 5 (fr' := (32, [(0, am_r 13 22 0), (1, am_r ox1 2 0), (2, am_r 12 17 0), (3, am_i x3), (4, am_i x4), (5, am_i x5)], [am_i (-1), am_i x5, am_r 12 17 0, am_r ox1 2 0, am_r 13 22 0, am_i q1.1, am_i x4], q1.2)) rfl ⟨trivial, trivial, trivial, trivial, trivial, trivial⟩ ?_
    obtain ⟨q3, hq4, h⟩ := am_bs h
    refine am_callV hc 20 X (k := 22) (i := 0) (o := 13) (As := [am_r ox1 2 0, am_r 12 17 0, am_i x5, am_i (-1)]) (rest := [am_i q1.1, am_i x4]) rfl (ok_X5_leastTour l ox1 x5 (-1) q1.2 hq4) yv_X5_leastTour ml_X5_68 (cl_22) rfl rfl rfl rfl rfl ?_
    refine am_blk hc X 21 5 (fr' := (6, [(0, am_r 13 22 0), (1, am_r ox1 2 0), (2, am_r 12 17 0), (3, am_i x3), (4, am_i (x4 + (q1.1 - q3.1))), (5, am_i (x5 + 1))], [], q3.2)) rfl ⟨trivial, trivial, trivial, trivial, trivial, trivial⟩ ?_
    exact hk6 ox1 x3 (x4 + (q1.1 - q3.1)) (x5 + 1) _ h
def lp_X5_savedBy_6  : Nat → Nat → Int32 → Int32 → Int32 → am_S → Option (Int32 × am_S)
  | 0 => fun _ _ _ _ _ => none
  | n + 1 => lb_X5_savedBy_6  (lp_X5_savedBy_6  n)
theorem ll_X5_savedBy_6 {p : Program} {l : Launch} {e : Env} {s : State} {m : MethodId} {args : Array Value} {below : List Frame} {meth : Method} {c : Code} {G : am_G} {q : Int32 × am_S} (X : am_X p s m args c cX5_savedBy yX5_savedBy.cls 6 am_p5 G (am_fr G)) (hr : meth.sig.returnType = (some .int) ∧ meth.locks = false)    : ∀ (n : Nat) (ox1 : Nat) (x3 : Int32) (x4 : Int32) (x5 : Int32) (σ : am_S), lp_X5_savedBy_6  n ox1 x3 x4 x5 σ = some q → am_A p l e (am_ro 6) s m args below meth c 6 G (am_fr G) 0 0 (MQ below (am_Qc G (some (am_i q.1)) q.2) args s 0 0 (am_fr G)) (6, [(0, am_r 13 22 0), (1, am_r ox1 2 0), (2, am_r 12 17 0), (3, am_i x3), (4, am_i x4), (5, am_i x5)], [], σ) := by
  intro n
  induction n with
  | zero =>
    intro ox1 x3 x4 x5 σ h
    have h : (none : Option (Int32 × am_S)) = some q := h
    cases h
  | succ n ih =>
    intro ox1 x3 x4 x5 σ h
    exact lc_X5_savedBy_6 X hr  (lp_X5_savedBy_6  n) ih ox1 x3 x4 x5 σ h
def fn_X5_savedBy (oa1 : Nat) (a3 : Int32) (σ : am_S) : Option (Int32 × am_S) :=
  lp_X5_savedBy_6  1000 oa1 a3 0 0 (σ)
set_option maxRecDepth 100000 in
theorem ok_X5_savedBy (l : Launch) (oa1 : Nat) (a3 : Int32) (σ : am_S) {q : Int32 × am_S} (h : fn_X5_savedBy oa1 a3 σ = some q) : am_M l yX5_savedBy cX5_savedBy 6 (some .int) 6 [am_r 13 22 0, am_r oa1 2 0, am_r 12 17 0, am_i a3] σ (some (am_i q.1)) q.2 := by
  refine am_M_of (P := am_p5) (by decide +kernel) am_p5_ok rfl ?_
  intro G p e s m args below meth c X hr
  have hc := ct_X5_savedBy
  unfold fn_X5_savedBy at h
  refine am_blk hc X 0 4 (fr' := (6, [(0, am_r 13 22 0), (1, am_r oa1 2 0), (2, am_r 12 17 0), (3, am_i a3), (4, am_i 0), (5, am_i 0)], [], σ)) rfl ⟨trivial, trivial, trivial, trivial, trivial⟩ ?_
  exact ll_X5_savedBy_6 X hr   1000 oa1 a3 0 0 _ h
def fn_J6_bitCount_0f7a4 (a0 : Int32) (σ : am_S) : Option (Int32 × am_S) :=
  some (((((((((a0 - ((((a0 : Int32).toUInt32 >>> ((1 : Int32).toUInt32 &&& Int32.toUInt32 31)).toInt32) &&& (1431655765 : Int32))) &&& (858993459 : Int32)) + (((((a0 - ((((a0 : Int32).toUInt32 >>> ((1 : Int32).toUInt32 &&& Int32.toUInt32 31)).toInt32) &&& (1431655765 : Int32))) : Int32).toUInt32 >>> ((2 : Int32).toUInt32 &&& Int32.toUInt32 31)).toInt32) &&& (858993459 : Int32))) + ((((((a0 - ((((a0 : Int32).toUInt32 >>> ((1 : Int32).toUInt32 &&& Int32.toUInt32 31)).toInt32) &&& (1431655765 : Int32))) &&& (858993459 : Int32)) + (((((a0 - ((((a0 : Int32).toUInt32 >>> ((1 : Int32).toUInt32 &&& Int32.toUInt32 31)).toInt32) &&& (1431655765 : Int32))) : Int32).toUInt32 >>> ((2 : Int32).toUInt32 &&& Int32.toUInt32 31)).toInt32) &&& (858993459 : Int32))) : Int32).toUInt32 >>> ((4 : Int32).toUInt32 &&& Int32.toUInt32 31)).toInt32)) &&& (252645135 : Int32)) + ((((((((a0 - ((((a0 : Int32).toUInt32 >>> ((1 : Int32).toUInt32 &&& Int32.toUInt32 31)).toInt32) &&& (1431655765 : Int32))) &&& (858993459 : Int32)) + (((((a0 - ((((a0 : Int32).toUInt32 >>> ((1 : Int32).toUInt32 &&& Int32.toUInt32 31)).toInt32) &&& (1431655765 : Int32))) : Int32).toUInt32 >>> ((2 : Int32).toUInt32 &&& Int32.toUInt32 31)).toInt32) &&& (858993459 : Int32))) + ((((((a0 - ((((a0 : Int32).toUInt32 >>> ((1 : Int32).toUInt32 &&& Int32.toUInt32 31)).toInt32) &&& (1431655765 : Int32))) &&& (858993459 : Int32)) + (((((a0 - ((((a0 : Int32).toUInt32 >>> ((1 : Int32).toUInt32 &&& Int32.toUInt32 31)).toInt32) &&& (1431655765 : Int32))) : Int32).toUInt32 >>> ((2 : Int32).toUInt32 &&& Int32.toUInt32 31)).toInt32) &&& (858993459 : Int32))) : Int32).toUInt32 >>> ((4 : Int32).toUInt32 &&& Int32.toUInt32 31)).toInt32)) &&& (252645135 : Int32)) : Int32).toUInt32 >>> ((8 : Int32).toUInt32 &&& Int32.toUInt32 31)).toInt32)) + (((((((((a0 - ((((a0 : Int32).toUInt32 >>> ((1 : Int32).toUInt32 &&& Int32.toUInt32 31)).toInt32) &&& (1431655765 : Int32))) &&& (858993459 : Int32)) + (((((a0 - ((((a0 : Int32).toUInt32 >>> ((1 : Int32).toUInt32 &&& Int32.toUInt32 31)).toInt32) &&& (1431655765 : Int32))) : Int32).toUInt32 >>> ((2 : Int32).toUInt32 &&& Int32.toUInt32 31)).toInt32) &&& (858993459 : Int32))) + ((((((a0 - ((((a0 : Int32).toUInt32 >>> ((1 : Int32).toUInt32 &&& Int32.toUInt32 31)).toInt32) &&& (1431655765 : Int32))) &&& (858993459 : Int32)) + (((((a0 - ((((a0 : Int32).toUInt32 >>> ((1 : Int32).toUInt32 &&& Int32.toUInt32 31)).toInt32) &&& (1431655765 : Int32))) : Int32).toUInt32 >>> ((2 : Int32).toUInt32 &&& Int32.toUInt32 31)).toInt32) &&& (858993459 : Int32))) : Int32).toUInt32 >>> ((4 : Int32).toUInt32 &&& Int32.toUInt32 31)).toInt32)) &&& (252645135 : Int32)) + ((((((((a0 - ((((a0 : Int32).toUInt32 >>> ((1 : Int32).toUInt32 &&& Int32.toUInt32 31)).toInt32) &&& (1431655765 : Int32))) &&& (858993459 : Int32)) + (((((a0 - ((((a0 : Int32).toUInt32 >>> ((1 : Int32).toUInt32 &&& Int32.toUInt32 31)).toInt32) &&& (1431655765 : Int32))) : Int32).toUInt32 >>> ((2 : Int32).toUInt32 &&& Int32.toUInt32 31)).toInt32) &&& (858993459 : Int32))) + ((((((a0 - ((((a0 : Int32).toUInt32 >>> ((1 : Int32).toUInt32 &&& Int32.toUInt32 31)).toInt32) &&& (1431655765 : Int32))) &&& (858993459 : Int32)) + (((((a0 - ((((a0 : Int32).toUInt32 >>> ((1 : Int32).toUInt32 &&& Int32.toUInt32 31)).toInt32) &&& (1431655765 : Int32))) : Int32).toUInt32 >>> ((2 : Int32).toUInt32 &&& Int32.toUInt32 31)).toInt32) &&& (858993459 : Int32))) : Int32).toUInt32 >>> ((4 : Int32).toUInt32 &&& Int32.toUInt32 31)).toInt32)) &&& (252645135 : Int32)) : Int32).toUInt32 >>> ((8 : Int32).toUInt32 &&& Int32.toUInt32 31)).toInt32)) : Int32).toUInt32 >>> ((16 : Int32).toUInt32 &&& Int32.toUInt32 31)).toInt32)) &&& (63 : Int32)), σ)
set_option maxRecDepth 100000 in
theorem ok_J6_bitCount_0f7a4 (l : Launch) (a0 : Int32) (σ : am_S) {q : Int32 × am_S} (h : fn_J6_bitCount_0f7a4 a0 σ = some q) : am_M l yJ6_bitCount_0f7a4 cJ6_bitCount_0f7a4 1 (some .int) 0 [am_i a0] σ (some (am_i q.1)) q.2 := by
  refine am_M_of (P := am_pJ6) (by decide +kernel) am_pJ6_ok rfl ?_
  intro G p e s m args below meth c X hr
  have hc := ct_J6_bitCount_0f7a4
  unfold fn_J6_bitCount_0f7a4 at h
  refine am_blk hc X 0 41 (fr' := (52, [(0, am_i (((((((a0 - ((((a0 : Int32).toUInt32 >>> ((1 : Int32).toUInt32 &&& Int32.toUInt32 31)).toInt32) &&& (1431655765 : Int32))) &&& (858993459 : Int32)) + (((((a0 - ((((a0 : Int32).toUInt32 >>> ((1 : Int32).toUInt32 &&& Int32.toUInt32 31)).toInt32) &&& (1431655765 : Int32))) : Int32).toUInt32 >>> ((2 : Int32).toUInt32 &&& Int32.toUInt32 31)).toInt32) &&& (858993459 : Int32))) + ((((((a0 - ((((a0 : Int32).toUInt32 >>> ((1 : Int32).toUInt32 &&& Int32.toUInt32 31)).toInt32) &&& (1431655765 : Int32))) &&& (858993459 : Int32)) + (((((a0 - ((((a0 : Int32).toUInt32 >>> ((1 : Int32).toUInt32 &&& Int32.toUInt32 31)).toInt32) &&& (1431655765 : Int32))) : Int32).toUInt32 >>> ((2 : Int32).toUInt32 &&& Int32.toUInt32 31)).toInt32) &&& (858993459 : Int32))) : Int32).toUInt32 >>> ((4 : Int32).toUInt32 &&& Int32.toUInt32 31)).toInt32)) &&& (252645135 : Int32)) + ((((((((a0 - ((((a0 : Int32).toUInt32 >>> ((1 : Int32).toUInt32 &&& Int32.toUInt32 31)).toInt32) &&& (1431655765 : Int32))) &&& (858993459 : Int32)) + (((((a0 - ((((a0 : Int32).toUInt32 >>> ((1 : Int32).toUInt32 &&& Int32.toUInt32 31)).toInt32) &&& (1431655765 : Int32))) : Int32).toUInt32 >>> ((2 : Int32).toUInt32 &&& Int32.toUInt32 31)).toInt32) &&& (858993459 : Int32))) + ((((((a0 - ((((a0 : Int32).toUInt32 >>> ((1 : Int32).toUInt32 &&& Int32.toUInt32 31)).toInt32) &&& (1431655765 : Int32))) &&& (858993459 : Int32)) + (((((a0 - ((((a0 : Int32).toUInt32 >>> ((1 : Int32).toUInt32 &&& Int32.toUInt32 31)).toInt32) &&& (1431655765 : Int32))) : Int32).toUInt32 >>> ((2 : Int32).toUInt32 &&& Int32.toUInt32 31)).toInt32) &&& (858993459 : Int32))) : Int32).toUInt32 >>> ((4 : Int32).toUInt32 &&& Int32.toUInt32 31)).toInt32)) &&& (252645135 : Int32)) : Int32).toUInt32 >>> ((8 : Int32).toUInt32 &&& Int32.toUInt32 31)).toInt32)) + (((((((((a0 - ((((a0 : Int32).toUInt32 >>> ((1 : Int32).toUInt32 &&& Int32.toUInt32 31)).toInt32) &&& (1431655765 : Int32))) &&& (858993459 : Int32)) + (((((a0 - ((((a0 : Int32).toUInt32 >>> ((1 : Int32).toUInt32 &&& Int32.toUInt32 31)).toInt32) &&& (1431655765 : Int32))) : Int32).toUInt32 >>> ((2 : Int32).toUInt32 &&& Int32.toUInt32 31)).toInt32) &&& (858993459 : Int32))) + ((((((a0 - ((((a0 : Int32).toUInt32 >>> ((1 : Int32).toUInt32 &&& Int32.toUInt32 31)).toInt32) &&& (1431655765 : Int32))) &&& (858993459 : Int32)) + (((((a0 - ((((a0 : Int32).toUInt32 >>> ((1 : Int32).toUInt32 &&& Int32.toUInt32 31)).toInt32) &&& (1431655765 : Int32))) : Int32).toUInt32 >>> ((2 : Int32).toUInt32 &&& Int32.toUInt32 31)).toInt32) &&& (858993459 : Int32))) : Int32).toUInt32 >>> ((4 : Int32).toUInt32 &&& Int32.toUInt32 31)).toInt32)) &&& (252645135 : Int32)) + ((((((((a0 - ((((a0 : Int32).toUInt32 >>> ((1 : Int32).toUInt32 &&& Int32.toUInt32 31)).toInt32) &&& (1431655765 : Int32))) &&& (858993459 : Int32)) + (((((a0 - ((((a0 : Int32).toUInt32 >>> ((1 : Int32).toUInt32 &&& Int32.toUInt32 31)).toInt32) &&& (1431655765 : Int32))) : Int32).toUInt32 >>> ((2 : Int32).toUInt32 &&& Int32.toUInt32 31)).toInt32) &&& (858993459 : Int32))) + ((((((a0 - ((((a0 : Int32).toUInt32 >>> ((1 : Int32).toUInt32 &&& Int32.toUInt32 31)).toInt32) &&& (1431655765 : Int32))) &&& (858993459 : Int32)) + (((((a0 - ((((a0 : Int32).toUInt32 >>> ((1 : Int32).toUInt32 &&& Int32.toUInt32 31)).toInt32) &&& (1431655765 : Int32))) : Int32).toUInt32 >>> ((2 : Int32).toUInt32 &&& Int32.toUInt32 31)).toInt32) &&& (858993459 : Int32))) : Int32).toUInt32 >>> ((4 : Int32).toUInt32 &&& Int32.toUInt32 31)).toInt32)) &&& (252645135 : Int32)) : Int32).toUInt32 >>> ((8 : Int32).toUInt32 &&& Int32.toUInt32 31)).toInt32)) : Int32).toUInt32 >>> ((16 : Int32).toUInt32 &&& Int32.toUInt32 31)).toInt32)))], [am_i ((((((((a0 - ((((a0 : Int32).toUInt32 >>> ((1 : Int32).toUInt32 &&& Int32.toUInt32 31)).toInt32) &&& (1431655765 : Int32))) &&& (858993459 : Int32)) + (((((a0 - ((((a0 : Int32).toUInt32 >>> ((1 : Int32).toUInt32 &&& Int32.toUInt32 31)).toInt32) &&& (1431655765 : Int32))) : Int32).toUInt32 >>> ((2 : Int32).toUInt32 &&& Int32.toUInt32 31)).toInt32) &&& (858993459 : Int32))) + ((((((a0 - ((((a0 : Int32).toUInt32 >>> ((1 : Int32).toUInt32 &&& Int32.toUInt32 31)).toInt32) &&& (1431655765 : Int32))) &&& (858993459 : Int32)) + (((((a0 - ((((a0 : Int32).toUInt32 >>> ((1 : Int32).toUInt32 &&& Int32.toUInt32 31)).toInt32) &&& (1431655765 : Int32))) : Int32).toUInt32 >>> ((2 : Int32).toUInt32 &&& Int32.toUInt32 31)).toInt32) &&& (858993459 : Int32))) : Int32).toUInt32 >>> ((4 : Int32).toUInt32 &&& Int32.toUInt32 31)).toInt32)) &&& (252645135 : Int32)) + ((((((((a0 - ((((a0 : Int32).toUInt32 >>> ((1 : Int32).toUInt32 &&& Int32.toUInt32 31)).toInt32) &&& (1431655765 : Int32))) &&& (858993459 : Int32)) + (((((a0 - ((((a0 : Int32).toUInt32 >>> ((1 : Int32).toUInt32 &&& Int32.toUInt32 31)).toInt32) &&& (1431655765 : Int32))) : Int32).toUInt32 >>> ((2 : Int32).toUInt32 &&& Int32.toUInt32 31)).toInt32) &&& (858993459 : Int32))) + ((((((a0 - ((((a0 : Int32).toUInt32 >>> ((1 : Int32).toUInt32 &&& Int32.toUInt32 31)).toInt32) &&& (1431655765 : Int32))) &&& (858993459 : Int32)) + (((((a0 - ((((a0 : Int32).toUInt32 >>> ((1 : Int32).toUInt32 &&& Int32.toUInt32 31)).toInt32) &&& (1431655765 : Int32))) : Int32).toUInt32 >>> ((2 : Int32).toUInt32 &&& Int32.toUInt32 31)).toInt32) &&& (858993459 : Int32))) : Int32).toUInt32 >>> ((4 : Int32).toUInt32 &&& Int32.toUInt32 31)).toInt32)) &&& (252645135 : Int32)) : Int32).toUInt32 >>> ((8 : Int32).toUInt32 &&& Int32.toUInt32 31)).toInt32)) + (((((((((a0 - ((((a0 : Int32).toUInt32 >>> ((1 : Int32).toUInt32 &&& Int32.toUInt32 31)).toInt32) &&& (1431655765 : Int32))) &&& (858993459 : Int32)) + (((((a0 - ((((a0 : Int32).toUInt32 >>> ((1 : Int32).toUInt32 &&& Int32.toUInt32 31)).toInt32) &&& (1431655765 : Int32))) : Int32).toUInt32 >>> ((2 : Int32).toUInt32 &&& Int32.toUInt32 31)).toInt32) &&& (858993459 : Int32))) + ((((((a0 - ((((a0 : Int32).toUInt32 >>> ((1 : Int32).toUInt32 &&& Int32.toUInt32 31)).toInt32) &&& (1431655765 : Int32))) &&& (858993459 : Int32)) + (((((a0 - ((((a0 : Int32).toUInt32 >>> ((1 : Int32).toUInt32 &&& Int32.toUInt32 31)).toInt32) &&& (1431655765 : Int32))) : Int32).toUInt32 >>> ((2 : Int32).toUInt32 &&& Int32.toUInt32 31)).toInt32) &&& (858993459 : Int32))) : Int32).toUInt32 >>> ((4 : Int32).toUInt32 &&& Int32.toUInt32 31)).toInt32)) &&& (252645135 : Int32)) + ((((((((a0 - ((((a0 : Int32).toUInt32 >>> ((1 : Int32).toUInt32 &&& Int32.toUInt32 31)).toInt32) &&& (1431655765 : Int32))) &&& (858993459 : Int32)) + (((((a0 - ((((a0 : Int32).toUInt32 >>> ((1 : Int32).toUInt32 &&& Int32.toUInt32 31)).toInt32) &&& (1431655765 : Int32))) : Int32).toUInt32 >>> ((2 : Int32).toUInt32 &&& Int32.toUInt32 31)).toInt32) &&& (858993459 : Int32))) + ((((((a0 - ((((a0 : Int32).toUInt32 >>> ((1 : Int32).toUInt32 &&& Int32.toUInt32 31)).toInt32) &&& (1431655765 : Int32))) &&& (858993459 : Int32)) + (((((a0 - ((((a0 : Int32).toUInt32 >>> ((1 : Int32).toUInt32 &&& Int32.toUInt32 31)).toInt32) &&& (1431655765 : Int32))) : Int32).toUInt32 >>> ((2 : Int32).toUInt32 &&& Int32.toUInt32 31)).toInt32) &&& (858993459 : Int32))) : Int32).toUInt32 >>> ((4 : Int32).toUInt32 &&& Int32.toUInt32 31)).toInt32)) &&& (252645135 : Int32)) : Int32).toUInt32 >>> ((8 : Int32).toUInt32 &&& Int32.toUInt32 31)).toInt32)) : Int32).toUInt32 >>> ((16 : Int32).toUInt32 &&& Int32.toUInt32 31)).toInt32)) &&& (63 : Int32))], σ)) rfl ⟨trivial, trivial, trivial, trivial, trivial, trivial, trivial, trivial, trivial, trivial, trivial, trivial, trivial, trivial, trivial, trivial, trivial, trivial, trivial, trivial, trivial, trivial, trivial, trivial, trivial, trivial, trivial, trivial, trivial, trivial, trivial, trivial, trivial, trivial, trivial, trivial, trivial, trivial, trivial, trivial, trivial, trivial⟩ ?_
  obtain rfl := Option.some.inj h
  exact am_iret hc X hr 41 rfl rfl rfl
def lb_X5_settle_152 (k152 : Int32 → Int32 → Int32 → am_S → Option (Int32 × am_S)) (x3 : Int32) (x4 : Int32) (x5 : Int32) (σ : am_S) : Option (Int32 × am_S) :=
  (if x3 ≤ x5 then some ((σ.1 13 27 0 0), σ) else (fn_X5_firstHome x5 x4 (σ)).bind fun q1 => (bif am_in x5 6 then (bif am_in x5 6 then k152 x3 (x4 ||| ((1 : Int32) <<< (((am_u q1.2 13 28 0 ((x5 : Int32).toNatClampNeg) (if 0 < q1.1 then q1.1 else 0)).1 13 28 0 ((x5 : Int32).toNatClampNeg)) &&& 31))) (x5 + 1) (am_u q1.2 13 28 0 ((x5 : Int32).toNatClampNeg) (if 0 < q1.1 then q1.1 else 0)) else none) else none))
set_option maxRecDepth 100000 in
theorem lc_X5_settle_152 {p : Program} {l : Launch} {e : Env} {s : State} {m : MethodId} {args : Array Value} {below : List Frame} {meth : Method} {c : Code} {G : am_G} {q : Int32 × am_S} (X : am_X p s m args c cX5_settle yX5_settle.cls 7 am_p5 G (am_fr G)) (hr : meth.sig.returnType = (some .int) ∧ meth.locks = false)  (k152 : Int32 → Int32 → Int32 → am_S → Option (Int32 × am_S)) (hk152 : ∀ (x3 : Int32) (x4 : Int32) (x5 : Int32) (σ : am_S), k152 x3 x4 x5 σ = some q → am_A p l e (am_ro 5) s m args below meth c 7 G (am_fr G) 0 0 (MQ below (am_Qc G (some (am_i q.1)) q.2) args s 0 0 (am_fr G)) (152, [(0, am_r 13 22 0), (3, am_i x3), (4, am_i x4), (5, am_i x5)], [], σ)) (x3 : Int32) (x4 : Int32) (x5 : Int32) (σ : am_S) (h : lb_X5_settle_152 k152 x3 x4 x5 σ = some q) : am_A p l e (am_ro 5) s m args below meth c 7 G (am_fr G) 0 0 (MQ below (am_Qc G (some (am_i q.1)) q.2) args s 0 0 (am_fr G)) (152, [(0, am_r 13 22 0), (3, am_i x3), (4, am_i x4), (5, am_i x5)], [], σ) := by
  have hc := ct_X5_settle
  unfold lb_X5_settle_152 at h
  refine am_blk hc X 79 2 (fr' := (155, [(0, am_r 13 22 0), (3, am_i x3), (4, am_i x4), (5, am_i x5)], [am_i x3, am_i x5], σ)) rfl ⟨trivial, trivial, trivial⟩ ?_
  refine am_icmp_ge hc X 81 (tgt := 197) rfl (by decide) (fun c5 => ?_) (fun c5 => ?_)
  · replace h := am_ip c5 h
    refine am_blk hc X 103 4 (fr' := (203, [(0, am_r 13 22 0), (3, am_i x3), (4, am_i x4), (5, am_i x5)], [am_i (σ.1 13 27 0 0)], σ)) rfl ⟨trivial, trivial, trivial, (am_in_vp (by decide)), trivial⟩ ?_
    obtain rfl := Option.some.inj h
    exact am_iret hc X hr 107 rfl rfl rfl
  · replace h := am_in2 c5 h
    refine am_blk hc X 82 7 (fr' := (170, [(0, am_r 13 22 0), (3, am_i x3), (4, am_i x4), (5, am_i x5)], [am_i x4, am_i x5, am_r 13 22 0, am_i 0, am_i x5, am_r 13 28 0], σ)) rfl ⟨trivial, trivial, trivial, trivial, trivial, trivial, trivial, trivial⟩ ?_
    obtain ⟨q1, hq2, h⟩ := am_bs h
    refine am_callV hc 89 X (k := 22) (i := 0) (o := 13) (As := [am_i x5, am_i x4]) (rest := [am_i 0, am_i x5, am_r 13 28 0]) rfl (ok_X5_firstHome l x5 x4 (σ) hq2) yv_X5_firstHome ml_X5_85 (cl_22) rfl rfl rfl rfl rfl ?_
    refine am_mmax hc 90 X (rest := [am_i x5, am_r 13 28 0]) rfl ml_X5_92 am_wmax rfl rfl ?_
    obtain ⟨ob3, h⟩ := am_ci h
    obtain ⟨ob4, h⟩ := am_ci h
    refine am_blk hc X 91 12 (fr' := (152, [(0, am_r 13 22 0), (3, am_i x3), (4, am_i (x4 ||| ((1 : Int32) <<< (((am_u q1.2 13 28 0 ((x5 : Int32).toNatClampNeg) (if 0 < q1.1 then q1.1 else 0)).1 13 28 0 ((x5 : Int32).toNatClampNeg)) &&& 31)))), (5, am_i (x5 + 1))], [], (am_u q1.2 13 28 0 ((x5 : Int32).toNatClampNeg) (if 0 < q1.1 then q1.1 else 0)))) rfl ⟨(am_in_vp ob3), trivial, trivial, trivial, trivial, trivial, (am_in_vp ob4), trivial, trivial, trivial, trivial, trivial, trivial⟩ ?_
    exact hk152 x3 (x4 ||| ((1 : Int32) <<< (((am_u q1.2 13 28 0 ((x5 : Int32).toNatClampNeg) (if 0 < q1.1 then q1.1 else 0)).1 13 28 0 ((x5 : Int32).toNatClampNeg)) &&& 31))) (x5 + 1) _ h
def lp_X5_settle_152  : Nat → Int32 → Int32 → Int32 → am_S → Option (Int32 × am_S)
  | 0 => fun _ _ _ _ => none
  | n + 1 => lb_X5_settle_152  (lp_X5_settle_152  n)
theorem ll_X5_settle_152 {p : Program} {l : Launch} {e : Env} {s : State} {m : MethodId} {args : Array Value} {below : List Frame} {meth : Method} {c : Code} {G : am_G} {q : Int32 × am_S} (X : am_X p s m args c cX5_settle yX5_settle.cls 7 am_p5 G (am_fr G)) (hr : meth.sig.returnType = (some .int) ∧ meth.locks = false)    : ∀ (n : Nat) (x3 : Int32) (x4 : Int32) (x5 : Int32) (σ : am_S), lp_X5_settle_152  n x3 x4 x5 σ = some q → am_A p l e (am_ro 5) s m args below meth c 7 G (am_fr G) 0 0 (MQ below (am_Qc G (some (am_i q.1)) q.2) args s 0 0 (am_fr G)) (152, [(0, am_r 13 22 0), (3, am_i x3), (4, am_i x4), (5, am_i x5)], [], σ) := by
  intro n
  induction n with
  | zero =>
    intro x3 x4 x5 σ h
    have h : (none : Option (Int32 × am_S)) = some q := h
    cases h
  | succ n ih =>
    intro x3 x4 x5 σ h
    exact lc_X5_settle_152 X hr  (lp_X5_settle_152  n) ih x3 x4 x5 σ h
def jn_X5_settle_139 (k81 : Int32 → Int32 → am_S → Option (Int32 × am_S)) (x3 : Int32) (x4 : Int32) (y0 : Int32) (y1 : Int32) (σ : am_S) : Option (Int32 × am_S) :=
  (bif am_in y1 128 then k81 x3 (x4 + (-1)) (am_u σ 13 27 0 ((y1 : Int32).toNatClampNeg) y0) else none)
set_option maxRecDepth 100000 in
theorem jl_X5_settle_139 {p : Program} {l : Launch} {e : Env} {s : State} {m : MethodId} {args : Array Value} {below : List Frame} {meth : Method} {c : Code} {G : am_G} {q : Int32 × am_S} (X : am_X p s m args c cX5_settle yX5_settle.cls 7 am_p5 G (am_fr G)) (hr : meth.sig.returnType = (some .int) ∧ meth.locks = false)  (k81 : Int32 → Int32 → am_S → Option (Int32 × am_S)) (hk81 : ∀ (x3 : Int32) (x4 : Int32) (σ : am_S), k81 x3 x4 σ = some q → am_A p l e (am_ro 5) s m args below meth c 7 G (am_fr G) 0 0 (MQ below (am_Qc G (some (am_i q.1)) q.2) args s 0 0 (am_fr G)) (81, [(0, am_r 13 22 0), (3, am_i x3), (4, am_i x4)], [], σ)) (x3 : Int32) (x4 : Int32) (y0 : Int32) (y1 : Int32) (σ : am_S) (h : jn_X5_settle_139 k81 x3 x4 y0 y1 σ = some q) : am_A p l e (am_ro 5) s m args below meth c 7 G (am_fr G) 0 0 (MQ below (am_Qc G (some (am_i q.1)) q.2) args s 0 0 (am_fr G)) (139, [(0, am_r 13 22 0), (3, am_i x3), (4, am_i x4)], [am_i y0, am_i y1, am_r 13 27 0], σ) := by
  have hc := ct_X5_settle
  unfold jn_X5_settle_139 at h
  obtain ⟨ob10, h⟩ := am_ci h
  refine am_blk hc X 72 3 (fr' := (81, [(0, am_r 13 22 0), (3, am_i x3), (4, am_i (x4 + (-1)))], [], (am_u σ 13 27 0 ((y1 : Int32).toNatClampNeg) y0))) rfl ⟨(am_in_vp ob10), trivial, trivial, trivial⟩ ?_
  exact hk81 x3 (x4 + (-1)) _ h
def jn_X5_settle_111 (k81 : Int32 → Int32 → am_S → Option (Int32 × am_S)) (x3 : Int32) (x4 : Int32) (x5 : Int32) (y0 : Int32) (σ : am_S) : Option (Int32 × am_S) :=
  (if y0 = (-1) then jn_X5_settle_139 k81 x3 x4 0 x4 (σ) else (fn_X5_costWith x5 x4 y0 (σ)).bind fun q8 => jn_X5_settle_139 k81 x3 x4 q8.1 x4 q8.2)
set_option maxRecDepth 100000 in
theorem jl_X5_settle_111 {p : Program} {l : Launch} {e : Env} {s : State} {m : MethodId} {args : Array Value} {below : List Frame} {meth : Method} {c : Code} {G : am_G} {q : Int32 × am_S} (X : am_X p s m args c cX5_settle yX5_settle.cls 7 am_p5 G (am_fr G)) (hr : meth.sig.returnType = (some .int) ∧ meth.locks = false)  (k81 : Int32 → Int32 → am_S → Option (Int32 × am_S)) (hk81 : ∀ (x3 : Int32) (x4 : Int32) (σ : am_S), k81 x3 x4 σ = some q → am_A p l e (am_ro 5) s m args below meth c 7 G (am_fr G) 0 0 (MQ below (am_Qc G (some (am_i q.1)) q.2) args s 0 0 (am_fr G)) (81, [(0, am_r 13 22 0), (3, am_i x3), (4, am_i x4)], [], σ)) (x3 : Int32) (x4 : Int32) (x5 : Int32) (y0 : Int32) (σ : am_S) (h : jn_X5_settle_111 k81 x3 x4 x5 y0 σ = some q) : am_A p l e (am_ro 5) s m args below meth c 7 G (am_fr G) 0 0 (MQ below (am_Qc G (some (am_i q.1)) q.2) args s 0 0 (am_fr G)) (111, [(0, am_r 13 22 0), (3, am_i x3), (4, am_i x4), (5, am_i x5)], [am_i y0], σ) := by
  have hc := ct_X5_settle
  unfold jn_X5_settle_111 at h
  refine am_blk hc X 58 6 (fr' := (122, [(0, am_r 13 22 0), (3, am_i x3), (4, am_i x4), (5, am_i x5), (6, am_i y0)], [am_i (-1), am_i y0, am_i x4, am_r 13 27 0], σ)) rfl ⟨trivial, trivial, trivial, trivial, trivial, trivial, trivial⟩ ?_
  refine am_icmp_ne hc X 64 (tgt := 129) rfl (by decide) (fun c11 => ?_) (fun c11 => ?_)
  · replace h := am_in2 c11 h
    refine am_blk hc X 67 4 (fr' := (136, [(0, am_r 13 22 0), (3, am_i x3), (4, am_i x4), (5, am_i x5), (6, am_i y0)], [am_i y0, am_i x4, am_i x5, am_r 13 22 0, am_i x4, am_r 13 27 0], σ)) rfl ⟨trivial, trivial, trivial, trivial, trivial⟩ ?_
    obtain ⟨q8, hq9, h⟩ := am_bs h
    refine am_callV hc 71 X (k := 22) (i := 0) (o := 13) (As := [am_i x5, am_i x4, am_i y0]) (rest := [am_i x4, am_r 13 27 0]) rfl (ok_X5_costWith l x5 x4 y0 (σ) hq9) yv_X5_costWith ml_X5_88 (cl_22) rfl rfl rfl rfl rfl ?_
    refine am_less [0, 1, 2] rfl ?_
    exact jl_X5_settle_139 X hr k81 hk81 x3 x4 q8.1 x4 _ h
  · replace h := am_ip c11 h
    refine am_blk hc X 65 2 (fr' := (139, [(0, am_r 13 22 0), (3, am_i x3), (4, am_i x4), (5, am_i x5), (6, am_i y0)], [am_i 0, am_i x4, am_r 13 27 0], σ)) rfl ⟨trivial, trivial, trivial⟩ ?_
    refine am_less [0, 1, 2] rfl ?_
    exact jl_X5_settle_139 X hr k81 hk81 x3 x4 0 x4 _ h
def lb_X5_settle_81 (k81 : Int32 → Int32 → am_S → Option (Int32 × am_S)) (x3 : Int32) (x4 : Int32) (σ : am_S) : Option (Int32 × am_S) :=
  (if x4 < 0 then lp_X5_settle_152  1000 x3 0 0 (σ) else (fn_J6_bitCount_0f7a4 x4 (σ)).bind fun q6 => (if x3 ≤ q6.1 then jn_X5_settle_111 k81 x3 x4 q6.1 (-1) q6.2 else (fn_X5_firstHome q6.1 x4 q6.2).bind fun q12 => jn_X5_settle_111 k81 x3 x4 q6.1 q12.1 q12.2))
set_option maxRecDepth 100000 in
theorem lc_X5_settle_81 {p : Program} {l : Launch} {e : Env} {s : State} {m : MethodId} {args : Array Value} {below : List Frame} {meth : Method} {c : Code} {G : am_G} {q : Int32 × am_S} (X : am_X p s m args c cX5_settle yX5_settle.cls 7 am_p5 G (am_fr G)) (hr : meth.sig.returnType = (some .int) ∧ meth.locks = false)  (k81 : Int32 → Int32 → am_S → Option (Int32 × am_S)) (hk81 : ∀ (x3 : Int32) (x4 : Int32) (σ : am_S), k81 x3 x4 σ = some q → am_A p l e (am_ro 5) s m args below meth c 7 G (am_fr G) 0 0 (MQ below (am_Qc G (some (am_i q.1)) q.2) args s 0 0 (am_fr G)) (81, [(0, am_r 13 22 0), (3, am_i x3), (4, am_i x4)], [], σ)) (x3 : Int32) (x4 : Int32) (σ : am_S) (h : lb_X5_settle_81 k81 x3 x4 σ = some q) : am_A p l e (am_ro 5) s m args below meth c 7 G (am_fr G) 0 0 (MQ below (am_Qc G (some (am_i q.1)) q.2) args s 0 0 (am_fr G)) (81, [(0, am_r 13 22 0), (3, am_i x3), (4, am_i x4)], [], σ) := by
  have hc := ct_X5_settle
  unfold lb_X5_settle_81 at h
  refine am_blk hc X 44 1 (fr' := (83, [(0, am_r 13 22 0), (3, am_i x3), (4, am_i x4)], [am_i x4], σ)) rfl ⟨trivial, trivial⟩ ?_
  refine am_if_lt hc X 45 (tgt := 146) rfl (by decide) (fun c15 => ?_) (fun c15 => ?_)
  · replace h := am_ip c15 h
    refine am_blk hc X 75 4 (fr' := (152, [(0, am_r 13 22 0), (3, am_i x3), (4, am_i 0), (5, am_i 0)], [], σ)) rfl ⟨trivial, trivial, trivial, trivial, trivial⟩ ?_
    exact ll_X5_settle_152 X hr   1000 x3 0 0 _ h
  · replace h := am_in2 c15 h
    refine am_blk hc X 46 1 (fr' := (88, [(0, am_r 13 22 0), (3, am_i x3), (4, am_i x4)], [am_i x4], σ)) rfl ⟨trivial, trivial⟩ ?_
    obtain ⟨q6, hq7, h⟩ := am_bs h
    refine am_callS hc 47 X (As := [am_i x4]) (rest := []) rfl (ok_J6_bitCount_0f7a4 l x4 (σ) hq7) yv_J6_bitCount_0f7a4 ml_X5_79 rfl rfl rfl rfl rfl ?_
    refine am_blk hc X 48 3 (fr' := (96, [(0, am_r 13 22 0), (3, am_i x3), (4, am_i x4), (5, am_i q6.1)], [am_i x3, am_i q6.1], q6.2)) rfl ⟨trivial, trivial, trivial, trivial⟩ ?_
    refine am_icmp_ge hc X 51 (tgt := 110) rfl (by decide) (fun c14 => ?_) (fun c14 => ?_)
    · replace h := am_ip c14 h
      refine am_blk hc X 57 1 (fr' := (111, [(0, am_r 13 22 0), (3, am_i x3), (4, am_i x4), (5, am_i q6.1)], [am_i (-1)], q6.2)) rfl ⟨trivial, trivial⟩ ?_
      exact jl_X5_settle_111 X hr k81 hk81 x3 x4 q6.1 (-1) _ h
    · replace h := am_in2 c14 h
      refine am_blk hc X 52 3 (fr' := (104, [(0, am_r 13 22 0), (3, am_i x3), (4, am_i x4), (5, am_i q6.1)], [am_i x4, am_i q6.1, am_r 13 22 0], q6.2)) rfl ⟨trivial, trivial, trivial, trivial⟩ ?_
      obtain ⟨q12, hq13, h⟩ := am_bs h
      refine am_callV hc 55 X (k := 22) (i := 0) (o := 13) (As := [am_i q6.1, am_i x4]) (rest := []) rfl (ok_X5_firstHome l q6.1 x4 q6.2 hq13) yv_X5_firstHome ml_X5_85 (cl_22) rfl rfl rfl rfl rfl ?_
      refine am_blk hc X 56 1 (fr' := (111, [(0, am_r 13 22 0), (3, am_i x3), (4, am_i x4), (5, am_i q6.1)], [am_i q12.1], q12.2)) rfl ⟨trivial, trivial⟩ ?_
      exact jl_X5_settle_111 X hr k81 hk81 x3 x4 q6.1 q12.1 _ h
def lp_X5_settle_81  : Nat → Int32 → Int32 → am_S → Option (Int32 × am_S)
  | 0 => fun _ _ _ => none
  | n + 1 => lb_X5_settle_81  (lp_X5_settle_81  n)
theorem ll_X5_settle_81 {p : Program} {l : Launch} {e : Env} {s : State} {m : MethodId} {args : Array Value} {below : List Frame} {meth : Method} {c : Code} {G : am_G} {q : Int32 × am_S} (X : am_X p s m args c cX5_settle yX5_settle.cls 7 am_p5 G (am_fr G)) (hr : meth.sig.returnType = (some .int) ∧ meth.locks = false)    : ∀ (n : Nat) (x3 : Int32) (x4 : Int32) (σ : am_S), lp_X5_settle_81  n x3 x4 σ = some q → am_A p l e (am_ro 5) s m args below meth c 7 G (am_fr G) 0 0 (MQ below (am_Qc G (some (am_i q.1)) q.2) args s 0 0 (am_fr G)) (81, [(0, am_r 13 22 0), (3, am_i x3), (4, am_i x4)], [], σ) := by
  intro n
  induction n with
  | zero =>
    intro x3 x4 σ h
    have h : (none : Option (Int32 × am_S)) = some q := h
    cases h
  | succ n ih =>
    intro x3 x4 σ h
    exact lc_X5_settle_81 X hr  (lp_X5_settle_81  n) ih x3 x4 σ h
def lb_X5_settle_35 (k8 : Nat → Int32 → Int32 → am_S → Option (Int32 × am_S)) (k35 : Nat → Int32 → Int32 → Nat → Nat → Int32 → am_S → Option (Int32 × am_S)) (ox1 : Nat) (x3 : Int32) (x4 : Int32) (ox5 : Nat) (ix5 : Nat) (x6 : Int32) (σ : am_S) : Option (Int32 × am_S) :=
  (if 7 ≤ x6 then k8 ox1 x3 (x4 + 1) (σ) else (bif am_in x4 6 then (fn_X5_leastFrom x6 (σ.1 ox5 8 ix5 4) x6 (σ)).bind fun q20 => (bif am_in x6 7 then k35 ox1 x3 x4 ox5 ix5 (x6 + 1) (am_u q20.2 13 26 ((x4 : Int32).toNatClampNeg) ((x6 : Int32).toNatClampNeg) q20.1) else none) else none))
set_option maxRecDepth 100000 in
theorem lc_X5_settle_35 {p : Program} {l : Launch} {e : Env} {s : State} {m : MethodId} {args : Array Value} {below : List Frame} {meth : Method} {c : Code} {G : am_G} {q : Int32 × am_S} (X : am_X p s m args c cX5_settle yX5_settle.cls 7 am_p5 G (am_fr G)) (hr : meth.sig.returnType = (some .int) ∧ meth.locks = false)  (k8 : Nat → Int32 → Int32 → am_S → Option (Int32 × am_S)) (k35 : Nat → Int32 → Int32 → Nat → Nat → Int32 → am_S → Option (Int32 × am_S)) (hk8 : ∀ (ox1 : Nat) (x3 : Int32) (x4 : Int32) (σ : am_S), k8 ox1 x3 x4 σ = some q → am_A p l e (am_ro 5) s m args below meth c 7 G (am_fr G) 0 0 (MQ below (am_Qc G (some (am_i q.1)) q.2) args s 0 0 (am_fr G)) (8, [(0, am_r 13 22 0), (1, am_r ox1 2 0), (2, am_r 12 17 0), (3, am_i x3), (4, am_i x4)], [], σ)) (hk35 : ∀ (ox1 : Nat) (x3 : Int32) (x4 : Int32) (ox5 : Nat) (ix5 : Nat) (x6 : Int32) (σ : am_S), k35 ox1 x3 x4 ox5 ix5 x6 σ = some q → am_A p l e (am_ro 5) s m args below meth c 7 G (am_fr G) 0 0 (MQ below (am_Qc G (some (am_i q.1)) q.2) args s 0 0 (am_fr G)) (35, [(0, am_r 13 22 0), (1, am_r ox1 2 0), (2, am_r 12 17 0), (3, am_i x3), (4, am_i x4), (5, am_r ox5 8 ix5), (6, am_i x6)], [], σ)) (ox1 : Nat) (x3 : Int32) (x4 : Int32) (ox5 : Nat) (ix5 : Nat) (x6 : Int32) (σ : am_S) (h : lb_X5_settle_35 k8 k35 ox1 x3 x4 ox5 ix5 x6 σ = some q) : am_A p l e (am_ro 5) s m args below meth c 7 G (am_fr G) 0 0 (MQ below (am_Qc G (some (am_i q.1)) q.2) args s 0 0 (am_fr G)) (35, [(0, am_r 13 22 0), (1, am_r ox1 2 0), (2, am_r 12 17 0), (3, am_i x3), (4, am_i x4), (5, am_r ox5 8 ix5), (6, am_i x6)], [], σ) := by
  have hc := ct_X5_settle
  unfold lb_X5_settle_35 at h
  refine am_blk hc X 21 2 (fr' := (39, [(0, am_r 13 22 0), (1, am_r ox1 2 0), (2, am_r 12 17 0), (3, am_i x3), (4, am_i x4), (5, am_r ox5 8 ix5), (6, am_i x6)], [am_i 7, am_i x6], σ)) rfl ⟨trivial, trivial, trivial⟩ ?_
  refine am_icmp_ge hc X 23 (tgt := 71) rfl (by decide) (fun c23 => ?_) (fun c23 => ?_)
  · replace h := am_ip c23 h
    refine am_blk hc X 40 2 (fr' := (8, [(0, am_r 13 22 0), (1, am_r ox1 2 0), (2, am_r 12 17 0), (3, am_i x3), (4, am_i (x4 + 1)), (5, am_r ox5 8 ix5), (6, am_i x6)], [], σ)) rfl ⟨trivial, trivial, trivial⟩ ?_
    refine am_less [0, 1, 2, 3, 4] rfl ?_
    exact hk8 ox1 x3 (x4 + 1) _ h
  · replace h := am_in2 c23 h
    obtain ⟨ob19, h⟩ := am_ci h
    refine am_blk hc X 24 12 (fr' := (61, [(0, am_r 13 22 0), (1, am_r ox1 2 0), (2, am_r 12 17 0), (3, am_i x3), (4, am_i x4), (5, am_r ox5 8 ix5), (6, am_i x6)], [am_i x6, am_i (σ.1 ox5 8 ix5 4), am_i x6, am_r 12 17 0, am_r 13 22 0, am_i x6, am_r 13 26 ((x4 : Int32).toNatClampNeg)], σ)) rfl ⟨trivial, trivial, trivial, (am_in_vp ob19), trivial, trivial, trivial, trivial, trivial, trivial, (am_in_vp (by decide)), trivial, trivial⟩ ?_
    obtain ⟨q20, hq21, h⟩ := am_bs h
    refine am_callV hc 36 X (k := 22) (i := 0) (o := 13) (As := [am_r 12 17 0, am_i x6, am_i (σ.1 ox5 8 ix5 4), am_i x6]) (rest := [am_i x6, am_r 13 26 ((x4 : Int32).toNatClampNeg)]) rfl (ok_X5_leastFrom l x6 (σ.1 ox5 8 ix5 4) x6 (σ) hq21) yv_X5_leastFrom ml_X5_40 (cl_22) rfl rfl rfl rfl rfl ?_
    obtain ⟨ob22, h⟩ := am_ci h
    refine am_blk hc X 37 3 (fr' := (35, [(0, am_r 13 22 0), (1, am_r ox1 2 0), (2, am_r 12 17 0), (3, am_i x3), (4, am_i x4), (5, am_r ox5 8 ix5), (6, am_i (x6 + 1))], [], (am_u q20.2 13 26 ((x4 : Int32).toNatClampNeg) ((x6 : Int32).toNatClampNeg) q20.1))) rfl ⟨(am_in_vp ob22), trivial, trivial, trivial⟩ ?_
    exact hk35 ox1 x3 x4 ox5 ix5 (x6 + 1) _ h
def lp_X5_settle_35 (k8 : Nat → Int32 → Int32 → am_S → Option (Int32 × am_S)) : Nat → Nat → Int32 → Int32 → Nat → Nat → Int32 → am_S → Option (Int32 × am_S)
  | 0 => fun _ _ _ _ _ _ _ => none
  | n + 1 => lb_X5_settle_35 k8 (lp_X5_settle_35 k8 n)
theorem ll_X5_settle_35 {p : Program} {l : Launch} {e : Env} {s : State} {m : MethodId} {args : Array Value} {below : List Frame} {meth : Method} {c : Code} {G : am_G} {q : Int32 × am_S} (X : am_X p s m args c cX5_settle yX5_settle.cls 7 am_p5 G (am_fr G)) (hr : meth.sig.returnType = (some .int) ∧ meth.locks = false)  (k8 : Nat → Int32 → Int32 → am_S → Option (Int32 × am_S)) (hk8 : ∀ (ox1 : Nat) (x3 : Int32) (x4 : Int32) (σ : am_S), k8 ox1 x3 x4 σ = some q → am_A p l e (am_ro 5) s m args below meth c 7 G (am_fr G) 0 0 (MQ below (am_Qc G (some (am_i q.1)) q.2) args s 0 0 (am_fr G)) (8, [(0, am_r 13 22 0), (1, am_r ox1 2 0), (2, am_r 12 17 0), (3, am_i x3), (4, am_i x4)], [], σ)) : ∀ (n : Nat) (ox1 : Nat) (x3 : Int32) (x4 : Int32) (ox5 : Nat) (ix5 : Nat) (x6 : Int32) (σ : am_S), lp_X5_settle_35 k8 n ox1 x3 x4 ox5 ix5 x6 σ = some q → am_A p l e (am_ro 5) s m args below meth c 7 G (am_fr G) 0 0 (MQ below (am_Qc G (some (am_i q.1)) q.2) args s 0 0 (am_fr G)) (35, [(0, am_r 13 22 0), (1, am_r ox1 2 0), (2, am_r 12 17 0), (3, am_i x3), (4, am_i x4), (5, am_r ox5 8 ix5), (6, am_i x6)], [], σ) := by
  intro n
  induction n with
  | zero =>
    intro ox1 x3 x4 ox5 ix5 x6 σ h
    have h : (none : Option (Int32 × am_S)) = some q := h
    cases h
  | succ n ih =>
    intro ox1 x3 x4 ox5 ix5 x6 σ h
    exact lc_X5_settle_35 X hr k8 (lp_X5_settle_35 k8 n) hk8 ih ox1 x3 x4 ox5 ix5 x6 σ h
def lb_X5_settle_8 (k8 : Nat → Int32 → Int32 → am_S → Option (Int32 × am_S)) (ox1 : Nat) (x3 : Int32) (x4 : Int32) (σ : am_S) : Option (Int32 × am_S) :=
  (if x3 ≤ x4 then lp_X5_settle_81  1000 x3 127 (σ) else (bif am_in x4 6 then (fn_X6_measure_8 ox1 ox1 ((x4 : Int32).toNatClampNeg) 0 (-1) (σ)).bind fun q17 => lp_X5_settle_35 k8 1000 ox1 x3 x4 ox1 ((x4 : Int32).toNatClampNeg) 0 q17 else none))
set_option maxRecDepth 100000 in
theorem lc_X5_settle_8 {p : Program} {l : Launch} {e : Env} {s : State} {m : MethodId} {args : Array Value} {below : List Frame} {meth : Method} {c : Code} {G : am_G} {q : Int32 × am_S} (X : am_X p s m args c cX5_settle yX5_settle.cls 7 am_p5 G (am_fr G)) (hr : meth.sig.returnType = (some .int) ∧ meth.locks = false)  (k8 : Nat → Int32 → Int32 → am_S → Option (Int32 × am_S)) (hk8 : ∀ (ox1 : Nat) (x3 : Int32) (x4 : Int32) (σ : am_S), k8 ox1 x3 x4 σ = some q → am_A p l e (am_ro 5) s m args below meth c 7 G (am_fr G) 0 0 (MQ below (am_Qc G (some (am_i q.1)) q.2) args s 0 0 (am_fr G)) (8, [(0, am_r 13 22 0), (1, am_r ox1 2 0), (2, am_r 12 17 0), (3, am_i x3), (4, am_i x4)], [], σ)) (ox1 : Nat) (x3 : Int32) (x4 : Int32) (σ : am_S) (h : lb_X5_settle_8 k8 ox1 x3 x4 σ = some q) : am_A p l e (am_ro 5) s m args below meth c 7 G (am_fr G) 0 0 (MQ below (am_Qc G (some (am_i q.1)) q.2) args s 0 0 (am_fr G)) (8, [(0, am_r 13 22 0), (1, am_r ox1 2 0), (2, am_r 12 17 0), (3, am_i x3), (4, am_i x4)], [], σ) := by
  have hc := ct_X5_settle
  unfold lb_X5_settle_8 at h
  refine am_blk hc X 5 2 (fr' := (11, [(0, am_r 13 22 0), (1, am_r ox1 2 0), (2, am_r 12 17 0), (3, am_i x3), (4, am_i x4)], [am_i x3, am_i x4], σ)) rfl ⟨trivial, trivial, trivial⟩ ?_
  refine am_icmp_ge hc X 7 (tgt := 77) rfl (by decide) (fun c24 => ?_) (fun c24 => ?_)
  · replace h := am_ip c24 h
    refine am_blk hc X 42 2 (fr' := (81, [(0, am_r 13 22 0), (1, am_r ox1 2 0), (2, am_r 12 17 0), (3, am_i x3), (4, am_i 127)], [], σ)) rfl ⟨trivial, trivial, trivial⟩ ?_
    refine am_less [0, 3, 4] rfl ?_
    exact ll_X5_settle_81 X hr   1000 x3 127 _ h
  · replace h := am_in2 c24 h
    obtain ⟨ob16, h⟩ := am_ci h
    refine am_blk hc X 8 10 (fr' := (29, [(0, am_r 13 22 0), (1, am_r ox1 2 0), (2, am_r 12 17 0), (3, am_i x3), (4, am_i x4), (5, am_r ox1 8 ((x4 : Int32).toNatClampNeg))], [am_i (-1), am_i 0, am_r ox1 8 ((x4 : Int32).toNatClampNeg), am_r ox1 2 0, am_r 12 17 0], σ)) rfl ⟨trivial, trivial, trivial, (am_in_vp ob16), trivial, trivial, trivial, trivial, trivial, trivial, trivial⟩ ?_
    obtain ⟨q17, hq18, h⟩ := am_bs h
    refine am_callV hc 18 X (k := 17) (i := 0) (o := 12) (As := [am_r ox1 2 0, am_r ox1 8 ((x4 : Int32).toNatClampNeg), am_i 0, am_i (-1)]) (rest := []) rfl (ok_X6_measure_8 l ox1 ox1 ((x4 : Int32).toNatClampNeg) 0 (-1) (σ) hq18) yv_X6_measure ml_X5_34 (cl_17) rfl rfl rfl rfl rfl ?_
    refine am_blk hc X 19 2 (fr' := (35, [(0, am_r 13 22 0), (1, am_r ox1 2 0), (2, am_r 12 17 0), (3, am_i x3), (4, am_i x4), (5, am_r ox1 8 ((x4 : Int32).toNatClampNeg)), (6, am_i 0)], [], q17)) rfl ⟨trivial, trivial, trivial⟩ ?_
    exact ll_X5_settle_35 X hr k8 hk8 1000 ox1 x3 x4 ox1 ((x4 : Int32).toNatClampNeg) 0 _ h
def lp_X5_settle_8  : Nat → Nat → Int32 → Int32 → am_S → Option (Int32 × am_S)
  | 0 => fun _ _ _ _ => none
  | n + 1 => lb_X5_settle_8  (lp_X5_settle_8  n)
theorem ll_X5_settle_8 {p : Program} {l : Launch} {e : Env} {s : State} {m : MethodId} {args : Array Value} {below : List Frame} {meth : Method} {c : Code} {G : am_G} {q : Int32 × am_S} (X : am_X p s m args c cX5_settle yX5_settle.cls 7 am_p5 G (am_fr G)) (hr : meth.sig.returnType = (some .int) ∧ meth.locks = false)    : ∀ (n : Nat) (ox1 : Nat) (x3 : Int32) (x4 : Int32) (σ : am_S), lp_X5_settle_8  n ox1 x3 x4 σ = some q → am_A p l e (am_ro 5) s m args below meth c 7 G (am_fr G) 0 0 (MQ below (am_Qc G (some (am_i q.1)) q.2) args s 0 0 (am_fr G)) (8, [(0, am_r 13 22 0), (1, am_r ox1 2 0), (2, am_r 12 17 0), (3, am_i x3), (4, am_i x4)], [], σ) := by
  intro n
  induction n with
  | zero =>
    intro ox1 x3 x4 σ h
    have h : (none : Option (Int32 × am_S)) = some q := h
    cases h
  | succ n ih =>
    intro ox1 x3 x4 σ h
    exact lc_X5_settle_8 X hr  (lp_X5_settle_8  n) ih ox1 x3 x4 σ h
def fn_X5_settle (oa1 : Nat) (σ : am_S) : Option (Int32 × am_S) :=
  lp_X5_settle_8  1000 oa1 (σ.1 oa1 2 0 4) 0 (σ)
set_option maxRecDepth 100000 in
theorem ok_X5_settle (l : Launch) (oa1 : Nat) (σ : am_S) {q : Int32 × am_S} (h : fn_X5_settle oa1 σ = some q) : am_M l yX5_settle cX5_settle 7 (some .int) 5 [am_r 13 22 0, am_r oa1 2 0, am_r 12 17 0] σ (some (am_i q.1)) q.2 := by
  refine am_M_of (P := am_p5) (by decide +kernel) am_p5_ok rfl ?_
  intro G p e s m args below meth c X hr
  have hc := ct_X5_settle
  unfold fn_X5_settle at h
  refine am_blk hc X 0 5 (fr' := (8, [(0, am_r 13 22 0), (1, am_r oa1 2 0), (2, am_r 12 17 0), (3, am_i (σ.1 oa1 2 0 4)), (4, am_i 0)], [], σ)) rfl ⟨trivial, trivial, trivial, trivial, trivial, trivial⟩ ?_
  exact ll_X5_settle_8 X hr   1000 oa1 (σ.1 oa1 2 0 4) 0 _ h
def lb_J7_fill_53178_21_5 (k5 : Int32 → Int32 → Int32 → am_S → Option (am_S)) (x1 : Int32) (x2 : Int32) (x3 : Int32) (σ : am_S) : Option (am_S) :=
  (if x3 ≤ x2 then some (σ) else (bif am_in x2 7 then k5 x1 (x2 + 1) x3 (am_u σ 12 21 0 ((x2 : Int32).toNatClampNeg) x1) else none))
set_option maxRecDepth 100000 in
theorem lc_J7_fill_53178_21_5 {p : Program} {l : Launch} {e : Env} {s : State} {m : MethodId} {args : Array Value} {below : List Frame} {meth : Method} {c : Code} {G : am_G} {q : am_S} (X : am_X p s m args c cJ7_fill_53178 yJ7_fill_53178.cls 4 am_pJ G (am_fr G)) (hr : meth.sig.returnType = none ∧ meth.locks = false)  (k5 : Int32 → Int32 → Int32 → am_S → Option (am_S)) (hk5 : ∀ (x1 : Int32) (x2 : Int32) (x3 : Int32) (σ : am_S), k5 x1 x2 x3 σ = some q → am_A p l e (am_ro 0) s m args below meth c 4 G (am_fr G) 0 0 (MQ below (am_Qc G none q) args s 0 0 (am_fr G)) (5, [(0, am_r 12 21 0), (1, am_i x1), (2, am_i x2), (3, am_i x3)], [], σ)) (x1 : Int32) (x2 : Int32) (x3 : Int32) (σ : am_S) (h : lb_J7_fill_53178_21_5 k5 x1 x2 x3 σ = some q) : am_A p l e (am_ro 0) s m args below meth c 4 G (am_fr G) 0 0 (MQ below (am_Qc G none q) args s 0 0 (am_fr G)) (5, [(0, am_r 12 21 0), (1, am_i x1), (2, am_i x2), (3, am_i x3)], [], σ) := by
  have hc := ct_J7_fill_53178
  unfold lb_J7_fill_53178_21_5 at h
  refine am_blk hc X 5 2 (fr' := (7, [(0, am_r 12 21 0), (1, am_i x1), (2, am_i x2), (3, am_i x3)], [am_i x3, am_i x2], σ)) rfl ⟨trivial, trivial, trivial⟩ ?_
  refine am_icmp_ge hc X 7 (tgt := 20) rfl (by decide) (fun c2 => ?_) (fun c2 => ?_)
  · replace h := am_ip c2 h
    obtain rfl := Option.some.inj h
    exact am_vret hc X hr 14 rfl rfl rfl
  · replace h := am_in2 c2 h
    obtain ⟨ob1, h⟩ := am_ci h
    refine am_blk hc X 8 6 (fr' := (5, [(0, am_r 12 21 0), (1, am_i x1), (2, am_i (x2 + 1)), (3, am_i x3)], [], (am_u σ 12 21 0 ((x2 : Int32).toNatClampNeg) x1))) rfl ⟨trivial, trivial, trivial, (am_in_vp ob1), trivial, trivial, trivial⟩ ?_
    exact hk5 x1 (x2 + 1) x3 _ h
def lp_J7_fill_53178_21_5  : Nat → Int32 → Int32 → Int32 → am_S → Option (am_S)
  | 0 => fun _ _ _ _ => none
  | n + 1 => lb_J7_fill_53178_21_5  (lp_J7_fill_53178_21_5  n)
theorem ll_J7_fill_53178_21_5 {p : Program} {l : Launch} {e : Env} {s : State} {m : MethodId} {args : Array Value} {below : List Frame} {meth : Method} {c : Code} {G : am_G} {q : am_S} (X : am_X p s m args c cJ7_fill_53178 yJ7_fill_53178.cls 4 am_pJ G (am_fr G)) (hr : meth.sig.returnType = none ∧ meth.locks = false)    : ∀ (n : Nat) (x1 : Int32) (x2 : Int32) (x3 : Int32) (σ : am_S), lp_J7_fill_53178_21_5  n x1 x2 x3 σ = some q → am_A p l e (am_ro 0) s m args below meth c 4 G (am_fr G) 0 0 (MQ below (am_Qc G none q) args s 0 0 (am_fr G)) (5, [(0, am_r 12 21 0), (1, am_i x1), (2, am_i x2), (3, am_i x3)], [], σ) := by
  intro n
  induction n with
  | zero =>
    intro x1 x2 x3 σ h
    have h : (none : Option (am_S)) = some q := h
    cases h
  | succ n ih =>
    intro x1 x2 x3 σ h
    exact lc_J7_fill_53178_21_5 X hr  (lp_J7_fill_53178_21_5  n) ih x1 x2 x3 σ h
def fn_J7_fill_53178_21 (a1 : Int32) (σ : am_S) : Option (am_S) :=
  lp_J7_fill_53178_21_5  1000 a1 0 7 (σ)
set_option maxRecDepth 100000 in
theorem ok_J7_fill_53178_21 (l : Launch) (a1 : Int32) (σ : am_S) {q : am_S} (h : fn_J7_fill_53178_21 a1 σ = some q) : am_M l yJ7_fill_53178 cJ7_fill_53178 4 none 0 [am_r 12 21 0, am_i a1] σ none q := by
  refine am_M_of (P := am_pJ) (by decide +kernel) am_pJ_ok rfl ?_
  intro G p e s m args below meth c X hr
  have hc := ct_J7_fill_53178
  unfold fn_J7_fill_53178_21 at h
  refine am_blk hc X 0 5 (fr' := (5, [(0, am_r 12 21 0), (1, am_i a1), (2, am_i 0), (3, am_i 7)], [], σ)) rfl ⟨trivial, trivial, trivial, trivial, trivial, trivial⟩ ?_
  exact ll_J7_fill_53178_21_5 X hr   1000 a1 0 7 _ h
def jn_X6_bestPlace_136 (k110 : Int32 → Int32 → am_S → Option (Int32 × am_S)) (x3 : Int32) (x4 : Int32) (σ : am_S) : Option (Int32 × am_S) :=
  k110 x3 (x4 + 1) (σ)
set_option maxRecDepth 100000 in
theorem jl_X6_bestPlace_136 {p : Program} {l : Launch} {e : Env} {s : State} {m : MethodId} {args : Array Value} {below : List Frame} {meth : Method} {c : Code} {G : am_G} {q : Int32 × am_S} (X : am_X p s m args c cX6_bestPlace yX6_bestPlace.cls 7 am_p6 G (am_fr G)) (hr : meth.sig.returnType = (some .int) ∧ meth.locks = false)  (k110 : Int32 → Int32 → am_S → Option (Int32 × am_S)) (hk110 : ∀ (x3 : Int32) (x4 : Int32) (σ : am_S), k110 x3 x4 σ = some q → am_A p l e (am_ro 5) s m args below meth c 7 G (am_fr G) 0 0 (MQ below (am_Qc G (some (am_i q.1)) q.2) args s 0 0 (am_fr G)) (110, [(0, am_r 12 17 0), (3, am_i x3), (4, am_i x4)], [], σ)) (x3 : Int32) (x4 : Int32) (σ : am_S) (h : jn_X6_bestPlace_136 k110 x3 x4 σ = some q) : am_A p l e (am_ro 5) s m args below meth c 7 G (am_fr G) 0 0 (MQ below (am_Qc G (some (am_i q.1)) q.2) args s 0 0 (am_fr G)) (136, [(0, am_r 12 17 0), (3, am_i x3), (4, am_i x4)], [], σ) := by
  have hc := ct_X6_bestPlace
  unfold jn_X6_bestPlace_136 at h
  refine am_blk hc X 74 2 (fr' := (110, [(0, am_r 12 17 0), (3, am_i x3), (4, am_i (x4 + 1))], [], σ)) rfl ⟨trivial, trivial, trivial⟩ ?_
  exact hk110 x3 (x4 + 1) _ h
def lb_X6_bestPlace_110 (k110 : Int32 → Int32 → am_S → Option (Int32 × am_S)) (x3 : Int32) (x4 : Int32) (σ : am_S) : Option (Int32 × am_S) :=
  (if 7 ≤ x4 then some (x3, σ) else (bif am_in x4 7 then (bif am_in x3 7 then (if (σ.1 12 21 0 ((x3 : Int32).toNatClampNeg)) ≤ (σ.1 12 21 0 ((x4 : Int32).toNatClampNeg)) then jn_X6_bestPlace_136 k110 x3 x4 (σ) else jn_X6_bestPlace_136 k110 x4 x4 (σ)) else none) else none))
set_option maxRecDepth 100000 in
theorem lc_X6_bestPlace_110 {p : Program} {l : Launch} {e : Env} {s : State} {m : MethodId} {args : Array Value} {below : List Frame} {meth : Method} {c : Code} {G : am_G} {q : Int32 × am_S} (X : am_X p s m args c cX6_bestPlace yX6_bestPlace.cls 7 am_p6 G (am_fr G)) (hr : meth.sig.returnType = (some .int) ∧ meth.locks = false)  (k110 : Int32 → Int32 → am_S → Option (Int32 × am_S)) (hk110 : ∀ (x3 : Int32) (x4 : Int32) (σ : am_S), k110 x3 x4 σ = some q → am_A p l e (am_ro 5) s m args below meth c 7 G (am_fr G) 0 0 (MQ below (am_Qc G (some (am_i q.1)) q.2) args s 0 0 (am_fr G)) (110, [(0, am_r 12 17 0), (3, am_i x3), (4, am_i x4)], [], σ)) (x3 : Int32) (x4 : Int32) (σ : am_S) (h : lb_X6_bestPlace_110 k110 x3 x4 σ = some q) : am_A p l e (am_ro 5) s m args below meth c 7 G (am_fr G) 0 0 (MQ below (am_Qc G (some (am_i q.1)) q.2) args s 0 0 (am_fr G)) (110, [(0, am_r 12 17 0), (3, am_i x3), (4, am_i x4)], [], σ) := by
  have hc := ct_X6_bestPlace
  unfold lb_X6_bestPlace_110 at h
  refine am_blk hc X 60 2 (fr' := (114, [(0, am_r 12 17 0), (3, am_i x3), (4, am_i x4)], [am_i 7, am_i x4], σ)) rfl ⟨trivial, trivial, trivial⟩ ?_
  refine am_icmp_ge hc X 62 (tgt := 142) rfl (by decide) (fun c6 => ?_) (fun c6 => ?_)
  · replace h := am_ip c6 h
    refine am_blk hc X 76 1 (fr' := (143, [(0, am_r 12 17 0), (3, am_i x3), (4, am_i x4)], [am_i x3], σ)) rfl ⟨trivial, trivial⟩ ?_
    obtain rfl := Option.some.inj h
    exact am_iret hc X hr 77 rfl rfl rfl
  · replace h := am_in2 c6 h
    obtain ⟨ob3, h⟩ := am_ci h
    obtain ⟨ob4, h⟩ := am_ci h
    refine am_blk hc X 63 8 (fr' := (130, [(0, am_r 12 17 0), (3, am_i x3), (4, am_i x4)], [am_i (σ.1 12 21 0 ((x3 : Int32).toNatClampNeg)), am_i (σ.1 12 21 0 ((x4 : Int32).toNatClampNeg))], σ)) rfl ⟨trivial, trivial, trivial, (am_in_vp ob3), trivial, trivial, trivial, (am_in_vp ob4), trivial⟩ ?_
    refine am_icmp_ge hc X 71 (tgt := 136) rfl (by decide) (fun c5 => ?_) (fun c5 => ?_)
    · replace h := am_ip c5 h
      exact jl_X6_bestPlace_136 X hr k110 hk110 x3 x4 _ h
    · replace h := am_in2 c5 h
      refine am_blk hc X 72 2 (fr' := (136, [(0, am_r 12 17 0), (3, am_i x4), (4, am_i x4)], [], σ)) rfl ⟨trivial, trivial, trivial⟩ ?_
      exact jl_X6_bestPlace_136 X hr k110 hk110 x4 x4 _ h
def lp_X6_bestPlace_110  : Nat → Int32 → Int32 → am_S → Option (Int32 × am_S)
  | 0 => fun _ _ _ => none
  | n + 1 => lb_X6_bestPlace_110  (lp_X6_bestPlace_110  n)
theorem ll_X6_bestPlace_110 {p : Program} {l : Launch} {e : Env} {s : State} {m : MethodId} {args : Array Value} {below : List Frame} {meth : Method} {c : Code} {G : am_G} {q : Int32 × am_S} (X : am_X p s m args c cX6_bestPlace yX6_bestPlace.cls 7 am_p6 G (am_fr G)) (hr : meth.sig.returnType = (some .int) ∧ meth.locks = false)    : ∀ (n : Nat) (x3 : Int32) (x4 : Int32) (σ : am_S), lp_X6_bestPlace_110  n x3 x4 σ = some q → am_A p l e (am_ro 5) s m args below meth c 7 G (am_fr G) 0 0 (MQ below (am_Qc G (some (am_i q.1)) q.2) args s 0 0 (am_fr G)) (110, [(0, am_r 12 17 0), (3, am_i x3), (4, am_i x4)], [], σ) := by
  intro n
  induction n with
  | zero =>
    intro x3 x4 σ h
    have h : (none : Option (Int32 × am_S)) = some q := h
    cases h
  | succ n ih =>
    intro x3 x4 σ h
    exact lc_X6_bestPlace_110 X hr  (lp_X6_bestPlace_110  n) ih x3 x4 σ h
def jn_X6_bestPlace_92 (k10 : Nat → Int32 → Int32 → am_S → Option (Int32 × am_S)) (k38 : Nat → Int32 → Int32 → Nat → Nat → Int32 → am_S → Option (Int32 × am_S)) (ox1 : Nat) (x2 : Int32) (x3 : Int32) (ox4 : Nat) (ix4 : Nat) (x5 : Int32) (y0 : Int32) (y1 : Int32) (σ : am_S) : Option (Int32 × am_S) :=
  (bif am_in y1 7 then k38 ox1 x2 x3 ox4 ix4 (x5 + 1) (am_u σ 12 21 0 ((y1 : Int32).toNatClampNeg) y0) else none)
set_option maxRecDepth 100000 in
theorem jl_X6_bestPlace_92 {p : Program} {l : Launch} {e : Env} {s : State} {m : MethodId} {args : Array Value} {below : List Frame} {meth : Method} {c : Code} {G : am_G} {q : Int32 × am_S} (X : am_X p s m args c cX6_bestPlace yX6_bestPlace.cls 7 am_p6 G (am_fr G)) (hr : meth.sig.returnType = (some .int) ∧ meth.locks = false)  (k10 : Nat → Int32 → Int32 → am_S → Option (Int32 × am_S)) (k38 : Nat → Int32 → Int32 → Nat → Nat → Int32 → am_S → Option (Int32 × am_S)) (hk10 : ∀ (ox1 : Nat) (x2 : Int32) (x3 : Int32) (σ : am_S), k10 ox1 x2 x3 σ = some q → am_A p l e (am_ro 5) s m args below meth c 7 G (am_fr G) 0 0 (MQ below (am_Qc G (some (am_i q.1)) q.2) args s 0 0 (am_fr G)) (10, [(0, am_r 12 17 0), (1, am_r ox1 2 0), (2, am_i x2), (3, am_i x3)], [], σ)) (hk38 : ∀ (ox1 : Nat) (x2 : Int32) (x3 : Int32) (ox4 : Nat) (ix4 : Nat) (x5 : Int32) (σ : am_S), k38 ox1 x2 x3 ox4 ix4 x5 σ = some q → am_A p l e (am_ro 5) s m args below meth c 7 G (am_fr G) 0 0 (MQ below (am_Qc G (some (am_i q.1)) q.2) args s 0 0 (am_fr G)) (38, [(0, am_r 12 17 0), (1, am_r ox1 2 0), (2, am_i x2), (3, am_i x3), (4, am_r ox4 8 ix4), (5, am_i x5)], [], σ)) (ox1 : Nat) (x2 : Int32) (x3 : Int32) (ox4 : Nat) (ix4 : Nat) (x5 : Int32) (y0 : Int32) (y1 : Int32) (σ : am_S) (h : jn_X6_bestPlace_92 k10 k38 ox1 x2 x3 ox4 ix4 x5 y0 y1 σ = some q) : am_A p l e (am_ro 5) s m args below meth c 7 G (am_fr G) 0 0 (MQ below (am_Qc G (some (am_i q.1)) q.2) args s 0 0 (am_fr G)) (92, [(0, am_r 12 17 0), (1, am_r ox1 2 0), (2, am_i x2), (3, am_i x3), (4, am_r ox4 8 ix4), (5, am_i x5)], [am_i y0, am_i y1, am_r 12 21 0], σ) := by
  have hc := ct_X6_bestPlace
  unfold jn_X6_bestPlace_92 at h
  obtain ⟨ob13, h⟩ := am_ci h
  refine am_blk hc X 51 3 (fr' := (38, [(0, am_r 12 17 0), (1, am_r ox1 2 0), (2, am_i x2), (3, am_i x3), (4, am_r ox4 8 ix4), (5, am_i (x5 + 1))], [], (am_u σ 12 21 0 ((y1 : Int32).toNatClampNeg) y0))) rfl ⟨(am_in_vp ob13), trivial, trivial, trivial⟩ ?_
  exact hk38 ox1 x2 x3 ox4 ix4 (x5 + 1) _ h
def lb_X6_bestPlace_38 (k10 : Nat → Int32 → Int32 → am_S → Option (Int32 × am_S)) (k38 : Nat → Int32 → Int32 → Nat → Nat → Int32 → am_S → Option (Int32 × am_S)) (ox1 : Nat) (x2 : Int32) (x3 : Int32) (ox4 : Nat) (ix4 : Nat) (x5 : Int32) (σ : am_S) : Option (Int32 × am_S) :=
  (if 7 ≤ x5 then k10 ox1 x2 (x3 + 1) (σ) else (fn_X6_between (σ.1 ox4 8 ix4 3) x5 (σ)).bind fun q10 => (if x2 = 0 then (bif am_in x5 7 then jn_X6_bestPlace_92 k10 k38 ox1 x2 x3 ox4 ix4 x5 ((q10.2.1 12 21 0 ((x5 : Int32).toNatClampNeg)) + q10.1) x5 q10.2 else none) else (bif am_in x5 7 then jn_X6_bestPlace_92 k10 k38 ox1 x2 x3 ox4 ix4 x5 (if (q10.2.1 12 21 0 ((x5 : Int32).toNatClampNeg)) < q10.1 then q10.1 else (q10.2.1 12 21 0 ((x5 : Int32).toNatClampNeg))) x5 q10.2 else none)))
set_option maxRecDepth 100000 in
theorem lc_X6_bestPlace_38 {p : Program} {l : Launch} {e : Env} {s : State} {m : MethodId} {args : Array Value} {below : List Frame} {meth : Method} {c : Code} {G : am_G} {q : Int32 × am_S} (X : am_X p s m args c cX6_bestPlace yX6_bestPlace.cls 7 am_p6 G (am_fr G)) (hr : meth.sig.returnType = (some .int) ∧ meth.locks = false)  (k10 : Nat → Int32 → Int32 → am_S → Option (Int32 × am_S)) (k38 : Nat → Int32 → Int32 → Nat → Nat → Int32 → am_S → Option (Int32 × am_S)) (hk10 : ∀ (ox1 : Nat) (x2 : Int32) (x3 : Int32) (σ : am_S), k10 ox1 x2 x3 σ = some q → am_A p l e (am_ro 5) s m args below meth c 7 G (am_fr G) 0 0 (MQ below (am_Qc G (some (am_i q.1)) q.2) args s 0 0 (am_fr G)) (10, [(0, am_r 12 17 0), (1, am_r ox1 2 0), (2, am_i x2), (3, am_i x3)], [], σ)) (hk38 : ∀ (ox1 : Nat) (x2 : Int32) (x3 : Int32) (ox4 : Nat) (ix4 : Nat) (x5 : Int32) (σ : am_S), k38 ox1 x2 x3 ox4 ix4 x5 σ = some q → am_A p l e (am_ro 5) s m args below meth c 7 G (am_fr G) 0 0 (MQ below (am_Qc G (some (am_i q.1)) q.2) args s 0 0 (am_fr G)) (38, [(0, am_r 12 17 0), (1, am_r ox1 2 0), (2, am_i x2), (3, am_i x3), (4, am_r ox4 8 ix4), (5, am_i x5)], [], σ)) (ox1 : Nat) (x2 : Int32) (x3 : Int32) (ox4 : Nat) (ix4 : Nat) (x5 : Int32) (σ : am_S) (h : lb_X6_bestPlace_38 k10 k38 ox1 x2 x3 ox4 ix4 x5 σ = some q) : am_A p l e (am_ro 5) s m args below meth c 7 G (am_fr G) 0 0 (MQ below (am_Qc G (some (am_i q.1)) q.2) args s 0 0 (am_fr G)) (38, [(0, am_r 12 17 0), (1, am_r ox1 2 0), (2, am_i x2), (3, am_i x3), (4, am_r ox4 8 ix4), (5, am_i x5)], [], σ) := by
  have hc := ct_X6_bestPlace
  unfold lb_X6_bestPlace_38 at h
  refine am_blk hc X 23 2 (fr' := (42, [(0, am_r 12 17 0), (1, am_r ox1 2 0), (2, am_i x2), (3, am_i x3), (4, am_r ox4 8 ix4), (5, am_i x5)], [am_i 7, am_i x5], σ)) rfl ⟨trivial, trivial, trivial⟩ ?_
  refine am_icmp_ge hc X 25 (tgt := 99) rfl (by decide) (fun c16 => ?_) (fun c16 => ?_)
  · replace h := am_ip c16 h
    refine am_blk hc X 54 2 (fr' := (10, [(0, am_r 12 17 0), (1, am_r ox1 2 0), (2, am_i x2), (3, am_i (x3 + 1)), (4, am_r ox4 8 ix4), (5, am_i x5)], [], σ)) rfl ⟨trivial, trivial, trivial⟩ ?_
    refine am_less [0, 1, 2, 3] rfl ?_
    exact hk10 ox1 x2 (x3 + 1) _ h
  · replace h := am_in2 c16 h
    refine am_blk hc X 26 5 (fr' := (52, [(0, am_r 12 17 0), (1, am_r ox1 2 0), (2, am_i x2), (3, am_i x3), (4, am_r ox4 8 ix4), (5, am_i x5)], [am_i x5, am_i (σ.1 ox4 8 ix4 3), am_r 12 17 0], σ)) rfl ⟨trivial, trivial, trivial, (am_in_vp (by decide)), trivial, trivial⟩ ?_
    obtain ⟨q10, hq11, h⟩ := am_bs h
    refine am_callV hc 31 X (k := 17) (i := 0) (o := 12) (As := [am_i (σ.1 ox4 8 ix4 3), am_i x5]) (rest := []) rfl (ok_X6_between l (σ.1 ox4 8 ix4 3) x5 (σ) hq11) yv_X6_between ml_X6_68 (cl_17) rfl rfl rfl rfl rfl ?_
    refine am_blk hc X 32 5 (fr' := (64, [(0, am_r 12 17 0), (1, am_r ox1 2 0), (2, am_i x2), (3, am_i x3), (4, am_r ox4 8 ix4), (5, am_i x5), (6, am_i q10.1)], [am_i x2, am_i x5, am_r 12 21 0], q10.2)) rfl ⟨trivial, trivial, trivial, trivial, trivial, trivial⟩ ?_
    refine am_if_ne hc X 37 (tgt := 80) rfl (by decide) (fun c15 => ?_) (fun c15 => ?_)
    · replace h := am_in2 c15 h
      obtain ⟨ob12, h⟩ := am_ci h
      refine am_blk hc X 45 5 (fr' := (89, [(0, am_r 12 17 0), (1, am_r ox1 2 0), (2, am_i x2), (3, am_i x3), (4, am_r ox4 8 ix4), (5, am_i x5), (6, am_i q10.1)], [am_i q10.1, am_i (q10.2.1 12 21 0 ((x5 : Int32).toNatClampNeg)), am_i x5, am_r 12 21 0], q10.2)) rfl ⟨trivial, trivial, trivial, (am_in_vp ob12), trivial, trivial⟩ ?_
      refine am_mmax hc 50 X (rest := [am_i x5, am_r 12 21 0]) rfl ml_X6_78 am_wmax rfl rfl ?_
      refine am_less [0, 1, 2, 3, 4, 5] rfl ?_
      exact jl_X6_bestPlace_92 X hr k10 k38 hk10 hk38 ox1 x2 x3 ox4 ix4 x5 (if (q10.2.1 12 21 0 ((x5 : Int32).toNatClampNeg)) < q10.1 then q10.1 else (q10.2.1 12 21 0 ((x5 : Int32).toNatClampNeg))) x5 _ h
    · replace h := am_ip c15 h
      obtain ⟨ob14, h⟩ := am_ci h
      refine am_blk hc X 38 7 (fr' := (92, [(0, am_r 12 17 0), (1, am_r ox1 2 0), (2, am_i x2), (3, am_i x3), (4, am_r ox4 8 ix4), (5, am_i x5), (6, am_i q10.1)], [am_i ((q10.2.1 12 21 0 ((x5 : Int32).toNatClampNeg)) + q10.1), am_i x5, am_r 12 21 0], q10.2)) rfl ⟨trivial, trivial, trivial, (am_in_vp ob14), trivial, trivial, trivial, trivial⟩ ?_
      refine am_less [0, 1, 2, 3, 4, 5] rfl ?_
      exact jl_X6_bestPlace_92 X hr k10 k38 hk10 hk38 ox1 x2 x3 ox4 ix4 x5 ((q10.2.1 12 21 0 ((x5 : Int32).toNatClampNeg)) + q10.1) x5 _ h
def lp_X6_bestPlace_38 (k10 : Nat → Int32 → Int32 → am_S → Option (Int32 × am_S)) : Nat → Nat → Int32 → Int32 → Nat → Nat → Int32 → am_S → Option (Int32 × am_S)
  | 0 => fun _ _ _ _ _ _ _ => none
  | n + 1 => lb_X6_bestPlace_38 k10 (lp_X6_bestPlace_38 k10 n)
theorem ll_X6_bestPlace_38 {p : Program} {l : Launch} {e : Env} {s : State} {m : MethodId} {args : Array Value} {below : List Frame} {meth : Method} {c : Code} {G : am_G} {q : Int32 × am_S} (X : am_X p s m args c cX6_bestPlace yX6_bestPlace.cls 7 am_p6 G (am_fr G)) (hr : meth.sig.returnType = (some .int) ∧ meth.locks = false)  (k10 : Nat → Int32 → Int32 → am_S → Option (Int32 × am_S)) (hk10 : ∀ (ox1 : Nat) (x2 : Int32) (x3 : Int32) (σ : am_S), k10 ox1 x2 x3 σ = some q → am_A p l e (am_ro 5) s m args below meth c 7 G (am_fr G) 0 0 (MQ below (am_Qc G (some (am_i q.1)) q.2) args s 0 0 (am_fr G)) (10, [(0, am_r 12 17 0), (1, am_r ox1 2 0), (2, am_i x2), (3, am_i x3)], [], σ)) : ∀ (n : Nat) (ox1 : Nat) (x2 : Int32) (x3 : Int32) (ox4 : Nat) (ix4 : Nat) (x5 : Int32) (σ : am_S), lp_X6_bestPlace_38 k10 n ox1 x2 x3 ox4 ix4 x5 σ = some q → am_A p l e (am_ro 5) s m args below meth c 7 G (am_fr G) 0 0 (MQ below (am_Qc G (some (am_i q.1)) q.2) args s 0 0 (am_fr G)) (38, [(0, am_r 12 17 0), (1, am_r ox1 2 0), (2, am_i x2), (3, am_i x3), (4, am_r ox4 8 ix4), (5, am_i x5)], [], σ) := by
  intro n
  induction n with
  | zero =>
    intro ox1 x2 x3 ox4 ix4 x5 σ h
    have h : (none : Option (Int32 × am_S)) = some q := h
    cases h
  | succ n ih =>
    intro ox1 x2 x3 ox4 ix4 x5 σ h
    exact lc_X6_bestPlace_38 X hr k10 (lp_X6_bestPlace_38 k10 n) hk10 ih ox1 x2 x3 ox4 ix4 x5 σ h
def lb_X6_bestPlace_10 (k10 : Nat → Int32 → Int32 → am_S → Option (Int32 × am_S)) (ox1 : Nat) (x2 : Int32) (x3 : Int32) (σ : am_S) : Option (Int32 × am_S) :=
  (if (σ.1 ox1 2 0 4) ≤ x3 then lp_X6_bestPlace_110  1000 0 1 (σ) else (bif am_in x3 6 then (fn_X6_measure_8 ox1 ox1 ((x3 : Int32).toNatClampNeg) x2 (-1) (σ)).bind fun q8 => lp_X6_bestPlace_38 k10 1000 ox1 x2 x3 ox1 ((x3 : Int32).toNatClampNeg) 0 q8 else none))
set_option maxRecDepth 100000 in
theorem lc_X6_bestPlace_10 {p : Program} {l : Launch} {e : Env} {s : State} {m : MethodId} {args : Array Value} {below : List Frame} {meth : Method} {c : Code} {G : am_G} {q : Int32 × am_S} (X : am_X p s m args c cX6_bestPlace yX6_bestPlace.cls 7 am_p6 G (am_fr G)) (hr : meth.sig.returnType = (some .int) ∧ meth.locks = false)  (k10 : Nat → Int32 → Int32 → am_S → Option (Int32 × am_S)) (hk10 : ∀ (ox1 : Nat) (x2 : Int32) (x3 : Int32) (σ : am_S), k10 ox1 x2 x3 σ = some q → am_A p l e (am_ro 5) s m args below meth c 7 G (am_fr G) 0 0 (MQ below (am_Qc G (some (am_i q.1)) q.2) args s 0 0 (am_fr G)) (10, [(0, am_r 12 17 0), (1, am_r ox1 2 0), (2, am_i x2), (3, am_i x3)], [], σ)) (ox1 : Nat) (x2 : Int32) (x3 : Int32) (σ : am_S) (h : lb_X6_bestPlace_10 k10 ox1 x2 x3 σ = some q) : am_A p l e (am_ro 5) s m args below meth c 7 G (am_fr G) 0 0 (MQ below (am_Qc G (some (am_i q.1)) q.2) args s 0 0 (am_fr G)) (10, [(0, am_r 12 17 0), (1, am_r ox1 2 0), (2, am_i x2), (3, am_i x3)], [], σ) := by
  have hc := ct_X6_bestPlace
  unfold lb_X6_bestPlace_10 at h
  refine am_blk hc X 6 3 (fr' := (15, [(0, am_r 12 17 0), (1, am_r ox1 2 0), (2, am_i x2), (3, am_i x3)], [am_i (σ.1 ox1 2 0 4), am_i x3], σ)) rfl ⟨trivial, trivial, trivial, trivial⟩ ?_
  refine am_icmp_ge hc X 9 (tgt := 105) rfl (by decide) (fun c17 => ?_) (fun c17 => ?_)
  · replace h := am_ip c17 h
    refine am_blk hc X 56 4 (fr' := (110, [(0, am_r 12 17 0), (1, am_r ox1 2 0), (2, am_i x2), (3, am_i 0), (4, am_i 1)], [], σ)) rfl ⟨trivial, trivial, trivial, trivial, trivial⟩ ?_
    refine am_less [0, 3, 4] rfl ?_
    exact ll_X6_bestPlace_110 X hr   1000 0 1 _ h
  · replace h := am_in2 c17 h
    obtain ⟨ob7, h⟩ := am_ci h
    refine am_blk hc X 10 10 (fr' := (32, [(0, am_r 12 17 0), (1, am_r ox1 2 0), (2, am_i x2), (3, am_i x3), (4, am_r ox1 8 ((x3 : Int32).toNatClampNeg))], [am_i (-1), am_i x2, am_r ox1 8 ((x3 : Int32).toNatClampNeg), am_r ox1 2 0, am_r 12 17 0], σ)) rfl ⟨trivial, trivial, trivial, (am_in_vp ob7), trivial, trivial, trivial, trivial, trivial, trivial, trivial⟩ ?_
    obtain ⟨q8, hq9, h⟩ := am_bs h
    refine am_callV hc 20 X (k := 17) (i := 0) (o := 12) (As := [am_r ox1 2 0, am_r ox1 8 ((x3 : Int32).toNatClampNeg), am_i x2, am_i (-1)]) (rest := []) rfl (ok_X6_measure_8 l ox1 ox1 ((x3 : Int32).toNatClampNeg) x2 (-1) (σ) hq9) yv_X6_measure ml_X6_60 (cl_17) rfl rfl rfl rfl rfl ?_
    refine am_blk hc X 21 2 (fr' := (38, [(0, am_r 12 17 0), (1, am_r ox1 2 0), (2, am_i x2), (3, am_i x3), (4, am_r ox1 8 ((x3 : Int32).toNatClampNeg)), (5, am_i 0)], [], q8)) rfl ⟨trivial, trivial, trivial⟩ ?_
    exact ll_X6_bestPlace_38 X hr k10 hk10 1000 ox1 x2 x3 ox1 ((x3 : Int32).toNatClampNeg) 0 _ h
def lp_X6_bestPlace_10  : Nat → Nat → Int32 → Int32 → am_S → Option (Int32 × am_S)
  | 0 => fun _ _ _ _ => none
  | n + 1 => lb_X6_bestPlace_10  (lp_X6_bestPlace_10  n)
theorem ll_X6_bestPlace_10 {p : Program} {l : Launch} {e : Env} {s : State} {m : MethodId} {args : Array Value} {below : List Frame} {meth : Method} {c : Code} {G : am_G} {q : Int32 × am_S} (X : am_X p s m args c cX6_bestPlace yX6_bestPlace.cls 7 am_p6 G (am_fr G)) (hr : meth.sig.returnType = (some .int) ∧ meth.locks = false)    : ∀ (n : Nat) (ox1 : Nat) (x2 : Int32) (x3 : Int32) (σ : am_S), lp_X6_bestPlace_10  n ox1 x2 x3 σ = some q → am_A p l e (am_ro 5) s m args below meth c 7 G (am_fr G) 0 0 (MQ below (am_Qc G (some (am_i q.1)) q.2) args s 0 0 (am_fr G)) (10, [(0, am_r 12 17 0), (1, am_r ox1 2 0), (2, am_i x2), (3, am_i x3)], [], σ) := by
  intro n
  induction n with
  | zero =>
    intro ox1 x2 x3 σ h
    have h : (none : Option (Int32 × am_S)) = some q := h
    cases h
  | succ n ih =>
    intro ox1 x2 x3 σ h
    exact lc_X6_bestPlace_10 X hr  (lp_X6_bestPlace_10  n) ih ox1 x2 x3 σ h
def fn_X6_bestPlace (oa1 : Nat) (a2 : Int32) (σ : am_S) : Option (Int32 × am_S) :=
  (fn_J7_fill_53178_21 0 (σ)).bind fun q1 => lp_X6_bestPlace_10  1000 oa1 a2 0 q1
set_option maxRecDepth 100000 in
theorem ok_X6_bestPlace (l : Launch) (oa1 : Nat) (a2 : Int32) (σ : am_S) {q : Int32 × am_S} (h : fn_X6_bestPlace oa1 a2 σ = some q) : am_M l yX6_bestPlace cX6_bestPlace 7 (some .int) 5 [am_r 12 17 0, am_r oa1 2 0, am_i a2] σ (some (am_i q.1)) q.2 := by
  refine am_M_of (P := am_p6) (by decide +kernel) am_p6_ok rfl ?_
  intro G p e s m args below meth c X hr
  have hc := ct_X6_bestPlace
  unfold fn_X6_bestPlace at h
  refine am_blk hc X 0 3 (fr' := (5, [(0, am_r 12 17 0), (1, am_r oa1 2 0), (2, am_i a2)], [am_i 0, am_r 12 21 0], σ)) rfl ⟨trivial, trivial, trivial, trivial⟩ ?_
  obtain ⟨q1, hq2, h⟩ := am_bs h
  refine am_callS hc 3 X (As := [am_r 12 21 0, am_i 0]) (rest := []) rfl (ok_J7_fill_53178_21 l 0 (σ) hq2) yv_J7_fill_53178 ml_X6_24 rfl rfl rfl rfl rfl ?_
  refine am_blk hc X 4 2 (fr' := (10, [(0, am_r 12 17 0), (1, am_r oa1 2 0), (2, am_i a2), (3, am_i 0)], [], q1)) rfl ⟨trivial, trivial, trivial⟩ ?_
  exact ll_X6_bestPlace_10 X hr   1000 oa1 a2 0 _ h
def fn_X7_isWithin (a0 : Int32) (a1 : Int32) (a2 : Int32) (σ : am_S) : Option (Int32 × am_S) :=
  (if a0 < a1 then some (0, σ) else (if a2 < a0 then some (0, σ) else some (1, σ)))
set_option maxRecDepth 100000 in
theorem ok_X7_isWithin (l : Launch) (a0 : Int32) (a1 : Int32) (a2 : Int32) (σ : am_S) {q : Int32 × am_S} (h : fn_X7_isWithin a0 a1 a2 σ = some q) : am_M l yX7_isWithin cX7_isWithin 3 (some .boolean) 0 [am_i a0, am_i a1, am_i a2] σ (some (am_i q.1)) q.2 := by
  refine am_M_of (P := am_p7) (by decide +kernel) am_p7_ok rfl ?_
  intro G p e s m args below meth c X hr
  have hc := ct_X7_isWithin
  unfold fn_X7_isWithin at h
  refine am_blk hc X 0 2 (fr' := (2, [(0, am_i a0), (1, am_i a1), (2, am_i a2)], [am_i a1, am_i a0], σ)) rfl ⟨trivial, trivial, trivial⟩ ?_
  refine am_icmp_lt hc X 2 (tgt := 14) rfl (by decide) (fun c2 => ?_) (fun c2 => ?_)
  · replace h := am_ip c2 h
    refine am_blk hc X 8 1 (fr' := (15, [(0, am_i a0), (1, am_i a1), (2, am_i a2)], [am_i 0], σ)) rfl ⟨trivial, trivial⟩ ?_
    obtain rfl := Option.some.inj h
    exact am_zret hc X hr 9 rfl (by decide) rfl rfl
  · replace h := am_in2 c2 h
    refine am_blk hc X 3 2 (fr' := (7, [(0, am_i a0), (1, am_i a1), (2, am_i a2)], [am_i a2, am_i a0], σ)) rfl ⟨trivial, trivial, trivial⟩ ?_
    refine am_icmp_gt hc X 5 (tgt := 14) rfl (by decide) (fun c1 => ?_) (fun c1 => ?_)
    · replace h := am_ip c1 h
      refine am_blk hc X 8 1 (fr' := (15, [(0, am_i a0), (1, am_i a1), (2, am_i a2)], [am_i 0], σ)) rfl ⟨trivial, trivial⟩ ?_
      obtain rfl := Option.some.inj h
      exact am_zret hc X hr 9 rfl (by decide) rfl rfl
    · replace h := am_in2 c1 h
      refine am_blk hc X 6 2 (fr' := (15, [(0, am_i a0), (1, am_i a1), (2, am_i a2)], [am_i 1], σ)) rfl ⟨trivial, trivial, trivial⟩ ?_
      obtain rfl := Option.some.inj h
      exact am_zret hc X hr 9 rfl (by decide) rfl rfl
def fn_X7_refuse (a1 : Int32) (σ : am_S) : Option (Int32 × am_S) :=
  (fn_X7_isWithin ((-2 : Int32) - a1) 0 4 (σ)).bind fun q1 => (if q1.1 = 0 then some (a1, q1.2) else (bif am_in ((-2 : Int32) - a1) 5 then (bif am_in ((-2 : Int32) - a1) 5 then some (a1, (am_u q1.2 0 1 0 ((((-2 : Int32) - a1) : Int32).toNatClampNeg) ((q1.2.1 0 1 0 ((((-2 : Int32) - a1) : Int32).toNatClampNeg)) + (1 : Int32)))) else none) else none))
set_option maxRecDepth 100000 in
theorem ok_X7_refuse (l : Launch) (a1 : Int32) (σ : am_S) {q : Int32 × am_S} (h : fn_X7_refuse a1 σ = some q) : am_M l yX7_refuse cX7_refuse 3 (some .int) 1 [am_r 0 0 0, am_i a1] σ (some (am_i q.1)) q.2 := by
  refine am_M_of (P := am_p7) (by decide +kernel) am_p7_ok rfl ?_
  intro G p e s m args below meth c X hr
  have hc := ct_X7_refuse
  unfold fn_X7_refuse at h
  refine am_blk hc X 0 7 (fr' := (8, [(0, am_r 0 0 0), (1, am_i a1), (2, am_i ((-2 : Int32) - a1))], [am_i 4, am_i 0, am_i ((-2 : Int32) - a1)], σ)) rfl ⟨trivial, trivial, trivial, trivial, trivial, trivial, trivial, trivial⟩ ?_
  obtain ⟨q1, hq2, h⟩ := am_bs h
  refine am_callS hc 7 X (As := [am_i ((-2 : Int32) - a1), am_i 0, am_i 4]) (rest := []) rfl (ok_X7_isWithin l ((-2 : Int32) - a1) 0 4 (σ) hq2) yv_X7_isWithin ml_X7_73 rfl rfl rfl rfl rfl ?_
  refine am_if_eq hc X 8 (tgt := 24) rfl (by decide) (fun c5 => ?_) (fun c5 => ?_)
  · replace h := am_ip c5 h
    refine am_blk hc X 17 1 (fr' := (25, [(0, am_r 0 0 0), (1, am_i a1), (2, am_i ((-2 : Int32) - a1))], [am_i a1], q1.2)) rfl ⟨trivial, trivial⟩ ?_
    obtain rfl := Option.some.inj h
    exact am_iret hc X hr 18 rfl rfl rfl
  · replace h := am_in2 c5 h
    obtain ⟨ob3, h⟩ := am_ci h
    obtain ⟨ob4, h⟩ := am_ci h
    refine am_blk hc X 9 9 (fr' := (25, [(0, am_r 0 0 0), (1, am_i a1), (2, am_i ((-2 : Int32) - a1))], [am_i a1], (am_u q1.2 0 1 0 ((((-2 : Int32) - a1) : Int32).toNatClampNeg) ((q1.2.1 0 1 0 ((((-2 : Int32) - a1) : Int32).toNatClampNeg)) + (1 : Int32))))) rfl ⟨trivial, trivial, trivial, trivial, (am_in_vp ob3), trivial, trivial, (am_in_vp ob4), trivial, trivial⟩ ?_
    obtain rfl := Option.some.inj h
    exact am_iret hc X hr 18 rfl rfl rfl
def jn_X7_isAct_30   (σ : am_S) : Option (Int32 × am_S) :=
  some (1, σ)
set_option maxRecDepth 100000 in
theorem jl_X7_isAct_30 {p : Program} {l : Launch} {e : Env} {s : State} {m : MethodId} {args : Array Value} {below : List Frame} {meth : Method} {c : Code} {G : am_G} {q : Int32 × am_S} (X : am_X p s m args c cX7_isAct yX7_isAct.cls 2 am_p7 G (am_fr G)) (hr : meth.sig.returnType = (some .boolean) ∧ meth.locks = false)     (σ : am_S) (h : jn_X7_isAct_30   σ = some q) : am_A p l e (am_ro 0) s m args below meth c 2 G (am_fr G) 0 0 (MQ below (am_Qc G (some (am_i q.1)) q.2) args s 0 0 (am_fr G)) (30, [], [], σ) := by
  have hc := ct_X7_isAct
  unfold jn_X7_isAct_30 at h
  refine am_blk hc X 16 2 (fr' := (35, [], [am_i 1], σ)) rfl ⟨trivial, trivial, trivial⟩ ?_
  obtain rfl := Option.some.inj h
  exact am_zret hc X hr 19 rfl (by decide) rfl rfl
def jn_X7_isAct_14  (x0 : Int64) (σ : am_S) : Option (Int32 × am_S) :=
  (if (lg_cmp x0 8) = 0 then jn_X7_isAct_30   (σ) else (if (lg_cmp x0 9) = 0 then jn_X7_isAct_30   (σ) else some (0, σ)))
set_option maxRecDepth 100000 in
theorem jl_X7_isAct_14 {p : Program} {l : Launch} {e : Env} {s : State} {m : MethodId} {args : Array Value} {below : List Frame} {meth : Method} {c : Code} {G : am_G} {q : Int32 × am_S} (X : am_X p s m args c cX7_isAct yX7_isAct.cls 2 am_p7 G (am_fr G)) (hr : meth.sig.returnType = (some .boolean) ∧ meth.locks = false)    (x0 : Int64) (σ : am_S) (h : jn_X7_isAct_14  x0 σ = some q) : am_A p l e (am_ro 0) s m args below meth c 2 G (am_fr G) 0 0 (MQ below (am_Qc G (some (am_i q.1)) q.2) args s 0 0 (am_fr G)) (14, [(0, am_l x0)], [], σ) := by
  have hc := ct_X7_isAct
  unfold jn_X7_isAct_14 at h
  refine am_blk hc X 8 3 (fr' := (19, [(0, am_l x0)], [am_i (lg_cmp x0 8)], σ)) rfl ⟨trivial, trivial, trivial, trivial⟩ ?_
  refine am_if_eq hc X 11 (tgt := 30) rfl (by decide) (fun c2 => ?_) (fun c2 => ?_)
  · replace h := am_ip c2 h
    refine am_less [] rfl ?_
    exact jl_X7_isAct_30 X hr    _ h
  · replace h := am_in2 c2 h
    refine am_blk hc X 12 3 (fr' := (27, [(0, am_l x0)], [am_i (lg_cmp x0 9)], σ)) rfl ⟨trivial, trivial, trivial, trivial⟩ ?_
    refine am_if_ne hc X 15 (tgt := 34) rfl (by decide) (fun c1 => ?_) (fun c1 => ?_)
    · replace h := am_in2 c1 h
      refine am_blk hc X 18 1 (fr' := (35, [(0, am_l x0)], [am_i 0], σ)) rfl ⟨trivial, trivial⟩ ?_
      obtain rfl := Option.some.inj h
      exact am_zret hc X hr 19 rfl (by decide) rfl rfl
    · replace h := am_ip c1 h
      refine am_less [] rfl ?_
      exact jl_X7_isAct_30 X hr    _ h
def fn_X7_isAct (a0 : Int64) (σ : am_S) : Option (Int32 × am_S) :=
  (if (lg_cmp a0 0) < 0 then jn_X7_isAct_14  a0 (σ) else (if (lg_cmp a0 5) < 0 then jn_X7_isAct_30   (σ) else jn_X7_isAct_14  a0 (σ)))
set_option maxRecDepth 100000 in
theorem ok_X7_isAct (l : Launch) (a0 : Int64) (σ : am_S) {q : Int32 × am_S} (h : fn_X7_isAct a0 σ = some q) : am_M l yX7_isAct cX7_isAct 2 (some .boolean) 0 [am_l a0] σ (some (am_i q.1)) q.2 := by
  refine am_M_of (P := am_p7) (by decide +kernel) am_p7_ok rfl ?_
  intro G p e s m args below meth c X hr
  have hc := ct_X7_isAct
  unfold fn_X7_isAct at h
  refine am_blk hc X 0 3 (fr' := (3, [(0, am_l a0)], [am_i (lg_cmp a0 0)], σ)) rfl ⟨trivial, trivial, trivial, trivial⟩ ?_
  refine am_if_lt hc X 3 (tgt := 14) rfl (by decide) (fun c4 => ?_) (fun c4 => ?_)
  · replace h := am_ip c4 h
    exact jl_X7_isAct_14 X hr   a0 _ h
  · replace h := am_in2 c4 h
    refine am_blk hc X 4 3 (fr' := (11, [(0, am_l a0)], [am_i (lg_cmp a0 5)], σ)) rfl ⟨trivial, trivial, trivial, trivial⟩ ?_
    refine am_if_lt hc X 7 (tgt := 30) rfl (by decide) (fun c3 => ?_) (fun c3 => ?_)
    · replace h := am_ip c3 h
      refine am_less [] rfl ?_
      exact jl_X7_isAct_30 X hr    _ h
    · replace h := am_in2 c3 h
      exact jl_X7_isAct_14 X hr   a0 _ h
def jn_X7_act_19   (σ : am_S) : Option (Int32 × am_S) :=
  (fn_X7_refuse (-2) (σ)).bind fun q3 => some (q3.1, q3.2)
set_option maxRecDepth 100000 in
theorem jl_X7_act_19 {p : Program} {l : Launch} {e : Env} {s : State} {m : MethodId} {args : Array Value} {below : List Frame} {meth : Method} {c : Code} {G : am_G} {q : Int32 × am_S} (X : am_X p s m args c cX7_act yX7_act.cls 3 am_p7 G (am_fr G)) (hr : meth.sig.returnType = (some .int) ∧ meth.locks = false)     (σ : am_S) (h : jn_X7_act_19   σ = some q) : am_A p l e (am_ro 6) s m args below meth c 3 G (am_fr G) 0 0 (MQ below (am_Qc G (some (am_i q.1)) q.2) args s 0 0 (am_fr G)) (19, [(0, am_r 0 0 0)], [], σ) := by
  have hc := ct_X7_act
  unfold jn_X7_act_19 at h
  refine am_blk hc X 9 2 (fr' := (22, [(0, am_r 0 0 0)], [am_i (-2), am_r 0 0 0], σ)) rfl ⟨trivial, trivial, trivial⟩ ?_
  obtain ⟨q3, hq4, h⟩ := am_bs h
  refine am_callV hc 11 X (k := 0) (i := 0) (o := 0) (As := [am_i (-2)]) (rest := []) rfl (ok_X7_refuse l (-2) (σ) hq4) yv_X7_refuse ml_X7_77 (cl_0) rfl rfl rfl rfl rfl ?_
  obtain rfl := Option.some.inj h
  exact am_iret hc X hr 12 rfl rfl rfl
def fn_X7_act (a1 : Int32) (a2 : Int32) (σ : am_S) : Option (Int32 × am_S) :=
  (fn_X0_hasPerson 1 a1 (σ)).bind fun q1 => (if q1.1 = 0 then jn_X7_act_19   q1.2 else (fn_X7_isAct ((a2 : Int32).toInt64) q1.2).bind fun q5 => (if q5.1 = 0 then jn_X7_act_19   q5.2 else (fn_X0_actInTruth 1 a1 a2 q5.2).bind fun q7 => (if q7.1 = 0 then (fn_X7_refuse (-5) q7.2).bind fun q9 => some (q9.1, q9.2) else (bif am_in a1 6 then some ((q7.2.1 1 8 ((a1 : Int32).toNatClampNeg) 3), q7.2) else none))))
set_option maxRecDepth 100000 in
theorem ok_X7_act (l : Launch) (a1 : Int32) (a2 : Int32) (σ : am_S) {q : Int32 × am_S} (h : fn_X7_act a1 a2 σ = some q) : am_M l yX7_act cX7_act 3 (some .int) 6 [am_r 0 0 0, am_i a1, am_i a2] σ (some (am_i q.1)) q.2 := by
  refine am_M_of (P := am_p7) (by decide +kernel) am_p7_ok rfl ?_
  intro G p e s m args below meth c X hr
  have hc := ct_X7_act
  unfold fn_X7_act at h
  refine am_blk hc X 0 3 (fr' := (5, [(0, am_r 0 0 0), (1, am_i a1), (2, am_i a2)], [am_i a1, am_r 1 2 0], σ)) rfl ⟨trivial, trivial, trivial, trivial⟩ ?_
  obtain ⟨q1, hq2, h⟩ := am_bs h
  refine am_callV hc 3 X (k := 2) (i := 0) (o := 1) (As := [am_i a1]) (rest := []) rfl (ok_X0_hasPerson l 1 a1 (σ) hq2) yv_X0_hasPerson ml_X7_114 (cl_2) rfl rfl rfl rfl rfl ?_
  refine am_if_eq hc X 4 (tgt := 19) rfl (by decide) (fun c14 => ?_) (fun c14 => ?_)
  · replace h := am_ip c14 h
    refine am_less [0] rfl ?_
    exact jl_X7_act_19 X hr    _ h
  · replace h := am_in2 c14 h
    refine am_blk hc X 5 2 (fr' := (13, [(0, am_r 0 0 0), (1, am_i a1), (2, am_i a2)], [am_l ((a2 : Int32).toInt64)], q1.2)) rfl ⟨trivial, trivial, trivial⟩ ?_
    obtain ⟨q5, hq6, h⟩ := am_bs h
    refine am_callS hc 7 X (As := [am_l ((a2 : Int32).toInt64)]) (rest := []) rfl (ok_X7_isAct l ((a2 : Int32).toInt64) q1.2 hq6) yv_X7_isAct ml_X7_288 rfl rfl rfl rfl rfl ?_
    refine am_if_ne hc X 8 (tgt := 26) rfl (by decide) (fun c13 => ?_) (fun c13 => ?_)
    · replace h := am_in2 c13 h
      refine am_blk hc X 13 4 (fr' := (32, [(0, am_r 0 0 0), (1, am_i a1), (2, am_i a2)], [am_i a2, am_i a1, am_r 1 2 0], q5.2)) rfl ⟨trivial, trivial, trivial, trivial, trivial⟩ ?_
      obtain ⟨q7, hq8, h⟩ := am_bs h
      refine am_callV hc 17 X (k := 2) (i := 0) (o := 1) (As := [am_i a1, am_i a2]) (rest := []) rfl (ok_X0_actInTruth l 1 a1 a2 q5.2 hq8) yv_X0_actInTruth ml_X7_292 (cl_2) rfl rfl rfl rfl rfl ?_
      refine am_if_eq hc X 18 (tgt := 52) rfl (by decide) (fun c12 => ?_) (fun c12 => ?_)
      · replace h := am_ip c12 h
        refine am_blk hc X 27 2 (fr' := (55, [(0, am_r 0 0 0), (1, am_i a1), (2, am_i a2)], [am_i (-5), am_r 0 0 0], q7.2)) rfl ⟨trivial, trivial, trivial⟩ ?_
        obtain ⟨q9, hq10, h⟩ := am_bs h
        refine am_callV hc 29 X (k := 0) (i := 0) (o := 0) (As := [am_i (-5)]) (rest := []) rfl (ok_X7_refuse l (-5) q7.2 hq10) yv_X7_refuse ml_X7_77 (cl_0) rfl rfl rfl rfl rfl ?_
        obtain rfl := Option.some.inj h
        exact am_iret hc X hr 30 rfl rfl rfl
      · replace h := am_in2 c12 h
        obtain ⟨ob11, h⟩ := am_ci h
        refine am_blk hc X 19 8 (fr' := (58, [(0, am_r 0 0 0), (1, am_i a1), (2, am_i a2)], [am_i (q7.2.1 1 8 ((a1 : Int32).toNatClampNeg) 3)], q7.2)) rfl ⟨trivial, trivial, trivial, trivial, (am_in_vp ob11), trivial, (am_in_vp (by decide)), trivial, trivial⟩ ?_
        obtain rfl := Option.some.inj h
        exact am_iret hc X hr 30 rfl rfl rfl
    · replace h := am_ip c13 h
      refine am_less [0] rfl ?_
      exact jl_X7_act_19 X hr    _ h
def fn_X7_leastWay (a1 : Int32) (a2 : Int32) (a3 : Int32) (σ : am_S) : Option (Int32 × am_S) :=
  (bif am_in a1 6 then (fn_X6_measure_8 1 1 ((a1 : Int32).toNatClampNeg) a3 (-1) (σ)).bind fun q2 => (fn_X6_between (q2.1 1 8 ((a1 : Int32).toNatClampNeg) 3) a2 q2).bind fun q4 => some (q4.1, q4.2) else none)
set_option maxRecDepth 100000 in
theorem ok_X7_leastWay (l : Launch) (a1 : Int32) (a2 : Int32) (a3 : Int32) (σ : am_S) {q : Int32 × am_S} (h : fn_X7_leastWay a1 a2 a3 σ = some q) : am_M l yX7_leastWay cX7_leastWay 5 (some .int) 5 [am_r 0 0 0, am_i a1, am_i a2, am_i a3] σ (some (am_i q.1)) q.2 := by
  refine am_M_of (P := am_p7) (by decide +kernel) am_p7_ok rfl ?_
  intro G p e s m args below meth c X hr
  have hc := ct_X7_leastWay
  unfold fn_X7_leastWay at h
  obtain ⟨ob1, h⟩ := am_ci h
  refine am_blk hc X 0 13 (fr' := (23, [(0, am_r 0 0 0), (1, am_i a1), (2, am_i a2), (3, am_i a3), (4, am_r 1 8 ((a1 : Int32).toNatClampNeg))], [am_i (-1), am_i a3, am_r 1 8 ((a1 : Int32).toNatClampNeg), am_r 1 2 0, am_r 12 17 0], σ)) rfl ⟨trivial, trivial, trivial, trivial, (am_in_vp ob1), trivial, trivial, trivial, trivial, trivial, trivial, trivial, trivial, trivial⟩ ?_
  obtain ⟨q2, hq3, h⟩ := am_bs h
  refine am_callV hc 13 X (k := 17) (i := 0) (o := 12) (As := [am_r 1 2 0, am_r 1 8 ((a1 : Int32).toNatClampNeg), am_i a3, am_i (-1)]) (rest := []) rfl (ok_X6_measure_8 l 1 1 ((a1 : Int32).toNatClampNeg) a3 (-1) (σ) hq3) yv_X6_measure ml_X7_218 (cl_17) rfl rfl rfl rfl rfl ?_
  refine am_blk hc X 14 6 (fr' := (35, [(0, am_r 0 0 0), (1, am_i a1), (2, am_i a2), (3, am_i a3), (4, am_r 1 8 ((a1 : Int32).toNatClampNeg))], [am_i a2, am_i (q2.1 1 8 ((a1 : Int32).toNatClampNeg) 3), am_r 12 17 0], q2)) rfl ⟨trivial, trivial, trivial, trivial, (am_in_vp (by decide)), trivial, trivial⟩ ?_
  obtain ⟨q4, hq5, h⟩ := am_bs h
  refine am_callV hc 20 X (k := 17) (i := 0) (o := 12) (As := [am_i (q2.1 1 8 ((a1 : Int32).toNatClampNeg) 3), am_i a2]) (rest := []) rfl (ok_X6_between l (q2.1 1 8 ((a1 : Int32).toNatClampNeg) 3) a2 q2 hq5) yv_X6_between ml_X7_222 (cl_17) rfl rfl rfl rfl rfl ?_
  obtain rfl := Option.some.inj h
  exact am_iret hc X hr 21 rfl rfl rfl
def jn_X7_alike_27   (σ : am_S) : Option (Int32 × am_S) :=
  (fn_X7_refuse (-2) (σ)).bind fun q3 => some (q3.1, q3.2)
set_option maxRecDepth 100000 in
theorem jl_X7_alike_27 {p : Program} {l : Launch} {e : Env} {s : State} {m : MethodId} {args : Array Value} {below : List Frame} {meth : Method} {c : Code} {G : am_G} {q : Int32 × am_S} (X : am_X p s m args c cX7_alike yX7_alike.cls 5 am_p7 G (am_fr G)) (hr : meth.sig.returnType = (some .int) ∧ meth.locks = false)     (σ : am_S) (h : jn_X7_alike_27   σ = some q) : am_A p l e (am_ro 6) s m args below meth c 5 G (am_fr G) 0 0 (MQ below (am_Qc G (some (am_i q.1)) q.2) args s 0 0 (am_fr G)) (27, [(0, am_r 0 0 0)], [], σ) := by
  have hc := ct_X7_alike
  unfold jn_X7_alike_27 at h
  refine am_blk hc X 13 2 (fr' := (30, [(0, am_r 0 0 0)], [am_i (-2), am_r 0 0 0], σ)) rfl ⟨trivial, trivial, trivial⟩ ?_
  obtain ⟨q3, hq4, h⟩ := am_bs h
  refine am_callV hc 15 X (k := 0) (i := 0) (o := 0) (As := [am_i (-2)]) (rest := []) rfl (ok_X7_refuse l (-2) (σ) hq4) yv_X7_refuse ml_X7_77 (cl_0) rfl rfl rfl rfl rfl ?_
  obtain rfl := Option.some.inj h
  exact am_iret hc X hr 16 rfl rfl rfl
def jn_X7_alike_72 (k39 : Int32 → Int32 → Int32 → Int32 → am_S → Option (Int32 × am_S)) (x1 : Int32) (x2 : Int32) (x3 : Int32) (x4 : Int32) (σ : am_S) : Option (Int32 × am_S) :=
  k39 x1 x2 x3 (x4 + 1) (σ)
set_option maxRecDepth 100000 in
theorem jl_X7_alike_72 {p : Program} {l : Launch} {e : Env} {s : State} {m : MethodId} {args : Array Value} {below : List Frame} {meth : Method} {c : Code} {G : am_G} {q : Int32 × am_S} (X : am_X p s m args c cX7_alike yX7_alike.cls 5 am_p7 G (am_fr G)) (hr : meth.sig.returnType = (some .int) ∧ meth.locks = false)  (k39 : Int32 → Int32 → Int32 → Int32 → am_S → Option (Int32 × am_S)) (hk39 : ∀ (x1 : Int32) (x2 : Int32) (x3 : Int32) (x4 : Int32) (σ : am_S), k39 x1 x2 x3 x4 σ = some q → am_A p l e (am_ro 6) s m args below meth c 5 G (am_fr G) 0 0 (MQ below (am_Qc G (some (am_i q.1)) q.2) args s 0 0 (am_fr G)) (39, [(0, am_r 0 0 0), (1, am_i x1), (2, am_i x2), (3, am_i x3), (4, am_i x4)], [], σ)) (x1 : Int32) (x2 : Int32) (x3 : Int32) (x4 : Int32) (σ : am_S) (h : jn_X7_alike_72 k39 x1 x2 x3 x4 σ = some q) : am_A p l e (am_ro 6) s m args below meth c 5 G (am_fr G) 0 0 (MQ below (am_Qc G (some (am_i q.1)) q.2) args s 0 0 (am_fr G)) (72, [(0, am_r 0 0 0), (1, am_i x1), (2, am_i x2), (3, am_i x3), (4, am_i x4)], [], σ) := by
  have hc := ct_X7_alike
  unfold jn_X7_alike_72 at h
  refine am_blk hc X 41 2 (fr' := (39, [(0, am_r 0 0 0), (1, am_i x1), (2, am_i x2), (3, am_i x3), (4, am_i (x4 + 1))], [], σ)) rfl ⟨trivial, trivial, trivial⟩ ?_
  exact hk39 x1 x2 x3 (x4 + 1) _ h
def lb_X7_alike_39 (k39 : Int32 → Int32 → Int32 → Int32 → am_S → Option (Int32 × am_S)) (x1 : Int32) (x2 : Int32) (x3 : Int32) (x4 : Int32) (σ : am_S) : Option (Int32 × am_S) :=
  (if 7 ≤ x4 then some (x3, σ) else (fn_X7_leastWay x1 x4 0 (σ)).bind fun q7 => (fn_X7_leastWay x2 x4 0 q7.2).bind fun q9 => (if q7.1 = q9.1 then jn_X7_alike_72 k39 x1 x2 (x3 ||| ((1 : Int32) <<< (x4 &&& 31))) x4 q9.2 else jn_X7_alike_72 k39 x1 x2 x3 x4 q9.2))
set_option maxRecDepth 100000 in
theorem lc_X7_alike_39 {p : Program} {l : Launch} {e : Env} {s : State} {m : MethodId} {args : Array Value} {below : List Frame} {meth : Method} {c : Code} {G : am_G} {q : Int32 × am_S} (X : am_X p s m args c cX7_alike yX7_alike.cls 5 am_p7 G (am_fr G)) (hr : meth.sig.returnType = (some .int) ∧ meth.locks = false)  (k39 : Int32 → Int32 → Int32 → Int32 → am_S → Option (Int32 × am_S)) (hk39 : ∀ (x1 : Int32) (x2 : Int32) (x3 : Int32) (x4 : Int32) (σ : am_S), k39 x1 x2 x3 x4 σ = some q → am_A p l e (am_ro 6) s m args below meth c 5 G (am_fr G) 0 0 (MQ below (am_Qc G (some (am_i q.1)) q.2) args s 0 0 (am_fr G)) (39, [(0, am_r 0 0 0), (1, am_i x1), (2, am_i x2), (3, am_i x3), (4, am_i x4)], [], σ)) (x1 : Int32) (x2 : Int32) (x3 : Int32) (x4 : Int32) (σ : am_S) (h : lb_X7_alike_39 k39 x1 x2 x3 x4 σ = some q) : am_A p l e (am_ro 6) s m args below meth c 5 G (am_fr G) 0 0 (MQ below (am_Qc G (some (am_i q.1)) q.2) args s 0 0 (am_fr G)) (39, [(0, am_r 0 0 0), (1, am_i x1), (2, am_i x2), (3, am_i x3), (4, am_i x4)], [], σ) := by
  have hc := ct_X7_alike
  unfold lb_X7_alike_39 at h
  refine am_blk hc X 21 2 (fr' := (43, [(0, am_r 0 0 0), (1, am_i x1), (2, am_i x2), (3, am_i x3), (4, am_i x4)], [am_i 7, am_i x4], σ)) rfl ⟨trivial, trivial, trivial⟩ ?_
  refine am_icmp_ge hc X 23 (tgt := 78) rfl (by decide) (fun c12 => ?_) (fun c12 => ?_)
  · replace h := am_ip c12 h
    refine am_blk hc X 43 1 (fr' := (79, [(0, am_r 0 0 0), (1, am_i x1), (2, am_i x2), (3, am_i x3), (4, am_i x4)], [am_i x3], σ)) rfl ⟨trivial, trivial⟩ ?_
    obtain rfl := Option.some.inj h
    exact am_iret hc X hr 44 rfl rfl rfl
  · replace h := am_in2 c12 h
    refine am_blk hc X 24 4 (fr' := (51, [(0, am_r 0 0 0), (1, am_i x1), (2, am_i x2), (3, am_i x3), (4, am_i x4)], [am_i 0, am_i x4, am_i x1, am_r 0 0 0], σ)) rfl ⟨trivial, trivial, trivial, trivial, trivial⟩ ?_
    obtain ⟨q7, hq8, h⟩ := am_bs h
    refine am_callV hc 28 X (k := 0) (i := 0) (o := 0) (As := [am_i x1, am_i x4, am_i 0]) (rest := []) rfl (ok_X7_leastWay l x1 x4 0 (σ) hq8) yv_X7_leastWay ml_X7_191 (cl_0) rfl rfl rfl rfl rfl ?_
    refine am_blk hc X 29 4 (fr' := (59, [(0, am_r 0 0 0), (1, am_i x1), (2, am_i x2), (3, am_i x3), (4, am_i x4)], [am_i 0, am_i x4, am_i x2, am_r 0 0 0, am_i q7.1], q7.2)) rfl ⟨trivial, trivial, trivial, trivial, trivial⟩ ?_
    obtain ⟨q9, hq10, h⟩ := am_bs h
    refine am_callV hc 33 X (k := 0) (i := 0) (o := 0) (As := [am_i x2, am_i x4, am_i 0]) (rest := [am_i q7.1]) rfl (ok_X7_leastWay l x2 x4 0 q7.2 hq10) yv_X7_leastWay ml_X7_191 (cl_0) rfl rfl rfl rfl rfl ?_
    refine am_icmp_ne hc X 34 (tgt := 72) rfl (by decide) (fun c11 => ?_) (fun c11 => ?_)
    · replace h := am_in2 c11 h
      exact jl_X7_alike_72 X hr k39 hk39 x1 x2 x3 x4 _ h
    · replace h := am_ip c11 h
      refine am_blk hc X 35 6 (fr' := (72, [(0, am_r 0 0 0), (1, am_i x1), (2, am_i x2), (3, am_i (x3 ||| ((1 : Int32) <<< (x4 &&& 31)))), (4, am_i x4)], [], q9.2)) rfl ⟨trivial, trivial, trivial, trivial, trivial, trivial, trivial⟩ ?_
      exact jl_X7_alike_72 X hr k39 hk39 x1 x2 (x3 ||| ((1 : Int32) <<< (x4 &&& 31))) x4 _ h
def lp_X7_alike_39  : Nat → Int32 → Int32 → Int32 → Int32 → am_S → Option (Int32 × am_S)
  | 0 => fun _ _ _ _ _ => none
  | n + 1 => lb_X7_alike_39  (lp_X7_alike_39  n)
theorem ll_X7_alike_39 {p : Program} {l : Launch} {e : Env} {s : State} {m : MethodId} {args : Array Value} {below : List Frame} {meth : Method} {c : Code} {G : am_G} {q : Int32 × am_S} (X : am_X p s m args c cX7_alike yX7_alike.cls 5 am_p7 G (am_fr G)) (hr : meth.sig.returnType = (some .int) ∧ meth.locks = false)    : ∀ (n : Nat) (x1 : Int32) (x2 : Int32) (x3 : Int32) (x4 : Int32) (σ : am_S), lp_X7_alike_39  n x1 x2 x3 x4 σ = some q → am_A p l e (am_ro 6) s m args below meth c 5 G (am_fr G) 0 0 (MQ below (am_Qc G (some (am_i q.1)) q.2) args s 0 0 (am_fr G)) (39, [(0, am_r 0 0 0), (1, am_i x1), (2, am_i x2), (3, am_i x3), (4, am_i x4)], [], σ) := by
  intro n
  induction n with
  | zero =>
    intro x1 x2 x3 x4 σ h
    have h : (none : Option (Int32 × am_S)) = some q := h
    cases h
  | succ n ih =>
    intro x1 x2 x3 x4 σ h
    exact lc_X7_alike_39 X hr  (lp_X7_alike_39  n) ih x1 x2 x3 x4 σ h
def fn_X7_alike (a1 : Int32) (a2 : Int32) (σ : am_S) : Option (Int32 × am_S) :=
  (fn_X0_hasPerson 1 a1 (σ)).bind fun q1 => (if q1.1 = 0 then jn_X7_alike_27   q1.2 else (fn_X0_hasPerson 1 a2 q1.2).bind fun q5 => (if q5.1 = 0 then jn_X7_alike_27   q5.2 else (if a1 = a2 then jn_X7_alike_27   q5.2 else lp_X7_alike_39  1000 a1 a2 0 0 q5.2)))
set_option maxRecDepth 100000 in
theorem ok_X7_alike (l : Launch) (a1 : Int32) (a2 : Int32) (σ : am_S) {q : Int32 × am_S} (h : fn_X7_alike a1 a2 σ = some q) : am_M l yX7_alike cX7_alike 5 (some .int) 6 [am_r 0 0 0, am_i a1, am_i a2] σ (some (am_i q.1)) q.2 := by
  refine am_M_of (P := am_p7) (by decide +kernel) am_p7_ok rfl ?_
  intro G p e s m args below meth c X hr
  have hc := ct_X7_alike
  unfold fn_X7_alike at h
  refine am_blk hc X 0 3 (fr' := (5, [(0, am_r 0 0 0), (1, am_i a1), (2, am_i a2)], [am_i a1, am_r 1 2 0], σ)) rfl ⟨trivial, trivial, trivial, trivial⟩ ?_
  obtain ⟨q1, hq2, h⟩ := am_bs h
  refine am_callV hc 3 X (k := 2) (i := 0) (o := 1) (As := [am_i a1]) (rest := []) rfl (ok_X0_hasPerson l 1 a1 (σ) hq2) yv_X0_hasPerson ml_X7_114 (cl_2) rfl rfl rfl rfl rfl ?_
  refine am_if_eq hc X 4 (tgt := 27) rfl (by decide) (fun c15 => ?_) (fun c15 => ?_)
  · replace h := am_ip c15 h
    refine am_less [0] rfl ?_
    exact jl_X7_alike_27 X hr    _ h
  · replace h := am_in2 c15 h
    refine am_blk hc X 5 3 (fr' := (16, [(0, am_r 0 0 0), (1, am_i a1), (2, am_i a2)], [am_i a2, am_r 1 2 0], q1.2)) rfl ⟨trivial, trivial, trivial, trivial⟩ ?_
    obtain ⟨q5, hq6, h⟩ := am_bs h
    refine am_callV hc 8 X (k := 2) (i := 0) (o := 1) (As := [am_i a2]) (rest := []) rfl (ok_X0_hasPerson l 1 a2 q1.2 hq6) yv_X0_hasPerson ml_X7_114 (cl_2) rfl rfl rfl rfl rfl ?_
    refine am_if_eq hc X 9 (tgt := 27) rfl (by decide) (fun c14 => ?_) (fun c14 => ?_)
    · replace h := am_ip c14 h
      refine am_less [0] rfl ?_
      exact jl_X7_alike_27 X hr    _ h
    · replace h := am_in2 c14 h
      refine am_blk hc X 10 2 (fr' := (24, [(0, am_r 0 0 0), (1, am_i a1), (2, am_i a2)], [am_i a2, am_i a1], q5.2)) rfl ⟨trivial, trivial, trivial⟩ ?_
      refine am_icmp_ne hc X 12 (tgt := 34) rfl (by decide) (fun c13 => ?_) (fun c13 => ?_)
      · replace h := am_in2 c13 h
        refine am_blk hc X 17 4 (fr' := (39, [(0, am_r 0 0 0), (1, am_i a1), (2, am_i a2), (3, am_i 0), (4, am_i 0)], [], q5.2)) rfl ⟨trivial, trivial, trivial, trivial, trivial⟩ ?_
        exact ll_X7_alike_39 X hr   1000 a1 a2 0 0 _ h
      · replace h := am_ip c13 h
        refine am_less [0] rfl ?_
        exact jl_X7_alike_27 X hr    _ h
def lb_X7_areStamps_2 (k2 : Int32 → Int32 → Int32 → am_S → Option (Int32 × am_S)) (x1 : Int32) (x2 : Int32) (x3 : Int32) (σ : am_S) : Option (Int32 × am_S) :=
  (if x2 ≤ x3 then some (1, σ) else (fn_X2_elementAt x1 x3 (σ)).bind fun q1 => (if (lg_cmp q1.1 (-1)) < 0 then some (0, q1.2) else (if (lg_cmp q1.1 7) < 0 then k2 x1 x2 (x3 + 1) q1.2 else some (0, q1.2))))
set_option maxRecDepth 100000 in
theorem lc_X7_areStamps_2 {p : Program} {l : Launch} {e : Env} {s : State} {m : MethodId} {args : Array Value} {below : List Frame} {meth : Method} {c : Code} {G : am_G} {q : Int32 × am_S} (X : am_X p s m args c cX7_areStamps yX7_areStamps.cls 6 am_p7 G (am_fr G)) (hr : meth.sig.returnType = (some .boolean) ∧ meth.locks = false)  (k2 : Int32 → Int32 → Int32 → am_S → Option (Int32 × am_S)) (hk2 : ∀ (x1 : Int32) (x2 : Int32) (x3 : Int32) (σ : am_S), k2 x1 x2 x3 σ = some q → am_A p l e (am_ro 3) s m args below meth c 6 G (am_fr G) 0 0 (MQ below (am_Qc G (some (am_i q.1)) q.2) args s 0 0 (am_fr G)) (2, [(0, am_r 0 0 0), (1, am_i x1), (2, am_i x2), (3, am_i x3)], [], σ)) (x1 : Int32) (x2 : Int32) (x3 : Int32) (σ : am_S) (h : lb_X7_areStamps_2 k2 x1 x2 x3 σ = some q) : am_A p l e (am_ro 3) s m args below meth c 6 G (am_fr G) 0 0 (MQ below (am_Qc G (some (am_i q.1)) q.2) args s 0 0 (am_fr G)) (2, [(0, am_r 0 0 0), (1, am_i x1), (2, am_i x2), (3, am_i x3)], [], σ) := by
  have hc := ct_X7_areStamps
  unfold lb_X7_areStamps_2 at h
  refine am_blk hc X 2 2 (fr' := (4, [(0, am_r 0 0 0), (1, am_i x1), (2, am_i x2), (3, am_i x3)], [am_i x2, am_i x3], σ)) rfl ⟨trivial, trivial, trivial⟩ ?_
  refine am_icmp_ge hc X 4 (tgt := 44) rfl (by decide) (fun c5 => ?_) (fun c5 => ?_)
  · replace h := am_ip c5 h
    refine am_blk hc X 23 1 (fr' := (45, [(0, am_r 0 0 0), (1, am_i x1), (2, am_i x2), (3, am_i x3)], [am_i 1], σ)) rfl ⟨trivial, trivial⟩ ?_
    obtain rfl := Option.some.inj h
    exact am_zret hc X hr 24 rfl (by decide) rfl rfl
  · replace h := am_in2 c5 h
    refine am_blk hc X 5 4 (fr' := (13, [(0, am_r 0 0 0), (1, am_i x1), (2, am_i x2), (3, am_i x3)], [am_i x3, am_i x1, am_r 10 9 0], σ)) rfl ⟨trivial, trivial, trivial, trivial, trivial⟩ ?_
    obtain ⟨q1, hq2, h⟩ := am_bs h
    refine am_callV hc 9 X (k := 9) (i := 0) (o := 10) (As := [am_i x1, am_i x3]) (rest := []) rfl (ok_X2_elementAt l x1 x3 (σ) hq2) yv_X2_elementAt ml_X7_107 (cl_9) rfl rfl rfl rfl rfl ?_
    refine am_blk hc X 10 4 (fr' := (24, [(0, am_r 0 0 0), (1, am_i x1), (2, am_i x2), (3, am_i x3), (4, am_l q1.1)], [am_i (lg_cmp q1.1 (-1))], q1.2)) rfl ⟨trivial, trivial, trivial, trivial, trivial⟩ ?_
    refine am_if_lt hc X 14 (tgt := 36) rfl (by decide) (fun c4 => ?_) (fun c4 => ?_)
    · replace h := am_ip c4 h
      refine am_blk hc X 19 1 (fr' := (37, [(0, am_r 0 0 0), (1, am_i x1), (2, am_i x2), (3, am_i x3), (4, am_l q1.1)], [am_i 0], q1.2)) rfl ⟨trivial, trivial⟩ ?_
      obtain rfl := Option.some.inj h
      exact am_zret hc X hr 20 rfl (by decide) rfl rfl
    · replace h := am_in2 c4 h
      refine am_blk hc X 15 3 (fr' := (33, [(0, am_r 0 0 0), (1, am_i x1), (2, am_i x2), (3, am_i x3), (4, am_l q1.1)], [am_i (lg_cmp q1.1 7)], q1.2)) rfl ⟨trivial, trivial, trivial, trivial⟩ ?_
      refine am_if_lt hc X 18 (tgt := 38) rfl (by decide) (fun c3 => ?_) (fun c3 => ?_)
      · replace h := am_ip c3 h
        refine am_blk hc X 21 2 (fr' := (2, [(0, am_r 0 0 0), (1, am_i x1), (2, am_i x2), (3, am_i (x3 + 1)), (4, am_l q1.1)], [], q1.2)) rfl ⟨trivial, trivial, trivial⟩ ?_
        refine am_less [0, 1, 2, 3] rfl ?_
        exact hk2 x1 x2 (x3 + 1) _ h
      · replace h := am_in2 c3 h
        refine am_blk hc X 19 1 (fr' := (37, [(0, am_r 0 0 0), (1, am_i x1), (2, am_i x2), (3, am_i x3), (4, am_l q1.1)], [am_i 0], q1.2)) rfl ⟨trivial, trivial⟩ ?_
        obtain rfl := Option.some.inj h
        exact am_zret hc X hr 20 rfl (by decide) rfl rfl
def lp_X7_areStamps_2  : Nat → Int32 → Int32 → Int32 → am_S → Option (Int32 × am_S)
  | 0 => fun _ _ _ _ => none
  | n + 1 => lb_X7_areStamps_2  (lp_X7_areStamps_2  n)
theorem ll_X7_areStamps_2 {p : Program} {l : Launch} {e : Env} {s : State} {m : MethodId} {args : Array Value} {below : List Frame} {meth : Method} {c : Code} {G : am_G} {q : Int32 × am_S} (X : am_X p s m args c cX7_areStamps yX7_areStamps.cls 6 am_p7 G (am_fr G)) (hr : meth.sig.returnType = (some .boolean) ∧ meth.locks = false)    : ∀ (n : Nat) (x1 : Int32) (x2 : Int32) (x3 : Int32) (σ : am_S), lp_X7_areStamps_2  n x1 x2 x3 σ = some q → am_A p l e (am_ro 3) s m args below meth c 6 G (am_fr G) 0 0 (MQ below (am_Qc G (some (am_i q.1)) q.2) args s 0 0 (am_fr G)) (2, [(0, am_r 0 0 0), (1, am_i x1), (2, am_i x2), (3, am_i x3)], [], σ) := by
  intro n
  induction n with
  | zero =>
    intro x1 x2 x3 σ h
    have h : (none : Option (Int32 × am_S)) = some q := h
    cases h
  | succ n ih =>
    intro x1 x2 x3 σ h
    exact lc_X7_areStamps_2 X hr  (lp_X7_areStamps_2  n) ih x1 x2 x3 σ h
def fn_X7_areStamps (a1 : Int32) (a2 : Int32) (σ : am_S) : Option (Int32 × am_S) :=
  lp_X7_areStamps_2  1000 a1 a2 0 (σ)
set_option maxRecDepth 100000 in
theorem ok_X7_areStamps (l : Launch) (a1 : Int32) (a2 : Int32) (σ : am_S) {q : Int32 × am_S} (h : fn_X7_areStamps a1 a2 σ = some q) : am_M l yX7_areStamps cX7_areStamps 6 (some .boolean) 3 [am_r 0 0 0, am_i a1, am_i a2] σ (some (am_i q.1)) q.2 := by
  refine am_M_of (P := am_p7) (by decide +kernel) am_p7_ok rfl ?_
  intro G p e s m args below meth c X hr
  have hc := ct_X7_areStamps
  unfold fn_X7_areStamps at h
  refine am_blk hc X 0 2 (fr' := (2, [(0, am_r 0 0 0), (1, am_i a1), (2, am_i a2), (3, am_i 0)], [], σ)) rfl ⟨trivial, trivial, trivial⟩ ?_
  exact ll_X7_areStamps_2 X hr   1000 a1 a2 0 _ h
def fn_X7_mayBeOfValley (a0 : Int32) (a1 : Int32) (σ : am_S) : Option (Int32 × am_S) :=
  (if a0 = 0 then (fn_X7_isWithin a1 0 9 (σ)).bind fun q10 => (if q10.1 = 0 ∨ q10.1 = 1 then some (q10.1, q10.2) else none) else (if a0 = 1 then (fn_X7_isWithin a1 1 12 (σ)).bind fun q7 => (if q7.1 = 0 ∨ q7.1 = 1 then some (q7.1, q7.2) else none) else (if a0 = 2 then (fn_X7_isWithin a1 0 20 (σ)).bind fun q4 => (if q4.1 = 0 ∨ q4.1 = 1 then some (q4.1, q4.2) else none) else some (0, σ))))
set_option maxRecDepth 100000 in
theorem ok_X7_mayBeOfValley (l : Launch) (a0 : Int32) (a1 : Int32) (σ : am_S) {q : Int32 × am_S} (h : fn_X7_mayBeOfValley a0 a1 σ = some q) : am_M l yX7_mayBeOfValley cX7_mayBeOfValley 2 (some .boolean) 1 [am_i a0, am_i a1] σ (some (am_i q.1)) q.2 := by
  refine am_M_of (P := am_p7) (by decide +kernel) am_p7_ok rfl ?_
  intro G p e s m args below meth c X hr
  have hc := ct_X7_mayBeOfValley
  unfold fn_X7_mayBeOfValley at h
  refine am_blk hc X 0 1 (fr' := (1, [(0, am_i a0), (1, am_i a1)], [am_i a0], σ)) rfl ⟨trivial, trivial⟩ ?_
  by_cases c1 : a0 = 0
  · replace h := am_ip c1 h
    refine am_tin hc X 1 (tgt := 28) (off := 27) rfl (by rw [c1]; decide) (by rw [c1]; decide) (by rw [c1]; rfl) (by decide) ?_
    refine am_blk hc X 2 3 (fr' := (32, [(0, am_i a0), (1, am_i a1)], [am_i 9, am_i 0, am_i a1], σ)) rfl ⟨trivial, trivial, trivial, trivial⟩ ?_
    obtain ⟨q10, hq11, h⟩ := am_bs h
    refine am_callS hc 5 X (As := [am_i a1, am_i 0, am_i 9]) (rest := []) rfl (ok_X7_isWithin l a1 0 9 (σ) hq11) yv_X7_isWithin ml_X7_73 rfl rfl rfl rfl rfl ?_
    obtain ⟨ob12, h⟩ := am_ct2 h
    obtain rfl := Option.some.inj h
    exact am_zret hc X hr 6 rfl ob12 rfl rfl
  · replace h := am_in2 c1 h
    by_cases c2 : a0 = 1
    · replace h := am_ip c2 h
      refine am_tin hc X 1 (tgt := 36) (off := 35) rfl (by rw [c2]; decide) (by rw [c2]; decide) (by rw [c2]; rfl) (by decide) ?_
      refine am_blk hc X 7 3 (fr' := (40, [(0, am_i a0), (1, am_i a1)], [am_i 12, am_i 1, am_i a1], σ)) rfl ⟨trivial, trivial, trivial, trivial⟩ ?_
      obtain ⟨q7, hq8, h⟩ := am_bs h
      refine am_callS hc 10 X (As := [am_i a1, am_i 1, am_i 12]) (rest := []) rfl (ok_X7_isWithin l a1 1 12 (σ) hq8) yv_X7_isWithin ml_X7_73 rfl rfl rfl rfl rfl ?_
      obtain ⟨ob9, h⟩ := am_ct2 h
      obtain rfl := Option.some.inj h
      exact am_zret hc X hr 11 rfl ob9 rfl rfl
    · replace h := am_in2 c2 h
      by_cases c3 : a0 = 2
      · replace h := am_ip c3 h
        refine am_tin hc X 1 (tgt := 44) (off := 43) rfl (by rw [c3]; decide) (by rw [c3]; decide) (by rw [c3]; rfl) (by decide) ?_
        refine am_blk hc X 12 3 (fr' := (48, [(0, am_i a0), (1, am_i a1)], [am_i 20, am_i 0, am_i a1], σ)) rfl ⟨trivial, trivial, trivial, trivial⟩ ?_
        obtain ⟨q4, hq5, h⟩ := am_bs h
        refine am_callS hc 15 X (As := [am_i a1, am_i 0, am_i 20]) (rest := []) rfl (ok_X7_isWithin l a1 0 20 (σ) hq5) yv_X7_isWithin ml_X7_73 rfl rfl rfl rfl rfl ?_
        obtain ⟨ob6, h⟩ := am_ct2 h
        obtain rfl := Option.some.inj h
        exact am_zret hc X hr 16 rfl ob6 rfl rfl
      · replace h := am_in2 c3 h
        refine am_tout hc X 1 (tgt := 52) rfl (am_sw 0 2 (fun z h1 h2 => ?_)) (by decide) ?_
        · rcases (show z = 0 ∨ z = 1 ∨ z = 2 by omega) with rfl | rfl | rfl
          · exact lv_neT c1 rfl
          · exact lv_neT c2 rfl
          · exact lv_neT c3 rfl
        · refine am_blk hc X 17 1 (fr' := (53, [(0, am_i a0), (1, am_i a1)], [am_i 0], σ)) rfl ⟨trivial, trivial⟩ ?_
          obtain rfl := Option.some.inj h
          exact am_zret hc X hr 18 rfl (by decide) rfl rfl
def jn_X7_ask_54   (σ : am_S) : Option (Int32 × am_S) :=
  (fn_X7_refuse (-2) (σ)).bind fun q3 => some (q3.1, q3.2)
set_option maxRecDepth 100000 in
theorem jl_X7_ask_54 {p : Program} {l : Launch} {e : Env} {s : State} {m : MethodId} {args : Array Value} {below : List Frame} {meth : Method} {c : Code} {G : am_G} {q : Int32 × am_S} (X : am_X p s m args c cX7_ask yX7_ask.cls 5 am_p7 G (am_fr G)) (hr : meth.sig.returnType = (some .int) ∧ meth.locks = false)     (σ : am_S) (h : jn_X7_ask_54   σ = some q) : am_A p l e (am_ro 2) s m args below meth c 5 G (am_fr G) 0 0 (MQ below (am_Qc G (some (am_i q.1)) q.2) args s 0 0 (am_fr G)) (54, [(0, am_r 0 0 0)], [], σ) := by
  have hc := ct_X7_ask
  unfold jn_X7_ask_54 at h
  refine am_blk hc X 27 2 (fr' := (57, [(0, am_r 0 0 0)], [am_i (-2), am_r 0 0 0], σ)) rfl ⟨trivial, trivial, trivial⟩ ?_
  obtain ⟨q3, hq4, h⟩ := am_bs h
  refine am_callV hc 29 X (k := 0) (i := 0) (o := 0) (As := [am_i (-2)]) (rest := []) rfl (ok_X7_refuse l (-2) (σ) hq4) yv_X7_refuse ml_X7_77 (cl_0) rfl rfl rfl rfl rfl ?_
  obtain rfl := Option.some.inj h
  exact am_iret hc X hr 30 rfl rfl rfl
def jn_X7_ask_39  (x1 : Int32) (x2 : Int32) (x3 : Int32) (σ : am_S) : Option (Int32 × am_S) :=
  (fn_X7_isValley x1 (σ)).bind fun q1 => (if q1.1 = 0 then jn_X7_ask_54   q1.2 else (fn_X7_mayBeOfValley x2 x3 q1.2).bind fun q5 => (if q5.1 = 0 then jn_X7_ask_54   q5.2 else (bif am_in x2 3 then (bif am_in x1 7 then (bif am_in x2 3 then (bif am_in x1 7 then some ((q5.2.1 1 4 ((x2 : Int32).toNatClampNeg) ((x1 : Int32).toNatClampNeg)), (am_u q5.2 1 4 ((x2 : Int32).toNatClampNeg) ((x1 : Int32).toNatClampNeg) x3)) else none) else none) else none) else none)))
set_option maxRecDepth 100000 in
theorem jl_X7_ask_39 {p : Program} {l : Launch} {e : Env} {s : State} {m : MethodId} {args : Array Value} {below : List Frame} {meth : Method} {c : Code} {G : am_G} {q : Int32 × am_S} (X : am_X p s m args c cX7_ask yX7_ask.cls 5 am_p7 G (am_fr G)) (hr : meth.sig.returnType = (some .int) ∧ meth.locks = false)    (x1 : Int32) (x2 : Int32) (x3 : Int32) (σ : am_S) (h : jn_X7_ask_39  x1 x2 x3 σ = some q) : am_A p l e (am_ro 2) s m args below meth c 5 G (am_fr G) 0 0 (MQ below (am_Qc G (some (am_i q.1)) q.2) args s 0 0 (am_fr G)) (39, [(0, am_r 0 0 0), (1, am_i x1), (2, am_i x2), (3, am_i x3)], [], σ) := by
  have hc := ct_X7_ask
  unfold jn_X7_ask_39 at h
  refine am_blk hc X 20 1 (fr' := (40, [(0, am_r 0 0 0), (1, am_i x1), (2, am_i x2), (3, am_i x3)], [am_i x1], σ)) rfl ⟨trivial, trivial⟩ ?_
  obtain ⟨q1, hq2, h⟩ := am_bs h
  refine am_callS hc 21 X (As := [am_i x1]) (rest := []) rfl (ok_X7_isValley l x1 (σ) hq2) yv_X7_isValley ml_X7_132 rfl rfl rfl rfl rfl ?_
  refine am_if_eq hc X 22 (tgt := 54) rfl (by decide) (fun c12 => ?_) (fun c12 => ?_)
  · replace h := am_ip c12 h
    refine am_less [0] rfl ?_
    exact jl_X7_ask_54 X hr    _ h
  · replace h := am_in2 c12 h
    refine am_blk hc X 23 2 (fr' := (48, [(0, am_r 0 0 0), (1, am_i x1), (2, am_i x2), (3, am_i x3)], [am_i x3, am_i x2], q1.2)) rfl ⟨trivial, trivial, trivial⟩ ?_
    obtain ⟨q5, hq6, h⟩ := am_bs h
    refine am_callS hc 25 X (As := [am_i x2, am_i x3]) (rest := []) rfl (ok_X7_mayBeOfValley l x2 x3 q1.2 hq6) yv_X7_mayBeOfValley ml_X7_135 rfl rfl rfl rfl rfl ?_
    refine am_if_ne hc X 26 (tgt := 61) rfl (by decide) (fun c11 => ?_) (fun c11 => ?_)
    · replace h := am_in2 c11 h
      obtain ⟨ob7, h⟩ := am_ci h
      obtain ⟨ob8, h⟩ := am_ci h
      obtain ⟨ob9, h⟩ := am_ci h
      obtain ⟨ob10, h⟩ := am_ci h
      refine am_blk hc X 31 17 (fr' := (88, [(0, am_r 0 0 0), (1, am_i x1), (2, am_i x2), (3, am_i x3), (4, am_i (q5.2.1 1 4 ((x2 : Int32).toNatClampNeg) ((x1 : Int32).toNatClampNeg)))], [am_i (q5.2.1 1 4 ((x2 : Int32).toNatClampNeg) ((x1 : Int32).toNatClampNeg))], (am_u q5.2 1 4 ((x2 : Int32).toNatClampNeg) ((x1 : Int32).toNatClampNeg) x3))) rfl ⟨trivial, trivial, trivial, trivial, (am_in_vp ob7), trivial, (am_in_vp ob8), trivial, trivial, trivial, trivial, trivial, (am_in_vp ob9), trivial, trivial, (am_in_vp ob10), trivial, trivial⟩ ?_
      obtain rfl := Option.some.inj h
      exact am_iret hc X hr 48 rfl rfl rfl
    · replace h := am_ip c11 h
      refine am_less [0] rfl ?_
      exact jl_X7_ask_54 X hr    _ h
def fn_X7_ask (a1 : Int32) (a2 : Int32) (a3 : Int32) (σ : am_S) : Option (Int32 × am_S) :=
  (if a2 = 3 then (if a1 = 0 then (fn_X7_isWithin a3 0 9 (σ)).bind fun q13 => (if q13.1 = 0 then jn_X7_ask_39  a1 a2 a3 q13.2 else some ((q13.2.1 1 2 0 5), (am_u q13.2 1 2 0 5 a3))) else jn_X7_ask_39  a1 a2 a3 (σ)) else jn_X7_ask_39  a1 a2 a3 (σ))
set_option maxRecDepth 100000 in
theorem ok_X7_ask (l : Launch) (a1 : Int32) (a2 : Int32) (a3 : Int32) (σ : am_S) {q : Int32 × am_S} (h : fn_X7_ask a1 a2 a3 σ = some q) : am_M l yX7_ask cX7_ask 5 (some .int) 2 [am_r 0 0 0, am_i a1, am_i a2, am_i a3] σ (some (am_i q.1)) q.2 := by
  refine am_M_of (P := am_p7) (by decide +kernel) am_p7_ok rfl ?_
  intro G p e s m args below meth c X hr
  have hc := ct_X7_ask
  unfold fn_X7_ask at h
  refine am_blk hc X 0 2 (fr' := (2, [(0, am_r 0 0 0), (1, am_i a1), (2, am_i a2), (3, am_i a3)], [am_i 3, am_i a2], σ)) rfl ⟨trivial, trivial, trivial⟩ ?_
  refine am_icmp_ne hc X 2 (tgt := 39) rfl (by decide) (fun c17 => ?_) (fun c17 => ?_)
  · replace h := am_in2 c17 h
    exact jl_X7_ask_39 X hr   a1 a2 a3 _ h
  · replace h := am_ip c17 h
    refine am_blk hc X 3 1 (fr' := (6, [(0, am_r 0 0 0), (1, am_i a1), (2, am_i a2), (3, am_i a3)], [am_i a1], σ)) rfl ⟨trivial, trivial⟩ ?_
    refine am_if_ne hc X 4 (tgt := 39) rfl (by decide) (fun c16 => ?_) (fun c16 => ?_)
    · replace h := am_in2 c16 h
      exact jl_X7_ask_39 X hr   a1 a2 a3 _ h
    · replace h := am_ip c16 h
      refine am_blk hc X 5 3 (fr' := (13, [(0, am_r 0 0 0), (1, am_i a1), (2, am_i a2), (3, am_i a3)], [am_i 9, am_i 0, am_i a3], σ)) rfl ⟨trivial, trivial, trivial, trivial⟩ ?_
      obtain ⟨q13, hq14, h⟩ := am_bs h
      refine am_callS hc 8 X (As := [am_i a3, am_i 0, am_i 9]) (rest := []) rfl (ok_X7_isWithin l a3 0 9 (σ) hq14) yv_X7_isWithin ml_X7_73 rfl rfl rfl rfl rfl ?_
      refine am_if_eq hc X 9 (tgt := 39) rfl (by decide) (fun c15 => ?_) (fun c15 => ?_)
      · replace h := am_ip c15 h
        exact jl_X7_ask_39 X hr   a1 a2 a3 _ h
      · replace h := am_in2 c15 h
        refine am_blk hc X 10 9 (fr' := (38, [(0, am_r 0 0 0), (1, am_i a1), (2, am_i a2), (3, am_i a3), (4, am_i (q13.2.1 1 2 0 5))], [am_i (q13.2.1 1 2 0 5)], (am_u q13.2 1 2 0 5 a3))) rfl ⟨trivial, trivial, trivial, trivial, trivial, trivial, trivial, trivial, trivial, trivial⟩ ?_
        obtain rfl := Option.some.inj h
        exact am_iret hc X hr 19 rfl rfl rfl
def fn_X7_back  (σ : am_S) : Option (Int32 × am_S) :=
  (if (σ.1 0 0 0 2) = 0 then (fn_X7_refuse (-5) (σ)).bind fun q5 => some (q5.1, q5.2) else (fn_X0_becomes 1 2 (σ)).bind fun q1 => (fn_X2_keepPeopleBelow (q1.1 1 2 0 4) q1).bind fun q3 => some (1, q3))
set_option maxRecDepth 100000 in
theorem ok_X7_back (l : Launch)  (σ : am_S) {q : Int32 × am_S} (h : fn_X7_back  σ = some q) : am_M l yX7_back cX7_back 1 (some .int) 3 [am_r 0 0 0] σ (some (am_i q.1)) q.2 := by
  refine am_M_of (P := am_p7) (by decide +kernel) am_p7_ok rfl ?_
  intro G p e s m args below meth c X hr
  have hc := ct_X7_back
  unfold fn_X7_back at h
  refine am_blk hc X 0 2 (fr' := (4, [(0, am_r 0 0 0)], [am_i (σ.1 0 0 0 2)], σ)) rfl ⟨trivial, trivial, trivial⟩ ?_
  refine am_if_ne hc X 2 (tgt := 14) rfl (by decide) (fun c7 => ?_) (fun c7 => ?_)
  · replace h := am_in2 c7 h
    refine am_blk hc X 7 4 (fr' := (22, [(0, am_r 0 0 0)], [am_r 2 2 0, am_r 1 2 0], σ)) rfl ⟨trivial, trivial, trivial, trivial, trivial⟩ ?_
    obtain ⟨q1, hq2, h⟩ := am_bs h
    refine am_callV hc 11 X (k := 2) (i := 0) (o := 1) (As := [am_r 2 2 0]) (rest := []) rfl (ok_X0_becomes l 1 2 (σ) hq2) yv_X0_becomes ml_X7_184 (cl_2) rfl rfl rfl rfl rfl ?_
    refine am_blk hc X 12 5 (fr' := (36, [(0, am_r 0 0 0)], [am_i (q1.1 1 2 0 4), am_r 10 9 0], q1)) rfl ⟨trivial, trivial, trivial, trivial, trivial, trivial⟩ ?_
    obtain ⟨q3, hq4, h⟩ := am_bs h
    refine am_callV hc 17 X (k := 9) (i := 0) (o := 10) (As := [am_i (q1.1 1 2 0 4)]) (rest := []) rfl (ok_X2_keepPeopleBelow l (q1.1 1 2 0 4) q1 hq4) yv_X2_keepPeopleBelow ml_X7_301 (cl_9) rfl rfl rfl rfl rfl ?_
    refine am_blk hc X 18 1 (fr' := (40, [(0, am_r 0 0 0)], [am_i 1], q3)) rfl ⟨trivial, trivial⟩ ?_
    obtain rfl := Option.some.inj h
    exact am_iret hc X hr 19 rfl rfl rfl
  · replace h := am_ip c7 h
    refine am_blk hc X 3 2 (fr' := (10, [(0, am_r 0 0 0)], [am_i (-5), am_r 0 0 0], σ)) rfl ⟨trivial, trivial, trivial⟩ ?_
    obtain ⟨q5, hq6, h⟩ := am_bs h
    refine am_callV hc 5 X (k := 0) (i := 0) (o := 0) (As := [am_i (-5)]) (rest := []) rfl (ok_X7_refuse l (-5) (σ) hq6) yv_X7_refuse ml_X7_77 (cl_0) rfl rfl rfl rfl rfl ?_
    obtain rfl := Option.some.inj h
    exact am_iret hc X hr 6 rfl rfl rfl
def fn_X0_priceFor_33 (oa0 : Nat) (a2 : Int32) (a3 : Int32) (σ : am_S) : Option (Int32 × am_S) :=
  (fn_X0_fareOf oa0 a2 a3 (σ)).bind fun q1 => (if (q1.2.1 15 33 0 0) = 1 then some ((q1.1 / (2 : Int32)), q1.2) else (if (q1.2.1 15 33 0 0) = 2 then some ((q1.1 + (q1.2.1 15 33 0 1)), q1.2) else (if (q1.2.1 15 33 0 0) = 3 then some ((if 0 < ((q1.1 / (2 : Int32)) - (q1.2.1 15 33 0 1)) then ((q1.1 / (2 : Int32)) - (q1.2.1 15 33 0 1)) else 0), q1.2) else (if (q1.2.1 15 33 0 0) = 4 then (if a3 < 2 then some ((q1.1 + (q1.2.1 15 33 0 1)), q1.2) else some (0, q1.2)) else (if (q1.2.1 15 33 0 0) = 5 then some (((2 : Int32) * q1.1), q1.2) else some (q1.1, q1.2))))))
set_option maxRecDepth 100000 in
theorem ok_X0_priceFor_33 (l : Launch) (oa0 : Nat) (a2 : Int32) (a3 : Int32) (σ : am_S) {q : Int32 × am_S} (h : fn_X0_priceFor_33 oa0 a2 a3 σ = some q) : am_M l yX0_priceFor cX0_priceFor 5 (some .int) 2 [am_r oa0 2 0, am_r 15 33 0, am_i a2, am_i a3] σ (some (am_i q.1)) q.2 := by
  refine am_M_of (P := am_p0) (by decide +kernel) am_p0_ok rfl ?_
  intro G p e s m args below meth c X hr
  have hc := ct_X0_priceFor
  unfold fn_X0_priceFor_33 at h
  refine am_blk hc X 0 3 (fr' := (3, [(0, am_r oa0 2 0), (1, am_r 15 33 0), (2, am_i a2), (3, am_i a3)], [am_i a3, am_i a2, am_r oa0 2 0], σ)) rfl ⟨trivial, trivial, trivial, trivial⟩ ?_
  obtain ⟨q1, hq2, h⟩ := am_bs h
  refine am_callV hc 3 X (k := 2) (i := 0) (o := oa0) (As := [am_i a2, am_i a3]) (rest := []) rfl (ok_X0_fareOf l oa0 a2 a3 (σ) hq2) yv_X0_fareOf ml_X0_66 (cl_2) rfl rfl rfl rfl rfl ?_
  refine am_blk hc X 4 4 (fr' := (11, [(0, am_r oa0 2 0), (1, am_r 15 33 0), (2, am_i a2), (3, am_i a3), (4, am_i q1.1)], [am_i (q1.2.1 15 33 0 0)], q1.2)) rfl ⟨trivial, trivial, trivial, (am_in_vp (by decide)), trivial⟩ ?_
  by_cases c3 : (q1.2.1 15 33 0 0) = 1
  · replace h := am_ip c3 h
    refine am_tin hc X 8 (tgt := 44) (off := 33) rfl (by rw [c3]; decide) (by rw [c3]; decide) (by rw [c3]; rfl) (by decide) ?_
    refine am_blk hc X 9 3 (fr' := (48, [(0, am_r oa0 2 0), (1, am_r 15 33 0), (2, am_i a2), (3, am_i a3), (4, am_i q1.1)], [am_i (q1.1 / (2 : Int32))], q1.2)) rfl ⟨trivial, trivial, (by decide), trivial⟩ ?_
    obtain rfl := Option.some.inj h
    exact am_iret hc X hr 12 rfl rfl rfl
  · replace h := am_in2 c3 h
    by_cases c4 : (q1.2.1 15 33 0 0) = 2
    · replace h := am_ip c4 h
      refine am_tin hc X 8 (tgt := 62) (off := 51) rfl (by rw [c4]; decide) (by rw [c4]; decide) (by rw [c4]; rfl) (by decide) ?_
      refine am_blk hc X 23 5 (fr' := (68, [(0, am_r oa0 2 0), (1, am_r 15 33 0), (2, am_i a2), (3, am_i a3), (4, am_i q1.1)], [am_i (q1.1 + (q1.2.1 15 33 0 1))], q1.2)) rfl ⟨trivial, trivial, trivial, (am_in_vp (by decide)), trivial, trivial⟩ ?_
      obtain rfl := Option.some.inj h
      exact am_iret hc X hr 28 rfl rfl rfl
    · replace h := am_in2 c4 h
      by_cases c5 : (q1.2.1 15 33 0 0) = 3
      · replace h := am_ip c5 h
        refine am_tin hc X 8 (tgt := 49) (off := 38) rfl (by rw [c5]; decide) (by rw [c5]; decide) (by rw [c5]; rfl) (by decide) ?_
        refine am_blk hc X 13 8 (fr' := (58, [(0, am_r oa0 2 0), (1, am_r 15 33 0), (2, am_i a2), (3, am_i a3), (4, am_i q1.1)], [am_i ((q1.1 / (2 : Int32)) - (q1.2.1 15 33 0 1)), am_i 0], q1.2)) rfl ⟨trivial, trivial, trivial, (by decide), trivial, trivial, (am_in_vp (by decide)), trivial, trivial⟩ ?_
        refine am_mmax hc 21 X (rest := []) rfl ml_X0_69 am_wmax rfl rfl ?_
        obtain rfl := Option.some.inj h
        exact am_iret hc X hr 22 rfl rfl rfl
      · replace h := am_in2 c5 h
        by_cases c6 : (q1.2.1 15 33 0 0) = 4
        · replace h := am_ip c6 h
          refine am_tin hc X 8 (tgt := 69) (off := 58) rfl (by rw [c6]; decide) (by rw [c6]; decide) (by rw [c6]; rfl) (by decide) ?_
          refine am_blk hc X 29 2 (fr' := (71, [(0, am_r oa0 2 0), (1, am_r 15 33 0), (2, am_i a2), (3, am_i a3), (4, am_i q1.1)], [am_i 2, am_i a3], q1.2)) rfl ⟨trivial, trivial, trivial⟩ ?_
          refine am_icmp_lt hc X 31 (tgt := 78) rfl (by decide) (fun c8 => ?_) (fun c8 => ?_)
          · replace h := am_ip c8 h
            refine am_blk hc X 34 5 (fr' := (84, [(0, am_r oa0 2 0), (1, am_r 15 33 0), (2, am_i a2), (3, am_i a3), (4, am_i q1.1)], [am_i (q1.1 + (q1.2.1 15 33 0 1))], q1.2)) rfl ⟨trivial, trivial, trivial, (am_in_vp (by decide)), trivial, trivial⟩ ?_
            obtain rfl := Option.some.inj h
            exact am_iret hc X hr 39 rfl rfl rfl
          · replace h := am_in2 c8 h
            refine am_blk hc X 32 2 (fr' := (84, [(0, am_r oa0 2 0), (1, am_r 15 33 0), (2, am_i a2), (3, am_i a3), (4, am_i q1.1)], [am_i 0], q1.2)) rfl ⟨trivial, trivial, trivial⟩ ?_
            obtain rfl := Option.some.inj h
            exact am_iret hc X hr 39 rfl rfl rfl
        · replace h := am_in2 c6 h
          by_cases c7 : (q1.2.1 15 33 0 0) = 5
          · replace h := am_ip c7 h
            refine am_tin hc X 8 (tgt := 85) (off := 74) rfl (by rw [c7]; decide) (by rw [c7]; decide) (by rw [c7]; rfl) (by decide) ?_
            refine am_blk hc X 40 3 (fr' := (89, [(0, am_r oa0 2 0), (1, am_r 15 33 0), (2, am_i a2), (3, am_i a3), (4, am_i q1.1)], [am_i ((2 : Int32) * q1.1)], q1.2)) rfl ⟨trivial, trivial, trivial, trivial⟩ ?_
            obtain rfl := Option.some.inj h
            exact am_iret hc X hr 43 rfl rfl rfl
          · replace h := am_in2 c7 h
            refine am_tout hc X 8 (tgt := 90) rfl (am_sw 1 5 (fun z h1 h2 => ?_)) (by decide) ?_
            · rcases (show z = 1 ∨ z = 2 ∨ z = 3 ∨ z = 4 ∨ z = 5 by omega) with rfl | rfl | rfl | rfl | rfl
              · exact lv_neT c3 rfl
              · exact lv_neT c4 rfl
              · exact lv_neT c5 rfl
              · exact lv_neT c6 rfl
              · exact lv_neT c7 rfl
            · refine am_blk hc X 44 1 (fr' := (92, [(0, am_r oa0 2 0), (1, am_r 15 33 0), (2, am_i a2), (3, am_i a3), (4, am_i q1.1)], [am_i q1.1], q1.2)) rfl ⟨trivial, trivial⟩ ?_
              obtain rfl := Option.some.inj h
              exact am_iret hc X hr 45 rfl rfl rfl
def fn_X0_tryStep_33 (oa0 : Nat) (a2 : Int32) (σ : am_S) : Option (Int32 × am_S) :=
  (fn_X0_endOf oa0 (σ.1 15 33 0 3) a2 (σ)).bind fun q1 => (if q1.1 = (-1) then some (0, q1.2) else (if ((q1.2.1 15 33 0 6) + (1 : Int32)) ≤ 20 then (fn_X0_priceFor_33 oa0 (q1.2.1 15 33 0 3) a2 q1.2).bind fun q3 => (if q3.1 ≤ (q3.2.1 15 33 0 5) then (if a2 = 0 then some (1, (am_u (am_u (am_u (am_u q3.2 15 33 0 5 ((q3.2.1 15 33 0 5) - q3.1)) 15 33 0 6 ((q3.2.1 15 33 0 6) + (1 : Int32))) 15 33 0 3 q1.1) 15 33 0 7 (if ((q3.2.1 15 33 0 7) + (1 : Int32)) < 999 then ((q3.2.1 15 33 0 7) + (1 : Int32)) else 999))) else some (1, (am_u (am_u (am_u q3.2 15 33 0 5 ((q3.2.1 15 33 0 5) - q3.1)) 15 33 0 6 ((q3.2.1 15 33 0 6) + (1 : Int32))) 15 33 0 3 q1.1))) else some (0, q3.2)) else some (0, q1.2)))
set_option maxRecDepth 100000 in
theorem ok_X0_tryStep_33 (l : Launch) (oa0 : Nat) (a2 : Int32) (σ : am_S) {q : Int32 × am_S} (h : fn_X0_tryStep_33 oa0 a2 σ = some q) : am_M l yX0_tryStep cX0_tryStep 5 (some .boolean) 3 [am_r oa0 2 0, am_r 15 33 0, am_i a2] σ (some (am_i q.1)) q.2 := by
  refine am_M_of (P := am_p0) (by decide +kernel) am_p0_ok rfl ?_
  intro G p e s m args below meth c X hr
  have hc := ct_X0_tryStep
  unfold fn_X0_tryStep_33 at h
  refine am_blk hc X 0 5 (fr' := (5, [(0, am_r oa0 2 0), (1, am_r 15 33 0), (2, am_i a2)], [am_i a2, am_i (σ.1 15 33 0 3), am_r oa0 2 0], σ)) rfl ⟨trivial, trivial, trivial, (am_in_vp (by decide)), trivial, trivial⟩ ?_
  obtain ⟨q1, hq2, h⟩ := am_bs h
  refine am_callV hc 5 X (k := 2) (i := 0) (o := oa0) (As := [am_i (σ.1 15 33 0 3), am_i a2]) (rest := []) rfl (ok_X0_endOf l oa0 (σ.1 15 33 0 3) a2 (σ) hq2) yv_X0_endOf ml_X0_85 (cl_2) rfl rfl rfl rfl rfl ?_
  refine am_blk hc X 6 3 (fr' := (11, [(0, am_r oa0 2 0), (1, am_r 15 33 0), (2, am_i a2), (3, am_i q1.1)], [am_i (-1), am_i q1.1], q1.2)) rfl ⟨trivial, trivial, trivial, trivial⟩ ?_
  refine am_icmp_eq hc X 9 (tgt := 25) rfl (by decide) (fun c8 => ?_) (fun c8 => ?_)
  · replace h := am_ip c8 h
    refine am_blk hc X 17 1 (fr' := (26, [(0, am_r oa0 2 0), (1, am_r 15 33 0), (2, am_i a2), (3, am_i q1.1)], [am_i 0], q1.2)) rfl ⟨trivial, trivial⟩ ?_
    obtain rfl := Option.some.inj h
    exact am_zret hc X hr 18 rfl (by decide) rfl rfl
  · replace h := am_in2 c8 h
    refine am_blk hc X 10 6 (fr' := (22, [(0, am_r oa0 2 0), (1, am_r 15 33 0), (2, am_i a2), (3, am_i q1.1)], [am_i 20, am_i ((q1.2.1 15 33 0 6) + (1 : Int32))], q1.2)) rfl ⟨trivial, trivial, (am_in_vp (by decide)), trivial, trivial, trivial, trivial⟩ ?_
    refine am_icmp_le hc X 16 (tgt := 27) rfl (by decide) (fun c7 => ?_) (fun c7 => ?_)
    · replace h := am_ip c7 h
      refine am_blk hc X 19 6 (fr' := (33, [(0, am_r oa0 2 0), (1, am_r 15 33 0), (2, am_i a2), (3, am_i q1.1)], [am_i a2, am_i (q1.2.1 15 33 0 3), am_r 15 33 0, am_r oa0 2 0], q1.2)) rfl ⟨trivial, trivial, trivial, trivial, (am_in_vp (by decide)), trivial, trivial⟩ ?_
      obtain ⟨q3, hq4, h⟩ := am_bs h
      refine am_callV hc 25 X (k := 2) (i := 0) (o := oa0) (As := [am_r 15 33 0, am_i (q1.2.1 15 33 0 3), am_i a2]) (rest := []) rfl (ok_X0_priceFor_33 l oa0 (q1.2.1 15 33 0 3) a2 q1.2 hq4) yv_X0_priceFor ml_X0_88 (cl_2) rfl rfl rfl rfl rfl ?_
      refine am_blk hc X 26 5 (fr' := (43, [(0, am_r oa0 2 0), (1, am_r 15 33 0), (2, am_i a2), (3, am_i q1.1), (4, am_i q3.1)], [am_i q3.1, am_i (q3.2.1 15 33 0 5)], q3.2)) rfl ⟨trivial, trivial, trivial, (am_in_vp (by decide)), trivial, trivial⟩ ?_
      refine am_icmp_ge hc X 31 (tgt := 48) rfl (by decide) (fun c6 => ?_) (fun c6 => ?_)
      · replace h := am_ip c6 h
        refine am_blk hc X 34 19 (fr' := (69, [(0, am_r oa0 2 0), (1, am_r 15 33 0), (2, am_i a2), (3, am_i q1.1), (4, am_i q3.1)], [am_i a2], (am_u (am_u (am_u q3.2 15 33 0 5 ((q3.2.1 15 33 0 5) - q3.1)) 15 33 0 6 ((q3.2.1 15 33 0 6) + (1 : Int32))) 15 33 0 3 q1.1))) rfl ⟨trivial, trivial, trivial, (am_in_vp (by decide)), trivial, trivial, (am_in_vp (by decide)), trivial, trivial, trivial, (am_in_vp (by decide)), trivial, trivial, (am_in_vp (by decide)), trivial, trivial, trivial, (am_in_vp (by decide)), trivial, trivial⟩ ?_
        refine am_if_ne hc X 53 (tgt := 88) rfl (by decide) (fun c5 => ?_) (fun c5 => ?_)
        · replace h := am_in2 c5 h
          refine am_blk hc X 64 1 (fr' := (89, [(0, am_r oa0 2 0), (1, am_r 15 33 0), (2, am_i a2), (3, am_i q1.1), (4, am_i q3.1)], [am_i 1], (am_u (am_u (am_u q3.2 15 33 0 5 ((q3.2.1 15 33 0 5) - q3.1)) 15 33 0 6 ((q3.2.1 15 33 0 6) + (1 : Int32))) 15 33 0 3 q1.1))) rfl ⟨trivial, trivial⟩ ?_
          obtain rfl := Option.some.inj h
          exact am_zret hc X hr 65 rfl (by decide) rfl rfl
        · replace h := am_ip c5 h
          refine am_blk hc X 54 8 (fr' := (84, [(0, am_r oa0 2 0), (1, am_r 15 33 0), (2, am_i a2), (3, am_i q1.1), (4, am_i q3.1)], [am_i ((q3.2.1 15 33 0 7) + (1 : Int32)), am_i 999, am_i 7, am_r 15 33 0], (am_u (am_u (am_u q3.2 15 33 0 5 ((q3.2.1 15 33 0 5) - q3.1)) 15 33 0 6 ((q3.2.1 15 33 0 6) + (1 : Int32))) 15 33 0 3 q1.1))) rfl ⟨trivial, trivial, trivial, trivial, trivial, (am_in_vp (by decide)), trivial, trivial, trivial⟩ ?_
          refine am_mmin hc 62 X (rest := [am_i 7, am_r 15 33 0]) rfl ml_X0_92 am_wmin rfl rfl ?_
          refine am_blk hc X 63 2 (fr' := (89, [(0, am_r oa0 2 0), (1, am_r 15 33 0), (2, am_i a2), (3, am_i q1.1), (4, am_i q3.1)], [am_i 1], (am_u (am_u (am_u (am_u q3.2 15 33 0 5 ((q3.2.1 15 33 0 5) - q3.1)) 15 33 0 6 ((q3.2.1 15 33 0 6) + (1 : Int32))) 15 33 0 3 q1.1) 15 33 0 7 (if ((q3.2.1 15 33 0 7) + (1 : Int32)) < 999 then ((q3.2.1 15 33 0 7) + (1 : Int32)) else 999)))) rfl ⟨(am_in_vp (by decide)), trivial, trivial⟩ ?_
          obtain rfl := Option.some.inj h
          exact am_zret hc X hr 65 rfl (by decide) rfl rfl
      · replace h := am_in2 c6 h
        refine am_blk hc X 32 1 (fr' := (47, [(0, am_r oa0 2 0), (1, am_r 15 33 0), (2, am_i a2), (3, am_i q1.1), (4, am_i q3.1)], [am_i 0], q3.2)) rfl ⟨trivial, trivial⟩ ?_
        obtain rfl := Option.some.inj h
        exact am_zret hc X hr 33 rfl (by decide) rfl rfl
    · replace h := am_in2 c7 h
      refine am_blk hc X 17 1 (fr' := (26, [(0, am_r oa0 2 0), (1, am_r 15 33 0), (2, am_i a2), (3, am_i q1.1)], [am_i 0], q1.2)) rfl ⟨trivial, trivial⟩ ?_
      obtain rfl := Option.some.inj h
      exact am_zret hc X hr 18 rfl (by decide) rfl rfl
def jn_X0_tryRest_33_33  (y0 : Int32) (y1 : Int32) (σ : am_S) : Option (Int32 × am_S) :=
  (bif am_in y1 8 then some (1, (am_u σ 15 33 0 ((y1 : Int32).toNatClampNeg) y0)) else none)
set_option maxRecDepth 100000 in
theorem jl_X0_tryRest_33_33 {p : Program} {l : Launch} {e : Env} {s : State} {m : MethodId} {args : Array Value} {below : List Frame} {meth : Method} {c : Code} {G : am_G} {q : Int32 × am_S} (X : am_X p s m args c cX0_tryRest yX0_tryRest.cls 1 am_p0 G (am_fr G)) (hr : meth.sig.returnType = (some .boolean) ∧ meth.locks = false)    (y0 : Int32) (y1 : Int32) (σ : am_S) (h : jn_X0_tryRest_33_33  y0 y1 σ = some q) : am_A p l e (am_ro 1) s m args below meth c 1 G (am_fr G) 0 0 (MQ below (am_Qc G (some (am_i q.1)) q.2) args s 0 0 (am_fr G)) (33, [], [am_i y0, am_i y1, am_r 15 33 0], σ) := by
  have hc := ct_X0_tryRest
  unfold jn_X0_tryRest_33_33 at h
  obtain ⟨ob3, h⟩ := am_ci h
  refine am_blk hc X 22 2 (fr' := (35, [], [am_i 1], (am_u σ 15 33 0 ((y1 : Int32).toNatClampNeg) y0))) rfl ⟨(am_in_vp ob3), trivial, trivial⟩ ?_
  obtain rfl := Option.some.inj h
  exact am_zret hc X hr 24 rfl (by decide) rfl rfl
def fn_X0_tryRest_33  (σ : am_S) : Option (Int32 × am_S) :=
  (if (σ.1 15 33 0 3) = 6 then (fn_X7_isOfKind (σ.1 15 33 0 0) 2 (σ)).bind fun q1 => (if q1.1 = 0 then jn_X0_tryRest_33_33  0 6 q1.2 else jn_X0_tryRest_33_33  ((q1.2.1 15 33 0 6) / (2 : Int32)) 6 q1.2) else some (0, σ))
set_option maxRecDepth 100000 in
theorem ok_X0_tryRest_33 (l : Launch)  (σ : am_S) {q : Int32 × am_S} (h : fn_X0_tryRest_33  σ = some q) : am_M l yX0_tryRest cX0_tryRest 1 (some .boolean) 1 [am_r 15 33 0] σ (some (am_i q.1)) q.2 := by
  refine am_M_of (P := am_p0) (by decide +kernel) am_p0_ok rfl ?_
  intro G p e s m args below meth c X hr
  have hc := ct_X0_tryRest
  unfold fn_X0_tryRest_33 at h
  refine am_blk hc X 0 4 (fr' := (5, [(0, am_r 15 33 0)], [am_i 6, am_i (σ.1 15 33 0 3)], σ)) rfl ⟨trivial, trivial, (am_in_vp (by decide)), trivial, trivial⟩ ?_
  refine am_icmp_eq hc X 4 (tgt := 10) rfl (by decide) (fun c5 => ?_) (fun c5 => ?_)
  · replace h := am_ip c5 h
    refine am_blk hc X 7 6 (fr' := (17, [(0, am_r 15 33 0)], [am_i 2, am_i (σ.1 15 33 0 0), am_i 6, am_r 15 33 0], σ)) rfl ⟨trivial, trivial, trivial, trivial, (am_in_vp (by decide)), trivial, trivial⟩ ?_
    obtain ⟨q1, hq2, h⟩ := am_bs h
    refine am_callN hc 13 X (As := [am_i (σ.1 15 33 0 0), am_i 2]) (rest := [am_i 6, am_r 15 33 0]) rfl (ok_X7_isOfKind l (σ.1 15 33 0 0) 2 (σ) hq2) yv_X7_isOfKind mn_X0_98 rfl rfl rfl rfl rfl ?_
    refine am_if_eq hc X 14 (tgt := 32) rfl (by decide) (fun c4 => ?_) (fun c4 => ?_)
    · replace h := am_ip c4 h
      refine am_blk hc X 21 1 (fr' := (33, [(0, am_r 15 33 0)], [am_i 0, am_i 6, am_r 15 33 0], q1.2)) rfl ⟨trivial, trivial⟩ ?_
      refine am_less [] rfl ?_
      exact jl_X0_tryRest_33_33 X hr   0 6 _ h
    · replace h := am_in2 c4 h
      refine am_blk hc X 15 6 (fr' := (33, [(0, am_r 15 33 0)], [am_i ((q1.2.1 15 33 0 6) / (2 : Int32)), am_i 6, am_r 15 33 0], q1.2)) rfl ⟨trivial, trivial, (am_in_vp (by decide)), trivial, (by decide), trivial, trivial⟩ ?_
      refine am_less [] rfl ?_
      exact jl_X0_tryRest_33_33 X hr   ((q1.2.1 15 33 0 6) / (2 : Int32)) 6 _ h
  · replace h := am_in2 c5 h
    refine am_blk hc X 5 1 (fr' := (9, [(0, am_r 15 33 0)], [am_i 0], σ)) rfl ⟨trivial, trivial⟩ ?_
    obtain rfl := Option.some.inj h
    exact am_zret hc X hr 6 rfl (by decide) rfl rfl
def fn_X0_tryWork_33 (oa0 : Nat) (σ : am_S) : Option (Int32 × am_S) :=
  (if (σ.1 15 33 0 3) = 6 then some (0, σ) else (if ((σ.1 15 33 0 6) + (2 : Int32)) ≤ 20 then (fn_X0_payAt oa0 (σ.1 15 33 0 3) (σ)).bind fun q1 => some (1, (am_u (am_u q1.2 15 33 0 5 (if ((σ.1 15 33 0 5) + q1.1) < 999 then ((σ.1 15 33 0 5) + q1.1) else 999)) 15 33 0 6 ((q1.2.1 15 33 0 6) + (2 : Int32)))) else some (0, σ)))
set_option maxRecDepth 100000 in
theorem ok_X0_tryWork_33 (l : Launch) (oa0 : Nat) (σ : am_S) {q : Int32 × am_S} (h : fn_X0_tryWork_33 oa0 σ = some q) : am_M l yX0_tryWork cX0_tryWork 2 (some .boolean) 2 [am_r oa0 2 0, am_r 15 33 0] σ (some (am_i q.1)) q.2 := by
  refine am_M_of (P := am_p0) (by decide +kernel) am_p0_ok rfl ?_
  intro G p e s m args below meth c X hr
  have hc := ct_X0_tryWork
  unfold fn_X0_tryWork_33 at h
  refine am_blk hc X 0 4 (fr' := (5, [(0, am_r oa0 2 0), (1, am_r 15 33 0)], [am_i 6, am_i (σ.1 15 33 0 3)], σ)) rfl ⟨trivial, trivial, (am_in_vp (by decide)), trivial, trivial⟩ ?_
  refine am_icmp_eq hc X 4 (tgt := 19) rfl (by decide) (fun c4 => ?_) (fun c4 => ?_)
  · replace h := am_ip c4 h
    refine am_blk hc X 12 1 (fr' := (20, [(0, am_r oa0 2 0), (1, am_r 15 33 0)], [am_i 0], σ)) rfl ⟨trivial, trivial⟩ ?_
    obtain rfl := Option.some.inj h
    exact am_zret hc X hr 13 rfl (by decide) rfl rfl
  · replace h := am_in2 c4 h
    refine am_blk hc X 5 6 (fr' := (16, [(0, am_r oa0 2 0), (1, am_r 15 33 0)], [am_i 20, am_i ((σ.1 15 33 0 6) + (2 : Int32))], σ)) rfl ⟨trivial, trivial, (am_in_vp (by decide)), trivial, trivial, trivial, trivial⟩ ?_
    refine am_icmp_le hc X 11 (tgt := 21) rfl (by decide) (fun c3 => ?_) (fun c3 => ?_)
    · replace h := am_ip c3 h
      refine am_blk hc X 14 10 (fr' := (33, [(0, am_r oa0 2 0), (1, am_r 15 33 0)], [am_i (σ.1 15 33 0 3), am_r oa0 2 0, am_i (σ.1 15 33 0 5), am_i 999, am_i 5, am_r 15 33 0], σ)) rfl ⟨trivial, trivial, trivial, trivial, trivial, (am_in_vp (by decide)), trivial, trivial, trivial, (am_in_vp (by decide)), trivial⟩ ?_
      obtain ⟨q1, hq2, h⟩ := am_bs h
      refine am_callV hc 24 X (k := 2) (i := 0) (o := oa0) (As := [am_i (σ.1 15 33 0 3)]) (rest := [am_i (σ.1 15 33 0 5), am_i 999, am_i 5, am_r 15 33 0]) rfl (ok_X0_payAt l oa0 (σ.1 15 33 0 3) (σ) hq2) yv_X0_payAt ml_X0_95 (cl_2) rfl rfl rfl rfl rfl ?_
      refine am_blk hc X 25 1 (fr' := (37, [(0, am_r oa0 2 0), (1, am_r 15 33 0)], [am_i ((σ.1 15 33 0 5) + q1.1), am_i 999, am_i 5, am_r 15 33 0], q1.2)) rfl ⟨trivial, trivial⟩ ?_
      refine am_mmin hc 26 X (rest := [am_i 5, am_r 15 33 0]) rfl ml_X0_92 am_wmin rfl rfl ?_
      refine am_blk hc X 27 9 (fr' := (50, [(0, am_r oa0 2 0), (1, am_r 15 33 0)], [am_i 1], (am_u (am_u q1.2 15 33 0 5 (if ((σ.1 15 33 0 5) + q1.1) < 999 then ((σ.1 15 33 0 5) + q1.1) else 999)) 15 33 0 6 ((q1.2.1 15 33 0 6) + (2 : Int32))))) rfl ⟨(am_in_vp (by decide)), trivial, trivial, trivial, (am_in_vp (by decide)), trivial, trivial, (am_in_vp (by decide)), trivial, trivial⟩ ?_
      obtain rfl := Option.some.inj h
      exact am_zret hc X hr 36 rfl (by decide) rfl rfl
    · replace h := am_in2 c3 h
      refine am_blk hc X 12 1 (fr' := (20, [(0, am_r oa0 2 0), (1, am_r 15 33 0)], [am_i 0], σ)) rfl ⟨trivial, trivial⟩ ?_
      obtain rfl := Option.some.inj h
      exact am_zret hc X hr 13 rfl (by decide) rfl rfl
def fn_X0_tryAct_33 (oa0 : Nat) (a2 : Int32) (σ : am_S) : Option (Int32 × am_S) :=
  (if a2 = 8 then (fn_X0_tryWork_33 oa0 (σ)).bind fun q9 => (if q9.1 = 0 ∨ q9.1 = 1 then some (q9.1, q9.2) else none) else (if a2 = 9 then (fn_X0_tryRest_33  (σ)).bind fun q6 => (if q6.1 = 0 ∨ q6.1 = 1 then some (q6.1, q6.2) else none) else (fn_X0_tryStep_33 oa0 a2 (σ)).bind fun q1 => (if q1.1 = 0 ∨ q1.1 = 1 then some (q1.1, q1.2) else none)))
set_option maxRecDepth 100000 in
theorem ok_X0_tryAct_33 (l : Launch) (oa0 : Nat) (a2 : Int32) (σ : am_S) {q : Int32 × am_S} (h : fn_X0_tryAct_33 oa0 a2 σ = some q) : am_M l yX0_tryAct cX0_tryAct 3 (some .boolean) 4 [am_r oa0 2 0, am_r 15 33 0, am_i a2] σ (some (am_i q.1)) q.2 := by
  refine am_M_of (P := am_p0) (by decide +kernel) am_p0_ok rfl ?_
  intro G p e s m args below meth c X hr
  have hc := ct_X0_tryAct
  unfold fn_X0_tryAct_33 at h
  refine am_blk hc X 0 1 (fr' := (1, [(0, am_r oa0 2 0), (1, am_r 15 33 0), (2, am_i a2)], [am_i a2], σ)) rfl ⟨trivial, trivial⟩ ?_
  by_cases c4 : a2 = 8
  · replace h := am_ip c4 h
    refine am_look hc X 1 (tgt := 28) (off := 27) rfl (by decide) (by rw [c4]; rfl) (by decide) ?_
    refine am_blk hc X 2 2 (fr' := (30, [(0, am_r oa0 2 0), (1, am_r 15 33 0), (2, am_i a2)], [am_r 15 33 0, am_r oa0 2 0], σ)) rfl ⟨trivial, trivial, trivial⟩ ?_
    obtain ⟨q9, hq10, h⟩ := am_bs h
    refine am_callV hc 4 X (k := 2) (i := 0) (o := oa0) (As := [am_r 15 33 0]) (rest := []) rfl (ok_X0_tryWork_33 l oa0 (σ) hq10) yv_X0_tryWork ml_X0_74 (cl_2) rfl rfl rfl rfl rfl ?_
    obtain ⟨ob11, h⟩ := am_ct2 h
    obtain rfl := Option.some.inj h
    exact am_zret hc X hr 5 rfl ob11 rfl rfl
  · replace h := am_in2 c4 h
    by_cases c5 : a2 = 9
    · replace h := am_ip c5 h
      refine am_look hc X 1 (tgt := 34) (off := 33) rfl (by decide) (by rw [c5]; rfl) (by decide) ?_
      refine am_blk hc X 6 1 (fr' := (35, [(0, am_r oa0 2 0), (1, am_r 15 33 0), (2, am_i a2)], [am_r 15 33 0], σ)) rfl ⟨trivial, trivial⟩ ?_
      obtain ⟨q6, hq7, h⟩ := am_bs h
      refine am_callS hc 7 X (As := [am_r 15 33 0]) (rest := []) rfl (ok_X0_tryRest_33 l  (σ) hq7) yv_X0_tryRest ml_X0_78 rfl rfl rfl rfl rfl ?_
      obtain ⟨ob8, h⟩ := am_ct2 h
      obtain rfl := Option.some.inj h
      exact am_zret hc X hr 8 rfl ob8 rfl rfl
    · replace h := am_in2 c5 h
      refine am_look hc X 1 (tgt := 39) (off := 38) rfl (by decide) ((lv_osw c4 rfl).trans ((lv_osw c5 rfl).trans (rfl))) (by decide) ?_
      refine am_blk hc X 9 3 (fr' := (42, [(0, am_r oa0 2 0), (1, am_r 15 33 0), (2, am_i a2)], [am_i a2, am_r 15 33 0, am_r oa0 2 0], σ)) rfl ⟨trivial, trivial, trivial, trivial⟩ ?_
      obtain ⟨q1, hq2, h⟩ := am_bs h
      refine am_callV hc 12 X (k := 2) (i := 0) (o := oa0) (As := [am_r 15 33 0, am_i a2]) (rest := []) rfl (ok_X0_tryStep_33 l oa0 a2 (σ) hq2) yv_X0_tryStep ml_X0_81 (cl_2) rfl rfl rfl rfl rfl ?_
      obtain ⟨ob3, h⟩ := am_ct2 h
      obtain rfl := Option.some.inj h
      exact am_zret hc X hr 13 rfl ob3 rfl rfl
def jn_X1_findWrong_13_94 (k26 : Nat → Nat → Int32 → Int32 → am_S → Option (Int32 × am_S)) (ox1 : Nat) (ix2 : Nat) (x3 : Int32) (x5 : Int32) (σ : am_S) : Option (Int32 × am_S) :=
  k26 ox1 ix2 x3 (x5 + 1) (σ)
set_option maxRecDepth 100000 in
theorem jl_X1_findWrong_13_94 {p : Program} {l : Launch} {e : Env} {s : State} {m : MethodId} {args : Array Value} {below : List Frame} {meth : Method} {c : Code} {G : am_G} {q : Int32 × am_S} (X : am_X p s m args c cX1_findWrong yX1_findWrong.cls 6 am_p1 G (am_fr G)) (hr : meth.sig.returnType = (some .int) ∧ meth.locks = false)  (k26 : Nat → Nat → Int32 → Int32 → am_S → Option (Int32 × am_S)) (hk26 : ∀ (ox1 : Nat) (ix2 : Nat) (x3 : Int32) (x5 : Int32) (σ : am_S), k26 ox1 ix2 x3 x5 σ = some q → am_A p l e (am_ro 5) s m args below meth c 6 G (am_fr G) 0 0 (MQ below (am_Qc G (some (am_i q.1)) q.2) args s 0 0 (am_fr G)) (26, [(0, am_r 15 32 0), (1, am_r ox1 2 0), (2, am_r 10 13 ix2), (3, am_i x3), (5, am_i x5)], [], σ)) (ox1 : Nat) (ix2 : Nat) (x3 : Int32) (x5 : Int32) (σ : am_S) (h : jn_X1_findWrong_13_94 k26 ox1 ix2 x3 x5 σ = some q) : am_A p l e (am_ro 5) s m args below meth c 6 G (am_fr G) 0 0 (MQ below (am_Qc G (some (am_i q.1)) q.2) args s 0 0 (am_fr G)) (94, [(0, am_r 15 32 0), (1, am_r ox1 2 0), (2, am_r 10 13 ix2), (3, am_i x3), (5, am_i x5)], [], σ) := by
  have hc := ct_X1_findWrong
  unfold jn_X1_findWrong_13_94 at h
  refine am_blk hc X 51 2 (fr' := (26, [(0, am_r 15 32 0), (1, am_r ox1 2 0), (2, am_r 10 13 ix2), (3, am_i x3), (5, am_i (x5 + 1))], [], σ)) rfl ⟨trivial, trivial, trivial⟩ ?_
  exact hk26 ox1 ix2 x3 (x5 + 1) _ h
def lb_X1_findWrong_13_26 (k26 : Nat → Nat → Int32 → Int32 → am_S → Option (Int32 × am_S)) (ox1 : Nat) (ix2 : Nat) (x3 : Int32) (x5 : Int32) (σ : am_S) : Option (Int32 × am_S) :=
  (if x3 ≤ x5 then some ((-1), σ) else (if 40 ≤ x5 then some ((-1), σ) else (bif am_in x5 40 then (fn_X7_isAct (σ.2 10 13 ix2 ((x5 : Int32).toNatClampNeg)) (σ)).bind fun q3 => (if q3.1 = 0 then some (x5, q3.2) else (bif am_in x5 40 then (fn_X0_tryAct_33 ox1 (((q3.2.2 10 13 ix2 ((x5 : Int32).toNatClampNeg)) : Int64).toInt32) q3.2).bind fun q6 => (if q6.1 = 0 then some (x5, q6.2) else (if (q6.2.1 15 32 0 1) = (-1) then (if (q6.2.1 15 33 0 6) < 15 then jn_X1_findWrong_13_94 k26 ox1 ix2 x3 x5 q6.2 else jn_X1_findWrong_13_94 k26 ox1 ix2 x3 x5 (am_u q6.2 15 32 0 1 x5)) else jn_X1_findWrong_13_94 k26 ox1 ix2 x3 x5 q6.2)) else none)) else none)))
set_option maxRecDepth 100000 in
theorem lc_X1_findWrong_13_26 {p : Program} {l : Launch} {e : Env} {s : State} {m : MethodId} {args : Array Value} {below : List Frame} {meth : Method} {c : Code} {G : am_G} {q : Int32 × am_S} (X : am_X p s m args c cX1_findWrong yX1_findWrong.cls 6 am_p1 G (am_fr G)) (hr : meth.sig.returnType = (some .int) ∧ meth.locks = false)  (k26 : Nat → Nat → Int32 → Int32 → am_S → Option (Int32 × am_S)) (hk26 : ∀ (ox1 : Nat) (ix2 : Nat) (x3 : Int32) (x5 : Int32) (σ : am_S), k26 ox1 ix2 x3 x5 σ = some q → am_A p l e (am_ro 5) s m args below meth c 6 G (am_fr G) 0 0 (MQ below (am_Qc G (some (am_i q.1)) q.2) args s 0 0 (am_fr G)) (26, [(0, am_r 15 32 0), (1, am_r ox1 2 0), (2, am_r 10 13 ix2), (3, am_i x3), (5, am_i x5)], [], σ)) (ox1 : Nat) (ix2 : Nat) (x3 : Int32) (x5 : Int32) (σ : am_S) (h : lb_X1_findWrong_13_26 k26 ox1 ix2 x3 x5 σ = some q) : am_A p l e (am_ro 5) s m args below meth c 6 G (am_fr G) 0 0 (MQ below (am_Qc G (some (am_i q.1)) q.2) args s 0 0 (am_fr G)) (26, [(0, am_r 15 32 0), (1, am_r ox1 2 0), (2, am_r 10 13 ix2), (3, am_i x3), (5, am_i x5)], [], σ) := by
  have hc := ct_X1_findWrong
  unfold lb_X1_findWrong_13_26 at h
  refine am_blk hc X 15 2 (fr' := (29, [(0, am_r 15 32 0), (1, am_r ox1 2 0), (2, am_r 10 13 ix2), (3, am_i x3), (5, am_i x5)], [am_i x3, am_i x5], σ)) rfl ⟨trivial, trivial, trivial⟩ ?_
  refine am_icmp_ge hc X 17 (tgt := 100) rfl (by decide) (fun c13 => ?_) (fun c13 => ?_)
  · replace h := am_ip c13 h
    refine am_blk hc X 53 1 (fr' := (101, [(0, am_r 15 32 0), (1, am_r ox1 2 0), (2, am_r 10 13 ix2), (3, am_i x3), (5, am_i x5)], [am_i (-1)], σ)) rfl ⟨trivial, trivial⟩ ?_
    obtain rfl := Option.some.inj h
    exact am_iret hc X hr 54 rfl rfl rfl
  · replace h := am_in2 c13 h
    refine am_blk hc X 18 3 (fr' := (36, [(0, am_r 15 32 0), (1, am_r ox1 2 0), (2, am_r 10 13 ix2), (3, am_i x3), (5, am_i x5)], [am_i 40, am_i x5], σ)) rfl ⟨trivial, trivial, trivial, trivial⟩ ?_
    refine am_icmp_ge hc X 21 (tgt := 100) rfl (by decide) (fun c12 => ?_) (fun c12 => ?_)
    · replace h := am_ip c12 h
      refine am_blk hc X 53 1 (fr' := (101, [(0, am_r 15 32 0), (1, am_r ox1 2 0), (2, am_r 10 13 ix2), (3, am_i x3), (5, am_i x5)], [am_i (-1)], σ)) rfl ⟨trivial, trivial⟩ ?_
      obtain rfl := Option.some.inj h
      exact am_iret hc X hr 54 rfl rfl rfl
    · replace h := am_in2 c12 h
      obtain ⟨ob2, h⟩ := am_ci h
      refine am_blk hc X 22 3 (fr' := (43, [(0, am_r 15 32 0), (1, am_r ox1 2 0), (2, am_r 10 13 ix2), (3, am_i x3), (5, am_i x5)], [am_l (σ.2 10 13 ix2 ((x5 : Int32).toNatClampNeg))], σ)) rfl ⟨trivial, trivial, (am_in_vp ob2), trivial⟩ ?_
      obtain ⟨q3, hq4, h⟩ := am_bs h
      refine am_callN hc 25 X (As := [am_l (σ.2 10 13 ix2 ((x5 : Int32).toNatClampNeg))]) (rest := []) rfl (ok_X7_isAct l (σ.2 10 13 ix2 ((x5 : Int32).toNatClampNeg)) (σ) hq4) yv_X7_isAct mn_X1_31 rfl rfl rfl rfl rfl ?_
      refine am_if_eq hc X 26 (tgt := 65) rfl (by decide) (fun c11 => ?_) (fun c11 => ?_)
      · replace h := am_ip c11 h
        refine am_blk hc X 36 1 (fr' := (67, [(0, am_r 15 32 0), (1, am_r ox1 2 0), (2, am_r 10 13 ix2), (3, am_i x3), (5, am_i x5)], [am_i x5], q3.2)) rfl ⟨trivial, trivial⟩ ?_
        obtain rfl := Option.some.inj h
        exact am_iret hc X hr 37 rfl rfl rfl
      · replace h := am_in2 c11 h
        obtain ⟨ob5, h⟩ := am_ci h
        refine am_blk hc X 27 7 (fr' := (59, [(0, am_r 15 32 0), (1, am_r ox1 2 0), (2, am_r 10 13 ix2), (3, am_i x3), (5, am_i x5)], [am_i (((q3.2.2 10 13 ix2 ((x5 : Int32).toNatClampNeg)) : Int64).toInt32), am_r 15 33 0, am_r ox1 2 0], q3.2)) rfl ⟨trivial, trivial, trivial, trivial, trivial, (am_in_vp ob5), trivial, trivial⟩ ?_
        obtain ⟨q6, hq7, h⟩ := am_bs h
        refine am_callV hc 34 X (k := 2) (i := 0) (o := ox1) (As := [am_r 15 33 0, am_i (((q3.2.2 10 13 ix2 ((x5 : Int32).toNatClampNeg)) : Int64).toInt32)]) (rest := []) rfl (ok_X0_tryAct_33 l ox1 (((q3.2.2 10 13 ix2 ((x5 : Int32).toNatClampNeg)) : Int64).toInt32) q3.2 hq7) yv_X0_tryAct ml_X1_35 (cl_2) rfl rfl rfl rfl rfl ?_
        refine am_if_ne hc X 35 (tgt := 68) rfl (by decide) (fun c10 => ?_) (fun c10 => ?_)
        · replace h := am_in2 c10 h
          refine am_blk hc X 38 3 (fr' := (73, [(0, am_r 15 32 0), (1, am_r ox1 2 0), (2, am_r 10 13 ix2), (3, am_i x3), (5, am_i x5)], [am_i (-1), am_i (q6.2.1 15 32 0 1)], q6.2)) rfl ⟨trivial, trivial, trivial, trivial⟩ ?_
          refine am_icmp_ne hc X 41 (tgt := 94) rfl (by decide) (fun c9 => ?_) (fun c9 => ?_)
          · replace h := am_in2 c9 h
            exact jl_X1_findWrong_13_94 X hr k26 hk26 ox1 ix2 x3 x5 _ h
          · replace h := am_ip c9 h
            refine am_blk hc X 42 5 (fr' := (85, [(0, am_r 15 32 0), (1, am_r ox1 2 0), (2, am_r 10 13 ix2), (3, am_i x3), (5, am_i x5)], [am_i 15, am_i (q6.2.1 15 33 0 6)], q6.2)) rfl ⟨trivial, trivial, trivial, (am_in_vp (by decide)), trivial, trivial⟩ ?_
            refine am_icmp_lt hc X 47 (tgt := 94) rfl (by decide) (fun c8 => ?_) (fun c8 => ?_)
            · replace h := am_ip c8 h
              exact jl_X1_findWrong_13_94 X hr k26 hk26 ox1 ix2 x3 x5 _ h
            · replace h := am_in2 c8 h
              refine am_blk hc X 48 3 (fr' := (94, [(0, am_r 15 32 0), (1, am_r ox1 2 0), (2, am_r 10 13 ix2), (3, am_i x3), (5, am_i x5)], [], (am_u q6.2 15 32 0 1 x5))) rfl ⟨trivial, trivial, trivial, trivial⟩ ?_
              exact jl_X1_findWrong_13_94 X hr k26 hk26 ox1 ix2 x3 x5 _ h
        · replace h := am_ip c10 h
          refine am_blk hc X 36 1 (fr' := (67, [(0, am_r 15 32 0), (1, am_r ox1 2 0), (2, am_r 10 13 ix2), (3, am_i x3), (5, am_i x5)], [am_i x5], q6.2)) rfl ⟨trivial, trivial⟩ ?_
          obtain rfl := Option.some.inj h
          exact am_iret hc X hr 37 rfl rfl rfl
def lp_X1_findWrong_13_26  : Nat → Nat → Nat → Int32 → Int32 → am_S → Option (Int32 × am_S)
  | 0 => fun _ _ _ _ _ => none
  | n + 1 => lb_X1_findWrong_13_26  (lp_X1_findWrong_13_26  n)
theorem ll_X1_findWrong_13_26 {p : Program} {l : Launch} {e : Env} {s : State} {m : MethodId} {args : Array Value} {below : List Frame} {meth : Method} {c : Code} {G : am_G} {q : Int32 × am_S} (X : am_X p s m args c cX1_findWrong yX1_findWrong.cls 6 am_p1 G (am_fr G)) (hr : meth.sig.returnType = (some .int) ∧ meth.locks = false)    : ∀ (n : Nat) (ox1 : Nat) (ix2 : Nat) (x3 : Int32) (x5 : Int32) (σ : am_S), lp_X1_findWrong_13_26  n ox1 ix2 x3 x5 σ = some q → am_A p l e (am_ro 5) s m args below meth c 6 G (am_fr G) 0 0 (MQ below (am_Qc G (some (am_i q.1)) q.2) args s 0 0 (am_fr G)) (26, [(0, am_r 15 32 0), (1, am_r ox1 2 0), (2, am_r 10 13 ix2), (3, am_i x3), (5, am_i x5)], [], σ) := by
  intro n
  induction n with
  | zero =>
    intro ox1 ix2 x3 x5 σ h
    have h : (none : Option (Int32 × am_S)) = some q := h
    cases h
  | succ n ih =>
    intro ox1 ix2 x3 x5 σ h
    exact lc_X1_findWrong_13_26 X hr  (lp_X1_findWrong_13_26  n) ih ox1 ix2 x3 x5 σ h
def fn_X1_findWrong_13 (oa1 : Nat) (ia2 : Nat) (a3 : Int32) (a4 : Int32) (σ : am_S) : Option (Int32 × am_S) :=
  (bif am_in a4 6 then (bif am_cok 0 0 8 8 8 then lp_X1_findWrong_13_26  1000 oa1 ia2 a3 0 (am_u (am_row σ 15 33 0 (va_cpy (σ.1 oa1 8 ((a4 : Int32).toNatClampNeg)) (σ.1 15 33 0) 0 0 8)) 15 32 0 1 (-1)) else none) else none)
set_option maxRecDepth 100000 in
theorem ok_X1_findWrong_13 (l : Launch) (oa1 : Nat) (ia2 : Nat) (a3 : Int32) (a4 : Int32) (σ : am_S) {q : Int32 × am_S} (h : fn_X1_findWrong_13 oa1 ia2 a3 a4 σ = some q) : am_M l yX1_findWrong cX1_findWrong 6 (some .int) 5 [am_r 15 32 0, am_r oa1 2 0, am_r 10 13 ia2, am_i a3, am_i a4] σ (some (am_i q.1)) q.2 := by
  refine am_M_of (P := am_p1) (by decide +kernel) am_p1_ok rfl ?_
  intro G p e s m args below meth c X hr
  have hc := ct_X1_findWrong
  unfold fn_X1_findWrong_13 at h
  obtain ⟨ob1, h⟩ := am_ci h
  refine am_blk hc X 0 9 (fr' := (15, [(0, am_r 15 32 0), (1, am_r oa1 2 0), (2, am_r 10 13 ia2), (3, am_i a3), (4, am_i a4)], [am_i 8, am_i 0, am_r 15 33 0, am_i 0, am_r oa1 8 ((a4 : Int32).toNatClampNeg)], σ)) rfl ⟨trivial, trivial, trivial, (am_in_vp ob1), trivial, trivial, trivial, trivial, trivial, trivial⟩ ?_
  obtain ⟨ob14, h⟩ := am_ci h
  refine am_cpi hc 9 X (k := 33) (k0 := 8) (rest := []) rfl ml_X1_25 am_acw (by decide +kernel) ob14 rfl ?_
  refine am_blk hc X 10 5 (fr' := (26, [(0, am_r 15 32 0), (1, am_r oa1 2 0), (2, am_r 10 13 ia2), (3, am_i a3), (4, am_i a4), (5, am_i 0)], [], (am_u (am_row σ 15 33 0 (va_cpy (σ.1 oa1 8 ((a4 : Int32).toNatClampNeg)) (σ.1 15 33 0) 0 0 8)) 15 32 0 1 (-1)))) rfl ⟨trivial, trivial, trivial, trivial, trivial, trivial⟩ ?_
  refine am_less [0, 1, 2, 3, 5] rfl ?_
  exact ll_X1_findWrong_13_26 X hr   1000 oa1 ia2 a3 0 _ h
def fn_X7_refusalOfElements (a1 : Int32) (a2 : Int32) (σ : am_S) : Option (Int32 × am_S) :=
  (fn_X7_isShelf a1 (σ)).bind fun q1 => (if q1.1 = 0 then some ((-2), q1.2) else (fn_X7_isWithin a2 0 40 q1.2).bind fun q3 => (if q3.1 = 0 then some ((-2), q3.2) else (fn_X2_refusalOfRow a1 q3.2).bind fun q5 => (if q5.1 = 0 then (bif am_in a1 8 then (if a2 ≤ (q5.2.1 10 11 0 ((a1 : Int32).toNatClampNeg)) then some (q5.1, q5.2) else some ((-2), q5.2)) else none) else some (q5.1, q5.2))))
set_option maxRecDepth 100000 in
theorem ok_X7_refusalOfElements (l : Launch) (a1 : Int32) (a2 : Int32) (σ : am_S) {q : Int32 × am_S} (h : fn_X7_refusalOfElements a1 a2 σ = some q) : am_M l yX7_refusalOfElements cX7_refusalOfElements 4 (some .int) 2 [am_r 0 0 0, am_i a1, am_i a2] σ (some (am_i q.1)) q.2 := by
  refine am_M_of (P := am_p7) (by decide +kernel) am_p7_ok rfl ?_
  intro G p e s m args below meth c X hr
  have hc := ct_X7_refusalOfElements
  unfold fn_X7_refusalOfElements at h
  refine am_blk hc X 0 1 (fr' := (1, [(0, am_r 0 0 0), (1, am_i a1), (2, am_i a2)], [am_i a1], σ)) rfl ⟨trivial, trivial⟩ ?_
  obtain ⟨q1, hq2, h⟩ := am_bs h
  refine am_callS hc 1 X (As := [am_i a1]) (rest := []) rfl (ok_X7_isShelf l a1 (σ) hq2) yv_X7_isShelf ml_X7_69 rfl rfl rfl rfl rfl ?_
  refine am_if_eq hc X 2 (tgt := 17) rfl (by decide) (fun c11 => ?_) (fun c11 => ?_)
  · replace h := am_ip c11 h
    refine am_blk hc X 8 1 (fr' := (19, [(0, am_r 0 0 0), (1, am_i a1), (2, am_i a2)], [am_i (-2)], q1.2)) rfl ⟨trivial, trivial⟩ ?_
    obtain rfl := Option.some.inj h
    exact am_iret hc X hr 9 rfl rfl rfl
  · replace h := am_in2 c11 h
    refine am_blk hc X 3 3 (fr' := (11, [(0, am_r 0 0 0), (1, am_i a1), (2, am_i a2)], [am_i 40, am_i 0, am_i a2], q1.2)) rfl ⟨trivial, trivial, trivial, trivial⟩ ?_
    obtain ⟨q3, hq4, h⟩ := am_bs h
    refine am_callS hc 6 X (As := [am_i a2, am_i 0, am_i 40]) (rest := []) rfl (ok_X7_isWithin l a2 0 40 q1.2 hq4) yv_X7_isWithin ml_X7_73 rfl rfl rfl rfl rfl ?_
    refine am_if_ne hc X 7 (tgt := 20) rfl (by decide) (fun c10 => ?_) (fun c10 => ?_)
    · replace h := am_in2 c10 h
      refine am_blk hc X 10 3 (fr' := (25, [(0, am_r 0 0 0), (1, am_i a1), (2, am_i a2)], [am_i a1, am_r 10 9 0], q3.2)) rfl ⟨trivial, trivial, trivial, trivial⟩ ?_
      obtain ⟨q5, hq6, h⟩ := am_bs h
      refine am_callV hc 13 X (k := 9) (i := 0) (o := 10) (As := [am_i a1]) (rest := []) rfl (ok_X2_refusalOfRow l a1 q3.2 hq6) yv_X2_refusalOfRow ml_X7_85 (cl_9) rfl rfl rfl rfl rfl ?_
      refine am_blk hc X 14 2 (fr' := (30, [(0, am_r 0 0 0), (1, am_i a1), (2, am_i a2), (3, am_i q5.1)], [am_i q5.1], q5.2)) rfl ⟨trivial, trivial, trivial⟩ ?_
      refine am_if_ne hc X 16 (tgt := 51) rfl (by decide) (fun c9 => ?_) (fun c9 => ?_)
      · replace h := am_in2 c9 h
        refine am_blk hc X 26 1 (fr' := (52, [(0, am_r 0 0 0), (1, am_i a1), (2, am_i a2), (3, am_i q5.1)], [am_i q5.1], q5.2)) rfl ⟨trivial, trivial⟩ ?_
        obtain rfl := Option.some.inj h
        exact am_iret hc X hr 27 rfl rfl rfl
      · replace h := am_ip c9 h
        obtain ⟨ob7, h⟩ := am_ci h
        refine am_blk hc X 17 6 (fr' := (43, [(0, am_r 0 0 0), (1, am_i a1), (2, am_i a2), (3, am_i q5.1)], [am_i (q5.2.1 10 11 0 ((a1 : Int32).toNatClampNeg)), am_i a2], q5.2)) rfl ⟨trivial, trivial, trivial, trivial, trivial, (am_in_vp ob7), trivial⟩ ?_
        refine am_icmp_le hc X 23 (tgt := 51) rfl (by decide) (fun c8 => ?_) (fun c8 => ?_)
        · replace h := am_ip c8 h
          refine am_blk hc X 26 1 (fr' := (52, [(0, am_r 0 0 0), (1, am_i a1), (2, am_i a2), (3, am_i q5.1)], [am_i q5.1], q5.2)) rfl ⟨trivial, trivial⟩ ?_
          obtain rfl := Option.some.inj h
          exact am_iret hc X hr 27 rfl rfl rfl
        · replace h := am_in2 c8 h
          refine am_blk hc X 24 2 (fr' := (52, [(0, am_r 0 0 0), (1, am_i a1), (2, am_i a2), (3, am_i q5.1)], [am_i (-2)], q5.2)) rfl ⟨trivial, trivial, trivial⟩ ?_
          obtain rfl := Option.some.inj h
          exact am_iret hc X hr 27 rfl rfl rfl
    · replace h := am_ip c10 h
      refine am_blk hc X 8 1 (fr' := (19, [(0, am_r 0 0 0), (1, am_i a1), (2, am_i a2)], [am_i (-2)], q3.2)) rfl ⟨trivial, trivial⟩ ?_
      obtain rfl := Option.some.inj h
      exact am_iret hc X hr 9 rfl rfl rfl
def jn_X7_refusalOfPlan_22  (x1 : Int32) (x2 : Int32) (x3 : Int32) (y0 : Int32) (σ : am_S) : Option (Int32 × am_S) :=
  (if y0 = 0 then (bif am_in x1 8 then (fn_X1_findWrong_13 1 ((x1 : Int32).toNatClampNeg) x2 x3 (σ)).bind fun q4 => (if q4.1 = (-1) then some (0, q4.2) else some ((-5), q4.2)) else none) else some (y0, σ))
set_option maxRecDepth 100000 in
theorem jl_X7_refusalOfPlan_22 {p : Program} {l : Launch} {e : Env} {s : State} {m : MethodId} {args : Array Value} {below : List Frame} {meth : Method} {c : Code} {G : am_G} {q : Int32 × am_S} (X : am_X p s m args c cX7_refusalOfPlan yX7_refusalOfPlan.cls 5 am_p7 G (am_fr G)) (hr : meth.sig.returnType = (some .int) ∧ meth.locks = false)    (x1 : Int32) (x2 : Int32) (x3 : Int32) (y0 : Int32) (σ : am_S) (h : jn_X7_refusalOfPlan_22  x1 x2 x3 y0 σ = some q) : am_A p l e (am_ro 6) s m args below meth c 5 G (am_fr G) 0 0 (MQ below (am_Qc G (some (am_i q.1)) q.2) args s 0 0 (am_fr G)) (22, [(0, am_r 0 0 0), (1, am_i x1), (2, am_i x2), (3, am_i x3)], [am_i y0], σ) := by
  have hc := ct_X7_refusalOfPlan
  unfold jn_X7_refusalOfPlan_22 at h
  refine am_blk hc X 11 2 (fr' := (26, [(0, am_r 0 0 0), (1, am_i x1), (2, am_i x2), (3, am_i x3), (4, am_i y0)], [am_i y0], σ)) rfl ⟨trivial, trivial, trivial⟩ ?_
  refine am_if_eq hc X 13 (tgt := 32) rfl (by decide) (fun c7 => ?_) (fun c7 => ?_)
  · replace h := am_ip c7 h
    obtain ⟨ob3, h⟩ := am_ci h
    refine am_blk hc X 16 11 (fr' := (51, [(0, am_r 0 0 0), (1, am_i x1), (2, am_i x2), (3, am_i x3), (4, am_i y0)], [am_i x3, am_i x2, am_r 10 13 ((x1 : Int32).toNatClampNeg), am_r 1 2 0, am_r 15 32 0], σ)) rfl ⟨trivial, trivial, trivial, trivial, trivial, trivial, trivial, trivial, (am_in_vp ob3), trivial, trivial, trivial⟩ ?_
    obtain ⟨q4, hq5, h⟩ := am_bs h
    refine am_callV hc 27 X (k := 32) (i := 0) (o := 15) (As := [am_r 1 2 0, am_r 10 13 ((x1 : Int32).toNatClampNeg), am_i x2, am_i x3]) (rest := []) rfl (ok_X1_findWrong_13 l 1 ((x1 : Int32).toNatClampNeg) x2 x3 (σ) hq5) yv_X1_findWrong ml_X7_266 (cl_32) rfl rfl rfl rfl rfl ?_
    refine am_blk hc X 28 1 (fr' := (55, [(0, am_r 0 0 0), (1, am_i x1), (2, am_i x2), (3, am_i x3), (4, am_i y0)], [am_i (-1), am_i q4.1], q4.2)) rfl ⟨trivial, trivial⟩ ?_
    refine am_icmp_ne hc X 29 (tgt := 62) rfl (by decide) (fun c6 => ?_) (fun c6 => ?_)
    · replace h := am_in2 c6 h
      refine am_blk hc X 32 1 (fr' := (64, [(0, am_r 0 0 0), (1, am_i x1), (2, am_i x2), (3, am_i x3), (4, am_i y0)], [am_i (-5)], q4.2)) rfl ⟨trivial, trivial⟩ ?_
      obtain rfl := Option.some.inj h
      exact am_iret hc X hr 33 rfl rfl rfl
    · replace h := am_ip c6 h
      refine am_blk hc X 30 2 (fr' := (64, [(0, am_r 0 0 0), (1, am_i x1), (2, am_i x2), (3, am_i x3), (4, am_i y0)], [am_i 0], q4.2)) rfl ⟨trivial, trivial, trivial⟩ ?_
      obtain rfl := Option.some.inj h
      exact am_iret hc X hr 33 rfl rfl rfl
  · replace h := am_in2 c7 h
    refine am_blk hc X 14 1 (fr' := (31, [(0, am_r 0 0 0), (1, am_i x1), (2, am_i x2), (3, am_i x3), (4, am_i y0)], [am_i y0], σ)) rfl ⟨trivial, trivial⟩ ?_
    obtain rfl := Option.some.inj h
    exact am_iret hc X hr 15 rfl rfl rfl
def fn_X7_refusalOfPlan (a1 : Int32) (a2 : Int32) (a3 : Int32) (σ : am_S) : Option (Int32 × am_S) :=
  (fn_X0_hasPerson 1 a3 (σ)).bind fun q1 => (if q1.1 = 0 then jn_X7_refusalOfPlan_22  a1 a2 a3 (-2) q1.2 else (fn_X7_refusalOfElements a1 a2 q1.2).bind fun q8 => jn_X7_refusalOfPlan_22  a1 a2 a3 q8.1 q8.2)
set_option maxRecDepth 100000 in
theorem ok_X7_refusalOfPlan (l : Launch) (a1 : Int32) (a2 : Int32) (a3 : Int32) (σ : am_S) {q : Int32 × am_S} (h : fn_X7_refusalOfPlan a1 a2 a3 σ = some q) : am_M l yX7_refusalOfPlan cX7_refusalOfPlan 5 (some .int) 6 [am_r 0 0 0, am_i a1, am_i a2, am_i a3] σ (some (am_i q.1)) q.2 := by
  refine am_M_of (P := am_p7) (by decide +kernel) am_p7_ok rfl ?_
  intro G p e s m args below meth c X hr
  have hc := ct_X7_refusalOfPlan
  unfold fn_X7_refusalOfPlan at h
  refine am_blk hc X 0 3 (fr' := (5, [(0, am_r 0 0 0), (1, am_i a1), (2, am_i a2), (3, am_i a3)], [am_i a3, am_r 1 2 0], σ)) rfl ⟨trivial, trivial, trivial, trivial⟩ ?_
  obtain ⟨q1, hq2, h⟩ := am_bs h
  refine am_callV hc 3 X (k := 2) (i := 0) (o := 1) (As := [am_i a3]) (rest := []) rfl (ok_X0_hasPerson l 1 a3 (σ) hq2) yv_X0_hasPerson ml_X7_114 (cl_2) rfl rfl rfl rfl rfl ?_
  refine am_if_eq hc X 4 (tgt := 20) rfl (by decide) (fun c10 => ?_) (fun c10 => ?_)
  · replace h := am_ip c10 h
    refine am_blk hc X 10 1 (fr' := (22, [(0, am_r 0 0 0), (1, am_i a1), (2, am_i a2), (3, am_i a3)], [am_i (-2)], q1.2)) rfl ⟨trivial, trivial⟩ ?_
    exact jl_X7_refusalOfPlan_22 X hr   a1 a2 a3 (-2) _ h
  · replace h := am_in2 c10 h
    refine am_blk hc X 5 3 (fr' := (14, [(0, am_r 0 0 0), (1, am_i a1), (2, am_i a2), (3, am_i a3)], [am_i a2, am_i a1, am_r 0 0 0], q1.2)) rfl ⟨trivial, trivial, trivial, trivial⟩ ?_
    obtain ⟨q8, hq9, h⟩ := am_bs h
    refine am_callV hc 8 X (k := 0) (i := 0) (o := 0) (As := [am_i a1, am_i a2]) (rest := []) rfl (ok_X7_refusalOfElements l a1 a2 q1.2 hq9) yv_X7_refusalOfElements ml_X7_239 (cl_0) rfl rfl rfl rfl rfl ?_
    refine am_blk hc X 9 1 (fr' := (22, [(0, am_r 0 0 0), (1, am_i a1), (2, am_i a2), (3, am_i a3)], [am_i q8.1], q8.2)) rfl ⟨trivial, trivial⟩ ?_
    exact jl_X7_refusalOfPlan_22 X hr   a1 a2 a3 q8.1 _ h
def jn_X7_behind_22  (x4 : Int32) (y0 : Int32) (σ : am_S) : Option (Int32 × am_S) :=
  (if y0 = 0 then (if x4 = 0 then some ((σ.1 15 33 0 3), σ) else (if x4 = 1 then some ((σ.1 15 33 0 5), σ) else (if x4 = 2 then some ((σ.1 15 33 0 6), σ) else (if x4 = 3 then some ((σ.1 15 33 0 7), σ) else some ((σ.1 15 32 0 1), σ))))) else (fn_X7_refuse y0 (σ)).bind fun q7 => some (q7.1, q7.2))
set_option maxRecDepth 100000 in
theorem jl_X7_behind_22 {p : Program} {l : Launch} {e : Env} {s : State} {m : MethodId} {args : Array Value} {below : List Frame} {meth : Method} {c : Code} {G : am_G} {q : Int32 × am_S} (X : am_X p s m args c cX7_behind yX7_behind.cls 6 am_p7 G (am_fr G)) (hr : meth.sig.returnType = (some .int) ∧ meth.locks = false)    (x4 : Int32) (y0 : Int32) (σ : am_S) (h : jn_X7_behind_22  x4 y0 σ = some q) : am_A p l e (am_ro 7) s m args below meth c 6 G (am_fr G) 0 0 (MQ below (am_Qc G (some (am_i q.1)) q.2) args s 0 0 (am_fr G)) (22, [(0, am_r 0 0 0), (4, am_i x4)], [am_i y0], σ) := by
  have hc := ct_X7_behind
  unfold jn_X7_behind_22 at h
  refine am_blk hc X 12 2 (fr' := (26, [(0, am_r 0 0 0), (4, am_i x4), (5, am_i y0)], [am_i y0], σ)) rfl ⟨trivial, trivial, trivial⟩ ?_
  refine am_if_eq hc X 14 (tgt := 36) rfl (by decide) (fun c9 => ?_) (fun c9 => ?_)
  · replace h := am_ip c9 h
    refine am_blk hc X 19 1 (fr' := (38, [(0, am_r 0 0 0), (4, am_i x4), (5, am_i y0)], [am_i x4], σ)) rfl ⟨trivial, trivial⟩ ?_
    by_cases c3 : x4 = 0
    · replace h := am_ip c3 h
      refine am_tin hc X 20 (tgt := 68) (off := 30) rfl (by rw [c3]; decide) (by rw [c3]; decide) (by rw [c3]; rfl) (by decide) ?_
      refine am_blk hc X 21 5 (fr' := (77, [(0, am_r 0 0 0), (4, am_i x4), (5, am_i y0)], [am_i (σ.1 15 33 0 3)], σ)) rfl ⟨trivial, trivial, trivial, trivial, (am_in_vp (by decide)), trivial⟩ ?_
      obtain rfl := Option.some.inj h
      exact am_iret hc X hr 26 rfl rfl rfl
    · replace h := am_in2 c3 h
      by_cases c4 : x4 = 1
      · replace h := am_ip c4 h
        refine am_tin hc X 20 (tgt := 78) (off := 40) rfl (by rw [c4]; decide) (by rw [c4]; decide) (by rw [c4]; rfl) (by decide) ?_
        refine am_blk hc X 27 5 (fr' := (87, [(0, am_r 0 0 0), (4, am_i x4), (5, am_i y0)], [am_i (σ.1 15 33 0 5)], σ)) rfl ⟨trivial, trivial, trivial, trivial, (am_in_vp (by decide)), trivial⟩ ?_
        obtain rfl := Option.some.inj h
        exact am_iret hc X hr 32 rfl rfl rfl
      · replace h := am_in2 c4 h
        by_cases c5 : x4 = 2
        · replace h := am_ip c5 h
          refine am_tin hc X 20 (tgt := 88) (off := 50) rfl (by rw [c5]; decide) (by rw [c5]; decide) (by rw [c5]; rfl) (by decide) ?_
          refine am_blk hc X 33 5 (fr' := (98, [(0, am_r 0 0 0), (4, am_i x4), (5, am_i y0)], [am_i (σ.1 15 33 0 6)], σ)) rfl ⟨trivial, trivial, trivial, trivial, (am_in_vp (by decide)), trivial⟩ ?_
          obtain rfl := Option.some.inj h
          exact am_iret hc X hr 38 rfl rfl rfl
        · replace h := am_in2 c5 h
          by_cases c6 : x4 = 3
          · replace h := am_ip c6 h
            refine am_tin hc X 20 (tgt := 99) (off := 61) rfl (by rw [c6]; decide) (by rw [c6]; decide) (by rw [c6]; rfl) (by decide) ?_
            refine am_blk hc X 39 5 (fr' := (109, [(0, am_r 0 0 0), (4, am_i x4), (5, am_i y0)], [am_i (σ.1 15 33 0 7)], σ)) rfl ⟨trivial, trivial, trivial, trivial, (am_in_vp (by decide)), trivial⟩ ?_
            obtain rfl := Option.some.inj h
            exact am_iret hc X hr 44 rfl rfl rfl
          · replace h := am_in2 c6 h
            refine am_tout hc X 20 (tgt := 110) rfl (am_sw 0 3 (fun z h1 h2 => ?_)) (by decide) ?_
            · rcases (show z = 0 ∨ z = 1 ∨ z = 2 ∨ z = 3 by omega) with rfl | rfl | rfl | rfl
              · exact lv_neT c3 rfl
              · exact lv_neT c4 rfl
              · exact lv_neT c5 rfl
              · exact lv_neT c6 rfl
            · refine am_blk hc X 45 3 (fr' := (117, [(0, am_r 0 0 0), (4, am_i x4), (5, am_i y0)], [am_i (σ.1 15 32 0 1)], σ)) rfl ⟨trivial, trivial, trivial, trivial⟩ ?_
              obtain rfl := Option.some.inj h
              exact am_iret hc X hr 48 rfl rfl rfl
  · replace h := am_in2 c9 h
    refine am_blk hc X 15 2 (fr' := (32, [(0, am_r 0 0 0), (4, am_i x4), (5, am_i y0)], [am_i y0, am_r 0 0 0], σ)) rfl ⟨trivial, trivial, trivial⟩ ?_
    obtain ⟨q7, hq8, h⟩ := am_bs h
    refine am_callV hc 17 X (k := 0) (i := 0) (o := 0) (As := [am_i y0]) (rest := []) rfl (ok_X7_refuse l y0 (σ) hq8) yv_X7_refuse ml_X7_77 (cl_0) rfl rfl rfl rfl rfl ?_
    obtain rfl := Option.some.inj h
    exact am_iret hc X hr 18 rfl rfl rfl
def fn_X7_behind (a1 : Int32) (a2 : Int32) (a3 : Int32) (a4 : Int32) (σ : am_S) : Option (Int32 × am_S) :=
  (fn_X7_isWithin a4 0 4 (σ)).bind fun q1 => (if q1.1 = 0 then jn_X7_behind_22  a4 (-2) q1.2 else (fn_X7_refusalOfPlan a1 a2 a3 q1.2).bind fun q10 => jn_X7_behind_22  a4 q10.1 q10.2)
set_option maxRecDepth 100000 in
theorem ok_X7_behind (l : Launch) (a1 : Int32) (a2 : Int32) (a3 : Int32) (a4 : Int32) (σ : am_S) {q : Int32 × am_S} (h : fn_X7_behind a1 a2 a3 a4 σ = some q) : am_M l yX7_behind cX7_behind 6 (some .int) 7 [am_r 0 0 0, am_i a1, am_i a2, am_i a3, am_i a4] σ (some (am_i q.1)) q.2 := by
  refine am_M_of (P := am_p7) (by decide +kernel) am_p7_ok rfl ?_
  intro G p e s m args below meth c X hr
  have hc := ct_X7_behind
  unfold fn_X7_behind at h
  refine am_blk hc X 0 3 (fr' := (4, [(0, am_r 0 0 0), (1, am_i a1), (2, am_i a2), (3, am_i a3), (4, am_i a4)], [am_i 4, am_i 0, am_i a4], σ)) rfl ⟨trivial, trivial, trivial, trivial⟩ ?_
  obtain ⟨q1, hq2, h⟩ := am_bs h
  refine am_callS hc 3 X (As := [am_i a4, am_i 0, am_i 4]) (rest := []) rfl (ok_X7_isWithin l a4 0 4 (σ) hq2) yv_X7_isWithin ml_X7_73 rfl rfl rfl rfl rfl ?_
  refine am_if_eq hc X 4 (tgt := 20) rfl (by decide) (fun c12 => ?_) (fun c12 => ?_)
  · replace h := am_ip c12 h
    refine am_blk hc X 11 1 (fr' := (22, [(0, am_r 0 0 0), (1, am_i a1), (2, am_i a2), (3, am_i a3), (4, am_i a4)], [am_i (-2)], q1.2)) rfl ⟨trivial, trivial⟩ ?_
    refine am_less [0, 4] rfl ?_
    exact jl_X7_behind_22 X hr   a4 (-2) _ h
  · replace h := am_in2 c12 h
    refine am_blk hc X 5 4 (fr' := (14, [(0, am_r 0 0 0), (1, am_i a1), (2, am_i a2), (3, am_i a3), (4, am_i a4)], [am_i a3, am_i a2, am_i a1, am_r 0 0 0], q1.2)) rfl ⟨trivial, trivial, trivial, trivial, trivial⟩ ?_
    obtain ⟨q10, hq11, h⟩ := am_bs h
    refine am_callV hc 9 X (k := 0) (i := 0) (o := 0) (As := [am_i a1, am_i a2, am_i a3]) (rest := []) rfl (ok_X7_refusalOfPlan l a1 a2 a3 q1.2 hq11) yv_X7_refusalOfPlan ml_X7_270 (cl_0) rfl rfl rfl rfl rfl ?_
    refine am_blk hc X 10 1 (fr' := (22, [(0, am_r 0 0 0), (1, am_i a1), (2, am_i a2), (3, am_i a3), (4, am_i a4)], [am_i q10.1], q10.2)) rfl ⟨trivial, trivial⟩ ?_
    refine am_less [0, 4] rfl ?_
    exact jl_X7_behind_22 X hr   a4 q10.1 _ h
