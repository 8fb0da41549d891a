def lb_X8_init_5_278 (k278 : Nat → Int32 → am_S → Option (am_S)) (ox0 : Nat) (x1 : Int32) (σ : am_S) : Option (am_S) :=
  (if 7 ≤ x1 then some (σ) else (bif am_in x1 7 then (bif am_in x1 7 then (bif am_in x1 7 then k278 ox0 (x1 + 1) (am_u (am_u (am_u σ ox0 50 0 ((x1 : Int32).toNatClampNeg) 1) ox0 51 0 ((x1 : Int32).toNatClampNeg) 3) ox0 52 0 ((x1 : Int32).toNatClampNeg) 4) else none) else none) else none))
set_option maxRecDepth 100000 in
theorem lc_X8_init_5_278 {p : Program} {l : Launch} {e : Env} {s : State} {m : MethodId} {args : Array Value} {below : List Frame} {meth : Method} {c : Code} {G G0 : am_G} {a : Nat} {q : am_S} (X : am_X p s m args c cX8_init yX8_init.cls 2 am_p8 G (am_Fc G0 a s.heap.size)) (hr : meth.sig.returnType = none ∧ meth.locks = false) (hag : am_ag G0 G) (hLk : am_Lk G0 G s.heap.size a) (hlv : ∀ x, G.2.2.2 x = (G0.2.2.2 x || ([5] : List Nat).contains x)) (had : am_ad G 5 40 0 = a) (k278 : Nat → Int32 → am_S → Option (am_S)) (hk278 : ∀ (ox0 : Nat) (x1 : Int32) (σ : am_S), k278 ox0 x1 σ = some q → am_A p l e (am_rc 1 136 1539) s m args below meth c 2 G (am_Fc G0 a s.heap.size) 136 1539 (MQ below (am_Qk G0 s.heap.size a 5 40 [5] q) args s 136 1539 (am_Fc G0 a s.heap.size)) (278, [(0, am_r ox0 40 0), (1, am_i x1)], [], σ)) (ox0 : Nat) (x1 : Int32) (σ : am_S) (h : lb_X8_init_5_278 k278 ox0 x1 σ = some q) : am_A p l e (am_rc 1 136 1539) s m args below meth c 2 G (am_Fc G0 a s.heap.size) 136 1539 (MQ below (am_Qk G0 s.heap.size a 5 40 [5] q) args s 136 1539 (am_Fc G0 a s.heap.size)) (278, [(0, am_r ox0 40 0), (1, am_i x1)], [], σ) := by
  have hc := ct_X8_init
  unfold lb_X8_init_5_278 at h
  refine am_blk hc X 136 2 (fr' := (281, [(0, am_r ox0 40 0), (1, am_i x1)], [am_i 7, am_i x1], σ)) rfl ⟨trivial, trivial, trivial⟩ ?_
  refine am_icmp_ge hc X 138 (tgt := 311) rfl (by decide) (fun c4 => ?_) (fun c4 => ?_)
  · replace h := am_ip c4 h
    obtain rfl := Option.some.inj h
    exact am_vretK hc X hag hLk hlv had hr rfl 156 rfl rfl
  · replace h := am_in2 c4 h
    obtain ⟨ob1, h⟩ := am_ci h
    obtain ⟨ob2, h⟩ := am_ci h
    obtain ⟨ob3, h⟩ := am_ci h
    refine am_blk hc X 139 17 (fr' := (278, [(0, am_r ox0 40 0), (1, am_i (x1 + 1))], [], (am_u (am_u (am_u σ ox0 50 0 ((x1 : Int32).toNatClampNeg) 1) ox0 51 0 ((x1 : Int32).toNatClampNeg) 3) ox0 52 0 ((x1 : Int32).toNatClampNeg) 4))) rfl ⟨trivial, trivial, trivial, trivial, (am_in_vp ob1), trivial, trivial, trivial, trivial, (am_in_vp ob2), trivial, trivial, trivial, trivial, (am_in_vp ob3), trivial, trivial, trivial⟩ ?_
    exact hk278 ox0 (x1 + 1) _ h
def lp_X8_init_5_278  : Nat → Nat → Int32 → am_S → Option (am_S)
  | 0 => fun _ _ _ => none
  | n + 1 => lb_X8_init_5_278  (lp_X8_init_5_278  n)
theorem ll_X8_init_5_278 {p : Program} {l : Launch} {e : Env} {s : State} {m : MethodId} {args : Array Value} {below : List Frame} {meth : Method} {c : Code} {G G0 : am_G} {a : Nat} {q : am_S} (X : am_X p s m args c cX8_init yX8_init.cls 2 am_p8 G (am_Fc G0 a s.heap.size)) (hr : meth.sig.returnType = none ∧ meth.locks = false) (hag : am_ag G0 G) (hLk : am_Lk G0 G s.heap.size a) (hlv : ∀ x, G.2.2.2 x = (G0.2.2.2 x || ([5] : List Nat).contains x)) (had : am_ad G 5 40 0 = a)   : ∀ (n : Nat) (ox0 : Nat) (x1 : Int32) (σ : am_S), lp_X8_init_5_278  n ox0 x1 σ = some q → am_A p l e (am_rc 1 136 1539) s m args below meth c 2 G (am_Fc G0 a s.heap.size) 136 1539 (MQ below (am_Qk G0 s.heap.size a 5 40 [5] q) args s 136 1539 (am_Fc G0 a s.heap.size)) (278, [(0, am_r ox0 40 0), (1, am_i x1)], [], σ) := by
  intro n
  induction n with
  | zero =>
    intro ox0 x1 σ h
    have h : (none : Option (am_S)) = some q := h
    cases h
  | succ n ih =>
    intro ox0 x1 σ h
    exact lc_X8_init_5_278 X hr hag hLk hlv had  (lp_X8_init_5_278  n) ih ox0 x1 σ h
def ft_X8_init_5 (σ : am_S) : Option am_S :=
  lp_X8_init_5_278  1000 5 0 (σ)
set_option maxRecDepth 100000 in
theorem lt_X8_init_5 {p : Program} {l : Launch} {e : Env} {s : State} {m : MethodId} {args : Array Value} {below : List Frame} {meth : Method} {c : Code} {G G0 : am_G} {a : Nat} {q : am_S} (X : am_X p s m args c cX8_init yX8_init.cls 2 am_p8 G (am_Fc G0 a s.heap.size)) (hr : meth.sig.returnType = none ∧ meth.locks = false) (hag : am_ag G0 G) (hLk : am_Lk G0 G s.heap.size a) (hlv : ∀ x, G.2.2.2 x = (G0.2.2.2 x || ([5] : List Nat).contains x)) (had : am_ad G 5 40 0 = a) (σ : am_S) (h : ft_X8_init_5 σ = some q) : am_A p l e (am_rc 1 136 1539) s m args below meth c 2 G (am_Fc G0 a s.heap.size) 136 1539 (MQ below (am_Qk G0 s.heap.size a 5 40 [5] q) args s 136 1539 (am_Fc G0 a s.heap.size)) (276, [(0, am_r 5 40 0)], [], σ) := by
  have hc := ct_X8_init
  unfold ft_X8_init_5 at h
  refine am_blk hc X 134 2 (fr' := (278, [(0, am_r 5 40 0), (1, am_i 0)], [], σ)) rfl ⟨trivial, trivial, trivial⟩ ?_
  exact ll_X8_init_5_278 X hr hag hLk hlv had   1000 5 0 _ h
def fn_X8_init_5 (σ : am_S) : Option am_S :=
  ft_X8_init_5 (am_i0 5 40 [0, 0, 0, 0, 0, 0, 0, 0, 0, 0, 0, 0, 2, 0, 0, 0, 0, 0, 0, 0, 0, 0, 0, 0, 0, 1, 0, 0, 0, 0, 0, 0, 0, 0, 0, 0, 0, 0, 0, 0, 0, 0, 0, 0, 0, 0, 0, 0] σ)
set_option maxRecDepth 100000 in
theorem ok_X8_init_5 (l : Launch) (σ : am_S) {q : am_S} (h : fn_X8_init_5 σ = some q) : am_K l yX8_init cX8_init 2 1 136 1539 5 40 [5] σ q := by
  unfold fn_X8_init_5 at h
  refine am_K_of (P := am_p8) (tb := tb_X8_init) (idx := 1) [0, 0, 0, 0, 0, 0, 0, 0, 0, 0, 0, 0, 2, 0, 0, 0, 0, 0, 0, 0, 0, 0, 0, 0, 0, 1, 0, 0, 0, 0, 0, 0, 0, 0, 0, 0, 0, 0, 0, 0, 0, 0, 0, 0, 0, 0, 0, 0] (by decide +kernel) am_p8_ok rfl rfl oi_X8_1 ct_X8_init rfl rfl rfl (by decide) (by decide) ?_
  intro G p e s m args below meth c a X hr hin hnew
  have hc := ct_X8_init
  have hag : am_ag G G := am_ag.rf
  have hLk : am_Lk G G s.heap.size a := fun _ _ _ h => Or.inl h
  have hA : am_Fc G a s.heap.size a := Or.inr (Or.inl rfl)
  refine am_Barr hc (mc := 136) (ms := 1539) X hin hA rfl 2 (f := 0) (kk := 41) (N := 8) (v := 8) false rfl rfl rfl rfl rfl rfl (by decide +kernel) ⟨by decide, by decide, rfl⟩ ⟨rfl, rfl⟩ ⟨rfl, rfl⟩ (by decide +kernel) (fun _ _ => ⟨rfl, rfl⟩) rfl (pc2 := 12) (n2 := 1) (kc2 := 1) (ks2 := 8) rfl rfl rfl rfl ?_
  refine am_Barr hc (mc := 136) (ms := 1539) X hin hA rfl 6 (f := 1) (kk := 42) (N := 8) (v := 8) false rfl rfl rfl rfl rfl rfl (by decide +kernel) ⟨by decide, by decide, rfl⟩ ⟨rfl, rfl⟩ ⟨rfl, rfl⟩ (by decide +kernel) (fun _ _ => ⟨rfl, rfl⟩) rfl (pc2 := 20) (n2 := 2) (kc2 := 2) (ks2 := 16) rfl rfl rfl rfl ?_
  refine am_Barr hc (mc := 136) (ms := 1539) X hin hA rfl 10 (f := 2) (kk := 43) (N := 8) (v := 8) false rfl rfl rfl rfl rfl rfl (by decide +kernel) ⟨by decide, by decide, rfl⟩ ⟨rfl, rfl⟩ ⟨rfl, rfl⟩ (by decide +kernel) (fun _ _ => ⟨rfl, rfl⟩) rfl (pc2 := 28) (n2 := 3) (kc2 := 3) (ks2 := 24) rfl rfl rfl rfl ?_
  refine am_Bmul hc (mc := 136) (ms := 1539) X hin hA rfl 14 (f := 3) (kk := 44) (N := 8) (K := 40) (t := 1) (v1 := 8) (v2 := 40) rfl rfl rfl rfl rfl rfl rfl rfl (by decide +kernel) rfl aw_103 aw_887 ⟨by decide, by decide, rfl⟩ ⟨by decide, by decide, rfl⟩ ⟨rfl, by decide +kernel⟩ ⟨rfl, rfl, rfl⟩ (by decide +kernel) (fun _ _ => ⟨rfl, rfl⟩) rfl (pc2 := 40) (n2 := 12) (kc2 := 12) (ks2 := 352) rfl rfl rfl rfl ?_
  refine am_Barr hc (mc := 136) (ms := 1539) X hin hA rfl 19 (f := 4) (kk := 46) (N := 40) (v := 40) true rfl rfl rfl rfl rfl rfl (by decide +kernel) ⟨by decide, by decide, rfl⟩ ⟨rfl, rfl⟩ ⟨rfl, rfl⟩ (by decide +kernel) (fun _ _ => ⟨rfl, rfl⟩) rfl (pc2 := 48) (n2 := 13) (kc2 := 13) (ks2 := 392) rfl rfl rfl rfl ?_
  refine am_Barr hc (mc := 136) (ms := 1539) X hin hA rfl 23 (f := 5) (kk := 47) (N := 8) (v := 8) false rfl rfl rfl rfl rfl rfl (by decide +kernel) ⟨by decide, by decide, rfl⟩ ⟨rfl, rfl⟩ ⟨rfl, rfl⟩ (by decide +kernel) (fun _ _ => ⟨rfl, rfl⟩) rfl (pc2 := 56) (n2 := 14) (kc2 := 14) (ks2 := 400) rfl rfl rfl rfl ?_
  refine am_Barr hc (mc := 136) (ms := 1539) X hin hA rfl 27 (f := 6) (kk := 48) (N := 250) (v := 250) false rfl rfl rfl rfl rfl rfl (by decide +kernel) ⟨by decide, by decide, rfl⟩ ⟨rfl, rfl⟩ ⟨rfl, rfl⟩ (by decide +kernel) (fun _ _ => ⟨rfl, rfl⟩) rfl (pc2 := 65) (n2 := 15) (kc2 := 15) (ks2 := 650) rfl rfl rfl rfl ?_
  refine am_Barr hc (mc := 136) (ms := 1539) X hin hA rfl 31 (f := 8) (kk := 49) (N := 8) (v := 8) false rfl rfl rfl rfl rfl rfl (by decide +kernel) ⟨by decide, by decide, rfl⟩ ⟨rfl, rfl⟩ ⟨rfl, rfl⟩ (by decide +kernel) (fun _ _ => ⟨rfl, rfl⟩) rfl (pc2 := 73) (n2 := 16) (kc2 := 16) (ks2 := 658) rfl rfl rfl rfl ?_
  refine am_Barr hc (mc := 136) (ms := 1539) X hin hA rfl 35 (f := 9) (kk := 50) (N := 7) (v := 7) false rfl rfl rfl rfl rfl rfl (by decide +kernel) ⟨by decide, by decide, rfl⟩ ⟨rfl, rfl⟩ ⟨rfl, rfl⟩ (by decide +kernel) (fun _ _ => ⟨rfl, rfl⟩) rfl (pc2 := 81) (n2 := 17) (kc2 := 17) (ks2 := 665) rfl rfl rfl rfl ?_
  refine am_Barr hc (mc := 136) (ms := 1539) X hin hA rfl 39 (f := 10) (kk := 51) (N := 7) (v := 7) false rfl rfl rfl rfl rfl rfl (by decide +kernel) ⟨by decide, by decide, rfl⟩ ⟨rfl, rfl⟩ ⟨rfl, rfl⟩ (by decide +kernel) (fun _ _ => ⟨rfl, rfl⟩) rfl (pc2 := 89) (n2 := 18) (kc2 := 18) (ks2 := 672) rfl rfl rfl rfl ?_
  refine am_Barr hc (mc := 136) (ms := 1539) X hin hA rfl 43 (f := 11) (kk := 52) (N := 7) (v := 7) false rfl rfl rfl rfl rfl rfl (by decide +kernel) ⟨by decide, by decide, rfl⟩ ⟨rfl, rfl⟩ ⟨rfl, rfl⟩ (by decide +kernel) (fun _ _ => ⟨rfl, rfl⟩) rfl (pc2 := 97) (n2 := 19) (kc2 := 19) (ks2 := 679) rfl rfl rfl rfl ?_
  refine am_Bint hc X hin hA rfl 47 (v := 2) (f := 12) rfl rfl rfl rfl rfl (by decide +kernel) (Or.inl ⟨rfl, rfl⟩) (am_i0_ini _) (pc2 := 102) rfl ?_
  refine am_Bmul hc (mc := 136) (ms := 1539) X hin hA rfl 50 (f := 14) (kk := 53) (N := 3) (K := 4) (t := 0) (v1 := 3) (v2 := 4) rfl rfl rfl rfl rfl rfl rfl rfl (by decide +kernel) rfl aw_80 aw_888 ⟨by decide, by decide, rfl⟩ ⟨by decide, by decide, rfl⟩ ⟨rfl, by decide +kernel⟩ ⟨rfl, rfl, rfl⟩ (by decide +kernel) (fun _ _ => ⟨rfl, rfl⟩) rfl (pc2 := 112) (n2 := 23) (kc2 := 23) (ks2 := 694) rfl rfl rfl rfl ?_
  refine am_Barr hc (mc := 136) (ms := 1539) X hin hA rfl 55 (f := 16) (kk := 55) (N := 6) (v := 6) false rfl rfl rfl rfl rfl rfl (by decide +kernel) ⟨by decide, by decide, rfl⟩ ⟨rfl, rfl⟩ ⟨rfl, rfl⟩ (by decide +kernel) (fun _ _ => ⟨rfl, rfl⟩) rfl (pc2 := 120) (n2 := 24) (kc2 := 24) (ks2 := 700) rfl rfl rfl rfl ?_
  refine am_Barr hc (mc := 136) (ms := 1539) X hin hA rfl 59 (f := 17) (kk := 56) (N := 6) (v := 6) false rfl rfl rfl rfl rfl rfl (by decide +kernel) ⟨by decide, by decide, rfl⟩ ⟨rfl, rfl⟩ ⟨rfl, rfl⟩ (by decide +kernel) (fun _ _ => ⟨rfl, rfl⟩) rfl (pc2 := 128) (n2 := 25) (kc2 := 25) (ks2 := 706) rfl rfl rfl rfl ?_
  refine am_Barr hc (mc := 136) (ms := 1539) X hin hA rfl 63 (f := 18) (kk := 57) (N := 6) (v := 6) false rfl rfl rfl rfl rfl rfl (by decide +kernel) ⟨by decide, by decide, rfl⟩ ⟨rfl, rfl⟩ ⟨rfl, rfl⟩ (by decide +kernel) (fun _ _ => ⟨rfl, rfl⟩) rfl (pc2 := 136) (n2 := 26) (kc2 := 26) (ks2 := 712) rfl rfl rfl rfl ?_
  refine am_Barr hc (mc := 136) (ms := 1539) X hin hA rfl 67 (f := 19) (kk := 58) (N := 6) (v := 6) false rfl rfl rfl rfl rfl rfl (by decide +kernel) ⟨by decide, by decide, rfl⟩ ⟨rfl, rfl⟩ ⟨rfl, rfl⟩ (by decide +kernel) (fun _ _ => ⟨rfl, rfl⟩) rfl (pc2 := 144) (n2 := 27) (kc2 := 27) (ks2 := 718) rfl rfl rfl rfl ?_
  refine am_Barr hc (mc := 136) (ms := 1539) X hin hA rfl 71 (f := 20) (kk := 59) (N := 6) (v := 6) false rfl rfl rfl rfl rfl rfl (by decide +kernel) ⟨by decide, by decide, rfl⟩ ⟨rfl, rfl⟩ ⟨rfl, rfl⟩ (by decide +kernel) (fun _ _ => ⟨rfl, rfl⟩) rfl (pc2 := 152) (n2 := 28) (kc2 := 28) (ks2 := 724) rfl rfl rfl rfl ?_
  refine am_Barr hc (mc := 136) (ms := 1539) X hin hA rfl 75 (f := 21) (kk := 60) (N := 6) (v := 6) false rfl rfl rfl rfl rfl rfl (by decide +kernel) ⟨by decide, by decide, rfl⟩ ⟨rfl, rfl⟩ ⟨rfl, rfl⟩ (by decide +kernel) (fun _ _ => ⟨rfl, rfl⟩) rfl (pc2 := 160) (n2 := 29) (kc2 := 29) (ks2 := 730) rfl rfl rfl rfl ?_
  refine am_Barr hc (mc := 136) (ms := 1539) X hin hA rfl 79 (f := 22) (kk := 61) (N := 6) (v := 6) false rfl rfl rfl rfl rfl rfl (by decide +kernel) ⟨by decide, by decide, rfl⟩ ⟨rfl, rfl⟩ ⟨rfl, rfl⟩ (by decide +kernel) (fun _ _ => ⟨rfl, rfl⟩) rfl (pc2 := 168) (n2 := 30) (kc2 := 30) (ks2 := 736) rfl rfl rfl rfl ?_
  refine am_Barr hc (mc := 136) (ms := 1539) X hin hA rfl 83 (f := 23) (kk := 62) (N := 6) (v := 6) false rfl rfl rfl rfl rfl rfl (by decide +kernel) ⟨by decide, by decide, rfl⟩ ⟨rfl, rfl⟩ ⟨rfl, rfl⟩ (by decide +kernel) (fun _ _ => ⟨rfl, rfl⟩) rfl (pc2 := 176) (n2 := 31) (kc2 := 31) (ks2 := 742) rfl rfl rfl rfl ?_
  refine am_Bint hc X hin hA rfl 87 (v := 1) (f := 25) rfl rfl rfl rfl rfl (by decide +kernel) (Or.inl ⟨rfl, rfl⟩) (am_i0_ini _) (pc2 := 181) rfl ?_
  refine am_Barr hc (mc := 136) (ms := 1539) X hin hA rfl 90 (f := 33) (kk := 63) (N := 4) (v := 4) false rfl rfl rfl rfl rfl rfl (by decide +kernel) ⟨by decide, by decide, rfl⟩ ⟨rfl, rfl⟩ ⟨rfl, rfl⟩ (by decide +kernel) (fun _ _ => ⟨rfl, rfl⟩) rfl (pc2 := 188) (n2 := 32) (kc2 := 32) (ks2 := 746) rfl rfl rfl rfl ?_
  refine am_Bmul hc (mc := 136) (ms := 1539) X hin hA rfl 94 (f := 35) (kk := 64) (N := 7) (K := 7) (t := 0) (v1 := 7) (v2 := 7) rfl rfl rfl rfl rfl rfl rfl rfl (by decide +kernel) rfl aw_80 aw_888 ⟨by decide, by decide, rfl⟩ ⟨by decide, by decide, rfl⟩ ⟨rfl, by decide +kernel⟩ ⟨rfl, rfl, rfl⟩ (by decide +kernel) (fun _ _ => ⟨rfl, rfl⟩) rfl (pc2 := 200) (n2 := 40) (kc2 := 40) (ks2 := 802) rfl rfl rfl rfl ?_
  refine am_Barr hc (mc := 136) (ms := 1539) X hin hA rfl 99 (f := 36) (kk := 66) (N := 7) (v := 7) false rfl rfl rfl rfl rfl rfl (by decide +kernel) ⟨by decide, by decide, rfl⟩ ⟨rfl, rfl⟩ ⟨rfl, rfl⟩ (by decide +kernel) (fun _ _ => ⟨rfl, rfl⟩) rfl (pc2 := 208) (n2 := 41) (kc2 := 41) (ks2 := 809) rfl rfl rfl rfl ?_
  refine am_Barr hc (mc := 136) (ms := 1539) X hin hA rfl 103 (f := 37) (kk := 67) (N := 7) (v := 7) false rfl rfl rfl rfl rfl rfl (by decide +kernel) ⟨by decide, by decide, rfl⟩ ⟨rfl, rfl⟩ ⟨rfl, rfl⟩ (by decide +kernel) (fun _ _ => ⟨rfl, rfl⟩) rfl (pc2 := 216) (n2 := 42) (kc2 := 42) (ks2 := 816) rfl rfl rfl rfl ?_
  refine am_Barr hc (mc := 136) (ms := 1539) X hin hA rfl 107 (f := 38) (kk := 68) (N := 7) (v := 7) false rfl rfl rfl rfl rfl rfl (by decide +kernel) ⟨by decide, by decide, rfl⟩ ⟨rfl, rfl⟩ ⟨rfl, rfl⟩ (by decide +kernel) (fun _ _ => ⟨rfl, rfl⟩) rfl (pc2 := 224) (n2 := 43) (kc2 := 43) (ks2 := 823) rfl rfl rfl rfl ?_
  refine am_Bmul hc (mc := 136) (ms := 1539) X hin hA rfl 111 (f := 41) (kk := 69) (N := 6) (K := 7) (t := 0) (v1 := 6) (v2 := 7) rfl rfl rfl rfl rfl rfl rfl rfl (by decide +kernel) rfl aw_80 aw_888 ⟨by decide, by decide, rfl⟩ ⟨by decide, by decide, rfl⟩ ⟨rfl, by decide +kernel⟩ ⟨rfl, rfl, rfl⟩ (by decide +kernel) (fun _ _ => ⟨rfl, rfl⟩) rfl (pc2 := 236) (n2 := 50) (kc2 := 50) (ks2 := 871) rfl rfl rfl rfl ?_
  refine am_Barr hc (mc := 136) (ms := 1539) X hin hA rfl 116 (f := 42) (kk := 71) (N := 6) (v := 6) false rfl rfl rfl rfl rfl rfl (by decide +kernel) ⟨by decide, by decide, rfl⟩ ⟨rfl, rfl⟩ ⟨rfl, rfl⟩ (by decide +kernel) (fun _ _ => ⟨rfl, rfl⟩) rfl (pc2 := 244) (n2 := 51) (kc2 := 51) (ks2 := 877) rfl rfl rfl rfl ?_
  refine am_Barr hc (mc := 136) (ms := 1539) X hin hA rfl 120 (f := 43) (kk := 72) (N := 6) (v := 6) false rfl rfl rfl rfl rfl rfl (by decide +kernel) ⟨by decide, by decide, rfl⟩ ⟨rfl, rfl⟩ ⟨rfl, rfl⟩ (by decide +kernel) (fun _ _ => ⟨rfl, rfl⟩) rfl (pc2 := 252) (n2 := 52) (kc2 := 52) (ks2 := 883) rfl rfl rfl rfl ?_
  refine am_Bmul hc (mc := 136) (ms := 1539) X hin hA rfl 124 (f := 45) (kk := 73) (N := 41) (K := 7) (t := 0) (v1 := 41) (v2 := 7) rfl rfl rfl rfl rfl rfl rfl rfl (by decide +kernel) rfl aw_80 aw_888 ⟨by decide, by decide, rfl⟩ ⟨by decide, by decide, rfl⟩ ⟨rfl, by decide +kernel⟩ ⟨rfl, rfl, rfl⟩ (by decide +kernel) (fun _ _ => ⟨rfl, rfl⟩) rfl (pc2 := 264) (n2 := 94) (kc2 := 94) (ks2 := 1211) rfl rfl rfl rfl ?_
  refine am_Bmul hc (mc := 136) (ms := 1539) X hin hA rfl 129 (f := 46) (kk := 75) (N := 41) (K := 7) (t := 2) (v1 := 41) (v2 := 7) rfl rfl rfl rfl rfl rfl rfl rfl (by decide +kernel) rfl aw_1036 aw_889 ⟨by decide, by decide, rfl⟩ ⟨by decide, by decide, rfl⟩ ⟨rfl, by decide +kernel⟩ ⟨rfl, rfl, rfl⟩ (by decide +kernel) (fun _ _ => ⟨rfl, rfl⟩) rfl (pc2 := 276) (n2 := 136) (kc2 := 136) (ks2 := 1539) rfl rfl rfl rfl ?_
  refine am_Bdone (fs := [46, 45, 43, 42, 41, 38, 37, 36, 35, 33, 25, 23, 22, 21, 20, 19, 18, 17, 16, 14, 12, 11, 10, 9, 8, 6, 5, 4, 3, 2, 1, 0]) (by decide +kernel) X hag hLk (Nat.le_refl _) (hnew 5 (by decide)) (am_noup rfl) (am_i0_hs (by decide +kernel)) ⟨rfl, rfl⟩ ⟨fun e => absurd e (by decide), fun e => absurd e (by decide)⟩ (fun G9 hag hLk hlv9 had X => ?_)
  exact lt_X8_init_5 X hr hag hLk (fun x => by rw [hlv9]; simp only [List.contains_cons, List.contains_nil, Bool.or_false, Bool.or_assoc]) had _ h

def lb_X8_init_6_278 (k278 : Nat → Int32 → am_S → Option (am_S)) (ox0 : Nat) (x1 : Int32) (σ : am_S) : Option (am_S) :=
  (if 7 ≤ x1 then some (σ) else (bif am_in x1 7 then (bif am_in x1 7 then (bif am_in x1 7 then k278 ox0 (x1 + 1) (am_u (am_u (am_u σ ox0 50 0 ((x1 : Int32).toNatClampNeg) 1) ox0 51 0 ((x1 : Int32).toNatClampNeg) 3) ox0 52 0 ((x1 : Int32).toNatClampNeg) 4) else none) else none) else none))
set_option maxRecDepth 100000 in
theorem lc_X8_init_6_278 {p : Program} {l : Launch} {e : Env} {s : State} {m : MethodId} {args : Array Value} {below : List Frame} {meth : Method} {c : Code} {G G0 : am_G} {a : Nat} {q : am_S} (X : am_X p s m args c cX8_init yX8_init.cls 2 am_p8 G (am_Fc G0 a s.heap.size)) (hr : meth.sig.returnType = none ∧ meth.locks = false) (hag : am_ag G0 G) (hLk : am_Lk G0 G s.heap.size a) (hlv : ∀ x, G.2.2.2 x = (G0.2.2.2 x || ([6] : List Nat).contains x)) (had : am_ad G 6 40 0 = a) (k278 : Nat → Int32 → am_S → Option (am_S)) (hk278 : ∀ (ox0 : Nat) (x1 : Int32) (σ : am_S), k278 ox0 x1 σ = some q → am_A p l e (am_rc 1 136 1539) s m args below meth c 2 G (am_Fc G0 a s.heap.size) 136 1539 (MQ below (am_Qk G0 s.heap.size a 6 40 [6] q) args s 136 1539 (am_Fc G0 a s.heap.size)) (278, [(0, am_r ox0 40 0), (1, am_i x1)], [], σ)) (ox0 : Nat) (x1 : Int32) (σ : am_S) (h : lb_X8_init_6_278 k278 ox0 x1 σ = some q) : am_A p l e (am_rc 1 136 1539) s m args below meth c 2 G (am_Fc G0 a s.heap.size) 136 1539 (MQ below (am_Qk G0 s.heap.size a 6 40 [6] q) args s 136 1539 (am_Fc G0 a s.heap.size)) (278, [(0, am_r ox0 40 0), (1, am_i x1)], [], σ) := by
  have hc := ct_X8_init
  unfold lb_X8_init_6_278 at h
  refine am_blk hc X 136 2 (fr' := (281, [(0, am_r ox0 40 0), (1, am_i x1)], [am_i 7, am_i x1], σ)) rfl ⟨trivial, trivial, trivial⟩ ?_
  refine am_icmp_ge hc X 138 (tgt := 311) rfl (by decide) (fun c4 => ?_) (fun c4 => ?_)
  · replace h := am_ip c4 h
    obtain rfl := Option.some.inj h
    exact am_vretK hc X hag hLk hlv had hr rfl 156 rfl rfl
  · replace h := am_in2 c4 h
    obtain ⟨ob1, h⟩ := am_ci h
    obtain ⟨ob2, h⟩ := am_ci h
    obtain ⟨ob3, h⟩ := am_ci h
    refine am_blk hc X 139 17 (fr' := (278, [(0, am_r ox0 40 0), (1, am_i (x1 + 1))], [], (am_u (am_u (am_u σ ox0 50 0 ((x1 : Int32).toNatClampNeg) 1) ox0 51 0 ((x1 : Int32).toNatClampNeg) 3) ox0 52 0 ((x1 : Int32).toNatClampNeg) 4))) rfl ⟨trivial, trivial, trivial, trivial, (am_in_vp ob1), trivial, trivial, trivial, trivial, (am_in_vp ob2), trivial, trivial, trivial, trivial, (am_in_vp ob3), trivial, trivial, trivial⟩ ?_
    exact hk278 ox0 (x1 + 1) _ h
def lp_X8_init_6_278  : Nat → Nat → Int32 → am_S → Option (am_S)
  | 0 => fun _ _ _ => none
  | n + 1 => lb_X8_init_6_278  (lp_X8_init_6_278  n)
theorem ll_X8_init_6_278 {p : Program} {l : Launch} {e : Env} {s : State} {m : MethodId} {args : Array Value} {below : List Frame} {meth : Method} {c : Code} {G G0 : am_G} {a : Nat} {q : am_S} (X : am_X p s m args c cX8_init yX8_init.cls 2 am_p8 G (am_Fc G0 a s.heap.size)) (hr : meth.sig.returnType = none ∧ meth.locks = false) (hag : am_ag G0 G) (hLk : am_Lk G0 G s.heap.size a) (hlv : ∀ x, G.2.2.2 x = (G0.2.2.2 x || ([6] : List Nat).contains x)) (had : am_ad G 6 40 0 = a)   : ∀ (n : Nat) (ox0 : Nat) (x1 : Int32) (σ : am_S), lp_X8_init_6_278  n ox0 x1 σ = some q → am_A p l e (am_rc 1 136 1539) s m args below meth c 2 G (am_Fc G0 a s.heap.size) 136 1539 (MQ below (am_Qk G0 s.heap.size a 6 40 [6] q) args s 136 1539 (am_Fc G0 a s.heap.size)) (278, [(0, am_r ox0 40 0), (1, am_i x1)], [], σ) := by
  intro n
  induction n with
  | zero =>
    intro ox0 x1 σ h
    have h : (none : Option (am_S)) = some q := h
    cases h
  | succ n ih =>
    intro ox0 x1 σ h
    exact lc_X8_init_6_278 X hr hag hLk hlv had  (lp_X8_init_6_278  n) ih ox0 x1 σ h
def ft_X8_init_6 (σ : am_S) : Option am_S :=
  lp_X8_init_6_278  1000 6 0 (σ)
set_option maxRecDepth 100000 in
theorem lt_X8_init_6 {p : Program} {l : Launch} {e : Env} {s : State} {m : MethodId} {args : Array Value} {below : List Frame} {meth : Method} {c : Code} {G G0 : am_G} {a : Nat} {q : am_S} (X : am_X p s m args c cX8_init yX8_init.cls 2 am_p8 G (am_Fc G0 a s.heap.size)) (hr : meth.sig.returnType = none ∧ meth.locks = false) (hag : am_ag G0 G) (hLk : am_Lk G0 G s.heap.size a) (hlv : ∀ x, G.2.2.2 x = (G0.2.2.2 x || ([6] : List Nat).contains x)) (had : am_ad G 6 40 0 = a) (σ : am_S) (h : ft_X8_init_6 σ = some q) : am_A p l e (am_rc 1 136 1539) s m args below meth c 2 G (am_Fc G0 a s.heap.size) 136 1539 (MQ below (am_Qk G0 s.heap.size a 6 40 [6] q) args s 136 1539 (am_Fc G0 a s.heap.size)) (276, [(0, am_r 6 40 0)], [], σ) := by
  have hc := ct_X8_init
  unfold ft_X8_init_6 at h
  refine am_blk hc X 134 2 (fr' := (278, [(0, am_r 6 40 0), (1, am_i 0)], [], σ)) rfl ⟨trivial, trivial, trivial⟩ ?_
  exact ll_X8_init_6_278 X hr hag hLk hlv had   1000 6 0 _ h
def fn_X8_init_6 (σ : am_S) : Option am_S :=
  ft_X8_init_6 (am_i0 6 40 [0, 0, 0, 0, 0, 0, 0, 0, 0, 0, 0, 0, 2, 0, 0, 0, 0, 0, 0, 0, 0, 0, 0, 0, 0, 1, 0, 0, 0, 0, 0, 0, 0, 0, 0, 0, 0, 0, 0, 0, 0, 0, 0, 0, 0, 0, 0, 0] σ)
set_option maxRecDepth 100000 in
theorem ok_X8_init_6 (l : Launch) (σ : am_S) {q : am_S} (h : fn_X8_init_6 σ = some q) (hg : σ.1 99 40 0 26 ≠ 0) : am_K l yX8_init cX8_init 2 1 136 1539 6 40 [6] σ q := by
  unfold fn_X8_init_6 at h
  refine am_K_of (P := am_p8) (tb := tb_X8_init) (idx := 1) [0, 0, 0, 0, 0, 0, 0, 0, 0, 0, 0, 0, 2, 0, 0, 0, 0, 0, 0, 0, 0, 0, 0, 0, 0, 1, 0, 0, 0, 0, 0, 0, 0, 0, 0, 0, 0, 0, 0, 0, 0, 0, 0, 0, 0, 0, 0, 0] (by decide +kernel) am_p8_ok rfl rfl oi_X8_1 ct_X8_init rfl rfl rfl (by decide) (by decide) ?_
  intro G p e s m args below meth c a X hr hin hnew
  have hc := ct_X8_init
  have hag : am_ag G G := am_ag.rf
  have hLk : am_Lk G G s.heap.size a := fun _ _ _ h => Or.inl h
  have hA : am_Fc G a s.heap.size a := Or.inr (Or.inl rfl)
  refine am_Barr hc (mc := 136) (ms := 1539) X hin hA rfl 2 (f := 0) (kk := 41) (N := 8) (v := 8) false rfl rfl rfl rfl rfl rfl (by decide +kernel) ⟨by decide, by decide, rfl⟩ ⟨rfl, rfl⟩ ⟨rfl, rfl⟩ (by decide +kernel) (fun _ _ => ⟨rfl, rfl⟩) rfl (pc2 := 12) (n2 := 1) (kc2 := 1) (ks2 := 8) rfl rfl rfl rfl ?_
  refine am_Barr hc (mc := 136) (ms := 1539) X hin hA rfl 6 (f := 1) (kk := 42) (N := 8) (v := 8) false rfl rfl rfl rfl rfl rfl (by decide +kernel) ⟨by decide, by decide, rfl⟩ ⟨rfl, rfl⟩ ⟨rfl, rfl⟩ (by decide +kernel) (fun _ _ => ⟨rfl, rfl⟩) rfl (pc2 := 20) (n2 := 2) (kc2 := 2) (ks2 := 16) rfl rfl rfl rfl ?_
  refine am_Barr hc (mc := 136) (ms := 1539) X hin hA rfl 10 (f := 2) (kk := 43) (N := 8) (v := 8) false rfl rfl rfl rfl rfl rfl (by decide +kernel) ⟨by decide, by decide, rfl⟩ ⟨rfl, rfl⟩ ⟨rfl, rfl⟩ (by decide +kernel) (fun _ _ => ⟨rfl, rfl⟩) rfl (pc2 := 28) (n2 := 3) (kc2 := 3) (ks2 := 24) rfl rfl rfl rfl ?_
  refine am_Bmul hc (mc := 136) (ms := 1539) X hin hA rfl 14 (f := 3) (kk := 44) (N := 8) (K := 40) (t := 1) (v1 := 8) (v2 := 40) rfl rfl rfl rfl rfl rfl rfl rfl (by decide +kernel) rfl aw_103 aw_887 ⟨by decide, by decide, rfl⟩ ⟨by decide, by decide, rfl⟩ ⟨rfl, by decide +kernel⟩ ⟨rfl, rfl, rfl⟩ (by decide +kernel) (fun _ _ => ⟨rfl, rfl⟩) rfl (pc2 := 40) (n2 := 12) (kc2 := 12) (ks2 := 352) rfl rfl rfl rfl ?_
  refine am_Barr hc (mc := 136) (ms := 1539) X hin hA rfl 19 (f := 4) (kk := 46) (N := 40) (v := 40) true rfl rfl rfl rfl rfl rfl (by decide +kernel) ⟨by decide, by decide, rfl⟩ ⟨rfl, rfl⟩ ⟨rfl, rfl⟩ (by decide +kernel) (fun _ _ => ⟨rfl, rfl⟩) rfl (pc2 := 48) (n2 := 13) (kc2 := 13) (ks2 := 392) rfl rfl rfl rfl ?_
  refine am_Barr hc (mc := 136) (ms := 1539) X hin hA rfl 23 (f := 5) (kk := 47) (N := 8) (v := 8) false rfl rfl rfl rfl rfl rfl (by decide +kernel) ⟨by decide, by decide, rfl⟩ ⟨rfl, rfl⟩ ⟨rfl, rfl⟩ (by decide +kernel) (fun _ _ => ⟨rfl, rfl⟩) rfl (pc2 := 56) (n2 := 14) (kc2 := 14) (ks2 := 400) rfl rfl rfl rfl ?_
  refine am_Barr hc (mc := 136) (ms := 1539) X hin hA rfl 27 (f := 6) (kk := 48) (N := 250) (v := 250) false rfl rfl rfl rfl rfl rfl (by decide +kernel) ⟨by decide, by decide, rfl⟩ ⟨rfl, rfl⟩ ⟨rfl, rfl⟩ (by decide +kernel) (fun _ _ => ⟨rfl, rfl⟩) rfl (pc2 := 65) (n2 := 15) (kc2 := 15) (ks2 := 650) rfl rfl rfl rfl ?_
  refine am_Barr hc (mc := 136) (ms := 1539) X hin hA rfl 31 (f := 8) (kk := 49) (N := 8) (v := 8) false rfl rfl rfl rfl rfl rfl (by decide +kernel) ⟨by decide, by decide, rfl⟩ ⟨rfl, rfl⟩ ⟨rfl, rfl⟩ (by decide +kernel) (fun _ _ => ⟨rfl, rfl⟩) rfl (pc2 := 73) (n2 := 16) (kc2 := 16) (ks2 := 658) rfl rfl rfl rfl ?_
  refine am_Barr hc (mc := 136) (ms := 1539) X hin hA rfl 35 (f := 9) (kk := 50) (N := 7) (v := 7) false rfl rfl rfl rfl rfl rfl (by decide +kernel) ⟨by decide, by decide, rfl⟩ ⟨rfl, rfl⟩ ⟨rfl, rfl⟩ (by decide +kernel) (fun _ _ => ⟨rfl, rfl⟩) rfl (pc2 := 81) (n2 := 17) (kc2 := 17) (ks2 := 665) rfl rfl rfl rfl ?_
  refine am_Barr hc (mc := 136) (ms := 1539) X hin hA rfl 39 (f := 10) (kk := 51) (N := 7) (v := 7) false rfl rfl rfl rfl rfl rfl (by decide +kernel) ⟨by decide, by decide, rfl⟩ ⟨rfl, rfl⟩ ⟨rfl, rfl⟩ (by decide +kernel) (fun _ _ => ⟨rfl, rfl⟩) rfl (pc2 := 89) (n2 := 18) (kc2 := 18) (ks2 := 672) rfl rfl rfl rfl ?_
  refine am_Barr hc (mc := 136) (ms := 1539) X hin hA rfl 43 (f := 11) (kk := 52) (N := 7) (v := 7) false rfl rfl rfl rfl rfl rfl (by decide +kernel) ⟨by decide, by decide, rfl⟩ ⟨rfl, rfl⟩ ⟨rfl, rfl⟩ (by decide +kernel) (fun _ _ => ⟨rfl, rfl⟩) rfl (pc2 := 97) (n2 := 19) (kc2 := 19) (ks2 := 679) rfl rfl rfl rfl ?_
  refine am_Bint hc X hin hA rfl 47 (v := 2) (f := 12) rfl rfl rfl rfl rfl (by decide +kernel) (Or.inl ⟨rfl, rfl⟩) (am_i0_ini _) (pc2 := 102) rfl ?_
  refine am_Bmul hc (mc := 136) (ms := 1539) X hin hA rfl 50 (f := 14) (kk := 53) (N := 3) (K := 4) (t := 0) (v1 := 3) (v2 := 4) rfl rfl rfl rfl rfl rfl rfl rfl (by decide +kernel) rfl aw_80 aw_888 ⟨by decide, by decide, rfl⟩ ⟨by decide, by decide, rfl⟩ ⟨rfl, by decide +kernel⟩ ⟨rfl, rfl, rfl⟩ (by decide +kernel) (fun _ _ => ⟨rfl, rfl⟩) rfl (pc2 := 112) (n2 := 23) (kc2 := 23) (ks2 := 694) rfl rfl rfl rfl ?_
  refine am_Barr hc (mc := 136) (ms := 1539) X hin hA rfl 55 (f := 16) (kk := 55) (N := 6) (v := 6) false rfl rfl rfl rfl rfl rfl (by decide +kernel) ⟨by decide, by decide, rfl⟩ ⟨rfl, rfl⟩ ⟨rfl, rfl⟩ (by decide +kernel) (fun _ _ => ⟨rfl, rfl⟩) rfl (pc2 := 120) (n2 := 24) (kc2 := 24) (ks2 := 700) rfl rfl rfl rfl ?_
  refine am_Barr hc (mc := 136) (ms := 1539) X hin hA rfl 59 (f := 17) (kk := 56) (N := 6) (v := 6) false rfl rfl rfl rfl rfl rfl (by decide +kernel) ⟨by decide, by decide, rfl⟩ ⟨rfl, rfl⟩ ⟨rfl, rfl⟩ (by decide +kernel) (fun _ _ => ⟨rfl, rfl⟩) rfl (pc2 := 128) (n2 := 25) (kc2 := 25) (ks2 := 706) rfl rfl rfl rfl ?_
  refine am_Barr hc (mc := 136) (ms := 1539) X hin hA rfl 63 (f := 18) (kk := 57) (N := 6) (v := 6) false rfl rfl rfl rfl rfl rfl (by decide +kernel) ⟨by decide, by decide, rfl⟩ ⟨rfl, rfl⟩ ⟨rfl, rfl⟩ (by decide +kernel) (fun _ _ => ⟨rfl, rfl⟩) rfl (pc2 := 136) (n2 := 26) (kc2 := 26) (ks2 := 712) rfl rfl rfl rfl ?_
  refine am_Barr hc (mc := 136) (ms := 1539) X hin hA rfl 67 (f := 19) (kk := 58) (N := 6) (v := 6) false rfl rfl rfl rfl rfl rfl (by decide +kernel) ⟨by decide, by decide, rfl⟩ ⟨rfl, rfl⟩ ⟨rfl, rfl⟩ (by decide +kernel) (fun _ _ => ⟨rfl, rfl⟩) rfl (pc2 := 144) (n2 := 27) (kc2 := 27) (ks2 := 718) rfl rfl rfl rfl ?_
  refine am_Barr hc (mc := 136) (ms := 1539) X hin hA rfl 71 (f := 20) (kk := 59) (N := 6) (v := 6) false rfl rfl rfl rfl rfl rfl (by decide +kernel) ⟨by decide, by decide, rfl⟩ ⟨rfl, rfl⟩ ⟨rfl, rfl⟩ (by decide +kernel) (fun _ _ => ⟨rfl, rfl⟩) rfl (pc2 := 152) (n2 := 28) (kc2 := 28) (ks2 := 724) rfl rfl rfl rfl ?_
  refine am_Barr hc (mc := 136) (ms := 1539) X hin hA rfl 75 (f := 21) (kk := 60) (N := 6) (v := 6) false rfl rfl rfl rfl rfl rfl (by decide +kernel) ⟨by decide, by decide, rfl⟩ ⟨rfl, rfl⟩ ⟨rfl, rfl⟩ (by decide +kernel) (fun _ _ => ⟨rfl, rfl⟩) rfl (pc2 := 160) (n2 := 29) (kc2 := 29) (ks2 := 730) rfl rfl rfl rfl ?_
  refine am_Barr hc (mc := 136) (ms := 1539) X hin hA rfl 79 (f := 22) (kk := 61) (N := 6) (v := 6) false rfl rfl rfl rfl rfl rfl (by decide +kernel) ⟨by decide, by decide, rfl⟩ ⟨rfl, rfl⟩ ⟨rfl, rfl⟩ (by decide +kernel) (fun _ _ => ⟨rfl, rfl⟩) rfl (pc2 := 168) (n2 := 30) (kc2 := 30) (ks2 := 736) rfl rfl rfl rfl ?_
  refine am_Barr hc (mc := 136) (ms := 1539) X hin hA rfl 83 (f := 23) (kk := 62) (N := 6) (v := 6) false rfl rfl rfl rfl rfl rfl (by decide +kernel) ⟨by decide, by decide, rfl⟩ ⟨rfl, rfl⟩ ⟨rfl, rfl⟩ (by decide +kernel) (fun _ _ => ⟨rfl, rfl⟩) rfl (pc2 := 176) (n2 := 31) (kc2 := 31) (ks2 := 742) rfl rfl rfl rfl ?_
  refine am_Bint hc X hin hA rfl 87 (v := 1) (f := 25) rfl rfl rfl rfl rfl (by decide +kernel) (Or.inl ⟨rfl, rfl⟩) (am_i0_ini _) (pc2 := 181) rfl ?_
  refine am_Barr hc (mc := 136) (ms := 1539) X hin hA rfl 90 (f := 33) (kk := 63) (N := 4) (v := 4) false rfl rfl rfl rfl rfl rfl (by decide +kernel) ⟨by decide, by decide, rfl⟩ ⟨rfl, rfl⟩ ⟨rfl, rfl⟩ (by decide +kernel) (fun _ _ => ⟨rfl, rfl⟩) rfl (pc2 := 188) (n2 := 32) (kc2 := 32) (ks2 := 746) rfl rfl rfl rfl ?_
  refine am_Bmul hc (mc := 136) (ms := 1539) X hin hA rfl 94 (f := 35) (kk := 64) (N := 7) (K := 7) (t := 0) (v1 := 7) (v2 := 7) rfl rfl rfl rfl rfl rfl rfl rfl (by decide +kernel) rfl aw_80 aw_888 ⟨by decide, by decide, rfl⟩ ⟨by decide, by decide, rfl⟩ ⟨rfl, by decide +kernel⟩ ⟨rfl, rfl, rfl⟩ (by decide +kernel) (fun _ _ => ⟨rfl, rfl⟩) rfl (pc2 := 200) (n2 := 40) (kc2 := 40) (ks2 := 802) rfl rfl rfl rfl ?_
  refine am_Barr hc (mc := 136) (ms := 1539) X hin hA rfl 99 (f := 36) (kk := 66) (N := 7) (v := 7) false rfl rfl rfl rfl rfl rfl (by decide +kernel) ⟨by decide, by decide, rfl⟩ ⟨rfl, rfl⟩ ⟨rfl, rfl⟩ (by decide +kernel) (fun _ _ => ⟨rfl, rfl⟩) rfl (pc2 := 208) (n2 := 41) (kc2 := 41) (ks2 := 809) rfl rfl rfl rfl ?_
  refine am_Barr hc (mc := 136) (ms := 1539) X hin hA rfl 103 (f := 37) (kk := 67) (N := 7) (v := 7) false rfl rfl rfl rfl rfl rfl (by decide +kernel) ⟨by decide, by decide, rfl⟩ ⟨rfl, rfl⟩ ⟨rfl, rfl⟩ (by decide +kernel) (fun _ _ => ⟨rfl, rfl⟩) rfl (pc2 := 216) (n2 := 42) (kc2 := 42) (ks2 := 816) rfl rfl rfl rfl ?_
  refine am_Barr hc (mc := 136) (ms := 1539) X hin hA rfl 107 (f := 38) (kk := 68) (N := 7) (v := 7) false rfl rfl rfl rfl rfl rfl (by decide +kernel) ⟨by decide, by decide, rfl⟩ ⟨rfl, rfl⟩ ⟨rfl, rfl⟩ (by decide +kernel) (fun _ _ => ⟨rfl, rfl⟩) rfl (pc2 := 224) (n2 := 43) (kc2 := 43) (ks2 := 823) rfl rfl rfl rfl ?_
  refine am_Bmul hc (mc := 136) (ms := 1539) X hin hA rfl 111 (f := 41) (kk := 69) (N := 6) (K := 7) (t := 0) (v1 := 6) (v2 := 7) rfl rfl rfl rfl rfl rfl rfl rfl (by decide +kernel) rfl aw_80 aw_888 ⟨by decide, by decide, rfl⟩ ⟨by decide, by decide, rfl⟩ ⟨rfl, by decide +kernel⟩ ⟨rfl, rfl, rfl⟩ (by decide +kernel) (fun _ _ => ⟨rfl, rfl⟩) rfl (pc2 := 236) (n2 := 50) (kc2 := 50) (ks2 := 871) rfl rfl rfl rfl ?_
  refine am_Barr hc (mc := 136) (ms := 1539) X hin hA rfl 116 (f := 42) (kk := 71) (N := 6) (v := 6) false rfl rfl rfl rfl rfl rfl (by decide +kernel) ⟨by decide, by decide, rfl⟩ ⟨rfl, rfl⟩ ⟨rfl, rfl⟩ (by decide +kernel) (fun _ _ => ⟨rfl, rfl⟩) rfl (pc2 := 244) (n2 := 51) (kc2 := 51) (ks2 := 877) rfl rfl rfl rfl ?_
  refine am_Barr hc (mc := 136) (ms := 1539) X hin hA rfl 120 (f := 43) (kk := 72) (N := 6) (v := 6) false rfl rfl rfl rfl rfl rfl (by decide +kernel) ⟨by decide, by decide, rfl⟩ ⟨rfl, rfl⟩ ⟨rfl, rfl⟩ (by decide +kernel) (fun _ _ => ⟨rfl, rfl⟩) rfl (pc2 := 252) (n2 := 52) (kc2 := 52) (ks2 := 883) rfl rfl rfl rfl ?_
  refine am_Bmul hc (mc := 136) (ms := 1539) X hin hA rfl 124 (f := 45) (kk := 73) (N := 41) (K := 7) (t := 0) (v1 := 41) (v2 := 7) rfl rfl rfl rfl rfl rfl rfl rfl (by decide +kernel) rfl aw_80 aw_888 ⟨by decide, by decide, rfl⟩ ⟨by decide, by decide, rfl⟩ ⟨rfl, by decide +kernel⟩ ⟨rfl, rfl, rfl⟩ (by decide +kernel) (fun _ _ => ⟨rfl, rfl⟩) rfl (pc2 := 264) (n2 := 94) (kc2 := 94) (ks2 := 1211) rfl rfl rfl rfl ?_
  refine am_Bmul hc (mc := 136) (ms := 1539) X hin hA rfl 129 (f := 46) (kk := 75) (N := 41) (K := 7) (t := 2) (v1 := 41) (v2 := 7) rfl rfl rfl rfl rfl rfl rfl rfl (by decide +kernel) rfl aw_1036 aw_889 ⟨by decide, by decide, rfl⟩ ⟨by decide, by decide, rfl⟩ ⟨rfl, by decide +kernel⟩ ⟨rfl, rfl, rfl⟩ (by decide +kernel) (fun _ _ => ⟨rfl, rfl⟩) rfl (pc2 := 276) (n2 := 136) (kc2 := 136) (ks2 := 1539) rfl rfl rfl rfl ?_
  refine am_Bdone (fs := [46, 45, 43, 42, 41, 38, 37, 36, 35, 33, 25, 23, 22, 21, 20, 19, 18, 17, 16, 14, 12, 11, 10, 9, 8, 6, 5, 4, 3, 2, 1, 0]) (by decide +kernel) X hag hLk (Nat.le_refl _) (hnew 6 (by decide)) (am_noup rfl) (am_i0_hs (by decide +kernel)) ⟨rfl, rfl⟩ ⟨fun _ => hg, fun e => absurd e (by decide)⟩ (fun G9 hag hLk hlv9 had X => ?_)
  exact lt_X8_init_6 X hr hag hLk (fun x => by rw [hlv9]; simp only [List.contains_cons, List.contains_nil, Bool.or_false, Bool.or_assoc]) had _ h

def lb_X8_init_7_278 (k278 : Nat → Int32 → am_S → Option (am_S)) (ox0 : Nat) (x1 : Int32) (σ : am_S) : Option (am_S) :=
  (if 7 ≤ x1 then some (σ) else (bif am_in x1 7 then (bif am_in x1 7 then (bif am_in x1 7 then k278 ox0 (x1 + 1) (am_u (am_u (am_u σ ox0 50 0 ((x1 : Int32).toNatClampNeg) 1) ox0 51 0 ((x1 : Int32).toNatClampNeg) 3) ox0 52 0 ((x1 : Int32).toNatClampNeg) 4) else none) else none) else none))
set_option maxRecDepth 100000 in
theorem lc_X8_init_7_278 {p : Program} {l : Launch} {e : Env} {s : State} {m : MethodId} {args : Array Value} {below : List Frame} {meth : Method} {c : Code} {G G0 : am_G} {a : Nat} {q : am_S} (X : am_X p s m args c cX8_init yX8_init.cls 2 am_p8 G (am_Fc G0 a s.heap.size)) (hr : meth.sig.returnType = none ∧ meth.locks = false) (hag : am_ag G0 G) (hLk : am_Lk G0 G s.heap.size a) (hlv : ∀ x, G.2.2.2 x = (G0.2.2.2 x || ([7] : List Nat).contains x)) (had : am_ad G 7 40 0 = a) (k278 : Nat → Int32 → am_S → Option (am_S)) (hk278 : ∀ (ox0 : Nat) (x1 : Int32) (σ : am_S), k278 ox0 x1 σ = some q → am_A p l e (am_rc 1 136 1539) s m args below meth c 2 G (am_Fc G0 a s.heap.size) 136 1539 (MQ below (am_Qk G0 s.heap.size a 7 40 [7] q) args s 136 1539 (am_Fc G0 a s.heap.size)) (278, [(0, am_r ox0 40 0), (1, am_i x1)], [], σ)) (ox0 : Nat) (x1 : Int32) (σ : am_S) (h : lb_X8_init_7_278 k278 ox0 x1 σ = some q) : am_A p l e (am_rc 1 136 1539) s m args below meth c 2 G (am_Fc G0 a s.heap.size) 136 1539 (MQ below (am_Qk G0 s.heap.size a 7 40 [7] q) args s 136 1539 (am_Fc G0 a s.heap.size)) (278, [(0, am_r ox0 40 0), (1, am_i x1)], [], σ) := by
  have hc := ct_X8_init
  unfold lb_X8_init_7_278 at h
  refine am_blk hc X 136 2 (fr' := (281, [(0, am_r ox0 40 0), (1, am_i x1)], [am_i 7, am_i x1], σ)) rfl ⟨trivial, trivial, trivial⟩ ?_
  refine am_icmp_ge hc X 138 (tgt := 311) rfl (by decide) (fun c4 => ?_) (fun c4 => ?_)
  · replace h := am_ip c4 h
    obtain rfl := Option.some.inj h
    exact am_vretK hc X hag hLk hlv had hr rfl 156 rfl rfl
  · replace h := am_in2 c4 h
    obtain ⟨ob1, h⟩ := am_ci h
    obtain ⟨ob2, h⟩ := am_ci h
    obtain ⟨ob3, h⟩ := am_ci h
    refine am_blk hc X 139 17 (fr' := (278, [(0, am_r ox0 40 0), (1, am_i (x1 + 1))], [], (am_u (am_u (am_u σ ox0 50 0 ((x1 : Int32).toNatClampNeg) 1) ox0 51 0 ((x1 : Int32).toNatClampNeg) 3) ox0 52 0 ((x1 : Int32).toNatClampNeg) 4))) rfl ⟨trivial, trivial, trivial, trivial, (am_in_vp ob1), trivial, trivial, trivial, trivial, (am_in_vp ob2), trivial, trivial, trivial, trivial, (am_in_vp ob3), trivial, trivial, trivial⟩ ?_
    exact hk278 ox0 (x1 + 1) _ h
def lp_X8_init_7_278  : Nat → Nat → Int32 → am_S → Option (am_S)
  | 0 => fun _ _ _ => none
  | n + 1 => lb_X8_init_7_278  (lp_X8_init_7_278  n)
theorem ll_X8_init_7_278 {p : Program} {l : Launch} {e : Env} {s : State} {m : MethodId} {args : Array Value} {below : List Frame} {meth : Method} {c : Code} {G G0 : am_G} {a : Nat} {q : am_S} (X : am_X p s m args c cX8_init yX8_init.cls 2 am_p8 G (am_Fc G0 a s.heap.size)) (hr : meth.sig.returnType = none ∧ meth.locks = false) (hag : am_ag G0 G) (hLk : am_Lk G0 G s.heap.size a) (hlv : ∀ x, G.2.2.2 x = (G0.2.2.2 x || ([7] : List Nat).contains x)) (had : am_ad G 7 40 0 = a)   : ∀ (n : Nat) (ox0 : Nat) (x1 : Int32) (σ : am_S), lp_X8_init_7_278  n ox0 x1 σ = some q → am_A p l e (am_rc 1 136 1539) s m args below meth c 2 G (am_Fc G0 a s.heap.size) 136 1539 (MQ below (am_Qk G0 s.heap.size a 7 40 [7] q) args s 136 1539 (am_Fc G0 a s.heap.size)) (278, [(0, am_r ox0 40 0), (1, am_i x1)], [], σ) := by
  intro n
  induction n with
  | zero =>
    intro ox0 x1 σ h
    have h : (none : Option (am_S)) = some q := h
    cases h
  | succ n ih =>
    intro ox0 x1 σ h
    exact lc_X8_init_7_278 X hr hag hLk hlv had  (lp_X8_init_7_278  n) ih ox0 x1 σ h
def ft_X8_init_7 (σ : am_S) : Option am_S :=
  lp_X8_init_7_278  1000 7 0 (σ)
set_option maxRecDepth 100000 in
theorem lt_X8_init_7 {p : Program} {l : Launch} {e : Env} {s : State} {m : MethodId} {args : Array Value} {below : List Frame} {meth : Method} {c : Code} {G G0 : am_G} {a : Nat} {q : am_S} (X : am_X p s m args c cX8_init yX8_init.cls 2 am_p8 G (am_Fc G0 a s.heap.size)) (hr : meth.sig.returnType = none ∧ meth.locks = false) (hag : am_ag G0 G) (hLk : am_Lk G0 G s.heap.size a) (hlv : ∀ x, G.2.2.2 x = (G0.2.2.2 x || ([7] : List Nat).contains x)) (had : am_ad G 7 40 0 = a) (σ : am_S) (h : ft_X8_init_7 σ = some q) : am_A p l e (am_rc 1 136 1539) s m args below meth c 2 G (am_Fc G0 a s.heap.size) 136 1539 (MQ below (am_Qk G0 s.heap.size a 7 40 [7] q) args s 136 1539 (am_Fc G0 a s.heap.size)) (276, [(0, am_r 7 40 0)], [], σ) := by
  have hc := ct_X8_init
  unfold ft_X8_init_7 at h
  refine am_blk hc X 134 2 (fr' := (278, [(0, am_r 7 40 0), (1, am_i 0)], [], σ)) rfl ⟨trivial, trivial, trivial⟩ ?_
  exact ll_X8_init_7_278 X hr hag hLk hlv had   1000 7 0 _ h
def fn_X8_init_7 (σ : am_S) : Option am_S :=
  ft_X8_init_7 (am_i0 7 40 [0, 0, 0, 0, 0, 0, 0, 0, 0, 0, 0, 0, 2, 0, 0, 0, 0, 0, 0, 0, 0, 0, 0, 0, 0, 1, 0, 0, 0, 0, 0, 0, 0, 0, 0, 0, 0, 0, 0, 0, 0, 0, 0, 0, 0, 0, 0, 0] σ)
set_option maxRecDepth 100000 in
theorem ok_X8_init_7 (l : Launch) (σ : am_S) {q : am_S} (h : fn_X8_init_7 σ = some q) (hg : σ.1 99 40 0 27 ≠ 0) : am_K l yX8_init cX8_init 2 1 136 1539 7 40 [7] σ q := by
  unfold fn_X8_init_7 at h
  refine am_K_of (P := am_p8) (tb := tb_X8_init) (idx := 1) [0, 0, 0, 0, 0, 0, 0, 0, 0, 0, 0, 0, 2, 0, 0, 0, 0, 0, 0, 0, 0, 0, 0, 0, 0, 1, 0, 0, 0, 0, 0, 0, 0, 0, 0, 0, 0, 0, 0, 0, 0, 0, 0, 0, 0, 0, 0, 0] (by decide +kernel) am_p8_ok rfl rfl oi_X8_1 ct_X8_init rfl rfl rfl (by decide) (by decide) ?_
  intro G p e s m args below meth c a X hr hin hnew
  have hc := ct_X8_init
  have hag : am_ag G G := am_ag.rf
  have hLk : am_Lk G G s.heap.size a := fun _ _ _ h => Or.inl h
  have hA : am_Fc G a s.heap.size a := Or.inr (Or.inl rfl)
  refine am_Barr hc (mc := 136) (ms := 1539) X hin hA rfl 2 (f := 0) (kk := 41) (N := 8) (v := 8) false rfl rfl rfl rfl rfl rfl (by decide +kernel) ⟨by decide, by decide, rfl⟩ ⟨rfl, rfl⟩ ⟨rfl, rfl⟩ (by decide +kernel) (fun _ _ => ⟨rfl, rfl⟩) rfl (pc2 := 12) (n2 := 1) (kc2 := 1) (ks2 := 8) rfl rfl rfl rfl ?_
  refine am_Barr hc (mc := 136) (ms := 1539) X hin hA rfl 6 (f := 1) (kk := 42) (N := 8) (v := 8) false rfl rfl rfl rfl rfl rfl (by decide +kernel) ⟨by decide, by decide, rfl⟩ ⟨rfl, rfl⟩ ⟨rfl, rfl⟩ (by decide +kernel) (fun _ _ => ⟨rfl, rfl⟩) rfl (pc2 := 20) (n2 := 2) (kc2 := 2) (ks2 := 16) rfl rfl rfl rfl ?_
  refine am_Barr hc (mc := 136) (ms := 1539) X hin hA rfl 10 (f := 2) (kk := 43) (N := 8) (v := 8) false rfl rfl rfl rfl rfl rfl (by decide +kernel) ⟨by decide, by decide, rfl⟩ ⟨rfl, rfl⟩ ⟨rfl, rfl⟩ (by decide +kernel) (fun _ _ => ⟨rfl, rfl⟩) rfl (pc2 := 28) (n2 := 3) (kc2 := 3) (ks2 := 24) rfl rfl rfl rfl ?_
  refine am_Bmul hc (mc := 136) (ms := 1539) X hin hA rfl 14 (f := 3) (kk := 44) (N := 8) (K := 40) (t := 1) (v1 := 8) (v2 := 40) rfl rfl rfl rfl rfl rfl rfl rfl (by decide +kernel) rfl aw_103 aw_887 ⟨by decide, by decide, rfl⟩ ⟨by decide, by decide, rfl⟩ ⟨rfl, by decide +kernel⟩ ⟨rfl, rfl, rfl⟩ (by decide +kernel) (fun _ _ => ⟨rfl, rfl⟩) rfl (pc2 := 40) (n2 := 12) (kc2 := 12) (ks2 := 352) rfl rfl rfl rfl ?_
  refine am_Barr hc (mc := 136) (ms := 1539) X hin hA rfl 19 (f := 4) (kk := 46) (N := 40) (v := 40) true rfl rfl rfl rfl rfl rfl (by decide +kernel) ⟨by decide, by decide, rfl⟩ ⟨rfl, rfl⟩ ⟨rfl, rfl⟩ (by decide +kernel) (fun _ _ => ⟨rfl, rfl⟩) rfl (pc2 := 48) (n2 := 13) (kc2 := 13) (ks2 := 392) rfl rfl rfl rfl ?_
  refine am_Barr hc (mc := 136) (ms := 1539) X hin hA rfl 23 (f := 5) (kk := 47) (N := 8) (v := 8) false rfl rfl rfl rfl rfl rfl (by decide +kernel) ⟨by decide, by decide, rfl⟩ ⟨rfl, rfl⟩ ⟨rfl, rfl⟩ (by decide +kernel) (fun _ _ => ⟨rfl, rfl⟩) rfl (pc2 := 56) (n2 := 14) (kc2 := 14) (ks2 := 400) rfl rfl rfl rfl ?_
  refine am_Barr hc (mc := 136) (ms := 1539) X hin hA rfl 27 (f := 6) (kk := 48) (N := 250) (v := 250) false rfl rfl rfl rfl rfl rfl (by decide +kernel) ⟨by decide, by decide, rfl⟩ ⟨rfl, rfl⟩ ⟨rfl, rfl⟩ (by decide +kernel) (fun _ _ => ⟨rfl, rfl⟩) rfl (pc2 := 65) (n2 := 15) (kc2 := 15) (ks2 := 650) rfl rfl rfl rfl ?_
  refine am_Barr hc (mc := 136) (ms := 1539) X hin hA rfl 31 (f := 8) (kk := 49) (N := 8) (v := 8) false rfl rfl rfl rfl rfl rfl (by decide +kernel) ⟨by decide, by decide, rfl⟩ ⟨rfl, rfl⟩ ⟨rfl, rfl⟩ (by decide +kernel) (fun _ _ => ⟨rfl, rfl⟩) rfl (pc2 := 73) (n2 := 16) (kc2 := 16) (ks2 := 658) rfl rfl rfl rfl ?_
  refine am_Barr hc (mc := 136) (ms := 1539) X hin hA rfl 35 (f := 9) (kk := 50) (N := 7) (v := 7) false rfl rfl rfl rfl rfl rfl (by decide +kernel) ⟨by decide, by decide, rfl⟩ ⟨rfl, rfl⟩ ⟨rfl, rfl⟩ (by decide +kernel) (fun _ _ => ⟨rfl, rfl⟩) rfl (pc2 := 81) (n2 := 17) (kc2 := 17) (ks2 := 665) rfl rfl rfl rfl ?_
  refine am_Barr hc (mc := 136) (ms := 1539) X hin hA rfl 39 (f := 10) (kk := 51) (N := 7) (v := 7) false rfl rfl rfl rfl rfl rfl (by decide +kernel) ⟨by decide, by decide, rfl⟩ ⟨rfl, rfl⟩ ⟨rfl, rfl⟩ (by decide +kernel) (fun _ _ => ⟨rfl, rfl⟩) rfl (pc2 := 89) (n2 := 18) (kc2 := 18) (ks2 := 672) rfl rfl rfl rfl ?_
  refine am_Barr hc (mc := 136) (ms := 1539) X hin hA rfl 43 (f := 11) (kk := 52) (N := 7) (v := 7) false rfl rfl rfl rfl rfl rfl (by decide +kernel) ⟨by decide, by decide, rfl⟩ ⟨rfl, rfl⟩ ⟨rfl, rfl⟩ (by decide +kernel) (fun _ _ => ⟨rfl, rfl⟩) rfl (pc2 := 97) (n2 := 19) (kc2 := 19) (ks2 := 679) rfl rfl rfl rfl ?_
  refine am_Bint hc X hin hA rfl 47 (v := 2) (f := 12) rfl rfl rfl rfl rfl (by decide +kernel) (Or.inl ⟨rfl, rfl⟩) (am_i0_ini _) (pc2 := 102) rfl ?_
  refine am_Bmul hc (mc := 136) (ms := 1539) X hin hA rfl 50 (f := 14) (kk := 53) (N := 3) (K := 4) (t := 0) (v1 := 3) (v2 := 4) rfl rfl rfl rfl rfl rfl rfl rfl (by decide +kernel) rfl aw_80 aw_888 ⟨by decide, by decide, rfl⟩ ⟨by decide, by decide, rfl⟩ ⟨rfl, by decide +kernel⟩ ⟨rfl, rfl, rfl⟩ (by decide +kernel) (fun _ _ => ⟨rfl, rfl⟩) rfl (pc2 := 112) (n2 := 23) (kc2 := 23) (ks2 := 694) rfl rfl rfl rfl ?_
  refine am_Barr hc (mc := 136) (ms := 1539) X hin hA rfl 55 (f := 16) (kk := 55) (N := 6) (v := 6) false rfl rfl rfl rfl rfl rfl (by decide +kernel) ⟨by decide, by decide, rfl⟩ ⟨rfl, rfl⟩ ⟨rfl, rfl⟩ (by decide +kernel) (fun _ _ => ⟨rfl, rfl⟩) rfl (pc2 := 120) (n2 := 24) (kc2 := 24) (ks2 := 700) rfl rfl rfl rfl ?_
  refine am_Barr hc (mc := 136) (ms := 1539) X hin hA rfl 59 (f := 17) (kk := 56) (N := 6) (v := 6) false rfl rfl rfl rfl rfl rfl (by decide +kernel) ⟨by decide, by decide, rfl⟩ ⟨rfl, rfl⟩ ⟨rfl, rfl⟩ (by decide +kernel) (fun _ _ => ⟨rfl, rfl⟩) rfl (pc2 := 128) (n2 := 25) (kc2 := 25) (ks2 := 706) rfl rfl rfl rfl ?_
  refine am_Barr hc (mc := 136) (ms := 1539) X hin hA rfl 63 (f := 18) (kk := 57) (N := 6) (v := 6) false rfl rfl rfl rfl rfl rfl (by decide +kernel) ⟨by decide, by decide, rfl⟩ ⟨rfl, rfl⟩ ⟨rfl, rfl⟩ (by decide +kernel) (fun _ _ => ⟨rfl, rfl⟩) rfl (pc2 := 136) (n2 := 26) (kc2 := 26) (ks2 := 712) rfl rfl rfl rfl ?_
  refine am_Barr hc (mc := 136) (ms := 1539) X hin hA rfl 67 (f := 19) (kk := 58) (N := 6) (v := 6) false rfl rfl rfl rfl rfl rfl (by decide +kernel) ⟨by decide, by decide, rfl⟩ ⟨rfl, rfl⟩ ⟨rfl, rfl⟩ (by decide +kernel) (fun _ _ => ⟨rfl, rfl⟩) rfl (pc2 := 144) (n2 := 27) (kc2 := 27) (ks2 := 718) rfl rfl rfl rfl ?_
  refine am_Barr hc (mc := 136) (ms := 1539) X hin hA rfl 71 (f := 20) (kk := 59) (N := 6) (v := 6) false rfl rfl rfl rfl rfl rfl (by decide +kernel) ⟨by decide, by decide, rfl⟩ ⟨rfl, rfl⟩ ⟨rfl, rfl⟩ (by decide +kernel) (fun _ _ => ⟨rfl, rfl⟩) rfl (pc2 := 152) (n2 := 28) (kc2 := 28) (ks2 := 724) rfl rfl rfl rfl ?_
  refine am_Barr hc (mc := 136) (ms := 1539) X hin hA rfl 75 (f := 21) (kk := 60) (N := 6) (v := 6) false rfl rfl rfl rfl rfl rfl (by decide +kernel) ⟨by decide, by decide, rfl⟩ ⟨rfl, rfl⟩ ⟨rfl, rfl⟩ (by decide +kernel) (fun _ _ => ⟨rfl, rfl⟩) rfl (pc2 := 160) (n2 := 29) (kc2 := 29) (ks2 := 730) rfl rfl rfl rfl ?_
  refine am_Barr hc (mc := 136) (ms := 1539) X hin hA rfl 79 (f := 22) (kk := 61) (N := 6) (v := 6) false rfl rfl rfl rfl rfl rfl (by decide +kernel) ⟨by decide, by decide, rfl⟩ ⟨rfl, rfl⟩ ⟨rfl, rfl⟩ (by decide +kernel) (fun _ _ => ⟨rfl, rfl⟩) rfl (pc2 := 168) (n2 := 30) (kc2 := 30) (ks2 := 736) rfl rfl rfl rfl ?_
  refine am_Barr hc (mc := 136) (ms := 1539) X hin hA rfl 83 (f := 23) (kk := 62) (N := 6) (v := 6) false rfl rfl rfl rfl rfl rfl (by decide +kernel) ⟨by decide, by decide, rfl⟩ ⟨rfl, rfl⟩ ⟨rfl, rfl⟩ (by decide +kernel) (fun _ _ => ⟨rfl, rfl⟩) rfl (pc2 := 176) (n2 := 31) (kc2 := 31) (ks2 := 742) rfl rfl rfl rfl ?_
  refine am_Bint hc X hin hA rfl 87 (v := 1) (f := 25) rfl rfl rfl rfl rfl (by decide +kernel) (Or.inl ⟨rfl, rfl⟩) (am_i0_ini _) (pc2 := 181) rfl ?_
  refine am_Barr hc (mc := 136) (ms := 1539) X hin hA rfl 90 (f := 33) (kk := 63) (N := 4) (v := 4) false rfl rfl rfl rfl rfl rfl (by decide +kernel) ⟨by decide, by decide, rfl⟩ ⟨rfl, rfl⟩ ⟨rfl, rfl⟩ (by decide +kernel) (fun _ _ => ⟨rfl, rfl⟩) rfl (pc2 := 188) (n2 := 32) (kc2 := 32) (ks2 := 746) rfl rfl rfl rfl ?_
  refine am_Bmul hc (mc := 136) (ms := 1539) X hin hA rfl 94 (f := 35) (kk := 64) (N := 7) (K := 7) (t := 0) (v1 := 7) (v2 := 7) rfl rfl rfl rfl rfl rfl rfl rfl (by decide +kernel) rfl aw_80 aw_888 ⟨by decide, by decide, rfl⟩ ⟨by decide, by decide, rfl⟩ ⟨rfl, by decide +kernel⟩ ⟨rfl, rfl, rfl⟩ (by decide +kernel) (fun _ _ => ⟨rfl, rfl⟩) rfl (pc2 := 200) (n2 := 40) (kc2 := 40) (ks2 := 802) rfl rfl rfl rfl ?_
  refine am_Barr hc (mc := 136) (ms := 1539) X hin hA rfl 99 (f := 36) (kk := 66) (N := 7) (v := 7) false rfl rfl rfl rfl rfl rfl (by decide +kernel) ⟨by decide, by decide, rfl⟩ ⟨rfl, rfl⟩ ⟨rfl, rfl⟩ (by decide +kernel) (fun _ _ => ⟨rfl, rfl⟩) rfl (pc2 := 208) (n2 := 41) (kc2 := 41) (ks2 := 809) rfl rfl rfl rfl ?_
  refine am_Barr hc (mc := 136) (ms := 1539) X hin hA rfl 103 (f := 37) (kk := 67) (N := 7) (v := 7) false rfl rfl rfl rfl rfl rfl (by decide +kernel) ⟨by decide, by decide, rfl⟩ ⟨rfl, rfl⟩ ⟨rfl, rfl⟩ (by decide +kernel) (fun _ _ => ⟨rfl, rfl⟩) rfl (pc2 := 216) (n2 := 42) (kc2 := 42) (ks2 := 816) rfl rfl rfl rfl ?_
  refine am_Barr hc (mc := 136) (ms := 1539) X hin hA rfl 107 (f := 38) (kk := 68) (N := 7) (v := 7) false rfl rfl rfl rfl rfl rfl (by decide +kernel) ⟨by decide, by decide, rfl⟩ ⟨rfl, rfl⟩ ⟨rfl, rfl⟩ (by decide +kernel) (fun _ _ => ⟨rfl, rfl⟩) rfl (pc2 := 224) (n2 := 43) (kc2 := 43) (ks2 := 823) rfl rfl rfl rfl ?_
  refine am_Bmul hc (mc := 136) (ms := 1539) X hin hA rfl 111 (f := 41) (kk := 69) (N := 6) (K := 7) (t := 0) (v1 := 6) (v2 := 7) rfl rfl rfl rfl rfl rfl rfl rfl (by decide +kernel) rfl aw_80 aw_888 ⟨by decide, by decide, rfl⟩ ⟨by decide, by decide, rfl⟩ ⟨rfl, by decide +kernel⟩ ⟨rfl, rfl, rfl⟩ (by decide +kernel) (fun _ _ => ⟨rfl, rfl⟩) rfl (pc2 := 236) (n2 := 50) (kc2 := 50) (ks2 := 871) rfl rfl rfl rfl ?_
  refine am_Barr hc (mc := 136) (ms := 1539) X hin hA rfl 116 (f := 42) (kk := 71) (N := 6) (v := 6) false rfl rfl rfl rfl rfl rfl (by decide +kernel) ⟨by decide, by decide, rfl⟩ ⟨rfl, rfl⟩ ⟨rfl, rfl⟩ (by decide +kernel) (fun _ _ => ⟨rfl, rfl⟩) rfl (pc2 := 244) (n2 := 51) (kc2 := 51) (ks2 := 877) rfl rfl rfl rfl ?_
  refine am_Barr hc (mc := 136) (ms := 1539) X hin hA rfl 120 (f := 43) (kk := 72) (N := 6) (v := 6) false rfl rfl rfl rfl rfl rfl (by decide +kernel) ⟨by decide, by decide, rfl⟩ ⟨rfl, rfl⟩ ⟨rfl, rfl⟩ (by decide +kernel) (fun _ _ => ⟨rfl, rfl⟩) rfl (pc2 := 252) (n2 := 52) (kc2 := 52) (ks2 := 883) rfl rfl rfl rfl ?_
  refine am_Bmul hc (mc := 136) (ms := 1539) X hin hA rfl 124 (f := 45) (kk := 73) (N := 41) (K := 7) (t := 0) (v1 := 41) (v2 := 7) rfl rfl rfl rfl rfl rfl rfl rfl (by decide +kernel) rfl aw_80 aw_888 ⟨by decide, by decide, rfl⟩ ⟨by decide, by decide, rfl⟩ ⟨rfl, by decide +kernel⟩ ⟨rfl, rfl, rfl⟩ (by decide +kernel) (fun _ _ => ⟨rfl, rfl⟩) rfl (pc2 := 264) (n2 := 94) (kc2 := 94) (ks2 := 1211) rfl rfl rfl rfl ?_
  refine am_Bmul hc (mc := 136) (ms := 1539) X hin hA rfl 129 (f := 46) (kk := 75) (N := 41) (K := 7) (t := 2) (v1 := 41) (v2 := 7) rfl rfl rfl rfl rfl rfl rfl rfl (by decide +kernel) rfl aw_1036 aw_889 ⟨by decide, by decide, rfl⟩ ⟨by decide, by decide, rfl⟩ ⟨rfl, by decide +kernel⟩ ⟨rfl, rfl, rfl⟩ (by decide +kernel) (fun _ _ => ⟨rfl, rfl⟩) rfl (pc2 := 276) (n2 := 136) (kc2 := 136) (ks2 := 1539) rfl rfl rfl rfl ?_
  refine am_Bdone (fs := [46, 45, 43, 42, 41, 38, 37, 36, 35, 33, 25, 23, 22, 21, 20, 19, 18, 17, 16, 14, 12, 11, 10, 9, 8, 6, 5, 4, 3, 2, 1, 0]) (by decide +kernel) X hag hLk (Nat.le_refl _) (hnew 7 (by decide)) (am_noup rfl) (am_i0_hs (by decide +kernel)) ⟨rfl, rfl⟩ ⟨fun e => absurd e (by decide), fun _ => hg⟩ (fun G9 hag hLk hlv9 had X => ?_)
  exact lt_X8_init_7 X hr hag hLk (fun x => by rw [hlv9]; simp only [List.contains_cons, List.contains_nil, Bool.or_false, Bool.or_assoc]) had _ h

def ft_X0_init_1 (σ : am_S) : Option am_S :=
  (fn_J7_fill_53178_4 1 0 1 (σ)).bind fun q1 => (fn_J7_fill_53178_4 1 1 3 q1).bind fun q3 => (fn_J7_fill_53178_4 1 2 4 q3).bind fun q5 => some q5
set_option maxRecDepth 100000 in
theorem lt_X0_init_1 {p : Program} {l : Launch} {e : Env} {s : State} {m : MethodId} {args : Array Value} {below : List Frame} {meth : Method} {c : Code} {G G0 : am_G} {a : Nat} {q : am_S} (X : am_X p s m args c cX0_init yX0_init.cls 1 am_p0 G (am_Fc G0 a s.heap.size)) (hr : meth.sig.returnType = none ∧ meth.locks = false) (hag : am_ag G0 G) (hLk : am_Lk G0 G s.heap.size a) (hlv : ∀ x, G.2.2.2 x = (G0.2.2.2 x || ([1] : List Nat).contains x)) (had : am_ad G 1 2 0 = a) (σ : am_S) (h : ft_X0_init_1 σ = some q) : am_A p l e (am_rc 1 15 93) s m args below meth c 1 G (am_Fc G0 a s.heap.size) 15 93 (MQ below (am_Qk G0 s.heap.size a 1 2 [1] q) args s 15 93 (am_Fc G0 a s.heap.size)) (62, [(0, am_r 1 2 0)], [], σ) := by
  have hc := ct_X0_init
  unfold ft_X0_init_1 at h
  refine am_blk hc X 32 5 (fr' := (69, [(0, am_r 1 2 0)], [am_i 1, am_r 1 4 0], σ)) rfl ⟨trivial, trivial, trivial, (am_in_vp (by decide)), trivial, trivial⟩ ?_
  obtain ⟨q1, hq2, h⟩ := am_bs h
  refine am_callS hc 37 X (As := [am_r 1 4 0, am_i 1]) (rest := []) rfl (ok_J7_fill_53178_4 l 1 0 1 (σ) hq2) yv_J7_fill_53178 ml_X0_38 rfl rfl rfl rfl rfl ?_
  refine am_blk hc X 38 5 (fr' := (79, [(0, am_r 1 2 0)], [am_i 3, am_r 1 4 1], q1)) rfl ⟨trivial, trivial, trivial, (am_in_vp (by decide)), trivial, trivial⟩ ?_
  obtain ⟨q3, hq4, h⟩ := am_bs h
  refine am_callS hc 43 X (As := [am_r 1 4 1, am_i 3]) (rest := []) rfl (ok_J7_fill_53178_4 l 1 1 3 q1 hq4) yv_J7_fill_53178 ml_X0_38 rfl rfl rfl rfl rfl ?_
  refine am_blk hc X 44 5 (fr' := (89, [(0, am_r 1 2 0)], [am_i 4, am_r 1 4 2], q3)) rfl ⟨trivial, trivial, trivial, (am_in_vp (by decide)), trivial, trivial⟩ ?_
  obtain ⟨q5, hq6, h⟩ := am_bs h
  refine am_callS hc 49 X (As := [am_r 1 4 2, am_i 4]) (rest := []) rfl (ok_J7_fill_53178_4 l 1 2 4 q3 hq6) yv_J7_fill_53178 ml_X0_38 rfl rfl rfl rfl rfl ?_
  obtain rfl := Option.some.inj h
  exact am_vretK hc X hag hLk hlv had hr rfl 50 rfl rfl
def fn_X0_init_1 (σ : am_S) : Option am_S :=
  ft_X0_init_1 (am_i0 1 2 [0, 0, 0, 0, 0, 2, 1, 0] σ)
set_option maxRecDepth 100000 in
theorem ok_X0_init_1 (l : Launch) (σ : am_S) {q : am_S} (h : fn_X0_init_1 σ = some q) : am_K l yX0_init cX0_init 1 1 15 93 1 2 [1] σ q := by
  unfold fn_X0_init_1 at h
  refine am_K_of (P := am_p0) (tb := tb_X0_init) (idx := 3) [0, 0, 0, 0, 0, 2, 1, 0] (by decide +kernel) am_p0_ok rfl rfl oi_X0_3 ct_X0_init rfl rfl rfl (by decide) (by decide) ?_
  intro G p e s m args below meth c a X hr hin hnew
  have hc := ct_X0_init
  have hag : am_ag G G := am_ag.rf
  have hLk : am_Lk G G s.heap.size a := fun _ _ _ h => Or.inl h
  have hA : am_Fc G a s.heap.size a := Or.inr (Or.inl rfl)
  refine am_Bmul hc (mc := 15) (ms := 93) X hin hA rfl 2 (f := 0) (kk := 3) (N := 3) (K := 7) (t := 0) (v1 := 3) (v2 := 7) rfl rfl rfl rfl rfl rfl rfl rfl (by decide +kernel) rfl aw_80 aw_32 ⟨by decide, by decide, rfl⟩ ⟨by decide, by decide, rfl⟩ ⟨rfl, by decide +kernel⟩ ⟨rfl, rfl, rfl⟩ (by decide +kernel) (fun _ _ => ⟨rfl, rfl⟩) rfl (pc2 := 15) (n2 := 4) (kc2 := 4) (ks2 := 24) rfl rfl rfl rfl ?_
  refine am_Bmul hc (mc := 15) (ms := 93) X hin hA rfl 7 (f := 1) (kk := 5) (N := 3) (K := 4) (t := 0) (v1 := 3) (v2 := 4) rfl rfl rfl rfl rfl rfl rfl rfl (by decide +kernel) rfl aw_80 aw_32 ⟨by decide, by decide, rfl⟩ ⟨by decide, by decide, rfl⟩ ⟨rfl, by decide +kernel⟩ ⟨rfl, rfl, rfl⟩ (by decide +kernel) (fun _ _ => ⟨rfl, rfl⟩) rfl (pc2 := 25) (n2 := 8) (kc2 := 8) (ks2 := 39) rfl rfl rfl rfl ?_
  refine am_Bmul hc (mc := 15) (ms := 93) X hin hA rfl 12 (f := 2) (kk := 7) (N := 6) (K := 8) (t := 0) (v1 := 6) (v2 := 8) rfl rfl rfl rfl rfl rfl rfl rfl (by decide +kernel) rfl aw_80 aw_32 ⟨by decide, by decide, rfl⟩ ⟨by decide, by decide, rfl⟩ ⟨rfl, by decide +kernel⟩ ⟨rfl, rfl, rfl⟩ (by decide +kernel) (fun _ _ => ⟨rfl, rfl⟩) rfl (pc2 := 37) (n2 := 15) (kc2 := 15) (ks2 := 93) rfl rfl rfl rfl ?_
  refine am_Bint hc X hin hA rfl 17 (v := 0) (f := 3) rfl rfl rfl rfl rfl (by decide +kernel) (Or.inl ⟨rfl, rfl⟩) (am_i0_ini _) (pc2 := 42) rfl ?_
  refine am_Bint hc X hin hA rfl 20 (v := 0) (f := 4) rfl rfl rfl rfl rfl (by decide +kernel) (Or.inl ⟨rfl, rfl⟩) (am_i0_ini _) (pc2 := 47) rfl ?_
  refine am_Bint hc X hin hA rfl 23 (v := 2) (f := 5) rfl rfl rfl rfl rfl (by decide +kernel) (Or.inl ⟨rfl, rfl⟩) (am_i0_ini _) (pc2 := 52) rfl ?_
  refine am_Bint hc X hin hA rfl 26 (v := 1) (f := 6) rfl rfl rfl rfl rfl (by decide +kernel) (Or.inl ⟨rfl, rfl⟩) (am_i0_ini _) (pc2 := 57) rfl ?_
  refine am_Bint hc X hin hA rfl 29 (v := 0) (f := 7) rfl rfl rfl rfl rfl (by decide +kernel) (Or.inl ⟨rfl, rfl⟩) (am_i0_ini _) (pc2 := 62) rfl ?_
  refine am_Bdone (fs := [7, 6, 5, 4, 3, 2, 1, 0]) (by decide +kernel) X hag hLk (Nat.le_refl _) (hnew 1 (by decide)) (am_noup rfl) (am_i0_hs (by decide +kernel)) ⟨rfl, rfl⟩ ⟨fun e => absurd e (by decide), fun e => absurd e (by decide)⟩ (fun G9 hag hLk hlv9 had X => ?_)
  exact lt_X0_init_1 X hr hag hLk (fun x => by rw [hlv9]; simp only [List.contains_cons, List.contains_nil, Bool.or_false, Bool.or_assoc]) had _ h

def ft_X0_init_2 (σ : am_S) : Option am_S :=
  (fn_J7_fill_53178_4 2 0 1 (σ)).bind fun q1 => (fn_J7_fill_53178_4 2 1 3 q1).bind fun q3 => (fn_J7_fill_53178_4 2 2 4 q3).bind fun q5 => some q5
set_option maxRecDepth 100000 in
theorem lt_X0_init_2 {p : Program} {l : Launch} {e : Env} {s : State} {m : MethodId} {args : Array Value} {below : List Frame} {meth : Method} {c : Code} {G G0 : am_G} {a : Nat} {q : am_S} (X : am_X p s m args c cX0_init yX0_init.cls 1 am_p0 G (am_Fc G0 a s.heap.size)) (hr : meth.sig.returnType = none ∧ meth.locks = false) (hag : am_ag G0 G) (hLk : am_Lk G0 G s.heap.size a) (hlv : ∀ x, G.2.2.2 x = (G0.2.2.2 x || ([2] : List Nat).contains x)) (had : am_ad G 2 2 0 = a) (σ : am_S) (h : ft_X0_init_2 σ = some q) : am_A p l e (am_rc 1 15 93) s m args below meth c 1 G (am_Fc G0 a s.heap.size) 15 93 (MQ below (am_Qk G0 s.heap.size a 2 2 [2] q) args s 15 93 (am_Fc G0 a s.heap.size)) (62, [(0, am_r 2 2 0)], [], σ) := by
  have hc := ct_X0_init
  unfold ft_X0_init_2 at h
  refine am_blk hc X 32 5 (fr' := (69, [(0, am_r 2 2 0)], [am_i 1, am_r 2 4 0], σ)) rfl ⟨trivial, trivial, trivial, (am_in_vp (by decide)), trivial, trivial⟩ ?_
  obtain ⟨q1, hq2, h⟩ := am_bs h
  refine am_callS hc 37 X (As := [am_r 2 4 0, am_i 1]) (rest := []) rfl (ok_J7_fill_53178_4 l 2 0 1 (σ) hq2) yv_J7_fill_53178 ml_X0_38 rfl rfl rfl rfl rfl ?_
  refine am_blk hc X 38 5 (fr' := (79, [(0, am_r 2 2 0)], [am_i 3, am_r 2 4 1], q1)) rfl ⟨trivial, trivial, trivial, (am_in_vp (by decide)), trivial, trivial⟩ ?_
  obtain ⟨q3, hq4, h⟩ := am_bs h
  refine am_callS hc 43 X (As := [am_r 2 4 1, am_i 3]) (rest := []) rfl (ok_J7_fill_53178_4 l 2 1 3 q1 hq4) yv_J7_fill_53178 ml_X0_38 rfl rfl rfl rfl rfl ?_
  refine am_blk hc X 44 5 (fr' := (89, [(0, am_r 2 2 0)], [am_i 4, am_r 2 4 2], q3)) rfl ⟨trivial, trivial, trivial, (am_in_vp (by decide)), trivial, trivial⟩ ?_
  obtain ⟨q5, hq6, h⟩ := am_bs h
  refine am_callS hc 49 X (As := [am_r 2 4 2, am_i 4]) (rest := []) rfl (ok_J7_fill_53178_4 l 2 2 4 q3 hq6) yv_J7_fill_53178 ml_X0_38 rfl rfl rfl rfl rfl ?_
  obtain rfl := Option.some.inj h
  exact am_vretK hc X hag hLk hlv had hr rfl 50 rfl rfl
def fn_X0_init_2 (σ : am_S) : Option am_S :=
  ft_X0_init_2 (am_i0 2 2 [0, 0, 0, 0, 0, 2, 1, 0] σ)
set_option maxRecDepth 100000 in
theorem ok_X0_init_2 (l : Launch) (σ : am_S) {q : am_S} (h : fn_X0_init_2 σ = some q) : am_K l yX0_init cX0_init 1 1 15 93 2 2 [2] σ q := by
  unfold fn_X0_init_2 at h
  refine am_K_of (P := am_p0) (tb := tb_X0_init) (idx := 3) [0, 0, 0, 0, 0, 2, 1, 0] (by decide +kernel) am_p0_ok rfl rfl oi_X0_3 ct_X0_init rfl rfl rfl (by decide) (by decide) ?_
  intro G p e s m args below meth c a X hr hin hnew
  have hc := ct_X0_init
  have hag : am_ag G G := am_ag.rf
  have hLk : am_Lk G G s.heap.size a := fun _ _ _ h => Or.inl h
  have hA : am_Fc G a s.heap.size a := Or.inr (Or.inl rfl)
  refine am_Bmul hc (mc := 15) (ms := 93) X hin hA rfl 2 (f := 0) (kk := 3) (N := 3) (K := 7) (t := 0) (v1 := 3) (v2 := 7) rfl rfl rfl rfl rfl rfl rfl rfl (by decide +kernel) rfl aw_80 aw_32 ⟨by decide, by decide, rfl⟩ ⟨by decide, by decide, rfl⟩ ⟨rfl, by decide +kernel⟩ ⟨rfl, rfl, rfl⟩ (by decide +kernel) (fun _ _ => ⟨rfl, rfl⟩) rfl (pc2 := 15) (n2 := 4) (kc2 := 4) (ks2 := 24) rfl rfl rfl rfl ?_
  refine am_Bmul hc (mc := 15) (ms := 93) X hin hA rfl 7 (f := 1) (kk := 5) (N := 3) (K := 4) (t := 0) (v1 := 3) (v2 := 4) rfl rfl rfl rfl rfl rfl rfl rfl (by decide +kernel) rfl aw_80 aw_32 ⟨by decide, by decide, rfl⟩ ⟨by decide, by decide, rfl⟩ ⟨rfl, by decide +kernel⟩ ⟨rfl, rfl, rfl⟩ (by decide +kernel) (fun _ _ => ⟨rfl, rfl⟩) rfl (pc2 := 25) (n2 := 8) (kc2 := 8) (ks2 := 39) rfl rfl rfl rfl ?_
  refine am_Bmul hc (mc := 15) (ms := 93) X hin hA rfl 12 (f := 2) (kk := 7) (N := 6) (K := 8) (t := 0) (v1 := 6) (v2 := 8) rfl rfl rfl rfl rfl rfl rfl rfl (by decide +kernel) rfl aw_80 aw_32 ⟨by decide, by decide, rfl⟩ ⟨by decide, by decide, rfl⟩ ⟨rfl, by decide +kernel⟩ ⟨rfl, rfl, rfl⟩ (by decide +kernel) (fun _ _ => ⟨rfl, rfl⟩) rfl (pc2 := 37) (n2 := 15) (kc2 := 15) (ks2 := 93) rfl rfl rfl rfl ?_
  refine am_Bint hc X hin hA rfl 17 (v := 0) (f := 3) rfl rfl rfl rfl rfl (by decide +kernel) (Or.inl ⟨rfl, rfl⟩) (am_i0_ini _) (pc2 := 42) rfl ?_
  refine am_Bint hc X hin hA rfl 20 (v := 0) (f := 4) rfl rfl rfl rfl rfl (by decide +kernel) (Or.inl ⟨rfl, rfl⟩) (am_i0_ini _) (pc2 := 47) rfl ?_
  refine am_Bint hc X hin hA rfl 23 (v := 2) (f := 5) rfl rfl rfl rfl rfl (by decide +kernel) (Or.inl ⟨rfl, rfl⟩) (am_i0_ini _) (pc2 := 52) rfl ?_
  refine am_Bint hc X hin hA rfl 26 (v := 1) (f := 6) rfl rfl rfl rfl rfl (by decide +kernel) (Or.inl ⟨rfl, rfl⟩) (am_i0_ini _) (pc2 := 57) rfl ?_
  refine am_Bint hc X hin hA rfl 29 (v := 0) (f := 7) rfl rfl rfl rfl rfl (by decide +kernel) (Or.inl ⟨rfl, rfl⟩) (am_i0_ini _) (pc2 := 62) rfl ?_
  refine am_Bdone (fs := [7, 6, 5, 4, 3, 2, 1, 0]) (by decide +kernel) X hag hLk (Nat.le_refl _) (hnew 2 (by decide)) (am_noup rfl) (am_i0_hs (by decide +kernel)) ⟨rfl, rfl⟩ ⟨fun e => absurd e (by decide), fun e => absurd e (by decide)⟩ (fun G9 hag hLk hlv9 had X => ?_)
  exact lt_X0_init_2 X hr hag hLk (fun x => by rw [hlv9]; simp only [List.contains_cons, List.contains_nil, Bool.or_false, Bool.or_assoc]) had _ h

def ft_X2_init_10 (σ : am_S) : Option am_S :=
  (fn_J7_fill_53178_10 (-1) (σ)).bind fun q1 => some q1
set_option maxRecDepth 100000 in
theorem lt_X2_init_10 {p : Program} {l : Launch} {e : Env} {s : State} {m : MethodId} {args : Array Value} {below : List Frame} {meth : Method} {c : Code} {G G0 : am_G} {a : Nat} {q : am_S} (X : am_X p s m args c cX2_init yX2_init.cls 1 am_p2 G (am_Fc G0 a s.heap.size)) (hr : meth.sig.returnType = none ∧ meth.locks = false) (hag : am_ag G0 G) (hLk : am_Lk G0 G s.heap.size a) (hlv : ∀ x, G.2.2.2 x = (G0.2.2.2 x || ([10] : List Nat).contains x)) (had : am_ad G 10 9 0 = a) (σ : am_S) (h : ft_X2_init_10 σ = some q) : am_A p l e (am_rc 1 11 344) s m args below meth c 1 G (am_Fc G0 a s.heap.size) 11 344 (MQ below (am_Qk G0 s.heap.size a 10 9 [10] q) args s 11 344 (am_Fc G0 a s.heap.size)) (32, [(0, am_r 10 9 0)], [], σ) := by
  have hc := ct_X2_init
  unfold ft_X2_init_10 at h
  refine am_blk hc X 15 3 (fr' := (37, [(0, am_r 10 9 0)], [am_i (-1), am_r 10 10 0], σ)) rfl ⟨trivial, trivial, trivial, trivial⟩ ?_
  obtain ⟨q1, hq2, h⟩ := am_bs h
  refine am_callS hc 18 X (As := [am_r 10 10 0, am_i (-1)]) (rest := []) rfl (ok_J7_fill_53178_10 l (-1) (σ) hq2) yv_J7_fill_53178 ml_X2_23 rfl rfl rfl rfl rfl ?_
  obtain rfl := Option.some.inj h
  exact am_vretK hc X hag hLk hlv had hr rfl 19 rfl rfl
def fn_X2_init_10 (σ : am_S) : Option am_S :=
  ft_X2_init_10 (am_i0 10 9 [0, 0, 0] σ)
set_option maxRecDepth 100000 in
theorem ok_X2_init_10 (l : Launch) (σ : am_S) {q : am_S} (h : fn_X2_init_10 σ = some q) : am_K l yX2_init cX2_init 1 1 11 344 10 9 [10] σ q := by
  unfold fn_X2_init_10 at h
  refine am_K_of (P := am_p2) (tb := tb_X2_init) (idx := 3) [0, 0, 0] (by decide +kernel) am_p2_ok rfl rfl oi_X2_3 ct_X2_init rfl rfl rfl (by decide) (by decide) ?_
  intro G p e s m args below meth c a X hr hin hnew
  have hc := ct_X2_init
  have hag : am_ag G G := am_ag.rf
  have hLk : am_Lk G G s.heap.size a := fun _ _ _ h => Or.inl h
  have hA : am_Fc G a s.heap.size a := Or.inr (Or.inl rfl)
  refine am_Barr hc (mc := 11) (ms := 344) X hin hA rfl 2 (f := 0) (kk := 10) (N := 8) (v := 8) false rfl rfl rfl rfl rfl rfl (by decide +kernel) ⟨by decide, by decide, rfl⟩ ⟨rfl, rfl⟩ ⟨rfl, rfl⟩ (by decide +kernel) (fun _ _ => ⟨rfl, rfl⟩) rfl (pc2 := 12) (n2 := 1) (kc2 := 1) (ks2 := 8) rfl rfl rfl rfl ?_
  refine am_Barr hc (mc := 11) (ms := 344) X hin hA rfl 6 (f := 1) (kk := 11) (N := 8) (v := 8) false rfl rfl rfl rfl rfl rfl (by decide +kernel) ⟨by decide, by decide, rfl⟩ ⟨rfl, rfl⟩ ⟨rfl, rfl⟩ (by decide +kernel) (fun _ _ => ⟨rfl, rfl⟩) rfl (pc2 := 20) (n2 := 2) (kc2 := 2) (ks2 := 16) rfl rfl rfl rfl ?_
  refine am_Bmul hc (mc := 11) (ms := 344) X hin hA rfl 10 (f := 2) (kk := 12) (N := 8) (K := 40) (t := 1) (v1 := 8) (v2 := 40) rfl rfl rfl rfl rfl rfl rfl rfl (by decide +kernel) rfl aw_103 aw_87 ⟨by decide, by decide, rfl⟩ ⟨by decide, by decide, rfl⟩ ⟨rfl, by decide +kernel⟩ ⟨rfl, rfl, rfl⟩ (by decide +kernel) (fun _ _ => ⟨rfl, rfl⟩) rfl (pc2 := 32) (n2 := 11) (kc2 := 11) (ks2 := 344) rfl rfl rfl rfl ?_
  refine am_Bdone (fs := [2, 1, 0]) (by decide +kernel) X hag hLk (Nat.le_refl _) (hnew 10 (by decide)) (am_noup rfl) (am_i0_hs (by decide +kernel)) ⟨rfl, rfl⟩ ⟨fun e => absurd e (by decide), fun e => absurd e (by decide)⟩ (fun G9 hag hLk hlv9 had X => ?_)
  exact lt_X2_init_10 X hr hag hLk (fun x => by rw [hlv9]; simp only [List.contains_cons, List.contains_nil, Bool.or_false, Bool.or_assoc]) had _ h

def ft_X0_init_3 (σ : am_S) : Option am_S :=
  (fn_J7_fill_53178_4 3 0 1 (σ)).bind fun q1 => (fn_J7_fill_53178_4 3 1 3 q1).bind fun q3 => (fn_J7_fill_53178_4 3 2 4 q3).bind fun q5 => some q5
set_option maxRecDepth 100000 in
theorem lt_X0_init_3 {p : Program} {l : Launch} {e : Env} {s : State} {m : MethodId} {args : Array Value} {below : List Frame} {meth : Method} {c : Code} {G G0 : am_G} {a : Nat} {q : am_S} (X : am_X p s m args c cX0_init yX0_init.cls 1 am_p0 G (am_Fc G0 a s.heap.size)) (hr : meth.sig.returnType = none ∧ meth.locks = false) (hag : am_ag G0 G) (hLk : am_Lk G0 G s.heap.size a) (hlv : ∀ x, G.2.2.2 x = (G0.2.2.2 x || ([3] : List Nat).contains x)) (had : am_ad G 3 2 0 = a) (σ : am_S) (h : ft_X0_init_3 σ = some q) : am_A p l e (am_rc 1 15 93) s m args below meth c 1 G (am_Fc G0 a s.heap.size) 15 93 (MQ below (am_Qk G0 s.heap.size a 3 2 [3] q) args s 15 93 (am_Fc G0 a s.heap.size)) (62, [(0, am_r 3 2 0)], [], σ) := by
  have hc := ct_X0_init
  unfold ft_X0_init_3 at h
  refine am_blk hc X 32 5 (fr' := (69, [(0, am_r 3 2 0)], [am_i 1, am_r 3 4 0], σ)) rfl ⟨trivial, trivial, trivial, (am_in_vp (by decide)), trivial, trivial⟩ ?_
  obtain ⟨q1, hq2, h⟩ := am_bs h
  refine am_callS hc 37 X (As := [am_r 3 4 0, am_i 1]) (rest := []) rfl (ok_J7_fill_53178_4 l 3 0 1 (σ) hq2) yv_J7_fill_53178 ml_X0_38 rfl rfl rfl rfl rfl ?_
  refine am_blk hc X 38 5 (fr' := (79, [(0, am_r 3 2 0)], [am_i 3, am_r 3 4 1], q1)) rfl ⟨trivial, trivial, trivial, (am_in_vp (by decide)), trivial, trivial⟩ ?_
  obtain ⟨q3, hq4, h⟩ := am_bs h
  refine am_callS hc 43 X (As := [am_r 3 4 1, am_i 3]) (rest := []) rfl (ok_J7_fill_53178_4 l 3 1 3 q1 hq4) yv_J7_fill_53178 ml_X0_38 rfl rfl rfl rfl rfl ?_
  refine am_blk hc X 44 5 (fr' := (89, [(0, am_r 3 2 0)], [am_i 4, am_r 3 4 2], q3)) rfl ⟨trivial, trivial, trivial, (am_in_vp (by decide)), trivial, trivial⟩ ?_
  obtain ⟨q5, hq6, h⟩ := am_bs h
  refine am_callS hc 49 X (As := [am_r 3 4 2, am_i 4]) (rest := []) rfl (ok_J7_fill_53178_4 l 3 2 4 q3 hq6) yv_J7_fill_53178 ml_X0_38 rfl rfl rfl rfl rfl ?_
  obtain rfl := Option.some.inj h
  exact am_vretK hc X hag hLk hlv had hr rfl 50 rfl rfl
def fn_X0_init_3 (σ : am_S) : Option am_S :=
  ft_X0_init_3 (am_i0 3 2 [0, 0, 0, 0, 0, 2, 1, 0] σ)
set_option maxRecDepth 100000 in
theorem ok_X0_init_3 (l : Launch) (σ : am_S) {q : am_S} (h : fn_X0_init_3 σ = some q) : am_K l yX0_init cX0_init 1 1 15 93 3 2 [3] σ q := by
  unfold fn_X0_init_3 at h
  refine am_K_of (P := am_p0) (tb := tb_X0_init) (idx := 3) [0, 0, 0, 0, 0, 2, 1, 0] (by decide +kernel) am_p0_ok rfl rfl oi_X0_3 ct_X0_init rfl rfl rfl (by decide) (by decide) ?_
  intro G p e s m args below meth c a X hr hin hnew
  have hc := ct_X0_init
  have hag : am_ag G G := am_ag.rf
  have hLk : am_Lk G G s.heap.size a := fun _ _ _ h => Or.inl h
  have hA : am_Fc G a s.heap.size a := Or.inr (Or.inl rfl)
  refine am_Bmul hc (mc := 15) (ms := 93) X hin hA rfl 2 (f := 0) (kk := 3) (N := 3) (K := 7) (t := 0) (v1 := 3) (v2 := 7) rfl rfl rfl rfl rfl rfl rfl rfl (by decide +kernel) rfl aw_80 aw_32 ⟨by decide, by decide, rfl⟩ ⟨by decide, by decide, rfl⟩ ⟨rfl, by decide +kernel⟩ ⟨rfl, rfl, rfl⟩ (by decide +kernel) (fun _ _ => ⟨rfl, rfl⟩) rfl (pc2 := 15) (n2 := 4) (kc2 := 4) (ks2 := 24) rfl rfl rfl rfl ?_
  refine am_Bmul hc (mc := 15) (ms := 93) X hin hA rfl 7 (f := 1) (kk := 5) (N := 3) (K := 4) (t := 0) (v1 := 3) (v2 := 4) rfl rfl rfl rfl rfl rfl rfl rfl (by decide +kernel) rfl aw_80 aw_32 ⟨by decide, by decide, rfl⟩ ⟨by decide, by decide, rfl⟩ ⟨rfl, by decide +kernel⟩ ⟨rfl, rfl, rfl⟩ (by decide +kernel) (fun _ _ => ⟨rfl, rfl⟩) rfl (pc2 := 25) (n2 := 8) (kc2 := 8) (ks2 := 39) rfl rfl rfl rfl ?_
  refine am_Bmul hc (mc := 15) (ms := 93) X hin hA rfl 12 (f := 2) (kk := 7) (N := 6) (K := 8) (t := 0) (v1 := 6) (v2 := 8) rfl rfl rfl rfl rfl rfl rfl rfl (by decide +kernel) rfl aw_80 aw_32 ⟨by decide, by decide, rfl⟩ ⟨by decide, by decide, rfl⟩ ⟨rfl, by decide +kernel⟩ ⟨rfl, rfl, rfl⟩ (by decide +kernel) (fun _ _ => ⟨rfl, rfl⟩) rfl (pc2 := 37) (n2 := 15) (kc2 := 15) (ks2 := 93) rfl rfl rfl rfl ?_
  refine am_Bint hc X hin hA rfl 17 (v := 0) (f := 3) rfl rfl rfl rfl rfl (by decide +kernel) (Or.inl ⟨rfl, rfl⟩) (am_i0_ini _) (pc2 := 42) rfl ?_
  refine am_Bint hc X hin hA rfl 20 (v := 0) (f := 4) rfl rfl rfl rfl rfl (by decide +kernel) (Or.inl ⟨rfl, rfl⟩) (am_i0_ini _) (pc2 := 47) rfl ?_
  refine am_Bint hc X hin hA rfl 23 (v := 2) (f := 5) rfl rfl rfl rfl rfl (by decide +kernel) (Or.inl ⟨rfl, rfl⟩) (am_i0_ini _) (pc2 := 52) rfl ?_
  refine am_Bint hc X hin hA rfl 26 (v := 1) (f := 6) rfl rfl rfl rfl rfl (by decide +kernel) (Or.inl ⟨rfl, rfl⟩) (am_i0_ini _) (pc2 := 57) rfl ?_
  refine am_Bint hc X hin hA rfl 29 (v := 0) (f := 7) rfl rfl rfl rfl rfl (by decide +kernel) (Or.inl ⟨rfl, rfl⟩) (am_i0_ini _) (pc2 := 62) rfl ?_
  refine am_Bdone (fs := [7, 6, 5, 4, 3, 2, 1, 0]) (by decide +kernel) X hag hLk (Nat.le_refl _) (hnew 3 (by decide)) (am_noup rfl) (am_i0_hs (by decide +kernel)) ⟨rfl, rfl⟩ ⟨fun e => absurd e (by decide), fun e => absurd e (by decide)⟩ (fun G9 hag hLk hlv9 had X => ?_)
  exact lt_X0_init_3 X hr hag hLk (fun x => by rw [hlv9]; simp only [List.contains_cons, List.contains_nil, Bool.or_false, Bool.or_assoc]) had _ h

def ft_X4_init_11 (σ : am_S) : Option am_S :=
  some (σ)
set_option maxRecDepth 100000 in
theorem lt_X4_init_11 {p : Program} {l : Launch} {e : Env} {s : State} {m : MethodId} {args : Array Value} {below : List Frame} {meth : Method} {c : Code} {G G0 : am_G} {a : Nat} {q : am_S} (X : am_X p s m args c cX4_init yX4_init.cls 1 am_p4 G (am_Fc G0 a s.heap.size)) (hr : meth.sig.returnType = none ∧ meth.locks = false) (hag : am_ag G0 G) (hLk : am_Lk G0 G s.heap.size a) (hlv : ∀ x, G.2.2.2 x = (G0.2.2.2 x || ([3, 11] : List Nat).contains x)) (had : am_ad G 11 14 0 = a) (σ : am_S) (h : ft_X4_init_11 σ = some q) : am_A p l e (am_rc 2 18 355) s m args below meth c 1 G (am_Fc G0 a s.heap.size) 18 355 (MQ below (am_Qk G0 s.heap.size a 11 14 [3, 11] q) args s 18 355 (am_Fc G0 a s.heap.size)) (51, [(0, am_r 11 14 0)], [], σ) := by
  have hc := ct_X4_init
  unfold ft_X4_init_11 at h
  obtain rfl := Option.some.inj h
  exact am_vretK hc X hag hLk hlv had hr rfl 27 rfl rfl
def fn_X4_init_11 (σ : am_S) : Option am_S :=
  (fn_X0_init_3 (am_i0 11 14 [0, 0, 0, 0, 0, 0, 0] σ)).bind fun q1 => ft_X4_init_11 (am_i0 11 14 [0, 0, 0, 0, 0, 0, 0] q1)
set_option maxRecDepth 100000 in
theorem ok_X4_init_11 (l : Launch) (σ : am_S) {q : am_S} (h : fn_X4_init_11 σ = some q) : am_K l yX4_init cX4_init 1 2 18 355 11 14 [3, 11] σ q := by
  unfold fn_X4_init_11 at h
  refine am_K_of (P := am_p4) (tb := tb_X4_init) (idx := 3) [0, 0, 0, 0, 0, 0, 0] (by decide +kernel) am_p4_ok rfl rfl oi_X4_3 ct_X4_init rfl rfl rfl (by decide) (by decide) ?_
  intro G p e s m args below meth c a X hr hin hnew
  have hc := ct_X4_init
  have hag : am_ag G G := am_ag.rf
  have hLk : am_Lk G G s.heap.size a := fun _ _ _ h => Or.inl h
  have hA : am_Fc G a s.heap.size a := Or.inr (Or.inl rfl)
  obtain ⟨q1, hq1, h⟩ := am_bs h
  refine am_Bnest hc (mc := 18) (ms := 355) X hag hLk hin rfl 2 (f := 0) (x := 3) (y := 2) (N := 8) (C := RX0) (yy := yX0_init) rfl rfl rfl rfl rfl rfl (by decide +kernel) ⟨rfl, by decide +kernel⟩ ⟨by decide, rfl, rfl, rfl⟩ aw_110 aw_27 yi_X0_init ⟨rfl, rfl⟩ (Or.inl ml_X4_11) (ok_X0_init_3 l (am_i0 11 14 [0, 0, 0, 0, 0, 0, 0] σ) hq1) (fun z hz => by simp only [List.mem_cons, List.not_mem_nil, or_false] at hz; rcases hz with rfl <;> exact hnew _ (by decide)) rfl (pc2 := 15) (kc2 := 16) (ks2 := 101) rfl rfl rfl rfl [0, 0, 0, 0, 0, 0, 0] (hnew 11 (by decide)) rfl (by decide) (fun _ h => absurd h List.not_mem_nil) (by decide) (fun g => am_i0_ini g) (fun G1 b1 hag hLk hlv1 X hb => ?_)
  refine am_Barr hc (mc := 18) (ms := 355) X hin hA rfl 7 (f := 1) (kk := 15) (N := 250) (v := 250) false rfl rfl rfl rfl rfl rfl (by decide +kernel) ⟨by decide, by decide, rfl⟩ ⟨rfl, rfl⟩ ⟨rfl, rfl⟩ (by decide +kernel) (fun _ _ => ⟨rfl, rfl⟩) rfl (pc2 := 24) (n2 := 1) (kc2 := 17) (ks2 := 351) rfl rfl rfl rfl ?_
  refine am_Bint hc X hin hA rfl 11 (v := 0) (f := 2) rfl rfl rfl rfl rfl (by decide +kernel) (Or.inl ⟨rfl, rfl⟩) (am_i0_ini _) (pc2 := 29) rfl ?_
  refine am_Barr hc (mc := 18) (ms := 355) X hin hA rfl 14 (f := 3) (kk := 16) (N := 4) (v := 4) false rfl rfl rfl rfl rfl rfl (by decide +kernel) ⟨by decide, by decide, rfl⟩ ⟨rfl, rfl⟩ ⟨rfl, rfl⟩ (by decide +kernel) (fun _ _ => ⟨rfl, rfl⟩) rfl (pc2 := 36) (n2 := 2) (kc2 := 18) (ks2 := 355) rfl rfl rfl rfl ?_
  refine am_Bint hc X hin hA rfl 18 (v := 0) (f := 4) rfl rfl rfl rfl rfl (by decide +kernel) (Or.inl ⟨rfl, rfl⟩) (am_i0_ini _) (pc2 := 41) rfl ?_
  refine am_Bint hc X hin hA rfl 21 (v := 0) (f := 5) rfl rfl rfl rfl rfl (by decide +kernel) (Or.inl ⟨rfl, rfl⟩) (am_i0_ini _) (pc2 := 46) rfl ?_
  refine am_Bint hc X hin hA rfl 24 (v := 0) (f := 6) rfl rfl rfl rfl rfl (by decide +kernel) (Or.inl ⟨rfl, rfl⟩) (am_i0_ini _) (pc2 := 51) rfl ?_
  refine am_Bdone (fs := [6, 5, 4, 3, 2, 1, 0]) (by decide +kernel) X hag hLk hb (by rw [hlv1, hnew 11 (by decide)]; rfl) (fun q hq e => by simp only [am_ups, List.mem_cons, List.not_mem_nil, or_false] at hq; rcases hq with rfl | rfl | rfl | rfl | rfl | rfl | rfl | rfl | rfl <;> first | exact absurd e (by decide) | (show G1.2.2.2 _ = true; rw [hlv1]; simp)) (am_i0_hs (by decide +kernel)) ⟨rfl, rfl⟩ ⟨fun e => absurd e (by decide), fun e => absurd e (by decide)⟩ (fun G9 hag hLk hlv9 had X => ?_)
  exact lt_X4_init_11 X hr hag hLk (fun x => by rw [hlv9, hlv1]; simp only [List.contains_cons, List.contains_nil, Bool.or_false, Bool.or_assoc]) had _ h

def ft_X6_init_12 (σ : am_S) : Option am_S :=
  some (σ)
set_option maxRecDepth 100000 in
theorem lt_X6_init_12 {p : Program} {l : Launch} {e : Env} {s : State} {m : MethodId} {args : Array Value} {below : List Frame} {meth : Method} {c : Code} {G G0 : am_G} {a : Nat} {q : am_S} (X : am_X p s m args c cX6_init yX6_init.cls 1 am_p6 G (am_Fc G0 a s.heap.size)) (hr : meth.sig.returnType = none ∧ meth.locks = false) (hag : am_ag G0 G) (hLk : am_Lk G0 G s.heap.size a) (hlv : ∀ x, G.2.2.2 x = (G0.2.2.2 x || ([12] : List Nat).contains x)) (had : am_ad G 12 17 0 = a) (σ : am_S) (h : ft_X6_init_12 σ = some q) : am_A p l e (am_rc 1 10 70) s m args below meth c 1 G (am_Fc G0 a s.heap.size) 10 70 (MQ below (am_Qk G0 s.heap.size a 12 17 [12] q) args s 10 70 (am_Fc G0 a s.heap.size)) (32, [(0, am_r 12 17 0)], [], σ) := by
  have hc := ct_X6_init
  unfold ft_X6_init_12 at h
  obtain rfl := Option.some.inj h
  exact am_vretK hc X hag hLk hlv had hr rfl 15 rfl rfl
def fn_X6_init_12 (σ : am_S) : Option am_S :=
  ft_X6_init_12 (am_i0 12 17 [0, 0, 0] σ)
set_option maxRecDepth 100000 in
theorem ok_X6_init_12 (l : Launch) (σ : am_S) {q : am_S} (h : fn_X6_init_12 σ = some q) : am_K l yX6_init cX6_init 1 1 10 70 12 17 [12] σ q := by
  unfold fn_X6_init_12 at h
  refine am_K_of (P := am_p6) (tb := tb_X6_init) (idx := 3) [0, 0, 0] (by decide +kernel) am_p6_ok rfl rfl oi_X6_3 ct_X6_init rfl rfl rfl (by decide) (by decide) ?_
  intro G p e s m args below meth c a X hr hin hnew
  have hc := ct_X6_init
  have hag : am_ag G G := am_ag.rf
  have hLk : am_Lk G G s.heap.size a := fun _ _ _ h => Or.inl h
  have hA : am_Fc G a s.heap.size a := Or.inr (Or.inl rfl)
  refine am_Bmul hc (mc := 10) (ms := 70) X hin hA rfl 2 (f := 0) (kk := 18) (N := 7) (K := 7) (t := 0) (v1 := 7) (v2 := 7) rfl rfl rfl rfl rfl rfl rfl rfl (by decide +kernel) rfl aw_80 aw_142 ⟨by decide, by decide, rfl⟩ ⟨by decide, by decide, rfl⟩ ⟨rfl, by decide +kernel⟩ ⟨rfl, rfl, rfl⟩ (by decide +kernel) (fun _ _ => ⟨rfl, rfl⟩) rfl (pc2 := 16) (n2 := 8) (kc2 := 8) (ks2 := 56) rfl rfl rfl rfl ?_
  refine am_Barr hc (mc := 10) (ms := 70) X hin hA rfl 7 (f := 1) (kk := 20) (N := 7) (v := 7) false rfl rfl rfl rfl rfl rfl (by decide +kernel) ⟨by decide, by decide, rfl⟩ ⟨rfl, rfl⟩ ⟨rfl, rfl⟩ (by decide +kernel) (fun _ _ => ⟨rfl, rfl⟩) rfl (pc2 := 24) (n2 := 9) (kc2 := 9) (ks2 := 63) rfl rfl rfl rfl ?_
  refine am_Barr hc (mc := 10) (ms := 70) X hin hA rfl 11 (f := 2) (kk := 21) (N := 7) (v := 7) false rfl rfl rfl rfl rfl rfl (by decide +kernel) ⟨by decide, by decide, rfl⟩ ⟨rfl, rfl⟩ ⟨rfl, rfl⟩ (by decide +kernel) (fun _ _ => ⟨rfl, rfl⟩) rfl (pc2 := 32) (n2 := 10) (kc2 := 10) (ks2 := 70) rfl rfl rfl rfl ?_
  refine am_Bdone (fs := [2, 1, 0]) (by decide +kernel) X hag hLk (Nat.le_refl _) (hnew 12 (by decide)) (am_noup rfl) (am_i0_hs (by decide +kernel)) ⟨rfl, rfl⟩ ⟨fun e => absurd e (by decide), fun e => absurd e (by decide)⟩ (fun G9 hag hLk hlv9 had X => ?_)
  exact lt_X6_init_12 X hr hag hLk (fun x => by rw [hlv9]; simp only [List.contains_cons, List.contains_nil, Bool.or_false, Bool.or_assoc]) had _ h

def ft_X5_init_13 (σ : am_S) : Option am_S :=
  some (σ)
set_option maxRecDepth 100000 in
theorem lt_X5_init_13 {p : Program} {l : Launch} {e : Env} {s : State} {m : MethodId} {args : Array Value} {below : List Frame} {meth : Method} {c : Code} {G G0 : am_G} {a : Nat} {q : am_S} (X : am_X p s m args c cX5_init yX5_init.cls 1 am_p5 G (am_Fc G0 a s.heap.size)) (hr : meth.sig.returnType = none ∧ meth.locks = false) (hag : am_ag G0 G) (hLk : am_Lk G0 G s.heap.size a) (hlv : ∀ x, G.2.2.2 x = (G0.2.2.2 x || ([13] : List Nat).contains x)) (had : am_ad G 13 22 0 = a) (σ : am_S) (h : ft_X5_init_13 σ = some q) : am_A p l e (am_rc 1 11 1085) s m args below meth c 1 G (am_Fc G0 a s.heap.size) 11 1085 (MQ below (am_Qk G0 s.heap.size a 13 22 [13] q) args s 11 1085 (am_Fc G0 a s.heap.size)) (50, [(0, am_r 13 22 0)], [], σ) := by
  have hc := ct_X5_init
  unfold ft_X5_init_13 at h
  obtain rfl := Option.some.inj h
  exact am_vretK hc X hag hLk hlv had hr rfl 23 rfl rfl
def fn_X5_init_13 (σ : am_S) : Option am_S :=
  ft_X5_init_13 (am_i0 13 22 [0, 0, 0, 0, 0] σ)
set_option maxRecDepth 100000 in
theorem ok_X5_init_13 (l : Launch) (σ : am_S) {q : am_S} (h : fn_X5_init_13 σ = some q) : am_K l yX5_init cX5_init 1 1 11 1085 13 22 [13] σ q := by
  unfold fn_X5_init_13 at h
  refine am_K_of (P := am_p5) (tb := tb_X5_init) (idx := 3) [0, 0, 0, 0, 0] (by decide +kernel) am_p5_ok rfl rfl oi_X5_3 ct_X5_init rfl rfl rfl (by decide) (by decide) ?_
  intro G p e s m args below meth c a X hr hin hnew
  have hc := ct_X5_init
  have hag : am_ag G G := am_ag.rf
  have hLk : am_Lk G G s.heap.size a := fun _ _ _ h => Or.inl h
  have hA : am_Fc G a s.heap.size a := Or.inr (Or.inl rfl)
  refine am_Barr hc (mc := 11) (ms := 1085) X hin hA rfl 2 (f := 0) (kk := 23) (N := 896) (v := 896) false rfl rfl rfl rfl rfl rfl (by decide +kernel) ⟨by decide, by decide, rfl⟩ ⟨rfl, rfl⟩ ⟨rfl, rfl⟩ (by decide +kernel) (fun _ _ => ⟨rfl, rfl⟩) rfl (pc2 := 13) (n2 := 1) (kc2 := 1) (ks2 := 896) rfl rfl rfl rfl ?_
  refine am_Barr hc (mc := 11) (ms := 1085) X hin hA rfl 6 (f := 1) (kk := 24) (N := 7) (v := 7) false rfl rfl rfl rfl rfl rfl (by decide +kernel) ⟨by decide, by decide, rfl⟩ ⟨rfl, rfl⟩ ⟨rfl, rfl⟩ (by decide +kernel) (fun _ _ => ⟨rfl, rfl⟩) rfl (pc2 := 21) (n2 := 2) (kc2 := 2) (ks2 := 903) rfl rfl rfl rfl ?_
  refine am_Bmul hc (mc := 11) (ms := 1085) X hin hA rfl 10 (f := 2) (kk := 25) (N := 6) (K := 7) (t := 0) (v1 := 6) (v2 := 7) rfl rfl rfl rfl rfl rfl rfl rfl (by decide +kernel) rfl aw_80 aw_162 ⟨by decide, by decide, rfl⟩ ⟨by decide, by decide, rfl⟩ ⟨rfl, by decide +kernel⟩ ⟨rfl, rfl, rfl⟩ (by decide +kernel) (fun _ _ => ⟨rfl, rfl⟩) rfl (pc2 := 33) (n2 := 9) (kc2 := 9) (ks2 := 951) rfl rfl rfl rfl ?_
  refine am_Barr hc (mc := 11) (ms := 1085) X hin hA rfl 15 (f := 3) (kk := 27) (N := 128) (v := 128) false rfl rfl rfl rfl rfl rfl (by decide +kernel) ⟨by decide, by decide, rfl⟩ ⟨rfl, rfl⟩ ⟨rfl, rfl⟩ (by decide +kernel) (fun _ _ => ⟨rfl, rfl⟩) rfl (pc2 := 42) (n2 := 10) (kc2 := 10) (ks2 := 1079) rfl rfl rfl rfl ?_
  refine am_Barr hc (mc := 11) (ms := 1085) X hin hA rfl 19 (f := 4) (kk := 28) (N := 6) (v := 6) false rfl rfl rfl rfl rfl rfl (by decide +kernel) ⟨by decide, by decide, rfl⟩ ⟨rfl, rfl⟩ ⟨rfl, rfl⟩ (by decide +kernel) (fun _ _ => ⟨rfl, rfl⟩) rfl (pc2 := 50) (n2 := 11) (kc2 := 11) (ks2 := 1085) rfl rfl rfl rfl ?_
  refine am_Bdone (fs := [4, 3, 2, 1, 0]) (by decide +kernel) X hag hLk (Nat.le_refl _) (hnew 13 (by decide)) (am_noup rfl) (am_i0_hs (by decide +kernel)) ⟨rfl, rfl⟩ ⟨fun e => absurd e (by decide), fun e => absurd e (by decide)⟩ (fun G9 hag hLk hlv9 had X => ?_)
  exact lt_X5_init_13 X hr hag hLk (fun x => by rw [hlv9]; simp only [List.contains_cons, List.contains_nil, Bool.or_false, Bool.or_assoc]) had _ h

def ft_X3_init_14 (σ : am_S) : Option am_S :=
  some (σ)
set_option maxRecDepth 100000 in
theorem lt_X3_init_14 {p : Program} {l : Launch} {e : Env} {s : State} {m : MethodId} {args : Array Value} {below : List Frame} {meth : Method} {c : Code} {G G0 : am_G} {a : Nat} {q : am_S} (X : am_X p s m args c cX3_init yX3_init.cls 1 am_p3 G (am_Fc G0 a s.heap.size)) (hr : meth.sig.returnType = none ∧ meth.locks = false) (hag : am_ag G0 G) (hLk : am_Lk G0 G s.heap.size a) (hlv : ∀ x, G.2.2.2 x = (G0.2.2.2 x || ([14] : List Nat).contains x)) (had : am_ad G 14 29 0 = a) (σ : am_S) (h : ft_X3_init_14 σ = some q) : am_A p l e (am_rc 1 42 328) s m args below meth c 1 G (am_Fc G0 a s.heap.size) 42 328 (MQ below (am_Qk G0 s.heap.size a 14 29 [14] q) args s 42 328 (am_Fc G0 a s.heap.size)) (16, [(0, am_r 14 29 0)], [], σ) := by
  have hc := ct_X3_init
  unfold ft_X3_init_14 at h
  obtain rfl := Option.some.inj h
  exact am_vretK hc X hag hLk hlv had hr rfl 7 rfl rfl
def fn_X3_init_14 (σ : am_S) : Option am_S :=
  ft_X3_init_14 (am_i0 14 29 [0] σ)
set_option maxRecDepth 100000 in
theorem ok_X3_init_14 (l : Launch) (σ : am_S) {q : am_S} (h : fn_X3_init_14 σ = some q) : am_K l yX3_init cX3_init 1 1 42 328 14 29 [14] σ q := by
  unfold fn_X3_init_14 at h
  refine am_K_of (P := am_p3) (tb := tb_X3_init) (idx := 3) [0] (by decide +kernel) am_p3_ok rfl rfl oi_X3_3 ct_X3_init rfl rfl rfl (by decide) (by decide) ?_
  intro G p e s m args below meth c a X hr hin hnew
  have hc := ct_X3_init
  have hag : am_ag G G := am_ag.rf
  have hLk : am_Lk G G s.heap.size a := fun _ _ _ h => Or.inl h
  have hA : am_Fc G a s.heap.size a := Or.inr (Or.inl rfl)
  refine am_Bmul hc (mc := 42) (ms := 328) X hin hA rfl 2 (f := 0) (kk := 30) (N := 41) (K := 7) (t := 0) (v1 := 41) (v2 := 7) rfl rfl rfl rfl rfl rfl rfl rfl (by decide +kernel) rfl aw_80 aw_187 ⟨by decide, by decide, rfl⟩ ⟨by decide, by decide, rfl⟩ ⟨rfl, by decide +kernel⟩ ⟨rfl, rfl, rfl⟩ (by decide +kernel) (fun _ _ => ⟨rfl, rfl⟩) rfl (pc2 := 16) (n2 := 42) (kc2 := 42) (ks2 := 328) rfl rfl rfl rfl ?_
  refine am_Bdone (fs := [0]) (by decide +kernel) X hag hLk (Nat.le_refl _) (hnew 14 (by decide)) (am_noup rfl) (am_i0_hs (by decide +kernel)) ⟨rfl, rfl⟩ ⟨fun e => absurd e (by decide), fun e => absurd e (by decide)⟩ (fun G9 hag hLk hlv9 had X => ?_)
  exact lt_X3_init_14 X hr hag hLk (fun x => by rw [hlv9]; simp only [List.contains_cons, List.contains_nil, Bool.or_false, Bool.or_assoc]) had _ h

def ft_X1_init_15 (σ : am_S) : Option am_S :=
  some (σ)
set_option maxRecDepth 100000 in
theorem lt_X1_init_15 {p : Program} {l : Launch} {e : Env} {s : State} {m : MethodId} {args : Array Value} {below : List Frame} {meth : Method} {c : Code} {G G0 : am_G} {a : Nat} {q : am_S} (X : am_X p s m args c cX1_init yX1_init.cls 1 am_p1 G (am_Fc G0 a s.heap.size)) (hr : meth.sig.returnType = none ∧ meth.locks = false) (hag : am_ag G0 G) (hLk : am_Lk G0 G s.heap.size a) (hlv : ∀ x, G.2.2.2 x = (G0.2.2.2 x || ([15] : List Nat).contains x)) (had : am_ad G 15 32 0 = a) (σ : am_S) (h : ft_X1_init_15 σ = some q) : am_A p l e (am_rc 1 1 8) s m args below meth c 1 G (am_Fc G0 a s.heap.size) 1 8 (MQ below (am_Qk G0 s.heap.size a 15 32 [15] q) args s 1 8 (am_Fc G0 a s.heap.size)) (17, [(0, am_r 15 32 0)], [], σ) := by
  have hc := ct_X1_init
  unfold ft_X1_init_15 at h
  obtain rfl := Option.some.inj h
  exact am_vretK hc X hag hLk hlv had hr rfl 9 rfl rfl
def fn_X1_init_15 (σ : am_S) : Option am_S :=
  ft_X1_init_15 (am_i0 15 32 [0, (-1)] σ)
set_option maxRecDepth 100000 in
theorem ok_X1_init_15 (l : Launch) (σ : am_S) {q : am_S} (h : fn_X1_init_15 σ = some q) : am_K l yX1_init cX1_init 1 1 1 8 15 32 [15] σ q := by
  unfold fn_X1_init_15 at h
  refine am_K_of (P := am_p1) (tb := tb_X1_init) (idx := 3) [0, (-1)] (by decide +kernel) am_p1_ok rfl rfl oi_X1_3 ct_X1_init rfl rfl rfl (by decide) (by decide) ?_
  intro G p e s m args below meth c a X hr hin hnew
  have hc := ct_X1_init
  have hag : am_ag G G := am_ag.rf
  have hLk : am_Lk G G s.heap.size a := fun _ _ _ h => Or.inl h
  have hA : am_Fc G a s.heap.size a := Or.inr (Or.inl rfl)
  refine am_Barr hc (mc := 1) (ms := 8) X hin hA rfl 2 (f := 0) (kk := 33) (N := 8) (v := 8) false rfl rfl rfl rfl rfl rfl (by decide +kernel) ⟨by decide, by decide, rfl⟩ ⟨rfl, rfl⟩ ⟨rfl, rfl⟩ (by decide +kernel) (fun _ _ => ⟨rfl, rfl⟩) rfl (pc2 := 12) (n2 := 1) (kc2 := 1) (ks2 := 8) rfl rfl rfl rfl ?_
  refine am_Bint hc X hin hA rfl 6 (v := (-1)) (f := 1) rfl rfl rfl rfl rfl (by decide +kernel) (Or.inl ⟨rfl, rfl⟩) (am_i0_ini _) (pc2 := 17) rfl ?_
  refine am_Bdone (fs := [1, 0]) (by decide +kernel) X hag hLk (Nat.le_refl _) (hnew 15 (by decide)) (am_noup rfl) (am_i0_hs (by decide +kernel)) ⟨rfl, rfl⟩ ⟨fun e => absurd e (by decide), fun e => absurd e (by decide)⟩ (fun G9 hag hLk hlv9 had X => ?_)
  exact lt_X1_init_15 X hr hag hLk (fun x => by rw [hlv9]; simp only [List.contains_cons, List.contains_nil, Bool.or_false, Bool.or_assoc]) had _ h

def ft_X7_init_0 (σ : am_S) : Option am_S :=
  some (σ)
set_option maxRecDepth 100000 in
theorem lt_X7_init_0 {p : Program} {l : Launch} {e : Env} {s : State} {m : MethodId} {args : Array Value} {below : List Frame} {meth : Method} {c : Code} {G G0 : am_G} {a : Nat} {q : am_S} (X : am_X p s m args c cX7_init yX7_init.cls 1 am_p7 G (am_Fc G0 a s.heap.size)) (hr : meth.sig.returnType = none ∧ meth.locks = false) (hag : am_ag G0 G) (hLk : am_Lk G0 G s.heap.size a) (hlv : ∀ x, G.2.2.2 x = (G0.2.2.2 x || ([1, 2, 10, 3, 11, 12, 13, 14, 15, 0] : List Nat).contains x)) (had : am_ad G 0 0 0 = a) (σ : am_S) (h : ft_X7_init_0 σ = some q) : am_A p l e (am_rc 3 132 2418) s m args below meth c 1 G (am_Fc G0 a s.heap.size) 132 2418 (MQ below (am_Qk G0 s.heap.size a 0 0 [1, 2, 10, 3, 11, 12, 13, 14, 15, 0] q) args s 132 2418 (am_Fc G0 a s.heap.size)) (104, [(0, am_r 0 0 0)], [], σ) := by
  have hc := ct_X7_init
  unfold ft_X7_init_0 at h
  obtain rfl := Option.some.inj h
  exact am_vretK hc X hag hLk hlv had hr rfl 49 rfl rfl
def fn_X7_init_0 (σ : am_S) : Option am_S :=
  (fn_X0_init_1 (am_i0 0 0 [0, 0, 0, 0, 0, 0, 0, 0, 0, 0] σ)).bind fun q1 => (fn_X0_init_2 (am_i0 0 0 [0, 0, 0, 0, 0, 0, 0, 0, 0, 0] q1)).bind fun q2 => (fn_X2_init_10 (am_i0 0 0 [0, 0, 0, 0, 0, 0, 0, 0, 0, 0] q2)).bind fun q3 => (fn_X4_init_11 (am_i0 0 0 [0, 0, 0, 0, 0, 0, 0, 0, 0, 0] q3)).bind fun q4 => (fn_X6_init_12 (am_i0 0 0 [0, 0, 0, 0, 0, 0, 0, 0, 0, 0] q4)).bind fun q5 => (fn_X5_init_13 (am_i0 0 0 [0, 0, 0, 0, 0, 0, 0, 0, 0, 0] q5)).bind fun q6 => (fn_X3_init_14 (am_i0 0 0 [0, 0, 0, 0, 0, 0, 0, 0, 0, 0] q6)).bind fun q7 => (fn_X1_init_15 (am_i0 0 0 [0, 0, 0, 0, 0, 0, 0, 0, 0, 0] q7)).bind fun q8 => ft_X7_init_0 (am_i0 0 0 [0, 0, 0, 0, 0, 0, 0, 0, 0, 0] q8)
set_option maxRecDepth 100000 in
theorem ok_X7_init_0 (l : Launch) (σ : am_S) {q : am_S} (h : fn_X7_init_0 σ = some q) : am_K l yX7_init cX7_init 1 3 132 2418 0 0 [1, 2, 10, 3, 11, 12, 13, 14, 15, 0] σ q := by
  unfold fn_X7_init_0 at h
  refine am_K_of (P := am_p7) (tb := tb_X7_init) (idx := 3) [0, 0, 0, 0, 0, 0, 0, 0, 0, 0] (by decide +kernel) am_p7_ok rfl rfl oi_X7_3 ct_X7_init rfl rfl rfl (by decide) (by decide) ?_
  intro G p e s m args below meth c a X hr hin hnew
  have hc := ct_X7_init
  have hag : am_ag G G := am_ag.rf
  have hLk : am_Lk G G s.heap.size a := fun _ _ _ h => Or.inl h
  have hA : am_Fc G a s.heap.size a := Or.inr (Or.inl rfl)
  obtain ⟨q1, hq1, h⟩ := am_bs h
  refine am_Bnest hc (mc := 132) (ms := 2418) X hag hLk hin rfl 2 (f := 0) (x := 1) (y := 2) (N := 8) (C := RX0) (yy := yX0_init) rfl rfl rfl rfl rfl rfl (by decide +kernel) ⟨rfl, by decide +kernel⟩ ⟨by decide, rfl, rfl, rfl⟩ aw_26 aw_27 yi_X0_init ⟨rfl, rfl⟩ (Or.inl ml_X7_11) (ok_X0_init_1 l (am_i0 0 0 [0, 0, 0, 0, 0, 0, 0, 0, 0, 0] σ) hq1) (fun z hz => by simp only [List.mem_cons, List.not_mem_nil, or_false] at hz; rcases hz with rfl <;> exact hnew _ (by decide)) rfl (pc2 := 15) (kc2 := 16) (ks2 := 101) rfl rfl rfl rfl [0, 0, 0, 0, 0, 0, 0, 0, 0, 0] (hnew 0 (by decide)) rfl (by decide) (fun _ h => absurd h List.not_mem_nil) (by decide) (fun g => am_i0_ini g) (fun G1 b1 hag hLk hlv1 X hb => ?_)
  obtain ⟨q2, hq2, h⟩ := am_bs h
  refine am_Bnest hc (mc := 132) (ms := 2418) X hag hLk hin rfl 7 (f := 1) (x := 2) (y := 2) (N := 8) (C := RX0) (yy := yX0_init) rfl rfl rfl rfl rfl rfl (by decide +kernel) ⟨rfl, by decide +kernel⟩ ⟨by decide, rfl, rfl, rfl⟩ aw_26 aw_27 yi_X0_init ⟨rfl, rfl⟩ (Or.inl ml_X7_11) (ok_X0_init_2 l (am_i0 0 0 [0, 0, 0, 0, 0, 0, 0, 0, 0, 0] q1) hq2) (fun z hz => by simp only [List.mem_cons, List.not_mem_nil, or_false] at hz; rcases hz with rfl <;> (rw [hlv1, hnew _ (by decide)]; rfl)) rfl (pc2 := 26) (kc2 := 32) (ks2 := 202) rfl rfl rfl rfl [0, 0, 0, 0, 0, 0, 0, 0, 0, 0] (by rw [hlv1, hnew 0 (by decide)]; rfl) rfl (by decide) (List.forall_mem_cons.mpr ⟨Or.inr (Or.inr ⟨rfl, (by show G1.2.2.2 1 = true; rw [hlv1]; simp), by decide⟩), fun _ h => absurd h List.not_mem_nil⟩) (by decide) (fun g => am_i0_ini g) (fun G2 b2 hag hLk hlv2 X hb => ?_)
  refine am_Bint hc X hin hA rfl 12 (v := 0) (f := 2) rfl rfl rfl rfl rfl (by decide +kernel) (Or.inr ⟨rfl, rfl, rfl⟩) (am_i0_ini _) (pc2 := 31) rfl ?_
  obtain ⟨q3, hq3, h⟩ := am_bs h
  refine am_Bnest hc (mc := 132) (ms := 2418) X hag hLk hin rfl 15 (f := 3) (x := 10) (y := 9) (N := 3) (C := RX2) (yy := yX2_init) rfl rfl rfl rfl rfl rfl (by decide +kernel) ⟨rfl, by decide +kernel⟩ ⟨by decide, rfl, rfl, rfl⟩ aw_81 aw_82 yi_X2_init ⟨rfl, rfl⟩ (Or.inl ml_X7_25) (ok_X2_init_10 l (am_i0 0 0 [0, 0, 0, 0, 0, 0, 0, 0, 0, 0] q2) hq3) (fun z hz => by simp only [List.mem_cons, List.not_mem_nil, or_false] at hz; rcases hz with rfl <;> (rw [hlv2, hlv1, hnew _ (by decide)]; rfl)) rfl (pc2 := 42) (kc2 := 44) (ks2 := 549) rfl rfl rfl rfl [0, 0, 0, 0, 0, 0, 0, 0, 0, 0] (by rw [hlv2, hlv1, hnew 0 (by decide)]; rfl) rfl (by decide) (List.forall_mem_cons.mpr ⟨Or.inr (Or.inl rfl), List.forall_mem_cons.mpr ⟨Or.inr (Or.inr ⟨rfl, (by show G2.2.2.2 2 = true; rw [hlv2, hlv1]; simp), by decide⟩), List.forall_mem_cons.mpr ⟨Or.inr (Or.inr ⟨rfl, (by show G2.2.2.2 1 = true; rw [hlv2, hlv1]; simp), by decide⟩), fun _ h => absurd h List.not_mem_nil⟩⟩⟩) (by decide) (fun g => am_i0_ini g) (fun G3 b3 hag hLk hlv3 X hb => ?_)
  obtain ⟨q4, hq4, h⟩ := am_bs h
  refine am_Bnest hc (mc := 132) (ms := 2418) X hag hLk hin rfl 20 (f := 4) (x := 11) (y := 14) (N := 7) (C := RX4) (yy := yX4_init) rfl rfl rfl rfl rfl rfl (by decide +kernel) ⟨rfl, by decide +kernel⟩ ⟨by decide, rfl, rfl, rfl⟩ aw_104 aw_105 yi_X4_init ⟨rfl, rfl⟩ (Or.inr mn_X7_32) (ok_X4_init_11 l (am_i0 0 0 [0, 0, 0, 0, 0, 0, 0, 0, 0, 0] q3) hq4) (fun z hz => by simp only [List.mem_cons, List.not_mem_nil, or_false] at hz; rcases hz with rfl | rfl <;> (rw [hlv3, hlv2, hlv1, hnew _ (by decide)]; rfl)) rfl (pc2 := 53) (kc2 := 63) (ks2 := 911) rfl rfl rfl rfl [0, 0, 0, 0, 0, 0, 0, 0, 0, 0] (by rw [hlv3, hlv2, hlv1, hnew 0 (by decide)]; rfl) rfl (by decide) (List.forall_mem_cons.mpr ⟨Or.inr (Or.inr ⟨rfl, (by show G3.2.2.2 10 = true; rw [hlv3, hlv2, hlv1]; simp), by decide⟩), List.forall_mem_cons.mpr ⟨Or.inr (Or.inl rfl), List.forall_mem_cons.mpr ⟨Or.inr (Or.inr ⟨rfl, (by show G3.2.2.2 2 = true; rw [hlv3, hlv2, hlv1]; simp), by decide⟩), List.forall_mem_cons.mpr ⟨Or.inr (Or.inr ⟨rfl, (by show G3.2.2.2 1 = true; rw [hlv3, hlv2, hlv1]; simp), by decide⟩), fun _ h => absurd h List.not_mem_nil⟩⟩⟩⟩) (by decide) (fun g => am_i0_ini g) (fun G4 b4 hag hLk hlv4 X hb => ?_)
  obtain ⟨q5, hq5, h⟩ := am_bs h
  refine am_Bnest hc (mc := 132) (ms := 2418) X hag hLk hin rfl 25 (f := 5) (x := 12) (y := 17) (N := 3) (C := RX6) (yy := yX6_init) rfl rfl rfl rfl rfl rfl (by decide +kernel) ⟨rfl, by decide +kernel⟩ ⟨by decide, rfl, rfl, rfl⟩ aw_136 aw_137 yi_X6_init ⟨rfl, rfl⟩ (Or.inr mn_X7_39) (ok_X6_init_12 l (am_i0 0 0 [0, 0, 0, 0, 0, 0, 0, 0, 0, 0] q4) hq5) (fun z hz => by simp only [List.mem_cons, List.not_mem_nil, or_false] at hz; rcases hz with rfl <;> (rw [hlv4, hlv3, hlv2, hlv1, hnew _ (by decide)]; rfl)) rfl (pc2 := 64) (kc2 := 74) (ks2 := 984) rfl rfl rfl rfl [0, 0, 0, 0, 0, 0, 0, 0, 0, 0] (by rw [hlv4, hlv3, hlv2, hlv1, hnew 0 (by decide)]; rfl) rfl (by decide) (List.forall_mem_cons.mpr ⟨Or.inr (Or.inr ⟨rfl, (by show G4.2.2.2 11 = true; rw [hlv4, hlv3, hlv2, hlv1]; simp), by decide⟩), List.forall_mem_cons.mpr ⟨Or.inr (Or.inr ⟨rfl, (by show G4.2.2.2 10 = true; rw [hlv4, hlv3, hlv2, hlv1]; simp), by decide⟩), List.forall_mem_cons.mpr ⟨Or.inr (Or.inl rfl), List.forall_mem_cons.mpr ⟨Or.inr (Or.inr ⟨rfl, (by show G4.2.2.2 2 = true; rw [hlv4, hlv3, hlv2, hlv1]; simp), by decide⟩), List.forall_mem_cons.mpr ⟨Or.inr (Or.inr ⟨rfl, (by show G4.2.2.2 1 = true; rw [hlv4, hlv3, hlv2, hlv1]; simp), by decide⟩), fun _ h => absurd h List.not_mem_nil⟩⟩⟩⟩⟩) (by decide) (fun g => am_i0_ini g) (fun G5 b5 hag hLk hlv5 X hb => ?_)
  obtain ⟨q6, hq6, h⟩ := am_bs h
  refine am_Bnest hc (mc := 132) (ms := 2418) X hag hLk hin rfl 30 (f := 6) (x := 13) (y := 22) (N := 5) (C := RX5) (yy := yX5_init) rfl rfl rfl rfl rfl rfl (by decide +kernel) ⟨rfl, by decide +kernel⟩ ⟨by decide, rfl, rfl, rfl⟩ aw_156 aw_157 yi_X5_init ⟨rfl, rfl⟩ (Or.inr mn_X7_46) (ok_X5_init_13 l (am_i0 0 0 [0, 0, 0, 0, 0, 0, 0, 0, 0, 0] q5) hq6) (fun z hz => by simp only [List.mem_cons, List.not_mem_nil, or_false] at hz; rcases hz with rfl <;> (rw [hlv5, hlv4, hlv3, hlv2, hlv1, hnew _ (by decide)]; rfl)) rfl (pc2 := 75) (kc2 := 86) (ks2 := 2074) rfl rfl rfl rfl [0, 0, 0, 0, 0, 0, 0, 0, 0, 0] (by rw [hlv5, hlv4, hlv3, hlv2, hlv1, hnew 0 (by decide)]; rfl) rfl (by decide) (List.forall_mem_cons.mpr ⟨Or.inr (Or.inr ⟨rfl, (by show G5.2.2.2 12 = true; rw [hlv5, hlv4, hlv3, hlv2, hlv1]; simp), by decide⟩), List.forall_mem_cons.mpr ⟨Or.inr (Or.inr ⟨rfl, (by show G5.2.2.2 11 = true; rw [hlv5, hlv4, hlv3, hlv2, hlv1]; simp), by decide⟩), List.forall_mem_cons.mpr ⟨Or.inr (Or.inr ⟨rfl, (by show G5.2.2.2 10 = true; rw [hlv5, hlv4, hlv3, hlv2, hlv1]; simp), by decide⟩), List.forall_mem_cons.mpr ⟨Or.inr (Or.inl rfl), List.forall_mem_cons.mpr ⟨Or.inr (Or.inr ⟨rfl, (by show G5.2.2.2 2 = true; rw [hlv5, hlv4, hlv3, hlv2, hlv1]; simp), by decide⟩), List.forall_mem_cons.mpr ⟨Or.inr (Or.inr ⟨rfl, (by show G5.2.2.2 1 = true; rw [hlv5, hlv4, hlv3, hlv2, hlv1]; simp), by decide⟩), fun _ h => absurd h List.not_mem_nil⟩⟩⟩⟩⟩⟩) (by decide) (fun g => am_i0_ini g) (fun G6 b6 hag hLk hlv6 X hb => ?_)
  obtain ⟨q7, hq7, h⟩ := am_bs h
  refine am_Bnest hc (mc := 132) (ms := 2418) X hag hLk hin rfl 35 (f := 7) (x := 14) (y := 29) (N := 1) (C := RX3) (yy := yX3_init) rfl rfl rfl rfl rfl rfl (by decide +kernel) ⟨rfl, by decide +kernel⟩ ⟨by decide, rfl, rfl, rfl⟩ aw_181 aw_182 yi_X3_init ⟨rfl, rfl⟩ (Or.inr mn_X7_53) (ok_X3_init_14 l (am_i0 0 0 [0, 0, 0, 0, 0, 0, 0, 0, 0, 0] q6) hq7) (fun z hz => by simp only [List.mem_cons, List.not_mem_nil, or_false] at hz; rcases hz with rfl <;> (rw [hlv6, hlv5, hlv4, hlv3, hlv2, hlv1, hnew _ (by decide)]; rfl)) rfl (pc2 := 86) (kc2 := 129) (ks2 := 2403) rfl rfl rfl rfl [0, 0, 0, 0, 0, 0, 0, 0, 0, 0] (by rw [hlv6, hlv5, hlv4, hlv3, hlv2, hlv1, hnew 0 (by decide)]; rfl) rfl (by decide) (List.forall_mem_cons.mpr ⟨Or.inr (Or.inr ⟨rfl, (by show G6.2.2.2 13 = true; rw [hlv6, hlv5, hlv4, hlv3, hlv2, hlv1]; simp), by decide⟩), List.forall_mem_cons.mpr ⟨Or.inr (Or.inr ⟨rfl, (by show G6.2.2.2 12 = true; rw [hlv6, hlv5, hlv4, hlv3, hlv2, hlv1]; simp), by decide⟩), List.forall_mem_cons.mpr ⟨Or.inr (Or.inr ⟨rfl, (by show G6.2.2.2 11 = true; rw [hlv6, hlv5, hlv4, hlv3, hlv2, hlv1]; simp), by decide⟩), List.forall_mem_cons.mpr ⟨Or.inr (Or.inr ⟨rfl, (by show G6.2.2.2 10 = true; rw [hlv6, hlv5, hlv4, hlv3, hlv2, hlv1]; simp), by decide⟩), List.forall_mem_cons.mpr ⟨Or.inr (Or.inl rfl), List.forall_mem_cons.mpr ⟨Or.inr (Or.inr ⟨rfl, (by show G6.2.2.2 2 = true; rw [hlv6, hlv5, hlv4, hlv3, hlv2, hlv1]; simp), by decide⟩), List.forall_mem_cons.mpr ⟨Or.inr (Or.inr ⟨rfl, (by show G6.2.2.2 1 = true; rw [hlv6, hlv5, hlv4, hlv3, hlv2, hlv1]; simp), by decide⟩), fun _ h => absurd h List.not_mem_nil⟩⟩⟩⟩⟩⟩⟩) (by decide) (fun g => am_i0_ini g) (fun G7 b7 hag hLk hlv7 X hb => ?_)
  obtain ⟨q8, hq8, h⟩ := am_bs h
  refine am_Bnest hc (mc := 132) (ms := 2418) X hag hLk hin rfl 40 (f := 8) (x := 15) (y := 32) (N := 2) (C := RX1) (yy := yX1_init) rfl rfl rfl rfl rfl rfl (by decide +kernel) ⟨rfl, by decide +kernel⟩ ⟨by decide, rfl, rfl, rfl⟩ aw_192 aw_193 yi_X1_init ⟨rfl, rfl⟩ (Or.inr mn_X7_60) (ok_X1_init_15 l (am_i0 0 0 [0, 0, 0, 0, 0, 0, 0, 0, 0, 0] q7) hq8) (fun z hz => by simp only [List.mem_cons, List.not_mem_nil, or_false] at hz; rcases hz with rfl <;> (rw [hlv7, hlv6, hlv5, hlv4, hlv3, hlv2, hlv1, hnew _ (by decide)]; rfl)) rfl (pc2 := 97) (kc2 := 131) (ks2 := 2413) rfl rfl rfl rfl [0, 0, 0, 0, 0, 0, 0, 0, 0, 0] (by rw [hlv7, hlv6, hlv5, hlv4, hlv3, hlv2, hlv1, hnew 0 (by decide)]; rfl) rfl (by decide) (List.forall_mem_cons.mpr ⟨Or.inr (Or.inr ⟨rfl, (by show G7.2.2.2 14 = true; rw [hlv7, hlv6, hlv5, hlv4, hlv3, hlv2, hlv1]; simp), by decide⟩), List.forall_mem_cons.mpr ⟨Or.inr (Or.inr ⟨rfl, (by show G7.2.2.2 13 = true; rw [hlv7, hlv6, hlv5, hlv4, hlv3, hlv2, hlv1]; simp), by decide⟩), List.forall_mem_cons.mpr ⟨Or.inr (Or.inr ⟨rfl, (by show G7.2.2.2 12 = true; rw [hlv7, hlv6, hlv5, hlv4, hlv3, hlv2, hlv1]; simp), by decide⟩), List.forall_mem_cons.mpr ⟨Or.inr (Or.inr ⟨rfl, (by show G7.2.2.2 11 = true; rw [hlv7, hlv6, hlv5, hlv4, hlv3, hlv2, hlv1]; simp), by decide⟩), List.forall_mem_cons.mpr ⟨Or.inr (Or.inr ⟨rfl, (by show G7.2.2.2 10 = true; rw [hlv7, hlv6, hlv5, hlv4, hlv3, hlv2, hlv1]; simp), by decide⟩), List.forall_mem_cons.mpr ⟨Or.inr (Or.inl rfl), List.forall_mem_cons.mpr ⟨Or.inr (Or.inr ⟨rfl, (by show G7.2.2.2 2 = true; rw [hlv7, hlv6, hlv5, hlv4, hlv3, hlv2, hlv1]; simp), by decide⟩), List.forall_mem_cons.mpr ⟨Or.inr (Or.inr ⟨rfl, (by show G7.2.2.2 1 = true; rw [hlv7, hlv6, hlv5, hlv4, hlv3, hlv2, hlv1]; simp), by decide⟩), fun _ h => absurd h List.not_mem_nil⟩⟩⟩⟩⟩⟩⟩⟩) (by decide) (fun g => am_i0_ini g) (fun G8 b8 hag hLk hlv8 X hb => ?_)
  refine am_Barr hc (mc := 132) (ms := 2418) X hin hA rfl 45 (f := 9) (kk := 1) (N := 5) (v := 5) false rfl rfl rfl rfl rfl rfl (by decide +kernel) ⟨by decide, by decide, rfl⟩ ⟨rfl, rfl⟩ ⟨rfl, rfl⟩ (by decide +kernel) (fun _ _ => ⟨rfl, rfl⟩) rfl (pc2 := 104) (n2 := 1) (kc2 := 132) (ks2 := 2418) rfl rfl rfl rfl ?_
  refine am_Bdone (fs := [9, 8, 7, 6, 5, 4, 3, 2, 1, 0]) (by decide +kernel) X hag hLk hb (by rw [hlv8, hlv7, hlv6, hlv5, hlv4, hlv3, hlv2, hlv1, hnew 0 (by decide)]; rfl) (fun q hq e => by simp only [am_ups, List.mem_cons, List.not_mem_nil, or_false] at hq; rcases hq with rfl | rfl | rfl | rfl | rfl | rfl | rfl | rfl | rfl <;> first | exact absurd e (by decide) | (show G8.2.2.2 _ = true; rw [hlv8, hlv7, hlv6, hlv5, hlv4, hlv3, hlv2, hlv1]; simp)) (am_i0_hs (by decide +kernel)) ⟨rfl, rfl⟩ ⟨fun e => absurd e (by decide), fun e => absurd e (by decide)⟩ (fun G9 hag hLk hlv9 had X => ?_)
  exact lt_X7_init_0 X hr hag hLk (fun x => by rw [hlv9, hlv8, hlv7, hlv6, hlv5, hlv4, hlv3, hlv2, hlv1]; simp only [List.contains_cons, List.contains_nil, Bool.or_false, Bool.or_assoc]) had _ h
