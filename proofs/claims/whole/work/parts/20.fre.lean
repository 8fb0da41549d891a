/-! ===== the reference's own copies: kept and tried ===== -/
def fn_X8_mk7 (σ : am_S) : Option am_S := if σ.1 5 40 0 27 = 0 then (if σ.1 99 40 0 27 = 0 then (fn_X8_init_7 (am_u σ 99 40 0 27 1)).bind fun q => some (am_u q 5 40 0 27 1) else none) else some σ
def fn_X8_mk6 (σ : am_S) : Option am_S := if σ.1 5 40 0 26 = 0 then (if σ.1 99 40 0 26 = 0 then (fn_X8_init_6 (am_u σ 99 40 0 26 1)).bind fun q => some (am_u q 5 40 0 26 1) else none) else some σ
def fn_X8_fresh (σ : am_S) : Option am_S := (fn_X8_mk7 σ).bind fun q => (fn_X8_takeFrom 7 5 q).bind fun q2 => if q2.1 5 40 0 27 = 0 then none else some q2
def fn_X8_image (σ : am_S) : Option (Int32 × am_S) := (fn_X8_mk6 σ).bind fun q => (fn_X8_takeFrom 6 5 q).bind fun q2 => some (1, q2)
theorem am_u_at {σ : am_S} {o k i j : Nat} {x : Int32} : (am_u σ o k i j x).1 o k i j = x := if_pos ⟨rfl, rfl, rfl, rfl⟩
theorem am_gh1 {σ : am_S} {f : Nat} : (am_u σ 99 40 0 f 1).1 99 40 0 f ≠ 0 := by rw [am_u_at]; decide
section AMFR
variable {p : Program} {l : Launch} {e : Env} {s : State} {m : MethodId} {args : Array Value} {below : List Frame} {meth : Method} {c : Code} {G G0 : am_G} {kc ks : Nat}
theorem lt_fresh {q : am_S} (X : am_X p s m args c cX8_fresh yX8_fresh.cls 1 am_p8 G (am_Fa G0 s.heap.size)) (hag : am_ag G0 G) (hr : meth.sig.returnType = some (.object "SundayIsAPlaceModel") ∧ meth.locks = false) (hkm : (Nat.ble kc 137 && Nat.ble ks 1587) = true) (q1 : am_S) (hf : ¬ q1.1 5 40 0 27 = 0) (h : ((fn_X8_takeFrom 7 5 q1).bind fun q2 => if q2.1 5 40 0 27 = 0 then none else some q2) = some q) :
    am_A p l e (am_rc 3 137 1587) s m args below meth c 1 G (am_Fa G0 s.heap.size) kc ks (MQ below (am_Qa G0 s.heap.size (some (am_r 7 40 0)) q) args s 137 1587 (am_Fa G0 s.heap.size)) (18, [(0, am_r 5 40 0)], [], q1) := by
  have hc := ct_X8_fresh
  refine am_blk hc X 8 1 (fr' := (19, [(0, am_r 5 40 0)], [am_r 5 40 0], q1)) rfl ⟨trivial, trivial⟩ ?_
  refine am_getd hc X 9 (x := 7) (f := 27) rfl rfl (by decide +kernel) (Or.inr ⟨rfl, rfl⟩) (by decide +kernel) (fun z => absurd z hf) (fun _ => ?_)
  refine am_blk hc X 10 1 (fr' := (23, [(0, am_r 5 40 0)], [am_r 5 40 0, am_r 7 40 0], q1)) rfl ⟨trivial, trivial⟩ ?_
  obtain ⟨q2, hq2, h⟩ := am_bs h
  refine am_callV hc 11 X (k := 40) (i := 0) (o := 7) (As := [am_r 5 40 0]) (rest := []) rfl (ok_X8_takeFrom l 7 5 q1 hq2) yv_X8_takeFrom ml_X8_271 (cl_40) rfl rfl rfl rfl hkm ?_
  refine am_blk hc X 12 1 (fr' := (27, [(0, am_r 5 40 0)], [am_r 5 40 0], q2)) rfl ⟨trivial, trivial⟩ ?_
  by_cases z : q2.1 5 40 0 27 = 0
  · rw [if_pos z] at h
    cases h
  · rw [if_neg z] at h
    obtain rfl := Option.some.inj h
    refine am_getd hc X 13 (x := 7) (f := 27) rfl rfl (by decide +kernel) (Or.inr ⟨rfl, rfl⟩) (by decide +kernel) (fun y => absurd y z) (fun _ => ?_)
    exact am_aretA hc X hag hr hkm 14 rfl rfl rfl
theorem lt_image {q : Int32 × am_S} (X : am_X p s m args c cX8_image yX8_image.cls 1 am_p8 G (am_Fa G0 s.heap.size)) (hag : am_ag G0 G) (hr : meth.sig.returnType = some .int ∧ meth.locks = false) (hkm : (Nat.ble kc 137 && Nat.ble ks 1587) = true) (q1 : am_S) (hf : ¬ q1.1 5 40 0 26 = 0) (h : ((fn_X8_takeFrom 6 5 q1).bind fun q2 => some ((1 : Int32), q2)) = some q) :
    am_A p l e (am_rc 3 137 1587) s m args below meth c 1 G (am_Fa G0 s.heap.size) kc ks (MQ below (am_Qa G0 s.heap.size (some (am_i q.1)) q.2) args s 137 1587 (am_Fa G0 s.heap.size)) (18, [(0, am_r 5 40 0)], [], q1) := by
  have hc := ct_X8_image
  refine am_blk hc X 8 1 (fr' := (19, [(0, am_r 5 40 0)], [am_r 5 40 0], q1)) rfl ⟨trivial, trivial⟩ ?_
  refine am_getd hc X 9 (x := 6) (f := 26) rfl rfl (by decide +kernel) (Or.inl ⟨rfl, rfl⟩) (by decide +kernel) (fun z => absurd z hf) (fun _ => ?_)
  refine am_blk hc X 10 1 (fr' := (23, [(0, am_r 5 40 0)], [am_r 5 40 0, am_r 6 40 0], q1)) rfl ⟨trivial, trivial⟩ ?_
  obtain ⟨q2, hq2, h⟩ := am_bs h
  refine am_callV hc 11 X (k := 40) (i := 0) (o := 6) (As := [am_r 5 40 0]) (rest := []) rfl (ok_X8_takeFrom l 6 5 q1 hq2) yv_X8_takeFrom ml_X8_271 (cl_40) rfl rfl rfl rfl hkm ?_
  obtain rfl := Option.some.inj h
  refine am_blk hc X 12 1 (fr' := (27, [(0, am_r 5 40 0)], [am_i 1], q2)) rfl ⟨trivial, trivial⟩ ?_
  exact am_iretA hc X hag hr hkm 13 rfl rfl rfl
end AMFR
theorem ok_X8_fresh (l : Launch) (σ : am_S) {q : am_S} (h : fn_X8_fresh σ = some q) : am_N l yX8_fresh cX8_fresh 1 (some (.object "SundayIsAPlaceModel")) 3 137 1587 [am_r 5 40 0] σ (some (am_r 7 40 0)) q := by
  refine am_N_of (P := am_p8) (by decide +kernel) am_p8_ok rfl ?_
  intro G p e s m args below meth c X hr
  have hc := ct_X8_fresh
  unfold fn_X8_fresh fn_X8_mk7 at h
  refine am_blk hc X 0 1 (fr' := (1, [(0, am_r 5 40 0)], [am_r 5 40 0], σ)) rfl ⟨trivial, trivial⟩ ?_
  refine am_getd hc X 1 (x := 7) (f := 27) rfl rfl (by decide +kernel) (Or.inr ⟨rfl, rfl⟩) (by decide +kernel) (fun z => ?_) (fun z => ?_)
  · rw [if_pos z] at h
    refine am_nnN hc X 2 rfl ?_
    by_cases g0 : σ.1 99 40 0 27 = 0
    · rw [if_pos g0] at h
      obtain ⟨q1, hq1, h⟩ := am_bs h
      obtain ⟨q0, hq0, hq1⟩ := am_bs hq1
      obtain rfl := Option.some.inj hq1
      refine am_mk8 hc X (fun q z => Or.inr z) 3 (o := 7) (f := 27) (σ' := q0) rfl rfl rfl rfl rfl rfl rfl (Or.inr ⟨rfl, rfl⟩) g0 (ok_X8_init_7 l _ hq0 am_gh1) rfl ⟨Nat.le_refl _, Nat.le_refl _⟩ (fun G1 hag X1 => ?_)
      exact lt_fresh X1 hag hr rfl _ (by rw [am_u_at]; decide) h
    · rw [if_neg g0] at h
      cases h
  · rw [if_neg z, Option.bind_some] at h
    refine am_nnR hc X 2 (tgt := 18) rfl (by decide) ?_
    exact lt_fresh X am_ag.rf hr rfl σ z h
theorem ok_X8_image (l : Launch) (σ : am_S) {q : Int32 × am_S} (h : fn_X8_image σ = some q) : am_N l yX8_image cX8_image 1 (some .int) 3 137 1587 [am_r 5 40 0] σ (some (am_i q.1)) q.2 := by
  refine am_N_of (P := am_p8) (by decide +kernel) am_p8_ok rfl ?_
  intro G p e s m args below meth c X hr
  have hc := ct_X8_image
  unfold fn_X8_image fn_X8_mk6 at h
  refine am_blk hc X 0 1 (fr' := (1, [(0, am_r 5 40 0)], [am_r 5 40 0], σ)) rfl ⟨trivial, trivial⟩ ?_
  refine am_getd hc X 1 (x := 6) (f := 26) rfl rfl (by decide +kernel) (Or.inl ⟨rfl, rfl⟩) (by decide +kernel) (fun z => ?_) (fun z => ?_)
  · rw [if_pos z] at h
    refine am_nnN hc X 2 rfl ?_
    by_cases g0 : σ.1 99 40 0 26 = 0
    · rw [if_pos g0] at h
      obtain ⟨q1, hq1, h⟩ := am_bs h
      obtain ⟨q0, hq0, hq1⟩ := am_bs hq1
      obtain rfl := Option.some.inj hq1
      refine am_mk8 hc X (fun q z => Or.inr z) 3 (o := 6) (f := 26) (σ' := q0) rfl rfl rfl rfl rfl rfl rfl (Or.inl ⟨rfl, rfl⟩) g0 (ok_X8_init_6 l _ hq0 am_gh1) rfl ⟨Nat.le_refl _, Nat.le_refl _⟩ (fun G1 hag X1 => ?_)
      exact lt_image X1 hag hr rfl _ (by rw [am_u_at]; decide) h
    · rw [if_neg g0] at h
      cases h
  · rw [if_neg z, Option.bind_some] at h
    refine am_nnR hc X 2 (tgt := 18) rfl (by decide) ?_
    exact lt_image X am_ag.rf hr rfl σ z h
