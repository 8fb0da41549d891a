/-! ===== building: fields set, rows made ===== -/
section AMB
variable {p : Program} {l : Launch} {e : Env} {R : Room} {s : State} {m : MethodId} {args : Array Value} {below : List Frame} {meth : Method} {c : Code} {cc : ByteArray} {own : String} {nL : Nat} {P : am_P} {G : am_G} {A : Nat → Prop} {kc ks : Nat} {Q : State → Prop} {H : Heap} {locs : List Loc} {la : Array Slot} {rest : List Value}
/-- a field of an object that is being built -/
theorem am_bput (X : am_X p s m args c cc own nL P G A) (hin : meth.name = "<init>") {idx k f a pc : Nat} (hlk : am_lk P.1 idx = some (k, f)) (hk77 : k < 77) (h0 : (am_kd k).1 = 0) (hf : f < (am_kd k).2.1) (hownk : own = (am_cl k).1) {V : Nat → Value}
    (hO : t_OB a (G.1.1 (am_kd k).2.2.2) (am_kd k).2.1 (G.1.2 (am_kd k).2.2.2) H V) {ty : FieldType} {v : Value} (hty : parseFieldDescriptor ((am_cl k).2.1 f).2.2.1 = some ty) (hnw : narrow ty v = v) (hfit : fits ty v = true) (hd : decode cc pc = .ok (.putfield idx, 3))
    (kk : ∀ (H' : Heap) (j : Nat), t_OB a (G.1.1 (am_kd k).2.2.2) (am_kd k).2.1 (G.1.2 (am_kd k).2.2.2) H' (updV V f v) → H'.size = H.size → (∀ q, q ≠ a → H'[q]? = H[q]?) → W p l e R s m args below meth c H' (locs ++ [⟨a, j⟩]) kc ks Q (F0 m (pc + 3) la rest)) : W p l e R s m args below meth c H locs kc ks Q (F0 m pc la (v :: .ref a :: rest)) := by
  obtain ⟨hx, hb, -, hown, hts, -, hU, -⟩ := id X
  obtain ⟨cell, q1, q2, q3, q4⟩ := hO
  have hcl := am_cl_at hk77 h0
  obtain ⟨hS, hfc, kC, hkC, hkind⟩ := id (hU.1.1 _ _ hcl)
  have hfN : f < (am_cl k).2.2 := by rw [am_cl_n k hk77 h0]; exact hf
  obtain ⟨cf, kf, fi, fd, hi, hsl⟩ := hS f hfN
  have hownf := am_cl_own k hk77 h0 f hf
  have hclt := am_cl_lt k hk77 h0
  have hin' : ∀ w ∈ u_ws (am_cl k).1 (am_cl k).2.1 (am_cl k).2.2, w ∈ am_tb := am_lays _ hclt
  have hap := va_apart (own := own) hts hin' (fun f => (parseFieldDescriptor ((am_cl k).2.1 f).2.2.1).getD .int) (fun j hj => by
    have h9 := am_cl_ty _ hclt j hj
    cases e9 : parseFieldDescriptor ((am_cl k).2.1 j).2.2.1 with
    | none => exact absurd (by unfold am_cl at e9; rw [e9] at h9; exact h9) (by decide)
    | some z => rfl) (am_cl_nm _ hclt) hU.1 hcl
  rw [am_cl_n k hk77 h0] at hap
  have hlay := u_lays hts hin' hfN
  have hst := (u_facts hfc hkC hlay hi).1
  have hlay2 := hts _ (hin' _ (u_in_lay hfN))
  have hlink := am_link X hlk
  have hi2 := hi
  rw [hownf] at hi2
  unfold u_lay at hlay2
  by_cases hfin : ((am_cl k).2.1 f).2.2.2 = true
  · rw [if_pos hfin] at hlay2
    have hcf : m.cls = cf := by
      obtain ⟨_, _, c', _, _, _, -, -, hf', -, -, -, hown2, -⟩ := Cond.laysFinal_spec hlay2
      have e1 : c' = cf := by have := hi.symm.trans hf'; simp at this; exact this.1.symm
      rw [hownf, ← hownk] at hown2
      rw [← e1]; exact Option.some.inj (hown.symm.trans hown2)
    have h6 := u_fits hfc hkC hkind (Or.inr hlay2) hi hty hnw hfit
    refine W.putFinK hx hb hown hlink hi2 hst hcf hin (by rw [q2]; exact h6) q1 q3 (by rw [hsl]; exact k2_hasslot (q4 f hf)) rfl rfl hd fun H' e1 e2 e3 => ?_
    rw [hsl] at e1 ⊢
    exact kk H' _ ⟨_, e1, q2, q3, t_set q4 hap hf v⟩ e2 e3
  · rw [if_neg hfin] at hlay2
    have h6 := u_store hfc hkC hkind hlay2 hi hty hnw hfit
    refine W.putK hx hb (f := fd) (v := v) ⟨hown, hlink, ⟨_, _, _, hi2⟩, hst⟩ (by rw [q2]; exact h6) q1 q3 (by rw [hsl]; exact k2_hasslot (q4 f hf)) rfl rfl hd fun H' e1 e2 e3 => ?_
    rw [hsl] at e1 ⊢
    exact kk H' _ ⟨_, e1, q2, q3, t_set q4 hap hf v⟩ e2 e3
/-- new int[N], new long[N] -/
theorem am_bnewI {d mc ms : Nat} (X : am_X p s m args c cc own nL P G A) {pc N : Nat} {n : Int32} (hw : Cond.arrayClass .int ∈ am_tb) (hn : ¬ n < 0) (hN : n.toNatClampNeg = N) (hb1 : N ≤ 1000) (hkm : kc + 1 ≤ mc ∧ ks + N ≤ ms) (hd : decode cc pc = .ok (.newarray .int, 2))
    (kk : ∀ H' : Heap, H'[H.size]? = some (arrV (G.2.1 0) N (fun _ => .int 0)) → H'.size = H.size + 1 → (∀ q, q < H.size → H'[q]? = H[q]?) → W p l e (am_rc d mc ms) s m args below meth c H' locs (kc + 1) (ks + N) Q (F0 m (pc + 2) la (.ref H.size :: rest))) : W p l e (am_rc d mc ms) s m args below meth c H locs kc ks Q (F0 m pc la (.int n :: rest)) := by
  obtain ⟨hx, hb, -, hown, hts, -, hU, -⟩ := id X
  subst hN
  have hRA : s.vm.findClass ("[" ++ FieldType.int.toString) = some (G.2.1 0) := (hU.1.2 0 _ rfl).2
  refine W.newa (atype := .int) hx hb (hts _ hw) rfl hd rfl hn (by show n.toNatClampNeg * 4 ≤ _; omega) hkm.1 hkm.2 fun cA kA comp h1 h2 h3 => ?_
  have e1 : cA = G.2.1 0 := Option.some.inj (h1.symm.trans hRA)
  subst e1
  refine kk _ ?_ (by simp) (fun q hq => by simp [Array.getElem?_push, Nat.ne_of_lt hq])
  rw [← arrV_new]
  simp
  exact Or.inr rfl
theorem am_bnewL {d mc ms : Nat} (X : am_X p s m args c cc own nL P G A) {pc N : Nat} {n : Int32} (hw : Cond.arrayClass .long ∈ am_tb) (hn : ¬ n < 0) (hN : n.toNatClampNeg = N) (hb1 : N ≤ 1000) (hkm : kc + 1 ≤ mc ∧ ks + N ≤ ms) (hd : decode cc pc = .ok (.newarray .long, 2))
    (kk : ∀ H' : Heap, H'[H.size]? = some (arrV (G.2.1 1) N (fun _ => .long 0)) → H'.size = H.size + 1 → (∀ q, q < H.size → H'[q]? = H[q]?) → W p l e (am_rc d mc ms) s m args below meth c H' locs (kc + 1) (ks + N) Q (F0 m (pc + 2) la (.ref H.size :: rest))) : W p l e (am_rc d mc ms) s m args below meth c H locs kc ks Q (F0 m pc la (.int n :: rest)) := by
  obtain ⟨hx, hb, -, hown, hts, -, hU, -⟩ := id X
  subst hN
  have hRA : s.vm.findClass ("[" ++ FieldType.long.toString) = some (G.2.1 1) := (hU.1.2 1 _ rfl).2
  refine W.newa (atype := .long) hx hb (hts _ hw) rfl hd rfl hn (by show n.toNatClampNeg * 8 ≤ _; omega) hkm.1 hkm.2 fun cA kA comp h1 h2 h3 => ?_
  have e1 : cA = G.2.1 1 := Option.some.inj (h1.symm.trans hRA)
  subst e1
  refine kk _ ?_ (by simp) (fun q hq => by simp [Array.getElem?_push, Nat.ne_of_lt hq])
  rw [← arrV_new]
  simp
  exact Or.inr rfl
end AMB
