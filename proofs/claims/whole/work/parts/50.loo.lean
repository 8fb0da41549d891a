def tb_LH : List (Nat × Instr × Nat) := [(18, .iload_n 3, 1), (19, .aload_n 0, 1), (20, .arraylength, 1), (21, .bipush 6, 2), (23, .isub, 1), (24, .if_icmp .gt 1756, 3), (27, .aload_n 0, 1), (28, .iload_n 3, 1), (29, .iaload, 1), (30, .bipush 63, 2), (32, .iand, 1), (33, .tableswitch 1741 0 46 #[203, 246, 319, 382, 416, 439, 472, 505, 548, 601, 644, 703, 746, 769, 782, 795, 828, 861, 894, 937, 980, 1013, 1056, 1089, 1112, 1125, 1148, 1171, 1204, 1247, 1260, 1283, 1306, 1339, 1362, 1375, 1398, 1451, 1494, 1547, 1590, 1613, 1646, 1669, 1692, 1705, 1718], 203)]
set_option maxRecDepth 100000 in
theorem ct_LH : am_code code tb_LH = true := by decide +kernel
def tb_LT : List (Nat × Instr × Nat) := [(1774, .iinc 3 6, 3), (1777, .goto (-1759), 3), (1780, .iconst 1, 1), (1781, .ireturn, 1)]
set_option maxRecDepth 100000 in
theorem ct_LT : am_code code tb_LT = true := by decide +kernel
def tb_LS : List (Nat × Instr × Nat) := [(0, .new 7, 3), (3, .dup, 1), (4, .invokespecial 9, 3), (7, .astore_n 1, 1), (8, .new 10, 3), (11, .dup, 1), (12, .invokespecial 12, 3), (15, .astore_n 2, 1), (16, .iconst 0, 1), (17, .istore_n 3, 1)]
set_option maxRecDepth 100000 in
theorem ct_LS : am_code code tb_LS = true := by decide +kernel
theorem lw_len {p : Program} {l : Launch} {e : Env} {s : State} {m : MethodId} {below : List Frame} {meth : Method} {c : Code} {b L : Nat} {xs : Nat → Int32} {G : am_G} {kc ks : Nat} {Q : State → Prop} {tb : List (Nat × Instr × Nat)} (hc : am_code code tb = true) (X : am_X p s m #[Value.ref b] c code RL 4 am_pL G (fun q => s.heap.size ≤ q)) (hb18 : am_ad G 18 38 0 = b) (hX : va_X b L xs s s.heap) (hbl : b < s.heap.size) (j : Nat) {pc : Nat} {ls : List (Nat × am_V)} {st : List am_V} {σ : am_S} (t : tb[j]? = some (pc, .arraylength, 1))
    (kk : am_A p l e room_1 s m #[Value.ref b] below meth c 4 G (fun q => s.heap.size ≤ q) kc ks Q (pc + 1, ls, am_i (Int32.ofNat L) :: st, σ)) : am_A p l e room_1 s m #[Value.ref b] below meth c 4 G (fun q => s.heap.size ≤ q) kc ks Q (pc, ls, am_r 18 38 0 :: st, σ) := by
  intro H locs la hW hLo hF h1 h2 hl
  obtain ⟨scr, e1, e2, e3, e4, e5⟩ := hX
  refine W.alen (n := Int32.ofNat L) X.1 X.2.1 (a := am_ad G 18 38 0) (cell := scr) (by rw [hb18, hF.2 b hbl (Nat.not_le.mpr hbl)]; exact e1) e2 (by rw [e4] <;> rfl) rfl rfl (am_dea hc t) ?_
  exact kk H locs la hW hLo hF h1 (am_lcons (v := .inl _) trivial (am_tl h2).2) hl
theorem lw_tail {p : Program} {l : Launch} {e : Env} {s : State} {m : MethodId} {below : List Frame} {meth : Method} {c : Code} {b : Nat} {G : am_G} {kc ks n : Nat} {σ : am_S} (X : am_X p s m #[Value.ref b] c code RL 4 am_pL G (fun q => s.heap.size ≤ q)) (kk : am_A p l e room_1 s m #[Value.ref b] below meth c 4 G (fun q => s.heap.size ≤ q) kc ks (lw_Z below #[Value.ref b] s) (18, [(0, am_r 18 38 0), (1, am_r 0 0 0), (2, am_r 5 40 0), (3, am_i (nI (n + 6)))], [], σ)) : am_A p l e room_1 s m #[Value.ref b] below meth c 4 G (fun q => s.heap.size ≤ q) kc ks (lw_Z below #[Value.ref b] s) (1774, [(0, am_r 18 38 0), (1, am_r 0 0 0), (2, am_r 5 40 0), (3, am_i (nI n))], [], σ) := by
  refine am_blk ct_LT X 0 2 (fr' := (18, [(0, am_r 18 38 0), (1, am_r 0 0 0), (2, am_r 5 40 0), (3, am_i (nI n + 6))], [], σ)) rfl ⟨trivial, trivial, trivial⟩ ?_
  have e : nI n + 6 = nI (n + 6) := nI_add n 6
  rw [e]
  exact kk
theorem lw_end {p : Program} {l : Launch} {e : Env} {s : State} {m : MethodId} {below : List Frame} {meth : Method} {c : Code} {b : Nat} {G : am_G} {kc ks n : Nat} {σ : am_S} (X : am_X p s m #[Value.ref b] c code RL 4 am_pL G (fun q => s.heap.size ≤ q)) (hr : meth.sig.returnType = ret) (hlocks : meth.locks = false) (hkc : kc ≤ 600000) (hks : ks ≤ 7302250) : am_A p l e room_1 s m #[Value.ref b] below meth c 4 G (fun q => s.heap.size ≤ q) kc ks (lw_Z below #[Value.ref b] s) (1780, [(0, am_r 18 38 0), (1, am_r 0 0 0), (2, am_r 5 40 0), (3, am_i (nI n))], [], σ) := by
  refine am_blk ct_LT X 2 1 (fr' := (1781, [(0, am_r 18 38 0), (1, am_r 0 0 0), (2, am_r 5 40 0), (3, am_i (nI n))], [am_i 1], σ)) rfl ⟨trivial, trivial⟩ ?_
  intro H locs la hW hLo hF h1 h2 hl
  refine va_forget (fun q hq => hLo q hq) ?_
  refine W.widen (k := 600000) (n := 7302250) hkc hks ?_
  exact lw_ret X.1 X.2.1 hr hlocks (am_dea ct_LT (a := 3) rfl)
theorem lw_gt {L n : Nat} (hL : L ≤ 3072) (hn : n ≤ L) (h : ¬ (Int32.ofNat L - 6 < nI n)) : n + 6 ≤ L := by
  rw [Int32.lt_iff_toInt_lt, nI_toInt (by omega)] at h
  have e1 : (Int32.ofNat L).toInt = (L : Int) := nI_toInt (n := L) (by omega)
  have e2 : (Int32.ofNat L - 6).toInt = (L : Int) - 6 := by
    rw [Int32.toInt_sub, e1]
    show (if ((L : Int) - 6) % 4294967296 < (4294967296 + 1) / 2 then ((L : Int) - 6) % 4294967296 else ((L : Int) - 6) % 4294967296 - 4294967296) = (L : Int) - 6
    split <;> omega
  omega
set_option maxHeartbeats 4000000 in
set_option maxRecDepth 100000 in
/-- THE LAW'S LOOP -/
theorem lw_loop {p : Program} {l : Launch} {e : Env} {s : State} {m : MethodId} {below : List Frame} {meth : Method} {c : Code} {b L : Nat} {xs : Nat → Int32} (hX : va_X b L xs s s.heap) (hbl : b < s.heap.size) (hL : L ≤ 3072) (hr : meth.sig.returnType = ret) (hlocks : meth.locks = false) : ∀ (t n : Nat), n ≤ L → L < n + 6 * t + 6 → ∀ G : am_G, am_X p s m #[Value.ref b] c code RL 4 am_pL G (fun q => s.heap.size ≤ q) → am_ad G 18 38 0 = b ∧ G.2.2.2 18 = true → ∀ σ : am_S, pu_Inv σ → ∀ kc ks : Nat, kc + 137 * t ≤ 600000 → ks + 1587 * t ≤ 7302250 → am_A p l e room_1 s m #[Value.ref b] below meth c 4 G (fun q => s.heap.size ≤ q) kc ks (lw_Z below #[Value.ref b] s) (18, [(0, am_r 18 38 0), (1, am_r 0 0 0), (2, am_r 5 40 0), (3, am_i (nI n))], [], σ) := by
  intro t
  induction t with
  | zero =>
    intro n hn ht G X ⟨h18, h18v⟩ σ hI kc ks hkc hks
    refine am_blk ct_LH X 0 2 (fr' := (20, [(0, am_r 18 38 0), (1, am_r 0 0 0), (2, am_r 5 40 0), (3, am_i (nI n))], [am_r 18 38 0, am_i (nI n)], σ)) rfl ⟨trivial, trivial, trivial⟩ ?_
    refine lw_len ct_LH X h18 hX hbl 2 rfl ?_
    refine am_blk ct_LH X 3 2 (fr' := (24, [(0, am_r 18 38 0), (1, am_r 0 0 0), (2, am_r 5 40 0), (3, am_i (nI n))], [am_i (Int32.ofNat L - 6), am_i (nI n)], σ)) rfl ⟨trivial, trivial, trivial⟩ ?_
    refine am_icmp_gt ct_LH X 5 (tgt := 1780) rfl (by decide) (fun c1 => ?_) (fun c1 => ?_)
    · exact lw_end X hr hlocks (by omega) (by omega)
    · exfalso
      have := lw_gt (n := n) hL hn c1
      omega
  | succ t ih =>
    intro n hn ht G X ⟨h18, h18v⟩ σ hI kc ks hkc hks
    refine am_blk ct_LH X 0 2 (fr' := (20, [(0, am_r 18 38 0), (1, am_r 0 0 0), (2, am_r 5 40 0), (3, am_i (nI n))], [am_r 18 38 0, am_i (nI n)], σ)) rfl ⟨trivial, trivial, trivial⟩ ?_
    refine lw_len ct_LH X h18 hX hbl 2 rfl ?_
    refine am_blk ct_LH X 3 2 (fr' := (24, [(0, am_r 18 38 0), (1, am_r 0 0 0), (2, am_r 5 40 0), (3, am_i (nI n))], [am_i (Int32.ofNat L - 6), am_i (nI n)], σ)) rfl ⟨trivial, trivial, trivial⟩ ?_
    refine am_icmp_gt ct_LH X 5 (tgt := 1780) rfl (by decide) (fun c1 => ?_) (fun c1 => ?_)
    · exact lw_end X hr hlocks (by omega) (by omega)
    · have hn6 := lw_gt (n := n) hL hn c1
      have tail : ∀ (G1 : am_G) (kc1 ks1 : Nat) (σ2 : am_S), pu_Inv σ2 → am_ag G G1 → am_X p s m #[Value.ref b] c code RL 4 am_pL G1 (fun q => s.heap.size ≤ q) → kc1 ≤ kc + 137 → ks1 ≤ ks + 1587 → (am_ad G1 18 38 0 = b ∧ G1.2.2.2 18 = true) → am_A p l e room_1 s m #[Value.ref b] below meth c 4 G1 (fun q => s.heap.size ≤ q) kc1 ks1 (lw_Z below #[Value.ref b] s) (1774, [(0, am_r 18 38 0), (1, am_r 0 0 0), (2, am_r 5 40 0), (3, am_i (nI n))], [], σ2) := fun G1 kc1 ks1 σ2 hI2 hag X1 q1 q2 q3 => lw_tail X1 (ih (n + 6) (by omega) (by omega) G1 X1 q3 σ2 hI2 kc1 ks1 (by omega) (by omega))
      have h18l : ∀ G1 : am_G, am_ag G G1 → am_ad G1 18 38 0 = b ∧ G1.2.2.2 18 = true := fun G1 hag => ⟨((hag.2.2 18 h18v).2 38 0).trans h18, (hag.2.2 18 h18v).1⟩
      have hkc' : kc + 137 ≤ room_1.cells := by show kc + 137 ≤ 600000; omega
      have hks' : ks + 1587 ≤ room_1.slots := by show ks + 1587 ≤ 7302250; omega
      refine am_blk ct_LH X 6 2 (fr' := (29, [(0, am_r 18 38 0), (1, am_r 0 0 0), (2, am_r 5 40 0), (3, am_i (nI n))], [am_i (nI n), am_r 18 38 0], σ)) rfl ⟨trivial, trivial, trivial⟩ ?_
      refine am_sel ct_LH X h18 hX hbl hL 8 (n := n) rfl rfl (by omega) ?_
      refine am_blk ct_LH X 9 2 (fr' := (33, [(0, am_r 18 38 0), (1, am_r 0 0 0), (2, am_r 5 40 0), (3, am_i (nI n))], [am_i (xs n &&& 63)], σ)) rfl ⟨trivial, trivial, trivial⟩ ?_
      generalize xs n &&& 63 = v
      by_cases c10 : v = 0
      · obtain ⟨r, σ1, σ2, h7, h8, hI2⟩ := pv_row (xs (n + 1)) (xs (n + 2)) (xs (n + 3)) σ hI
        refine am_tin ct_LH X 11 (tgt := 236) (off := 203) rfl (by rw [c10]; decide) (by rw [c10]; decide) (by rw [c10]; rfl) (by decide) ?_
        exact lc_0 X h18 hX hbl hL hn6 hkc' hks' h7 h8 (fun G1 kc1 ks1 hag X1 q1 q2 => tail G1 kc1 ks1 σ2 hI2 hag X1 q1 q2 (h18l G1 hag))
      by_cases c11 : v = 1
      · obtain ⟨r, σ1, σ2, h7, h8, hI2⟩ := pv_set (xs (n + 1)) (xs (n + 2)) (((((xs (n + 3)) : Int32).toInt64) <<< ((32 : Int32).toInt64 &&& 63)) ||| ((((xs (n + 4)) : Int32).toInt64) &&& 4294967295)) σ hI
        refine am_tin ct_LH X 11 (tgt := 279) (off := 246) rfl (by rw [c11]; decide) (by rw [c11]; decide) (by rw [c11]; rfl) (by decide) ?_
        exact lc_1 X h18 hX hbl hL hn6 hkc' hks' h7 h8 (fun G1 kc1 ks1 hag X1 q1 q2 => tail G1 kc1 ks1 σ2 hI2 hag X1 q1 q2 (h18l G1 hag))
      by_cases c12 : v = 2
      · obtain ⟨r, σ1, σ2, h7, h8, hI2⟩ := pv_copy (xs (n + 1)) (xs (n + 2)) (xs (n + 3)) (xs (n + 4)) (xs (n + 5)) σ hI
        refine am_tin ct_LH X 11 (tgt := 352) (off := 319) rfl (by rw [c12]; decide) (by rw [c12]; decide) (by rw [c12]; rfl) (by decide) ?_
        exact lc_2 X h18 hX hbl hL hn6 hkc' hks' h7 h8 (fun G1 kc1 ks1 hag X1 q1 q2 => tail G1 kc1 ks1 σ2 hI2 hag X1 q1 q2 (h18l G1 hag))
      by_cases c13 : v = 3
      · obtain ⟨r, σ1, σ2, h7, h8, hI2⟩ := pv_element (xs (n + 1)) (xs (n + 2)) σ hI
        refine am_tin ct_LH X 11 (tgt := 415) (off := 382) rfl (by rw [c13]; decide) (by rw [c13]; decide) (by rw [c13]; rfl) (by decide) ?_
        exact lc_3 X h18 hX hbl hL hn6 hkc' hks' h7 h8 (fun G1 kc1 ks1 hag X1 q1 q2 => tail G1 kc1 ks1 σ2 hI2 hag X1 q1 q2 (h18l G1 hag))
      by_cases c14 : v = 4
      · obtain ⟨r, σ1, σ2, h7, h8, hI2⟩ := pv_holds (xs (n + 1)) σ hI
        refine am_tin ct_LH X 11 (tgt := 449) (off := 416) rfl (by rw [c14]; decide) (by rw [c14]; decide) (by rw [c14]; rfl) (by decide) ?_
        exact lc_4 X h18 hX hbl hL hn6 hkc' hks' h7 h8 (fun G1 kc1 ks1 hag X1 q1 q2 => tail G1 kc1 ks1 σ2 hI2 hag X1 q1 q2 (h18l G1 hag))
      by_cases c15 : v = 5
      · obtain ⟨r, σ1, σ2, h7, h8, hI2⟩ := pv_show (xs (n + 1)) (xs (n + 2)) σ hI
        refine am_tin ct_LH X 11 (tgt := 472) (off := 439) rfl (by rw [c15]; decide) (by rw [c15]; decide) (by rw [c15]; rfl) (by decide) ?_
        exact lc_5 X h18 hX hbl hL hn6 hkc' hks' h7 h8 (fun G1 kc1 ks1 hag X1 q1 q2 => tail G1 kc1 ks1 σ2 hI2 hag X1 q1 q2 (h18l G1 hag))
      by_cases c16 : v = 6
      · obtain ⟨r, σ1, σ2, h7, h8, hI2⟩ := pv_says (xs (n + 1)) (xs (n + 2)) σ hI
        refine am_tin ct_LH X 11 (tgt := 505) (off := 472) rfl (by rw [c16]; decide) (by rw [c16]; decide) (by rw [c16]; rfl) (by decide) ?_
        exact lc_6 X h18 hX hbl hL hn6 hkc' hks' h7 h8 (fun G1 kc1 ks1 hag X1 q1 q2 => tail G1 kc1 ks1 σ2 hI2 hag X1 q1 q2 (h18l G1 hag))
      by_cases c17 : v = 7
      · obtain ⟨r, σ1, σ2, h7, h8, hI2⟩ := pv_ask (xs (n + 1)) (xs (n + 2)) (xs (n + 3)) σ hI
        refine am_tin ct_LH X 11 (tgt := 538) (off := 505) rfl (by rw [c17]; decide) (by rw [c17]; decide) (by rw [c17]; rfl) (by decide) ?_
        exact lc_7 X h18 hX hbl hL hn6 hkc' hks' h7 h8 (fun G1 kc1 ks1 hag X1 q1 q2 => tail G1 kc1 ks1 σ2 hI2 hag X1 q1 q2 (h18l G1 hag))
      by_cases c18 : v = 8
      · obtain ⟨r, σ1, σ2, h7, h8, hI2⟩ := pv_pass (xs (n + 1)) (xs (n + 2)) (xs (n + 3)) (xs (n + 4)) σ hI
        refine am_tin ct_LH X 11 (tgt := 581) (off := 548) rfl (by rw [c18]; decide) (by rw [c18]; decide) (by rw [c18]; rfl) (by decide) ?_
        exact lc_8 X h18 hX hbl hL hn6 hkc' hks' h7 h8 (fun G1 kc1 ks1 hag X1 q1 q2 => tail G1 kc1 ks1 σ2 hI2 hag X1 q1 q2 (h18l G1 hag))
      by_cases c19 : v = 9
      · obtain ⟨r, σ1, σ2, h7, h8, hI2⟩ := pv_person (xs (n + 1)) (xs (n + 2)) (xs (n + 3)) σ hI
        refine am_tin ct_LH X 11 (tgt := 634) (off := 601) rfl (by rw [c19]; decide) (by rw [c19]; decide) (by rw [c19]; rfl) (by decide) ?_
        exact lc_9 X h18 hX hbl hL hn6 hkc' hks' h7 h8 (fun G1 kc1 ks1 hag X1 q1 q2 => tail G1 kc1 ks1 σ2 hI2 hag X1 q1 q2 (h18l G1 hag))
      by_cases c20 : v = 10
      · obtain ⟨r, σ1, σ2, h7, h8, hI2⟩ := pv_duty (xs (n + 1)) (xs (n + 2)) (if xs (n + 3) = 0 then 0 else 1) σ hI (by split <;> simp)
        refine am_tin ct_LH X 11 (tgt := 677) (off := 644) rfl (by rw [c20]; decide) (by rw [c20]; decide) (by rw [c20]; rfl) (by decide) ?_
        exact lc_10 X h18 hX hbl hL hn6 hkc' hks' h7 h8 (fun G1 kc1 ks1 hag X1 q1 q2 => tail G1 kc1 ks1 σ2 hI2 hag X1 q1 q2 (h18l G1 hag))
      by_cases c21 : v = 11
      · obtain ⟨r, σ1, σ2, h7, h8, hI2⟩ := pv_tell (xs (n + 1)) (xs (n + 2)) (xs (n + 3)) σ hI
        refine am_tin ct_LH X 11 (tgt := 736) (off := 703) rfl (by rw [c21]; decide) (by rw [c21]; decide) (by rw [c21]; rfl) (by decide) ?_
        exact lc_11 X h18 hX hbl hL hn6 hkc' hks' h7 h8 (fun G1 kc1 ks1 hag X1 q1 q2 => tail G1 kc1 ks1 σ2 hI2 hag X1 q1 q2 (h18l G1 hag))
      by_cases c22 : v = 12
      · obtain ⟨r, σ1, σ2, h7, h8, hI2⟩ := pv_feed (xs (n + 1)) σ hI
        refine am_tin ct_LH X 11 (tgt := 779) (off := 746) rfl (by rw [c22]; decide) (by rw [c22]; decide) (by rw [c22]; rfl) (by decide) ?_
        exact lc_12 X h18 hX hbl hL hn6 hkc' hks' h7 h8 (fun G1 kc1 ks1 hag X1 q1 q2 => tail G1 kc1 ks1 σ2 hI2 hag X1 q1 q2 (h18l G1 hag))
      by_cases c23 : v = 13
      · obtain ⟨r, σ1, σ2, h7, h8, hI2⟩ := pv_wipe  σ hI
        refine am_tin ct_LH X 11 (tgt := 802) (off := 769) rfl (by rw [c23]; decide) (by rw [c23]; decide) (by rw [c23]; rfl) (by decide) ?_
        exact lc_13 X h18 hX hbl hL hn6 hkc' hks' h7 h8 (fun G1 kc1 ks1 hag X1 q1 q2 => tail G1 kc1 ks1 σ2 hI2 hag X1 q1 q2 (h18l G1 hag))
      by_cases c24 : v = 14
      · obtain ⟨r, σ1, σ2, h7, h8, hI2⟩ := pv_land  σ hI
        refine am_tin ct_LH X 11 (tgt := 815) (off := 782) rfl (by rw [c24]; decide) (by rw [c24]; decide) (by rw [c24]; rfl) (by decide) ?_
        exact lc_14 X h18 hX hbl hL hn6 hkc' hks' h7 h8 (fun G1 kc1 ks1 hag X1 q1 q2 => tail G1 kc1 ks1 σ2 hI2 hag X1 q1 q2 (h18l G1 hag))
      by_cases c25 : v = 15
      · obtain ⟨r, σ1, σ2, h7, h8, hI2⟩ := pv_valleyOf (xs (n + 1)) (xs (n + 2)) σ hI
        refine am_tin ct_LH X 11 (tgt := 828) (off := 795) rfl (by rw [c25]; decide) (by rw [c25]; decide) (by rw [c25]; rfl) (by decide) ?_
        exact lc_15 X h18 hX hbl hL hn6 hkc' hks' h7 h8 (fun G1 kc1 ks1 hag X1 q1 q2 => tail G1 kc1 ks1 σ2 hI2 hag X1 q1 q2 (h18l G1 hag))
      by_cases c26 : v = 16
      · obtain ⟨r, σ1, σ2, h7, h8, hI2⟩ := pv_passOf (xs (n + 1)) (xs (n + 2)) σ hI
        refine am_tin ct_LH X 11 (tgt := 861) (off := 828) rfl (by rw [c26]; decide) (by rw [c26]; decide) (by rw [c26]; rfl) (by decide) ?_
        exact lc_16 X h18 hX hbl hL hn6 hkc' hks' h7 h8 (fun G1 kc1 ks1 hag X1 q1 q2 => tail G1 kc1 ks1 σ2 hI2 hag X1 q1 q2 (h18l G1 hag))
      by_cases c27 : v = 17
      · obtain ⟨r, σ1, σ2, h7, h8, hI2⟩ := pv_personOf (xs (n + 1)) (xs (n + 2)) σ hI
        refine am_tin ct_LH X 11 (tgt := 894) (off := 861) rfl (by rw [c27]; decide) (by rw [c27]; decide) (by rw [c27]; rfl) (by decide) ?_
        exact lc_17 X h18 hX hbl hL hn6 hkc' hks' h7 h8 (fun G1 kc1 ks1 hag X1 q1 q2 => tail G1 kc1 ks1 σ2 hI2 hag X1 q1 q2 (h18l G1 hag))
      by_cases c28 : v = 18
      · obtain ⟨r, σ1, σ2, h7, h8, hI2⟩ := pv_price (xs (n + 1)) (xs (n + 2)) (xs (n + 3)) σ hI
        refine am_tin ct_LH X 11 (tgt := 927) (off := 894) rfl (by rw [c28]; decide) (by rw [c28]; decide) (by rw [c28]; rfl) (by decide) ?_
        exact lc_18 X h18 hX hbl hL hn6 hkc' hks' h7 h8 (fun G1 kc1 ks1 hag X1 q1 q2 => tail G1 kc1 ks1 σ2 hI2 hag X1 q1 q2 (h18l G1 hag))
      by_cases c29 : v = 19
      · obtain ⟨r, σ1, σ2, h7, h8, hI2⟩ := pv_way (xs (n + 1)) (xs (n + 2)) (xs (n + 3)) σ hI
        refine am_tin ct_LH X 11 (tgt := 970) (off := 937) rfl (by rw [c29]; decide) (by rw [c29]; decide) (by rw [c29]; rfl) (by decide) ?_
        exact lc_19 X h18 hX hbl hL hn6 hkc' hks' h7 h8 (fun G1 kc1 ks1 hag X1 q1 q2 => tail G1 kc1 ks1 σ2 hI2 hag X1 q1 q2 (h18l G1 hag))
      by_cases c30 : v = 20
      · obtain ⟨r, σ1, σ2, h7, h8, hI2⟩ := pv_tour (xs (n + 1)) (xs (n + 2)) σ hI
        refine am_tin ct_LH X 11 (tgt := 1013) (off := 980) rfl (by rw [c30]; decide) (by rw [c30]; decide) (by rw [c30]; rfl) (by decide) ?_
        exact lc_20 X h18 hX hbl hL hn6 hkc' hks' h7 h8 (fun G1 kc1 ks1 hag X1 q1 q2 => tail G1 kc1 ks1 σ2 hI2 hag X1 q1 q2 (h18l G1 hag))
      by_cases c31 : v = 21
      · obtain ⟨r, σ1, σ2, h7, h8, hI2⟩ := pv_route (xs (n + 1)) (xs (n + 2)) (xs (n + 3)) σ hI
        refine am_tin ct_LH X 11 (tgt := 1046) (off := 1013) rfl (by rw [c31]; decide) (by rw [c31]; decide) (by rw [c31]; rfl) (by decide) ?_
        exact lc_21 X h18 hX hbl hL hn6 hkc' hks' h7 h8 (fun G1 kc1 ks1 hag X1 q1 q2 => tail G1 kc1 ks1 σ2 hI2 hag X1 q1 q2 (h18l G1 hag))
      by_cases c32 : v = 22
      · obtain ⟨r, σ1, σ2, h7, h8, hI2⟩ := pv_tourOf (xs (n + 1)) (xs (n + 2)) σ hI
        refine am_tin ct_LH X 11 (tgt := 1089) (off := 1056) rfl (by rw [c32]; decide) (by rw [c32]; decide) (by rw [c32]; rfl) (by decide) ?_
        exact lc_22 X h18 hX hbl hL hn6 hkc' hks' h7 h8 (fun G1 kc1 ks1 hag X1 q1 q2 => tail G1 kc1 ks1 σ2 hI2 hag X1 q1 q2 (h18l G1 hag))
      by_cases c33 : v = 23
      · obtain ⟨r, σ1, σ2, h7, h8, hI2⟩ := pv_saved (xs (n + 1)) σ hI
        refine am_tin ct_LH X 11 (tgt := 1122) (off := 1089) rfl (by rw [c33]; decide) (by rw [c33]; decide) (by rw [c33]; rfl) (by decide) ?_
        exact lc_23 X h18 hX hbl hL hn6 hkc' hks' h7 h8 (fun G1 kc1 ks1 hag X1 q1 q2 => tail G1 kc1 ks1 σ2 hI2 hag X1 q1 q2 (h18l G1 hag))
      by_cases c34 : v = 24
      · obtain ⟨r, σ1, σ2, h7, h8, hI2⟩ := pv_bestPass  σ hI
        refine am_tin ct_LH X 11 (tgt := 1145) (off := 1112) rfl (by rw [c34]; decide) (by rw [c34]; decide) (by rw [c34]; rfl) (by decide) ?_
        exact lc_24 X h18 hX hbl hL hn6 hkc' hks' h7 h8 (fun G1 kc1 ks1 hag X1 q1 q2 => tail G1 kc1 ks1 σ2 hI2 hag X1 q1 q2 (h18l G1 hag))
      by_cases c35 : v = 25
      · obtain ⟨r, σ1, σ2, h7, h8, hI2⟩ := pv_first (xs (n + 1)) σ hI
        refine am_tin ct_LH X 11 (tgt := 1158) (off := 1125) rfl (by rw [c35]; decide) (by rw [c35]; decide) (by rw [c35]; rfl) (by decide) ?_
        exact lc_25 X h18 hX hbl hL hn6 hkc' hks' h7 h8 (fun G1 kc1 ks1 hag X1 q1 q2 => tail G1 kc1 ks1 σ2 hI2 hag X1 q1 q2 (h18l G1 hag))
      by_cases c36 : v = 26
      · obtain ⟨r, σ1, σ2, h7, h8, hI2⟩ := pv_works (xs (n + 1)) σ hI
        refine am_tin ct_LH X 11 (tgt := 1181) (off := 1148) rfl (by rw [c36]; decide) (by rw [c36]; decide) (by rw [c36]; rfl) (by decide) ?_
        exact lc_26 X h18 hX hbl hL hn6 hkc' hks' h7 h8 (fun G1 kc1 ks1 hag X1 q1 q2 => tail G1 kc1 ks1 σ2 hI2 hag X1 q1 q2 (h18l G1 hag))
      by_cases c37 : v = 27
      · obtain ⟨r, σ1, σ2, h7, h8, hI2⟩ := pv_steps (xs (n + 1)) (xs (n + 2)) σ hI
        refine am_tin ct_LH X 11 (tgt := 1204) (off := 1171) rfl (by rw [c37]; decide) (by rw [c37]; decide) (by rw [c37]; rfl) (by decide) ?_
        exact lc_27 X h18 hX hbl hL hn6 hkc' hks' h7 h8 (fun G1 kc1 ks1 hag X1 q1 q2 => tail G1 kc1 ks1 σ2 hI2 hag X1 q1 q2 (h18l G1 hag))
      by_cases c38 : v = 28
      · obtain ⟨r, σ1, σ2, h7, h8, hI2⟩ := pv_within (xs (n + 1)) (xs (n + 2)) (xs (n + 3)) σ hI
        refine am_tin ct_LH X 11 (tgt := 1237) (off := 1204) rfl (by rw [c38]; decide) (by rw [c38]; decide) (by rw [c38]; rfl) (by decide) ?_
        exact lc_28 X h18 hX hbl hL hn6 hkc' hks' h7 h8 (fun G1 kc1 ks1 hag X1 q1 q2 => tail G1 kc1 ks1 σ2 hI2 hag X1 q1 q2 (h18l G1 hag))
      by_cases c39 : v = 29
      · obtain ⟨r, σ1, σ2, h7, h8, hI2⟩ := pv_crowd  σ hI
        refine am_tin ct_LH X 11 (tgt := 1280) (off := 1247) rfl (by rw [c39]; decide) (by rw [c39]; decide) (by rw [c39]; rfl) (by decide) ?_
        exact lc_29 X h18 hX hbl hL hn6 hkc' hks' h7 h8 (fun G1 kc1 ks1 hag X1 q1 q2 => tail G1 kc1 ks1 σ2 hI2 hag X1 q1 q2 (h18l G1 hag))
      by_cases c40 : v = 30
      · obtain ⟨r, σ1, σ2, h7, h8, hI2⟩ := pv_ring (xs (n + 1)) σ hI
        refine am_tin ct_LH X 11 (tgt := 1293) (off := 1260) rfl (by rw [c40]; decide) (by rw [c40]; decide) (by rw [c40]; rfl) (by decide) ?_
        exact lc_30 X h18 hX hbl hL hn6 hkc' hks' h7 h8 (fun G1 kc1 ks1 hag X1 q1 q2 => tail G1 kc1 ks1 σ2 hI2 hag X1 q1 q2 (h18l G1 hag))
      by_cases c41 : v = 31
      · obtain ⟨r, σ1, σ2, h7, h8, hI2⟩ := pv_dearest (xs (n + 1)) σ hI
        refine am_tin ct_LH X 11 (tgt := 1316) (off := 1283) rfl (by rw [c41]; decide) (by rw [c41]; decide) (by rw [c41]; rfl) (by decide) ?_
        exact lc_31 X h18 hX hbl hL hn6 hkc' hks' h7 h8 (fun G1 kc1 ks1 hag X1 q1 q2 => tail G1 kc1 ks1 σ2 hI2 hag X1 q1 q2 (h18l G1 hag))
      by_cases c42 : v = 32
      · obtain ⟨r, σ1, σ2, h7, h8, hI2⟩ := pv_alike (xs (n + 1)) (xs (n + 2)) σ hI
        refine am_tin ct_LH X 11 (tgt := 1339) (off := 1306) rfl (by rw [c42]; decide) (by rw [c42]; decide) (by rw [c42]; rfl) (by decide) ?_
        exact lc_32 X h18 hX hbl hL hn6 hkc' hks' h7 h8 (fun G1 kc1 ks1 hag X1 q1 q2 => tail G1 kc1 ks1 σ2 hI2 hag X1 q1 q2 (h18l G1 hag))
      by_cases c43 : v = 33
      · obtain ⟨r, σ1, σ2, h7, h8, hI2⟩ := pv_homes (xs (n + 1)) σ hI
        refine am_tin ct_LH X 11 (tgt := 1372) (off := 1339) rfl (by rw [c43]; decide) (by rw [c43]; decide) (by rw [c43]; rfl) (by decide) ?_
        exact lc_33 X h18 hX hbl hL hn6 hkc' hks' h7 h8 (fun G1 kc1 ks1 hag X1 q1 q2 => tail G1 kc1 ks1 σ2 hI2 hag X1 q1 q2 (h18l G1 hag))
      by_cases c44 : v = 34
      · obtain ⟨r, σ1, σ2, h7, h8, hI2⟩ := pv_market  σ hI
        refine am_tin ct_LH X 11 (tgt := 1395) (off := 1362) rfl (by rw [c44]; decide) (by rw [c44]; decide) (by rw [c44]; rfl) (by decide) ?_
        exact lc_34 X h18 hX hbl hL hn6 hkc' hks' h7 h8 (fun G1 kc1 ks1 hag X1 q1 q2 => tail G1 kc1 ks1 σ2 hI2 hag X1 q1 q2 (h18l G1 hag))
      by_cases c45 : v = 35
      · obtain ⟨r, σ1, σ2, h7, h8, hI2⟩ := pv_meet (xs (n + 1)) σ hI
        refine am_tin ct_LH X 11 (tgt := 1408) (off := 1375) rfl (by rw [c45]; decide) (by rw [c45]; decide) (by rw [c45]; rfl) (by decide) ?_
        exact lc_35 X h18 hX hbl hL hn6 hkc' hks' h7 h8 (fun G1 kc1 ks1 hag X1 q1 q2 => tail G1 kc1 ks1 σ2 hI2 hag X1 q1 q2 (h18l G1 hag))
      by_cases c46 : v = 36
      · obtain ⟨r, σ1, σ2, h7, h8, hI2⟩ := pv_journeys (xs (n + 1)) (xs (n + 2)) (xs (n + 3)) (xs (n + 4)) σ hI
        refine am_tin ct_LH X 11 (tgt := 1431) (off := 1398) rfl (by rw [c46]; decide) (by rw [c46]; decide) (by rw [c46]; rfl) (by decide) ?_
        exact lc_36 X h18 hX hbl hL hn6 hkc' hks' h7 h8 (fun G1 kc1 ks1 hag X1 q1 q2 => tail G1 kc1 ks1 σ2 hI2 hag X1 q1 q2 (h18l G1 hag))
      by_cases c47 : v = 37
      · obtain ⟨r, σ1, σ2, h7, h8, hI2⟩ := pv_judge (xs (n + 1)) (xs (n + 2)) (xs (n + 3)) σ hI
        refine am_tin ct_LH X 11 (tgt := 1484) (off := 1451) rfl (by rw [c47]; decide) (by rw [c47]; decide) (by rw [c47]; rfl) (by decide) ?_
        exact lc_37 X h18 hX hbl hL hn6 hkc' hks' h7 h8 (fun G1 kc1 ks1 hag X1 q1 q2 => tail G1 kc1 ks1 σ2 hI2 hag X1 q1 q2 (h18l G1 hag))
      by_cases c48 : v = 38
      · obtain ⟨r, σ1, σ2, h7, h8, hI2⟩ := pv_behind (xs (n + 1)) (xs (n + 2)) (xs (n + 3)) (xs (n + 4)) σ hI
        refine am_tin ct_LH X 11 (tgt := 1527) (off := 1494) rfl (by rw [c48]; decide) (by rw [c48]; decide) (by rw [c48]; rfl) (by decide) ?_
        exact lc_38 X h18 hX hbl hL hn6 hkc' hks' h7 h8 (fun G1 kc1 ks1 hag X1 q1 q2 => tail G1 kc1 ks1 σ2 hI2 hag X1 q1 q2 (h18l G1 hag))
      by_cases c49 : v = 39
      · obtain ⟨r, σ1, σ2, h7, h8, hI2⟩ := pv_done (xs (n + 1)) (xs (n + 2)) (xs (n + 3)) σ hI
        refine am_tin ct_LH X 11 (tgt := 1580) (off := 1547) rfl (by rw [c49]; decide) (by rw [c49]; decide) (by rw [c49]; rfl) (by decide) ?_
        exact lc_39 X h18 hX hbl hL hn6 hkc' hks' h7 h8 (fun G1 kc1 ks1 hag X1 q1 q2 => tail G1 kc1 ks1 σ2 hI2 hag X1 q1 q2 (h18l G1 hag))
      by_cases c50 : v = 40
      · obtain ⟨r, σ1, σ2, h7, h8, hI2⟩ := pv_longest (xs (n + 1)) σ hI
        refine am_tin ct_LH X 11 (tgt := 1623) (off := 1590) rfl (by rw [c50]; decide) (by rw [c50]; decide) (by rw [c50]; rfl) (by decide) ?_
        exact lc_40 X h18 hX hbl hL hn6 hkc' hks' h7 h8 (fun G1 kc1 ks1 hag X1 q1 q2 => tail G1 kc1 ks1 σ2 hI2 hag X1 q1 q2 (h18l G1 hag))
      by_cases c51 : v = 41
      · obtain ⟨r, σ1, σ2, h7, h8, hI2⟩ := pv_act (xs (n + 1)) (xs (n + 2)) σ hI
        refine am_tin ct_LH X 11 (tgt := 1646) (off := 1613) rfl (by rw [c51]; decide) (by rw [c51]; decide) (by rw [c51]; rfl) (by decide) ?_
        exact lc_41 X h18 hX hbl hL hn6 hkc' hks' h7 h8 (fun G1 kc1 ks1 hag X1 q1 q2 => tail G1 kc1 ks1 σ2 hI2 hag X1 q1 q2 (h18l G1 hag))
      by_cases c52 : v = 42
      · obtain ⟨r, σ1, σ2, h7, h8, hI2⟩ := pv_weeks (xs (n + 1)) σ hI
        refine am_tin ct_LH X 11 (tgt := 1679) (off := 1646) rfl (by rw [c52]; decide) (by rw [c52]; decide) (by rw [c52]; rfl) (by decide) ?_
        exact lc_42 X h18 hX hbl hL hn6 hkc' hks' h7 h8 (fun G1 kc1 ks1 hag X1 q1 q2 => tail G1 kc1 ks1 σ2 hI2 hag X1 q1 q2 (h18l G1 hag))
      by_cases c53 : v = 43
      · obtain ⟨r, σ1, σ2, h7, h8, hI2⟩ := pv_seed (xs (n + 1)) σ hI
        refine am_tin ct_LH X 11 (tgt := 1702) (off := 1669) rfl (by rw [c53]; decide) (by rw [c53]; decide) (by rw [c53]; rfl) (by decide) ?_
        exact lc_43 X h18 hX hbl hL hn6 hkc' hks' h7 h8 (fun G1 kc1 ks1 hag X1 q1 q2 => tail G1 kc1 ks1 σ2 hI2 hag X1 q1 q2 (h18l G1 hag))
      by_cases c54 : v = 44
      · obtain ⟨r, σ1, σ2, h7, h8, hI2⟩ := pv_image  σ hI
        refine am_tin ct_LH X 11 (tgt := 1725) (off := 1692) rfl (by rw [c54]; decide) (by rw [c54]; decide) (by rw [c54]; rfl) (by decide) ?_
        exact lc_44 X h18 hX hbl hL hn6 hkc' hks' h7 h8 (fun G1 kc1 ks1 hag X1 q1 q2 => tail G1 kc1 ks1 σ2 hI2 hag X1 q1 q2 (h18l G1 hag))
      by_cases c55 : v = 45
      · obtain ⟨r, σ1, σ2, h7, h8, hI2⟩ := pv_back  σ hI
        refine am_tin ct_LH X 11 (tgt := 1738) (off := 1705) rfl (by rw [c55]; decide) (by rw [c55]; decide) (by rw [c55]; rfl) (by decide) ?_
        exact lc_45 X h18 hX hbl hL hn6 hkc' hks' h7 h8 (fun G1 kc1 ks1 hag X1 q1 q2 => tail G1 kc1 ks1 σ2 hI2 hag X1 q1 q2 (h18l G1 hag))
      by_cases c56 : v = 46
      · obtain ⟨r, σ1, σ2, h7, h8, hI2⟩ := pv_status (xs (n + 1)) σ hI
        refine am_tin ct_LH X 11 (tgt := 1751) (off := 1718) rfl (by rw [c56]; decide) (by rw [c56]; decide) (by rw [c56]; rfl) (by decide) ?_
        exact lc_46 X h18 hX hbl hL hn6 hkc' hks' h7 h8 (fun G1 kc1 ks1 hag X1 q1 q2 => tail G1 kc1 ks1 σ2 hI2 hag X1 q1 q2 (h18l G1 hag))
      refine am_tout ct_LH X 11 (tgt := 1774) rfl (am_sw 0 46 (fun z h1 h2 => ?_)) (by decide) ?_
      · rcases (show z = 0 ∨ z = 1 ∨ z = 2 ∨ z = 3 ∨ z = 4 ∨ z = 5 ∨ z = 6 ∨ z = 7 ∨ z = 8 ∨ z = 9 ∨ z = 10 ∨ z = 11 ∨ z = 12 ∨ z = 13 ∨ z = 14 ∨ z = 15 ∨ z = 16 ∨ z = 17 ∨ z = 18 ∨ z = 19 ∨ z = 20 ∨ z = 21 ∨ z = 22 ∨ z = 23 ∨ z = 24 ∨ z = 25 ∨ z = 26 ∨ z = 27 ∨ z = 28 ∨ z = 29 ∨ z = 30 ∨ z = 31 ∨ z = 32 ∨ z = 33 ∨ z = 34 ∨ z = 35 ∨ z = 36 ∨ z = 37 ∨ z = 38 ∨ z = 39 ∨ z = 40 ∨ z = 41 ∨ z = 42 ∨ z = 43 ∨ z = 44 ∨ z = 45 ∨ z = 46 by omega) with rfl | rfl | rfl | rfl | rfl | rfl | rfl | rfl | rfl | rfl | rfl | rfl | rfl | rfl | rfl | rfl | rfl | rfl | rfl | rfl | rfl | rfl | rfl | rfl | rfl | rfl | rfl | rfl | rfl | rfl | rfl | rfl | rfl | rfl | rfl | rfl | rfl | rfl | rfl | rfl | rfl | rfl | rfl | rfl | rfl | rfl | rfl
        · exact lv_neT c10 rfl
        · exact lv_neT c11 rfl
        · exact lv_neT c12 rfl
        · exact lv_neT c13 rfl
        · exact lv_neT c14 rfl
        · exact lv_neT c15 rfl
        · exact lv_neT c16 rfl
        · exact lv_neT c17 rfl
        · exact lv_neT c18 rfl
        · exact lv_neT c19 rfl
        · exact lv_neT c20 rfl
        · exact lv_neT c21 rfl
        · exact lv_neT c22 rfl
        · exact lv_neT c23 rfl
        · exact lv_neT c24 rfl
        · exact lv_neT c25 rfl
        · exact lv_neT c26 rfl
        · exact lv_neT c27 rfl
        · exact lv_neT c28 rfl
        · exact lv_neT c29 rfl
        · exact lv_neT c30 rfl
        · exact lv_neT c31 rfl
        · exact lv_neT c32 rfl
        · exact lv_neT c33 rfl
        · exact lv_neT c34 rfl
        · exact lv_neT c35 rfl
        · exact lv_neT c36 rfl
        · exact lv_neT c37 rfl
        · exact lv_neT c38 rfl
        · exact lv_neT c39 rfl
        · exact lv_neT c40 rfl
        · exact lv_neT c41 rfl
        · exact lv_neT c42 rfl
        · exact lv_neT c43 rfl
        · exact lv_neT c44 rfl
        · exact lv_neT c45 rfl
        · exact lv_neT c46 rfl
        · exact lv_neT c47 rfl
        · exact lv_neT c48 rfl
        · exact lv_neT c49 rfl
        · exact lv_neT c50 rfl
        · exact lv_neT c51 rfl
        · exact lv_neT c52 rfl
        · exact lv_neT c53 rfl
        · exact lv_neT c54 rfl
        · exact lv_neT c55 rfl
        · exact lv_neT c56 rfl
      · exact tail G kc ks σ hI am_ag.rf X (by omega) (by omega) ⟨h18, h18v⟩
