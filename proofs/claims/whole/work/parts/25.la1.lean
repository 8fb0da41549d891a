def tb_L0 : List (Nat × Instr × Nat) := [(236, .aload_n 1, 1), (237, .aload_n 0, 1), (238, .iload_n 3, 1), (239, .iconst 1, 1), (240, .iadd, 1), (241, .iaload, 1), (242, .aload_n 0, 1), (243, .iload_n 3, 1), (244, .iconst 2, 1), (245, .iadd, 1), (246, .iaload, 1), (247, .aload_n 0, 1), (248, .iload_n 3, 1), (249, .iconst 3, 1), (250, .iadd, 1), (251, .iaload, 1), (252, .invokevirtual 13, 3), (255, .aload_n 2, 1), (256, .aload_n 0, 1), (257, .iload_n 3, 1), (258, .iconst 1, 1), (259, .iadd, 1), (260, .iaload, 1), (261, .aload_n 0, 1), (262, .iload_n 3, 1), (263, .iconst 2, 1), (264, .iadd, 1), (265, .iaload, 1), (266, .aload_n 0, 1), (267, .iload_n 3, 1), (268, .iconst 3, 1), (269, .iadd, 1), (270, .iaload, 1), (271, .invokevirtual 17, 3), (274, .if_icmp .eq 1500, 3), (277, .iconst 0, 1), (278, .ireturn, 1)]
set_option maxRecDepth 100000 in
theorem ct_L0 : am_code code tb_L0 = true := by decide +kernel
set_option maxRecDepth 100000 in
theorem lc_0 {p : Program} {l : Launch} {e : Env} {s : State} {m : MethodId} {below : List Frame} {meth : Method} {c : Code} {b L : Nat} {xs : Nat → Int32} {G : am_G} {kc ks : Nat} {Q : State → Prop} (X : am_X p s m #[Value.ref b] c code RL 4 am_pL G (fun q => s.heap.size ≤ q)) (hb18 : am_ad G 18 38 0 = b) (hX : va_X b L xs s s.heap) (hbl : b < s.heap.size) (hL : L ≤ 3072) {n : Nat} (hn : n + 6 ≤ L) (hkc : kc + 137 ≤ room_1.cells) (hks : ks + 1587 ≤ room_1.slots) {σ σ1 σ2 : am_S} {r : Int32} (h7 : fn_X7_row (xs (n + 1)) (xs (n + 2)) (xs (n + 3)) σ = some (r, σ1)) (h8 : fn_X8_row 5 (xs (n + 1)) (xs (n + 2)) (xs (n + 3)) σ1 = some (r, σ2))
    (kk : ∀ (G1 : am_G) (kc1 ks1 : Nat), am_ag G G1 → am_X p s m #[Value.ref b] c code RL 4 am_pL G1 (fun q => s.heap.size ≤ q) → kc1 ≤ kc + 137 → ks1 ≤ ks + 1587 → am_A p l e room_1 s m #[Value.ref b] below meth c 4 G1 (fun q => s.heap.size ≤ q) kc1 ks1 Q (1774, [(0, am_r 18 38 0), (1, am_r 0 0 0), (2, am_r 5 40 0), (3, am_i (nI n))], [], σ2)) :
    am_A p l e room_1 s m #[Value.ref b] below meth c 4 G (fun q => s.heap.size ≤ q) kc ks Q (236, [(0, am_r 18 38 0), (1, am_r 0 0 0), (2, am_r 5 40 0), (3, am_i (nI n))], [], σ) := by
  have hc := ct_L0
  refine am_blk hc X 0 1 (fr' := (237, [(0, am_r 18 38 0), (1, am_r 0 0 0), (2, am_r 5 40 0), (3, am_i (nI n))], [am_r 0 0 0], σ)) rfl ⟨trivial, trivial⟩ ?_
  refine am_scr hc X hb18 hX hbl hL 1 (k := 1) rfl rfl rfl rfl rfl rfl (by omega) ?_
  refine am_scr hc X hb18 hX hbl hL 6 (k := 2) rfl rfl rfl rfl rfl rfl (by omega) ?_
  refine am_scr hc X hb18 hX hbl hL 11 (k := 3) rfl rfl rfl rfl rfl rfl (by omega) ?_
  refine am_callVL hc 16 X (k := 0) (i := 0) (o := 0) (As := [am_i (xs (n + 1)), am_i (xs (n + 2)), am_i (xs (n + 3))]) (rest := []) (σ' := σ1) (r := some (am_i r)) rfl (ok_X7_row l (xs (n + 1)) (xs (n + 2)) (xs (n + 3)) σ h7) yv_X7_row ml_L_13 cl_0 ⟨by decide, by decide⟩ rfl rfl rfl ⟨Nat.le_trans (Nat.le_add_right _ _) hkc, Nat.le_trans (Nat.le_add_right _ _) hks⟩ ?_
  refine am_blk hc X 17 1 (fr' := (256, [(0, am_r 18 38 0), (1, am_r 0 0 0), (2, am_r 5 40 0), (3, am_i (nI n))], [am_r 5 40 0, am_i r], σ1)) rfl ⟨trivial, trivial⟩ ?_
  refine am_scr hc X hb18 hX hbl hL 18 (k := 1) rfl rfl rfl rfl rfl rfl (by omega) ?_
  refine am_scr hc X hb18 hX hbl hL 23 (k := 2) rfl rfl rfl rfl rfl rfl (by omega) ?_
  refine am_scr hc X hb18 hX hbl hL 28 (k := 3) rfl rfl rfl rfl rfl rfl (by omega) ?_
  refine am_callVL hc 33 X (k := 40) (i := 0) (o := 5) (As := [am_i (xs (n + 1)), am_i (xs (n + 2)), am_i (xs (n + 3))]) (rest := [am_i r]) (σ' := σ2) (r := some (am_i r)) rfl (ok_X8_row l 5 (xs (n + 1)) (xs (n + 2)) (xs (n + 3)) σ1 h8) yv_X8_row ml_L_17 cl_40 ⟨by decide, by decide⟩ rfl rfl rfl ⟨Nat.le_trans (Nat.le_add_right _ _) hkc, Nat.le_trans (Nat.le_add_right _ _) hks⟩ ?_
  refine am_icmp_eq hc X 34 (tgt := 1774) rfl (by decide) (fun _ => ?_) (fun z => absurd rfl z)
  exact kk G _ _ am_ag.rf X (Nat.le_add_right _ _) (Nat.le_add_right _ _)
def tb_L1 : List (Nat × Instr × Nat) := [(279, .aload_n 1, 1), (280, .aload_n 0, 1), (281, .iload_n 3, 1), (282, .iconst 1, 1), (283, .iadd, 1), (284, .iaload, 1), (285, .aload_n 0, 1), (286, .iload_n 3, 1), (287, .iconst 2, 1), (288, .iadd, 1), (289, .iaload, 1), (290, .aload_n 0, 1), (291, .iload_n 3, 1), (292, .iconst 3, 1), (293, .iadd, 1), (294, .iaload, 1), (295, .i2l, 1), (296, .bipush 32, 2), (298, .lshl, 1), (299, .aload_n 0, 1), (300, .iload_n 3, 1), (301, .iconst 4, 1), (302, .iadd, 1), (303, .iaload, 1), (304, .i2l, 1), (305, .ldc2_w 18, 3), (308, .land, 1), (309, .lor, 1), (310, .invokevirtual 20, 3), (313, .aload_n 2, 1), (314, .aload_n 0, 1), (315, .iload_n 3, 1), (316, .iconst 1, 1), (317, .iadd, 1), (318, .iaload, 1), (319, .aload_n 0, 1), (320, .iload_n 3, 1), (321, .iconst 2, 1), (322, .iadd, 1), (323, .iaload, 1), (324, .aload_n 0, 1), (325, .iload_n 3, 1), (326, .iconst 3, 1), (327, .iadd, 1), (328, .iaload, 1), (329, .i2l, 1), (330, .bipush 32, 2), (332, .lshl, 1), (333, .aload_n 0, 1), (334, .iload_n 3, 1), (335, .iconst 4, 1), (336, .iadd, 1), (337, .iaload, 1), (338, .i2l, 1), (339, .ldc2_w 18, 3), (342, .land, 1), (343, .lor, 1), (344, .invokevirtual 24, 3), (347, .if_icmp .eq 1427, 3), (350, .iconst 0, 1), (351, .ireturn, 1)]
set_option maxRecDepth 100000 in
theorem ct_L1 : am_code code tb_L1 = true := by decide +kernel
set_option maxRecDepth 100000 in
theorem lc_1 {p : Program} {l : Launch} {e : Env} {s : State} {m : MethodId} {below : List Frame} {meth : Method} {c : Code} {b L : Nat} {xs : Nat → Int32} {G : am_G} {kc ks : Nat} {Q : State → Prop} (X : am_X p s m #[Value.ref b] c code RL 4 am_pL G (fun q => s.heap.size ≤ q)) (hb18 : am_ad G 18 38 0 = b) (hX : va_X b L xs s s.heap) (hbl : b < s.heap.size) (hL : L ≤ 3072) {n : Nat} (hn : n + 6 ≤ L) (hkc : kc + 137 ≤ room_1.cells) (hks : ks + 1587 ≤ room_1.slots) {σ σ1 σ2 : am_S} {r : Int32} (h7 : fn_X7_set (xs (n + 1)) (xs (n + 2)) (((((xs (n + 3)) : Int32).toInt64) <<< ((32 : Int32).toInt64 &&& 63)) ||| ((((xs (n + 4)) : Int32).toInt64) &&& 4294967295)) σ = some (r, σ1)) (h8 : fn_X8_set 5 (xs (n + 1)) (xs (n + 2)) (((((xs (n + 3)) : Int32).toInt64) <<< ((32 : Int32).toInt64 &&& 63)) ||| ((((xs (n + 4)) : Int32).toInt64) &&& 4294967295)) σ1 = some (r, σ2))
    (kk : ∀ (G1 : am_G) (kc1 ks1 : Nat), am_ag G G1 → am_X p s m #[Value.ref b] c code RL 4 am_pL G1 (fun q => s.heap.size ≤ q) → kc1 ≤ kc + 137 → ks1 ≤ ks + 1587 → am_A p l e room_1 s m #[Value.ref b] below meth c 4 G1 (fun q => s.heap.size ≤ q) kc1 ks1 Q (1774, [(0, am_r 18 38 0), (1, am_r 0 0 0), (2, am_r 5 40 0), (3, am_i (nI n))], [], σ2)) :
    am_A p l e room_1 s m #[Value.ref b] below meth c 4 G (fun q => s.heap.size ≤ q) kc ks Q (279, [(0, am_r 18 38 0), (1, am_r 0 0 0), (2, am_r 5 40 0), (3, am_i (nI n))], [], σ) := by
  have hc := ct_L1
  refine am_blk hc X 0 1 (fr' := (280, [(0, am_r 18 38 0), (1, am_r 0 0 0), (2, am_r 5 40 0), (3, am_i (nI n))], [am_r 0 0 0], σ)) rfl ⟨trivial, trivial⟩ ?_
  refine am_scr hc X hb18 hX hbl hL 1 (k := 1) rfl rfl rfl rfl rfl rfl (by omega) ?_
  refine am_scr hc X hb18 hX hbl hL 6 (k := 2) rfl rfl rfl rfl rfl rfl (by omega) ?_
  refine am_scr hc X hb18 hX hbl hL 11 (k := 3) rfl rfl rfl rfl rfl rfl (by omega) ?_
  refine am_blk hc X 16 1 (fr' := (296, [(0, am_r 18 38 0), (1, am_r 0 0 0), (2, am_r 5 40 0), (3, am_i (nI n))], [am_l ((xs (n + 3)) : Int32).toInt64, am_i (xs (n + 2)), am_i (xs (n + 1)), am_r 0 0 0], σ)) rfl ⟨trivial, trivial⟩ ?_
  refine am_blk hc X 17 1 (fr' := (298, [(0, am_r 18 38 0), (1, am_r 0 0 0), (2, am_r 5 40 0), (3, am_i (nI n))], [am_i 32, am_l ((xs (n + 3)) : Int32).toInt64, am_i (xs (n + 2)), am_i (xs (n + 1)), am_r 0 0 0], σ)) rfl ⟨trivial, trivial⟩ ?_
  refine am_blk hc X 18 1 (fr' := (299, [(0, am_r 18 38 0), (1, am_r 0 0 0), (2, am_r 5 40 0), (3, am_i (nI n))], [am_l ((((xs (n + 3)) : Int32).toInt64) <<< ((32 : Int32).toInt64 &&& 63)), am_i (xs (n + 2)), am_i (xs (n + 1)), am_r 0 0 0], σ)) rfl ⟨trivial, trivial⟩ ?_
  refine am_scr hc X hb18 hX hbl hL 19 (k := 4) rfl rfl rfl rfl rfl rfl (by omega) ?_
  refine am_blk hc X 24 1 (fr' := (305, [(0, am_r 18 38 0), (1, am_r 0 0 0), (2, am_r 5 40 0), (3, am_i (nI n))], [am_l ((xs (n + 4)) : Int32).toInt64, am_l ((((xs (n + 3)) : Int32).toInt64) <<< ((32 : Int32).toInt64 &&& 63)), am_i (xs (n + 2)), am_i (xs (n + 1)), am_r 0 0 0], σ)) rfl ⟨trivial, trivial⟩ ?_
  refine am_blk hc X 25 1 (fr' := (308, [(0, am_r 18 38 0), (1, am_r 0 0 0), (2, am_r 5 40 0), (3, am_i (nI n))], [am_l 4294967295, am_l ((xs (n + 4)) : Int32).toInt64, am_l ((((xs (n + 3)) : Int32).toInt64) <<< ((32 : Int32).toInt64 &&& 63)), am_i (xs (n + 2)), am_i (xs (n + 1)), am_r 0 0 0], σ)) rfl ⟨trivial, trivial⟩ ?_
  refine am_blk hc X 26 1 (fr' := (309, [(0, am_r 18 38 0), (1, am_r 0 0 0), (2, am_r 5 40 0), (3, am_i (nI n))], [am_l ((((xs (n + 4)) : Int32).toInt64) &&& 4294967295), am_l ((((xs (n + 3)) : Int32).toInt64) <<< ((32 : Int32).toInt64 &&& 63)), am_i (xs (n + 2)), am_i (xs (n + 1)), am_r 0 0 0], σ)) rfl ⟨trivial, trivial⟩ ?_
  refine am_blk hc X 27 1 (fr' := (310, [(0, am_r 18 38 0), (1, am_r 0 0 0), (2, am_r 5 40 0), (3, am_i (nI n))], [am_l (((((xs (n + 3)) : Int32).toInt64) <<< ((32 : Int32).toInt64 &&& 63)) ||| ((((xs (n + 4)) : Int32).toInt64) &&& 4294967295)), am_i (xs (n + 2)), am_i (xs (n + 1)), am_r 0 0 0], σ)) rfl ⟨trivial, trivial⟩ ?_
  refine am_callVL hc 28 X (k := 0) (i := 0) (o := 0) (As := [am_i (xs (n + 1)), am_i (xs (n + 2)), am_l (((((xs (n + 3)) : Int32).toInt64) <<< ((32 : Int32).toInt64 &&& 63)) ||| ((((xs (n + 4)) : Int32).toInt64) &&& 4294967295))]) (rest := []) (σ' := σ1) (r := some (am_i r)) rfl (ok_X7_set l (xs (n + 1)) (xs (n + 2)) (((((xs (n + 3)) : Int32).toInt64) <<< ((32 : Int32).toInt64 &&& 63)) ||| ((((xs (n + 4)) : Int32).toInt64) &&& 4294967295)) σ h7) yv_X7_set ml_L_20 cl_0 ⟨by decide, by decide⟩ rfl rfl rfl ⟨Nat.le_trans (Nat.le_add_right _ _) hkc, Nat.le_trans (Nat.le_add_right _ _) hks⟩ ?_
  refine am_blk hc X 29 1 (fr' := (314, [(0, am_r 18 38 0), (1, am_r 0 0 0), (2, am_r 5 40 0), (3, am_i (nI n))], [am_r 5 40 0, am_i r], σ1)) rfl ⟨trivial, trivial⟩ ?_
  refine am_scr hc X hb18 hX hbl hL 30 (k := 1) rfl rfl rfl rfl rfl rfl (by omega) ?_
  refine am_scr hc X hb18 hX hbl hL 35 (k := 2) rfl rfl rfl rfl rfl rfl (by omega) ?_
  refine am_scr hc X hb18 hX hbl hL 40 (k := 3) rfl rfl rfl rfl rfl rfl (by omega) ?_
  refine am_blk hc X 45 1 (fr' := (330, [(0, am_r 18 38 0), (1, am_r 0 0 0), (2, am_r 5 40 0), (3, am_i (nI n))], [am_l ((xs (n + 3)) : Int32).toInt64, am_i (xs (n + 2)), am_i (xs (n + 1)), am_r 5 40 0, am_i r], σ1)) rfl ⟨trivial, trivial⟩ ?_
  refine am_blk hc X 46 1 (fr' := (332, [(0, am_r 18 38 0), (1, am_r 0 0 0), (2, am_r 5 40 0), (3, am_i (nI n))], [am_i 32, am_l ((xs (n + 3)) : Int32).toInt64, am_i (xs (n + 2)), am_i (xs (n + 1)), am_r 5 40 0, am_i r], σ1)) rfl ⟨trivial, trivial⟩ ?_
  refine am_blk hc X 47 1 (fr' := (333, [(0, am_r 18 38 0), (1, am_r 0 0 0), (2, am_r 5 40 0), (3, am_i (nI n))], [am_l ((((xs (n + 3)) : Int32).toInt64) <<< ((32 : Int32).toInt64 &&& 63)), am_i (xs (n + 2)), am_i (xs (n + 1)), am_r 5 40 0, am_i r], σ1)) rfl ⟨trivial, trivial⟩ ?_
  refine am_scr hc X hb18 hX hbl hL 48 (k := 4) rfl rfl rfl rfl rfl rfl (by omega) ?_
  refine am_blk hc X 53 1 (fr' := (339, [(0, am_r 18 38 0), (1, am_r 0 0 0), (2, am_r 5 40 0), (3, am_i (nI n))], [am_l ((xs (n + 4)) : Int32).toInt64, am_l ((((xs (n + 3)) : Int32).toInt64) <<< ((32 : Int32).toInt64 &&& 63)), am_i (xs (n + 2)), am_i (xs (n + 1)), am_r 5 40 0, am_i r], σ1)) rfl ⟨trivial, trivial⟩ ?_
  refine am_blk hc X 54 1 (fr' := (342, [(0, am_r 18 38 0), (1, am_r 0 0 0), (2, am_r 5 40 0), (3, am_i (nI n))], [am_l 4294967295, am_l ((xs (n + 4)) : Int32).toInt64, am_l ((((xs (n + 3)) : Int32).toInt64) <<< ((32 : Int32).toInt64 &&& 63)), am_i (xs (n + 2)), am_i (xs (n + 1)), am_r 5 40 0, am_i r], σ1)) rfl ⟨trivial, trivial⟩ ?_
  refine am_blk hc X 55 1 (fr' := (343, [(0, am_r 18 38 0), (1, am_r 0 0 0), (2, am_r 5 40 0), (3, am_i (nI n))], [am_l ((((xs (n + 4)) : Int32).toInt64) &&& 4294967295), am_l ((((xs (n + 3)) : Int32).toInt64) <<< ((32 : Int32).toInt64 &&& 63)), am_i (xs (n + 2)), am_i (xs (n + 1)), am_r 5 40 0, am_i r], σ1)) rfl ⟨trivial, trivial⟩ ?_
  refine am_blk hc X 56 1 (fr' := (344, [(0, am_r 18 38 0), (1, am_r 0 0 0), (2, am_r 5 40 0), (3, am_i (nI n))], [am_l (((((xs (n + 3)) : Int32).toInt64) <<< ((32 : Int32).toInt64 &&& 63)) ||| ((((xs (n + 4)) : Int32).toInt64) &&& 4294967295)), am_i (xs (n + 2)), am_i (xs (n + 1)), am_r 5 40 0, am_i r], σ1)) rfl ⟨trivial, trivial⟩ ?_
  refine am_callVL hc 57 X (k := 40) (i := 0) (o := 5) (As := [am_i (xs (n + 1)), am_i (xs (n + 2)), am_l (((((xs (n + 3)) : Int32).toInt64) <<< ((32 : Int32).toInt64 &&& 63)) ||| ((((xs (n + 4)) : Int32).toInt64) &&& 4294967295))]) (rest := [am_i r]) (σ' := σ2) (r := some (am_i r)) rfl (ok_X8_set l 5 (xs (n + 1)) (xs (n + 2)) (((((xs (n + 3)) : Int32).toInt64) <<< ((32 : Int32).toInt64 &&& 63)) ||| ((((xs (n + 4)) : Int32).toInt64) &&& 4294967295)) σ1 h8) yv_X8_set ml_L_24 cl_40 ⟨by decide, by decide⟩ rfl rfl rfl ⟨Nat.le_trans (Nat.le_add_right _ _) hkc, Nat.le_trans (Nat.le_add_right _ _) hks⟩ ?_
  refine am_icmp_eq hc X 58 (tgt := 1774) rfl (by decide) (fun _ => ?_) (fun z => absurd rfl z)
  exact kk G _ _ am_ag.rf X (Nat.le_add_right _ _) (Nat.le_add_right _ _)
def tb_L2 : List (Nat × Instr × Nat) := [(352, .aload_n 1, 1), (353, .aload_n 0, 1), (354, .iload_n 3, 1), (355, .iconst 1, 1), (356, .iadd, 1), (357, .iaload, 1), (358, .aload_n 0, 1), (359, .iload_n 3, 1), (360, .iconst 2, 1), (361, .iadd, 1), (362, .iaload, 1), (363, .aload_n 0, 1), (364, .iload_n 3, 1), (365, .iconst 3, 1), (366, .iadd, 1), (367, .iaload, 1), (368, .aload_n 0, 1), (369, .iload_n 3, 1), (370, .iconst 4, 1), (371, .iadd, 1), (372, .iaload, 1), (373, .aload_n 0, 1), (374, .iload_n 3, 1), (375, .iconst 5, 1), (376, .iadd, 1), (377, .iaload, 1), (378, .invokevirtual 25, 3), (381, .aload_n 2, 1), (382, .aload_n 0, 1), (383, .iload_n 3, 1), (384, .iconst 1, 1), (385, .iadd, 1), (386, .iaload, 1), (387, .aload_n 0, 1), (388, .iload_n 3, 1), (389, .iconst 2, 1), (390, .iadd, 1), (391, .iaload, 1), (392, .aload_n 0, 1), (393, .iload_n 3, 1), (394, .iconst 3, 1), (395, .iadd, 1), (396, .iaload, 1), (397, .aload_n 0, 1), (398, .iload_n 3, 1), (399, .iconst 4, 1), (400, .iadd, 1), (401, .iaload, 1), (402, .aload_n 0, 1), (403, .iload_n 3, 1), (404, .iconst 5, 1), (405, .iadd, 1), (406, .iaload, 1), (407, .invokevirtual 29, 3), (410, .if_icmp .eq 1364, 3), (413, .iconst 0, 1), (414, .ireturn, 1)]
set_option maxRecDepth 100000 in
theorem ct_L2 : am_code code tb_L2 = true := by decide +kernel
set_option maxRecDepth 100000 in
theorem lc_2 {p : Program} {l : Launch} {e : Env} {s : State} {m : MethodId} {below : List Frame} {meth : Method} {c : Code} {b L : Nat} {xs : Nat → Int32} {G : am_G} {kc ks : Nat} {Q : State → Prop} (X : am_X p s m #[Value.ref b] c code RL 4 am_pL G (fun q => s.heap.size ≤ q)) (hb18 : am_ad G 18 38 0 = b) (hX : va_X b L xs s s.heap) (hbl : b < s.heap.size) (hL : L ≤ 3072) {n : Nat} (hn : n + 6 ≤ L) (hkc : kc + 137 ≤ room_1.cells) (hks : ks + 1587 ≤ room_1.slots) {σ σ1 σ2 : am_S} {r : Int32} (h7 : fn_X7_copy (xs (n + 1)) (xs (n + 2)) (xs (n + 3)) (xs (n + 4)) (xs (n + 5)) σ = some (r, σ1)) (h8 : fn_X8_copy 5 (xs (n + 1)) (xs (n + 2)) (xs (n + 3)) (xs (n + 4)) (xs (n + 5)) σ1 = some (r, σ2))
    (kk : ∀ (G1 : am_G) (kc1 ks1 : Nat), am_ag G G1 → am_X p s m #[Value.ref b] c code RL 4 am_pL G1 (fun q => s.heap.size ≤ q) → kc1 ≤ kc + 137 → ks1 ≤ ks + 1587 → am_A p l e room_1 s m #[Value.ref b] below meth c 4 G1 (fun q => s.heap.size ≤ q) kc1 ks1 Q (1774, [(0, am_r 18 38 0), (1, am_r 0 0 0), (2, am_r 5 40 0), (3, am_i (nI n))], [], σ2)) :
    am_A p l e room_1 s m #[Value.ref b] below meth c 4 G (fun q => s.heap.size ≤ q) kc ks Q (352, [(0, am_r 18 38 0), (1, am_r 0 0 0), (2, am_r 5 40 0), (3, am_i (nI n))], [], σ) := by
  have hc := ct_L2
  refine am_blk hc X 0 1 (fr' := (353, [(0, am_r 18 38 0), (1, am_r 0 0 0), (2, am_r 5 40 0), (3, am_i (nI n))], [am_r 0 0 0], σ)) rfl ⟨trivial, trivial⟩ ?_
  refine am_scr hc X hb18 hX hbl hL 1 (k := 1) rfl rfl rfl rfl rfl rfl (by omega) ?_
  refine am_scr hc X hb18 hX hbl hL 6 (k := 2) rfl rfl rfl rfl rfl rfl (by omega) ?_
  refine am_scr hc X hb18 hX hbl hL 11 (k := 3) rfl rfl rfl rfl rfl rfl (by omega) ?_
  refine am_scr hc X hb18 hX hbl hL 16 (k := 4) rfl rfl rfl rfl rfl rfl (by omega) ?_
  refine am_scr hc X hb18 hX hbl hL 21 (k := 5) rfl rfl rfl rfl rfl rfl (by omega) ?_
  refine am_callVL hc 26 X (k := 0) (i := 0) (o := 0) (As := [am_i (xs (n + 1)), am_i (xs (n + 2)), am_i (xs (n + 3)), am_i (xs (n + 4)), am_i (xs (n + 5))]) (rest := []) (σ' := σ1) (r := some (am_i r)) rfl (ok_X7_copy l (xs (n + 1)) (xs (n + 2)) (xs (n + 3)) (xs (n + 4)) (xs (n + 5)) σ h7) yv_X7_copy ml_L_25 cl_0 ⟨by decide, by decide⟩ rfl rfl rfl ⟨Nat.le_trans (Nat.le_add_right _ _) hkc, Nat.le_trans (Nat.le_add_right _ _) hks⟩ ?_
  refine am_blk hc X 27 1 (fr' := (382, [(0, am_r 18 38 0), (1, am_r 0 0 0), (2, am_r 5 40 0), (3, am_i (nI n))], [am_r 5 40 0, am_i r], σ1)) rfl ⟨trivial, trivial⟩ ?_
  refine am_scr hc X hb18 hX hbl hL 28 (k := 1) rfl rfl rfl rfl rfl rfl (by omega) ?_
  refine am_scr hc X hb18 hX hbl hL 33 (k := 2) rfl rfl rfl rfl rfl rfl (by omega) ?_
  refine am_scr hc X hb18 hX hbl hL 38 (k := 3) rfl rfl rfl rfl rfl rfl (by omega) ?_
  refine am_scr hc X hb18 hX hbl hL 43 (k := 4) rfl rfl rfl rfl rfl rfl (by omega) ?_
  refine am_scr hc X hb18 hX hbl hL 48 (k := 5) rfl rfl rfl rfl rfl rfl (by omega) ?_
  refine am_callVL hc 53 X (k := 40) (i := 0) (o := 5) (As := [am_i (xs (n + 1)), am_i (xs (n + 2)), am_i (xs (n + 3)), am_i (xs (n + 4)), am_i (xs (n + 5))]) (rest := [am_i r]) (σ' := σ2) (r := some (am_i r)) rfl (ok_X8_copy l 5 (xs (n + 1)) (xs (n + 2)) (xs (n + 3)) (xs (n + 4)) (xs (n + 5)) σ1 h8) yv_X8_copy ml_L_29 cl_40 ⟨by decide, by decide⟩ rfl rfl rfl ⟨Nat.le_trans (Nat.le_add_right _ _) hkc, Nat.le_trans (Nat.le_add_right _ _) hks⟩ ?_
  refine am_icmp_eq hc X 54 (tgt := 1774) rfl (by decide) (fun _ => ?_) (fun z => absurd rfl z)
  exact kk G _ _ am_ag.rf X (Nat.le_add_right _ _) (Nat.le_add_right _ _)
def tb_L3 : List (Nat × Instr × Nat) := [(415, .aload_n 1, 1), (416, .aload_n 0, 1), (417, .iload_n 3, 1), (418, .iconst 1, 1), (419, .iadd, 1), (420, .iaload, 1), (421, .aload_n 0, 1), (422, .iload_n 3, 1), (423, .iconst 2, 1), (424, .iadd, 1), (425, .iaload, 1), (426, .invokevirtual 30, 3), (429, .aload_n 2, 1), (430, .aload_n 0, 1), (431, .iload_n 3, 1), (432, .iconst 1, 1), (433, .iadd, 1), (434, .iaload, 1), (435, .aload_n 0, 1), (436, .iload_n 3, 1), (437, .iconst 2, 1), (438, .iadd, 1), (439, .iaload, 1), (440, .invokevirtual 34, 3), (443, .lcmp, 1), (444, .ifCond .eq 1330, 3), (447, .iconst 0, 1), (448, .ireturn, 1)]
set_option maxRecDepth 100000 in
theorem ct_L3 : am_code code tb_L3 = true := by decide +kernel
set_option maxRecDepth 100000 in
theorem lc_3 {p : Program} {l : Launch} {e : Env} {s : State} {m : MethodId} {below : List Frame} {meth : Method} {c : Code} {b L : Nat} {xs : Nat → Int32} {G : am_G} {kc ks : Nat} {Q : State → Prop} (X : am_X p s m #[Value.ref b] c code RL 4 am_pL G (fun q => s.heap.size ≤ q)) (hb18 : am_ad G 18 38 0 = b) (hX : va_X b L xs s s.heap) (hbl : b < s.heap.size) (hL : L ≤ 3072) {n : Nat} (hn : n + 6 ≤ L) (hkc : kc + 137 ≤ room_1.cells) (hks : ks + 1587 ≤ room_1.slots) {σ σ1 σ2 : am_S} {r : Int64} (h7 : fn_X7_element (xs (n + 1)) (xs (n + 2)) σ = some (r, σ1)) (h8 : fn_X8_element 5 (xs (n + 1)) (xs (n + 2)) σ1 = some (r, σ2))
    (kk : ∀ (G1 : am_G) (kc1 ks1 : Nat), am_ag G G1 → am_X p s m #[Value.ref b] c code RL 4 am_pL G1 (fun q => s.heap.size ≤ q) → kc1 ≤ kc + 137 → ks1 ≤ ks + 1587 → am_A p l e room_1 s m #[Value.ref b] below meth c 4 G1 (fun q => s.heap.size ≤ q) kc1 ks1 Q (1774, [(0, am_r 18 38 0), (1, am_r 0 0 0), (2, am_r 5 40 0), (3, am_i (nI n))], [], σ2)) :
    am_A p l e room_1 s m #[Value.ref b] below meth c 4 G (fun q => s.heap.size ≤ q) kc ks Q (415, [(0, am_r 18 38 0), (1, am_r 0 0 0), (2, am_r 5 40 0), (3, am_i (nI n))], [], σ) := by
  have hc := ct_L3
  refine am_blk hc X 0 1 (fr' := (416, [(0, am_r 18 38 0), (1, am_r 0 0 0), (2, am_r 5 40 0), (3, am_i (nI n))], [am_r 0 0 0], σ)) rfl ⟨trivial, trivial⟩ ?_
  refine am_scr hc X hb18 hX hbl hL 1 (k := 1) rfl rfl rfl rfl rfl rfl (by omega) ?_
  refine am_scr hc X hb18 hX hbl hL 6 (k := 2) rfl rfl rfl rfl rfl rfl (by omega) ?_
  refine am_callVL hc 11 X (k := 0) (i := 0) (o := 0) (As := [am_i (xs (n + 1)), am_i (xs (n + 2))]) (rest := []) (σ' := σ1) (r := some (am_l r)) rfl (ok_X7_element l (xs (n + 1)) (xs (n + 2)) σ h7) yv_X7_element ml_L_30 cl_0 ⟨by decide, by decide⟩ rfl rfl rfl ⟨Nat.le_trans (Nat.le_add_right _ _) hkc, Nat.le_trans (Nat.le_add_right _ _) hks⟩ ?_
  refine am_blk hc X 12 1 (fr' := (430, [(0, am_r 18 38 0), (1, am_r 0 0 0), (2, am_r 5 40 0), (3, am_i (nI n))], [am_r 5 40 0, am_l r], σ1)) rfl ⟨trivial, trivial⟩ ?_
  refine am_scr hc X hb18 hX hbl hL 13 (k := 1) rfl rfl rfl rfl rfl rfl (by omega) ?_
  refine am_scr hc X hb18 hX hbl hL 18 (k := 2) rfl rfl rfl rfl rfl rfl (by omega) ?_
  refine am_callVL hc 23 X (k := 40) (i := 0) (o := 5) (As := [am_i (xs (n + 1)), am_i (xs (n + 2))]) (rest := [am_l r]) (σ' := σ2) (r := some (am_l r)) rfl (ok_X8_element l 5 (xs (n + 1)) (xs (n + 2)) σ1 h8) yv_X8_element ml_L_34 cl_40 ⟨by decide, by decide⟩ rfl rfl rfl ⟨Nat.le_trans (Nat.le_add_right _ _) hkc, Nat.le_trans (Nat.le_add_right _ _) hks⟩ ?_
  refine am_blk hc X 24 1 (fr' := (444, [(0, am_r 18 38 0), (1, am_r 0 0 0), (2, am_r 5 40 0), (3, am_i (nI n))], [am_i (lg_cmp r r)], σ2)) rfl ⟨trivial, trivial⟩ ?_
  refine am_if_eq hc X 25 (tgt := 1774) rfl (by decide) (fun _ => ?_) (fun z => absurd (lw_cmp r) z)
  exact kk G _ _ am_ag.rf X (Nat.le_add_right _ _) (Nat.le_add_right _ _)
def tb_L4 : List (Nat × Instr × Nat) := [(449, .aload_n 1, 1), (450, .aload_n 0, 1), (451, .iload_n 3, 1), (452, .iconst 1, 1), (453, .iadd, 1), (454, .iaload, 1), (455, .invokevirtual 35, 3), (458, .aload_n 2, 1), (459, .aload_n 0, 1), (460, .iload_n 3, 1), (461, .iconst 1, 1), (462, .iadd, 1), (463, .iaload, 1), (464, .invokevirtual 39, 3), (467, .if_icmp .eq 1307, 3), (470, .iconst 0, 1), (471, .ireturn, 1)]
set_option maxRecDepth 100000 in
theorem ct_L4 : am_code code tb_L4 = true := by decide +kernel
set_option maxRecDepth 100000 in
theorem lc_4 {p : Program} {l : Launch} {e : Env} {s : State} {m : MethodId} {below : List Frame} {meth : Method} {c : Code} {b L : Nat} {xs : Nat → Int32} {G : am_G} {kc ks : Nat} {Q : State → Prop} (X : am_X p s m #[Value.ref b] c code RL 4 am_pL G (fun q => s.heap.size ≤ q)) (hb18 : am_ad G 18 38 0 = b) (hX : va_X b L xs s s.heap) (hbl : b < s.heap.size) (hL : L ≤ 3072) {n : Nat} (hn : n + 6 ≤ L) (hkc : kc + 137 ≤ room_1.cells) (hks : ks + 1587 ≤ room_1.slots) {σ σ1 σ2 : am_S} {r : Int32} (h7 : fn_X7_holds (xs (n + 1)) σ = some (r, σ1)) (h8 : fn_X8_holds 5 (xs (n + 1)) σ1 = some (r, σ2))
    (kk : ∀ (G1 : am_G) (kc1 ks1 : Nat), am_ag G G1 → am_X p s m #[Value.ref b] c code RL 4 am_pL G1 (fun q => s.heap.size ≤ q) → kc1 ≤ kc + 137 → ks1 ≤ ks + 1587 → am_A p l e room_1 s m #[Value.ref b] below meth c 4 G1 (fun q => s.heap.size ≤ q) kc1 ks1 Q (1774, [(0, am_r 18 38 0), (1, am_r 0 0 0), (2, am_r 5 40 0), (3, am_i (nI n))], [], σ2)) :
    am_A p l e room_1 s m #[Value.ref b] below meth c 4 G (fun q => s.heap.size ≤ q) kc ks Q (449, [(0, am_r 18 38 0), (1, am_r 0 0 0), (2, am_r 5 40 0), (3, am_i (nI n))], [], σ) := by
  have hc := ct_L4
  refine am_blk hc X 0 1 (fr' := (450, [(0, am_r 18 38 0), (1, am_r 0 0 0), (2, am_r 5 40 0), (3, am_i (nI n))], [am_r 0 0 0], σ)) rfl ⟨trivial, trivial⟩ ?_
  refine am_scr hc X hb18 hX hbl hL 1 (k := 1) rfl rfl rfl rfl rfl rfl (by omega) ?_
  refine am_callVL hc 6 X (k := 0) (i := 0) (o := 0) (As := [am_i (xs (n + 1))]) (rest := []) (σ' := σ1) (r := some (am_i r)) rfl (ok_X7_holds l (xs (n + 1)) σ h7) yv_X7_holds ml_L_35 cl_0 ⟨by decide, by decide⟩ rfl rfl rfl ⟨Nat.le_trans (Nat.le_add_right _ _) hkc, Nat.le_trans (Nat.le_add_right _ _) hks⟩ ?_
  refine am_blk hc X 7 1 (fr' := (459, [(0, am_r 18 38 0), (1, am_r 0 0 0), (2, am_r 5 40 0), (3, am_i (nI n))], [am_r 5 40 0, am_i r], σ1)) rfl ⟨trivial, trivial⟩ ?_
  refine am_scr hc X hb18 hX hbl hL 8 (k := 1) rfl rfl rfl rfl rfl rfl (by omega) ?_
  refine am_callVL hc 13 X (k := 40) (i := 0) (o := 5) (As := [am_i (xs (n + 1))]) (rest := [am_i r]) (σ' := σ2) (r := some (am_i r)) rfl (ok_X8_holds l 5 (xs (n + 1)) σ1 h8) yv_X8_holds ml_L_39 cl_40 ⟨by decide, by decide⟩ rfl rfl rfl ⟨Nat.le_trans (Nat.le_add_right _ _) hkc, Nat.le_trans (Nat.le_add_right _ _) hks⟩ ?_
  refine am_icmp_eq hc X 14 (tgt := 1774) rfl (by decide) (fun _ => ?_) (fun z => absurd rfl z)
  exact kk G _ _ am_ag.rf X (Nat.le_add_right _ _) (Nat.le_add_right _ _)
def tb_L5 : List (Nat × Instr × Nat) := [(472, .aload_n 1, 1), (473, .aload_n 0, 1), (474, .iload_n 3, 1), (475, .iconst 1, 1), (476, .iadd, 1), (477, .iaload, 1), (478, .aload_n 0, 1), (479, .iload_n 3, 1), (480, .iconst 2, 1), (481, .iadd, 1), (482, .iaload, 1), (483, .invokevirtual 40, 3), (486, .aload_n 2, 1), (487, .aload_n 0, 1), (488, .iload_n 3, 1), (489, .iconst 1, 1), (490, .iadd, 1), (491, .iaload, 1), (492, .aload_n 0, 1), (493, .iload_n 3, 1), (494, .iconst 2, 1), (495, .iadd, 1), (496, .iaload, 1), (497, .invokevirtual 44, 3), (500, .if_icmp .eq 1274, 3), (503, .iconst 0, 1), (504, .ireturn, 1)]
set_option maxRecDepth 100000 in
theorem ct_L5 : am_code code tb_L5 = true := by decide +kernel
set_option maxRecDepth 100000 in
theorem lc_5 {p : Program} {l : Launch} {e : Env} {s : State} {m : MethodId} {below : List Frame} {meth : Method} {c : Code} {b L : Nat} {xs : Nat → Int32} {G : am_G} {kc ks : Nat} {Q : State → Prop} (X : am_X p s m #[Value.ref b] c code RL 4 am_pL G (fun q => s.heap.size ≤ q)) (hb18 : am_ad G 18 38 0 = b) (hX : va_X b L xs s s.heap) (hbl : b < s.heap.size) (hL : L ≤ 3072) {n : Nat} (hn : n + 6 ≤ L) (hkc : kc + 137 ≤ room_1.cells) (hks : ks + 1587 ≤ room_1.slots) {σ σ1 σ2 : am_S} {r : Int32} (h7 : fn_X7_show (xs (n + 1)) (xs (n + 2)) σ = some (r, σ1)) (h8 : fn_X8_show 5 (xs (n + 1)) (xs (n + 2)) σ1 = some (r, σ2))
    (kk : ∀ (G1 : am_G) (kc1 ks1 : Nat), am_ag G G1 → am_X p s m #[Value.ref b] c code RL 4 am_pL G1 (fun q => s.heap.size ≤ q) → kc1 ≤ kc + 137 → ks1 ≤ ks + 1587 → am_A p l e room_1 s m #[Value.ref b] below meth c 4 G1 (fun q => s.heap.size ≤ q) kc1 ks1 Q (1774, [(0, am_r 18 38 0), (1, am_r 0 0 0), (2, am_r 5 40 0), (3, am_i (nI n))], [], σ2)) :
    am_A p l e room_1 s m #[Value.ref b] below meth c 4 G (fun q => s.heap.size ≤ q) kc ks Q (472, [(0, am_r 18 38 0), (1, am_r 0 0 0), (2, am_r 5 40 0), (3, am_i (nI n))], [], σ) := by
  have hc := ct_L5
  refine am_blk hc X 0 1 (fr' := (473, [(0, am_r 18 38 0), (1, am_r 0 0 0), (2, am_r 5 40 0), (3, am_i (nI n))], [am_r 0 0 0], σ)) rfl ⟨trivial, trivial⟩ ?_
  refine am_scr hc X hb18 hX hbl hL 1 (k := 1) rfl rfl rfl rfl rfl rfl (by omega) ?_
  refine am_scr hc X hb18 hX hbl hL 6 (k := 2) rfl rfl rfl rfl rfl rfl (by omega) ?_
  refine am_callVL hc 11 X (k := 0) (i := 0) (o := 0) (As := [am_i (xs (n + 1)), am_i (xs (n + 2))]) (rest := []) (σ' := σ1) (r := some (am_i r)) rfl (ok_X7_show l (xs (n + 1)) (xs (n + 2)) σ h7) yv_X7_show ml_L_40 cl_0 ⟨by decide, by decide⟩ rfl rfl rfl ⟨Nat.le_trans (Nat.le_add_right _ _) hkc, Nat.le_trans (Nat.le_add_right _ _) hks⟩ ?_
  refine am_blk hc X 12 1 (fr' := (487, [(0, am_r 18 38 0), (1, am_r 0 0 0), (2, am_r 5 40 0), (3, am_i (nI n))], [am_r 5 40 0, am_i r], σ1)) rfl ⟨trivial, trivial⟩ ?_
  refine am_scr hc X hb18 hX hbl hL 13 (k := 1) rfl rfl rfl rfl rfl rfl (by omega) ?_
  refine am_scr hc X hb18 hX hbl hL 18 (k := 2) rfl rfl rfl rfl rfl rfl (by omega) ?_
  refine am_callVL hc 23 X (k := 40) (i := 0) (o := 5) (As := [am_i (xs (n + 1)), am_i (xs (n + 2))]) (rest := [am_i r]) (σ' := σ2) (r := some (am_i r)) rfl (ok_X8_show l 5 (xs (n + 1)) (xs (n + 2)) σ1 h8) yv_X8_show ml_L_44 cl_40 ⟨by decide, by decide⟩ rfl rfl rfl ⟨Nat.le_trans (Nat.le_add_right _ _) hkc, Nat.le_trans (Nat.le_add_right _ _) hks⟩ ?_
  refine am_icmp_eq hc X 24 (tgt := 1774) rfl (by decide) (fun _ => ?_) (fun z => absurd rfl z)
  exact kk G _ _ am_ag.rf X (Nat.le_add_right _ _) (Nat.le_add_right _ _)
def tb_L6 : List (Nat × Instr × Nat) := [(505, .aload_n 1, 1), (506, .aload_n 0, 1), (507, .iload_n 3, 1), (508, .iconst 1, 1), (509, .iadd, 1), (510, .iaload, 1), (511, .aload_n 0, 1), (512, .iload_n 3, 1), (513, .iconst 2, 1), (514, .iadd, 1), (515, .iaload, 1), (516, .invokevirtual 45, 3), (519, .aload_n 2, 1), (520, .aload_n 0, 1), (521, .iload_n 3, 1), (522, .iconst 1, 1), (523, .iadd, 1), (524, .iaload, 1), (525, .aload_n 0, 1), (526, .iload_n 3, 1), (527, .iconst 2, 1), (528, .iadd, 1), (529, .iaload, 1), (530, .invokevirtual 48, 3), (533, .if_icmp .eq 1241, 3), (536, .iconst 0, 1), (537, .ireturn, 1)]
set_option maxRecDepth 100000 in
theorem ct_L6 : am_code code tb_L6 = true := by decide +kernel
set_option maxRecDepth 100000 in
theorem lc_6 {p : Program} {l : Launch} {e : Env} {s : State} {m : MethodId} {below : List Frame} {meth : Method} {c : Code} {b L : Nat} {xs : Nat → Int32} {G : am_G} {kc ks : Nat} {Q : State → Prop} (X : am_X p s m #[Value.ref b] c code RL 4 am_pL G (fun q => s.heap.size ≤ q)) (hb18 : am_ad G 18 38 0 = b) (hX : va_X b L xs s s.heap) (hbl : b < s.heap.size) (hL : L ≤ 3072) {n : Nat} (hn : n + 6 ≤ L) (hkc : kc + 137 ≤ room_1.cells) (hks : ks + 1587 ≤ room_1.slots) {σ σ1 σ2 : am_S} {r : Int32} (h7 : fn_X7_says (xs (n + 1)) (xs (n + 2)) σ = some (r, σ1)) (h8 : fn_X8_says 5 (xs (n + 1)) (xs (n + 2)) σ1 = some (r, σ2))
    (kk : ∀ (G1 : am_G) (kc1 ks1 : Nat), am_ag G G1 → am_X p s m #[Value.ref b] c code RL 4 am_pL G1 (fun q => s.heap.size ≤ q) → kc1 ≤ kc + 137 → ks1 ≤ ks + 1587 → am_A p l e room_1 s m #[Value.ref b] below meth c 4 G1 (fun q => s.heap.size ≤ q) kc1 ks1 Q (1774, [(0, am_r 18 38 0), (1, am_r 0 0 0), (2, am_r 5 40 0), (3, am_i (nI n))], [], σ2)) :
    am_A p l e room_1 s m #[Value.ref b] below meth c 4 G (fun q => s.heap.size ≤ q) kc ks Q (505, [(0, am_r 18 38 0), (1, am_r 0 0 0), (2, am_r 5 40 0), (3, am_i (nI n))], [], σ) := by
  have hc := ct_L6
  refine am_blk hc X 0 1 (fr' := (506, [(0, am_r 18 38 0), (1, am_r 0 0 0), (2, am_r 5 40 0), (3, am_i (nI n))], [am_r 0 0 0], σ)) rfl ⟨trivial, trivial⟩ ?_
  refine am_scr hc X hb18 hX hbl hL 1 (k := 1) rfl rfl rfl rfl rfl rfl (by omega) ?_
  refine am_scr hc X hb18 hX hbl hL 6 (k := 2) rfl rfl rfl rfl rfl rfl (by omega) ?_
  refine am_callVL hc 11 X (k := 0) (i := 0) (o := 0) (As := [am_i (xs (n + 1)), am_i (xs (n + 2))]) (rest := []) (σ' := σ1) (r := some (am_i r)) rfl (ok_X7_says l (xs (n + 1)) (xs (n + 2)) σ h7) yv_X7_says ml_L_45 cl_0 ⟨by decide, by decide⟩ rfl rfl rfl ⟨Nat.le_trans (Nat.le_add_right _ _) hkc, Nat.le_trans (Nat.le_add_right _ _) hks⟩ ?_
  refine am_blk hc X 12 1 (fr' := (520, [(0, am_r 18 38 0), (1, am_r 0 0 0), (2, am_r 5 40 0), (3, am_i (nI n))], [am_r 5 40 0, am_i r], σ1)) rfl ⟨trivial, trivial⟩ ?_
  refine am_scr hc X hb18 hX hbl hL 13 (k := 1) rfl rfl rfl rfl rfl rfl (by omega) ?_
  refine am_scr hc X hb18 hX hbl hL 18 (k := 2) rfl rfl rfl rfl rfl rfl (by omega) ?_
  refine am_callVL hc 23 X (k := 40) (i := 0) (o := 5) (As := [am_i (xs (n + 1)), am_i (xs (n + 2))]) (rest := [am_i r]) (σ' := σ2) (r := some (am_i r)) rfl (ok_X8_says l 5 (xs (n + 1)) (xs (n + 2)) σ1 h8) yv_X8_says ml_L_48 cl_40 ⟨by decide, by decide⟩ rfl rfl rfl ⟨Nat.le_trans (Nat.le_add_right _ _) hkc, Nat.le_trans (Nat.le_add_right _ _) hks⟩ ?_
  refine am_icmp_eq hc X 24 (tgt := 1774) rfl (by decide) (fun _ => ?_) (fun z => absurd rfl z)
  exact kk G _ _ am_ag.rf X (Nat.le_add_right _ _) (Nat.le_add_right _ _)
def tb_L7 : List (Nat × Instr × Nat) := [(538, .aload_n 1, 1), (539, .aload_n 0, 1), (540, .iload_n 3, 1), (541, .iconst 1, 1), (542, .iadd, 1), (543, .iaload, 1), (544, .aload_n 0, 1), (545, .iload_n 3, 1), (546, .iconst 2, 1), (547, .iadd, 1), (548, .iaload, 1), (549, .aload_n 0, 1), (550, .iload_n 3, 1), (551, .iconst 3, 1), (552, .iadd, 1), (553, .iaload, 1), (554, .invokevirtual 49, 3), (557, .aload_n 2, 1), (558, .aload_n 0, 1), (559, .iload_n 3, 1), (560, .iconst 1, 1), (561, .iadd, 1), (562, .iaload, 1), (563, .aload_n 0, 1), (564, .iload_n 3, 1), (565, .iconst 2, 1), (566, .iadd, 1), (567, .iaload, 1), (568, .aload_n 0, 1), (569, .iload_n 3, 1), (570, .iconst 3, 1), (571, .iadd, 1), (572, .iaload, 1), (573, .invokevirtual 52, 3), (576, .if_icmp .eq 1198, 3), (579, .iconst 0, 1), (580, .ireturn, 1)]
set_option maxRecDepth 100000 in
theorem ct_L7 : am_code code tb_L7 = true := by decide +kernel
set_option maxRecDepth 100000 in
theorem lc_7 {p : Program} {l : Launch} {e : Env} {s : State} {m : MethodId} {below : List Frame} {meth : Method} {c : Code} {b L : Nat} {xs : Nat → Int32} {G : am_G} {kc ks : Nat} {Q : State → Prop} (X : am_X p s m #[Value.ref b] c code RL 4 am_pL G (fun q => s.heap.size ≤ q)) (hb18 : am_ad G 18 38 0 = b) (hX : va_X b L xs s s.heap) (hbl : b < s.heap.size) (hL : L ≤ 3072) {n : Nat} (hn : n + 6 ≤ L) (hkc : kc + 137 ≤ room_1.cells) (hks : ks + 1587 ≤ room_1.slots) {σ σ1 σ2 : am_S} {r : Int32} (h7 : fn_X7_ask (xs (n + 1)) (xs (n + 2)) (xs (n + 3)) σ = some (r, σ1)) (h8 : fn_X8_ask 5 (xs (n + 1)) (xs (n + 2)) (xs (n + 3)) σ1 = some (r, σ2))
    (kk : ∀ (G1 : am_G) (kc1 ks1 : Nat), am_ag G G1 → am_X p s m #[Value.ref b] c code RL 4 am_pL G1 (fun q => s.heap.size ≤ q) → kc1 ≤ kc + 137 → ks1 ≤ ks + 1587 → am_A p l e room_1 s m #[Value.ref b] below meth c 4 G1 (fun q => s.heap.size ≤ q) kc1 ks1 Q (1774, [(0, am_r 18 38 0), (1, am_r 0 0 0), (2, am_r 5 40 0), (3, am_i (nI n))], [], σ2)) :
    am_A p l e room_1 s m #[Value.ref b] below meth c 4 G (fun q => s.heap.size ≤ q) kc ks Q (538, [(0, am_r 18 38 0), (1, am_r 0 0 0), (2, am_r 5 40 0), (3, am_i (nI n))], [], σ) := by
  have hc := ct_L7
  refine am_blk hc X 0 1 (fr' := (539, [(0, am_r 18 38 0), (1, am_r 0 0 0), (2, am_r 5 40 0), (3, am_i (nI n))], [am_r 0 0 0], σ)) rfl ⟨trivial, trivial⟩ ?_
  refine am_scr hc X hb18 hX hbl hL 1 (k := 1) rfl rfl rfl rfl rfl rfl (by omega) ?_
  refine am_scr hc X hb18 hX hbl hL 6 (k := 2) rfl rfl rfl rfl rfl rfl (by omega) ?_
  refine am_scr hc X hb18 hX hbl hL 11 (k := 3) rfl rfl rfl rfl rfl rfl (by omega) ?_
  refine am_callVL hc 16 X (k := 0) (i := 0) (o := 0) (As := [am_i (xs (n + 1)), am_i (xs (n + 2)), am_i (xs (n + 3))]) (rest := []) (σ' := σ1) (r := some (am_i r)) rfl (ok_X7_ask l (xs (n + 1)) (xs (n + 2)) (xs (n + 3)) σ h7) yv_X7_ask ml_L_49 cl_0 ⟨by decide, by decide⟩ rfl rfl rfl ⟨Nat.le_trans (Nat.le_add_right _ _) hkc, Nat.le_trans (Nat.le_add_right _ _) hks⟩ ?_
  refine am_blk hc X 17 1 (fr' := (558, [(0, am_r 18 38 0), (1, am_r 0 0 0), (2, am_r 5 40 0), (3, am_i (nI n))], [am_r 5 40 0, am_i r], σ1)) rfl ⟨trivial, trivial⟩ ?_
  refine am_scr hc X hb18 hX hbl hL 18 (k := 1) rfl rfl rfl rfl rfl rfl (by omega) ?_
  refine am_scr hc X hb18 hX hbl hL 23 (k := 2) rfl rfl rfl rfl rfl rfl (by omega) ?_
  refine am_scr hc X hb18 hX hbl hL 28 (k := 3) rfl rfl rfl rfl rfl rfl (by omega) ?_
  refine am_callVL hc 33 X (k := 40) (i := 0) (o := 5) (As := [am_i (xs (n + 1)), am_i (xs (n + 2)), am_i (xs (n + 3))]) (rest := [am_i r]) (σ' := σ2) (r := some (am_i r)) rfl (ok_X8_ask l 5 (xs (n + 1)) (xs (n + 2)) (xs (n + 3)) σ1 h8) yv_X8_ask ml_L_52 cl_40 ⟨by decide, by decide⟩ rfl rfl rfl ⟨Nat.le_trans (Nat.le_add_right _ _) hkc, Nat.le_trans (Nat.le_add_right _ _) hks⟩ ?_
  refine am_icmp_eq hc X 34 (tgt := 1774) rfl (by decide) (fun _ => ?_) (fun z => absurd rfl z)
  exact kk G _ _ am_ag.rf X (Nat.le_add_right _ _) (Nat.le_add_right _ _)
def tb_L8 : List (Nat × Instr × Nat) := [(581, .aload_n 1, 1), (582, .aload_n 0, 1), (583, .iload_n 3, 1), (584, .iconst 1, 1), (585, .iadd, 1), (586, .iaload, 1), (587, .aload_n 0, 1), (588, .iload_n 3, 1), (589, .iconst 2, 1), (590, .iadd, 1), (591, .iaload, 1), (592, .aload_n 0, 1), (593, .iload_n 3, 1), (594, .iconst 3, 1), (595, .iadd, 1), (596, .iaload, 1), (597, .aload_n 0, 1), (598, .iload_n 3, 1), (599, .iconst 4, 1), (600, .iadd, 1), (601, .iaload, 1), (602, .invokevirtual 53, 3), (605, .aload_n 2, 1), (606, .aload_n 0, 1), (607, .iload_n 3, 1), (608, .iconst 1, 1), (609, .iadd, 1), (610, .iaload, 1), (611, .aload_n 0, 1), (612, .iload_n 3, 1), (613, .iconst 2, 1), (614, .iadd, 1), (615, .iaload, 1), (616, .aload_n 0, 1), (617, .iload_n 3, 1), (618, .iconst 3, 1), (619, .iadd, 1), (620, .iaload, 1), (621, .aload_n 0, 1), (622, .iload_n 3, 1), (623, .iconst 4, 1), (624, .iadd, 1), (625, .iaload, 1), (626, .invokevirtual 57, 3), (629, .if_icmp .eq 1145, 3), (632, .iconst 0, 1), (633, .ireturn, 1)]
set_option maxRecDepth 100000 in
theorem ct_L8 : am_code code tb_L8 = true := by decide +kernel
set_option maxRecDepth 100000 in
theorem lc_8 {p : Program} {l : Launch} {e : Env} {s : State} {m : MethodId} {below : List Frame} {meth : Method} {c : Code} {b L : Nat} {xs : Nat → Int32} {G : am_G} {kc ks : Nat} {Q : State → Prop} (X : am_X p s m #[Value.ref b] c code RL 4 am_pL G (fun q => s.heap.size ≤ q)) (hb18 : am_ad G 18 38 0 = b) (hX : va_X b L xs s s.heap) (hbl : b < s.heap.size) (hL : L ≤ 3072) {n : Nat} (hn : n + 6 ≤ L) (hkc : kc + 137 ≤ room_1.cells) (hks : ks + 1587 ≤ room_1.slots) {σ σ1 σ2 : am_S} {r : Int32} (h7 : fn_X7_pass (xs (n + 1)) (xs (n + 2)) (xs (n + 3)) (xs (n + 4)) σ = some (r, σ1)) (h8 : fn_X8_pass 5 (xs (n + 1)) (xs (n + 2)) (xs (n + 3)) (xs (n + 4)) σ1 = some (r, σ2))
    (kk : ∀ (G1 : am_G) (kc1 ks1 : Nat), am_ag G G1 → am_X p s m #[Value.ref b] c code RL 4 am_pL G1 (fun q => s.heap.size ≤ q) → kc1 ≤ kc + 137 → ks1 ≤ ks + 1587 → am_A p l e room_1 s m #[Value.ref b] below meth c 4 G1 (fun q => s.heap.size ≤ q) kc1 ks1 Q (1774, [(0, am_r 18 38 0), (1, am_r 0 0 0), (2, am_r 5 40 0), (3, am_i (nI n))], [], σ2)) :
    am_A p l e room_1 s m #[Value.ref b] below meth c 4 G (fun q => s.heap.size ≤ q) kc ks Q (581, [(0, am_r 18 38 0), (1, am_r 0 0 0), (2, am_r 5 40 0), (3, am_i (nI n))], [], σ) := by
  have hc := ct_L8
  refine am_blk hc X 0 1 (fr' := (582, [(0, am_r 18 38 0), (1, am_r 0 0 0), (2, am_r 5 40 0), (3, am_i (nI n))], [am_r 0 0 0], σ)) rfl ⟨trivial, trivial⟩ ?_
  refine am_scr hc X hb18 hX hbl hL 1 (k := 1) rfl rfl rfl rfl rfl rfl (by omega) ?_
  refine am_scr hc X hb18 hX hbl hL 6 (k := 2) rfl rfl rfl rfl rfl rfl (by omega) ?_
  refine am_scr hc X hb18 hX hbl hL 11 (k := 3) rfl rfl rfl rfl rfl rfl (by omega) ?_
  refine am_scr hc X hb18 hX hbl hL 16 (k := 4) rfl rfl rfl rfl rfl rfl (by omega) ?_
  refine am_callVL hc 21 X (k := 0) (i := 0) (o := 0) (As := [am_i (xs (n + 1)), am_i (xs (n + 2)), am_i (xs (n + 3)), am_i (xs (n + 4))]) (rest := []) (σ' := σ1) (r := some (am_i r)) rfl (ok_X7_pass l (xs (n + 1)) (xs (n + 2)) (xs (n + 3)) (xs (n + 4)) σ h7) yv_X7_pass ml_L_53 cl_0 ⟨by decide, by decide⟩ rfl rfl rfl ⟨Nat.le_trans (Nat.le_add_right _ _) hkc, Nat.le_trans (Nat.le_add_right _ _) hks⟩ ?_
  refine am_blk hc X 22 1 (fr' := (606, [(0, am_r 18 38 0), (1, am_r 0 0 0), (2, am_r 5 40 0), (3, am_i (nI n))], [am_r 5 40 0, am_i r], σ1)) rfl ⟨trivial, trivial⟩ ?_
  refine am_scr hc X hb18 hX hbl hL 23 (k := 1) rfl rfl rfl rfl rfl rfl (by omega) ?_
  refine am_scr hc X hb18 hX hbl hL 28 (k := 2) rfl rfl rfl rfl rfl rfl (by omega) ?_
  refine am_scr hc X hb18 hX hbl hL 33 (k := 3) rfl rfl rfl rfl rfl rfl (by omega) ?_
  refine am_scr hc X hb18 hX hbl hL 38 (k := 4) rfl rfl rfl rfl rfl rfl (by omega) ?_
  refine am_callVL hc 43 X (k := 40) (i := 0) (o := 5) (As := [am_i (xs (n + 1)), am_i (xs (n + 2)), am_i (xs (n + 3)), am_i (xs (n + 4))]) (rest := [am_i r]) (σ' := σ2) (r := some (am_i r)) rfl (ok_X8_pass l 5 (xs (n + 1)) (xs (n + 2)) (xs (n + 3)) (xs (n + 4)) σ1 h8) yv_X8_pass ml_L_57 cl_40 ⟨by decide, by decide⟩ rfl rfl rfl ⟨Nat.le_trans (Nat.le_add_right _ _) hkc, Nat.le_trans (Nat.le_add_right _ _) hks⟩ ?_
  refine am_icmp_eq hc X 44 (tgt := 1774) rfl (by decide) (fun _ => ?_) (fun z => absurd rfl z)
  exact kk G _ _ am_ag.rf X (Nat.le_add_right _ _) (Nat.le_add_right _ _)
def tb_L9 : List (Nat × Instr × Nat) := [(634, .aload_n 1, 1), (635, .aload_n 0, 1), (636, .iload_n 3, 1), (637, .iconst 1, 1), (638, .iadd, 1), (639, .iaload, 1), (640, .aload_n 0, 1), (641, .iload_n 3, 1), (642, .iconst 2, 1), (643, .iadd, 1), (644, .iaload, 1), (645, .aload_n 0, 1), (646, .iload_n 3, 1), (647, .iconst 3, 1), (648, .iadd, 1), (649, .iaload, 1), (650, .invokevirtual 58, 3), (653, .aload_n 2, 1), (654, .aload_n 0, 1), (655, .iload_n 3, 1), (656, .iconst 1, 1), (657, .iadd, 1), (658, .iaload, 1), (659, .aload_n 0, 1), (660, .iload_n 3, 1), (661, .iconst 2, 1), (662, .iadd, 1), (663, .iaload, 1), (664, .aload_n 0, 1), (665, .iload_n 3, 1), (666, .iconst 3, 1), (667, .iadd, 1), (668, .iaload, 1), (669, .invokevirtual 61, 3), (672, .if_icmp .eq 1102, 3), (675, .iconst 0, 1), (676, .ireturn, 1)]
set_option maxRecDepth 100000 in
theorem ct_L9 : am_code code tb_L9 = true := by decide +kernel
set_option maxRecDepth 100000 in
theorem lc_9 {p : Program} {l : Launch} {e : Env} {s : State} {m : MethodId} {below : List Frame} {meth : Method} {c : Code} {b L : Nat} {xs : Nat → Int32} {G : am_G} {kc ks : Nat} {Q : State → Prop} (X : am_X p s m #[Value.ref b] c code RL 4 am_pL G (fun q => s.heap.size ≤ q)) (hb18 : am_ad G 18 38 0 = b) (hX : va_X b L xs s s.heap) (hbl : b < s.heap.size) (hL : L ≤ 3072) {n : Nat} (hn : n + 6 ≤ L) (hkc : kc + 137 ≤ room_1.cells) (hks : ks + 1587 ≤ room_1.slots) {σ σ1 σ2 : am_S} {r : Int32} (h7 : fn_X7_person (xs (n + 1)) (xs (n + 2)) (xs (n + 3)) σ = some (r, σ1)) (h8 : fn_X8_person 5 (xs (n + 1)) (xs (n + 2)) (xs (n + 3)) σ1 = some (r, σ2))
    (kk : ∀ (G1 : am_G) (kc1 ks1 : Nat), am_ag G G1 → am_X p s m #[Value.ref b] c code RL 4 am_pL G1 (fun q => s.heap.size ≤ q) → kc1 ≤ kc + 137 → ks1 ≤ ks + 1587 → am_A p l e room_1 s m #[Value.ref b] below meth c 4 G1 (fun q => s.heap.size ≤ q) kc1 ks1 Q (1774, [(0, am_r 18 38 0), (1, am_r 0 0 0), (2, am_r 5 40 0), (3, am_i (nI n))], [], σ2)) :
    am_A p l e room_1 s m #[Value.ref b] below meth c 4 G (fun q => s.heap.size ≤ q) kc ks Q (634, [(0, am_r 18 38 0), (1, am_r 0 0 0), (2, am_r 5 40 0), (3, am_i (nI n))], [], σ) := by
  have hc := ct_L9
  refine am_blk hc X 0 1 (fr' := (635, [(0, am_r 18 38 0), (1, am_r 0 0 0), (2, am_r 5 40 0), (3, am_i (nI n))], [am_r 0 0 0], σ)) rfl ⟨trivial, trivial⟩ ?_
  refine am_scr hc X hb18 hX hbl hL 1 (k := 1) rfl rfl rfl rfl rfl rfl (by omega) ?_
  refine am_scr hc X hb18 hX hbl hL 6 (k := 2) rfl rfl rfl rfl rfl rfl (by omega) ?_
  refine am_scr hc X hb18 hX hbl hL 11 (k := 3) rfl rfl rfl rfl rfl rfl (by omega) ?_
  refine am_callVL hc 16 X (k := 0) (i := 0) (o := 0) (As := [am_i (xs (n + 1)), am_i (xs (n + 2)), am_i (xs (n + 3))]) (rest := []) (σ' := σ1) (r := some (am_i r)) rfl (ok_X7_person l (xs (n + 1)) (xs (n + 2)) (xs (n + 3)) σ h7) yv_X7_person ml_L_58 cl_0 ⟨by decide, by decide⟩ rfl rfl rfl ⟨Nat.le_trans (Nat.le_add_right _ _) hkc, Nat.le_trans (Nat.le_add_right _ _) hks⟩ ?_
  refine am_blk hc X 17 1 (fr' := (654, [(0, am_r 18 38 0), (1, am_r 0 0 0), (2, am_r 5 40 0), (3, am_i (nI n))], [am_r 5 40 0, am_i r], σ1)) rfl ⟨trivial, trivial⟩ ?_
  refine am_scr hc X hb18 hX hbl hL 18 (k := 1) rfl rfl rfl rfl rfl rfl (by omega) ?_
  refine am_scr hc X hb18 hX hbl hL 23 (k := 2) rfl rfl rfl rfl rfl rfl (by omega) ?_
  refine am_scr hc X hb18 hX hbl hL 28 (k := 3) rfl rfl rfl rfl rfl rfl (by omega) ?_
  refine am_callVL hc 33 X (k := 40) (i := 0) (o := 5) (As := [am_i (xs (n + 1)), am_i (xs (n + 2)), am_i (xs (n + 3))]) (rest := [am_i r]) (σ' := σ2) (r := some (am_i r)) rfl (ok_X8_person l 5 (xs (n + 1)) (xs (n + 2)) (xs (n + 3)) σ1 h8) yv_X8_person ml_L_61 cl_40 ⟨by decide, by decide⟩ rfl rfl rfl ⟨Nat.le_trans (Nat.le_add_right _ _) hkc, Nat.le_trans (Nat.le_add_right _ _) hks⟩ ?_
  refine am_icmp_eq hc X 34 (tgt := 1774) rfl (by decide) (fun _ => ?_) (fun z => absurd rfl z)
  exact kk G _ _ am_ag.rf X (Nat.le_add_right _ _) (Nat.le_add_right _ _)
def tb_L10 : List (Nat × Instr × Nat) := [(677, .aload_n 1, 1), (678, .aload_n 0, 1), (679, .iload_n 3, 1), (680, .iconst 1, 1), (681, .iadd, 1), (682, .iaload, 1), (683, .aload_n 0, 1), (684, .iload_n 3, 1), (685, .iconst 2, 1), (686, .iadd, 1), (687, .iaload, 1), (688, .aload_n 0, 1), (689, .iload_n 3, 1), (690, .iconst 3, 1), (691, .iadd, 1), (692, .iaload, 1), (693, .ifCond .eq 7, 3), (696, .iconst 1, 1), (697, .goto 4, 3), (700, .iconst 0, 1), (701, .invokevirtual 62, 3), (704, .aload_n 2, 1), (705, .aload_n 0, 1), (706, .iload_n 3, 1), (707, .iconst 1, 1), (708, .iadd, 1), (709, .iaload, 1), (710, .aload_n 0, 1), (711, .iload_n 3, 1), (712, .iconst 2, 1), (713, .iadd, 1), (714, .iaload, 1), (715, .aload_n 0, 1), (716, .iload_n 3, 1), (717, .iconst 3, 1), (718, .iadd, 1), (719, .iaload, 1), (720, .ifCond .eq 7, 3), (723, .iconst 1, 1), (724, .goto 4, 3), (727, .iconst 0, 1), (728, .invokevirtual 66, 3), (731, .if_icmp .eq 1043, 3), (734, .iconst 0, 1), (735, .ireturn, 1)]
set_option maxRecDepth 100000 in
theorem ct_L10 : am_code code tb_L10 = true := by decide +kernel
set_option maxRecDepth 100000 in
theorem lc_10 {p : Program} {l : Launch} {e : Env} {s : State} {m : MethodId} {below : List Frame} {meth : Method} {c : Code} {b L : Nat} {xs : Nat → Int32} {G : am_G} {kc ks : Nat} {Q : State → Prop} (X : am_X p s m #[Value.ref b] c code RL 4 am_pL G (fun q => s.heap.size ≤ q)) (hb18 : am_ad G 18 38 0 = b) (hX : va_X b L xs s s.heap) (hbl : b < s.heap.size) (hL : L ≤ 3072) {n : Nat} (hn : n + 6 ≤ L) (hkc : kc + 137 ≤ room_1.cells) (hks : ks + 1587 ≤ room_1.slots) {σ σ1 σ2 : am_S} {r : Int32} (h7 : fn_X7_duty (xs (n + 1)) (xs (n + 2)) (if xs (n + 3) = 0 then 0 else 1) σ = some (r, σ1)) (h8 : fn_X8_duty 5 (xs (n + 1)) (xs (n + 2)) (if xs (n + 3) = 0 then 0 else 1) σ1 = some (r, σ2))
    (kk : ∀ (G1 : am_G) (kc1 ks1 : Nat), am_ag G G1 → am_X p s m #[Value.ref b] c code RL 4 am_pL G1 (fun q => s.heap.size ≤ q) → kc1 ≤ kc + 137 → ks1 ≤ ks + 1587 → am_A p l e room_1 s m #[Value.ref b] below meth c 4 G1 (fun q => s.heap.size ≤ q) kc1 ks1 Q (1774, [(0, am_r 18 38 0), (1, am_r 0 0 0), (2, am_r 5 40 0), (3, am_i (nI n))], [], σ2)) :
    am_A p l e room_1 s m #[Value.ref b] below meth c 4 G (fun q => s.heap.size ≤ q) kc ks Q (677, [(0, am_r 18 38 0), (1, am_r 0 0 0), (2, am_r 5 40 0), (3, am_i (nI n))], [], σ) := by
  have hc := ct_L10
  refine am_blk hc X 0 1 (fr' := (678, [(0, am_r 18 38 0), (1, am_r 0 0 0), (2, am_r 5 40 0), (3, am_i (nI n))], [am_r 0 0 0], σ)) rfl ⟨trivial, trivial⟩ ?_
  refine am_scr hc X hb18 hX hbl hL 1 (k := 1) rfl rfl rfl rfl rfl rfl (by omega) ?_
  refine am_scr hc X hb18 hX hbl hL 6 (k := 2) rfl rfl rfl rfl rfl rfl (by omega) ?_
  refine am_scr hc X hb18 hX hbl hL 11 (k := 3) rfl rfl rfl rfl rfl rfl (by omega) ?_
  suffices kj16 : am_A p l e room_1 s m #[Value.ref b] below meth c 4 G (fun q => s.heap.size ≤ q) kc ks Q (701, [(0, am_r 18 38 0), (1, am_r 0 0 0), (2, am_r 5 40 0), (3, am_i (nI n))], [am_i (if xs (n + 3) = 0 then 0 else 1), am_i (xs (n + 2)), am_i (xs (n + 1)), am_r 0 0 0], σ) by
    refine am_if_eq hc X 16 (tgt := 700) rfl (by decide) (fun z => ?_) (fun z => ?_)
    · rw [if_pos z] at kj16
      exact am_blk hc X 19 1 (fr' := (701, [(0, am_r 18 38 0), (1, am_r 0 0 0), (2, am_r 5 40 0), (3, am_i (nI n))], [am_i 0, am_i (xs (n + 2)), am_i (xs (n + 1)), am_r 0 0 0], σ)) rfl ⟨trivial, trivial⟩ kj16
    · rw [if_neg z] at kj16
      exact am_blk hc X 17 2 (fr' := (701, [(0, am_r 18 38 0), (1, am_r 0 0 0), (2, am_r 5 40 0), (3, am_i (nI n))], [am_i 1, am_i (xs (n + 2)), am_i (xs (n + 1)), am_r 0 0 0], σ)) rfl ⟨trivial, trivial, trivial⟩ kj16
  refine am_callVL hc 20 X (k := 0) (i := 0) (o := 0) (As := [am_i (xs (n + 1)), am_i (xs (n + 2)), am_i (if xs (n + 3) = 0 then 0 else 1)]) (rest := []) (σ' := σ1) (r := some (am_i r)) rfl (ok_X7_duty l (xs (n + 1)) (xs (n + 2)) (if xs (n + 3) = 0 then 0 else 1) σ h7) yv_X7_duty ml_L_62 cl_0 ⟨by decide, by decide⟩ rfl rfl rfl ⟨Nat.le_trans (Nat.le_add_right _ _) hkc, Nat.le_trans (Nat.le_add_right _ _) hks⟩ ?_
  refine am_blk hc X 21 1 (fr' := (705, [(0, am_r 18 38 0), (1, am_r 0 0 0), (2, am_r 5 40 0), (3, am_i (nI n))], [am_r 5 40 0, am_i r], σ1)) rfl ⟨trivial, trivial⟩ ?_
  refine am_scr hc X hb18 hX hbl hL 22 (k := 1) rfl rfl rfl rfl rfl rfl (by omega) ?_
  refine am_scr hc X hb18 hX hbl hL 27 (k := 2) rfl rfl rfl rfl rfl rfl (by omega) ?_
  refine am_scr hc X hb18 hX hbl hL 32 (k := 3) rfl rfl rfl rfl rfl rfl (by omega) ?_
  suffices kj37 : am_A p l e room_1 s m #[Value.ref b] below meth c 4 G (fun q => s.heap.size ≤ q) kc ks Q (728, [(0, am_r 18 38 0), (1, am_r 0 0 0), (2, am_r 5 40 0), (3, am_i (nI n))], [am_i (if xs (n + 3) = 0 then 0 else 1), am_i (xs (n + 2)), am_i (xs (n + 1)), am_r 5 40 0, am_i r], σ1) by
    refine am_if_eq hc X 37 (tgt := 727) rfl (by decide) (fun z => ?_) (fun z => ?_)
    · rw [if_pos z] at kj37
      exact am_blk hc X 40 1 (fr' := (728, [(0, am_r 18 38 0), (1, am_r 0 0 0), (2, am_r 5 40 0), (3, am_i (nI n))], [am_i 0, am_i (xs (n + 2)), am_i (xs (n + 1)), am_r 5 40 0, am_i r], σ1)) rfl ⟨trivial, trivial⟩ kj37
    · rw [if_neg z] at kj37
      exact am_blk hc X 38 2 (fr' := (728, [(0, am_r 18 38 0), (1, am_r 0 0 0), (2, am_r 5 40 0), (3, am_i (nI n))], [am_i 1, am_i (xs (n + 2)), am_i (xs (n + 1)), am_r 5 40 0, am_i r], σ1)) rfl ⟨trivial, trivial, trivial⟩ kj37
  refine am_callVL hc 41 X (k := 40) (i := 0) (o := 5) (As := [am_i (xs (n + 1)), am_i (xs (n + 2)), am_i (if xs (n + 3) = 0 then 0 else 1)]) (rest := [am_i r]) (σ' := σ2) (r := some (am_i r)) rfl (ok_X8_duty l 5 (xs (n + 1)) (xs (n + 2)) (if xs (n + 3) = 0 then 0 else 1) σ1 h8) yv_X8_duty ml_L_66 cl_40 ⟨by decide, by decide⟩ rfl rfl rfl ⟨Nat.le_trans (Nat.le_add_right _ _) hkc, Nat.le_trans (Nat.le_add_right _ _) hks⟩ ?_
  refine am_icmp_eq hc X 42 (tgt := 1774) rfl (by decide) (fun _ => ?_) (fun z => absurd rfl z)
  exact kk G _ _ am_ag.rf X (Nat.le_add_right _ _) (Nat.le_add_right _ _)
def tb_L11 : List (Nat × Instr × Nat) := [(736, .aload_n 1, 1), (737, .aload_n 0, 1), (738, .iload_n 3, 1), (739, .iconst 1, 1), (740, .iadd, 1), (741, .iaload, 1), (742, .aload_n 0, 1), (743, .iload_n 3, 1), (744, .iconst 2, 1), (745, .iadd, 1), (746, .iaload, 1), (747, .aload_n 0, 1), (748, .iload_n 3, 1), (749, .iconst 3, 1), (750, .iadd, 1), (751, .iaload, 1), (752, .invokevirtual 67, 3), (755, .aload_n 2, 1), (756, .aload_n 0, 1), (757, .iload_n 3, 1), (758, .iconst 1, 1), (759, .iadd, 1), (760, .iaload, 1), (761, .aload_n 0, 1), (762, .iload_n 3, 1), (763, .iconst 2, 1), (764, .iadd, 1), (765, .iaload, 1), (766, .aload_n 0, 1), (767, .iload_n 3, 1), (768, .iconst 3, 1), (769, .iadd, 1), (770, .iaload, 1), (771, .invokevirtual 70, 3), (774, .if_icmp .eq 1000, 3), (777, .iconst 0, 1), (778, .ireturn, 1)]
set_option maxRecDepth 100000 in
theorem ct_L11 : am_code code tb_L11 = true := by decide +kernel
set_option maxRecDepth 100000 in
theorem lc_11 {p : Program} {l : Launch} {e : Env} {s : State} {m : MethodId} {below : List Frame} {meth : Method} {c : Code} {b L : Nat} {xs : Nat → Int32} {G : am_G} {kc ks : Nat} {Q : State → Prop} (X : am_X p s m #[Value.ref b] c code RL 4 am_pL G (fun q => s.heap.size ≤ q)) (hb18 : am_ad G 18 38 0 = b) (hX : va_X b L xs s s.heap) (hbl : b < s.heap.size) (hL : L ≤ 3072) {n : Nat} (hn : n + 6 ≤ L) (hkc : kc + 137 ≤ room_1.cells) (hks : ks + 1587 ≤ room_1.slots) {σ σ1 σ2 : am_S} {r : Int32} (h7 : fn_X7_tell (xs (n + 1)) (xs (n + 2)) (xs (n + 3)) σ = some (r, σ1)) (h8 : fn_X8_tell 5 (xs (n + 1)) (xs (n + 2)) (xs (n + 3)) σ1 = some (r, σ2))
    (kk : ∀ (G1 : am_G) (kc1 ks1 : Nat), am_ag G G1 → am_X p s m #[Value.ref b] c code RL 4 am_pL G1 (fun q => s.heap.size ≤ q) → kc1 ≤ kc + 137 → ks1 ≤ ks + 1587 → am_A p l e room_1 s m #[Value.ref b] below meth c 4 G1 (fun q => s.heap.size ≤ q) kc1 ks1 Q (1774, [(0, am_r 18 38 0), (1, am_r 0 0 0), (2, am_r 5 40 0), (3, am_i (nI n))], [], σ2)) :
    am_A p l e room_1 s m #[Value.ref b] below meth c 4 G (fun q => s.heap.size ≤ q) kc ks Q (736, [(0, am_r 18 38 0), (1, am_r 0 0 0), (2, am_r 5 40 0), (3, am_i (nI n))], [], σ) := by
  have hc := ct_L11
  refine am_blk hc X 0 1 (fr' := (737, [(0, am_r 18 38 0), (1, am_r 0 0 0), (2, am_r 5 40 0), (3, am_i (nI n))], [am_r 0 0 0], σ)) rfl ⟨trivial, trivial⟩ ?_
  refine am_scr hc X hb18 hX hbl hL 1 (k := 1) rfl rfl rfl rfl rfl rfl (by omega) ?_
  refine am_scr hc X hb18 hX hbl hL 6 (k := 2) rfl rfl rfl rfl rfl rfl (by omega) ?_
  refine am_scr hc X hb18 hX hbl hL 11 (k := 3) rfl rfl rfl rfl rfl rfl (by omega) ?_
  refine am_callVL hc 16 X (k := 0) (i := 0) (o := 0) (As := [am_i (xs (n + 1)), am_i (xs (n + 2)), am_i (xs (n + 3))]) (rest := []) (σ' := σ1) (r := some (am_i r)) rfl (ok_X7_tell l (xs (n + 1)) (xs (n + 2)) (xs (n + 3)) σ h7) yv_X7_tell ml_L_67 cl_0 ⟨by decide, by decide⟩ rfl rfl rfl ⟨Nat.le_trans (Nat.le_add_right _ _) hkc, Nat.le_trans (Nat.le_add_right _ _) hks⟩ ?_
  refine am_blk hc X 17 1 (fr' := (756, [(0, am_r 18 38 0), (1, am_r 0 0 0), (2, am_r 5 40 0), (3, am_i (nI n))], [am_r 5 40 0, am_i r], σ1)) rfl ⟨trivial, trivial⟩ ?_
  refine am_scr hc X hb18 hX hbl hL 18 (k := 1) rfl rfl rfl rfl rfl rfl (by omega) ?_
  refine am_scr hc X hb18 hX hbl hL 23 (k := 2) rfl rfl rfl rfl rfl rfl (by omega) ?_
  refine am_scr hc X hb18 hX hbl hL 28 (k := 3) rfl rfl rfl rfl rfl rfl (by omega) ?_
  refine am_callVL hc 33 X (k := 40) (i := 0) (o := 5) (As := [am_i (xs (n + 1)), am_i (xs (n + 2)), am_i (xs (n + 3))]) (rest := [am_i r]) (σ' := σ2) (r := some (am_i r)) rfl (ok_X8_tell l 5 (xs (n + 1)) (xs (n + 2)) (xs (n + 3)) σ1 h8) yv_X8_tell ml_L_70 cl_40 ⟨by decide, by decide⟩ rfl rfl rfl ⟨Nat.le_trans (Nat.le_add_right _ _) hkc, Nat.le_trans (Nat.le_add_right _ _) hks⟩ ?_
  refine am_icmp_eq hc X 34 (tgt := 1774) rfl (by decide) (fun _ => ?_) (fun z => absurd rfl z)
  exact kk G _ _ am_ag.rf X (Nat.le_add_right _ _) (Nat.le_add_right _ _)
def tb_L12 : List (Nat × Instr × Nat) := [(779, .aload_n 1, 1), (780, .aload_n 0, 1), (781, .iload_n 3, 1), (782, .iconst 1, 1), (783, .iadd, 1), (784, .iaload, 1), (785, .invokevirtual 71, 3), (788, .aload_n 2, 1), (789, .aload_n 0, 1), (790, .iload_n 3, 1), (791, .iconst 1, 1), (792, .iadd, 1), (793, .iaload, 1), (794, .invokevirtual 74, 3), (797, .if_icmp .eq 977, 3), (800, .iconst 0, 1), (801, .ireturn, 1)]
set_option maxRecDepth 100000 in
theorem ct_L12 : am_code code tb_L12 = true := by decide +kernel
set_option maxRecDepth 100000 in
theorem lc_12 {p : Program} {l : Launch} {e : Env} {s : State} {m : MethodId} {below : List Frame} {meth : Method} {c : Code} {b L : Nat} {xs : Nat → Int32} {G : am_G} {kc ks : Nat} {Q : State → Prop} (X : am_X p s m #[Value.ref b] c code RL 4 am_pL G (fun q => s.heap.size ≤ q)) (hb18 : am_ad G 18 38 0 = b) (hX : va_X b L xs s s.heap) (hbl : b < s.heap.size) (hL : L ≤ 3072) {n : Nat} (hn : n + 6 ≤ L) (hkc : kc + 137 ≤ room_1.cells) (hks : ks + 1587 ≤ room_1.slots) {σ σ1 σ2 : am_S} {r : Int32} (h7 : fn_X7_feed (xs (n + 1)) σ = some (r, σ1)) (h8 : fn_X8_feed 5 (xs (n + 1)) σ1 = some (r, σ2))
    (kk : ∀ (G1 : am_G) (kc1 ks1 : Nat), am_ag G G1 → am_X p s m #[Value.ref b] c code RL 4 am_pL G1 (fun q => s.heap.size ≤ q) → kc1 ≤ kc + 137 → ks1 ≤ ks + 1587 → am_A p l e room_1 s m #[Value.ref b] below meth c 4 G1 (fun q => s.heap.size ≤ q) kc1 ks1 Q (1774, [(0, am_r 18 38 0), (1, am_r 0 0 0), (2, am_r 5 40 0), (3, am_i (nI n))], [], σ2)) :
    am_A p l e room_1 s m #[Value.ref b] below meth c 4 G (fun q => s.heap.size ≤ q) kc ks Q (779, [(0, am_r 18 38 0), (1, am_r 0 0 0), (2, am_r 5 40 0), (3, am_i (nI n))], [], σ) := by
  have hc := ct_L12
  refine am_blk hc X 0 1 (fr' := (780, [(0, am_r 18 38 0), (1, am_r 0 0 0), (2, am_r 5 40 0), (3, am_i (nI n))], [am_r 0 0 0], σ)) rfl ⟨trivial, trivial⟩ ?_
  refine am_scr hc X hb18 hX hbl hL 1 (k := 1) rfl rfl rfl rfl rfl rfl (by omega) ?_
  refine am_callVL hc 6 X (k := 0) (i := 0) (o := 0) (As := [am_i (xs (n + 1))]) (rest := []) (σ' := σ1) (r := some (am_i r)) rfl (ok_X7_feed l (xs (n + 1)) σ h7) yv_X7_feed ml_L_71 cl_0 ⟨by decide, by decide⟩ rfl rfl rfl ⟨Nat.le_trans (Nat.le_add_right _ _) hkc, Nat.le_trans (Nat.le_add_right _ _) hks⟩ ?_
  refine am_blk hc X 7 1 (fr' := (789, [(0, am_r 18 38 0), (1, am_r 0 0 0), (2, am_r 5 40 0), (3, am_i (nI n))], [am_r 5 40 0, am_i r], σ1)) rfl ⟨trivial, trivial⟩ ?_
  refine am_scr hc X hb18 hX hbl hL 8 (k := 1) rfl rfl rfl rfl rfl rfl (by omega) ?_
  refine am_callVL hc 13 X (k := 40) (i := 0) (o := 5) (As := [am_i (xs (n + 1))]) (rest := [am_i r]) (σ' := σ2) (r := some (am_i r)) rfl (ok_X8_feed l 5 (xs (n + 1)) σ1 h8) yv_X8_feed ml_L_74 cl_40 ⟨by decide, by decide⟩ rfl rfl rfl ⟨Nat.le_trans (Nat.le_add_right _ _) hkc, Nat.le_trans (Nat.le_add_right _ _) hks⟩ ?_
  refine am_icmp_eq hc X 14 (tgt := 1774) rfl (by decide) (fun _ => ?_) (fun z => absurd rfl z)
  exact kk G _ _ am_ag.rf X (Nat.le_add_right _ _) (Nat.le_add_right _ _)
def tb_L13 : List (Nat × Instr × Nat) := [(802, .aload_n 1, 1), (803, .invokevirtual 75, 3), (806, .aload_n 2, 1), (807, .invokevirtual 79, 3), (810, .if_icmp .eq 964, 3), (813, .iconst 0, 1), (814, .ireturn, 1)]
set_option maxRecDepth 100000 in
theorem ct_L13 : am_code code tb_L13 = true := by decide +kernel
set_option maxRecDepth 100000 in
theorem lc_13 {p : Program} {l : Launch} {e : Env} {s : State} {m : MethodId} {below : List Frame} {meth : Method} {c : Code} {b L : Nat} {xs : Nat → Int32} {G : am_G} {kc ks : Nat} {Q : State → Prop} (X : am_X p s m #[Value.ref b] c code RL 4 am_pL G (fun q => s.heap.size ≤ q)) (hb18 : am_ad G 18 38 0 = b) (hX : va_X b L xs s s.heap) (hbl : b < s.heap.size) (hL : L ≤ 3072) {n : Nat} (hn : n + 6 ≤ L) (hkc : kc + 137 ≤ room_1.cells) (hks : ks + 1587 ≤ room_1.slots) {σ σ1 σ2 : am_S} {r : Int32} (h7 : fn_X7_wipe  σ = some (r, σ1)) (h8 : fn_X8_wipe 5 σ1 = some (r, σ2))
    (kk : ∀ (G1 : am_G) (kc1 ks1 : Nat), am_ag G G1 → am_X p s m #[Value.ref b] c code RL 4 am_pL G1 (fun q => s.heap.size ≤ q) → kc1 ≤ kc + 137 → ks1 ≤ ks + 1587 → am_A p l e room_1 s m #[Value.ref b] below meth c 4 G1 (fun q => s.heap.size ≤ q) kc1 ks1 Q (1774, [(0, am_r 18 38 0), (1, am_r 0 0 0), (2, am_r 5 40 0), (3, am_i (nI n))], [], σ2)) :
    am_A p l e room_1 s m #[Value.ref b] below meth c 4 G (fun q => s.heap.size ≤ q) kc ks Q (802, [(0, am_r 18 38 0), (1, am_r 0 0 0), (2, am_r 5 40 0), (3, am_i (nI n))], [], σ) := by
  have hc := ct_L13
  refine am_blk hc X 0 1 (fr' := (803, [(0, am_r 18 38 0), (1, am_r 0 0 0), (2, am_r 5 40 0), (3, am_i (nI n))], [am_r 0 0 0], σ)) rfl ⟨trivial, trivial⟩ ?_
  refine am_callVL hc 1 X (k := 0) (i := 0) (o := 0) (As := []) (rest := []) (σ' := σ1) (r := some (am_i r)) rfl (ok_X7_wipe l σ h7) yv_X7_wipe ml_L_75 cl_0 ⟨by decide, by decide⟩ rfl rfl rfl ⟨Nat.le_trans (Nat.le_add_right _ _) hkc, Nat.le_trans (Nat.le_add_right _ _) hks⟩ ?_
  refine am_blk hc X 2 1 (fr' := (807, [(0, am_r 18 38 0), (1, am_r 0 0 0), (2, am_r 5 40 0), (3, am_i (nI n))], [am_r 5 40 0, am_i r], σ1)) rfl ⟨trivial, trivial⟩ ?_
  refine am_callVL hc 3 X (k := 40) (i := 0) (o := 5) (As := []) (rest := [am_i r]) (σ' := σ2) (r := some (am_i r)) rfl (ok_X8_wipe l 5 σ1 h8) yv_X8_wipe ml_L_79 cl_40 ⟨by decide, by decide⟩ rfl rfl rfl ⟨Nat.le_trans (Nat.le_add_right _ _) hkc, Nat.le_trans (Nat.le_add_right _ _) hks⟩ ?_
  refine am_icmp_eq hc X 4 (tgt := 1774) rfl (by decide) (fun _ => ?_) (fun z => absurd rfl z)
  exact kk G _ _ am_ag.rf X (Nat.le_add_right _ _) (Nat.le_add_right _ _)
def tb_L14 : List (Nat × Instr × Nat) := [(815, .aload_n 1, 1), (816, .invokevirtual 80, 3), (819, .aload_n 2, 1), (820, .invokevirtual 83, 3), (823, .if_icmp .eq 951, 3), (826, .iconst 0, 1), (827, .ireturn, 1)]
set_option maxRecDepth 100000 in
theorem ct_L14 : am_code code tb_L14 = true := by decide +kernel
set_option maxRecDepth 100000 in
theorem lc_14 {p : Program} {l : Launch} {e : Env} {s : State} {m : MethodId} {below : List Frame} {meth : Method} {c : Code} {b L : Nat} {xs : Nat → Int32} {G : am_G} {kc ks : Nat} {Q : State → Prop} (X : am_X p s m #[Value.ref b] c code RL 4 am_pL G (fun q => s.heap.size ≤ q)) (hb18 : am_ad G 18 38 0 = b) (hX : va_X b L xs s s.heap) (hbl : b < s.heap.size) (hL : L ≤ 3072) {n : Nat} (hn : n + 6 ≤ L) (hkc : kc + 137 ≤ room_1.cells) (hks : ks + 1587 ≤ room_1.slots) {σ σ1 σ2 : am_S} {r : Int32} (h7 : fn_X7_land  σ = some (r, σ1)) (h8 : fn_X8_land  σ1 = some (r, σ2))
    (kk : ∀ (G1 : am_G) (kc1 ks1 : Nat), am_ag G G1 → am_X p s m #[Value.ref b] c code RL 4 am_pL G1 (fun q => s.heap.size ≤ q) → kc1 ≤ kc + 137 → ks1 ≤ ks + 1587 → am_A p l e room_1 s m #[Value.ref b] below meth c 4 G1 (fun q => s.heap.size ≤ q) kc1 ks1 Q (1774, [(0, am_r 18 38 0), (1, am_r 0 0 0), (2, am_r 5 40 0), (3, am_i (nI n))], [], σ2)) :
    am_A p l e room_1 s m #[Value.ref b] below meth c 4 G (fun q => s.heap.size ≤ q) kc ks Q (815, [(0, am_r 18 38 0), (1, am_r 0 0 0), (2, am_r 5 40 0), (3, am_i (nI n))], [], σ) := by
  have hc := ct_L14
  refine am_blk hc X 0 1 (fr' := (816, [(0, am_r 18 38 0), (1, am_r 0 0 0), (2, am_r 5 40 0), (3, am_i (nI n))], [am_r 0 0 0], σ)) rfl ⟨trivial, trivial⟩ ?_
  refine am_callVL hc 1 X (k := 0) (i := 0) (o := 0) (As := []) (rest := []) (σ' := σ1) (r := some (am_i r)) rfl (ok_X7_land l σ h7) yv_X7_land ml_L_80 cl_0 ⟨by decide, by decide⟩ rfl rfl rfl ⟨Nat.le_trans (Nat.le_add_right _ _) hkc, Nat.le_trans (Nat.le_add_right _ _) hks⟩ ?_
  refine am_blk hc X 2 1 (fr' := (820, [(0, am_r 18 38 0), (1, am_r 0 0 0), (2, am_r 5 40 0), (3, am_i (nI n))], [am_r 5 40 0, am_i r], σ1)) rfl ⟨trivial, trivial⟩ ?_
  refine am_callAL hc 3 X (fun q z => z) (k := 40) (i := 0) (o := 5) (As := []) (rest := [am_i r]) (σ' := σ2) (r := some (am_i r)) rfl (ok_X8_land l σ1 h8) yv_X8_land ml_L_83 cl_40 ⟨by decide, by decide⟩ rfl rfl rfl ⟨hkc, hks⟩ (fun G1 hg1 X1 => ?_)
  refine am_icmp_eq hc X1 4 (tgt := 1774) rfl (by decide) (fun _ => ?_) (fun z => absurd rfl z)
  exact kk G1 _ _ hg1 X1 (Nat.le_refl _) (Nat.le_refl _)
def tb_L15 : List (Nat × Instr × Nat) := [(828, .aload_n 1, 1), (829, .aload_n 0, 1), (830, .iload_n 3, 1), (831, .iconst 1, 1), (832, .iadd, 1), (833, .iaload, 1), (834, .aload_n 0, 1), (835, .iload_n 3, 1), (836, .iconst 2, 1), (837, .iadd, 1), (838, .iaload, 1), (839, .invokevirtual 84, 3), (842, .aload_n 2, 1), (843, .aload_n 0, 1), (844, .iload_n 3, 1), (845, .iconst 1, 1), (846, .iadd, 1), (847, .iaload, 1), (848, .aload_n 0, 1), (849, .iload_n 3, 1), (850, .iconst 2, 1), (851, .iadd, 1), (852, .iaload, 1), (853, .invokevirtual 87, 3), (856, .if_icmp .eq 918, 3), (859, .iconst 0, 1), (860, .ireturn, 1)]
set_option maxRecDepth 100000 in
theorem ct_L15 : am_code code tb_L15 = true := by decide +kernel
set_option maxRecDepth 100000 in
theorem lc_15 {p : Program} {l : Launch} {e : Env} {s : State} {m : MethodId} {below : List Frame} {meth : Method} {c : Code} {b L : Nat} {xs : Nat → Int32} {G : am_G} {kc ks : Nat} {Q : State → Prop} (X : am_X p s m #[Value.ref b] c code RL 4 am_pL G (fun q => s.heap.size ≤ q)) (hb18 : am_ad G 18 38 0 = b) (hX : va_X b L xs s s.heap) (hbl : b < s.heap.size) (hL : L ≤ 3072) {n : Nat} (hn : n + 6 ≤ L) (hkc : kc + 137 ≤ room_1.cells) (hks : ks + 1587 ≤ room_1.slots) {σ σ1 σ2 : am_S} {r : Int32} (h7 : fn_X7_valleyOf (xs (n + 1)) (xs (n + 2)) σ = some (r, σ1)) (h8 : fn_X8_valleyOf 5 (xs (n + 1)) (xs (n + 2)) σ1 = some (r, σ2))
    (kk : ∀ (G1 : am_G) (kc1 ks1 : Nat), am_ag G G1 → am_X p s m #[Value.ref b] c code RL 4 am_pL G1 (fun q => s.heap.size ≤ q) → kc1 ≤ kc + 137 → ks1 ≤ ks + 1587 → am_A p l e room_1 s m #[Value.ref b] below meth c 4 G1 (fun q => s.heap.size ≤ q) kc1 ks1 Q (1774, [(0, am_r 18 38 0), (1, am_r 0 0 0), (2, am_r 5 40 0), (3, am_i (nI n))], [], σ2)) :
    am_A p l e room_1 s m #[Value.ref b] below meth c 4 G (fun q => s.heap.size ≤ q) kc ks Q (828, [(0, am_r 18 38 0), (1, am_r 0 0 0), (2, am_r 5 40 0), (3, am_i (nI n))], [], σ) := by
  have hc := ct_L15
  refine am_blk hc X 0 1 (fr' := (829, [(0, am_r 18 38 0), (1, am_r 0 0 0), (2, am_r 5 40 0), (3, am_i (nI n))], [am_r 0 0 0], σ)) rfl ⟨trivial, trivial⟩ ?_
  refine am_scr hc X hb18 hX hbl hL 1 (k := 1) rfl rfl rfl rfl rfl rfl (by omega) ?_
  refine am_scr hc X hb18 hX hbl hL 6 (k := 2) rfl rfl rfl rfl rfl rfl (by omega) ?_
  refine am_callVL hc 11 X (k := 0) (i := 0) (o := 0) (As := [am_i (xs (n + 1)), am_i (xs (n + 2))]) (rest := []) (σ' := σ1) (r := some (am_i r)) rfl (ok_X7_valleyOf l (xs (n + 1)) (xs (n + 2)) σ h7) yv_X7_valleyOf ml_L_84 cl_0 ⟨by decide, by decide⟩ rfl rfl rfl ⟨Nat.le_trans (Nat.le_add_right _ _) hkc, Nat.le_trans (Nat.le_add_right _ _) hks⟩ ?_
  refine am_blk hc X 12 1 (fr' := (843, [(0, am_r 18 38 0), (1, am_r 0 0 0), (2, am_r 5 40 0), (3, am_i (nI n))], [am_r 5 40 0, am_i r], σ1)) rfl ⟨trivial, trivial⟩ ?_
  refine am_scr hc X hb18 hX hbl hL 13 (k := 1) rfl rfl rfl rfl rfl rfl (by omega) ?_
  refine am_scr hc X hb18 hX hbl hL 18 (k := 2) rfl rfl rfl rfl rfl rfl (by omega) ?_
  refine am_callVL hc 23 X (k := 40) (i := 0) (o := 5) (As := [am_i (xs (n + 1)), am_i (xs (n + 2))]) (rest := [am_i r]) (σ' := σ2) (r := some (am_i r)) rfl (ok_X8_valleyOf l 5 (xs (n + 1)) (xs (n + 2)) σ1 h8) yv_X8_valleyOf ml_L_87 cl_40 ⟨by decide, by decide⟩ rfl rfl rfl ⟨Nat.le_trans (Nat.le_add_right _ _) hkc, Nat.le_trans (Nat.le_add_right _ _) hks⟩ ?_
  refine am_icmp_eq hc X 24 (tgt := 1774) rfl (by decide) (fun _ => ?_) (fun z => absurd rfl z)
  exact kk G _ _ am_ag.rf X (Nat.le_add_right _ _) (Nat.le_add_right _ _)
def tb_L16 : List (Nat × Instr × Nat) := [(861, .aload_n 1, 1), (862, .aload_n 0, 1), (863, .iload_n 3, 1), (864, .iconst 1, 1), (865, .iadd, 1), (866, .iaload, 1), (867, .aload_n 0, 1), (868, .iload_n 3, 1), (869, .iconst 2, 1), (870, .iadd, 1), (871, .iaload, 1), (872, .invokevirtual 88, 3), (875, .aload_n 2, 1), (876, .aload_n 0, 1), (877, .iload_n 3, 1), (878, .iconst 1, 1), (879, .iadd, 1), (880, .iaload, 1), (881, .aload_n 0, 1), (882, .iload_n 3, 1), (883, .iconst 2, 1), (884, .iadd, 1), (885, .iaload, 1), (886, .invokevirtual 91, 3), (889, .if_icmp .eq 885, 3), (892, .iconst 0, 1), (893, .ireturn, 1)]
set_option maxRecDepth 100000 in
theorem ct_L16 : am_code code tb_L16 = true := by decide +kernel
set_option maxRecDepth 100000 in
theorem lc_16 {p : Program} {l : Launch} {e : Env} {s : State} {m : MethodId} {below : List Frame} {meth : Method} {c : Code} {b L : Nat} {xs : Nat → Int32} {G : am_G} {kc ks : Nat} {Q : State → Prop} (X : am_X p s m #[Value.ref b] c code RL 4 am_pL G (fun q => s.heap.size ≤ q)) (hb18 : am_ad G 18 38 0 = b) (hX : va_X b L xs s s.heap) (hbl : b < s.heap.size) (hL : L ≤ 3072) {n : Nat} (hn : n + 6 ≤ L) (hkc : kc + 137 ≤ room_1.cells) (hks : ks + 1587 ≤ room_1.slots) {σ σ1 σ2 : am_S} {r : Int32} (h7 : fn_X7_passOf (xs (n + 1)) (xs (n + 2)) σ = some (r, σ1)) (h8 : fn_X8_passOf 5 (xs (n + 1)) (xs (n + 2)) σ1 = some (r, σ2))
    (kk : ∀ (G1 : am_G) (kc1 ks1 : Nat), am_ag G G1 → am_X p s m #[Value.ref b] c code RL 4 am_pL G1 (fun q => s.heap.size ≤ q) → kc1 ≤ kc + 137 → ks1 ≤ ks + 1587 → am_A p l e room_1 s m #[Value.ref b] below meth c 4 G1 (fun q => s.heap.size ≤ q) kc1 ks1 Q (1774, [(0, am_r 18 38 0), (1, am_r 0 0 0), (2, am_r 5 40 0), (3, am_i (nI n))], [], σ2)) :
    am_A p l e room_1 s m #[Value.ref b] below meth c 4 G (fun q => s.heap.size ≤ q) kc ks Q (861, [(0, am_r 18 38 0), (1, am_r 0 0 0), (2, am_r 5 40 0), (3, am_i (nI n))], [], σ) := by
  have hc := ct_L16
  refine am_blk hc X 0 1 (fr' := (862, [(0, am_r 18 38 0), (1, am_r 0 0 0), (2, am_r 5 40 0), (3, am_i (nI n))], [am_r 0 0 0], σ)) rfl ⟨trivial, trivial⟩ ?_
  refine am_scr hc X hb18 hX hbl hL 1 (k := 1) rfl rfl rfl rfl rfl rfl (by omega) ?_
  refine am_scr hc X hb18 hX hbl hL 6 (k := 2) rfl rfl rfl rfl rfl rfl (by omega) ?_
  refine am_callVL hc 11 X (k := 0) (i := 0) (o := 0) (As := [am_i (xs (n + 1)), am_i (xs (n + 2))]) (rest := []) (σ' := σ1) (r := some (am_i r)) rfl (ok_X7_passOf l (xs (n + 1)) (xs (n + 2)) σ h7) yv_X7_passOf ml_L_88 cl_0 ⟨by decide, by decide⟩ rfl rfl rfl ⟨Nat.le_trans (Nat.le_add_right _ _) hkc, Nat.le_trans (Nat.le_add_right _ _) hks⟩ ?_
  refine am_blk hc X 12 1 (fr' := (876, [(0, am_r 18 38 0), (1, am_r 0 0 0), (2, am_r 5 40 0), (3, am_i (nI n))], [am_r 5 40 0, am_i r], σ1)) rfl ⟨trivial, trivial⟩ ?_
  refine am_scr hc X hb18 hX hbl hL 13 (k := 1) rfl rfl rfl rfl rfl rfl (by omega) ?_
  refine am_scr hc X hb18 hX hbl hL 18 (k := 2) rfl rfl rfl rfl rfl rfl (by omega) ?_
  refine am_callVL hc 23 X (k := 40) (i := 0) (o := 5) (As := [am_i (xs (n + 1)), am_i (xs (n + 2))]) (rest := [am_i r]) (σ' := σ2) (r := some (am_i r)) rfl (ok_X8_passOf l 5 (xs (n + 1)) (xs (n + 2)) σ1 h8) yv_X8_passOf ml_L_91 cl_40 ⟨by decide, by decide⟩ rfl rfl rfl ⟨Nat.le_trans (Nat.le_add_right _ _) hkc, Nat.le_trans (Nat.le_add_right _ _) hks⟩ ?_
  refine am_icmp_eq hc X 24 (tgt := 1774) rfl (by decide) (fun _ => ?_) (fun z => absurd rfl z)
  exact kk G _ _ am_ag.rf X (Nat.le_add_right _ _) (Nat.le_add_right _ _)
def tb_L17 : List (Nat × Instr × Nat) := [(894, .aload_n 1, 1), (895, .aload_n 0, 1), (896, .iload_n 3, 1), (897, .iconst 1, 1), (898, .iadd, 1), (899, .iaload, 1), (900, .aload_n 0, 1), (901, .iload_n 3, 1), (902, .iconst 2, 1), (903, .iadd, 1), (904, .iaload, 1), (905, .invokevirtual 92, 3), (908, .aload_n 2, 1), (909, .aload_n 0, 1), (910, .iload_n 3, 1), (911, .iconst 1, 1), (912, .iadd, 1), (913, .iaload, 1), (914, .aload_n 0, 1), (915, .iload_n 3, 1), (916, .iconst 2, 1), (917, .iadd, 1), (918, .iaload, 1), (919, .invokevirtual 95, 3), (922, .if_icmp .eq 852, 3), (925, .iconst 0, 1), (926, .ireturn, 1)]
set_option maxRecDepth 100000 in
theorem ct_L17 : am_code code tb_L17 = true := by decide +kernel
set_option maxRecDepth 100000 in
theorem lc_17 {p : Program} {l : Launch} {e : Env} {s : State} {m : MethodId} {below : List Frame} {meth : Method} {c : Code} {b L : Nat} {xs : Nat → Int32} {G : am_G} {kc ks : Nat} {Q : State → Prop} (X : am_X p s m #[Value.ref b] c code RL 4 am_pL G (fun q => s.heap.size ≤ q)) (hb18 : am_ad G 18 38 0 = b) (hX : va_X b L xs s s.heap) (hbl : b < s.heap.size) (hL : L ≤ 3072) {n : Nat} (hn : n + 6 ≤ L) (hkc : kc + 137 ≤ room_1.cells) (hks : ks + 1587 ≤ room_1.slots) {σ σ1 σ2 : am_S} {r : Int32} (h7 : fn_X7_personOf (xs (n + 1)) (xs (n + 2)) σ = some (r, σ1)) (h8 : fn_X8_personOf 5 (xs (n + 1)) (xs (n + 2)) σ1 = some (r, σ2))
    (kk : ∀ (G1 : am_G) (kc1 ks1 : Nat), am_ag G G1 → am_X p s m #[Value.ref b] c code RL 4 am_pL G1 (fun q => s.heap.size ≤ q) → kc1 ≤ kc + 137 → ks1 ≤ ks + 1587 → am_A p l e room_1 s m #[Value.ref b] below meth c 4 G1 (fun q => s.heap.size ≤ q) kc1 ks1 Q (1774, [(0, am_r 18 38 0), (1, am_r 0 0 0), (2, am_r 5 40 0), (3, am_i (nI n))], [], σ2)) :
    am_A p l e room_1 s m #[Value.ref b] below meth c 4 G (fun q => s.heap.size ≤ q) kc ks Q (894, [(0, am_r 18 38 0), (1, am_r 0 0 0), (2, am_r 5 40 0), (3, am_i (nI n))], [], σ) := by
  have hc := ct_L17
  refine am_blk hc X 0 1 (fr' := (895, [(0, am_r 18 38 0), (1, am_r 0 0 0), (2, am_r 5 40 0), (3, am_i (nI n))], [am_r 0 0 0], σ)) rfl ⟨trivial, trivial⟩ ?_
  refine am_scr hc X hb18 hX hbl hL 1 (k := 1) rfl rfl rfl rfl rfl rfl (by omega) ?_
  refine am_scr hc X hb18 hX hbl hL 6 (k := 2) rfl rfl rfl rfl rfl rfl (by omega) ?_
  refine am_callVL hc 11 X (k := 0) (i := 0) (o := 0) (As := [am_i (xs (n + 1)), am_i (xs (n + 2))]) (rest := []) (σ' := σ1) (r := some (am_i r)) rfl (ok_X7_personOf l (xs (n + 1)) (xs (n + 2)) σ h7) yv_X7_personOf ml_L_92 cl_0 ⟨by decide, by decide⟩ rfl rfl rfl ⟨Nat.le_trans (Nat.le_add_right _ _) hkc, Nat.le_trans (Nat.le_add_right _ _) hks⟩ ?_
  refine am_blk hc X 12 1 (fr' := (909, [(0, am_r 18 38 0), (1, am_r 0 0 0), (2, am_r 5 40 0), (3, am_i (nI n))], [am_r 5 40 0, am_i r], σ1)) rfl ⟨trivial, trivial⟩ ?_
  refine am_scr hc X hb18 hX hbl hL 13 (k := 1) rfl rfl rfl rfl rfl rfl (by omega) ?_
  refine am_scr hc X hb18 hX hbl hL 18 (k := 2) rfl rfl rfl rfl rfl rfl (by omega) ?_
  refine am_callVL hc 23 X (k := 40) (i := 0) (o := 5) (As := [am_i (xs (n + 1)), am_i (xs (n + 2))]) (rest := [am_i r]) (σ' := σ2) (r := some (am_i r)) rfl (ok_X8_personOf l 5 (xs (n + 1)) (xs (n + 2)) σ1 h8) yv_X8_personOf ml_L_95 cl_40 ⟨by decide, by decide⟩ rfl rfl rfl ⟨Nat.le_trans (Nat.le_add_right _ _) hkc, Nat.le_trans (Nat.le_add_right _ _) hks⟩ ?_
  refine am_icmp_eq hc X 24 (tgt := 1774) rfl (by decide) (fun _ => ?_) (fun z => absurd rfl z)
  exact kk G _ _ am_ag.rf X (Nat.le_add_right _ _) (Nat.le_add_right _ _)
def tb_L18 : List (Nat × Instr × Nat) := [(927, .aload_n 1, 1), (928, .aload_n 0, 1), (929, .iload_n 3, 1), (930, .iconst 1, 1), (931, .iadd, 1), (932, .iaload, 1), (933, .aload_n 0, 1), (934, .iload_n 3, 1), (935, .iconst 2, 1), (936, .iadd, 1), (937, .iaload, 1), (938, .aload_n 0, 1), (939, .iload_n 3, 1), (940, .iconst 3, 1), (941, .iadd, 1), (942, .iaload, 1), (943, .invokevirtual 96, 3), (946, .aload_n 2, 1), (947, .aload_n 0, 1), (948, .iload_n 3, 1), (949, .iconst 1, 1), (950, .iadd, 1), (951, .iaload, 1), (952, .aload_n 0, 1), (953, .iload_n 3, 1), (954, .iconst 2, 1), (955, .iadd, 1), (956, .iaload, 1), (957, .aload_n 0, 1), (958, .iload_n 3, 1), (959, .iconst 3, 1), (960, .iadd, 1), (961, .iaload, 1), (962, .invokevirtual 99, 3), (965, .if_icmp .eq 809, 3), (968, .iconst 0, 1), (969, .ireturn, 1)]
set_option maxRecDepth 100000 in
theorem ct_L18 : am_code code tb_L18 = true := by decide +kernel
set_option maxRecDepth 100000 in
theorem lc_18 {p : Program} {l : Launch} {e : Env} {s : State} {m : MethodId} {below : List Frame} {meth : Method} {c : Code} {b L : Nat} {xs : Nat → Int32} {G : am_G} {kc ks : Nat} {Q : State → Prop} (X : am_X p s m #[Value.ref b] c code RL 4 am_pL G (fun q => s.heap.size ≤ q)) (hb18 : am_ad G 18 38 0 = b) (hX : va_X b L xs s s.heap) (hbl : b < s.heap.size) (hL : L ≤ 3072) {n : Nat} (hn : n + 6 ≤ L) (hkc : kc + 137 ≤ room_1.cells) (hks : ks + 1587 ≤ room_1.slots) {σ σ1 σ2 : am_S} {r : Int32} (h7 : fn_X7_price (xs (n + 1)) (xs (n + 2)) (xs (n + 3)) σ = some (r, σ1)) (h8 : fn_X8_price 5 (xs (n + 1)) (xs (n + 2)) (xs (n + 3)) σ1 = some (r, σ2))
    (kk : ∀ (G1 : am_G) (kc1 ks1 : Nat), am_ag G G1 → am_X p s m #[Value.ref b] c code RL 4 am_pL G1 (fun q => s.heap.size ≤ q) → kc1 ≤ kc + 137 → ks1 ≤ ks + 1587 → am_A p l e room_1 s m #[Value.ref b] below meth c 4 G1 (fun q => s.heap.size ≤ q) kc1 ks1 Q (1774, [(0, am_r 18 38 0), (1, am_r 0 0 0), (2, am_r 5 40 0), (3, am_i (nI n))], [], σ2)) :
    am_A p l e room_1 s m #[Value.ref b] below meth c 4 G (fun q => s.heap.size ≤ q) kc ks Q (927, [(0, am_r 18 38 0), (1, am_r 0 0 0), (2, am_r 5 40 0), (3, am_i (nI n))], [], σ) := by
  have hc := ct_L18
  refine am_blk hc X 0 1 (fr' := (928, [(0, am_r 18 38 0), (1, am_r 0 0 0), (2, am_r 5 40 0), (3, am_i (nI n))], [am_r 0 0 0], σ)) rfl ⟨trivial, trivial⟩ ?_
  refine am_scr hc X hb18 hX hbl hL 1 (k := 1) rfl rfl rfl rfl rfl rfl (by omega) ?_
  refine am_scr hc X hb18 hX hbl hL 6 (k := 2) rfl rfl rfl rfl rfl rfl (by omega) ?_
  refine am_scr hc X hb18 hX hbl hL 11 (k := 3) rfl rfl rfl rfl rfl rfl (by omega) ?_
  refine am_callVL hc 16 X (k := 0) (i := 0) (o := 0) (As := [am_i (xs (n + 1)), am_i (xs (n + 2)), am_i (xs (n + 3))]) (rest := []) (σ' := σ1) (r := some (am_i r)) rfl (ok_X7_price l (xs (n + 1)) (xs (n + 2)) (xs (n + 3)) σ h7) yv_X7_price ml_L_96 cl_0 ⟨by decide, by decide⟩ rfl rfl rfl ⟨Nat.le_trans (Nat.le_add_right _ _) hkc, Nat.le_trans (Nat.le_add_right _ _) hks⟩ ?_
  refine am_blk hc X 17 1 (fr' := (947, [(0, am_r 18 38 0), (1, am_r 0 0 0), (2, am_r 5 40 0), (3, am_i (nI n))], [am_r 5 40 0, am_i r], σ1)) rfl ⟨trivial, trivial⟩ ?_
  refine am_scr hc X hb18 hX hbl hL 18 (k := 1) rfl rfl rfl rfl rfl rfl (by omega) ?_
  refine am_scr hc X hb18 hX hbl hL 23 (k := 2) rfl rfl rfl rfl rfl rfl (by omega) ?_
  refine am_scr hc X hb18 hX hbl hL 28 (k := 3) rfl rfl rfl rfl rfl rfl (by omega) ?_
  refine am_callVL hc 33 X (k := 40) (i := 0) (o := 5) (As := [am_i (xs (n + 1)), am_i (xs (n + 2)), am_i (xs (n + 3))]) (rest := [am_i r]) (σ' := σ2) (r := some (am_i r)) rfl (ok_X8_price l 5 (xs (n + 1)) (xs (n + 2)) (xs (n + 3)) σ1 h8) yv_X8_price ml_L_99 cl_40 ⟨by decide, by decide⟩ rfl rfl rfl ⟨Nat.le_trans (Nat.le_add_right _ _) hkc, Nat.le_trans (Nat.le_add_right _ _) hks⟩ ?_
  refine am_icmp_eq hc X 34 (tgt := 1774) rfl (by decide) (fun _ => ?_) (fun z => absurd rfl z)
  exact kk G _ _ am_ag.rf X (Nat.le_add_right _ _) (Nat.le_add_right _ _)
def tb_L19 : List (Nat × Instr × Nat) := [(970, .aload_n 1, 1), (971, .aload_n 0, 1), (972, .iload_n 3, 1), (973, .iconst 1, 1), (974, .iadd, 1), (975, .iaload, 1), (976, .aload_n 0, 1), (977, .iload_n 3, 1), (978, .iconst 2, 1), (979, .iadd, 1), (980, .iaload, 1), (981, .aload_n 0, 1), (982, .iload_n 3, 1), (983, .iconst 3, 1), (984, .iadd, 1), (985, .iaload, 1), (986, .invokevirtual 100, 3), (989, .aload_n 2, 1), (990, .aload_n 0, 1), (991, .iload_n 3, 1), (992, .iconst 1, 1), (993, .iadd, 1), (994, .iaload, 1), (995, .aload_n 0, 1), (996, .iload_n 3, 1), (997, .iconst 2, 1), (998, .iadd, 1), (999, .iaload, 1), (1000, .aload_n 0, 1), (1001, .iload_n 3, 1), (1002, .iconst 3, 1), (1003, .iadd, 1), (1004, .iaload, 1), (1005, .invokevirtual 103, 3), (1008, .if_icmp .eq 766, 3), (1011, .iconst 0, 1), (1012, .ireturn, 1)]
set_option maxRecDepth 100000 in
theorem ct_L19 : am_code code tb_L19 = true := by decide +kernel
set_option maxRecDepth 100000 in
theorem lc_19 {p : Program} {l : Launch} {e : Env} {s : State} {m : MethodId} {below : List Frame} {meth : Method} {c : Code} {b L : Nat} {xs : Nat → Int32} {G : am_G} {kc ks : Nat} {Q : State → Prop} (X : am_X p s m #[Value.ref b] c code RL 4 am_pL G (fun q => s.heap.size ≤ q)) (hb18 : am_ad G 18 38 0 = b) (hX : va_X b L xs s s.heap) (hbl : b < s.heap.size) (hL : L ≤ 3072) {n : Nat} (hn : n + 6 ≤ L) (hkc : kc + 137 ≤ room_1.cells) (hks : ks + 1587 ≤ room_1.slots) {σ σ1 σ2 : am_S} {r : Int32} (h7 : fn_X7_way (xs (n + 1)) (xs (n + 2)) (xs (n + 3)) σ = some (r, σ1)) (h8 : fn_X8_way 5 (xs (n + 1)) (xs (n + 2)) (xs (n + 3)) σ1 = some (r, σ2))
    (kk : ∀ (G1 : am_G) (kc1 ks1 : Nat), am_ag G G1 → am_X p s m #[Value.ref b] c code RL 4 am_pL G1 (fun q => s.heap.size ≤ q) → kc1 ≤ kc + 137 → ks1 ≤ ks + 1587 → am_A p l e room_1 s m #[Value.ref b] below meth c 4 G1 (fun q => s.heap.size ≤ q) kc1 ks1 Q (1774, [(0, am_r 18 38 0), (1, am_r 0 0 0), (2, am_r 5 40 0), (3, am_i (nI n))], [], σ2)) :
    am_A p l e room_1 s m #[Value.ref b] below meth c 4 G (fun q => s.heap.size ≤ q) kc ks Q (970, [(0, am_r 18 38 0), (1, am_r 0 0 0), (2, am_r 5 40 0), (3, am_i (nI n))], [], σ) := by
  have hc := ct_L19
  refine am_blk hc X 0 1 (fr' := (971, [(0, am_r 18 38 0), (1, am_r 0 0 0), (2, am_r 5 40 0), (3, am_i (nI n))], [am_r 0 0 0], σ)) rfl ⟨trivial, trivial⟩ ?_
  refine am_scr hc X hb18 hX hbl hL 1 (k := 1) rfl rfl rfl rfl rfl rfl (by omega) ?_
  refine am_scr hc X hb18 hX hbl hL 6 (k := 2) rfl rfl rfl rfl rfl rfl (by omega) ?_
  refine am_scr hc X hb18 hX hbl hL 11 (k := 3) rfl rfl rfl rfl rfl rfl (by omega) ?_
  refine am_callVL hc 16 X (k := 0) (i := 0) (o := 0) (As := [am_i (xs (n + 1)), am_i (xs (n + 2)), am_i (xs (n + 3))]) (rest := []) (σ' := σ1) (r := some (am_i r)) rfl (ok_X7_way l (xs (n + 1)) (xs (n + 2)) (xs (n + 3)) σ h7) yv_X7_way ml_L_100 cl_0 ⟨by decide, by decide⟩ rfl rfl rfl ⟨Nat.le_trans (Nat.le_add_right _ _) hkc, Nat.le_trans (Nat.le_add_right _ _) hks⟩ ?_
  refine am_blk hc X 17 1 (fr' := (990, [(0, am_r 18 38 0), (1, am_r 0 0 0), (2, am_r 5 40 0), (3, am_i (nI n))], [am_r 5 40 0, am_i r], σ1)) rfl ⟨trivial, trivial⟩ ?_
  refine am_scr hc X hb18 hX hbl hL 18 (k := 1) rfl rfl rfl rfl rfl rfl (by omega) ?_
  refine am_scr hc X hb18 hX hbl hL 23 (k := 2) rfl rfl rfl rfl rfl rfl (by omega) ?_
  refine am_scr hc X hb18 hX hbl hL 28 (k := 3) rfl rfl rfl rfl rfl rfl (by omega) ?_
  refine am_callVL hc 33 X (k := 40) (i := 0) (o := 5) (As := [am_i (xs (n + 1)), am_i (xs (n + 2)), am_i (xs (n + 3))]) (rest := [am_i r]) (σ' := σ2) (r := some (am_i r)) rfl (ok_X8_way l 5 (xs (n + 1)) (xs (n + 2)) (xs (n + 3)) σ1 h8) yv_X8_way ml_L_103 cl_40 ⟨by decide, by decide⟩ rfl rfl rfl ⟨Nat.le_trans (Nat.le_add_right _ _) hkc, Nat.le_trans (Nat.le_add_right _ _) hks⟩ ?_
  refine am_icmp_eq hc X 34 (tgt := 1774) rfl (by decide) (fun _ => ?_) (fun z => absurd rfl z)
  exact kk G _ _ am_ag.rf X (Nat.le_add_right _ _) (Nat.le_add_right _ _)
def tb_L20 : List (Nat × Instr × Nat) := [(1013, .aload_n 1, 1), (1014, .aload_n 0, 1), (1015, .iload_n 3, 1), (1016, .iconst 1, 1), (1017, .iadd, 1), (1018, .iaload, 1), (1019, .aload_n 0, 1), (1020, .iload_n 3, 1), (1021, .iconst 2, 1), (1022, .iadd, 1), (1023, .iaload, 1), (1024, .invokevirtual 104, 3), (1027, .aload_n 2, 1), (1028, .aload_n 0, 1), (1029, .iload_n 3, 1), (1030, .iconst 1, 1), (1031, .iadd, 1), (1032, .iaload, 1), (1033, .aload_n 0, 1), (1034, .iload_n 3, 1), (1035, .iconst 2, 1), (1036, .iadd, 1), (1037, .iaload, 1), (1038, .invokevirtual 107, 3), (1041, .if_icmp .eq 733, 3), (1044, .iconst 0, 1), (1045, .ireturn, 1)]
set_option maxRecDepth 100000 in
theorem ct_L20 : am_code code tb_L20 = true := by decide +kernel
set_option maxRecDepth 100000 in
theorem lc_20 {p : Program} {l : Launch} {e : Env} {s : State} {m : MethodId} {below : List Frame} {meth : Method} {c : Code} {b L : Nat} {xs : Nat → Int32} {G : am_G} {kc ks : Nat} {Q : State → Prop} (X : am_X p s m #[Value.ref b] c code RL 4 am_pL G (fun q => s.heap.size ≤ q)) (hb18 : am_ad G 18 38 0 = b) (hX : va_X b L xs s s.heap) (hbl : b < s.heap.size) (hL : L ≤ 3072) {n : Nat} (hn : n + 6 ≤ L) (hkc : kc + 137 ≤ room_1.cells) (hks : ks + 1587 ≤ room_1.slots) {σ σ1 σ2 : am_S} {r : Int32} (h7 : fn_X7_tour (xs (n + 1)) (xs (n + 2)) σ = some (r, σ1)) (h8 : fn_X8_tour 5 (xs (n + 1)) (xs (n + 2)) σ1 = some (r, σ2))
    (kk : ∀ (G1 : am_G) (kc1 ks1 : Nat), am_ag G G1 → am_X p s m #[Value.ref b] c code RL 4 am_pL G1 (fun q => s.heap.size ≤ q) → kc1 ≤ kc + 137 → ks1 ≤ ks + 1587 → am_A p l e room_1 s m #[Value.ref b] below meth c 4 G1 (fun q => s.heap.size ≤ q) kc1 ks1 Q (1774, [(0, am_r 18 38 0), (1, am_r 0 0 0), (2, am_r 5 40 0), (3, am_i (nI n))], [], σ2)) :
    am_A p l e room_1 s m #[Value.ref b] below meth c 4 G (fun q => s.heap.size ≤ q) kc ks Q (1013, [(0, am_r 18 38 0), (1, am_r 0 0 0), (2, am_r 5 40 0), (3, am_i (nI n))], [], σ) := by
  have hc := ct_L20
  refine am_blk hc X 0 1 (fr' := (1014, [(0, am_r 18 38 0), (1, am_r 0 0 0), (2, am_r 5 40 0), (3, am_i (nI n))], [am_r 0 0 0], σ)) rfl ⟨trivial, trivial⟩ ?_
  refine am_scr hc X hb18 hX hbl hL 1 (k := 1) rfl rfl rfl rfl rfl rfl (by omega) ?_
  refine am_scr hc X hb18 hX hbl hL 6 (k := 2) rfl rfl rfl rfl rfl rfl (by omega) ?_
  refine am_callVL hc 11 X (k := 0) (i := 0) (o := 0) (As := [am_i (xs (n + 1)), am_i (xs (n + 2))]) (rest := []) (σ' := σ1) (r := some (am_i r)) rfl (ok_X7_tour l (xs (n + 1)) (xs (n + 2)) σ h7) yv_X7_tour ml_L_104 cl_0 ⟨by decide, by decide⟩ rfl rfl rfl ⟨Nat.le_trans (Nat.le_add_right _ _) hkc, Nat.le_trans (Nat.le_add_right _ _) hks⟩ ?_
  refine am_blk hc X 12 1 (fr' := (1028, [(0, am_r 18 38 0), (1, am_r 0 0 0), (2, am_r 5 40 0), (3, am_i (nI n))], [am_r 5 40 0, am_i r], σ1)) rfl ⟨trivial, trivial⟩ ?_
  refine am_scr hc X hb18 hX hbl hL 13 (k := 1) rfl rfl rfl rfl rfl rfl (by omega) ?_
  refine am_scr hc X hb18 hX hbl hL 18 (k := 2) rfl rfl rfl rfl rfl rfl (by omega) ?_
  refine am_callVL hc 23 X (k := 40) (i := 0) (o := 5) (As := [am_i (xs (n + 1)), am_i (xs (n + 2))]) (rest := [am_i r]) (σ' := σ2) (r := some (am_i r)) rfl (ok_X8_tour l 5 (xs (n + 1)) (xs (n + 2)) σ1 h8) yv_X8_tour ml_L_107 cl_40 ⟨by decide, by decide⟩ rfl rfl rfl ⟨Nat.le_trans (Nat.le_add_right _ _) hkc, Nat.le_trans (Nat.le_add_right _ _) hks⟩ ?_
  refine am_icmp_eq hc X 24 (tgt := 1774) rfl (by decide) (fun _ => ?_) (fun z => absurd rfl z)
  exact kk G _ _ am_ag.rf X (Nat.le_add_right _ _) (Nat.le_add_right _ _)
def tb_L21 : List (Nat × Instr × Nat) := [(1046, .aload_n 1, 1), (1047, .aload_n 0, 1), (1048, .iload_n 3, 1), (1049, .iconst 1, 1), (1050, .iadd, 1), (1051, .iaload, 1), (1052, .aload_n 0, 1), (1053, .iload_n 3, 1), (1054, .iconst 2, 1), (1055, .iadd, 1), (1056, .iaload, 1), (1057, .aload_n 0, 1), (1058, .iload_n 3, 1), (1059, .iconst 3, 1), (1060, .iadd, 1), (1061, .iaload, 1), (1062, .invokevirtual 108, 3), (1065, .aload_n 2, 1), (1066, .aload_n 0, 1), (1067, .iload_n 3, 1), (1068, .iconst 1, 1), (1069, .iadd, 1), (1070, .iaload, 1), (1071, .aload_n 0, 1), (1072, .iload_n 3, 1), (1073, .iconst 2, 1), (1074, .iadd, 1), (1075, .iaload, 1), (1076, .aload_n 0, 1), (1077, .iload_n 3, 1), (1078, .iconst 3, 1), (1079, .iadd, 1), (1080, .iaload, 1), (1081, .invokevirtual 111, 3), (1084, .if_icmp .eq 690, 3), (1087, .iconst 0, 1), (1088, .ireturn, 1)]
set_option maxRecDepth 100000 in
theorem ct_L21 : am_code code tb_L21 = true := by decide +kernel
set_option maxRecDepth 100000 in
theorem lc_21 {p : Program} {l : Launch} {e : Env} {s : State} {m : MethodId} {below : List Frame} {meth : Method} {c : Code} {b L : Nat} {xs : Nat → Int32} {G : am_G} {kc ks : Nat} {Q : State → Prop} (X : am_X p s m #[Value.ref b] c code RL 4 am_pL G (fun q => s.heap.size ≤ q)) (hb18 : am_ad G 18 38 0 = b) (hX : va_X b L xs s s.heap) (hbl : b < s.heap.size) (hL : L ≤ 3072) {n : Nat} (hn : n + 6 ≤ L) (hkc : kc + 137 ≤ room_1.cells) (hks : ks + 1587 ≤ room_1.slots) {σ σ1 σ2 : am_S} {r : Int32} (h7 : fn_X7_route (xs (n + 1)) (xs (n + 2)) (xs (n + 3)) σ = some (r, σ1)) (h8 : fn_X8_route 5 (xs (n + 1)) (xs (n + 2)) (xs (n + 3)) σ1 = some (r, σ2))
    (kk : ∀ (G1 : am_G) (kc1 ks1 : Nat), am_ag G G1 → am_X p s m #[Value.ref b] c code RL 4 am_pL G1 (fun q => s.heap.size ≤ q) → kc1 ≤ kc + 137 → ks1 ≤ ks + 1587 → am_A p l e room_1 s m #[Value.ref b] below meth c 4 G1 (fun q => s.heap.size ≤ q) kc1 ks1 Q (1774, [(0, am_r 18 38 0), (1, am_r 0 0 0), (2, am_r 5 40 0), (3, am_i (nI n))], [], σ2)) :
    am_A p l e room_1 s m #[Value.ref b] below meth c 4 G (fun q => s.heap.size ≤ q) kc ks Q (1046, [(0, am_r 18 38 0), (1, am_r 0 0 0), (2, am_r 5 40 0), (3, am_i (nI n))], [], σ) := by
  have hc := ct_L21
  refine am_blk hc X 0 1 (fr' := (1047, [(0, am_r 18 38 0), (1, am_r 0 0 0), (2, am_r 5 40 0), (3, am_i (nI n))], [am_r 0 0 0], σ)) rfl ⟨trivial, trivial⟩ ?_
  refine am_scr hc X hb18 hX hbl hL 1 (k := 1) rfl rfl rfl rfl rfl rfl (by omega) ?_
  refine am_scr hc X hb18 hX hbl hL 6 (k := 2) rfl rfl rfl rfl rfl rfl (by omega) ?_
  refine am_scr hc X hb18 hX hbl hL 11 (k := 3) rfl rfl rfl rfl rfl rfl (by omega) ?_
  refine am_callVL hc 16 X (k := 0) (i := 0) (o := 0) (As := [am_i (xs (n + 1)), am_i (xs (n + 2)), am_i (xs (n + 3))]) (rest := []) (σ' := σ1) (r := some (am_i r)) rfl (ok_X7_route l (xs (n + 1)) (xs (n + 2)) (xs (n + 3)) σ h7) yv_X7_route ml_L_108 cl_0 ⟨by decide, by decide⟩ rfl rfl rfl ⟨Nat.le_trans (Nat.le_add_right _ _) hkc, Nat.le_trans (Nat.le_add_right _ _) hks⟩ ?_
  refine am_blk hc X 17 1 (fr' := (1066, [(0, am_r 18 38 0), (1, am_r 0 0 0), (2, am_r 5 40 0), (3, am_i (nI n))], [am_r 5 40 0, am_i r], σ1)) rfl ⟨trivial, trivial⟩ ?_
  refine am_scr hc X hb18 hX hbl hL 18 (k := 1) rfl rfl rfl rfl rfl rfl (by omega) ?_
  refine am_scr hc X hb18 hX hbl hL 23 (k := 2) rfl rfl rfl rfl rfl rfl (by omega) ?_
  refine am_scr hc X hb18 hX hbl hL 28 (k := 3) rfl rfl rfl rfl rfl rfl (by omega) ?_
  refine am_callVL hc 33 X (k := 40) (i := 0) (o := 5) (As := [am_i (xs (n + 1)), am_i (xs (n + 2)), am_i (xs (n + 3))]) (rest := [am_i r]) (σ' := σ2) (r := some (am_i r)) rfl (ok_X8_route l 5 (xs (n + 1)) (xs (n + 2)) (xs (n + 3)) σ1 h8) yv_X8_route ml_L_111 cl_40 ⟨by decide, by decide⟩ rfl rfl rfl ⟨Nat.le_trans (Nat.le_add_right _ _) hkc, Nat.le_trans (Nat.le_add_right _ _) hks⟩ ?_
  refine am_icmp_eq hc X 34 (tgt := 1774) rfl (by decide) (fun _ => ?_) (fun z => absurd rfl z)
  exact kk G _ _ am_ag.rf X (Nat.le_add_right _ _) (Nat.le_add_right _ _)
def tb_L22 : List (Nat × Instr × Nat) := [(1089, .aload_n 1, 1), (1090, .aload_n 0, 1), (1091, .iload_n 3, 1), (1092, .iconst 1, 1), (1093, .iadd, 1), (1094, .iaload, 1), (1095, .aload_n 0, 1), (1096, .iload_n 3, 1), (1097, .iconst 2, 1), (1098, .iadd, 1), (1099, .iaload, 1), (1100, .invokevirtual 112, 3), (1103, .aload_n 2, 1), (1104, .aload_n 0, 1), (1105, .iload_n 3, 1), (1106, .iconst 1, 1), (1107, .iadd, 1), (1108, .iaload, 1), (1109, .aload_n 0, 1), (1110, .iload_n 3, 1), (1111, .iconst 2, 1), (1112, .iadd, 1), (1113, .iaload, 1), (1114, .invokevirtual 115, 3), (1117, .if_icmp .eq 657, 3), (1120, .iconst 0, 1), (1121, .ireturn, 1)]
set_option maxRecDepth 100000 in
theorem ct_L22 : am_code code tb_L22 = true := by decide +kernel
set_option maxRecDepth 100000 in
theorem lc_22 {p : Program} {l : Launch} {e : Env} {s : State} {m : MethodId} {below : List Frame} {meth : Method} {c : Code} {b L : Nat} {xs : Nat → Int32} {G : am_G} {kc ks : Nat} {Q : State → Prop} (X : am_X p s m #[Value.ref b] c code RL 4 am_pL G (fun q => s.heap.size ≤ q)) (hb18 : am_ad G 18 38 0 = b) (hX : va_X b L xs s s.heap) (hbl : b < s.heap.size) (hL : L ≤ 3072) {n : Nat} (hn : n + 6 ≤ L) (hkc : kc + 137 ≤ room_1.cells) (hks : ks + 1587 ≤ room_1.slots) {σ σ1 σ2 : am_S} {r : Int32} (h7 : fn_X7_tourOf (xs (n + 1)) (xs (n + 2)) σ = some (r, σ1)) (h8 : fn_X8_tourOf 5 (xs (n + 1)) (xs (n + 2)) σ1 = some (r, σ2))
    (kk : ∀ (G1 : am_G) (kc1 ks1 : Nat), am_ag G G1 → am_X p s m #[Value.ref b] c code RL 4 am_pL G1 (fun q => s.heap.size ≤ q) → kc1 ≤ kc + 137 → ks1 ≤ ks + 1587 → am_A p l e room_1 s m #[Value.ref b] below meth c 4 G1 (fun q => s.heap.size ≤ q) kc1 ks1 Q (1774, [(0, am_r 18 38 0), (1, am_r 0 0 0), (2, am_r 5 40 0), (3, am_i (nI n))], [], σ2)) :
    am_A p l e room_1 s m #[Value.ref b] below meth c 4 G (fun q => s.heap.size ≤ q) kc ks Q (1089, [(0, am_r 18 38 0), (1, am_r 0 0 0), (2, am_r 5 40 0), (3, am_i (nI n))], [], σ) := by
  have hc := ct_L22
  refine am_blk hc X 0 1 (fr' := (1090, [(0, am_r 18 38 0), (1, am_r 0 0 0), (2, am_r 5 40 0), (3, am_i (nI n))], [am_r 0 0 0], σ)) rfl ⟨trivial, trivial⟩ ?_
  refine am_scr hc X hb18 hX hbl hL 1 (k := 1) rfl rfl rfl rfl rfl rfl (by omega) ?_
  refine am_scr hc X hb18 hX hbl hL 6 (k := 2) rfl rfl rfl rfl rfl rfl (by omega) ?_
  refine am_callVL hc 11 X (k := 0) (i := 0) (o := 0) (As := [am_i (xs (n + 1)), am_i (xs (n + 2))]) (rest := []) (σ' := σ1) (r := some (am_i r)) rfl (ok_X7_tourOf l (xs (n + 1)) (xs (n + 2)) σ h7) yv_X7_tourOf ml_L_112 cl_0 ⟨by decide, by decide⟩ rfl rfl rfl ⟨Nat.le_trans (Nat.le_add_right _ _) hkc, Nat.le_trans (Nat.le_add_right _ _) hks⟩ ?_
  refine am_blk hc X 12 1 (fr' := (1104, [(0, am_r 18 38 0), (1, am_r 0 0 0), (2, am_r 5 40 0), (3, am_i (nI n))], [am_r 5 40 0, am_i r], σ1)) rfl ⟨trivial, trivial⟩ ?_
  refine am_scr hc X hb18 hX hbl hL 13 (k := 1) rfl rfl rfl rfl rfl rfl (by omega) ?_
  refine am_scr hc X hb18 hX hbl hL 18 (k := 2) rfl rfl rfl rfl rfl rfl (by omega) ?_
  refine am_callVL hc 23 X (k := 40) (i := 0) (o := 5) (As := [am_i (xs (n + 1)), am_i (xs (n + 2))]) (rest := [am_i r]) (σ' := σ2) (r := some (am_i r)) rfl (ok_X8_tourOf l 5 (xs (n + 1)) (xs (n + 2)) σ1 h8) yv_X8_tourOf ml_L_115 cl_40 ⟨by decide, by decide⟩ rfl rfl rfl ⟨Nat.le_trans (Nat.le_add_right _ _) hkc, Nat.le_trans (Nat.le_add_right _ _) hks⟩ ?_
  refine am_icmp_eq hc X 24 (tgt := 1774) rfl (by decide) (fun _ => ?_) (fun z => absurd rfl z)
  exact kk G _ _ am_ag.rf X (Nat.le_add_right _ _) (Nat.le_add_right _ _)
def tb_L23 : List (Nat × Instr × Nat) := [(1122, .aload_n 1, 1), (1123, .aload_n 0, 1), (1124, .iload_n 3, 1), (1125, .iconst 1, 1), (1126, .iadd, 1), (1127, .iaload, 1), (1128, .invokevirtual 116, 3), (1131, .aload_n 2, 1), (1132, .aload_n 0, 1), (1133, .iload_n 3, 1), (1134, .iconst 1, 1), (1135, .iadd, 1), (1136, .iaload, 1), (1137, .invokevirtual 119, 3), (1140, .if_icmp .eq 634, 3), (1143, .iconst 0, 1), (1144, .ireturn, 1)]
set_option maxRecDepth 100000 in
theorem ct_L23 : am_code code tb_L23 = true := by decide +kernel
set_option maxRecDepth 100000 in
theorem lc_23 {p : Program} {l : Launch} {e : Env} {s : State} {m : MethodId} {below : List Frame} {meth : Method} {c : Code} {b L : Nat} {xs : Nat → Int32} {G : am_G} {kc ks : Nat} {Q : State → Prop} (X : am_X p s m #[Value.ref b] c code RL 4 am_pL G (fun q => s.heap.size ≤ q)) (hb18 : am_ad G 18 38 0 = b) (hX : va_X b L xs s s.heap) (hbl : b < s.heap.size) (hL : L ≤ 3072) {n : Nat} (hn : n + 6 ≤ L) (hkc : kc + 137 ≤ room_1.cells) (hks : ks + 1587 ≤ room_1.slots) {σ σ1 σ2 : am_S} {r : Int32} (h7 : fn_X7_saved (xs (n + 1)) σ = some (r, σ1)) (h8 : fn_X8_saved 5 (xs (n + 1)) σ1 = some (r, σ2))
    (kk : ∀ (G1 : am_G) (kc1 ks1 : Nat), am_ag G G1 → am_X p s m #[Value.ref b] c code RL 4 am_pL G1 (fun q => s.heap.size ≤ q) → kc1 ≤ kc + 137 → ks1 ≤ ks + 1587 → am_A p l e room_1 s m #[Value.ref b] below meth c 4 G1 (fun q => s.heap.size ≤ q) kc1 ks1 Q (1774, [(0, am_r 18 38 0), (1, am_r 0 0 0), (2, am_r 5 40 0), (3, am_i (nI n))], [], σ2)) :
    am_A p l e room_1 s m #[Value.ref b] below meth c 4 G (fun q => s.heap.size ≤ q) kc ks Q (1122, [(0, am_r 18 38 0), (1, am_r 0 0 0), (2, am_r 5 40 0), (3, am_i (nI n))], [], σ) := by
  have hc := ct_L23
  refine am_blk hc X 0 1 (fr' := (1123, [(0, am_r 18 38 0), (1, am_r 0 0 0), (2, am_r 5 40 0), (3, am_i (nI n))], [am_r 0 0 0], σ)) rfl ⟨trivial, trivial⟩ ?_
  refine am_scr hc X hb18 hX hbl hL 1 (k := 1) rfl rfl rfl rfl rfl rfl (by omega) ?_
  refine am_callVL hc 6 X (k := 0) (i := 0) (o := 0) (As := [am_i (xs (n + 1))]) (rest := []) (σ' := σ1) (r := some (am_i r)) rfl (ok_X7_saved l (xs (n + 1)) σ h7) yv_X7_saved ml_L_116 cl_0 ⟨by decide, by decide⟩ rfl rfl rfl ⟨Nat.le_trans (Nat.le_add_right _ _) hkc, Nat.le_trans (Nat.le_add_right _ _) hks⟩ ?_
  refine am_blk hc X 7 1 (fr' := (1132, [(0, am_r 18 38 0), (1, am_r 0 0 0), (2, am_r 5 40 0), (3, am_i (nI n))], [am_r 5 40 0, am_i r], σ1)) rfl ⟨trivial, trivial⟩ ?_
  refine am_scr hc X hb18 hX hbl hL 8 (k := 1) rfl rfl rfl rfl rfl rfl (by omega) ?_
  refine am_callVL hc 13 X (k := 40) (i := 0) (o := 5) (As := [am_i (xs (n + 1))]) (rest := [am_i r]) (σ' := σ2) (r := some (am_i r)) rfl (ok_X8_saved l 5 (xs (n + 1)) σ1 h8) yv_X8_saved ml_L_119 cl_40 ⟨by decide, by decide⟩ rfl rfl rfl ⟨Nat.le_trans (Nat.le_add_right _ _) hkc, Nat.le_trans (Nat.le_add_right _ _) hks⟩ ?_
  refine am_icmp_eq hc X 14 (tgt := 1774) rfl (by decide) (fun _ => ?_) (fun z => absurd rfl z)
  exact kk G _ _ am_ag.rf X (Nat.le_add_right _ _) (Nat.le_add_right _ _)
def tb_L24 : List (Nat × Instr × Nat) := [(1145, .aload_n 1, 1), (1146, .invokevirtual 120, 3), (1149, .aload_n 2, 1), (1150, .invokevirtual 123, 3), (1153, .if_icmp .eq 621, 3), (1156, .iconst 0, 1), (1157, .ireturn, 1)]
set_option maxRecDepth 100000 in
theorem ct_L24 : am_code code tb_L24 = true := by decide +kernel
set_option maxRecDepth 100000 in
theorem lc_24 {p : Program} {l : Launch} {e : Env} {s : State} {m : MethodId} {below : List Frame} {meth : Method} {c : Code} {b L : Nat} {xs : Nat → Int32} {G : am_G} {kc ks : Nat} {Q : State → Prop} (X : am_X p s m #[Value.ref b] c code RL 4 am_pL G (fun q => s.heap.size ≤ q)) (hb18 : am_ad G 18 38 0 = b) (hX : va_X b L xs s s.heap) (hbl : b < s.heap.size) (hL : L ≤ 3072) {n : Nat} (hn : n + 6 ≤ L) (hkc : kc + 137 ≤ room_1.cells) (hks : ks + 1587 ≤ room_1.slots) {σ σ1 σ2 : am_S} {r : Int32} (h7 : fn_X7_bestPass  σ = some (r, σ1)) (h8 : fn_X8_bestPass 5 σ1 = some (r, σ2))
    (kk : ∀ (G1 : am_G) (kc1 ks1 : Nat), am_ag G G1 → am_X p s m #[Value.ref b] c code RL 4 am_pL G1 (fun q => s.heap.size ≤ q) → kc1 ≤ kc + 137 → ks1 ≤ ks + 1587 → am_A p l e room_1 s m #[Value.ref b] below meth c 4 G1 (fun q => s.heap.size ≤ q) kc1 ks1 Q (1774, [(0, am_r 18 38 0), (1, am_r 0 0 0), (2, am_r 5 40 0), (3, am_i (nI n))], [], σ2)) :
    am_A p l e room_1 s m #[Value.ref b] below meth c 4 G (fun q => s.heap.size ≤ q) kc ks Q (1145, [(0, am_r 18 38 0), (1, am_r 0 0 0), (2, am_r 5 40 0), (3, am_i (nI n))], [], σ) := by
  have hc := ct_L24
  refine am_blk hc X 0 1 (fr' := (1146, [(0, am_r 18 38 0), (1, am_r 0 0 0), (2, am_r 5 40 0), (3, am_i (nI n))], [am_r 0 0 0], σ)) rfl ⟨trivial, trivial⟩ ?_
  refine am_callVL hc 1 X (k := 0) (i := 0) (o := 0) (As := []) (rest := []) (σ' := σ1) (r := some (am_i r)) rfl (ok_X7_bestPass l σ h7) yv_X7_bestPass ml_L_120 cl_0 ⟨by decide, by decide⟩ rfl rfl rfl ⟨Nat.le_trans (Nat.le_add_right _ _) hkc, Nat.le_trans (Nat.le_add_right _ _) hks⟩ ?_
  refine am_blk hc X 2 1 (fr' := (1150, [(0, am_r 18 38 0), (1, am_r 0 0 0), (2, am_r 5 40 0), (3, am_i (nI n))], [am_r 5 40 0, am_i r], σ1)) rfl ⟨trivial, trivial⟩ ?_
  refine am_callVL hc 3 X (k := 40) (i := 0) (o := 5) (As := []) (rest := [am_i r]) (σ' := σ2) (r := some (am_i r)) rfl (ok_X8_bestPass l 5 σ1 h8) yv_X8_bestPass ml_L_123 cl_40 ⟨by decide, by decide⟩ rfl rfl rfl ⟨Nat.le_trans (Nat.le_add_right _ _) hkc, Nat.le_trans (Nat.le_add_right _ _) hks⟩ ?_
  refine am_icmp_eq hc X 4 (tgt := 1774) rfl (by decide) (fun _ => ?_) (fun z => absurd rfl z)
  exact kk G _ _ am_ag.rf X (Nat.le_add_right _ _) (Nat.le_add_right _ _)
def tb_L25 : List (Nat × Instr × Nat) := [(1158, .aload_n 1, 1), (1159, .aload_n 0, 1), (1160, .iload_n 3, 1), (1161, .iconst 1, 1), (1162, .iadd, 1), (1163, .iaload, 1), (1164, .invokevirtual 124, 3), (1167, .aload_n 2, 1), (1168, .aload_n 0, 1), (1169, .iload_n 3, 1), (1170, .iconst 1, 1), (1171, .iadd, 1), (1172, .iaload, 1), (1173, .invokevirtual 127, 3), (1176, .if_icmp .eq 598, 3), (1179, .iconst 0, 1), (1180, .ireturn, 1)]
set_option maxRecDepth 100000 in
theorem ct_L25 : am_code code tb_L25 = true := by decide +kernel
set_option maxRecDepth 100000 in
theorem lc_25 {p : Program} {l : Launch} {e : Env} {s : State} {m : MethodId} {below : List Frame} {meth : Method} {c : Code} {b L : Nat} {xs : Nat → Int32} {G : am_G} {kc ks : Nat} {Q : State → Prop} (X : am_X p s m #[Value.ref b] c code RL 4 am_pL G (fun q => s.heap.size ≤ q)) (hb18 : am_ad G 18 38 0 = b) (hX : va_X b L xs s s.heap) (hbl : b < s.heap.size) (hL : L ≤ 3072) {n : Nat} (hn : n + 6 ≤ L) (hkc : kc + 137 ≤ room_1.cells) (hks : ks + 1587 ≤ room_1.slots) {σ σ1 σ2 : am_S} {r : Int32} (h7 : fn_X7_first (xs (n + 1)) σ = some (r, σ1)) (h8 : fn_X8_first 5 (xs (n + 1)) σ1 = some (r, σ2))
    (kk : ∀ (G1 : am_G) (kc1 ks1 : Nat), am_ag G G1 → am_X p s m #[Value.ref b] c code RL 4 am_pL G1 (fun q => s.heap.size ≤ q) → kc1 ≤ kc + 137 → ks1 ≤ ks + 1587 → am_A p l e room_1 s m #[Value.ref b] below meth c 4 G1 (fun q => s.heap.size ≤ q) kc1 ks1 Q (1774, [(0, am_r 18 38 0), (1, am_r 0 0 0), (2, am_r 5 40 0), (3, am_i (nI n))], [], σ2)) :
    am_A p l e room_1 s m #[Value.ref b] below meth c 4 G (fun q => s.heap.size ≤ q) kc ks Q (1158, [(0, am_r 18 38 0), (1, am_r 0 0 0), (2, am_r 5 40 0), (3, am_i (nI n))], [], σ) := by
  have hc := ct_L25
  refine am_blk hc X 0 1 (fr' := (1159, [(0, am_r 18 38 0), (1, am_r 0 0 0), (2, am_r 5 40 0), (3, am_i (nI n))], [am_r 0 0 0], σ)) rfl ⟨trivial, trivial⟩ ?_
  refine am_scr hc X hb18 hX hbl hL 1 (k := 1) rfl rfl rfl rfl rfl rfl (by omega) ?_
  refine am_callVL hc 6 X (k := 0) (i := 0) (o := 0) (As := [am_i (xs (n + 1))]) (rest := []) (σ' := σ1) (r := some (am_i r)) rfl (ok_X7_first l (xs (n + 1)) σ h7) yv_X7_first ml_L_124 cl_0 ⟨by decide, by decide⟩ rfl rfl rfl ⟨Nat.le_trans (Nat.le_add_right _ _) hkc, Nat.le_trans (Nat.le_add_right _ _) hks⟩ ?_
  refine am_blk hc X 7 1 (fr' := (1168, [(0, am_r 18 38 0), (1, am_r 0 0 0), (2, am_r 5 40 0), (3, am_i (nI n))], [am_r 5 40 0, am_i r], σ1)) rfl ⟨trivial, trivial⟩ ?_
  refine am_scr hc X hb18 hX hbl hL 8 (k := 1) rfl rfl rfl rfl rfl rfl (by omega) ?_
  refine am_callVL hc 13 X (k := 40) (i := 0) (o := 5) (As := [am_i (xs (n + 1))]) (rest := [am_i r]) (σ' := σ2) (r := some (am_i r)) rfl (ok_X8_first l 5 (xs (n + 1)) σ1 h8) yv_X8_first ml_L_127 cl_40 ⟨by decide, by decide⟩ rfl rfl rfl ⟨Nat.le_trans (Nat.le_add_right _ _) hkc, Nat.le_trans (Nat.le_add_right _ _) hks⟩ ?_
  refine am_icmp_eq hc X 14 (tgt := 1774) rfl (by decide) (fun _ => ?_) (fun z => absurd rfl z)
  exact kk G _ _ am_ag.rf X (Nat.le_add_right _ _) (Nat.le_add_right _ _)
def tb_L26 : List (Nat × Instr × Nat) := [(1181, .aload_n 1, 1), (1182, .aload_n 0, 1), (1183, .iload_n 3, 1), (1184, .iconst 1, 1), (1185, .iadd, 1), (1186, .iaload, 1), (1187, .invokevirtual 128, 3), (1190, .aload_n 2, 1), (1191, .aload_n 0, 1), (1192, .iload_n 3, 1), (1193, .iconst 1, 1), (1194, .iadd, 1), (1195, .iaload, 1), (1196, .invokevirtual 131, 3), (1199, .if_icmp .eq 575, 3), (1202, .iconst 0, 1), (1203, .ireturn, 1)]
set_option maxRecDepth 100000 in
theorem ct_L26 : am_code code tb_L26 = true := by decide +kernel
set_option maxRecDepth 100000 in
theorem lc_26 {p : Program} {l : Launch} {e : Env} {s : State} {m : MethodId} {below : List Frame} {meth : Method} {c : Code} {b L : Nat} {xs : Nat → Int32} {G : am_G} {kc ks : Nat} {Q : State → Prop} (X : am_X p s m #[Value.ref b] c code RL 4 am_pL G (fun q => s.heap.size ≤ q)) (hb18 : am_ad G 18 38 0 = b) (hX : va_X b L xs s s.heap) (hbl : b < s.heap.size) (hL : L ≤ 3072) {n : Nat} (hn : n + 6 ≤ L) (hkc : kc + 137 ≤ room_1.cells) (hks : ks + 1587 ≤ room_1.slots) {σ σ1 σ2 : am_S} {r : Int32} (h7 : fn_X7_works (xs (n + 1)) σ = some (r, σ1)) (h8 : fn_X8_works 5 (xs (n + 1)) σ1 = some (r, σ2))
    (kk : ∀ (G1 : am_G) (kc1 ks1 : Nat), am_ag G G1 → am_X p s m #[Value.ref b] c code RL 4 am_pL G1 (fun q => s.heap.size ≤ q) → kc1 ≤ kc + 137 → ks1 ≤ ks + 1587 → am_A p l e room_1 s m #[Value.ref b] below meth c 4 G1 (fun q => s.heap.size ≤ q) kc1 ks1 Q (1774, [(0, am_r 18 38 0), (1, am_r 0 0 0), (2, am_r 5 40 0), (3, am_i (nI n))], [], σ2)) :
    am_A p l e room_1 s m #[Value.ref b] below meth c 4 G (fun q => s.heap.size ≤ q) kc ks Q (1181, [(0, am_r 18 38 0), (1, am_r 0 0 0), (2, am_r 5 40 0), (3, am_i (nI n))], [], σ) := by
  have hc := ct_L26
  refine am_blk hc X 0 1 (fr' := (1182, [(0, am_r 18 38 0), (1, am_r 0 0 0), (2, am_r 5 40 0), (3, am_i (nI n))], [am_r 0 0 0], σ)) rfl ⟨trivial, trivial⟩ ?_
  refine am_scr hc X hb18 hX hbl hL 1 (k := 1) rfl rfl rfl rfl rfl rfl (by omega) ?_
  refine am_callVL hc 6 X (k := 0) (i := 0) (o := 0) (As := [am_i (xs (n + 1))]) (rest := []) (σ' := σ1) (r := some (am_i r)) rfl (ok_X7_works l (xs (n + 1)) σ h7) yv_X7_works ml_L_128 cl_0 ⟨by decide, by decide⟩ rfl rfl rfl ⟨Nat.le_trans (Nat.le_add_right _ _) hkc, Nat.le_trans (Nat.le_add_right _ _) hks⟩ ?_
  refine am_blk hc X 7 1 (fr' := (1191, [(0, am_r 18 38 0), (1, am_r 0 0 0), (2, am_r 5 40 0), (3, am_i (nI n))], [am_r 5 40 0, am_i r], σ1)) rfl ⟨trivial, trivial⟩ ?_
  refine am_scr hc X hb18 hX hbl hL 8 (k := 1) rfl rfl rfl rfl rfl rfl (by omega) ?_
  refine am_callVL hc 13 X (k := 40) (i := 0) (o := 5) (As := [am_i (xs (n + 1))]) (rest := [am_i r]) (σ' := σ2) (r := some (am_i r)) rfl (ok_X8_works l 5 (xs (n + 1)) σ1 h8) yv_X8_works ml_L_131 cl_40 ⟨by decide, by decide⟩ rfl rfl rfl ⟨Nat.le_trans (Nat.le_add_right _ _) hkc, Nat.le_trans (Nat.le_add_right _ _) hks⟩ ?_
  refine am_icmp_eq hc X 14 (tgt := 1774) rfl (by decide) (fun _ => ?_) (fun z => absurd rfl z)
  exact kk G _ _ am_ag.rf X (Nat.le_add_right _ _) (Nat.le_add_right _ _)
def tb_L27 : List (Nat × Instr × Nat) := [(1204, .aload_n 1, 1), (1205, .aload_n 0, 1), (1206, .iload_n 3, 1), (1207, .iconst 1, 1), (1208, .iadd, 1), (1209, .iaload, 1), (1210, .aload_n 0, 1), (1211, .iload_n 3, 1), (1212, .iconst 2, 1), (1213, .iadd, 1), (1214, .iaload, 1), (1215, .invokevirtual 132, 3), (1218, .aload_n 2, 1), (1219, .aload_n 0, 1), (1220, .iload_n 3, 1), (1221, .iconst 1, 1), (1222, .iadd, 1), (1223, .iaload, 1), (1224, .aload_n 0, 1), (1225, .iload_n 3, 1), (1226, .iconst 2, 1), (1227, .iadd, 1), (1228, .iaload, 1), (1229, .invokevirtual 135, 3), (1232, .if_icmp .eq 542, 3), (1235, .iconst 0, 1), (1236, .ireturn, 1)]
set_option maxRecDepth 100000 in
theorem ct_L27 : am_code code tb_L27 = true := by decide +kernel
set_option maxRecDepth 100000 in
theorem lc_27 {p : Program} {l : Launch} {e : Env} {s : State} {m : MethodId} {below : List Frame} {meth : Method} {c : Code} {b L : Nat} {xs : Nat → Int32} {G : am_G} {kc ks : Nat} {Q : State → Prop} (X : am_X p s m #[Value.ref b] c code RL 4 am_pL G (fun q => s.heap.size ≤ q)) (hb18 : am_ad G 18 38 0 = b) (hX : va_X b L xs s s.heap) (hbl : b < s.heap.size) (hL : L ≤ 3072) {n : Nat} (hn : n + 6 ≤ L) (hkc : kc + 137 ≤ room_1.cells) (hks : ks + 1587 ≤ room_1.slots) {σ σ1 σ2 : am_S} {r : Int32} (h7 : fn_X7_steps (xs (n + 1)) (xs (n + 2)) σ = some (r, σ1)) (h8 : fn_X8_steps 5 (xs (n + 1)) (xs (n + 2)) σ1 = some (r, σ2))
    (kk : ∀ (G1 : am_G) (kc1 ks1 : Nat), am_ag G G1 → am_X p s m #[Value.ref b] c code RL 4 am_pL G1 (fun q => s.heap.size ≤ q) → kc1 ≤ kc + 137 → ks1 ≤ ks + 1587 → am_A p l e room_1 s m #[Value.ref b] below meth c 4 G1 (fun q => s.heap.size ≤ q) kc1 ks1 Q (1774, [(0, am_r 18 38 0), (1, am_r 0 0 0), (2, am_r 5 40 0), (3, am_i (nI n))], [], σ2)) :
    am_A p l e room_1 s m #[Value.ref b] below meth c 4 G (fun q => s.heap.size ≤ q) kc ks Q (1204, [(0, am_r 18 38 0), (1, am_r 0 0 0), (2, am_r 5 40 0), (3, am_i (nI n))], [], σ) := by
  have hc := ct_L27
  refine am_blk hc X 0 1 (fr' := (1205, [(0, am_r 18 38 0), (1, am_r 0 0 0), (2, am_r 5 40 0), (3, am_i (nI n))], [am_r 0 0 0], σ)) rfl ⟨trivial, trivial⟩ ?_
  refine am_scr hc X hb18 hX hbl hL 1 (k := 1) rfl rfl rfl rfl rfl rfl (by omega) ?_
  refine am_scr hc X hb18 hX hbl hL 6 (k := 2) rfl rfl rfl rfl rfl rfl (by omega) ?_
  refine am_callVL hc 11 X (k := 0) (i := 0) (o := 0) (As := [am_i (xs (n + 1)), am_i (xs (n + 2))]) (rest := []) (σ' := σ1) (r := some (am_i r)) rfl (ok_X7_steps l (xs (n + 1)) (xs (n + 2)) σ h7) yv_X7_steps ml_L_132 cl_0 ⟨by decide, by decide⟩ rfl rfl rfl ⟨Nat.le_trans (Nat.le_add_right _ _) hkc, Nat.le_trans (Nat.le_add_right _ _) hks⟩ ?_
  refine am_blk hc X 12 1 (fr' := (1219, [(0, am_r 18 38 0), (1, am_r 0 0 0), (2, am_r 5 40 0), (3, am_i (nI n))], [am_r 5 40 0, am_i r], σ1)) rfl ⟨trivial, trivial⟩ ?_
  refine am_scr hc X hb18 hX hbl hL 13 (k := 1) rfl rfl rfl rfl rfl rfl (by omega) ?_
  refine am_scr hc X hb18 hX hbl hL 18 (k := 2) rfl rfl rfl rfl rfl rfl (by omega) ?_
  refine am_callVL hc 23 X (k := 40) (i := 0) (o := 5) (As := [am_i (xs (n + 1)), am_i (xs (n + 2))]) (rest := [am_i r]) (σ' := σ2) (r := some (am_i r)) rfl (ok_X8_steps l 5 (xs (n + 1)) (xs (n + 2)) σ1 h8) yv_X8_steps ml_L_135 cl_40 ⟨by decide, by decide⟩ rfl rfl rfl ⟨Nat.le_trans (Nat.le_add_right _ _) hkc, Nat.le_trans (Nat.le_add_right _ _) hks⟩ ?_
  refine am_icmp_eq hc X 24 (tgt := 1774) rfl (by decide) (fun _ => ?_) (fun z => absurd rfl z)
  exact kk G _ _ am_ag.rf X (Nat.le_add_right _ _) (Nat.le_add_right _ _)
def tb_L28 : List (Nat × Instr × Nat) := [(1237, .aload_n 1, 1), (1238, .aload_n 0, 1), (1239, .iload_n 3, 1), (1240, .iconst 1, 1), (1241, .iadd, 1), (1242, .iaload, 1), (1243, .aload_n 0, 1), (1244, .iload_n 3, 1), (1245, .iconst 2, 1), (1246, .iadd, 1), (1247, .iaload, 1), (1248, .aload_n 0, 1), (1249, .iload_n 3, 1), (1250, .iconst 3, 1), (1251, .iadd, 1), (1252, .iaload, 1), (1253, .invokevirtual 136, 3), (1256, .aload_n 2, 1), (1257, .aload_n 0, 1), (1258, .iload_n 3, 1), (1259, .iconst 1, 1), (1260, .iadd, 1), (1261, .iaload, 1), (1262, .aload_n 0, 1), (1263, .iload_n 3, 1), (1264, .iconst 2, 1), (1265, .iadd, 1), (1266, .iaload, 1), (1267, .aload_n 0, 1), (1268, .iload_n 3, 1), (1269, .iconst 3, 1), (1270, .iadd, 1), (1271, .iaload, 1), (1272, .invokevirtual 139, 3), (1275, .if_icmp .eq 499, 3), (1278, .iconst 0, 1), (1279, .ireturn, 1)]
set_option maxRecDepth 100000 in
theorem ct_L28 : am_code code tb_L28 = true := by decide +kernel
set_option maxRecDepth 100000 in
theorem lc_28 {p : Program} {l : Launch} {e : Env} {s : State} {m : MethodId} {below : List Frame} {meth : Method} {c : Code} {b L : Nat} {xs : Nat → Int32} {G : am_G} {kc ks : Nat} {Q : State → Prop} (X : am_X p s m #[Value.ref b] c code RL 4 am_pL G (fun q => s.heap.size ≤ q)) (hb18 : am_ad G 18 38 0 = b) (hX : va_X b L xs s s.heap) (hbl : b < s.heap.size) (hL : L ≤ 3072) {n : Nat} (hn : n + 6 ≤ L) (hkc : kc + 137 ≤ room_1.cells) (hks : ks + 1587 ≤ room_1.slots) {σ σ1 σ2 : am_S} {r : Int32} (h7 : fn_X7_within (xs (n + 1)) (xs (n + 2)) (xs (n + 3)) σ = some (r, σ1)) (h8 : fn_X8_within 5 (xs (n + 1)) (xs (n + 2)) (xs (n + 3)) σ1 = some (r, σ2))
    (kk : ∀ (G1 : am_G) (kc1 ks1 : Nat), am_ag G G1 → am_X p s m #[Value.ref b] c code RL 4 am_pL G1 (fun q => s.heap.size ≤ q) → kc1 ≤ kc + 137 → ks1 ≤ ks + 1587 → am_A p l e room_1 s m #[Value.ref b] below meth c 4 G1 (fun q => s.heap.size ≤ q) kc1 ks1 Q (1774, [(0, am_r 18 38 0), (1, am_r 0 0 0), (2, am_r 5 40 0), (3, am_i (nI n))], [], σ2)) :
    am_A p l e room_1 s m #[Value.ref b] below meth c 4 G (fun q => s.heap.size ≤ q) kc ks Q (1237, [(0, am_r 18 38 0), (1, am_r 0 0 0), (2, am_r 5 40 0), (3, am_i (nI n))], [], σ) := by
  have hc := ct_L28
  refine am_blk hc X 0 1 (fr' := (1238, [(0, am_r 18 38 0), (1, am_r 0 0 0), (2, am_r 5 40 0), (3, am_i (nI n))], [am_r 0 0 0], σ)) rfl ⟨trivial, trivial⟩ ?_
  refine am_scr hc X hb18 hX hbl hL 1 (k := 1) rfl rfl rfl rfl rfl rfl (by omega) ?_
  refine am_scr hc X hb18 hX hbl hL 6 (k := 2) rfl rfl rfl rfl rfl rfl (by omega) ?_
  refine am_scr hc X hb18 hX hbl hL 11 (k := 3) rfl rfl rfl rfl rfl rfl (by omega) ?_
  refine am_callVL hc 16 X (k := 0) (i := 0) (o := 0) (As := [am_i (xs (n + 1)), am_i (xs (n + 2)), am_i (xs (n + 3))]) (rest := []) (σ' := σ1) (r := some (am_i r)) rfl (ok_X7_within l (xs (n + 1)) (xs (n + 2)) (xs (n + 3)) σ h7) yv_X7_within ml_L_136 cl_0 ⟨by decide, by decide⟩ rfl rfl rfl ⟨Nat.le_trans (Nat.le_add_right _ _) hkc, Nat.le_trans (Nat.le_add_right _ _) hks⟩ ?_
  refine am_blk hc X 17 1 (fr' := (1257, [(0, am_r 18 38 0), (1, am_r 0 0 0), (2, am_r 5 40 0), (3, am_i (nI n))], [am_r 5 40 0, am_i r], σ1)) rfl ⟨trivial, trivial⟩ ?_
  refine am_scr hc X hb18 hX hbl hL 18 (k := 1) rfl rfl rfl rfl rfl rfl (by omega) ?_
  refine am_scr hc X hb18 hX hbl hL 23 (k := 2) rfl rfl rfl rfl rfl rfl (by omega) ?_
  refine am_scr hc X hb18 hX hbl hL 28 (k := 3) rfl rfl rfl rfl rfl rfl (by omega) ?_
  refine am_callVL hc 33 X (k := 40) (i := 0) (o := 5) (As := [am_i (xs (n + 1)), am_i (xs (n + 2)), am_i (xs (n + 3))]) (rest := [am_i r]) (σ' := σ2) (r := some (am_i r)) rfl (ok_X8_within l 5 (xs (n + 1)) (xs (n + 2)) (xs (n + 3)) σ1 h8) yv_X8_within ml_L_139 cl_40 ⟨by decide, by decide⟩ rfl rfl rfl ⟨Nat.le_trans (Nat.le_add_right _ _) hkc, Nat.le_trans (Nat.le_add_right _ _) hks⟩ ?_
  refine am_icmp_eq hc X 34 (tgt := 1774) rfl (by decide) (fun _ => ?_) (fun z => absurd rfl z)
  exact kk G _ _ am_ag.rf X (Nat.le_add_right _ _) (Nat.le_add_right _ _)
def tb_L29 : List (Nat × Instr × Nat) := [(1280, .aload_n 1, 1), (1281, .invokevirtual 140, 3), (1284, .aload_n 2, 1), (1285, .invokevirtual 143, 3), (1288, .if_icmp .eq 486, 3), (1291, .iconst 0, 1), (1292, .ireturn, 1)]
set_option maxRecDepth 100000 in
theorem ct_L29 : am_code code tb_L29 = true := by decide +kernel
set_option maxRecDepth 100000 in
theorem lc_29 {p : Program} {l : Launch} {e : Env} {s : State} {m : MethodId} {below : List Frame} {meth : Method} {c : Code} {b L : Nat} {xs : Nat → Int32} {G : am_G} {kc ks : Nat} {Q : State → Prop} (X : am_X p s m #[Value.ref b] c code RL 4 am_pL G (fun q => s.heap.size ≤ q)) (hb18 : am_ad G 18 38 0 = b) (hX : va_X b L xs s s.heap) (hbl : b < s.heap.size) (hL : L ≤ 3072) {n : Nat} (hn : n + 6 ≤ L) (hkc : kc + 137 ≤ room_1.cells) (hks : ks + 1587 ≤ room_1.slots) {σ σ1 σ2 : am_S} {r : Int32} (h7 : fn_X7_crowd  σ = some (r, σ1)) (h8 : fn_X8_crowd 5 σ1 = some (r, σ2))
    (kk : ∀ (G1 : am_G) (kc1 ks1 : Nat), am_ag G G1 → am_X p s m #[Value.ref b] c code RL 4 am_pL G1 (fun q => s.heap.size ≤ q) → kc1 ≤ kc + 137 → ks1 ≤ ks + 1587 → am_A p l e room_1 s m #[Value.ref b] below meth c 4 G1 (fun q => s.heap.size ≤ q) kc1 ks1 Q (1774, [(0, am_r 18 38 0), (1, am_r 0 0 0), (2, am_r 5 40 0), (3, am_i (nI n))], [], σ2)) :
    am_A p l e room_1 s m #[Value.ref b] below meth c 4 G (fun q => s.heap.size ≤ q) kc ks Q (1280, [(0, am_r 18 38 0), (1, am_r 0 0 0), (2, am_r 5 40 0), (3, am_i (nI n))], [], σ) := by
  have hc := ct_L29
  refine am_blk hc X 0 1 (fr' := (1281, [(0, am_r 18 38 0), (1, am_r 0 0 0), (2, am_r 5 40 0), (3, am_i (nI n))], [am_r 0 0 0], σ)) rfl ⟨trivial, trivial⟩ ?_
  refine am_callVL hc 1 X (k := 0) (i := 0) (o := 0) (As := []) (rest := []) (σ' := σ1) (r := some (am_i r)) rfl (ok_X7_crowd l σ h7) yv_X7_crowd ml_L_140 cl_0 ⟨by decide, by decide⟩ rfl rfl rfl ⟨Nat.le_trans (Nat.le_add_right _ _) hkc, Nat.le_trans (Nat.le_add_right _ _) hks⟩ ?_
  refine am_blk hc X 2 1 (fr' := (1285, [(0, am_r 18 38 0), (1, am_r 0 0 0), (2, am_r 5 40 0), (3, am_i (nI n))], [am_r 5 40 0, am_i r], σ1)) rfl ⟨trivial, trivial⟩ ?_
  refine am_callVL hc 3 X (k := 40) (i := 0) (o := 5) (As := []) (rest := [am_i r]) (σ' := σ2) (r := some (am_i r)) rfl (ok_X8_crowd l 5 σ1 h8) yv_X8_crowd ml_L_143 cl_40 ⟨by decide, by decide⟩ rfl rfl rfl ⟨Nat.le_trans (Nat.le_add_right _ _) hkc, Nat.le_trans (Nat.le_add_right _ _) hks⟩ ?_
  refine am_icmp_eq hc X 4 (tgt := 1774) rfl (by decide) (fun _ => ?_) (fun z => absurd rfl z)
  exact kk G _ _ am_ag.rf X (Nat.le_add_right _ _) (Nat.le_add_right _ _)
def tb_L30 : List (Nat × Instr × Nat) := [(1293, .aload_n 1, 1), (1294, .aload_n 0, 1), (1295, .iload_n 3, 1), (1296, .iconst 1, 1), (1297, .iadd, 1), (1298, .iaload, 1), (1299, .invokevirtual 144, 3), (1302, .aload_n 2, 1), (1303, .aload_n 0, 1), (1304, .iload_n 3, 1), (1305, .iconst 1, 1), (1306, .iadd, 1), (1307, .iaload, 1), (1308, .invokevirtual 147, 3), (1311, .if_icmp .eq 463, 3), (1314, .iconst 0, 1), (1315, .ireturn, 1)]
set_option maxRecDepth 100000 in
theorem ct_L30 : am_code code tb_L30 = true := by decide +kernel
set_option maxRecDepth 100000 in
theorem lc_30 {p : Program} {l : Launch} {e : Env} {s : State} {m : MethodId} {below : List Frame} {meth : Method} {c : Code} {b L : Nat} {xs : Nat → Int32} {G : am_G} {kc ks : Nat} {Q : State → Prop} (X : am_X p s m #[Value.ref b] c code RL 4 am_pL G (fun q => s.heap.size ≤ q)) (hb18 : am_ad G 18 38 0 = b) (hX : va_X b L xs s s.heap) (hbl : b < s.heap.size) (hL : L ≤ 3072) {n : Nat} (hn : n + 6 ≤ L) (hkc : kc + 137 ≤ room_1.cells) (hks : ks + 1587 ≤ room_1.slots) {σ σ1 σ2 : am_S} {r : Int32} (h7 : fn_X7_ring (xs (n + 1)) σ = some (r, σ1)) (h8 : fn_X8_ring 5 (xs (n + 1)) σ1 = some (r, σ2))
    (kk : ∀ (G1 : am_G) (kc1 ks1 : Nat), am_ag G G1 → am_X p s m #[Value.ref b] c code RL 4 am_pL G1 (fun q => s.heap.size ≤ q) → kc1 ≤ kc + 137 → ks1 ≤ ks + 1587 → am_A p l e room_1 s m #[Value.ref b] below meth c 4 G1 (fun q => s.heap.size ≤ q) kc1 ks1 Q (1774, [(0, am_r 18 38 0), (1, am_r 0 0 0), (2, am_r 5 40 0), (3, am_i (nI n))], [], σ2)) :
    am_A p l e room_1 s m #[Value.ref b] below meth c 4 G (fun q => s.heap.size ≤ q) kc ks Q (1293, [(0, am_r 18 38 0), (1, am_r 0 0 0), (2, am_r 5 40 0), (3, am_i (nI n))], [], σ) := by
  have hc := ct_L30
  refine am_blk hc X 0 1 (fr' := (1294, [(0, am_r 18 38 0), (1, am_r 0 0 0), (2, am_r 5 40 0), (3, am_i (nI n))], [am_r 0 0 0], σ)) rfl ⟨trivial, trivial⟩ ?_
  refine am_scr hc X hb18 hX hbl hL 1 (k := 1) rfl rfl rfl rfl rfl rfl (by omega) ?_
  refine am_callVL hc 6 X (k := 0) (i := 0) (o := 0) (As := [am_i (xs (n + 1))]) (rest := []) (σ' := σ1) (r := some (am_i r)) rfl (ok_X7_ring l (xs (n + 1)) σ h7) yv_X7_ring ml_L_144 cl_0 ⟨by decide, by decide⟩ rfl rfl rfl ⟨Nat.le_trans (Nat.le_add_right _ _) hkc, Nat.le_trans (Nat.le_add_right _ _) hks⟩ ?_
  refine am_blk hc X 7 1 (fr' := (1303, [(0, am_r 18 38 0), (1, am_r 0 0 0), (2, am_r 5 40 0), (3, am_i (nI n))], [am_r 5 40 0, am_i r], σ1)) rfl ⟨trivial, trivial⟩ ?_
  refine am_scr hc X hb18 hX hbl hL 8 (k := 1) rfl rfl rfl rfl rfl rfl (by omega) ?_
  refine am_callVL hc 13 X (k := 40) (i := 0) (o := 5) (As := [am_i (xs (n + 1))]) (rest := [am_i r]) (σ' := σ2) (r := some (am_i r)) rfl (ok_X8_ring l 5 (xs (n + 1)) σ1 h8) yv_X8_ring ml_L_147 cl_40 ⟨by decide, by decide⟩ rfl rfl rfl ⟨Nat.le_trans (Nat.le_add_right _ _) hkc, Nat.le_trans (Nat.le_add_right _ _) hks⟩ ?_
  refine am_icmp_eq hc X 14 (tgt := 1774) rfl (by decide) (fun _ => ?_) (fun z => absurd rfl z)
  exact kk G _ _ am_ag.rf X (Nat.le_add_right _ _) (Nat.le_add_right _ _)
def tb_L31 : List (Nat × Instr × Nat) := [(1316, .aload_n 1, 1), (1317, .aload_n 0, 1), (1318, .iload_n 3, 1), (1319, .iconst 1, 1), (1320, .iadd, 1), (1321, .iaload, 1), (1322, .invokevirtual 148, 3), (1325, .aload_n 2, 1), (1326, .aload_n 0, 1), (1327, .iload_n 3, 1), (1328, .iconst 1, 1), (1329, .iadd, 1), (1330, .iaload, 1), (1331, .invokevirtual 151, 3), (1334, .if_icmp .eq 440, 3), (1337, .iconst 0, 1), (1338, .ireturn, 1)]
set_option maxRecDepth 100000 in
theorem ct_L31 : am_code code tb_L31 = true := by decide +kernel
set_option maxRecDepth 100000 in
theorem lc_31 {p : Program} {l : Launch} {e : Env} {s : State} {m : MethodId} {below : List Frame} {meth : Method} {c : Code} {b L : Nat} {xs : Nat → Int32} {G : am_G} {kc ks : Nat} {Q : State → Prop} (X : am_X p s m #[Value.ref b] c code RL 4 am_pL G (fun q => s.heap.size ≤ q)) (hb18 : am_ad G 18 38 0 = b) (hX : va_X b L xs s s.heap) (hbl : b < s.heap.size) (hL : L ≤ 3072) {n : Nat} (hn : n + 6 ≤ L) (hkc : kc + 137 ≤ room_1.cells) (hks : ks + 1587 ≤ room_1.slots) {σ σ1 σ2 : am_S} {r : Int32} (h7 : fn_X7_dearest (xs (n + 1)) σ = some (r, σ1)) (h8 : fn_X8_dearest 5 (xs (n + 1)) σ1 = some (r, σ2))
    (kk : ∀ (G1 : am_G) (kc1 ks1 : Nat), am_ag G G1 → am_X p s m #[Value.ref b] c code RL 4 am_pL G1 (fun q => s.heap.size ≤ q) → kc1 ≤ kc + 137 → ks1 ≤ ks + 1587 → am_A p l e room_1 s m #[Value.ref b] below meth c 4 G1 (fun q => s.heap.size ≤ q) kc1 ks1 Q (1774, [(0, am_r 18 38 0), (1, am_r 0 0 0), (2, am_r 5 40 0), (3, am_i (nI n))], [], σ2)) :
    am_A p l e room_1 s m #[Value.ref b] below meth c 4 G (fun q => s.heap.size ≤ q) kc ks Q (1316, [(0, am_r 18 38 0), (1, am_r 0 0 0), (2, am_r 5 40 0), (3, am_i (nI n))], [], σ) := by
  have hc := ct_L31
  refine am_blk hc X 0 1 (fr' := (1317, [(0, am_r 18 38 0), (1, am_r 0 0 0), (2, am_r 5 40 0), (3, am_i (nI n))], [am_r 0 0 0], σ)) rfl ⟨trivial, trivial⟩ ?_
  refine am_scr hc X hb18 hX hbl hL 1 (k := 1) rfl rfl rfl rfl rfl rfl (by omega) ?_
  refine am_callVL hc 6 X (k := 0) (i := 0) (o := 0) (As := [am_i (xs (n + 1))]) (rest := []) (σ' := σ1) (r := some (am_i r)) rfl (ok_X7_dearest l (xs (n + 1)) σ h7) yv_X7_dearest ml_L_148 cl_0 ⟨by decide, by decide⟩ rfl rfl rfl ⟨Nat.le_trans (Nat.le_add_right _ _) hkc, Nat.le_trans (Nat.le_add_right _ _) hks⟩ ?_
  refine am_blk hc X 7 1 (fr' := (1326, [(0, am_r 18 38 0), (1, am_r 0 0 0), (2, am_r 5 40 0), (3, am_i (nI n))], [am_r 5 40 0, am_i r], σ1)) rfl ⟨trivial, trivial⟩ ?_
  refine am_scr hc X hb18 hX hbl hL 8 (k := 1) rfl rfl rfl rfl rfl rfl (by omega) ?_
  refine am_callVL hc 13 X (k := 40) (i := 0) (o := 5) (As := [am_i (xs (n + 1))]) (rest := [am_i r]) (σ' := σ2) (r := some (am_i r)) rfl (ok_X8_dearest l 5 (xs (n + 1)) σ1 h8) yv_X8_dearest ml_L_151 cl_40 ⟨by decide, by decide⟩ rfl rfl rfl ⟨Nat.le_trans (Nat.le_add_right _ _) hkc, Nat.le_trans (Nat.le_add_right _ _) hks⟩ ?_
  refine am_icmp_eq hc X 14 (tgt := 1774) rfl (by decide) (fun _ => ?_) (fun z => absurd rfl z)
  exact kk G _ _ am_ag.rf X (Nat.le_add_right _ _) (Nat.le_add_right _ _)
def tb_L32 : List (Nat × Instr × Nat) := [(1339, .aload_n 1, 1), (1340, .aload_n 0, 1), (1341, .iload_n 3, 1), (1342, .iconst 1, 1), (1343, .iadd, 1), (1344, .iaload, 1), (1345, .aload_n 0, 1), (1346, .iload_n 3, 1), (1347, .iconst 2, 1), (1348, .iadd, 1), (1349, .iaload, 1), (1350, .invokevirtual 152, 3), (1353, .aload_n 2, 1), (1354, .aload_n 0, 1), (1355, .iload_n 3, 1), (1356, .iconst 1, 1), (1357, .iadd, 1), (1358, .iaload, 1), (1359, .aload_n 0, 1), (1360, .iload_n 3, 1), (1361, .iconst 2, 1), (1362, .iadd, 1), (1363, .iaload, 1), (1364, .invokevirtual 155, 3), (1367, .if_icmp .eq 407, 3), (1370, .iconst 0, 1), (1371, .ireturn, 1)]
set_option maxRecDepth 100000 in
theorem ct_L32 : am_code code tb_L32 = true := by decide +kernel
set_option maxRecDepth 100000 in
theorem lc_32 {p : Program} {l : Launch} {e : Env} {s : State} {m : MethodId} {below : List Frame} {meth : Method} {c : Code} {b L : Nat} {xs : Nat → Int32} {G : am_G} {kc ks : Nat} {Q : State → Prop} (X : am_X p s m #[Value.ref b] c code RL 4 am_pL G (fun q => s.heap.size ≤ q)) (hb18 : am_ad G 18 38 0 = b) (hX : va_X b L xs s s.heap) (hbl : b < s.heap.size) (hL : L ≤ 3072) {n : Nat} (hn : n + 6 ≤ L) (hkc : kc + 137 ≤ room_1.cells) (hks : ks + 1587 ≤ room_1.slots) {σ σ1 σ2 : am_S} {r : Int32} (h7 : fn_X7_alike (xs (n + 1)) (xs (n + 2)) σ = some (r, σ1)) (h8 : fn_X8_alike 5 (xs (n + 1)) (xs (n + 2)) σ1 = some (r, σ2))
    (kk : ∀ (G1 : am_G) (kc1 ks1 : Nat), am_ag G G1 → am_X p s m #[Value.ref b] c code RL 4 am_pL G1 (fun q => s.heap.size ≤ q) → kc1 ≤ kc + 137 → ks1 ≤ ks + 1587 → am_A p l e room_1 s m #[Value.ref b] below meth c 4 G1 (fun q => s.heap.size ≤ q) kc1 ks1 Q (1774, [(0, am_r 18 38 0), (1, am_r 0 0 0), (2, am_r 5 40 0), (3, am_i (nI n))], [], σ2)) :
    am_A p l e room_1 s m #[Value.ref b] below meth c 4 G (fun q => s.heap.size ≤ q) kc ks Q (1339, [(0, am_r 18 38 0), (1, am_r 0 0 0), (2, am_r 5 40 0), (3, am_i (nI n))], [], σ) := by
  have hc := ct_L32
  refine am_blk hc X 0 1 (fr' := (1340, [(0, am_r 18 38 0), (1, am_r 0 0 0), (2, am_r 5 40 0), (3, am_i (nI n))], [am_r 0 0 0], σ)) rfl ⟨trivial, trivial⟩ ?_
  refine am_scr hc X hb18 hX hbl hL 1 (k := 1) rfl rfl rfl rfl rfl rfl (by omega) ?_
  refine am_scr hc X hb18 hX hbl hL 6 (k := 2) rfl rfl rfl rfl rfl rfl (by omega) ?_
  refine am_callVL hc 11 X (k := 0) (i := 0) (o := 0) (As := [am_i (xs (n + 1)), am_i (xs (n + 2))]) (rest := []) (σ' := σ1) (r := some (am_i r)) rfl (ok_X7_alike l (xs (n + 1)) (xs (n + 2)) σ h7) yv_X7_alike ml_L_152 cl_0 ⟨by decide, by decide⟩ rfl rfl rfl ⟨Nat.le_trans (Nat.le_add_right _ _) hkc, Nat.le_trans (Nat.le_add_right _ _) hks⟩ ?_
  refine am_blk hc X 12 1 (fr' := (1354, [(0, am_r 18 38 0), (1, am_r 0 0 0), (2, am_r 5 40 0), (3, am_i (nI n))], [am_r 5 40 0, am_i r], σ1)) rfl ⟨trivial, trivial⟩ ?_
  refine am_scr hc X hb18 hX hbl hL 13 (k := 1) rfl rfl rfl rfl rfl rfl (by omega) ?_
  refine am_scr hc X hb18 hX hbl hL 18 (k := 2) rfl rfl rfl rfl rfl rfl (by omega) ?_
  refine am_callVL hc 23 X (k := 40) (i := 0) (o := 5) (As := [am_i (xs (n + 1)), am_i (xs (n + 2))]) (rest := [am_i r]) (σ' := σ2) (r := some (am_i r)) rfl (ok_X8_alike l 5 (xs (n + 1)) (xs (n + 2)) σ1 h8) yv_X8_alike ml_L_155 cl_40 ⟨by decide, by decide⟩ rfl rfl rfl ⟨Nat.le_trans (Nat.le_add_right _ _) hkc, Nat.le_trans (Nat.le_add_right _ _) hks⟩ ?_
  refine am_icmp_eq hc X 24 (tgt := 1774) rfl (by decide) (fun _ => ?_) (fun z => absurd rfl z)
  exact kk G _ _ am_ag.rf X (Nat.le_add_right _ _) (Nat.le_add_right _ _)
def tb_L33 : List (Nat × Instr × Nat) := [(1372, .aload_n 1, 1), (1373, .aload_n 0, 1), (1374, .iload_n 3, 1), (1375, .iconst 1, 1), (1376, .iadd, 1), (1377, .iaload, 1), (1378, .invokevirtual 156, 3), (1381, .aload_n 2, 1), (1382, .aload_n 0, 1), (1383, .iload_n 3, 1), (1384, .iconst 1, 1), (1385, .iadd, 1), (1386, .iaload, 1), (1387, .invokevirtual 159, 3), (1390, .if_icmp .eq 384, 3), (1393, .iconst 0, 1), (1394, .ireturn, 1)]
set_option maxRecDepth 100000 in
theorem ct_L33 : am_code code tb_L33 = true := by decide +kernel
set_option maxRecDepth 100000 in
theorem lc_33 {p : Program} {l : Launch} {e : Env} {s : State} {m : MethodId} {below : List Frame} {meth : Method} {c : Code} {b L : Nat} {xs : Nat → Int32} {G : am_G} {kc ks : Nat} {Q : State → Prop} (X : am_X p s m #[Value.ref b] c code RL 4 am_pL G (fun q => s.heap.size ≤ q)) (hb18 : am_ad G 18 38 0 = b) (hX : va_X b L xs s s.heap) (hbl : b < s.heap.size) (hL : L ≤ 3072) {n : Nat} (hn : n + 6 ≤ L) (hkc : kc + 137 ≤ room_1.cells) (hks : ks + 1587 ≤ room_1.slots) {σ σ1 σ2 : am_S} {r : Int32} (h7 : fn_X7_homes (xs (n + 1)) σ = some (r, σ1)) (h8 : fn_X8_homes 5 (xs (n + 1)) σ1 = some (r, σ2))
    (kk : ∀ (G1 : am_G) (kc1 ks1 : Nat), am_ag G G1 → am_X p s m #[Value.ref b] c code RL 4 am_pL G1 (fun q => s.heap.size ≤ q) → kc1 ≤ kc + 137 → ks1 ≤ ks + 1587 → am_A p l e room_1 s m #[Value.ref b] below meth c 4 G1 (fun q => s.heap.size ≤ q) kc1 ks1 Q (1774, [(0, am_r 18 38 0), (1, am_r 0 0 0), (2, am_r 5 40 0), (3, am_i (nI n))], [], σ2)) :
    am_A p l e room_1 s m #[Value.ref b] below meth c 4 G (fun q => s.heap.size ≤ q) kc ks Q (1372, [(0, am_r 18 38 0), (1, am_r 0 0 0), (2, am_r 5 40 0), (3, am_i (nI n))], [], σ) := by
  have hc := ct_L33
  refine am_blk hc X 0 1 (fr' := (1373, [(0, am_r 18 38 0), (1, am_r 0 0 0), (2, am_r 5 40 0), (3, am_i (nI n))], [am_r 0 0 0], σ)) rfl ⟨trivial, trivial⟩ ?_
  refine am_scr hc X hb18 hX hbl hL 1 (k := 1) rfl rfl rfl rfl rfl rfl (by omega) ?_
  refine am_callVL hc 6 X (k := 0) (i := 0) (o := 0) (As := [am_i (xs (n + 1))]) (rest := []) (σ' := σ1) (r := some (am_i r)) rfl (ok_X7_homes l (xs (n + 1)) σ h7) yv_X7_homes ml_L_156 cl_0 ⟨by decide, by decide⟩ rfl rfl rfl ⟨Nat.le_trans (Nat.le_add_right _ _) hkc, Nat.le_trans (Nat.le_add_right _ _) hks⟩ ?_
  refine am_blk hc X 7 1 (fr' := (1382, [(0, am_r 18 38 0), (1, am_r 0 0 0), (2, am_r 5 40 0), (3, am_i (nI n))], [am_r 5 40 0, am_i r], σ1)) rfl ⟨trivial, trivial⟩ ?_
  refine am_scr hc X hb18 hX hbl hL 8 (k := 1) rfl rfl rfl rfl rfl rfl (by omega) ?_
  refine am_callVL hc 13 X (k := 40) (i := 0) (o := 5) (As := [am_i (xs (n + 1))]) (rest := [am_i r]) (σ' := σ2) (r := some (am_i r)) rfl (ok_X8_homes l 5 (xs (n + 1)) σ1 h8) yv_X8_homes ml_L_159 cl_40 ⟨by decide, by decide⟩ rfl rfl rfl ⟨Nat.le_trans (Nat.le_add_right _ _) hkc, Nat.le_trans (Nat.le_add_right _ _) hks⟩ ?_
  refine am_icmp_eq hc X 14 (tgt := 1774) rfl (by decide) (fun _ => ?_) (fun z => absurd rfl z)
  exact kk G _ _ am_ag.rf X (Nat.le_add_right _ _) (Nat.le_add_right _ _)
def tb_L34 : List (Nat × Instr × Nat) := [(1395, .aload_n 1, 1), (1396, .invokevirtual 160, 3), (1399, .aload_n 2, 1), (1400, .invokevirtual 163, 3), (1403, .if_icmp .eq 371, 3), (1406, .iconst 0, 1), (1407, .ireturn, 1)]
set_option maxRecDepth 100000 in
theorem ct_L34 : am_code code tb_L34 = true := by decide +kernel
set_option maxRecDepth 100000 in
theorem lc_34 {p : Program} {l : Launch} {e : Env} {s : State} {m : MethodId} {below : List Frame} {meth : Method} {c : Code} {b L : Nat} {xs : Nat → Int32} {G : am_G} {kc ks : Nat} {Q : State → Prop} (X : am_X p s m #[Value.ref b] c code RL 4 am_pL G (fun q => s.heap.size ≤ q)) (hb18 : am_ad G 18 38 0 = b) (hX : va_X b L xs s s.heap) (hbl : b < s.heap.size) (hL : L ≤ 3072) {n : Nat} (hn : n + 6 ≤ L) (hkc : kc + 137 ≤ room_1.cells) (hks : ks + 1587 ≤ room_1.slots) {σ σ1 σ2 : am_S} {r : Int32} (h7 : fn_X7_market  σ = some (r, σ1)) (h8 : fn_X8_market 5 σ1 = some (r, σ2))
    (kk : ∀ (G1 : am_G) (kc1 ks1 : Nat), am_ag G G1 → am_X p s m #[Value.ref b] c code RL 4 am_pL G1 (fun q => s.heap.size ≤ q) → kc1 ≤ kc + 137 → ks1 ≤ ks + 1587 → am_A p l e room_1 s m #[Value.ref b] below meth c 4 G1 (fun q => s.heap.size ≤ q) kc1 ks1 Q (1774, [(0, am_r 18 38 0), (1, am_r 0 0 0), (2, am_r 5 40 0), (3, am_i (nI n))], [], σ2)) :
    am_A p l e room_1 s m #[Value.ref b] below meth c 4 G (fun q => s.heap.size ≤ q) kc ks Q (1395, [(0, am_r 18 38 0), (1, am_r 0 0 0), (2, am_r 5 40 0), (3, am_i (nI n))], [], σ) := by
  have hc := ct_L34
  refine am_blk hc X 0 1 (fr' := (1396, [(0, am_r 18 38 0), (1, am_r 0 0 0), (2, am_r 5 40 0), (3, am_i (nI n))], [am_r 0 0 0], σ)) rfl ⟨trivial, trivial⟩ ?_
  refine am_callVL hc 1 X (k := 0) (i := 0) (o := 0) (As := []) (rest := []) (σ' := σ1) (r := some (am_i r)) rfl (ok_X7_market l σ h7) yv_X7_market ml_L_160 cl_0 ⟨by decide, by decide⟩ rfl rfl rfl ⟨Nat.le_trans (Nat.le_add_right _ _) hkc, Nat.le_trans (Nat.le_add_right _ _) hks⟩ ?_
  refine am_blk hc X 2 1 (fr' := (1400, [(0, am_r 18 38 0), (1, am_r 0 0 0), (2, am_r 5 40 0), (3, am_i (nI n))], [am_r 5 40 0, am_i r], σ1)) rfl ⟨trivial, trivial⟩ ?_
  refine am_callVL hc 3 X (k := 40) (i := 0) (o := 5) (As := []) (rest := [am_i r]) (σ' := σ2) (r := some (am_i r)) rfl (ok_X8_market l 5 σ1 h8) yv_X8_market ml_L_163 cl_40 ⟨by decide, by decide⟩ rfl rfl rfl ⟨Nat.le_trans (Nat.le_add_right _ _) hkc, Nat.le_trans (Nat.le_add_right _ _) hks⟩ ?_
  refine am_icmp_eq hc X 4 (tgt := 1774) rfl (by decide) (fun _ => ?_) (fun z => absurd rfl z)
  exact kk G _ _ am_ag.rf X (Nat.le_add_right _ _) (Nat.le_add_right _ _)
def tb_L35 : List (Nat × Instr × Nat) := [(1408, .aload_n 1, 1), (1409, .aload_n 0, 1), (1410, .iload_n 3, 1), (1411, .iconst 1, 1), (1412, .iadd, 1), (1413, .iaload, 1), (1414, .invokevirtual 164, 3), (1417, .aload_n 2, 1), (1418, .aload_n 0, 1), (1419, .iload_n 3, 1), (1420, .iconst 1, 1), (1421, .iadd, 1), (1422, .iaload, 1), (1423, .invokevirtual 167, 3), (1426, .if_icmp .eq 348, 3), (1429, .iconst 0, 1), (1430, .ireturn, 1)]
set_option maxRecDepth 100000 in
theorem ct_L35 : am_code code tb_L35 = true := by decide +kernel
set_option maxRecDepth 100000 in
theorem lc_35 {p : Program} {l : Launch} {e : Env} {s : State} {m : MethodId} {below : List Frame} {meth : Method} {c : Code} {b L : Nat} {xs : Nat → Int32} {G : am_G} {kc ks : Nat} {Q : State → Prop} (X : am_X p s m #[Value.ref b] c code RL 4 am_pL G (fun q => s.heap.size ≤ q)) (hb18 : am_ad G 18 38 0 = b) (hX : va_X b L xs s s.heap) (hbl : b < s.heap.size) (hL : L ≤ 3072) {n : Nat} (hn : n + 6 ≤ L) (hkc : kc + 137 ≤ room_1.cells) (hks : ks + 1587 ≤ room_1.slots) {σ σ1 σ2 : am_S} {r : Int32} (h7 : fn_X7_meet (xs (n + 1)) σ = some (r, σ1)) (h8 : fn_X8_meet 5 (xs (n + 1)) σ1 = some (r, σ2))
    (kk : ∀ (G1 : am_G) (kc1 ks1 : Nat), am_ag G G1 → am_X p s m #[Value.ref b] c code RL 4 am_pL G1 (fun q => s.heap.size ≤ q) → kc1 ≤ kc + 137 → ks1 ≤ ks + 1587 → am_A p l e room_1 s m #[Value.ref b] below meth c 4 G1 (fun q => s.heap.size ≤ q) kc1 ks1 Q (1774, [(0, am_r 18 38 0), (1, am_r 0 0 0), (2, am_r 5 40 0), (3, am_i (nI n))], [], σ2)) :
    am_A p l e room_1 s m #[Value.ref b] below meth c 4 G (fun q => s.heap.size ≤ q) kc ks Q (1408, [(0, am_r 18 38 0), (1, am_r 0 0 0), (2, am_r 5 40 0), (3, am_i (nI n))], [], σ) := by
  have hc := ct_L35
  refine am_blk hc X 0 1 (fr' := (1409, [(0, am_r 18 38 0), (1, am_r 0 0 0), (2, am_r 5 40 0), (3, am_i (nI n))], [am_r 0 0 0], σ)) rfl ⟨trivial, trivial⟩ ?_
  refine am_scr hc X hb18 hX hbl hL 1 (k := 1) rfl rfl rfl rfl rfl rfl (by omega) ?_
  refine am_callVL hc 6 X (k := 0) (i := 0) (o := 0) (As := [am_i (xs (n + 1))]) (rest := []) (σ' := σ1) (r := some (am_i r)) rfl (ok_X7_meet l (xs (n + 1)) σ h7) yv_X7_meet ml_L_164 cl_0 ⟨by decide, by decide⟩ rfl rfl rfl ⟨Nat.le_trans (Nat.le_add_right _ _) hkc, Nat.le_trans (Nat.le_add_right _ _) hks⟩ ?_
  refine am_blk hc X 7 1 (fr' := (1418, [(0, am_r 18 38 0), (1, am_r 0 0 0), (2, am_r 5 40 0), (3, am_i (nI n))], [am_r 5 40 0, am_i r], σ1)) rfl ⟨trivial, trivial⟩ ?_
  refine am_scr hc X hb18 hX hbl hL 8 (k := 1) rfl rfl rfl rfl rfl rfl (by omega) ?_
  refine am_callVL hc 13 X (k := 40) (i := 0) (o := 5) (As := [am_i (xs (n + 1))]) (rest := [am_i r]) (σ' := σ2) (r := some (am_i r)) rfl (ok_X8_meet l 5 (xs (n + 1)) σ1 h8) yv_X8_meet ml_L_167 cl_40 ⟨by decide, by decide⟩ rfl rfl rfl ⟨Nat.le_trans (Nat.le_add_right _ _) hkc, Nat.le_trans (Nat.le_add_right _ _) hks⟩ ?_
  refine am_icmp_eq hc X 14 (tgt := 1774) rfl (by decide) (fun _ => ?_) (fun z => absurd rfl z)
  exact kk G _ _ am_ag.rf X (Nat.le_add_right _ _) (Nat.le_add_right _ _)
def tb_L36 : List (Nat × Instr × Nat) := [(1431, .aload_n 1, 1), (1432, .aload_n 0, 1), (1433, .iload_n 3, 1), (1434, .iconst 1, 1), (1435, .iadd, 1), (1436, .iaload, 1), (1437, .aload_n 0, 1), (1438, .iload_n 3, 1), (1439, .iconst 2, 1), (1440, .iadd, 1), (1441, .iaload, 1), (1442, .aload_n 0, 1), (1443, .iload_n 3, 1), (1444, .iconst 3, 1), (1445, .iadd, 1), (1446, .iaload, 1), (1447, .aload_n 0, 1), (1448, .iload_n 3, 1), (1449, .iconst 4, 1), (1450, .iadd, 1), (1451, .iaload, 1), (1452, .invokevirtual 168, 3), (1455, .aload_n 2, 1), (1456, .aload_n 0, 1), (1457, .iload_n 3, 1), (1458, .iconst 1, 1), (1459, .iadd, 1), (1460, .iaload, 1), (1461, .aload_n 0, 1), (1462, .iload_n 3, 1), (1463, .iconst 2, 1), (1464, .iadd, 1), (1465, .iaload, 1), (1466, .aload_n 0, 1), (1467, .iload_n 3, 1), (1468, .iconst 3, 1), (1469, .iadd, 1), (1470, .iaload, 1), (1471, .aload_n 0, 1), (1472, .iload_n 3, 1), (1473, .iconst 4, 1), (1474, .iadd, 1), (1475, .iaload, 1), (1476, .invokevirtual 171, 3), (1479, .if_icmp .eq 295, 3), (1482, .iconst 0, 1), (1483, .ireturn, 1)]
set_option maxRecDepth 100000 in
theorem ct_L36 : am_code code tb_L36 = true := by decide +kernel
set_option maxRecDepth 100000 in
theorem lc_36 {p : Program} {l : Launch} {e : Env} {s : State} {m : MethodId} {below : List Frame} {meth : Method} {c : Code} {b L : Nat} {xs : Nat → Int32} {G : am_G} {kc ks : Nat} {Q : State → Prop} (X : am_X p s m #[Value.ref b] c code RL 4 am_pL G (fun q => s.heap.size ≤ q)) (hb18 : am_ad G 18 38 0 = b) (hX : va_X b L xs s s.heap) (hbl : b < s.heap.size) (hL : L ≤ 3072) {n : Nat} (hn : n + 6 ≤ L) (hkc : kc + 137 ≤ room_1.cells) (hks : ks + 1587 ≤ room_1.slots) {σ σ1 σ2 : am_S} {r : Int32} (h7 : fn_X7_journeys (xs (n + 1)) (xs (n + 2)) (xs (n + 3)) (xs (n + 4)) σ = some (r, σ1)) (h8 : fn_X8_journeys 5 (xs (n + 1)) (xs (n + 2)) (xs (n + 3)) (xs (n + 4)) σ1 = some (r, σ2))
    (kk : ∀ (G1 : am_G) (kc1 ks1 : Nat), am_ag G G1 → am_X p s m #[Value.ref b] c code RL 4 am_pL G1 (fun q => s.heap.size ≤ q) → kc1 ≤ kc + 137 → ks1 ≤ ks + 1587 → am_A p l e room_1 s m #[Value.ref b] below meth c 4 G1 (fun q => s.heap.size ≤ q) kc1 ks1 Q (1774, [(0, am_r 18 38 0), (1, am_r 0 0 0), (2, am_r 5 40 0), (3, am_i (nI n))], [], σ2)) :
    am_A p l e room_1 s m #[Value.ref b] below meth c 4 G (fun q => s.heap.size ≤ q) kc ks Q (1431, [(0, am_r 18 38 0), (1, am_r 0 0 0), (2, am_r 5 40 0), (3, am_i (nI n))], [], σ) := by
  have hc := ct_L36
  refine am_blk hc X 0 1 (fr' := (1432, [(0, am_r 18 38 0), (1, am_r 0 0 0), (2, am_r 5 40 0), (3, am_i (nI n))], [am_r 0 0 0], σ)) rfl ⟨trivial, trivial⟩ ?_
  refine am_scr hc X hb18 hX hbl hL 1 (k := 1) rfl rfl rfl rfl rfl rfl (by omega) ?_
  refine am_scr hc X hb18 hX hbl hL 6 (k := 2) rfl rfl rfl rfl rfl rfl (by omega) ?_
  refine am_scr hc X hb18 hX hbl hL 11 (k := 3) rfl rfl rfl rfl rfl rfl (by omega) ?_
  refine am_scr hc X hb18 hX hbl hL 16 (k := 4) rfl rfl rfl rfl rfl rfl (by omega) ?_
  refine am_callVL hc 21 X (k := 0) (i := 0) (o := 0) (As := [am_i (xs (n + 1)), am_i (xs (n + 2)), am_i (xs (n + 3)), am_i (xs (n + 4))]) (rest := []) (σ' := σ1) (r := some (am_i r)) rfl (ok_X7_journeys l (xs (n + 1)) (xs (n + 2)) (xs (n + 3)) (xs (n + 4)) σ h7) yv_X7_journeys ml_L_168 cl_0 ⟨by decide, by decide⟩ rfl rfl rfl ⟨Nat.le_trans (Nat.le_add_right _ _) hkc, Nat.le_trans (Nat.le_add_right _ _) hks⟩ ?_
  refine am_blk hc X 22 1 (fr' := (1456, [(0, am_r 18 38 0), (1, am_r 0 0 0), (2, am_r 5 40 0), (3, am_i (nI n))], [am_r 5 40 0, am_i r], σ1)) rfl ⟨trivial, trivial⟩ ?_
  refine am_scr hc X hb18 hX hbl hL 23 (k := 1) rfl rfl rfl rfl rfl rfl (by omega) ?_
  refine am_scr hc X hb18 hX hbl hL 28 (k := 2) rfl rfl rfl rfl rfl rfl (by omega) ?_
  refine am_scr hc X hb18 hX hbl hL 33 (k := 3) rfl rfl rfl rfl rfl rfl (by omega) ?_
  refine am_scr hc X hb18 hX hbl hL 38 (k := 4) rfl rfl rfl rfl rfl rfl (by omega) ?_
  refine am_callVL hc 43 X (k := 40) (i := 0) (o := 5) (As := [am_i (xs (n + 1)), am_i (xs (n + 2)), am_i (xs (n + 3)), am_i (xs (n + 4))]) (rest := [am_i r]) (σ' := σ2) (r := some (am_i r)) rfl (ok_X8_journeys l 5 (xs (n + 1)) (xs (n + 2)) (xs (n + 3)) (xs (n + 4)) σ1 h8) yv_X8_journeys ml_L_171 cl_40 ⟨by decide, by decide⟩ rfl rfl rfl ⟨Nat.le_trans (Nat.le_add_right _ _) hkc, Nat.le_trans (Nat.le_add_right _ _) hks⟩ ?_
  refine am_icmp_eq hc X 44 (tgt := 1774) rfl (by decide) (fun _ => ?_) (fun z => absurd rfl z)
  exact kk G _ _ am_ag.rf X (Nat.le_add_right _ _) (Nat.le_add_right _ _)
def tb_L37 : List (Nat × Instr × Nat) := [(1484, .aload_n 1, 1), (1485, .aload_n 0, 1), (1486, .iload_n 3, 1), (1487, .iconst 1, 1), (1488, .iadd, 1), (1489, .iaload, 1), (1490, .aload_n 0, 1), (1491, .iload_n 3, 1), (1492, .iconst 2, 1), (1493, .iadd, 1), (1494, .iaload, 1), (1495, .aload_n 0, 1), (1496, .iload_n 3, 1), (1497, .iconst 3, 1), (1498, .iadd, 1), (1499, .iaload, 1), (1500, .invokevirtual 172, 3), (1503, .aload_n 2, 1), (1504, .aload_n 0, 1), (1505, .iload_n 3, 1), (1506, .iconst 1, 1), (1507, .iadd, 1), (1508, .iaload, 1), (1509, .aload_n 0, 1), (1510, .iload_n 3, 1), (1511, .iconst 2, 1), (1512, .iadd, 1), (1513, .iaload, 1), (1514, .aload_n 0, 1), (1515, .iload_n 3, 1), (1516, .iconst 3, 1), (1517, .iadd, 1), (1518, .iaload, 1), (1519, .invokevirtual 175, 3), (1522, .if_icmp .eq 252, 3), (1525, .iconst 0, 1), (1526, .ireturn, 1)]
set_option maxRecDepth 100000 in
theorem ct_L37 : am_code code tb_L37 = true := by decide +kernel
set_option maxRecDepth 100000 in
theorem lc_37 {p : Program} {l : Launch} {e : Env} {s : State} {m : MethodId} {below : List Frame} {meth : Method} {c : Code} {b L : Nat} {xs : Nat → Int32} {G : am_G} {kc ks : Nat} {Q : State → Prop} (X : am_X p s m #[Value.ref b] c code RL 4 am_pL G (fun q => s.heap.size ≤ q)) (hb18 : am_ad G 18 38 0 = b) (hX : va_X b L xs s s.heap) (hbl : b < s.heap.size) (hL : L ≤ 3072) {n : Nat} (hn : n + 6 ≤ L) (hkc : kc + 137 ≤ room_1.cells) (hks : ks + 1587 ≤ room_1.slots) {σ σ1 σ2 : am_S} {r : Int32} (h7 : fn_X7_judge (xs (n + 1)) (xs (n + 2)) (xs (n + 3)) σ = some (r, σ1)) (h8 : fn_X8_judge (xs (n + 1)) (xs (n + 2)) (xs (n + 3)) σ1 = some (r, σ2))
    (kk : ∀ (G1 : am_G) (kc1 ks1 : Nat), am_ag G G1 → am_X p s m #[Value.ref b] c code RL 4 am_pL G1 (fun q => s.heap.size ≤ q) → kc1 ≤ kc + 137 → ks1 ≤ ks + 1587 → am_A p l e room_1 s m #[Value.ref b] below meth c 4 G1 (fun q => s.heap.size ≤ q) kc1 ks1 Q (1774, [(0, am_r 18 38 0), (1, am_r 0 0 0), (2, am_r 5 40 0), (3, am_i (nI n))], [], σ2)) :
    am_A p l e room_1 s m #[Value.ref b] below meth c 4 G (fun q => s.heap.size ≤ q) kc ks Q (1484, [(0, am_r 18 38 0), (1, am_r 0 0 0), (2, am_r 5 40 0), (3, am_i (nI n))], [], σ) := by
  have hc := ct_L37
  refine am_blk hc X 0 1 (fr' := (1485, [(0, am_r 18 38 0), (1, am_r 0 0 0), (2, am_r 5 40 0), (3, am_i (nI n))], [am_r 0 0 0], σ)) rfl ⟨trivial, trivial⟩ ?_
  refine am_scr hc X hb18 hX hbl hL 1 (k := 1) rfl rfl rfl rfl rfl rfl (by omega) ?_
  refine am_scr hc X hb18 hX hbl hL 6 (k := 2) rfl rfl rfl rfl rfl rfl (by omega) ?_
  refine am_scr hc X hb18 hX hbl hL 11 (k := 3) rfl rfl rfl rfl rfl rfl (by omega) ?_
  refine am_callVL hc 16 X (k := 0) (i := 0) (o := 0) (As := [am_i (xs (n + 1)), am_i (xs (n + 2)), am_i (xs (n + 3))]) (rest := []) (σ' := σ1) (r := some (am_i r)) rfl (ok_X7_judge l (xs (n + 1)) (xs (n + 2)) (xs (n + 3)) σ h7) yv_X7_judge ml_L_172 cl_0 ⟨by decide, by decide⟩ rfl rfl rfl ⟨Nat.le_trans (Nat.le_add_right _ _) hkc, Nat.le_trans (Nat.le_add_right _ _) hks⟩ ?_
  refine am_blk hc X 17 1 (fr' := (1504, [(0, am_r 18 38 0), (1, am_r 0 0 0), (2, am_r 5 40 0), (3, am_i (nI n))], [am_r 5 40 0, am_i r], σ1)) rfl ⟨trivial, trivial⟩ ?_
  refine am_scr hc X hb18 hX hbl hL 18 (k := 1) rfl rfl rfl rfl rfl rfl (by omega) ?_
  refine am_scr hc X hb18 hX hbl hL 23 (k := 2) rfl rfl rfl rfl rfl rfl (by omega) ?_
  refine am_scr hc X hb18 hX hbl hL 28 (k := 3) rfl rfl rfl rfl rfl rfl (by omega) ?_
  refine am_callAL hc 33 X (fun q z => z) (k := 40) (i := 0) (o := 5) (As := [am_i (xs (n + 1)), am_i (xs (n + 2)), am_i (xs (n + 3))]) (rest := [am_i r]) (σ' := σ2) (r := some (am_i r)) rfl (ok_X8_judge l (xs (n + 1)) (xs (n + 2)) (xs (n + 3)) σ1 h8) yv_X8_judge ml_L_175 cl_40 ⟨by decide, by decide⟩ rfl rfl rfl ⟨hkc, hks⟩ (fun G1 hg1 X1 => ?_)
  refine am_icmp_eq hc X1 34 (tgt := 1774) rfl (by decide) (fun _ => ?_) (fun z => absurd rfl z)
  exact kk G1 _ _ hg1 X1 (Nat.le_refl _) (Nat.le_refl _)
def tb_L38 : List (Nat × Instr × Nat) := [(1527, .aload_n 1, 1), (1528, .aload_n 0, 1), (1529, .iload_n 3, 1), (1530, .iconst 1, 1), (1531, .iadd, 1), (1532, .iaload, 1), (1533, .aload_n 0, 1), (1534, .iload_n 3, 1), (1535, .iconst 2, 1), (1536, .iadd, 1), (1537, .iaload, 1), (1538, .aload_n 0, 1), (1539, .iload_n 3, 1), (1540, .iconst 3, 1), (1541, .iadd, 1), (1542, .iaload, 1), (1543, .aload_n 0, 1), (1544, .iload_n 3, 1), (1545, .iconst 4, 1), (1546, .iadd, 1), (1547, .iaload, 1), (1548, .invokevirtual 176, 3), (1551, .aload_n 2, 1), (1552, .aload_n 0, 1), (1553, .iload_n 3, 1), (1554, .iconst 1, 1), (1555, .iadd, 1), (1556, .iaload, 1), (1557, .aload_n 0, 1), (1558, .iload_n 3, 1), (1559, .iconst 2, 1), (1560, .iadd, 1), (1561, .iaload, 1), (1562, .aload_n 0, 1), (1563, .iload_n 3, 1), (1564, .iconst 3, 1), (1565, .iadd, 1), (1566, .iaload, 1), (1567, .aload_n 0, 1), (1568, .iload_n 3, 1), (1569, .iconst 4, 1), (1570, .iadd, 1), (1571, .iaload, 1), (1572, .invokevirtual 179, 3), (1575, .if_icmp .eq 199, 3), (1578, .iconst 0, 1), (1579, .ireturn, 1)]
set_option maxRecDepth 100000 in
theorem ct_L38 : am_code code tb_L38 = true := by decide +kernel
set_option maxRecDepth 100000 in
theorem lc_38 {p : Program} {l : Launch} {e : Env} {s : State} {m : MethodId} {below : List Frame} {meth : Method} {c : Code} {b L : Nat} {xs : Nat → Int32} {G : am_G} {kc ks : Nat} {Q : State → Prop} (X : am_X p s m #[Value.ref b] c code RL 4 am_pL G (fun q => s.heap.size ≤ q)) (hb18 : am_ad G 18 38 0 = b) (hX : va_X b L xs s s.heap) (hbl : b < s.heap.size) (hL : L ≤ 3072) {n : Nat} (hn : n + 6 ≤ L) (hkc : kc + 137 ≤ room_1.cells) (hks : ks + 1587 ≤ room_1.slots) {σ σ1 σ2 : am_S} {r : Int32} (h7 : fn_X7_behind (xs (n + 1)) (xs (n + 2)) (xs (n + 3)) (xs (n + 4)) σ = some (r, σ1)) (h8 : fn_X8_behind (xs (n + 1)) (xs (n + 2)) (xs (n + 3)) (xs (n + 4)) σ1 = some (r, σ2))
    (kk : ∀ (G1 : am_G) (kc1 ks1 : Nat), am_ag G G1 → am_X p s m #[Value.ref b] c code RL 4 am_pL G1 (fun q => s.heap.size ≤ q) → kc1 ≤ kc + 137 → ks1 ≤ ks + 1587 → am_A p l e room_1 s m #[Value.ref b] below meth c 4 G1 (fun q => s.heap.size ≤ q) kc1 ks1 Q (1774, [(0, am_r 18 38 0), (1, am_r 0 0 0), (2, am_r 5 40 0), (3, am_i (nI n))], [], σ2)) :
    am_A p l e room_1 s m #[Value.ref b] below meth c 4 G (fun q => s.heap.size ≤ q) kc ks Q (1527, [(0, am_r 18 38 0), (1, am_r 0 0 0), (2, am_r 5 40 0), (3, am_i (nI n))], [], σ) := by
  have hc := ct_L38
  refine am_blk hc X 0 1 (fr' := (1528, [(0, am_r 18 38 0), (1, am_r 0 0 0), (2, am_r 5 40 0), (3, am_i (nI n))], [am_r 0 0 0], σ)) rfl ⟨trivial, trivial⟩ ?_
  refine am_scr hc X hb18 hX hbl hL 1 (k := 1) rfl rfl rfl rfl rfl rfl (by omega) ?_
  refine am_scr hc X hb18 hX hbl hL 6 (k := 2) rfl rfl rfl rfl rfl rfl (by omega) ?_
  refine am_scr hc X hb18 hX hbl hL 11 (k := 3) rfl rfl rfl rfl rfl rfl (by omega) ?_
  refine am_scr hc X hb18 hX hbl hL 16 (k := 4) rfl rfl rfl rfl rfl rfl (by omega) ?_
  refine am_callVL hc 21 X (k := 0) (i := 0) (o := 0) (As := [am_i (xs (n + 1)), am_i (xs (n + 2)), am_i (xs (n + 3)), am_i (xs (n + 4))]) (rest := []) (σ' := σ1) (r := some (am_i r)) rfl (ok_X7_behind l (xs (n + 1)) (xs (n + 2)) (xs (n + 3)) (xs (n + 4)) σ h7) yv_X7_behind ml_L_176 cl_0 ⟨by decide, by decide⟩ rfl rfl rfl ⟨Nat.le_trans (Nat.le_add_right _ _) hkc, Nat.le_trans (Nat.le_add_right _ _) hks⟩ ?_
  refine am_blk hc X 22 1 (fr' := (1552, [(0, am_r 18 38 0), (1, am_r 0 0 0), (2, am_r 5 40 0), (3, am_i (nI n))], [am_r 5 40 0, am_i r], σ1)) rfl ⟨trivial, trivial⟩ ?_
  refine am_scr hc X hb18 hX hbl hL 23 (k := 1) rfl rfl rfl rfl rfl rfl (by omega) ?_
  refine am_scr hc X hb18 hX hbl hL 28 (k := 2) rfl rfl rfl rfl rfl rfl (by omega) ?_
  refine am_scr hc X hb18 hX hbl hL 33 (k := 3) rfl rfl rfl rfl rfl rfl (by omega) ?_
  refine am_scr hc X hb18 hX hbl hL 38 (k := 4) rfl rfl rfl rfl rfl rfl (by omega) ?_
  refine am_callAL hc 43 X (fun q z => z) (k := 40) (i := 0) (o := 5) (As := [am_i (xs (n + 1)), am_i (xs (n + 2)), am_i (xs (n + 3)), am_i (xs (n + 4))]) (rest := [am_i r]) (σ' := σ2) (r := some (am_i r)) rfl (ok_X8_behind l (xs (n + 1)) (xs (n + 2)) (xs (n + 3)) (xs (n + 4)) σ1 h8) yv_X8_behind ml_L_179 cl_40 ⟨by decide, by decide⟩ rfl rfl rfl ⟨hkc, hks⟩ (fun G1 hg1 X1 => ?_)
  refine am_icmp_eq hc X1 44 (tgt := 1774) rfl (by decide) (fun _ => ?_) (fun z => absurd rfl z)
  exact kk G1 _ _ hg1 X1 (Nat.le_refl _) (Nat.le_refl _)
def tb_L39 : List (Nat × Instr × Nat) := [(1580, .aload_n 1, 1), (1581, .aload_n 0, 1), (1582, .iload_n 3, 1), (1583, .iconst 1, 1), (1584, .iadd, 1), (1585, .iaload, 1), (1586, .aload_n 0, 1), (1587, .iload_n 3, 1), (1588, .iconst 2, 1), (1589, .iadd, 1), (1590, .iaload, 1), (1591, .aload_n 0, 1), (1592, .iload_n 3, 1), (1593, .iconst 3, 1), (1594, .iadd, 1), (1595, .iaload, 1), (1596, .invokevirtual 180, 3), (1599, .aload_n 2, 1), (1600, .aload_n 0, 1), (1601, .iload_n 3, 1), (1602, .iconst 1, 1), (1603, .iadd, 1), (1604, .iaload, 1), (1605, .aload_n 0, 1), (1606, .iload_n 3, 1), (1607, .iconst 2, 1), (1608, .iadd, 1), (1609, .iaload, 1), (1610, .aload_n 0, 1), (1611, .iload_n 3, 1), (1612, .iconst 3, 1), (1613, .iadd, 1), (1614, .iaload, 1), (1615, .invokevirtual 183, 3), (1618, .if_icmp .eq 156, 3), (1621, .iconst 0, 1), (1622, .ireturn, 1)]
set_option maxRecDepth 100000 in
theorem ct_L39 : am_code code tb_L39 = true := by decide +kernel
set_option maxRecDepth 100000 in
theorem lc_39 {p : Program} {l : Launch} {e : Env} {s : State} {m : MethodId} {below : List Frame} {meth : Method} {c : Code} {b L : Nat} {xs : Nat → Int32} {G : am_G} {kc ks : Nat} {Q : State → Prop} (X : am_X p s m #[Value.ref b] c code RL 4 am_pL G (fun q => s.heap.size ≤ q)) (hb18 : am_ad G 18 38 0 = b) (hX : va_X b L xs s s.heap) (hbl : b < s.heap.size) (hL : L ≤ 3072) {n : Nat} (hn : n + 6 ≤ L) (hkc : kc + 137 ≤ room_1.cells) (hks : ks + 1587 ≤ room_1.slots) {σ σ1 σ2 : am_S} {r : Int32} (h7 : fn_X7_done (xs (n + 1)) (xs (n + 2)) (xs (n + 3)) σ = some (r, σ1)) (h8 : fn_X8_done (xs (n + 1)) (xs (n + 2)) (xs (n + 3)) σ1 = some (r, σ2))
    (kk : ∀ (G1 : am_G) (kc1 ks1 : Nat), am_ag G G1 → am_X p s m #[Value.ref b] c code RL 4 am_pL G1 (fun q => s.heap.size ≤ q) → kc1 ≤ kc + 137 → ks1 ≤ ks + 1587 → am_A p l e room_1 s m #[Value.ref b] below meth c 4 G1 (fun q => s.heap.size ≤ q) kc1 ks1 Q (1774, [(0, am_r 18 38 0), (1, am_r 0 0 0), (2, am_r 5 40 0), (3, am_i (nI n))], [], σ2)) :
    am_A p l e room_1 s m #[Value.ref b] below meth c 4 G (fun q => s.heap.size ≤ q) kc ks Q (1580, [(0, am_r 18 38 0), (1, am_r 0 0 0), (2, am_r 5 40 0), (3, am_i (nI n))], [], σ) := by
  have hc := ct_L39
  refine am_blk hc X 0 1 (fr' := (1581, [(0, am_r 18 38 0), (1, am_r 0 0 0), (2, am_r 5 40 0), (3, am_i (nI n))], [am_r 0 0 0], σ)) rfl ⟨trivial, trivial⟩ ?_
  refine am_scr hc X hb18 hX hbl hL 1 (k := 1) rfl rfl rfl rfl rfl rfl (by omega) ?_
  refine am_scr hc X hb18 hX hbl hL 6 (k := 2) rfl rfl rfl rfl rfl rfl (by omega) ?_
  refine am_scr hc X hb18 hX hbl hL 11 (k := 3) rfl rfl rfl rfl rfl rfl (by omega) ?_
  refine am_callVL hc 16 X (k := 0) (i := 0) (o := 0) (As := [am_i (xs (n + 1)), am_i (xs (n + 2)), am_i (xs (n + 3))]) (rest := []) (σ' := σ1) (r := some (am_i r)) rfl (ok_X7_done l (xs (n + 1)) (xs (n + 2)) (xs (n + 3)) σ h7) yv_X7_done ml_L_180 cl_0 ⟨by decide, by decide⟩ rfl rfl rfl ⟨Nat.le_trans (Nat.le_add_right _ _) hkc, Nat.le_trans (Nat.le_add_right _ _) hks⟩ ?_
  refine am_blk hc X 17 1 (fr' := (1600, [(0, am_r 18 38 0), (1, am_r 0 0 0), (2, am_r 5 40 0), (3, am_i (nI n))], [am_r 5 40 0, am_i r], σ1)) rfl ⟨trivial, trivial⟩ ?_
  refine am_scr hc X hb18 hX hbl hL 18 (k := 1) rfl rfl rfl rfl rfl rfl (by omega) ?_
  refine am_scr hc X hb18 hX hbl hL 23 (k := 2) rfl rfl rfl rfl rfl rfl (by omega) ?_
  refine am_scr hc X hb18 hX hbl hL 28 (k := 3) rfl rfl rfl rfl rfl rfl (by omega) ?_
  refine am_callAL hc 33 X (fun q z => z) (k := 40) (i := 0) (o := 5) (As := [am_i (xs (n + 1)), am_i (xs (n + 2)), am_i (xs (n + 3))]) (rest := [am_i r]) (σ' := σ2) (r := some (am_i r)) rfl (ok_X8_done l (xs (n + 1)) (xs (n + 2)) (xs (n + 3)) σ1 h8) yv_X8_done ml_L_183 cl_40 ⟨by decide, by decide⟩ rfl rfl rfl ⟨hkc, hks⟩ (fun G1 hg1 X1 => ?_)
  refine am_icmp_eq hc X1 34 (tgt := 1774) rfl (by decide) (fun _ => ?_) (fun z => absurd rfl z)
  exact kk G1 _ _ hg1 X1 (Nat.le_refl _) (Nat.le_refl _)
def tb_L40 : List (Nat × Instr × Nat) := [(1623, .aload_n 1, 1), (1624, .aload_n 0, 1), (1625, .iload_n 3, 1), (1626, .iconst 1, 1), (1627, .iadd, 1), (1628, .iaload, 1), (1629, .invokevirtual 184, 3), (1632, .aload_n 2, 1), (1633, .aload_n 0, 1), (1634, .iload_n 3, 1), (1635, .iconst 1, 1), (1636, .iadd, 1), (1637, .iaload, 1), (1638, .invokevirtual 187, 3), (1641, .if_icmp .eq 133, 3), (1644, .iconst 0, 1), (1645, .ireturn, 1)]
set_option maxRecDepth 100000 in
theorem ct_L40 : am_code code tb_L40 = true := by decide +kernel
set_option maxRecDepth 100000 in
theorem lc_40 {p : Program} {l : Launch} {e : Env} {s : State} {m : MethodId} {below : List Frame} {meth : Method} {c : Code} {b L : Nat} {xs : Nat → Int32} {G : am_G} {kc ks : Nat} {Q : State → Prop} (X : am_X p s m #[Value.ref b] c code RL 4 am_pL G (fun q => s.heap.size ≤ q)) (hb18 : am_ad G 18 38 0 = b) (hX : va_X b L xs s s.heap) (hbl : b < s.heap.size) (hL : L ≤ 3072) {n : Nat} (hn : n + 6 ≤ L) (hkc : kc + 137 ≤ room_1.cells) (hks : ks + 1587 ≤ room_1.slots) {σ σ1 σ2 : am_S} {r : Int32} (h7 : fn_X7_longest (xs (n + 1)) σ = some (r, σ1)) (h8 : fn_X8_longest 5 (xs (n + 1)) σ1 = some (r, σ2))
    (kk : ∀ (G1 : am_G) (kc1 ks1 : Nat), am_ag G G1 → am_X p s m #[Value.ref b] c code RL 4 am_pL G1 (fun q => s.heap.size ≤ q) → kc1 ≤ kc + 137 → ks1 ≤ ks + 1587 → am_A p l e room_1 s m #[Value.ref b] below meth c 4 G1 (fun q => s.heap.size ≤ q) kc1 ks1 Q (1774, [(0, am_r 18 38 0), (1, am_r 0 0 0), (2, am_r 5 40 0), (3, am_i (nI n))], [], σ2)) :
    am_A p l e room_1 s m #[Value.ref b] below meth c 4 G (fun q => s.heap.size ≤ q) kc ks Q (1623, [(0, am_r 18 38 0), (1, am_r 0 0 0), (2, am_r 5 40 0), (3, am_i (nI n))], [], σ) := by
  have hc := ct_L40
  refine am_blk hc X 0 1 (fr' := (1624, [(0, am_r 18 38 0), (1, am_r 0 0 0), (2, am_r 5 40 0), (3, am_i (nI n))], [am_r 0 0 0], σ)) rfl ⟨trivial, trivial⟩ ?_
  refine am_scr hc X hb18 hX hbl hL 1 (k := 1) rfl rfl rfl rfl rfl rfl (by omega) ?_
  refine am_callVL hc 6 X (k := 0) (i := 0) (o := 0) (As := [am_i (xs (n + 1))]) (rest := []) (σ' := σ1) (r := some (am_i r)) rfl (ok_X7_longest l (xs (n + 1)) σ h7) yv_X7_longest ml_L_184 cl_0 ⟨by decide, by decide⟩ rfl rfl rfl ⟨Nat.le_trans (Nat.le_add_right _ _) hkc, Nat.le_trans (Nat.le_add_right _ _) hks⟩ ?_
  refine am_blk hc X 7 1 (fr' := (1633, [(0, am_r 18 38 0), (1, am_r 0 0 0), (2, am_r 5 40 0), (3, am_i (nI n))], [am_r 5 40 0, am_i r], σ1)) rfl ⟨trivial, trivial⟩ ?_
  refine am_scr hc X hb18 hX hbl hL 8 (k := 1) rfl rfl rfl rfl rfl rfl (by omega) ?_
  refine am_callVL hc 13 X (k := 40) (i := 0) (o := 5) (As := [am_i (xs (n + 1))]) (rest := [am_i r]) (σ' := σ2) (r := some (am_i r)) rfl (ok_X8_longest l 5 (xs (n + 1)) σ1 h8) yv_X8_longest ml_L_187 cl_40 ⟨by decide, by decide⟩ rfl rfl rfl ⟨Nat.le_trans (Nat.le_add_right _ _) hkc, Nat.le_trans (Nat.le_add_right _ _) hks⟩ ?_
  refine am_icmp_eq hc X 14 (tgt := 1774) rfl (by decide) (fun _ => ?_) (fun z => absurd rfl z)
  exact kk G _ _ am_ag.rf X (Nat.le_add_right _ _) (Nat.le_add_right _ _)
def tb_L41 : List (Nat × Instr × Nat) := [(1646, .aload_n 1, 1), (1647, .aload_n 0, 1), (1648, .iload_n 3, 1), (1649, .iconst 1, 1), (1650, .iadd, 1), (1651, .iaload, 1), (1652, .aload_n 0, 1), (1653, .iload_n 3, 1), (1654, .iconst 2, 1), (1655, .iadd, 1), (1656, .iaload, 1), (1657, .invokevirtual 188, 3), (1660, .aload_n 2, 1), (1661, .aload_n 0, 1), (1662, .iload_n 3, 1), (1663, .iconst 1, 1), (1664, .iadd, 1), (1665, .iaload, 1), (1666, .aload_n 0, 1), (1667, .iload_n 3, 1), (1668, .iconst 2, 1), (1669, .iadd, 1), (1670, .iaload, 1), (1671, .invokevirtual 191, 3), (1674, .if_icmp .eq 100, 3), (1677, .iconst 0, 1), (1678, .ireturn, 1)]
set_option maxRecDepth 100000 in
theorem ct_L41 : am_code code tb_L41 = true := by decide +kernel
set_option maxRecDepth 100000 in
theorem lc_41 {p : Program} {l : Launch} {e : Env} {s : State} {m : MethodId} {below : List Frame} {meth : Method} {c : Code} {b L : Nat} {xs : Nat → Int32} {G : am_G} {kc ks : Nat} {Q : State → Prop} (X : am_X p s m #[Value.ref b] c code RL 4 am_pL G (fun q => s.heap.size ≤ q)) (hb18 : am_ad G 18 38 0 = b) (hX : va_X b L xs s s.heap) (hbl : b < s.heap.size) (hL : L ≤ 3072) {n : Nat} (hn : n + 6 ≤ L) (hkc : kc + 137 ≤ room_1.cells) (hks : ks + 1587 ≤ room_1.slots) {σ σ1 σ2 : am_S} {r : Int32} (h7 : fn_X7_act (xs (n + 1)) (xs (n + 2)) σ = some (r, σ1)) (h8 : fn_X8_act 5 (xs (n + 1)) (xs (n + 2)) σ1 = some (r, σ2))
    (kk : ∀ (G1 : am_G) (kc1 ks1 : Nat), am_ag G G1 → am_X p s m #[Value.ref b] c code RL 4 am_pL G1 (fun q => s.heap.size ≤ q) → kc1 ≤ kc + 137 → ks1 ≤ ks + 1587 → am_A p l e room_1 s m #[Value.ref b] below meth c 4 G1 (fun q => s.heap.size ≤ q) kc1 ks1 Q (1774, [(0, am_r 18 38 0), (1, am_r 0 0 0), (2, am_r 5 40 0), (3, am_i (nI n))], [], σ2)) :
    am_A p l e room_1 s m #[Value.ref b] below meth c 4 G (fun q => s.heap.size ≤ q) kc ks Q (1646, [(0, am_r 18 38 0), (1, am_r 0 0 0), (2, am_r 5 40 0), (3, am_i (nI n))], [], σ) := by
  have hc := ct_L41
  refine am_blk hc X 0 1 (fr' := (1647, [(0, am_r 18 38 0), (1, am_r 0 0 0), (2, am_r 5 40 0), (3, am_i (nI n))], [am_r 0 0 0], σ)) rfl ⟨trivial, trivial⟩ ?_
  refine am_scr hc X hb18 hX hbl hL 1 (k := 1) rfl rfl rfl rfl rfl rfl (by omega) ?_
  refine am_scr hc X hb18 hX hbl hL 6 (k := 2) rfl rfl rfl rfl rfl rfl (by omega) ?_
  refine am_callVL hc 11 X (k := 0) (i := 0) (o := 0) (As := [am_i (xs (n + 1)), am_i (xs (n + 2))]) (rest := []) (σ' := σ1) (r := some (am_i r)) rfl (ok_X7_act l (xs (n + 1)) (xs (n + 2)) σ h7) yv_X7_act ml_L_188 cl_0 ⟨by decide, by decide⟩ rfl rfl rfl ⟨Nat.le_trans (Nat.le_add_right _ _) hkc, Nat.le_trans (Nat.le_add_right _ _) hks⟩ ?_
  refine am_blk hc X 12 1 (fr' := (1661, [(0, am_r 18 38 0), (1, am_r 0 0 0), (2, am_r 5 40 0), (3, am_i (nI n))], [am_r 5 40 0, am_i r], σ1)) rfl ⟨trivial, trivial⟩ ?_
  refine am_scr hc X hb18 hX hbl hL 13 (k := 1) rfl rfl rfl rfl rfl rfl (by omega) ?_
  refine am_scr hc X hb18 hX hbl hL 18 (k := 2) rfl rfl rfl rfl rfl rfl (by omega) ?_
  refine am_callVL hc 23 X (k := 40) (i := 0) (o := 5) (As := [am_i (xs (n + 1)), am_i (xs (n + 2))]) (rest := [am_i r]) (σ' := σ2) (r := some (am_i r)) rfl (ok_X8_act l 5 (xs (n + 1)) (xs (n + 2)) σ1 h8) yv_X8_act ml_L_191 cl_40 ⟨by decide, by decide⟩ rfl rfl rfl ⟨Nat.le_trans (Nat.le_add_right _ _) hkc, Nat.le_trans (Nat.le_add_right _ _) hks⟩ ?_
  refine am_icmp_eq hc X 24 (tgt := 1774) rfl (by decide) (fun _ => ?_) (fun z => absurd rfl z)
  exact kk G _ _ am_ag.rf X (Nat.le_add_right _ _) (Nat.le_add_right _ _)
def tb_L42 : List (Nat × Instr × Nat) := [(1679, .aload_n 1, 1), (1680, .aload_n 0, 1), (1681, .iload_n 3, 1), (1682, .iconst 1, 1), (1683, .iadd, 1), (1684, .iaload, 1), (1685, .invokevirtual 192, 3), (1688, .aload_n 2, 1), (1689, .aload_n 0, 1), (1690, .iload_n 3, 1), (1691, .iconst 1, 1), (1692, .iadd, 1), (1693, .iaload, 1), (1694, .invokevirtual 195, 3), (1697, .if_icmp .eq 77, 3), (1700, .iconst 0, 1), (1701, .ireturn, 1)]
set_option maxRecDepth 100000 in
theorem ct_L42 : am_code code tb_L42 = true := by decide +kernel
set_option maxRecDepth 100000 in
theorem lc_42 {p : Program} {l : Launch} {e : Env} {s : State} {m : MethodId} {below : List Frame} {meth : Method} {c : Code} {b L : Nat} {xs : Nat → Int32} {G : am_G} {kc ks : Nat} {Q : State → Prop} (X : am_X p s m #[Value.ref b] c code RL 4 am_pL G (fun q => s.heap.size ≤ q)) (hb18 : am_ad G 18 38 0 = b) (hX : va_X b L xs s s.heap) (hbl : b < s.heap.size) (hL : L ≤ 3072) {n : Nat} (hn : n + 6 ≤ L) (hkc : kc + 137 ≤ room_1.cells) (hks : ks + 1587 ≤ room_1.slots) {σ σ1 σ2 : am_S} {r : Int32} (h7 : fn_X7_weeks (xs (n + 1)) σ = some (r, σ1)) (h8 : fn_X8_weeks 5 (xs (n + 1)) σ1 = some (r, σ2))
    (kk : ∀ (G1 : am_G) (kc1 ks1 : Nat), am_ag G G1 → am_X p s m #[Value.ref b] c code RL 4 am_pL G1 (fun q => s.heap.size ≤ q) → kc1 ≤ kc + 137 → ks1 ≤ ks + 1587 → am_A p l e room_1 s m #[Value.ref b] below meth c 4 G1 (fun q => s.heap.size ≤ q) kc1 ks1 Q (1774, [(0, am_r 18 38 0), (1, am_r 0 0 0), (2, am_r 5 40 0), (3, am_i (nI n))], [], σ2)) :
    am_A p l e room_1 s m #[Value.ref b] below meth c 4 G (fun q => s.heap.size ≤ q) kc ks Q (1679, [(0, am_r 18 38 0), (1, am_r 0 0 0), (2, am_r 5 40 0), (3, am_i (nI n))], [], σ) := by
  have hc := ct_L42
  refine am_blk hc X 0 1 (fr' := (1680, [(0, am_r 18 38 0), (1, am_r 0 0 0), (2, am_r 5 40 0), (3, am_i (nI n))], [am_r 0 0 0], σ)) rfl ⟨trivial, trivial⟩ ?_
  refine am_scr hc X hb18 hX hbl hL 1 (k := 1) rfl rfl rfl rfl rfl rfl (by omega) ?_
  refine am_callVL hc 6 X (k := 0) (i := 0) (o := 0) (As := [am_i (xs (n + 1))]) (rest := []) (σ' := σ1) (r := some (am_i r)) rfl (ok_X7_weeks l (xs (n + 1)) σ h7) yv_X7_weeks ml_L_192 cl_0 ⟨by decide, by decide⟩ rfl rfl rfl ⟨Nat.le_trans (Nat.le_add_right _ _) hkc, Nat.le_trans (Nat.le_add_right _ _) hks⟩ ?_
  refine am_blk hc X 7 1 (fr' := (1689, [(0, am_r 18 38 0), (1, am_r 0 0 0), (2, am_r 5 40 0), (3, am_i (nI n))], [am_r 5 40 0, am_i r], σ1)) rfl ⟨trivial, trivial⟩ ?_
  refine am_scr hc X hb18 hX hbl hL 8 (k := 1) rfl rfl rfl rfl rfl rfl (by omega) ?_
  refine am_callVL hc 13 X (k := 40) (i := 0) (o := 5) (As := [am_i (xs (n + 1))]) (rest := [am_i r]) (σ' := σ2) (r := some (am_i r)) rfl (ok_X8_weeks l 5 (xs (n + 1)) σ1 h8) yv_X8_weeks ml_L_195 cl_40 ⟨by decide, by decide⟩ rfl rfl rfl ⟨Nat.le_trans (Nat.le_add_right _ _) hkc, Nat.le_trans (Nat.le_add_right _ _) hks⟩ ?_
  refine am_icmp_eq hc X 14 (tgt := 1774) rfl (by decide) (fun _ => ?_) (fun z => absurd rfl z)
  exact kk G _ _ am_ag.rf X (Nat.le_add_right _ _) (Nat.le_add_right _ _)
def tb_L43 : List (Nat × Instr × Nat) := [(1702, .aload_n 1, 1), (1703, .aload_n 0, 1), (1704, .iload_n 3, 1), (1705, .iconst 1, 1), (1706, .iadd, 1), (1707, .iaload, 1), (1708, .invokevirtual 196, 3), (1711, .aload_n 2, 1), (1712, .aload_n 0, 1), (1713, .iload_n 3, 1), (1714, .iconst 1, 1), (1715, .iadd, 1), (1716, .iaload, 1), (1717, .invokevirtual 199, 3), (1720, .if_icmp .eq 54, 3), (1723, .iconst 0, 1), (1724, .ireturn, 1)]
set_option maxRecDepth 100000 in
theorem ct_L43 : am_code code tb_L43 = true := by decide +kernel
set_option maxRecDepth 100000 in
theorem lc_43 {p : Program} {l : Launch} {e : Env} {s : State} {m : MethodId} {below : List Frame} {meth : Method} {c : Code} {b L : Nat} {xs : Nat → Int32} {G : am_G} {kc ks : Nat} {Q : State → Prop} (X : am_X p s m #[Value.ref b] c code RL 4 am_pL G (fun q => s.heap.size ≤ q)) (hb18 : am_ad G 18 38 0 = b) (hX : va_X b L xs s s.heap) (hbl : b < s.heap.size) (hL : L ≤ 3072) {n : Nat} (hn : n + 6 ≤ L) (hkc : kc + 137 ≤ room_1.cells) (hks : ks + 1587 ≤ room_1.slots) {σ σ1 σ2 : am_S} {r : Int32} (h7 : fn_X7_seed (xs (n + 1)) σ = some (r, σ1)) (h8 : fn_X8_seed 5 (xs (n + 1)) σ1 = some (r, σ2))
    (kk : ∀ (G1 : am_G) (kc1 ks1 : Nat), am_ag G G1 → am_X p s m #[Value.ref b] c code RL 4 am_pL G1 (fun q => s.heap.size ≤ q) → kc1 ≤ kc + 137 → ks1 ≤ ks + 1587 → am_A p l e room_1 s m #[Value.ref b] below meth c 4 G1 (fun q => s.heap.size ≤ q) kc1 ks1 Q (1774, [(0, am_r 18 38 0), (1, am_r 0 0 0), (2, am_r 5 40 0), (3, am_i (nI n))], [], σ2)) :
    am_A p l e room_1 s m #[Value.ref b] below meth c 4 G (fun q => s.heap.size ≤ q) kc ks Q (1702, [(0, am_r 18 38 0), (1, am_r 0 0 0), (2, am_r 5 40 0), (3, am_i (nI n))], [], σ) := by
  have hc := ct_L43
  refine am_blk hc X 0 1 (fr' := (1703, [(0, am_r 18 38 0), (1, am_r 0 0 0), (2, am_r 5 40 0), (3, am_i (nI n))], [am_r 0 0 0], σ)) rfl ⟨trivial, trivial⟩ ?_
  refine am_scr hc X hb18 hX hbl hL 1 (k := 1) rfl rfl rfl rfl rfl rfl (by omega) ?_
  refine am_callVL hc 6 X (k := 0) (i := 0) (o := 0) (As := [am_i (xs (n + 1))]) (rest := []) (σ' := σ1) (r := some (am_i r)) rfl (ok_X7_seed l (xs (n + 1)) σ h7) yv_X7_seed ml_L_196 cl_0 ⟨by decide, by decide⟩ rfl rfl rfl ⟨Nat.le_trans (Nat.le_add_right _ _) hkc, Nat.le_trans (Nat.le_add_right _ _) hks⟩ ?_
  refine am_blk hc X 7 1 (fr' := (1712, [(0, am_r 18 38 0), (1, am_r 0 0 0), (2, am_r 5 40 0), (3, am_i (nI n))], [am_r 5 40 0, am_i r], σ1)) rfl ⟨trivial, trivial⟩ ?_
  refine am_scr hc X hb18 hX hbl hL 8 (k := 1) rfl rfl rfl rfl rfl rfl (by omega) ?_
  refine am_callVL hc 13 X (k := 40) (i := 0) (o := 5) (As := [am_i (xs (n + 1))]) (rest := [am_i r]) (σ' := σ2) (r := some (am_i r)) rfl (ok_X8_seed l 5 (xs (n + 1)) σ1 h8) yv_X8_seed ml_L_199 cl_40 ⟨by decide, by decide⟩ rfl rfl rfl ⟨Nat.le_trans (Nat.le_add_right _ _) hkc, Nat.le_trans (Nat.le_add_right _ _) hks⟩ ?_
  refine am_icmp_eq hc X 14 (tgt := 1774) rfl (by decide) (fun _ => ?_) (fun z => absurd rfl z)
  exact kk G _ _ am_ag.rf X (Nat.le_add_right _ _) (Nat.le_add_right _ _)
def tb_L44 : List (Nat × Instr × Nat) := [(1725, .aload_n 1, 1), (1726, .invokevirtual 200, 3), (1729, .aload_n 2, 1), (1730, .invokevirtual 203, 3), (1733, .if_icmp .eq 41, 3), (1736, .iconst 0, 1), (1737, .ireturn, 1)]
set_option maxRecDepth 100000 in
theorem ct_L44 : am_code code tb_L44 = true := by decide +kernel
set_option maxRecDepth 100000 in
theorem lc_44 {p : Program} {l : Launch} {e : Env} {s : State} {m : MethodId} {below : List Frame} {meth : Method} {c : Code} {b L : Nat} {xs : Nat → Int32} {G : am_G} {kc ks : Nat} {Q : State → Prop} (X : am_X p s m #[Value.ref b] c code RL 4 am_pL G (fun q => s.heap.size ≤ q)) (hb18 : am_ad G 18 38 0 = b) (hX : va_X b L xs s s.heap) (hbl : b < s.heap.size) (hL : L ≤ 3072) {n : Nat} (hn : n + 6 ≤ L) (hkc : kc + 137 ≤ room_1.cells) (hks : ks + 1587 ≤ room_1.slots) {σ σ1 σ2 : am_S} {r : Int32} (h7 : fn_X7_image  σ = some (r, σ1)) (h8 : fn_X8_image  σ1 = some (r, σ2))
    (kk : ∀ (G1 : am_G) (kc1 ks1 : Nat), am_ag G G1 → am_X p s m #[Value.ref b] c code RL 4 am_pL G1 (fun q => s.heap.size ≤ q) → kc1 ≤ kc + 137 → ks1 ≤ ks + 1587 → am_A p l e room_1 s m #[Value.ref b] below meth c 4 G1 (fun q => s.heap.size ≤ q) kc1 ks1 Q (1774, [(0, am_r 18 38 0), (1, am_r 0 0 0), (2, am_r 5 40 0), (3, am_i (nI n))], [], σ2)) :
    am_A p l e room_1 s m #[Value.ref b] below meth c 4 G (fun q => s.heap.size ≤ q) kc ks Q (1725, [(0, am_r 18 38 0), (1, am_r 0 0 0), (2, am_r 5 40 0), (3, am_i (nI n))], [], σ) := by
  have hc := ct_L44
  refine am_blk hc X 0 1 (fr' := (1726, [(0, am_r 18 38 0), (1, am_r 0 0 0), (2, am_r 5 40 0), (3, am_i (nI n))], [am_r 0 0 0], σ)) rfl ⟨trivial, trivial⟩ ?_
  refine am_callVL hc 1 X (k := 0) (i := 0) (o := 0) (As := []) (rest := []) (σ' := σ1) (r := some (am_i r)) rfl (ok_X7_image l σ h7) yv_X7_image ml_L_200 cl_0 ⟨by decide, by decide⟩ rfl rfl rfl ⟨Nat.le_trans (Nat.le_add_right _ _) hkc, Nat.le_trans (Nat.le_add_right _ _) hks⟩ ?_
  refine am_blk hc X 2 1 (fr' := (1730, [(0, am_r 18 38 0), (1, am_r 0 0 0), (2, am_r 5 40 0), (3, am_i (nI n))], [am_r 5 40 0, am_i r], σ1)) rfl ⟨trivial, trivial⟩ ?_
  refine am_callAL hc 3 X (fun q z => z) (k := 40) (i := 0) (o := 5) (As := []) (rest := [am_i r]) (σ' := σ2) (r := some (am_i r)) rfl (ok_X8_image l σ1 h8) yv_X8_image ml_L_203 cl_40 ⟨by decide, by decide⟩ rfl rfl rfl ⟨hkc, hks⟩ (fun G1 hg1 X1 => ?_)
  refine am_icmp_eq hc X1 4 (tgt := 1774) rfl (by decide) (fun _ => ?_) (fun z => absurd rfl z)
  exact kk G1 _ _ hg1 X1 (Nat.le_refl _) (Nat.le_refl _)
def tb_L45 : List (Nat × Instr × Nat) := [(1738, .aload_n 1, 1), (1739, .invokevirtual 204, 3), (1742, .aload_n 2, 1), (1743, .invokevirtual 207, 3), (1746, .if_icmp .eq 28, 3), (1749, .iconst 0, 1), (1750, .ireturn, 1)]
set_option maxRecDepth 100000 in
theorem ct_L45 : am_code code tb_L45 = true := by decide +kernel
set_option maxRecDepth 100000 in
theorem lc_45 {p : Program} {l : Launch} {e : Env} {s : State} {m : MethodId} {below : List Frame} {meth : Method} {c : Code} {b L : Nat} {xs : Nat → Int32} {G : am_G} {kc ks : Nat} {Q : State → Prop} (X : am_X p s m #[Value.ref b] c code RL 4 am_pL G (fun q => s.heap.size ≤ q)) (hb18 : am_ad G 18 38 0 = b) (hX : va_X b L xs s s.heap) (hbl : b < s.heap.size) (hL : L ≤ 3072) {n : Nat} (hn : n + 6 ≤ L) (hkc : kc + 137 ≤ room_1.cells) (hks : ks + 1587 ≤ room_1.slots) {σ σ1 σ2 : am_S} {r : Int32} (h7 : fn_X7_back  σ = some (r, σ1)) (h8 : fn_X8_back 5 σ1 = some (r, σ2))
    (kk : ∀ (G1 : am_G) (kc1 ks1 : Nat), am_ag G G1 → am_X p s m #[Value.ref b] c code RL 4 am_pL G1 (fun q => s.heap.size ≤ q) → kc1 ≤ kc + 137 → ks1 ≤ ks + 1587 → am_A p l e room_1 s m #[Value.ref b] below meth c 4 G1 (fun q => s.heap.size ≤ q) kc1 ks1 Q (1774, [(0, am_r 18 38 0), (1, am_r 0 0 0), (2, am_r 5 40 0), (3, am_i (nI n))], [], σ2)) :
    am_A p l e room_1 s m #[Value.ref b] below meth c 4 G (fun q => s.heap.size ≤ q) kc ks Q (1738, [(0, am_r 18 38 0), (1, am_r 0 0 0), (2, am_r 5 40 0), (3, am_i (nI n))], [], σ) := by
  have hc := ct_L45
  refine am_blk hc X 0 1 (fr' := (1739, [(0, am_r 18 38 0), (1, am_r 0 0 0), (2, am_r 5 40 0), (3, am_i (nI n))], [am_r 0 0 0], σ)) rfl ⟨trivial, trivial⟩ ?_
  refine am_callVL hc 1 X (k := 0) (i := 0) (o := 0) (As := []) (rest := []) (σ' := σ1) (r := some (am_i r)) rfl (ok_X7_back l σ h7) yv_X7_back ml_L_204 cl_0 ⟨by decide, by decide⟩ rfl rfl rfl ⟨Nat.le_trans (Nat.le_add_right _ _) hkc, Nat.le_trans (Nat.le_add_right _ _) hks⟩ ?_
  refine am_blk hc X 2 1 (fr' := (1743, [(0, am_r 18 38 0), (1, am_r 0 0 0), (2, am_r 5 40 0), (3, am_i (nI n))], [am_r 5 40 0, am_i r], σ1)) rfl ⟨trivial, trivial⟩ ?_
  refine am_callVL hc 3 X (k := 40) (i := 0) (o := 5) (As := []) (rest := [am_i r]) (σ' := σ2) (r := some (am_i r)) rfl (ok_X8_back l 5 σ1 h8) yv_X8_back ml_L_207 cl_40 ⟨by decide, by decide⟩ rfl rfl rfl ⟨Nat.le_trans (Nat.le_add_right _ _) hkc, Nat.le_trans (Nat.le_add_right _ _) hks⟩ ?_
  refine am_icmp_eq hc X 4 (tgt := 1774) rfl (by decide) (fun _ => ?_) (fun z => absurd rfl z)
  exact kk G _ _ am_ag.rf X (Nat.le_add_right _ _) (Nat.le_add_right _ _)
def tb_L46 : List (Nat × Instr × Nat) := [(1751, .aload_n 1, 1), (1752, .aload_n 0, 1), (1753, .iload_n 3, 1), (1754, .iconst 1, 1), (1755, .iadd, 1), (1756, .iaload, 1), (1757, .invokevirtual 208, 3), (1760, .aload_n 2, 1), (1761, .aload_n 0, 1), (1762, .iload_n 3, 1), (1763, .iconst 1, 1), (1764, .iadd, 1), (1765, .iaload, 1), (1766, .invokevirtual 211, 3), (1769, .if_icmp .eq 5, 3), (1772, .iconst 0, 1), (1773, .ireturn, 1)]
set_option maxRecDepth 100000 in
theorem ct_L46 : am_code code tb_L46 = true := by decide +kernel
set_option maxRecDepth 100000 in
theorem lc_46 {p : Program} {l : Launch} {e : Env} {s : State} {m : MethodId} {below : List Frame} {meth : Method} {c : Code} {b L : Nat} {xs : Nat → Int32} {G : am_G} {kc ks : Nat} {Q : State → Prop} (X : am_X p s m #[Value.ref b] c code RL 4 am_pL G (fun q => s.heap.size ≤ q)) (hb18 : am_ad G 18 38 0 = b) (hX : va_X b L xs s s.heap) (hbl : b < s.heap.size) (hL : L ≤ 3072) {n : Nat} (hn : n + 6 ≤ L) (hkc : kc + 137 ≤ room_1.cells) (hks : ks + 1587 ≤ room_1.slots) {σ σ1 σ2 : am_S} {r : Int32} (h7 : fn_X7_status (xs (n + 1)) σ = some (r, σ1)) (h8 : fn_X8_status 5 (xs (n + 1)) σ1 = some (r, σ2))
    (kk : ∀ (G1 : am_G) (kc1 ks1 : Nat), am_ag G G1 → am_X p s m #[Value.ref b] c code RL 4 am_pL G1 (fun q => s.heap.size ≤ q) → kc1 ≤ kc + 137 → ks1 ≤ ks + 1587 → am_A p l e room_1 s m #[Value.ref b] below meth c 4 G1 (fun q => s.heap.size ≤ q) kc1 ks1 Q (1774, [(0, am_r 18 38 0), (1, am_r 0 0 0), (2, am_r 5 40 0), (3, am_i (nI n))], [], σ2)) :
    am_A p l e room_1 s m #[Value.ref b] below meth c 4 G (fun q => s.heap.size ≤ q) kc ks Q (1751, [(0, am_r 18 38 0), (1, am_r 0 0 0), (2, am_r 5 40 0), (3, am_i (nI n))], [], σ) := by
  have hc := ct_L46
  refine am_blk hc X 0 1 (fr' := (1752, [(0, am_r 18 38 0), (1, am_r 0 0 0), (2, am_r 5 40 0), (3, am_i (nI n))], [am_r 0 0 0], σ)) rfl ⟨trivial, trivial⟩ ?_
  refine am_scr hc X hb18 hX hbl hL 1 (k := 1) rfl rfl rfl rfl rfl rfl (by omega) ?_
  refine am_callVL hc 6 X (k := 0) (i := 0) (o := 0) (As := [am_i (xs (n + 1))]) (rest := []) (σ' := σ1) (r := some (am_i r)) rfl (ok_X7_status l (xs (n + 1)) σ h7) yv_X7_status ml_L_208 cl_0 ⟨by decide, by decide⟩ rfl rfl rfl ⟨Nat.le_trans (Nat.le_add_right _ _) hkc, Nat.le_trans (Nat.le_add_right _ _) hks⟩ ?_
  refine am_blk hc X 7 1 (fr' := (1761, [(0, am_r 18 38 0), (1, am_r 0 0 0), (2, am_r 5 40 0), (3, am_i (nI n))], [am_r 5 40 0, am_i r], σ1)) rfl ⟨trivial, trivial⟩ ?_
  refine am_scr hc X hb18 hX hbl hL 8 (k := 1) rfl rfl rfl rfl rfl rfl (by omega) ?_
  refine am_callVL hc 13 X (k := 40) (i := 0) (o := 5) (As := [am_i (xs (n + 1))]) (rest := [am_i r]) (σ' := σ2) (r := some (am_i r)) rfl (ok_X8_status l 5 (xs (n + 1)) σ1 h8) yv_X8_status ml_L_211 cl_40 ⟨by decide, by decide⟩ rfl rfl rfl ⟨Nat.le_trans (Nat.le_add_right _ _) hkc, Nat.le_trans (Nat.le_add_right _ _) hks⟩ ?_
  refine am_icmp_eq hc X 14 (tgt := 1774) rfl (by decide) (fun _ => ?_) (fun z => absurd rfl z)
  exact kk G _ _ am_ag.rf X (Nat.le_add_right _ _) (Nat.le_add_right _ _)
