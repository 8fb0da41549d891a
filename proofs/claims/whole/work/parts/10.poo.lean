def am_p0 : am_P := ([(11, 2, 0), (16, 2, 1), (19, 2, 2), (22, 2, 3), (26, 2, 4), (29, 2, 5), (32, 2, 6), (35, 2, 7)], [], [(115, 1103515245)], [])
set_option maxRecDepth 100000 in
theorem am_p0_ok : am_pok RX0 am_p0 = true := by decide +kernel
def am_p1 : am_P := ([(19, 2, 2), (9, 32, 0), (15, 32, 1)], [], [], [])
set_option maxRecDepth 100000 in
theorem am_p1_ok : am_pok RX1 am_p1 = true := by decide +kernel
def am_p2 : am_P := ([(9, 9, 0), (15, 9, 1), (20, 9, 2)], [], [], [])
set_option maxRecDepth 100000 in
theorem am_p2_ok : am_pok RX2 am_p2 = true := by decide +kernel
def am_p3 : am_P := ([(11, 29, 0)], [], [(34, 1000000)], [(32, (-1))])
set_option maxRecDepth 100000 in
theorem am_p3_ok : am_pok RX3 am_p3 = true := by decide +kernel
def am_p4 : am_P := ([(81, 2, 0), (96, 2, 2), (68, 2, 3), (71, 2, 4), (85, 2, 5), (12, 14, 0), (18, 14, 1), (22, 14, 2), (26, 14, 3), (29, 14, 4), (32, 14, 5), (35, 14, 6)], [(119, 18, 0), (121, 18, 1), (123, 18, 2), (125, 18, 3), (127, 18, 4), (129, 18, 5), (131, 18, 6), (133, 18, 7), (135, 18, 8), (57, 16, 35)], [], [])
set_option maxRecDepth 100000 in
theorem am_p4_ok : am_pok RX4 am_p4 = true := by decide +kernel
def am_p5 : am_P := ([(29, 2, 2), (75, 2, 4), (65, 17, 0), (9, 22, 0), (15, 22, 1), (20, 22, 2), (23, 22, 3), (26, 22, 4)], [], [(56, 1000000)], [])
set_option maxRecDepth 100000 in
theorem am_p5_ok : am_pok RX5 am_p5 = true := by decide +kernel
def am_p6 : am_P := ([(75, 2, 2), (71, 2, 4), (11, 17, 0), (16, 17, 1), (20, 17, 2)], [], [(23, 1000000)], [])
set_option maxRecDepth 100000 in
theorem am_p6_ok : am_pok RX6 am_p6 = true := by decide +kernel
def am_p7 : am_P := ([(138, 2, 0), (167, 2, 1), (117, 2, 2), (141, 2, 3), (148, 2, 4), (128, 2, 5), (298, 2, 6), (285, 2, 7), (111, 9, 0), (311, 9, 1), (245, 9, 2), (181, 14, 0), (170, 14, 2), (202, 17, 1), (236, 17, 2), (209, 22, 1), (229, 22, 4), (273, 32, 0), (276, 32, 1), (12, 0, 0), (16, 0, 1), (19, 0, 2), (26, 0, 3), (33, 0, 4), (40, 0, 5), (47, 0, 6), (54, 0, 7), (61, 0, 8), (65, 0, 9)], [(324, 16, 34)], [], [(314, (-1)), (316, 7), (318, 5), (320, 8), (322, 9)])
set_option maxRecDepth 100000 in
theorem am_p7_ok : am_pok RX7 am_p7 = true := by decide +kernel
def am_p8 : am_P := ([(7, 40, 0), (13, 40, 1), (16, 40, 2), (21, 40, 3), (24, 40, 4), (28, 40, 5), (31, 40, 6), (179, 40, 7), (34, 40, 8), (37, 40, 9), (40, 40, 10), (43, 40, 11), (46, 40, 12), (164, 40, 13), (52, 40, 14), (114, 40, 15), (55, 40, 16), (58, 40, 17), (61, 40, 18), (64, 40, 19), (67, 40, 20), (70, 40, 21), (73, 40, 22), (76, 40, 23), (384, 40, 24), (79, 40, 25), (393, 40, 26), (266, 40, 27), (182, 40, 28), (191, 40, 29), (185, 40, 30), (188, 40, 31), (200, 40, 32), (82, 40, 33), (260, 40, 34), (85, 40, 35), (88, 40, 36), (91, 40, 37), (94, 40, 38), (314, 40, 39), (311, 40, 40), (97, 40, 41), (100, 40, 42), (103, 40, 43), (333, 40, 44), (106, 40, 45), (111, 40, 46), (368, 40, 47)], [(230, 18, 0), (239, 18, 1), (240, 18, 2), (241, 18, 3), (243, 18, 4), (248, 18, 5), (253, 18, 6), (258, 18, 7), (259, 18, 8)], [(297, 10000000), (348, 1000000), (387, 1103515245)], [(123, 7), (125, 4), (127, 40), (144, 5), (121, 6), (158, 9), (160, 12), (162, 20), (175, 999), (177, 255), (282, 3), (302, 2), (339, (-1)), (366, 8), (388, 60), (400, 16)])
set_option maxRecDepth 100000 in
theorem am_p8_ok : am_pok RX8 am_p8 = true := by decide +kernel
/-- the index j is within n places -/
def am_in (j : Int32) (n : Nat) : Bool := !decide (j < 0) && Nat.ble (j.toNatClampNeg + 1) n
theorem am_ble (n : Nat) : Nat.ble n n = true := Nat.ble_eq_true_of_le (Nat.le_refl n)
theorem am_in_vp {j : Int32} {n : Nat} (h : am_in j n = true) : vp_in j n := by
  unfold am_in at h
  simp only [Bool.and_eq_true, Bool.not_eq_true', decide_eq_false_iff_not] at h
  exact fun q => q.elim h.1 fun z => absurd (Nat.le_of_ble_eq_true h.2) (Nat.not_le.mpr (Nat.lt_succ_of_le z))
theorem am_ci {α : Type} {b : Bool} {a : Option α} {q : α} (h : (bif b then a else none) = some q) : b = true ∧ a = some q := by
  cases b
  · cases h
  · exact ⟨rfl, h⟩
theorem am_nz {α : Type} {c : Prop} [Decidable c] {a : Option α} {q : α} (h : (if c then none else a) = some q) : ¬ c ∧ a = some q := by
  by_cases z : c
  · rw [if_pos z] at h; cases h
  · rw [if_neg z] at h; exact ⟨z, h⟩
theorem am_ct2 {α : Type} {c : Prop} [Decidable c] {a : Option α} {q : α} (h : (if c then a else none) = some q) : c ∧ a = some q := by
  by_cases z : c
  · rw [if_pos z] at h; exact ⟨z, h⟩
  · rw [if_neg z] at h; cases h
theorem am_ip {α : Type} {c : Prop} [Decidable c] {a b q : α} (hc : c) (h : (if c then a else b) = q) : a = q := by rw [if_pos hc] at h; exact h
theorem am_in2 {α : Type} {c : Prop} [Decidable c] {a b q : α} (hc : ¬ c) (h : (if c then a else b) = q) : b = q := by rw [if_neg hc] at h; exact h
theorem am_bs {α β : Type} {a : Option α} {f : α → Option β} {q : β} (h : a.bind f = some q) : ∃ x, a = some x ∧ f x = some q := Option.bind_eq_some_iff.mp h
theorem am_sw {x : Int32} (lo hi : Int) (h : ∀ z : Int, lo ≤ z → z ≤ hi → ¬ x.toInt = z) : x.toInt < lo ∨ hi < x.toInt := by
  by_cases a : x.toInt < lo
  · exact Or.inl a
  · by_cases b : hi < x.toInt
    · exact Or.inr b
    · exact absurd rfl (h x.toInt (by omega) (by omega))
def am_pJ : am_P := ([], [], [], [])
set_option maxRecDepth 100000 in
theorem am_pJ_ok {own : String} : am_pok own am_pJ = true := rfl
def am_pJ0 : am_P := ([], [(9, 17, 1), (15, 17, 0), (38, 17, 2)], [], [])
set_option maxRecDepth 100000 in
theorem am_pJ0_ok : am_pok RJ0 am_pJ0 = true := by decide +kernel
def am_pJ6 : am_P := ([], [], [(265, 1431655765), (266, 858993459), (267, 252645135)], [])
set_option maxRecDepth 100000 in
theorem am_pJ6_ok : am_pok RJ6 am_pJ6 = true := by decide +kernel
set_option maxRecDepth 100000 in
theorem cl_0 : RX7 = (am_cl 0).1 ∧ Nat.beq (am_kd 0).1 0 = true := by decide +kernel
set_option maxRecDepth 100000 in
theorem cl_2 : RX0 = (am_cl 2).1 ∧ Nat.beq (am_kd 2).1 0 = true := by decide +kernel
set_option maxRecDepth 100000 in
theorem cl_9 : RX2 = (am_cl 9).1 ∧ Nat.beq (am_kd 9).1 0 = true := by decide +kernel
set_option maxRecDepth 100000 in
theorem cl_14 : RX4 = (am_cl 14).1 ∧ Nat.beq (am_kd 14).1 0 = true := by decide +kernel
set_option maxRecDepth 100000 in
theorem cl_17 : RX6 = (am_cl 17).1 ∧ Nat.beq (am_kd 17).1 0 = true := by decide +kernel
set_option maxRecDepth 100000 in
theorem cl_22 : RX5 = (am_cl 22).1 ∧ Nat.beq (am_kd 22).1 0 = true := by decide +kernel
set_option maxRecDepth 100000 in
theorem cl_29 : RX3 = (am_cl 29).1 ∧ Nat.beq (am_kd 29).1 0 = true := by decide +kernel
set_option maxRecDepth 100000 in
theorem cl_32 : RX1 = (am_cl 32).1 ∧ Nat.beq (am_kd 32).1 0 = true := by decide +kernel
set_option maxRecDepth 100000 in
theorem cl_40 : RX8 = (am_cl 40).1 ∧ Nat.beq (am_kd 40).1 0 = true := by decide +kernel
