/-! ===== the abstract machine: values, cells, frames ===== -/
/-- a value: an int, a long, null, or a cell by group, kind and place -/
abbrev am_V : Type := Int32 ⊕ Int64 ⊕ Option (Nat × Nat × Nat)
abbrev am_i (x : Int32) : am_V := .inl x
abbrev am_l (x : Int64) : am_V := .inr (.inl x)
abbrev am_r (o k i : Nat) : am_V := .inr (.inr (some (o, k, i)))
abbrev am_n : am_V := .inr (.inr none)
/-- what all cells hold: ints (of objects too: row 0, place of the field) and longs, by group, kind, row, place -/
abbrev am_S : Type := (Nat → Nat → Nat → Nat → Int32) × (Nat → Nat → Nat → Nat → Int64)
/-- classes and slots, classes of the arrays, addresses, which groups are made -/
abbrev am_G : Type := va_G × (Nat → ClassId) × (Nat → Nat → Nat → Nat) × (Nat → Bool)
/-- pc, locals, stack, cells -/
abbrev am_F : Type := Nat × List (Nat × am_V) × List am_V × am_S
/-- a class's pool: fields (kind, place), statics (group, kind), ints, longs -/
abbrev am_P : Type := List (Nat × Nat × Nat) × List (Nat × Nat × Nat) × List (Nat × Int32) × List (Nat × Int64)
def am_u (s : am_S) (o k i j : Nat) (x : Int32) : am_S := (fun o' k' i' j' => if k' = k ∧ j' = j ∧ i' = i ∧ o' = o then x else s.1 o' k' i' j', s.2)
def am_ul (s : am_S) (o k i j : Nat) (x : Int64) : am_S := (s.1, fun o' k' i' j' => if k' = k ∧ j' = j ∧ i' = i ∧ o' = o then x else s.2 o' k' i' j')
def am_lk {α : Type} : List (Nat × α) → Nat → Option α
  | [], _ => none
  | (a, v) :: t, i => bif Nat.beq a i then some v else am_lk t i
theorem am_lk_mem {α : Type} : ∀ {l : List (Nat × α)} {i : Nat} {v : α}, am_lk l i = some v → (i, v) ∈ l
  | [], i, v, h => by cases h
  | (a, w) :: t, i, v, h => by
    unfold am_lk at h
    by_cases e : Nat.beq a i = true
    · rw [e] at h
      cases h
      rw [Nat.eq_of_beq_eq_true e]
      exact List.mem_cons_self
    · rw [Bool.not_eq_true] at e
      rw [e] at h
      exact List.mem_cons_of_mem _ (am_lk_mem h)
def am_v (G : am_G) : am_V → Value
  | .inl x => .int x
  | .inr (.inl x) => .long x
  | .inr (.inr none) => .null
  | .inr (.inr (some (o, k, i))) => .ref (G.2.2.1 o k i)
def am_ct : am_V → Nat
  | .inr (.inl _) => 2
  | _ => 1
theorem am_v_ct (G : am_G) (v : am_V) : (am_v G v).category = am_ct v := by
  rcases v with x | x | x
  · rfl
  · rfl
  · rcases x with _ | ⟨o, k, i⟩ <;> rfl
/-- the locals in the order of their numbers -/
def am_ins (i : Nat) (v : am_V) : List (Nat × am_V) → List (Nat × am_V)
  | [] => [(i, v)]
  | q :: t => bif Nat.ble (q.1 + 1) i then q :: am_ins i v t else (i, v) :: q :: t
/-- a store clears what stood at i, and a long that ends there -/
def am_rm (i : Nat) : List (Nat × am_V) → List (Nat × am_V)
  | [] => []
  | q :: t => bif Nat.beq q.1 i || (Nat.beq (q.1 + 1) i && Nat.beq (am_ct q.2) 2) then am_rm i t else q :: am_rm i t
def am_rm2 (i : Nat) : List (Nat × am_V) → List (Nat × am_V)
  | [] => []
  | q :: t => bif Nat.beq q.1 i || (Nat.beq q.1 (i + 1) || (Nat.beq (q.1 + 1) i && Nat.beq (am_ct q.2) 2)) then am_rm2 i t else q :: am_rm2 i t
theorem am_ins_mem {i : Nat} {v : am_V} {q : Nat × am_V} : ∀ {l : List (Nat × am_V)}, q ∈ am_ins i v l → q = (i, v) ∨ q ∈ l
  | [], h => by
    unfold am_ins at h
    exact Or.inl (List.mem_singleton.mp h)
  | a :: t, h => by
    unfold am_ins at h
    cases hb : Nat.ble (a.1 + 1) i
    · rw [hb] at h
      exact (List.mem_cons.mp h)
    · rw [hb] at h
      rcases List.mem_cons.mp h with e | e
      · exact Or.inr (List.mem_cons.mpr (Or.inl e))
      · rcases am_ins_mem e with e | e
        · exact Or.inl e
        · exact Or.inr (List.mem_cons_of_mem _ e)
theorem am_rm_mem {i : Nat} {q : Nat × am_V} : ∀ {l : List (Nat × am_V)}, q ∈ am_rm i l → q ∈ l ∧ q.1 ≠ i ∧ ¬ (q.1 + 1 = i ∧ am_ct q.2 = 2)
  | [], h => by cases h
  | a :: t, h => by
    unfold am_rm at h
    cases hb : (Nat.beq a.1 i || (Nat.beq (a.1 + 1) i && Nat.beq (am_ct a.2) 2))
    · rw [hb] at h
      rcases List.mem_cons.mp h with e | e
      · subst e
        simp only [Bool.or_eq_false_iff, Bool.and_eq_false_iff] at hb
        refine ⟨List.mem_cons_self, fun q => ?_, fun q => ?_⟩
        · rw [q, Nat.beq_refl] at hb
          exact absurd hb.1 (by decide)
        · rw [q.1, q.2, Nat.beq_refl] at hb
          rcases hb.2 with z | z
          · exact absurd z (by decide)
          · exact absurd z (by decide)
      · have := am_rm_mem e
        exact ⟨List.mem_cons_of_mem _ this.1, this.2⟩
    · rw [hb] at h
      have := am_rm_mem h
      exact ⟨List.mem_cons_of_mem _ this.1, this.2⟩
theorem am_rm2_mem {i : Nat} {q : Nat × am_V} : ∀ {l : List (Nat × am_V)}, q ∈ am_rm2 i l → q ∈ l ∧ q.1 ≠ i ∧ q.1 ≠ i + 1 ∧ ¬ (q.1 + 1 = i ∧ am_ct q.2 = 2)
  | [], h => by cases h
  | a :: t, h => by
    unfold am_rm2 at h
    cases hb : (Nat.beq a.1 i || (Nat.beq a.1 (i + 1) || (Nat.beq (a.1 + 1) i && Nat.beq (am_ct a.2) 2)))
    · rw [hb] at h
      rcases List.mem_cons.mp h with e | e
      · subst e
        simp only [Bool.or_eq_false_iff, Bool.and_eq_false_iff] at hb
        refine ⟨List.mem_cons_self, fun q => ?_, fun q => ?_, fun q => ?_⟩
        · rw [q, Nat.beq_refl] at hb
          exact absurd hb.1 (by decide)
        · rw [q, Nat.beq_refl] at hb
          exact absurd hb.2.1 (by decide)
        · rw [q.1, q.2, Nat.beq_refl] at hb
          rcases hb.2.2 with z | z
          · exact absurd z (by decide)
          · exact absurd z (by decide)
      · have := am_rm2_mem e
        exact ⟨List.mem_cons_of_mem _ this.1, this.2⟩
    · rw [hb] at h
      have := am_rm2_mem h
      exact ⟨List.mem_cons_of_mem _ this.1, this.2⟩
/-- the rows written out in the class: ABOVE, SHAPES -/
def am_stt : List (List Int32) := [[-1, 0, 0, 1, 2, 0], [0, 1, -1, -1, 0, 2, -1, -1, 0, 3, -1, -1, 1, -1, -1, -1, 0, 8, 1, 2, 4, 5, 0, -1, 7, 0, -1, -1, 7, 0, -1, -1, 7, 6, -1, -1]]
/-- the kinds of cells: (sort, size, how many, class or kind of the rows): 0 an object, 1 ints, 2 longs, 3 booleans, 4 5 6 a row of rows of these, 7 a text -/
def am_kds : List (Nat × Nat × Nat × Nat) := [(0, 10, 1, 7), (1, 5, 1, 0), (0, 8, 1, 0), (4, 3, 1, 4), (1, 7, 3, 0), (4, 3, 1, 6), (1, 4, 3, 0), (4, 6, 1, 8), (1, 8, 6, 0), (0, 3, 1, 2), (1, 8, 1, 0), (1, 8, 1, 0), (5, 8, 1, 13), (2, 40, 8, 0), (0, 7, 1, 4), (1, 250, 1, 0), (1, 4, 1, 0), (0, 3, 1, 6), (4, 7, 1, 19), (1, 7, 7, 0), (1, 7, 1, 0), (1, 7, 1, 0), (0, 5, 1, 5), (1, 896, 1, 0), (1, 7, 1, 0), (4, 6, 1, 26), (1, 7, 6, 0), (1, 128, 1, 0), (1, 6, 1, 0), (0, 1, 1, 3), (4, 41, 1, 31), (1, 7, 41, 0), (0, 2, 1, 1), (1, 8, 1, 0), (10, 6, 1, 0), (10, 36, 1, 0), (7, 0, 9, 0), (8, 0, 9, 0), (9, 0, 1, 0), (9, 0, 0, 0), (0, 48, 1, 8), (1, 8, 1, 0), (1, 8, 1, 0), (1, 8, 1, 0), (5, 8, 1, 45), (2, 40, 8, 0), (2, 40, 1, 0), (1, 8, 1, 0), (1, 250, 1, 0), (1, 8, 1, 0), (1, 7, 1, 0), (1, 7, 1, 0), (1, 7, 1, 0), (4, 3, 1, 54), (1, 4, 3, 0), (1, 6, 1, 0), (1, 6, 1, 0), (1, 6, 1, 0), (1, 6, 1, 0), (1, 6, 1, 0), (1, 6, 1, 0), (1, 6, 1, 0), (1, 6, 1, 0), (1, 4, 1, 0), (4, 7, 1, 65), (1, 7, 7, 0), (1, 7, 1, 0), (1, 7, 1, 0), (1, 7, 1, 0), (4, 6, 1, 70), (1, 7, 6, 0), (1, 6, 1, 0), (1, 6, 1, 0), (4, 41, 1, 74), (1, 7, 41, 0), (6, 41, 1, 76), (3, 7, 41, 0)]
/-- the fields of the objects of a kind: 0 an int, 5 a boolean, 1 a cell of the same group, 2 one of another, 3 null or one of another -/
def am_fds : List (List (Nat × Nat × Nat)) := [[(2, 1, 2), (2, 2, 2), (5, 0, 0), (2, 10, 9), (2, 11, 14), (2, 12, 17), (2, 13, 22), (2, 14, 29), (2, 15, 32), (1, 1, 0)], [], [(1, 3, 0), (1, 5, 0), (1, 7, 0), (0, 0, 0), (0, 0, 0), (0, 0, 0), (0, 0, 0), (0, 0, 0)], [], [], [], [], [], [], [(1, 10, 0), (1, 11, 0), (1, 12, 0)], [], [], [], [], [(2, 3, 2), (1, 15, 0), (0, 0, 0), (1, 16, 0), (0, 0, 0), (0, 0, 0), (0, 0, 0)], [], [], [(1, 18, 0), (1, 20, 0), (1, 21, 0)], [], [], [], [], [(1, 23, 0), (1, 24, 0), (1, 25, 0), (1, 27, 0), (1, 28, 0)], [], [], [], [], [], [], [(1, 30, 0)], [], [], [(1, 33, 0), (0, 0, 0)], [], [], [], [], [], [], [], [(1, 41, 0), (1, 42, 0), (1, 43, 0), (1, 44, 0), (1, 46, 0), (1, 47, 0), (1, 48, 0), (0, 0, 0), (1, 49, 0), (1, 50, 0), (1, 51, 0), (1, 52, 0), (0, 0, 0), (0, 0, 0), (1, 53, 0), (0, 0, 0), (1, 55, 0), (1, 56, 0), (1, 57, 0), (1, 58, 0), (1, 59, 0), (1, 60, 0), (1, 61, 0), (1, 62, 0), (0, 0, 0), (0, 0, 0), (3, 6, 40), (3, 7, 40), (0, 0, 0), (0, 0, 0), (0, 0, 0), (0, 0, 0), (0, 0, 0), (1, 63, 0), (0, 0, 0), (1, 64, 0), (1, 66, 0), (1, 67, 0), (1, 68, 0), (0, 0, 0), (0, 0, 0), (1, 69, 0), (1, 71, 0), (1, 72, 0), (0, 0, 0), (1, 73, 0), (1, 75, 0), (0, 0, 0)], [], [], [], [], [], [], [], [], [], [], [], [], [], [], [], [], [], [], [], [], [], [], [], [], [], [], [], [], [], [], [], [], [], [], [], []]
def am_okl : List (List Nat) := [[0, 1], [2, 3, 4, 5, 6, 7, 8], [2, 3, 4, 5, 6, 7, 8], [2, 3, 4, 5, 6, 7, 8], [], [40, 41, 42, 43, 44, 45, 46, 47, 48, 49, 50, 51, 52, 53, 54, 55, 56, 57, 58, 59, 60, 61, 62, 63, 64, 65, 66, 67, 68, 69, 70, 71, 72, 73, 74, 75, 76], [40, 41, 42, 43, 44, 45, 46, 47, 48, 49, 50, 51, 52, 53, 54, 55, 56, 57, 58, 59, 60, 61, 62, 63, 64, 65, 66, 67, 68, 69, 70, 71, 72, 73, 74, 75, 76], [40, 41, 42, 43, 44, 45, 46, 47, 48, 49, 50, 51, 52, 53, 54, 55, 56, 57, 58, 59, 60, 61, 62, 63, 64, 65, 66, 67, 68, 69, 70, 71, 72, 73, 74, 75, 76], [], [], [9, 10, 11, 12, 13], [14, 15, 16], [17, 18, 19, 20, 21], [22, 23, 24, 25, 26, 27, 28], [29, 30, 31], [32, 33], [34, 35], [36, 37], [38]]
/-! ===== the cells ===== -/
def am_kd (k : Nat) : Nat × Nat × Nat × Nat := am_kds.getD k (9, 0, 0, 0)
def am_fd (k f : Nat) : Nat × Nat × Nat := (am_fds.getD k []).getD f (9, 0, 0)
def am_ok (o k : Nat) : Bool := (am_okl.getD o []).contains k
def am_lv (G : am_G) (o k i : Nat) : Prop := G.2.2.2 o = true ∧ am_ok o k = true ∧ i < (am_kd k).2.2.1
def am_lV (G : am_G) : am_V → Prop
  | .inr (.inr (some (o, k, i))) => am_lv G o k i
  | _ => True
def am_ad (G : am_G) (o k i : Nat) : Nat := G.2.2.1 o k i
def am_fv (G : am_G) (s : am_S) (o k f : Nat) : Value :=
  match am_fd k f with
  | (0, _, _) => .int (s.1 o k 0 f)
  | (5, _, _) => .int (s.1 o k 0 f)
  | (1, x, _) => .ref (am_ad G o x 0)
  | (2, x, y) => .ref (am_ad G x y 0)
  | (_, x, y) => if s.1 o k 0 f = 0 then .null else .ref (am_ad G x y 0)
def am_at (G : am_G) (s : am_S) (o k i : Nat) (H : Heap) : Prop :=
  match am_kd k with
  | (0, n, _, c) => t_OB (am_ad G o k i) (G.1.1 c) n (G.1.2 c) H (fun f => am_fv G s o k f)
  | (1, n, _, _) => H[am_ad G o k i]? = some (arrV (G.2.1 0) n (fun j => .int (s.1 o k i j)))
  | (2, n, _, _) => H[am_ad G o k i]? = some (arrV (G.2.1 1) n (fun j => .long (s.2 o k i j)))
  | (3, n, _, _) => H[am_ad G o k i]? = some (arrV (G.2.1 2) n (fun j => .int (s.1 o k i j)))
  | (4, n, _, x) => H[am_ad G o k i]? = some (arrV (G.2.1 3) n (fun j => .ref (am_ad G o x j)))
  | (5, n, _, x) => H[am_ad G o k i]? = some (arrV (G.2.1 4) n (fun j => .ref (am_ad G o x j)))
  | (6, n, _, x) => H[am_ad G o k i]? = some (arrV (G.2.1 5) n (fun j => .ref (am_ad G o x j)))
  | _ => True
/-- the cells that may be written -/
def am_fr (G : am_G) : Nat → Prop := fun q => ∃ o k i, am_lv G o k i ∧ o < 16 ∧ q = am_ad G o k i
def am_tys (G : am_G) : List (ClassId × FieldType) := [(G.2.1 0, .int), (G.2.1 1, .long), (G.2.1 2, .boolean), (G.2.1 3, .array .int), (G.2.1 4, .array .long), (G.2.1 5, .array .boolean)]
/-- the texts: by class, number in its pool, text, place among them -/
def am_str : List (String × Nat × String × Nat) := [("SundayIsAPlace$Tape", 119, "fare", 0), ("SundayIsAPlace$Tape", 121, "hours", 1), ("SundayIsAPlace$Tape", 123, "pay", 2), ("SundayIsAPlace$Tape", 125, "back", 3), ("SundayIsAPlace$Tape", 127, "pass", 4), ("SundayIsAPlace$Tape", 129, "person", 5), ("SundayIsAPlace$Tape", 131, "duty", 6), ("SundayIsAPlace$Tape", 133, "at", 7), ("SundayIsAPlace$Tape", 135, "purse", 8), ("SundayIsAPlaceModel", 230, "fare", 0), ("SundayIsAPlaceModel", 239, "hours", 1), ("SundayIsAPlaceModel", 240, "pay", 2), ("SundayIsAPlaceModel", 241, "back", 3), ("SundayIsAPlaceModel", 243, "pass", 4), ("SundayIsAPlaceModel", 248, "person", 5), ("SundayIsAPlaceModel", 253, "duty", 6), ("SundayIsAPlaceModel", 258, "at", 7), ("SundayIsAPlaceModel", 259, "purse", 8)]
def am_len : List Nat := [4, 5, 3, 4, 4, 6, 4, 2, 5]
def am_byt : List (List Int32) := [[102, 97, 114, 101], [104, 111, 117, 114, 115], [112, 97, 121], [98, 97, 99, 107], [112, 97, 115, 115], [112, 101, 114, 115, 111, 110], [100, 117, 116, 121], [97, 116], [112, 117, 114, 115, 101]]
/-- which groups are made ahead of which -/
def am_ups : List (Nat × Nat) := [(0, 1), (0, 2), (0, 10), (0, 11), (0, 12), (0, 13), (0, 14), (0, 15), (11, 3)]
/-- the classes of rows of rows can be made: a word that isn't carried by itself -/
def am_Oy (ty : FieldType) (U : State) : Prop := (Cond.arrayOver (.array ty)).before #[] U = true
theorem am_Oy.moved {ty : FieldType} {u U : State} (hvm : u.vm.Alike U.vm) (h : am_Oy ty u) : am_Oy ty U := by
  unfold am_Oy Cond.before at *
  exact Jvm.Stand.arrayOver_alikeB hvm h
def am_O (U : State) : Prop := ∀ ty ∈ [FieldType.int, .long, .boolean], am_Oy ty U
theorem am_O.moved {u U : State} (hvm : u.vm.Alike U.vm) (h : am_O u) : am_O U := fun ty ht => (h ty ht).moved hvm
/-- what doesn't hang on the heap: classes, nest mates, groups made together -/
def am_U (G : am_G) (U : State) : Prop :=
  va_K G.1 vwCl (am_tys G) U ∧ (∀ q ∈ am_nst, va_Nw (.methodLinkNest q.1 q.2.1 q.2.2.1 q.2.2.2) U) ∧ (∀ q ∈ am_ups, G.2.2.2 q.1 = true → G.2.2.2 q.2 = true) ∧ (G.2.2.2 16 = true ∧ G.2.2.2 17 = true ∧ am_O U) ∧ ∀ q ∈ am_str, vk_R q.1 q.2.1 q.2.2.1 (am_ad G 17 36 q.2.2.2) U
/-- the address from which on all is the law's own (kept at a place of the map that is no cell) -/
def am_zf (G : am_G) : Nat → Prop := fun q => am_ad G 16 99 0 ≤ q
/-- what hangs on it beside the groups' cells: the rows written out in the class -/
def am_C (G : am_G) (U : State) (H : Heap) : Prop :=
  (va_Z "SundayIsAPlace" "ABOVE" "[I" (.ref (am_ad G 16 34 0)) (am_zf G) U H ∧ va_Z "SundayIsAPlace$Tape" "SHAPES" "[I" (.ref (am_ad G 16 35 0)) (am_zf G) U H ∧ ∀ k, 34 ≤ k → k ≤ 35 → va_T .int (am_ad G 16 k 0) (am_kd k).2.1 (fun j => .int ((am_stt.getD (k - 34) []).getD j 0)) (am_zf G) U H) ∧
  vk_S 9 am_len am_byt (fun i => am_ad G 17 36 i) (fun i => am_ad G 17 37 i) (am_zf G) U H ∧ va_Z "java/lang/String" "COMPACT_STRINGS" "Z" (.int 1) (am_zf G) U H ∧ va_Zq "jdk/internal/util/Preconditions" "SIOOBE_FORMATTER" "Ljava/util/function/BiFunction;" (am_zf G) U H ∧ ∀ q, am_fr G q → am_zf G q
def am_W (G : am_G) (s : am_S) (U : State) (H : Heap) : Prop :=
  (∀ o k i, am_lv G o k i → am_at G s o k i H) ∧
  ((∀ o k i o' k' i', am_lv G o k i → am_lv G o' k' i' → o' < 16 → am_ad G o k i = am_ad G o' k' i' → o = o' ∧ k = k' ∧ i = i') ∧ ∀ o k i, am_lv G o k i → am_ad G o k i < H.size) ∧
  ((∀ o, G.2.2.2 o = true → am_ok o 40 = true → (s.1 o 40 0 26 ≠ 0 → G.2.2.2 6 = true) ∧ (s.1 o 40 0 27 ≠ 0 → G.2.2.2 7 = true)) ∧ (G.2.2.2 6 = true → s.1 99 40 0 26 ≠ 0) ∧ (G.2.2.2 7 = true → s.1 99 40 0 27 ≠ 0)) ∧
  am_C G U H
theorem am_U.warm {G : am_G} {s U : State} (hW : s.WarmedH U.vm) (h : am_U G s) : am_U G U :=
  ⟨va_K.moved hW.alike h.1, fun q hq => va_Nw.warmM hW (h.2.1 q hq), h.2.2.1, ⟨h.2.2.2.1.1, h.2.2.2.1.2.1, h.2.2.2.1.2.2.moved hW.alike⟩, fun q hq => vk_R.warm hW (h.2.2.2.2 q hq)⟩
theorem am_U.same {G : am_G} {u U : State} (hv : u.vm = U.vm) (h : am_U G u) : am_U G U :=
  ⟨va_K.moved (by rw [hv]; exact Vm.Alike.refl _) h.1, fun q hq => va_Nw.same rfl hv (h.2.1 q hq), h.2.2.1, ⟨h.2.2.2.1.1, h.2.2.2.1.2.1, h.2.2.2.1.2.2.moved (by rw [hv]; exact Vm.Alike.refl _)⟩, fun q hq => vk_R.same hv.symm (h.2.2.2.2 q hq)⟩
theorem am_C.alike {G : am_G} {u U : State} {H : Heap} (hvm : u.vm.Alike U.vm) (h : am_C G u H) : am_C G U H := ⟨⟨va_Z.moved hvm h.1.1, va_Z.moved hvm h.1.2.1, fun k h1 h2 => va_T.moved hvm (h.1.2.2 k h1 h2)⟩, vk_S.moved hvm h.2.1, va_Z.moved hvm h.2.2.1, va_Zq.moved hvm h.2.2.2.1, h.2.2.2.2⟩
theorem am_W.alike {G : am_G} {s : am_S} {u U : State} {H : Heap} (hvm : u.vm.Alike U.vm) (h : am_W G s u H) : am_W G s U H := ⟨h.1, h.2.1, h.2.2.1, h.2.2.2.alike hvm⟩
theorem am_at.kept {G : am_G} {s : am_S} {o k i : Nat} {H H1 : Heap} (h : am_at G s o k i H) (hq : H1[am_ad G o k i]? = H[am_ad G o k i]?) : am_at G s o k i H1 := by
  unfold am_at at h ⊢
  split at h <;> first | exact t_OB.kept h hq | exact hq.trans h | trivial
/-- other values at cells that this one isn't -/
theorem am_at.other {G : am_G} {s : am_S} {o k i o' k' i' j' : Nat} {x : Int32} {H : Heap} (h : am_at G s o k i H) (hne : ¬ (o = o' ∧ k = k' ∧ i = i')) (h0 : (am_kd k).1 = 0 → i = 0) : am_at G (am_u s o' k' i' j' x) o k i H := by
  have key : ∀ j, (am_u s o' k' i' j' x).1 o k i j = s.1 o k i j := fun j => if_neg fun q => hne ⟨q.2.2.2, q.1, q.2.2.1⟩
  unfold am_at at h ⊢
  split at h
  · rename_i e
    refine t_OB.to h fun f _ => ?_
    have hi : i = 0 := h0 (by rw [e])
    subst hi
    unfold am_fv
    split <;> simp only [key]
  · simp only [key]; exact h
  · exact h
  · simp only [key]; exact h
  · exact h
  · exact h
  · exact h
  · trivial
theorem am_at.otherL {G : am_G} {s : am_S} {o k i o' k' i' j' : Nat} {x : Int64} {H : Heap} (h : am_at G s o k i H) (hne : ¬ (o = o' ∧ k = k' ∧ i = i')) : am_at G (am_ul s o' k' i' j' x) o k i H := by
  have key : ∀ j, (am_ul s o' k' i' j' x).2 o k i j = s.2 o k i j := fun j => if_neg fun q => hne ⟨q.2.2.2, q.1, q.2.2.1⟩
  unfold am_at at h ⊢
  split at h
  · exact h
  · exact h
  · simp only [key]; exact h
  · exact h
  · exact h
  · exact h
  · exact h
  · trivial
/-- a check of the tables: what a made cell speaks of is a cell -/
def am_chk : Bool := (List.range 19).all fun o => (List.range 77).all fun k => !am_ok o k ||
  ((List.range 48).all (fun f => match am_fd k f with
    | (1, x, _) => am_ok o x && decide (0 < (am_kd x).2.2.1)
    | (2, x, y) => am_ok x y && decide (0 < (am_kd y).2.2.1) && am_ups.contains (o, x)
    | (0, _, _) => true
    | (5, _, _) => true
    | (3, x, y) => am_ok x y && decide (0 < (am_kd y).2.2.1) && y == 40 && (x == 6 && f == 26 || x == 7 && f == 27) && k == 40
    | _ => true) &&
   (match am_kd k with
    | (0, n, c, _) => c == 1 && decide (n ≤ 48) && decide (o < 16)
    | (4, n, _, x) => am_ok o x && (n == (am_kd x).2.2.1)
    | (5, n, _, x) => am_ok o x && (n == (am_kd x).2.2.1)
    | (6, n, _, x) => am_ok o x && (n == (am_kd x).2.2.1)
    | _ => true))
set_option maxRecDepth 100000 in
theorem am_chk_ok : am_chk = true := by decide +kernel
theorem am_ok_lt {o k : Nat} (h : am_ok o k = true) : o < 19 ∧ k < 77 := by
  have h1 : o < 19 := by
    rcases Nat.lt_or_ge o 19 with q | q
    · exact q
    · exfalso
      unfold am_ok at h
      rw [List.getD_eq_getElem?_getD, List.getElem?_eq_none (by show am_okl.length ≤ o; exact q)] at h
      cases h
  refine ⟨h1, ?_⟩
  have h2 : ∀ o, o < 19 → ∀ k ∈ am_okl.getD o [], k < 77 := by decide +kernel
  exact h2 o h1 k (List.contains_iff_mem.mp h)
theorem am_chk_at {o k : Nat} (h : am_ok o k = true) : ((List.range 48).all (fun f => match am_fd k f with
    | (1, x, _) => am_ok o x && decide (0 < (am_kd x).2.2.1)
    | (2, x, y) => am_ok x y && decide (0 < (am_kd y).2.2.1) && am_ups.contains (o, x)
    | (0, _, _) => true
    | (5, _, _) => true
    | (3, x, y) => am_ok x y && decide (0 < (am_kd y).2.2.1) && y == 40 && (x == 6 && f == 26 || x == 7 && f == 27) && k == 40
    | _ => true) &&
   (match am_kd k with
    | (0, n, c, _) => c == 1 && decide (n ≤ 48) && decide (o < 16)
    | (4, n, _, x) => am_ok o x && (n == (am_kd x).2.2.1)
    | (5, n, _, x) => am_ok o x && (n == (am_kd x).2.2.1)
    | (6, n, _, x) => am_ok o x && (n == (am_kd x).2.2.1)
    | _ => true)) = true := by
  obtain ⟨h1, h2⟩ := am_ok_lt h
  have hc := am_chk_ok
  unfold am_chk at hc
  have := List.all_eq_true.mp (List.all_eq_true.mp hc o (List.mem_range.mpr h1)) k (List.mem_range.mpr h2)
  rw [h] at this
  exact this
theorem am_obj0 {G : am_G} {o k i : Nat} (h : am_lv G o k i) : (am_kd k).1 = 0 → i = 0 := by
  intro e
  have h1 := am_chk_at h.2.1
  rw [Bool.and_eq_true] at h1
  have h2 := h1.2
  have h3 := h.2.2
  generalize am_kd k = z at e h2 h3
  obtain ⟨t, n, c, x⟩ := z
  subst e
  simp only [Bool.and_eq_true, beq_iff_eq] at h2
  rw [h2.1.1] at h3
  exact Nat.lt_one_iff.mp h3
