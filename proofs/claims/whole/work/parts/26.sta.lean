/-! ===== the start: what the Statement gives ===== -/
def st_gv : List Cond := flatC (Jvm.Cond.and given_1 narrow_1)
def st_ix : List Nat := [119, 121, 123, 125, 127, 129, 131, 133, 135]
def st_jx : List Nat := [230, 239, 240, 241, 243, 248, 253, 258, 259]
def st_tm (i : Nat) : Term := .string "SundayIsAPlace$Tape" (st_ix.getD i 0)
def st_um (i : Nat) : Term := .string "SundayIsAPlaceModel" (st_jx.getD i 0)
set_option maxRecDepth 100000 in
theorem st_g1 : ∀ i, i < 9 → Cond.exactly (st_tm i) "java/lang/String" ∈ st_gv := by decide +kernel
set_option maxRecDepth 100000 in
theorem st_g2 : ∀ i, i < 9 → Cond.eq (.field (st_tm i) "java/lang/String" "coder" "B") (.int 0) ∈ st_gv := by decide +kernel
set_option maxRecDepth 100000 in
theorem st_g3 : ∀ i, i < 9 → Cond.arrayOf (.field (st_tm i) "java/lang/String" "value" "[B") .byte ∈ st_gv := by decide +kernel
set_option maxRecDepth 100000 in
theorem st_g4 : ∀ i, i < 9 → Cond.eq (.length (.field (st_tm i) "java/lang/String" "value" "[B")) (.int (Int32.ofNat (am_len.getD i 0))) ∈ st_gv := by decide +kernel
set_option maxRecDepth 100000 in
theorem st_g5 : ∀ i, i < 9 → ∀ j, j < am_len.getD i 0 → Cond.eq (.elem (.field (st_tm i) "java/lang/String" "value" "[B") (.int (Int32.ofNat j))) (.int ((am_byt.getD i []).getD j 0)) ∈ st_gv := by decide +kernel
set_option maxRecDepth 100000 in
theorem st_g6 : ∀ i, i < 9 → ∀ j, j < 9 → i < j → Cond.not (Cond.eq (st_tm i) (st_tm j)) ∈ st_gv := by decide +kernel
set_option maxRecDepth 100000 in
theorem st_g7 : ∀ i, i < 9 → Cond.eq (st_tm i) (st_um i) ∈ st_gv := by decide +kernel
def st_ab : Term := .static "SundayIsAPlace" "ABOVE" "[I"
def st_sh : Term := .static "SundayIsAPlace$Tape" "SHAPES" "[I"
set_option maxRecDepth 100000 in
theorem st_g8 : Cond.arrayOf st_ab .int ∈ st_gv ∧ Cond.eq (.length st_ab) (.int (Int32.ofNat 6)) ∈ st_gv ∧ Cond.arrayOf st_sh .int ∈ st_gv ∧ Cond.eq (.length st_sh) (.int (Int32.ofNat 36)) ∈ st_gv ∧ Cond.eq (.static "java/lang/String" "COMPACT_STRINGS" "Z") (.int 1) ∈ st_gv ∧ Cond.isRef (.static "jdk/internal/util/Preconditions" "SIOOBE_FORMATTER" "Ljava/util/function/BiFunction;") ∈ st_gv := by decide +kernel
set_option maxRecDepth 100000 in
theorem st_g9 : ∀ j, j < 6 → Cond.eq (.elem st_ab (.int (Int32.ofNat j))) (.int ((am_stt.getD 0 []).getD j 0)) ∈ st_gv := by decide +kernel
set_option maxRecDepth 100000 in
theorem st_g10 : ∀ j, j < 36 → Cond.eq (.elem st_sh (.int (Int32.ofNat j))) (.int ((am_stt.getD 1 []).getD j 0)) ∈ st_gv := by decide +kernel
set_option maxRecDepth 100000 in
theorem st_w1 : ∀ k ∈ [(405, Cond.laysStatic "SundayIsAPlace" "ABOVE" "[I"), (597, Cond.laysStatic "SundayIsAPlace$Tape" "SHAPES" "[I"), (553, Cond.laysStatic "java/lang/String" "COMPACT_STRINGS" "Z"), (569, Cond.laysStatic "jdk/internal/util/Preconditions" "SIOOBE_FORMATTER" "Ljava/util/function/BiFunction;")], lw_tbl[k.1]? = some k.2 := by decide +kernel
set_option maxRecDepth 100000 in
theorem st_w2 : ∀ q ∈ am_nst, Cond.methodLinkNest q.1 q.2.1 q.2.2.1 q.2.2.2 ∈ lw_tbl := by decide +kernel
set_option maxRecDepth 100000 in
theorem st_w3 : ∀ q ∈ am_str, Cond.stringRef q.1 q.2.1 q.2.2.1 ∈ lw_tbl := by decide +kernel
set_option maxRecDepth 100000 in
theorem st_w4 : Cond.arrayOver (.array .int) ∈ lw_tbl ∧ Cond.arrayOver (.array .long) ∈ lw_tbl ∧ Cond.arrayOver (.array .boolean) ∈ lw_tbl ∧ Cond.arrayClass .int ∈ lw_tbl ∧ Cond.arrayClass .long ∈ lw_tbl ∧ Cond.arrayClass .boolean ∈ lw_tbl := by decide +kernel
set_option maxRecDepth 100000 in
theorem st_w5 : ∀ C ∈ ["SundayIsAPlace", "SundayIsAPlace$Tape", "java/lang/String", "jdk/internal/util/Preconditions"], Cond.initialized C ∈ lw_tbl := by decide +kernel
def st_nn : List Nat := [8, 2, 3, 1, 7, 5, 3, 10, 48]
set_option maxRecDepth 100000 in
theorem st_w6 : vwCl.length = 9 ∧ ∀ k, k < 9 → Cond.instantiable (vwCl.getD k (RX0, TX0, 8)).1 ((vwCl.getD k (RX0, TX0, 8)).2.2) ∈ lw_tbl := by decide +kernel
section STA
variable {s : State} {b : Nat}
theorem st_tb (hts : ∀ w ∈ lw_tbl, w.before #[Value.ref b] s = true) : ∀ w ∈ am_tb, w.before #[Value.ref b] s = true := fun w h => hts w (List.mem_filter.mp h).1
theorem st_tys (hts : ∀ w ∈ lw_tbl, w.before #[Value.ref b] s = true) : ∃ tt : Nat → ClassId, ∀ (k : Nat) (q : ClassId × FieldType), ([(tt 0, .int), (tt 1, .long), (tt 2, .boolean), (tt 3, .array .int), (tt 4, .array .long), (tt 5, .array .boolean)] : List (ClassId × FieldType))[k]? = some q → ArrOfT s q.1 q.2 ∧ va_RA s q.1 q.2 := by
  obtain ⟨w1, w2, w3, w4, w5, w6⟩ := st_w4
  have h1 : ∀ ty : FieldType, Cond.arrayClass ty ∈ lw_tbl → ∃ c, (∀ (n : Nat) (z : Nat → Value), s.isArrayOf (arrV c n z) ty) ∧ s.vm.findClass ("[" ++ ty.toString) = some c := fun ty hw => by
    obtain ⟨c, k, comp, e1, e2, e3⟩ := Cond.arrayClass_spec (hts _ hw)
    exact ⟨c, fun n z => ⟨fun k h => (by cases h), k, e2, comp, e3⟩, e1⟩
  have h2 : ∀ ty : FieldType, Cond.arrayOver (.array ty) ∈ lw_tbl → ∃ c, (∀ (n : Nat) (z : Nat → Value), s.isArrayOf (arrV c n z) (.array ty)) ∧ s.vm.findClass ("[" ++ (FieldType.array ty).toString) = some c := fun ty hw => by
    obtain ⟨comp, c, k, e0, e1, e2, e3, e4⟩ := arrayOverA_spec (hts _ hw)
    exact ⟨c, fun n z => ⟨fun k h => (by cases h), k, e2, comp, e3⟩, e4⟩
  obtain ⟨c0, a0, b0⟩ := h1 _ w4
  obtain ⟨c1, a1, b1⟩ := h1 _ w5
  obtain ⟨c2, a2, b2⟩ := h1 _ w6
  obtain ⟨c3, a3, b3⟩ := h2 _ w1
  obtain ⟨c4, a4, b4⟩ := h2 _ w2
  obtain ⟨c5, a5, b5⟩ := h2 _ w3
  refine ⟨fun k => match k with | 0 => c0 | 1 => c1 | 2 => c2 | 3 => c3 | 4 => c4 | _ => c5, ?_⟩
  intro k q hq
  match k, hq with
  | 0, hq => cases hq; exact ⟨a0, b0⟩
  | 1, hq => cases hq; exact ⟨a1, b1⟩
  | 2, hq => cases hq; exact ⟨a2, b2⟩
  | 3, hq => cases hq; exact ⟨a3, b3⟩
  | 4, hq => cases hq; exact ⟨a4, b4⟩
  | 5, hq => cases hq; exact ⟨a5, b5⟩
  | k + 6, hq => simp at hq
theorem st_cls (hts : ∀ w ∈ lw_tbl, w.before #[Value.ref b] s = true) : ∃ D : va_G, ∀ (k : Nat) (q : vw_C), vwCl[k]? = some q → u_Kn s q.1 q.2.1 q.2.2 (D.1 k) (D.2 k) := by
  have h : ∀ k, ∃ z : ClassId × (Nat → Nat), k < 9 → u_Kn s (vwCl.getD k (RX0, TX0, 8)).1 (vwCl.getD k (RX0, TX0, 8)).2.1 (vwCl.getD k (RX0, TX0, 8)).2.2 z.1 z.2 := by
    intro k
    by_cases hk : k < 9
    · obtain ⟨c, i, hz⟩ := u_known (ws := am_tb) (st_tb hts) (fun w hw => am_lays k hk w hw) (hts _ (st_w6.2 k hk))
      exact ⟨(c, i), fun _ => hz⟩
    · exact ⟨(0, fun _ => 0), fun z => absurd z hk⟩
  refine ⟨(fun k => (Classical.choose (h k)).1, fun k => (Classical.choose (h k)).2), fun k q hq => ?_⟩
  have hk : k < 9 := by
    have := (List.getElem?_eq_some_iff.mp hq).1
    rw [st_w6.1] at this
    exact this
  have h2 := Classical.choose_spec (h k) hk
  have e : vwCl.getD k (RX0, TX0, 8) = q := by rw [List.getD_eq_getElem?_getD, hq]; rfl
  subst e
  exact h2
theorem st_hA : ∀ a : Nat, a < s.heap.size → ¬ (fun q : Nat => s.heap.size ≤ q) a := fun a h => Nat.not_le.mpr h
theorem st_strs (hgv : (Jvm.Cond.and given_1 narrow_1).before #[Value.ref b] s = true) (hts : ∀ w ∈ lw_tbl, w.before #[Value.ref b] s = true) : ∃ adK adV : Nat → Nat, vk_S 9 am_len am_byt adK adV (fun q : Nat => s.heap.size ≤ q) s s.heap ∧ ∀ q ∈ am_str, vk_R q.1 q.2.1 q.2.2.1 (adK q.2.2.2) s := by
  have hs := flat_of_before _ hgv
  have hl : ∀ i, i < 9 → am_len.getD i 0 < 2 ^ 31 := by decide
  obtain ⟨adK, adV, h1, h2⟩ := vk_Sof (N := 9) (tm := st_tm) (len := am_len) (byt := am_byt) (A := fun q : Nat => s.heap.size ≤ q) hl (fun i hi => hs _ (st_g1 i hi)) (fun i hi => hs _ (st_g2 i hi)) (fun i hi => hs _ (st_g3 i hi)) (fun i hi => hs _ (st_g4 i hi)) (fun i hi j hj => hs _ (st_g5 i hi j hj)) (fun i j hi hj hne => by
    rcases Nat.lt_or_ge i j with q | q
    · exact Or.inl (hs _ (st_g6 i hi j hj q))
    · exact Or.inr (hs _ (st_g6 j hj i hi (by omega)))) st_hA
  have h3 : ∀ i, i < 9 → (st_um i).eval #[Value.ref b] s none [] s = some (.ref (adK i)) := fun i hi => by
    obtain ⟨y, e1, e2⟩ := Cond.eq_one (hs _ (st_g7 i hi))
    rw [h2 i hi] at e1
    rw [e2, ← e1]
  refine ⟨adK, adV, h1, fun q hq => ?_⟩
  have hr : ∀ q ∈ am_str, q.2.2.2 < 9 ∧ ((Term.string q.1 q.2.1) = st_tm q.2.2.2 ∨ (Term.string q.1 q.2.1) = st_um q.2.2.2) := by decide +kernel
  obtain ⟨e1, e2⟩ := hr q hq
  refine vk_R.of (hts _ (st_w3 q hq)) ?_
  rcases e2 with e2 | e2
  · rw [e2]; exact h2 _ e1
  · rw [e2]; exact h3 _ e1
end STA
/-- the contents at the start: nothing -/
def st_s0 : am_S := (fun _ _ _ _ => 0, fun _ _ _ _ => 0)
/-- the world at the law's entry: the rows written out, the texts, the script -/
theorem st_world {s : State} {b L : Nat} {xs : Nat → Int32} (hgv : (Jvm.Cond.and given_1 narrow_1).before #[Value.ref b] s = true) (hts : ∀ w ∈ lw_tbl, w.before #[Value.ref b] s = true) (hbl : b < s.heap.size) :
    ∃ G : am_G, am_U G s ∧ am_W G st_s0 s s.heap ∧ am_ad G 18 38 0 = b ∧ G.2.2.2 18 = true ∧ (∀ o, G.2.2.2 o = true → 16 ≤ o) ∧ am_ad G 16 99 0 = s.heap.size ∧ ∀ q, am_fr G q → s.heap.size ≤ q := by
  have hs := flat_of_before _ hgv
  obtain ⟨tt, ht⟩ := st_tys hts
  obtain ⟨D, hD⟩ := st_cls hts
  obtain ⟨adK, adV, hS, hR⟩ := st_strs hgv hts
  obtain ⟨g1, g2, g3, g4, g5, g6⟩ := st_g8
  obtain ⟨ta, ea, hTa⟩ := va_Tof (N := 6) (f := fun j => .int ((am_stt.getD 0 []).getD j 0)) (A := fun q : Nat => s.heap.size ≤ q) (by decide) (hs _ g1) (va_eqt (hs _ g2)) (fun j hj => va_eqt (hs _ (st_g9 j hj))) st_hA
  obtain ⟨tz, ez, hTz⟩ := va_Tof (N := 36) (f := fun j => .int ((am_stt.getD 1 []).getD j 0)) (A := fun q : Nat => s.heap.size ≤ q) (by decide) (hs _ g3) (va_eqt (hs _ g4)) (fun j hj => va_eqt (hs _ (st_g10 j hj))) st_hA
  have hw : ∀ k w, (k, w) ∈ [(405, Cond.laysStatic "SundayIsAPlace" "ABOVE" "[I"), (597, Cond.laysStatic "SundayIsAPlace$Tape" "SHAPES" "[I"), (553, Cond.laysStatic "java/lang/String" "COMPACT_STRINGS" "Z"), (569, Cond.laysStatic "jdk/internal/util/Preconditions" "SIOOBE_FORMATTER" "Ljava/util/function/BiFunction;")] → w.before #[Value.ref b] s = true := fun k w h => hts _ (List.mem_of_getElem? (st_w1 (k, w) h))
  have z1 := va_Zof (A := fun q : Nat => s.heap.size ≤ q) (hw 405 _ (by simp)) (hts _ (st_w5 _ (by simp))) ea st_hA
  have z2 := va_Zof (A := fun q : Nat => s.heap.size ≤ q) (hw 597 _ (by simp)) (hts _ (st_w5 _ (by simp))) ez st_hA
  have z3 := va_Zof (A := fun q : Nat => s.heap.size ≤ q) (hw 553 _ (by simp)) (hts _ (st_w5 _ (by simp))) (va_eqt (hs _ g5)) st_hA
  have z4 : va_Zq "jdk/internal/util/Preconditions" "SIOOBE_FORMATTER" "Ljava/util/function/BiFunction;" (fun q : Nat => s.heap.size ≤ q) s s.heap := by
    obtain ⟨v, e1, e2⟩ := Cond.isRef_spec (hs _ g6)
    have z := fun w (h : v = w) => va_Zof (A := fun q : Nat => s.heap.size ≤ q) (hw 569 _ (by simp)) (hts _ (st_w5 _ (by simp))) (e1.trans (congrArg some h)) st_hA
    cases v with
    | null => exact Or.inl (z _ rfl)
    | ref t => exact Or.inr ⟨t, z _ rfl⟩
    | _ => cases e2
  have hsz : ∀ (ty : FieldType) (t N : Nat) (f : Nat → Value), va_T ty t N f (fun q : Nat => s.heap.size ≤ q) s s.heap → t < s.heap.size := fun ty t N f h => by
    obtain ⟨cell, h1, -⟩ := h
    exact (Array.getElem?_eq_some_iff.mp h1).1
  have hsK : ∀ i, i < 9 → adK i < s.heap.size ∧ adV i < s.heap.size := fun i hi => by
    obtain ⟨⟨cell, h1, -⟩, -, -, h4⟩ := hS.1 i hi
    exact ⟨(Array.getElem?_eq_some_iff.mp h1).1, hsz _ _ _ _ h4⟩
  obtain ⟨G, hG⟩ : ∃ G : am_G, G = (D, tt, (fun o k i => if o = 16 then (if k = 34 then ta else if k = 35 then tz else s.heap.size) else if o = 17 then (if k = 36 then adK i else adV i) else b), fun o => o == 16 || (o == 17 || o == 18)) := ⟨_, rfl⟩
  have zf : am_zf G = fun q : Nat => s.heap.size ≤ q := by rw [hG]; rfl
  have hlive : ∀ o, G.2.2.2 o = true → o = 16 ∨ o = 17 ∨ o = 18 := fun o h => by rw [hG] at h; simpa using h
  have a34 : am_ad G 16 34 0 = ta := by rw [hG]; rfl
  have a35 : am_ad G 16 35 0 = tz := by rw [hG]; rfl
  have a36 : (fun i => am_ad G 17 36 i) = adK := by rw [hG]; rfl
  have a37 : (fun i => am_ad G 17 37 i) = adV := by rw [hG]; rfl
  have l16 : G.2.2.2 16 = true := by rw [hG]; rfl
  have l17 : G.2.2.2 17 = true := by rw [hG]; rfl
  have h40 : ∀ o, o < 19 → 16 ≤ o → am_ok o 40 = false := by decide +kernel
  have hkinds : ∀ o, o < 19 → 16 ≤ o → ∀ k, k < 77 → (!am_ok o k || (Nat.ble 7 (am_kd k).1 && (o == 16 && (k == 34 || k == 35) || o == 17 && (k == 36 || k == 37) || o == 18 && k == 38))) = true := by decide +kernel
  have hk2 : ∀ o k i, am_lv G o k i → 7 ≤ (am_kd k).1 ∧ (o = 16 ∧ (k = 34 ∨ k = 35) ∨ o = 17 ∧ (k = 36 ∨ k = 37) ∨ o = 18 ∧ k = 38) ∧ 16 ≤ o := fun o k i hl => by
    have h16 : 16 ≤ o := by rcases hlive o hl.1 with rfl | rfl | rfl <;> decide
    have h := hkinds o (am_ok_lt hl.2.1).1 h16 k (am_ok_lt hl.2.1).2
    rw [hl.2.1] at h
    simp only [Bool.not_true, Bool.false_or, Bool.and_eq_true, Bool.or_eq_true, beq_iff_eq] at h
    refine ⟨Nat.le_of_ble_eq_true h.1, ?_, h16⟩
    rcases h.2 with (h | h) | h
    · exact Or.inl h
    · exact Or.inr (Or.inl h)
    · exact Or.inr (Or.inr h)
  have hcnt : (am_kd 34).2.2.1 = 1 ∧ (am_kd 35).2.2.1 = 1 ∧ (am_kd 36).2.2.1 = 9 ∧ (am_kd 37).2.2.1 = 9 ∧ (am_kd 34).2.1 = 6 ∧ (am_kd 35).2.1 = 36 := by decide +kernel
  refine ⟨G, ⟨⟨?_, ?_⟩, fun q hq => va_Nw.of rfl (hts _ (st_w2 q hq)), fun q hq h1 => ?_, ⟨l16, l17, fun ty hty => ?_⟩, fun q hq => ?_⟩, ⟨fun o k i hl => ?_, ⟨fun o k i o' k' i' hl hl' h16 _ => ?_, fun o k i hl => ?_⟩, ⟨fun o h1 h2 => ?_, fun h1 => ?_, fun h1 => ?_⟩, ?_⟩, ?_, ?_, fun o h => ?_, ?_, ?_⟩
  · rw [hG]; exact hD
  · rw [hG]; exact ht
  · have hu : ∀ q ∈ am_ups, q.1 < 16 := by decide
    have := hu q hq
    rcases hlive _ h1 with e | e | e <;> omega
  · obtain ⟨w1, w2, w3, -⟩ := st_w4
    simp only [List.mem_cons, List.not_mem_nil, or_false] at hty
    rcases hty with rfl | rfl | rfl
    · exact hts _ w1
    · exact hts _ w2
    · exact hts _ w3
  · have := hR q hq
    rw [← a36] at this
    exact this
  · have h7 := (hk2 o k i hl).1
    unfold am_at
    generalize am_kd k = z at h7
    obtain ⟨t, n, c, x⟩ := z
    have h7 : 7 ≤ t := h7
    match t, h7 with
    | t + 7, _ => trivial
  · have := (hk2 o' k' i' hl').2.2
    omega
  · have h3 := hl.2.2
    rcases (hk2 o k i hl).2.1 with ⟨rfl, rfl | rfl⟩ | ⟨rfl, rfl | rfl⟩ | ⟨rfl, rfl⟩
    · rw [hcnt.1] at h3
      obtain rfl : i = 0 := by omega
      rw [a34]; exact hsz _ _ _ _ hTa
    · rw [hcnt.2.1] at h3
      obtain rfl : i = 0 := by omega
      rw [a35]; exact hsz _ _ _ _ hTz
    · rw [hcnt.2.2.1] at h3
      rw [show am_ad G 17 36 i = adK i from congrFun a36 i]
      exact (hsK i h3).1
    · rw [hcnt.2.2.2.1] at h3
      rw [show am_ad G 17 37 i = adV i from congrFun a37 i]
      exact (hsK i h3).2
    · rw [hG]; exact hbl
  · have h16 : 16 ≤ o := by rcases hlive o h1 with rfl | rfl | rfl <;> decide
    rw [h40 o (am_ok_lt h2).1 h16] at h2
    cases h2
  · rcases hlive _ h1 with e | e | e <;> omega
  · rcases hlive _ h1 with e | e | e <;> omega
  · unfold am_C
    rw [zf, a34, a35, a36, a37]
    refine ⟨⟨z1, z2, fun k k1 k2 => ?_⟩, hS, z3, z4, ?_⟩
    · rcases (show k = 34 ∨ k = 35 by omega) with rfl | rfl
      · rw [a34, hcnt.2.2.2.2.1]; exact hTa
      · rw [a35, hcnt.2.2.2.2.2]; exact hTz
    · rintro q ⟨o, k, i, hl, h16, -⟩
      have := (hk2 o k i hl).2.2
      omega
  · rw [hG]; rfl
  · rw [hG]; rfl
  · rcases hlive o h with rfl | rfl | rfl <;> decide
  · rw [hG]; rfl
  · rintro q ⟨o, k, i, hl, h16, -⟩
    have := (hk2 o k i hl).2.2
    omega
