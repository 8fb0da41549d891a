/-! ===== one instruction ===== -/
def am_cl (k : Nat) : vw_C := vwCl.getD (am_kd k).2.2.2 (RX0, TX0, 8)
def am_pok (own : String) (P : am_P) : Bool :=
  (P.1.all fun q => decide (Cond.fieldLink own q.1 (am_cl q.2.1).1 ((am_cl q.2.1).2.1 q.2.2).2.1 ((am_cl q.2.1).2.1 q.2.2).2.2.1 ∈ am_tb)) &&
  (P.2.1.all fun q => q.2.1 == 16 && (q.2.2 == 34 && decide (Cond.fieldLink own q.1 "SundayIsAPlace" "ABOVE" "[I" ∈ am_tb) || q.2.2 == 35 && decide (Cond.fieldLink own q.1 "SundayIsAPlace$Tape" "SHAPES" "[I" ∈ am_tb)) ||
    q.2.1 == 17 && (q.2.2 == 0 && decide (Cond.fieldLink own q.1 "java/lang/String" "coder" "B" ∈ am_tb) || q.2.2 == 1 && decide (Cond.fieldLink own q.1 "java/lang/String" "value" "[B" ∈ am_tb) || q.2.2 == 2 && decide (Cond.fieldLink own q.1 "java/lang/String" "COMPACT_STRINGS" "Z" ∈ am_tb)) ||
    q.2.1 == 18 && am_str.any (fun z => z.1 == own && z.2.1 == q.1 && z.2.2.2 == q.2.2)) &&
  (P.2.2.1.all fun q => decide (Cond.constant own q.1 q.2 ∈ am_tb)) && (P.2.2.2.all fun q => decide (Cond.constantLong own q.1 q.2 ∈ am_tb))
/-- what holds all through a method -/
def am_X (p : Program) (s : State) (m : MethodId) (args : Array Value) (c : Code) (cc : ByteArray) (own : String) (nL : Nat) (P : am_P) (G : am_G) (A : Nat → Prop) : Prop :=
  p.tables.exec = Jvm.exec ∧ c.code = cc ∧ c.maxLocals = nL ∧ s.vm.findClass own = some m.cls ∧ (∀ w ∈ am_tb, w.before args s = true) ∧ am_pok own P = true ∧ am_U G s ∧ ∀ q, am_fr G q → A q
/-- a goal at a frame of the abstract machine -/
def am_A (p : Program) (l : Launch) (e : Env) (R : Room) (s : State) (m : MethodId) (args : Array Value) (below : List Frame) (meth : Method) (c : Code) (nL : Nat) (G : am_G) (A : Nat → Prop) (kc ks : Nat) (Q : State → Prop) (fr : am_F) : Prop :=
  ∀ (H : Heap) (locs : List Loc) (ls : Array Slot), am_W G fr.2.2.2 s H → (∀ q ∈ locs, A q.base) → (s.heap.size ≤ H.size ∧ ∀ q, q < s.heap.size → ¬ A q → H[q]? = s.heap[q]?) →
    (∀ q ∈ fr.2.1, am_lV G q.2) → (∀ v ∈ fr.2.2.1, am_lV G v) → lv_has ls nL (fr.2.1.map (fun q => (q.1, am_v G q.2))) → W p l e R s m args below meth c H locs kc ks Q (F0 m fr.1 ls (fr.2.2.1.map (am_v G)))
def am_push (v : am_V) (d n : Nat) : am_F → Option (am_F × Prop)
  | (pc, ls, st, s) => bif Nat.beq n d then some ((pc + d, ls, v :: st, s), True) else none
def am_ild (i d n : Nat) : am_F → Option (am_F × Prop)
  | (pc, ls, st, s) => bif Nat.beq n d then (match am_lk ls i with
    | some (.inl x) => some ((pc + d, ls, .inl x :: st, s), True)
    | _ => none) else none
def am_lld (i d n : Nat) : am_F → Option (am_F × Prop)
  | (pc, ls, st, s) => bif Nat.beq n d then (match am_lk ls i with
    | some (.inr (.inl x)) => some ((pc + d, ls, .inr (.inl x) :: st, s), True)
    | _ => none) else none
def am_ald (i d n : Nat) : am_F → Option (am_F × Prop)
  | (pc, ls, st, s) => bif Nat.beq n d then (match am_lk ls i with
    | some (.inr (.inr (some (o, k, j)))) => some ((pc + d, ls, am_r o k j :: st, s), True)
    | _ => none) else none
def am_ist (nL i d n : Nat) : am_F → Option (am_F × Prop)
  | (pc, ls, .inl x :: st, s) => bif Nat.beq n d && Nat.ble (i + 1) nL then some ((pc + d, am_ins i (.inl x) (am_rm i ls), st, s), True) else none
  | _ => none
def am_lst (nL i d n : Nat) : am_F → Option (am_F × Prop)
  | (pc, ls, .inr (.inl x) :: st, s) => bif Nat.beq n d && Nat.ble (i + 2) nL then some ((pc + d, am_ins i (.inr (.inl x)) (am_rm2 i ls), st, s), True) else none
  | _ => none
def am_ast (nL i d n : Nat) : am_F → Option (am_F × Prop)
  | (pc, ls, .inr (.inr (some (o, k, j))) :: st, s) => bif Nat.beq n d && Nat.ble (i + 1) nL then some ((pc + d, am_ins i (am_r o k j) (am_rm i ls), st, s), True) else none
  | _ => none
def am_inc (nL i : Nat) (z : Int) (n : Nat) : am_F → Option (am_F × Prop)
  | (pc, ls, st, s) => bif Nat.beq n 3 && Nat.ble (i + 1) nL then (match am_lk ls i with
    | some (.inl x) => some ((pc + 3, am_ins i (am_i (x + Int32.ofInt z)) (am_rm i ls), st, s), True)
    | _ => none) else none
def am_b2 (f : Int32 → Int32 → Int32) (n : Nat) : am_F → Option (am_F × Prop)
  | (pc, ls, .inl y :: .inl x :: st, s) => bif Nat.beq n 1 then some ((pc + 1, ls, am_i (f x y) :: st, s), True) else none
  | _ => none
def am_bd (f : Int32 → Int32 → Int32) (n : Nat) : am_F → Option (am_F × Prop)
  | (pc, ls, .inl y :: .inl x :: st, s) => bif Nat.beq n 1 then some ((pc + 1, ls, am_i (f x y) :: st, s), ¬ y = 0) else none
  | _ => none
def am_c2 (f : Int64 → Int64 → Int64) (n : Nat) : am_F → Option (am_F × Prop)
  | (pc, ls, .inr (.inl y) :: .inr (.inl x) :: st, s) => bif Nat.beq n 1 then some ((pc + 1, ls, am_l (f x y) :: st, s), True) else none
  | _ => none
def am_b1 (f : Int32 → Int32) (n : Nat) : am_F → Option (am_F × Prop)
  | (pc, ls, .inl x :: st, s) => bif Nat.beq n 1 then some ((pc + 1, ls, am_i (f x) :: st, s), True) else none
  | _ => none
def am_i2l (n : Nat) : am_F → Option (am_F × Prop)
  | (pc, ls, .inl x :: st, s) => bif Nat.beq n 1 then some ((pc + 1, ls, am_l x.toInt64 :: st, s), True) else none
  | _ => none
def am_l2i (n : Nat) : am_F → Option (am_F × Prop)
  | (pc, ls, .inr (.inl x) :: st, s) => bif Nat.beq n 1 then some ((pc + 1, ls, am_i x.toInt32 :: st, s), True) else none
  | _ => none
def am_lcmp (n : Nat) : am_F → Option (am_F × Prop)
  | (pc, ls, .inr (.inl y) :: .inr (.inl x) :: st, s) => bif Nat.beq n 1 then some ((pc + 1, ls, am_i (lg_cmp x y) :: st, s), True) else none
  | _ => none
def am_lshl (n : Nat) : am_F → Option (am_F × Prop)
  | (pc, ls, .inl y :: .inr (.inl x) :: st, s) => bif Nat.beq n 1 then some ((pc + 1, ls, am_l (x <<< (y.toInt64 &&& 63)) :: st, s), True) else none
  | _ => none
def am_dup (n : Nat) : am_F → Option (am_F × Prop)
  | (pc, ls, v :: st, s) => bif Nat.beq n 1 && Nat.beq (am_ct v) 1 then some ((pc + 1, ls, v :: v :: st, s), True) else none
  | _ => none
def am_pop (n : Nat) : am_F → Option (am_F × Prop)
  | (pc, ls, v :: st, s) => bif Nat.beq n 1 && Nat.beq (am_ct v) 1 then some ((pc + 1, ls, st, s), True) else none
  | _ => none
def am_dupx (n : Nat) : am_F → Option (am_F × Prop)
  | (pc, ls, v :: w :: st, s) => bif Nat.beq n 1 && (Nat.beq (am_ct v) 1 && Nat.beq (am_ct w) 1) then some ((pc + 1, ls, v :: w :: v :: st, s), True) else none
  | _ => none
def am_dup2 (n : Nat) : am_F → Option (am_F × Prop)
  | (pc, ls, v :: w :: st, s) => bif Nat.beq n 1 && (Nat.beq (am_ct v) 1 && Nat.beq (am_ct w) 1) then some ((pc + 1, ls, v :: w :: v :: w :: st, s), True) else none
  | _ => none
def am_goto (off : Int) (n : Nat) : am_F → Option (am_F × Prop)
  | (pc, ls, st, s) => bif Nat.beq n 3 && decide (0 ≤ (pc : Int) + off) then some ((((pc : Int) + off).toNat, ls, st, s), True) else none
def am_get (P : am_P) (idx n : Nat) : am_F → Option (am_F × Prop)
  | (pc, ls, .inr (.inr (some (o, k, i))) :: st, s) => bif Nat.beq n 3 then (match am_lk P.1 idx with
    | some (k', f) => bif Nat.beq k k' && (Nat.beq (am_kd k).1 0 && Nat.ble (f + 1) (am_kd k).2.1) then (match am_fd k f with
      | (0, _, _) => some ((pc + 3, ls, am_i (s.1 o k 0 f) :: st, s), True)
      | (5, _, _) => some ((pc + 3, ls, am_i (s.1 o k 0 f) :: st, s), True)
      | (1, x, _) => some ((pc + 3, ls, am_r o x 0 :: st, s), True)
      | (2, x, y) => some ((pc + 3, ls, am_r x y 0 :: st, s), True)
      | _ => none) else none
    | none => none) else none
  | _ => none
def am_put (P : am_P) (idx n : Nat) : am_F → Option (am_F × Prop)
  | (pc, ls, .inl v :: .inr (.inr (some (o, k, i))) :: st, s) => bif Nat.beq n 3 then (match am_lk P.1 idx with
    | some (k', f) => bif Nat.beq k k' && (Nat.beq (am_kd k).1 0 && (Nat.ble (f + 1) (am_kd k).2.1 && !((am_cl k).2.1 f).2.2.2)) then (match am_fd k f with
      | (0, _, _) => some ((pc + 3, ls, st, am_u s o k 0 f v), True)
      | (5, _, _) => some ((pc + 3, ls, st, am_u s o k 0 f v), v = 0 ∨ v = 1)
      | _ => none) else none
    | none => none) else none
  | _ => none
def am_gets (P : am_P) (idx n : Nat) : am_F → Option (am_F × Prop)
  | (pc, ls, st, s) => bif Nat.beq n 3 then (match am_lk P.2.1 idx with
    | some (o, k) => bif Nat.beq o 16 then some ((pc + 3, ls, am_r 16 k 0 :: st, s), True) else (bif Nat.beq o 17 && Nat.beq k 2 then some ((pc + 3, ls, am_i 1 :: st, s), True) else none)
    | none => none) else none
/-- a text: its coder, its bytes -/
def am_gstr (P : am_P) (idx n : Nat) : am_F → Option (am_F × Prop)
  | (pc, ls, .inr (.inr (some (o, k, i))) :: st, s) => bif Nat.beq n 3 && Nat.beq k 36 then (match am_lk P.2.1 idx with
    | some (o', f) => bif Nat.beq o' 17 then (bif Nat.beq f 0 then some ((pc + 3, ls, am_i 0 :: st, s), True) else (bif Nat.beq f 1 then some ((pc + 3, ls, am_r 17 37 i :: st, s), True) else none)) else none
    | none => none) else none
  | _ => none
def am_lstr (P : am_P) (d idx n : Nat) : am_F → Option (am_F × Prop)
  | (pc, ls, st, s) => bif Nat.beq n d then (match am_lk P.2.1 idx with
    | some (o, i) => bif Nat.beq o 18 then some ((pc + d, ls, am_r 17 36 i :: st, s), True) else none
    | none => none) else none
def am_bstr (n : Nat) : am_F → Option (am_F × Prop)
  | (pc, ls, .inl j :: .inr (.inr (some (o, k, i))) :: st, s) => bif Nat.beq n 1 && Nat.beq k 37 then some ((pc + 1, ls, am_i ((am_byt.getD i []).getD j.toNatClampNeg 0) :: st, s), vp_in j (am_len.getD i 0)) else none
  | _ => none
def am_astr (n : Nat) : am_F → Option (am_F × Prop)
  | (pc, ls, .inr (.inr (some (o, k, i))) :: st, s) => bif Nat.beq n 1 && Nat.beq k 37 then some ((pc + 1, ls, am_i (Int32.ofNat (am_len.getD i 0)) :: st, s), True) else none
  | _ => none
def am_iald (n : Nat) : am_F → Option (am_F × Prop)
  | (pc, ls, .inl j :: .inr (.inr (some (o, k, i))) :: st, s) => bif Nat.beq n 1 && Nat.beq (am_kd k).1 1 then some ((pc + 1, ls, am_i (s.1 o k i j.toNatClampNeg) :: st, s), vp_in j (am_kd k).2.1) else none
  | _ => none
def am_ista (n : Nat) : am_F → Option (am_F × Prop)
  | (pc, ls, .inl j :: .inr (.inr (some (o, k, i))) :: st, s) => bif Nat.beq n 1 && Nat.beq (am_kd k).1 10 then some ((pc + 1, ls, am_i ((am_stt.getD (k - 34) []).getD j.toNatClampNeg 0) :: st, s), vp_in j (am_kd k).2.1) else none
  | _ => none
def am_lald (n : Nat) : am_F → Option (am_F × Prop)
  | (pc, ls, .inl j :: .inr (.inr (some (o, k, i))) :: st, s) => bif Nat.beq n 1 && Nat.beq (am_kd k).1 2 then some ((pc + 1, ls, am_l (s.2 o k i j.toNatClampNeg) :: st, s), vp_in j (am_kd k).2.1) else none
  | _ => none
def am_zald (n : Nat) : am_F → Option (am_F × Prop)
  | (pc, ls, .inl j :: .inr (.inr (some (o, k, i))) :: st, s) => bif Nat.beq n 1 && Nat.beq (am_kd k).1 3 then some ((pc + 1, ls, am_i (s.1 o k i j.toNatClampNeg) :: st, s), vp_in j (am_kd k).2.1) else none
  | _ => none
def am_aald (n : Nat) : am_F → Option (am_F × Prop)
  | (pc, ls, .inl j :: .inr (.inr (some (o, k, i))) :: st, s) => bif Nat.beq n 1 && (Nat.ble 4 (am_kd k).1 && Nat.ble (am_kd k).1 6) then some ((pc + 1, ls, am_r o (am_kd k).2.2.2 j.toNatClampNeg :: st, s), vp_in j (am_kd k).2.1) else none
  | _ => none
def am_iast (n : Nat) : am_F → Option (am_F × Prop)
  | (pc, ls, .inl x :: .inl j :: .inr (.inr (some (o, k, i))) :: st, s) => bif Nat.beq n 1 && (Nat.beq (am_kd k).1 1 && (Nat.ble (k + 1) 34 || Nat.ble 39 k)) then some ((pc + 1, ls, st, am_u s o k i j.toNatClampNeg x), vp_in j (am_kd k).2.1) else none
  | _ => none
def am_last (n : Nat) : am_F → Option (am_F × Prop)
  | (pc, ls, .inr (.inl x) :: .inl j :: .inr (.inr (some (o, k, i))) :: st, s) => bif Nat.beq n 1 && Nat.beq (am_kd k).1 2 then some ((pc + 1, ls, st, am_ul s o k i j.toNatClampNeg x), vp_in j (am_kd k).2.1) else none
  | _ => none
def am_zast (n : Nat) : am_F → Option (am_F × Prop)
  | (pc, ls, .inl x :: .inl j :: .inr (.inr (some (o, k, i))) :: st, s) => bif Nat.beq n 1 && Nat.beq (am_kd k).1 3 then some ((pc + 1, ls, st, am_u s o k i j.toNatClampNeg (vp_nar .boolean x)), vp_in j (am_kd k).2.1) else none
  | _ => none
def am_alen (n : Nat) : am_F → Option (am_F × Prop)
  | (pc, ls, .inr (.inr (some (o, k, i))) :: st, s) => bif Nat.beq n 1 && (Nat.ble 1 (am_kd k).1 && Nat.ble (am_kd k).1 6) then some ((pc + 1, ls, am_i (Int32.ofNat (am_kd k).2.1) :: st, s), True) else none
  | _ => none
def am_1 (nL : Nat) (P : am_P) (i : Instr) (n : Nat) (fr : am_F) : Option (am_F × Prop) :=
  match i with
  | .iconst z => am_push (am_i (Int32.ofInt z)) 1 n fr
  | .bipush z => am_push (am_i (Int8.ofInt z).toInt32) 2 n fr
  | .sipush z => am_push (am_i (Int16.ofInt z).toInt32) 3 n fr
  | .lconst z => am_push (am_l (Int64.ofNat (z : Nat))) 1 n fr
  | .ldc idx => (match am_lk P.2.2.1 idx with
    | some v => am_push (am_i v) 2 n fr
    | none => am_lstr P 2 idx n fr)
  | .ldc_w idx => (match am_lk P.2.2.1 idx with
    | some v => am_push (am_i v) 3 n fr
    | none => am_lstr P 3 idx n fr)
  | .ldc2_w idx => (match am_lk P.2.2.2 idx with
    | some v => am_push (am_l v) 3 n fr
    | none => none)
  | .iload_n k => am_ild (k : Nat) 1 n fr
  | .iload k => am_ild k 2 n fr
  | .lload_n k => am_lld (k : Nat) 1 n fr
  | .lload k => am_lld k 2 n fr
  | .aload_n k => am_ald (k : Nat) 1 n fr
  | .aload k => am_ald k 2 n fr
  | .istore_n k => am_ist nL (k : Nat) 1 n fr
  | .istore k => am_ist nL k 2 n fr
  | .lstore_n k => am_lst nL (k : Nat) 1 n fr
  | .lstore k => am_lst nL k 2 n fr
  | .astore_n k => am_ast nL (k : Nat) 1 n fr
  | .astore k => am_ast nL k 2 n fr
  | .iinc k z => am_inc nL k z n fr
  | .iadd => am_b2 (fun x y => x + y) n fr
  | .isub => am_b2 (fun x y => x - y) n fr
  | .imul => am_b2 (fun x y => x * y) n fr
  | .iand => am_b2 (fun x y => x &&& y) n fr
  | .ior => am_b2 (fun x y => x ||| y) n fr
  | .ixor => am_b2 (fun x y => x ^^^ y) n fr
  | .ishl => am_b2 (fun x y => x <<< (y &&& 31)) n fr
  | .ishr => am_b2 (fun x y => x >>> (y &&& 31)) n fr
  | .iushr => am_b2 (fun x y => (x.toUInt32 >>> (y.toUInt32 &&& Int32.toUInt32 31)).toInt32) n fr
  | .idiv => am_bd (fun x y => x / y) n fr
  | .irem => am_bd (fun x y => x - x / y * y) n fr
  | .ineg => am_b1 (fun x => -x) n fr
  | .i2b => am_b1 (fun x => x.toInt8.toInt32) n fr
  | .i2s => am_b1 (fun x => x.toInt16.toInt32) n fr
  | .i2c => am_b1 (fun x => (x.toUInt32 % 65536).toInt32) n fr
  | .i2l => am_i2l n fr
  | .l2i => am_l2i n fr
  | .land => am_c2 (fun x y => x &&& y) n fr
  | .lor => am_c2 (fun x y => x ||| y) n fr
  | .lcmp => am_lcmp n fr
  | .lshl => am_lshl n fr
  | .dup => am_dup n fr
  | .pop => am_pop n fr
  | .dup_x1 => am_dupx n fr
  | .dup2 => am_dup2 n fr
  | .goto off => am_goto off n fr
  | .getfield idx => (match am_get P idx n fr with
    | some z => some z
    | none => am_gstr P idx n fr)
  | .putfield idx => am_put P idx n fr
  | .getstatic idx => am_gets P idx n fr
  | .iaload => (match am_iald n fr with
    | some z => some z
    | none => am_ista n fr)
  | .laload => am_lald n fr
  | .baload => (match am_zald n fr with
    | some z => some z
    | none => am_bstr n fr)
  | .aaload => am_aald n fr
  | .iastore => am_iast n fr
  | .lastore => am_last n fr
  | .bastore => am_zast n fr
  | .arraylength => (match am_alen n fr with
    | some z => some z
    | none => am_astr n fr)
  | _ => none
/-- a straight stretch: instructions with their places -/
def am_x (nL : Nat) (P : am_P) : List (Nat × Instr × Nat) → am_F → Option (am_F × Prop)
  | [], fr => some (fr, True)
  | q :: t, fr => bif Nat.beq fr.1 q.1 then (match am_1 nL P q.2.1 q.2.2 fr with
    | none => none
    | some (fr1, ob) => match am_x nL P t fr1 with
      | none => none
      | some (fr2, obs) => some (fr2, ob ∧ obs)) else none
section AMS
variable {p : Program} {l : Launch} {e : Env} {R : Room} {s : State} {m : MethodId} {args : Array Value} {below : List Frame} {meth : Method} {c : Code} {cc : ByteArray} {own : String} {nL : Nat} {P : am_P} {G : am_G} {A : Nat → Prop} {kc ks : Nat} {Q : State → Prop}
theorem am_step0 {pc pc' : Nat} {ls : List (Nat × am_V)} {st st' : List am_V} {σ : am_S} (hlive : (∀ q ∈ ls, am_lV G q.2) → (∀ v ∈ st, am_lV G v) → ∀ v ∈ st', am_lV G v)
    (hrow : ∀ (H : Heap) (locs : List Loc) (la : Array Slot), lv_has la nL (ls.map (fun q => (q.1, am_v G q.2))) → W p l e R s m args below meth c H locs kc ks Q (F0 m pc' la (st'.map (am_v G))) → W p l e R s m args below meth c H locs kc ks Q (F0 m pc la (st.map (am_v G))))
    (k : am_A p l e R s m args below meth c nL G A kc ks Q (pc', ls, st', σ)) : am_A p l e R s m args below meth c nL G A kc ks Q (pc, ls, st, σ) :=
  fun H locs la hW hL hF h1 h2 hl => hrow H locs la hl (k H locs la hW hL hF h1 (hlive h1 h2) hl)
theorem am_has {ls : List (Nat × am_V)} {la : Array Slot} {i : Nat} {v : am_V} (h : lv_has la nL (ls.map (fun q => (q.1, am_v G q.2)))) (hv : am_lk ls i = some v) : la[i]? = some (.val (am_v G v)) :=
  h.2.2 (i, am_v G v) (List.mem_map.mpr ⟨(i, v), am_lk_mem hv, rfl⟩)
theorem am_lcons {v : am_V} {st : List am_V} (hv : am_lV G v) (h : ∀ w ∈ st, am_lV G w) : ∀ w ∈ v :: st, am_lV G w := fun w hw => by
  rcases List.mem_cons.mp hw with e | e
  · rw [e]; exact hv
  · exact h w e
theorem am_push_s {v : am_V} {d n : Nat} {fr fr' : am_F} {ob : Prop} (h : am_push v d n fr = some (fr', ob)) (hv : am_lV G v)
    (hrow : ∀ (H : Heap) (locs : List Loc) (la : Array Slot) (rest : List Value), n = d → W p l e R s m args below meth c H locs kc ks Q (F0 m (fr.1 + d) la (am_v G v :: rest)) → W p l e R s m args below meth c H locs kc ks Q (F0 m fr.1 la rest))
    (k : am_A p l e R s m args below meth c nL G A kc ks Q fr') : am_A p l e R s m args below meth c nL G A kc ks Q fr := by
  obtain ⟨pc, ls, st, σ⟩ := fr
  unfold am_push at h
  cases hn : Nat.beq n d
  · rw [hn] at h; cases h
  · rw [hn] at h
    cases h
    exact am_step0 (fun _ h2 => am_lcons hv h2) (fun H locs la _ k => hrow H locs la _ (Nat.eq_of_beq_eq_true hn) k) k
theorem am_ild_s {i d n : Nat} {fr fr' : am_F} {ob : Prop} (h : am_ild i d n fr = some (fr', ob))
    (hrow : ∀ (H : Heap) (locs : List Loc) (la : Array Slot) (rest : List Value) (x : Int32), n = d → la[i]? = some (.val (.int x)) → W p l e R s m args below meth c H locs kc ks Q (F0 m (fr.1 + d) la (.int x :: rest)) → W p l e R s m args below meth c H locs kc ks Q (F0 m fr.1 la rest))
    (k : am_A p l e R s m args below meth c nL G A kc ks Q fr') : am_A p l e R s m args below meth c nL G A kc ks Q fr := by
  obtain ⟨pc, ls, st, σ⟩ := fr
  unfold am_ild at h
  cases hn : Nat.beq n d
  · rw [hn] at h; cases h
  · rw [hn] at h
    simp only [cond_true] at h
    split at h
    · rename_i x hx
      cases h
      exact am_step0 (fun _ h2 => am_lcons (v := .inl x) trivial h2) (fun H locs la hl k => hrow H locs la _ x (Nat.eq_of_beq_eq_true hn) (am_has hl hx) k) k
    · cases h
theorem am_lld_s {i d n : Nat} {fr fr' : am_F} {ob : Prop} (h : am_lld i d n fr = some (fr', ob))
    (hrow : ∀ (H : Heap) (locs : List Loc) (la : Array Slot) (rest : List Value) (x : Int64), n = d → la[i]? = some (.val (.long x)) → W p l e R s m args below meth c H locs kc ks Q (F0 m (fr.1 + d) la (.long x :: rest)) → W p l e R s m args below meth c H locs kc ks Q (F0 m fr.1 la rest))
    (k : am_A p l e R s m args below meth c nL G A kc ks Q fr') : am_A p l e R s m args below meth c nL G A kc ks Q fr := by
  obtain ⟨pc, ls, st, σ⟩ := fr
  unfold am_lld at h
  cases hn : Nat.beq n d
  · rw [hn] at h; cases h
  · rw [hn] at h
    simp only [cond_true] at h
    split at h
    · rename_i x hx
      cases h
      exact am_step0 (fun _ h2 => am_lcons (v := .inr (.inl x)) trivial h2) (fun H locs la hl k => hrow H locs la _ x (Nat.eq_of_beq_eq_true hn) (am_has hl hx) k) k
    · cases h
theorem am_ald_s {i d n : Nat} {fr fr' : am_F} {ob : Prop} (h : am_ald i d n fr = some (fr', ob))
    (hrow : ∀ (H : Heap) (locs : List Loc) (la : Array Slot) (rest : List Value) (x : Nat), n = d → la[i]? = some (.val (.ref x)) → W p l e R s m args below meth c H locs kc ks Q (F0 m (fr.1 + d) la (.ref x :: rest)) → W p l e R s m args below meth c H locs kc ks Q (F0 m fr.1 la rest))
    (k : am_A p l e R s m args below meth c nL G A kc ks Q fr') : am_A p l e R s m args below meth c nL G A kc ks Q fr := by
  obtain ⟨pc, ls, st, σ⟩ := fr
  unfold am_ald at h
  cases hn : Nat.beq n d
  · rw [hn] at h; cases h
  · rw [hn] at h
    simp only [cond_true] at h
    split at h
    · rename_i o kk j hx
      cases h
      exact am_step0 (fun h1 h2 => am_lcons (h1 _ (am_lk_mem hx)) h2) (fun H locs la hl k => hrow H locs la _ _ (Nat.eq_of_beq_eq_true hn) (am_has hl hx) k) k
    · cases h
theorem am_has_st {ls : List (Nat × am_V)} {la : Array Slot} {i : Nat} {v : am_V} (h : lv_has la nL ((i, am_v G v) :: (ls.map (fun q => (q.1, am_v G q.2))).filter (fun q => !(q.1 == i) && !(q.1 + 1 == i && q.2.category == 2)))) : lv_has la nL ((am_ins i v (am_rm i ls)).map (fun q => (q.1, am_v G q.2))) := by
  refine ⟨h.1, h.2.1, fun q hq => h.2.2 q ?_⟩
  obtain ⟨q0, h0, rfl⟩ := List.mem_map.mp hq
  rcases am_ins_mem h0 with e | e
  · rw [e]; exact List.mem_cons_self
  · obtain ⟨h1, h2, h3⟩ := am_rm_mem e
    refine List.mem_cons_of_mem _ (List.mem_filter.mpr ⟨List.mem_map.mpr ⟨q0, h1, rfl⟩, ?_⟩)
    simp only [am_v_ct, Bool.and_eq_true, Bool.not_eq_true', beq_eq_false_iff_ne, Bool.and_eq_false_iff]
    refine ⟨h2, ?_⟩
    by_cases z : q0.1 + 1 = i
    · exact Or.inr fun y => h3 ⟨z, y⟩
    · exact Or.inl z
theorem am_has_st2 {ls : List (Nat × am_V)} {la : Array Slot} {i : Nat} {v : am_V} (h : lv_has la nL ((i, am_v G v) :: (ls.map (fun q => (q.1, am_v G q.2))).filter (fun q => !(q.1 == i) && (!(q.1 == i + 1) && !(q.1 + 1 == i && q.2.category == 2))))) : lv_has la nL ((am_ins i v (am_rm2 i ls)).map (fun q => (q.1, am_v G q.2))) := by
  refine ⟨h.1, h.2.1, fun q hq => h.2.2 q ?_⟩
  obtain ⟨q0, h0, rfl⟩ := List.mem_map.mp hq
  rcases am_ins_mem h0 with e | e
  · rw [e]; exact List.mem_cons_self
  · obtain ⟨h1, h2, h4, h3⟩ := am_rm2_mem e
    refine List.mem_cons_of_mem _ (List.mem_filter.mpr ⟨List.mem_map.mpr ⟨q0, h1, rfl⟩, ?_⟩)
    simp only [am_v_ct, Bool.and_eq_true, Bool.not_eq_true', beq_eq_false_iff_ne, Bool.and_eq_false_iff]
    refine ⟨h2, h4, ?_⟩
    by_cases z : q0.1 + 1 = i
    · exact Or.inr fun y => h3 ⟨z, y⟩
    · exact Or.inl z
theorem am_live_ins {ls : List (Nat × am_V)} {i : Nat} {v : am_V} (hv : am_lV G v) (h : ∀ q ∈ ls, am_lV G q.2) : ∀ q ∈ am_ins i v (am_rm i ls), am_lV G q.2 := fun q hq => by
  rcases am_ins_mem hq with e | e
  · rw [e]; exact hv
  · exact h q (am_rm_mem e).1
theorem am_live_ins2 {ls : List (Nat × am_V)} {i : Nat} {v : am_V} (hv : am_lV G v) (h : ∀ q ∈ ls, am_lV G q.2) : ∀ q ∈ am_ins i v (am_rm2 i ls), am_lV G q.2 := fun q hq => by
  rcases am_ins_mem hq with e | e
  · rw [e]; exact hv
  · exact h q (am_rm2_mem e).1
theorem am_tl {v : am_V} {st : List am_V} (h : ∀ w ∈ v :: st, am_lV G w) : am_lV G v ∧ ∀ w ∈ st, am_lV G w := ⟨h v List.mem_cons_self, fun w hw => h w (List.mem_cons_of_mem _ hw)⟩
theorem am_store {pc pc' i : Nat} {ls : List (Nat × am_V)} {v : am_V} {st : List am_V} {σ : am_S} (hi : i < nL)
    (hrow : ∀ (H : Heap) (locs : List Loc) (la : Array Slot) (lv lv' : List (Nat × Value)), lv_has la nL lv → (i, am_v G v) :: lv.filter (fun q => !(q.1 == i) && !(q.1 + 1 == i && q.2.category == 2)) = lv' → (∀ la' : Array Slot, lv_has la' nL lv' → W p l e R s m args below meth c H locs kc ks Q (F0 m pc' la' (st.map (am_v G)))) → W p l e R s m args below meth c H locs kc ks Q (F0 m pc la (am_v G v :: st.map (am_v G))))
    (k : am_A p l e R s m args below meth c nL G A kc ks Q (pc', am_ins i v (am_rm i ls), st, σ)) : am_A p l e R s m args below meth c nL G A kc ks Q (pc, ls, v :: st, σ) :=
  fun H locs la hW hL hF h1 h2 hl => hrow H locs la _ _ hl rfl fun la' h' => k H locs la' hW hL hF (am_live_ins (am_tl h2).1 h1) (am_tl h2).2 (am_has_st h')
theorem am_store2 {pc pc' i : Nat} {ls : List (Nat × am_V)} {v : am_V} {st : List am_V} {σ : am_S} (hi : i + 1 < nL)
    (hrow : ∀ (H : Heap) (locs : List Loc) (la : Array Slot) (lv lv' : List (Nat × Value)), lv_has la nL lv → (i, am_v G v) :: lv.filter (fun q => !(q.1 == i) && (!(q.1 == i + 1) && !(q.1 + 1 == i && q.2.category == 2))) = lv' → (∀ la' : Array Slot, lv_has la' nL lv' → W p l e R s m args below meth c H locs kc ks Q (F0 m pc' la' (st.map (am_v G)))) → W p l e R s m args below meth c H locs kc ks Q (F0 m pc la (am_v G v :: st.map (am_v G))))
    (k : am_A p l e R s m args below meth c nL G A kc ks Q (pc', am_ins i v (am_rm2 i ls), st, σ)) : am_A p l e R s m args below meth c nL G A kc ks Q (pc, ls, v :: st, σ) :=
  fun H locs la hW hL hF h1 h2 hl => hrow H locs la _ _ hl rfl fun la' h' => k H locs la' hW hL hF (am_live_ins2 (am_tl h2).1 h1) (am_tl h2).2 (am_has_st2 h')
theorem am_b2_s {f : Int32 → Int32 → Int32} {n : Nat} {fr fr' : am_F} {ob : Prop} (h : am_b2 f n fr = some (fr', ob))
    (hrow : ∀ (H : Heap) (locs : List Loc) (la : Array Slot) (rest : List Value) (x y : Int32), n = 1 → W p l e R s m args below meth c H locs kc ks Q (F0 m (fr.1 + 1) la (.int (f x y) :: rest)) → W p l e R s m args below meth c H locs kc ks Q (F0 m fr.1 la (.int y :: .int x :: rest)))
    (k : am_A p l e R s m args below meth c nL G A kc ks Q fr') : am_A p l e R s m args below meth c nL G A kc ks Q fr := by
  obtain ⟨pc, ls, st, σ⟩ := fr
  unfold am_b2 at h
  split at h
  · rename_i pc ls y x st σ e
    cases hn : Nat.beq n 1
    · rw [hn] at h; cases h
    · rw [hn] at h
      cases h
      cases e
      exact am_step0 (fun _ h2 => am_lcons (v := .inl _) trivial (am_tl (am_tl h2).2).2) (fun H locs la _ k => hrow H locs la _ x y (Nat.eq_of_beq_eq_true hn) k) k
  · cases h
theorem am_bd_s {f : Int32 → Int32 → Int32} {n : Nat} {fr fr' : am_F} {ob : Prop} (h : am_bd f n fr = some (fr', ob)) (ho : ob)
    (hrow : ∀ (H : Heap) (locs : List Loc) (la : Array Slot) (rest : List Value) (x y : Int32), n = 1 → ¬ y = 0 → W p l e R s m args below meth c H locs kc ks Q (F0 m (fr.1 + 1) la (.int (f x y) :: rest)) → W p l e R s m args below meth c H locs kc ks Q (F0 m fr.1 la (.int y :: .int x :: rest)))
    (k : am_A p l e R s m args below meth c nL G A kc ks Q fr') : am_A p l e R s m args below meth c nL G A kc ks Q fr := by
  obtain ⟨pc, ls, st, σ⟩ := fr
  unfold am_bd at h
  split at h
  · rename_i pc ls y x st σ e
    cases hn : Nat.beq n 1
    · rw [hn] at h; cases h
    · rw [hn] at h
      cases h
      cases e
      exact am_step0 (fun _ h2 => am_lcons (v := .inl _) trivial (am_tl (am_tl h2).2).2) (fun H locs la _ k => hrow H locs la _ x y (Nat.eq_of_beq_eq_true hn) ho k) k
  · cases h
theorem am_c2_s {f : Int64 → Int64 → Int64} {n : Nat} {fr fr' : am_F} {ob : Prop} (h : am_c2 f n fr = some (fr', ob))
    (hrow : ∀ (H : Heap) (locs : List Loc) (la : Array Slot) (rest : List Value) (x y : Int64), n = 1 → W p l e R s m args below meth c H locs kc ks Q (F0 m (fr.1 + 1) la (.long (f x y) :: rest)) → W p l e R s m args below meth c H locs kc ks Q (F0 m fr.1 la (.long y :: .long x :: rest)))
    (k : am_A p l e R s m args below meth c nL G A kc ks Q fr') : am_A p l e R s m args below meth c nL G A kc ks Q fr := by
  obtain ⟨pc, ls, st, σ⟩ := fr
  unfold am_c2 at h
  split at h
  · rename_i pc ls y x st σ e
    cases hn : Nat.beq n 1
    · rw [hn] at h; cases h
    · rw [hn] at h
      cases h
      cases e
      exact am_step0 (fun _ h2 => am_lcons (v := .inr (.inl _)) trivial (am_tl (am_tl h2).2).2) (fun H locs la _ k => hrow H locs la _ x y (Nat.eq_of_beq_eq_true hn) k) k
  · cases h
theorem am_b1_s {f : Int32 → Int32} {n : Nat} {fr fr' : am_F} {ob : Prop} (h : am_b1 f n fr = some (fr', ob))
    (hrow : ∀ (H : Heap) (locs : List Loc) (la : Array Slot) (rest : List Value) (x : Int32), n = 1 → W p l e R s m args below meth c H locs kc ks Q (F0 m (fr.1 + 1) la (.int (f x) :: rest)) → W p l e R s m args below meth c H locs kc ks Q (F0 m fr.1 la (.int x :: rest)))
    (k : am_A p l e R s m args below meth c nL G A kc ks Q fr') : am_A p l e R s m args below meth c nL G A kc ks Q fr := by
  obtain ⟨pc, ls, st, σ⟩ := fr
  unfold am_b1 at h
  split at h
  · rename_i pc ls x st σ e
    cases hn : Nat.beq n 1
    · rw [hn] at h; cases h
    · rw [hn] at h
      cases h
      cases e
      exact am_step0 (fun _ h2 => am_lcons (v := .inl _) trivial (am_tl h2).2) (fun H locs la _ k => hrow H locs la _ x (Nat.eq_of_beq_eq_true hn) k) k
  · cases h
theorem am_i2l_s {n : Nat} {fr fr' : am_F} {ob : Prop} (h : am_i2l n fr = some (fr', ob))
    (hrow : ∀ (H : Heap) (locs : List Loc) (la : Array Slot) (rest : List Value) (x : Int32), n = 1 → W p l e R s m args below meth c H locs kc ks Q (F0 m (fr.1 + 1) la (.long x.toInt64 :: rest)) → W p l e R s m args below meth c H locs kc ks Q (F0 m fr.1 la (.int x :: rest)))
    (k : am_A p l e R s m args below meth c nL G A kc ks Q fr') : am_A p l e R s m args below meth c nL G A kc ks Q fr := by
  obtain ⟨pc, ls, st, σ⟩ := fr
  unfold am_i2l at h
  split at h
  · rename_i pc ls x st σ e
    cases hn : Nat.beq n 1
    · rw [hn] at h; cases h
    · rw [hn] at h
      cases h
      cases e
      exact am_step0 (fun _ h2 => am_lcons (v := .inr (.inl _)) trivial (am_tl h2).2) (fun H locs la _ k => hrow H locs la _ x (Nat.eq_of_beq_eq_true hn) k) k
  · cases h
theorem am_l2i_s {n : Nat} {fr fr' : am_F} {ob : Prop} (h : am_l2i n fr = some (fr', ob))
    (hrow : ∀ (H : Heap) (locs : List Loc) (la : Array Slot) (rest : List Value) (x : Int64), n = 1 → W p l e R s m args below meth c H locs kc ks Q (F0 m (fr.1 + 1) la (.int x.toInt32 :: rest)) → W p l e R s m args below meth c H locs kc ks Q (F0 m fr.1 la (.long x :: rest)))
    (k : am_A p l e R s m args below meth c nL G A kc ks Q fr') : am_A p l e R s m args below meth c nL G A kc ks Q fr := by
  obtain ⟨pc, ls, st, σ⟩ := fr
  unfold am_l2i at h
  split at h
  · rename_i pc ls x st σ e
    cases hn : Nat.beq n 1
    · rw [hn] at h; cases h
    · rw [hn] at h
      cases h
      cases e
      exact am_step0 (fun _ h2 => am_lcons (v := .inl _) trivial (am_tl h2).2) (fun H locs la _ k => hrow H locs la _ x (Nat.eq_of_beq_eq_true hn) k) k
  · cases h
theorem am_lcmp_s {n : Nat} {fr fr' : am_F} {ob : Prop} (h : am_lcmp n fr = some (fr', ob))
    (hrow : ∀ (H : Heap) (locs : List Loc) (la : Array Slot) (rest : List Value) (x y : Int64), n = 1 → W p l e R s m args below meth c H locs kc ks Q (F0 m (fr.1 + 1) la (.int (lg_cmp x y) :: rest)) → W p l e R s m args below meth c H locs kc ks Q (F0 m fr.1 la (.long y :: .long x :: rest)))
    (k : am_A p l e R s m args below meth c nL G A kc ks Q fr') : am_A p l e R s m args below meth c nL G A kc ks Q fr := by
  obtain ⟨pc, ls, st, σ⟩ := fr
  unfold am_lcmp at h
  split at h
  · rename_i pc ls y x st σ e
    cases hn : Nat.beq n 1
    · rw [hn] at h; cases h
    · rw [hn] at h
      cases h
      cases e
      exact am_step0 (fun _ h2 => am_lcons (v := .inl _) trivial (am_tl (am_tl h2).2).2) (fun H locs la _ k => hrow H locs la _ x y (Nat.eq_of_beq_eq_true hn) k) k
  · cases h
theorem am_lshl_s {n : Nat} {fr fr' : am_F} {ob : Prop} (h : am_lshl n fr = some (fr', ob))
    (hrow : ∀ (H : Heap) (locs : List Loc) (la : Array Slot) (rest : List Value) (x : Int64) (y : Int32), n = 1 → W p l e R s m args below meth c H locs kc ks Q (F0 m (fr.1 + 1) la (.long (x <<< (y.toInt64 &&& 63)) :: rest)) → W p l e R s m args below meth c H locs kc ks Q (F0 m fr.1 la (.int y :: .long x :: rest)))
    (k : am_A p l e R s m args below meth c nL G A kc ks Q fr') : am_A p l e R s m args below meth c nL G A kc ks Q fr := by
  obtain ⟨pc, ls, st, σ⟩ := fr
  unfold am_lshl at h
  split at h
  · rename_i pc ls y x st σ e
    cases hn : Nat.beq n 1
    · rw [hn] at h; cases h
    · rw [hn] at h
      cases h
      cases e
      exact am_step0 (fun _ h2 => am_lcons (v := .inr (.inl _)) trivial (am_tl (am_tl h2).2).2) (fun H locs la _ k => hrow H locs la _ x y (Nat.eq_of_beq_eq_true hn) k) k
  · cases h
theorem am_dup_s {n : Nat} {fr fr' : am_F} {ob : Prop} (h : am_dup n fr = some (fr', ob))
    (hrow : ∀ (H : Heap) (locs : List Loc) (la : Array Slot) (rest : List Value) (v : Value), n = 1 → v.category = 1 → W p l e R s m args below meth c H locs kc ks Q (F0 m (fr.1 + 1) la (v :: v :: rest)) → W p l e R s m args below meth c H locs kc ks Q (F0 m fr.1 la (v :: rest)))
    (k : am_A p l e R s m args below meth c nL G A kc ks Q fr') : am_A p l e R s m args below meth c nL G A kc ks Q fr := by
  obtain ⟨pc, ls, st, σ⟩ := fr
  unfold am_dup at h
  split at h
  · rename_i pc ls v st σ e
    cases hn : (Nat.beq n 1 && Nat.beq (am_ct v) 1)
    · rw [hn] at h; cases h
    · rw [hn] at h
      cases h
      cases e
      rw [Bool.and_eq_true] at hn
      exact am_step0 (fun _ h2 => am_lcons (am_tl h2).1 h2) (fun H locs la _ k => hrow H locs la _ _ (Nat.eq_of_beq_eq_true hn.1) ((am_v_ct G v).trans (Nat.eq_of_beq_eq_true hn.2)) k) k
  · cases h
theorem am_pop_s {n : Nat} {fr fr' : am_F} {ob : Prop} (h : am_pop n fr = some (fr', ob))
    (hrow : ∀ (H : Heap) (locs : List Loc) (la : Array Slot) (rest : List Value) (v : Value), n = 1 → v.category = 1 → W p l e R s m args below meth c H locs kc ks Q (F0 m (fr.1 + 1) la rest) → W p l e R s m args below meth c H locs kc ks Q (F0 m fr.1 la (v :: rest)))
    (k : am_A p l e R s m args below meth c nL G A kc ks Q fr') : am_A p l e R s m args below meth c nL G A kc ks Q fr := by
  obtain ⟨pc, ls, st, σ⟩ := fr
  unfold am_pop at h
  split at h
  · rename_i pc ls v st σ e
    cases hn : (Nat.beq n 1 && Nat.beq (am_ct v) 1)
    · rw [hn] at h; cases h
    · rw [hn] at h
      cases h
      cases e
      rw [Bool.and_eq_true] at hn
      exact am_step0 (fun _ h2 => (am_tl h2).2) (fun H locs la _ k => hrow H locs la _ _ (Nat.eq_of_beq_eq_true hn.1) ((am_v_ct G v).trans (Nat.eq_of_beq_eq_true hn.2)) k) k
  · cases h
theorem am_dupx_s {n : Nat} {fr fr' : am_F} {ob : Prop} (h : am_dupx n fr = some (fr', ob))
    (hrow : ∀ (H : Heap) (locs : List Loc) (la : Array Slot) (rest : List Value) (v w : Value), n = 1 → v.category = 1 → w.category = 1 → W p l e R s m args below meth c H locs kc ks Q (F0 m (fr.1 + 1) la (v :: w :: v :: rest)) → W p l e R s m args below meth c H locs kc ks Q (F0 m fr.1 la (v :: w :: rest)))
    (k : am_A p l e R s m args below meth c nL G A kc ks Q fr') : am_A p l e R s m args below meth c nL G A kc ks Q fr := by
  obtain ⟨pc, ls, st, σ⟩ := fr
  unfold am_dupx at h
  split at h
  · rename_i pc ls v w st σ e
    cases hn : (Nat.beq n 1 && (Nat.beq (am_ct v) 1 && Nat.beq (am_ct w) 1))
    · rw [hn] at h; cases h
    · rw [hn] at h
      cases h
      cases e
      rw [Bool.and_eq_true, Bool.and_eq_true] at hn
      exact am_step0 (fun _ h2 => am_lcons (am_tl h2).1 (am_lcons (am_tl (am_tl h2).2).1 (am_lcons (am_tl h2).1 (am_tl (am_tl h2).2).2))) (fun H locs la _ k => hrow H locs la _ _ _ (Nat.eq_of_beq_eq_true hn.1) ((am_v_ct G v).trans (Nat.eq_of_beq_eq_true hn.2.1)) ((am_v_ct G w).trans (Nat.eq_of_beq_eq_true hn.2.2)) k) k
  · cases h
theorem am_dup2_s {n : Nat} {fr fr' : am_F} {ob : Prop} (h : am_dup2 n fr = some (fr', ob))
    (hrow : ∀ (H : Heap) (locs : List Loc) (la : Array Slot) (rest : List Value) (v w : Value), n = 1 → v.category = 1 → w.category = 1 → W p l e R s m args below meth c H locs kc ks Q (F0 m (fr.1 + 1) la (v :: w :: v :: w :: rest)) → W p l e R s m args below meth c H locs kc ks Q (F0 m fr.1 la (v :: w :: rest)))
    (k : am_A p l e R s m args below meth c nL G A kc ks Q fr') : am_A p l e R s m args below meth c nL G A kc ks Q fr := by
  obtain ⟨pc, ls, st, σ⟩ := fr
  unfold am_dup2 at h
  split at h
  · rename_i pc ls v w st σ e
    cases hn : (Nat.beq n 1 && (Nat.beq (am_ct v) 1 && Nat.beq (am_ct w) 1))
    · rw [hn] at h; cases h
    · rw [hn] at h
      cases h
      cases e
      rw [Bool.and_eq_true, Bool.and_eq_true] at hn
      exact am_step0 (fun _ h2 => am_lcons (am_tl h2).1 (am_lcons (am_tl (am_tl h2).2).1 h2)) (fun H locs la _ k => hrow H locs la _ _ _ (Nat.eq_of_beq_eq_true hn.1) ((am_v_ct G v).trans (Nat.eq_of_beq_eq_true hn.2.1)) ((am_v_ct G w).trans (Nat.eq_of_beq_eq_true hn.2.2)) k) k
  · cases h
theorem am_ist_s {i d n : Nat} {fr fr' : am_F} {ob : Prop} (h : am_ist nL i d n fr = some (fr', ob))
    (hrow : ∀ (H : Heap) (locs : List Loc) (la : Array Slot) (rest : List Value) (x : Int32) (lv lv' : List (Nat × Value)), n = d → i < nL → lv_has la nL lv → (i, Value.int x) :: lv.filter (fun q => !(q.1 == i) && !(q.1 + 1 == i && q.2.category == 2)) = lv' → (∀ la' : Array Slot, lv_has la' nL lv' → W p l e R s m args below meth c H locs kc ks Q (F0 m (fr.1 + d) la' rest)) → W p l e R s m args below meth c H locs kc ks Q (F0 m fr.1 la (.int x :: rest)))
    (k : am_A p l e R s m args below meth c nL G A kc ks Q fr') : am_A p l e R s m args below meth c nL G A kc ks Q fr := by
  obtain ⟨pc, ls, st, σ⟩ := fr
  unfold am_ist at h
  split at h
  · rename_i pc ls x st σ e
    cases hn : (Nat.beq n d && Nat.ble (i + 1) nL)
    · rw [hn] at h; cases h
    · rw [hn] at h
      cases h
      cases e
      rw [Bool.and_eq_true] at hn
      exact am_store (v := .inl x) (Nat.le_of_ble_eq_true hn.2) (fun H locs la lv lv' a b k => hrow H locs la _ x lv lv' (Nat.eq_of_beq_eq_true hn.1) (Nat.le_of_ble_eq_true hn.2) a b k) k
  · cases h
theorem am_ast_s {i d n : Nat} {fr fr' : am_F} {ob : Prop} (h : am_ast nL i d n fr = some (fr', ob))
    (hrow : ∀ (H : Heap) (locs : List Loc) (la : Array Slot) (rest : List Value) (x : Nat) (lv lv' : List (Nat × Value)), n = d → i < nL → lv_has la nL lv → (i, Value.ref x) :: lv.filter (fun q => !(q.1 == i) && !(q.1 + 1 == i && q.2.category == 2)) = lv' → (∀ la' : Array Slot, lv_has la' nL lv' → W p l e R s m args below meth c H locs kc ks Q (F0 m (fr.1 + d) la' rest)) → W p l e R s m args below meth c H locs kc ks Q (F0 m fr.1 la (.ref x :: rest)))
    (k : am_A p l e R s m args below meth c nL G A kc ks Q fr') : am_A p l e R s m args below meth c nL G A kc ks Q fr := by
  obtain ⟨pc, ls, st, σ⟩ := fr
  unfold am_ast at h
  split at h
  · rename_i pc ls o kk j st σ e
    cases hn : (Nat.beq n d && Nat.ble (i + 1) nL)
    · rw [hn] at h; cases h
    · rw [hn] at h
      cases h
      cases e
      rw [Bool.and_eq_true] at hn
      exact am_store (v := am_r o kk j) (Nat.le_of_ble_eq_true hn.2) (fun H locs la lv lv' a b k => hrow H locs la _ _ lv lv' (Nat.eq_of_beq_eq_true hn.1) (Nat.le_of_ble_eq_true hn.2) a b k) k
  · cases h
theorem am_lst_s {i d n : Nat} {fr fr' : am_F} {ob : Prop} (h : am_lst nL i d n fr = some (fr', ob))
    (hrow : ∀ (H : Heap) (locs : List Loc) (la : Array Slot) (rest : List Value) (x : Int64) (lv lv' : List (Nat × Value)), n = d → i + 1 < nL → lv_has la nL lv → (i, Value.long x) :: lv.filter (fun q => !(q.1 == i) && (!(q.1 == i + 1) && !(q.1 + 1 == i && q.2.category == 2))) = lv' → (∀ la' : Array Slot, lv_has la' nL lv' → W p l e R s m args below meth c H locs kc ks Q (F0 m (fr.1 + d) la' rest)) → W p l e R s m args below meth c H locs kc ks Q (F0 m fr.1 la (.long x :: rest)))
    (k : am_A p l e R s m args below meth c nL G A kc ks Q fr') : am_A p l e R s m args below meth c nL G A kc ks Q fr := by
  obtain ⟨pc, ls, st, σ⟩ := fr
  unfold am_lst at h
  split at h
  · rename_i pc ls x st σ e
    cases hn : (Nat.beq n d && Nat.ble (i + 2) nL)
    · rw [hn] at h; cases h
    · rw [hn] at h
      cases h
      cases e
      rw [Bool.and_eq_true] at hn
      exact am_store2 (v := .inr (.inl x)) (Nat.le_of_ble_eq_true hn.2) (fun H locs la lv lv' a b k => hrow H locs la _ x lv lv' (Nat.eq_of_beq_eq_true hn.1) (Nat.le_of_ble_eq_true hn.2) a b k) k
  · cases h
theorem am_inc_s (hx : p.tables.exec = Jvm.exec) (hb : c.code = cc) {i n : Nat} {z : Int} {fr fr' : am_F} {ob : Prop} (h : am_inc nL i z n fr = some (fr', ob)) (hd : decode cc fr.1 = .ok (.iinc i z, n))
    (k : am_A p l e R s m args below meth c nL G A kc ks Q fr') : am_A p l e R s m args below meth c nL G A kc ks Q fr := by
  obtain ⟨pc, ls, st, σ⟩ := fr
  dsimp only [am_inc] at h
  cases hn : (Nat.beq n 3 && Nat.ble (i + 1) nL)
  · rw [hn] at h; cases h
  · rw [hn] at h
    simp only [cond_true] at h
    split at h
    · rename_i x hxx
      cases h
      rw [Bool.and_eq_true] at hn
      have hn3 := Nat.eq_of_beq_eq_true hn.1
      subst hn3
      intro H locs la hW hL hF h1 h2 hl
      obtain ⟨kk, hkk⟩ := List.getElem?_of_mem (List.mem_map.mpr ⟨(i, .inl x), am_lk_mem hxx, rfl⟩ : (i, am_v G (.inl x)) ∈ ls.map (fun q => (q.1, am_v G q.2)))
      exact lv_iinc hx hb hd hl hkk rfl (Nat.le_of_ble_eq_true hn.2) rfl fun la' h' => k H locs la' hW hL hF (am_live_ins (v := .inl _) trivial h1) h2 (am_has_st (v := .inl _) h')
    · cases h
theorem am_goto_s (hx : p.tables.exec = Jvm.exec) (hb : c.code = cc) {off : Int} {n : Nat} {fr fr' : am_F} {ob : Prop} (h : am_goto off n fr = some (fr', ob)) (hd : decode cc fr.1 = .ok (.goto off, n))
    (k : am_A p l e R s m args below meth c nL G A kc ks Q fr') : am_A p l e R s m args below meth c nL G A kc ks Q fr := by
  obtain ⟨pc, ls, st, σ⟩ := fr
  dsimp only [am_goto] at h
  cases hn : (Nat.beq n 3 && decide (0 ≤ (pc : Int) + off))
  · rw [hn] at h; cases h
  · rw [hn] at h
    cases h
    rw [Bool.and_eq_true] at hn
    have hn3 := Nat.eq_of_beq_eq_true hn.1
    subst hn3
    exact am_step0 (fun _ h2 => h2) (fun H locs la _ k => lv_goto hx hb hd (Int.toNat_of_nonneg (of_decide_eq_true hn.2)).symm k) k
end AMS
