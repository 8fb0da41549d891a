/-! ===== the words, those that go on holding ===== -/
def am_tb : List Cond := lw_tbl.filter goodWord
theorem am_tb_good : GoodIn am_tb am_tb := fun w h => ⟨h, good_of_word (List.mem_filter.mp h).2⟩
/-- calls of nest mates' private methods: by class, number, method, host -/
def am_nst : List (String × Nat × MethodName × String) := [(RX2, 40, yX7_isShelf, RX7), (RX0, 54, yX7_isValley, RX7), (RX6, 56, yX7_isValley, RX7), (RX1, 31, yX7_isAct, RX7), (RX0, 98, yX7_isOfKind, RX7), (RX7, 32, yX4_init, RX7), (RX7, 39, yX6_init, RX7), (RX7, 46, yX5_init, RX7), (RX7, 53, yX3_init, RX7), (RX7, 60, yX1_init, RX7)]
/-- what a called method's words say: an instance method, a static one -/
def am_yR (y : MethodName) (nL n : Nat) : Bool := decide (y.cls ≠ "java/lang/invoke/MethodHandle") && (decide (y.cls ≠ "java/lang/invoke/VarHandle") && (decide ((parseMethodDescriptor y.desc).map (fun d => d.parameters.length) = some n) && Nat.ble nL 21))
def am_yV (y : MethodName) (cc : ByteArray) (nL : Nat) (ret : Option FieldType) (n : Nat) : Prop :=
  Cond.instanceMethod y ∈ am_tb ∧ Cond.selects y.cls y y ∈ am_tb ∧ Cond.initialized y.cls ∈ am_tb ∧ Cond.code y cc nL ret ∈ am_tb ∧ am_yR y nL n = true
def am_yS (y : MethodName) (cc : ByteArray) (nL : Nat) (ret : Option FieldType) (n : Nat) : Prop :=
  Cond.static y ∈ am_tb ∧ Cond.initialized y.cls ∈ am_tb ∧ Cond.code y cc nL ret ∈ am_tb ∧ am_yR y nL n = true
/-- a word by its place -/
theorem am_pl {w : Cond} (i : Nat) (h : lw_tbl[i]? = some w) (g : goodWord w = true) : w ∈ am_tb := List.mem_filter.mpr ⟨List.mem_of_getElem? h, g⟩
/-- a constructor's words -/
def am_yI (y : MethodName) (cc : ByteArray) (nL n : Nat) : Prop :=
  Cond.instanceMethod y ∈ am_tb ∧ Cond.initialized y.cls ∈ am_tb ∧ Cond.code y cc nL none ∈ am_tb ∧ am_yR y nL n = true
/-- Object's constructor as a class calls it -/
def am_oi (own : String) (idx : Nat) : Prop := Cond.methodLink own idx Lib.objectInit ∈ am_tb ∧ Cond.instanceMethod Lib.objectInit ∈ am_tb ∧ Cond.code Lib.objectInit ⟨#[0xb1]⟩ 1 none ∈ am_tb
set_option maxRecDepth 100000 in
theorem yv_J0_charAt_5068e : am_yV yJ0_charAt_5068e cJ0_charAt_5068e 2 (some .char) 1 := ⟨(am_pl 555 (by decide +kernel) rfl), (am_pl 556 (by decide +kernel) rfl), (am_pl 85 (by decide +kernel) rfl), (am_pl 557 (by decide +kernel) rfl), by decide +kernel⟩
set_option maxRecDepth 100000 in
theorem yv_J0_checkIndex_df160 : am_yS yJ0_checkIndex_df160 cJ0_checkIndex_df160 2 none 2 := ⟨(am_pl 566 (by decide +kernel) rfl), (am_pl 85 (by decide +kernel) rfl), (am_pl 567 (by decide +kernel) rfl), by decide +kernel⟩
set_option maxRecDepth 100000 in
theorem yv_J0_coder_7d493 : am_yV yJ0_coder_7d493 cJ0_coder_7d493 1 (some .byte) 0 := ⟨(am_pl 549 (by decide +kernel) rfl), (am_pl 550 (by decide +kernel) rfl), (am_pl 85 (by decide +kernel) rfl), (am_pl 551 (by decide +kernel) rfl), by decide +kernel⟩
set_option maxRecDepth 100000 in
theorem yv_J0_isLatin1_aae02 : am_yV yJ0_isLatin1_aae02 cJ0_isLatin1_aae02 1 (some .boolean) 0 := ⟨(am_pl 559 (by decide +kernel) rfl), (am_pl 560 (by decide +kernel) rfl), (am_pl 85 (by decide +kernel) rfl), (am_pl 561 (by decide +kernel) rfl), by decide +kernel⟩
set_option maxRecDepth 100000 in
theorem yv_J0_length_8abf5 : am_yV yJ0_length_8abf5 cJ0_length_8abf5 1 (some .int) 0 := ⟨(am_pl 545 (by decide +kernel) rfl), (am_pl 546 (by decide +kernel) rfl), (am_pl 85 (by decide +kernel) rfl), (am_pl 547 (by decide +kernel) rfl), by decide +kernel⟩
set_option maxRecDepth 100000 in
theorem yv_J1_charAt_3b067 : am_yS yJ1_charAt_3b067 cJ1_charAt_3b067 2 (some .char) 2 := ⟨(am_pl 563 (by decide +kernel) rfl), (am_pl 86 (by decide +kernel) rfl), (am_pl 564 (by decide +kernel) rfl), by decide +kernel⟩
set_option maxRecDepth 100000 in
theorem yv_J3_checkIndex_8e157 : am_yS yJ3_checkIndex_8e157 cJ3_checkIndex_8e157 3 (some .int) 3 := ⟨(am_pl 571 (by decide +kernel) rfl), (am_pl 87 (by decide +kernel) rfl), (am_pl 572 (by decide +kernel) rfl), by decide +kernel⟩
set_option maxRecDepth 100000 in
theorem yv_J6_bitCount_0f7a4 : am_yS yJ6_bitCount_0f7a4 cJ6_bitCount_0f7a4 1 (some .int) 1 := ⟨(am_pl 773 (by decide +kernel) rfl), (am_pl 89 (by decide +kernel) rfl), (am_pl 774 (by decide +kernel) rfl), by decide +kernel⟩
set_option maxRecDepth 100000 in
theorem yv_J7_fill_53178 : am_yS yJ7_fill_53178 cJ7_fill_53178 4 none 2 := ⟨(am_pl 107 (by decide +kernel) rfl), (am_pl 75 (by decide +kernel) rfl), (am_pl 108 (by decide +kernel) rfl), by decide +kernel⟩
set_option maxRecDepth 100000 in
theorem yv_J7_fill_d0a16 : am_yS yJ7_fill_d0a16 cJ7_fill_d0a16 5 none 2 := ⟨(am_pl 329 (by decide +kernel) rfl), (am_pl 75 (by decide +kernel) rfl), (am_pl 330 (by decide +kernel) rfl), by decide +kernel⟩
set_option maxRecDepth 100000 in
theorem yv_X0_actInTruth : am_yV yX0_actInTruth cX0_actInTruth 4 (some .boolean) 2 := ⟨(am_pl 906 (by decide +kernel) rfl), (am_pl 907 (by decide +kernel) rfl), (am_pl 74 (by decide +kernel) rfl), (am_pl 908 (by decide +kernel) rfl), by decide +kernel⟩
set_option maxRecDepth 100000 in
theorem yv_X0_addPass : am_yV yX0_addPass cX0_addPass 6 (some .int) 4 := ⟨(am_pl 440 (by decide +kernel) rfl), (am_pl 441 (by decide +kernel) rfl), (am_pl 74 (by decide +kernel) rfl), (am_pl 442 (by decide +kernel) rfl), by decide +kernel⟩
set_option maxRecDepth 100000 in
theorem yv_X0_addPerson : am_yV yX0_addPerson cX0_addPerson 5 (some .int) 3 := ⟨(am_pl 448 (by decide +kernel) rfl), (am_pl 449 (by decide +kernel) rfl), (am_pl 74 (by decide +kernel) rfl), (am_pl 450 (by decide +kernel) rfl), by decide +kernel⟩
set_option maxRecDepth 100000 in
theorem yv_X0_becomes : am_yV yX0_becomes cX0_becomes 2 none 1 := ⟨(am_pl 506 (by decide +kernel) rfl), (am_pl 507 (by decide +kernel) rfl), (am_pl 74 (by decide +kernel) rfl), (am_pl 508 (by decide +kernel) rfl), by decide +kernel⟩
set_option maxRecDepth 100000 in
theorem yv_X0_copyTable : am_yS yX0_copyTable cX0_copyTable 5 none 4 := ⟨(am_pl 510 (by decide +kernel) rfl), (am_pl 74 (by decide +kernel) rfl), (am_pl 511 (by decide +kernel) rfl), by decide +kernel⟩
set_option maxRecDepth 100000 in
theorem yv_X0_drawAct : am_yV yX0_drawAct cX0_drawAct 3 (some .int) 1 := ⟨(am_pl 921 (by decide +kernel) rfl), (am_pl 29 (by decide +kernel) rfl), (am_pl 74 (by decide +kernel) rfl), (am_pl 922 (by decide +kernel) rfl), by decide +kernel⟩
set_option maxRecDepth 100000 in
theorem yv_X0_endOf : am_yV yX0_endOf cX0_endOf 4 (some .int) 2 := ⟨(am_pl 623 (by decide +kernel) rfl), (am_pl 624 (by decide +kernel) rfl), (am_pl 74 (by decide +kernel) rfl), (am_pl 625 (by decide +kernel) rfl), by decide +kernel⟩
set_option maxRecDepth 100000 in
theorem yv_X0_fareOf : am_yV yX0_fareOf cX0_fareOf 4 (some .int) 2 := ⟨(am_pl 412 (by decide +kernel) rfl), (am_pl 2 (by decide +kernel) rfl), (am_pl 74 (by decide +kernel) rfl), (am_pl 413 (by decide +kernel) rfl), by decide +kernel⟩
set_option maxRecDepth 100000 in
theorem yv_X0_hasPass : am_yV yX0_hasPass cX0_hasPass 2 (some .boolean) 1 := ⟨(am_pl 478 (by decide +kernel) rfl), (am_pl 479 (by decide +kernel) rfl), (am_pl 74 (by decide +kernel) rfl), (am_pl 480 (by decide +kernel) rfl), by decide +kernel⟩
set_option maxRecDepth 100000 in
theorem yv_X0_hasPerson : am_yV yX0_hasPerson cX0_hasPerson 2 (some .boolean) 1 := ⟨(am_pl 394 (by decide +kernel) rfl), (am_pl 395 (by decide +kernel) rfl), (am_pl 74 (by decide +kernel) rfl), (am_pl 396 (by decide +kernel) rfl), by decide +kernel⟩
set_option maxRecDepth 100000 in
theorem yv_X0_hoursOf : am_yV yX0_hoursOf cX0_hoursOf 4 (some .int) 2 := ⟨(am_pl 646 (by decide +kernel) rfl), (am_pl 647 (by decide +kernel) rfl), (am_pl 74 (by decide +kernel) rfl), (am_pl 648 (by decide +kernel) rfl), by decide +kernel⟩
set_option maxRecDepth 100000 in
theorem yv_X0_passFrom : am_yV yX0_passFrom cX0_passFrom 5 (some .int) 2 := ⟨(am_pl 422 (by decide +kernel) rfl), (am_pl 3 (by decide +kernel) rfl), (am_pl 74 (by decide +kernel) rfl), (am_pl 423 (by decide +kernel) rfl), by decide +kernel⟩
set_option maxRecDepth 100000 in
theorem yv_X0_passWeeks : am_yV yX0_passWeeks cX0_passWeeks 5 (some .int) 1 := ⟨(am_pl 916 (by decide +kernel) rfl), (am_pl 917 (by decide +kernel) rfl), (am_pl 74 (by decide +kernel) rfl), (am_pl 918 (by decide +kernel) rfl), by decide +kernel⟩
set_option maxRecDepth 100000 in
theorem yv_X0_payAt : am_yV yX0_payAt cX0_payAt 2 (some .int) 1 := ⟨(am_pl 737 (by decide +kernel) rfl), (am_pl 738 (by decide +kernel) rfl), (am_pl 74 (by decide +kernel) rfl), (am_pl 739 (by decide +kernel) rfl), by decide +kernel⟩
set_option maxRecDepth 100000 in
theorem yv_X0_peopleAt : am_yV yX0_peopleAt cX0_peopleAt 4 (some .int) 1 := ⟨(am_pl 470 (by decide +kernel) rfl), (am_pl 471 (by decide +kernel) rfl), (am_pl 74 (by decide +kernel) rfl), (am_pl 472 (by decide +kernel) rfl), by decide +kernel⟩
set_option maxRecDepth 100000 in
theorem yv_X0_priceFor : am_yV yX0_priceFor cX0_priceFor 5 (some .int) 3 := ⟨(am_pl 407 (by decide +kernel) rfl), (am_pl 408 (by decide +kernel) rfl), (am_pl 74 (by decide +kernel) rfl), (am_pl 409 (by decide +kernel) rfl), by decide +kernel⟩
set_option maxRecDepth 100000 in
theorem yv_X0_together : am_yV yX0_together cX0_together 4 (some .int) 1 := ⟨(am_pl 946 (by decide +kernel) rfl), (am_pl 947 (by decide +kernel) rfl), (am_pl 74 (by decide +kernel) rfl), (am_pl 948 (by decide +kernel) rfl), by decide +kernel⟩
set_option maxRecDepth 100000 in
theorem yv_X0_tryAct : am_yV yX0_tryAct cX0_tryAct 3 (some .boolean) 2 := ⟨(am_pl 864 (by decide +kernel) rfl), (am_pl 865 (by decide +kernel) rfl), (am_pl 74 (by decide +kernel) rfl), (am_pl 866 (by decide +kernel) rfl), by decide +kernel⟩
set_option maxRecDepth 100000 in
theorem yv_X0_tryRest : am_yS yX0_tryRest cX0_tryRest 1 (some .boolean) 1 := ⟨(am_pl 874 (by decide +kernel) rfl), (am_pl 74 (by decide +kernel) rfl), (am_pl 875 (by decide +kernel) rfl), by decide +kernel⟩
set_option maxRecDepth 100000 in
theorem yv_X0_tryStep : am_yV yX0_tryStep cX0_tryStep 5 (some .boolean) 2 := ⟨(am_pl 879 (by decide +kernel) rfl), (am_pl 27 (by decide +kernel) rfl), (am_pl 74 (by decide +kernel) rfl), (am_pl 880 (by decide +kernel) rfl), by decide +kernel⟩
set_option maxRecDepth 100000 in
theorem yv_X0_tryWork : am_yV yX0_tryWork cX0_tryWork 2 (some .boolean) 1 := ⟨(am_pl 869 (by decide +kernel) rfl), (am_pl 26 (by decide +kernel) rfl), (am_pl 74 (by decide +kernel) rfl), (am_pl 870 (by decide +kernel) rfl), by decide +kernel⟩
set_option maxRecDepth 100000 in
theorem yv_X0_valleyAhead : am_yS yX0_valleyAhead cX0_valleyAhead 1 (some .int) 1 := ⟨(am_pl 418 (by decide +kernel) rfl), (am_pl 74 (by decide +kernel) rfl), (am_pl 419 (by decide +kernel) rfl), by decide +kernel⟩
set_option maxRecDepth 100000 in
theorem yv_X1_findWrong : am_yV yX1_findWrong cX1_findWrong 6 (some .int) 4 := ⟨(am_pl 853 (by decide +kernel) rfl), (am_pl 854 (by decide +kernel) rfl), (am_pl 81 (by decide +kernel) rfl), (am_pl 855 (by decide +kernel) rfl), by decide +kernel⟩
set_option maxRecDepth 100000 in
theorem yv_X2_copyElements : am_yV yX2_copyElements cX2_copyElements 6 none 5 := ⟨(am_pl 370 (by decide +kernel) rfl), (am_pl 371 (by decide +kernel) rfl), (am_pl 76 (by decide +kernel) rfl), (am_pl 372 (by decide +kernel) rfl), by decide +kernel⟩
set_option maxRecDepth 100000 in
theorem yv_X2_elementAt : am_yV yX2_elementAt cX2_elementAt 3 (some .long) 2 := ⟨(am_pl 382 (by decide +kernel) rfl), (am_pl 383 (by decide +kernel) rfl), (am_pl 76 (by decide +kernel) rfl), (am_pl 384 (by decide +kernel) rfl), by decide +kernel⟩
set_option maxRecDepth 100000 in
theorem yv_X2_hasElement : am_yV yX2_hasElement cX2_hasElement 3 (some .boolean) 2 := ⟨(am_pl 344 (by decide +kernel) rfl), (am_pl 345 (by decide +kernel) rfl), (am_pl 76 (by decide +kernel) rfl), (am_pl 346 (by decide +kernel) rfl), by decide +kernel⟩
set_option maxRecDepth 100000 in
theorem yv_X2_hasElements : am_yV yX2_hasElements cX2_hasElements 4 (some .boolean) 3 := ⟨(am_pl 366 (by decide +kernel) rfl), (am_pl 367 (by decide +kernel) rfl), (am_pl 76 (by decide +kernel) rfl), (am_pl 368 (by decide +kernel) rfl), by decide +kernel⟩
set_option maxRecDepth 100000 in
theorem yv_X2_howManyHold : am_yV yX2_howManyHold cX2_howManyHold 3 (some .int) 0 := ⟨(am_pl 950 (by decide +kernel) rfl), (am_pl 951 (by decide +kernel) rfl), (am_pl 76 (by decide +kernel) rfl), (am_pl 952 (by decide +kernel) rfl), by decide +kernel⟩
set_option maxRecDepth 100000 in
theorem yv_X2_isRow : am_yV yX2_isRow cX2_isRow 2 (some .boolean) 1 := ⟨(am_pl 341 (by decide +kernel) rfl), (am_pl 1 (by decide +kernel) rfl), (am_pl 76 (by decide +kernel) rfl), (am_pl 342 (by decide +kernel) rfl), by decide +kernel⟩
set_option maxRecDepth 100000 in
theorem yv_X2_keepPeopleBelow : am_yV yX2_keepPeopleBelow cX2_keepPeopleBelow 3 none 1 := ⟨(am_pl 938 (by decide +kernel) rfl), (am_pl 939 (by decide +kernel) rfl), (am_pl 76 (by decide +kernel) rfl), (am_pl 940 (by decide +kernel) rfl), by decide +kernel⟩
set_option maxRecDepth 100000 in
theorem yv_X2_narrowed : am_yS yX2_narrowed cX2_narrowed 3 (some .long) 2 := ⟨(am_pl 354 (by decide +kernel) rfl), (am_pl 76 (by decide +kernel) rfl), (am_pl 355 (by decide +kernel) rfl), by decide +kernel⟩
set_option maxRecDepth 100000 in
theorem yv_X2_putElement : am_yV yX2_putElement cX2_putElement 5 none 3 := ⟨(am_pl 349 (by decide +kernel) rfl), (am_pl 350 (by decide +kernel) rfl), (am_pl 76 (by decide +kernel) rfl), (am_pl 351 (by decide +kernel) rfl), by decide +kernel⟩
set_option maxRecDepth 100000 in
theorem yv_X2_putRow : am_yV yX2_putRow cX2_putRow 4 none 3 := ⟨(am_pl 325 (by decide +kernel) rfl), (am_pl 326 (by decide +kernel) rfl), (am_pl 76 (by decide +kernel) rfl), (am_pl 327 (by decide +kernel) rfl), by decide +kernel⟩
set_option maxRecDepth 100000 in
theorem yv_X2_refusalOfRow : am_yV yX2_refusalOfRow cX2_refusalOfRow 2 (some .int) 1 := ⟨(am_pl 336 (by decide +kernel) rfl), (am_pl 337 (by decide +kernel) rfl), (am_pl 76 (by decide +kernel) rfl), (am_pl 338 (by decide +kernel) rfl), by decide +kernel⟩
set_option maxRecDepth 100000 in
theorem yv_X2_refusalOfTwoRows : am_yV yX2_refusalOfTwoRows cX2_refusalOfTwoRows 6 (some .int) 2 := ⟨(am_pl 361 (by decide +kernel) rfl), (am_pl 362 (by decide +kernel) rfl), (am_pl 76 (by decide +kernel) rfl), (am_pl 363 (by decide +kernel) rfl), by decide +kernel⟩
set_option maxRecDepth 100000 in
theorem yv_X3_comeTo : am_yV yX3_comeTo cX3_comeTo 4 (some .int) 1 := ⟨(am_pl 832 (by decide +kernel) rfl), (am_pl 833 (by decide +kernel) rfl), (am_pl 80 (by decide +kernel) rfl), (am_pl 834 (by decide +kernel) rfl), by decide +kernel⟩
set_option maxRecDepth 100000 in
theorem yv_X3_follow : am_yV yX3_follow cX3_follow 7 none 4 := ⟨(am_pl 815 (by decide +kernel) rfl), (am_pl 816 (by decide +kernel) rfl), (am_pl 80 (by decide +kernel) rfl), (am_pl 817 (by decide +kernel) rfl), by decide +kernel⟩
set_option maxRecDepth 100000 in
theorem yv_X3_forged : am_yV yX3_forged cX3_forged 3 (some .int) 1 := ⟨(am_pl 836 (by decide +kernel) rfl), (am_pl 837 (by decide +kernel) rfl), (am_pl 80 (by decide +kernel) rfl), (am_pl 838 (by decide +kernel) rfl), by decide +kernel⟩
set_option maxRecDepth 100000 in
theorem yv_X3_howMany : am_yV yX3_howMany cX3_howMany 4 (some .int) 1 := ⟨(am_pl 828 (by decide +kernel) rfl), (am_pl 829 (by decide +kernel) rfl), (am_pl 80 (by decide +kernel) rfl), (am_pl 830 (by decide +kernel) rfl), by decide +kernel⟩
set_option maxRecDepth 100000 in
theorem yv_X3_howManySure : am_yV yX3_howManySure cX3_howManySure 7 (some .int) 3 := ⟨(am_pl 841 (by decide +kernel) rfl), (am_pl 842 (by decide +kernel) rfl), (am_pl 80 (by decide +kernel) rfl), (am_pl 843 (by decide +kernel) rfl), by decide +kernel⟩
set_option maxRecDepth 100000 in
theorem yv_X3_leadingInto : am_yS yX3_leadingInto cX3_leadingInto 6 (some .int) 2 := ⟨(am_pl 846 (by decide +kernel) rfl), (am_pl 80 (by decide +kernel) rfl), (am_pl 847 (by decide +kernel) rfl), by decide +kernel⟩
set_option maxRecDepth 100000 in
theorem yv_X3_stepOn : am_yV yX3_stepOn cX3_stepOn 9 none 4 := ⟨(am_pl 821 (by decide +kernel) rfl), (am_pl 25 (by decide +kernel) rfl), (am_pl 80 (by decide +kernel) rfl), (am_pl 822 (by decide +kernel) rfl), by decide +kernel⟩
set_option maxRecDepth 100000 in
theorem yv_X4_comeToPass : am_yV yX4_comeToPass cX4_comeToPass 2 none 1 := ⟨(am_pl 612 (by decide +kernel) rfl), (am_pl 12 (by decide +kernel) rfl), (am_pl 77 (by decide +kernel) rfl), (am_pl 613 (by decide +kernel) rfl), by decide +kernel⟩
set_option maxRecDepth 100000 in
theorem yv_X4_hasRoomFor : am_yV yX4_hasRoomFor cX4_hasRoomFor 2 (some .boolean) 1 := ⟨(am_pl 594 (by decide +kernel) rfl), (am_pl 8 (by decide +kernel) rfl), (am_pl 77 (by decide +kernel) rfl), (am_pl 595 (by decide +kernel) rfl), by decide +kernel⟩
set_option maxRecDepth 100000 in
theorem yv_X4_isWord : am_yV yX4_isWord cX4_isWord 3 (some .boolean) 1 := ⟨(am_pl 542 (by decide +kernel) rfl), (am_pl 7 (by decide +kernel) rfl), (am_pl 77 (by decide +kernel) rfl), (am_pl 543 (by decide +kernel) rfl), by decide +kernel⟩
set_option maxRecDepth 100000 in
theorem yv_X4_mostOf : am_yV yX4_mostOf cX4_mostOf 2 (some .int) 1 := ⟨(am_pl 608 (by decide +kernel) rfl), (am_pl 11 (by decide +kernel) rfl), (am_pl 77 (by decide +kernel) rfl), (am_pl 609 (by decide +kernel) rfl), by decide +kernel⟩
set_option maxRecDepth 100000 in
theorem yv_X4_nextToken : am_yV yX4_nextToken cX4_nextToken 1 none 0 := ⟨(am_pl 519 (by decide +kernel) rfl), (am_pl 5 (by decide +kernel) rfl), (am_pl 77 (by decide +kernel) rfl), (am_pl 520 (by decide +kernel) rfl), by decide +kernel⟩
set_option maxRecDepth 100000 in
theorem yv_X4_putByte : am_yV yX4_putByte cX4_putByte 2 none 1 := ⟨(am_pl 490 (by decide +kernel) rfl), (am_pl 491 (by decide +kernel) rfl), (am_pl 77 (by decide +kernel) rfl), (am_pl 492 (by decide +kernel) rfl), by decide +kernel⟩
set_option maxRecDepth 100000 in
theorem yv_X4_readLand : am_yV yX4_readLand cX4_readLand 3 (some .int) 1 := ⟨(am_pl 502 (by decide +kernel) rfl), (am_pl 503 (by decide +kernel) rfl), (am_pl 77 (by decide +kernel) rfl), (am_pl 504 (by decide +kernel) rfl), by decide +kernel⟩
set_option maxRecDepth 100000 in
theorem yv_X4_readNumber : am_yV yX4_readNumber cX4_readNumber 6 (some .boolean) 2 := ⟨(am_pl 600 (by decide +kernel) rfl), (am_pl 9 (by decide +kernel) rfl), (am_pl 77 (by decide +kernel) rfl), (am_pl 601 (by decide +kernel) rfl), by decide +kernel⟩
set_option maxRecDepth 100000 in
theorem yv_X4_readStatement : am_yV yX4_readStatement cX4_readStatement 4 (some .boolean) 0 := ⟨(am_pl 515 (by decide +kernel) rfl), (am_pl 4 (by decide +kernel) rfl), (am_pl 77 (by decide +kernel) rfl), (am_pl 516 (by decide +kernel) rfl), by decide +kernel⟩
set_option maxRecDepth 100000 in
theorem yv_X4_statementOfWord : am_yV yX4_statementOfWord cX4_statementOfWord 2 (some .int) 0 := ⟨(am_pl 526 (by decide +kernel) rfl), (am_pl 6 (by decide +kernel) rfl), (am_pl 77 (by decide +kernel) rfl), (am_pl 527 (by decide +kernel) rfl), by decide +kernel⟩
set_option maxRecDepth 100000 in
theorem yv_X4_tokenNumber : am_yV yX4_tokenNumber cX4_tokenNumber 3 (some .int) 0 := ⟨(am_pl 604 (by decide +kernel) rfl), (am_pl 10 (by decide +kernel) rfl), (am_pl 77 (by decide +kernel) rfl), (am_pl 605 (by decide +kernel) rfl), by decide +kernel⟩
set_option maxRecDepth 100000 in
theorem yv_X4_tokenOf : am_yS yX4_tokenOf cX4_tokenOf 1 (some .int) 1 := ⟨(am_pl 522 (by decide +kernel) rfl), (am_pl 77 (by decide +kernel) rfl), (am_pl 523 (by decide +kernel) rfl), by decide +kernel⟩
set_option maxRecDepth 100000 in
theorem yv_X4_wordOf : am_yS yX4_wordOf cX4_wordOf 1 (some (.object "java/lang/String")) 1 := ⟨(am_pl 529 (by decide +kernel) rfl), (am_pl 77 (by decide +kernel) rfl), (am_pl 530 (by decide +kernel) rfl), by decide +kernel⟩
set_option maxRecDepth 100000 in
theorem yv_X5_costWith : am_yV yX5_costWith cX5_costWith 4 (some .int) 3 := ⟨(am_pl 784 (by decide +kernel) rfl), (am_pl 22 (by decide +kernel) rfl), (am_pl 79 (by decide +kernel) rfl), (am_pl 785 (by decide +kernel) rfl), by decide +kernel⟩
set_option maxRecDepth 100000 in
theorem yv_X5_fillSet : am_yV yX5_fillSet cX5_fillSet 6 none 4 := ⟨(am_pl 676 (by decide +kernel) rfl), (am_pl 16 (by decide +kernel) rfl), (am_pl 79 (by decide +kernel) rfl), (am_pl 677 (by decide +kernel) rfl), by decide +kernel⟩
set_option maxRecDepth 100000 in
theorem yv_X5_findOrder : am_yV yX5_findOrder cX5_findOrder 7 (some .int) 3 := ⟨(am_pl 708 (by decide +kernel) rfl), (am_pl 709 (by decide +kernel) rfl), (am_pl 79 (by decide +kernel) rfl), (am_pl 710 (by decide +kernel) rfl), by decide +kernel⟩
set_option maxRecDepth 100000 in
theorem yv_X5_firstHome : am_yV yX5_firstHome cX5_firstHome 6 (some .int) 2 := ⟨(am_pl 780 (by decide +kernel) rfl), (am_pl 21 (by decide +kernel) rfl), (am_pl 79 (by decide +kernel) rfl), (am_pl 781 (by decide +kernel) rfl), by decide +kernel⟩
set_option maxRecDepth 100000 in
theorem yv_X5_firstNext : am_yV yX5_firstNext cX5_firstNext 6 (some .int) 3 := ⟨(am_pl 714 (by decide +kernel) rfl), (am_pl 20 (by decide +kernel) rfl), (am_pl 79 (by decide +kernel) rfl), (am_pl 715 (by decide +kernel) rfl), by decide +kernel⟩
set_option maxRecDepth 100000 in
theorem yv_X5_leastByNext : am_yV yX5_leastByNext cX5_leastByNext 6 (some .int) 3 := ⟨(am_pl 681 (by decide +kernel) rfl), (am_pl 17 (by decide +kernel) rfl), (am_pl 79 (by decide +kernel) rfl), (am_pl 682 (by decide +kernel) rfl), by decide +kernel⟩
set_option maxRecDepth 100000 in
theorem yv_X5_leastFrom : am_yV yX5_leastFrom cX5_leastFrom 7 (some .int) 4 := ⟨(am_pl 672 (by decide +kernel) rfl), (am_pl 15 (by decide +kernel) rfl), (am_pl 79 (by decide +kernel) rfl), (am_pl 673 (by decide +kernel) rfl), by decide +kernel⟩
set_option maxRecDepth 100000 in
theorem yv_X5_leastOver : am_yV yX5_leastOver cX5_leastOver 5 (some .int) 4 := ⟨(am_pl 686 (by decide +kernel) rfl), (am_pl 18 (by decide +kernel) rfl), (am_pl 79 (by decide +kernel) rfl), (am_pl 687 (by decide +kernel) rfl), by decide +kernel⟩
set_option maxRecDepth 100000 in
theorem yv_X5_leastTour : am_yV yX5_leastTour cX5_leastTour 6 (some .int) 4 := ⟨(am_pl 666 (by decide +kernel) rfl), (am_pl 667 (by decide +kernel) rfl), (am_pl 79 (by decide +kernel) rfl), (am_pl 668 (by decide +kernel) rfl), by decide +kernel⟩
set_option maxRecDepth 100000 in
theorem yv_X5_savedBy : am_yV yX5_savedBy cX5_savedBy 6 (some .int) 3 := ⟨(am_pl 721 (by decide +kernel) rfl), (am_pl 722 (by decide +kernel) rfl), (am_pl 79 (by decide +kernel) rfl), (am_pl 723 (by decide +kernel) rfl), by decide +kernel⟩
set_option maxRecDepth 100000 in
theorem yv_X5_settle : am_yV yX5_settle cX5_settle 7 (some .int) 2 := ⟨(am_pl 769 (by decide +kernel) rfl), (am_pl 770 (by decide +kernel) rfl), (am_pl 79 (by decide +kernel) rfl), (am_pl 771 (by decide +kernel) rfl), by decide +kernel⟩
set_option maxRecDepth 100000 in
theorem yv_X6_bestPlace : am_yV yX6_bestPlace cX6_bestPlace 7 (some .int) 2 := ⟨(am_pl 792 (by decide +kernel) rfl), (am_pl 793 (by decide +kernel) rfl), (am_pl 78 (by decide +kernel) rfl), (am_pl 794 (by decide +kernel) rfl), by decide +kernel⟩
set_option maxRecDepth 100000 in
theorem yv_X6_between : am_yV yX6_between cX6_between 3 (some .int) 2 := ⟨(am_pl 657 (by decide +kernel) rfl), (am_pl 658 (by decide +kernel) rfl), (am_pl 78 (by decide +kernel) rfl), (am_pl 659 (by decide +kernel) rfl), by decide +kernel⟩
set_option maxRecDepth 100000 in
theorem yv_X6_findRoute : am_yV yX6_findRoute cX6_findRoute 7 (some .int) 3 := ⟨(am_pl 694 (by decide +kernel) rfl), (am_pl 695 (by decide +kernel) rfl), (am_pl 78 (by decide +kernel) rfl), (am_pl 696 (by decide +kernel) rfl), by decide +kernel⟩
set_option maxRecDepth 100000 in
theorem yv_X6_firstStep : am_yV yX6_firstStep cX6_firstStep 8 (some .int) 4 := ⟨(am_pl 700 (by decide +kernel) rfl), (am_pl 19 (by decide +kernel) rfl), (am_pl 78 (by decide +kernel) rfl), (am_pl 701 (by decide +kernel) rfl), by decide +kernel⟩
set_option maxRecDepth 100000 in
theorem yv_X6_measure : am_yV yX6_measure cX6_measure 9 none 4 := ⟨(am_pl 635 (by decide +kernel) rfl), (am_pl 636 (by decide +kernel) rfl), (am_pl 78 (by decide +kernel) rfl), (am_pl 637 (by decide +kernel) rfl), by decide +kernel⟩
set_option maxRecDepth 100000 in
theorem yv_X6_shortenBy : am_yV yX6_shortenBy cX6_shortenBy 4 none 1 := ⟨(am_pl 654 (by decide +kernel) rfl), (am_pl 14 (by decide +kernel) rfl), (am_pl 78 (by decide +kernel) rfl), (am_pl 655 (by decide +kernel) rfl), by decide +kernel⟩
set_option maxRecDepth 100000 in
theorem yv_X6_weight : am_yS yX6_weight cX6_weight 5 (some .int) 5 := ⟨(am_pl 642 (by decide +kernel) rfl), (am_pl 78 (by decide +kernel) rfl), (am_pl 643 (by decide +kernel) rfl), by decide +kernel⟩
set_option maxRecDepth 100000 in
theorem yv_X7_act : am_yV yX7_act cX7_act 3 (some .int) 2 := ⟨(am_pl 901 (by decide +kernel) rfl), (am_pl 902 (by decide +kernel) rfl), (am_pl 73 (by decide +kernel) rfl), (am_pl 903 (by decide +kernel) rfl), by decide +kernel⟩
set_option maxRecDepth 100000 in
theorem yv_X7_alike : am_yV yX7_alike cX7_alike 5 (some .int) 2 := ⟨(am_pl 761 (by decide +kernel) rfl), (am_pl 762 (by decide +kernel) rfl), (am_pl 73 (by decide +kernel) rfl), (am_pl 763 (by decide +kernel) rfl), by decide +kernel⟩
set_option maxRecDepth 100000 in
theorem yv_X7_areStamps : am_yV yX7_areStamps cX7_areStamps 6 (some .boolean) 2 := ⟨(am_pl 810 (by decide +kernel) rfl), (am_pl 24 (by decide +kernel) rfl), (am_pl 73 (by decide +kernel) rfl), (am_pl 811 (by decide +kernel) rfl), by decide +kernel⟩
set_option maxRecDepth 100000 in
theorem yv_X7_ask : am_yV yX7_ask cX7_ask 5 (some .int) 3 := ⟨(am_pl 428 (by decide +kernel) rfl), (am_pl 429 (by decide +kernel) rfl), (am_pl 73 (by decide +kernel) rfl), (am_pl 430 (by decide +kernel) rfl), by decide +kernel⟩
set_option maxRecDepth 100000 in
theorem yv_X7_back : am_yV yX7_back cX7_back 1 (some .int) 0 := ⟨(am_pl 934 (by decide +kernel) rfl), (am_pl 935 (by decide +kernel) rfl), (am_pl 73 (by decide +kernel) rfl), (am_pl 936 (by decide +kernel) rfl), by decide +kernel⟩
set_option maxRecDepth 100000 in
theorem yv_X7_behind : am_yV yX7_behind cX7_behind 6 (some .int) 4 := ⟨(am_pl 884 (by decide +kernel) rfl), (am_pl 885 (by decide +kernel) rfl), (am_pl 73 (by decide +kernel) rfl), (am_pl 886 (by decide +kernel) rfl), by decide +kernel⟩
set_option maxRecDepth 100000 in
theorem yv_X7_bestPass : am_yV yX7_bestPass cX7_bestPass 5 (some .int) 0 := ⟨(am_pl 725 (by decide +kernel) rfl), (am_pl 726 (by decide +kernel) rfl), (am_pl 73 (by decide +kernel) rfl), (am_pl 727 (by decide +kernel) rfl), by decide +kernel⟩
set_option maxRecDepth 100000 in
theorem yv_X7_copy : am_yV yX7_copy cX7_copy 7 (some .int) 5 := ⟨(am_pl 357 (by decide +kernel) rfl), (am_pl 358 (by decide +kernel) rfl), (am_pl 73 (by decide +kernel) rfl), (am_pl 359 (by decide +kernel) rfl), by decide +kernel⟩
set_option maxRecDepth 100000 in
theorem yv_X7_crowd : am_yV yX7_crowd cX7_crowd 5 (some .int) 0 := ⟨(am_pl 749 (by decide +kernel) rfl), (am_pl 750 (by decide +kernel) rfl), (am_pl 73 (by decide +kernel) rfl), (am_pl 751 (by decide +kernel) rfl), by decide +kernel⟩
set_option maxRecDepth 100000 in
theorem yv_X7_dearest : am_yV yX7_dearest cX7_dearest 7 (some .int) 1 := ⟨(am_pl 757 (by decide +kernel) rfl), (am_pl 758 (by decide +kernel) rfl), (am_pl 73 (by decide +kernel) rfl), (am_pl 759 (by decide +kernel) rfl), by decide +kernel⟩
set_option maxRecDepth 100000 in
theorem yv_X7_done : am_yV yX7_done cX7_done 6 (some .int) 3 := ⟨(am_pl 892 (by decide +kernel) rfl), (am_pl 893 (by decide +kernel) rfl), (am_pl 73 (by decide +kernel) rfl), (am_pl 894 (by decide +kernel) rfl), by decide +kernel⟩
set_option maxRecDepth 100000 in
theorem yv_X7_duty : am_yV yX7_duty cX7_duty 7 (some .int) 3 := ⟨(am_pl 452 (by decide +kernel) rfl), (am_pl 453 (by decide +kernel) rfl), (am_pl 73 (by decide +kernel) rfl), (am_pl 454 (by decide +kernel) rfl), by decide +kernel⟩
set_option maxRecDepth 100000 in
theorem yv_X7_element : am_yV yX7_element cX7_element 3 (some .long) 2 := ⟨(am_pl 378 (by decide +kernel) rfl), (am_pl 379 (by decide +kernel) rfl), (am_pl 73 (by decide +kernel) rfl), (am_pl 380 (by decide +kernel) rfl), by decide +kernel⟩
set_option maxRecDepth 100000 in
theorem yv_X7_feed : am_yV yX7_feed cX7_feed 2 (some .int) 1 := ⟨(am_pl 486 (by decide +kernel) rfl), (am_pl 487 (by decide +kernel) rfl), (am_pl 73 (by decide +kernel) rfl), (am_pl 488 (by decide +kernel) rfl), by decide +kernel⟩
set_option maxRecDepth 100000 in
theorem yv_X7_first : am_yV yX7_first cX7_first 6 (some .int) 1 := ⟨(am_pl 729 (by decide +kernel) rfl), (am_pl 730 (by decide +kernel) rfl), (am_pl 73 (by decide +kernel) rfl), (am_pl 731 (by decide +kernel) rfl), by decide +kernel⟩
set_option maxRecDepth 100000 in
theorem yv_X7_holds : am_yV yX7_holds cX7_holds 2 (some .int) 1 := ⟨(am_pl 386 (by decide +kernel) rfl), (am_pl 387 (by decide +kernel) rfl), (am_pl 73 (by decide +kernel) rfl), (am_pl 388 (by decide +kernel) rfl), by decide +kernel⟩
set_option maxRecDepth 100000 in
theorem yv_X7_homes : am_yV yX7_homes cX7_homes 3 (some .int) 1 := ⟨(am_pl 765 (by decide +kernel) rfl), (am_pl 766 (by decide +kernel) rfl), (am_pl 73 (by decide +kernel) rfl), (am_pl 767 (by decide +kernel) rfl), by decide +kernel⟩
set_option maxRecDepth 100000 in
theorem yv_X7_image : am_yV yX7_image cX7_image 1 (some .int) 0 := ⟨(am_pl 930 (by decide +kernel) rfl), (am_pl 931 (by decide +kernel) rfl), (am_pl 73 (by decide +kernel) rfl), (am_pl 932 (by decide +kernel) rfl), by decide +kernel⟩
set_option maxRecDepth 100000 in
theorem yv_X7_isAct : am_yS yX7_isAct cX7_isAct 2 (some .boolean) 1 := ⟨(am_pl 858 (by decide +kernel) rfl), (am_pl 73 (by decide +kernel) rfl), (am_pl 859 (by decide +kernel) rfl), by decide +kernel⟩
set_option maxRecDepth 100000 in
theorem yv_X7_isOfKind : am_yS yX7_isOfKind cX7_isOfKind 4 (some .boolean) 2 := ⟨(am_pl 402 (by decide +kernel) rfl), (am_pl 73 (by decide +kernel) rfl), (am_pl 403 (by decide +kernel) rfl), by decide +kernel⟩
set_option maxRecDepth 100000 in
theorem yv_X7_isShelf : am_yS yX7_isShelf cX7_isShelf 1 (some .boolean) 1 := ⟨(am_pl 315 (by decide +kernel) rfl), (am_pl 73 (by decide +kernel) rfl), (am_pl 316 (by decide +kernel) rfl), by decide +kernel⟩
set_option maxRecDepth 100000 in
theorem yv_X7_isValley : am_yS yX7_isValley cX7_isValley 1 (some .boolean) 1 := ⟨(am_pl 415 (by decide +kernel) rfl), (am_pl 73 (by decide +kernel) rfl), (am_pl 416 (by decide +kernel) rfl), by decide +kernel⟩
set_option maxRecDepth 100000 in
theorem yv_X7_isWithin : am_yS yX7_isWithin cX7_isWithin 3 (some .boolean) 3 := ⟨(am_pl 318 (by decide +kernel) rfl), (am_pl 73 (by decide +kernel) rfl), (am_pl 319 (by decide +kernel) rfl), by decide +kernel⟩
set_option maxRecDepth 100000 in
theorem yv_X7_journeys : am_yV yX7_journeys cX7_journeys 6 (some .int) 4 := ⟨(am_pl 801 (by decide +kernel) rfl), (am_pl 802 (by decide +kernel) rfl), (am_pl 73 (by decide +kernel) rfl), (am_pl 803 (by decide +kernel) rfl), by decide +kernel⟩
set_option maxRecDepth 100000 in
theorem yv_X7_judge : am_yV yX7_judge cX7_judge 5 (some .int) 3 := ⟨(am_pl 849 (by decide +kernel) rfl), (am_pl 850 (by decide +kernel) rfl), (am_pl 73 (by decide +kernel) rfl), (am_pl 851 (by decide +kernel) rfl), by decide +kernel⟩
set_option maxRecDepth 100000 in
theorem yv_X7_land : am_yV yX7_land cX7_land 2 (some .int) 0 := ⟨(am_pl 498 (by decide +kernel) rfl), (am_pl 499 (by decide +kernel) rfl), (am_pl 73 (by decide +kernel) rfl), (am_pl 500 (by decide +kernel) rfl), by decide +kernel⟩
set_option maxRecDepth 100000 in
theorem yv_X7_leastWay : am_yV yX7_leastWay cX7_leastWay 5 (some .int) 3 := ⟨(am_pl 632 (by decide +kernel) rfl), (am_pl 13 (by decide +kernel) rfl), (am_pl 73 (by decide +kernel) rfl), (am_pl 633 (by decide +kernel) rfl), by decide +kernel⟩
set_option maxRecDepth 100000 in
theorem yv_X7_longest : am_yV yX7_longest cX7_longest 3 (some .int) 1 := ⟨(am_pl 897 (by decide +kernel) rfl), (am_pl 898 (by decide +kernel) rfl), (am_pl 73 (by decide +kernel) rfl), (am_pl 899 (by decide +kernel) rfl), by decide +kernel⟩
set_option maxRecDepth 100000 in
theorem yv_X7_market : am_yV yX7_market cX7_market 1 (some .int) 0 := ⟨(am_pl 788 (by decide +kernel) rfl), (am_pl 789 (by decide +kernel) rfl), (am_pl 73 (by decide +kernel) rfl), (am_pl 790 (by decide +kernel) rfl), by decide +kernel⟩
set_option maxRecDepth 100000 in
theorem yv_X7_mayBeOfValley : am_yS yX7_mayBeOfValley cX7_mayBeOfValley 2 (some .boolean) 2 := ⟨(am_pl 433 (by decide +kernel) rfl), (am_pl 73 (by decide +kernel) rfl), (am_pl 434 (by decide +kernel) rfl), by decide +kernel⟩
set_option maxRecDepth 100000 in
theorem yv_X7_meet : am_yV yX7_meet cX7_meet 3 (some .int) 1 := ⟨(am_pl 797 (by decide +kernel) rfl), (am_pl 798 (by decide +kernel) rfl), (am_pl 73 (by decide +kernel) rfl), (am_pl 799 (by decide +kernel) rfl), by decide +kernel⟩
set_option maxRecDepth 100000 in
theorem yv_X7_mostOfFact : am_yS yX7_mostOfFact cX7_mostOfFact 1 (some .int) 1 := ⟨(am_pl 463 (by decide +kernel) rfl), (am_pl 73 (by decide +kernel) rfl), (am_pl 464 (by decide +kernel) rfl), by decide +kernel⟩
set_option maxRecDepth 100000 in
theorem yv_X7_pass : am_yV yX7_pass cX7_pass 5 (some .int) 4 := ⟨(am_pl 436 (by decide +kernel) rfl), (am_pl 437 (by decide +kernel) rfl), (am_pl 73 (by decide +kernel) rfl), (am_pl 438 (by decide +kernel) rfl), by decide +kernel⟩
set_option maxRecDepth 100000 in
theorem yv_X7_passOf : am_yV yX7_passOf cX7_passOf 3 (some .int) 2 := ⟨(am_pl 474 (by decide +kernel) rfl), (am_pl 475 (by decide +kernel) rfl), (am_pl 73 (by decide +kernel) rfl), (am_pl 476 (by decide +kernel) rfl), by decide +kernel⟩
set_option maxRecDepth 100000 in
theorem yv_X7_person : am_yV yX7_person cX7_person 4 (some .int) 3 := ⟨(am_pl 444 (by decide +kernel) rfl), (am_pl 445 (by decide +kernel) rfl), (am_pl 73 (by decide +kernel) rfl), (am_pl 446 (by decide +kernel) rfl), by decide +kernel⟩
set_option maxRecDepth 100000 in
theorem yv_X7_personOf : am_yV yX7_personOf cX7_personOf 3 (some .int) 2 := ⟨(am_pl 482 (by decide +kernel) rfl), (am_pl 483 (by decide +kernel) rfl), (am_pl 73 (by decide +kernel) rfl), (am_pl 484 (by decide +kernel) rfl), by decide +kernel⟩
set_option maxRecDepth 100000 in
theorem yv_X7_price : am_yV yX7_price cX7_price 4 (some .int) 3 := ⟨(am_pl 619 (by decide +kernel) rfl), (am_pl 620 (by decide +kernel) rfl), (am_pl 73 (by decide +kernel) rfl), (am_pl 621 (by decide +kernel) rfl), by decide +kernel⟩
set_option maxRecDepth 100000 in
theorem yv_X7_refusalOfElements : am_yV yX7_refusalOfElements cX7_refusalOfElements 4 (some .int) 2 := ⟨(am_pl 806 (by decide +kernel) rfl), (am_pl 23 (by decide +kernel) rfl), (am_pl 73 (by decide +kernel) rfl), (am_pl 807 (by decide +kernel) rfl), by decide +kernel⟩
set_option maxRecDepth 100000 in
theorem yv_X7_refusalOfPlan : am_yV yX7_refusalOfPlan cX7_refusalOfPlan 5 (some .int) 3 := ⟨(am_pl 889 (by decide +kernel) rfl), (am_pl 28 (by decide +kernel) rfl), (am_pl 73 (by decide +kernel) rfl), (am_pl 890 (by decide +kernel) rfl), by decide +kernel⟩
set_option maxRecDepth 100000 in
theorem yv_X7_refuse : am_yV yX7_refuse cX7_refuse 3 (some .int) 1 := ⟨(am_pl 322 (by decide +kernel) rfl), (am_pl 0 (by decide +kernel) rfl), (am_pl 73 (by decide +kernel) rfl), (am_pl 323 (by decide +kernel) rfl), by decide +kernel⟩
set_option maxRecDepth 100000 in
theorem yv_X7_ring : am_yV yX7_ring cX7_ring 4 (some .int) 1 := ⟨(am_pl 753 (by decide +kernel) rfl), (am_pl 754 (by decide +kernel) rfl), (am_pl 73 (by decide +kernel) rfl), (am_pl 755 (by decide +kernel) rfl), by decide +kernel⟩
set_option maxRecDepth 100000 in
theorem yv_X7_route : am_yV yX7_route cX7_route 5 (some .int) 3 := ⟨(am_pl 690 (by decide +kernel) rfl), (am_pl 691 (by decide +kernel) rfl), (am_pl 73 (by decide +kernel) rfl), (am_pl 692 (by decide +kernel) rfl), by decide +kernel⟩
set_option maxRecDepth 100000 in
theorem yv_X7_row : am_yV yX7_row cX7_row 4 (some .int) 3 := ⟨(am_pl 311 (by decide +kernel) rfl), (am_pl 312 (by decide +kernel) rfl), (am_pl 73 (by decide +kernel) rfl), (am_pl 313 (by decide +kernel) rfl), by decide +kernel⟩
set_option maxRecDepth 100000 in
theorem yv_X7_saved : am_yV yX7_saved cX7_saved 2 (some .int) 1 := ⟨(am_pl 717 (by decide +kernel) rfl), (am_pl 718 (by decide +kernel) rfl), (am_pl 73 (by decide +kernel) rfl), (am_pl 719 (by decide +kernel) rfl), by decide +kernel⟩
set_option maxRecDepth 100000 in
theorem yv_X7_says : am_yV yX7_says cX7_says 6 (some .int) 2 := ⟨(am_pl 398 (by decide +kernel) rfl), (am_pl 399 (by decide +kernel) rfl), (am_pl 73 (by decide +kernel) rfl), (am_pl 400 (by decide +kernel) rfl), by decide +kernel⟩
set_option maxRecDepth 100000 in
theorem yv_X7_seed : am_yV yX7_seed cX7_seed 3 (some .int) 1 := ⟨(am_pl 926 (by decide +kernel) rfl), (am_pl 927 (by decide +kernel) rfl), (am_pl 73 (by decide +kernel) rfl), (am_pl 928 (by decide +kernel) rfl), by decide +kernel⟩
set_option maxRecDepth 100000 in
theorem yv_X7_set : am_yV yX7_set cX7_set 6 (some .int) 3 := ⟨(am_pl 332 (by decide +kernel) rfl), (am_pl 333 (by decide +kernel) rfl), (am_pl 73 (by decide +kernel) rfl), (am_pl 334 (by decide +kernel) rfl), by decide +kernel⟩
set_option maxRecDepth 100000 in
theorem yv_X7_show : am_yV yX7_show cX7_show 3 (some .int) 2 := ⟨(am_pl 390 (by decide +kernel) rfl), (am_pl 391 (by decide +kernel) rfl), (am_pl 73 (by decide +kernel) rfl), (am_pl 392 (by decide +kernel) rfl), by decide +kernel⟩
set_option maxRecDepth 100000 in
theorem yv_X7_status : am_yV yX7_status cX7_status 2 (some .int) 1 := ⟨(am_pl 942 (by decide +kernel) rfl), (am_pl 943 (by decide +kernel) rfl), (am_pl 73 (by decide +kernel) rfl), (am_pl 944 (by decide +kernel) rfl), by decide +kernel⟩
set_option maxRecDepth 100000 in
theorem yv_X7_steps : am_yV yX7_steps cX7_steps 3 (some .int) 2 := ⟨(am_pl 741 (by decide +kernel) rfl), (am_pl 742 (by decide +kernel) rfl), (am_pl 73 (by decide +kernel) rfl), (am_pl 743 (by decide +kernel) rfl), by decide +kernel⟩
set_option maxRecDepth 100000 in
theorem yv_X7_tell : am_yV yX7_tell cX7_tell 6 (some .int) 3 := ⟨(am_pl 456 (by decide +kernel) rfl), (am_pl 457 (by decide +kernel) rfl), (am_pl 73 (by decide +kernel) rfl), (am_pl 458 (by decide +kernel) rfl), by decide +kernel⟩
set_option maxRecDepth 100000 in
theorem yv_X7_toldFact : am_yS yX7_toldFact cX7_toldFact 1 (some .int) 1 := ⟨(am_pl 460 (by decide +kernel) rfl), (am_pl 73 (by decide +kernel) rfl), (am_pl 461 (by decide +kernel) rfl), by decide +kernel⟩
set_option maxRecDepth 100000 in
theorem yv_X7_tour : am_yV yX7_tour cX7_tour 4 (some .int) 2 := ⟨(am_pl 662 (by decide +kernel) rfl), (am_pl 663 (by decide +kernel) rfl), (am_pl 73 (by decide +kernel) rfl), (am_pl 664 (by decide +kernel) rfl), by decide +kernel⟩
set_option maxRecDepth 100000 in
theorem yv_X7_tourOf : am_yV yX7_tourOf cX7_tourOf 4 (some .int) 2 := ⟨(am_pl 704 (by decide +kernel) rfl), (am_pl 705 (by decide +kernel) rfl), (am_pl 73 (by decide +kernel) rfl), (am_pl 706 (by decide +kernel) rfl), by decide +kernel⟩
set_option maxRecDepth 100000 in
theorem yv_X7_valleyOf : am_yV yX7_valleyOf cX7_valleyOf 3 (some .int) 2 := ⟨(am_pl 466 (by decide +kernel) rfl), (am_pl 467 (by decide +kernel) rfl), (am_pl 73 (by decide +kernel) rfl), (am_pl 468 (by decide +kernel) rfl), by decide +kernel⟩
set_option maxRecDepth 100000 in
theorem yv_X7_way : am_yV yX7_way cX7_way 4 (some .int) 3 := ⟨(am_pl 627 (by decide +kernel) rfl), (am_pl 628 (by decide +kernel) rfl), (am_pl 73 (by decide +kernel) rfl), (am_pl 629 (by decide +kernel) rfl), by decide +kernel⟩
set_option maxRecDepth 100000 in
theorem yv_X7_weeks : am_yV yX7_weeks cX7_weeks 2 (some .int) 1 := ⟨(am_pl 912 (by decide +kernel) rfl), (am_pl 913 (by decide +kernel) rfl), (am_pl 73 (by decide +kernel) rfl), (am_pl 914 (by decide +kernel) rfl), by decide +kernel⟩
set_option maxRecDepth 100000 in
theorem yv_X7_wipe : am_yV yX7_wipe cX7_wipe 2 (some .int) 0 := ⟨(am_pl 494 (by decide +kernel) rfl), (am_pl 495 (by decide +kernel) rfl), (am_pl 73 (by decide +kernel) rfl), (am_pl 496 (by decide +kernel) rfl), by decide +kernel⟩
set_option maxRecDepth 100000 in
theorem yv_X7_within : am_yV yX7_within cX7_within 7 (some .int) 3 := ⟨(am_pl 745 (by decide +kernel) rfl), (am_pl 746 (by decide +kernel) rfl), (am_pl 73 (by decide +kernel) rfl), (am_pl 747 (by decide +kernel) rfl), by decide +kernel⟩
set_option maxRecDepth 100000 in
theorem yv_X7_works : am_yV yX7_works cX7_works 6 (some .int) 1 := ⟨(am_pl 733 (by decide +kernel) rfl), (am_pl 734 (by decide +kernel) rfl), (am_pl 73 (by decide +kernel) rfl), (am_pl 735 (by decide +kernel) rfl), by decide +kernel⟩
set_option maxRecDepth 100000 in
theorem yv_X8_act : am_yV yX8_act cX8_act 3 (some .int) 2 := ⟨(am_pl 1494 (by decide +kernel) rfl), (am_pl 1495 (by decide +kernel) rfl), (am_pl 82 (by decide +kernel) rfl), (am_pl 1496 (by decide +kernel) rfl), by decide +kernel⟩
set_option maxRecDepth 100000 in
theorem yv_X8_acts : am_yV yX8_acts cX8_acts 6 (some .boolean) 2 := ⟨(am_pl 1479 (by decide +kernel) rfl), (am_pl 70 (by decide +kernel) rfl), (am_pl 82 (by decide +kernel) rfl), (am_pl 1480 (by decide +kernel) rfl), by decide +kernel⟩
set_option maxRecDepth 100000 in
theorem yv_X8_addPass : am_yV yX8_addPass cX8_addPass 5 none 4 := ⟨(am_pl 1191 (by decide +kernel) rfl), (am_pl 36 (by decide +kernel) rfl), (am_pl 82 (by decide +kernel) rfl), (am_pl 1192 (by decide +kernel) rfl), by decide +kernel⟩
set_option maxRecDepth 100000 in
theorem yv_X8_addPerson : am_yV yX8_addPerson cX8_addPerson 4 none 3 := ⟨(am_pl 1199 (by decide +kernel) rfl), (am_pl 37 (by decide +kernel) rfl), (am_pl 82 (by decide +kernel) rfl), (am_pl 1200 (by decide +kernel) rfl), by decide +kernel⟩
set_option maxRecDepth 100000 in
theorem yv_X8_alike : am_yV yX8_alike cX8_alike 5 (some .int) 2 := ⟨(am_pl 1353 (by decide +kernel) rfl), (am_pl 1354 (by decide +kernel) rfl), (am_pl 82 (by decide +kernel) rfl), (am_pl 1355 (by decide +kernel) rfl), by decide +kernel⟩
set_option maxRecDepth 100000 in
theorem yv_X8_ask : am_yV yX8_ask cX8_ask 6 (some .int) 3 := ⟨(am_pl 1175 (by decide +kernel) rfl), (am_pl 1176 (by decide +kernel) rfl), (am_pl 82 (by decide +kernel) rfl), (am_pl 1177 (by decide +kernel) rfl), by decide +kernel⟩
set_option maxRecDepth 100000 in
theorem yv_X8_asks : am_yV yX8_asks cX8_asks 4 (some .boolean) 3 := ⟨(am_pl 1263 (by decide +kernel) rfl), (am_pl 44 (by decide +kernel) rfl), (am_pl 82 (by decide +kernel) rfl), (am_pl 1264 (by decide +kernel) rfl), by decide +kernel⟩
set_option maxRecDepth 100000 in
theorem yv_X8_back : am_yV yX8_back cX8_back 2 (some .int) 0 := ⟨(am_pl 1516 (by decide +kernel) rfl), (am_pl 1517 (by decide +kernel) rfl), (am_pl 82 (by decide +kernel) rfl), (am_pl 1518 (by decide +kernel) rfl), by decide +kernel⟩
set_option maxRecDepth 100000 in
theorem yv_X8_behind : am_yV yX8_behind cX8_behind 6 (some .int) 4 := ⟨(am_pl 1482 (by decide +kernel) rfl), (am_pl 1483 (by decide +kernel) rfl), (am_pl 82 (by decide +kernel) rfl), (am_pl 1484 (by decide +kernel) rfl), by decide +kernel⟩
set_option maxRecDepth 100000 in
theorem yv_X8_below : am_yV yX8_below cX8_below 2 (some .int) 1 := ⟨(am_pl 1504 (by decide +kernel) rfl), (am_pl 71 (by decide +kernel) rfl), (am_pl 82 (by decide +kernel) rfl), (am_pl 1505 (by decide +kernel) rfl), by decide +kernel⟩
set_option maxRecDepth 100000 in
theorem yv_X8_bestPass : am_yV yX8_bestPass cX8_bestPass 3 (some .int) 0 := ⟨(am_pl 1393 (by decide +kernel) rfl), (am_pl 1394 (by decide +kernel) rfl), (am_pl 82 (by decide +kernel) rfl), (am_pl 1395 (by decide +kernel) rfl), by decide +kernel⟩
set_option maxRecDepth 100000 in
theorem yv_X8_copied : am_yS yX8_copied cX8_copied 3 none 2 := ⟨(am_pl 1234 (by decide +kernel) rfl), (am_pl 82 (by decide +kernel) rfl), (am_pl 1235 (by decide +kernel) rfl), by decide +kernel⟩
set_option maxRecDepth 100000 in
theorem yv_X8_copy : am_yV yX8_copy cX8_copy 7 (some .int) 5 := ⟨(am_pl 1135 (by decide +kernel) rfl), (am_pl 1136 (by decide +kernel) rfl), (am_pl 82 (by decide +kernel) rfl), (am_pl 1137 (by decide +kernel) rfl), by decide +kernel⟩
set_option maxRecDepth 100000 in
theorem yv_X8_crowd : am_yV yX8_crowd cX8_crowd 3 (some .int) 0 := ⟨(am_pl 1409 (by decide +kernel) rfl), (am_pl 1410 (by decide +kernel) rfl), (am_pl 82 (by decide +kernel) rfl), (am_pl 1411 (by decide +kernel) rfl), by decide +kernel⟩
set_option maxRecDepth 100000 in
theorem yv_X8_dearest : am_yV yX8_dearest cX8_dearest 5 (some .int) 1 := ⟨(am_pl 1361 (by decide +kernel) rfl), (am_pl 1362 (by decide +kernel) rfl), (am_pl 82 (by decide +kernel) rfl), (am_pl 1363 (by decide +kernel) rfl), by decide +kernel⟩
set_option maxRecDepth 100000 in
theorem yv_X8_done : am_yV yX8_done cX8_done 5 (some .int) 3 := ⟨(am_pl 1486 (by decide +kernel) rfl), (am_pl 1487 (by decide +kernel) rfl), (am_pl 82 (by decide +kernel) rfl), (am_pl 1488 (by decide +kernel) rfl), by decide +kernel⟩
set_option maxRecDepth 100000 in
theorem yv_X8_duty : am_yV yX8_duty cX8_duty 5 (some .int) 3 := ⟨(am_pl 1202 (by decide +kernel) rfl), (am_pl 1203 (by decide +kernel) rfl), (am_pl 82 (by decide +kernel) rfl), (am_pl 1204 (by decide +kernel) rfl), by decide +kernel⟩
set_option maxRecDepth 100000 in
theorem yv_X8_element : am_yV yX8_element cX8_element 3 (some .long) 2 := ⟨(am_pl 1139 (by decide +kernel) rfl), (am_pl 1140 (by decide +kernel) rfl), (am_pl 82 (by decide +kernel) rfl), (am_pl 1141 (by decide +kernel) rfl), by decide +kernel⟩
set_option maxRecDepth 100000 in
theorem yv_X8_fareOf : am_yV yX8_fareOf cX8_fareOf 3 (some .int) 2 := ⟨(am_pl 1168 (by decide +kernel) rfl), (am_pl 34 (by decide +kernel) rfl), (am_pl 82 (by decide +kernel) rfl), (am_pl 1169 (by decide +kernel) rfl), by decide +kernel⟩
set_option maxRecDepth 100000 in
theorem yv_X8_feed : am_yV yX8_feed cX8_feed 2 (some .int) 1 := ⟨(am_pl 1211 (by decide +kernel) rfl), (am_pl 1212 (by decide +kernel) rfl), (am_pl 82 (by decide +kernel) rfl), (am_pl 1213 (by decide +kernel) rfl), by decide +kernel⟩
set_option maxRecDepth 100000 in
theorem yv_X8_findFar : am_yV yX8_findFar cX8_findFar 8 none 3 := ⟨(am_pl 1329 (by decide +kernel) rfl), (am_pl 53 (by decide +kernel) rfl), (am_pl 82 (by decide +kernel) rfl), (am_pl 1330 (by decide +kernel) rfl), by decide +kernel⟩
set_option maxRecDepth 100000 in
theorem yv_X8_findJourneys : am_yV yX8_findJourneys cX8_findJourneys 9 none 3 := ⟨(am_pl 1439 (by decide +kernel) rfl), (am_pl 63 (by decide +kernel) rfl), (am_pl 82 (by decide +kernel) rfl), (am_pl 1440 (by decide +kernel) rfl), by decide +kernel⟩
set_option maxRecDepth 100000 in
theorem yv_X8_first : am_yV yX8_first cX8_first 4 (some .int) 1 := ⟨(am_pl 1401 (by decide +kernel) rfl), (am_pl 1402 (by decide +kernel) rfl), (am_pl 82 (by decide +kernel) rfl), (am_pl 1403 (by decide +kernel) rfl), by decide +kernel⟩
set_option maxRecDepth 100000 in
theorem yv_X8_fit : am_yS yX8_fit cX8_fit 3 (some .long) 2 := ⟨(am_pl 1132 (by decide +kernel) rfl), (am_pl 82 (by decide +kernel) rfl), (am_pl 1133 (by decide +kernel) rfl), by decide +kernel⟩
set_option maxRecDepth 100000 in
theorem yv_X8_fits : am_yS yX8_fits cX8_fits 3 (some .boolean) 2 := ⟨(am_pl 1442 (by decide +kernel) rfl), (am_pl 82 (by decide +kernel) rfl), (am_pl 1443 (by decide +kernel) rfl), by decide +kernel⟩
set_option maxRecDepth 100000 in
theorem yv_X8_forged : am_yV yX8_forged cX8_forged 3 (some .int) 1 := ⟨(am_pl 1455 (by decide +kernel) rfl), (am_pl 66 (by decide +kernel) rfl), (am_pl 82 (by decide +kernel) rfl), (am_pl 1456 (by decide +kernel) rfl), by decide +kernel⟩
set_option maxRecDepth 100000 in
theorem yv_X8_fresh : am_yV yX8_fresh cX8_fresh 1 (some (.object "SundayIsAPlaceModel")) 0 := ⟨(am_pl 1225 (by decide +kernel) rfl), (am_pl 38 (by decide +kernel) rfl), (am_pl 82 (by decide +kernel) rfl), (am_pl 1226 (by decide +kernel) rfl), by decide +kernel⟩
set_option maxRecDepth 100000 in
theorem yv_X8_holds : am_yV yX8_holds cX8_holds 2 (some .int) 1 := ⟨(am_pl 1143 (by decide +kernel) rfl), (am_pl 1144 (by decide +kernel) rfl), (am_pl 82 (by decide +kernel) rfl), (am_pl 1145 (by decide +kernel) rfl), by decide +kernel⟩
set_option maxRecDepth 100000 in
theorem yv_X8_homes : am_yV yX8_homes cX8_homes 4 (some .int) 1 := ⟨(am_pl 1413 (by decide +kernel) rfl), (am_pl 1414 (by decide +kernel) rfl), (am_pl 82 (by decide +kernel) rfl), (am_pl 1415 (by decide +kernel) rfl), by decide +kernel⟩
set_option maxRecDepth 100000 in
theorem yv_X8_hoursOf : am_yV yX8_hoursOf cX8_hoursOf 3 (some .int) 2 := ⟨(am_pl 1338 (by decide +kernel) rfl), (am_pl 55 (by decide +kernel) rfl), (am_pl 82 (by decide +kernel) rfl), (am_pl 1339 (by decide +kernel) rfl), by decide +kernel⟩
set_option maxRecDepth 100000 in
theorem yv_X8_image : am_yV yX8_image cX8_image 1 (some .int) 0 := ⟨(am_pl 1512 (by decide +kernel) rfl), (am_pl 1513 (by decide +kernel) rfl), (am_pl 82 (by decide +kernel) rfl), (am_pl 1514 (by decide +kernel) rfl), by decide +kernel⟩
set_option maxRecDepth 100000 in
theorem yv_X8_in : am_yS yX8_in cX8_in 6 (some .boolean) 3 := ⟨(am_pl 1115 (by decide +kernel) rfl), (am_pl 82 (by decide +kernel) rfl), (am_pl 1116 (by decide +kernel) rfl), by decide +kernel⟩
set_option maxRecDepth 100000 in
theorem yv_X8_isAct : am_yS yX8_isAct cX8_isAct 2 (some .boolean) 1 := ⟨(am_pl 1474 (by decide +kernel) rfl), (am_pl 82 (by decide +kernel) rfl), (am_pl 1475 (by decide +kernel) rfl), by decide +kernel⟩
set_option maxRecDepth 100000 in
theorem yv_X8_isDigit : am_yS yX8_isDigit cX8_isDigit 1 (some .boolean) 1 := ⟨(am_pl 1248 (by decide +kernel) rfl), (am_pl 82 (by decide +kernel) rfl), (am_pl 1249 (by decide +kernel) rfl), by decide +kernel⟩
set_option maxRecDepth 100000 in
theorem yv_X8_isLetter : am_yS yX8_isLetter cX8_isLetter 1 (some .boolean) 1 := ⟨(am_pl 1245 (by decide +kernel) rfl), (am_pl 82 (by decide +kernel) rfl), (am_pl 1246 (by decide +kernel) rfl), by decide +kernel⟩
set_option maxRecDepth 100000 in
theorem yv_X8_isOne : am_yV yX8_isOne cX8_isOne 2 (some .boolean) 1 := ⟨(am_pl 1152 (by decide +kernel) rfl), (am_pl 32 (by decide +kernel) rfl), (am_pl 82 (by decide +kernel) rfl), (am_pl 1153 (by decide +kernel) rfl), by decide +kernel⟩
set_option maxRecDepth 100000 in
theorem yv_X8_isUnder : am_yS yX8_isUnder cX8_isUnder 2 (some .boolean) 2 := ⟨(am_pl 1160 (by decide +kernel) rfl), (am_pl 82 (by decide +kernel) rfl), (am_pl 1161 (by decide +kernel) rfl), by decide +kernel⟩
set_option maxRecDepth 100000 in
theorem yv_X8_isValley : am_yS yX8_isValley cX8_isValley 2 (some .boolean) 1 := ⟨(am_pl 1179 (by decide +kernel) rfl), (am_pl 82 (by decide +kernel) rfl), (am_pl 1180 (by decide +kernel) rfl), by decide +kernel⟩
set_option maxRecDepth 100000 in
theorem yv_X8_isWord : am_yV yX8_isWord cX8_isWord 3 (some .boolean) 1 := ⟨(am_pl 1257 (by decide +kernel) rfl), (am_pl 43 (by decide +kernel) rfl), (am_pl 82 (by decide +kernel) rfl), (am_pl 1258 (by decide +kernel) rfl), by decide +kernel⟩
set_option maxRecDepth 100000 in
theorem yv_X8_journeys : am_yV yX8_journeys cX8_journeys 7 (some .int) 4 := ⟨(am_pl 1434 (by decide +kernel) rfl), (am_pl 1435 (by decide +kernel) rfl), (am_pl 82 (by decide +kernel) rfl), (am_pl 1436 (by decide +kernel) rfl), by decide +kernel⟩
set_option maxRecDepth 100000 in
theorem yv_X8_journeysTo : am_yV yX8_journeysTo cX8_journeysTo 4 (some .int) 1 := ⟨(am_pl 1447 (by decide +kernel) rfl), (am_pl 64 (by decide +kernel) rfl), (am_pl 82 (by decide +kernel) rfl), (am_pl 1448 (by decide +kernel) rfl), by decide +kernel⟩
set_option maxRecDepth 100000 in
theorem yv_X8_judge : am_yV yX8_judge cX8_judge 5 (some .int) 3 := ⟨(am_pl 1462 (by decide +kernel) rfl), (am_pl 1463 (by decide +kernel) rfl), (am_pl 82 (by decide +kernel) rfl), (am_pl 1464 (by decide +kernel) rfl), by decide +kernel⟩
set_option maxRecDepth 100000 in
theorem yv_X8_land : am_yV yX8_land cX8_land 3 (some .int) 0 := ⟨(am_pl 1220 (by decide +kernel) rfl), (am_pl 1221 (by decide +kernel) rfl), (am_pl 82 (by decide +kernel) rfl), (am_pl 1222 (by decide +kernel) rfl), by decide +kernel⟩
set_option maxRecDepth 100000 in
theorem yv_X8_leastPaid : am_yV yX8_leastPaid cX8_leastPaid 3 (some .int) 0 := ⟨(am_pl 1427 (by decide +kernel) rfl), (am_pl 62 (by decide +kernel) rfl), (am_pl 82 (by decide +kernel) rfl), (am_pl 1428 (by decide +kernel) rfl), by decide +kernel⟩
set_option maxRecDepth 100000 in
theorem yv_X8_longest : am_yV yX8_longest cX8_longest 2 (some .int) 1 := ⟨(am_pl 1490 (by decide +kernel) rfl), (am_pl 1491 (by decide +kernel) rfl), (am_pl 82 (by decide +kernel) rfl), (am_pl 1492 (by decide +kernel) rfl), by decide +kernel⟩
set_option maxRecDepth 100000 in
theorem yv_X8_look : am_yV yX8_look cX8_look 1 none 0 := ⟨(am_pl 1242 (by decide +kernel) rfl), (am_pl 41 (by decide +kernel) rfl), (am_pl 82 (by decide +kernel) rfl), (am_pl 1243 (by decide +kernel) rfl), by decide +kernel⟩
set_option maxRecDepth 100000 in
theorem yv_X8_manyAt : am_yV yX8_manyAt cX8_manyAt 4 (some .int) 1 := ⟨(am_pl 1308 (by decide +kernel) rfl), (am_pl 52 (by decide +kernel) rfl), (am_pl 82 (by decide +kernel) rfl), (am_pl 1309 (by decide +kernel) rfl), by decide +kernel⟩
set_option maxRecDepth 100000 in
theorem yv_X8_market : am_yV yX8_market cX8_market 3 (some .int) 0 := ⟨(am_pl 1422 (by decide +kernel) rfl), (am_pl 1423 (by decide +kernel) rfl), (am_pl 82 (by decide +kernel) rfl), (am_pl 1424 (by decide +kernel) rfl), by decide +kernel⟩
set_option maxRecDepth 100000 in
theorem yv_X8_maybeAt : am_yV yX8_maybeAt cX8_maybeAt 4 (some .int) 1 := ⟨(am_pl 1451 (by decide +kernel) rfl), (am_pl 65 (by decide +kernel) rfl), (am_pl 82 (by decide +kernel) rfl), (am_pl 1452 (by decide +kernel) rfl), by decide +kernel⟩
set_option maxRecDepth 100000 in
theorem yv_X8_meet : am_yV yX8_meet cX8_meet 4 (some .int) 1 := ⟨(am_pl 1430 (by decide +kernel) rfl), (am_pl 1431 (by decide +kernel) rfl), (am_pl 82 (by decide +kernel) rfl), (am_pl 1432 (by decide +kernel) rfl), by decide +kernel⟩
set_option maxRecDepth 100000 in
theorem yv_X8_nextOf : am_yV yX8_nextOf cX8_nextOf 4 (some .int) 2 := ⟨(am_pl 1172 (by decide +kernel) rfl), (am_pl 35 (by decide +kernel) rfl), (am_pl 82 (by decide +kernel) rfl), (am_pl 1173 (by decide +kernel) rfl), by decide +kernel⟩
set_option maxRecDepth 100000 in
theorem yv_X8_noPlan : am_yV yX8_noPlan cX8_noPlan 5 (some .int) 3 := ⟨(am_pl 1467 (by decide +kernel) rfl), (am_pl 68 (by decide +kernel) rfl), (am_pl 82 (by decide +kernel) rfl), (am_pl 1468 (by decide +kernel) rfl), by decide +kernel⟩
set_option maxRecDepth 100000 in
theorem yv_X8_noRow : am_yV yX8_noRow cX8_noRow 2 (some .int) 1 := ⟨(am_pl 1129 (by decide +kernel) rfl), (am_pl 31 (by decide +kernel) rfl), (am_pl 82 (by decide +kernel) rfl), (am_pl 1130 (by decide +kernel) rfl), by decide +kernel⟩
set_option maxRecDepth 100000 in
theorem yv_X8_number : am_yV yX8_number cX8_number 4 (some .boolean) 3 := ⟨(am_pl 1271 (by decide +kernel) rfl), (am_pl 46 (by decide +kernel) rfl), (am_pl 82 (by decide +kernel) rfl), (am_pl 1272 (by decide +kernel) rfl), by decide +kernel⟩
set_option maxRecDepth 100000 in
theorem yv_X8_ofOne : am_yV yX8_ofOne cX8_ofOne 2 (some .boolean) 1 := ⟨(am_pl 1297 (by decide +kernel) rfl), (am_pl 51 (by decide +kernel) rfl), (am_pl 82 (by decide +kernel) rfl), (am_pl 1298 (by decide +kernel) rfl), by decide +kernel⟩
set_option maxRecDepth 100000 in
theorem yv_X8_ofPeople : am_yV yX8_ofPeople cX8_ofPeople 1 (some .boolean) 0 := ⟨(am_pl 1292 (by decide +kernel) rfl), (am_pl 50 (by decide +kernel) rfl), (am_pl 82 (by decide +kernel) rfl), (am_pl 1293 (by decide +kernel) rfl), by decide +kernel⟩
set_option maxRecDepth 100000 in
theorem yv_X8_pass : am_yV yX8_pass cX8_pass 5 (some .int) 4 := ⟨(am_pl 1186 (by decide +kernel) rfl), (am_pl 1187 (by decide +kernel) rfl), (am_pl 82 (by decide +kernel) rfl), (am_pl 1188 (by decide +kernel) rfl), by decide +kernel⟩
set_option maxRecDepth 100000 in
theorem yv_X8_passOf : am_yV yX8_passOf cX8_passOf 3 (some .int) 2 := ⟨(am_pl 1311 (by decide +kernel) rfl), (am_pl 1312 (by decide +kernel) rfl), (am_pl 82 (by decide +kernel) rfl), (am_pl 1313 (by decide +kernel) rfl), by decide +kernel⟩
set_option maxRecDepth 100000 in
theorem yv_X8_passTold : am_yV yX8_passTold cX8_passTold 1 (some .boolean) 0 := ⟨(am_pl 1283 (by decide +kernel) rfl), (am_pl 48 (by decide +kernel) rfl), (am_pl 82 (by decide +kernel) rfl), (am_pl 1284 (by decide +kernel) rfl), by decide +kernel⟩
set_option maxRecDepth 100000 in
theorem yv_X8_person : am_yV yX8_person cX8_person 4 (some .int) 3 := ⟨(am_pl 1194 (by decide +kernel) rfl), (am_pl 1195 (by decide +kernel) rfl), (am_pl 82 (by decide +kernel) rfl), (am_pl 1196 (by decide +kernel) rfl), by decide +kernel⟩
set_option maxRecDepth 100000 in
theorem yv_X8_personOf : am_yV yX8_personOf cX8_personOf 3 (some .int) 2 := ⟨(am_pl 1315 (by decide +kernel) rfl), (am_pl 1316 (by decide +kernel) rfl), (am_pl 82 (by decide +kernel) rfl), (am_pl 1317 (by decide +kernel) rfl), by decide +kernel⟩
set_option maxRecDepth 100000 in
theorem yv_X8_price : am_yV yX8_price cX8_price 4 (some .int) 3 := ⟨(am_pl 1319 (by decide +kernel) rfl), (am_pl 1320 (by decide +kernel) rfl), (am_pl 82 (by decide +kernel) rfl), (am_pl 1321 (by decide +kernel) rfl), by decide +kernel⟩
set_option maxRecDepth 100000 in
theorem yv_X8_priceOf : am_yV yX8_priceOf cX8_priceOf 5 (some .int) 3 := ⟨(am_pl 1164 (by decide +kernel) rfl), (am_pl 33 (by decide +kernel) rfl), (am_pl 82 (by decide +kernel) rfl), (am_pl 1165 (by decide +kernel) rfl), by decide +kernel⟩
set_option maxRecDepth 100000 in
theorem yv_X8_readAll : am_yV yX8_readAll cX8_readAll 1 (some .boolean) 0 := ⟨(am_pl 1238 (by decide +kernel) rfl), (am_pl 40 (by decide +kernel) rfl), (am_pl 82 (by decide +kernel) rfl), (am_pl 1239 (by decide +kernel) rfl), by decide +kernel⟩
set_option maxRecDepth 100000 in
theorem yv_X8_refuse : am_yV yX8_refuse cX8_refuse 2 (some .int) 1 := ⟨(am_pl 1121 (by decide +kernel) rfl), (am_pl 30 (by decide +kernel) rfl), (am_pl 82 (by decide +kernel) rfl), (am_pl 1122 (by decide +kernel) rfl), by decide +kernel⟩
set_option maxRecDepth 100000 in
theorem yv_X8_ring : am_yV yX8_ring cX8_ring 4 (some .int) 1 := ⟨(am_pl 1357 (by decide +kernel) rfl), (am_pl 1358 (by decide +kernel) rfl), (am_pl 82 (by decide +kernel) rfl), (am_pl 1359 (by decide +kernel) rfl), by decide +kernel⟩
set_option maxRecDepth 100000 in
theorem yv_X8_route : am_yV yX8_route cX8_route 8 (some .int) 3 := ⟨(am_pl 1345 (by decide +kernel) rfl), (am_pl 1346 (by decide +kernel) rfl), (am_pl 82 (by decide +kernel) rfl), (am_pl 1347 (by decide +kernel) rfl), by decide +kernel⟩
set_option maxRecDepth 100000 in
theorem yv_X8_row : am_yV yX8_row cX8_row 5 (some .int) 3 := ⟨(am_pl 1110 (by decide +kernel) rfl), (am_pl 1111 (by decide +kernel) rfl), (am_pl 82 (by decide +kernel) rfl), (am_pl 1112 (by decide +kernel) rfl), by decide +kernel⟩
set_option maxRecDepth 100000 in
theorem yv_X8_saved : am_yV yX8_saved cX8_saved 2 (some .int) 1 := ⟨(am_pl 1385 (by decide +kernel) rfl), (am_pl 1386 (by decide +kernel) rfl), (am_pl 82 (by decide +kernel) rfl), (am_pl 1387 (by decide +kernel) rfl), by decide +kernel⟩
set_option maxRecDepth 100000 in
theorem yv_X8_savedBy : am_yV yX8_savedBy cX8_savedBy 4 (some .int) 1 := ⟨(am_pl 1390 (by decide +kernel) rfl), (am_pl 59 (by decide +kernel) rfl), (am_pl 82 (by decide +kernel) rfl), (am_pl 1391 (by decide +kernel) rfl), by decide +kernel⟩
set_option maxRecDepth 100000 in
theorem yv_X8_says : am_yV yX8_says cX8_says 4 (some .int) 2 := ⟨(am_pl 1155 (by decide +kernel) rfl), (am_pl 1156 (by decide +kernel) rfl), (am_pl 82 (by decide +kernel) rfl), (am_pl 1157 (by decide +kernel) rfl), by decide +kernel⟩
set_option maxRecDepth 100000 in
theorem yv_X8_seed : am_yV yX8_seed cX8_seed 3 (some .int) 1 := ⟨(am_pl 1508 (by decide +kernel) rfl), (am_pl 1509 (by decide +kernel) rfl), (am_pl 82 (by decide +kernel) rfl), (am_pl 1510 (by decide +kernel) rfl), by decide +kernel⟩
set_option maxRecDepth 100000 in
theorem yv_X8_seekHomes : am_yV yX8_seekHomes cX8_seekHomes 5 none 3 := ⟨(am_pl 1419 (by decide +kernel) rfl), (am_pl 61 (by decide +kernel) rfl), (am_pl 82 (by decide +kernel) rfl), (am_pl 1420 (by decide +kernel) rfl), by decide +kernel⟩
set_option maxRecDepth 100000 in
theorem yv_X8_seekTour : am_yV yX8_seekTour cX8_seekTour 7 none 5 := ⟨(am_pl 1378 (by decide +kernel) rfl), (am_pl 58 (by decide +kernel) rfl), (am_pl 82 (by decide +kernel) rfl), (am_pl 1379 (by decide +kernel) rfl), by decide +kernel⟩
set_option maxRecDepth 100000 in
theorem yv_X8_set : am_yV yX8_set cX8_set 6 (some .int) 3 := ⟨(am_pl 1124 (by decide +kernel) rfl), (am_pl 1125 (by decide +kernel) rfl), (am_pl 82 (by decide +kernel) rfl), (am_pl 1126 (by decide +kernel) rfl), by decide +kernel⟩
set_option maxRecDepth 100000 in
theorem yv_X8_show : am_yV yX8_show cX8_show 3 (some .int) 2 := ⟨(am_pl 1147 (by decide +kernel) rfl), (am_pl 1148 (by decide +kernel) rfl), (am_pl 82 (by decide +kernel) rfl), (am_pl 1149 (by decide +kernel) rfl), by decide +kernel⟩
set_option maxRecDepth 100000 in
theorem yv_X8_statement : am_yV yX8_statement cX8_statement 2 (some .boolean) 0 := ⟨(am_pl 1252 (by decide +kernel) rfl), (am_pl 42 (by decide +kernel) rfl), (am_pl 82 (by decide +kernel) rfl), (am_pl 1253 (by decide +kernel) rfl), by decide +kernel⟩
set_option maxRecDepth 100000 in
theorem yv_X8_status : am_yV yX8_status cX8_status 4 (some .int) 1 := ⟨(am_pl 1520 (by decide +kernel) rfl), (am_pl 1521 (by decide +kernel) rfl), (am_pl 82 (by decide +kernel) rfl), (am_pl 1522 (by decide +kernel) rfl), by decide +kernel⟩
set_option maxRecDepth 100000 in
theorem yv_X8_steps : am_yV yX8_steps cX8_steps 3 (some .int) 2 := ⟨(am_pl 1341 (by decide +kernel) rfl), (am_pl 1342 (by decide +kernel) rfl), (am_pl 82 (by decide +kernel) rfl), (am_pl 1343 (by decide +kernel) rfl), by decide +kernel⟩
set_option maxRecDepth 100000 in
theorem yv_X8_sumOf : am_yS yX8_sumOf cX8_sumOf 4 (some .int) 2 := ⟨(am_pl 1524 (by decide +kernel) rfl), (am_pl 82 (by decide +kernel) rfl), (am_pl 1525 (by decide +kernel) rfl), by decide +kernel⟩
set_option maxRecDepth 100000 in
theorem yv_X8_sure : am_yV yX8_sure cX8_sure 6 (some .int) 2 := ⟨(am_pl 1459 (by decide +kernel) rfl), (am_pl 67 (by decide +kernel) rfl), (am_pl 82 (by decide +kernel) rfl), (am_pl 1460 (by decide +kernel) rfl), by decide +kernel⟩
set_option maxRecDepth 100000 in
theorem yv_X8_takeFrom : am_yV yX8_takeFrom cX8_takeFrom 3 none 1 := ⟨(am_pl 1231 (by decide +kernel) rfl), (am_pl 39 (by decide +kernel) rfl), (am_pl 82 (by decide +kernel) rfl), (am_pl 1232 (by decide +kernel) rfl), by decide +kernel⟩
set_option maxRecDepth 100000 in
theorem yv_X8_tell : am_yV yX8_tell cX8_tell 6 (some .int) 3 := ⟨(am_pl 1206 (by decide +kernel) rfl), (am_pl 1207 (by decide +kernel) rfl), (am_pl 82 (by decide +kernel) rfl), (am_pl 1208 (by decide +kernel) rfl), by decide +kernel⟩
set_option maxRecDepth 100000 in
theorem yv_X8_tells : am_yV yX8_tells cX8_tells 2 (some .boolean) 1 := ⟨(am_pl 1267 (by decide +kernel) rfl), (am_pl 45 (by decide +kernel) rfl), (am_pl 82 (by decide +kernel) rfl), (am_pl 1268 (by decide +kernel) rfl), by decide +kernel⟩
set_option maxRecDepth 100000 in
theorem yv_X8_tour : am_yV yX8_tour cX8_tour 4 (some .int) 2 := ⟨(am_pl 1365 (by decide +kernel) rfl), (am_pl 1366 (by decide +kernel) rfl), (am_pl 82 (by decide +kernel) rfl), (am_pl 1367 (by decide +kernel) rfl), by decide +kernel⟩
set_option maxRecDepth 100000 in
theorem yv_X8_tourFrom : am_yV yX8_tourFrom cX8_tourFrom 4 (some .int) 3 := ⟨(am_pl 1374 (by decide +kernel) rfl), (am_pl 57 (by decide +kernel) rfl), (am_pl 82 (by decide +kernel) rfl), (am_pl 1375 (by decide +kernel) rfl), by decide +kernel⟩
set_option maxRecDepth 100000 in
theorem yv_X8_tourNow : am_yV yX8_tourNow cX8_tourNow 3 (some .int) 2 := ⟨(am_pl 1370 (by decide +kernel) rfl), (am_pl 56 (by decide +kernel) rfl), (am_pl 82 (by decide +kernel) rfl), (am_pl 1371 (by decide +kernel) rfl), by decide +kernel⟩
set_option maxRecDepth 100000 in
theorem yv_X8_tourOf : am_yV yX8_tourOf cX8_tourOf 3 (some .int) 2 := ⟨(am_pl 1381 (by decide +kernel) rfl), (am_pl 1382 (by decide +kernel) rfl), (am_pl 82 (by decide +kernel) rfl), (am_pl 1383 (by decide +kernel) rfl), by decide +kernel⟩
set_option maxRecDepth 100000 in
theorem yv_X8_valleyOf : am_yV yX8_valleyOf cX8_valleyOf 3 (some .int) 2 := ⟨(am_pl 1302 (by decide +kernel) rfl), (am_pl 1303 (by decide +kernel) rfl), (am_pl 82 (by decide +kernel) rfl), (am_pl 1304 (by decide +kernel) rfl), by decide +kernel⟩
set_option maxRecDepth 100000 in
theorem yv_X8_valueOf : am_yV yX8_valueOf cX8_valueOf 3 (some .int) 2 := ⟨(am_pl 1406 (by decide +kernel) rfl), (am_pl 60 (by decide +kernel) rfl), (am_pl 82 (by decide +kernel) rfl), (am_pl 1407 (by decide +kernel) rfl), by decide +kernel⟩
set_option maxRecDepth 100000 in
theorem yv_X8_way : am_yV yX8_way cX8_way 4 (some .int) 3 := ⟨(am_pl 1323 (by decide +kernel) rfl), (am_pl 1324 (by decide +kernel) rfl), (am_pl 82 (by decide +kernel) rfl), (am_pl 1325 (by decide +kernel) rfl), by decide +kernel⟩
set_option maxRecDepth 100000 in
theorem yv_X8_weeks : am_yV yX8_weeks cX8_weeks 7 (some .int) 1 := ⟨(am_pl 1498 (by decide +kernel) rfl), (am_pl 1499 (by decide +kernel) rfl), (am_pl 82 (by decide +kernel) rfl), (am_pl 1500 (by decide +kernel) rfl), by decide +kernel⟩
set_option maxRecDepth 100000 in
theorem yv_X8_weight : am_yV yX8_weight cX8_weight 5 (some .int) 4 := ⟨(am_pl 1334 (by decide +kernel) rfl), (am_pl 54 (by decide +kernel) rfl), (am_pl 82 (by decide +kernel) rfl), (am_pl 1335 (by decide +kernel) rfl), by decide +kernel⟩
set_option maxRecDepth 100000 in
theorem yv_X8_wipe : am_yV yX8_wipe cX8_wipe 2 (some .int) 0 := ⟨(am_pl 1216 (by decide +kernel) rfl), (am_pl 1217 (by decide +kernel) rfl), (am_pl 82 (by decide +kernel) rfl), (am_pl 1218 (by decide +kernel) rfl), by decide +kernel⟩
set_option maxRecDepth 100000 in
theorem yv_X8_within : am_yV yX8_within cX8_within 6 (some .int) 3 := ⟨(am_pl 1349 (by decide +kernel) rfl), (am_pl 1350 (by decide +kernel) rfl), (am_pl 82 (by decide +kernel) rfl), (am_pl 1351 (by decide +kernel) rfl), by decide +kernel⟩
set_option maxRecDepth 100000 in
theorem yv_X8_works : am_yV yX8_works cX8_works 4 (some .int) 1 := ⟨(am_pl 1397 (by decide +kernel) rfl), (am_pl 1398 (by decide +kernel) rfl), (am_pl 82 (by decide +kernel) rfl), (am_pl 1399 (by decide +kernel) rfl), by decide +kernel⟩
set_option maxRecDepth 100000 in
theorem yv_X8_wrong : am_yV yX8_wrong cX8_wrong 1 (some .boolean) 0 := ⟨(am_pl 1275 (by decide +kernel) rfl), (am_pl 47 (by decide +kernel) rfl), (am_pl 82 (by decide +kernel) rfl), (am_pl 1276 (by decide +kernel) rfl), by decide +kernel⟩
set_option maxRecDepth 100000 in
theorem yv_X8_wrongIn : am_yV yX8_wrongIn cX8_wrongIn 6 (some .int) 3 := ⟨(am_pl 1471 (by decide +kernel) rfl), (am_pl 69 (by decide +kernel) rfl), (am_pl 82 (by decide +kernel) rfl), (am_pl 1472 (by decide +kernel) rfl), by decide +kernel⟩
set_option maxRecDepth 100000 in
theorem yv_X8_wrongSame : am_yV yX8_wrongSame cX8_wrongSame 1 (some .boolean) 0 := ⟨(am_pl 1287 (by decide +kernel) rfl), (am_pl 49 (by decide +kernel) rfl), (am_pl 82 (by decide +kernel) rfl), (am_pl 1288 (by decide +kernel) rfl), by decide +kernel⟩
set_option maxRecDepth 100000 in
theorem ml_X7_69 : Cond.methodLink RX7 69 yX7_isShelf ∈ am_tb := (am_pl 314 (by decide +kernel) rfl)
set_option maxRecDepth 100000 in
theorem ml_X7_73 : Cond.methodLink RX7 73 yX7_isWithin ∈ am_tb := (am_pl 317 (by decide +kernel) rfl)
set_option maxRecDepth 100000 in
theorem ml_X7_77 : Cond.methodLink RX7 77 yX7_refuse ∈ am_tb := (am_pl 320 (by decide +kernel) rfl)
set_option maxRecDepth 100000 in
theorem ml_X7_81 : Cond.methodLink RX7 81 yX2_putRow ∈ am_tb := (am_pl 324 (by decide +kernel) rfl)
set_option maxRecDepth 100000 in
theorem ml_X7_85 : Cond.methodLink RX7 85 yX2_refusalOfRow ∈ am_tb := (am_pl 335 (by decide +kernel) rfl)
set_option maxRecDepth 100000 in
theorem ml_X7_88 : Cond.methodLink RX7 88 yX2_hasElement ∈ am_tb := (am_pl 343 (by decide +kernel) rfl)
set_option maxRecDepth 100000 in
theorem ml_X7_92 : Cond.methodLink RX7 92 yX2_putElement ∈ am_tb := (am_pl 348 (by decide +kernel) rfl)
set_option maxRecDepth 100000 in
theorem ml_X7_96 : Cond.methodLink RX7 96 yX2_refusalOfTwoRows ∈ am_tb := (am_pl 360 (by decide +kernel) rfl)
set_option maxRecDepth 100000 in
theorem ml_X7_100 : Cond.methodLink RX7 100 yX2_hasElements ∈ am_tb := (am_pl 365 (by decide +kernel) rfl)
set_option maxRecDepth 100000 in
theorem ml_X7_103 : Cond.methodLink RX7 103 yX2_copyElements ∈ am_tb := (am_pl 369 (by decide +kernel) rfl)
set_option maxRecDepth 100000 in
theorem ml_X7_107 : Cond.methodLink RX7 107 yX2_elementAt ∈ am_tb := (am_pl 381 (by decide +kernel) rfl)
set_option maxRecDepth 100000 in
theorem ml_X7_114 : Cond.methodLink RX7 114 yX0_hasPerson ∈ am_tb := (am_pl 393 (by decide +kernel) rfl)
set_option maxRecDepth 100000 in
theorem ml_X7_121 : Cond.methodLink RX7 121 yX7_isOfKind ∈ am_tb := (am_pl 401 (by decide +kernel) rfl)
set_option maxRecDepth 100000 in
theorem ml_X7_124 : Cond.methodLink RX7 124 yX0_priceFor ∈ am_tb := (am_pl 406 (by decide +kernel) rfl)
set_option maxRecDepth 100000 in
theorem ml_X7_132 : Cond.methodLink RX7 132 yX7_isValley ∈ am_tb := (am_pl 431 (by decide +kernel) rfl)
set_option maxRecDepth 100000 in
theorem ml_X7_135 : Cond.methodLink RX7 135 yX7_mayBeOfValley ∈ am_tb := (am_pl 432 (by decide +kernel) rfl)
set_option maxRecDepth 100000 in
theorem ml_X7_144 : Cond.methodLink RX7 144 yX0_addPass ∈ am_tb := (am_pl 439 (by decide +kernel) rfl)
set_option maxRecDepth 100000 in
theorem ml_X7_151 : Cond.methodLink RX7 151 yX0_addPerson ∈ am_tb := (am_pl 447 (by decide +kernel) rfl)
set_option maxRecDepth 100000 in
theorem ml_X7_155 : Cond.methodLink RX7 155 yX7_toldFact ∈ am_tb := (am_pl 459 (by decide +kernel) rfl)
set_option maxRecDepth 100000 in
theorem ml_X7_158 : Cond.methodLink RX7 158 yX7_mostOfFact ∈ am_tb := (am_pl 462 (by decide +kernel) rfl)
set_option maxRecDepth 100000 in
theorem ml_X7_161 : Cond.methodLink RX7 161 yX0_peopleAt ∈ am_tb := (am_pl 469 (by decide +kernel) rfl)
set_option maxRecDepth 100000 in
theorem ml_X7_164 : Cond.methodLink RX7 164 yX0_hasPass ∈ am_tb := (am_pl 477 (by decide +kernel) rfl)
set_option maxRecDepth 100000 in
theorem ml_X7_173 : Cond.methodLink RX7 173 yX4_putByte ∈ am_tb := (am_pl 489 (by decide +kernel) rfl)
set_option maxRecDepth 100000 in
theorem ml_X7_177 : Cond.methodLink RX7 177 yX4_readLand ∈ am_tb := (am_pl 501 (by decide +kernel) rfl)
set_option maxRecDepth 100000 in
theorem ml_X7_184 : Cond.methodLink RX7 184 yX0_becomes ∈ am_tb := (am_pl 616 (by decide +kernel) rfl)
set_option maxRecDepth 100000 in
theorem ml_X7_188 : Cond.methodLink RX7 188 yX0_endOf ∈ am_tb := (am_pl 622 (by decide +kernel) rfl)
set_option maxRecDepth 100000 in
theorem ml_X7_191 : Cond.methodLink RX7 191 yX7_leastWay ∈ am_tb := (am_pl 630 (by decide +kernel) rfl)
set_option maxRecDepth 100000 in
theorem ml_X7_194 : Cond.methodLink RX7 194 yX5_leastTour ∈ am_tb := (am_pl 665 (by decide +kernel) rfl)
set_option maxRecDepth 100000 in
theorem ml_X7_198 : Cond.methodLink RX7 198 yX6_findRoute ∈ am_tb := (am_pl 693 (by decide +kernel) rfl)
set_option maxRecDepth 100000 in
theorem ml_X7_205 : Cond.methodLink RX7 205 yX5_findOrder ∈ am_tb := (am_pl 707 (by decide +kernel) rfl)
set_option maxRecDepth 100000 in
theorem ml_X7_212 : Cond.methodLink RX7 212 yX5_savedBy ∈ am_tb := (am_pl 720 (by decide +kernel) rfl)
set_option maxRecDepth 100000 in
theorem ml_X7_215 : Cond.methodLink RX7 215 yX0_payAt ∈ am_tb := (am_pl 736 (by decide +kernel) rfl)
set_option maxRecDepth 100000 in
theorem ml_X7_218 : Cond.methodLink RX7 218 yX6_measure ∈ am_tb := (am_pl 634 (by decide +kernel) rfl)
set_option maxRecDepth 100000 in
theorem ml_X7_222 : Cond.methodLink RX7 222 yX6_between ∈ am_tb := (am_pl 656 (by decide +kernel) rfl)
set_option maxRecDepth 100000 in
theorem ml_X7_225 : Cond.methodLink RX7 225 yX5_settle ∈ am_tb := (am_pl 768 (by decide +kernel) rfl)
set_option maxRecDepth 100000 in
theorem ml_X7_232 : Cond.methodLink RX7 232 yX6_bestPlace ∈ am_tb := (am_pl 791 (by decide +kernel) rfl)
set_option maxRecDepth 100000 in
theorem ml_X7_239 : Cond.methodLink RX7 239 yX7_refusalOfElements ∈ am_tb := (am_pl 804 (by decide +kernel) rfl)
set_option maxRecDepth 100000 in
theorem ml_X7_242 : Cond.methodLink RX7 242 yX7_areStamps ∈ am_tb := (am_pl 808 (by decide +kernel) rfl)
set_option maxRecDepth 100000 in
theorem ml_X7_249 : Cond.methodLink RX7 249 yX3_follow ∈ am_tb := (am_pl 814 (by decide +kernel) rfl)
set_option maxRecDepth 100000 in
theorem ml_X7_253 : Cond.methodLink RX7 253 yX3_howMany ∈ am_tb := (am_pl 827 (by decide +kernel) rfl)
set_option maxRecDepth 100000 in
theorem ml_X7_256 : Cond.methodLink RX7 256 yX3_comeTo ∈ am_tb := (am_pl 831 (by decide +kernel) rfl)
set_option maxRecDepth 100000 in
theorem ml_X7_259 : Cond.methodLink RX7 259 yX3_forged ∈ am_tb := (am_pl 835 (by decide +kernel) rfl)
set_option maxRecDepth 100000 in
theorem ml_X7_262 : Cond.methodLink RX7 262 yX3_howManySure ∈ am_tb := (am_pl 840 (by decide +kernel) rfl)
set_option maxRecDepth 100000 in
theorem ml_X7_266 : Cond.methodLink RX7 266 yX1_findWrong ∈ am_tb := (am_pl 852 (by decide +kernel) rfl)
set_option maxRecDepth 100000 in
theorem ml_X7_270 : Cond.methodLink RX7 270 yX7_refusalOfPlan ∈ am_tb := (am_pl 887 (by decide +kernel) rfl)
set_option maxRecDepth 100000 in
theorem ml_X7_279 : Cond.methodLink RX7 279 arraycopyName ∈ am_tb := (am_pl 895 (by decide +kernel) rfl)
set_option maxRecDepth 100000 in
theorem ml_X7_288 : Cond.methodLink RX7 288 yX7_isAct ∈ am_tb := (am_pl 904 (by decide +kernel) rfl)
set_option maxRecDepth 100000 in
theorem ml_X7_292 : Cond.methodLink RX7 292 yX0_actInTruth ∈ am_tb := (am_pl 905 (by decide +kernel) rfl)
set_option maxRecDepth 100000 in
theorem ml_X7_295 : Cond.methodLink RX7 295 yX0_passWeeks ∈ am_tb := (am_pl 915 (by decide +kernel) rfl)
set_option maxRecDepth 100000 in
theorem ml_X7_301 : Cond.methodLink RX7 301 yX2_keepPeopleBelow ∈ am_tb := (am_pl 937 (by decide +kernel) rfl)
set_option maxRecDepth 100000 in
theorem ml_X7_304 : Cond.methodLink RX7 304 yX0_together ∈ am_tb := (am_pl 945 (by decide +kernel) rfl)
set_option maxRecDepth 100000 in
theorem ml_X7_307 : Cond.methodLink RX7 307 yX2_howManyHold ∈ am_tb := (am_pl 949 (by decide +kernel) rfl)
set_option maxRecDepth 100000 in
theorem ml_X0_38 : Cond.methodLink RX0 38 yJ7_fill_53178 ∈ am_tb := (am_pl 106 (by decide +kernel) rfl)
set_option maxRecDepth 100000 in
theorem ml_X0_44 : Cond.methodLink RX0 44 yX0_copyTable ∈ am_tb := (am_pl 509 (by decide +kernel) rfl)
set_option maxRecDepth 100000 in
theorem ml_X0_48 : Cond.methodLink RX0 48 arraycopyName ∈ am_tb := (am_pl 512 (by decide +kernel) rfl)
set_option maxRecDepth 100000 in
theorem mn_X0_54 : (RX0, 54, yX7_isValley, RX7) ∈ am_nst := by decide +kernel
set_option maxRecDepth 100000 in
theorem ml_X0_58 : Cond.methodLink RX0 58 yX0_valleyAhead ∈ am_tb := (am_pl 417 (by decide +kernel) rfl)
set_option maxRecDepth 100000 in
theorem ml_X0_62 : Cond.methodLink RX0 62 yX0_passFrom ∈ am_tb := (am_pl 420 (by decide +kernel) rfl)
set_option maxRecDepth 100000 in
theorem ml_X0_66 : Cond.methodLink RX0 66 yX0_fareOf ∈ am_tb := (am_pl 410 (by decide +kernel) rfl)
set_option maxRecDepth 100000 in
theorem ml_X0_69 : Cond.methodLink RX0 69 Lib.Math.max.name ∈ am_tb := (am_pl 424 (by decide +kernel) rfl)
set_option maxRecDepth 100000 in
theorem ml_X0_74 : Cond.methodLink RX0 74 yX0_tryWork ∈ am_tb := (am_pl 867 (by decide +kernel) rfl)
set_option maxRecDepth 100000 in
theorem ml_X0_78 : Cond.methodLink RX0 78 yX0_tryRest ∈ am_tb := (am_pl 873 (by decide +kernel) rfl)
set_option maxRecDepth 100000 in
theorem ml_X0_81 : Cond.methodLink RX0 81 yX0_tryStep ∈ am_tb := (am_pl 877 (by decide +kernel) rfl)
set_option maxRecDepth 100000 in
theorem ml_X0_85 : Cond.methodLink RX0 85 yX0_endOf ∈ am_tb := (am_pl 881 (by decide +kernel) rfl)
set_option maxRecDepth 100000 in
theorem ml_X0_88 : Cond.methodLink RX0 88 yX0_priceFor ∈ am_tb := (am_pl 882 (by decide +kernel) rfl)
set_option maxRecDepth 100000 in
theorem ml_X0_92 : Cond.methodLink RX0 92 Lib.Math.min.name ∈ am_tb := (am_pl 872 (by decide +kernel) rfl)
set_option maxRecDepth 100000 in
theorem ml_X0_95 : Cond.methodLink RX0 95 yX0_payAt ∈ am_tb := (am_pl 871 (by decide +kernel) rfl)
set_option maxRecDepth 100000 in
theorem mn_X0_98 : (RX0, 98, yX7_isOfKind, RX7) ∈ am_nst := by decide +kernel
set_option maxRecDepth 100000 in
theorem ml_X0_102 : Cond.methodLink RX0 102 yX0_hasPerson ∈ am_tb := (am_pl 909 (by decide +kernel) rfl)
set_option maxRecDepth 100000 in
theorem ml_X0_105 : Cond.methodLink RX0 105 yX0_tryAct ∈ am_tb := (am_pl 910 (by decide +kernel) rfl)
set_option maxRecDepth 100000 in
theorem ml_X0_108 : Cond.methodLink RX0 108 yX0_drawAct ∈ am_tb := (am_pl 919 (by decide +kernel) rfl)
set_option maxRecDepth 100000 in
theorem ml_X0_112 : Cond.methodLink RX0 112 yX0_actInTruth ∈ am_tb := (am_pl 924 (by decide +kernel) rfl)
set_option maxRecDepth 100000 in
theorem ml_X1_25 : Cond.methodLink RX1 25 arraycopyName ∈ am_tb := (am_pl 856 (by decide +kernel) rfl)
set_option maxRecDepth 100000 in
theorem mn_X1_31 : (RX1, 31, yX7_isAct, RX7) ∈ am_nst := by decide +kernel
set_option maxRecDepth 100000 in
theorem ml_X1_35 : Cond.methodLink RX1 35 yX0_tryAct ∈ am_tb := (am_pl 863 (by decide +kernel) rfl)
set_option maxRecDepth 100000 in
theorem ml_X2_23 : Cond.methodLink RX2 23 yJ7_fill_53178 ∈ am_tb := (am_pl 161 (by decide +kernel) rfl)
set_option maxRecDepth 100000 in
theorem ml_X2_29 : Cond.methodLink RX2 29 yJ7_fill_d0a16 ∈ am_tb := (am_pl 328 (by decide +kernel) rfl)
set_option maxRecDepth 100000 in
theorem ml_X2_32 : Cond.methodLink RX2 32 yX2_isRow ∈ am_tb := (am_pl 339 (by decide +kernel) rfl)
set_option maxRecDepth 100000 in
theorem ml_X2_36 : Cond.methodLink RX2 36 yX2_refusalOfRow ∈ am_tb := (am_pl 364 (by decide +kernel) rfl)
set_option maxRecDepth 100000 in
theorem mn_X2_40 : (RX2, 40, yX7_isShelf, RX7) ∈ am_nst := by decide +kernel
set_option maxRecDepth 100000 in
theorem ml_X2_43 : Cond.methodLink RX2 43 yX2_hasElement ∈ am_tb := (am_pl 352 (by decide +kernel) rfl)
set_option maxRecDepth 100000 in
theorem ml_X2_47 : Cond.methodLink RX2 47 yX2_narrowed ∈ am_tb := (am_pl 353 (by decide +kernel) rfl)
set_option maxRecDepth 100000 in
theorem ml_X2_51 : Cond.methodLink RX2 51 yX2_hasElements ∈ am_tb := (am_pl 373 (by decide +kernel) rfl)
set_option maxRecDepth 100000 in
theorem ml_X2_55 : Cond.methodLink RX2 55 arraycopyName ∈ am_tb := (am_pl 374 (by decide +kernel) rfl)
set_option maxRecDepth 100000 in
theorem ml_X3_16 : Cond.methodLink RX3 16 yJ7_fill_53178 ∈ am_tb := (am_pl 818 (by decide +kernel) rfl)
set_option maxRecDepth 100000 in
theorem ml_X3_22 : Cond.methodLink RX3 22 yX3_stepOn ∈ am_tb := (am_pl 819 (by decide +kernel) rfl)
set_option maxRecDepth 100000 in
theorem ml_X3_26 : Cond.methodLink RX3 26 yX0_endOf ∈ am_tb := (am_pl 823 (by decide +kernel) rfl)
set_option maxRecDepth 100000 in
theorem ml_X3_35 : Cond.methodLink RX3 35 Lib.Math.min.name ∈ am_tb := (am_pl 826 (by decide +kernel) rfl)
set_option maxRecDepth 100000 in
theorem ml_X3_40 : Cond.methodLink RX3 40 yX3_comeTo ∈ am_tb := (am_pl 839 (by decide +kernel) rfl)
set_option maxRecDepth 100000 in
theorem ml_X3_44 : Cond.methodLink RX3 44 yJ6_bitCount_0f7a4 ∈ am_tb := (am_pl 844 (by decide +kernel) rfl)
set_option maxRecDepth 100000 in
theorem ml_X3_49 : Cond.methodLink RX3 49 yX3_leadingInto ∈ am_tb := (am_pl 845 (by decide +kernel) rfl)
set_option maxRecDepth 100000 in
theorem ml_X4_38 : Cond.methodLink RX4 38 yX0_becomes ∈ am_tb := (am_pl 505 (by decide +kernel) rfl)
set_option maxRecDepth 100000 in
theorem ml_X4_42 : Cond.methodLink RX4 42 yX4_readStatement ∈ am_tb := (am_pl 513 (by decide +kernel) rfl)
set_option maxRecDepth 100000 in
theorem ml_X4_46 : Cond.methodLink RX4 46 yX4_nextToken ∈ am_tb := (am_pl 517 (by decide +kernel) rfl)
set_option maxRecDepth 100000 in
theorem ml_X4_49 : Cond.methodLink RX4 49 yX4_statementOfWord ∈ am_tb := (am_pl 524 (by decide +kernel) rfl)
set_option maxRecDepth 100000 in
theorem ml_X4_53 : Cond.methodLink RX4 53 yX4_hasRoomFor ∈ am_tb := (am_pl 592 (by decide +kernel) rfl)
set_option maxRecDepth 100000 in
theorem ml_X4_60 : Cond.methodLink RX4 60 yX4_readNumber ∈ am_tb := (am_pl 598 (by decide +kernel) rfl)
set_option maxRecDepth 100000 in
theorem ml_X4_64 : Cond.methodLink RX4 64 yX4_comeToPass ∈ am_tb := (am_pl 610 (by decide +kernel) rfl)
set_option maxRecDepth 100000 in
theorem ml_X4_74 : Cond.methodLink RX4 74 yX4_tokenNumber ∈ am_tb := (am_pl 602 (by decide +kernel) rfl)
set_option maxRecDepth 100000 in
theorem ml_X4_77 : Cond.methodLink RX4 77 yX4_mostOf ∈ am_tb := (am_pl 606 (by decide +kernel) rfl)
set_option maxRecDepth 100000 in
theorem ml_X4_88 : Cond.methodLink RX4 88 yX0_addPass ∈ am_tb := (am_pl 614 (by decide +kernel) rfl)
set_option maxRecDepth 100000 in
theorem ml_X4_92 : Cond.methodLink RX4 92 yX0_addPerson ∈ am_tb := (am_pl 615 (by decide +kernel) rfl)
set_option maxRecDepth 100000 in
theorem ml_X4_99 : Cond.methodLink RX4 99 yX4_tokenOf ∈ am_tb := (am_pl 521 (by decide +kernel) rfl)
set_option maxRecDepth 100000 in
theorem ml_X4_102 : Cond.methodLink RX4 102 yX4_wordOf ∈ am_tb := (am_pl 528 (by decide +kernel) rfl)
set_option maxRecDepth 100000 in
theorem ml_X4_106 : Cond.methodLink RX4 106 yX4_isWord ∈ am_tb := (am_pl 540 (by decide +kernel) rfl)
set_option maxRecDepth 100000 in
theorem ml_X4_110 : Cond.methodLink RX4 110 yJ0_length_8abf5 ∈ am_tb := (am_pl 544 (by decide +kernel) rfl)
set_option maxRecDepth 100000 in
theorem ml_X4_115 : Cond.methodLink RX4 115 yJ0_charAt_5068e ∈ am_tb := (am_pl 554 (by decide +kernel) rfl)
set_option maxRecDepth 100000 in
theorem ml_X5_34 : Cond.methodLink RX5 34 yX6_measure ∈ am_tb := (am_pl 669 (by decide +kernel) rfl)
set_option maxRecDepth 100000 in
theorem ml_X5_40 : Cond.methodLink RX5 40 yX5_leastFrom ∈ am_tb := (am_pl 670 (by decide +kernel) rfl)
set_option maxRecDepth 100000 in
theorem ml_X5_44 : Cond.methodLink RX5 44 yX5_fillSet ∈ am_tb := (am_pl 674 (by decide +kernel) rfl)
set_option maxRecDepth 100000 in
theorem ml_X5_48 : Cond.methodLink RX5 48 yX6_between ∈ am_tb := (am_pl 678 (by decide +kernel) rfl)
set_option maxRecDepth 100000 in
theorem ml_X5_52 : Cond.methodLink RX5 52 yX5_leastByNext ∈ am_tb := (am_pl 679 (by decide +kernel) rfl)
set_option maxRecDepth 100000 in
theorem ml_X5_57 : Cond.methodLink RX5 57 yX5_leastOver ∈ am_tb := (am_pl 684 (by decide +kernel) rfl)
set_option maxRecDepth 100000 in
theorem ml_X5_60 : Cond.methodLink RX5 60 Lib.Math.min.name ∈ am_tb := (am_pl 688 (by decide +kernel) rfl)
set_option maxRecDepth 100000 in
theorem ml_X5_68 : Cond.methodLink RX5 68 yX5_leastTour ∈ am_tb := (am_pl 711 (by decide +kernel) rfl)
set_option maxRecDepth 100000 in
theorem ml_X5_72 : Cond.methodLink RX5 72 yX5_firstNext ∈ am_tb := (am_pl 712 (by decide +kernel) rfl)
set_option maxRecDepth 100000 in
theorem ml_X5_79 : Cond.methodLink RX5 79 yJ6_bitCount_0f7a4 ∈ am_tb := (am_pl 772 (by decide +kernel) rfl)
set_option maxRecDepth 100000 in
theorem ml_X5_85 : Cond.methodLink RX5 85 yX5_firstHome ∈ am_tb := (am_pl 778 (by decide +kernel) rfl)
set_option maxRecDepth 100000 in
theorem ml_X5_88 : Cond.methodLink RX5 88 yX5_costWith ∈ am_tb := (am_pl 782 (by decide +kernel) rfl)
set_option maxRecDepth 100000 in
theorem ml_X5_92 : Cond.methodLink RX5 92 Lib.Math.max.name ∈ am_tb := (am_pl 786 (by decide +kernel) rfl)
set_option maxRecDepth 100000 in
theorem ml_X6_24 : Cond.methodLink RX6 24 yJ7_fill_53178 ∈ am_tb := (am_pl 639 (by decide +kernel) rfl)
set_option maxRecDepth 100000 in
theorem ml_X6_30 : Cond.methodLink RX6 30 yX0_endOf ∈ am_tb := (am_pl 640 (by decide +kernel) rfl)
set_option maxRecDepth 100000 in
theorem ml_X6_36 : Cond.methodLink RX6 36 yX6_weight ∈ am_tb := (am_pl 641 (by decide +kernel) rfl)
set_option maxRecDepth 100000 in
theorem ml_X6_40 : Cond.methodLink RX6 40 Lib.Math.min.name ∈ am_tb := (am_pl 649 (by decide +kernel) rfl)
set_option maxRecDepth 100000 in
theorem ml_X6_45 : Cond.methodLink RX6 45 yX6_shortenBy ∈ am_tb := (am_pl 652 (by decide +kernel) rfl)
set_option maxRecDepth 100000 in
theorem ml_X6_49 : Cond.methodLink RX6 49 yX0_priceFor ∈ am_tb := (am_pl 644 (by decide +kernel) rfl)
set_option maxRecDepth 100000 in
theorem ml_X6_53 : Cond.methodLink RX6 53 yX0_hoursOf ∈ am_tb := (am_pl 645 (by decide +kernel) rfl)
set_option maxRecDepth 100000 in
theorem mn_X6_56 : (RX6, 56, yX7_isValley, RX7) ∈ am_nst := by decide +kernel
set_option maxRecDepth 100000 in
theorem ml_X6_60 : Cond.methodLink RX6 60 yX6_measure ∈ am_tb := (am_pl 697 (by decide +kernel) rfl)
set_option maxRecDepth 100000 in
theorem ml_X6_64 : Cond.methodLink RX6 64 yX6_firstStep ∈ am_tb := (am_pl 698 (by decide +kernel) rfl)
set_option maxRecDepth 100000 in
theorem ml_X6_68 : Cond.methodLink RX6 68 yX6_between ∈ am_tb := (am_pl 702 (by decide +kernel) rfl)
set_option maxRecDepth 100000 in
theorem ml_X6_78 : Cond.methodLink RX6 78 Lib.Math.max.name ∈ am_tb := (am_pl 795 (by decide +kernel) rfl)
set_option maxRecDepth 100000 in
theorem ml_X8_117 : Cond.methodLink RX8 117 yX8_in ∈ am_tb := (am_pl 1114 (by decide +kernel) rfl)
set_option maxRecDepth 100000 in
theorem ml_X8_129 : Cond.methodLink RX8 129 yX8_refuse ∈ am_tb := (am_pl 1119 (by decide +kernel) rfl)
set_option maxRecDepth 100000 in
theorem ml_X8_133 : Cond.methodLink RX8 133 yX8_noRow ∈ am_tb := (am_pl 1127 (by decide +kernel) rfl)
set_option maxRecDepth 100000 in
theorem ml_X8_136 : Cond.methodLink RX8 136 yX8_fit ∈ am_tb := (am_pl 1131 (by decide +kernel) rfl)
set_option maxRecDepth 100000 in
theorem ml_X8_140 : Cond.methodLink RX8 140 yX8_isOne ∈ am_tb := (am_pl 1150 (by decide +kernel) rfl)
set_option maxRecDepth 100000 in
theorem ml_X8_146 : Cond.methodLink RX8 146 yX8_isUnder ∈ am_tb := (am_pl 1159 (by decide +kernel) rfl)
set_option maxRecDepth 100000 in
theorem ml_X8_150 : Cond.methodLink RX8 150 yX8_priceOf ∈ am_tb := (am_pl 1162 (by decide +kernel) rfl)
set_option maxRecDepth 100000 in
theorem ml_X8_154 : Cond.methodLink RX8 154 yX8_isValley ∈ am_tb := (am_pl 1178 (by decide +kernel) rfl)
set_option maxRecDepth 100000 in
theorem ml_X8_167 : Cond.methodLink RX8 167 yX8_addPass ∈ am_tb := (am_pl 1189 (by decide +kernel) rfl)
set_option maxRecDepth 100000 in
theorem ml_X8_171 : Cond.methodLink RX8 171 yX8_addPerson ∈ am_tb := (am_pl 1197 (by decide +kernel) rfl)
set_option maxRecDepth 100000 in
theorem ml_X8_194 : Cond.methodLink RX8 194 yX8_isLetter ∈ am_tb := (am_pl 1244 (by decide +kernel) rfl)
set_option maxRecDepth 100000 in
theorem ml_X8_197 : Cond.methodLink RX8 197 yX8_isDigit ∈ am_tb := (am_pl 1247 (by decide +kernel) rfl)
set_option maxRecDepth 100000 in
theorem ml_X8_203 : Cond.methodLink RX8 203 yJ0_length_8abf5 ∈ am_tb := (am_pl 1259 (by decide +kernel) rfl)
set_option maxRecDepth 100000 in
theorem ml_X8_209 : Cond.methodLink RX8 209 yJ0_charAt_5068e ∈ am_tb := (am_pl 1260 (by decide +kernel) rfl)
set_option maxRecDepth 100000 in
theorem ml_X8_213 : Cond.methodLink RX8 213 yX8_wrong ∈ am_tb := (am_pl 1273 (by decide +kernel) rfl)
set_option maxRecDepth 100000 in
theorem ml_X8_217 : Cond.methodLink RX8 217 yX8_look ∈ am_tb := (am_pl 1240 (by decide +kernel) rfl)
set_option maxRecDepth 100000 in
theorem ml_X8_220 : Cond.methodLink RX8 220 yX8_number ∈ am_tb := (am_pl 1269 (by decide +kernel) rfl)
set_option maxRecDepth 100000 in
theorem ml_X8_224 : Cond.methodLink RX8 224 yX8_tells ∈ am_tb := (am_pl 1265 (by decide +kernel) rfl)
set_option maxRecDepth 100000 in
theorem ml_X8_227 : Cond.methodLink RX8 227 yX8_wrongSame ∈ am_tb := (am_pl 1285 (by decide +kernel) rfl)
set_option maxRecDepth 100000 in
theorem ml_X8_231 : Cond.methodLink RX8 231 yX8_isWord ∈ am_tb := (am_pl 1255 (by decide +kernel) rfl)
set_option maxRecDepth 100000 in
theorem ml_X8_235 : Cond.methodLink RX8 235 yX8_asks ∈ am_tb := (am_pl 1261 (by decide +kernel) rfl)
set_option maxRecDepth 100000 in
theorem ml_X8_245 : Cond.methodLink RX8 245 yX8_passTold ∈ am_tb := (am_pl 1281 (by decide +kernel) rfl)
set_option maxRecDepth 100000 in
theorem ml_X8_250 : Cond.methodLink RX8 250 yX8_ofPeople ∈ am_tb := (am_pl 1290 (by decide +kernel) rfl)
set_option maxRecDepth 100000 in
theorem ml_X8_255 : Cond.methodLink RX8 255 yX8_ofOne ∈ am_tb := (am_pl 1295 (by decide +kernel) rfl)
set_option maxRecDepth 100000 in
theorem ml_X8_263 : Cond.methodLink RX8 263 yX8_statement ∈ am_tb := (am_pl 1250 (by decide +kernel) rfl)
set_option maxRecDepth 100000 in
theorem ml_X8_271 : Cond.methodLink RX8 271 yX8_takeFrom ∈ am_tb := (am_pl 1229 (by decide +kernel) rfl)
set_option maxRecDepth 100000 in
theorem ml_X8_275 : Cond.methodLink RX8 275 yX8_fresh ∈ am_tb := (am_pl 1223 (by decide +kernel) rfl)
set_option maxRecDepth 100000 in
theorem ml_X8_279 : Cond.methodLink RX8 279 yX8_readAll ∈ am_tb := (am_pl 1236 (by decide +kernel) rfl)
set_option maxRecDepth 100000 in
theorem ml_X8_284 : Cond.methodLink RX8 284 yX8_manyAt ∈ am_tb := (am_pl 1306 (by decide +kernel) rfl)
set_option maxRecDepth 100000 in
theorem ml_X8_287 : Cond.methodLink RX8 287 yX8_nextOf ∈ am_tb := (am_pl 1170 (by decide +kernel) rfl)
set_option maxRecDepth 100000 in
theorem ml_X8_291 : Cond.methodLink RX8 291 yX8_fareOf ∈ am_tb := (am_pl 1166 (by decide +kernel) rfl)
set_option maxRecDepth 100000 in
theorem ml_X8_294 : Cond.methodLink RX8 294 yX8_hoursOf ∈ am_tb := (am_pl 1336 (by decide +kernel) rfl)
set_option maxRecDepth 100000 in
theorem ml_X8_298 : Cond.methodLink RX8 298 yX8_weight ∈ am_tb := (am_pl 1332 (by decide +kernel) rfl)
set_option maxRecDepth 100000 in
theorem ml_X8_304 : Cond.methodLink RX8 304 yX8_findFar ∈ am_tb := (am_pl 1327 (by decide +kernel) rfl)
set_option maxRecDepth 100000 in
theorem ml_X8_307 : Cond.methodLink RX8 307 yX8_copied ∈ am_tb := (am_pl 1233 (by decide +kernel) rfl)
set_option maxRecDepth 100000 in
theorem ml_X8_317 : Cond.methodLink RX8 317 yX8_seekTour ∈ am_tb := (am_pl 1376 (by decide +kernel) rfl)
set_option maxRecDepth 100000 in
theorem ml_X8_321 : Cond.methodLink RX8 321 yX8_tourFrom ∈ am_tb := (am_pl 1372 (by decide +kernel) rfl)
set_option maxRecDepth 100000 in
theorem ml_X8_324 : Cond.methodLink RX8 324 yX8_tourNow ∈ am_tb := (am_pl 1368 (by decide +kernel) rfl)
set_option maxRecDepth 100000 in
theorem ml_X8_327 : Cond.methodLink RX8 327 yX8_savedBy ∈ am_tb := (am_pl 1388 (by decide +kernel) rfl)
set_option maxRecDepth 100000 in
theorem ml_X8_330 : Cond.methodLink RX8 330 yX8_valueOf ∈ am_tb := (am_pl 1404 (by decide +kernel) rfl)
set_option maxRecDepth 100000 in
theorem ml_X8_336 : Cond.methodLink RX8 336 yX8_seekHomes ∈ am_tb := (am_pl 1417 (by decide +kernel) rfl)
set_option maxRecDepth 100000 in
theorem ml_X8_341 : Cond.methodLink RX8 341 yX8_leastPaid ∈ am_tb := (am_pl 1425 (by decide +kernel) rfl)
set_option maxRecDepth 100000 in
theorem ml_X8_344 : Cond.methodLink RX8 344 yX8_fits ∈ am_tb := (am_pl 1441 (by decide +kernel) rfl)
set_option maxRecDepth 100000 in
theorem ml_X8_349 : Cond.methodLink RX8 349 yX8_journeysTo ∈ am_tb := (am_pl 1445 (by decide +kernel) rfl)
set_option maxRecDepth 100000 in
theorem ml_X8_352 : Cond.methodLink RX8 352 yX8_maybeAt ∈ am_tb := (am_pl 1449 (by decide +kernel) rfl)
set_option maxRecDepth 100000 in
theorem ml_X8_355 : Cond.methodLink RX8 355 yX8_findJourneys ∈ am_tb := (am_pl 1437 (by decide +kernel) rfl)
set_option maxRecDepth 100000 in
theorem ml_X8_359 : Cond.methodLink RX8 359 yX8_forged ∈ am_tb := (am_pl 1453 (by decide +kernel) rfl)
set_option maxRecDepth 100000 in
theorem ml_X8_362 : Cond.methodLink RX8 362 yX8_sure ∈ am_tb := (am_pl 1457 (by decide +kernel) rfl)
set_option maxRecDepth 100000 in
theorem ml_X8_371 : Cond.methodLink RX8 371 yX8_isAct ∈ am_tb := (am_pl 1473 (by decide +kernel) rfl)
set_option maxRecDepth 100000 in
theorem ml_X8_374 : Cond.methodLink RX8 374 yX8_acts ∈ am_tb := (am_pl 1477 (by decide +kernel) rfl)
set_option maxRecDepth 100000 in
theorem ml_X8_377 : Cond.methodLink RX8 377 yX8_noPlan ∈ am_tb := (am_pl 1465 (by decide +kernel) rfl)
set_option maxRecDepth 100000 in
theorem ml_X8_380 : Cond.methodLink RX8 380 yX8_wrongIn ∈ am_tb := (am_pl 1469 (by decide +kernel) rfl)
set_option maxRecDepth 100000 in
theorem ml_X8_390 : Cond.methodLink RX8 390 yX8_below ∈ am_tb := (am_pl 1502 (by decide +kernel) rfl)
set_option maxRecDepth 100000 in
theorem ml_X8_396 : Cond.methodLink RX8 396 yX8_sumOf ∈ am_tb := (am_pl 1523 (by decide +kernel) rfl)
set_option maxRecDepth 100000 in
theorem ml_J0_335 : Cond.methodLink RJ0 335 yJ0_coder_7d493 ∈ am_tb := (am_pl 548 (by decide +kernel) rfl)
set_option maxRecDepth 100000 in
theorem ml_J0_492 : Cond.methodLink RJ0 492 yJ0_isLatin1_aae02 ∈ am_tb := (am_pl 558 (by decide +kernel) rfl)
set_option maxRecDepth 100000 in
theorem ml_J0_495 : Cond.methodLink RJ0 495 yJ1_charAt_3b067 ∈ am_tb := (am_pl 562 (by decide +kernel) rfl)
set_option maxRecDepth 100000 in
theorem ml_J0_1059 : Cond.methodLink RJ0 1059 yJ3_checkIndex_8e157 ∈ am_tb := (am_pl 570 (by decide +kernel) rfl)
set_option maxRecDepth 100000 in
theorem ml_J1_9 : Cond.methodLink RJ1 9 yJ0_checkIndex_df160 ∈ am_tb := (am_pl 565 (by decide +kernel) rfl)
set_option maxRecDepth 100000 in
theorem ml_J2_414 : Cond.methodLink RJ2 414 yJ0_checkIndex_df160 ∈ am_tb := (am_pl 582 (by decide +kernel) rfl)
set_option maxRecDepth 100000 in
theorem am_acw : Cond.native arraycopyName ∈ am_tb ∧ Cond.static arraycopyName ∈ am_tb ∧ Cond.initialized "java/lang/System" ∈ am_tb := ⟨(am_pl 376 (by decide +kernel) rfl), (am_pl 375 (by decide +kernel) rfl), (am_pl 83 (by decide +kernel) rfl)⟩
set_option maxRecDepth 100000 in
theorem am_ixl : Cond.fieldLink yJ0_checkIndex_df160.cls 1053 "jdk/internal/util/Preconditions" "SIOOBE_FORMATTER" "Ljava/util/function/BiFunction;" ∈ am_tb := (am_pl 568 (by decide +kernel) rfl)
set_option maxRecDepth 100000 in
theorem yi_X0_init : am_yI yX0_init cX0_init 1 0 := ⟨(am_pl 101 (by decide +kernel) rfl), (am_pl 74 (by decide +kernel) rfl), (am_pl 102 (by decide +kernel) rfl), by decide +kernel⟩
set_option maxRecDepth 100000 in
theorem yi_X1_init : am_yI yX1_init cX1_init 1 0 := ⟨(am_pl 267 (by decide +kernel) rfl), (am_pl 81 (by decide +kernel) rfl), (am_pl 268 (by decide +kernel) rfl), by decide +kernel⟩
set_option maxRecDepth 100000 in
theorem yi_X2_init : am_yI yX2_init cX2_init 1 0 := ⟨(am_pl 156 (by decide +kernel) rfl), (am_pl 76 (by decide +kernel) rfl), (am_pl 157 (by decide +kernel) rfl), by decide +kernel⟩
set_option maxRecDepth 100000 in
theorem yi_X3_init : am_yI yX3_init cX3_init 1 0 := ⟨(am_pl 256 (by decide +kernel) rfl), (am_pl 80 (by decide +kernel) rfl), (am_pl 257 (by decide +kernel) rfl), by decide +kernel⟩
set_option maxRecDepth 100000 in
theorem yi_X4_init : am_yI yX4_init cX4_init 1 0 := ⟨(am_pl 179 (by decide +kernel) rfl), (am_pl 77 (by decide +kernel) rfl), (am_pl 180 (by decide +kernel) rfl), by decide +kernel⟩
set_option maxRecDepth 100000 in
theorem yi_X5_init : am_yI yX5_init cX5_init 1 0 := ⟨(am_pl 231 (by decide +kernel) rfl), (am_pl 79 (by decide +kernel) rfl), (am_pl 232 (by decide +kernel) rfl), by decide +kernel⟩
set_option maxRecDepth 100000 in
theorem yi_X6_init : am_yI yX6_init cX6_init 1 0 := ⟨(am_pl 211 (by decide +kernel) rfl), (am_pl 78 (by decide +kernel) rfl), (am_pl 212 (by decide +kernel) rfl), by decide +kernel⟩
set_option maxRecDepth 100000 in
theorem yi_X7_init : am_yI yX7_init cX7_init 1 0 := ⟨(am_pl 93 (by decide +kernel) rfl), (am_pl 73 (by decide +kernel) rfl), (am_pl 94 (by decide +kernel) rfl), by decide +kernel⟩
set_option maxRecDepth 100000 in
theorem yi_X8_init : am_yI yX8_init cX8_init 2 0 := ⟨(am_pl 956 (by decide +kernel) rfl), (am_pl 82 (by decide +kernel) rfl), (am_pl 957 (by decide +kernel) rfl), by decide +kernel⟩
set_option maxRecDepth 100000 in
theorem oi_X7_3 : am_oi RX7 3 := ⟨(am_pl 95 (by decide +kernel) rfl), (am_pl 96 (by decide +kernel) rfl), (am_pl 97 (by decide +kernel) rfl)⟩
set_option maxRecDepth 100000 in
theorem ml_X7_11 : Cond.methodLink RX7 11 yX0_init ∈ am_tb := (am_pl 100 (by decide +kernel) rfl)
set_option maxRecDepth 100000 in
theorem ml_X7_25 : Cond.methodLink RX7 25 yX2_init ∈ am_tb := (am_pl 155 (by decide +kernel) rfl)
set_option maxRecDepth 100000 in
theorem mn_X7_32 : (RX7, 32, yX4_init, RX7) ∈ am_nst := by decide +kernel
set_option maxRecDepth 100000 in
theorem mn_X7_39 : (RX7, 39, yX6_init, RX7) ∈ am_nst := by decide +kernel
set_option maxRecDepth 100000 in
theorem mn_X7_46 : (RX7, 46, yX5_init, RX7) ∈ am_nst := by decide +kernel
set_option maxRecDepth 100000 in
theorem mn_X7_53 : (RX7, 53, yX3_init, RX7) ∈ am_nst := by decide +kernel
set_option maxRecDepth 100000 in
theorem mn_X7_60 : (RX7, 60, yX1_init, RX7) ∈ am_nst := by decide +kernel
set_option maxRecDepth 100000 in
theorem oi_X0_3 : am_oi RX0 3 := ⟨(am_pl 103 (by decide +kernel) rfl), (am_pl 96 (by decide +kernel) rfl), (am_pl 97 (by decide +kernel) rfl)⟩
set_option maxRecDepth 100000 in
theorem oi_X1_3 : am_oi RX1 3 := ⟨(am_pl 269 (by decide +kernel) rfl), (am_pl 96 (by decide +kernel) rfl), (am_pl 97 (by decide +kernel) rfl)⟩
set_option maxRecDepth 100000 in
theorem oi_X2_3 : am_oi RX2 3 := ⟨(am_pl 158 (by decide +kernel) rfl), (am_pl 96 (by decide +kernel) rfl), (am_pl 97 (by decide +kernel) rfl)⟩
set_option maxRecDepth 100000 in
theorem oi_X3_3 : am_oi RX3 3 := ⟨(am_pl 258 (by decide +kernel) rfl), (am_pl 96 (by decide +kernel) rfl), (am_pl 97 (by decide +kernel) rfl)⟩
set_option maxRecDepth 100000 in
theorem oi_X4_3 : am_oi RX4 3 := ⟨(am_pl 181 (by decide +kernel) rfl), (am_pl 96 (by decide +kernel) rfl), (am_pl 97 (by decide +kernel) rfl)⟩
set_option maxRecDepth 100000 in
theorem ml_X4_11 : Cond.methodLink RX4 11 yX0_init ∈ am_tb := (am_pl 183 (by decide +kernel) rfl)
set_option maxRecDepth 100000 in
theorem oi_X5_3 : am_oi RX5 3 := ⟨(am_pl 233 (by decide +kernel) rfl), (am_pl 96 (by decide +kernel) rfl), (am_pl 97 (by decide +kernel) rfl)⟩
set_option maxRecDepth 100000 in
theorem oi_X6_3 : am_oi RX6 3 := ⟨(am_pl 213 (by decide +kernel) rfl), (am_pl 96 (by decide +kernel) rfl), (am_pl 97 (by decide +kernel) rfl)⟩
set_option maxRecDepth 100000 in
theorem oi_X8_1 : am_oi RX8 1 := ⟨(am_pl 958 (by decide +kernel) rfl), (am_pl 96 (by decide +kernel) rfl), (am_pl 97 (by decide +kernel) rfl)⟩
set_option maxRecDepth 100000 in
theorem ml_X8_270 : Cond.methodLink RX8 270 yX8_init ∈ am_tb := (am_pl 1228 (by decide +kernel) rfl)
set_option maxRecDepth 100000 in
theorem aw_18 : (Jvm.Cond.classLink "SundayIsAPlaceLaw" (7 : Nat) "SundayIsAPlace") ∈ am_tb := am_pl 90 (by decide +kernel) rfl
-- aw_18: (Jvm.Cond.classLink "SundayIsAPlaceLaw" (7 : Nat) "SundayIsAPlace")
set_option maxRecDepth 100000 in
theorem aw_19 : (Jvm.Cond.instantiable "SundayIsAPlace" (10 : Nat)) ∈ am_tb := am_pl 91 (by decide +kernel) rfl
-- aw_19: (Jvm.Cond.instantiable "SundayIsAPlace" (10 : Nat))
set_option maxRecDepth 100000 in
theorem aw_26 : (Jvm.Cond.classLink "SundayIsAPlace" (9 : Nat) "SundayIsAPlace$Land") ∈ am_tb := am_pl 98 (by decide +kernel) rfl
-- aw_26: (Jvm.Cond.classLink "SundayIsAPlace" (9 : Nat) "SundayIsAPlace$Land")
set_option maxRecDepth 100000 in
theorem aw_27 : (Jvm.Cond.instantiable "SundayIsAPlace$Land" (8 : Nat)) ∈ am_tb := am_pl 99 (by decide +kernel) rfl
-- aw_27: (Jvm.Cond.instantiable "SundayIsAPlace$Land" (8 : Nat))
set_option maxRecDepth 100000 in
theorem aw_32 : (Jvm.Cond.classLink "SundayIsAPlace$Land" (9 : Nat) "[[I") ∈ am_tb := am_pl 104 (by decide +kernel) rfl
-- aw_32: (Jvm.Cond.classLink "SundayIsAPlace$Land" (9 : Nat) "[[I")
set_option maxRecDepth 100000 in
theorem aw_80 : (Jvm.Cond.arrayClass Jvm.ClassFile.FieldType.int) ∈ am_tb := am_pl 152 (by decide +kernel) rfl
-- aw_80: (Jvm.Cond.arrayClass Jvm.ClassFile.FieldType.int)
set_option maxRecDepth 100000 in
theorem aw_81 : (Jvm.Cond.classLink "SundayIsAPlace" (23 : Nat) "SundayIsAPlace$Shelves") ∈ am_tb := am_pl 153 (by decide +kernel) rfl
-- aw_81: (Jvm.Cond.classLink "SundayIsAPlace" (23 : Nat) "SundayIsAPlace$Shelves")
set_option maxRecDepth 100000 in
theorem aw_82 : (Jvm.Cond.instantiable "SundayIsAPlace$Shelves" (3 : Nat)) ∈ am_tb := am_pl 154 (by decide +kernel) rfl
-- aw_82: (Jvm.Cond.instantiable "SundayIsAPlace$Shelves" (3 : Nat))
set_option maxRecDepth 100000 in
theorem aw_87 : (Jvm.Cond.classLink "SundayIsAPlace$Shelves" (18 : Nat) "[[J") ∈ am_tb := am_pl 159 (by decide +kernel) rfl
-- aw_87: (Jvm.Cond.classLink "SundayIsAPlace$Shelves" (18 : Nat) "[[J")
set_option maxRecDepth 100000 in
theorem aw_103 : (Jvm.Cond.arrayClass Jvm.ClassFile.FieldType.long) ∈ am_tb := am_pl 175 (by decide +kernel) rfl
-- aw_103: (Jvm.Cond.arrayClass Jvm.ClassFile.FieldType.long)
set_option maxRecDepth 100000 in
theorem aw_104 : (Jvm.Cond.classLink "SundayIsAPlace" (30 : Nat) "SundayIsAPlace$Tape") ∈ am_tb := am_pl 176 (by decide +kernel) rfl
-- aw_104: (Jvm.Cond.classLink "SundayIsAPlace" (30 : Nat) "SundayIsAPlace$Tape")
set_option maxRecDepth 100000 in
theorem aw_105 : (Jvm.Cond.instantiable "SundayIsAPlace$Tape" (7 : Nat)) ∈ am_tb := am_pl 177 (by decide +kernel) rfl
-- aw_105: (Jvm.Cond.instantiable "SundayIsAPlace$Tape" (7 : Nat))
set_option maxRecDepth 100000 in
theorem aw_110 : (Jvm.Cond.classLink "SundayIsAPlace$Tape" (9 : Nat) "SundayIsAPlace$Land") ∈ am_tb := am_pl 182 (by decide +kernel) rfl
-- aw_110: (Jvm.Cond.classLink "SundayIsAPlace$Tape" (9 : Nat) "SundayIsAPlace$Land")
set_option maxRecDepth 100000 in
theorem aw_136 : (Jvm.Cond.classLink "SundayIsAPlace" (37 : Nat) "SundayIsAPlace$Ways") ∈ am_tb := am_pl 208 (by decide +kernel) rfl
-- aw_136: (Jvm.Cond.classLink "SundayIsAPlace" (37 : Nat) "SundayIsAPlace$Ways")
set_option maxRecDepth 100000 in
theorem aw_137 : (Jvm.Cond.instantiable "SundayIsAPlace$Ways" (3 : Nat)) ∈ am_tb := am_pl 209 (by decide +kernel) rfl
-- aw_137: (Jvm.Cond.instantiable "SundayIsAPlace$Ways" (3 : Nat))
set_option maxRecDepth 100000 in
theorem aw_142 : (Jvm.Cond.classLink "SundayIsAPlace$Ways" (9 : Nat) "[[I") ∈ am_tb := am_pl 214 (by decide +kernel) rfl
-- aw_142: (Jvm.Cond.classLink "SundayIsAPlace$Ways" (9 : Nat) "[[I")
set_option maxRecDepth 100000 in
theorem aw_156 : (Jvm.Cond.classLink "SundayIsAPlace" (44 : Nat) "SundayIsAPlace$Tours") ∈ am_tb := am_pl 228 (by decide +kernel) rfl
-- aw_156: (Jvm.Cond.classLink "SundayIsAPlace" (44 : Nat) "SundayIsAPlace$Tours")
set_option maxRecDepth 100000 in
theorem aw_157 : (Jvm.Cond.instantiable "SundayIsAPlace$Tours" (5 : Nat)) ∈ am_tb := am_pl 229 (by decide +kernel) rfl
-- aw_157: (Jvm.Cond.instantiable "SundayIsAPlace$Tours" (5 : Nat))
set_option maxRecDepth 100000 in
theorem aw_162 : (Jvm.Cond.classLink "SundayIsAPlace$Tours" (18 : Nat) "[[I") ∈ am_tb := am_pl 234 (by decide +kernel) rfl
-- aw_162: (Jvm.Cond.classLink "SundayIsAPlace$Tours" (18 : Nat) "[[I")
set_option maxRecDepth 100000 in
theorem aw_181 : (Jvm.Cond.classLink "SundayIsAPlace" (51 : Nat) "SundayIsAPlace$Stamps") ∈ am_tb := am_pl 253 (by decide +kernel) rfl
-- aw_181: (Jvm.Cond.classLink "SundayIsAPlace" (51 : Nat) "SundayIsAPlace$Stamps")
set_option maxRecDepth 100000 in
theorem aw_182 : (Jvm.Cond.instantiable "SundayIsAPlace$Stamps" (1 : Nat)) ∈ am_tb := am_pl 254 (by decide +kernel) rfl
-- aw_182: (Jvm.Cond.instantiable "SundayIsAPlace$Stamps" (1 : Nat))
set_option maxRecDepth 100000 in
theorem aw_187 : (Jvm.Cond.classLink "SundayIsAPlace$Stamps" (9 : Nat) "[[I") ∈ am_tb := am_pl 259 (by decide +kernel) rfl
-- aw_187: (Jvm.Cond.classLink "SundayIsAPlace$Stamps" (9 : Nat) "[[I")
set_option maxRecDepth 100000 in
theorem aw_192 : (Jvm.Cond.classLink "SundayIsAPlace" (58 : Nat) "SundayIsAPlace$Plan") ∈ am_tb := am_pl 264 (by decide +kernel) rfl
-- aw_192: (Jvm.Cond.classLink "SundayIsAPlace" (58 : Nat) "SundayIsAPlace$Plan")
set_option maxRecDepth 100000 in
theorem aw_193 : (Jvm.Cond.instantiable "SundayIsAPlace$Plan" (2 : Nat)) ∈ am_tb := am_pl 265 (by decide +kernel) rfl
-- aw_193: (Jvm.Cond.instantiable "SundayIsAPlace$Plan" (2 : Nat))
set_option maxRecDepth 100000 in
theorem aw_545 : (Jvm.Cond.arrayClass Jvm.ClassFile.FieldType.byte) ∈ am_tb := am_pl 617 (by decide +kernel) rfl
-- aw_545: (Jvm.Cond.arrayClass Jvm.ClassFile.FieldType.byte)
set_option maxRecDepth 100000 in
theorem aw_881 : (Jvm.Cond.classLink "SundayIsAPlaceLaw" (10 : Nat) "SundayIsAPlaceModel") ∈ am_tb := am_pl 953 (by decide +kernel) rfl
-- aw_881: (Jvm.Cond.classLink "SundayIsAPlaceLaw" (10 : Nat) "SundayIsAPlaceModel")
set_option maxRecDepth 100000 in
theorem aw_882 : (Jvm.Cond.instantiable "SundayIsAPlaceModel" (48 : Nat)) ∈ am_tb := am_pl 954 (by decide +kernel) rfl
-- aw_882: (Jvm.Cond.instantiable "SundayIsAPlaceModel" (48 : Nat))
set_option maxRecDepth 100000 in
theorem aw_887 : (Jvm.Cond.classLink "SundayIsAPlaceModel" (19 : Nat) "[[J") ∈ am_tb := am_pl 959 (by decide +kernel) rfl
-- aw_887: (Jvm.Cond.classLink "SundayIsAPlaceModel" (19 : Nat) "[[J")
set_option maxRecDepth 100000 in
theorem aw_888 : (Jvm.Cond.classLink "SundayIsAPlaceModel" (50 : Nat) "[[I") ∈ am_tb := am_pl 960 (by decide +kernel) rfl
-- aw_888: (Jvm.Cond.classLink "SundayIsAPlaceModel" (50 : Nat) "[[I")
set_option maxRecDepth 100000 in
theorem aw_889 : (Jvm.Cond.classLink "SundayIsAPlaceModel" (109 : Nat) "[[Z") ∈ am_tb := am_pl 961 (by decide +kernel) rfl
-- aw_889: (Jvm.Cond.classLink "SundayIsAPlaceModel" (109 : Nat) "[[Z")
set_option maxRecDepth 100000 in
theorem aw_1036 : (Jvm.Cond.arrayClass Jvm.ClassFile.FieldType.boolean) ∈ am_tb := am_pl 1108 (by decide +kernel) rfl
-- aw_1036: (Jvm.Cond.arrayClass Jvm.ClassFile.FieldType.boolean)
set_option maxRecDepth 100000 in
theorem aw_1155 : (Jvm.Cond.classLink "SundayIsAPlaceModel" (8 : Nat) "SundayIsAPlaceModel") ∈ am_tb := am_pl 1227 (by decide +kernel) rfl
-- aw_1155: (Jvm.Cond.classLink "SundayIsAPlaceModel" (8 : Nat) "SundayIsAPlaceModel")
set_option maxRecDepth 100000 in
theorem am_wmin : Cond.static Lib.Math.min.name ∈ am_tb ∧ Cond.initialized "java/lang/Math" ∈ am_tb ∧ Cond.code Lib.Math.min.name Lib.Math.min.code 2 (some .int) ∈ am_tb := ⟨(am_pl 650 (by decide +kernel) rfl), (am_pl 84 (by decide +kernel) rfl), (am_pl 651 (by decide +kernel) rfl)⟩
set_option maxRecDepth 100000 in
theorem am_wmax : Cond.static Lib.Math.max.name ∈ am_tb ∧ Cond.initialized "java/lang/Math" ∈ am_tb ∧ Cond.code Lib.Math.max.name Lib.Math.max.code 2 (some .int) ∈ am_tb := ⟨(am_pl 425 (by decide +kernel) rfl), (am_pl 84 (by decide +kernel) rfl), (am_pl 426 (by decide +kernel) rfl)⟩
