section
-- ===== PART A: goes FIRST, ahead of the names: the tables' words, and 'selects' of the private methods out of them =====
/-- a private method of a class that the tables say can be made, by its rows of tables_1 -/
def lw_okq (q : MethodName × Nat) : Prop := (q.1.cls ≠ "java/lang/invoke/MethodHandle" ∧ q.1.cls ≠ "java/lang/invoke/VarHandle") ∧ Cond.instantiable q.1.cls q.2 ∈ tables_1 ∧ Cond.privateMethod q.1 ∈ tables_1 ∧ Cond.instanceMethod q.1 ∈ tables_1
theorem lw_p0 : lw_okq (⟨"SundayIsAPlace", "refuse", "(I)I"⟩, 10) := ⟨⟨by decide +kernel, by decide +kernel⟩, List.mem_of_getElem? (i := 19) (by decide +kernel), List.mem_of_getElem? (i := 249) (by decide +kernel), List.mem_of_getElem? (i := 250) (by decide +kernel)⟩
theorem lw_p1 : lw_okq (⟨"SundayIsAPlace$Shelves", "isRow", "(I)Z"⟩, 3) := ⟨⟨by decide +kernel, by decide +kernel⟩, List.mem_of_getElem? (i := 82) (by decide +kernel), List.mem_of_getElem? (i := 268) (by decide +kernel), List.mem_of_getElem? (i := 269) (by decide +kernel)⟩
theorem lw_p2 : lw_okq (⟨"SundayIsAPlace$Land", "fareOf", "(II)I"⟩, 8) := ⟨⟨by decide +kernel, by decide +kernel⟩, List.mem_of_getElem? (i := 27) (by decide +kernel), List.mem_of_getElem? (i := 339) (by decide +kernel), List.mem_of_getElem? (i := 340) (by decide +kernel)⟩
theorem lw_p3 : lw_okq (⟨"SundayIsAPlace$Land", "passFrom", "(II)I"⟩, 8) := ⟨⟨by decide +kernel, by decide +kernel⟩, List.mem_of_getElem? (i := 27) (by decide +kernel), List.mem_of_getElem? (i := 349) (by decide +kernel), List.mem_of_getElem? (i := 350) (by decide +kernel)⟩
theorem lw_p4 : lw_okq (⟨"SundayIsAPlace$Tape", "readStatement", "()Z"⟩, 7) := ⟨⟨by decide +kernel, by decide +kernel⟩, List.mem_of_getElem? (i := 105) (by decide +kernel), List.mem_of_getElem? (i := 442) (by decide +kernel), List.mem_of_getElem? (i := 443) (by decide +kernel)⟩
theorem lw_p5 : lw_okq (⟨"SundayIsAPlace$Tape", "nextToken", "()V"⟩, 7) := ⟨⟨by decide +kernel, by decide +kernel⟩, List.mem_of_getElem? (i := 105) (by decide +kernel), List.mem_of_getElem? (i := 446) (by decide +kernel), List.mem_of_getElem? (i := 447) (by decide +kernel)⟩
theorem lw_p6 : lw_okq (⟨"SundayIsAPlace$Tape", "statementOfWord", "()I"⟩, 7) := ⟨⟨by decide +kernel, by decide +kernel⟩, List.mem_of_getElem? (i := 105) (by decide +kernel), List.mem_of_getElem? (i := 453) (by decide +kernel), List.mem_of_getElem? (i := 454) (by decide +kernel)⟩
theorem lw_p7 : lw_okq (⟨"SundayIsAPlace$Tape", "isWord", "(Ljava/lang/String;)Z"⟩, 7) := ⟨⟨by decide +kernel, by decide +kernel⟩, List.mem_of_getElem? (i := 105) (by decide +kernel), List.mem_of_getElem? (i := 469) (by decide +kernel), List.mem_of_getElem? (i := 470) (by decide +kernel)⟩
theorem lw_p8 : lw_okq (⟨"SundayIsAPlace$Tape", "hasRoomFor", "(I)Z"⟩, 7) := ⟨⟨by decide +kernel, by decide +kernel⟩, List.mem_of_getElem? (i := 105) (by decide +kernel), List.mem_of_getElem? (i := 521) (by decide +kernel), List.mem_of_getElem? (i := 522) (by decide +kernel)⟩
theorem lw_p9 : lw_okq (⟨"SundayIsAPlace$Tape", "readNumber", "(II)Z"⟩, 7) := ⟨⟨by decide +kernel, by decide +kernel⟩, List.mem_of_getElem? (i := 105) (by decide +kernel), List.mem_of_getElem? (i := 527) (by decide +kernel), List.mem_of_getElem? (i := 528) (by decide +kernel)⟩
theorem lw_p10 : lw_okq (⟨"SundayIsAPlace$Tape", "tokenNumber", "()I"⟩, 7) := ⟨⟨by decide +kernel, by decide +kernel⟩, List.mem_of_getElem? (i := 105) (by decide +kernel), List.mem_of_getElem? (i := 531) (by decide +kernel), List.mem_of_getElem? (i := 532) (by decide +kernel)⟩
theorem lw_p11 : lw_okq (⟨"SundayIsAPlace$Tape", "mostOf", "(I)I"⟩, 7) := ⟨⟨by decide +kernel, by decide +kernel⟩, List.mem_of_getElem? (i := 105) (by decide +kernel), List.mem_of_getElem? (i := 535) (by decide +kernel), List.mem_of_getElem? (i := 536) (by decide +kernel)⟩
theorem lw_p12 : lw_okq (⟨"SundayIsAPlace$Tape", "comeToPass", "(I)V"⟩, 7) := ⟨⟨by decide +kernel, by decide +kernel⟩, List.mem_of_getElem? (i := 105) (by decide +kernel), List.mem_of_getElem? (i := 539) (by decide +kernel), List.mem_of_getElem? (i := 540) (by decide +kernel)⟩
theorem lw_p13 : lw_okq (⟨"SundayIsAPlace", "leastWay", "(III)I"⟩, 10) := ⟨⟨by decide +kernel, by decide +kernel⟩, List.mem_of_getElem? (i := 19) (by decide +kernel), List.mem_of_getElem? (i := 559) (by decide +kernel), List.mem_of_getElem? (i := 560) (by decide +kernel)⟩
theorem lw_p14 : lw_okq (⟨"SundayIsAPlace$Ways", "shortenBy", "(I)V"⟩, 3) := ⟨⟨by decide +kernel, by decide +kernel⟩, List.mem_of_getElem? (i := 137) (by decide +kernel), List.mem_of_getElem? (i := 581) (by decide +kernel), List.mem_of_getElem? (i := 582) (by decide +kernel)⟩
theorem lw_p15 : lw_okq (⟨"SundayIsAPlace$Tours", "leastFrom", "(LSundayIsAPlace$Ways;III)I"⟩, 5) := ⟨⟨by decide +kernel, by decide +kernel⟩, List.mem_of_getElem? (i := 157) (by decide +kernel), List.mem_of_getElem? (i := 599) (by decide +kernel), List.mem_of_getElem? (i := 600) (by decide +kernel)⟩
def lw_privs_1 : List (MethodName × Nat) := [(⟨"SundayIsAPlace", "refuse", "(I)I"⟩, 10), (⟨"SundayIsAPlace$Shelves", "isRow", "(I)Z"⟩, 3), (⟨"SundayIsAPlace$Land", "fareOf", "(II)I"⟩, 8), (⟨"SundayIsAPlace$Land", "passFrom", "(II)I"⟩, 8), (⟨"SundayIsAPlace$Tape", "readStatement", "()Z"⟩, 7), (⟨"SundayIsAPlace$Tape", "nextToken", "()V"⟩, 7), (⟨"SundayIsAPlace$Tape", "statementOfWord", "()I"⟩, 7), (⟨"SundayIsAPlace$Tape", "isWord", "(Ljava/lang/String;)Z"⟩, 7), (⟨"SundayIsAPlace$Tape", "hasRoomFor", "(I)Z"⟩, 7), (⟨"SundayIsAPlace$Tape", "readNumber", "(II)Z"⟩, 7), (⟨"SundayIsAPlace$Tape", "tokenNumber", "()I"⟩, 7), (⟨"SundayIsAPlace$Tape", "mostOf", "(I)I"⟩, 7), (⟨"SundayIsAPlace$Tape", "comeToPass", "(I)V"⟩, 7), (⟨"SundayIsAPlace", "leastWay", "(III)I"⟩, 10), (⟨"SundayIsAPlace$Ways", "shortenBy", "(I)V"⟩, 3), (⟨"SundayIsAPlace$Tours", "leastFrom", "(LSundayIsAPlace$Ways;III)I"⟩, 5)]
theorem lw_r1 : ∀ q ∈ lw_privs_1, lw_okq q := List.forall_mem_cons.mpr ⟨lw_p0, List.forall_mem_cons.mpr ⟨lw_p1, List.forall_mem_cons.mpr ⟨lw_p2, List.forall_mem_cons.mpr ⟨lw_p3, List.forall_mem_cons.mpr ⟨lw_p4, List.forall_mem_cons.mpr ⟨lw_p5, List.forall_mem_cons.mpr ⟨lw_p6, List.forall_mem_cons.mpr ⟨lw_p7, List.forall_mem_cons.mpr ⟨lw_p8, List.forall_mem_cons.mpr ⟨lw_p9, List.forall_mem_cons.mpr ⟨lw_p10, List.forall_mem_cons.mpr ⟨lw_p11, List.forall_mem_cons.mpr ⟨lw_p12, List.forall_mem_cons.mpr ⟨lw_p13, List.forall_mem_cons.mpr ⟨lw_p14, List.forall_mem_cons.mpr ⟨lw_p15, fun _ h => absurd h List.not_mem_nil⟩⟩⟩⟩⟩⟩⟩⟩⟩⟩⟩⟩⟩⟩⟩⟩
theorem lw_p16 : lw_okq (⟨"SundayIsAPlace$Tours", "fillSet", "(LSundayIsAPlace$Ways;III)V"⟩, 5) := ⟨⟨by decide +kernel, by decide +kernel⟩, List.mem_of_getElem? (i := 157) (by decide +kernel), List.mem_of_getElem? (i := 603) (by decide +kernel), List.mem_of_getElem? (i := 604) (by decide +kernel)⟩
theorem lw_p17 : lw_okq (⟨"SundayIsAPlace$Tours", "leastByNext", "(LSundayIsAPlace$Ways;II)I"⟩, 5) := ⟨⟨by decide +kernel, by decide +kernel⟩, List.mem_of_getElem? (i := 157) (by decide +kernel), List.mem_of_getElem? (i := 608) (by decide +kernel), List.mem_of_getElem? (i := 609) (by decide +kernel)⟩
theorem lw_p18 : lw_okq (⟨"SundayIsAPlace$Tours", "leastOver", "(LSundayIsAPlace$Ways;III)I"⟩, 5) := ⟨⟨by decide +kernel, by decide +kernel⟩, List.mem_of_getElem? (i := 157) (by decide +kernel), List.mem_of_getElem? (i := 613) (by decide +kernel), List.mem_of_getElem? (i := 614) (by decide +kernel)⟩
theorem lw_p19 : lw_okq (⟨"SundayIsAPlace$Ways", "firstStep", "(LSundayIsAPlace$Land;[III)I"⟩, 3) := ⟨⟨by decide +kernel, by decide +kernel⟩, List.mem_of_getElem? (i := 137) (by decide +kernel), List.mem_of_getElem? (i := 627) (by decide +kernel), List.mem_of_getElem? (i := 628) (by decide +kernel)⟩
theorem lw_p20 : lw_okq (⟨"SundayIsAPlace$Tours", "firstNext", "(LSundayIsAPlace$Ways;II)I"⟩, 5) := ⟨⟨by decide +kernel, by decide +kernel⟩, List.mem_of_getElem? (i := 157) (by decide +kernel), List.mem_of_getElem? (i := 641) (by decide +kernel), List.mem_of_getElem? (i := 642) (by decide +kernel)⟩
theorem lw_p21 : lw_okq (⟨"SundayIsAPlace$Tours", "firstHome", "(II)I"⟩, 5) := ⟨⟨by decide +kernel, by decide +kernel⟩, List.mem_of_getElem? (i := 157) (by decide +kernel), List.mem_of_getElem? (i := 707) (by decide +kernel), List.mem_of_getElem? (i := 708) (by decide +kernel)⟩
theorem lw_p22 : lw_okq (⟨"SundayIsAPlace$Tours", "costWith", "(III)I"⟩, 5) := ⟨⟨by decide +kernel, by decide +kernel⟩, List.mem_of_getElem? (i := 157) (by decide +kernel), List.mem_of_getElem? (i := 711) (by decide +kernel), List.mem_of_getElem? (i := 712) (by decide +kernel)⟩
theorem lw_p23 : lw_okq (⟨"SundayIsAPlace", "refusalOfElements", "(II)I"⟩, 10) := ⟨⟨by decide +kernel, by decide +kernel⟩, List.mem_of_getElem? (i := 19) (by decide +kernel), List.mem_of_getElem? (i := 733) (by decide +kernel), List.mem_of_getElem? (i := 734) (by decide +kernel)⟩
theorem lw_p24 : lw_okq (⟨"SundayIsAPlace", "areStamps", "(II)Z"⟩, 10) := ⟨⟨by decide +kernel, by decide +kernel⟩, List.mem_of_getElem? (i := 19) (by decide +kernel), List.mem_of_getElem? (i := 737) (by decide +kernel), List.mem_of_getElem? (i := 738) (by decide +kernel)⟩
theorem lw_p25 : lw_okq (⟨"SundayIsAPlace$Stamps", "stepOn", "(LSundayIsAPlace$Land;IIJ)V"⟩, 1) := ⟨⟨by decide +kernel, by decide +kernel⟩, List.mem_of_getElem? (i := 182) (by decide +kernel), List.mem_of_getElem? (i := 748) (by decide +kernel), List.mem_of_getElem? (i := 749) (by decide +kernel)⟩
theorem lw_p26 : lw_okq (⟨"SundayIsAPlace$Land", "tryWork", "([I)Z"⟩, 8) := ⟨⟨by decide +kernel, by decide +kernel⟩, List.mem_of_getElem? (i := 27) (by decide +kernel), List.mem_of_getElem? (i := 796) (by decide +kernel), List.mem_of_getElem? (i := 797) (by decide +kernel)⟩
theorem lw_p27 : lw_okq (⟨"SundayIsAPlace$Land", "tryStep", "([II)Z"⟩, 8) := ⟨⟨by decide +kernel, by decide +kernel⟩, List.mem_of_getElem? (i := 27) (by decide +kernel), List.mem_of_getElem? (i := 806) (by decide +kernel), List.mem_of_getElem? (i := 807) (by decide +kernel)⟩
theorem lw_p28 : lw_okq (⟨"SundayIsAPlace", "refusalOfPlan", "(III)I"⟩, 10) := ⟨⟨by decide +kernel, by decide +kernel⟩, List.mem_of_getElem? (i := 19) (by decide +kernel), List.mem_of_getElem? (i := 816) (by decide +kernel), List.mem_of_getElem? (i := 817) (by decide +kernel)⟩
theorem lw_p29 : lw_okq (⟨"SundayIsAPlace$Land", "drawAct", "([I)I"⟩, 8) := ⟨⟨by decide +kernel, by decide +kernel⟩, List.mem_of_getElem? (i := 27) (by decide +kernel), List.mem_of_getElem? (i := 848) (by decide +kernel), List.mem_of_getElem? (i := 849) (by decide +kernel)⟩
theorem lw_p30 : lw_okq (⟨"SundayIsAPlaceModel", "refuse", "(I)I"⟩, 48) := ⟨⟨by decide +kernel, by decide +kernel⟩, List.mem_of_getElem? (i := 882) (by decide +kernel), List.mem_of_getElem? (i := 1048) (by decide +kernel), List.mem_of_getElem? (i := 1049) (by decide +kernel)⟩
theorem lw_p31 : lw_okq (⟨"SundayIsAPlaceModel", "noRow", "(I)I"⟩, 48) := ⟨⟨by decide +kernel, by decide +kernel⟩, List.mem_of_getElem? (i := 882) (by decide +kernel), List.mem_of_getElem? (i := 1056) (by decide +kernel), List.mem_of_getElem? (i := 1057) (by decide +kernel)⟩
def lw_privs_2 : List (MethodName × Nat) := [(⟨"SundayIsAPlace$Tours", "fillSet", "(LSundayIsAPlace$Ways;III)V"⟩, 5), (⟨"SundayIsAPlace$Tours", "leastByNext", "(LSundayIsAPlace$Ways;II)I"⟩, 5), (⟨"SundayIsAPlace$Tours", "leastOver", "(LSundayIsAPlace$Ways;III)I"⟩, 5), (⟨"SundayIsAPlace$Ways", "firstStep", "(LSundayIsAPlace$Land;[III)I"⟩, 3), (⟨"SundayIsAPlace$Tours", "firstNext", "(LSundayIsAPlace$Ways;II)I"⟩, 5), (⟨"SundayIsAPlace$Tours", "firstHome", "(II)I"⟩, 5), (⟨"SundayIsAPlace$Tours", "costWith", "(III)I"⟩, 5), (⟨"SundayIsAPlace", "refusalOfElements", "(II)I"⟩, 10), (⟨"SundayIsAPlace", "areStamps", "(II)Z"⟩, 10), (⟨"SundayIsAPlace$Stamps", "stepOn", "(LSundayIsAPlace$Land;IIJ)V"⟩, 1), (⟨"SundayIsAPlace$Land", "tryWork", "([I)Z"⟩, 8), (⟨"SundayIsAPlace$Land", "tryStep", "([II)Z"⟩, 8), (⟨"SundayIsAPlace", "refusalOfPlan", "(III)I"⟩, 10), (⟨"SundayIsAPlace$Land", "drawAct", "([I)I"⟩, 8), (⟨"SundayIsAPlaceModel", "refuse", "(I)I"⟩, 48), (⟨"SundayIsAPlaceModel", "noRow", "(I)I"⟩, 48)]
theorem lw_r2 : ∀ q ∈ lw_privs_2, lw_okq q := List.forall_mem_cons.mpr ⟨lw_p16, List.forall_mem_cons.mpr ⟨lw_p17, List.forall_mem_cons.mpr ⟨lw_p18, List.forall_mem_cons.mpr ⟨lw_p19, List.forall_mem_cons.mpr ⟨lw_p20, List.forall_mem_cons.mpr ⟨lw_p21, List.forall_mem_cons.mpr ⟨lw_p22, List.forall_mem_cons.mpr ⟨lw_p23, List.forall_mem_cons.mpr ⟨lw_p24, List.forall_mem_cons.mpr ⟨lw_p25, List.forall_mem_cons.mpr ⟨lw_p26, List.forall_mem_cons.mpr ⟨lw_p27, List.forall_mem_cons.mpr ⟨lw_p28, List.forall_mem_cons.mpr ⟨lw_p29, List.forall_mem_cons.mpr ⟨lw_p30, List.forall_mem_cons.mpr ⟨lw_p31, fun _ h => absurd h List.not_mem_nil⟩⟩⟩⟩⟩⟩⟩⟩⟩⟩⟩⟩⟩⟩⟩⟩
theorem lw_p32 : lw_okq (⟨"SundayIsAPlaceModel", "isOne", "(I)Z"⟩, 48) := ⟨⟨by decide +kernel, by decide +kernel⟩, List.mem_of_getElem? (i := 882) (by decide +kernel), List.mem_of_getElem? (i := 1079) (by decide +kernel), List.mem_of_getElem? (i := 1080) (by decide +kernel)⟩
theorem lw_p33 : lw_okq (⟨"SundayIsAPlaceModel", "priceOf", "(III)I"⟩, 48) := ⟨⟨by decide +kernel, by decide +kernel⟩, List.mem_of_getElem? (i := 882) (by decide +kernel), List.mem_of_getElem? (i := 1091) (by decide +kernel), List.mem_of_getElem? (i := 1092) (by decide +kernel)⟩
theorem lw_p34 : lw_okq (⟨"SundayIsAPlaceModel", "fareOf", "(II)I"⟩, 48) := ⟨⟨by decide +kernel, by decide +kernel⟩, List.mem_of_getElem? (i := 882) (by decide +kernel), List.mem_of_getElem? (i := 1095) (by decide +kernel), List.mem_of_getElem? (i := 1096) (by decide +kernel)⟩
theorem lw_p35 : lw_okq (⟨"SundayIsAPlaceModel", "nextOf", "(II)I"⟩, 48) := ⟨⟨by decide +kernel, by decide +kernel⟩, List.mem_of_getElem? (i := 882) (by decide +kernel), List.mem_of_getElem? (i := 1099) (by decide +kernel), List.mem_of_getElem? (i := 1100) (by decide +kernel)⟩
theorem lw_p36 : lw_okq (⟨"SundayIsAPlaceModel", "addPass", "(IIII)V"⟩, 48) := ⟨⟨by decide +kernel, by decide +kernel⟩, List.mem_of_getElem? (i := 882) (by decide +kernel), List.mem_of_getElem? (i := 1118) (by decide +kernel), List.mem_of_getElem? (i := 1119) (by decide +kernel)⟩
theorem lw_p37 : lw_okq (⟨"SundayIsAPlaceModel", "addPerson", "(III)V"⟩, 48) := ⟨⟨by decide +kernel, by decide +kernel⟩, List.mem_of_getElem? (i := 882) (by decide +kernel), List.mem_of_getElem? (i := 1126) (by decide +kernel), List.mem_of_getElem? (i := 1127) (by decide +kernel)⟩
theorem lw_p38 : lw_okq (⟨"SundayIsAPlaceModel", "fresh", "()LSundayIsAPlaceModel;"⟩, 48) := ⟨⟨by decide +kernel, by decide +kernel⟩, List.mem_of_getElem? (i := 882) (by decide +kernel), List.mem_of_getElem? (i := 1152) (by decide +kernel), List.mem_of_getElem? (i := 1153) (by decide +kernel)⟩
theorem lw_p39 : lw_okq (⟨"SundayIsAPlaceModel", "takeFrom", "(LSundayIsAPlaceModel;)V"⟩, 48) := ⟨⟨by decide +kernel, by decide +kernel⟩, List.mem_of_getElem? (i := 882) (by decide +kernel), List.mem_of_getElem? (i := 1158) (by decide +kernel), List.mem_of_getElem? (i := 1159) (by decide +kernel)⟩
theorem lw_p40 : lw_okq (⟨"SundayIsAPlaceModel", "readAll", "()Z"⟩, 48) := ⟨⟨by decide +kernel, by decide +kernel⟩, List.mem_of_getElem? (i := 882) (by decide +kernel), List.mem_of_getElem? (i := 1165) (by decide +kernel), List.mem_of_getElem? (i := 1166) (by decide +kernel)⟩
theorem lw_p41 : lw_okq (⟨"SundayIsAPlaceModel", "look", "()V"⟩, 48) := ⟨⟨by decide +kernel, by decide +kernel⟩, List.mem_of_getElem? (i := 882) (by decide +kernel), List.mem_of_getElem? (i := 1169) (by decide +kernel), List.mem_of_getElem? (i := 1170) (by decide +kernel)⟩
theorem lw_p42 : lw_okq (⟨"SundayIsAPlaceModel", "statement", "()Z"⟩, 48) := ⟨⟨by decide +kernel, by decide +kernel⟩, List.mem_of_getElem? (i := 882) (by decide +kernel), List.mem_of_getElem? (i := 1179) (by decide +kernel), List.mem_of_getElem? (i := 1180) (by decide +kernel)⟩
theorem lw_p43 : lw_okq (⟨"SundayIsAPlaceModel", "isWord", "(Ljava/lang/String;)Z"⟩, 48) := ⟨⟨by decide +kernel, by decide +kernel⟩, List.mem_of_getElem? (i := 882) (by decide +kernel), List.mem_of_getElem? (i := 1184) (by decide +kernel), List.mem_of_getElem? (i := 1185) (by decide +kernel)⟩
theorem lw_p44 : lw_okq (⟨"SundayIsAPlaceModel", "asks", "([III)Z"⟩, 48) := ⟨⟨by decide +kernel, by decide +kernel⟩, List.mem_of_getElem? (i := 882) (by decide +kernel), List.mem_of_getElem? (i := 1190) (by decide +kernel), List.mem_of_getElem? (i := 1191) (by decide +kernel)⟩
theorem lw_p45 : lw_okq (⟨"SundayIsAPlaceModel", "tells", "(I)Z"⟩, 48) := ⟨⟨by decide +kernel, by decide +kernel⟩, List.mem_of_getElem? (i := 882) (by decide +kernel), List.mem_of_getElem? (i := 1194) (by decide +kernel), List.mem_of_getElem? (i := 1195) (by decide +kernel)⟩
theorem lw_p46 : lw_okq (⟨"SundayIsAPlaceModel", "number", "(III)Z"⟩, 48) := ⟨⟨by decide +kernel, by decide +kernel⟩, List.mem_of_getElem? (i := 882) (by decide +kernel), List.mem_of_getElem? (i := 1198) (by decide +kernel), List.mem_of_getElem? (i := 1199) (by decide +kernel)⟩
theorem lw_p47 : lw_okq (⟨"SundayIsAPlaceModel", "wrong", "()Z"⟩, 48) := ⟨⟨by decide +kernel, by decide +kernel⟩, List.mem_of_getElem? (i := 882) (by decide +kernel), List.mem_of_getElem? (i := 1202) (by decide +kernel), List.mem_of_getElem? (i := 1203) (by decide +kernel)⟩
def lw_privs_3 : List (MethodName × Nat) := [(⟨"SundayIsAPlaceModel", "isOne", "(I)Z"⟩, 48), (⟨"SundayIsAPlaceModel", "priceOf", "(III)I"⟩, 48), (⟨"SundayIsAPlaceModel", "fareOf", "(II)I"⟩, 48), (⟨"SundayIsAPlaceModel", "nextOf", "(II)I"⟩, 48), (⟨"SundayIsAPlaceModel", "addPass", "(IIII)V"⟩, 48), (⟨"SundayIsAPlaceModel", "addPerson", "(III)V"⟩, 48), (⟨"SundayIsAPlaceModel", "fresh", "()LSundayIsAPlaceModel;"⟩, 48), (⟨"SundayIsAPlaceModel", "takeFrom", "(LSundayIsAPlaceModel;)V"⟩, 48), (⟨"SundayIsAPlaceModel", "readAll", "()Z"⟩, 48), (⟨"SundayIsAPlaceModel", "look", "()V"⟩, 48), (⟨"SundayIsAPlaceModel", "statement", "()Z"⟩, 48), (⟨"SundayIsAPlaceModel", "isWord", "(Ljava/lang/String;)Z"⟩, 48), (⟨"SundayIsAPlaceModel", "asks", "([III)Z"⟩, 48), (⟨"SundayIsAPlaceModel", "tells", "(I)Z"⟩, 48), (⟨"SundayIsAPlaceModel", "number", "(III)Z"⟩, 48), (⟨"SundayIsAPlaceModel", "wrong", "()Z"⟩, 48)]
theorem lw_r3 : ∀ q ∈ lw_privs_3, lw_okq q := List.forall_mem_cons.mpr ⟨lw_p32, List.forall_mem_cons.mpr ⟨lw_p33, List.forall_mem_cons.mpr ⟨lw_p34, List.forall_mem_cons.mpr ⟨lw_p35, List.forall_mem_cons.mpr ⟨lw_p36, List.forall_mem_cons.mpr ⟨lw_p37, List.forall_mem_cons.mpr ⟨lw_p38, List.forall_mem_cons.mpr ⟨lw_p39, List.forall_mem_cons.mpr ⟨lw_p40, List.forall_mem_cons.mpr ⟨lw_p41, List.forall_mem_cons.mpr ⟨lw_p42, List.forall_mem_cons.mpr ⟨lw_p43, List.forall_mem_cons.mpr ⟨lw_p44, List.forall_mem_cons.mpr ⟨lw_p45, List.forall_mem_cons.mpr ⟨lw_p46, List.forall_mem_cons.mpr ⟨lw_p47, fun _ h => absurd h List.not_mem_nil⟩⟩⟩⟩⟩⟩⟩⟩⟩⟩⟩⟩⟩⟩⟩⟩
theorem lw_p48 : lw_okq (⟨"SundayIsAPlaceModel", "passTold", "()Z"⟩, 48) := ⟨⟨by decide +kernel, by decide +kernel⟩, List.mem_of_getElem? (i := 882) (by decide +kernel), List.mem_of_getElem? (i := 1210) (by decide +kernel), List.mem_of_getElem? (i := 1211) (by decide +kernel)⟩
theorem lw_p49 : lw_okq (⟨"SundayIsAPlaceModel", "wrongSame", "()Z"⟩, 48) := ⟨⟨by decide +kernel, by decide +kernel⟩, List.mem_of_getElem? (i := 882) (by decide +kernel), List.mem_of_getElem? (i := 1214) (by decide +kernel), List.mem_of_getElem? (i := 1215) (by decide +kernel)⟩
theorem lw_p50 : lw_okq (⟨"SundayIsAPlaceModel", "ofPeople", "()Z"⟩, 48) := ⟨⟨by decide +kernel, by decide +kernel⟩, List.mem_of_getElem? (i := 882) (by decide +kernel), List.mem_of_getElem? (i := 1219) (by decide +kernel), List.mem_of_getElem? (i := 1220) (by decide +kernel)⟩
theorem lw_p51 : lw_okq (⟨"SundayIsAPlaceModel", "ofOne", "(I)Z"⟩, 48) := ⟨⟨by decide +kernel, by decide +kernel⟩, List.mem_of_getElem? (i := 882) (by decide +kernel), List.mem_of_getElem? (i := 1224) (by decide +kernel), List.mem_of_getElem? (i := 1225) (by decide +kernel)⟩
theorem lw_p52 : lw_okq (⟨"SundayIsAPlaceModel", "manyAt", "(I)I"⟩, 48) := ⟨⟨by decide +kernel, by decide +kernel⟩, List.mem_of_getElem? (i := 882) (by decide +kernel), List.mem_of_getElem? (i := 1235) (by decide +kernel), List.mem_of_getElem? (i := 1236) (by decide +kernel)⟩
theorem lw_p53 : lw_okq (⟨"SundayIsAPlaceModel", "findFar", "(III)V"⟩, 48) := ⟨⟨by decide +kernel, by decide +kernel⟩, List.mem_of_getElem? (i := 882) (by decide +kernel), List.mem_of_getElem? (i := 1256) (by decide +kernel), List.mem_of_getElem? (i := 1257) (by decide +kernel)⟩
theorem lw_p54 : lw_okq (⟨"SundayIsAPlaceModel", "weight", "(IIII)I"⟩, 48) := ⟨⟨by decide +kernel, by decide +kernel⟩, List.mem_of_getElem? (i := 882) (by decide +kernel), List.mem_of_getElem? (i := 1261) (by decide +kernel), List.mem_of_getElem? (i := 1262) (by decide +kernel)⟩
theorem lw_p55 : lw_okq (⟨"SundayIsAPlaceModel", "hoursOf", "(II)I"⟩, 48) := ⟨⟨by decide +kernel, by decide +kernel⟩, List.mem_of_getElem? (i := 882) (by decide +kernel), List.mem_of_getElem? (i := 1265) (by decide +kernel), List.mem_of_getElem? (i := 1266) (by decide +kernel)⟩
theorem lw_p56 : lw_okq (⟨"SundayIsAPlaceModel", "tourNow", "(II)I"⟩, 48) := ⟨⟨by decide +kernel, by decide +kernel⟩, List.mem_of_getElem? (i := 882) (by decide +kernel), List.mem_of_getElem? (i := 1297) (by decide +kernel), List.mem_of_getElem? (i := 1298) (by decide +kernel)⟩
theorem lw_p57 : lw_okq (⟨"SundayIsAPlaceModel", "tourFrom", "(III)I"⟩, 48) := ⟨⟨by decide +kernel, by decide +kernel⟩, List.mem_of_getElem? (i := 882) (by decide +kernel), List.mem_of_getElem? (i := 1301) (by decide +kernel), List.mem_of_getElem? (i := 1302) (by decide +kernel)⟩
theorem lw_p58 : lw_okq (⟨"SundayIsAPlaceModel", "seekTour", "(IIIII)V"⟩, 48) := ⟨⟨by decide +kernel, by decide +kernel⟩, List.mem_of_getElem? (i := 882) (by decide +kernel), List.mem_of_getElem? (i := 1305) (by decide +kernel), List.mem_of_getElem? (i := 1306) (by decide +kernel)⟩
theorem lw_p59 : lw_okq (⟨"SundayIsAPlaceModel", "savedBy", "(I)I"⟩, 48) := ⟨⟨by decide +kernel, by decide +kernel⟩, List.mem_of_getElem? (i := 882) (by decide +kernel), List.mem_of_getElem? (i := 1317) (by decide +kernel), List.mem_of_getElem? (i := 1318) (by decide +kernel)⟩
theorem lw_p60 : lw_okq (⟨"SundayIsAPlaceModel", "valueOf", "(II)I"⟩, 48) := ⟨⟨by decide +kernel, by decide +kernel⟩, List.mem_of_getElem? (i := 882) (by decide +kernel), List.mem_of_getElem? (i := 1333) (by decide +kernel), List.mem_of_getElem? (i := 1334) (by decide +kernel)⟩
theorem lw_p61 : lw_okq (⟨"SundayIsAPlaceModel", "seekHomes", "(III)V"⟩, 48) := ⟨⟨by decide +kernel, by decide +kernel⟩, List.mem_of_getElem? (i := 882) (by decide +kernel), List.mem_of_getElem? (i := 1346) (by decide +kernel), List.mem_of_getElem? (i := 1347) (by decide +kernel)⟩
theorem lw_p62 : lw_okq (⟨"SundayIsAPlaceModel", "leastPaid", "()I"⟩, 48) := ⟨⟨by decide +kernel, by decide +kernel⟩, List.mem_of_getElem? (i := 882) (by decide +kernel), List.mem_of_getElem? (i := 1354) (by decide +kernel), List.mem_of_getElem? (i := 1355) (by decide +kernel)⟩
theorem lw_p63 : lw_okq (⟨"SundayIsAPlaceModel", "findJourneys", "([JII)V"⟩, 48) := ⟨⟨by decide +kernel, by decide +kernel⟩, List.mem_of_getElem? (i := 882) (by decide +kernel), List.mem_of_getElem? (i := 1366) (by decide +kernel), List.mem_of_getElem? (i := 1367) (by decide +kernel)⟩
def lw_privs_4 : List (MethodName × Nat) := [(⟨"SundayIsAPlaceModel", "passTold", "()Z"⟩, 48), (⟨"SundayIsAPlaceModel", "wrongSame", "()Z"⟩, 48), (⟨"SundayIsAPlaceModel", "ofPeople", "()Z"⟩, 48), (⟨"SundayIsAPlaceModel", "ofOne", "(I)Z"⟩, 48), (⟨"SundayIsAPlaceModel", "manyAt", "(I)I"⟩, 48), (⟨"SundayIsAPlaceModel", "findFar", "(III)V"⟩, 48), (⟨"SundayIsAPlaceModel", "weight", "(IIII)I"⟩, 48), (⟨"SundayIsAPlaceModel", "hoursOf", "(II)I"⟩, 48), (⟨"SundayIsAPlaceModel", "tourNow", "(II)I"⟩, 48), (⟨"SundayIsAPlaceModel", "tourFrom", "(III)I"⟩, 48), (⟨"SundayIsAPlaceModel", "seekTour", "(IIIII)V"⟩, 48), (⟨"SundayIsAPlaceModel", "savedBy", "(I)I"⟩, 48), (⟨"SundayIsAPlaceModel", "valueOf", "(II)I"⟩, 48), (⟨"SundayIsAPlaceModel", "seekHomes", "(III)V"⟩, 48), (⟨"SundayIsAPlaceModel", "leastPaid", "()I"⟩, 48), (⟨"SundayIsAPlaceModel", "findJourneys", "([JII)V"⟩, 48)]
theorem lw_r4 : ∀ q ∈ lw_privs_4, lw_okq q := List.forall_mem_cons.mpr ⟨lw_p48, List.forall_mem_cons.mpr ⟨lw_p49, List.forall_mem_cons.mpr ⟨lw_p50, List.forall_mem_cons.mpr ⟨lw_p51, List.forall_mem_cons.mpr ⟨lw_p52, List.forall_mem_cons.mpr ⟨lw_p53, List.forall_mem_cons.mpr ⟨lw_p54, List.forall_mem_cons.mpr ⟨lw_p55, List.forall_mem_cons.mpr ⟨lw_p56, List.forall_mem_cons.mpr ⟨lw_p57, List.forall_mem_cons.mpr ⟨lw_p58, List.forall_mem_cons.mpr ⟨lw_p59, List.forall_mem_cons.mpr ⟨lw_p60, List.forall_mem_cons.mpr ⟨lw_p61, List.forall_mem_cons.mpr ⟨lw_p62, List.forall_mem_cons.mpr ⟨lw_p63, fun _ h => absurd h List.not_mem_nil⟩⟩⟩⟩⟩⟩⟩⟩⟩⟩⟩⟩⟩⟩⟩⟩
theorem lw_p64 : lw_okq (⟨"SundayIsAPlaceModel", "journeysTo", "(I)I"⟩, 48) := ⟨⟨by decide +kernel, by decide +kernel⟩, List.mem_of_getElem? (i := 882) (by decide +kernel), List.mem_of_getElem? (i := 1374) (by decide +kernel), List.mem_of_getElem? (i := 1375) (by decide +kernel)⟩
theorem lw_p65 : lw_okq (⟨"SundayIsAPlaceModel", "maybeAt", "(I)I"⟩, 48) := ⟨⟨by decide +kernel, by decide +kernel⟩, List.mem_of_getElem? (i := 882) (by decide +kernel), List.mem_of_getElem? (i := 1378) (by decide +kernel), List.mem_of_getElem? (i := 1379) (by decide +kernel)⟩
theorem lw_p66 : lw_okq (⟨"SundayIsAPlaceModel", "forged", "(I)I"⟩, 48) := ⟨⟨by decide +kernel, by decide +kernel⟩, List.mem_of_getElem? (i := 882) (by decide +kernel), List.mem_of_getElem? (i := 1382) (by decide +kernel), List.mem_of_getElem? (i := 1383) (by decide +kernel)⟩
theorem lw_p67 : lw_okq (⟨"SundayIsAPlaceModel", "sure", "([JI)I"⟩, 48) := ⟨⟨by decide +kernel, by decide +kernel⟩, List.mem_of_getElem? (i := 882) (by decide +kernel), List.mem_of_getElem? (i := 1386) (by decide +kernel), List.mem_of_getElem? (i := 1387) (by decide +kernel)⟩
theorem lw_p68 : lw_okq (⟨"SundayIsAPlaceModel", "noPlan", "(III)I"⟩, 48) := ⟨⟨by decide +kernel, by decide +kernel⟩, List.mem_of_getElem? (i := 882) (by decide +kernel), List.mem_of_getElem? (i := 1394) (by decide +kernel), List.mem_of_getElem? (i := 1395) (by decide +kernel)⟩
theorem lw_p69 : lw_okq (⟨"SundayIsAPlaceModel", "wrongIn", "([JII)I"⟩, 48) := ⟨⟨by decide +kernel, by decide +kernel⟩, List.mem_of_getElem? (i := 882) (by decide +kernel), List.mem_of_getElem? (i := 1398) (by decide +kernel), List.mem_of_getElem? (i := 1399) (by decide +kernel)⟩
theorem lw_p70 : lw_okq (⟨"SundayIsAPlaceModel", "acts", "(II)Z"⟩, 48) := ⟨⟨by decide +kernel, by decide +kernel⟩, List.mem_of_getElem? (i := 882) (by decide +kernel), List.mem_of_getElem? (i := 1406) (by decide +kernel), List.mem_of_getElem? (i := 1407) (by decide +kernel)⟩
theorem lw_p71 : lw_okq (⟨"SundayIsAPlaceModel", "below", "(I)I"⟩, 48) := ⟨⟨by decide +kernel, by decide +kernel⟩, List.mem_of_getElem? (i := 882) (by decide +kernel), List.mem_of_getElem? (i := 1431) (by decide +kernel), List.mem_of_getElem? (i := 1432) (by decide +kernel)⟩
def lw_privs_5 : List (MethodName × Nat) := [(⟨"SundayIsAPlaceModel", "journeysTo", "(I)I"⟩, 48), (⟨"SundayIsAPlaceModel", "maybeAt", "(I)I"⟩, 48), (⟨"SundayIsAPlaceModel", "forged", "(I)I"⟩, 48), (⟨"SundayIsAPlaceModel", "sure", "([JI)I"⟩, 48), (⟨"SundayIsAPlaceModel", "noPlan", "(III)I"⟩, 48), (⟨"SundayIsAPlaceModel", "wrongIn", "([JII)I"⟩, 48), (⟨"SundayIsAPlaceModel", "acts", "(II)Z"⟩, 48), (⟨"SundayIsAPlaceModel", "below", "(I)I"⟩, 48)]
theorem lw_r5 : ∀ q ∈ lw_privs_5, lw_okq q := List.forall_mem_cons.mpr ⟨lw_p64, List.forall_mem_cons.mpr ⟨lw_p65, List.forall_mem_cons.mpr ⟨lw_p66, List.forall_mem_cons.mpr ⟨lw_p67, List.forall_mem_cons.mpr ⟨lw_p68, List.forall_mem_cons.mpr ⟨lw_p69, List.forall_mem_cons.mpr ⟨lw_p70, List.forall_mem_cons.mpr ⟨lw_p71, fun _ h => absurd h List.not_mem_nil⟩⟩⟩⟩⟩⟩⟩⟩
def lw_privs : List (MethodName × Nat) := lw_privs_1 ++ (lw_privs_2 ++ (lw_privs_3 ++ (lw_privs_4 ++ (lw_privs_5))))
def lw_tbl : List Cond := k2_sels lw_privs ++ tables_1
theorem lw_privs_ok : ∀ q ∈ lw_privs, lw_okq q := by
  show ∀ q ∈ lw_privs_1 ++ (lw_privs_2 ++ (lw_privs_3 ++ (lw_privs_4 ++ (lw_privs_5)))), lw_okq q
  exact List.forall_mem_append.mpr ⟨lw_r1, List.forall_mem_append.mpr ⟨lw_r2, List.forall_mem_append.mpr ⟨lw_r3, List.forall_mem_append.mpr ⟨lw_r4, lw_r5⟩⟩⟩⟩
-- ===== end of PART A; then your names; then what follows =====
end
section
def RX0 : String := "SundayIsAPlace$Land"
def TX0 : u_T := fun k => match k with
  | 0 => ("SundayIsAPlace$Land", "valleys", "[[I", true)
  | 1 => ("SundayIsAPlace$Land", "passes", "[[I", true)
  | 2 => ("SundayIsAPlace$Land", "people", "[[I", true)
  | 3 => ("SundayIsAPlace$Land", "passCount", "I", false)
  | 4 => ("SundayIsAPlace$Land", "peopleCount", "I", false)
  | 5 => ("SundayIsAPlace$Land", "backFare", "I", false)
  | 6 => ("SundayIsAPlace$Land", "drawSeed", "I", false)
  | _ => ("SundayIsAPlace$Land", "actCount", "I", false)
def tyX0 : Nat → FieldType := fun k => match k with
  | 0 => .array (.array .int)
  | 1 => .array (.array .int)
  | 2 => .array (.array .int)
  | 3 => .int
  | 4 => .int
  | 5 => .int
  | 6 => .int
  | _ => .int
abbrev wsX00 : List Cond := u_ws RX0 TX0 8
theorem nmX0 : ∀ a, a < 8 → ∀ b, b < 8 → a ≠ b → (TX0 a).2.1 ≠ (TX0 b).2.1 := by decide +kernel
theorem tyX0_ok : ∀ k, k < 8 → parseFieldDescriptor (TX0 k).2.2.1 = some (tyX0 k) := by decide +kernel
abbrev cX0_init : ByteArray := prog_2_method_1_code
def yX0_init : MethodName := ⟨RX0, "<init>", "()V"⟩
abbrev cX0_becomes : ByteArray := prog_2_method_2_code
def yX0_becomes : MethodName := ⟨RX0, "becomes", "(LSundayIsAPlace$Land;)V"⟩
abbrev cX0_copyTable : ByteArray := prog_2_method_3_code
def yX0_copyTable : MethodName := ⟨RX0, "copyTable", "([[I[[III)V"⟩
abbrev cX0_hasPerson : ByteArray := prog_2_method_4_code
def yX0_hasPerson : MethodName := ⟨RX0, "hasPerson", "(I)Z"⟩
abbrev cX0_hasPass : ByteArray := prog_2_method_5_code
def yX0_hasPass : MethodName := ⟨RX0, "hasPass", "(I)Z"⟩
abbrev cX0_addPass : ByteArray := prog_2_method_6_code
def yX0_addPass : MethodName := ⟨RX0, "addPass", "(IIII)I"⟩
abbrev cX0_addPerson : ByteArray := prog_2_method_7_code
def yX0_addPerson : MethodName := ⟨RX0, "addPerson", "(III)I"⟩
abbrev cX0_peopleAt : ByteArray := prog_2_method_8_code
def yX0_peopleAt : MethodName := ⟨RX0, "peopleAt", "(I)I"⟩
abbrev cX0_together : ByteArray := prog_2_method_9_code
def yX0_together : MethodName := ⟨RX0, "together", "(I)I"⟩
abbrev cX0_payAt : ByteArray := prog_2_method_10_code
def yX0_payAt : MethodName := ⟨RX0, "payAt", "(I)I"⟩
abbrev cX0_passFrom : ByteArray := prog_2_method_11_code
def yX0_passFrom : MethodName := ⟨RX0, "passFrom", "(II)I"⟩
abbrev cX0_endOf : ByteArray := prog_2_method_12_code
def yX0_endOf : MethodName := ⟨RX0, "endOf", "(II)I"⟩
abbrev cX0_valleyAhead : ByteArray := prog_2_method_13_code
def yX0_valleyAhead : MethodName := ⟨RX0, "valleyAhead", "(I)I"⟩
abbrev cX0_fareOf : ByteArray := prog_2_method_14_code
def yX0_fareOf : MethodName := ⟨RX0, "fareOf", "(II)I"⟩
abbrev cX0_hoursOf : ByteArray := prog_2_method_15_code
def yX0_hoursOf : MethodName := ⟨RX0, "hoursOf", "(II)I"⟩
abbrev cX0_priceFor : ByteArray := prog_2_method_16_code
def yX0_priceFor : MethodName := ⟨RX0, "priceFor", "([III)I"⟩
abbrev cX0_tryAct : ByteArray := prog_2_method_17_code
def yX0_tryAct : MethodName := ⟨RX0, "tryAct", "([II)Z"⟩
abbrev cX0_tryStep : ByteArray := prog_2_method_18_code
def yX0_tryStep : MethodName := ⟨RX0, "tryStep", "([II)Z"⟩
abbrev cX0_tryWork : ByteArray := prog_2_method_19_code
def yX0_tryWork : MethodName := ⟨RX0, "tryWork", "([I)Z"⟩
abbrev cX0_tryRest : ByteArray := prog_2_method_20_code
def yX0_tryRest : MethodName := ⟨RX0, "tryRest", "([I)Z"⟩
abbrev cX0_actInTruth : ByteArray := prog_2_method_21_code
def yX0_actInTruth : MethodName := ⟨RX0, "actInTruth", "(II)Z"⟩
abbrev cX0_passWeeks : ByteArray := prog_2_method_22_code
def yX0_passWeeks : MethodName := ⟨RX0, "passWeeks", "(I)I"⟩
abbrev cX0_drawAct : ByteArray := prog_2_method_23_code
def yX0_drawAct : MethodName := ⟨RX0, "drawAct", "([I)I"⟩
def RX1 : String := "SundayIsAPlace$Plan"
def TX1 : u_T := fun k => match k with
  | 0 => ("SundayIsAPlace$Plan", "one", "[I", true)
  | _ => ("SundayIsAPlace$Plan", "lazy", "I", false)
def tyX1 : Nat → FieldType := fun k => match k with
  | 0 => .array .int
  | _ => .int
abbrev wsX10 : List Cond := u_ws RX1 TX1 2
theorem nmX1 : ∀ a, a < 2 → ∀ b, b < 2 → a ≠ b → (TX1 a).2.1 ≠ (TX1 b).2.1 := by decide +kernel
theorem tyX1_ok : ∀ k, k < 2 → parseFieldDescriptor (TX1 k).2.2.1 = some (tyX1 k) := by decide +kernel
abbrev cX1_init : ByteArray := prog_3_method_1_code
def yX1_init : MethodName := ⟨RX1, "<init>", "()V"⟩
abbrev cX1_findWrong : ByteArray := prog_3_method_2_code
def yX1_findWrong : MethodName := ⟨RX1, "findWrong", "(LSundayIsAPlace$Land;[JII)I"⟩
def RX2 : String := "SundayIsAPlace$Shelves"
def TX2 : u_T := fun k => match k with
  | 0 => ("SundayIsAPlace$Shelves", "holding", "[I", true)
  | 1 => ("SundayIsAPlace$Shelves", "sizes", "[I", true)
  | _ => ("SundayIsAPlace$Shelves", "elements", "[[J", true)
def tyX2 : Nat → FieldType := fun k => match k with
  | 0 => .array .int
  | 1 => .array .int
  | _ => .array (.array .long)
abbrev wsX20 : List Cond := u_ws RX2 TX2 3
theorem nmX2 : ∀ a, a < 3 → ∀ b, b < 3 → a ≠ b → (TX2 a).2.1 ≠ (TX2 b).2.1 := by decide +kernel
theorem tyX2_ok : ∀ k, k < 3 → parseFieldDescriptor (TX2 k).2.2.1 = some (tyX2 k) := by decide +kernel
abbrev cX2_init : ByteArray := prog_4_method_1_code
def yX2_init : MethodName := ⟨RX2, "<init>", "()V"⟩
abbrev cX2_putRow : ByteArray := prog_4_method_2_code
def yX2_putRow : MethodName := ⟨RX2, "putRow", "(III)V"⟩
abbrev cX2_isRow : ByteArray := prog_4_method_3_code
def yX2_isRow : MethodName := ⟨RX2, "isRow", "(I)Z"⟩
abbrev cX2_refusalOfRow : ByteArray := prog_4_method_4_code
def yX2_refusalOfRow : MethodName := ⟨RX2, "refusalOfRow", "(I)I"⟩
abbrev cX2_refusalOfTwoRows : ByteArray := prog_4_method_5_code
def yX2_refusalOfTwoRows : MethodName := ⟨RX2, "refusalOfTwoRows", "(II)I"⟩
abbrev cX2_hasElement : ByteArray := prog_4_method_6_code
def yX2_hasElement : MethodName := ⟨RX2, "hasElement", "(II)Z"⟩
abbrev cX2_hasElements : ByteArray := prog_4_method_7_code
def yX2_hasElements : MethodName := ⟨RX2, "hasElements", "(III)Z"⟩
abbrev cX2_putElement : ByteArray := prog_4_method_8_code
def yX2_putElement : MethodName := ⟨RX2, "putElement", "(IIJ)V"⟩
abbrev cX2_narrowed : ByteArray := prog_4_method_9_code
def yX2_narrowed : MethodName := ⟨RX2, "narrowed", "(IJ)J"⟩
abbrev cX2_elementAt : ByteArray := prog_4_method_10_code
def yX2_elementAt : MethodName := ⟨RX2, "elementAt", "(II)J"⟩
abbrev cX2_copyElements : ByteArray := prog_4_method_11_code
def yX2_copyElements : MethodName := ⟨RX2, "copyElements", "(IIIII)V"⟩
abbrev cX2_howManyHold : ByteArray := prog_4_method_12_code
def yX2_howManyHold : MethodName := ⟨RX2, "howManyHold", "()I"⟩
abbrev cX2_keepPeopleBelow : ByteArray := prog_4_method_13_code
def yX2_keepPeopleBelow : MethodName := ⟨RX2, "keepPeopleBelow", "(I)V"⟩
def RX3 : String := "SundayIsAPlace$Stamps"
def TX3 : u_T := fun k => match k with
  | _ => ("SundayIsAPlace$Stamps", "arrived", "[[I", true)
def tyX3 : Nat → FieldType := fun k => match k with
  | _ => .array (.array .int)
abbrev wsX30 : List Cond := u_ws RX3 TX3 1
theorem nmX3 : ∀ a, a < 1 → ∀ b, b < 1 → a ≠ b → (TX3 a).2.1 ≠ (TX3 b).2.1 := by decide +kernel
theorem tyX3_ok : ∀ k, k < 1 → parseFieldDescriptor (TX3 k).2.2.1 = some (tyX3 k) := by decide +kernel
abbrev cX3_init : ByteArray := prog_5_method_1_code
def yX3_init : MethodName := ⟨RX3, "<init>", "()V"⟩
abbrev cX3_follow : ByteArray := prog_5_method_2_code
def yX3_follow : MethodName := ⟨RX3, "follow", "(LSundayIsAPlace$Land;[JII)V"⟩
abbrev cX3_stepOn : ByteArray := prog_5_method_3_code
def yX3_stepOn : MethodName := ⟨RX3, "stepOn", "(LSundayIsAPlace$Land;IIJ)V"⟩
abbrev cX3_howMany : ByteArray := prog_5_method_4_code
def yX3_howMany : MethodName := ⟨RX3, "howMany", "(I)I"⟩
abbrev cX3_comeTo : ByteArray := prog_5_method_5_code
def yX3_comeTo : MethodName := ⟨RX3, "comeTo", "(I)I"⟩
abbrev cX3_forged : ByteArray := prog_5_method_6_code
def yX3_forged : MethodName := ⟨RX3, "forged", "(I)I"⟩
abbrev cX3_howManySure : ByteArray := prog_5_method_7_code
def yX3_howManySure : MethodName := ⟨RX3, "howManySure", "(LSundayIsAPlace$Land;[JI)I"⟩
abbrev cX3_leadingInto : ByteArray := prog_5_method_8_code
def yX3_leadingInto : MethodName := ⟨RX3, "leadingInto", "(LSundayIsAPlace$Land;I)I"⟩
def RX4 : String := "SundayIsAPlace$Tape"
def TX4 : u_T := fun k => match k with
  | 0 => ("SundayIsAPlace$Tape", "draft", "LSundayIsAPlace$Land;", true)
  | 1 => ("SundayIsAPlace$Tape", "bytes", "[I", true)
  | 2 => ("SundayIsAPlace$Tape", "size", "I", false)
  | 3 => ("SundayIsAPlace$Tape", "numbers", "[I", true)
  | 4 => ("SundayIsAPlace$Tape", "token", "I", false)
  | 5 => ("SundayIsAPlace$Tape", "tokenStart", "I", false)
  | _ => ("SundayIsAPlace$Tape", "tokenEnd", "I", false)
def tyX4 : Nat → FieldType := fun k => match k with
  | 0 => .object "SundayIsAPlace$Land"
  | 1 => .array .int
  | 2 => .int
  | 3 => .array .int
  | 4 => .int
  | 5 => .int
  | _ => .int
abbrev wsX40 : List Cond := u_ws RX4 TX4 7
theorem nmX4 : ∀ a, a < 7 → ∀ b, b < 7 → a ≠ b → (TX4 a).2.1 ≠ (TX4 b).2.1 := by decide +kernel
theorem tyX4_ok : ∀ k, k < 7 → parseFieldDescriptor (TX4 k).2.2.1 = some (tyX4 k) := by decide +kernel
abbrev cX4_init : ByteArray := prog_6_method_1_code
def yX4_init : MethodName := ⟨RX4, "<init>", "()V"⟩
abbrev cX4_putByte : ByteArray := prog_6_method_2_code
def yX4_putByte : MethodName := ⟨RX4, "putByte", "(I)V"⟩
abbrev cX4_readLand : ByteArray := prog_6_method_3_code
def yX4_readLand : MethodName := ⟨RX4, "readLand", "(LSundayIsAPlace$Land;)I"⟩
abbrev cX4_readStatement : ByteArray := prog_6_method_4_code
def yX4_readStatement : MethodName := ⟨RX4, "readStatement", "()Z"⟩
abbrev cX4_hasRoomFor : ByteArray := prog_6_method_5_code
def yX4_hasRoomFor : MethodName := ⟨RX4, "hasRoomFor", "(I)Z"⟩
abbrev cX4_readNumber : ByteArray := prog_6_method_6_code
def yX4_readNumber : MethodName := ⟨RX4, "readNumber", "(II)Z"⟩
abbrev cX4_mostOf : ByteArray := prog_6_method_7_code
def yX4_mostOf : MethodName := ⟨RX4, "mostOf", "(I)I"⟩
abbrev cX4_comeToPass : ByteArray := prog_6_method_8_code
def yX4_comeToPass : MethodName := ⟨RX4, "comeToPass", "(I)V"⟩
abbrev cX4_nextToken : ByteArray := prog_6_method_9_code
def yX4_nextToken : MethodName := ⟨RX4, "nextToken", "()V"⟩
abbrev cX4_tokenOf : ByteArray := prog_6_method_10_code
def yX4_tokenOf : MethodName := ⟨RX4, "tokenOf", "(I)I"⟩
abbrev cX4_tokenNumber : ByteArray := prog_6_method_11_code
def yX4_tokenNumber : MethodName := ⟨RX4, "tokenNumber", "()I"⟩
abbrev cX4_statementOfWord : ByteArray := prog_6_method_12_code
def yX4_statementOfWord : MethodName := ⟨RX4, "statementOfWord", "()I"⟩
abbrev cX4_isWord : ByteArray := prog_6_method_13_code
def yX4_isWord : MethodName := ⟨RX4, "isWord", "(Ljava/lang/String;)Z"⟩
abbrev cX4_wordOf : ByteArray := prog_6_method_14_code
def yX4_wordOf : MethodName := ⟨RX4, "wordOf", "(I)Ljava/lang/String;"⟩
def RX5 : String := "SundayIsAPlace$Tours"
def TX5 : u_T := fun k => match k with
  | 0 => ("SundayIsAPlace$Tours", "still", "[I", true)
  | 1 => ("SundayIsAPlace$Tours", "order", "[I", true)
  | 2 => ("SundayIsAPlace$Tours", "homeCosts", "[[I", true)
  | 3 => ("SundayIsAPlace$Tours", "behindThem", "[I", true)
  | _ => ("SundayIsAPlace$Tours", "settled", "[I", true)
def tyX5 : Nat → FieldType := fun k => match k with
  | 0 => .array .int
  | 1 => .array .int
  | 2 => .array (.array .int)
  | 3 => .array .int
  | _ => .array .int
abbrev wsX50 : List Cond := u_ws RX5 TX5 5
theorem nmX5 : ∀ a, a < 5 → ∀ b, b < 5 → a ≠ b → (TX5 a).2.1 ≠ (TX5 b).2.1 := by decide +kernel
theorem tyX5_ok : ∀ k, k < 5 → parseFieldDescriptor (TX5 k).2.2.1 = some (tyX5 k) := by decide +kernel
abbrev cX5_init : ByteArray := prog_7_method_1_code
def yX5_init : MethodName := ⟨RX5, "<init>", "()V"⟩
abbrev cX5_leastTour : ByteArray := prog_7_method_2_code
def yX5_leastTour : MethodName := ⟨RX5, "leastTour", "(LSundayIsAPlace$Land;LSundayIsAPlace$Ways;II)I"⟩
abbrev cX5_leastFrom : ByteArray := prog_7_method_3_code
def yX5_leastFrom : MethodName := ⟨RX5, "leastFrom", "(LSundayIsAPlace$Ways;III)I"⟩
abbrev cX5_fillSet : ByteArray := prog_7_method_4_code
def yX5_fillSet : MethodName := ⟨RX5, "fillSet", "(LSundayIsAPlace$Ways;III)V"⟩
abbrev cX5_leastByNext : ByteArray := prog_7_method_5_code
def yX5_leastByNext : MethodName := ⟨RX5, "leastByNext", "(LSundayIsAPlace$Ways;II)I"⟩
abbrev cX5_leastOver : ByteArray := prog_7_method_6_code
def yX5_leastOver : MethodName := ⟨RX5, "leastOver", "(LSundayIsAPlace$Ways;III)I"⟩
abbrev cX5_findOrder : ByteArray := prog_7_method_7_code
def yX5_findOrder : MethodName := ⟨RX5, "findOrder", "(LSundayIsAPlace$Land;LSundayIsAPlace$Ways;I)I"⟩
abbrev cX5_firstNext : ByteArray := prog_7_method_8_code
def yX5_firstNext : MethodName := ⟨RX5, "firstNext", "(LSundayIsAPlace$Ways;II)I"⟩
abbrev cX5_savedBy : ByteArray := prog_7_method_9_code
def yX5_savedBy : MethodName := ⟨RX5, "savedBy", "(LSundayIsAPlace$Land;LSundayIsAPlace$Ways;I)I"⟩
abbrev cX5_settle : ByteArray := prog_7_method_10_code
def yX5_settle : MethodName := ⟨RX5, "settle", "(LSundayIsAPlace$Land;LSundayIsAPlace$Ways;)I"⟩
abbrev cX5_firstHome : ByteArray := prog_7_method_11_code
def yX5_firstHome : MethodName := ⟨RX5, "firstHome", "(II)I"⟩
abbrev cX5_costWith : ByteArray := prog_7_method_12_code
def yX5_costWith : MethodName := ⟨RX5, "costWith", "(III)I"⟩
def RX6 : String := "SundayIsAPlace$Ways"
def TX6 : u_T := fun k => match k with
  | 0 => ("SundayIsAPlace$Ways", "least", "[[I", true)
  | 1 => ("SundayIsAPlace$Ways", "route", "[I", true)
  | _ => ("SundayIsAPlace$Ways", "burdens", "[I", true)
def tyX6 : Nat → FieldType := fun k => match k with
  | 0 => .array (.array .int)
  | 1 => .array .int
  | _ => .array .int
abbrev wsX60 : List Cond := u_ws RX6 TX6 3
theorem nmX6 : ∀ a, a < 3 → ∀ b, b < 3 → a ≠ b → (TX6 a).2.1 ≠ (TX6 b).2.1 := by decide +kernel
theorem tyX6_ok : ∀ k, k < 3 → parseFieldDescriptor (TX6 k).2.2.1 = some (tyX6 k) := by decide +kernel
abbrev cX6_init : ByteArray := prog_8_method_1_code
def yX6_init : MethodName := ⟨RX6, "<init>", "()V"⟩
abbrev cX6_measure : ByteArray := prog_8_method_2_code
def yX6_measure : MethodName := ⟨RX6, "measure", "(LSundayIsAPlace$Land;[III)V"⟩
abbrev cX6_shortenBy : ByteArray := prog_8_method_3_code
def yX6_shortenBy : MethodName := ⟨RX6, "shortenBy", "(I)V"⟩
abbrev cX6_weight : ByteArray := prog_8_method_4_code
def yX6_weight : MethodName := ⟨RX6, "weight", "(LSundayIsAPlace$Land;[IIII)I"⟩
abbrev cX6_between : ByteArray := prog_8_method_5_code
def yX6_between : MethodName := ⟨RX6, "between", "(II)I"⟩
abbrev cX6_findRoute : ByteArray := prog_8_method_6_code
def yX6_findRoute : MethodName := ⟨RX6, "findRoute", "(LSundayIsAPlace$Land;[II)I"⟩
abbrev cX6_firstStep : ByteArray := prog_8_method_7_code
def yX6_firstStep : MethodName := ⟨RX6, "firstStep", "(LSundayIsAPlace$Land;[III)I"⟩
abbrev cX6_bestPlace : ByteArray := prog_8_method_8_code
def yX6_bestPlace : MethodName := ⟨RX6, "bestPlace", "(LSundayIsAPlace$Land;I)I"⟩
def RX7 : String := "SundayIsAPlace"
def TX7 : u_T := fun k => match k with
  | 0 => ("SundayIsAPlace", "now", "LSundayIsAPlace$Land;", true)
  | 1 => ("SundayIsAPlace", "kept", "LSundayIsAPlace$Land;", true)
  | 2 => ("SundayIsAPlace", "anyKept", "Z", false)
  | 3 => ("SundayIsAPlace", "shelves", "LSundayIsAPlace$Shelves;", true)
  | 4 => ("SundayIsAPlace", "tape", "LSundayIsAPlace$Tape;", true)
  | 5 => ("SundayIsAPlace", "ways", "LSundayIsAPlace$Ways;", true)
  | 6 => ("SundayIsAPlace", "tours", "LSundayIsAPlace$Tours;", true)
  | 7 => ("SundayIsAPlace", "stamps", "LSundayIsAPlace$Stamps;", true)
  | 8 => ("SundayIsAPlace", "plan", "LSundayIsAPlace$Plan;", true)
  | _ => ("SundayIsAPlace", "refusals", "[I", true)
def tyX7 : Nat → FieldType := fun k => match k with
  | 0 => .object "SundayIsAPlace$Land"
  | 1 => .object "SundayIsAPlace$Land"
  | 2 => .boolean
  | 3 => .object "SundayIsAPlace$Shelves"
  | 4 => .object "SundayIsAPlace$Tape"
  | 5 => .object "SundayIsAPlace$Ways"
  | 6 => .object "SundayIsAPlace$Tours"
  | 7 => .object "SundayIsAPlace$Stamps"
  | 8 => .object "SundayIsAPlace$Plan"
  | _ => .array .int
abbrev wsX70 : List Cond := u_ws RX7 TX7 10
theorem nmX7 : ∀ a, a < 10 → ∀ b, b < 10 → a ≠ b → (TX7 a).2.1 ≠ (TX7 b).2.1 := by decide +kernel
theorem tyX7_ok : ∀ k, k < 10 → parseFieldDescriptor (TX7 k).2.2.1 = some (tyX7 k) := by decide +kernel
abbrev cX7_init : ByteArray := prog_1_method_1_code
def yX7_init : MethodName := ⟨RX7, "<init>", "()V"⟩
abbrev cX7_row : ByteArray := prog_1_method_2_code
def yX7_row : MethodName := ⟨RX7, "row", "(III)I"⟩
abbrev cX7_set : ByteArray := prog_1_method_3_code
def yX7_set : MethodName := ⟨RX7, "set", "(IIJ)I"⟩
abbrev cX7_copy : ByteArray := prog_1_method_4_code
def yX7_copy : MethodName := ⟨RX7, "copy", "(IIIII)I"⟩
abbrev cX7_element : ByteArray := prog_1_method_5_code
def yX7_element : MethodName := ⟨RX7, "element", "(II)J"⟩
abbrev cX7_holds : ByteArray := prog_1_method_6_code
def yX7_holds : MethodName := ⟨RX7, "holds", "(I)I"⟩
abbrev cX7_show : ByteArray := prog_1_method_7_code
def yX7_show : MethodName := ⟨RX7, "show", "(II)I"⟩
abbrev cX7_says : ByteArray := prog_1_method_8_code
def yX7_says : MethodName := ⟨RX7, "says", "(II)I"⟩
abbrev cX7_ask : ByteArray := prog_1_method_9_code
def yX7_ask : MethodName := ⟨RX7, "ask", "(III)I"⟩
abbrev cX7_pass : ByteArray := prog_1_method_10_code
def yX7_pass : MethodName := ⟨RX7, "pass", "(IIII)I"⟩
abbrev cX7_person : ByteArray := prog_1_method_11_code
def yX7_person : MethodName := ⟨RX7, "person", "(III)I"⟩
abbrev cX7_duty : ByteArray := prog_1_method_12_code
def yX7_duty : MethodName := ⟨RX7, "duty", "(IIZ)I"⟩
abbrev cX7_tell : ByteArray := prog_1_method_13_code
def yX7_tell : MethodName := ⟨RX7, "tell", "(III)I"⟩
abbrev cX7_valleyOf : ByteArray := prog_1_method_14_code
def yX7_valleyOf : MethodName := ⟨RX7, "valleyOf", "(II)I"⟩
abbrev cX7_passOf : ByteArray := prog_1_method_15_code
def yX7_passOf : MethodName := ⟨RX7, "passOf", "(II)I"⟩
abbrev cX7_personOf : ByteArray := prog_1_method_16_code
def yX7_personOf : MethodName := ⟨RX7, "personOf", "(II)I"⟩
abbrev cX7_feed : ByteArray := prog_1_method_17_code
def yX7_feed : MethodName := ⟨RX7, "feed", "(I)I"⟩
abbrev cX7_wipe : ByteArray := prog_1_method_18_code
def yX7_wipe : MethodName := ⟨RX7, "wipe", "()I"⟩
abbrev cX7_land : ByteArray := prog_1_method_19_code
def yX7_land : MethodName := ⟨RX7, "land", "()I"⟩
abbrev cX7_price : ByteArray := prog_1_method_20_code
def yX7_price : MethodName := ⟨RX7, "price", "(III)I"⟩
abbrev cX7_way : ByteArray := prog_1_method_21_code
def yX7_way : MethodName := ⟨RX7, "way", "(III)I"⟩
abbrev cX7_tour : ByteArray := prog_1_method_22_code
def yX7_tour : MethodName := ⟨RX7, "tour", "(II)I"⟩
abbrev cX7_route : ByteArray := prog_1_method_23_code
def yX7_route : MethodName := ⟨RX7, "route", "(III)I"⟩
abbrev cX7_tourOf : ByteArray := prog_1_method_24_code
def yX7_tourOf : MethodName := ⟨RX7, "tourOf", "(II)I"⟩
abbrev cX7_saved : ByteArray := prog_1_method_25_code
def yX7_saved : MethodName := ⟨RX7, "saved", "(I)I"⟩
abbrev cX7_bestPass : ByteArray := prog_1_method_26_code
def yX7_bestPass : MethodName := ⟨RX7, "bestPass", "()I"⟩
abbrev cX7_first : ByteArray := prog_1_method_27_code
def yX7_first : MethodName := ⟨RX7, "first", "(I)I"⟩
abbrev cX7_works : ByteArray := prog_1_method_28_code
def yX7_works : MethodName := ⟨RX7, "works", "(I)I"⟩
abbrev cX7_steps : ByteArray := prog_1_method_29_code
def yX7_steps : MethodName := ⟨RX7, "steps", "(II)I"⟩
abbrev cX7_within : ByteArray := prog_1_method_30_code
def yX7_within : MethodName := ⟨RX7, "within", "(III)I"⟩
abbrev cX7_crowd : ByteArray := prog_1_method_31_code
def yX7_crowd : MethodName := ⟨RX7, "crowd", "()I"⟩
abbrev cX7_ring : ByteArray := prog_1_method_32_code
def yX7_ring : MethodName := ⟨RX7, "ring", "(I)I"⟩
abbrev cX7_dearest : ByteArray := prog_1_method_33_code
def yX7_dearest : MethodName := ⟨RX7, "dearest", "(I)I"⟩
abbrev cX7_alike : ByteArray := prog_1_method_34_code
def yX7_alike : MethodName := ⟨RX7, "alike", "(II)I"⟩
abbrev cX7_homes : ByteArray := prog_1_method_35_code
def yX7_homes : MethodName := ⟨RX7, "homes", "(I)I"⟩
abbrev cX7_market : ByteArray := prog_1_method_36_code
def yX7_market : MethodName := ⟨RX7, "market", "()I"⟩
abbrev cX7_meet : ByteArray := prog_1_method_37_code
def yX7_meet : MethodName := ⟨RX7, "meet", "(I)I"⟩
abbrev cX7_journeys : ByteArray := prog_1_method_38_code
def yX7_journeys : MethodName := ⟨RX7, "journeys", "(IIII)I"⟩
abbrev cX7_judge : ByteArray := prog_1_method_39_code
def yX7_judge : MethodName := ⟨RX7, "judge", "(III)I"⟩
abbrev cX7_behind : ByteArray := prog_1_method_40_code
def yX7_behind : MethodName := ⟨RX7, "behind", "(IIII)I"⟩
abbrev cX7_done : ByteArray := prog_1_method_41_code
def yX7_done : MethodName := ⟨RX7, "done", "(III)I"⟩
abbrev cX7_longest : ByteArray := prog_1_method_42_code
def yX7_longest : MethodName := ⟨RX7, "longest", "(I)I"⟩
abbrev cX7_act : ByteArray := prog_1_method_43_code
def yX7_act : MethodName := ⟨RX7, "act", "(II)I"⟩
abbrev cX7_weeks : ByteArray := prog_1_method_44_code
def yX7_weeks : MethodName := ⟨RX7, "weeks", "(I)I"⟩
abbrev cX7_seed : ByteArray := prog_1_method_45_code
def yX7_seed : MethodName := ⟨RX7, "seed", "(I)I"⟩
abbrev cX7_image : ByteArray := prog_1_method_46_code
def yX7_image : MethodName := ⟨RX7, "image", "()I"⟩
abbrev cX7_back : ByteArray := prog_1_method_47_code
def yX7_back : MethodName := ⟨RX7, "back", "()I"⟩
abbrev cX7_status : ByteArray := prog_1_method_48_code
def yX7_status : MethodName := ⟨RX7, "status", "(I)I"⟩
abbrev cX7_refuse : ByteArray := prog_1_method_49_code
def yX7_refuse : MethodName := ⟨RX7, "refuse", "(I)I"⟩
abbrev cX7_leastWay : ByteArray := prog_1_method_50_code
def yX7_leastWay : MethodName := ⟨RX7, "leastWay", "(III)I"⟩
abbrev cX7_refusalOfElements : ByteArray := prog_1_method_51_code
def yX7_refusalOfElements : MethodName := ⟨RX7, "refusalOfElements", "(II)I"⟩
abbrev cX7_areStamps : ByteArray := prog_1_method_52_code
def yX7_areStamps : MethodName := ⟨RX7, "areStamps", "(II)Z"⟩
abbrev cX7_refusalOfPlan : ByteArray := prog_1_method_53_code
def yX7_refusalOfPlan : MethodName := ⟨RX7, "refusalOfPlan", "(III)I"⟩
abbrev cX7_isWithin : ByteArray := prog_1_method_54_code
def yX7_isWithin : MethodName := ⟨RX7, "isWithin", "(III)Z"⟩
abbrev cX7_isValley : ByteArray := prog_1_method_55_code
def yX7_isValley : MethodName := ⟨RX7, "isValley", "(I)Z"⟩
abbrev cX7_isShelf : ByteArray := prog_1_method_56_code
def yX7_isShelf : MethodName := ⟨RX7, "isShelf", "(I)Z"⟩
abbrev cX7_isAct : ByteArray := prog_1_method_57_code
def yX7_isAct : MethodName := ⟨RX7, "isAct", "(J)Z"⟩
abbrev cX7_isOfKind : ByteArray := prog_1_method_58_code
def yX7_isOfKind : MethodName := ⟨RX7, "isOfKind", "(II)Z"⟩
abbrev cX7_mayBeOfValley : ByteArray := prog_1_method_59_code
def yX7_mayBeOfValley : MethodName := ⟨RX7, "mayBeOfValley", "(II)Z"⟩
abbrev cX7_toldFact : ByteArray := prog_1_method_60_code
def yX7_toldFact : MethodName := ⟨RX7, "toldFact", "(I)I"⟩
abbrev cX7_mostOfFact : ByteArray := prog_1_method_61_code
def yX7_mostOfFact : MethodName := ⟨RX7, "mostOfFact", "(I)I"⟩
def RX8 : String := "SundayIsAPlaceModel"
def TX8 : u_T := fun k => match k with
  | 0 => ("SundayIsAPlaceModel", "shelf", "[I", true)
  | 1 => ("SundayIsAPlaceModel", "rowSort", "[I", true)
  | 2 => ("SundayIsAPlaceModel", "rowSize", "[I", true)
  | 3 => ("SundayIsAPlaceModel", "rows", "[[J", true)
  | 4 => ("SundayIsAPlaceModel", "moved", "[J", true)
  | 5 => ("SundayIsAPlaceModel", "shown", "[I", true)
  | 6 => ("SundayIsAPlaceModel", "tape", "[I", true)
  | 7 => ("SundayIsAPlaceModel", "tapeSize", "I", false)
  | 8 => ("SundayIsAPlaceModel", "refused", "[I", true)
  | 9 => ("SundayIsAPlaceModel", "fare", "[I", true)
  | 10 => ("SundayIsAPlaceModel", "hours", "[I", true)
  | 11 => ("SundayIsAPlaceModel", "pay", "[I", true)
  | 12 => ("SundayIsAPlaceModel", "backFare", "I", false)
  | 13 => ("SundayIsAPlaceModel", "passes", "I", false)
  | 14 => ("SundayIsAPlaceModel", "road", "[[I", true)
  | 15 => ("SundayIsAPlaceModel", "people", "I", false)
  | 16 => ("SundayIsAPlaceModel", "kind", "[I", true)
  | 17 => ("SundayIsAPlaceModel", "by", "[I", true)
  | 18 => ("SundayIsAPlaceModel", "home", "[I", true)
  | 19 => ("SundayIsAPlaceModel", "at", "[I", true)
  | 20 => ("SundayIsAPlaceModel", "duties", "[I", true)
  | 21 => ("SundayIsAPlaceModel", "purse", "[I", true)
  | 22 => ("SundayIsAPlaceModel", "tired", "[I", true)
  | 23 => ("SundayIsAPlaceModel", "age", "[I", true)
  | 24 => ("SundayIsAPlaceModel", "deeds", "I", false)
  | 25 => ("SundayIsAPlaceModel", "seed", "I", false)
  | 26 => ("SundayIsAPlaceModel", "kept", "LSundayIsAPlaceModel;", false)
  | 27 => ("SundayIsAPlaceModel", "tried", "LSundayIsAPlaceModel;", false)
  | 28 => ("SundayIsAPlaceModel", "here", "I", false)
  | 29 => ("SundayIsAPlaceModel", "token", "I", false)
  | 30 => ("SundayIsAPlaceModel", "from", "I", false)
  | 31 => ("SundayIsAPlaceModel", "figures", "I", false)
  | 32 => ("SundayIsAPlaceModel", "fault", "I", false)
  | 33 => ("SundayIsAPlaceModel", "told", "[I", true)
  | 34 => ("SundayIsAPlaceModel", "statements", "I", false)
  | 35 => ("SundayIsAPlaceModel", "far", "[[I", true)
  | 36 => ("SundayIsAPlaceModel", "paid", "[I", true)
  | 37 => ("SundayIsAPlaceModel", "now", "[I", true)
  | 38 => ("SundayIsAPlaceModel", "bestRow", "[I", true)
  | 39 => ("SundayIsAPlaceModel", "bestSize", "I", false)
  | 40 => ("SundayIsAPlaceModel", "least", "I", false)
  | 41 => ("SundayIsAPlaceModel", "lives", "[[I", true)
  | 42 => ("SundayIsAPlaceModel", "homeNow", "[I", true)
  | 43 => ("SundayIsAPlaceModel", "homeBest", "[I", true)
  | 44 => ("SundayIsAPlaceModel", "homesLeast", "I", false)
  | 45 => ("SundayIsAPlaceModel", "came", "[[I", true)
  | 46 => ("SundayIsAPlaceModel", "goes", "[[Z", true)
  | _ => ("SundayIsAPlaceModel", "lazy", "I", false)
def tyX8 : Nat → FieldType := fun k => match k with
  | 0 => .array .int
  | 1 => .array .int
  | 2 => .array .int
  | 3 => .array (.array .long)
  | 4 => .array .long
  | 5 => .array .int
  | 6 => .array .int
  | 7 => .int
  | 8 => .array .int
  | 9 => .array .int
  | 10 => .array .int
  | 11 => .array .int
  | 12 => .int
  | 13 => .int
  | 14 => .array (.array .int)
  | 15 => .int
  | 16 => .array .int
  | 17 => .array .int
  | 18 => .array .int
  | 19 => .array .int
  | 20 => .array .int
  | 21 => .array .int
  | 22 => .array .int
  | 23 => .array .int
  | 24 => .int
  | 25 => .int
  | 26 => .object "SundayIsAPlaceModel"
  | 27 => .object "SundayIsAPlaceModel"
  | 28 => .int
  | 29 => .int
  | 30 => .int
  | 31 => .int
  | 32 => .int
  | 33 => .array .int
  | 34 => .int
  | 35 => .array (.array .int)
  | 36 => .array .int
  | 37 => .array .int
  | 38 => .array .int
  | 39 => .int
  | 40 => .int
  | 41 => .array (.array .int)
  | 42 => .array .int
  | 43 => .array .int
  | 44 => .int
  | 45 => .array (.array .int)
  | 46 => .array (.array .boolean)
  | _ => .int
abbrev wsX80 : List Cond := u_ws RX8 TX8 48
theorem nmX8 : ∀ a, a < 48 → ∀ b, b < 48 → a ≠ b → (TX8 a).2.1 ≠ (TX8 b).2.1 := by decide +kernel
theorem tyX8_ok : ∀ k, k < 48 → parseFieldDescriptor (TX8 k).2.2.1 = some (tyX8 k) := by decide +kernel
abbrev cX8_init : ByteArray := prog_10_method_1_code
def yX8_init : MethodName := ⟨RX8, "<init>", "()V"⟩
abbrev cX8_refuse : ByteArray := prog_10_method_2_code
def yX8_refuse : MethodName := ⟨RX8, "refuse", "(I)I"⟩
abbrev cX8_in : ByteArray := prog_10_method_3_code
def yX8_in : MethodName := ⟨RX8, "in", "(JJJ)Z"⟩
abbrev cX8_isOne : ByteArray := prog_10_method_4_code
def yX8_isOne : MethodName := ⟨RX8, "isOne", "(I)Z"⟩
abbrev cX8_isValley : ByteArray := prog_10_method_5_code
def yX8_isValley : MethodName := ⟨RX8, "isValley", "(J)Z"⟩
abbrev cX8_row : ByteArray := prog_10_method_6_code
def yX8_row : MethodName := ⟨RX8, "row", "(III)I"⟩
abbrev cX8_fit : ByteArray := prog_10_method_7_code
def yX8_fit : MethodName := ⟨RX8, "fit", "(IJ)J"⟩
abbrev cX8_noRow : ByteArray := prog_10_method_8_code
def yX8_noRow : MethodName := ⟨RX8, "noRow", "(I)I"⟩
abbrev cX8_set : ByteArray := prog_10_method_9_code
def yX8_set : MethodName := ⟨RX8, "set", "(IIJ)I"⟩
abbrev cX8_copy : ByteArray := prog_10_method_10_code
def yX8_copy : MethodName := ⟨RX8, "copy", "(IIIII)I"⟩
abbrev cX8_element : ByteArray := prog_10_method_11_code
def yX8_element : MethodName := ⟨RX8, "element", "(II)J"⟩
abbrev cX8_holds : ByteArray := prog_10_method_12_code
def yX8_holds : MethodName := ⟨RX8, "holds", "(I)I"⟩
abbrev cX8_show : ByteArray := prog_10_method_13_code
def yX8_show : MethodName := ⟨RX8, "show", "(II)I"⟩
abbrev cX8_isUnder : ByteArray := prog_10_method_14_code
def yX8_isUnder : MethodName := ⟨RX8, "isUnder", "(II)Z"⟩
abbrev cX8_says : ByteArray := prog_10_method_15_code
def yX8_says : MethodName := ⟨RX8, "says", "(II)I"⟩
abbrev cX8_ask : ByteArray := prog_10_method_16_code
def yX8_ask : MethodName := ⟨RX8, "ask", "(III)I"⟩
abbrev cX8_addPass : ByteArray := prog_10_method_17_code
def yX8_addPass : MethodName := ⟨RX8, "addPass", "(IIII)V"⟩
abbrev cX8_pass : ByteArray := prog_10_method_18_code
def yX8_pass : MethodName := ⟨RX8, "pass", "(IIII)I"⟩
abbrev cX8_addPerson : ByteArray := prog_10_method_19_code
def yX8_addPerson : MethodName := ⟨RX8, "addPerson", "(III)V"⟩
abbrev cX8_person : ByteArray := prog_10_method_20_code
def yX8_person : MethodName := ⟨RX8, "person", "(III)I"⟩
abbrev cX8_duty : ByteArray := prog_10_method_21_code
def yX8_duty : MethodName := ⟨RX8, "duty", "(IIZ)I"⟩
abbrev cX8_tell : ByteArray := prog_10_method_22_code
def yX8_tell : MethodName := ⟨RX8, "tell", "(III)I"⟩
abbrev cX8_feed : ByteArray := prog_10_method_23_code
def yX8_feed : MethodName := ⟨RX8, "feed", "(I)I"⟩
abbrev cX8_wipe : ByteArray := prog_10_method_24_code
def yX8_wipe : MethodName := ⟨RX8, "wipe", "()I"⟩
abbrev cX8_isLetter : ByteArray := prog_10_method_25_code
def yX8_isLetter : MethodName := ⟨RX8, "isLetter", "(I)Z"⟩
abbrev cX8_isDigit : ByteArray := prog_10_method_26_code
def yX8_isDigit : MethodName := ⟨RX8, "isDigit", "(I)Z"⟩
abbrev cX8_look : ByteArray := prog_10_method_27_code
def yX8_look : MethodName := ⟨RX8, "look", "()V"⟩
abbrev cX8_wrong : ByteArray := prog_10_method_28_code
def yX8_wrong : MethodName := ⟨RX8, "wrong", "()Z"⟩
abbrev cX8_isWord : ByteArray := prog_10_method_29_code
def yX8_isWord : MethodName := ⟨RX8, "isWord", "(Ljava/lang/String;)Z"⟩
abbrev cX8_number : ByteArray := prog_10_method_30_code
def yX8_number : MethodName := ⟨RX8, "number", "(III)Z"⟩
abbrev cX8_tells : ByteArray := prog_10_method_31_code
def yX8_tells : MethodName := ⟨RX8, "tells", "(I)Z"⟩
abbrev cX8_asks : ByteArray := prog_10_method_32_code
def yX8_asks : MethodName := ⟨RX8, "asks", "([III)Z"⟩
abbrev cX8_passTold : ByteArray := prog_10_method_33_code
def yX8_passTold : MethodName := ⟨RX8, "passTold", "()Z"⟩
abbrev cX8_wrongSame : ByteArray := prog_10_method_34_code
def yX8_wrongSame : MethodName := ⟨RX8, "wrongSame", "()Z"⟩
abbrev cX8_ofOne : ByteArray := prog_10_method_35_code
def yX8_ofOne : MethodName := ⟨RX8, "ofOne", "(I)Z"⟩
abbrev cX8_statement : ByteArray := prog_10_method_36_code
def yX8_statement : MethodName := ⟨RX8, "statement", "()Z"⟩
abbrev cX8_ofPeople : ByteArray := prog_10_method_37_code
def yX8_ofPeople : MethodName := ⟨RX8, "ofPeople", "()Z"⟩
abbrev cX8_readAll : ByteArray := prog_10_method_38_code
def yX8_readAll : MethodName := ⟨RX8, "readAll", "()Z"⟩
abbrev cX8_fresh : ByteArray := prog_10_method_39_code
def yX8_fresh : MethodName := ⟨RX8, "fresh", "()LSundayIsAPlaceModel;"⟩
abbrev cX8_land : ByteArray := prog_10_method_40_code
def yX8_land : MethodName := ⟨RX8, "land", "()I"⟩
abbrev cX8_manyAt : ByteArray := prog_10_method_41_code
def yX8_manyAt : MethodName := ⟨RX8, "manyAt", "(I)I"⟩
abbrev cX8_valleyOf : ByteArray := prog_10_method_42_code
def yX8_valleyOf : MethodName := ⟨RX8, "valleyOf", "(II)I"⟩
abbrev cX8_passOf : ByteArray := prog_10_method_43_code
def yX8_passOf : MethodName := ⟨RX8, "passOf", "(II)I"⟩
abbrev cX8_personOf : ByteArray := prog_10_method_44_code
def yX8_personOf : MethodName := ⟨RX8, "personOf", "(II)I"⟩
abbrev cX8_nextOf : ByteArray := prog_10_method_45_code
def yX8_nextOf : MethodName := ⟨RX8, "nextOf", "(II)I"⟩
abbrev cX8_fareOf : ByteArray := prog_10_method_46_code
def yX8_fareOf : MethodName := ⟨RX8, "fareOf", "(II)I"⟩
abbrev cX8_hoursOf : ByteArray := prog_10_method_47_code
def yX8_hoursOf : MethodName := ⟨RX8, "hoursOf", "(II)I"⟩
abbrev cX8_priceOf : ByteArray := prog_10_method_48_code
def yX8_priceOf : MethodName := ⟨RX8, "priceOf", "(III)I"⟩
abbrev cX8_price : ByteArray := prog_10_method_49_code
def yX8_price : MethodName := ⟨RX8, "price", "(III)I"⟩
abbrev cX8_weight : ByteArray := prog_10_method_50_code
def yX8_weight : MethodName := ⟨RX8, "weight", "(IIII)I"⟩
abbrev cX8_findFar : ByteArray := prog_10_method_51_code
def yX8_findFar : MethodName := ⟨RX8, "findFar", "(III)V"⟩
abbrev cX8_way : ByteArray := prog_10_method_52_code
def yX8_way : MethodName := ⟨RX8, "way", "(III)I"⟩
abbrev cX8_steps : ByteArray := prog_10_method_53_code
def yX8_steps : MethodName := ⟨RX8, "steps", "(II)I"⟩
abbrev cX8_route : ByteArray := prog_10_method_54_code
def yX8_route : MethodName := ⟨RX8, "route", "(III)I"⟩
abbrev cX8_within : ByteArray := prog_10_method_55_code
def yX8_within : MethodName := ⟨RX8, "within", "(III)I"⟩
abbrev cX8_alike : ByteArray := prog_10_method_56_code
def yX8_alike : MethodName := ⟨RX8, "alike", "(II)I"⟩
abbrev cX8_ring : ByteArray := prog_10_method_57_code
def yX8_ring : MethodName := ⟨RX8, "ring", "(I)I"⟩
abbrev cX8_dearest : ByteArray := prog_10_method_58_code
def yX8_dearest : MethodName := ⟨RX8, "dearest", "(I)I"⟩
abbrev cX8_seekTour : ByteArray := prog_10_method_59_code
def yX8_seekTour : MethodName := ⟨RX8, "seekTour", "(IIIII)V"⟩
abbrev cX8_tourFrom : ByteArray := prog_10_method_60_code
def yX8_tourFrom : MethodName := ⟨RX8, "tourFrom", "(III)I"⟩
abbrev cX8_tourNow : ByteArray := prog_10_method_61_code
def yX8_tourNow : MethodName := ⟨RX8, "tourNow", "(II)I"⟩
abbrev cX8_tour : ByteArray := prog_10_method_62_code
def yX8_tour : MethodName := ⟨RX8, "tour", "(II)I"⟩
abbrev cX8_tourOf : ByteArray := prog_10_method_63_code
def yX8_tourOf : MethodName := ⟨RX8, "tourOf", "(II)I"⟩
abbrev cX8_savedBy : ByteArray := prog_10_method_64_code
def yX8_savedBy : MethodName := ⟨RX8, "savedBy", "(I)I"⟩
abbrev cX8_saved : ByteArray := prog_10_method_65_code
def yX8_saved : MethodName := ⟨RX8, "saved", "(I)I"⟩
abbrev cX8_bestPass : ByteArray := prog_10_method_66_code
def yX8_bestPass : MethodName := ⟨RX8, "bestPass", "()I"⟩
abbrev cX8_works : ByteArray := prog_10_method_67_code
def yX8_works : MethodName := ⟨RX8, "works", "(I)I"⟩
abbrev cX8_valueOf : ByteArray := prog_10_method_68_code
def yX8_valueOf : MethodName := ⟨RX8, "valueOf", "(II)I"⟩
abbrev cX8_first : ByteArray := prog_10_method_69_code
def yX8_first : MethodName := ⟨RX8, "first", "(I)I"⟩
abbrev cX8_crowd : ByteArray := prog_10_method_70_code
def yX8_crowd : MethodName := ⟨RX8, "crowd", "()I"⟩
abbrev cX8_seekHomes : ByteArray := prog_10_method_71_code
def yX8_seekHomes : MethodName := ⟨RX8, "seekHomes", "(III)V"⟩
abbrev cX8_homes : ByteArray := prog_10_method_72_code
def yX8_homes : MethodName := ⟨RX8, "homes", "(I)I"⟩
abbrev cX8_market : ByteArray := prog_10_method_73_code
def yX8_market : MethodName := ⟨RX8, "market", "()I"⟩
abbrev cX8_leastPaid : ByteArray := prog_10_method_74_code
def yX8_leastPaid : MethodName := ⟨RX8, "leastPaid", "()I"⟩
abbrev cX8_meet : ByteArray := prog_10_method_75_code
def yX8_meet : MethodName := ⟨RX8, "meet", "(I)I"⟩
abbrev cX8_fits : ByteArray := prog_10_method_76_code
def yX8_fits : MethodName := ⟨RX8, "fits", "(JI)Z"⟩
abbrev cX8_findJourneys : ByteArray := prog_10_method_77_code
def yX8_findJourneys : MethodName := ⟨RX8, "findJourneys", "([JII)V"⟩
abbrev cX8_journeysTo : ByteArray := prog_10_method_78_code
def yX8_journeysTo : MethodName := ⟨RX8, "journeysTo", "(I)I"⟩
abbrev cX8_maybeAt : ByteArray := prog_10_method_79_code
def yX8_maybeAt : MethodName := ⟨RX8, "maybeAt", "(I)I"⟩
abbrev cX8_forged : ByteArray := prog_10_method_80_code
def yX8_forged : MethodName := ⟨RX8, "forged", "(I)I"⟩
abbrev cX8_sure : ByteArray := prog_10_method_81_code
def yX8_sure : MethodName := ⟨RX8, "sure", "([JI)I"⟩
abbrev cX8_journeys : ByteArray := prog_10_method_82_code
def yX8_journeys : MethodName := ⟨RX8, "journeys", "(IIII)I"⟩
abbrev cX8_isAct : ByteArray := prog_10_method_83_code
def yX8_isAct : MethodName := ⟨RX8, "isAct", "(J)Z"⟩
abbrev cX8_acts : ByteArray := prog_10_method_84_code
def yX8_acts : MethodName := ⟨RX8, "acts", "(II)Z"⟩
abbrev cX8_noPlan : ByteArray := prog_10_method_85_code
def yX8_noPlan : MethodName := ⟨RX8, "noPlan", "(III)I"⟩
abbrev cX8_wrongIn : ByteArray := prog_10_method_86_code
def yX8_wrongIn : MethodName := ⟨RX8, "wrongIn", "([JII)I"⟩
abbrev cX8_judge : ByteArray := prog_10_method_87_code
def yX8_judge : MethodName := ⟨RX8, "judge", "(III)I"⟩
abbrev cX8_behind : ByteArray := prog_10_method_88_code
def yX8_behind : MethodName := ⟨RX8, "behind", "(IIII)I"⟩
abbrev cX8_done : ByteArray := prog_10_method_89_code
def yX8_done : MethodName := ⟨RX8, "done", "(III)I"⟩
abbrev cX8_longest : ByteArray := prog_10_method_90_code
def yX8_longest : MethodName := ⟨RX8, "longest", "(I)I"⟩
abbrev cX8_act : ByteArray := prog_10_method_91_code
def yX8_act : MethodName := ⟨RX8, "act", "(II)I"⟩
abbrev cX8_below : ByteArray := prog_10_method_92_code
def yX8_below : MethodName := ⟨RX8, "below", "(I)I"⟩
abbrev cX8_weeks : ByteArray := prog_10_method_93_code
def yX8_weeks : MethodName := ⟨RX8, "weeks", "(I)I"⟩
abbrev cX8_seed : ByteArray := prog_10_method_94_code
def yX8_seed : MethodName := ⟨RX8, "seed", "(I)I"⟩
abbrev cX8_copied : ByteArray := prog_10_method_95_code
def yX8_copied : MethodName := ⟨RX8, "copied", "([I[I)V"⟩
abbrev cX8_takeFrom : ByteArray := prog_10_method_96_code
def yX8_takeFrom : MethodName := ⟨RX8, "takeFrom", "(LSundayIsAPlaceModel;)V"⟩
abbrev cX8_image : ByteArray := prog_10_method_97_code
def yX8_image : MethodName := ⟨RX8, "image", "()I"⟩
abbrev cX8_back : ByteArray := prog_10_method_98_code
def yX8_back : MethodName := ⟨RX8, "back", "()I"⟩
abbrev cX8_sumOf : ByteArray := prog_10_method_99_code
def yX8_sumOf : MethodName := ⟨RX8, "sumOf", "([II)I"⟩
abbrev cX8_status : ByteArray := prog_10_method_100_code
def yX8_status : MethodName := ⟨RX8, "status", "(I)I"⟩
def RJ6 : String := "java/lang/Integer"
abbrev cJ6_bitCount_0f7a4 : ByteArray := prog_11_method_49_code
def yJ6_bitCount_0f7a4 : MethodName := ⟨RJ6, "bitCount", "(I)I"⟩
def RJ9 : String := "java/lang/Math"
abbrev cJ9_max_7cf53 : ByteArray := prog_12_method_65_code
def yJ9_max_7cf53 : MethodName := ⟨RJ9, "max", "(II)I"⟩
abbrev cJ9_min_7cf53 : ByteArray := prog_12_method_69_code
def yJ9_min_7cf53 : MethodName := ⟨RJ9, "min", "(II)I"⟩
def RJ0 : String := "java/lang/String"
abbrev cJ0_length_8abf5 : ByteArray := prog_13_method_54_code
def yJ0_length_8abf5 : MethodName := ⟨RJ0, "length", "()I"⟩
abbrev cJ0_charAt_5068e : ByteArray := prog_13_method_56_code
def yJ0_charAt_5068e : MethodName := ⟨RJ0, "charAt", "(I)C"⟩
abbrev cJ0_coder_7d493 : ByteArray := prog_13_method_152_code
def yJ0_coder_7d493 : MethodName := ⟨RJ0, "coder", "()B"⟩
abbrev cJ0_isLatin1_aae02 : ByteArray := prog_13_method_154_code
def yJ0_isLatin1_aae02 : MethodName := ⟨RJ0, "isLatin1", "()Z"⟩
abbrev cJ0_checkIndex_df160 : ByteArray := prog_13_method_155_code
def yJ0_checkIndex_df160 : MethodName := ⟨RJ0, "checkIndex", "(II)V"⟩
def RJ1 : String := "java/lang/StringLatin1"
abbrev cJ1_charAt_3b067 : ByteArray := prog_14_method_2_code
def yJ1_charAt_3b067 : MethodName := ⟨RJ1, "charAt", "([BI)C"⟩
def RJ2 : String := "java/lang/StringUTF16"
abbrev cJ2_getChar_3b067 : ByteArray := prog_15_method_5_code
def yJ2_getChar_3b067 : MethodName := ⟨RJ2, "getChar", "([BI)C"⟩
abbrev cJ2_length_9d52b : ByteArray := prog_15_method_6_code
def yJ2_length_9d52b : MethodName := ⟨RJ2, "length", "([B)I"⟩
abbrev cJ2_charAt_3b067 : ByteArray := prog_15_method_83_code
def yJ2_charAt_3b067 : MethodName := ⟨RJ2, "charAt", "([BI)C"⟩
abbrev cJ2_checkIndex_2214a : ByteArray := prog_15_method_91_code
def yJ2_checkIndex_2214a : MethodName := ⟨RJ2, "checkIndex", "(I[B)V"⟩
def RJ10 : String := "java/lang/System"
def RJ7 : String := "java/util/Arrays"
abbrev cJ7_fill_d0a16 : ByteArray := prog_17_method_101_code
def yJ7_fill_d0a16 : MethodName := ⟨RJ7, "fill", "([JJ)V"⟩
abbrev cJ7_fill_53178 : ByteArray := prog_17_method_103_code
def yJ7_fill_53178 : MethodName := ⟨RJ7, "fill", "([II)V"⟩
def RJ3 : String := "jdk/internal/util/Preconditions"
abbrev cJ3_checkIndex_8e157 : ByteArray := prog_18_method_11_code
def yJ3_checkIndex_8e157 : MethodName := ⟨RJ3, "checkIndex", "(IILjava/util/function/BiFunction;)I"⟩
abbrev vwCl : List vw_C := [(RX0, TX0, 8), (RX1, TX1, 2), (RX2, TX2, 3), (RX3, TX3, 1), (RX4, TX4, 7), (RX5, TX5, 5), (RX6, TX6, 3), (RX7, TX7, 10), (RX8, TX8, 48)]
end
section
/-! ===== the abstract machine: values, cells, frames ===== -/
/-- a value: an int, a long, null, or a cell by group, kind and place -/
abbrev am_V : Type := Int32 ⊕ Int64 ⊕ Option (Nat × Nat × Nat)
abbrev am_i (x : Int32) : am_V := .inl x
abbrev am_l (x : Int64) : am_V := .inr (.inl x)
abbrev am_r (o k i : Nat) : am_V := .inr (.inr (some (o, k, i)))
abbrev am_n : am_V := .inr (.inr none)
/-- what all cells hold: ints (of objects too: row 0, place of the field) and longs, by group, kind, row, place -/
abbrev am_S : Type := (Nat → Nat → Nat → Nat → Int32) × (Nat → Nat → Nat → Nat → Int64)
/-- classes and slots, classes of the arrays, addresses, which groups are made -/
abbrev am_G : Type := va_G × (Nat → ClassId) × (Nat → Nat → Nat → Nat) × (Nat → Bool)
/-- pc, locals, stack, cells -/
abbrev am_F : Type := Nat × List (Nat × am_V) × List am_V × am_S
/-- a class's pool: fields (kind, place), statics (group, kind), ints, longs -/
abbrev am_P : Type := List (Nat × Nat × Nat) × List (Nat × Nat × Nat) × List (Nat × Int32) × List (Nat × Int64)
def am_u (s : am_S) (o k i j : Nat) (x : Int32) : am_S := (fun o' k' i' j' => if k' = k ∧ j' = j ∧ i' = i ∧ o' = o then x else s.1 o' k' i' j', s.2)
def am_ul (s : am_S) (o k i j : Nat) (x : Int64) : am_S := (s.1, fun o' k' i' j' => if k' = k ∧ j' = j ∧ i' = i ∧ o' = o then x else s.2 o' k' i' j')
def am_lk {α : Type} : List (Nat × α) → Nat → Option α
  | [], _ => none
  | (a, v) :: t, i => bif Nat.beq a i then some v else am_lk t i
theorem am_lk_mem {α : Type} : ∀ {l : List (Nat × α)} {i : Nat} {v : α}, am_lk l i = some v → (i, v) ∈ l
  | [], i, v, h => by cases h
  | (a, w) :: t, i, v, h => by
    unfold am_lk at h
    by_cases e : Nat.beq a i = true
    · rw [e] at h
      cases h
      rw [Nat.eq_of_beq_eq_true e]
      exact List.mem_cons_self
    · rw [Bool.not_eq_true] at e
      rw [e] at h
      exact List.mem_cons_of_mem _ (am_lk_mem h)
def am_v (G : am_G) : am_V → Value
  | .inl x => .int x
  | .inr (.inl x) => .long x
  | .inr (.inr none) => .null
  | .inr (.inr (some (o, k, i))) => .ref (G.2.2.1 o k i)
def am_ct : am_V → Nat
  | .inr (.inl _) => 2
  | _ => 1
theorem am_v_ct (G : am_G) (v : am_V) : (am_v G v).category = am_ct v := by
  rcases v with x | x | x
  · rfl
  · rfl
  · rcases x with _ | ⟨o, k, i⟩ <;> rfl
/-- the locals in the order of their numbers -/
def am_ins (i : Nat) (v : am_V) : List (Nat × am_V) → List (Nat × am_V)
  | [] => [(i, v)]
  | q :: t => bif Nat.ble (q.1 + 1) i then q :: am_ins i v t else (i, v) :: q :: t
/-- a store clears what stood at i, and a long that ends there -/
def am_rm (i : Nat) : List (Nat × am_V) → List (Nat × am_V)
  | [] => []
  | q :: t => bif Nat.beq q.1 i || (Nat.beq (q.1 + 1) i && Nat.beq (am_ct q.2) 2) then am_rm i t else q :: am_rm i t
def am_rm2 (i : Nat) : List (Nat × am_V) → List (Nat × am_V)
  | [] => []
  | q :: t => bif Nat.beq q.1 i || (Nat.beq q.1 (i + 1) || (Nat.beq (q.1 + 1) i && Nat.beq (am_ct q.2) 2)) then am_rm2 i t else q :: am_rm2 i t
theorem am_ins_mem {i : Nat} {v : am_V} {q : Nat × am_V} : ∀ {l : List (Nat × am_V)}, q ∈ am_ins i v l → q = (i, v) ∨ q ∈ l
  | [], h => by
    unfold am_ins at h
    exact Or.inl (List.mem_singleton.mp h)
  | a :: t, h => by
    unfold am_ins at h
    cases hb : Nat.ble (a.1 + 1) i
    · rw [hb] at h
      exact (List.mem_cons.mp h)
    · rw [hb] at h
      rcases List.mem_cons.mp h with e | e
      · exact Or.inr (List.mem_cons.mpr (Or.inl e))
      · rcases am_ins_mem e with e | e
        · exact Or.inl e
        · exact Or.inr (List.mem_cons_of_mem _ e)
theorem am_rm_mem {i : Nat} {q : Nat × am_V} : ∀ {l : List (Nat × am_V)}, q ∈ am_rm i l → q ∈ l ∧ q.1 ≠ i ∧ ¬ (q.1 + 1 = i ∧ am_ct q.2 = 2)
  | [], h => by cases h
  | a :: t, h => by
    unfold am_rm at h
    cases hb : (Nat.beq a.1 i || (Nat.beq (a.1 + 1) i && Nat.beq (am_ct a.2) 2))
    · rw [hb] at h
      rcases List.mem_cons.mp h with e | e
      · subst e
        simp only [Bool.or_eq_false_iff, Bool.and_eq_false_iff] at hb
        refine ⟨List.mem_cons_self, fun q => ?_, fun q => ?_⟩
        · rw [q, Nat.beq_refl] at hb
          exact absurd hb.1 (by decide)
        · rw [q.1, q.2, Nat.beq_refl] at hb
          rcases hb.2 with z | z
          · exact absurd z (by decide)
          · exact absurd z (by decide)
      · have := am_rm_mem e
        exact ⟨List.mem_cons_of_mem _ this.1, this.2⟩
    · rw [hb] at h
      have := am_rm_mem h
      exact ⟨List.mem_cons_of_mem _ this.1, this.2⟩
theorem am_rm2_mem {i : Nat} {q : Nat × am_V} : ∀ {l : List (Nat × am_V)}, q ∈ am_rm2 i l → q ∈ l ∧ q.1 ≠ i ∧ q.1 ≠ i + 1 ∧ ¬ (q.1 + 1 = i ∧ am_ct q.2 = 2)
  | [], h => by cases h
  | a :: t, h => by
    unfold am_rm2 at h
    cases hb : (Nat.beq a.1 i || (Nat.beq a.1 (i + 1) || (Nat.beq (a.1 + 1) i && Nat.beq (am_ct a.2) 2)))
    · rw [hb] at h
      rcases List.mem_cons.mp h with e | e
      · subst e
        simp only [Bool.or_eq_false_iff, Bool.and_eq_false_iff] at hb
        refine ⟨List.mem_cons_self, fun q => ?_, fun q => ?_, fun q => ?_⟩
        · rw [q, Nat.beq_refl] at hb
          exact absurd hb.1 (by decide)
        · rw [q, Nat.beq_refl] at hb
          exact absurd hb.2.1 (by decide)
        · rw [q.1, q.2, Nat.beq_refl] at hb
          rcases hb.2.2 with z | z
          · exact absurd z (by decide)
          · exact absurd z (by decide)
      · have := am_rm2_mem e
        exact ⟨List.mem_cons_of_mem _ this.1, this.2⟩
    · rw [hb] at h
      have := am_rm2_mem h
      exact ⟨List.mem_cons_of_mem _ this.1, this.2⟩
/-- the kinds of cells: (sort, size, how many, class or kind of the rows): 0 an object, 1 ints, 2 longs, 3 booleans, 4 5 6 a row of rows of these, 7 a text -/
def am_kds : List (Nat × Nat × Nat × Nat) := [(0, 10, 1, 7), (1, 5, 1, 0), (0, 8, 1, 0), (4, 3, 1, 4), (1, 7, 3, 0), (4, 3, 1, 6), (1, 4, 3, 0), (4, 6, 1, 8), (1, 8, 6, 0), (0, 3, 1, 2), (1, 8, 1, 0), (1, 8, 1, 0), (5, 8, 1, 13), (2, 40, 8, 0), (0, 7, 1, 4), (1, 250, 1, 0), (1, 4, 1, 0), (0, 3, 1, 6), (4, 7, 1, 19), (1, 7, 7, 0), (1, 7, 1, 0), (1, 7, 1, 0), (0, 5, 1, 5), (1, 896, 1, 0), (1, 7, 1, 0), (4, 6, 1, 26), (1, 7, 6, 0), (1, 128, 1, 0), (1, 6, 1, 0), (0, 1, 1, 3), (4, 41, 1, 31), (1, 7, 41, 0), (0, 2, 1, 1), (1, 8, 1, 0), (1, 6, 1, 0), (1, 36, 1, 0), (7, 0, 9, 0), (9, 0, 0, 0), (9, 0, 0, 0), (9, 0, 0, 0), (0, 48, 1, 8), (1, 8, 1, 0), (1, 8, 1, 0), (1, 8, 1, 0), (5, 8, 1, 45), (2, 40, 8, 0), (2, 40, 1, 0), (1, 8, 1, 0), (1, 250, 1, 0), (1, 8, 1, 0), (1, 7, 1, 0), (1, 7, 1, 0), (1, 7, 1, 0), (4, 3, 1, 54), (1, 4, 3, 0), (1, 6, 1, 0), (1, 6, 1, 0), (1, 6, 1, 0), (1, 6, 1, 0), (1, 6, 1, 0), (1, 6, 1, 0), (1, 6, 1, 0), (1, 6, 1, 0), (1, 4, 1, 0), (4, 7, 1, 65), (1, 7, 7, 0), (1, 7, 1, 0), (1, 7, 1, 0), (1, 7, 1, 0), (4, 6, 1, 70), (1, 7, 6, 0), (1, 6, 1, 0), (1, 6, 1, 0), (4, 41, 1, 74), (1, 7, 41, 0), (6, 41, 1, 76), (3, 7, 41, 0)]
/-- the fields of the objects of a kind: 0 an int, 5 a boolean, 1 a cell of the same group, 2 one of another, 3 null or one of another -/
def am_fds : List (List (Nat × Nat × Nat)) := [[(2, 1, 2), (2, 2, 2), (5, 0, 0), (1, 9, 0), (1, 14, 0), (1, 17, 0), (1, 22, 0), (1, 29, 0), (1, 32, 0), (1, 1, 0)], [], [(1, 3, 0), (1, 5, 0), (1, 7, 0), (0, 0, 0), (0, 0, 0), (0, 0, 0), (0, 0, 0), (0, 0, 0)], [], [], [], [], [], [], [(1, 10, 0), (1, 11, 0), (1, 12, 0)], [], [], [], [], [(2, 3, 2), (1, 15, 0), (0, 0, 0), (1, 16, 0), (0, 0, 0), (0, 0, 0), (0, 0, 0)], [], [], [(1, 18, 0), (1, 20, 0), (1, 21, 0)], [], [], [], [], [(1, 23, 0), (1, 24, 0), (1, 25, 0), (1, 27, 0), (1, 28, 0)], [], [], [], [], [], [], [(1, 30, 0)], [], [], [(1, 33, 0), (0, 0, 0)], [], [], [], [], [], [], [], [(1, 41, 0), (1, 42, 0), (1, 43, 0), (1, 44, 0), (1, 46, 0), (1, 47, 0), (1, 48, 0), (0, 0, 0), (1, 49, 0), (1, 50, 0), (1, 51, 0), (1, 52, 0), (0, 0, 0), (0, 0, 0), (1, 53, 0), (0, 0, 0), (1, 55, 0), (1, 56, 0), (1, 57, 0), (1, 58, 0), (1, 59, 0), (1, 60, 0), (1, 61, 0), (1, 62, 0), (0, 0, 0), (0, 0, 0), (3, 6, 40), (3, 7, 40), (0, 0, 0), (0, 0, 0), (0, 0, 0), (0, 0, 0), (0, 0, 0), (1, 63, 0), (0, 0, 0), (1, 64, 0), (1, 66, 0), (1, 67, 0), (1, 68, 0), (0, 0, 0), (0, 0, 0), (1, 69, 0), (1, 71, 0), (1, 72, 0), (0, 0, 0), (1, 73, 0), (1, 75, 0), (0, 0, 0)], [], [], [], [], [], [], [], [], [], [], [], [], [], [], [], [], [], [], [], [], [], [], [], [], [], [], [], [], [], [], [], [], [], [], [], []]
def am_okl : List (List Nat) := [[0, 1, 9, 10, 11, 12, 13, 14, 15, 16, 17, 18, 19, 20, 21, 22, 23, 24, 25, 26, 27, 28, 29, 30, 31, 32, 33], [2, 3, 4, 5, 6, 7, 8], [2, 3, 4, 5, 6, 7, 8], [2, 3, 4, 5, 6, 7, 8], [], [40, 41, 42, 43, 44, 45, 46, 47, 48, 49, 50, 51, 52, 53, 54, 55, 56, 57, 58, 59, 60, 61, 62, 63, 64, 65, 66, 67, 68, 69, 70, 71, 72, 73, 74, 75, 76], [40, 41, 42, 43, 44, 45, 46, 47, 48, 49, 50, 51, 52, 53, 54, 55, 56, 57, 58, 59, 60, 61, 62, 63, 64, 65, 66, 67, 68, 69, 70, 71, 72, 73, 74, 75, 76], [40, 41, 42, 43, 44, 45, 46, 47, 48, 49, 50, 51, 52, 53, 54, 55, 56, 57, 58, 59, 60, 61, 62, 63, 64, 65, 66, 67, 68, 69, 70, 71, 72, 73, 74, 75, 76], [34, 35], [36]]
/-! ===== the words, those that go on holding ===== -/
def am_tb : List Cond := lw_tbl.filter goodWord
theorem am_tb_good : GoodIn am_tb am_tb := fun w h => ⟨h, good_of_word (List.mem_filter.mp h).2⟩
/-! ===== the cells ===== -/
def am_kd (k : Nat) : Nat × Nat × Nat × Nat := am_kds.getD k (9, 0, 0, 0)
def am_fd (k f : Nat) : Nat × Nat × Nat := (am_fds.getD k []).getD f (9, 0, 0)
def am_ok (o k : Nat) : Bool := (am_okl.getD o []).contains k
def am_lv (G : am_G) (o k i : Nat) : Prop := G.2.2.2 o = true ∧ am_ok o k = true ∧ i < (am_kd k).2.2.1
def am_lV (G : am_G) : am_V → Prop
  | .inr (.inr (some (o, k, i))) => am_lv G o k i
  | _ => True
def am_ad (G : am_G) (o k i : Nat) : Nat := G.2.2.1 o k i
def am_fv (G : am_G) (s : am_S) (o k f : Nat) : Value :=
  match am_fd k f with
  | (0, _, _) => .int (s.1 o k 0 f)
  | (5, _, _) => .int (s.1 o k 0 f)
  | (1, x, _) => .ref (am_ad G o x 0)
  | (2, x, y) => .ref (am_ad G x y 0)
  | (_, x, y) => if s.1 o k 0 f = 0 then .null else .ref (am_ad G x y 0)
def am_at (G : am_G) (s : am_S) (o k i : Nat) (H : Heap) : Prop :=
  match am_kd k with
  | (0, n, _, c) => t_OB (am_ad G o k i) (G.1.1 c) n (G.1.2 c) H (fun f => am_fv G s o k f)
  | (1, n, _, _) => H[am_ad G o k i]? = some (arrV (G.2.1 0) n (fun j => .int (s.1 o k i j)))
  | (2, n, _, _) => H[am_ad G o k i]? = some (arrV (G.2.1 1) n (fun j => .long (s.2 o k i j)))
  | (3, n, _, _) => H[am_ad G o k i]? = some (arrV (G.2.1 2) n (fun j => .int (s.1 o k i j)))
  | (4, n, _, x) => H[am_ad G o k i]? = some (arrV (G.2.1 3) n (fun j => .ref (am_ad G o x j)))
  | (5, n, _, x) => H[am_ad G o k i]? = some (arrV (G.2.1 4) n (fun j => .ref (am_ad G o x j)))
  | (6, n, _, x) => H[am_ad G o k i]? = some (arrV (G.2.1 5) n (fun j => .ref (am_ad G o x j)))
  | _ => True
/-- the cells that may be written -/
def am_fr (G : am_G) : Nat → Prop := fun q => ∃ o k i, am_lv G o k i ∧ o < 8 ∧ q = am_ad G o k i
def am_tys (G : am_G) : List (ClassId × FieldType) := [(G.2.1 0, .int), (G.2.1 1, .long), (G.2.1 2, .boolean), (G.2.1 3, .array .int), (G.2.1 4, .array .long), (G.2.1 5, .array .boolean)]
/-- calls of nest mates' private methods: by class, number, method, host -/
def am_nst : List (String × Nat × MethodName × String) := [(RX2, 40, yX7_isShelf, RX7), (RX0, 54, yX7_isValley, RX7), (RX6, 56, yX7_isValley, RX7), (RX1, 31, yX7_isAct, RX7), (RX0, 98, yX7_isOfKind, RX7)]
/-- what doesn't hang on the heap: classes, nest mates, groups made together -/
def am_U (G : am_G) (U : State) : Prop :=
  va_K G.1 vwCl (am_tys G) U ∧ (∀ q ∈ am_nst, va_Nw (.methodLinkNest q.1 q.2.1 q.2.2.1 q.2.2.2) U) ∧ (G.2.2.2 0 = true → G.2.2.2 1 = true ∧ G.2.2.2 2 = true ∧ G.2.2.2 3 = true) ∧ (G.2.2.2 8 = true ∧ G.2.2.2 9 = true)
/-- what hangs on it beside the groups' cells: the rows written out in the class -/
def am_C (G : am_G) (U : State) (H : Heap) : Prop :=
  G.2.2.2 8 = true → (va_Z "SundayIsAPlace" "ABOVE" "[I" (.ref (am_ad G 8 34 0)) (am_fr G) U H ∧ va_Z "SundayIsAPlace$Tape" "SHAPES" "[I" (.ref (am_ad G 8 35 0)) (am_fr G) U H)
def am_W (G : am_G) (s : am_S) (U : State) (H : Heap) : Prop :=
  (∀ o k i, am_lv G o k i → am_at G s o k i H) ∧
  (∀ o k i o' k' i', am_lv G o k i → am_lv G o' k' i' → am_ad G o k i = am_ad G o' k' i' → o = o' ∧ k = k' ∧ i = i') ∧
  (∀ o, G.2.2.2 o = true → am_ok o 40 = true → (s.1 o 40 0 26 ≠ 0 → G.2.2.2 6 = true) ∧ (s.1 o 40 0 27 ≠ 0 → G.2.2.2 7 = true)) ∧
  am_C G U H
theorem am_U.warm {G : am_G} {s U : State} (hW : s.WarmedH U.vm) (h : am_U G s) : am_U G U :=
  ⟨va_K.moved hW.alike h.1, fun q hq => va_Nw.warmM hW (h.2.1 q hq), h.2.2⟩
theorem am_C.alike {G : am_G} {u U : State} {H : Heap} (hvm : u.vm.Alike U.vm) (h : am_C G u H) : am_C G U H := fun q => ⟨va_Z.moved hvm (h q).1, va_Z.moved hvm (h q).2⟩
theorem am_W.alike {G : am_G} {s : am_S} {u U : State} {H : Heap} (hvm : u.vm.Alike U.vm) (h : am_W G s u H) : am_W G s U H := ⟨h.1, h.2.1, h.2.2.1, h.2.2.2.alike hvm⟩
theorem am_at.kept {G : am_G} {s : am_S} {o k i : Nat} {H H1 : Heap} (h : am_at G s o k i H) (hq : H1[am_ad G o k i]? = H[am_ad G o k i]?) : am_at G s o k i H1 := by
  unfold am_at at h ⊢
  split at h <;> first | exact t_OB.kept h hq | exact hq.trans h | trivial
/-- other values at cells that this one isn't -/
theorem am_at.other {G : am_G} {s : am_S} {o k i o' k' i' j' : Nat} {x : Int32} {H : Heap} (h : am_at G s o k i H) (hne : ¬ (o = o' ∧ k = k' ∧ i = i')) (h0 : (am_kd k).1 = 0 → i = 0) : am_at G (am_u s o' k' i' j' x) o k i H := by
  have key : ∀ j, (am_u s o' k' i' j' x).1 o k i j = s.1 o k i j := fun j => if_neg fun q => hne ⟨q.2.2.2, q.1, q.2.2.1⟩
  unfold am_at at h ⊢
  split at h
  · rename_i e
    refine t_OB.to h fun f _ => ?_
    have hi : i = 0 := h0 (by rw [e])
    subst hi
    unfold am_fv
    split <;> simp only [key]
  · simp only [key]; exact h
  · exact h
  · simp only [key]; exact h
  · exact h
  · exact h
  · exact h
  · trivial
theorem am_at.otherL {G : am_G} {s : am_S} {o k i o' k' i' j' : Nat} {x : Int64} {H : Heap} (h : am_at G s o k i H) (hne : ¬ (o = o' ∧ k = k' ∧ i = i')) : am_at G (am_ul s o' k' i' j' x) o k i H := by
  have key : ∀ j, (am_ul s o' k' i' j' x).2 o k i j = s.2 o k i j := fun j => if_neg fun q => hne ⟨q.2.2.2, q.1, q.2.2.1⟩
  unfold am_at at h ⊢
  split at h
  · exact h
  · exact h
  · simp only [key]; exact h
  · exact h
  · exact h
  · exact h
  · exact h
  · trivial
/-- a check of the tables: what a made cell speaks of is a cell -/
def am_chk : Bool := (List.range 10).all fun o => (List.range 77).all fun k => !am_ok o k ||
  ((List.range 48).all (fun f => match am_fd k f with
    | (1, x, _) => am_ok o x && decide (0 < (am_kd x).2.2.1)
    | (2, x, y) => am_ok x y && decide (0 < (am_kd y).2.2.1) && (o == 0 && (x == 1 || x == 2 || x == 3))
    | (0, _, _) => true
    | (5, _, _) => true
    | (3, x, y) => am_ok x y && decide (0 < (am_kd y).2.2.1) && y == 40 && (x == 6 && f == 26 || x == 7 && f == 27) && k == 40
    | _ => true) &&
   (match am_kd k with
    | (0, n, c, _) => c == 1 && decide (n ≤ 48) && decide (o < 8)
    | (4, n, _, x) => am_ok o x && (n == (am_kd x).2.2.1)
    | (5, n, _, x) => am_ok o x && (n == (am_kd x).2.2.1)
    | (6, n, _, x) => am_ok o x && (n == (am_kd x).2.2.1)
    | _ => true))
set_option maxRecDepth 100000 in
theorem am_chk_ok : am_chk = true := by decide +kernel
theorem am_ok_lt {o k : Nat} (h : am_ok o k = true) : o < 10 ∧ k < 77 := by
  have h1 : o < 10 := by
    rcases Nat.lt_or_ge o 10 with q | q
    · exact q
    · exfalso
      unfold am_ok at h
      rw [List.getD_eq_getElem?_getD, List.getElem?_eq_none (by show am_okl.length ≤ o; exact q)] at h
      cases h
  refine ⟨h1, ?_⟩
  have h2 : ∀ o, o < 10 → ∀ k ∈ am_okl.getD o [], k < 77 := by decide +kernel
  exact h2 o h1 k (List.contains_iff_mem.mp h)
theorem am_chk_at {o k : Nat} (h : am_ok o k = true) : ((List.range 48).all (fun f => match am_fd k f with
    | (1, x, _) => am_ok o x && decide (0 < (am_kd x).2.2.1)
    | (2, x, y) => am_ok x y && decide (0 < (am_kd y).2.2.1) && (o == 0 && (x == 1 || x == 2 || x == 3))
    | (0, _, _) => true
    | (5, _, _) => true
    | (3, x, y) => am_ok x y && decide (0 < (am_kd y).2.2.1) && y == 40 && (x == 6 && f == 26 || x == 7 && f == 27) && k == 40
    | _ => true) &&
   (match am_kd k with
    | (0, n, c, _) => c == 1 && decide (n ≤ 48) && decide (o < 8)
    | (4, n, _, x) => am_ok o x && (n == (am_kd x).2.2.1)
    | (5, n, _, x) => am_ok o x && (n == (am_kd x).2.2.1)
    | (6, n, _, x) => am_ok o x && (n == (am_kd x).2.2.1)
    | _ => true)) = true := by
  obtain ⟨h1, h2⟩ := am_ok_lt h
  have hc := am_chk_ok
  unfold am_chk at hc
  have := List.all_eq_true.mp (List.all_eq_true.mp hc o (List.mem_range.mpr h1)) k (List.mem_range.mpr h2)
  rw [h] at this
  exact this
theorem am_obj0 {G : am_G} {o k i : Nat} (h : am_lv G o k i) : (am_kd k).1 = 0 → i = 0 := by
  intro e
  have h1 := am_chk_at h.2.1
  rw [Bool.and_eq_true] at h1
  have h2 := h1.2
  have h3 := h.2.2
  generalize am_kd k = z at e h2 h3
  obtain ⟨t, n, c, x⟩ := z
  subst e
  simp only [Bool.and_eq_true, beq_iff_eq] at h2
  rw [h2.1.1] at h3
  exact Nat.lt_one_iff.mp h3
end
section
/-! ===== one instruction ===== -/
def am_cl (k : Nat) : vw_C := vwCl.getD (am_kd k).2.2.2 (RX0, TX0, 8)
def am_pok (own : String) (P : am_P) : Bool :=
  (P.1.all fun q => decide (Cond.fieldLink own q.1 (am_cl q.2.1).1 ((am_cl q.2.1).2.1 q.2.2).2.1 ((am_cl q.2.1).2.1 q.2.2).2.2.1 ∈ am_tb)) &&
  (P.2.1.all fun q => q.2.1 == 8 && ((q.2.2 == 34 && decide (Cond.fieldLink own q.1 "SundayIsAPlace" "ABOVE" "[I" ∈ am_tb)) || (q.2.2 == 35 && decide (Cond.fieldLink own q.1 "SundayIsAPlace$Tape" "SHAPES" "[I" ∈ am_tb)))) &&
  (P.2.2.1.all fun q => decide (Cond.constant own q.1 q.2 ∈ am_tb)) && (P.2.2.2.all fun q => decide (Cond.constantLong own q.1 q.2 ∈ am_tb))
/-- what holds all through a method -/
def am_X (p : Program) (s : State) (m : MethodId) (args : Array Value) (c : Code) (cc : ByteArray) (own : String) (nL : Nat) (P : am_P) (G : am_G) (A : Nat → Prop) : Prop :=
  p.tables.exec = Jvm.exec ∧ c.code = cc ∧ c.maxLocals = nL ∧ s.vm.findClass own = some m.cls ∧ (∀ w ∈ am_tb, w.before args s = true) ∧ am_pok own P = true ∧ am_U G s ∧ ∀ q, am_fr G q → A q
/-- a goal at a frame of the abstract machine -/
def am_A (p : Program) (l : Launch) (e : Env) (R : Room) (s : State) (m : MethodId) (args : Array Value) (below : List Frame) (meth : Method) (c : Code) (nL : Nat) (G : am_G) (A : Nat → Prop) (kc ks : Nat) (Q : State → Prop) (fr : am_F) : Prop :=
  ∀ (H : Heap) (locs : List Loc) (ls : Array Slot), am_W G fr.2.2.2 s H → (∀ q ∈ locs, A q.base) → (s.heap.size ≤ H.size ∧ ∀ q, q < s.heap.size → ¬ A q → H[q]? = s.heap[q]?) →
    (∀ q ∈ fr.2.1, am_lV G q.2) → (∀ v ∈ fr.2.2.1, am_lV G v) → lv_has ls nL (fr.2.1.map (fun q => (q.1, am_v G q.2))) → W p l e R s m args below meth c H locs kc ks Q (F0 m fr.1 ls (fr.2.2.1.map (am_v G)))
def am_push (v : am_V) (d n : Nat) : am_F → Option (am_F × Prop)
  | (pc, ls, st, s) => bif Nat.beq n d then some ((pc + d, ls, v :: st, s), True) else none
def am_ild (i d n : Nat) : am_F → Option (am_F × Prop)
  | (pc, ls, st, s) => bif Nat.beq n d then (match am_lk ls i with
    | some (.inl x) => some ((pc + d, ls, .inl x :: st, s), True)
    | _ => none) else none
def am_lld (i d n : Nat) : am_F → Option (am_F × Prop)
  | (pc, ls, st, s) => bif Nat.beq n d then (match am_lk ls i with
    | some (.inr (.inl x)) => some ((pc + d, ls, .inr (.inl x) :: st, s), True)
    | _ => none) else none
def am_ald (i d n : Nat) : am_F → Option (am_F × Prop)
  | (pc, ls, st, s) => bif Nat.beq n d then (match am_lk ls i with
    | some (.inr (.inr (some (o, k, j)))) => some ((pc + d, ls, am_r o k j :: st, s), True)
    | _ => none) else none
def am_ist (nL i d n : Nat) : am_F → Option (am_F × Prop)
  | (pc, ls, .inl x :: st, s) => bif Nat.beq n d && Nat.ble (i + 1) nL then some ((pc + d, am_ins i (.inl x) (am_rm i ls), st, s), True) else none
  | _ => none
def am_lst (nL i d n : Nat) : am_F → Option (am_F × Prop)
  | (pc, ls, .inr (.inl x) :: st, s) => bif Nat.beq n d && Nat.ble (i + 2) nL then some ((pc + d, am_ins i (.inr (.inl x)) (am_rm2 i ls), st, s), True) else none
  | _ => none
def am_ast (nL i d n : Nat) : am_F → Option (am_F × Prop)
  | (pc, ls, .inr (.inr (some (o, k, j))) :: st, s) => bif Nat.beq n d && Nat.ble (i + 1) nL then some ((pc + d, am_ins i (am_r o k j) (am_rm i ls), st, s), True) else none
  | _ => none
def am_inc (nL i : Nat) (z : Int) (n : Nat) : am_F → Option (am_F × Prop)
  | (pc, ls, st, s) => bif Nat.beq n 3 && Nat.ble (i + 1) nL then (match am_lk ls i with
    | some (.inl x) => some ((pc + 3, am_ins i (am_i (x + Int32.ofInt z)) (am_rm i ls), st, s), True)
    | _ => none) else none
def am_b2 (f : Int32 → Int32 → Int32) (n : Nat) : am_F → Option (am_F × Prop)
  | (pc, ls, .inl y :: .inl x :: st, s) => bif Nat.beq n 1 then some ((pc + 1, ls, am_i (f x y) :: st, s), True) else none
  | _ => none
def am_bd (f : Int32 → Int32 → Int32) (n : Nat) : am_F → Option (am_F × Prop)
  | (pc, ls, .inl y :: .inl x :: st, s) => bif Nat.beq n 1 then some ((pc + 1, ls, am_i (f x y) :: st, s), ¬ y = 0) else none
  | _ => none
def am_c2 (f : Int64 → Int64 → Int64) (n : Nat) : am_F → Option (am_F × Prop)
  | (pc, ls, .inr (.inl y) :: .inr (.inl x) :: st, s) => bif Nat.beq n 1 then some ((pc + 1, ls, am_l (f x y) :: st, s), True) else none
  | _ => none
def am_b1 (f : Int32 → Int32) (n : Nat) : am_F → Option (am_F × Prop)
  | (pc, ls, .inl x :: st, s) => bif Nat.beq n 1 then some ((pc + 1, ls, am_i (f x) :: st, s), True) else none
  | _ => none
def am_i2l (n : Nat) : am_F → Option (am_F × Prop)
  | (pc, ls, .inl x :: st, s) => bif Nat.beq n 1 then some ((pc + 1, ls, am_l x.toInt64 :: st, s), True) else none
  | _ => none
def am_l2i (n : Nat) : am_F → Option (am_F × Prop)
  | (pc, ls, .inr (.inl x) :: st, s) => bif Nat.beq n 1 then some ((pc + 1, ls, am_i x.toInt32 :: st, s), True) else none
  | _ => none
def am_lcmp (n : Nat) : am_F → Option (am_F × Prop)
  | (pc, ls, .inr (.inl y) :: .inr (.inl x) :: st, s) => bif Nat.beq n 1 then some ((pc + 1, ls, am_i (lg_cmp x y) :: st, s), True) else none
  | _ => none
def am_lshl (n : Nat) : am_F → Option (am_F × Prop)
  | (pc, ls, .inl y :: .inr (.inl x) :: st, s) => bif Nat.beq n 1 then some ((pc + 1, ls, am_l (x <<< (y.toInt64 &&& 63)) :: st, s), True) else none
  | _ => none
def am_dup (n : Nat) : am_F → Option (am_F × Prop)
  | (pc, ls, v :: st, s) => bif Nat.beq n 1 && Nat.beq (am_ct v) 1 then some ((pc + 1, ls, v :: v :: st, s), True) else none
  | _ => none
def am_pop (n : Nat) : am_F → Option (am_F × Prop)
  | (pc, ls, v :: st, s) => bif Nat.beq n 1 && Nat.beq (am_ct v) 1 then some ((pc + 1, ls, st, s), True) else none
  | _ => none
def am_dupx (n : Nat) : am_F → Option (am_F × Prop)
  | (pc, ls, v :: w :: st, s) => bif Nat.beq n 1 && (Nat.beq (am_ct v) 1 && Nat.beq (am_ct w) 1) then some ((pc + 1, ls, v :: w :: v :: st, s), True) else none
  | _ => none
def am_dup2 (n : Nat) : am_F → Option (am_F × Prop)
  | (pc, ls, v :: w :: st, s) => bif Nat.beq n 1 && (Nat.beq (am_ct v) 1 && Nat.beq (am_ct w) 1) then some ((pc + 1, ls, v :: w :: v :: w :: st, s), True) else none
  | _ => none
def am_goto (off : Int) (n : Nat) : am_F → Option (am_F × Prop)
  | (pc, ls, st, s) => bif Nat.beq n 3 && decide (0 ≤ (pc : Int) + off) then some ((((pc : Int) + off).toNat, ls, st, s), True) else none
def am_get (P : am_P) (idx n : Nat) : am_F → Option (am_F × Prop)
  | (pc, ls, .inr (.inr (some (o, k, i))) :: st, s) => bif Nat.beq n 3 then (match am_lk P.1 idx with
    | some (k', f) => bif Nat.beq k k' && (Nat.beq (am_kd k).1 0 && Nat.ble (f + 1) (am_kd k).2.1) then (match am_fd k f with
      | (0, _, _) => some ((pc + 3, ls, am_i (s.1 o k 0 f) :: st, s), True)
      | (5, _, _) => some ((pc + 3, ls, am_i (s.1 o k 0 f) :: st, s), True)
      | (1, x, _) => some ((pc + 3, ls, am_r o x 0 :: st, s), True)
      | (2, x, y) => some ((pc + 3, ls, am_r x y 0 :: st, s), True)
      | _ => none) else none
    | none => none) else none
  | _ => none
def am_put (P : am_P) (idx n : Nat) : am_F → Option (am_F × Prop)
  | (pc, ls, .inl v :: .inr (.inr (some (o, k, i))) :: st, s) => bif Nat.beq n 3 then (match am_lk P.1 idx with
    | some (k', f) => bif Nat.beq k k' && (Nat.beq (am_kd k).1 0 && (Nat.ble (f + 1) (am_kd k).2.1 && !((am_cl k).2.1 f).2.2.2)) then (match am_fd k f with
      | (0, _, _) => some ((pc + 3, ls, st, am_u s o k 0 f v), True)
      | (5, _, _) => some ((pc + 3, ls, st, am_u s o k 0 f v), v = 0 ∨ v = 1)
      | _ => none) else none
    | none => none) else none
  | _ => none
def am_gets (P : am_P) (idx n : Nat) : am_F → Option (am_F × Prop)
  | (pc, ls, st, s) => bif Nat.beq n 3 then (match am_lk P.2.1 idx with
    | some (o, k) => some ((pc + 3, ls, am_r o k 0 :: st, s), True)
    | none => none) else none
def am_iald (n : Nat) : am_F → Option (am_F × Prop)
  | (pc, ls, .inl j :: .inr (.inr (some (o, k, i))) :: st, s) => bif Nat.beq n 1 && Nat.beq (am_kd k).1 1 then some ((pc + 1, ls, am_i (s.1 o k i j.toNatClampNeg) :: st, s), vp_in j (am_kd k).2.1) else none
  | _ => none
def am_lald (n : Nat) : am_F → Option (am_F × Prop)
  | (pc, ls, .inl j :: .inr (.inr (some (o, k, i))) :: st, s) => bif Nat.beq n 1 && Nat.beq (am_kd k).1 2 then some ((pc + 1, ls, am_l (s.2 o k i j.toNatClampNeg) :: st, s), vp_in j (am_kd k).2.1) else none
  | _ => none
def am_zald (n : Nat) : am_F → Option (am_F × Prop)
  | (pc, ls, .inl j :: .inr (.inr (some (o, k, i))) :: st, s) => bif Nat.beq n 1 && Nat.beq (am_kd k).1 3 then some ((pc + 1, ls, am_i (s.1 o k i j.toNatClampNeg) :: st, s), vp_in j (am_kd k).2.1) else none
  | _ => none
def am_aald (n : Nat) : am_F → Option (am_F × Prop)
  | (pc, ls, .inl j :: .inr (.inr (some (o, k, i))) :: st, s) => bif Nat.beq n 1 && (Nat.ble 4 (am_kd k).1 && Nat.ble (am_kd k).1 6) then some ((pc + 1, ls, am_r o (am_kd k).2.2.2 j.toNatClampNeg :: st, s), vp_in j (am_kd k).2.1) else none
  | _ => none
def am_iast (n : Nat) : am_F → Option (am_F × Prop)
  | (pc, ls, .inl x :: .inl j :: .inr (.inr (some (o, k, i))) :: st, s) => bif Nat.beq n 1 && (Nat.beq (am_kd k).1 1 && (Nat.ble (k + 1) 34 || Nat.ble 37 k)) then some ((pc + 1, ls, st, am_u s o k i j.toNatClampNeg x), vp_in j (am_kd k).2.1) else none
  | _ => none
def am_last (n : Nat) : am_F → Option (am_F × Prop)
  | (pc, ls, .inr (.inl x) :: .inl j :: .inr (.inr (some (o, k, i))) :: st, s) => bif Nat.beq n 1 && Nat.beq (am_kd k).1 2 then some ((pc + 1, ls, st, am_ul s o k i j.toNatClampNeg x), vp_in j (am_kd k).2.1) else none
  | _ => none
def am_zast (n : Nat) : am_F → Option (am_F × Prop)
  | (pc, ls, .inl x :: .inl j :: .inr (.inr (some (o, k, i))) :: st, s) => bif Nat.beq n 1 && Nat.beq (am_kd k).1 3 then some ((pc + 1, ls, st, am_u s o k i j.toNatClampNeg (vp_nar .boolean x)), vp_in j (am_kd k).2.1) else none
  | _ => none
def am_alen (n : Nat) : am_F → Option (am_F × Prop)
  | (pc, ls, .inr (.inr (some (o, k, i))) :: st, s) => bif Nat.beq n 1 && (Nat.ble 1 (am_kd k).1 && Nat.ble (am_kd k).1 6) then some ((pc + 1, ls, am_i (Int32.ofNat (am_kd k).2.1) :: st, s), True) else none
  | _ => none
def am_1 (nL : Nat) (P : am_P) (i : Instr) (n : Nat) (fr : am_F) : Option (am_F × Prop) :=
  match i with
  | .iconst z => am_push (am_i (Int32.ofInt z)) 1 n fr
  | .bipush z => am_push (am_i (Int8.ofInt z).toInt32) 2 n fr
  | .sipush z => am_push (am_i (Int16.ofInt z).toInt32) 3 n fr
  | .lconst z => am_push (am_l (Int64.ofNat (z : Nat))) 1 n fr
  | .ldc idx => (match am_lk P.2.2.1 idx with
    | some v => am_push (am_i v) 2 n fr
    | none => none)
  | .ldc_w idx => (match am_lk P.2.2.1 idx with
    | some v => am_push (am_i v) 3 n fr
    | none => none)
  | .ldc2_w idx => (match am_lk P.2.2.2 idx with
    | some v => am_push (am_l v) 3 n fr
    | none => none)
  | .iload_n k => am_ild (k : Nat) 1 n fr
  | .iload k => am_ild k 2 n fr
  | .lload_n k => am_lld (k : Nat) 1 n fr
  | .lload k => am_lld k 2 n fr
  | .aload_n k => am_ald (k : Nat) 1 n fr
  | .aload k => am_ald k 2 n fr
  | .istore_n k => am_ist nL (k : Nat) 1 n fr
  | .istore k => am_ist nL k 2 n fr
  | .lstore_n k => am_lst nL (k : Nat) 1 n fr
  | .lstore k => am_lst nL k 2 n fr
  | .astore_n k => am_ast nL (k : Nat) 1 n fr
  | .astore k => am_ast nL k 2 n fr
  | .iinc k z => am_inc nL k z n fr
  | .iadd => am_b2 (fun x y => x + y) n fr
  | .isub => am_b2 (fun x y => x - y) n fr
  | .imul => am_b2 (fun x y => x * y) n fr
  | .iand => am_b2 (fun x y => x &&& y) n fr
  | .ior => am_b2 (fun x y => x ||| y) n fr
  | .ixor => am_b2 (fun x y => x ^^^ y) n fr
  | .ishl => am_b2 (fun x y => x <<< (y &&& 31)) n fr
  | .ishr => am_b2 (fun x y => x >>> (y &&& 31)) n fr
  | .iushr => am_b2 (fun x y => (x.toUInt32 >>> (y.toUInt32 &&& Int32.toUInt32 31)).toInt32) n fr
  | .idiv => am_bd (fun x y => x / y) n fr
  | .irem => am_bd (fun x y => x - x / y * y) n fr
  | .ineg => am_b1 (fun x => -x) n fr
  | .i2b => am_b1 (fun x => x.toInt8.toInt32) n fr
  | .i2s => am_b1 (fun x => x.toInt16.toInt32) n fr
  | .i2l => am_i2l n fr
  | .l2i => am_l2i n fr
  | .land => am_c2 (fun x y => x &&& y) n fr
  | .lor => am_c2 (fun x y => x ||| y) n fr
  | .lcmp => am_lcmp n fr
  | .lshl => am_lshl n fr
  | .dup => am_dup n fr
  | .pop => am_pop n fr
  | .dup_x1 => am_dupx n fr
  | .dup2 => am_dup2 n fr
  | .goto off => am_goto off n fr
  | .getfield idx => am_get P idx n fr
  | .putfield idx => am_put P idx n fr
  | .getstatic idx => am_gets P idx n fr
  | .iaload => am_iald n fr
  | .laload => am_lald n fr
  | .baload => am_zald n fr
  | .aaload => am_aald n fr
  | .iastore => am_iast n fr
  | .lastore => am_last n fr
  | .bastore => am_zast n fr
  | .arraylength => am_alen n fr
  | _ => none
/-- a straight stretch: instructions with their places -/
def am_x (nL : Nat) (P : am_P) : List (Nat × Instr × Nat) → am_F → Option (am_F × Prop)
  | [], fr => some (fr, True)
  | q :: t, fr => bif Nat.beq fr.1 q.1 then (match am_1 nL P q.2.1 q.2.2 fr with
    | none => none
    | some (fr1, ob) => match am_x nL P t fr1 with
      | none => none
      | some (fr2, obs) => some (fr2, ob ∧ obs)) else none
def am_code (cc : ByteArray) (tb : List (Nat × Instr × Nat)) : Bool := tb.all fun q => decide (decode cc q.1 = .ok (q.2.1, q.2.2))
section AMS
variable {p : Program} {l : Launch} {e : Env} {R : Room} {s : State} {m : MethodId} {args : Array Value} {below : List Frame} {meth : Method} {c : Code} {cc : ByteArray} {own : String} {nL : Nat} {P : am_P} {G : am_G} {A : Nat → Prop} {kc ks : Nat} {Q : State → Prop}
theorem am_step0 {pc pc' : Nat} {ls : List (Nat × am_V)} {st st' : List am_V} {σ : am_S} (hlive : (∀ q ∈ ls, am_lV G q.2) → (∀ v ∈ st, am_lV G v) → ∀ v ∈ st', am_lV G v)
    (hrow : ∀ (H : Heap) (locs : List Loc) (la : Array Slot), lv_has la nL (ls.map (fun q => (q.1, am_v G q.2))) → W p l e R s m args below meth c H locs kc ks Q (F0 m pc' la (st'.map (am_v G))) → W p l e R s m args below meth c H locs kc ks Q (F0 m pc la (st.map (am_v G))))
    (k : am_A p l e R s m args below meth c nL G A kc ks Q (pc', ls, st', σ)) : am_A p l e R s m args below meth c nL G A kc ks Q (pc, ls, st, σ) :=
  fun H locs la hW hL hF h1 h2 hl => hrow H locs la hl (k H locs la hW hL hF h1 (hlive h1 h2) hl)
theorem am_has {ls : List (Nat × am_V)} {la : Array Slot} {i : Nat} {v : am_V} (h : lv_has la nL (ls.map (fun q => (q.1, am_v G q.2)))) (hv : am_lk ls i = some v) : la[i]? = some (.val (am_v G v)) :=
  h.2.2 (i, am_v G v) (List.mem_map.mpr ⟨(i, v), am_lk_mem hv, rfl⟩)
theorem am_lcons {v : am_V} {st : List am_V} (hv : am_lV G v) (h : ∀ w ∈ st, am_lV G w) : ∀ w ∈ v :: st, am_lV G w := fun w hw => by
  rcases List.mem_cons.mp hw with e | e
  · rw [e]; exact hv
  · exact h w e
theorem am_push_s {v : am_V} {d n : Nat} {fr fr' : am_F} {ob : Prop} (h : am_push v d n fr = some (fr', ob)) (hv : am_lV G v)
    (hrow : ∀ (H : Heap) (locs : List Loc) (la : Array Slot) (rest : List Value), n = d → W p l e R s m args below meth c H locs kc ks Q (F0 m (fr.1 + d) la (am_v G v :: rest)) → W p l e R s m args below meth c H locs kc ks Q (F0 m fr.1 la rest))
    (k : am_A p l e R s m args below meth c nL G A kc ks Q fr') : am_A p l e R s m args below meth c nL G A kc ks Q fr := by
  obtain ⟨pc, ls, st, σ⟩ := fr
  unfold am_push at h
  cases hn : Nat.beq n d
  · rw [hn] at h; cases h
  · rw [hn] at h
    cases h
    exact am_step0 (fun _ h2 => am_lcons hv h2) (fun H locs la _ k => hrow H locs la _ (Nat.eq_of_beq_eq_true hn) k) k
theorem am_ild_s {i d n : Nat} {fr fr' : am_F} {ob : Prop} (h : am_ild i d n fr = some (fr', ob))
    (hrow : ∀ (H : Heap) (locs : List Loc) (la : Array Slot) (rest : List Value) (x : Int32), n = d → la[i]? = some (.val (.int x)) → W p l e R s m args below meth c H locs kc ks Q (F0 m (fr.1 + d) la (.int x :: rest)) → W p l e R s m args below meth c H locs kc ks Q (F0 m fr.1 la rest))
    (k : am_A p l e R s m args below meth c nL G A kc ks Q fr') : am_A p l e R s m args below meth c nL G A kc ks Q fr := by
  obtain ⟨pc, ls, st, σ⟩ := fr
  unfold am_ild at h
  cases hn : Nat.beq n d
  · rw [hn] at h; cases h
  · rw [hn] at h
    simp only [cond_true] at h
    split at h
    · rename_i x hx
      cases h
      exact am_step0 (fun _ h2 => am_lcons (v := .inl x) trivial h2) (fun H locs la hl k => hrow H locs la _ x (Nat.eq_of_beq_eq_true hn) (am_has hl hx) k) k
    · cases h
theorem am_lld_s {i d n : Nat} {fr fr' : am_F} {ob : Prop} (h : am_lld i d n fr = some (fr', ob))
    (hrow : ∀ (H : Heap) (locs : List Loc) (la : Array Slot) (rest : List Value) (x : Int64), n = d → la[i]? = some (.val (.long x)) → W p l e R s m args below meth c H locs kc ks Q (F0 m (fr.1 + d) la (.long x :: rest)) → W p l e R s m args below meth c H locs kc ks Q (F0 m fr.1 la rest))
    (k : am_A p l e R s m args below meth c nL G A kc ks Q fr') : am_A p l e R s m args below meth c nL G A kc ks Q fr := by
  obtain ⟨pc, ls, st, σ⟩ := fr
  unfold am_lld at h
  cases hn : Nat.beq n d
  · rw [hn] at h; cases h
  · rw [hn] at h
    simp only [cond_true] at h
    split at h
    · rename_i x hx
      cases h
      exact am_step0 (fun _ h2 => am_lcons (v := .inr (.inl x)) trivial h2) (fun H locs la hl k => hrow H locs la _ x (Nat.eq_of_beq_eq_true hn) (am_has hl hx) k) k
    · cases h
theorem am_ald_s {i d n : Nat} {fr fr' : am_F} {ob : Prop} (h : am_ald i d n fr = some (fr', ob))
    (hrow : ∀ (H : Heap) (locs : List Loc) (la : Array Slot) (rest : List Value) (x : Nat), n = d → la[i]? = some (.val (.ref x)) → W p l e R s m args below meth c H locs kc ks Q (F0 m (fr.1 + d) la (.ref x :: rest)) → W p l e R s m args below meth c H locs kc ks Q (F0 m fr.1 la rest))
    (k : am_A p l e R s m args below meth c nL G A kc ks Q fr') : am_A p l e R s m args below meth c nL G A kc ks Q fr := by
  obtain ⟨pc, ls, st, σ⟩ := fr
  unfold am_ald at h
  cases hn : Nat.beq n d
  · rw [hn] at h; cases h
  · rw [hn] at h
    simp only [cond_true] at h
    split at h
    · rename_i o kk j hx
      cases h
      exact am_step0 (fun h1 h2 => am_lcons (h1 _ (am_lk_mem hx)) h2) (fun H locs la hl k => hrow H locs la _ _ (Nat.eq_of_beq_eq_true hn) (am_has hl hx) k) k
    · cases h
theorem am_has_st {ls : List (Nat × am_V)} {la : Array Slot} {i : Nat} {v : am_V} (h : lv_has la nL ((i, am_v G v) :: (ls.map (fun q => (q.1, am_v G q.2))).filter (fun q => !(q.1 == i) && !(q.1 + 1 == i && q.2.category == 2)))) : lv_has la nL ((am_ins i v (am_rm i ls)).map (fun q => (q.1, am_v G q.2))) := by
  refine ⟨h.1, h.2.1, fun q hq => h.2.2 q ?_⟩
  obtain ⟨q0, h0, rfl⟩ := List.mem_map.mp hq
  rcases am_ins_mem h0 with e | e
  · rw [e]; exact List.mem_cons_self
  · obtain ⟨h1, h2, h3⟩ := am_rm_mem e
    refine List.mem_cons_of_mem _ (List.mem_filter.mpr ⟨List.mem_map.mpr ⟨q0, h1, rfl⟩, ?_⟩)
    simp only [am_v_ct, Bool.and_eq_true, Bool.not_eq_true', beq_eq_false_iff_ne, Bool.and_eq_false_iff]
    refine ⟨h2, ?_⟩
    by_cases z : q0.1 + 1 = i
    · exact Or.inr fun y => h3 ⟨z, y⟩
    · exact Or.inl z
theorem am_has_st2 {ls : List (Nat × am_V)} {la : Array Slot} {i : Nat} {v : am_V} (h : lv_has la nL ((i, am_v G v) :: (ls.map (fun q => (q.1, am_v G q.2))).filter (fun q => !(q.1 == i) && (!(q.1 == i + 1) && !(q.1 + 1 == i && q.2.category == 2))))) : lv_has la nL ((am_ins i v (am_rm2 i ls)).map (fun q => (q.1, am_v G q.2))) := by
  refine ⟨h.1, h.2.1, fun q hq => h.2.2 q ?_⟩
  obtain ⟨q0, h0, rfl⟩ := List.mem_map.mp hq
  rcases am_ins_mem h0 with e | e
  · rw [e]; exact List.mem_cons_self
  · obtain ⟨h1, h2, h4, h3⟩ := am_rm2_mem e
    refine List.mem_cons_of_mem _ (List.mem_filter.mpr ⟨List.mem_map.mpr ⟨q0, h1, rfl⟩, ?_⟩)
    simp only [am_v_ct, Bool.and_eq_true, Bool.not_eq_true', beq_eq_false_iff_ne, Bool.and_eq_false_iff]
    refine ⟨h2, h4, ?_⟩
    by_cases z : q0.1 + 1 = i
    · exact Or.inr fun y => h3 ⟨z, y⟩
    · exact Or.inl z
theorem am_live_ins {ls : List (Nat × am_V)} {i : Nat} {v : am_V} (hv : am_lV G v) (h : ∀ q ∈ ls, am_lV G q.2) : ∀ q ∈ am_ins i v (am_rm i ls), am_lV G q.2 := fun q hq => by
  rcases am_ins_mem hq with e | e
  · rw [e]; exact hv
  · exact h q (am_rm_mem e).1
theorem am_live_ins2 {ls : List (Nat × am_V)} {i : Nat} {v : am_V} (hv : am_lV G v) (h : ∀ q ∈ ls, am_lV G q.2) : ∀ q ∈ am_ins i v (am_rm2 i ls), am_lV G q.2 := fun q hq => by
  rcases am_ins_mem hq with e | e
  · rw [e]; exact hv
  · exact h q (am_rm2_mem e).1
theorem am_tl {v : am_V} {st : List am_V} (h : ∀ w ∈ v :: st, am_lV G w) : am_lV G v ∧ ∀ w ∈ st, am_lV G w := ⟨h v List.mem_cons_self, fun w hw => h w (List.mem_cons_of_mem _ hw)⟩
theorem am_store {pc pc' i : Nat} {ls : List (Nat × am_V)} {v : am_V} {st : List am_V} {σ : am_S} (hi : i < nL)
    (hrow : ∀ (H : Heap) (locs : List Loc) (la : Array Slot) (lv lv' : List (Nat × Value)), lv_has la nL lv → (i, am_v G v) :: lv.filter (fun q => !(q.1 == i) && !(q.1 + 1 == i && q.2.category == 2)) = lv' → (∀ la' : Array Slot, lv_has la' nL lv' → W p l e R s m args below meth c H locs kc ks Q (F0 m pc' la' (st.map (am_v G)))) → W p l e R s m args below meth c H locs kc ks Q (F0 m pc la (am_v G v :: st.map (am_v G))))
    (k : am_A p l e R s m args below meth c nL G A kc ks Q (pc', am_ins i v (am_rm i ls), st, σ)) : am_A p l e R s m args below meth c nL G A kc ks Q (pc, ls, v :: st, σ) :=
  fun H locs la hW hL hF h1 h2 hl => hrow H locs la _ _ hl rfl fun la' h' => k H locs la' hW hL hF (am_live_ins (am_tl h2).1 h1) (am_tl h2).2 (am_has_st h')
theorem am_store2 {pc pc' i : Nat} {ls : List (Nat × am_V)} {v : am_V} {st : List am_V} {σ : am_S} (hi : i + 1 < nL)
    (hrow : ∀ (H : Heap) (locs : List Loc) (la : Array Slot) (lv lv' : List (Nat × Value)), lv_has la nL lv → (i, am_v G v) :: lv.filter (fun q => !(q.1 == i) && (!(q.1 == i + 1) && !(q.1 + 1 == i && q.2.category == 2))) = lv' → (∀ la' : Array Slot, lv_has la' nL lv' → W p l e R s m args below meth c H locs kc ks Q (F0 m pc' la' (st.map (am_v G)))) → W p l e R s m args below meth c H locs kc ks Q (F0 m pc la (am_v G v :: st.map (am_v G))))
    (k : am_A p l e R s m args below meth c nL G A kc ks Q (pc', am_ins i v (am_rm2 i ls), st, σ)) : am_A p l e R s m args below meth c nL G A kc ks Q (pc, ls, v :: st, σ) :=
  fun H locs la hW hL hF h1 h2 hl => hrow H locs la _ _ hl rfl fun la' h' => k H locs la' hW hL hF (am_live_ins2 (am_tl h2).1 h1) (am_tl h2).2 (am_has_st2 h')
theorem am_b2_s {f : Int32 → Int32 → Int32} {n : Nat} {fr fr' : am_F} {ob : Prop} (h : am_b2 f n fr = some (fr', ob))
    (hrow : ∀ (H : Heap) (locs : List Loc) (la : Array Slot) (rest : List Value) (x y : Int32), n = 1 → W p l e R s m args below meth c H locs kc ks Q (F0 m (fr.1 + 1) la (.int (f x y) :: rest)) → W p l e R s m args below meth c H locs kc ks Q (F0 m fr.1 la (.int y :: .int x :: rest)))
    (k : am_A p l e R s m args below meth c nL G A kc ks Q fr') : am_A p l e R s m args below meth c nL G A kc ks Q fr := by
  obtain ⟨pc, ls, st, σ⟩ := fr
  unfold am_b2 at h
  split at h
  · rename_i pc ls y x st σ e
    cases hn : Nat.beq n 1
    · rw [hn] at h; cases h
    · rw [hn] at h
      cases h
      cases e
      exact am_step0 (fun _ h2 => am_lcons (v := .inl _) trivial (am_tl (am_tl h2).2).2) (fun H locs la _ k => hrow H locs la _ x y (Nat.eq_of_beq_eq_true hn) k) k
  · cases h
theorem am_bd_s {f : Int32 → Int32 → Int32} {n : Nat} {fr fr' : am_F} {ob : Prop} (h : am_bd f n fr = some (fr', ob)) (ho : ob)
    (hrow : ∀ (H : Heap) (locs : List Loc) (la : Array Slot) (rest : List Value) (x y : Int32), n = 1 → ¬ y = 0 → W p l e R s m args below meth c H locs kc ks Q (F0 m (fr.1 + 1) la (.int (f x y) :: rest)) → W p l e R s m args below meth c H locs kc ks Q (F0 m fr.1 la (.int y :: .int x :: rest)))
    (k : am_A p l e R s m args below meth c nL G A kc ks Q fr') : am_A p l e R s m args below meth c nL G A kc ks Q fr := by
  obtain ⟨pc, ls, st, σ⟩ := fr
  unfold am_bd at h
  split at h
  · rename_i pc ls y x st σ e
    cases hn : Nat.beq n 1
    · rw [hn] at h; cases h
    · rw [hn] at h
      cases h
      cases e
      exact am_step0 (fun _ h2 => am_lcons (v := .inl _) trivial (am_tl (am_tl h2).2).2) (fun H locs la _ k => hrow H locs la _ x y (Nat.eq_of_beq_eq_true hn) ho k) k
  · cases h
theorem am_c2_s {f : Int64 → Int64 → Int64} {n : Nat} {fr fr' : am_F} {ob : Prop} (h : am_c2 f n fr = some (fr', ob))
    (hrow : ∀ (H : Heap) (locs : List Loc) (la : Array Slot) (rest : List Value) (x y : Int64), n = 1 → W p l e R s m args below meth c H locs kc ks Q (F0 m (fr.1 + 1) la (.long (f x y) :: rest)) → W p l e R s m args below meth c H locs kc ks Q (F0 m fr.1 la (.long y :: .long x :: rest)))
    (k : am_A p l e R s m args below meth c nL G A kc ks Q fr') : am_A p l e R s m args below meth c nL G A kc ks Q fr := by
  obtain ⟨pc, ls, st, σ⟩ := fr
  unfold am_c2 at h
  split at h
  · rename_i pc ls y x st σ e
    cases hn : Nat.beq n 1
    · rw [hn] at h; cases h
    · rw [hn] at h
      cases h
      cases e
      exact am_step0 (fun _ h2 => am_lcons (v := .inr (.inl _)) trivial (am_tl (am_tl h2).2).2) (fun H locs la _ k => hrow H locs la _ x y (Nat.eq_of_beq_eq_true hn) k) k
  · cases h
theorem am_b1_s {f : Int32 → Int32} {n : Nat} {fr fr' : am_F} {ob : Prop} (h : am_b1 f n fr = some (fr', ob))
    (hrow : ∀ (H : Heap) (locs : List Loc) (la : Array Slot) (rest : List Value) (x : Int32), n = 1 → W p l e R s m args below meth c H locs kc ks Q (F0 m (fr.1 + 1) la (.int (f x) :: rest)) → W p l e R s m args below meth c H locs kc ks Q (F0 m fr.1 la (.int x :: rest)))
    (k : am_A p l e R s m args below meth c nL G A kc ks Q fr') : am_A p l e R s m args below meth c nL G A kc ks Q fr := by
  obtain ⟨pc, ls, st, σ⟩ := fr
  unfold am_b1 at h
  split at h
  · rename_i pc ls x st σ e
    cases hn : Nat.beq n 1
    · rw [hn] at h; cases h
    · rw [hn] at h
      cases h
      cases e
      exact am_step0 (fun _ h2 => am_lcons (v := .inl _) trivial (am_tl h2).2) (fun H locs la _ k => hrow H locs la _ x (Nat.eq_of_beq_eq_true hn) k) k
  · cases h
theorem am_i2l_s {n : Nat} {fr fr' : am_F} {ob : Prop} (h : am_i2l n fr = some (fr', ob))
    (hrow : ∀ (H : Heap) (locs : List Loc) (la : Array Slot) (rest : List Value) (x : Int32), n = 1 → W p l e R s m args below meth c H locs kc ks Q (F0 m (fr.1 + 1) la (.long x.toInt64 :: rest)) → W p l e R s m args below meth c H locs kc ks Q (F0 m fr.1 la (.int x :: rest)))
    (k : am_A p l e R s m args below meth c nL G A kc ks Q fr') : am_A p l e R s m args below meth c nL G A kc ks Q fr := by
  obtain ⟨pc, ls, st, σ⟩ := fr
  unfold am_i2l at h
  split at h
  · rename_i pc ls x st σ e
    cases hn : Nat.beq n 1
    · rw [hn] at h; cases h
    · rw [hn] at h
      cases h
      cases e
      exact am_step0 (fun _ h2 => am_lcons (v := .inr (.inl _)) trivial (am_tl h2).2) (fun H locs la _ k => hrow H locs la _ x (Nat.eq_of_beq_eq_true hn) k) k
  · cases h
theorem am_l2i_s {n : Nat} {fr fr' : am_F} {ob : Prop} (h : am_l2i n fr = some (fr', ob))
    (hrow : ∀ (H : Heap) (locs : List Loc) (la : Array Slot) (rest : List Value) (x : Int64), n = 1 → W p l e R s m args below meth c H locs kc ks Q (F0 m (fr.1 + 1) la (.int x.toInt32 :: rest)) → W p l e R s m args below meth c H locs kc ks Q (F0 m fr.1 la (.long x :: rest)))
    (k : am_A p l e R s m args below meth c nL G A kc ks Q fr') : am_A p l e R s m args below meth c nL G A kc ks Q fr := by
  obtain ⟨pc, ls, st, σ⟩ := fr
  unfold am_l2i at h
  split at h
  · rename_i pc ls x st σ e
    cases hn : Nat.beq n 1
    · rw [hn] at h; cases h
    · rw [hn] at h
      cases h
      cases e
      exact am_step0 (fun _ h2 => am_lcons (v := .inl _) trivial (am_tl h2).2) (fun H locs la _ k => hrow H locs la _ x (Nat.eq_of_beq_eq_true hn) k) k
  · cases h
theorem am_lcmp_s {n : Nat} {fr fr' : am_F} {ob : Prop} (h : am_lcmp n fr = some (fr', ob))
    (hrow : ∀ (H : Heap) (locs : List Loc) (la : Array Slot) (rest : List Value) (x y : Int64), n = 1 → W p l e R s m args below meth c H locs kc ks Q (F0 m (fr.1 + 1) la (.int (lg_cmp x y) :: rest)) → W p l e R s m args below meth c H locs kc ks Q (F0 m fr.1 la (.long y :: .long x :: rest)))
    (k : am_A p l e R s m args below meth c nL G A kc ks Q fr') : am_A p l e R s m args below meth c nL G A kc ks Q fr := by
  obtain ⟨pc, ls, st, σ⟩ := fr
  unfold am_lcmp at h
  split at h
  · rename_i pc ls y x st σ e
    cases hn : Nat.beq n 1
    · rw [hn] at h; cases h
    · rw [hn] at h
      cases h
      cases e
      exact am_step0 (fun _ h2 => am_lcons (v := .inl _) trivial (am_tl (am_tl h2).2).2) (fun H locs la _ k => hrow H locs la _ x y (Nat.eq_of_beq_eq_true hn) k) k
  · cases h
theorem am_lshl_s {n : Nat} {fr fr' : am_F} {ob : Prop} (h : am_lshl n fr = some (fr', ob))
    (hrow : ∀ (H : Heap) (locs : List Loc) (la : Array Slot) (rest : List Value) (x : Int64) (y : Int32), n = 1 → W p l e R s m args below meth c H locs kc ks Q (F0 m (fr.1 + 1) la (.long (x <<< (y.toInt64 &&& 63)) :: rest)) → W p l e R s m args below meth c H locs kc ks Q (F0 m fr.1 la (.int y :: .long x :: rest)))
    (k : am_A p l e R s m args below meth c nL G A kc ks Q fr') : am_A p l e R s m args below meth c nL G A kc ks Q fr := by
  obtain ⟨pc, ls, st, σ⟩ := fr
  unfold am_lshl at h
  split at h
  · rename_i pc ls y x st σ e
    cases hn : Nat.beq n 1
    · rw [hn] at h; cases h
    · rw [hn] at h
      cases h
      cases e
      exact am_step0 (fun _ h2 => am_lcons (v := .inr (.inl _)) trivial (am_tl (am_tl h2).2).2) (fun H locs la _ k => hrow H locs la _ x y (Nat.eq_of_beq_eq_true hn) k) k
  · cases h
theorem am_dup_s {n : Nat} {fr fr' : am_F} {ob : Prop} (h : am_dup n fr = some (fr', ob))
    (hrow : ∀ (H : Heap) (locs : List Loc) (la : Array Slot) (rest : List Value) (v : Value), n = 1 → v.category = 1 → W p l e R s m args below meth c H locs kc ks Q (F0 m (fr.1 + 1) la (v :: v :: rest)) → W p l e R s m args below meth c H locs kc ks Q (F0 m fr.1 la (v :: rest)))
    (k : am_A p l e R s m args below meth c nL G A kc ks Q fr') : am_A p l e R s m args below meth c nL G A kc ks Q fr := by
  obtain ⟨pc, ls, st, σ⟩ := fr
  unfold am_dup at h
  split at h
  · rename_i pc ls v st σ e
    cases hn : (Nat.beq n 1 && Nat.beq (am_ct v) 1)
    · rw [hn] at h; cases h
    · rw [hn] at h
      cases h
      cases e
      rw [Bool.and_eq_true] at hn
      exact am_step0 (fun _ h2 => am_lcons (am_tl h2).1 h2) (fun H locs la _ k => hrow H locs la _ _ (Nat.eq_of_beq_eq_true hn.1) ((am_v_ct G v).trans (Nat.eq_of_beq_eq_true hn.2)) k) k
  · cases h
theorem am_pop_s {n : Nat} {fr fr' : am_F} {ob : Prop} (h : am_pop n fr = some (fr', ob))
    (hrow : ∀ (H : Heap) (locs : List Loc) (la : Array Slot) (rest : List Value) (v : Value), n = 1 → v.category = 1 → W p l e R s m args below meth c H locs kc ks Q (F0 m (fr.1 + 1) la rest) → W p l e R s m args below meth c H locs kc ks Q (F0 m fr.1 la (v :: rest)))
    (k : am_A p l e R s m args below meth c nL G A kc ks Q fr') : am_A p l e R s m args below meth c nL G A kc ks Q fr := by
  obtain ⟨pc, ls, st, σ⟩ := fr
  unfold am_pop at h
  split at h
  · rename_i pc ls v st σ e
    cases hn : (Nat.beq n 1 && Nat.beq (am_ct v) 1)
    · rw [hn] at h; cases h
    · rw [hn] at h
      cases h
      cases e
      rw [Bool.and_eq_true] at hn
      exact am_step0 (fun _ h2 => (am_tl h2).2) (fun H locs la _ k => hrow H locs la _ _ (Nat.eq_of_beq_eq_true hn.1) ((am_v_ct G v).trans (Nat.eq_of_beq_eq_true hn.2)) k) k
  · cases h
theorem am_dupx_s {n : Nat} {fr fr' : am_F} {ob : Prop} (h : am_dupx n fr = some (fr', ob))
    (hrow : ∀ (H : Heap) (locs : List Loc) (la : Array Slot) (rest : List Value) (v w : Value), n = 1 → v.category = 1 → w.category = 1 → W p l e R s m args below meth c H locs kc ks Q (F0 m (fr.1 + 1) la (v :: w :: v :: rest)) → W p l e R s m args below meth c H locs kc ks Q (F0 m fr.1 la (v :: w :: rest)))
    (k : am_A p l e R s m args below meth c nL G A kc ks Q fr') : am_A p l e R s m args below meth c nL G A kc ks Q fr := by
  obtain ⟨pc, ls, st, σ⟩ := fr
  unfold am_dupx at h
  split at h
  · rename_i pc ls v w st σ e
    cases hn : (Nat.beq n 1 && (Nat.beq (am_ct v) 1 && Nat.beq (am_ct w) 1))
    · rw [hn] at h; cases h
    · rw [hn] at h
      cases h
      cases e
      rw [Bool.and_eq_true, Bool.and_eq_true] at hn
      exact am_step0 (fun _ h2 => am_lcons (am_tl h2).1 (am_lcons (am_tl (am_tl h2).2).1 (am_lcons (am_tl h2).1 (am_tl (am_tl h2).2).2))) (fun H locs la _ k => hrow H locs la _ _ _ (Nat.eq_of_beq_eq_true hn.1) ((am_v_ct G v).trans (Nat.eq_of_beq_eq_true hn.2.1)) ((am_v_ct G w).trans (Nat.eq_of_beq_eq_true hn.2.2)) k) k
  · cases h
theorem am_dup2_s {n : Nat} {fr fr' : am_F} {ob : Prop} (h : am_dup2 n fr = some (fr', ob))
    (hrow : ∀ (H : Heap) (locs : List Loc) (la : Array Slot) (rest : List Value) (v w : Value), n = 1 → v.category = 1 → w.category = 1 → W p l e R s m args below meth c H locs kc ks Q (F0 m (fr.1 + 1) la (v :: w :: v :: w :: rest)) → W p l e R s m args below meth c H locs kc ks Q (F0 m fr.1 la (v :: w :: rest)))
    (k : am_A p l e R s m args below meth c nL G A kc ks Q fr') : am_A p l e R s m args below meth c nL G A kc ks Q fr := by
  obtain ⟨pc, ls, st, σ⟩ := fr
  unfold am_dup2 at h
  split at h
  · rename_i pc ls v w st σ e
    cases hn : (Nat.beq n 1 && (Nat.beq (am_ct v) 1 && Nat.beq (am_ct w) 1))
    · rw [hn] at h; cases h
    · rw [hn] at h
      cases h
      cases e
      rw [Bool.and_eq_true, Bool.and_eq_true] at hn
      exact am_step0 (fun _ h2 => am_lcons (am_tl h2).1 (am_lcons (am_tl (am_tl h2).2).1 h2)) (fun H locs la _ k => hrow H locs la _ _ _ (Nat.eq_of_beq_eq_true hn.1) ((am_v_ct G v).trans (Nat.eq_of_beq_eq_true hn.2.1)) ((am_v_ct G w).trans (Nat.eq_of_beq_eq_true hn.2.2)) k) k
  · cases h
theorem am_ist_s {i d n : Nat} {fr fr' : am_F} {ob : Prop} (h : am_ist nL i d n fr = some (fr', ob))
    (hrow : ∀ (H : Heap) (locs : List Loc) (la : Array Slot) (rest : List Value) (x : Int32) (lv lv' : List (Nat × Value)), n = d → i < nL → lv_has la nL lv → (i, Value.int x) :: lv.filter (fun q => !(q.1 == i) && !(q.1 + 1 == i && q.2.category == 2)) = lv' → (∀ la' : Array Slot, lv_has la' nL lv' → W p l e R s m args below meth c H locs kc ks Q (F0 m (fr.1 + d) la' rest)) → W p l e R s m args below meth c H locs kc ks Q (F0 m fr.1 la (.int x :: rest)))
    (k : am_A p l e R s m args below meth c nL G A kc ks Q fr') : am_A p l e R s m args below meth c nL G A kc ks Q fr := by
  obtain ⟨pc, ls, st, σ⟩ := fr
  unfold am_ist at h
  split at h
  · rename_i pc ls x st σ e
    cases hn : (Nat.beq n d && Nat.ble (i + 1) nL)
    · rw [hn] at h; cases h
    · rw [hn] at h
      cases h
      cases e
      rw [Bool.and_eq_true] at hn
      exact am_store (v := .inl x) (Nat.le_of_ble_eq_true hn.2) (fun H locs la lv lv' a b k => hrow H locs la _ x lv lv' (Nat.eq_of_beq_eq_true hn.1) (Nat.le_of_ble_eq_true hn.2) a b k) k
  · cases h
theorem am_ast_s {i d n : Nat} {fr fr' : am_F} {ob : Prop} (h : am_ast nL i d n fr = some (fr', ob))
    (hrow : ∀ (H : Heap) (locs : List Loc) (la : Array Slot) (rest : List Value) (x : Nat) (lv lv' : List (Nat × Value)), n = d → i < nL → lv_has la nL lv → (i, Value.ref x) :: lv.filter (fun q => !(q.1 == i) && !(q.1 + 1 == i && q.2.category == 2)) = lv' → (∀ la' : Array Slot, lv_has la' nL lv' → W p l e R s m args below meth c H locs kc ks Q (F0 m (fr.1 + d) la' rest)) → W p l e R s m args below meth c H locs kc ks Q (F0 m fr.1 la (.ref x :: rest)))
    (k : am_A p l e R s m args below meth c nL G A kc ks Q fr') : am_A p l e R s m args below meth c nL G A kc ks Q fr := by
  obtain ⟨pc, ls, st, σ⟩ := fr
  unfold am_ast at h
  split at h
  · rename_i pc ls o kk j st σ e
    cases hn : (Nat.beq n d && Nat.ble (i + 1) nL)
    · rw [hn] at h; cases h
    · rw [hn] at h
      cases h
      cases e
      rw [Bool.and_eq_true] at hn
      exact am_store (v := am_r o kk j) (Nat.le_of_ble_eq_true hn.2) (fun H locs la lv lv' a b k => hrow H locs la _ _ lv lv' (Nat.eq_of_beq_eq_true hn.1) (Nat.le_of_ble_eq_true hn.2) a b k) k
  · cases h
theorem am_lst_s {i d n : Nat} {fr fr' : am_F} {ob : Prop} (h : am_lst nL i d n fr = some (fr', ob))
    (hrow : ∀ (H : Heap) (locs : List Loc) (la : Array Slot) (rest : List Value) (x : Int64) (lv lv' : List (Nat × Value)), n = d → i + 1 < nL → lv_has la nL lv → (i, Value.long x) :: lv.filter (fun q => !(q.1 == i) && (!(q.1 == i + 1) && !(q.1 + 1 == i && q.2.category == 2))) = lv' → (∀ la' : Array Slot, lv_has la' nL lv' → W p l e R s m args below meth c H locs kc ks Q (F0 m (fr.1 + d) la' rest)) → W p l e R s m args below meth c H locs kc ks Q (F0 m fr.1 la (.long x :: rest)))
    (k : am_A p l e R s m args below meth c nL G A kc ks Q fr') : am_A p l e R s m args below meth c nL G A kc ks Q fr := by
  obtain ⟨pc, ls, st, σ⟩ := fr
  unfold am_lst at h
  split at h
  · rename_i pc ls x st σ e
    cases hn : (Nat.beq n d && Nat.ble (i + 2) nL)
    · rw [hn] at h; cases h
    · rw [hn] at h
      cases h
      cases e
      rw [Bool.and_eq_true] at hn
      exact am_store2 (v := .inr (.inl x)) (Nat.le_of_ble_eq_true hn.2) (fun H locs la lv lv' a b k => hrow H locs la _ x lv lv' (Nat.eq_of_beq_eq_true hn.1) (Nat.le_of_ble_eq_true hn.2) a b k) k
  · cases h
theorem am_inc_s (hx : p.tables.exec = Jvm.exec) (hb : c.code = cc) {i n : Nat} {z : Int} {fr fr' : am_F} {ob : Prop} (h : am_inc nL i z n fr = some (fr', ob)) (hd : decode cc fr.1 = .ok (.iinc i z, n))
    (k : am_A p l e R s m args below meth c nL G A kc ks Q fr') : am_A p l e R s m args below meth c nL G A kc ks Q fr := by
  obtain ⟨pc, ls, st, σ⟩ := fr
  dsimp only [am_inc] at h
  cases hn : (Nat.beq n 3 && Nat.ble (i + 1) nL)
  · rw [hn] at h; cases h
  · rw [hn] at h
    simp only [cond_true] at h
    split at h
    · rename_i x hxx
      cases h
      rw [Bool.and_eq_true] at hn
      have hn3 := Nat.eq_of_beq_eq_true hn.1
      subst hn3
      intro H locs la hW hL hF h1 h2 hl
      obtain ⟨kk, hkk⟩ := List.getElem?_of_mem (List.mem_map.mpr ⟨(i, .inl x), am_lk_mem hxx, rfl⟩ : (i, am_v G (.inl x)) ∈ ls.map (fun q => (q.1, am_v G q.2)))
      exact lv_iinc hx hb hd hl hkk rfl (Nat.le_of_ble_eq_true hn.2) rfl fun la' h' => k H locs la' hW hL hF (am_live_ins (v := .inl _) trivial h1) h2 (am_has_st (v := .inl _) h')
    · cases h
theorem am_goto_s (hx : p.tables.exec = Jvm.exec) (hb : c.code = cc) {off : Int} {n : Nat} {fr fr' : am_F} {ob : Prop} (h : am_goto off n fr = some (fr', ob)) (hd : decode cc fr.1 = .ok (.goto off, n))
    (k : am_A p l e R s m args below meth c nL G A kc ks Q fr') : am_A p l e R s m args below meth c nL G A kc ks Q fr := by
  obtain ⟨pc, ls, st, σ⟩ := fr
  dsimp only [am_goto] at h
  cases hn : (Nat.beq n 3 && decide (0 ≤ (pc : Int) + off))
  · rw [hn] at h; cases h
  · rw [hn] at h
    cases h
    rw [Bool.and_eq_true] at hn
    have hn3 := Nat.eq_of_beq_eq_true hn.1
    subst hn3
    exact am_step0 (fun _ h2 => h2) (fun H locs la _ k => lv_goto hx hb hd (Int.toNat_of_nonneg (of_decide_eq_true hn.2)).symm k) k
end AMS
end
section
/-! ===== the heap ===== -/
theorem am_cl_lt : ∀ k, k < 77 → (am_kd k).1 = 0 → (am_kd k).2.2.2 < 9 := by decide +kernel
theorem am_cl_n : ∀ k, k < 77 → (am_kd k).1 = 0 → (am_cl k).2.2 = (am_kd k).2.1 := by decide +kernel
theorem am_cl_own : ∀ k, k < 77 → (am_kd k).1 = 0 → ∀ f, f < (am_kd k).2.1 → ((am_cl k).2.1 f).1 = (am_cl k).1 := by decide +kernel
theorem am_cl_nm : ∀ c, c < 9 → ∀ a, a < (vwCl.getD c (RX0, TX0, 8)).2.2 → ∀ b, b < (vwCl.getD c (RX0, TX0, 8)).2.2 → a ≠ b → ((vwCl.getD c (RX0, TX0, 8)).2.1 a).2.1 ≠ ((vwCl.getD c (RX0, TX0, 8)).2.1 b).2.1 := by decide +kernel
theorem am_cl_ty : ∀ c, c < 9 → ∀ a, a < (vwCl.getD c (RX0, TX0, 8)).2.2 → (parseFieldDescriptor ((vwCl.getD c (RX0, TX0, 8)).2.1 a).2.2.1).isSome = true := by decide +kernel
theorem am_cl_I : ∀ k, k < 77 → (am_kd k).1 = 0 → ∀ f, f < (am_kd k).2.1 → (am_fd k f).1 = 0 → ((am_cl k).2.1 f).2.2.1 = "I" := by decide +kernel
theorem am_cl_Z : ∀ k, k < 77 → (am_kd k).1 = 0 → ∀ f, f < (am_kd k).2.1 → (am_fd k f).1 = 5 → ((am_cl k).2.1 f).2.2.1 = "Z" := by decide +kernel
theorem am_cl_dyn : ∀ f, f < 48 → (am_fd 40 f).1 = 0 ∨ (am_fd 40 f).1 = 5 → f ≠ 26 ∧ f ≠ 27 := by decide +kernel
theorem am_arr8b : ∀ o, o < 10 → ∀ k, k < 77 → (!am_ok o k || !((am_kd k).1 == 2 || (am_kd k).1 == 3 || Nat.ble (k + 1) 34 || Nat.ble 37 k) || decide (o < 8)) = true := by decide +kernel
theorem am_arr8 {o k : Nat} (h : am_ok o k = true) (hk : ((am_kd k).1 == 2 || (am_kd k).1 == 3 || Nat.ble (k + 1) 34 || Nat.ble 37 k) = true) : o < 8 := by
  have h2 := am_arr8b o (am_ok_lt h).1 k (am_ok_lt h).2
  rw [h, hk] at h2
  exact of_decide_eq_true h2
theorem am_40 : ∀ o, o < 10 → ∀ k, k < 77 → (am_kd k).1 ≠ 0 → k ≠ 40 := by decide +kernel
set_option maxRecDepth 100000 in
theorem am_lays : ∀ c, c < 9 → ∀ w ∈ u_ws (vwCl.getD c (RX0, TX0, 8)).1 (vwCl.getD c (RX0, TX0, 8)).2.1 (vwCl.getD c (RX0, TX0, 8)).2.2, w ∈ am_tb := by decide +kernel
theorem am_cl_at {k : Nat} (hk : k < 77) (h0 : (am_kd k).1 = 0) : vwCl[(am_kd k).2.2.2]? = some (am_cl k) := by
  have h := am_cl_lt k hk h0
  unfold am_cl
  rw [List.getD_eq_getElem?_getD]
  cases e : vwCl[(am_kd k).2.2.2]? with
  | none =>
    have := List.getElem?_eq_none_iff.mp e
    exact absurd h (Nat.not_lt.mpr this)
  | some x => rfl
theorem am_at0 {G : am_G} {s : am_S} {o k i : Nat} {H : Heap} (hk : (am_kd k).1 = 0) : am_at G s o k i H = t_OB (am_ad G o k i) (G.1.1 (am_kd k).2.2.2) (am_kd k).2.1 (G.1.2 (am_kd k).2.2.2) H (fun f => am_fv G s o k f) := by
  unfold am_at
  generalize am_kd k = z at hk ⊢
  obtain ⟨t, n, c, x⟩ := z
  subst hk
  rfl
theorem am_at1 {G : am_G} {s : am_S} {o k i : Nat} {H : Heap} (hk : (am_kd k).1 = 1) : am_at G s o k i H = (H[am_ad G o k i]? = some (arrV (G.2.1 0) (am_kd k).2.1 (fun j => .int (s.1 o k i j)))) := by
  unfold am_at
  generalize am_kd k = z at hk ⊢
  obtain ⟨t, n, c, x⟩ := z
  subst hk
  rfl
theorem am_at2 {G : am_G} {s : am_S} {o k i : Nat} {H : Heap} (hk : (am_kd k).1 = 2) : am_at G s o k i H = (H[am_ad G o k i]? = some (arrV (G.2.1 1) (am_kd k).2.1 (fun j => .long (s.2 o k i j)))) := by
  unfold am_at
  generalize am_kd k = z at hk ⊢
  obtain ⟨t, n, c, x⟩ := z
  subst hk
  rfl
theorem am_at3 {G : am_G} {s : am_S} {o k i : Nat} {H : Heap} (hk : (am_kd k).1 = 3) : am_at G s o k i H = (H[am_ad G o k i]? = some (arrV (G.2.1 2) (am_kd k).2.1 (fun j => .int (s.1 o k i j)))) := by
  unfold am_at
  generalize am_kd k = z at hk ⊢
  obtain ⟨t, n, c, x⟩ := z
  subst hk
  rfl
theorem am_at4 {G : am_G} {s : am_S} {o k i : Nat} {H : Heap} (hk : (am_kd k).1 = 4) : am_at G s o k i H = (H[am_ad G o k i]? = some (arrV (G.2.1 3) (am_kd k).2.1 (fun j => .ref (am_ad G o (am_kd k).2.2.2 j)))) := by
  unfold am_at
  generalize am_kd k = z at hk ⊢
  obtain ⟨t, n, c, x⟩ := z
  subst hk
  rfl
theorem am_at5 {G : am_G} {s : am_S} {o k i : Nat} {H : Heap} (hk : (am_kd k).1 = 5) : am_at G s o k i H = (H[am_ad G o k i]? = some (arrV (G.2.1 4) (am_kd k).2.1 (fun j => .ref (am_ad G o (am_kd k).2.2.2 j)))) := by
  unfold am_at
  generalize am_kd k = z at hk ⊢
  obtain ⟨t, n, c, x⟩ := z
  subst hk
  rfl
theorem am_at6 {G : am_G} {s : am_S} {o k i : Nat} {H : Heap} (hk : (am_kd k).1 = 6) : am_at G s o k i H = (H[am_ad G o k i]? = some (arrV (G.2.1 5) (am_kd k).2.1 (fun j => .ref (am_ad G o (am_kd k).2.2.2 j)))) := by
  unfold am_at
  generalize am_kd k = z at hk ⊢
  obtain ⟨t, n, c, x⟩ := z
  subst hk
  rfl
theorem am_C.kept {G : am_G} {U : State} {H H1 : Heap} (h : am_C G U H) (hq : ∀ a : Nat, ¬ am_fr G a → H1[a]? = H[a]?) : am_C G U H1 := fun q => ⟨va_Z.kept (h q).1 fun a _ => hq a, va_Z.kept (h q).2 fun a _ => hq a⟩
theorem am_W.put {G : am_G} {σ σ' : am_S} {o k i : Nat} {U : State} {H H1 : Heap} (hW : am_W G σ U H) (hl : am_lv G o k i) (h8 : o < 8) (hat : am_at G σ' o k i H1) (oq : ∀ q, q ≠ am_ad G o k i → H1[q]? = H[q]?)
    (hot : ∀ o' k' i', am_lv G o' k' i' → ¬ (o' = o ∧ k' = k ∧ i' = i) → am_at G σ o' k' i' H1 → am_at G σ' o' k' i' H1) (hdyn : ∀ o', σ'.1 o' 40 0 26 = σ.1 o' 40 0 26 ∧ σ'.1 o' 40 0 27 = σ.1 o' 40 0 27) : am_W G σ' U H1 := by
  refine ⟨fun o' k' i' hl' => ?_, hW.2.1, fun o' h1 h2 => ?_, hW.2.2.2.kept fun a ha => oq a fun e => ha ⟨o, k, i, hl, h8, e⟩⟩
  · by_cases e : o' = o ∧ k' = k ∧ i' = i
    · obtain ⟨rfl, rfl, rfl⟩ := e
      exact hat
    · exact hot o' k' i' hl' e ((hW.1 o' k' i' hl').kept (oq _ fun q => e (hW.2.1 _ _ _ _ _ _ hl' hl q)))
  · rw [(hdyn o').1, (hdyn o').2]
    exact hW.2.2.1 o' h1 h2
theorem am_W.set {G : am_G} {σ : am_S} {o k i j : Nat} {x : Int32} {U : State} {H H1 : Heap} (hW : am_W G σ U H) (hl : am_lv G o k i) (h8 : o < 8) (hat : am_at G (am_u σ o k i j x) o k i H1) (oq : ∀ q, q ≠ am_ad G o k i → H1[q]? = H[q]?)
    (hdyn : k = 40 → j ≠ 26 ∧ j ≠ 27) : am_W G (am_u σ o k i j x) U H1 :=
  hW.put hl h8 hat oq (fun o' k' i' hl' hne h => h.other hne (am_obj0 hl')) fun o' => ⟨if_neg fun q => (hdyn q.1.symm).1 q.2.1.symm, if_neg fun q => (hdyn q.1.symm).2 q.2.1.symm⟩
theorem am_W.setL {G : am_G} {σ : am_S} {o k i j : Nat} {x : Int64} {U : State} {H H1 : Heap} (hW : am_W G σ U H) (hl : am_lv G o k i) (h8 : o < 8) (hat : am_at G (am_ul σ o k i j x) o k i H1) (oq : ∀ q, q ≠ am_ad G o k i → H1[q]? = H[q]?) : am_W G (am_ul σ o k i j x) U H1 :=
  hW.put hl h8 hat oq (fun o' k' i' _ hne h => h.otherL hne) fun _ => ⟨rfl, rfl⟩
section AMH
variable {p : Program} {l : Launch} {e : Env} {R : Room} {s : State} {m : MethodId} {args : Array Value} {below : List Frame} {meth : Method} {c : Code} {cc : ByteArray} {own : String} {nL : Nat} {P : am_P} {G : am_G} {A : Nat → Prop} {kc ks : Nat} {Q : State → Prop}
/-- what the tables say of a field of the pool -/
theorem am_link (X : am_X p s m args c cc own nL P G A) {idx k f : Nat} (h : am_lk P.1 idx = some (k, f)) : (Cond.fieldLink own idx (am_cl k).1 ((am_cl k).2.1 f).2.1 ((am_cl k).2.1 f).2.2.1).before args s = true := by
  obtain ⟨-, -, -, -, hts, hp, -⟩ := X
  unfold am_pok at hp
  simp only [Bool.and_eq_true] at hp
  exact hts _ (of_decide_eq_true (List.all_eq_true.mp hp.1.1.1 _ (am_lk_mem h)))
theorem am_get_s (X : am_X p s m args c cc own nL P G A) {idx n : Nat} {fr fr' : am_F} {ob : Prop} (h : am_get P idx n fr = some (fr', ob)) (hd : decode cc fr.1 = .ok (.getfield idx, n))
    (kk : am_A p l e R s m args below meth c nL G A kc ks Q fr') : am_A p l e R s m args below meth c nL G A kc ks Q fr := by
  obtain ⟨pc, ls, st, σ⟩ := fr
  unfold am_get at h
  split at h
  · rename_i pc ls o k i st σ e
    cases e
    cases hn : Nat.beq n 3
    · rw [hn] at h; cases h
    rw [hn] at h
    have hn3 := Nat.eq_of_beq_eq_true hn
    subst hn3
    simp only [cond_true] at h
    split at h
    · rename_i k' f hlk
      cases hc : (Nat.beq k k' && (Nat.beq (am_kd k).1 0 && Nat.ble (f + 1) (am_kd k).2.1))
      · rw [hc] at h; cases h
      rw [hc] at h
      simp only [Bool.and_eq_true] at hc
      have hk := Nat.eq_of_beq_eq_true hc.1
      subst hk
      have h0 := Nat.eq_of_beq_eq_true hc.2.1
      have hf : f < (am_kd k).2.1 := Nat.le_of_ble_eq_true hc.2.2
      intro H locs la hW hL hF h1 h2 hl
      have hlv : am_lv G o k i := (am_tl h2).1
      obtain ⟨hx, hb, -, hown, hts, -, hU, hA⟩ := id X
      have hk77 := (am_ok_lt hlv.2.1).2
      have hi0 := am_obj0 hlv h0
      have hat := hW.1 o k i hlv
      rw [am_at0 h0] at hat
      obtain ⟨cell, q1, q2, q3, q4⟩ := hat
      have hcl := am_cl_at hk77 h0
      obtain ⟨hS, hfc, kC, hkC, hkind⟩ := hU.1.1 _ _ hcl
      have hfN : f < (am_cl k).2.2 := by rw [am_cl_n k hk77 h0]; exact hf
      obtain ⟨cf, kf, fi, fd, hi, hsl⟩ := hS f hfN
      have hownf := am_cl_own k hk77 h0 f hf
      rw [hownf] at hi
      have hin : ∀ w ∈ u_ws (am_cl k).1 (am_cl k).2.1 (am_cl k).2.2, w ∈ am_tb := am_lays _ (am_cl_lt k hk77 h0)
      have hlay := u_lays hts hin hfN
      rw [hownf] at hlay
      have hch := am_chk_at hlv.2.1
      rw [Bool.and_eq_true] at hch
      have hch1 := List.all_eq_true.mp hch.1 f (List.mem_range.mpr (by
        have h3 := hch.2
        generalize am_kd k = z at h0 h3 hf
        obtain ⟨t, n, c', x⟩ := z
        subst h0
        simp only [Bool.and_eq_true, decide_eq_true_eq] at h3
        exact Nat.lt_of_lt_of_le hf h3.1.2))
      have key : ∀ v : am_V, am_fv G σ o k f = am_v G v → am_lV G v → am_A p l e R s m args below meth c nL G A kc ks Q (pc + 3, ls, v :: st, σ) → W p l e R s m args below meth c H locs kc ks Q (F0 m pc la ((am_r o k i :: st).map (am_v G))) := by
        intro v hv hvl ka
        refine W.getf (v := am_v G v) hx hb hown (am_link X hlk) hi (u_facts hfc hkC hlay hi).1 q1 (by rw [q3]; exact fun h => by cases h) (by rw [hsl]; exact (q4 f hf).trans (congrArg some hv)) rfl rfl hd ?_
        exact ka H locs la hW hL hF h1 (am_lcons hvl (am_tl h2).2) hl
      simp only [cond_true] at h
      split at h
      · rename_i e
        cases h
        exact key (am_i (σ.1 o k 0 f)) (by unfold am_fv; rw [e]; rfl) trivial kk
      · rename_i e
        cases h
        exact key (am_i (σ.1 o k 0 f)) (by unfold am_fv; rw [e]; rfl) trivial kk
      · rename_i x y e
        cases h
        rw [e] at hch1
        simp only [Bool.and_eq_true, decide_eq_true_eq] at hch1
        exact key (am_r o x 0) (by unfold am_fv; rw [e]; rfl) ⟨hlv.1, hch1.1, hch1.2⟩ kk
      · rename_i x y e
        cases h
        rw [e] at hch1
        simp only [Bool.and_eq_true, Bool.or_eq_true, decide_eq_true_eq, beq_iff_eq] at hch1
        refine key (am_r x y 0) (by unfold am_fv; rw [e]; rfl) ⟨?_, hch1.1.1, hch1.1.2⟩ kk
        have hl0 := hlv.1
        rw [hch1.2.1] at hl0
        have h3 := hU.2.2.1 hl0
        rcases hch1.2.2 with (z | z) | z
        · rw [z]; exact h3.1
        · rw [z]; exact h3.2.1
        · rw [z]; exact h3.2.2
      · cases h
    · cases h
  · cases h
theorem am_put_s (X : am_X p s m args c cc own nL P G A) {idx n : Nat} {fr fr' : am_F} {ob : Prop} (h : am_put P idx n fr = some (fr', ob)) (ho : ob) (hd : decode cc fr.1 = .ok (.putfield idx, n))
    (kk : am_A p l e R s m args below meth c nL G A kc ks Q fr') : am_A p l e R s m args below meth c nL G A kc ks Q fr := by
  obtain ⟨pc, ls, st, σ⟩ := fr
  unfold am_put at h
  split at h
  · rename_i pc ls v o k i st σ e
    cases e
    cases hn : Nat.beq n 3
    · rw [hn] at h; cases h
    rw [hn] at h
    have hn3 := Nat.eq_of_beq_eq_true hn
    subst hn3
    simp only [cond_true] at h
    split at h
    · rename_i k' f hlk
      cases hc : (Nat.beq k k' && (Nat.beq (am_kd k).1 0 && (Nat.ble (f + 1) (am_kd k).2.1 && !((am_cl k).2.1 f).2.2.2)))
      · rw [hc] at h; cases h
      rw [hc] at h
      simp only [Bool.and_eq_true, Bool.not_eq_true'] at hc
      have hk := Nat.eq_of_beq_eq_true hc.1
      subst hk
      have h0 := Nat.eq_of_beq_eq_true hc.2.1
      have hf : f < (am_kd k).2.1 := Nat.le_of_ble_eq_true hc.2.2.1
      have hfin := hc.2.2.2
      intro H locs la hW hL hF h1 h2 hl
      have hlv : am_lv G o k i := (am_tl (am_tl h2).2).1
      obtain ⟨hx, hb, -, hown, hts, -, hU, hA⟩ := id X
      have hk77 := (am_ok_lt hlv.2.1).2
      have hi0 := am_obj0 hlv h0
      subst hi0
      have hat := hW.1 o k 0 hlv
      rw [am_at0 h0] at hat
      obtain ⟨cell, q1, q2, q3, q4⟩ := hat
      have hcl := am_cl_at hk77 h0
      obtain ⟨hS, hfc, kC, hkC, hkind⟩ := id (hU.1.1 _ _ hcl)
      have hfN : f < (am_cl k).2.2 := by rw [am_cl_n k hk77 h0]; exact hf
      obtain ⟨cf, kf, fi, fd, hi, hsl⟩ := hS f hfN
      have hownf := am_cl_own k hk77 h0 f hf
      have hclt := am_cl_lt k hk77 h0
      have hin : ∀ w ∈ u_ws (am_cl k).1 (am_cl k).2.1 (am_cl k).2.2, w ∈ am_tb := am_lays _ hclt
      have hap := va_apart (own := own) hts hin (fun f => (parseFieldDescriptor ((am_cl k).2.1 f).2.2.1).getD .int) (fun j hj => by
        have h9 := am_cl_ty _ hclt j hj
        cases e9 : parseFieldDescriptor ((am_cl k).2.1 j).2.2.1 with
        | none => exact absurd (by unfold am_cl at e9; rw [e9] at h9; exact h9) (by decide)
        | some z => rfl) (am_cl_nm _ hclt) hU.1 hcl
      have hlay := u_lays hts hin hfN
      have hst := (u_facts hfc hkC hlay hi).1
      have hlay2 := hts _ (hin _ (u_in_lay hfN))
      unfold u_lay at hlay2
      rw [if_neg (by rw [hfin]; decide)] at hlay2
      have hch := am_chk_at hlv.2.1
      rw [Bool.and_eq_true] at hch
      have h8 : o < 8 ∧ f < 48 := by
        have h3 := hch.2
        generalize am_kd k = z at h0 h3 hf
        obtain ⟨t, n, c', x⟩ := z
        subst h0
        simp only [Bool.and_eq_true, decide_eq_true_eq] at h3
        exact ⟨h3.2, Nat.lt_of_lt_of_le hf h3.1.2⟩
      have key : ∀ ty : FieldType, ((am_fd k f).1 = 0 ∨ (am_fd k f).1 = 5) → parseFieldDescriptor ((am_cl k).2.1 f).2.2.1 = some ty → narrow ty (.int v) = .int v → fits ty (.int v) = true → am_A p l e R s m args below meth c nL G A kc ks Q (pc + 3, ls, st, am_u σ o k 0 f v) → W p l e R s m args below meth c H locs kc ks Q (F0 m pc la ((am_i v :: am_r o k 0 :: st).map (am_v G))) := by
        intro ty h05 hty hnw hfit ka
        have h6 := u_store hfc hkC hkind hlay2 hi hty hnw hfit
        rw [hownf] at hi
        refine W.putK hx hb (f := fd) (v := .int v) ⟨hown, am_link X hlk, ⟨_, _, _, hi⟩, hst⟩ (by rw [q2]; exact h6) q1 q3 (by rw [hsl]; exact k2_hasslot (q4 f hf)) rfl rfl hd fun H' e1 e2 e3 => ?_
        rw [hsl] at e1 ⊢
        refine ka H' _ la (hW.set hlv h8.1 ?_ e3 (fun e40 => ?_)) (fun q hq => ?_) ⟨Nat.le_trans hF.1 (Nat.le_of_eq e2.symm), fun q hz hq => ?_⟩ h1 (am_tl (am_tl h2).2).2 hl
        · rw [am_at0 h0]
          rw [am_cl_n k hk77 h0] at hap
          refine ⟨_, e1, q2, q3, fun j hj => ?_⟩
          rw [t_set q4 hap hf (.int v) j hj]
          refine congrArg some ?_
          show updV (fun f => am_fv G σ o k f) f (.int v) j = am_fv G (am_u σ o k 0 f v) o k j
          by_cases ej : j = f
          · subst ej
            have e7 : (am_u σ o k 0 j v).1 o k 0 j = v := if_pos ⟨rfl, rfl, rfl, rfl⟩
            unfold updV
            rw [if_pos rfl]
            unfold am_fv
            rcases h05 with z | z
            · generalize am_fd k j = y at z ⊢
              obtain ⟨t, x, y⟩ := y
              subst z
              show Value.int v = Value.int _
              rw [e7]
            · generalize am_fd k j = y at z ⊢
              obtain ⟨t, x, y⟩ := y
              subst z
              show Value.int v = Value.int _
              rw [e7]
          · have e7 : (am_u σ o k 0 f v).1 o k 0 j = σ.1 o k 0 j := if_neg fun q => ej q.2.1
            unfold updV
            rw [if_neg ej]
            unfold am_fv
            rw [e7]
        · subst e40
          exact am_cl_dyn f h8.2 h05
        · rcases List.mem_append.mp hq with hq | hq
          · exact hL q hq
          · rw [List.mem_singleton.mp hq]
            exact hA _ ⟨o, k, 0, hlv, h8.1, rfl⟩
        · rw [e3 q fun z => hq (hA _ ⟨o, k, 0, hlv, h8.1, z⟩)]
          exact hF.2 q hz hq
      simp only [cond_true] at h
      split at h
      · rename_i e
        cases h
        exact key .int (Or.inl (by rw [e])) (by rw [am_cl_I k hk77 h0 f hf (by rw [e])]; decide +kernel) rfl rfl kk
      · rename_i e
        cases h
        rcases ho with rfl | rfl
        · exact key .boolean (Or.inr (by rw [e])) (by rw [am_cl_Z k hk77 h0 f hf (by rw [e])]; decide +kernel) rfl rfl kk
        · exact key .boolean (Or.inr (by rw [e])) (by rw [am_cl_Z k hk77 h0 f hf (by rw [e])]; decide +kernel) rfl rfl kk
      · cases h
    · cases h
  · cases h
theorem am_ex {σ : am_S} {o k i : Nat} {x : Int32} {j q : Nat} : (am_u σ o k i j x).1 o k i q = upd (fun q => σ.1 o k i q) j x q := by
  unfold upd
  by_cases h : q = j
  · rw [if_pos h]
    exact if_pos ⟨rfl, h, rfl, rfl⟩
  · rw [if_neg h]
    exact if_neg fun z => h z.2.1
theorem am_exL {σ : am_S} {o k i : Nat} {x : Int64} {j q : Nat} : (am_ul σ o k i j x).2 o k i q = vp_updL (fun q => σ.2 o k i q) j x q := by
  unfold vp_updL
  by_cases h : q = j
  · rw [if_pos h]
    exact if_pos ⟨rfl, h, rfl, rfl⟩
  · rw [if_neg h]
    exact if_neg fun z => h z.2.1
theorem am_gets_s (X : am_X p s m args c cc own nL P G A) {idx n : Nat} {fr fr' : am_F} {ob : Prop} (h : am_gets P idx n fr = some (fr', ob)) (hd : decode cc fr.1 = .ok (.getstatic idx, n))
    (kk : am_A p l e R s m args below meth c nL G A kc ks Q fr') : am_A p l e R s m args below meth c nL G A kc ks Q fr := by
  obtain ⟨pc, ls, st, σ⟩ := fr
  dsimp only [am_gets] at h
  cases hn : Nat.beq n 3
  · rw [hn] at h; cases h
  rw [hn] at h
  have hn3 := Nat.eq_of_beq_eq_true hn
  subst hn3
  simp only [cond_true] at h
  split at h
  · rename_i o k hlk
    cases h
    intro H locs la hW hL hF h1 h2 hl
    obtain ⟨hx, hb, -, hown, hts, hp, hU, hA⟩ := id X
    unfold am_pok at hp
    simp only [Bool.and_eq_true] at hp
    have h3 := List.all_eq_true.mp hp.1.1.2 _ (am_lk_mem hlk)
    simp only [Bool.and_eq_true, Bool.or_eq_true, beq_iff_eq, decide_eq_true_eq] at h3
    have h8 := hU.2.2.2.1
    have hC := hW.2.2.2 h8
    obtain ⟨rfl, h4⟩ := h3
    have key : ∀ C n : String, k < 36 → am_ok 8 k = true → (am_kd k).2.2.1 = 1 → va_Z C n "[I" (.ref (am_ad G 8 k 0)) (am_fr G) s H → (Cond.fieldLink own idx C n "[I").before args s = true → W p l e R s m args below meth c H locs kc ks Q (F0 m pc la (st.map (am_v G))) := by
      intro C n hk hok hcnt hZ hlink
      obtain ⟨cf, kf, fi, f, a, cell, g1, g2, g3, g4, g5, g6, g7, g8⟩ := hZ
      refine W.gets hx hb hown hlink g1 g2 g3 g4 g5 (fun e => by rw [e] at g6; cases g6) g7 rfl hd ?_
      exact kk H locs la hW hL hF h1 (am_lcons (v := am_r 8 k 0) ⟨h8, hok, by rw [hcnt]; exact Nat.zero_lt_one⟩ h2) hl
    rcases h4 with ⟨h5, h6⟩ | ⟨h5, h6⟩
    · have h5' : k = 34 := h5
      subst h5'
      exact key _ _ (by decide) (by decide +kernel) (by decide +kernel) hC.1 (hts _ h6)
    · have h5' : k = 35 := h5
      subst h5'
      exact key _ _ (by decide) (by decide +kernel) (by decide +kernel) hC.2 (hts _ h6)
  · cases h
theorem am_iald_s (X : am_X p s m args c cc own nL P G A) {n : Nat} {fr fr' : am_F} {ob : Prop} (h : am_iald n fr = some (fr', ob)) (ho : ob) (hd : decode cc fr.1 = .ok (.iaload, n))
    (kk : am_A p l e R s m args below meth c nL G A kc ks Q fr') : am_A p l e R s m args below meth c nL G A kc ks Q fr := by
  obtain ⟨pc, ls, st, σ⟩ := fr
  unfold am_iald at h
  split at h
  · rename_i pc ls j o k i st σ e
    cases e
    cases hn : (Nat.beq n 1 && Nat.beq (am_kd k).1 1)
    · rw [hn] at h; cases h
    rw [hn] at h
    cases h
    rw [Bool.and_eq_true] at hn
    have hn3 := Nat.eq_of_beq_eq_true hn.1
    subst hn3
    intro H locs la hW hL hF h1 h2 hl
    obtain ⟨hx, hb, -, hown, hts, -, hU, hA⟩ := id X
    have hlv : am_lv G o k i := (am_tl (am_tl h2).2).1
    have hat := hW.1 o k i hlv
    rw [am_at1 (Nat.eq_of_beq_eq_true hn.2)] at hat
    have hlt : j.toNatClampNeg < (am_kd k).2.1 := Nat.not_le.mp fun q => ho (Or.inr q)
    refine W.iald (v := .int (σ.1 o k i j.toNatClampNeg)) hx hb hat ((hU.1.2 0 _ rfl).1 _ _) (fun q => by cases q) (by rw [arrV_size]; exact ho) (arrV_read _ _ hlt) rfl rfl hd ?_
    exact kk H locs la hW hL hF h1 (am_lcons (v := .inl _) trivial (am_tl (am_tl h2).2).2) hl
  · cases h
theorem am_lald_s (X : am_X p s m args c cc own nL P G A) {n : Nat} {fr fr' : am_F} {ob : Prop} (h : am_lald n fr = some (fr', ob)) (ho : ob) (hd : decode cc fr.1 = .ok (.laload, n))
    (kk : am_A p l e R s m args below meth c nL G A kc ks Q fr') : am_A p l e R s m args below meth c nL G A kc ks Q fr := by
  obtain ⟨pc, ls, st, σ⟩ := fr
  unfold am_lald at h
  split at h
  · rename_i pc ls j o k i st σ e
    cases e
    cases hn : (Nat.beq n 1 && Nat.beq (am_kd k).1 2)
    · rw [hn] at h; cases h
    rw [hn] at h
    cases h
    rw [Bool.and_eq_true] at hn
    have hn3 := Nat.eq_of_beq_eq_true hn.1
    subst hn3
    intro H locs la hW hL hF h1 h2 hl
    obtain ⟨hx, hb, -, hown, hts, -, hU, hA⟩ := id X
    have hlv : am_lv G o k i := (am_tl (am_tl h2).2).1
    have hat := hW.1 o k i hlv
    rw [am_at2 (Nat.eq_of_beq_eq_true hn.2)] at hat
    have hlt : j.toNatClampNeg < (am_kd k).2.1 := Nat.not_le.mp fun q => ho (Or.inr q)
    refine W.lald (v := .long (σ.2 o k i j.toNatClampNeg)) hx hb hat ((hU.1.2 1 _ rfl).1 _ _) (fun q => by cases q) (by rw [arrV_size]; exact ho) (arrV_read _ _ hlt) rfl rfl hd ?_
    exact kk H locs la hW hL hF h1 (am_lcons (v := .inr (.inl _)) trivial (am_tl (am_tl h2).2).2) hl
  · cases h
theorem am_zald_s (X : am_X p s m args c cc own nL P G A) {n : Nat} {fr fr' : am_F} {ob : Prop} (h : am_zald n fr = some (fr', ob)) (ho : ob) (hd : decode cc fr.1 = .ok (.baload, n))
    (kk : am_A p l e R s m args below meth c nL G A kc ks Q fr') : am_A p l e R s m args below meth c nL G A kc ks Q fr := by
  obtain ⟨pc, ls, st, σ⟩ := fr
  unfold am_zald at h
  split at h
  · rename_i pc ls j o k i st σ e
    cases e
    cases hn : (Nat.beq n 1 && Nat.beq (am_kd k).1 3)
    · rw [hn] at h; cases h
    rw [hn] at h
    cases h
    rw [Bool.and_eq_true] at hn
    have hn3 := Nat.eq_of_beq_eq_true hn.1
    subst hn3
    intro H locs la hW hL hF h1 h2 hl
    obtain ⟨hx, hb, -, hown, hts, -, hU, hA⟩ := id X
    have hlv : am_lv G o k i := (am_tl (am_tl h2).2).1
    have hat := hW.1 o k i hlv
    rw [am_at3 (Nat.eq_of_beq_eq_true hn.2)] at hat
    have hlt : j.toNatClampNeg < (am_kd k).2.1 := Nat.not_le.mp fun q => ho (Or.inr q)
    refine W.zald (v := .int (σ.1 o k i j.toNatClampNeg)) hx hb hat ((hU.1.2 2 _ rfl).1 _ _) (fun q => by cases q) (by rw [arrV_size]; exact ho) (arrV_read _ _ hlt) rfl rfl hd ?_
    exact kk H locs la hW hL hF h1 (am_lcons (v := .inl _) trivial (am_tl (am_tl h2).2).2) hl
  · cases h
theorem am_aald_s (X : am_X p s m args c cc own nL P G A) {n : Nat} {fr fr' : am_F} {ob : Prop} (h : am_aald n fr = some (fr', ob)) (ho : ob) (hd : decode cc fr.1 = .ok (.aaload, n))
    (kk : am_A p l e R s m args below meth c nL G A kc ks Q fr') : am_A p l e R s m args below meth c nL G A kc ks Q fr := by
  obtain ⟨pc, ls, st, σ⟩ := fr
  unfold am_aald at h
  split at h
  · rename_i pc ls j o k i st σ e
    cases e
    cases hn : (Nat.beq n 1 && (Nat.ble 4 (am_kd k).1 && Nat.ble (am_kd k).1 6))
    · rw [hn] at h; cases h
    rw [hn] at h
    cases h
    simp only [Bool.and_eq_true] at hn
    have hn3 := Nat.eq_of_beq_eq_true hn.1
    subst hn3
    intro H locs la hW hL hF h1 h2 hl
    obtain ⟨hx, hb, -, hown, hts, -, hU, hA⟩ := id X
    have hlv : am_lv G o k i := (am_tl (am_tl h2).2).1
    have hat := hW.1 o k i hlv
    have hlt : j.toNatClampNeg < (am_kd k).2.1 := Nat.not_le.mp fun q => ho (Or.inr q)
    have hch := am_chk_at hlv.2.1
    rw [Bool.and_eq_true] at hch
    have h456 : (am_kd k).1 = 4 ∨ (am_kd k).1 = 5 ∨ (am_kd k).1 = 6 := by
      have a := Nat.le_of_ble_eq_true hn.2.1
      have b := Nat.le_of_ble_eq_true hn.2.2
      omega
    have hx3 : am_ok o (am_kd k).2.2.2 = true ∧ (am_kd k).2.1 = (am_kd (am_kd k).2.2.2).2.2.1 := by
      have h3 := hch.2
      revert h3 h456
      generalize am_kd k = z
      obtain ⟨t, n, c', x⟩ := z
      intro h456 h3
      rcases h456 with e | e | e <;> (subst e; simp only [Bool.and_eq_true, beq_iff_eq] at h3; exact h3)
    have hnew : am_lV G (am_r o (am_kd k).2.2.2 j.toNatClampNeg) := ⟨hlv.1, hx3.1, by rw [← hx3.2]; exact hlt⟩
    have ka := kk H locs la hW hL hF h1 (am_lcons hnew (am_tl (am_tl h2).2).2) hl
    rcases h456 with e | e | e
    · rw [am_at4 e] at hat
      exact W.aald (v := .ref (am_ad G o (am_kd k).2.2.2 j.toNatClampNeg)) (ty := .array .int) hx hb hat ((hU.1.2 3 _ rfl).1 _ _) rfl (fun q => by cases q) (by rw [arrV_size]; exact ho) (arrV_read _ _ hlt) rfl rfl hd ka
    · rw [am_at5 e] at hat
      exact W.aald (v := .ref (am_ad G o (am_kd k).2.2.2 j.toNatClampNeg)) (ty := .array .long) hx hb hat ((hU.1.2 4 _ rfl).1 _ _) rfl (fun q => by cases q) (by rw [arrV_size]; exact ho) (arrV_read _ _ hlt) rfl rfl hd ka
    · rw [am_at6 e] at hat
      exact W.aald (v := .ref (am_ad G o (am_kd k).2.2.2 j.toNatClampNeg)) (ty := .array .boolean) hx hb hat ((hU.1.2 5 _ rfl).1 _ _) rfl (fun q => by cases q) (by rw [arrV_size]; exact ho) (arrV_read _ _ hlt) rfl rfl hd ka
  · cases h
theorem am_wr {H H' : Heap} {locs : List Loc} {o k i j : Nat} (hA : ∀ q, am_fr G q → A q) (hL : ∀ q ∈ locs, A q.base) (hF : s.heap.size ≤ H.size ∧ ∀ q, q < s.heap.size → ¬ A q → H[q]? = s.heap[q]?) (hlv : am_lv G o k i) (h8 : o < 8) (e2 : H'.size = H.size) (e3 : ∀ q, q ≠ am_ad G o k i → H'[q]? = H[q]?) :
    (∀ q ∈ locs ++ [⟨am_ad G o k i, j⟩], A q.base) ∧ (s.heap.size ≤ H'.size ∧ ∀ q, q < s.heap.size → ¬ A q → H'[q]? = s.heap[q]?) := by
  refine ⟨fun q hq => ?_, Nat.le_trans hF.1 (Nat.le_of_eq e2.symm), fun q hz hq => ?_⟩
  · rcases List.mem_append.mp hq with hq | hq
    · exact hL q hq
    · rw [List.mem_singleton.mp hq]
      exact hA _ ⟨o, k, i, hlv, h8, rfl⟩
  · rw [e3 q fun z => hq (hA _ ⟨o, k, i, hlv, h8, z⟩)]
    exact hF.2 q hz hq
theorem am_iast_s (X : am_X p s m args c cc own nL P G A) {n : Nat} {fr fr' : am_F} {ob : Prop} (h : am_iast n fr = some (fr', ob)) (ho : ob) (hd : decode cc fr.1 = .ok (.iastore, n))
    (kk : am_A p l e R s m args below meth c nL G A kc ks Q fr') : am_A p l e R s m args below meth c nL G A kc ks Q fr := by
  obtain ⟨pc, ls, st, σ⟩ := fr
  unfold am_iast at h
  split at h
  · rename_i pc ls x j o k i st σ e
    cases e
    cases hn : (Nat.beq n 1 && (Nat.beq (am_kd k).1 1 && (Nat.ble (k + 1) 34 || Nat.ble 37 k)))
    · rw [hn] at h; cases h
    rw [hn] at h
    cases h
    simp only [Bool.and_eq_true] at hn
    have hn3 := Nat.eq_of_beq_eq_true hn.1
    subst hn3
    intro H locs la hW hL hF h1 h2 hl
    obtain ⟨hx, hb, -, hown, hts, -, hU, hA⟩ := id X
    have hlv : am_lv G o k i := (am_tl (am_tl (am_tl h2).2).2).1
    have h8 : o < 8 := am_arr8 hlv.2.1 (by
      have := hn.2.2
      rw [Bool.or_eq_true] at this
      rcases this with z | z <;> simp [z])
    have hk1 := Nat.eq_of_beq_eq_true hn.2.1
    have hat := hW.1 o k i hlv
    rw [am_at1 hk1] at hat
    refine W.iast hx hb hat ((hU.1.2 0 _ rfl).1 _ _) (fun q => by cases q) (by rw [arrV_size]; exact ho) rfl rfl hd fun H' e1 e2 e3 => ?_
    obtain ⟨hL', hF'⟩ := am_wr (j := j.toNatClampNeg) hA hL hF hlv h8 e2 e3
    refine kk H' _ la (hW.set hlv h8 ?_ e3 (fun e40 => ?_)) hL' hF' h1 (am_tl (am_tl (am_tl h2).2).2).2 hl
    · rw [am_at1 hk1, e1, arrV_store]
      refine congrArg some (congrArg (arrV _ _) (funext fun q => ?_))
      rw [am_ex]
      unfold updV upd
      split <;> rfl
    · exact absurd e40 (am_40 0 (by decide) k (am_ok_lt hlv.2.1).2 (by rw [hk1]; decide))
  · cases h
theorem am_zast_s (X : am_X p s m args c cc own nL P G A) {n : Nat} {fr fr' : am_F} {ob : Prop} (h : am_zast n fr = some (fr', ob)) (ho : ob) (hd : decode cc fr.1 = .ok (.bastore, n))
    (kk : am_A p l e R s m args below meth c nL G A kc ks Q fr') : am_A p l e R s m args below meth c nL G A kc ks Q fr := by
  obtain ⟨pc, ls, st, σ⟩ := fr
  unfold am_zast at h
  split at h
  · rename_i pc ls x j o k i st σ e
    cases e
    cases hn : (Nat.beq n 1 && Nat.beq (am_kd k).1 3)
    · rw [hn] at h; cases h
    rw [hn] at h
    cases h
    simp only [Bool.and_eq_true] at hn
    have hn3 := Nat.eq_of_beq_eq_true hn.1
    subst hn3
    intro H locs la hW hL hF h1 h2 hl
    obtain ⟨hx, hb, -, hown, hts, -, hU, hA⟩ := id X
    have hlv : am_lv G o k i := (am_tl (am_tl (am_tl h2).2).2).1
    have hk1 := Nat.eq_of_beq_eq_true hn.2
    have h8 : o < 8 := am_arr8 hlv.2.1 (by rw [hk1]; rfl)
    have hat := hW.1 o k i hlv
    rw [am_at3 hk1] at hat
    refine W.zast hx hb hat ((hU.1.2 2 _ rfl).1 _ _) (fun q => by cases q) (by rw [arrV_size]; exact ho) rfl rfl hd fun H' e1 e2 e3 => ?_
    obtain ⟨hL', hF'⟩ := am_wr (j := j.toNatClampNeg) hA hL hF hlv h8 e2 e3
    refine kk H' _ la (hW.set hlv h8 ?_ e3 (fun e40 => ?_)) hL' hF' h1 (am_tl (am_tl (am_tl h2).2).2).2 hl
    · rw [am_at3 hk1, e1, arrV_store]
      refine congrArg some (congrArg (arrV _ _) (funext fun q => ?_))
      rw [am_ex]
      unfold updV upd
      split <;> rfl
    · exact absurd e40 (am_40 0 (by decide) k (am_ok_lt hlv.2.1).2 (by rw [hk1]; decide))
  · cases h
theorem am_last_s (X : am_X p s m args c cc own nL P G A) {n : Nat} {fr fr' : am_F} {ob : Prop} (h : am_last n fr = some (fr', ob)) (ho : ob) (hd : decode cc fr.1 = .ok (.lastore, n))
    (kk : am_A p l e R s m args below meth c nL G A kc ks Q fr') : am_A p l e R s m args below meth c nL G A kc ks Q fr := by
  obtain ⟨pc, ls, st, σ⟩ := fr
  unfold am_last at h
  split at h
  · rename_i pc ls x j o k i st σ e
    cases e
    cases hn : (Nat.beq n 1 && Nat.beq (am_kd k).1 2)
    · rw [hn] at h; cases h
    rw [hn] at h
    cases h
    simp only [Bool.and_eq_true] at hn
    have hn3 := Nat.eq_of_beq_eq_true hn.1
    subst hn3
    intro H locs la hW hL hF h1 h2 hl
    obtain ⟨hx, hb, -, hown, hts, -, hU, hA⟩ := id X
    have hlv : am_lv G o k i := (am_tl (am_tl (am_tl h2).2).2).1
    have hk1 := Nat.eq_of_beq_eq_true hn.2
    have h8 : o < 8 := am_arr8 hlv.2.1 (by rw [hk1]; rfl)
    have hat := hW.1 o k i hlv
    rw [am_at2 hk1] at hat
    refine W.last hx hb hat ((hU.1.2 1 _ rfl).1 _ _) (fun q => by cases q) (by rw [arrV_size]; exact ho) rfl rfl hd fun H' e1 e2 e3 => ?_
    obtain ⟨hL', hF'⟩ := am_wr (j := j.toNatClampNeg) hA hL hF hlv h8 e2 e3
    refine kk H' _ la (hW.setL hlv h8 ?_ e3) hL' hF' h1 (am_tl (am_tl (am_tl h2).2).2).2 hl
    rw [am_at2 hk1, e1, arrV_store]
    refine congrArg some (congrArg (arrV _ _) (funext fun q => ?_))
    rw [am_exL]
    unfold updV vp_updL
    split <;> rfl
  · cases h
theorem am_alen_s (X : am_X p s m args c cc own nL P G A) {n : Nat} {fr fr' : am_F} {ob : Prop} (h : am_alen n fr = some (fr', ob)) (hd : decode cc fr.1 = .ok (.arraylength, n))
    (kk : am_A p l e R s m args below meth c nL G A kc ks Q fr') : am_A p l e R s m args below meth c nL G A kc ks Q fr := by
  obtain ⟨pc, ls, st, σ⟩ := fr
  unfold am_alen at h
  split at h
  · rename_i pc ls o k i st σ e
    cases e
    cases hn : (Nat.beq n 1 && (Nat.ble 1 (am_kd k).1 && Nat.ble (am_kd k).1 6))
    · rw [hn] at h; cases h
    rw [hn] at h
    cases h
    simp only [Bool.and_eq_true] at hn
    have hn3 := Nat.eq_of_beq_eq_true hn.1
    subst hn3
    intro H locs la hW hL hF h1 h2 hl
    obtain ⟨hx, hb, -, hown, hts, -, hU, hA⟩ := id X
    have hlv : am_lv G o k i := (am_tl h2).1
    have hat := hW.1 o k i hlv
    have ka := kk H locs la hW hL hF h1 (am_lcons (v := .inl _) trivial (am_tl h2).2) hl
    have h16 : (am_kd k).1 = 1 ∨ (am_kd k).1 = 2 ∨ (am_kd k).1 = 3 ∨ (am_kd k).1 = 4 ∨ (am_kd k).1 = 5 ∨ (am_kd k).1 = 6 := by
      have a := Nat.le_of_ble_eq_true hn.2.1
      have b := Nat.le_of_ble_eq_true hn.2.2
      omega
    rcases h16 with z | z | z | z | z | z
    · rw [am_at1 z] at hat
      exact W.alen (n := Int32.ofNat (am_kd k).2.1) hx hb hat ((hU.1.2 0 _ rfl).1 _ _) (by rw [arrV_size] <;> rfl) rfl rfl hd ka
    · rw [am_at2 z] at hat
      exact W.alen (n := Int32.ofNat (am_kd k).2.1) hx hb hat ((hU.1.2 1 _ rfl).1 _ _) (by rw [arrV_size] <;> rfl) rfl rfl hd ka
    · rw [am_at3 z] at hat
      exact W.alen (n := Int32.ofNat (am_kd k).2.1) hx hb hat ((hU.1.2 2 _ rfl).1 _ _) (by rw [arrV_size] <;> rfl) rfl rfl hd ka
    · rw [am_at4 z] at hat
      exact W.alen (n := Int32.ofNat (am_kd k).2.1) hx hb hat ((hU.1.2 3 _ rfl).1 _ _) (by rw [arrV_size] <;> rfl) rfl rfl hd ka
    · rw [am_at5 z] at hat
      exact W.alen (n := Int32.ofNat (am_kd k).2.1) hx hb hat ((hU.1.2 4 _ rfl).1 _ _) (by rw [arrV_size] <;> rfl) rfl rfl hd ka
    · rw [am_at6 z] at hat
      exact W.alen (n := Int32.ofNat (am_kd k).2.1) hx hb hat ((hU.1.2 5 _ rfl).1 _ _) (by rw [arrV_size] <;> rfl) rfl rfl hd ka
  · cases h
end AMH
end
section
/-! ===== any instruction, and straight stretches ===== -/
section AMT
variable {p : Program} {l : Launch} {e : Env} {R : Room} {s : State} {m : MethodId} {args : Array Value} {below : List Frame} {meth : Method} {c : Code} {cc : ByteArray} {own : String} {nL : Nat} {P : am_P} {G : am_G} {A : Nat → Prop} {kc ks : Nat} {Q : State → Prop}
theorem am_1_s (X : am_X p s m args c cc own nL P G A) {i : Instr} {n : Nat} {fr fr' : am_F} {ob : Prop} (h : am_1 nL P i n fr = some (fr', ob)) (hd : decode cc fr.1 = .ok (i, n)) (ho : ob)
    (kk : am_A p l e R s m args below meth c nL G A kc ks Q fr') : am_A p l e R s m args below meth c nL G A kc ks Q fr := by
  obtain ⟨hx, hb, -, hown, hts, hpk, hU, hA⟩ := id X
  have hcI : ∀ idx v, am_lk P.2.2.1 idx = some v → (Cond.constant own idx v).before args s = true := fun idx v hv => by
    unfold am_pok at hpk
    simp only [Bool.and_eq_true] at hpk
    have h8 := List.all_eq_true.mp hpk.1.2 _ (am_lk_mem hv)
    simp only [decide_eq_true_eq] at h8
    exact hts _ h8
  have hcL : ∀ idx v, am_lk P.2.2.2 idx = some v → (Cond.constantLong own idx v).before args s = true := fun idx v hv => by
    unfold am_pok at hpk
    simp only [Bool.and_eq_true] at hpk
    have h8 := List.all_eq_true.mp hpk.2 _ (am_lk_mem hv)
    simp only [decide_eq_true_eq] at h8
    exact hts _ h8
  unfold am_1 at h
  split at h
  · exact am_push_s h trivial (fun H locs la rest en k => lv_iconst (v := Int32.ofInt _) hx hb (by rw [← en]; exact hd) rfl k) kk
  · exact am_push_s h trivial (fun H locs la rest en k => lv_bipush hx hb (by rw [← en]; exact hd) rfl k) kk
  · exact am_push_s h trivial (fun H locs la rest en k => lv_sipush hx hb (by rw [← en]; exact hd) rfl k) kk
  · exact am_push_s h trivial (fun H locs la rest en k => lv_lconst hx hb (by rw [← en]; exact hd) rfl k) kk
  · split at h
    · rename_i v hv
      exact am_push_s h trivial (fun H locs la rest en k => lv_ldc hx hb hown (hcI _ _ hv) (by rw [← en]; exact hd) k) kk
    · cases h
  · split at h
    · rename_i v hv
      exact am_push_s h trivial (fun H locs la rest en k => lv_ldcw hx hb hown (hcI _ _ hv) (by rw [← en]; exact hd) k) kk
    · cases h
  · split at h
    · rename_i v hv
      exact am_push_s h trivial (fun H locs la rest en k => lv_ldc2 hx hb hown (hcL _ _ hv) (by rw [← en]; exact hd) k) kk
    · cases h
  · exact am_ild_s h (fun H locs la rest x en hl k => lv_iload_n hx hb (by rw [← en]; exact hd) rfl hl k) kk
  · exact am_ild_s h (fun H locs la rest x en hl k => lv_iload hx hb (by rw [← en]; exact hd) hl k) kk
  · exact am_lld_s h (fun H locs la rest x en hl k => lv_lload_n hx hb (by rw [← en]; exact hd) rfl hl k) kk
  · exact am_lld_s h (fun H locs la rest x en hl k => lv_lload hx hb (by rw [← en]; exact hd) hl k) kk
  · exact am_ald_s h (fun H locs la rest x en hl k => lv_aload_n hx hb (by rw [← en]; exact hd) rfl hl k) kk
  · exact am_ald_s h (fun H locs la rest x en hl k => lv_aload hx hb (by rw [← en]; exact hd) hl k) kk
  · exact am_ist_s h (fun H locs la rest x lv lv' en hi hl hlv k => lv_istore_n hx hb (by rw [← en]; exact hd) rfl hl hi hlv k) kk
  · exact am_ist_s h (fun H locs la rest x lv lv' en hi hl hlv k => lv_istore hx hb (by rw [← en]; exact hd) hl hi hlv k) kk
  · exact am_lst_s h (fun H locs la rest x lv lv' en hi hl hlv k => lv_lstore_n hx hb (by rw [← en]; exact hd) rfl hl hi hlv k) kk
  · exact am_lst_s h (fun H locs la rest x lv lv' en hi hl hlv k => lv_lstore hx hb (by rw [← en]; exact hd) hl hi hlv k) kk
  · exact am_ast_s h (fun H locs la rest x lv lv' en hi hl hlv k => lv_astore_n hx hb (by rw [← en]; exact hd) rfl hl hi hlv k) kk
  · exact am_ast_s h (fun H locs la rest x lv lv' en hi hl hlv k => lv_astore hx hb (by rw [← en]; exact hd) hl hi hlv k) kk
  · exact am_inc_s hx hb h hd kk
  · exact am_b2_s h (fun H locs la rest x y en k => lv_iadd hx hb (by rw [← en]; exact hd) k) kk
  · exact am_b2_s h (fun H locs la rest x y en k => lv_isub hx hb (by rw [← en]; exact hd) k) kk
  · exact am_b2_s h (fun H locs la rest x y en k => lv_imul hx hb (by rw [← en]; exact hd) k) kk
  · exact am_b2_s h (fun H locs la rest x y en k => lv_iand hx hb (by rw [← en]; exact hd) k) kk
  · exact am_b2_s h (fun H locs la rest x y en k => lv_ior hx hb (by rw [← en]; exact hd) k) kk
  · exact am_b2_s h (fun H locs la rest x y en k => lv_ixor hx hb (by rw [← en]; exact hd) k) kk
  · exact am_b2_s h (fun H locs la rest x y en k => lv_ishl hx hb (by rw [← en]; exact hd) k) kk
  · exact am_b2_s h (fun H locs la rest x y en k => lv_ishr hx hb (by rw [← en]; exact hd) k) kk
  · exact am_b2_s h (fun H locs la rest x y en k => lv_iushr hx hb (by rw [← en]; exact hd) rfl k) kk
  · exact am_bd_s h ho (fun H locs la rest x y en hy k => lv_idiv hx hb (by rw [← en]; exact hd) hy k) kk
  · exact am_bd_s h ho (fun H locs la rest x y en hy k => lv_irem hx hb (by rw [← en]; exact hd) hy k) kk
  · exact am_b1_s h (fun H locs la rest x en k => lv_ineg hx hb (by rw [← en]; exact hd) k) kk
  · exact am_b1_s h (fun H locs la rest x en k => lv_i2b hx hb (by rw [← en]; exact hd) rfl k) kk
  · exact am_b1_s h (fun H locs la rest x en k => lv_i2s hx hb (by rw [← en]; exact hd) rfl k) kk
  · exact am_i2l_s h (fun H locs la rest x en k => lv_i2l hx hb (by rw [← en]; exact hd) rfl k) kk
  · exact am_l2i_s h (fun H locs la rest x en k => lv_l2i hx hb (by rw [← en]; exact hd) rfl k) kk
  · exact am_c2_s h (fun H locs la rest x y en k => lv_land hx hb (by rw [← en]; exact hd) k) kk
  · exact am_c2_s h (fun H locs la rest x y en k => lv_lor hx hb (by rw [← en]; exact hd) k) kk
  · exact am_lcmp_s h (fun H locs la rest x y en k => W.lcmp hx hb (by rw [← en]; exact hd) k) kk
  · exact am_lshl_s h (fun H locs la rest x y en k => lv_lshl hx hb (by rw [← en]; exact hd) rfl k) kk
  · exact am_dup_s h (fun H locs la rest v en hv k => lv_dup hx hb (by rw [← en]; exact hd) hv k) kk
  · exact am_pop_s h (fun H locs la rest v en hv k => lv_pop hx hb (by rw [← en]; exact hd) hv k) kk
  · exact am_dupx_s h (fun H locs la rest v w en hv hw k => lv_dup_x1 hx hb (by rw [← en]; exact hd) hv hw k) kk
  · exact am_dup2_s h (fun H locs la rest v w en hv hw k => lv_dup2_11 hx hb (by rw [← en]; exact hd) hv hw k) kk
  · exact am_goto_s hx hb h hd kk
  · exact am_get_s X h hd kk
  · exact am_put_s X h ho hd kk
  · exact am_gets_s X h hd kk
  · exact am_iald_s X h ho hd kk
  · exact am_lald_s X h ho hd kk
  · exact am_zald_s X h ho hd kk
  · exact am_aald_s X h ho hd kk
  · exact am_iast_s X h ho hd kk
  · exact am_last_s X h ho hd kk
  · exact am_zast_s X h ho hd kk
  · exact am_alen_s X h hd kk
  · cases h
theorem am_x_cons (nL : Nat) (P : am_P) (q : Nat × Instr × Nat) (t : List (Nat × Instr × Nat)) (fr : am_F) : am_x nL P (q :: t) fr = (bif Nat.beq fr.1 q.1 then (match am_1 nL P q.2.1 q.2.2 fr with
    | none => none
    | some (fr1, ob) => match am_x nL P t fr1 with
      | none => none
      | some (fr2, obs) => some (fr2, ob ∧ obs)) else none) := rfl
/-- a straight stretch whose end is written out -/
theorem am_x_s (X : am_X p s m args c cc own nL P G A) : ∀ (is : List (Nat × Instr × Nat)) {fr fr' : am_F} {ob : Prop}, (∀ q ∈ is, decode cc q.1 = .ok (q.2.1, q.2.2)) → am_x nL P is fr = some (fr', ob) → ob → am_A p l e R s m args below meth c nL G A kc ks Q fr' → am_A p l e R s m args below meth c nL G A kc ks Q fr
  | [], fr, fr', ob, _, h, _, k => by
    cases h
    exact k
  | q :: t, fr, fr', ob, hc, h, ho, k => by
    rw [am_x_cons] at h
    cases hp : Nat.beq fr.1 q.1
    · rw [hp] at h; cases h
    rw [hp] at h
    simp only [cond_true] at h
    split at h
    · cases h
    · rename_i fr1 ob1 h1
      split at h
      · cases h
      · rename_i fr2 ob2 h2
        cases h
        exact am_1_s X h1 (by rw [Nat.eq_of_beq_eq_true hp]; exact hc q List.mem_cons_self) ho.1 (am_x_s X t (fun z hz => hc z (List.mem_cons_of_mem _ hz)) h2 ho.2 k)
theorem am_dec {tb : List (Nat × Instr × Nat)} (hc : am_code cc tb = true) {q : Nat × Instr × Nat} (h : q ∈ tb) : decode cc q.1 = .ok (q.2.1, q.2.2) := by
  unfold am_code at hc
  have h8 := List.all_eq_true.mp hc q h
  simp only [decide_eq_true_eq] at h8
  exact h8
theorem am_dea {tb : List (Nat × Instr × Nat)} (hc : am_code cc tb = true) {a pc n : Nat} {i : Instr} (h : tb[a]? = some (pc, i, n)) : decode cc pc = .ok (i, n) := am_dec hc (q := (pc, i, n)) (List.mem_of_getElem? h)
theorem am_blk {tb : List (Nat × Instr × Nat)} (hc : am_code cc tb = true) (X : am_X p s m args c cc own nL P G A) (a n : Nat) {fr fr' : am_F} {ob : Prop} (h : am_x nL P ((tb.drop a).take n) fr = some (fr', ob)) (ho : ob)
    (k : am_A p l e R s m args below meth c nL G A kc ks Q fr') : am_A p l e R s m args below meth c nL G A kc ks Q fr :=
  am_x_s X _ (fun q hq => am_dec hc (List.mem_of_mem_drop (List.mem_of_mem_take hq))) h ho k
/-- fewer locals are known: by their places -/
theorem am_less {pc : Nat} {ls : List (Nat × am_V)} {st : List am_V} {σ : am_S} (pk : List Nat) {ls' : List (Nat × am_V)} (h : pk.filterMap (fun i => ls[i]?) = ls') (k : am_A p l e R s m args below meth c nL G A kc ks Q (pc, ls', st, σ)) : am_A p l e R s m args below meth c nL G A kc ks Q (pc, ls, st, σ) := by
  have hm : ∀ q ∈ ls', q ∈ ls := fun q hq => by
    rw [← h] at hq
    obtain ⟨i, -, hi⟩ := List.mem_filterMap.mp hq
    exact List.mem_of_getElem? hi
  exact fun H locs la hW hL hF h1 h2 hl => k H locs la hW hL hF (fun q hq => h1 q (hm q hq)) h2 ⟨hl.1, hl.2.1, fun q hq => by
    obtain ⟨q0, h0, rfl⟩ := List.mem_map.mp hq
    exact hl.2.2 _ (List.mem_map.mpr ⟨q0, hm q0 h0, rfl⟩)⟩
/-- branches -/
theorem am_br {pc tgt : Nat} {ls : List (Nat × am_V)} {st : List am_V} {σ : am_S} {y : Int32} {cd : Prop}
    (hrow : ∀ (H : Heap) (locs : List Loc) (la : Array Slot) (rest : List Value), (cd → W p l e R s m args below meth c H locs kc ks Q (F0 m tgt la rest)) → (¬ cd → W p l e R s m args below meth c H locs kc ks Q (F0 m (pc + 3) la rest)) → W p l e R s m args below meth c H locs kc ks Q (F0 m pc la (.int y :: rest)))
    (kt : cd → am_A p l e R s m args below meth c nL G A kc ks Q (tgt, ls, st, σ)) (kf : ¬ cd → am_A p l e R s m args below meth c nL G A kc ks Q (pc + 3, ls, st, σ)) : am_A p l e R s m args below meth c nL G A kc ks Q (pc, ls, am_i y :: st, σ) :=
  fun H locs la hW hL hF h1 h2 hl => hrow H locs la _ (fun q => kt q H locs la hW hL hF h1 (am_tl h2).2 hl) (fun q => kf q H locs la hW hL hF h1 (am_tl h2).2 hl)
theorem am_br2 {pc tgt : Nat} {ls : List (Nat × am_V)} {st : List am_V} {σ : am_S} {x y : Int32} {cd : Prop}
    (hrow : ∀ (H : Heap) (locs : List Loc) (la : Array Slot) (rest : List Value), (cd → W p l e R s m args below meth c H locs kc ks Q (F0 m tgt la rest)) → (¬ cd → W p l e R s m args below meth c H locs kc ks Q (F0 m (pc + 3) la rest)) → W p l e R s m args below meth c H locs kc ks Q (F0 m pc la (.int y :: .int x :: rest)))
    (kt : cd → am_A p l e R s m args below meth c nL G A kc ks Q (tgt, ls, st, σ)) (kf : ¬ cd → am_A p l e R s m args below meth c nL G A kc ks Q (pc + 3, ls, st, σ)) : am_A p l e R s m args below meth c nL G A kc ks Q (pc, ls, am_i y :: am_i x :: st, σ) :=
  fun H locs la hW hL hF h1 h2 hl => hrow H locs la _ (fun q => kt q H locs la hW hL hF h1 (am_tl (am_tl h2).2).2 hl) (fun q => kf q H locs la hW hL hF h1 (am_tl (am_tl h2).2).2 hl)
theorem am_if_eq {tb : List (Nat × Instr × Nat)} (hc : am_code cc tb = true) (X : am_X p s m args c cc own nL P G A) (a : Nat) {pc tgt : Nat} {off : Int} {ls : List (Nat × am_V)} {st : List am_V} {σ : am_S} {x : Int32} (h : tb[a]? = some (pc, .ifCond .eq off, 3)) (ht : (pc : Int) + off = (tgt : Int))
    (kt : x = 0 → am_A p l e R s m args below meth c nL G A kc ks Q (tgt, ls, st, σ)) (kf : ¬ x = 0 → am_A p l e R s m args below meth c nL G A kc ks Q (pc + 3, ls, st, σ)) : am_A p l e R s m args below meth c nL G A kc ks Q (pc, ls, am_i x :: st, σ) :=
  am_br (fun H locs la rest k1 k2 => lv_if_eq X.1 X.2.1 (am_dea hc h) ht k1 k2) kt kf
theorem am_icmp_eq {tb : List (Nat × Instr × Nat)} (hc : am_code cc tb = true) (X : am_X p s m args c cc own nL P G A) (a : Nat) {pc tgt : Nat} {off : Int} {ls : List (Nat × am_V)} {st : List am_V} {σ : am_S} {x y : Int32} (h : tb[a]? = some (pc, .if_icmp .eq off, 3)) (ht : (pc : Int) + off = (tgt : Int))
    (kt : x = y → am_A p l e R s m args below meth c nL G A kc ks Q (tgt, ls, st, σ)) (kf : ¬ x = y → am_A p l e R s m args below meth c nL G A kc ks Q (pc + 3, ls, st, σ)) : am_A p l e R s m args below meth c nL G A kc ks Q (pc, ls, am_i y :: am_i x :: st, σ) :=
  am_br2 (fun H locs la rest k1 k2 => lv_icmp_eq X.1 X.2.1 (am_dea hc h) ht k1 k2) kt kf
theorem am_if_ne {tb : List (Nat × Instr × Nat)} (hc : am_code cc tb = true) (X : am_X p s m args c cc own nL P G A) (a : Nat) {pc tgt : Nat} {off : Int} {ls : List (Nat × am_V)} {st : List am_V} {σ : am_S} {x : Int32} (h : tb[a]? = some (pc, .ifCond .ne off, 3)) (ht : (pc : Int) + off = (tgt : Int))
    (kt : ¬ x = 0 → am_A p l e R s m args below meth c nL G A kc ks Q (tgt, ls, st, σ)) (kf : x = 0 → am_A p l e R s m args below meth c nL G A kc ks Q (pc + 3, ls, st, σ)) : am_A p l e R s m args below meth c nL G A kc ks Q (pc, ls, am_i x :: st, σ) :=
  am_br (fun H locs la rest k1 k2 => lv_if_ne X.1 X.2.1 (am_dea hc h) ht k1 fun q => k2 fun z => z q) kt fun q => kf (Classical.not_not.mp q)
theorem am_icmp_ne {tb : List (Nat × Instr × Nat)} (hc : am_code cc tb = true) (X : am_X p s m args c cc own nL P G A) (a : Nat) {pc tgt : Nat} {off : Int} {ls : List (Nat × am_V)} {st : List am_V} {σ : am_S} {x y : Int32} (h : tb[a]? = some (pc, .if_icmp .ne off, 3)) (ht : (pc : Int) + off = (tgt : Int))
    (kt : ¬ x = y → am_A p l e R s m args below meth c nL G A kc ks Q (tgt, ls, st, σ)) (kf : x = y → am_A p l e R s m args below meth c nL G A kc ks Q (pc + 3, ls, st, σ)) : am_A p l e R s m args below meth c nL G A kc ks Q (pc, ls, am_i y :: am_i x :: st, σ) :=
  am_br2 (fun H locs la rest k1 k2 => lv_icmp_ne X.1 X.2.1 (am_dea hc h) ht k1 fun q => k2 fun z => z q) kt fun q => kf (Classical.not_not.mp q)
theorem am_if_lt {tb : List (Nat × Instr × Nat)} (hc : am_code cc tb = true) (X : am_X p s m args c cc own nL P G A) (a : Nat) {pc tgt : Nat} {off : Int} {ls : List (Nat × am_V)} {st : List am_V} {σ : am_S} {x : Int32} (h : tb[a]? = some (pc, .ifCond .lt off, 3)) (ht : (pc : Int) + off = (tgt : Int))
    (kt : x < 0 → am_A p l e R s m args below meth c nL G A kc ks Q (tgt, ls, st, σ)) (kf : ¬ x < 0 → am_A p l e R s m args below meth c nL G A kc ks Q (pc + 3, ls, st, σ)) : am_A p l e R s m args below meth c nL G A kc ks Q (pc, ls, am_i x :: st, σ) :=
  am_br (fun H locs la rest k1 k2 => lv_if_lt X.1 X.2.1 (am_dea hc h) ht k1 k2) kt kf
theorem am_icmp_lt {tb : List (Nat × Instr × Nat)} (hc : am_code cc tb = true) (X : am_X p s m args c cc own nL P G A) (a : Nat) {pc tgt : Nat} {off : Int} {ls : List (Nat × am_V)} {st : List am_V} {σ : am_S} {x y : Int32} (h : tb[a]? = some (pc, .if_icmp .lt off, 3)) (ht : (pc : Int) + off = (tgt : Int))
    (kt : x < y → am_A p l e R s m args below meth c nL G A kc ks Q (tgt, ls, st, σ)) (kf : ¬ x < y → am_A p l e R s m args below meth c nL G A kc ks Q (pc + 3, ls, st, σ)) : am_A p l e R s m args below meth c nL G A kc ks Q (pc, ls, am_i y :: am_i x :: st, σ) :=
  am_br2 (fun H locs la rest k1 k2 => lv_icmp_lt X.1 X.2.1 (am_dea hc h) ht k1 k2) kt kf
theorem am_if_ge {tb : List (Nat × Instr × Nat)} (hc : am_code cc tb = true) (X : am_X p s m args c cc own nL P G A) (a : Nat) {pc tgt : Nat} {off : Int} {ls : List (Nat × am_V)} {st : List am_V} {σ : am_S} {x : Int32} (h : tb[a]? = some (pc, .ifCond .ge off, 3)) (ht : (pc : Int) + off = (tgt : Int))
    (kt : 0 ≤ x → am_A p l e R s m args below meth c nL G A kc ks Q (tgt, ls, st, σ)) (kf : ¬ 0 ≤ x → am_A p l e R s m args below meth c nL G A kc ks Q (pc + 3, ls, st, σ)) : am_A p l e R s m args below meth c nL G A kc ks Q (pc, ls, am_i x :: st, σ) :=
  am_br (fun H locs la rest k1 k2 => lv_if_ge X.1 X.2.1 (am_dea hc h) ht k1 k2) kt kf
theorem am_icmp_ge {tb : List (Nat × Instr × Nat)} (hc : am_code cc tb = true) (X : am_X p s m args c cc own nL P G A) (a : Nat) {pc tgt : Nat} {off : Int} {ls : List (Nat × am_V)} {st : List am_V} {σ : am_S} {x y : Int32} (h : tb[a]? = some (pc, .if_icmp .ge off, 3)) (ht : (pc : Int) + off = (tgt : Int))
    (kt : y ≤ x → am_A p l e R s m args below meth c nL G A kc ks Q (tgt, ls, st, σ)) (kf : ¬ y ≤ x → am_A p l e R s m args below meth c nL G A kc ks Q (pc + 3, ls, st, σ)) : am_A p l e R s m args below meth c nL G A kc ks Q (pc, ls, am_i y :: am_i x :: st, σ) :=
  am_br2 (fun H locs la rest k1 k2 => lv_icmp_ge X.1 X.2.1 (am_dea hc h) ht k1 k2) kt kf
theorem am_if_gt {tb : List (Nat × Instr × Nat)} (hc : am_code cc tb = true) (X : am_X p s m args c cc own nL P G A) (a : Nat) {pc tgt : Nat} {off : Int} {ls : List (Nat × am_V)} {st : List am_V} {σ : am_S} {x : Int32} (h : tb[a]? = some (pc, .ifCond .gt off, 3)) (ht : (pc : Int) + off = (tgt : Int))
    (kt : 0 < x → am_A p l e R s m args below meth c nL G A kc ks Q (tgt, ls, st, σ)) (kf : ¬ 0 < x → am_A p l e R s m args below meth c nL G A kc ks Q (pc + 3, ls, st, σ)) : am_A p l e R s m args below meth c nL G A kc ks Q (pc, ls, am_i x :: st, σ) :=
  am_br (fun H locs la rest k1 k2 => lv_if_gt X.1 X.2.1 (am_dea hc h) ht k1 k2) kt kf
theorem am_icmp_gt {tb : List (Nat × Instr × Nat)} (hc : am_code cc tb = true) (X : am_X p s m args c cc own nL P G A) (a : Nat) {pc tgt : Nat} {off : Int} {ls : List (Nat × am_V)} {st : List am_V} {σ : am_S} {x y : Int32} (h : tb[a]? = some (pc, .if_icmp .gt off, 3)) (ht : (pc : Int) + off = (tgt : Int))
    (kt : y < x → am_A p l e R s m args below meth c nL G A kc ks Q (tgt, ls, st, σ)) (kf : ¬ y < x → am_A p l e R s m args below meth c nL G A kc ks Q (pc + 3, ls, st, σ)) : am_A p l e R s m args below meth c nL G A kc ks Q (pc, ls, am_i y :: am_i x :: st, σ) :=
  am_br2 (fun H locs la rest k1 k2 => lv_icmp_gt X.1 X.2.1 (am_dea hc h) ht k1 k2) kt kf
theorem am_if_le {tb : List (Nat × Instr × Nat)} (hc : am_code cc tb = true) (X : am_X p s m args c cc own nL P G A) (a : Nat) {pc tgt : Nat} {off : Int} {ls : List (Nat × am_V)} {st : List am_V} {σ : am_S} {x : Int32} (h : tb[a]? = some (pc, .ifCond .le off, 3)) (ht : (pc : Int) + off = (tgt : Int))
    (kt : x ≤ 0 → am_A p l e R s m args below meth c nL G A kc ks Q (tgt, ls, st, σ)) (kf : ¬ x ≤ 0 → am_A p l e R s m args below meth c nL G A kc ks Q (pc + 3, ls, st, σ)) : am_A p l e R s m args below meth c nL G A kc ks Q (pc, ls, am_i x :: st, σ) :=
  am_br (fun H locs la rest k1 k2 => lv_if_le X.1 X.2.1 (am_dea hc h) ht k1 k2) kt kf
theorem am_icmp_le {tb : List (Nat × Instr × Nat)} (hc : am_code cc tb = true) (X : am_X p s m args c cc own nL P G A) (a : Nat) {pc tgt : Nat} {off : Int} {ls : List (Nat × am_V)} {st : List am_V} {σ : am_S} {x y : Int32} (h : tb[a]? = some (pc, .if_icmp .le off, 3)) (ht : (pc : Int) + off = (tgt : Int))
    (kt : x ≤ y → am_A p l e R s m args below meth c nL G A kc ks Q (tgt, ls, st, σ)) (kf : ¬ x ≤ y → am_A p l e R s m args below meth c nL G A kc ks Q (pc + 3, ls, st, σ)) : am_A p l e R s m args below meth c nL G A kc ks Q (pc, ls, am_i y :: am_i x :: st, σ) :=
  am_br2 (fun H locs la rest k1 k2 => lv_icmp_le X.1 X.2.1 (am_dea hc h) ht k1 k2) kt kf
theorem am_tin {tb : List (Nat × Instr × Nat)} (hc : am_code cc tb = true) (X : am_X p s m args c cc own nL P G A) (a : Nat) {pc tgt len : Nat} {dflt lo hi : Int} {offs : Array Int} {off : Int} {ls : List (Nat × am_V)} {st : List am_V} {σ : am_S} {x : Int32} (h : tb[a]? = some (pc, .tableswitch dflt lo hi offs, len)) (h1 : ¬ x.toInt < lo) (h2 : ¬ hi < x.toInt) (ho : offs[(x.toInt - lo).toNat]? = some off) (ht : (pc : Int) + off = (tgt : Int))
    (k : am_A p l e R s m args below meth c nL G A kc ks Q (tgt, ls, st, σ)) : am_A p l e R s m args below meth c nL G A kc ks Q (pc, ls, am_i x :: st, σ) :=
  am_step0 (fun _ h2 => (am_tl h2).2) (fun H locs la _ k => lv_tableIn X.1 X.2.1 (am_dea hc h) h1 h2 ho ht k) k
theorem am_tout {tb : List (Nat × Instr × Nat)} (hc : am_code cc tb = true) (X : am_X p s m args c cc own nL P G A) (a : Nat) {pc tgt len : Nat} {dflt lo hi : Int} {offs : Array Int} {ls : List (Nat × am_V)} {st : List am_V} {σ : am_S} {x : Int32} (h : tb[a]? = some (pc, .tableswitch dflt lo hi offs, len)) (h1 : x.toInt < lo ∨ hi < x.toInt) (ht : (pc : Int) + dflt = (tgt : Int))
    (k : am_A p l e R s m args below meth c nL G A kc ks Q (tgt, ls, st, σ)) : am_A p l e R s m args below meth c nL G A kc ks Q (pc, ls, am_i x :: st, σ) :=
  am_step0 (fun _ h2 => (am_tl h2).2) (fun H locs la _ k => lv_tableOut X.1 X.2.1 (am_dea hc h) h1 ht k) k
theorem am_look {tb : List (Nat × Instr × Nat)} (hc : am_code cc tb = true) (X : am_X p s m args c cc own nL P G A) (a : Nat) {pc tgt len : Nat} {dflt : Int} {ps : Array (Int × Int)} {off : Int} {ls : List (Nat × am_V)} {st : List am_V} {σ : am_S} {x : Int32} (h : tb[a]? = some (pc, .lookupswitch dflt ps, len)) (hp : (ps.toList.zip (ps.toList.drop 1)).all (fun (a, next) => a.1 < next.1) = true) (ho : Op.lookupswitch.offset ps.toList dflt x.toInt = off) (ht : (pc : Int) + off = (tgt : Int))
    (k : am_A p l e R s m args below meth c nL G A kc ks Q (tgt, ls, st, σ)) : am_A p l e R s m args below meth c nL G A kc ks Q (pc, ls, am_i x :: st, σ) :=
  am_step0 (fun _ h2 => (am_tl h2).2) (fun H locs la _ k => lv_lookup X.1 X.2.1 (am_dea hc h) hp ho ht k) k
end AMT
end
section
def am_p0 : am_P := ([(11, 2, 0), (16, 2, 1), (19, 2, 2), (22, 2, 3), (26, 2, 4), (29, 2, 5), (32, 2, 6), (35, 2, 7)], [], [(115, 1103515245)], [])
set_option maxRecDepth 100000 in
theorem am_p0_ok : am_pok RX0 am_p0 = true := by decide +kernel
def am_p1 : am_P := ([(19, 2, 2), (9, 32, 0), (15, 32, 1)], [], [], [])
set_option maxRecDepth 100000 in
theorem am_p1_ok : am_pok RX1 am_p1 = true := by decide +kernel
def am_p2 : am_P := ([(9, 9, 0), (15, 9, 1), (20, 9, 2)], [], [], [])
set_option maxRecDepth 100000 in
theorem am_p2_ok : am_pok RX2 am_p2 = true := by decide +kernel
def am_p3 : am_P := ([(11, 29, 0)], [], [(34, 1000000)], [(32, (-1))])
set_option maxRecDepth 100000 in
theorem am_p3_ok : am_pok RX3 am_p3 = true := by decide +kernel
def am_p4 : am_P := ([(81, 2, 0), (96, 2, 2), (68, 2, 3), (71, 2, 4), (85, 2, 5), (12, 14, 0), (18, 14, 1), (22, 14, 2), (26, 14, 3), (29, 14, 4), (32, 14, 5), (35, 14, 6)], [(57, 8, 35)], [], [])
set_option maxRecDepth 100000 in
theorem am_p4_ok : am_pok RX4 am_p4 = true := by decide +kernel
def am_p5 : am_P := ([(29, 2, 2), (77, 2, 4), (67, 17, 0), (9, 22, 0), (15, 22, 1), (20, 22, 2), (23, 22, 3), (26, 22, 4)], [], [(58, 2147483647)], [])
set_option maxRecDepth 100000 in
theorem am_p5_ok : am_pok RX5 am_p5 = true := by decide +kernel
def am_p6 : am_P := ([(75, 2, 2), (71, 2, 4), (11, 17, 0), (16, 17, 1), (20, 17, 2)], [], [(23, 1000000)], [])
set_option maxRecDepth 100000 in
theorem am_p6_ok : am_pok RX6 am_p6 = true := by decide +kernel
def am_p7 : am_P := ([(138, 2, 0), (167, 2, 1), (117, 2, 2), (141, 2, 3), (148, 2, 4), (128, 2, 5), (298, 2, 6), (285, 2, 7), (111, 9, 0), (311, 9, 1), (245, 9, 2), (181, 14, 0), (170, 14, 2), (202, 17, 1), (236, 17, 2), (209, 22, 1), (229, 22, 4), (273, 32, 0), (276, 32, 1), (12, 0, 0), (16, 0, 1), (19, 0, 2), (26, 0, 3), (33, 0, 4), (40, 0, 5), (47, 0, 6), (54, 0, 7), (61, 0, 8), (65, 0, 9)], [(324, 8, 34)], [], [(314, (-1)), (316, 7), (318, 5), (320, 8), (322, 9)])
set_option maxRecDepth 100000 in
theorem am_p7_ok : am_pok RX7 am_p7 = true := by decide +kernel
def am_p8 : am_P := ([(7, 40, 0), (13, 40, 1), (16, 40, 2), (21, 40, 3), (24, 40, 4), (28, 40, 5), (31, 40, 6), (179, 40, 7), (34, 40, 8), (37, 40, 9), (40, 40, 10), (43, 40, 11), (46, 40, 12), (164, 40, 13), (52, 40, 14), (114, 40, 15), (55, 40, 16), (58, 40, 17), (61, 40, 18), (64, 40, 19), (67, 40, 20), (70, 40, 21), (73, 40, 22), (76, 40, 23), (384, 40, 24), (79, 40, 25), (393, 40, 26), (266, 40, 27), (182, 40, 28), (191, 40, 29), (185, 40, 30), (188, 40, 31), (200, 40, 32), (82, 40, 33), (260, 40, 34), (85, 40, 35), (88, 40, 36), (91, 40, 37), (94, 40, 38), (314, 40, 39), (311, 40, 40), (97, 40, 41), (100, 40, 42), (103, 40, 43), (333, 40, 44), (106, 40, 45), (111, 40, 46), (368, 40, 47)], [], [(297, 10000000), (348, 1000000), (387, 1103515245)], [(123, 7), (125, 4), (127, 40), (144, 5), (121, 6), (158, 9), (160, 12), (162, 20), (175, 999), (177, 255), (282, 3), (302, 2), (339, (-1)), (366, 8), (388, 60), (400, 16)])
set_option maxRecDepth 100000 in
theorem am_p8_ok : am_pok RX8 am_p8 = true := by decide +kernel
end
section
/-! ===== contracts, returns, calls ===== -/
def am_Qc (G : am_G) (r : Option am_V) (σ : am_S) : Array Value → State → Outcome → State → Prop := fun _ st o t =>
  o = .returned (r.map (am_v G)) ∧ (∀ v, r = some v → am_lV G v) ∧ am_W G σ t t.heap ∧ st.heap.size ≤ t.heap.size ∧ ∀ q, q < st.heap.size → ¬ am_fr G q → t.heap[q]? = st.heap[q]?
def am_rc (d mc ms : Nat) : Room := { frames := d, cells := mc, slots := ms, locals := 40 * d }
abbrev am_ro (d : Nat) : Room := am_rc d 0 0
def am_ws (y : MethodName) (cc : ByteArray) (nL : Nat) (ret : Option FieldType) : List Cond := Cond.code y cc nL ret :: am_tb
/-- THE CONTRACT: with these arguments over these cells the method answers r, and the cells are then σ' -/
def am_M (l : Launch) (y : MethodName) (cc : ByteArray) (nL : Nat) (ret : Option FieldType) (d : Nat) (As : List am_V) (σ : am_S) (r : Option am_V) (σ' : am_S) : Prop :=
  ∀ G : am_G, (∀ v ∈ As, am_lV G v) → Met l y (am_ws y cc nL ret) (am_ro d) (va_Pc (As.map (am_v G)) (fun U => am_U G U ∧ am_W G σ U U.heap)) (am_Qc G r σ') 0 0 (am_fr G)
def am_args : Nat → List am_V → List (Nat × am_V)
  | _, [] => []
  | i, v :: t => (i, v) :: am_args (i + am_ct v) t
theorem am_args_map (G : am_G) : ∀ (As : List am_V) (i : Nat), (am_args i As).map (fun q => (q.1, am_v G q.2)) = lv_args i (As.map (am_v G))
  | [], _ => rfl
  | v :: t, i => by
    show (i, am_v G v) :: (am_args (i + am_ct v) t).map _ = (i, am_v G v) :: lv_args (if (am_v G v).category = 2 then i + 2 else i + 1) (t.map (am_v G))
    rw [am_args_map G t, am_v_ct]
    congr 2
    rcases v with x | x | x
    · rfl
    · rfl
    · rfl
theorem am_args_mem {q : Nat × am_V} : ∀ {As : List am_V} {i : Nat}, q ∈ am_args i As → q.2 ∈ As
  | [], _, h => by cases h
  | v :: t, i, h => by
    rcases List.mem_cons.mp h with e | e
    · rw [e]; exact List.mem_cons_self
    · exact List.mem_cons_of_mem _ (am_args_mem e)
def am_sz : List am_V → Nat
  | [] => 0
  | v :: t => am_ct v + am_sz t
theorem am_sl_len (G : am_G) : ∀ As : List am_V, (lg_sl (As.map (am_v G))).length = am_sz As
  | [] => rfl
  | v :: t => by
    have h := am_sl_len G t
    unfold lg_sl at h ⊢
    rw [List.map_cons, List.flatMap_cons, List.length_append, h]
    show _ = am_ct v + am_sz t
    rw [am_v_ct]
    rcases v with x | x | x <;> rfl
theorem am_blind {G : am_G} {σ : am_S} {av : List Value} : FrameBlind (va_Pc av (fun U => am_U G U ∧ am_W G σ U U.heap)) := fun a U g mk h => by
  obtain ⟨h1, h2, h3⟩ := h
  refine ⟨h1, ⟨va_K.moved (u := U) (U := U.calling g mk a) (Vm.Alike.refl U.vm) h2.1, fun q hq => va_Nw.same (u := U) (U := U.calling g mk a) rfl rfl (h2.2.1 q hq), h2.2.2⟩, ?_⟩
  exact am_W.alike (u := U) (U := U.calling g mk a) (Vm.Alike.refl U.vm) h3
/-- a contract from a goal at the entry -/
theorem am_M_of {l : Launch} {y : MethodName} {cc : ByteArray} {nL : Nat} {ret : Option FieldType} {d : Nat} {As : List am_V} {σ : am_S} {r : Option am_V} {σ' : am_S} {P : am_P} (hy : plainName y.cls = true) (hp : am_pok y.cls P = true) (hn : Nat.ble (am_sz As) nL = true)
    (body : ∀ (G : am_G) (p : Program) (e : Env) (s : State) (m : MethodId) (args : Array Value) (below : List Frame) (meth : Method) (c : Code), am_X p s m args c cc y.cls nL P G (am_fr G) → (meth.sig.returnType = ret ∧ meth.locks = false) →
      am_A p l e (am_ro d) s m args below meth c nL G (am_fr G) 0 0 (MQ below (am_Qc G r σ') args s 0 0 (am_fr G)) (0, am_args 0 As, [], σ)) : am_M l y cc nL ret d As σ r σ' := by
  intro G hlv
  refine Met.ofW (cc := cc) (maxL := nL) (ret := ret) hy rfl ?_
  intro p e s m args below meth c s₁ B hml hv
  obtain ⟨rfl, hU, hW⟩ := hv
  have hts := atoms_spec (ws := am_ws y cc nL ret) B.pre
  have hown : s.vm.findClass y.cls = some m.cls := findClass_of_methodNamed B.named
  have hb := body G p e s m _ below meth c ⟨B.exec, B.bytes, hml, hown, fun w hw => hts w (List.mem_cons_of_mem _ hw), hp, hU, fun _ h => h⟩ ⟨B.returns, B.notSynchronized⟩
  rw [lg_entry_eq]
  refine hb s.heap [] _ hW (fun q hq => by cases hq) ⟨Nat.le_refl _, fun _ _ _ => rfl⟩ (fun q hq => hlv _ (am_args_mem hq)) (fun v hv => by cases hv) ?_
  show lv_has _ nL ((am_args 0 As).map (fun q => (q.1, am_v G q.2)))
  rw [am_args_map]
  exact lv_entry _ (by rw [am_sl_len]; exact Nat.le_of_ble_eq_true hn)
section AMC
variable {p : Program} {l : Launch} {e : Env} {R : Room} {s : State} {m : MethodId} {args : Array Value} {below : List Frame} {meth : Method} {c : Code} {cc : ByteArray} {own : String} {nL : Nat} {P : am_P} {G : am_G} {A : Nat → Prop} {kc ks : Nat} {Q : State → Prop}
theorem am_end {H : Heap} {t : State} {σ : am_S} {v : Option am_V} (hW : am_W G σ s H) (hF : s.heap.size ≤ H.size ∧ ∀ q, q < s.heap.size → ¬ am_fr G q → H[q]? = s.heap[q]?) (hv : ∀ w, v = some w → am_lV G w) (ht : t.heap = H) (hw : s.WarmedH t.vm) : am_Qc G v σ args s (.returned (v.map (am_v G))) t := by
  subst ht
  exact ⟨rfl, hv, hW.alike hw.alike, hF.1, hF.2⟩
theorem am_iret {tb : List (Nat × Instr × Nat)} (hc : am_code cc tb = true) (X : am_X p s m args c cc own nL P G (am_fr G)) (hr : meth.sig.returnType = some .int ∧ meth.locks = false) (a : Nat) {pc : Nat} {ls : List (Nat × am_V)} {x : Int32} {σ σ' : am_S} {r : Option am_V} (h : tb[a]? = some (pc, .ireturn, 1)) (hv : r = some (am_i x)) (hs : σ' = σ) : am_A p l e R s m args below meth c nL G (am_fr G) 0 0 (MQ below (am_Qc G r σ') args s 0 0 (am_fr G)) (pc, ls, [am_i x], σ) := by
  subst hv; subst hs
  intro H locs la hW hL hF h1 h2 hl
  exact W.iret (v := x) X.1 X.2.1 hr.1 (fun t ht hw => am_end (v := some (am_i x)) hW hF (fun w hw => by cases hw; trivial) ht hw) hL (am_dea hc h) hr.2
theorem am_zret {tb : List (Nat × Instr × Nat)} (hc : am_code cc tb = true) (X : am_X p s m args c cc own nL P G (am_fr G)) (hr : meth.sig.returnType = some .boolean ∧ meth.locks = false) (a : Nat) {pc : Nat} {ls : List (Nat × am_V)} {x : Int32} {σ σ' : am_S} {r : Option am_V} (h : tb[a]? = some (pc, .ireturn, 1)) (h01 : x = 0 ∨ x = 1) (hv : r = some (am_i x)) (hs : σ' = σ) : am_A p l e R s m args below meth c nL G (am_fr G) 0 0 (MQ below (am_Qc G r σ') args s 0 0 (am_fr G)) (pc, ls, [am_i x], σ) := by
  subst hv; subst hs
  intro H locs la hW hL hF h1 h2 hl
  exact W.zret (v := x) X.1 X.2.1 hr.1 (by rcases h01 with rfl | rfl <;> rfl) (fun t ht hw => am_end (v := some (am_i x)) hW hF (fun w hw => by cases hw; trivial) ht hw) hL (am_dea hc h) hr.2
theorem am_lret {tb : List (Nat × Instr × Nat)} (hc : am_code cc tb = true) (X : am_X p s m args c cc own nL P G (am_fr G)) (hr : meth.sig.returnType = some .long ∧ meth.locks = false) (a : Nat) {pc : Nat} {ls : List (Nat × am_V)} {x : Int64} {σ σ' : am_S} {r : Option am_V} (h : tb[a]? = some (pc, .lreturn, 1)) (hv : r = some (am_l x)) (hs : σ' = σ) : am_A p l e R s m args below meth c nL G (am_fr G) 0 0 (MQ below (am_Qc G r σ') args s 0 0 (am_fr G)) (pc, ls, [am_l x], σ) := by
  subst hv; subst hs
  intro H locs la hW hL hF h1 h2 hl
  exact W.lret (v := x) X.1 X.2.1 hr.1 (fun t ht hw => am_end (v := some (am_l x)) hW hF (fun w hw => by cases hw; trivial) ht hw) hL (am_dea hc h) hr.2
theorem am_vret {tb : List (Nat × Instr × Nat)} (hc : am_code cc tb = true) (X : am_X p s m args c cc own nL P G (am_fr G)) (hr : meth.sig.returnType = none ∧ meth.locks = false) (a : Nat) {pc : Nat} {ls : List (Nat × am_V)} {σ σ' : am_S} {r : Option am_V} (h : tb[a]? = some (pc, .return_, 1)) (hv : r = none) (hs : σ' = σ) : am_A p l e R s m args below meth c nL G (am_fr G) 0 0 (MQ below (am_Qc G r σ') args s 0 0 (am_fr G)) (pc, ls, [], σ) := by
  subst hv; subst hs
  intro H locs la hW hL hF h1 h2 hl
  exact W.vret X.1 X.2.1 hr.1 (fun t ht hw => am_end (v := none) hW hF (fun w hw => by cases hw) ht hw) hL (am_dea hc h) hr.2
/-- what a called method's words say: an instance method, a static one -/
def am_yR (y : MethodName) (nL n : Nat) : Bool := decide (y.cls ≠ "java/lang/invoke/MethodHandle") && (decide (y.cls ≠ "java/lang/invoke/VarHandle") && (decide ((parseMethodDescriptor y.desc).map (fun d => d.parameters.length) = some n) && Nat.ble nL 21))
def am_yV (y : MethodName) (cc : ByteArray) (nL : Nat) (ret : Option FieldType) (n : Nat) : Prop :=
  Cond.instanceMethod y ∈ am_tb ∧ Cond.selects y.cls y y ∈ am_tb ∧ Cond.initialized y.cls ∈ am_tb ∧ Cond.code y cc nL ret ∈ am_tb ∧ am_yR y nL n = true
def am_yS (y : MethodName) (cc : ByteArray) (nL : Nat) (ret : Option FieldType) (n : Nat) : Prop :=
  Cond.static y ∈ am_tb ∧ Cond.initialized y.cls ∈ am_tb ∧ Cond.code y cc nL ret ∈ am_tb ∧ am_yR y nL n = true
/-- a word by its place -/
theorem am_pl {w : Cond} (i : Nat) (h : lw_tbl[i]? = some w) (g : goodWord w = true) : w ∈ am_tb := List.mem_filter.mpr ⟨List.mem_of_getElem? h, g⟩
theorem am_goes {pc : Nat} {ls : List (Nat × am_V)} {la : Array Slot} {rest : List am_V} {st0 : List Value} {r : Option am_V} {σ' : am_S} {H : Heap} {locs : List Loc} {a : Array Value}
    (hr : va_Run p l e R s m args below meth c H locs kc ks 0 0 (F0 m pc la st0) (rest.map (am_v G)) (am_Qc G r σ' a) (am_fr G)) (hA : ∀ q, am_fr G q → A q) (hL : ∀ q ∈ locs, A q.base) (hF : s.heap.size ≤ H.size ∧ ∀ q, q < s.heap.size → ¬ A q → H[q]? = s.heap[q]?)
    (h1 : ∀ q ∈ ls, am_lV G q.2) (h2 : ∀ v ∈ rest, am_lV G v) (hl : lv_has la nL (ls.map (fun q => (q.1, am_v G q.2)))) (k : am_A p l e R s m args below meth c nL G A kc ks Q (pc + 3, ls, r.toList ++ rest, σ')) : W p l e R s m args below meth c H locs kc ks Q (F0 m pc la st0) := by
  intro T hT X
  obtain ⟨v, st₀, t, T', L, h0, X', hLL, e1, e2, ⟨hv, hlv, hW', hz, hk⟩, st⟩ := hr T hT X
  have hv2 : v = r.map (am_v G) := Outcome.returned.inj hv
  subst hv2
  rw [h0] at hz hk
  have hal : t.vm.Alike s.vm := by rw [← e2]; exact X'.warmed.alike.symm
  obtain ⟨t2, a1, b1⟩ := k T'.heap (locs ++ L) la (by rw [e1]; exact hW'.alike hal) (fun q hq => by
      rcases List.mem_append.mp hq with h | h
      · exact hL q h
      · exact hA _ (hLL q h)) ⟨by rw [e1]; exact Nat.le_trans hF.1 hz, fun q hs hq => by rw [e1, hk q (Nat.lt_of_lt_of_le hs hF.1) (fun z => hq (hA _ z))]; exact hF.2 q hs hq⟩ h1 (fun w hw => by
      rcases List.mem_append.mp hw with h | h
      · exact hlv w (Option.mem_toList.mp h)
      · exact h2 w h) hl T' rfl X'
  refine ⟨t2, st t2 ?_, b1⟩
  have e9 : (r.map (am_v G)).toList ++ rest.map (am_v G) = (r.toList ++ rest).map (am_v G) := by cases r <;> simp
  show Steps _ _ _ (T'.setTop { (F0 m pc la st0) with pc := pc + 3, stack := (r.map (am_v G)).toList ++ rest.map (am_v G) }) _
  rw [e9]
  exact a1
theorem am_catsum : ∀ st : List am_V, ((st.map (am_v G)).map fun v => v.category).sum = am_sz st
  | [] => rfl
  | v :: t => by
    rw [List.map_cons, List.map_cons, List.sum_cons, am_catsum t, am_v_ct]
    rfl
theorem am_rv {As rest : List am_V} : (As.reverse ++ rest).map (am_v G) = (As.map (am_v G)).reverse ++ rest.map (am_v G) := by simp
theorem am_callV {tb : List (Nat × Instr × Nat)} (hc : am_code cc tb = true) (a : Nat) {d d' mc ms pc idx o k i nL' n : Nat} (X : am_X p s m args c cc own nL P G A) {y : MethodName} {cc' : ByteArray} {ret' : Option FieldType} {As rest st : List am_V} {ls : List (Nat × am_V)} {σ σ' : am_S} {r : Option am_V} (h : tb[a]? = some (pc, .invokevirtual idx, 3))
    (hM : am_M l y cc' nL' ret' d' (am_r o k i :: As) σ r σ') (hy : am_yV y cc' nL' ret' n) (hlk : Cond.methodLink own idx y ∈ am_tb) (hcl : y.cls = (am_cl k).1 ∧ Nat.beq (am_kd k).1 0 = true) (hd : Nat.ble (d' + 1) d = true) (hn : As.length = n) (hst : st = As.reverse ++ am_r o k i :: rest) (hsz : Nat.ble (am_sz rest) 8 = true) (hkm : (Nat.ble kc mc && Nat.ble ks ms) = true)
    (kk : am_A p l e (am_rc d mc ms) s m args below meth c nL G A kc ks Q (pc + 3, ls, r.toList ++ rest, σ')) : am_A p l e (am_rc d mc ms) s m args below meth c nL G A kc ks Q (pc, ls, st, σ) := by
  subst hst
  intro H locs la hW hL hF h1 h2 hl
  obtain ⟨y1, y2, y3, y4, hy⟩ := hy
  unfold am_yR at hy
  simp only [Bool.and_eq_true, decide_eq_true_eq] at hy
  obtain ⟨y5, y6, y7, y8⟩ := hy
  obtain ⟨hx, hb, hml, hown, hts, -, hU, hA⟩ := id X
  have hlive : ∀ v ∈ As.reverse ++ am_r o k i :: rest, am_lV G v := h2
  have hlv : am_lv G o k i := hlive (am_r o k i) (List.mem_append_right _ List.mem_cons_self)
  have hAs : ∀ v ∈ am_r o k i :: As, am_lV G v := am_lcons hlv fun v hv => hlive v (List.mem_append_left _ (List.mem_reverse.mpr hv))
  have hrest : ∀ v ∈ rest, am_lV G v := fun v hv => hlive v (List.mem_append_right _ (List.mem_cons_of_mem _ hv))
  have h0 := Nat.eq_of_beq_eq_true hcl.2
  have hk77 := (am_ok_lt hlv.2.1).2
  have hat := hW.1 o k i hlv
  rw [am_at0 h0] at hat
  obtain ⟨cell, q1, q2, q3, q4⟩ := hat
  have hfc := (hU.1.1 _ _ (am_cl_at hk77 h0)).2.1
  have hdd := Nat.le_of_ble_eq_true hd
  have hnn := Nat.le_of_ble_eq_true y8
  have hG : GoodIn am_tb (wsV own idx y.cls y (am_ws y cc' nL' ret')) := fun w hw => by
    unfold wsV am_ws at hw
    have : w ∈ am_tb := by
      rcases List.mem_append.mp hw with hw | hw
      · simp only [List.mem_cons, List.not_mem_nil, or_false] at hw
        rcases hw with rfl | rfl | rfl | rfl
        · exact hlk
        · exact y1
        · exact y2
        · exact y3
      · rcases List.mem_cons.mp hw with rfl | hw
        · exact y4
        · exact hw
    exact am_tb_good w this
  have hrun := va_runV (l := l) (e := e) (R := am_rc d mc ms) (below := below) (meth := meth) (H := H) (locs := locs) (cells := kc) (slots := ks) (As := As.map (am_v G)) (rest := rest.map (am_v G)) (g := F0 m pc la ((As.reverse ++ am_r o k i :: rest).map (am_v G))) ⟨hx, hb, hml, hown, hts⟩ (hM G hAs) (cwV (C := y.cls) (R := am_rc d mc ms) n hts hG rfl rfl rfl ⟨rfl, y5, y6, y7⟩ ⟨hdd, by show 8 + (nL' + 11) + 40 * d' ≤ 40 * d; omega⟩)
    ⟨am_blind, ⟨cell, q1, by rw [q3]; rfl, by rw [q2, hcl.1]; exact hfc⟩, fun U hU' hWU => ⟨rfl, hU.warm hWU, by rw [hU']; exact hW.alike hWU.alike⟩⟩ rfl (by rw [List.length_map]; exact hn) hl.1 am_rv (by show 2 * 0 + _ ≤ 8; rw [am_catsum]; have := Nat.le_of_ble_eq_true hsz; omega) (am_dea hc h) (by rw [Bool.and_eq_true] at hkm; exact ⟨Nat.le_of_ble_eq_true hkm.1, Nat.le_of_ble_eq_true hkm.2⟩)
  exact am_goes hrun hA hL hF h1 hrest hl kk
theorem am_callS {tb : List (Nat × Instr × Nat)} (hc : am_code cc tb = true) (a : Nat) {d d' mc ms pc idx nL' n : Nat} (X : am_X p s m args c cc own nL P G A) {y : MethodName} {cc' : ByteArray} {ret' : Option FieldType} {As rest st : List am_V} {ls : List (Nat × am_V)} {σ σ' : am_S} {r : Option am_V} (h : tb[a]? = some (pc, .invokestatic idx, 3))
    (hM : am_M l y cc' nL' ret' d' As σ r σ') (hy : am_yS y cc' nL' ret' n) (hlk : Cond.methodLink own idx y ∈ am_tb) (hd : Nat.ble (d' + 1) d = true) (hn : As.length = n) (hst : st = As.reverse ++ rest) (hsz : Nat.ble (am_sz rest) 8 = true) (hkm : (Nat.ble kc mc && Nat.ble ks ms) = true)
    (kk : am_A p l e (am_rc d mc ms) s m args below meth c nL G A kc ks Q (pc + 3, ls, r.toList ++ rest, σ')) : am_A p l e (am_rc d mc ms) s m args below meth c nL G A kc ks Q (pc, ls, st, σ) := by
  subst hst
  intro H locs la hW hL hF h1 h2 hl
  obtain ⟨y1, y3, y4, hy⟩ := hy
  unfold am_yR at hy
  simp only [Bool.and_eq_true, decide_eq_true_eq] at hy
  obtain ⟨y5, y6, y7, y8⟩ := hy
  obtain ⟨hx, hb, hml, hown, hts, -, hU, hA⟩ := id X
  have hlive : ∀ v ∈ As.reverse ++ rest, am_lV G v := h2
  have hAs : ∀ v ∈ As, am_lV G v := fun v hv => hlive v (List.mem_append_left _ (List.mem_reverse.mpr hv))
  have hrest : ∀ v ∈ rest, am_lV G v := fun v hv => hlive v (List.mem_append_right _ hv)
  have hdd := Nat.le_of_ble_eq_true hd
  have hnn := Nat.le_of_ble_eq_true y8
  have hG : GoodIn am_tb (va_wsS own idx y (am_ws y cc' nL' ret')) := fun w hw => by
    unfold va_wsS am_ws at hw
    have : w ∈ am_tb := by
      rcases List.mem_append.mp hw with hw | hw
      · simp only [List.mem_cons, List.not_mem_nil, or_false] at hw
        rcases hw with rfl | rfl | rfl
        · exact hlk
        · exact y1
        · exact y3
      · rcases List.mem_cons.mp hw with rfl | hw
        · exact y4
        · exact hw
    exact am_tb_good w this
  have hrun := va_runS (l := l) (e := e) (R := am_rc d mc ms) (below := below) (meth := meth) (H := H) (locs := locs) (cells := kc) (slots := ks) (As := As.map (am_v G)) (rest := rest.map (am_v G)) (g := F0 m pc la ((As.reverse ++ rest).map (am_v G))) ⟨hx, hb, hml, hown, hts⟩ (hM G hAs) (va_cwS (R := am_rc d mc ms) n hts hG rfl rfl rfl ⟨y5, y6, y7⟩ ⟨hdd, by show 8 + (nL' + 11) + 40 * d' ≤ 40 * d; omega⟩)
    ⟨am_blind, fun U hU' hWU => ⟨rfl, hU.warm hWU, by rw [hU']; exact hW.alike hWU.alike⟩⟩ rfl (by rw [List.length_map]; exact hn) hl.1 am_rv (by show 2 * 0 + _ ≤ 8; rw [am_catsum]; have := Nat.le_of_ble_eq_true hsz; omega) (am_dea hc h) (by rw [Bool.and_eq_true] at hkm; exact ⟨Nat.le_of_ble_eq_true hkm.1, Nat.le_of_ble_eq_true hkm.2⟩)
  exact am_goes hrun hA hL hF h1 hrest hl kk
theorem am_callN {tb : List (Nat × Instr × Nat)} (hc : am_code cc tb = true) (a : Nat) {d d' mc ms pc idx nL' n : Nat} (X : am_X p s m args c cc own nL P G A) {y : MethodName} {host : String} {cc' : ByteArray} {ret' : Option FieldType} {As rest st : List am_V} {ls : List (Nat × am_V)} {σ σ' : am_S} {r : Option am_V} (h : tb[a]? = some (pc, .invokestatic idx, 3))
    (hM : am_M l y cc' nL' ret' d' As σ r σ') (hy : am_yS y cc' nL' ret' n) (hlk : (own, idx, y, host) ∈ am_nst) (hd : Nat.ble (d' + 1) d = true) (hn : As.length = n) (hst : st = As.reverse ++ rest) (hsz : Nat.ble (am_sz rest) 8 = true) (hkm : (Nat.ble kc mc && Nat.ble ks ms) = true)
    (kk : am_A p l e (am_rc d mc ms) s m args below meth c nL G A kc ks Q (pc + 3, ls, r.toList ++ rest, σ')) : am_A p l e (am_rc d mc ms) s m args below meth c nL G A kc ks Q (pc, ls, st, σ) := by
  subst hst
  intro H locs la hW hL hF h1 h2 hl
  obtain ⟨y1, y3, y4, hy⟩ := hy
  unfold am_yR at hy
  simp only [Bool.and_eq_true, decide_eq_true_eq] at hy
  obtain ⟨y5, y6, y7, y8⟩ := hy
  obtain ⟨hx, hb, hml, hown, hts, -, hU, hA⟩ := id X
  have hlive : ∀ v ∈ As.reverse ++ rest, am_lV G v := h2
  have hAs : ∀ v ∈ As, am_lV G v := fun v hv => hlive v (List.mem_append_left _ (List.mem_reverse.mpr hv))
  have hrest : ∀ v ∈ rest, am_lV G v := fun v hv => hlive v (List.mem_append_right _ hv)
  have hdd := Nat.le_of_ble_eq_true hd
  have hnn := Nat.le_of_ble_eq_true y8
  have hG : GoodIn am_tb (am_ws y cc' nL' ret') := fun w hw => by
    unfold am_ws at hw
    have : w ∈ am_tb := by
      rcases List.mem_cons.mp hw with rfl | hw
      · exact y4
      · exact hw
    exact am_tb_good w this
  have hrun := va_runSN (l := l) (e := e) (R := am_rc d mc ms) (below := below) (meth := meth) (H := H) (locs := locs) (cells := kc) (slots := ks) (host := host) (As := As.map (am_v G)) (rest := rest.map (am_v G)) (g := F0 m pc la ((As.reverse ++ rest).map (am_v G))) ⟨hx, hb, hml, hown, hts⟩ (hM G hAs) ⟨va_cnB (R := am_rc d mc ms) n hts hG rfl rfl rfl (hU.2.1 _ hlk) (hts _ y3) ⟨y5, y6, y7⟩ ⟨hdd, by show 8 + (nL' + 11) + 40 * d' ≤ 40 * d; omega⟩, hts _ y1, trivial⟩
    ⟨am_blind, fun U hU' hWU => ⟨rfl, hU.warm hWU, by rw [hU']; exact hW.alike hWU.alike⟩⟩ rfl (by rw [List.length_map]; exact hn) hl.1 am_rv (by show 2 * 0 + _ ≤ 8; rw [am_catsum]; have := Nat.le_of_ble_eq_true hsz; omega) (am_dea hc h) (by rw [Bool.and_eq_true] at hkm; exact ⟨Nat.le_of_ble_eq_true hkm.1, Nat.le_of_ble_eq_true hkm.2⟩)
  exact am_goes hrun hA hL hF h1 hrest hl kk
end AMC
/-! ===== System.arraycopy ===== -/
def am_row (s : am_S) (o k i : Nat) (f : Nat → Int32) : am_S := (fun o' k' i' j' => if k' = k ∧ i' = i ∧ o' = o then f j' else s.1 o' k' i' j', s.2)
def am_rol (s : am_S) (o k i : Nat) (f : Nat → Int64) : am_S := (s.1, fun o' k' i' j' => if k' = k ∧ i' = i ∧ o' = o then f j' else s.2 o' k' i' j')
/-- n from place sp of n0, to place dp of n1 -/
def am_cok (sp dp n : Int32) (n0 n1 : Nat) : Bool := !decide (sp < 0) && (!decide (dp < 0) && (!decide (n < 0) && (Nat.ble (sp.toNatClampNeg + n.toNatClampNeg) n0 && Nat.ble (dp.toNatClampNeg + n.toNatClampNeg) n1)))
theorem am_at.congr {G : am_G} {s s' : am_S} {o k i : Nat} {H : Heap} (h : am_at G s o k i H) (h0 : (am_kd k).1 = 0 → i = 0) (e1 : ∀ j, s'.1 o k i j = s.1 o k i j) (e2 : ∀ j, s'.2 o k i j = s.2 o k i j) : am_at G s' o k i H := by
  unfold am_at at h ⊢
  split at h
  · rename_i e
    refine t_OB.to h fun f _ => ?_
    have hi : i = 0 := h0 (by rw [e])
    subst hi
    unfold am_fv
    split <;> simp only [e1]
  · simp only [e1]; exact h
  · simp only [e2]; exact h
  · simp only [e1]; exact h
  · exact h
  · exact h
  · exact h
  · trivial
section AMY
variable {p : Program} {l : Launch} {e : Env} {s : State} {m : MethodId} {args : Array Value} {below : List Frame} {meth : Method} {c : Code} {cc : ByteArray} {own : String} {nL : Nat} {P : am_P} {G : am_G} {A : Nat → Prop} {kc ks : Nat} {Q : State → Prop}
theorem am_cok_of {sp dp n : Int32} {n0 n1 : Nat} (h : am_cok sp dp n n0 n1 = true) : ¬ sp < 0 ∧ ¬ dp < 0 ∧ ¬ n < 0 ∧ sp.toNatClampNeg + n.toNatClampNeg ≤ n0 ∧ dp.toNatClampNeg + n.toNatClampNeg ≤ n1 := by
  unfold am_cok at h
  simp only [Bool.and_eq_true, Bool.not_eq_true', decide_eq_false_iff_not] at h
  exact ⟨h.1, h.2.1, h.2.2.1, Nat.le_of_ble_eq_true h.2.2.2.1, Nat.le_of_ble_eq_true h.2.2.2.2⟩
theorem am_nn {z : Int32} (hz : ¬ z < 0) : z.toInt = (z.toNatClampNeg : Int) := by
  have hz0 : (0 : Int) ≤ z.toInt := by
    have := Int32.not_lt.mp hz
    simpa using Int32.le_iff_toInt_le.mp this
  show z.toInt = ((z.toInt.toNat : Nat) : Int)
  omega
theorem am_cpi {tb : List (Nat × Instr × Nat)} (hc : am_code cc tb = true) (a : Nat) {d mc ms pc idx o k i o0 k0 i0 : Nat} (X : am_X p s m args c cc own nL P G A) {n dp sp : Int32} {rest : List am_V} {ls : List (Nat × am_V)} {σ : am_S} (h : tb[a]? = some (pc, .invokestatic idx, 3))
    (hlk : Cond.methodLink own idx arraycopyName ∈ am_tb) (hw : Cond.native arraycopyName ∈ am_tb ∧ Cond.static arraycopyName ∈ am_tb ∧ Cond.initialized "java/lang/System" ∈ am_tb) (hk : ((am_kd k).1 == 1 && (am_kd k0).1 == 1 && (Nat.ble (k + 1) 34 || Nat.ble 37 k)) = true) (ob : am_cok sp dp n (am_kd k0).2.1 (am_kd k).2.1 = true) (hsz : Nat.ble (am_sz rest) 8 = true)
    (kk : am_A p l e (am_rc (d + 1) mc ms) s m args below meth c nL G A kc ks Q (pc + 3, ls, rest, am_row σ o k i (va_cpy (σ.1 o0 k0 i0) (σ.1 o k i) sp.toNatClampNeg dp.toNatClampNeg n.toNatClampNeg))) : am_A p l e (am_rc (d + 1) mc ms) s m args below meth c nL G A kc ks Q (pc, ls, am_i n :: am_i dp :: am_r o k i :: am_i sp :: am_r o0 k0 i0 :: rest, σ) := by
  intro H locs la hW hL hF h1 h2 hl
  obtain ⟨hx, hb, hml, hown, hts, -, hU, hA⟩ := id X
  obtain ⟨g1, g2, g3, g4, g5⟩ := am_cok_of ob
  simp only [Bool.and_eq_true, beq_iff_eq] at hk
  have hlv : am_lv G o k i := h2 (am_r o k i) (by simp)
  have hlv0 : am_lv G o0 k0 i0 := h2 (am_r o0 k0 i0) (by simp)
  have h8 : o < 8 := am_arr8 hlv.2.1 (by
    have := hk.2
    rw [Bool.or_eq_true] at this
    rcases this with z | z <;> simp [z])
  have hc0 := hW.1 o0 k0 i0 hlv0
  rw [am_at1 hk.1.2] at hc0
  have hc1 := hW.1 o k i hlv
  rw [am_at1 hk.1.1] at hc1
  have hrl : ∀ v ∈ rest, am_lV G v := fun v hv => h2 v (by simp [hv])
  obtain ⟨-, kc, hkc, cm, hkk⟩ := (hU.1.2 0 _ rfl).1 0 (fun _ => .null)
  obtain ⟨-, k0c, hk0c, cm0, hkk0⟩ := (hU.1.2 0 _ rfl).1 (am_kd k0).2.1 (fun j => .int (σ.1 o0 k0 i0 j))
  obtain ⟨-, k1c, hk1c, cm1, hkk1⟩ := (hU.1.2 0 _ rfl).1 (am_kd k).2.1 (fun j => .int (σ.1 o k i j))
  intro T hT Xs
  obtain ⟨vm', X', step⟩ := Xs.arraycopy hx hown (hts _ hlk) (hts _ hw.1) (hts _ hw.2.1) (hts _ hw.2.2) (src := am_ad G o0 k0 i0) (dst := am_ad G o k i) (cs := arrV (G.2.1 0) (am_kd k0).2.1 (fun j => .int (σ.1 o0 k0 i0 j))) (cd := arrV (G.2.1 0) (am_kd k).2.1 (fun j => .int (σ.1 o k i j))) (srcPos := sp) (destPos := dp) (n := n) (by rw [hT]; exact hc0) (by rw [hT]; exact hc1)
    (fun _ h => by cases h) (fun _ h => by cases h) (fun h => by cases h) (fun h => by cases h) hk0c hk1c hkk0 hkk1 (by simp [refKind]) g1 g2 g3
    (by rw [am_nn g1, am_nn g3, arrV_size]; omega)
    (by rw [am_nn g2, am_nn g3, arrV_size]; omega)
    (fun vm₁ _ j hj => by
      have e : (arrV (G.2.1 0) (am_kd k0).2.1 (fun j => Value.int (σ.1 o0 k0 i0 j))).slots.getD (sp.toNatClampNeg + j) .null = .int (σ.1 o0 k0 i0 (sp.toNatClampNeg + j)) := by
        rw [Array.getD_eq_getD_getElem?, arrV_read _ _ (by omega)]
        rfl
      refine ⟨?_, ?_⟩
      · rw [e]
        rfl
      · rw [e]
        exact trivial)
    (g := F0 m pc la ((am_i n :: am_i dp :: am_r o k i :: am_i sp :: am_r o0 k0 i0 :: rest).map (am_v G))) rfl (hl.1.trans hml.symm) (rest := rest.map (am_v G)) rfl (by rw [hb]; exact am_dea hc h) (by show 1 ≤ d + 1; omega) (by
      show 2 * 0 + ((rest.map (am_v G)).map fun v => v.category).sum + (nativeFrameWords "java/lang/System" "arraycopy" 5 + 11) ≤ 40 * (d + 1)
      rw [am_catsum]
      have := Nat.le_of_ble_eq_true hsz
      have e7 : nativeFrameWords "java/lang/System" "arraycopy" 5 = 7 := by decide +kernel
      omega)
  have e1 : copied (arrV (G.2.1 0) (am_kd k0).2.1 (fun j => Value.int (σ.1 o0 k0 i0 j))) (arrV (G.2.1 0) (am_kd k).2.1 (fun j => Value.int (σ.1 o k i j))) sp dp n = arrV (G.2.1 0) (am_kd k).2.1 (fun j => Value.int (va_cpy (σ.1 o0 k0 i0) (σ.1 o k i) sp.toNatClampNeg dp.toNatClampNeg n.toNatClampNeg j)) := va_copied (fun z => .int z) _ _ _ _ g4
  rw [e1] at X' step
  have hlt : am_ad G o k i < H.size := (Array.getElem?_eq_some_iff.mp hc1).1
  obtain ⟨H1, hH1⟩ : ∃ H1, H1 = H.setIfInBounds (am_ad G o k i) (arrV (G.2.1 0) (am_kd k).2.1 (fun j => Value.int (va_cpy (σ.1 o0 k0 i0) (σ.1 o k i) sp.toNatClampNeg dp.toNatClampNeg n.toNatClampNeg j))) := ⟨_, rfl⟩
  have hheap : ((T.setVm vm').setCell (am_ad G o k i) (arrV (G.2.1 0) (am_kd k).2.1 (fun j => Value.int (va_cpy (σ.1 o0 k0 i0) (σ.1 o k i) sp.toNatClampNeg dp.toNatClampNeg n.toNatClampNeg j)))).heap = H1 := by rw [hH1, ← hT]; rfl
  have oq : ∀ q : Nat, q ≠ am_ad G o k i → H1[q]? = H[q]? := fun q hq => by rw [hH1]; simp [Array.getElem?_setIfInBounds, Ne.symm hq]
  have hself : H1[am_ad G o k i]? = some (arrV (G.2.1 0) (am_kd k).2.1 (fun j => Value.int (va_cpy (σ.1 o0 k0 i0) (σ.1 o k i) sp.toNatClampNeg dp.toNatClampNeg n.toNatClampNeg j))) := by rw [hH1]; simp [Array.getElem?_setIfInBounds, hlt]
  have hz : H1.size = H.size := by rw [hH1]; simp
  have hne : ∀ o' k' i', ¬ (o' = o ∧ k' = k ∧ i' = i) → ∀ j, (am_row σ o k i (va_cpy (σ.1 o0 k0 i0) (σ.1 o k i) sp.toNatClampNeg dp.toNatClampNeg n.toNatClampNeg)).1 o' k' i' j = σ.1 o' k' i' j := fun o' k' i' hn j => if_neg fun q => hn ⟨q.2.2, q.1, q.2.1⟩
  have hk40 : k ≠ 40 := am_40 0 (by decide) k (am_ok_lt hlv.2.1).2 (by rw [hk.1.1]; decide)
  have hW' : am_W G (am_row σ o k i (va_cpy (σ.1 o0 k0 i0) (σ.1 o k i) sp.toNatClampNeg dp.toNatClampNeg n.toNatClampNeg)) s H1 := by
    refine hW.put hlv h8 ?_ oq (fun o' k' i' hl' hn hat => hat.congr (am_obj0 hl') (hne o' k' i' hn) (fun _ => rfl)) (fun o' => ⟨hne _ _ _ (fun q => hk40 q.2.1.symm) _, hne _ _ _ (fun q => hk40 q.2.1.symm) _⟩)
    rw [am_at1 hk.1.1, hself]
    refine congrArg some (congrArg (arrV _ _) (funext fun j => ?_))
    exact congrArg Value.int (if_pos ⟨rfl, rfl, rfl⟩).symm
  obtain ⟨t, a1, b1⟩ := kk H1 _ la hW' (fun q hq => by
      rcases List.mem_append.mp hq with h | h
      · exact hL q h
      · obtain ⟨z, -, hz⟩ := List.mem_map.mp h
        rw [← hz]
        exact hA _ ⟨o, k, i, hlv, h8, rfl⟩) ⟨Nat.le_trans hF.1 (Nat.le_of_eq hz.symm), fun q hs hq => by rw [oq q fun z => hq (hA _ ⟨o, k, i, hlv, h8, z⟩)]; exact hF.2 q hs hq⟩ h1 hrl hl _ hheap X'
  exact ⟨t, step t a1, b1⟩
theorem am_cpl {tb : List (Nat × Instr × Nat)} (hc : am_code cc tb = true) (a : Nat) {d mc ms pc idx o k i o0 k0 i0 : Nat} (X : am_X p s m args c cc own nL P G A) {n dp sp : Int32} {rest : List am_V} {ls : List (Nat × am_V)} {σ : am_S} (h : tb[a]? = some (pc, .invokestatic idx, 3))
    (hlk : Cond.methodLink own idx arraycopyName ∈ am_tb) (hw : Cond.native arraycopyName ∈ am_tb ∧ Cond.static arraycopyName ∈ am_tb ∧ Cond.initialized "java/lang/System" ∈ am_tb) (hk : ((am_kd k).1 == 2 && (am_kd k0).1 == 2) = true) (ob : am_cok sp dp n (am_kd k0).2.1 (am_kd k).2.1 = true) (hsz : Nat.ble (am_sz rest) 8 = true)
    (kk : am_A p l e (am_rc (d + 1) mc ms) s m args below meth c nL G A kc ks Q (pc + 3, ls, rest, am_rol σ o k i (va_cpy (σ.2 o0 k0 i0) (σ.2 o k i) sp.toNatClampNeg dp.toNatClampNeg n.toNatClampNeg))) : am_A p l e (am_rc (d + 1) mc ms) s m args below meth c nL G A kc ks Q (pc, ls, am_i n :: am_i dp :: am_r o k i :: am_i sp :: am_r o0 k0 i0 :: rest, σ) := by
  intro H locs la hW hL hF h1 h2 hl
  obtain ⟨hx, hb, hml, hown, hts, -, hU, hA⟩ := id X
  obtain ⟨g1, g2, g3, g4, g5⟩ := am_cok_of ob
  simp only [Bool.and_eq_true, beq_iff_eq] at hk
  have hlv : am_lv G o k i := h2 (am_r o k i) (by simp)
  have hlv0 : am_lv G o0 k0 i0 := h2 (am_r o0 k0 i0) (by simp)
  have h8 : o < 8 := am_arr8 hlv.2.1 (by rw [hk.1]; rfl)
  have hc0 := hW.1 o0 k0 i0 hlv0
  rw [am_at2 hk.2] at hc0
  have hc1 := hW.1 o k i hlv
  rw [am_at2 hk.1] at hc1
  have hrl : ∀ v ∈ rest, am_lV G v := fun v hv => h2 v (by simp [hv])
  obtain ⟨-, kc, hkc, cm, hkk⟩ := (hU.1.2 1 _ rfl).1 0 (fun _ => .null)
  obtain ⟨-, k0c, hk0c, cm0, hkk0⟩ := (hU.1.2 1 _ rfl).1 (am_kd k0).2.1 (fun j => .long (σ.2 o0 k0 i0 j))
  obtain ⟨-, k1c, hk1c, cm1, hkk1⟩ := (hU.1.2 1 _ rfl).1 (am_kd k).2.1 (fun j => .long (σ.2 o k i j))
  intro T hT Xs
  obtain ⟨vm', X', step⟩ := Xs.arraycopy hx hown (hts _ hlk) (hts _ hw.1) (hts _ hw.2.1) (hts _ hw.2.2) (src := am_ad G o0 k0 i0) (dst := am_ad G o k i) (cs := arrV (G.2.1 1) (am_kd k0).2.1 (fun j => .long (σ.2 o0 k0 i0 j))) (cd := arrV (G.2.1 1) (am_kd k).2.1 (fun j => .long (σ.2 o k i j))) (srcPos := sp) (destPos := dp) (n := n) (by rw [hT]; exact hc0) (by rw [hT]; exact hc1)
    (fun _ h => by cases h) (fun _ h => by cases h) (fun h => by cases h) (fun h => by cases h) hk0c hk1c hkk0 hkk1 (by simp [refKind]) g1 g2 g3
    (by rw [am_nn g1, am_nn g3, arrV_size]; omega)
    (by rw [am_nn g2, am_nn g3, arrV_size]; omega)
    (fun vm₁ _ j hj => by
      have e : (arrV (G.2.1 1) (am_kd k0).2.1 (fun j => Value.long (σ.2 o0 k0 i0 j))).slots.getD (sp.toNatClampNeg + j) .null = .long (σ.2 o0 k0 i0 (sp.toNatClampNeg + j)) := by
        rw [Array.getD_eq_getD_getElem?, arrV_read _ _ (by omega)]
        rfl
      refine ⟨?_, ?_⟩
      · rw [e]
        rfl
      · rw [e]
        exact trivial)
    (g := F0 m pc la ((am_i n :: am_i dp :: am_r o k i :: am_i sp :: am_r o0 k0 i0 :: rest).map (am_v G))) rfl (hl.1.trans hml.symm) (rest := rest.map (am_v G)) rfl (by rw [hb]; exact am_dea hc h) (by show 1 ≤ d + 1; omega) (by
      show 2 * 0 + ((rest.map (am_v G)).map fun v => v.category).sum + (nativeFrameWords "java/lang/System" "arraycopy" 5 + 11) ≤ 40 * (d + 1)
      rw [am_catsum]
      have := Nat.le_of_ble_eq_true hsz
      have e7 : nativeFrameWords "java/lang/System" "arraycopy" 5 = 7 := by decide +kernel
      omega)
  have e1 : copied (arrV (G.2.1 1) (am_kd k0).2.1 (fun j => Value.long (σ.2 o0 k0 i0 j))) (arrV (G.2.1 1) (am_kd k).2.1 (fun j => Value.long (σ.2 o k i j))) sp dp n = arrV (G.2.1 1) (am_kd k).2.1 (fun j => Value.long (va_cpy (σ.2 o0 k0 i0) (σ.2 o k i) sp.toNatClampNeg dp.toNatClampNeg n.toNatClampNeg j)) := va_copied (fun z => .long z) _ _ _ _ g4
  rw [e1] at X' step
  have hlt : am_ad G o k i < H.size := (Array.getElem?_eq_some_iff.mp hc1).1
  obtain ⟨H1, hH1⟩ : ∃ H1, H1 = H.setIfInBounds (am_ad G o k i) (arrV (G.2.1 1) (am_kd k).2.1 (fun j => Value.long (va_cpy (σ.2 o0 k0 i0) (σ.2 o k i) sp.toNatClampNeg dp.toNatClampNeg n.toNatClampNeg j))) := ⟨_, rfl⟩
  have hheap : ((T.setVm vm').setCell (am_ad G o k i) (arrV (G.2.1 1) (am_kd k).2.1 (fun j => Value.long (va_cpy (σ.2 o0 k0 i0) (σ.2 o k i) sp.toNatClampNeg dp.toNatClampNeg n.toNatClampNeg j)))).heap = H1 := by rw [hH1, ← hT]; rfl
  have oq : ∀ q : Nat, q ≠ am_ad G o k i → H1[q]? = H[q]? := fun q hq => by rw [hH1]; simp [Array.getElem?_setIfInBounds, Ne.symm hq]
  have hself : H1[am_ad G o k i]? = some (arrV (G.2.1 1) (am_kd k).2.1 (fun j => Value.long (va_cpy (σ.2 o0 k0 i0) (σ.2 o k i) sp.toNatClampNeg dp.toNatClampNeg n.toNatClampNeg j))) := by rw [hH1]; simp [Array.getElem?_setIfInBounds, hlt]
  have hz : H1.size = H.size := by rw [hH1]; simp
  have hne : ∀ o' k' i', ¬ (o' = o ∧ k' = k ∧ i' = i) → ∀ j, (am_rol σ o k i (va_cpy (σ.2 o0 k0 i0) (σ.2 o k i) sp.toNatClampNeg dp.toNatClampNeg n.toNatClampNeg)).2 o' k' i' j = σ.2 o' k' i' j := fun o' k' i' hn j => if_neg fun q => hn ⟨q.2.2, q.1, q.2.1⟩
  have hk40 : k ≠ 40 := am_40 0 (by decide) k (am_ok_lt hlv.2.1).2 (by rw [hk.1]; decide)
  have hW' : am_W G (am_rol σ o k i (va_cpy (σ.2 o0 k0 i0) (σ.2 o k i) sp.toNatClampNeg dp.toNatClampNeg n.toNatClampNeg)) s H1 := by
    refine hW.put hlv h8 ?_ oq (fun o' k' i' hl' hn hat => hat.congr (am_obj0 hl') (fun _ => rfl) (hne o' k' i' hn)) (fun o' => ⟨rfl, rfl⟩)
    rw [am_at2 hk.1, hself]
    refine congrArg some (congrArg (arrV _ _) (funext fun j => ?_))
    exact congrArg Value.long (if_pos ⟨rfl, rfl, rfl⟩).symm
  obtain ⟨t, a1, b1⟩ := kk H1 _ la hW' (fun q hq => by
      rcases List.mem_append.mp hq with h | h
      · exact hL q h
      · obtain ⟨z, -, hz⟩ := List.mem_map.mp h
        rw [← hz]
        exact hA _ ⟨o, k, i, hlv, h8, rfl⟩) ⟨Nat.le_trans hF.1 (Nat.le_of_eq hz.symm), fun q hs hq => by rw [oq q fun z => hq (hA _ ⟨o, k, i, hlv, h8, z⟩)]; exact hF.2 q hs hq⟩ h1 hrl hl _ hheap X'
  exact ⟨t, step t a1, b1⟩
theorem am_mmin {tb : List (Nat × Instr × Nat)} (hc : am_code cc tb = true) (a : Nat) {d mc ms pc idx : Nat} (X : am_X p s m args c cc own nL P G A) {x y : Int32} {rest : List am_V} {ls : List (Nat × am_V)} {σ : am_S} (h : tb[a]? = some (pc, .invokestatic idx, 3))
    (hlk : Cond.methodLink own idx Lib.Math.min.name ∈ am_tb) (hw : Cond.static Lib.Math.min.name ∈ am_tb ∧ Cond.initialized "java/lang/Math" ∈ am_tb ∧ Cond.code Lib.Math.min.name Lib.Math.min.code 2 (some .int) ∈ am_tb) (hsz : Nat.ble (am_sz rest) 8 = true) (hkm : (Nat.ble kc mc && Nat.ble ks ms) = true)
    (kk : am_A p l e (am_rc (d + 1) mc ms) s m args below meth c nL G A kc ks Q (pc + 3, ls, am_i (if y < x then y else x) :: rest, σ)) : am_A p l e (am_rc (d + 1) mc ms) s m args below meth c nL G A kc ks Q (pc, ls, am_i y :: am_i x :: rest, σ) := by
  intro H locs la hW hL hF h1 h2 hl
  obtain ⟨hx, hb, hml, hown, hts, -, hU, hA⟩ := id X
  rw [Bool.and_eq_true] at hkm
  have h3 := Nat.le_of_ble_eq_true hsz
  exact va_mmin hx hb (hml.trans hl.1.symm) hown (hts _ hlk) (hts _ hw.1) (hts _ hw.2.1) (hts _ hw.2.2) (by show 1 ≤ d + 1; omega) (by show ((rest.map (am_v G)).map fun v => v.category).sum + 13 ≤ 40 * (d + 1); rw [am_catsum]; omega) (Nat.le_of_ble_eq_true hkm.1) (Nat.le_of_ble_eq_true hkm.2) (am_dea hc h) (kk H locs la hW hL hF h1 (am_lcons (v := .inl _) trivial (am_tl (am_tl h2).2).2) hl)
theorem am_mmax {tb : List (Nat × Instr × Nat)} (hc : am_code cc tb = true) (a : Nat) {d mc ms pc idx : Nat} (X : am_X p s m args c cc own nL P G A) {x y : Int32} {rest : List am_V} {ls : List (Nat × am_V)} {σ : am_S} (h : tb[a]? = some (pc, .invokestatic idx, 3))
    (hlk : Cond.methodLink own idx Lib.Math.max.name ∈ am_tb) (hw : Cond.static Lib.Math.max.name ∈ am_tb ∧ Cond.initialized "java/lang/Math" ∈ am_tb ∧ Cond.code Lib.Math.max.name Lib.Math.max.code 2 (some .int) ∈ am_tb) (hsz : Nat.ble (am_sz rest) 8 = true) (hkm : (Nat.ble kc mc && Nat.ble ks ms) = true)
    (kk : am_A p l e (am_rc (d + 1) mc ms) s m args below meth c nL G A kc ks Q (pc + 3, ls, am_i (if x < y then y else x) :: rest, σ)) : am_A p l e (am_rc (d + 1) mc ms) s m args below meth c nL G A kc ks Q (pc, ls, am_i y :: am_i x :: rest, σ) := by
  intro H locs la hW hL hF h1 h2 hl
  obtain ⟨hx, hb, hml, hown, hts, -, hU, hA⟩ := id X
  rw [Bool.and_eq_true] at hkm
  have h3 := Nat.le_of_ble_eq_true hsz
  exact va_mmax hx hb (hml.trans hl.1.symm) hown (hts _ hlk) (hts _ hw.1) (hts _ hw.2.1) (hts _ hw.2.2) (by show 1 ≤ d + 1; omega) (by show ((rest.map (am_v G)).map fun v => v.category).sum + 13 ≤ 40 * (d + 1); rw [am_catsum]; omega) (Nat.le_of_ble_eq_true hkm.1) (Nat.le_of_ble_eq_true hkm.2) (am_dea hc h) (kk H locs la hW hL hF h1 (am_lcons (v := .inl _) trivial (am_tl (am_tl h2).2).2) hl)
end AMY
end
