set_option maxRecDepth 100000 in
theorem cl_0 : RX7 = (am_cl 0).1 ∧ Nat.beq (am_kd 0).1 0 = true := by decide +kernel
set_option maxRecDepth 100000 in
theorem cl_2 : RX0 = (am_cl 2).1 ∧ Nat.beq (am_kd 2).1 0 = true := by decide +kernel
set_option maxRecDepth 100000 in
theorem cl_9 : RX2 = (am_cl 9).1 ∧ Nat.beq (am_kd 9).1 0 = true := by decide +kernel
set_option maxRecDepth 100000 in
theorem cl_14 : RX4 = (am_cl 14).1 ∧ Nat.beq (am_kd 14).1 0 = true := by decide +kernel
set_option maxRecDepth 100000 in
theorem cl_17 : RX6 = (am_cl 17).1 ∧ Nat.beq (am_kd 17).1 0 = true := by decide +kernel
set_option maxRecDepth 100000 in
theorem cl_22 : RX5 = (am_cl 22).1 ∧ Nat.beq (am_kd 22).1 0 = true := by decide +kernel
set_option maxRecDepth 100000 in
theorem cl_29 : RX3 = (am_cl 29).1 ∧ Nat.beq (am_kd 29).1 0 = true := by decide +kernel
set_option maxRecDepth 100000 in
theorem cl_32 : RX1 = (am_cl 32).1 ∧ Nat.beq (am_kd 32).1 0 = true := by decide +kernel
set_option maxRecDepth 100000 in
theorem cl_40 : RX8 = (am_cl 40).1 ∧ Nat.beq (am_kd 40).1 0 = true := by decide +kernel
set_option maxRecDepth 100000 in
theorem yv_J7_fill_53178 : am_yS yJ7_fill_53178 cJ7_fill_53178 4 none 2 = true := by decide +kernel
set_option maxRecDepth 100000 in
theorem yv_J7_fill_d0a16 : am_yS yJ7_fill_d0a16 cJ7_fill_d0a16 5 none 2 = true := by decide +kernel
set_option maxRecDepth 100000 in
theorem yv_J9_max_7cf53 : am_yS yJ9_max_7cf53 cJ9_max_7cf53 2 (some .int) 2 = true := by decide +kernel
set_option maxRecDepth 100000 in
theorem yv_J9_min_7cf53 : am_yS yJ9_min_7cf53 cJ9_min_7cf53 2 (some .int) 2 = true := by decide +kernel
set_option maxRecDepth 100000 in
theorem yv_X0_actInTruth : am_yV yX0_actInTruth cX0_actInTruth 4 (some .boolean) 2 = true := by decide +kernel
set_option maxRecDepth 100000 in
theorem yv_X0_addPass : am_yV yX0_addPass cX0_addPass 6 (some .int) 4 = true := by decide +kernel
set_option maxRecDepth 100000 in
theorem yv_X0_addPerson : am_yV yX0_addPerson cX0_addPerson 5 (some .int) 3 = true := by decide +kernel
set_option maxRecDepth 100000 in
theorem yv_X0_drawAct : am_yV yX0_drawAct cX0_drawAct 3 (some .int) 1 = true := by decide +kernel
set_option maxRecDepth 100000 in
theorem yv_X0_endOf : am_yV yX0_endOf cX0_endOf 4 (some .int) 2 = true := by decide +kernel
set_option maxRecDepth 100000 in
theorem yv_X0_fareOf : am_yV yX0_fareOf cX0_fareOf 4 (some .int) 2 = true := by decide +kernel
set_option maxRecDepth 100000 in
theorem yv_X0_hasPass : am_yV yX0_hasPass cX0_hasPass 2 (some .boolean) 1 = true := by decide +kernel
set_option maxRecDepth 100000 in
theorem yv_X0_hasPerson : am_yV yX0_hasPerson cX0_hasPerson 2 (some .boolean) 1 = true := by decide +kernel
set_option maxRecDepth 100000 in
theorem yv_X0_hoursOf : am_yV yX0_hoursOf cX0_hoursOf 4 (some .int) 2 = true := by decide +kernel
set_option maxRecDepth 100000 in
theorem yv_X0_passFrom : am_yV yX0_passFrom cX0_passFrom 5 (some .int) 2 = true := by decide +kernel
set_option maxRecDepth 100000 in
theorem yv_X0_passWeeks : am_yV yX0_passWeeks cX0_passWeeks 5 (some .int) 1 = true := by decide +kernel
set_option maxRecDepth 100000 in
theorem yv_X0_payAt : am_yV yX0_payAt cX0_payAt 2 (some .int) 1 = true := by decide +kernel
set_option maxRecDepth 100000 in
theorem yv_X0_peopleAt : am_yV yX0_peopleAt cX0_peopleAt 4 (some .int) 1 = true := by decide +kernel
set_option maxRecDepth 100000 in
theorem yv_X0_priceFor : am_yV yX0_priceFor cX0_priceFor 5 (some .int) 3 = true := by decide +kernel
set_option maxRecDepth 100000 in
theorem yv_X0_together : am_yV yX0_together cX0_together 4 (some .int) 1 = true := by decide +kernel
set_option maxRecDepth 100000 in
theorem yv_X0_tryAct : am_yV yX0_tryAct cX0_tryAct 3 (some .boolean) 2 = true := by decide +kernel
set_option maxRecDepth 100000 in
theorem yv_X0_tryRest : am_yS yX0_tryRest cX0_tryRest 1 (some .boolean) 1 = true := by decide +kernel
set_option maxRecDepth 100000 in
theorem yv_X0_tryStep : am_yV yX0_tryStep cX0_tryStep 5 (some .boolean) 2 = true := by decide +kernel
set_option maxRecDepth 100000 in
theorem yv_X0_tryWork : am_yV yX0_tryWork cX0_tryWork 2 (some .boolean) 1 = true := by decide +kernel
set_option maxRecDepth 100000 in
theorem yv_X0_valleyAhead : am_yS yX0_valleyAhead cX0_valleyAhead 1 (some .int) 1 = true := by decide +kernel
set_option maxRecDepth 100000 in
theorem yv_X2_elementAt : am_yV yX2_elementAt cX2_elementAt 3 (some .long) 2 = true := by decide +kernel
set_option maxRecDepth 100000 in
theorem yv_X2_hasElement : am_yV yX2_hasElement cX2_hasElement 3 (some .boolean) 2 = true := by decide +kernel
set_option maxRecDepth 100000 in
theorem yv_X2_hasElements : am_yV yX2_hasElements cX2_hasElements 4 (some .boolean) 3 = true := by decide +kernel
set_option maxRecDepth 100000 in
theorem yv_X2_howManyHold : am_yV yX2_howManyHold cX2_howManyHold 3 (some .int) 0 = true := by decide +kernel
set_option maxRecDepth 100000 in
theorem yv_X2_isRow : am_yV yX2_isRow cX2_isRow 2 (some .boolean) 1 = true := by decide +kernel
set_option maxRecDepth 100000 in
theorem yv_X2_narrowed : am_yS yX2_narrowed cX2_narrowed 3 (some .long) 2 = true := by decide +kernel
set_option maxRecDepth 100000 in
theorem yv_X2_putElement : am_yV yX2_putElement cX2_putElement 5 none 3 = true := by decide +kernel
set_option maxRecDepth 100000 in
theorem yv_X2_putRow : am_yV yX2_putRow cX2_putRow 4 none 3 = true := by decide +kernel
set_option maxRecDepth 100000 in
theorem yv_X2_refusalOfRow : am_yV yX2_refusalOfRow cX2_refusalOfRow 2 (some .int) 1 = true := by decide +kernel
set_option maxRecDepth 100000 in
theorem yv_X3_comeTo : am_yV yX3_comeTo cX3_comeTo 4 (some .int) 1 = true := by decide +kernel
set_option maxRecDepth 100000 in
theorem yv_X3_follow : am_yV yX3_follow cX3_follow 7 none 4 = true := by decide +kernel
set_option maxRecDepth 100000 in
theorem yv_X3_leadingInto : am_yS yX3_leadingInto cX3_leadingInto 6 (some .int) 2 = true := by decide +kernel
set_option maxRecDepth 100000 in
theorem yv_X3_stepOn : am_yV yX3_stepOn cX3_stepOn 9 none 4 = true := by decide +kernel
set_option maxRecDepth 100000 in
theorem yv_X4_comeToPass : am_yV yX4_comeToPass cX4_comeToPass 2 none 1 = true := by decide +kernel
set_option maxRecDepth 100000 in
theorem yv_X4_hasRoomFor : am_yV yX4_hasRoomFor cX4_hasRoomFor 2 (some .boolean) 1 = true := by decide +kernel
set_option maxRecDepth 100000 in
theorem yv_X4_mostOf : am_yV yX4_mostOf cX4_mostOf 2 (some .int) 1 = true := by decide +kernel
set_option maxRecDepth 100000 in
theorem yv_X4_nextToken : am_yV yX4_nextToken cX4_nextToken 1 none 0 = true := by decide +kernel
set_option maxRecDepth 100000 in
theorem yv_X4_putByte : am_yV yX4_putByte cX4_putByte 2 none 1 = true := by decide +kernel
set_option maxRecDepth 100000 in
theorem yv_X4_readNumber : am_yV yX4_readNumber cX4_readNumber 6 (some .boolean) 2 = true := by decide +kernel
set_option maxRecDepth 100000 in
theorem yv_X4_tokenNumber : am_yV yX4_tokenNumber cX4_tokenNumber 3 (some .int) 0 = true := by decide +kernel
set_option maxRecDepth 100000 in
theorem yv_X4_tokenOf : am_yS yX4_tokenOf cX4_tokenOf 1 (some .int) 1 = true := by decide +kernel
set_option maxRecDepth 100000 in
theorem yv_X5_costWith : am_yV yX5_costWith cX5_costWith 4 (some .int) 3 = true := by decide +kernel
set_option maxRecDepth 100000 in
theorem yv_X5_fillSet : am_yV yX5_fillSet cX5_fillSet 6 none 4 = true := by decide +kernel
set_option maxRecDepth 100000 in
theorem yv_X5_findOrder : am_yV yX5_findOrder cX5_findOrder 7 (some .int) 3 = true := by decide +kernel
set_option maxRecDepth 100000 in
theorem yv_X5_firstHome : am_yV yX5_firstHome cX5_firstHome 6 (some .int) 2 = true := by decide +kernel
set_option maxRecDepth 100000 in
theorem yv_X5_firstNext : am_yV yX5_firstNext cX5_firstNext 6 (some .int) 3 = true := by decide +kernel
set_option maxRecDepth 100000 in
theorem yv_X5_leastByNext : am_yV yX5_leastByNext cX5_leastByNext 6 (some .int) 3 = true := by decide +kernel
set_option maxRecDepth 100000 in
theorem yv_X5_leastFrom : am_yV yX5_leastFrom cX5_leastFrom 7 (some .int) 4 = true := by decide +kernel
set_option maxRecDepth 100000 in
theorem yv_X5_leastOver : am_yV yX5_leastOver cX5_leastOver 5 (some .int) 4 = true := by decide +kernel
set_option maxRecDepth 100000 in
theorem yv_X5_leastTour : am_yV yX5_leastTour cX5_leastTour 6 (some .int) 4 = true := by decide +kernel
set_option maxRecDepth 100000 in
theorem yv_X5_savedBy : am_yV yX5_savedBy cX5_savedBy 6 (some .int) 3 = true := by decide +kernel
set_option maxRecDepth 100000 in
theorem yv_X6_bestPlace : am_yV yX6_bestPlace cX6_bestPlace 7 (some .int) 2 = true := by decide +kernel
set_option maxRecDepth 100000 in
theorem yv_X6_between : am_yV yX6_between cX6_between 3 (some .int) 2 = true := by decide +kernel
set_option maxRecDepth 100000 in
theorem yv_X6_findRoute : am_yV yX6_findRoute cX6_findRoute 7 (some .int) 3 = true := by decide +kernel
set_option maxRecDepth 100000 in
theorem yv_X6_firstStep : am_yV yX6_firstStep cX6_firstStep 8 (some .int) 4 = true := by decide +kernel
set_option maxRecDepth 100000 in
theorem yv_X6_measure : am_yV yX6_measure cX6_measure 9 none 4 = true := by decide +kernel
set_option maxRecDepth 100000 in
theorem yv_X6_shortenBy : am_yV yX6_shortenBy cX6_shortenBy 4 none 1 = true := by decide +kernel
set_option maxRecDepth 100000 in
theorem yv_X6_weight : am_yS yX6_weight cX6_weight 5 (some .int) 5 = true := by decide +kernel
set_option maxRecDepth 100000 in
theorem yv_X7_isAct : am_yS yX7_isAct cX7_isAct 2 (some .boolean) 1 = true := by decide +kernel
set_option maxRecDepth 100000 in
theorem yv_X7_isOfKind : am_yS yX7_isOfKind cX7_isOfKind 4 (some .boolean) 2 = true := by decide +kernel
set_option maxRecDepth 100000 in
theorem yv_X7_isShelf : am_yS yX7_isShelf cX7_isShelf 1 (some .boolean) 1 = true := by decide +kernel
set_option maxRecDepth 100000 in
theorem yv_X7_isValley : am_yS yX7_isValley cX7_isValley 1 (some .boolean) 1 = true := by decide +kernel
set_option maxRecDepth 100000 in
theorem yv_X7_isWithin : am_yS yX7_isWithin cX7_isWithin 3 (some .boolean) 3 = true := by decide +kernel
set_option maxRecDepth 100000 in
theorem yv_X7_leastWay : am_yV yX7_leastWay cX7_leastWay 5 (some .int) 3 = true := by decide +kernel
set_option maxRecDepth 100000 in
theorem yv_X7_mayBeOfValley : am_yS yX7_mayBeOfValley cX7_mayBeOfValley 2 (some .boolean) 2 = true := by decide +kernel
set_option maxRecDepth 100000 in
theorem yv_X7_mostOfFact : am_yS yX7_mostOfFact cX7_mostOfFact 1 (some .int) 1 = true := by decide +kernel
set_option maxRecDepth 100000 in
theorem yv_X7_refusalOfElements : am_yV yX7_refusalOfElements cX7_refusalOfElements 4 (some .int) 2 = true := by decide +kernel
set_option maxRecDepth 100000 in
theorem yv_X7_refuse : am_yV yX7_refuse cX7_refuse 3 (some .int) 1 = true := by decide +kernel
set_option maxRecDepth 100000 in
theorem yv_X7_toldFact : am_yS yX7_toldFact cX7_toldFact 1 (some .int) 1 = true := by decide +kernel
set_option maxRecDepth 100000 in
theorem yv_X8_acts : am_yV yX8_acts cX8_acts 6 (some .boolean) 2 = true := by decide +kernel
set_option maxRecDepth 100000 in
theorem yv_X8_addPass : am_yV yX8_addPass cX8_addPass 5 none 4 = true := by decide +kernel
set_option maxRecDepth 100000 in
theorem yv_X8_addPerson : am_yV yX8_addPerson cX8_addPerson 4 none 3 = true := by decide +kernel
set_option maxRecDepth 100000 in
theorem yv_X8_below : am_yV yX8_below cX8_below 2 (some .int) 1 = true := by decide +kernel
set_option maxRecDepth 100000 in
theorem yv_X8_copied : am_yS yX8_copied cX8_copied 3 none 2 = true := by decide +kernel
set_option maxRecDepth 100000 in
theorem yv_X8_fareOf : am_yV yX8_fareOf cX8_fareOf 3 (some .int) 2 = true := by decide +kernel
set_option maxRecDepth 100000 in
theorem yv_X8_findFar : am_yV yX8_findFar cX8_findFar 8 none 3 = true := by decide +kernel
set_option maxRecDepth 100000 in
theorem yv_X8_findJourneys : am_yV yX8_findJourneys cX8_findJourneys 9 none 3 = true := by decide +kernel
set_option maxRecDepth 100000 in
theorem yv_X8_fit : am_yS yX8_fit cX8_fit 3 (some .long) 2 = true := by decide +kernel
set_option maxRecDepth 100000 in
theorem yv_X8_fits : am_yS yX8_fits cX8_fits 3 (some .boolean) 2 = true := by decide +kernel
set_option maxRecDepth 100000 in
theorem yv_X8_forged : am_yV yX8_forged cX8_forged 3 (some .int) 1 = true := by decide +kernel
set_option maxRecDepth 100000 in
theorem yv_X8_hoursOf : am_yV yX8_hoursOf cX8_hoursOf 3 (some .int) 2 = true := by decide +kernel
set_option maxRecDepth 100000 in
theorem yv_X8_in : am_yS yX8_in cX8_in 6 (some .boolean) 3 = true := by decide +kernel
set_option maxRecDepth 100000 in
theorem yv_X8_isAct : am_yS yX8_isAct cX8_isAct 2 (some .boolean) 1 = true := by decide +kernel
set_option maxRecDepth 100000 in
theorem yv_X8_isDigit : am_yS yX8_isDigit cX8_isDigit 1 (some .boolean) 1 = true := by decide +kernel
set_option maxRecDepth 100000 in
theorem yv_X8_isLetter : am_yS yX8_isLetter cX8_isLetter 1 (some .boolean) 1 = true := by decide +kernel
set_option maxRecDepth 100000 in
theorem yv_X8_isOne : am_yV yX8_isOne cX8_isOne 2 (some .boolean) 1 = true := by decide +kernel
set_option maxRecDepth 100000 in
theorem yv_X8_isUnder : am_yS yX8_isUnder cX8_isUnder 2 (some .boolean) 2 = true := by decide +kernel
set_option maxRecDepth 100000 in
theorem yv_X8_isValley : am_yS yX8_isValley cX8_isValley 2 (some .boolean) 1 = true := by decide +kernel
set_option maxRecDepth 100000 in
theorem yv_X8_journeysTo : am_yV yX8_journeysTo cX8_journeysTo 4 (some .int) 1 = true := by decide +kernel
set_option maxRecDepth 100000 in
theorem yv_X8_leastPaid : am_yV yX8_leastPaid cX8_leastPaid 3 (some .int) 0 = true := by decide +kernel
set_option maxRecDepth 100000 in
theorem yv_X8_look : am_yV yX8_look cX8_look 1 none 0 = true := by decide +kernel
set_option maxRecDepth 100000 in
theorem yv_X8_manyAt : am_yV yX8_manyAt cX8_manyAt 4 (some .int) 1 = true := by decide +kernel
set_option maxRecDepth 100000 in
theorem yv_X8_maybeAt : am_yV yX8_maybeAt cX8_maybeAt 4 (some .int) 1 = true := by decide +kernel
set_option maxRecDepth 100000 in
theorem yv_X8_nextOf : am_yV yX8_nextOf cX8_nextOf 4 (some .int) 2 = true := by decide +kernel
set_option maxRecDepth 100000 in
theorem yv_X8_noPlan : am_yV yX8_noPlan cX8_noPlan 5 (some .int) 3 = true := by decide +kernel
set_option maxRecDepth 100000 in
theorem yv_X8_noRow : am_yV yX8_noRow cX8_noRow 2 (some .int) 1 = true := by decide +kernel
set_option maxRecDepth 100000 in
theorem yv_X8_number : am_yV yX8_number cX8_number 4 (some .boolean) 3 = true := by decide +kernel
set_option maxRecDepth 100000 in
theorem yv_X8_priceOf : am_yV yX8_priceOf cX8_priceOf 5 (some .int) 3 = true := by decide +kernel
set_option maxRecDepth 100000 in
theorem yv_X8_refuse : am_yV yX8_refuse cX8_refuse 2 (some .int) 1 = true := by decide +kernel
set_option maxRecDepth 100000 in
theorem yv_X8_sumOf : am_yS yX8_sumOf cX8_sumOf 4 (some .int) 2 = true := by decide +kernel
set_option maxRecDepth 100000 in
theorem yv_X8_sure : am_yV yX8_sure cX8_sure 6 (some .int) 2 = true := by decide +kernel
set_option maxRecDepth 100000 in
theorem yv_X8_tells : am_yV yX8_tells cX8_tells 2 (some .boolean) 1 = true := by decide +kernel
set_option maxRecDepth 100000 in
theorem yv_X8_valueOf : am_yV yX8_valueOf cX8_valueOf 3 (some .int) 2 = true := by decide +kernel
set_option maxRecDepth 100000 in
theorem yv_X8_weight : am_yV yX8_weight cX8_weight 5 (some .int) 4 = true := by decide +kernel
set_option maxRecDepth 100000 in
theorem yv_X8_wrong : am_yV yX8_wrong cX8_wrong 1 (some .boolean) 0 = true := by decide +kernel
set_option maxRecDepth 100000 in
theorem yv_X8_wrongSame : am_yV yX8_wrongSame cX8_wrongSame 1 (some .boolean) 0 = true := by decide +kernel
set_option maxRecDepth 100000 in
theorem ml_X7_69 : Cond.methodLink RX7 69 yX7_isShelf ∈ am_tb := by decide +kernel
set_option maxRecDepth 100000 in
theorem ml_X7_73 : Cond.methodLink RX7 73 yX7_isWithin ∈ am_tb := by decide +kernel
set_option maxRecDepth 100000 in
theorem ml_X7_77 : Cond.methodLink RX7 77 yX7_refuse ∈ am_tb := by decide +kernel
set_option maxRecDepth 100000 in
theorem ml_X7_81 : Cond.methodLink RX7 81 yX2_putRow ∈ am_tb := by decide +kernel
set_option maxRecDepth 100000 in
theorem ml_X7_85 : Cond.methodLink RX7 85 yX2_refusalOfRow ∈ am_tb := by decide +kernel
set_option maxRecDepth 100000 in
theorem ml_X7_88 : Cond.methodLink RX7 88 yX2_hasElement ∈ am_tb := by decide +kernel
set_option maxRecDepth 100000 in
theorem ml_X7_92 : Cond.methodLink RX7 92 yX2_putElement ∈ am_tb := by decide +kernel
set_option maxRecDepth 100000 in
theorem ml_X7_107 : Cond.methodLink RX7 107 yX2_elementAt ∈ am_tb := by decide +kernel
set_option maxRecDepth 100000 in
theorem ml_X7_114 : Cond.methodLink RX7 114 yX0_hasPerson ∈ am_tb := by decide +kernel
set_option maxRecDepth 100000 in
theorem ml_X7_121 : Cond.methodLink RX7 121 yX7_isOfKind ∈ am_tb := by decide +kernel
set_option maxRecDepth 100000 in
theorem ml_X7_124 : Cond.methodLink RX7 124 yX0_priceFor ∈ am_tb := by decide +kernel
set_option maxRecDepth 100000 in
theorem ml_X7_132 : Cond.methodLink RX7 132 yX7_isValley ∈ am_tb := by decide +kernel
set_option maxRecDepth 100000 in
theorem ml_X7_135 : Cond.methodLink RX7 135 yX7_mayBeOfValley ∈ am_tb := by decide +kernel
set_option maxRecDepth 100000 in
theorem ml_X7_144 : Cond.methodLink RX7 144 yX0_addPass ∈ am_tb := by decide +kernel
set_option maxRecDepth 100000 in
theorem ml_X7_151 : Cond.methodLink RX7 151 yX0_addPerson ∈ am_tb := by decide +kernel
set_option maxRecDepth 100000 in
theorem ml_X7_155 : Cond.methodLink RX7 155 yX7_toldFact ∈ am_tb := by decide +kernel
set_option maxRecDepth 100000 in
theorem ml_X7_158 : Cond.methodLink RX7 158 yX7_mostOfFact ∈ am_tb := by decide +kernel
set_option maxRecDepth 100000 in
theorem ml_X7_161 : Cond.methodLink RX7 161 yX0_peopleAt ∈ am_tb := by decide +kernel
set_option maxRecDepth 100000 in
theorem ml_X7_164 : Cond.methodLink RX7 164 yX0_hasPass ∈ am_tb := by decide +kernel
set_option maxRecDepth 100000 in
theorem ml_X7_173 : Cond.methodLink RX7 173 yX4_putByte ∈ am_tb := by decide +kernel
set_option maxRecDepth 100000 in
theorem ml_X7_188 : Cond.methodLink RX7 188 yX0_endOf ∈ am_tb := by decide +kernel
set_option maxRecDepth 100000 in
theorem ml_X7_191 : Cond.methodLink RX7 191 yX7_leastWay ∈ am_tb := by decide +kernel
set_option maxRecDepth 100000 in
theorem ml_X7_194 : Cond.methodLink RX7 194 yX5_leastTour ∈ am_tb := by decide +kernel
set_option maxRecDepth 100000 in
theorem ml_X7_198 : Cond.methodLink RX7 198 yX6_findRoute ∈ am_tb := by decide +kernel
set_option maxRecDepth 100000 in
theorem ml_X7_205 : Cond.methodLink RX7 205 yX5_findOrder ∈ am_tb := by decide +kernel
set_option maxRecDepth 100000 in
theorem ml_X7_212 : Cond.methodLink RX7 212 yX5_savedBy ∈ am_tb := by decide +kernel
set_option maxRecDepth 100000 in
theorem ml_X7_215 : Cond.methodLink RX7 215 yX0_payAt ∈ am_tb := by decide +kernel
set_option maxRecDepth 100000 in
theorem ml_X7_218 : Cond.methodLink RX7 218 yX6_measure ∈ am_tb := by decide +kernel
set_option maxRecDepth 100000 in
theorem ml_X7_222 : Cond.methodLink RX7 222 yX6_between ∈ am_tb := by decide +kernel
set_option maxRecDepth 100000 in
theorem ml_X7_232 : Cond.methodLink RX7 232 yX6_bestPlace ∈ am_tb := by decide +kernel
set_option maxRecDepth 100000 in
theorem ml_X7_239 : Cond.methodLink RX7 239 yX7_refusalOfElements ∈ am_tb := by decide +kernel
set_option maxRecDepth 100000 in
theorem ml_X7_249 : Cond.methodLink RX7 249 yX3_follow ∈ am_tb := by decide +kernel
set_option maxRecDepth 100000 in
theorem ml_X7_288 : Cond.methodLink RX7 288 yX7_isAct ∈ am_tb := by decide +kernel
set_option maxRecDepth 100000 in
theorem ml_X7_292 : Cond.methodLink RX7 292 yX0_actInTruth ∈ am_tb := by decide +kernel
set_option maxRecDepth 100000 in
theorem ml_X7_295 : Cond.methodLink RX7 295 yX0_passWeeks ∈ am_tb := by decide +kernel
set_option maxRecDepth 100000 in
theorem ml_X7_304 : Cond.methodLink RX7 304 yX0_together ∈ am_tb := by decide +kernel
set_option maxRecDepth 100000 in
theorem ml_X7_307 : Cond.methodLink RX7 307 yX2_howManyHold ∈ am_tb := by decide +kernel
set_option maxRecDepth 100000 in
theorem mn_X0_54 : (RX0, 54, yX7_isValley, RX7) ∈ am_nst := by decide +kernel
set_option maxRecDepth 100000 in
theorem ml_X0_58 : Cond.methodLink RX0 58 yX0_valleyAhead ∈ am_tb := by decide +kernel
set_option maxRecDepth 100000 in
theorem ml_X0_62 : Cond.methodLink RX0 62 yX0_passFrom ∈ am_tb := by decide +kernel
set_option maxRecDepth 100000 in
theorem ml_X0_66 : Cond.methodLink RX0 66 yX0_fareOf ∈ am_tb := by decide +kernel
set_option maxRecDepth 100000 in
theorem ml_X0_69 : Cond.methodLink RX0 69 yJ9_max_7cf53 ∈ am_tb := by decide +kernel
set_option maxRecDepth 100000 in
theorem ml_X0_74 : Cond.methodLink RX0 74 yX0_tryWork ∈ am_tb := by decide +kernel
set_option maxRecDepth 100000 in
theorem ml_X0_78 : Cond.methodLink RX0 78 yX0_tryRest ∈ am_tb := by decide +kernel
set_option maxRecDepth 100000 in
theorem ml_X0_81 : Cond.methodLink RX0 81 yX0_tryStep ∈ am_tb := by decide +kernel
set_option maxRecDepth 100000 in
theorem ml_X0_85 : Cond.methodLink RX0 85 yX0_endOf ∈ am_tb := by decide +kernel
set_option maxRecDepth 100000 in
theorem ml_X0_88 : Cond.methodLink RX0 88 yX0_priceFor ∈ am_tb := by decide +kernel
set_option maxRecDepth 100000 in
theorem ml_X0_92 : Cond.methodLink RX0 92 yJ9_min_7cf53 ∈ am_tb := by decide +kernel
set_option maxRecDepth 100000 in
theorem ml_X0_95 : Cond.methodLink RX0 95 yX0_payAt ∈ am_tb := by decide +kernel
set_option maxRecDepth 100000 in
theorem mn_X0_98 : (RX0, 98, yX7_isOfKind, RX7) ∈ am_nst := by decide +kernel
set_option maxRecDepth 100000 in
theorem ml_X0_102 : Cond.methodLink RX0 102 yX0_hasPerson ∈ am_tb := by decide +kernel
set_option maxRecDepth 100000 in
theorem ml_X0_105 : Cond.methodLink RX0 105 yX0_tryAct ∈ am_tb := by decide +kernel
set_option maxRecDepth 100000 in
theorem ml_X0_108 : Cond.methodLink RX0 108 yX0_drawAct ∈ am_tb := by decide +kernel
set_option maxRecDepth 100000 in
theorem ml_X0_112 : Cond.methodLink RX0 112 yX0_actInTruth ∈ am_tb := by decide +kernel
set_option maxRecDepth 100000 in
theorem ml_X2_29 : Cond.methodLink RX2 29 yJ7_fill_d0a16 ∈ am_tb := by decide +kernel
set_option maxRecDepth 100000 in
theorem ml_X2_32 : Cond.methodLink RX2 32 yX2_isRow ∈ am_tb := by decide +kernel
set_option maxRecDepth 100000 in
theorem ml_X2_36 : Cond.methodLink RX2 36 yX2_refusalOfRow ∈ am_tb := by decide +kernel
set_option maxRecDepth 100000 in
theorem mn_X2_40 : (RX2, 40, yX7_isShelf, RX7) ∈ am_nst := by decide +kernel
set_option maxRecDepth 100000 in
theorem ml_X2_43 : Cond.methodLink RX2 43 yX2_hasElement ∈ am_tb := by decide +kernel
set_option maxRecDepth 100000 in
theorem ml_X2_47 : Cond.methodLink RX2 47 yX2_narrowed ∈ am_tb := by decide +kernel
set_option maxRecDepth 100000 in
theorem ml_X2_51 : Cond.methodLink RX2 51 yX2_hasElements ∈ am_tb := by decide +kernel
set_option maxRecDepth 100000 in
theorem ml_X3_16 : Cond.methodLink RX3 16 yJ7_fill_53178 ∈ am_tb := by decide +kernel
set_option maxRecDepth 100000 in
theorem ml_X3_22 : Cond.methodLink RX3 22 yX3_stepOn ∈ am_tb := by decide +kernel
set_option maxRecDepth 100000 in
theorem ml_X3_26 : Cond.methodLink RX3 26 yX0_endOf ∈ am_tb := by decide +kernel
set_option maxRecDepth 100000 in
theorem ml_X3_35 : Cond.methodLink RX3 35 yJ9_min_7cf53 ∈ am_tb := by decide +kernel
set_option maxRecDepth 100000 in
theorem ml_X3_40 : Cond.methodLink RX3 40 yX3_comeTo ∈ am_tb := by decide +kernel
set_option maxRecDepth 100000 in
theorem ml_X3_49 : Cond.methodLink RX3 49 yX3_leadingInto ∈ am_tb := by decide +kernel
set_option maxRecDepth 100000 in
theorem ml_X4_46 : Cond.methodLink RX4 46 yX4_nextToken ∈ am_tb := by decide +kernel
set_option maxRecDepth 100000 in
theorem ml_X4_53 : Cond.methodLink RX4 53 yX4_hasRoomFor ∈ am_tb := by decide +kernel
set_option maxRecDepth 100000 in
theorem ml_X4_60 : Cond.methodLink RX4 60 yX4_readNumber ∈ am_tb := by decide +kernel
set_option maxRecDepth 100000 in
theorem ml_X4_64 : Cond.methodLink RX4 64 yX4_comeToPass ∈ am_tb := by decide +kernel
set_option maxRecDepth 100000 in
theorem ml_X4_74 : Cond.methodLink RX4 74 yX4_tokenNumber ∈ am_tb := by decide +kernel
set_option maxRecDepth 100000 in
theorem ml_X4_77 : Cond.methodLink RX4 77 yX4_mostOf ∈ am_tb := by decide +kernel
set_option maxRecDepth 100000 in
theorem ml_X4_88 : Cond.methodLink RX4 88 yX0_addPass ∈ am_tb := by decide +kernel
set_option maxRecDepth 100000 in
theorem ml_X4_92 : Cond.methodLink RX4 92 yX0_addPerson ∈ am_tb := by decide +kernel
set_option maxRecDepth 100000 in
theorem ml_X4_99 : Cond.methodLink RX4 99 yX4_tokenOf ∈ am_tb := by decide +kernel
set_option maxRecDepth 100000 in
theorem ml_X5_34 : Cond.methodLink RX5 34 yX6_measure ∈ am_tb := by decide +kernel
set_option maxRecDepth 100000 in
theorem ml_X5_40 : Cond.methodLink RX5 40 yX5_leastFrom ∈ am_tb := by decide +kernel
set_option maxRecDepth 100000 in
theorem ml_X5_44 : Cond.methodLink RX5 44 yX5_fillSet ∈ am_tb := by decide +kernel
set_option maxRecDepth 100000 in
theorem ml_X5_48 : Cond.methodLink RX5 48 yX6_between ∈ am_tb := by decide +kernel
set_option maxRecDepth 100000 in
theorem ml_X5_52 : Cond.methodLink RX5 52 yX5_leastByNext ∈ am_tb := by decide +kernel
set_option maxRecDepth 100000 in
theorem ml_X5_59 : Cond.methodLink RX5 59 yX5_leastOver ∈ am_tb := by decide +kernel
set_option maxRecDepth 100000 in
theorem ml_X5_62 : Cond.methodLink RX5 62 yJ9_min_7cf53 ∈ am_tb := by decide +kernel
set_option maxRecDepth 100000 in
theorem ml_X5_70 : Cond.methodLink RX5 70 yX5_leastTour ∈ am_tb := by decide +kernel
set_option maxRecDepth 100000 in
theorem ml_X5_74 : Cond.methodLink RX5 74 yX5_firstNext ∈ am_tb := by decide +kernel
set_option maxRecDepth 100000 in
theorem ml_X5_85 : Cond.methodLink RX5 85 yX5_firstHome ∈ am_tb := by decide +kernel
set_option maxRecDepth 100000 in
theorem ml_X5_88 : Cond.methodLink RX5 88 yX5_costWith ∈ am_tb := by decide +kernel
set_option maxRecDepth 100000 in
theorem ml_X5_92 : Cond.methodLink RX5 92 yJ9_max_7cf53 ∈ am_tb := by decide +kernel
set_option maxRecDepth 100000 in
theorem ml_X6_24 : Cond.methodLink RX6 24 yJ7_fill_53178 ∈ am_tb := by decide +kernel
set_option maxRecDepth 100000 in
theorem ml_X6_30 : Cond.methodLink RX6 30 yX0_endOf ∈ am_tb := by decide +kernel
set_option maxRecDepth 100000 in
theorem ml_X6_36 : Cond.methodLink RX6 36 yX6_weight ∈ am_tb := by decide +kernel
set_option maxRecDepth 100000 in
theorem ml_X6_40 : Cond.methodLink RX6 40 yJ9_min_7cf53 ∈ am_tb := by decide +kernel
set_option maxRecDepth 100000 in
theorem ml_X6_45 : Cond.methodLink RX6 45 yX6_shortenBy ∈ am_tb := by decide +kernel
set_option maxRecDepth 100000 in
theorem ml_X6_49 : Cond.methodLink RX6 49 yX0_priceFor ∈ am_tb := by decide +kernel
set_option maxRecDepth 100000 in
theorem ml_X6_53 : Cond.methodLink RX6 53 yX0_hoursOf ∈ am_tb := by decide +kernel
set_option maxRecDepth 100000 in
theorem mn_X6_56 : (RX6, 56, yX7_isValley, RX7) ∈ am_nst := by decide +kernel
set_option maxRecDepth 100000 in
theorem ml_X6_60 : Cond.methodLink RX6 60 yX6_measure ∈ am_tb := by decide +kernel
set_option maxRecDepth 100000 in
theorem ml_X6_64 : Cond.methodLink RX6 64 yX6_firstStep ∈ am_tb := by decide +kernel
set_option maxRecDepth 100000 in
theorem ml_X6_68 : Cond.methodLink RX6 68 yX6_between ∈ am_tb := by decide +kernel
set_option maxRecDepth 100000 in
theorem ml_X6_78 : Cond.methodLink RX6 78 yJ9_max_7cf53 ∈ am_tb := by decide +kernel
set_option maxRecDepth 100000 in
theorem ml_X8_117 : Cond.methodLink RX8 117 yX8_in ∈ am_tb := by decide +kernel
set_option maxRecDepth 100000 in
theorem ml_X8_129 : Cond.methodLink RX8 129 yX8_refuse ∈ am_tb := by decide +kernel
set_option maxRecDepth 100000 in
theorem ml_X8_133 : Cond.methodLink RX8 133 yX8_noRow ∈ am_tb := by decide +kernel
set_option maxRecDepth 100000 in
theorem ml_X8_136 : Cond.methodLink RX8 136 yX8_fit ∈ am_tb := by decide +kernel
set_option maxRecDepth 100000 in
theorem ml_X8_140 : Cond.methodLink RX8 140 yX8_isOne ∈ am_tb := by decide +kernel
set_option maxRecDepth 100000 in
theorem ml_X8_146 : Cond.methodLink RX8 146 yX8_isUnder ∈ am_tb := by decide +kernel
set_option maxRecDepth 100000 in
theorem ml_X8_150 : Cond.methodLink RX8 150 yX8_priceOf ∈ am_tb := by decide +kernel
set_option maxRecDepth 100000 in
theorem ml_X8_154 : Cond.methodLink RX8 154 yX8_isValley ∈ am_tb := by decide +kernel
set_option maxRecDepth 100000 in
theorem ml_X8_167 : Cond.methodLink RX8 167 yX8_addPass ∈ am_tb := by decide +kernel
set_option maxRecDepth 100000 in
theorem ml_X8_171 : Cond.methodLink RX8 171 yX8_addPerson ∈ am_tb := by decide +kernel
set_option maxRecDepth 100000 in
theorem ml_X8_194 : Cond.methodLink RX8 194 yX8_isLetter ∈ am_tb := by decide +kernel
set_option maxRecDepth 100000 in
theorem ml_X8_197 : Cond.methodLink RX8 197 yX8_isDigit ∈ am_tb := by decide +kernel
set_option maxRecDepth 100000 in
theorem ml_X8_213 : Cond.methodLink RX8 213 yX8_wrong ∈ am_tb := by decide +kernel
set_option maxRecDepth 100000 in
theorem ml_X8_217 : Cond.methodLink RX8 217 yX8_look ∈ am_tb := by decide +kernel
set_option maxRecDepth 100000 in
theorem ml_X8_220 : Cond.methodLink RX8 220 yX8_number ∈ am_tb := by decide +kernel
set_option maxRecDepth 100000 in
theorem ml_X8_224 : Cond.methodLink RX8 224 yX8_tells ∈ am_tb := by decide +kernel
set_option maxRecDepth 100000 in
theorem ml_X8_227 : Cond.methodLink RX8 227 yX8_wrongSame ∈ am_tb := by decide +kernel
set_option maxRecDepth 100000 in
theorem ml_X8_284 : Cond.methodLink RX8 284 yX8_manyAt ∈ am_tb := by decide +kernel
set_option maxRecDepth 100000 in
theorem ml_X8_287 : Cond.methodLink RX8 287 yX8_nextOf ∈ am_tb := by decide +kernel
set_option maxRecDepth 100000 in
theorem ml_X8_291 : Cond.methodLink RX8 291 yX8_fareOf ∈ am_tb := by decide +kernel
set_option maxRecDepth 100000 in
theorem ml_X8_294 : Cond.methodLink RX8 294 yX8_hoursOf ∈ am_tb := by decide +kernel
set_option maxRecDepth 100000 in
theorem ml_X8_298 : Cond.methodLink RX8 298 yX8_weight ∈ am_tb := by decide +kernel
set_option maxRecDepth 100000 in
theorem ml_X8_304 : Cond.methodLink RX8 304 yX8_findFar ∈ am_tb := by decide +kernel
set_option maxRecDepth 100000 in
theorem ml_X8_307 : Cond.methodLink RX8 307 yX8_copied ∈ am_tb := by decide +kernel
set_option maxRecDepth 100000 in
theorem ml_X8_330 : Cond.methodLink RX8 330 yX8_valueOf ∈ am_tb := by decide +kernel
set_option maxRecDepth 100000 in
theorem ml_X8_341 : Cond.methodLink RX8 341 yX8_leastPaid ∈ am_tb := by decide +kernel
set_option maxRecDepth 100000 in
theorem ml_X8_344 : Cond.methodLink RX8 344 yX8_fits ∈ am_tb := by decide +kernel
set_option maxRecDepth 100000 in
theorem ml_X8_349 : Cond.methodLink RX8 349 yX8_journeysTo ∈ am_tb := by decide +kernel
set_option maxRecDepth 100000 in
theorem ml_X8_352 : Cond.methodLink RX8 352 yX8_maybeAt ∈ am_tb := by decide +kernel
set_option maxRecDepth 100000 in
theorem ml_X8_355 : Cond.methodLink RX8 355 yX8_findJourneys ∈ am_tb := by decide +kernel
set_option maxRecDepth 100000 in
theorem ml_X8_359 : Cond.methodLink RX8 359 yX8_forged ∈ am_tb := by decide +kernel
set_option maxRecDepth 100000 in
theorem ml_X8_362 : Cond.methodLink RX8 362 yX8_sure ∈ am_tb := by decide +kernel
set_option maxRecDepth 100000 in
theorem ml_X8_371 : Cond.methodLink RX8 371 yX8_isAct ∈ am_tb := by decide +kernel
set_option maxRecDepth 100000 in
theorem ml_X8_374 : Cond.methodLink RX8 374 yX8_acts ∈ am_tb := by decide +kernel
set_option maxRecDepth 100000 in
theorem ml_X8_377 : Cond.methodLink RX8 377 yX8_noPlan ∈ am_tb := by decide +kernel
set_option maxRecDepth 100000 in
theorem ml_X8_390 : Cond.methodLink RX8 390 yX8_below ∈ am_tb := by decide +kernel
set_option maxRecDepth 100000 in
theorem ml_X8_396 : Cond.methodLink RX8 396 yX8_sumOf ∈ am_tb := by decide +kernel
