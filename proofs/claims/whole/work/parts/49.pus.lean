def pu_Inv (σ : am_S) : Prop := True
theorem pv_init : ∃ q1, fn_X7_init_0 st_s0 = some q1 ∧ ∃ q2, fn_X8_init_5 q1 = some q2 ∧ pu_Inv q2 := sorry
theorem pv_row (a1 : Int32) (a2 : Int32) (a3 : Int32) (σ : am_S) (hI : pu_Inv σ) : ∃ (r : Int32) (σ1 σ2 : am_S), fn_X7_row a1 a2 a3 σ = some (r, σ1) ∧ fn_X8_row 5 a1 a2 a3 σ1 = some (r, σ2) ∧ pu_Inv σ2 := sorry
theorem pv_set (a1 : Int32) (a2 : Int32) (a3 : Int64) (σ : am_S) (hI : pu_Inv σ) : ∃ (r : Int32) (σ1 σ2 : am_S), fn_X7_set a1 a2 a3 σ = some (r, σ1) ∧ fn_X8_set 5 a1 a2 a3 σ1 = some (r, σ2) ∧ pu_Inv σ2 := sorry
theorem pv_copy (a1 : Int32) (a2 : Int32) (a3 : Int32) (a4 : Int32) (a5 : Int32) (σ : am_S) (hI : pu_Inv σ) : ∃ (r : Int32) (σ1 σ2 : am_S), fn_X7_copy a1 a2 a3 a4 a5 σ = some (r, σ1) ∧ fn_X8_copy 5 a1 a2 a3 a4 a5 σ1 = some (r, σ2) ∧ pu_Inv σ2 := sorry
theorem pv_element (a1 : Int32) (a2 : Int32) (σ : am_S) (hI : pu_Inv σ) : ∃ (r : Int64) (σ1 σ2 : am_S), fn_X7_element a1 a2 σ = some (r, σ1) ∧ fn_X8_element 5 a1 a2 σ1 = some (r, σ2) ∧ pu_Inv σ2 := sorry
theorem pv_holds (a1 : Int32) (σ : am_S) (hI : pu_Inv σ) : ∃ (r : Int32) (σ1 σ2 : am_S), fn_X7_holds a1 σ = some (r, σ1) ∧ fn_X8_holds 5 a1 σ1 = some (r, σ2) ∧ pu_Inv σ2 := sorry
theorem pv_show (a1 : Int32) (a2 : Int32) (σ : am_S) (hI : pu_Inv σ) : ∃ (r : Int32) (σ1 σ2 : am_S), fn_X7_show a1 a2 σ = some (r, σ1) ∧ fn_X8_show 5 a1 a2 σ1 = some (r, σ2) ∧ pu_Inv σ2 := sorry
theorem pv_says (a1 : Int32) (a2 : Int32) (σ : am_S) (hI : pu_Inv σ) : ∃ (r : Int32) (σ1 σ2 : am_S), fn_X7_says a1 a2 σ = some (r, σ1) ∧ fn_X8_says 5 a1 a2 σ1 = some (r, σ2) ∧ pu_Inv σ2 := sorry
theorem pv_ask (a1 : Int32) (a2 : Int32) (a3 : Int32) (σ : am_S) (hI : pu_Inv σ) : ∃ (r : Int32) (σ1 σ2 : am_S), fn_X7_ask a1 a2 a3 σ = some (r, σ1) ∧ fn_X8_ask 5 a1 a2 a3 σ1 = some (r, σ2) ∧ pu_Inv σ2 := sorry
theorem pv_pass (a1 : Int32) (a2 : Int32) (a3 : Int32) (a4 : Int32) (σ : am_S) (hI : pu_Inv σ) : ∃ (r : Int32) (σ1 σ2 : am_S), fn_X7_pass a1 a2 a3 a4 σ = some (r, σ1) ∧ fn_X8_pass 5 a1 a2 a3 a4 σ1 = some (r, σ2) ∧ pu_Inv σ2 := sorry
theorem pv_person (a1 : Int32) (a2 : Int32) (a3 : Int32) (σ : am_S) (hI : pu_Inv σ) : ∃ (r : Int32) (σ1 σ2 : am_S), fn_X7_person a1 a2 a3 σ = some (r, σ1) ∧ fn_X8_person 5 a1 a2 a3 σ1 = some (r, σ2) ∧ pu_Inv σ2 := sorry
theorem pv_duty (a1 : Int32) (a2 : Int32) (a3 : Int32) (σ : am_S) (hI : pu_Inv σ) (hb : a3 = 0 ∨ a3 = 1) : ∃ (r : Int32) (σ1 σ2 : am_S), fn_X7_duty a1 a2 a3 σ = some (r, σ1) ∧ fn_X8_duty 5 a1 a2 a3 σ1 = some (r, σ2) ∧ pu_Inv σ2 := sorry
theorem pv_tell (a1 : Int32) (a2 : Int32) (a3 : Int32) (σ : am_S) (hI : pu_Inv σ) : ∃ (r : Int32) (σ1 σ2 : am_S), fn_X7_tell a1 a2 a3 σ = some (r, σ1) ∧ fn_X8_tell 5 a1 a2 a3 σ1 = some (r, σ2) ∧ pu_Inv σ2 := sorry
theorem pv_feed (a1 : Int32) (σ : am_S) (hI : pu_Inv σ) : ∃ (r : Int32) (σ1 σ2 : am_S), fn_X7_feed a1 σ = some (r, σ1) ∧ fn_X8_feed 5 a1 σ1 = some (r, σ2) ∧ pu_Inv σ2 := sorry
theorem pv_wipe  (σ : am_S) (hI : pu_Inv σ) : ∃ (r : Int32) (σ1 σ2 : am_S), fn_X7_wipe  σ = some (r, σ1) ∧ fn_X8_wipe 5  σ1 = some (r, σ2) ∧ pu_Inv σ2 := sorry
theorem pv_land  (σ : am_S) (hI : pu_Inv σ) : ∃ (r : Int32) (σ1 σ2 : am_S), fn_X7_land  σ = some (r, σ1) ∧ fn_X8_land  σ1 = some (r, σ2) ∧ pu_Inv σ2 := sorry
theorem pv_valleyOf (a1 : Int32) (a2 : Int32) (σ : am_S) (hI : pu_Inv σ) : ∃ (r : Int32) (σ1 σ2 : am_S), fn_X7_valleyOf a1 a2 σ = some (r, σ1) ∧ fn_X8_valleyOf 5 a1 a2 σ1 = some (r, σ2) ∧ pu_Inv σ2 := sorry
theorem pv_passOf (a1 : Int32) (a2 : Int32) (σ : am_S) (hI : pu_Inv σ) : ∃ (r : Int32) (σ1 σ2 : am_S), fn_X7_passOf a1 a2 σ = some (r, σ1) ∧ fn_X8_passOf 5 a1 a2 σ1 = some (r, σ2) ∧ pu_Inv σ2 := sorry
theorem pv_personOf (a1 : Int32) (a2 : Int32) (σ : am_S) (hI : pu_Inv σ) : ∃ (r : Int32) (σ1 σ2 : am_S), fn_X7_personOf a1 a2 σ = some (r, σ1) ∧ fn_X8_personOf 5 a1 a2 σ1 = some (r, σ2) ∧ pu_Inv σ2 := sorry
theorem pv_price (a1 : Int32) (a2 : Int32) (a3 : Int32) (σ : am_S) (hI : pu_Inv σ) : ∃ (r : Int32) (σ1 σ2 : am_S), fn_X7_price a1 a2 a3 σ = some (r, σ1) ∧ fn_X8_price 5 a1 a2 a3 σ1 = some (r, σ2) ∧ pu_Inv σ2 := sorry
theorem pv_way (a1 : Int32) (a2 : Int32) (a3 : Int32) (σ : am_S) (hI : pu_Inv σ) : ∃ (r : Int32) (σ1 σ2 : am_S), fn_X7_way a1 a2 a3 σ = some (r, σ1) ∧ fn_X8_way 5 a1 a2 a3 σ1 = some (r, σ2) ∧ pu_Inv σ2 := sorry
theorem pv_tour (a1 : Int32) (a2 : Int32) (σ : am_S) (hI : pu_Inv σ) : ∃ (r : Int32) (σ1 σ2 : am_S), fn_X7_tour a1 a2 σ = some (r, σ1) ∧ fn_X8_tour 5 a1 a2 σ1 = some (r, σ2) ∧ pu_Inv σ2 := sorry
theorem pv_route (a1 : Int32) (a2 : Int32) (a3 : Int32) (σ : am_S) (hI : pu_Inv σ) : ∃ (r : Int32) (σ1 σ2 : am_S), fn_X7_route a1 a2 a3 σ = some (r, σ1) ∧ fn_X8_route 5 a1 a2 a3 σ1 = some (r, σ2) ∧ pu_Inv σ2 := sorry
theorem pv_tourOf (a1 : Int32) (a2 : Int32) (σ : am_S) (hI : pu_Inv σ) : ∃ (r : Int32) (σ1 σ2 : am_S), fn_X7_tourOf a1 a2 σ = some (r, σ1) ∧ fn_X8_tourOf 5 a1 a2 σ1 = some (r, σ2) ∧ pu_Inv σ2 := sorry
theorem pv_saved (a1 : Int32) (σ : am_S) (hI : pu_Inv σ) : ∃ (r : Int32) (σ1 σ2 : am_S), fn_X7_saved a1 σ = some (r, σ1) ∧ fn_X8_saved 5 a1 σ1 = some (r, σ2) ∧ pu_Inv σ2 := sorry
theorem pv_bestPass  (σ : am_S) (hI : pu_Inv σ) : ∃ (r : Int32) (σ1 σ2 : am_S), fn_X7_bestPass  σ = some (r, σ1) ∧ fn_X8_bestPass 5  σ1 = some (r, σ2) ∧ pu_Inv σ2 := sorry
theorem pv_first (a1 : Int32) (σ : am_S) (hI : pu_Inv σ) : ∃ (r : Int32) (σ1 σ2 : am_S), fn_X7_first a1 σ = some (r, σ1) ∧ fn_X8_first 5 a1 σ1 = some (r, σ2) ∧ pu_Inv σ2 := sorry
theorem pv_works (a1 : Int32) (σ : am_S) (hI : pu_Inv σ) : ∃ (r : Int32) (σ1 σ2 : am_S), fn_X7_works a1 σ = some (r, σ1) ∧ fn_X8_works 5 a1 σ1 = some (r, σ2) ∧ pu_Inv σ2 := sorry
theorem pv_steps (a1 : Int32) (a2 : Int32) (σ : am_S) (hI : pu_Inv σ) : ∃ (r : Int32) (σ1 σ2 : am_S), fn_X7_steps a1 a2 σ = some (r, σ1) ∧ fn_X8_steps 5 a1 a2 σ1 = some (r, σ2) ∧ pu_Inv σ2 := sorry
theorem pv_within (a1 : Int32) (a2 : Int32) (a3 : Int32) (σ : am_S) (hI : pu_Inv σ) : ∃ (r : Int32) (σ1 σ2 : am_S), fn_X7_within a1 a2 a3 σ = some (r, σ1) ∧ fn_X8_within 5 a1 a2 a3 σ1 = some (r, σ2) ∧ pu_Inv σ2 := sorry
theorem pv_crowd  (σ : am_S) (hI : pu_Inv σ) : ∃ (r : Int32) (σ1 σ2 : am_S), fn_X7_crowd  σ = some (r, σ1) ∧ fn_X8_crowd 5  σ1 = some (r, σ2) ∧ pu_Inv σ2 := sorry
theorem pv_ring (a1 : Int32) (σ : am_S) (hI : pu_Inv σ) : ∃ (r : Int32) (σ1 σ2 : am_S), fn_X7_ring a1 σ = some (r, σ1) ∧ fn_X8_ring 5 a1 σ1 = some (r, σ2) ∧ pu_Inv σ2 := sorry
theorem pv_dearest (a1 : Int32) (σ : am_S) (hI : pu_Inv σ) : ∃ (r : Int32) (σ1 σ2 : am_S), fn_X7_dearest a1 σ = some (r, σ1) ∧ fn_X8_dearest 5 a1 σ1 = some (r, σ2) ∧ pu_Inv σ2 := sorry
theorem pv_alike (a1 : Int32) (a2 : Int32) (σ : am_S) (hI : pu_Inv σ) : ∃ (r : Int32) (σ1 σ2 : am_S), fn_X7_alike a1 a2 σ = some (r, σ1) ∧ fn_X8_alike 5 a1 a2 σ1 = some (r, σ2) ∧ pu_Inv σ2 := sorry
theorem pv_homes (a1 : Int32) (σ : am_S) (hI : pu_Inv σ) : ∃ (r : Int32) (σ1 σ2 : am_S), fn_X7_homes a1 σ = some (r, σ1) ∧ fn_X8_homes 5 a1 σ1 = some (r, σ2) ∧ pu_Inv σ2 := sorry
theorem pv_market  (σ : am_S) (hI : pu_Inv σ) : ∃ (r : Int32) (σ1 σ2 : am_S), fn_X7_market  σ = some (r, σ1) ∧ fn_X8_market 5  σ1 = some (r, σ2) ∧ pu_Inv σ2 := sorry
theorem pv_meet (a1 : Int32) (σ : am_S) (hI : pu_Inv σ) : ∃ (r : Int32) (σ1 σ2 : am_S), fn_X7_meet a1 σ = some (r, σ1) ∧ fn_X8_meet 5 a1 σ1 = some (r, σ2) ∧ pu_Inv σ2 := sorry
theorem pv_journeys (a1 : Int32) (a2 : Int32) (a3 : Int32) (a4 : Int32) (σ : am_S) (hI : pu_Inv σ) : ∃ (r : Int32) (σ1 σ2 : am_S), fn_X7_journeys a1 a2 a3 a4 σ = some (r, σ1) ∧ fn_X8_journeys 5 a1 a2 a3 a4 σ1 = some (r, σ2) ∧ pu_Inv σ2 := sorry
theorem pv_judge (a1 : Int32) (a2 : Int32) (a3 : Int32) (σ : am_S) (hI : pu_Inv σ) : ∃ (r : Int32) (σ1 σ2 : am_S), fn_X7_judge a1 a2 a3 σ = some (r, σ1) ∧ fn_X8_judge a1 a2 a3 σ1 = some (r, σ2) ∧ pu_Inv σ2 := sorry
theorem pv_behind (a1 : Int32) (a2 : Int32) (a3 : Int32) (a4 : Int32) (σ : am_S) (hI : pu_Inv σ) : ∃ (r : Int32) (σ1 σ2 : am_S), fn_X7_behind a1 a2 a3 a4 σ = some (r, σ1) ∧ fn_X8_behind a1 a2 a3 a4 σ1 = some (r, σ2) ∧ pu_Inv σ2 := sorry
theorem pv_done (a1 : Int32) (a2 : Int32) (a3 : Int32) (σ : am_S) (hI : pu_Inv σ) : ∃ (r : Int32) (σ1 σ2 : am_S), fn_X7_done a1 a2 a3 σ = some (r, σ1) ∧ fn_X8_done a1 a2 a3 σ1 = some (r, σ2) ∧ pu_Inv σ2 := sorry
theorem pv_longest (a1 : Int32) (σ : am_S) (hI : pu_Inv σ) : ∃ (r : Int32) (σ1 σ2 : am_S), fn_X7_longest a1 σ = some (r, σ1) ∧ fn_X8_longest 5 a1 σ1 = some (r, σ2) ∧ pu_Inv σ2 := sorry
theorem pv_act (a1 : Int32) (a2 : Int32) (σ : am_S) (hI : pu_Inv σ) : ∃ (r : Int32) (σ1 σ2 : am_S), fn_X7_act a1 a2 σ = some (r, σ1) ∧ fn_X8_act 5 a1 a2 σ1 = some (r, σ2) ∧ pu_Inv σ2 := sorry
theorem pv_weeks (a1 : Int32) (σ : am_S) (hI : pu_Inv σ) : ∃ (r : Int32) (σ1 σ2 : am_S), fn_X7_weeks a1 σ = some (r, σ1) ∧ fn_X8_weeks 5 a1 σ1 = some (r, σ2) ∧ pu_Inv σ2 := sorry
theorem pv_seed (a1 : Int32) (σ : am_S) (hI : pu_Inv σ) : ∃ (r : Int32) (σ1 σ2 : am_S), fn_X7_seed a1 σ = some (r, σ1) ∧ fn_X8_seed 5 a1 σ1 = some (r, σ2) ∧ pu_Inv σ2 := sorry
theorem pv_image  (σ : am_S) (hI : pu_Inv σ) : ∃ (r : Int32) (σ1 σ2 : am_S), fn_X7_image  σ = some (r, σ1) ∧ fn_X8_image  σ1 = some (r, σ2) ∧ pu_Inv σ2 := sorry
theorem pv_back  (σ : am_S) (hI : pu_Inv σ) : ∃ (r : Int32) (σ1 σ2 : am_S), fn_X7_back  σ = some (r, σ1) ∧ fn_X8_back 5  σ1 = some (r, σ2) ∧ pu_Inv σ2 := sorry
theorem pv_status (a1 : Int32) (σ : am_S) (hI : pu_Inv σ) : ∃ (r : Int32) (σ1 σ2 : am_S), fn_X7_status a1 σ = some (r, σ1) ∧ fn_X8_status 5 a1 σ1 = some (r, σ2) ∧ pu_Inv σ2 := sorry
