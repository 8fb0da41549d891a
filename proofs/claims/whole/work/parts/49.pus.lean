/-! ===== what is not yet proved ===== -/
theorem pv_init : ∃ q1, fn_X7_init_0 st_s0 = some q1 ∧ ∃ q2, fn_X8_init_5 q1 = some q2 ∧ pu_Inv q2 := sorry
theorem pv_land  (σ : am_S) (hI : pu_Inv σ) : ∃ (r : Int32) (σ1 σ2 : am_S), fn_X7_land  σ = some (r, σ1) ∧ fn_X8_land  σ1 = some (r, σ2) ∧ pu_Inv σ2 := sorry
theorem pv_tour (a1 : Int32) (a2 : Int32) (σ : am_S) (hI : pu_Inv σ) : ∃ (r : Int32) (σ1 σ2 : am_S), fn_X7_tour a1 a2 σ = some (r, σ1) ∧ fn_X8_tour 5 a1 a2 σ1 = some (r, σ2) ∧ pu_Inv σ2 := sorry
theorem pv_route (a1 : Int32) (a2 : Int32) (a3 : Int32) (σ : am_S) (hI : pu_Inv σ) : ∃ (r : Int32) (σ1 σ2 : am_S), fn_X7_route a1 a2 a3 σ = some (r, σ1) ∧ fn_X8_route 5 a1 a2 a3 σ1 = some (r, σ2) ∧ pu_Inv σ2 := sorry
theorem pv_tourOf (a1 : Int32) (a2 : Int32) (σ : am_S) (hI : pu_Inv σ) : ∃ (r : Int32) (σ1 σ2 : am_S), fn_X7_tourOf a1 a2 σ = some (r, σ1) ∧ fn_X8_tourOf 5 a1 a2 σ1 = some (r, σ2) ∧ pu_Inv σ2 := sorry
theorem pv_saved (a1 : Int32) (σ : am_S) (hI : pu_Inv σ) : ∃ (r : Int32) (σ1 σ2 : am_S), fn_X7_saved a1 σ = some (r, σ1) ∧ fn_X8_saved 5 a1 σ1 = some (r, σ2) ∧ pu_Inv σ2 := sorry
theorem pv_bestPass  (σ : am_S) (hI : pu_Inv σ) : ∃ (r : Int32) (σ1 σ2 : am_S), fn_X7_bestPass  σ = some (r, σ1) ∧ fn_X8_bestPass 5  σ1 = some (r, σ2) ∧ pu_Inv σ2 := sorry
theorem pv_works (a1 : Int32) (σ : am_S) (hI : pu_Inv σ) : ∃ (r : Int32) (σ1 σ2 : am_S), fn_X7_works a1 σ = some (r, σ1) ∧ fn_X8_works 5 a1 σ1 = some (r, σ2) ∧ pu_Inv σ2 := sorry
theorem pv_homes (a1 : Int32) (σ : am_S) (hI : pu_Inv σ) : ∃ (r : Int32) (σ1 σ2 : am_S), fn_X7_homes a1 σ = some (r, σ1) ∧ fn_X8_homes 5 a1 σ1 = some (r, σ2) ∧ pu_Inv σ2 := sorry
theorem pv_journeys (a1 : Int32) (a2 : Int32) (a3 : Int32) (a4 : Int32) (σ : am_S) (hI : pu_Inv σ) : ∃ (r : Int32) (σ1 σ2 : am_S), fn_X7_journeys a1 a2 a3 a4 σ = some (r, σ1) ∧ fn_X8_journeys 5 a1 a2 a3 a4 σ1 = some (r, σ2) ∧ pu_Inv σ2 := sorry
theorem pv_judge (a1 : Int32) (a2 : Int32) (a3 : Int32) (σ : am_S) (hI : pu_Inv σ) : ∃ (r : Int32) (σ1 σ2 : am_S), fn_X7_judge a1 a2 a3 σ = some (r, σ1) ∧ fn_X8_judge a1 a2 a3 σ1 = some (r, σ2) ∧ pu_Inv σ2 := sorry
theorem pv_behind (a1 : Int32) (a2 : Int32) (a3 : Int32) (a4 : Int32) (σ : am_S) (hI : pu_Inv σ) : ∃ (r : Int32) (σ1 σ2 : am_S), fn_X7_behind a1 a2 a3 a4 σ = some (r, σ1) ∧ fn_X8_behind a1 a2 a3 a4 σ1 = some (r, σ2) ∧ pu_Inv σ2 := sorry
theorem pv_done (a1 : Int32) (a2 : Int32) (a3 : Int32) (σ : am_S) (hI : pu_Inv σ) : ∃ (r : Int32) (σ1 σ2 : am_S), fn_X7_done a1 a2 a3 σ = some (r, σ1) ∧ fn_X8_done a1 a2 a3 σ1 = some (r, σ2) ∧ pu_Inv σ2 := sorry
theorem pv_act (a1 : Int32) (a2 : Int32) (σ : am_S) (hI : pu_Inv σ) : ∃ (r : Int32) (σ1 σ2 : am_S), fn_X7_act a1 a2 σ = some (r, σ1) ∧ fn_X8_act 5 a1 a2 σ1 = some (r, σ2) ∧ pu_Inv σ2 := sorry
theorem pv_weeks (a1 : Int32) (σ : am_S) (hI : pu_Inv σ) : ∃ (r : Int32) (σ1 σ2 : am_S), fn_X7_weeks a1 σ = some (r, σ1) ∧ fn_X8_weeks 5 a1 σ1 = some (r, σ2) ∧ pu_Inv σ2 := sorry
theorem pv_image  (σ : am_S) (hI : pu_Inv σ) : ∃ (r : Int32) (σ1 σ2 : am_S), fn_X7_image  σ = some (r, σ1) ∧ fn_X8_image  σ1 = some (r, σ2) ∧ pu_Inv σ2 := sorry
theorem pv_back  (σ : am_S) (hI : pu_Inv σ) : ∃ (r : Int32) (σ1 σ2 : am_S), fn_X7_back  σ = some (r, σ1) ∧ fn_X8_back 5  σ1 = some (r, σ2) ∧ pu_Inv σ2 := sorry
