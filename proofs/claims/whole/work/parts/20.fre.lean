/-! ===== the reference's own copies: kept and tried ===== -/
/-- what a made reference object holds -/
def am_i8 (o : Nat) (s : am_S) : am_S :=
  (fun o' k i j => if o' = o then (if k = 50 ∧ i = 0 ∧ j < 7 then 1 else if k = 51 ∧ i = 0 ∧ j < 7 then 3 else if k = 52 ∧ i = 0 ∧ j < 7 then 4 else if k = 40 ∧ i = 0 ∧ j = 12 then 2 else if k = 40 ∧ i = 0 ∧ j = 25 then 1 else 0) else s.1 o' k i j,
   fun o' k i j => if o' = o then 0 else s.2 o' k i j)
def fn_X8_fresh (σ : am_S) : Option am_S := fn_X8_takeFrom 7 5 (if σ.1 5 40 0 27 = 0 then am_u (am_i8 7 σ) 5 40 0 27 1 else σ)
def fn_X8_image (σ : am_S) : Option (Int32 × am_S) := (fn_X8_takeFrom 6 5 (if σ.1 5 40 0 26 = 0 then am_u (am_i8 6 σ) 5 40 0 26 1 else σ)).bind fun q => some (1, q)
theorem ok_X8_fresh (l : Launch) (σ : am_S) {q : am_S} (h : fn_X8_fresh σ = some q) : am_N l yX8_fresh cX8_fresh 1 (some (.object "SundayIsAPlaceModel")) 3 137 1587 [am_r 5 40 0] σ (some (am_r 7 40 0)) q := sorry
theorem ok_X8_image (l : Launch) (σ : am_S) {q : Int32 × am_S} (h : fn_X8_image σ = some q) : am_N l yX8_image cX8_image 1 (some .int) 3 137 1587 [am_r 5 40 0] σ (some (am_i q.1)) q.2 := sorry
