/-- LostDigits$Fractions -/
abbrev shX0 (f_uppers f_lowers : Nat) : fS := .inl (0, [f_uppers + 4, f_lowers + 4])
/-- LostDigits$Orders -/
abbrev shX1 (f_sums f_path f_losses f_counts f_firsts : Nat) : fS := .inl (1, [f_sums + 4, f_path + 4, f_losses + 4, f_counts + 4, f_firsts + 4, 1, 2])
/-- LostDigits$Page -/
abbrev shX2 (f_text f_numbers f_spans f_terms : Nat) : fS := .inl (2, [f_text + 4, f_numbers + 4, f_spans + 4, f_terms + 4, 0, 0, 0, 2])
/-- LostDigits$Ratio -/
abbrev shX3 : fS := .inl (3, [1, 1, 0])
/-- LostDigits$Rounding -/
abbrev shX4 : fS := .inl (4, [0, 0, 2])
/-- LostDigits$Search -/
abbrev shX6 (f_steps f_once f_twice f_best : Nat) : fS := .inl (5, [f_steps + 4, f_once + 4, f_twice + 4, f_best + 4, 1, 0])
/-- LostDigits$Spans -/
abbrev shX7 (f_low f_high f_ratio f_down f_up f_fractions f_trial f_widths : Nat) : fS := .inl (6, [f_low + 4, f_high + 4, f_ratio + 4, f_down + 4, f_up + 4, f_fractions + 4, f_trial + 4, f_widths + 4, 1, 1, 2])
/-- LostDigits$Steps -/
abbrev shX8 (f_values f_slips f_fractions f_rounding f_ratio : Nat) : fS := .inl (7, [f_values + 4, f_slips + 4, f_fractions + 4, f_rounding + 4, f_ratio + 4])
/-- LostDigits$Sums -/
abbrev shX9 (f_ratio f_rounding f_terms f_sizes : Nat) : fS := .inl (8, [f_ratio + 4, f_rounding + 4, f_terms + 4, f_sizes + 4, 0])
/-- LostDigits$Text -/
abbrev shX10 (f_signs f_ends f_letters : Nat) : fS := .inl (9, [f_signs + 4, f_ends + 4, f_letters + 4, 0])
/-- LostDigits -/
abbrev shX11 (f_now f_imageZero f_imageOne f_pad f_ratio f_rounding f_steps f_sums f_allOrders f_spans f_search : Nat) : fS := .inl (10, [f_now + 4, f_imageZero + 4, f_imageOne + 4, f_pad + 4, 0, f_ratio + 4, f_rounding + 4, f_steps + 4, f_sums + 4, f_allOrders + 4, f_spans + 4, f_search + 4])
/-- LostDigitsModel -/
abbrev shX12 (f_pad f_text f_number f_span f_now f_sizeOf f_workedTo f_slip f_exactUpper f_exactLower f_more f_terms f_order f_bestOrder f_low f_high f_built f_better f_base f_kept f_isKept : Nat) : fS := .inl (11, [0, 0, 1, 0, 1, 1, 0, f_pad + 4, 0, f_text + 4, 0, f_number + 4, f_span + 4, f_now + 4, 0, f_sizeOf + 4, f_workedTo + 4, f_slip + 4, f_exactUpper + 4, f_exactLower + 4, f_more + 4, f_terms + 4, 0, f_order + 4, 1, 0, f_bestOrder + 4, f_low + 4, f_high + 4, f_built + 4, 0, f_better + 4, 0, 1, f_base + 4, 0, f_kept + 4, f_isKept + 4, 0, 2])
abbrev shI (n : Nat) : fS := .inr (0, n, fun _ => 0)
abbrev shJ (n : Nat) : fS := .inr (1, n, fun _ => 0)
abbrev shZ (n : Nat) : fS := .inr (2, n, fun _ => 0)
abbrev shII (n : Nat) (g : Nat → Nat) : fS := .inr (3, n, g)
def f_PI (Q : Int32 → fH → Prop) : Option Value → fH → Prop := fun r k => ∃ x : Int32, r = some (.int x) ∧ Q x k
def f_PL (Q : Int64 → fH → Prop) : Option Value → fH → Prop := fun r k => ∃ x : Int64, r = some (.long x) ∧ Q x k
def f_PV (Q : fH → Prop) : Option Value → fH → Prop := fun r k => r = none ∧ Q k
def OkI (d : Nat) (Y : fM) (S : fW) (vs : List Value) (h : fH) (Q : Int32 → fH → Prop) : Prop := Ok d Y S vs h (f_PI Q)
def OkL (d : Nat) (Y : fM) (S : fW) (vs : List Value) (h : fH) (Q : Int64 → fH → Prop) : Prop := Ok d Y S vs h (f_PL Q)
def OkV (d : Nat) (Y : fM) (S : fW) (vs : List Value) (h : fH) (Q : fH → Prop) : Prop := Ok d Y S vs h (f_PV Q)
theorem Ok.post {d : Nat} {Y : fM} {S : fW} {vs : List Value} {h : fH} {P Q : Option Value → fH → Prop} (k : Ok d Y S vs h P) (hp : ∀ r k, P r k → Q r k) : Ok d Y S vs h Q := by
  intro l D cA σ A
  exact MetFree.mono (k l D cA σ A) (fun _ _ h => h) (fun _ _ _ _ _ h => h) (fun _ _ _ _ _ h => ⟨⟨(by obtain ⟨⟨r, h', c1, c2, c3⟩, c4⟩ := h.1; exact ⟨r, h', c1, hp r h' c2, c3⟩), h.1.2⟩, h.2⟩)
theorem OkI.post {d : Nat} {Y : fM} {S : fW} {vs : List Value} {h : fH} {P Q : Int32 → fH → Prop} (k : OkI d Y S vs h P) (hp : ∀ r k, P r k → Q r k) : OkI d Y S vs h Q := Ok.post k (fun _ _ ⟨x, e, z⟩ => ⟨x, e, hp x _ z⟩)
theorem OkL.post {d : Nat} {Y : fM} {S : fW} {vs : List Value} {h : fH} {P Q : Int64 → fH → Prop} (k : OkL d Y S vs h P) (hp : ∀ r k, P r k → Q r k) : OkL d Y S vs h Q := Ok.post k (fun _ _ ⟨x, e, z⟩ => ⟨x, e, hp x _ z⟩)
theorem OkV.post {d : Nat} {Y : fM} {S : fW} {vs : List Value} {h : fH} {P Q : fH → Prop} (k : OkV d Y S vs h P) (hp : ∀ k, P k → Q k) : OkV d Y S vs h Q := Ok.post k (fun _ _ ⟨e, z⟩ => ⟨e, hp _ z⟩)
abbrev mX0_init : fM := (yX0_init, cX0_init, 1, none)
theorem nX0_init : f_nm yX0_init 0 := by
  unfold f_nm
  decide +kernel
abbrev mX0_workParts : fM := (yX0_workParts, cX0_workParts, 6, none)
theorem nX0_workParts : f_nm yX0_workParts 3 := by
  unfold f_nm
  decide +kernel
abbrev mX0_join : fM := (yX0_join, cX0_join, 13, none)
theorem nX0_join : f_nm yX0_join 3 := by
  unfold f_nm
  decide +kernel
abbrev mX0_billionths : fM := (yX0_billionths, cX0_billionths, 13, some .long)
theorem nX0_billionths : f_nm yX0_billionths 2 := by
  unfold f_nm
  decide +kernel
abbrev mX0_lowest : fM := (yX0_lowest, cX0_lowest, 4, some .long)
theorem nX0_lowest : f_nm yX0_lowest 1 := by
  unfold f_nm
  decide +kernel
abbrev mX0_sharedDivisor : fM := (yX0_sharedDivisor, cX0_sharedDivisor, 11, some .long)
theorem nX0_sharedDivisor : f_nm yX0_sharedDivisor 2 := by
  unfold f_nm
  decide +kernel
abbrev mX1_init : fM := (yX1_init, cX1_init, 1, none)
theorem nX1_init : f_nm yX1_init 0 := by
  unfold f_nm
  decide +kernel
abbrev mX1_find : fM := (yX1_find, cX1_find, 2, none)
theorem nX1_find : f_nm yX1_find 1 := by
  unfold f_nm
  decide +kernel
abbrev mX1_extend : fM := (yX1_extend, cX1_extend, 8, none)
theorem nX1_extend : f_nm yX1_extend 3 := by
  unfold f_nm
  decide +kernel
abbrev mX1_note : fM := (yX1_note, cX1_note, 4, none)
theorem nX1_note : f_nm yX1_note 2 := by
  unfold f_nm
  decide +kernel
abbrev mX1_isPreferred : fM := (yX1_isPreferred, cX1_isPreferred, 9, some .boolean)
theorem nX1_isPreferred : f_nm yX1_isPreferred 3 := by
  unfold f_nm
  decide +kernel
abbrev mX2_init : fM := (yX2_init, cX2_init, 2, none)
theorem nX2_init : f_nm yX2_init 0 := by
  unfold f_nm
  decide +kernel
abbrev mX2_copyFrom : fM := (yX2_copyFrom, cX2_copyFrom, 2, none)
theorem nX2_copyFrom : f_nm yX2_copyFrom 1 := by
  unfold f_nm
  decide +kernel
abbrev mX3_init : fM := (yX3_init, cX3_init, 1, none)
theorem nX3_init : f_nm yX3_init 0 := by
  unfold f_nm
  decide +kernel
abbrev mX3_hold : fM := (yX3_hold, cX3_hold, 6, none)
theorem nX3_hold : f_nm yX3_hold 3 := by
  unfold f_nm
  decide +kernel
abbrev mX3_join : fM := (yX3_join, cX3_join, 12, some .boolean)
theorem nX3_join : f_nm yX3_join 3 := by
  unfold f_nm
  decide +kernel
abbrev mX3_lastZeros : fM := (yX3_lastZeros, cX3_lastZeros, 5, some .int)
theorem nX3_lastZeros : f_nm yX3_lastZeros 1 := by
  unfold f_nm
  decide +kernel
abbrev mX3_cut : fM := (yX3_cut, cX3_cut, 8, some .long)
theorem nX3_cut : f_nm yX3_cut 0 := by
  unfold f_nm
  decide +kernel
abbrev mX4_init : fM := (yX4_init, cX4_init, 1, none)
theorem nX4_init : f_nm yX4_init 0 := by
  unfold f_nm
  decide +kernel
abbrev mX4_turn : fM := (yX4_turn, cX4_turn, 3, none)
theorem nX4_turn : f_nm yX4_turn 2 := by
  unfold f_nm
  decide +kernel
abbrev mX4_of : fM := (yX4_of, cX4_of, 13, some .long)
theorem nX4_of : f_nm yX4_of 1 := by
  unfold f_nm
  decide +kernel
abbrev mX4_goesOn : fM := (yX4_goesOn, cX4_goesOn, 8, some .boolean)
theorem nX4_goesOn : f_nm yX4_goesOn 4 := by
  unfold f_nm
  decide +kernel
abbrev mX4_placed : fM := (yX4_placed, cX4_placed, 12, some .long)
theorem nX4_placed : f_nm yX4_placed 3 := by
  unfold f_nm
  decide +kernel
abbrev mX5_suits : fM := (yX5_suits, cX5_suits, 8, some .boolean)
theorem nX5_suits : f_nm yX5_suits 3 := by
  unfold f_nm
  decide +kernel
abbrev mX5_hasRoomToSpread : fM := (yX5_hasRoomToSpread, cX5_hasRoomToSpread, 3, some .boolean)
theorem nX5_hasRoomToSpread : f_nm yX5_hasRoomToSpread 2 := by
  unfold f_nm
  decide +kernel
abbrev mX5_sharesFactor : fM := (yX5_sharesFactor, cX5_sharesFactor, 2, some .boolean)
theorem nX5_sharesFactor : f_nm yX5_sharesFactor 2 := by
  unfold f_nm
  decide +kernel
abbrev mX5_isOfSquares : fM := (yX5_isOfSquares, cX5_isOfSquares, 3, some .boolean)
theorem nX5_isOfSquares : f_nm yX5_isOfSquares 2 := by
  unfold f_nm
  decide +kernel
abbrev mX5_write : fM := (yX5_write, cX5_write, 4, some .boolean)
theorem nX5_write : f_nm yX5_write 4 := by
  unfold f_nm
  decide +kernel
abbrev mX5_writeShift : fM := (yX5_writeShift, cX5_writeShift, 7, none)
theorem nX5_writeShift : f_nm yX5_writeShift 4 := by
  unfold f_nm
  decide +kernel
abbrev mX5_writeFactors : fM := (yX5_writeFactors, cX5_writeFactors, 6, none)
theorem nX5_writeFactors : f_nm yX5_writeFactors 4 := by
  unfold f_nm
  decide +kernel
abbrev mX6_init : fM := (yX6_init, cX6_init, 1, none)
theorem nX6_init : f_nm yX6_init 0 := by
  unfold f_nm
  decide +kernel
abbrev mX6_find : fM := (yX6_find, cX6_find, 5, none)
theorem nX6_find : f_nm yX6_find 2 := by
  unfold f_nm
  decide +kernel
abbrev mX6_changeAgain : fM := (yX6_changeAgain, cX6_changeAgain, 3, none)
theorem nX6_changeAgain : f_nm yX6_changeAgain 1 := by
  unfold f_nm
  decide +kernel
abbrev mX6_consider : fM := (yX6_consider, cX6_consider, 5, none)
theorem nX6_consider : f_nm yX6_consider 2 := by
  unfold f_nm
  decide +kernel
abbrev mX7_init : fM := (yX7_init, cX7_init, 1, none)
theorem nX7_init : f_nm yX7_init 0 := by
  unfold f_nm
  decide +kernel
abbrev mX7_bound : fM := (yX7_bound, cX7_bound, 6, none)
theorem nX7_bound : f_nm yX7_bound 1 := by
  unfold f_nm
  decide +kernel
abbrev mX7_join : fM := (yX7_join, cX7_join, 14, none)
theorem nX7_join : f_nm yX7_join 3 := by
  unfold f_nm
  decide +kernel
abbrev mX7_makeGreat : fM := (yX7_makeGreat, cX7_makeGreat, 2, none)
theorem nX7_makeGreat : f_nm yX7_makeGreat 1 := by
  unfold f_nm
  decide +kernel
abbrev mX7_widen : fM := (yX7_widen, cX7_widen, 11, some .boolean)
theorem nX7_widen : f_nm yX7_widen 4 := by
  unfold f_nm
  decide +kernel
abbrev mX7_findTruth : fM := (yX7_findTruth, cX7_findTruth, 7, none)
theorem nX7_findTruth : f_nm yX7_findTruth 1 := by
  unfold f_nm
  decide +kernel
abbrev mX7_startTrials : fM := (yX7_startTrials, cX7_startTrials, 5, some .int)
theorem nX7_startTrials : f_nm yX7_startTrials 1 := by
  unfold f_nm
  decide +kernel
abbrev mX7_nextTrial : fM := (yX7_nextTrial, cX7_nextTrial, 4, some .int)
theorem nX7_nextTrial : f_nm yX7_nextTrial 1 := by
  unfold f_nm
  decide +kernel
abbrev mX8_init : fM := (yX8_init, cX8_init, 1, none)
theorem nX8_init : f_nm yX8_init 0 := by
  unfold f_nm
  decide +kernel
abbrev mX8_work : fM := (yX8_work, cX8_work, 10, none)
theorem nX8_work : f_nm yX8_work 2 := by
  unfold f_nm
  decide +kernel
abbrev mX8_lossOf : fM := (yX8_lossOf, cX8_lossOf, 5, some .long)
theorem nX8_lossOf : f_nm yX8_lossOf 2 := by
  unfold f_nm
  decide +kernel
abbrev mX9_init : fM := (yX9_init, cX9_init, 1, none)
theorem nX9_init : f_nm yX9_init 0 := by
  unfold f_nm
  decide +kernel
abbrev mX9_take : fM := (yX9_take, cX9_take, 2, none)
theorem nX9_take : f_nm yX9_take 1 := by
  unfold f_nm
  decide +kernel
abbrev mX9_plus : fM := (yX9_plus, cX9_plus, 5, some .long)
theorem nX9_plus : f_nm yX9_plus 2 := by
  unfold f_nm
  decide +kernel
abbrev mX9_less : fM := (yX9_less, cX9_less, 5, some .long)
theorem nX9_less : f_nm yX9_less 2 := by
  unfold f_nm
  decide +kernel
abbrev mX9_whole : fM := (yX9_whole, cX9_whole, 4, some .long)
theorem nX9_whole : f_nm yX9_whole 0 := by
  unfold f_nm
  decide +kernel
abbrev mX9_asTold : fM := (yX9_asTold, cX9_asTold, 4, some .long)
theorem nX9_asTold : f_nm yX9_asTold 0 := by
  unfold f_nm
  decide +kernel
abbrev mX9_beside : fM := (yX9_beside, cX9_beside, 10, some .long)
theorem nX9_beside : f_nm yX9_beside 0 := by
  unfold f_nm
  decide +kernel
abbrev mX9_halves : fM := (yX9_halves, cX9_halves, 1, some .long)
theorem nX9_halves : f_nm yX9_halves 0 := by
  unfold f_nm
  decide +kernel
abbrev mX9_halfSum : fM := (yX9_halfSum, cX9_halfSum, 6, some .long)
theorem nX9_halfSum : f_nm yX9_halfSum 3 := by
  unfold f_nm
  decide +kernel
abbrev mX9_bySize : fM := (yX9_bySize, cX9_bySize, 4, some .long)
theorem nX9_bySize : f_nm yX9_bySize 0 := by
  unfold f_nm
  decide +kernel
abbrev mX9_insertBySize : fM := (yX9_insertBySize, cX9_insertBySize, 3, none)
theorem nX9_insertBySize : f_nm yX9_insertBySize 1 := by
  unfold f_nm
  decide +kernel
abbrev mX10_init : fM := (yX10_init, cX10_init, 1, none)
theorem nX10_init : f_nm yX10_init 0 := by
  unfold f_nm
  decide +kernel
abbrev mX10_copyFrom : fM := (yX10_copyFrom, cX10_copyFrom, 2, none)
theorem nX10_copyFrom : f_nm yX10_copyFrom 1 := by
  unfold f_nm
  decide +kernel
abbrev mX10_read : fM := (yX10_read, cX10_read, 4, none)
theorem nX10_read : f_nm yX10_read 2 := by
  unfold f_nm
  decide +kernel
abbrev mX10_add : fM := (yX10_add, cX10_add, 2, none)
theorem nX10_add : f_nm yX10_add 1 := by
  unfold f_nm
  decide +kernel
abbrev mX10_addPlaces : fM := (yX10_addPlaces, cX10_addPlaces, 5, none)
theorem nX10_addPlaces : f_nm yX10_addPlaces 3 := by
  unfold f_nm
  decide +kernel
abbrev mX10_addPart : fM := (yX10_addPart, cX10_addPart, 3, none)
theorem nX10_addPart : f_nm yX10_addPart 2 := by
  unfold f_nm
  decide +kernel
abbrev mX10_findParts : fM := (yX10_findParts, cX10_findParts, 3, none)
theorem nX10_findParts : f_nm yX10_findParts 0 := by
  unfold f_nm
  decide +kernel
abbrev mX10_has : fM := (yX10_has, cX10_has, 2, some .boolean)
theorem nX10_has : f_nm yX10_has 1 := by
  unfold f_nm
  decide +kernel
abbrev mX10_signAt : fM := (yX10_signAt, cX10_signAt, 2, some .int)
theorem nX10_signAt : f_nm yX10_signAt 1 := by
  unfold f_nm
  decide +kernel
abbrev mX10_endOf : fM := (yX10_endOf, cX10_endOf, 2, some .int)
theorem nX10_endOf : f_nm yX10_endOf 1 := by
  unfold f_nm
  decide +kernel
abbrev mX10_lettersOf : fM := (yX10_lettersOf, cX10_lettersOf, 2, some .int)
theorem nX10_lettersOf : f_nm yX10_lettersOf 1 := by
  unfold f_nm
  decide +kernel
abbrev mX10_secondOf : fM := (yX10_secondOf, cX10_secondOf, 2, some .int)
theorem nX10_secondOf : f_nm yX10_secondOf 1 := by
  unfold f_nm
  decide +kernel
abbrev mX10_areAlike : fM := (yX10_areAlike, cX10_areAlike, 5, some .boolean)
theorem nX10_areAlike : f_nm yX10_areAlike 2 := by
  unfold f_nm
  decide +kernel
abbrev mX11_init : fM := (yX11_init, cX11_init, 1, none)
theorem nX11_init : f_nm yX11_init 0 := by
  unfold f_nm
  decide +kernel
abbrev mX11_set : fM := (yX11_set, cX11_set, 4, some .int)
theorem nX11_set : f_nm yX11_set 2 := by
  unfold f_nm
  decide +kernel
abbrev mX11_round : fM := (yX11_round, cX11_round, 4, some .long)
theorem nX11_round : f_nm yX11_round 3 := by
  unfold f_nm
  decide +kernel
abbrev mX11_say : fM := (yX11_say, cX11_say, 2, some .int)
theorem nX11_say : f_nm yX11_say 1 := by
  unfold f_nm
  decide +kernel
abbrev mX11_wipe : fM := (yX11_wipe, cX11_wipe, 2, some .int)
theorem nX11_wipe : f_nm yX11_wipe 0 := by
  unfold f_nm
  decide +kernel
abbrev mX11_fault : fM := (yX11_fault, cX11_fault, 3, some .int)
theorem nX11_fault : f_nm yX11_fault 0 := by
  unfold f_nm
  decide +kernel
abbrev mX11_text : fM := (yX11_text, cX11_text, 1, some .int)
theorem nX11_text : f_nm yX11_text 0 := by
  unfold f_nm
  decide +kernel
abbrev mX11_sign : fM := (yX11_sign, cX11_sign, 2, some .int)
theorem nX11_sign : f_nm yX11_sign 1 := by
  unfold f_nm
  decide +kernel
abbrev mX11_put : fM := (yX11_put, cX11_put, 5, some .int)
theorem nX11_put : f_nm yX11_put 3 := by
  unfold f_nm
  decide +kernel
abbrev mX11_worked : fM := (yX11_worked, cX11_worked, 3, some .long)
theorem nX11_worked : f_nm yX11_worked 2 := by
  unfold f_nm
  decide +kernel
abbrev mX11_exact : fM := (yX11_exact, cX11_exact, 2, some .long)
theorem nX11_exact : f_nm yX11_exact 1 := by
  unfold f_nm
  decide +kernel
abbrev mX11_loss : fM := (yX11_loss, cX11_loss, 1, some .long)
theorem nX11_loss : f_nm yX11_loss 0 := by
  unfold f_nm
  decide +kernel
abbrev mX11_worst : fM := (yX11_worst, cX11_worst, 7, some .int)
theorem nX11_worst : f_nm yX11_worst 0 := by
  unfold f_nm
  decide +kernel
abbrev mX11_needs : fM := (yX11_needs, cX11_needs, 6, some .int)
theorem nX11_needs : f_nm yX11_needs 1 := by
  unfold f_nm
  decide +kernel
abbrev mX11_term : fM := (yX11_term, cX11_term, 5, some .int)
theorem nX11_term : f_nm yX11_term 1 := by
  unfold f_nm
  decide +kernel
abbrev mX11_clear : fM := (yX11_clear, cX11_clear, 2, some .int)
theorem nX11_clear : f_nm yX11_clear 0 := by
  unfold f_nm
  decide +kernel
abbrev mX11_about : fM := (yX11_about, cX11_about, 2, some .long)
theorem nX11_about : f_nm yX11_about 1 := by
  unfold f_nm
  decide +kernel
abbrev mX11_sum : fM := (yX11_sum, cX11_sum, 2, some .long)
theorem nX11_sum : f_nm yX11_sum 1 := by
  unfold f_nm
  decide +kernel
abbrev mX11_orders : fM := (yX11_orders, cX11_orders, 2, some .long)
theorem nX11_orders : f_nm yX11_orders 1 := by
  unfold f_nm
  decide +kernel
abbrev mX11_order : fM := (yX11_order, cX11_order, 3, some .int)
theorem nX11_order : f_nm yX11_order 2 := by
  unfold f_nm
  decide +kernel
abbrev mX11_bounds : fM := (yX11_bounds, cX11_bounds, 2, some .long)
theorem nX11_bounds : f_nm yX11_bounds 1 := by
  unfold f_nm
  decide +kernel
abbrev mX11_truth : fM := (yX11_truth, cX11_truth, 2, some .long)
theorem nX11_truth : f_nm yX11_truth 1 := by
  unfold f_nm
  decide +kernel
abbrev mX11_fits : fM := (yX11_fits, cX11_fits, 3, some .int)
theorem nX11_fits : f_nm yX11_fits 2 := by
  unfold f_nm
  decide +kernel
abbrev mX11_change : fM := (yX11_change, cX11_change, 3, some .int)
theorem nX11_change : f_nm yX11_change 2 := by
  unfold f_nm
  decide +kernel
abbrev mX11_better : fM := (yX11_better, cX11_better, 2, some .long)
theorem nX11_better : f_nm yX11_better 1 := by
  unfold f_nm
  decide +kernel
abbrev mX11_betterSign : fM := (yX11_betterSign, cX11_betterSign, 3, some .int)
theorem nX11_betterSign : f_nm yX11_betterSign 2 := by
  unfold f_nm
  decide +kernel
abbrev mX11_image : fM := (yX11_image, cX11_image, 3, some .int)
theorem nX11_image : f_nm yX11_image 1 := by
  unfold f_nm
  decide +kernel
abbrev mX11_restore : fM := (yX11_restore, cX11_restore, 3, some .int)
theorem nX11_restore : f_nm yX11_restore 1 := by
  unfold f_nm
  decide +kernel
abbrev mX11_told : fM := (yX11_told, cX11_told, 2, some .int)
theorem nX11_told : f_nm yX11_told 1 := by
  unfold f_nm
  decide +kernel
abbrev mX11_workNow : fM := (yX11_workNow, cX11_workNow, 1, none)
theorem nX11_workNow : f_nm yX11_workNow 0 := by
  unfold f_nm
  decide +kernel
abbrev mX11_forgetFindings : fM := (yX11_forgetFindings, cX11_forgetFindings, 1, none)
theorem nX11_forgetFindings : f_nm yX11_forgetFindings 0 := by
  unfold f_nm
  decide +kernel
abbrev mX11_isOperator : fM := (yX11_isOperator, cX11_isOperator, 1, some .boolean)
theorem nX11_isOperator : f_nm yX11_isOperator 1 := by
  unfold f_nm
  decide +kernel
abbrev mX11_isLetter : fM := (yX11_isLetter, cX11_isLetter, 1, some .boolean)
theorem nX11_isLetter : f_nm yX11_isLetter 1 := by
  unfold f_nm
  decide +kernel
abbrev mX11_isDigit : fM := (yX11_isDigit, cX11_isDigit, 1, some .boolean)
theorem nX11_isDigit : f_nm yX11_isDigit 1 := by
  unfold f_nm
  decide +kernel
abbrev mX11_numberOf : fM := (yX11_numberOf, cX11_numberOf, 3, some .int)
theorem nX11_numberOf : f_nm yX11_numberOf 2 := by
  unfold f_nm
  decide +kernel
abbrev mX11_at : fM := (yX11_at, cX11_at, 2, some .long)
theorem nX11_at : f_nm yX11_at 2 := by
  unfold f_nm
  decide +kernel
abbrev mX12_init : fM := (yX12_init, cX12_init, 2, none)
theorem nX12_init : f_nm yX12_init 0 := by
  unfold f_nm
  decide +kernel
abbrev mX12_in : fM := (yX12_in, cX12_in, 6, some .boolean)
theorem nX12_in : f_nm yX12_in 3 := by
  unfold f_nm
  decide +kernel
abbrev mX12_isEnd : fM := (yX12_isEnd, cX12_isEnd, 1, some .boolean)
theorem nX12_isEnd : f_nm yX12_isEnd 1 := by
  unfold f_nm
  decide +kernel
abbrev mX12_size : fM := (yX12_size, cX12_size, 2, some .long)
theorem nX12_size : f_nm yX12_size 1 := by
  unfold f_nm
  decide +kernel
abbrev mX12_power : fM := (yX12_power, cX12_power, 4, some .long)
theorem nX12_power : f_nm yX12_power 1 := by
  unfold f_nm
  decide +kernel
abbrev mX12_rounded : fM := (yX12_rounded, cX12_rounded, 21, some .long)
theorem nX12_rounded : f_nm yX12_rounded 6 := by
  unfold f_nm
  decide +kernel
abbrev mX12_roundOf : fM := (yX12_roundOf, cX12_roundOf, 5, some .long)
theorem nX12_roundOf : f_nm yX12_roundOf 3 := by
  unfold f_nm
  decide +kernel
abbrev mX12_shorten : fM := (yX12_shorten, cX12_shorten, 3, none)
theorem nX12_shorten : f_nm yX12_shorten 1 := by
  unfold f_nm
  decide +kernel
abbrev mX12_layBoth : fM := (yX12_layBoth, cX12_layBoth, 9, none)
theorem nX12_layBoth : f_nm yX12_layBoth 3 := by
  unfold f_nm
  decide +kernel
abbrev mX12_made : fM := (yX12_made, cX12_made, 8, some .long)
theorem nX12_made : f_nm yX12_made 5 := by
  unfold f_nm
  decide +kernel
abbrev mX12_whole : fM := (yX12_whole, cX12_whole, 12, some .long)
theorem nX12_whole : f_nm yX12_whole 3 := by
  unfold f_nm
  decide +kernel
abbrev mX12_set : fM := (yX12_set, cX12_set, 4, some .int)
theorem nX12_set : f_nm yX12_set 2 := by
  unfold f_nm
  decide +kernel
abbrev mX12_round : fM := (yX12_round, cX12_round, 4, some .long)
theorem nX12_round : f_nm yX12_round 3 := by
  unfold f_nm
  decide +kernel
abbrev mX12_say : fM := (yX12_say, cX12_say, 2, some .int)
theorem nX12_say : f_nm yX12_say 1 := by
  unfold f_nm
  decide +kernel
abbrev mX12_wipe : fM := (yX12_wipe, cX12_wipe, 2, some .int)
theorem nX12_wipe : f_nm yX12_wipe 0 := by
  unfold f_nm
  decide +kernel
abbrev mX12_isSign : fM := (yX12_isSign, cX12_isSign, 1, some .boolean)
theorem nX12_isSign : f_nm yX12_isSign 1 := by
  unfold f_nm
  decide +kernel
abbrev mX12_isLetter : fM := (yX12_isLetter, cX12_isLetter, 1, some .boolean)
theorem nX12_isLetter : f_nm yX12_isLetter 1 := by
  unfold f_nm
  decide +kernel
abbrev mX12_isDigit : fM := (yX12_isDigit, cX12_isDigit, 1, some .boolean)
theorem nX12_isDigit : f_nm yX12_isDigit 1 := by
  unfold f_nm
  decide +kernel
abbrev mX12_fault : fM := (yX12_fault, cX12_fault, 4, some .int)
theorem nX12_fault : f_nm yX12_fault 0 := by
  unfold f_nm
  decide +kernel
abbrev mX12_text : fM := (yX12_text, cX12_text, 2, some .int)
theorem nX12_text : f_nm yX12_text 0 := by
  unfold f_nm
  decide +kernel
abbrev mX12_isStep : fM := (yX12_isStep, cX12_isStep, 2, some .boolean)
theorem nX12_isStep : f_nm yX12_isStep 1 := by
  unfold f_nm
  decide +kernel
abbrev mX12_sign : fM := (yX12_sign, cX12_sign, 2, some .int)
theorem nX12_sign : f_nm yX12_sign 1 := by
  unfold f_nm
  decide +kernel
abbrev mX12_put : fM := (yX12_put, cX12_put, 5, some .int)
theorem nX12_put : f_nm yX12_put 3 := by
  unfold f_nm
  decide +kernel
abbrev mX12_layText : fM := (yX12_layText, cX12_layText, 2, none)
theorem nX12_layText : f_nm yX12_layText 0 := by
  unfold f_nm
  decide +kernel
abbrev mX12_findSizes : fM := (yX12_findSizes, cX12_findSizes, 3, none)
theorem nX12_findSizes : f_nm yX12_findSizes 0 := by
  unfold f_nm
  decide +kernel
abbrev mX12_wholeAt : fM := (yX12_wholeAt, cX12_wholeAt, 2, some .int)
theorem nX12_wholeAt : f_nm yX12_wholeAt 1 := by
  unfold f_nm
  decide +kernel
abbrev mX12_work : fM := (yX12_work, cX12_work, 6, none)
theorem nX12_work : f_nm yX12_work 0 := by
  unfold f_nm
  decide +kernel
abbrev mX12_common : fM := (yX12_common, cX12_common, 10, some .long)
theorem nX12_common : f_nm yX12_common 2 := by
  unfold f_nm
  decide +kernel
abbrev mX12_layExact : fM := (yX12_layExact, cX12_layExact, 8, none)
theorem nX12_layExact : f_nm yX12_layExact 3 := by
  unfold f_nm
  decide +kernel
abbrev mX12_workExact : fM := (yX12_workExact, cX12_workExact, 12, none)
theorem nX12_workExact : f_nm yX12_workExact 0 := by
  unfold f_nm
  decide +kernel
abbrev mX12_billionths : fM := (yX12_billionths, cX12_billionths, 13, some .long)
theorem nX12_billionths : f_nm yX12_billionths 2 := by
  unfold f_nm
  decide +kernel
abbrev mX12_less : fM := (yX12_less, cX12_less, 4, some .long)
theorem nX12_less : f_nm yX12_less 2 := by
  unfold f_nm
  decide +kernel
abbrev mX12_worked : fM := (yX12_worked, cX12_worked, 3, some .long)
theorem nX12_worked : f_nm yX12_worked 2 := by
  unfold f_nm
  decide +kernel
abbrev mX12_exact : fM := (yX12_exact, cX12_exact, 2, some .long)
theorem nX12_exact : f_nm yX12_exact 1 := by
  unfold f_nm
  decide +kernel
abbrev mX12_lossNow : fM := (yX12_lossNow, cX12_lossNow, 3, some .long)
theorem nX12_lossNow : f_nm yX12_lossNow 0 := by
  unfold f_nm
  decide +kernel
abbrev mX12_loss : fM := (yX12_loss, cX12_loss, 1, some .long)
theorem nX12_loss : f_nm yX12_loss 0 := by
  unfold f_nm
  decide +kernel
abbrev mX12_worst : fM := (yX12_worst, cX12_worst, 5, some .int)
theorem nX12_worst : f_nm yX12_worst 0 := by
  unfold f_nm
  decide +kernel
abbrev mX12_needs : fM := (yX12_needs, cX12_needs, 8, some .int)
theorem nX12_needs : f_nm yX12_needs 1 := by
  unfold f_nm
  decide +kernel
abbrev mX12_term : fM := (yX12_term, cX12_term, 5, some .int)
theorem nX12_term : f_nm yX12_term 1 := by
  unfold f_nm
  decide +kernel
abbrev mX12_clear : fM := (yX12_clear, cX12_clear, 2, some .int)
theorem nX12_clear : f_nm yX12_clear 0 := by
  unfold f_nm
  decide +kernel
abbrev mX12_about : fM := (yX12_about, cX12_about, 2, some .long)
theorem nX12_about : f_nm yX12_about 1 := by
  unfold f_nm
  decide +kernel
abbrev mX12_layOrder : fM := (yX12_layOrder, cX12_layOrder, 2, none)
theorem nX12_layOrder : f_nm yX12_layOrder 0 := by
  unfold f_nm
  decide +kernel
abbrev mX12_sumOf : fM := (yX12_sumOf, cX12_sumOf, 6, some .long)
theorem nX12_sumOf : f_nm yX12_sumOf 2 := by
  unfold f_nm
  decide +kernel
abbrev mX12_wholeSum : fM := (yX12_wholeSum, cX12_wholeSum, 4, some .long)
theorem nX12_wholeSum : f_nm yX12_wholeSum 0 := by
  unfold f_nm
  decide +kernel
abbrev mX12_beside : fM := (yX12_beside, cX12_beside, 10, some .long)
theorem nX12_beside : f_nm yX12_beside 0 := by
  unfold f_nm
  decide +kernel
abbrev mX12_halfOf : fM := (yX12_halfOf, cX12_halfOf, 3, some .long)
theorem nX12_halfOf : f_nm yX12_halfOf 2 := by
  unfold f_nm
  decide +kernel
abbrev mX12_halves : fM := (yX12_halves, cX12_halves, 4, some .long)
theorem nX12_halves : f_nm yX12_halves 0 := by
  unfold f_nm
  decide +kernel
abbrev mX12_orderBySize : fM := (yX12_orderBySize, cX12_orderBySize, 4, none)
theorem nX12_orderBySize : f_nm yX12_orderBySize 0 := by
  unfold f_nm
  decide +kernel
abbrev mX12_sum : fM := (yX12_sum, cX12_sum, 2, some .long)
theorem nX12_sum : f_nm yX12_sum 1 := by
  unfold f_nm
  decide +kernel
abbrev mX12_nextOrder : fM := (yX12_nextOrder, cX12_nextOrder, 6, some .boolean)
theorem nX12_nextOrder : f_nm yX12_nextOrder 0 := by
  unfold f_nm
  decide +kernel
abbrev mX12_isBetter : fM := (yX12_isBetter, cX12_isBetter, 8, some .boolean)
theorem nX12_isBetter : f_nm yX12_isBetter 2 := by
  unfold f_nm
  decide +kernel
abbrev mX12_findOrders : fM := (yX12_findOrders, cX12_findOrders, 10, none)
theorem nX12_findOrders : f_nm yX12_findOrders 1 := by
  unfold f_nm
  decide +kernel
abbrev mX12_orders : fM := (yX12_orders, cX12_orders, 2, some .long)
theorem nX12_orders : f_nm yX12_orders 1 := by
  unfold f_nm
  decide +kernel
abbrev mX12_order : fM := (yX12_order, cX12_order, 3, some .int)
theorem nX12_order : f_nm yX12_order 2 := by
  unfold f_nm
  decide +kernel
abbrev mX12_layEnds : fM := (yX12_layEnds, cX12_layEnds, 6, none)
theorem nX12_layEnds : f_nm yX12_layEnds 3 := by
  unfold f_nm
  decide +kernel
abbrev mX12_ofPairs : fM := (yX12_ofPairs, cX12_ofPairs, 10, some .long)
theorem nX12_ofPairs : f_nm yX12_ofPairs 4 := by
  unfold f_nm
  decide +kernel
abbrev mX12_findEnds : fM := (yX12_findEnds, cX12_findEnds, 7, none)
theorem nX12_findEnds : f_nm yX12_findEnds 0 := by
  unfold f_nm
  decide +kernel
abbrev mX12_bounds : fM := (yX12_bounds, cX12_bounds, 2, some .long)
theorem nX12_bounds : f_nm yX12_bounds 1 := by
  unfold f_nm
  decide +kernel
abbrev mX12_isIn : fM := (yX12_isIn, cX12_isIn, 4, some .boolean)
theorem nX12_isIn : f_nm yX12_isIn 1 := by
  unfold f_nm
  decide +kernel
abbrev mX12_nextNumbers : fM := (yX12_nextNumbers, cX12_nextNumbers, 2, some .boolean)
theorem nX12_nextNumbers : f_nm yX12_nextNumbers 0 := by
  unfold f_nm
  decide +kernel
abbrev mX12_truthOf : fM := (yX12_truthOf, cX12_truthOf, 9, some .long)
theorem nX12_truthOf : f_nm yX12_truthOf 1 := by
  unfold f_nm
  decide +kernel
abbrev mX12_truth : fM := (yX12_truth, cX12_truth, 2, some .long)
theorem nX12_truth : f_nm yX12_truth 1 := by
  unfold f_nm
  decide +kernel
abbrev mX12_add : fM := (yX12_add, cX12_add, 2, none)
theorem nX12_add : f_nm yX12_add 1 := by
  unfold f_nm
  decide +kernel
abbrev mX12_addPart : fM := (yX12_addPart, cX12_addPart, 3, none)
theorem nX12_addPart : f_nm yX12_addPart 1 := by
  unfold f_nm
  decide +kernel
abbrev mX12_isSame : fM := (yX12_isSame, cX12_isSame, 5, some .boolean)
theorem nX12_isSame : f_nm yX12_isSame 2 := by
  unfold f_nm
  decide +kernel
abbrev mX12_hasSigns : fM := (yX12_hasSigns, cX12_hasSigns, 5, some .boolean)
theorem nX12_hasSigns : f_nm yX12_hasSigns 4 := by
  unfold f_nm
  decide +kernel
abbrev mX12_build : fM := (yX12_build, cX12_build, 7, some .boolean)
theorem nX12_build : f_nm yX12_build 2 := by
  unfold f_nm
  decide +kernel
abbrev mX12_buildPart : fM := (yX12_buildPart, cX12_buildPart, 5, none)
theorem nX12_buildPart : f_nm yX12_buildPart 4 := by
  unfold f_nm
  decide +kernel
abbrev mX12_isRule : fM := (yX12_isRule, cX12_isRule, 1, some .boolean)
theorem nX12_isRule : f_nm yX12_isRule 1 := by
  unfold f_nm
  decide +kernel
abbrev mX12_fits : fM := (yX12_fits, cX12_fits, 3, some .int)
theorem nX12_fits : f_nm yX12_fits 2 := by
  unfold f_nm
  decide +kernel
abbrev mX12_change : fM := (yX12_change, cX12_change, 4, some .int)
theorem nX12_change : f_nm yX12_change 2 := by
  unfold f_nm
  decide +kernel
abbrev mX12_hold : fM := (yX12_hold, cX12_hold, 4, none)
theorem nX12_hold : f_nm yX12_hold 0 := by
  unfold f_nm
  decide +kernel
abbrev mX12_layBuilt : fM := (yX12_layBuilt, cX12_layBuilt, 2, none)
theorem nX12_layBuilt : f_nm yX12_layBuilt 0 := by
  unfold f_nm
  decide +kernel
abbrev mX12_layBase : fM := (yX12_layBase, cX12_layBase, 2, none)
theorem nX12_layBase : f_nm yX12_layBase 0 := by
  unfold f_nm
  decide +kernel
abbrev mX12_keepBase : fM := (yX12_keepBase, cX12_keepBase, 2, none)
theorem nX12_keepBase : f_nm yX12_keepBase 0 := by
  unfold f_nm
  decide +kernel
abbrev mX12_holdAll : fM := (yX12_holdAll, cX12_holdAll, 4, none)
theorem nX12_holdAll : f_nm yX12_holdAll 0 := by
  unfold f_nm
  decide +kernel
abbrev mX12_findBetter : fM := (yX12_findBetter, cX12_findBetter, 4, none)
theorem nX12_findBetter : f_nm yX12_findBetter 1 := by
  unfold f_nm
  decide +kernel
abbrev mX12_better : fM := (yX12_better, cX12_better, 2, some .long)
theorem nX12_better : f_nm yX12_better 1 := by
  unfold f_nm
  decide +kernel
abbrev mX12_betterSign : fM := (yX12_betterSign, cX12_betterSign, 3, some .int)
theorem nX12_betterSign : f_nm yX12_betterSign 2 := by
  unfold f_nm
  decide +kernel
abbrev mX12_pass : fM := (yX12_pass, cX12_pass, 5, some .long)
theorem nX12_pass : f_nm yX12_pass 1 := by
  unfold f_nm
  decide +kernel
abbrev mX12_passAll : fM := (yX12_passAll, cX12_passAll, 2, none)
theorem nX12_passAll : f_nm yX12_passAll 0 := by
  unfold f_nm
  decide +kernel
abbrev mX12_image : fM := (yX12_image, cX12_image, 2, some .int)
theorem nX12_image : f_nm yX12_image 1 := by
  unfold f_nm
  decide +kernel
abbrev mX12_restore : fM := (yX12_restore, cX12_restore, 2, some .int)
theorem nX12_restore : f_nm yX12_restore 1 := by
  unfold f_nm
  decide +kernel
abbrev mX12_told : fM := (yX12_told, cX12_told, 2, some .int)
theorem nX12_told : f_nm yX12_told 1 := by
  unfold f_nm
  decide +kernel
