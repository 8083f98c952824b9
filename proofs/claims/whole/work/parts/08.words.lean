/-! ===== each method's words, by their places in the tables (printed by wip/whole/gen/words.py) ===== -/
theorem wt_l {ws : List Cond} (ps : List Nat) (hp : ps.map (fun i => tables_1[i]?) = ws.map some) (g : ws.all goodWord = true) : ∀ w ∈ ws, w ∈ WT := by
  intro w hw
  have h1 : some w ∈ ws.map some := List.mem_map.mpr ⟨w, hw, rfl⟩
  rw [← hp] at h1
  obtain ⟨i, -, hi⟩ := List.mem_map.mp h1
  exact wt_t i hi (List.all_eq_true.mp g w hw)
theorem wt_c1 {w : Cond} (i : Nat) (h : tables_1_1[i]? = some w) (g : goodWord w = true) : w ∈ WT := wt_in (List.mem_append_right _ (by unfold tables_1; simp only [List.mem_append]; have q := List.mem_of_getElem? h; simp only [q, true_or, or_true])) g
theorem wt_c2 {w : Cond} (i : Nat) (h : tables_1_2[i]? = some w) (g : goodWord w = true) : w ∈ WT := wt_in (List.mem_append_right _ (by unfold tables_1; simp only [List.mem_append]; have q := List.mem_of_getElem? h; simp only [q, true_or, or_true])) g
theorem wt_c3 {w : Cond} (i : Nat) (h : tables_1_3[i]? = some w) (g : goodWord w = true) : w ∈ WT := wt_in (List.mem_append_right _ (by unfold tables_1; simp only [List.mem_append]; have q := List.mem_of_getElem? h; simp only [q, true_or, or_true])) g
theorem wt_c4 {w : Cond} (i : Nat) (h : tables_1_4[i]? = some w) (g : goodWord w = true) : w ∈ WT := wt_in (List.mem_append_right _ (by unfold tables_1; simp only [List.mem_append]; have q := List.mem_of_getElem? h; simp only [q, true_or, or_true])) g
theorem wt_c5 {w : Cond} (i : Nat) (h : tables_1_5[i]? = some w) (g : goodWord w = true) : w ∈ WT := wt_in (List.mem_append_right _ (by unfold tables_1; simp only [List.mem_append]; have q := List.mem_of_getElem? h; simp only [q, true_or, or_true])) g
theorem wt_c6 {w : Cond} (i : Nat) (h : tables_1_6[i]? = some w) (g : goodWord w = true) : w ∈ WT := wt_in (List.mem_append_right _ (by unfold tables_1; simp only [List.mem_append]; have q := List.mem_of_getElem? h; simp only [q, true_or, or_true])) g
theorem wt_c7 {w : Cond} (i : Nat) (h : tables_1_7[i]? = some w) (g : goodWord w = true) : w ∈ WT := wt_in (List.mem_append_right _ (by unfold tables_1; simp only [List.mem_append]; have q := List.mem_of_getElem? h; simp only [q, true_or, or_true])) g
theorem wt_c8 {w : Cond} (i : Nat) (h : tables_1_8[i]? = some w) (g : goodWord w = true) : w ∈ WT := wt_in (List.mem_append_right _ (by unfold tables_1; simp only [List.mem_append]; have q := List.mem_of_getElem? h; simp only [q, true_or, or_true])) g
theorem wt_c9 {w : Cond} (i : Nat) (h : tables_1_9[i]? = some w) (g : goodWord w = true) : w ∈ WT := wt_in (List.mem_append_right _ (by unfold tables_1; simp only [List.mem_append]; have q := List.mem_of_getElem? h; simp only [q, true_or, or_true])) g
abbrev mX0_init : MT := (yX0_init, cX0_init, 3, none, [])
abbrev mX6_factOf : MT := (yX6_factOf, cX6_factOf, 4, (some .int), [])
abbrev mX1_canGo : MT := (yX1_canGo, cX1_canGo, 7, (some .boolean), [])
abbrev mX9_firstOfPath : MT := (yX9_firstOfPath, cX9_firstOfPath, 1, (some .int), [])
abbrev mX5_aheadOf : MT := (yX5_aheadOf, cX5_aheadOf, 4, (some .int), [])
abbrev mX1_rightOf : MT := (yX1_rightOf, cX1_rightOf, 6, (some .int), [])
abbrev mX1_hinderedBy : MT := (yX1_hinderedBy, cX1_hinderedBy, 8, (some .int), [])
abbrev mX2_push : MT := (yX2_push, cX2_push, 2, none, [])
abbrev mX2_pop : MT := (yX2_pop, cX2_pop, 1, (some .int), [])
abbrev mX2_reckon : MT := (yX2_reckon, cX2_reckon, 6, (some .int), [])
abbrev mX2_run : MT := (yX2_run, cX2_run, 8, none, [])
abbrev mX2_scoreByFacts : MT := (yX2_scoreByFacts, cX2_scoreByFacts, 4, (some .int), [])
abbrev mX1_scoreOf : MT := (yX1_scoreOf, cX1_scoreOf, 8, (some .int), [])
abbrev mX0_compareRide : MT := (yX0_compareRide, cX0_compareRide, 4, none, [])
abbrev mX0_findRide : MT := (yX0_findRide, cX0_findRide, 6, none, [])
abbrev mX9_minutesFor : MT := (yX9_minutesFor, cX9_minutesFor, 2, (some .int), [])
abbrev mX0_readWaves : MT := (yX0_readWaves, cX0_readWaves, 4, none, [])
abbrev mX8_totalWith : MT := (yX8_totalWith, cX8_totalWith, 7, (some .int), [])
abbrev mX0_comparePlan : MT := (yX0_comparePlan, cX0_comparePlan, 4, none, [])
abbrev mX0_findPlan : MT := (yX0_findPlan, cX0_findPlan, 4, none, [])
abbrev mX1_minuteAt : MT := (yX1_minuteAt, cX1_minuteAt, 4, (some .int), [])
abbrev mX0_reachOf : MT := (yX0_reachOf, cX0_reachOf, 8, (some .int), [])
abbrev mX6_init : MT := (yX6_init, cX6_init, 1, none, [])
abbrev mX2_init : MT := (yX2_init, cX2_init, 1, none, [])
abbrev mX5_init : MT := (yX5_init, cX5_init, 1, none, [])
abbrev mX9_init : MT := (yX9_init, cX9_init, 2, none, [])
abbrev mX1_init : MT := (yX1_init, cX1_init, 2, none, [])
abbrev mX9_begin : MT := (yX9_begin, cX9_begin, 3, none, [])
abbrev mX5_clear : MT := (yX5_clear, cX5_clear, 1, none, [])
abbrev mX1_begin : MT := (yX1_begin, cX1_begin, 2, none, [])
abbrev mX1_bitsOf : MT := (yX1_bitsOf, cX1_bitsOf, 4, (some .int), [])
abbrev mX9_keepRide : MT := (yX9_keepRide, cX9_keepRide, 6, none, [])
abbrev mX1_keepSeen : MT := (yX1_keepSeen, cX1_keepSeen, 3, none, [])
abbrev mX1_judgeRide : MT := (yX1_judgeRide, cX1_judgeRide, 6, none, [])
abbrev mX9_sentIn : MT := (yX9_sentIn, cX9_sentIn, 1, (some .boolean), [])
abbrev mX1_leaveWave : MT := (yX1_leaveWave, cX1_leaveWave, 3, none, [])
abbrev mX5_leave : MT := (yX5_leave, cX5_leave, 4, none, [])
abbrev mX5_add : MT := (yX5_add, cX5_add, 2, none, [])
abbrev mX1_settleRow : MT := (yX1_settleRow, cX1_settleRow, 4, none, [])
abbrev mX1_goBy : MT := (yX1_goBy, cX1_goBy, 4, none, [])
abbrev mX1_beginAgain : MT := (yX1_beginAgain, cX1_beginAgain, 2, none, [])
abbrev mX9_swimFor : MT := (yX9_swimFor, cX9_swimFor, 3, none, [])
abbrev mX1_earliestBack : MT := (yX1_earliestBack, cX1_earliestBack, 4, (some .int), [])
abbrev mX1_comeOut : MT := (yX1_comeOut, cX1_comeOut, 2, none, [])
abbrev mX1_passTo : MT := (yX1_passTo, cX1_passTo, 4, none, [])
abbrev mX1_nextWave : MT := (yX1_nextWave, cX1_nextWave, 2, (some .int), [])
abbrev mX1_takenBy : MT := (yX1_takenBy, cX1_takenBy, 5, none, [])
abbrev mX2_clear : MT := (yX2_clear, cX2_clear, 1, none, [])
abbrev mX2_write : MT := (yX2_write, cX2_write, 3, (some .int), [])
abbrev mX2_landHere : MT := (yX2_landHere, cX2_landHere, 2, none, [])
abbrev mX2_beginLine : MT := (yX2_beginLine, cX2_beginLine, 2, none, [])
abbrev mX2_endSum : MT := (yX2_endSum, cX2_endSum, 1, none, [])
abbrev mX2_endLine : MT := (yX2_endLine, cX2_endLine, 1, none, [])
abbrev mX3_init : MT := (yX3_init, cX3_init, 3, none, [])
abbrev mX10_isBlank : MT := (yX10_isBlank, cX10_isBlank, 1, (some .boolean), [])
abbrev mX10_isLetter : MT := (yX10_isLetter, cX10_isLetter, 1, (some .boolean), [])
abbrev mX10_isDigit : MT := (yX10_isDigit, cX10_isDigit, 1, (some .boolean), [])
abbrev mX10_advance : MT := (yX10_advance, cX10_advance, 2, none, [])
abbrev mX10_open : MT := (yX10_open, cX10_open, 1, none, [])
abbrev mJ0_coder_7d493 : MT := (yJ0_coder_7d493, cJ0_coder_7d493, 1, (some .byte), [])
abbrev mJ0_length_8abf5 : MT := (yJ0_length_8abf5, cJ0_length_8abf5, 1, (some .int), [])
abbrev mJ0_isLatin1_aae02 : MT := (yJ0_isLatin1_aae02, cJ0_isLatin1_aae02, 1, (some .boolean), [])
abbrev mJ3_checkIndex_8e157 : MT := (yJ3_checkIndex_8e157, cJ3_checkIndex_8e157, 3, (some .int), [])
abbrev mJ0_checkIndex_df160 : MT := (yJ0_checkIndex_df160, cJ0_checkIndex_df160, 2, none, [])
abbrev mJ1_charAt_3b067 : MT := (yJ1_charAt_3b067, cJ1_charAt_3b067, 2, (some .char), [])
abbrev mJ2_length_9d52b : MT := (yJ2_length_9d52b, cJ2_length_9d52b, 1, (some .int), [])
abbrev mJ2_checkIndex_2214a : MT := (yJ2_checkIndex_2214a, cJ2_checkIndex_2214a, 2, none, [])
abbrev mJ2_getChar_3b067 : MT := (yJ2_getChar_3b067, cJ2_getChar_3b067, 2, (some .char), [])
abbrev mJ2_charAt_3b067 : MT := (yJ2_charAt_3b067, cJ2_charAt_3b067, 2, (some .char), [])
abbrev mJ0_charAt_5068e : MT := (yJ0_charAt_5068e, cJ0_charAt_5068e, 2, (some .char), [])
abbrev mX10_isWord : MT := (yX10_isWord, cX10_isWord, 3, (some .boolean), [])
abbrev mX10_isSign : MT := (yX10_isSign, cX10_isSign, 2, (some .boolean), [])
abbrev mX10_passSign : MT := (yX10_passSign, cX10_passSign, 3, (some .boolean), [])
abbrev mX3_factTold : MT := (yX3_factTold, cX3_factTold, 1, (some .int), [])
abbrev mX10_passNumber : MT := (yX10_passNumber, cX10_passNumber, 5, (some .int), [])
abbrev mX3_passPart : MT := (yX3_passPart, cX3_passPart, 4, (some .boolean), [])
abbrev mX3_passProduct : MT := (yX3_passProduct, cX3_passProduct, 4, (some .boolean), [])
abbrev mX3_passSum : MT := (yX3_passSum, cX3_passSum, 4, (some .boolean), [])
abbrev mX10_passWord : MT := (yX10_passWord, cX10_passWord, 3, (some .boolean), [])
abbrev mX3_passComparison : MT := (yX3_passComparison, cX3_passComparison, 3, (some .boolean), [])
abbrev mX3_passAll : MT := (yX3_passAll, cX3_passAll, 4, (some .boolean), [])
abbrev mX3_passAny : MT := (yX3_passAny, cX3_passAny, 4, (some .boolean), [])
abbrev mX3_passAtom : MT := (yX3_passAtom, cX3_passAtom, 4, (some .boolean), [])
abbrev mX3_passGroup : MT := (yX3_passGroup, cX3_passGroup, 2, (some .boolean), [])
abbrev mX3_passLine : MT := (yX3_passLine, cX3_passLine, 2, (some .boolean), [])
abbrev mX3_readInto : MT := (yX3_readInto, cX3_readInto, 3, (some .int), [])
abbrev mX4_init : MT := (yX4_init, cX4_init, 2, none, [])
abbrev mX4_keep : MT := (yX4_keep, cX4_keep, 3, none, [])
abbrev mX4_placeOf : MT := (yX4_placeOf, cX4_placeOf, 3, (some .int), [])
abbrev mX4_fillPool : MT := (yX4_fillPool, cX4_fillPool, 4, none, [])
abbrev mX4_write : MT := (yX4_write, cX4_write, 7, none, [])
abbrev mX4_read : MT := (yX4_read, cX4_read, 5, (some .long), [])
abbrev mX4_worthOfWave : MT := (yX4_worthOfWave, cX4_worthOfWave, 12, (some .long), [])
abbrev mX4_lookAtWave : MT := (yX4_lookAtWave, cX4_lookAtWave, 5, none, [])
abbrev mX4_worthOf : MT := (yX4_worthOf, cX4_worthOf, 8, (some .long), [])
abbrev mX4_leastToTake : MT := (yX4_leastToTake, cX4_leastToTake, 11, (some .int), [])
abbrev mX5_at : MT := (yX5_at, cX5_at, 2, (some .int), [])
abbrev mX6_clear : MT := (yX6_clear, cX6_clear, 1, none, [])
abbrev mX6_letterOf : MT := (yX6_letterOf, cX6_letterOf, 3, (some .int), [])
abbrev mX6_writeName : MT := (yX6_writeName, cX6_writeName, 4, none, [])
abbrev mX6_isNameOf : MT := (yX6_isNameOf, cX6_isNameOf, 4, (some .boolean), [])
abbrev mX6_addSurfer : MT := (yX6_addSurfer, cX6_addSurfer, 3, none, [])
abbrev mX6_addWave : MT := (yX6_addWave, cX6_addWave, 7, none, [])
abbrev mX7_init : MT := (yX7_init, cX7_init, 3, none, [])
abbrev mX7_isKept : MT := (yX7_isKept, cX7_isKept, 1, (some .boolean), [])
abbrev mX7_isNewName : MT := (yX7_isNewName, cX7_isNewName, 2, (some .boolean), [])
abbrev mX7_passSurfer : MT := (yX7_passSurfer, cX7_passSurfer, 3, (some .boolean), [])
abbrev mX7_passWays : MT := (yX7_passWays, cX7_passWays, 1, (some .int), [])
abbrev mX7_passWave : MT := (yX7_passWave, cX7_passWave, 7, (some .boolean), [])
abbrev mX7_passMinutes : MT := (yX7_passMinutes, cX7_passMinutes, 1, (some .boolean), [])
abbrev mX7_passAgain : MT := (yX7_passAgain, cX7_passAgain, 1, (some .boolean), [])
abbrev mX7_passLine : MT := (yX7_passLine, cX7_passLine, 1, (some .boolean), [])
abbrev mX7_readInto : MT := (yX7_readInto, cX7_readInto, 3, (some .int), [])
abbrev mX8_init : MT := (yX8_init, cX8_init, 2, none, [])
abbrev mX8_rankWith : MT := (yX8_rankWith, cX8_rankWith, 10, (some .int), [])
abbrev mX8_leastToLead : MT := (yX8_leastToLead, cX8_leastToLead, 3, (some .int), [])
abbrev mX9_lastPlace : MT := (yX9_lastPlace, cX9_lastPlace, 1, (some .int), [])
abbrev mX9_rideFact : MT := (yX9_rideFact, cX9_rideFact, 4, (some .int), [])
abbrev mX10_init : MT := (yX10_init, cX10_init, 1, none, [])
abbrev mX10_append : MT := (yX10_append, cX10_append, 3, none, [])
abbrev mX11_init : MT := (yX11_init, cX11_init, 1, none, [])
abbrev mX11_feed : MT := (yX11_feed, cX11_feed, 6, (some .int), [])
abbrev mX11_end : MT := (yX11_end, cX11_end, 2, (some .boolean), [])
abbrev mX11_sea : MT := (yX11_sea, cX11_sea, 2, (some .int), [])
abbrev mX11_judge : MT := (yX11_judge, cX11_judge, 2, (some .int), [])
abbrev mX11_fault : MT := (yX11_fault, cX11_fault, 1, (some .int), [])
abbrev mX11_anew : MT := (yX11_anew, cX11_anew, 1, (some .int), [])
abbrev mX11_comes : MT := (yX11_comes, cX11_comes, 1, (some .int), [])
abbrev mX11_mustBeWave : MT := (yX11_mustBeWave, cX11_mustBeWave, 2, none, [])
abbrev mX11_mustBeOneOf : MT := (yX11_mustBeOneOf, cX11_mustBeOneOf, 3, none, [])
abbrev mX11_wave : MT := (yX11_wave, cX11_wave, 3, (some .int), [])
abbrev mX11_mustBeSurfer : MT := (yX11_mustBeSurfer, cX11_mustBeSurfer, 2, none, [])
abbrev mX11_surfer : MT := (yX11_surfer, cX11_surfer, 4, (some .int), [])
abbrev mX11_name : MT := (yX11_name, cX11_name, 3, (some .int), [])
abbrev mX11_mustBePlace : MT := (yX11_mustBePlace, cX11_mustBePlace, 2, none, [])
abbrev mX11_goal : MT := (yX11_goal, cX11_goal, 5, (some .int), [])
abbrev mX11_row : MT := (yX11_row, cX11_row, 2, (some .int), [])
abbrev mX11_mustBeRide : MT := (yX11_mustBeRide, cX11_mustBeRide, 3, none, [])
abbrev mX11_take : MT := (yX11_take, cX11_take, 6, (some .int), [])
abbrev mX11_right : MT := (yX11_right, cX11_right, 3, (some .int), [])
abbrev mX11_hinders : MT := (yX11_hinders, cX11_hinders, 3, (some .int), [])
abbrev mX11_ride : MT := (yX11_ride, cX11_ride, 5, (some .int), [])
abbrev mX11_would : MT := (yX11_would, cX11_would, 6, (some .int), [])
abbrev mX11_ranked : MT := (yX11_ranked, cX11_ranked, 3, (some .int), [])
abbrev mX11_need : MT := (yX11_need, cX11_need, 2, (some .int), [])
abbrev mX11_best : MT := (yX11_best, cX11_best, 4, (some .int), [])
abbrev mX11_mustHaveTime : MT := (yX11_mustHaveTime, cX11_mustHaveTime, 3, none, [])
abbrev mX11_plan : MT := (yX11_plan, cX11_plan, 3, (some .int), [])
abbrev mX11_seen : MT := (yX11_seen, cX11_seen, 2, (some .int), [])
abbrev mX11_mustLookAhead : MT := (yX11_mustLookAhead, cX11_mustLookAhead, 4, none, [])
abbrev mX11_worth : MT := (yX11_worth, cX11_worth, 5, (some .long), [])
abbrev mX11_least : MT := (yX11_least, cX11_least, 5, (some .int), [])
abbrev mX11_took : MT := (yX11_took, cX11_took, 3, (some .int), [])
abbrev mX11_swim : MT := (yX11_swim, cX11_swim, 3, (some .int), [])
abbrev mX11_reach : MT := (yX11_reach, cX11_reach, 4, (some .int), [])
abbrev mX11_count : MT := (yX11_count, cX11_count, 2, (some .int), [])
abbrev mX12_init : MT := (yX12_init, cX12_init, 1, none, [])
abbrev mX12_thrown : MT := (yX12_thrown, cX12_thrown, 1, (some .int), [])
abbrev mX12_throwsIf : MT := (yX12_throwsIf, cX12_throwsIf, 3, (some .boolean), [])
abbrev mX12_in : MT := (yX12_in, cX12_in, 3, (some .boolean), [])
abbrev mX12_feed : MT := (yX12_feed, cX12_feed, 7, (some .int), [])
abbrev mX12_end : MT := (yX12_end, cX12_end, 2, (some .boolean), [])
abbrev mX12_begins : MT := (yX12_begins, cX12_begins, 1, none, [])
abbrev mX12_hasFailed : MT := (yX12_hasFailed, cX12_hasFailed, 1, (some .boolean), [])
abbrev mX12_isAt : MT := (yX12_isAt, cX12_isAt, 3, (some .boolean), [])
abbrev mX12_blanks : MT := (yX12_blanks, cX12_blanks, 1, none, [])
abbrev mX12_fails : MT := (yX12_fails, cX12_fails, 1, none, [])
abbrev mX12_isSign : MT := (yX12_isSign, cX12_isSign, 2, (some .boolean), [])
abbrev mX12_takes : MT := (yX12_takes, cX12_takes, 3, (some .boolean), [])
abbrev mX12_asksSign : MT := (yX12_asksSign, cX12_asksSign, 2, none, [])
abbrev mX12_wordMany : MT := (yX12_wordMany, cX12_wordMany, 2, (some .int), [])
abbrev mX12_isWord : MT := (yX12_isWord, cX12_isWord, 4, (some .boolean), [])
abbrev mX12_takesWord : MT := (yX12_takesWord, cX12_takesWord, 3, (some .boolean), [])
abbrev mX12_asksWord : MT := (yX12_asksWord, cX12_asksWord, 2, none, [])
abbrev mX12_isNumber : MT := (yX12_isNumber, cX12_isNumber, 1, (some .boolean), [])
abbrev mX12_number : MT := (yX12_number, cX12_number, 6, (some .int), [])
abbrev mX12_after : MT := (yX12_after, cX12_after, 4, (some .int), [])
abbrev mX12_fault : MT := (yX12_fault, cX12_fault, 1, (some .int), [])
abbrev mX12_isName : MT := (yX12_isName, cX12_isName, 2, (some .boolean), [])
abbrev mX12_isTold : MT := (yX12_isTold, cX12_isTold, 5, (some .boolean), [])
abbrev mX12_surferLine : MT := (yX12_surferLine, cX12_surferLine, 4, none, [])
abbrev mX12_waveLine : MT := (yX12_waveLine, cX12_waveLine, 3, none, [])
abbrev mX12_seaLine : MT := (yX12_seaLine, cX12_seaLine, 1, none, [])
abbrev mX12_surfers : MT := (yX12_surfers, cX12_surfers, 1, (some .int), [])
abbrev mX12_beginsHeat : MT := (yX12_beginsHeat, cX12_beginsHeat, 2, none, [])
abbrev mX12_sea : MT := (yX12_sea, cX12_sea, 2, (some .int), [])
abbrev mX12_codes : MT := (yX12_codes, cX12_codes, 2, none, [])
abbrev mX12_goesIn : MT := (yX12_goesIn, cX12_goesIn, 1, (some .boolean), [])
abbrev mX12_fact : MT := (yX12_fact, cX12_fact, 1, (some .int), [])
abbrev mX12_part : MT := (yX12_part, cX12_part, 2, none, [])
abbrev mX12_product : MT := (yX12_product, cX12_product, 3, none, [])
abbrev mX12_sum : MT := (yX12_sum, cX12_sum, 3, none, [])
abbrev mX12_atom : MT := (yX12_atom, cX12_atom, 2, none, [])
abbrev mX12_every : MT := (yX12_every, cX12_every, 2, none, [])
abbrev mX12_some : MT := (yX12_some, cX12_some, 2, none, [])
abbrev mX12_judgeLine : MT := (yX12_judgeLine, cX12_judgeLine, 3, none, [])
abbrev mX12_judge : MT := (yX12_judge, cX12_judge, 2, (some .int), [])
abbrev mX12_checked : MT := (yX12_checked, cX12_checked, 3, (some .long), [])
abbrev mX12_joined : MT := (yX12_joined, cX12_joined, 6, (some .long), [])
abbrev mX12_worked : MT := (yX12_worked, cX12_worked, 8, (some .long), [])
abbrev mX12_scored : MT := (yX12_scored, cX12_scored, 8, (some .int), [])
abbrev mX12_ofWave : MT := (yX12_ofWave, cX12_ofWave, 3, (some .int), [])
abbrev mX12_bestOf : MT := (yX12_bestOf, cX12_bestOf, 7, (some .int), [])
abbrev mX12_scoreBy : MT := (yX12_scoreBy, cX12_scoreBy, 6, (some .int), [])
abbrev mX12_isSentIn : MT := (yX12_isSentIn, cX12_isSentIn, 2, (some .boolean), [])
abbrev mX12_hasTaken : MT := (yX12_hasTaken, cX12_hasTaken, 2, (some .boolean), [])
abbrev mX12_anew : MT := (yX12_anew, cX12_anew, 1, (some .int), [])
abbrev mX12_inRow : MT := (yX12_inRow, cX12_inRow, 3, (some .int), [])
abbrev mX12_offPeak : MT := (yX12_offPeak, cX12_offPeak, 2, (some .int), [])
abbrev mX12_rightOf : MT := (yX12_rightOf, cX12_rightOf, 5, (some .int), [])
abbrev mX12_doMeet : MT := (yX12_doMeet, cX12_doMeet, 8, (some .boolean), [])
abbrev mX12_hindersBy : MT := (yX12_hindersBy, cX12_hindersBy, 6, (some .int), [])
abbrev mX12_hindersNow : MT := (yX12_hindersNow, cX12_hindersNow, 2, (some .int), [])
abbrev mX12_sees : MT := (yX12_sees, cX12_sees, 3, none, [])
abbrev mX12_judges : MT := (yX12_judges, cX12_judges, 5, none, [])
abbrev mX12_changesRow : MT := (yX12_changesRow, cX12_changesRow, 3, none, [])
abbrev mX12_goesBy : MT := (yX12_goesBy, cX12_goesBy, 2, none, [])
abbrev mX12_swims : MT := (yX12_swims, cX12_swims, 4, none, [])
abbrev mX12_comeBack : MT := (yX12_comeBack, cX12_comeBack, 3, none, [])
abbrev mX12_comes : MT := (yX12_comes, cX12_comes, 2, (some .int), [])
abbrev mX12_noSurfer : MT := (yX12_noSurfer, cX12_noSurfer, 2, (some .boolean), [])
abbrev mX12_wave : MT := (yX12_wave, cX12_wave, 3, (some .int), [])
abbrev mX12_totalOf : MT := (yX12_totalOf, cX12_totalOf, 2, (some .int), [])
abbrev mX12_rankOf : MT := (yX12_rankOf, cX12_rankOf, 8, (some .int), [])
abbrev mX12_rankNow : MT := (yX12_rankNow, cX12_rankNow, 2, (some .int), [])
abbrev mX12_surfer : MT := (yX12_surfer, cX12_surfer, 3, (some .int), [])
abbrev mX12_name : MT := (yX12_name, cX12_name, 4, (some .int), [])
abbrev mX12_goal : MT := (yX12_goal, cX12_goal, 4, (some .int), [])
abbrev mX12_row : MT := (yX12_row, cX12_row, 2, (some .int), [])
abbrev mX12_canRide : MT := (yX12_canRide, cX12_canRide, 8, (some .boolean), [])
abbrev mX12_take : MT := (yX12_take, cX12_take, 5, (some .int), [])
abbrev mX12_right : MT := (yX12_right, cX12_right, 3, (some .int), [])
abbrev mX12_hinders : MT := (yX12_hinders, cX12_hinders, 2, (some .int), [])
abbrev mX12_ride : MT := (yX12_ride, cX12_ride, 4, (some .int), [])
abbrev mX12_would : MT := (yX12_would, cX12_would, 7, (some .int), [])
abbrev mX12_ranked : MT := (yX12_ranked, cX12_ranked, 3, (some .int), [])
abbrev mX12_totalWith : MT := (yX12_totalWith, cX12_totalWith, 7, (some .int), [])
abbrev mX12_need : MT := (yX12_need, cX12_need, 3, (some .int), [])
abbrev mX12_laysBest : MT := (yX12_laysBest, cX12_laysBest, 7, none, [])
abbrev mX12_best : MT := (yX12_best, cX12_best, 3, (some .int), [])
abbrev mX12_totalBy : MT := (yX12_totalBy, cX12_totalBy, 8, (some .int), [])
abbrev mX12_plan : MT := (yX12_plan, cX12_plan, 8, (some .int), [])
abbrev mX12_took : MT := (yX12_took, cX12_took, 10, (some .int), [])
abbrev mX12_isAway : MT := (yX12_isAway, cX12_isAway, 2, (some .boolean), [])
abbrev mX12_swimsTo : MT := (yX12_swimsTo, cX12_swimsTo, 3, (some .int), [])
abbrev mX12_swim : MT := (yX12_swim, cX12_swim, 3, (some .int), [])
abbrev mX12_reach : MT := (yX12_reach, cX12_reach, 8, (some .int), [])
abbrev mX12_seen : MT := (yX12_seen, cX12_seen, 2, (some .int), [])
abbrev mX12_worthOf : MT := (yX12_worthOf, cX12_worthOf, 13, (some .long), [])
abbrev mX12_worth : MT := (yX12_worth, cX12_worth, 4, (some .long), [])
abbrev mX12_least : MT := (yX12_least, cX12_least, 11, (some .int), [])
abbrev mX12_count : MT := (yX12_count, cX12_count, 4, (some .int), [])
abbrev mJ9_abs_0f7a4 : MT := (yJ9_abs_0f7a4, cJ9_abs_0f7a4, 1, (some .int), [])
abbrev mJ9_max_7cf53 : MT := (yJ9_max_7cf53, cJ9_max_7cf53, 2, (some .int), [])
abbrev mJ9_max_f86c9 : MT := (yJ9_max_f86c9, cJ9_max_f86c9, 4, (some .long), [])
abbrev mJ9_min_7cf53 : MT := (yJ9_min_7cf53, cJ9_min_7cf53, 2, (some .int), [])
abbrev mJ9_min_f86c9 : MT := (yJ9_min_f86c9, cJ9_min_f86c9, 4, (some .long), [])
abbrev mL_sea : MT := (yL_sea, cL_sea, 3, (some .int), [(0, 8, 11, 13)])
abbrev mL_judge : MT := (yL_judge, cL_judge, 3, (some .int), [(0, 8, 11, 13)])
abbrev mL_anew : MT := (yL_anew, cL_anew, 3, (some .int), [(0, 8, 11, 21)])
abbrev mL_wave : MT := (yL_wave, cL_wave, 5, (some .int), [(0, 10, 13, 27), (0, 10, 17, 29)])
abbrev mL_surfer : MT := (yL_surfer, cL_surfer, 5, (some .int), [(0, 10, 13, 27), (0, 10, 17, 29)])
abbrev mL_name : MT := (yL_name, cL_name, 5, (some .int), [(0, 10, 13, 27)])
abbrev mL_goal : MT := (yL_goal, cL_goal, 5, (some .int), [(0, 10, 13, 27), (0, 10, 17, 13), (0, 10, 21, 21)])
abbrev mL_take : MT := (yL_take, cL_take, 7, (some .int), [(0, 14, 17, 27), (0, 14, 21, 13), (0, 14, 25, 21)])
abbrev mL_right : MT := (yL_right, cL_right, 5, (some .int), [(0, 10, 13, 27), (0, 10, 17, 13), (0, 10, 21, 21)])
abbrev mL_hinders : MT := (yL_hinders, cL_hinders, 4, (some .int), [(0, 9, 12, 27)])
abbrev mL_ride : MT := (yL_ride, cL_ride, 6, (some .int), [(0, 12, 15, 27), (0, 12, 19, 29)])
abbrev mL_would : MT := (yL_would, cL_would, 8, (some .int), [(0, 16, 19, 27), (0, 16, 23, 13)])
abbrev mL_ranked : MT := (yL_ranked, cL_ranked, 4, (some .int), [(0, 9, 12, 29)])
abbrev mL_need : MT := (yL_need, cL_need, 4, (some .int), [(0, 9, 12, 27)])
abbrev mL_best : MT := (yL_best, cL_best, 5, (some .int), [(0, 10, 13, 27), (0, 10, 17, 29), (0, 10, 21, 21)])
abbrev mL_plan : MT := (yL_plan, cL_plan, 5, (some .int), [(0, 10, 13, 27), (0, 10, 17, 29), (0, 10, 21, 21)])
abbrev mL_worth : MT := (yL_worth, cL_worth, 6, (some .int), [(0, 11, 14, 27), (0, 11, 18, 13), (0, 11, 22, 21)])
abbrev mL_least : MT := (yL_least, cL_least, 6, (some .int), [(0, 12, 15, 27), (0, 12, 19, 13), (0, 12, 23, 21)])
abbrev mL_took : MT := (yL_took, cL_took, 5, (some .int), [(0, 10, 13, 27), (0, 10, 17, 29)])
abbrev mL_swim : MT := (yL_swim, cL_swim, 5, (some .int), [(0, 10, 13, 27), (0, 10, 17, 13), (0, 10, 21, 21)])
abbrev mL_reach : MT := (yL_reach, cL_reach, 6, (some .int), [(0, 12, 15, 27), (0, 12, 19, 29), (0, 12, 23, 21)])
theorem wN_WaveRightLaw : Cond.initialized "WaveRightLaw" ∈ WT := wt_c1 0 (by decide +kernel) rfl
theorem wN_WaveRight : Cond.initialized "WaveRight" ∈ WT := wt_c1 1 (by decide +kernel) rfl
theorem wN_WaveRight_Sea : Cond.initialized "WaveRight$Sea" ∈ WT := wt_c1 2 (by decide +kernel) rfl
theorem wN_WaveRight_Judge : Cond.initialized "WaveRight$Judge" ∈ WT := wt_c1 3 (by decide +kernel) rfl
theorem wN_WaveRight_Text : Cond.initialized "WaveRight$Text" ∈ WT := wt_c1 4 (by decide +kernel) rfl
theorem wN_WaveRight_SeaReader : Cond.initialized "WaveRight$SeaReader" ∈ WT := wt_c1 5 (by decide +kernel) rfl
theorem wN_WaveRight_JudgeReader : Cond.initialized "WaveRight$JudgeReader" ∈ WT := wt_c1 6 (by decide +kernel) rfl
theorem wN_WaveRight_Heat : Cond.initialized "WaveRight$Heat" ∈ WT := wt_c1 7 (by decide +kernel) rfl
theorem wN_WaveRight_Row : Cond.initialized "WaveRight$Row" ∈ WT := wt_c1 8 (by decide +kernel) rfl
theorem wN_WaveRight_Swimmer : Cond.initialized "WaveRight$Swimmer" ∈ WT := wt_c1 9 (by decide +kernel) rfl
theorem wN_WaveRight_Standing : Cond.initialized "WaveRight$Standing" ∈ WT := wt_c1 10 (by decide +kernel) rfl
theorem wN_WaveRight_Advice : Cond.initialized "WaveRight$Advice" ∈ WT := wt_c1 11 (by decide +kernel) rfl
theorem wN_WaveRight_Looking : Cond.initialized "WaveRight$Looking" ∈ WT := wt_c1 12 (by decide +kernel) rfl
theorem wN_WaveRightModel : Cond.initialized "WaveRightModel" ∈ WT := wt_c1 13 (by decide +kernel) rfl
theorem wN_java_lang_String : Cond.initialized "java/lang/String" ∈ WT := wt_c1 14 (by decide +kernel) rfl
theorem wN_java_lang_StringLatin1 : Cond.initialized "java/lang/StringLatin1" ∈ WT := wt_c1 15 (by decide +kernel) rfl
theorem wN_jdk_internal_util_Preconditions : Cond.initialized "jdk/internal/util/Preconditions" ∈ WT := wt_c1 16 (by decide +kernel) rfl
theorem wN_java_lang_StringUTF16 : Cond.initialized "java/lang/StringUTF16" ∈ WT := wt_c1 17 (by decide +kernel) rfl
theorem wN_java_lang_Throwable : Cond.initialized "java/lang/Throwable" ∈ WT := wt_c1 18 (by decide +kernel) rfl
theorem wN_java_lang_Exception : Cond.initialized "java/lang/Exception" ∈ WT := wt_c1 19 (by decide +kernel) rfl
theorem wN_java_lang_RuntimeException : Cond.initialized "java/lang/RuntimeException" ∈ WT := wt_c1 20 (by decide +kernel) rfl
theorem wN_java_lang_IllegalArgumentException : Cond.initialized "java/lang/IllegalArgumentException" ∈ WT := wt_c1 21 (by decide +kernel) rfl
theorem wN_java_lang_IllegalStateException : Cond.initialized "java/lang/IllegalStateException" ∈ WT := wt_c1 22 (by decide +kernel) rfl
theorem wN_java_lang_Math : Cond.initialized "java/lang/Math" ∈ WT := wt_c1 23 (by decide +kernel) rfl
theorem wN_java_lang_IndexOutOfBoundsException : Cond.initialized "java/lang/IndexOutOfBoundsException" ∈ WT := wt_c1 24 (by decide +kernel) rfl
theorem wN_java_util_NoSuchElementException : Cond.initialized "java/util/NoSuchElementException" ∈ WT := wt_c1 25 (by decide +kernel) rfl
theorem wL_L_8 : Cond.classLink RL 8 "WaveRight" ∈ WT := wt_c1 26 (by decide +kernel) rfl
theorem wA_WaveRight : Cond.instantiable "WaveRight" 10 ∈ WT := wt_c1 27 (by decide +kernel) rfl
theorem wM_L_87 : Cond.methodLink RL 87 yX11_init ∈ WT := wt_c1 28 (by decide +kernel) rfl
theorem wI_X11_init : Cond.instanceMethod yX11_init ∈ WT := wt_c1 29 (by decide +kernel) rfl
set_option maxRecDepth 100000 in
theorem wC_X11_init : aCode mX11_init ∈ WT := wt_c1 30 rfl rfl
theorem wM_X11_1 : Cond.methodLink RX11 1 ⟨"java/lang/Object", "<init>", "()V"⟩ ∈ WT := wt_c1 31 (by decide +kernel) rfl
theorem wL_X11_7 : Cond.classLink RX11 7 "WaveRight$Sea" ∈ WT := wt_c1 34 (by decide +kernel) rfl
theorem wA_WaveRight_Sea : Cond.instantiable "WaveRight$Sea" 9 ∈ WT := wt_c1 35 (by decide +kernel) rfl
theorem wI_X6_init : Cond.instanceMethod yX6_init ∈ WT := wt_c1 37 (by decide +kernel) rfl
set_option maxRecDepth 100000 in
theorem wC_X6_init : aCode mX6_init ∈ WT := wt_c1 38 rfl rfl
theorem wM_X6_3 : Cond.methodLink RX6 3 ⟨"java/lang/Object", "<init>", "()V"⟩ ∈ WT := wt_c1 39 (by decide +kernel) rfl
theorem wF_X6_9 : Cond.fieldLink RX6 9 "WaveRight$Sea" "letters" "[I" ∈ WT := wt_c1 40 (by decide +kernel) rfl
theorem wF_X6_15 : Cond.fieldLink RX6 15 "WaveRight$Sea" "letterCounts" "[I" ∈ WT := wt_c1 41 (by decide +kernel) rfl
theorem wF_X6_18 : Cond.fieldLink RX6 18 "WaveRight$Sea" "places" "[I" ∈ WT := wt_c1 42 (by decide +kernel) rfl
theorem wF_X1_59 : Cond.fieldLink RX1 59 "WaveRight$Sea" "places" "[I" ∈ WT := wt_c1 43 (by decide +kernel) rfl
theorem wF_X6_21 : Cond.fieldLink RX6 21 "WaveRight$Sea" "speeds" "[I" ∈ WT := wt_c1 44 (by decide +kernel) rfl
theorem wF_X1_62 : Cond.fieldLink RX1 62 "WaveRight$Sea" "speeds" "[I" ∈ WT := wt_c1 45 (by decide +kernel) rfl
theorem wF_X6_24 : Cond.fieldLink RX6 24 "WaveRight$Sea" "facts" "[I" ∈ WT := wt_c1 46 (by decide +kernel) rfl
theorem wF_X6_31 : Cond.fieldLink RX6 31 "WaveRight$Sea" "surfers" "I" ∈ WT := wt_c1 47 (by decide +kernel) rfl
theorem wF_X1_56 : Cond.fieldLink RX1 56 "WaveRight$Sea" "surfers" "I" ∈ WT := wt_c1 48 (by decide +kernel) rfl
theorem wF_X7_51 : Cond.fieldLink RX7 51 "WaveRight$Sea" "surfers" "I" ∈ WT := wt_c1 49 (by decide +kernel) rfl
theorem wF_X8_46 : Cond.fieldLink RX8 46 "WaveRight$Sea" "surfers" "I" ∈ WT := wt_c1 50 (by decide +kernel) rfl
theorem wF_X11_122 : Cond.fieldLink RX11 122 "WaveRight$Sea" "surfers" "I" ∈ WT := wt_c1 51 (by decide +kernel) rfl
theorem wF_X6_34 : Cond.fieldLink RX6 34 "WaveRight$Sea" "waves" "I" ∈ WT := wt_c1 52 (by decide +kernel) rfl
theorem wF_X1_99 : Cond.fieldLink RX1 99 "WaveRight$Sea" "waves" "I" ∈ WT := wt_c1 53 (by decide +kernel) rfl
theorem wF_X0_90 : Cond.fieldLink RX0 90 "WaveRight$Sea" "waves" "I" ∈ WT := wt_c1 54 (by decide +kernel) rfl
theorem wF_X11_108 : Cond.fieldLink RX11 108 "WaveRight$Sea" "waves" "I" ∈ WT := wt_c1 55 (by decide +kernel) rfl
theorem wF_X7_128 : Cond.fieldLink RX7 128 "WaveRight$Sea" "waves" "I" ∈ WT := wt_c1 56 (by decide +kernel) rfl
theorem wF_X6_27 : Cond.fieldLink RX6 27 "WaveRight$Sea" "minutes" "I" ∈ WT := wt_c1 57 (by decide +kernel) rfl
theorem wF_X1_109 : Cond.fieldLink RX1 109 "WaveRight$Sea" "minutes" "I" ∈ WT := wt_c1 58 (by decide +kernel) rfl
theorem wF_X0_104 : Cond.fieldLink RX0 104 "WaveRight$Sea" "minutes" "I" ∈ WT := wt_c1 59 (by decide +kernel) rfl
theorem wF_X7_123 : Cond.fieldLink RX7 123 "WaveRight$Sea" "minutes" "I" ∈ WT := wt_c1 60 (by decide +kernel) rfl
theorem wF_X11_337 : Cond.fieldLink RX11 337 "WaveRight$Sea" "minutes" "I" ∈ WT := wt_c1 61 (by decide +kernel) rfl
theorem wF_X6_37 : Cond.fieldLink RX6 37 "WaveRight$Sea" "again" "I" ∈ WT := wt_c1 62 (by decide +kernel) rfl
theorem wF_X1_115 : Cond.fieldLink RX1 115 "WaveRight$Sea" "again" "I" ∈ WT := wt_c1 63 (by decide +kernel) rfl
theorem wF_X7_126 : Cond.fieldLink RX7 126 "WaveRight$Sea" "again" "I" ∈ WT := wt_c1 64 (by decide +kernel) rfl
theorem wF_X11_340 : Cond.fieldLink RX11 340 "WaveRight$Sea" "again" "I" ∈ WT := wt_c1 65 (by decide +kernel) rfl
theorem wY_int : Cond.arrayClass .int ∈ WT := wt_c1 85 (by decide +kernel) rfl
theorem wL_X11_16 : Cond.classLink RX11 16 "WaveRight$Judge" ∈ WT := wt_c1 86 (by decide +kernel) rfl
theorem wA_WaveRight_Judge : Cond.instantiable "WaveRight$Judge" 12 ∈ WT := wt_c1 87 (by decide +kernel) rfl
theorem wI_X2_init : Cond.instanceMethod yX2_init ∈ WT := wt_c1 89 (by decide +kernel) rfl
set_option maxRecDepth 100000 in
theorem wC_X2_init : aCode mX2_init ∈ WT := wt_c1 90 rfl rfl
theorem wM_X2_3 : Cond.methodLink RX2 3 ⟨"java/lang/Object", "<init>", "()V"⟩ ∈ WT := wt_c1 91 (by decide +kernel) rfl
theorem wF_X2_9 : Cond.fieldLink RX2 9 "WaveRight$Judge" "kinds" "[I" ∈ WT := wt_c1 92 (by decide +kernel) rfl
theorem wF_X2_15 : Cond.fieldLink RX2 15 "WaveRight$Judge" "values" "[I" ∈ WT := wt_c1 93 (by decide +kernel) rfl
theorem wF_X2_34 : Cond.fieldLink RX2 34 "WaveRight$Judge" "steps" "I" ∈ WT := wt_c1 94 (by decide +kernel) rfl
theorem wF_X2_18 : Cond.fieldLink RX2 18 "WaveRight$Judge" "adds" "[Z" ∈ WT := wt_c1 95 (by decide +kernel) rfl
theorem wF_X2_22 : Cond.fieldLink RX2 22 "WaveRight$Judge" "lineBegins" "[I" ∈ WT := wt_c1 96 (by decide +kernel) rfl
theorem wF_X2_25 : Cond.fieldLink RX2 25 "WaveRight$Judge" "sumEnds" "[I" ∈ WT := wt_c1 97 (by decide +kernel) rfl
theorem wF_X2_38 : Cond.fieldLink RX2 38 "WaveRight$Judge" "lines" "I" ∈ WT := wt_c1 98 (by decide +kernel) rfl
theorem wF_X3_52 : Cond.fieldLink RX3 52 "WaveRight$Judge" "lines" "I" ∈ WT := wt_c1 99 (by decide +kernel) rfl
theorem wF_X11_119 : Cond.fieldLink RX11 119 "WaveRight$Judge" "lines" "I" ∈ WT := wt_c1 100 (by decide +kernel) rfl
theorem wF_X1_180 : Cond.fieldLink RX1 180 "WaveRight$Judge" "lines" "I" ∈ WT := wt_c1 101 (by decide +kernel) rfl
theorem wF_X2_28 : Cond.fieldLink RX2 28 "WaveRight$Judge" "facts" "[I" ∈ WT := wt_c1 102 (by decide +kernel) rfl
theorem wF_X1_183 : Cond.fieldLink RX1 183 "WaveRight$Judge" "facts" "[I" ∈ WT := wt_c1 103 (by decide +kernel) rfl
theorem wF_X2_31 : Cond.fieldLink RX2 31 "WaveRight$Judge" "stack" "[I" ∈ WT := wt_c1 104 (by decide +kernel) rfl
theorem wF_X2_44 : Cond.fieldLink RX2 44 "WaveRight$Judge" "height" "I" ∈ WT := wt_c1 105 (by decide +kernel) rfl
theorem wF_X2_47 : Cond.fieldLink RX2 47 "WaveRight$Judge" "flag" "Z" ∈ WT := wt_c1 106 (by decide +kernel) rfl
theorem wF_X2_41 : Cond.fieldLink RX2 41 "WaveRight$Judge" "trouble" "I" ∈ WT := wt_c1 107 (by decide +kernel) rfl
theorem wY_boolean : Cond.arrayClass .boolean ∈ WT := wt_c1 133 (by decide +kernel) rfl
theorem wL_X11_23 : Cond.classLink RX11 23 "WaveRight$Text" ∈ WT := wt_c1 134 (by decide +kernel) rfl
theorem wA_WaveRight_Text : Cond.instantiable "WaveRight$Text" 6 ∈ WT := wt_c1 135 (by decide +kernel) rfl
theorem wI_X10_init : Cond.instanceMethod yX10_init ∈ WT := wt_c1 137 (by decide +kernel) rfl
set_option maxRecDepth 100000 in
theorem wC_X10_init : aCode mX10_init ∈ WT := wt_c1 138 rfl rfl
theorem wM_X10_3 : Cond.methodLink RX10 3 ⟨"java/lang/Object", "<init>", "()V"⟩ ∈ WT := wt_c1 139 (by decide +kernel) rfl
theorem wF_X10_9 : Cond.fieldLink RX10 9 "WaveRight$Text" "bytes" "[I" ∈ WT := wt_c1 140 (by decide +kernel) rfl
theorem wF_X6_51 : Cond.fieldLink RX6 51 "WaveRight$Text" "bytes" "[I" ∈ WT := wt_c1 141 (by decide +kernel) rfl
theorem wF_X11_84 : Cond.fieldLink RX11 84 "WaveRight$Text" "length" "I" ∈ WT := wt_c1 142 (by decide +kernel) rfl
theorem wF_X10_15 : Cond.fieldLink RX10 15 "WaveRight$Text" "length" "I" ∈ WT := wt_c1 143 (by decide +kernel) rfl
theorem wF_X6_48 : Cond.fieldLink RX6 48 "WaveRight$Text" "length" "I" ∈ WT := wt_c1 144 (by decide +kernel) rfl
theorem wF_X7_36 : Cond.fieldLink RX7 36 "WaveRight$Text" "kind" "I" ∈ WT := wt_c1 145 (by decide +kernel) rfl
theorem wF_X3_37 : Cond.fieldLink RX3 37 "WaveRight$Text" "kind" "I" ∈ WT := wt_c1 146 (by decide +kernel) rfl
theorem wF_X10_32 : Cond.fieldLink RX10 32 "WaveRight$Text" "kind" "I" ∈ WT := wt_c1 147 (by decide +kernel) rfl
theorem wF_X3_33 : Cond.fieldLink RX3 33 "WaveRight$Text" "begins" "I" ∈ WT := wt_c1 148 (by decide +kernel) rfl
theorem wF_X7_48 : Cond.fieldLink RX7 48 "WaveRight$Text" "begins" "I" ∈ WT := wt_c1 149 (by decide +kernel) rfl
theorem wF_X10_29 : Cond.fieldLink RX10 29 "WaveRight$Text" "begins" "I" ∈ WT := wt_c1 150 (by decide +kernel) rfl
theorem wF_X6_45 : Cond.fieldLink RX6 45 "WaveRight$Text" "begins" "I" ∈ WT := wt_c1 151 (by decide +kernel) rfl
theorem wF_X10_19 : Cond.fieldLink RX10 19 "WaveRight$Text" "ends" "I" ∈ WT := wt_c1 152 (by decide +kernel) rfl
theorem wF_X6_40 : Cond.fieldLink RX6 40 "WaveRight$Text" "ends" "I" ∈ WT := wt_c1 153 (by decide +kernel) rfl
theorem wF_X7_103 : Cond.fieldLink RX7 103 "WaveRight$Text" "ends" "I" ∈ WT := wt_c1 154 (by decide +kernel) rfl
theorem wF_X10_41 : Cond.fieldLink RX10 41 "WaveRight$Text" "number" "I" ∈ WT := wt_c1 155 (by decide +kernel) rfl
theorem wL_X11_30 : Cond.classLink RX11 30 "WaveRight$SeaReader" ∈ WT := wt_c1 169 (by decide +kernel) rfl
theorem wA_WaveRight_SeaReader : Cond.instantiable "WaveRight$SeaReader" 4 ∈ WT := wt_c1 170 (by decide +kernel) rfl
theorem wM_X11_32 : Cond.methodLink RX11 32 yX7_init ∈ WT := wt_c1 171 (by decide +kernel) rfl
theorem wI_X7_init : Cond.instanceMethod yX7_init ∈ WT := wt_c1 172 (by decide +kernel) rfl
set_option maxRecDepth 100000 in
theorem wC_X7_init : aCode mX7_init ∈ WT := wt_c1 173 rfl rfl
theorem wM_X7_3 : Cond.methodLink RX7 3 ⟨"java/lang/Object", "<init>", "()V"⟩ ∈ WT := wt_c1 174 (by decide +kernel) rfl
theorem wF_X7_9 : Cond.fieldLink RX7 9 "WaveRight$SeaReader" "text" "LWaveRight$Text;" ∈ WT := wt_c1 175 (by decide +kernel) rfl
theorem wF_X7_15 : Cond.fieldLink RX7 15 "WaveRight$SeaReader" "sea" "LWaveRight$Sea;" ∈ WT := wt_c1 176 (by decide +kernel) rfl
theorem wF_X7_24 : Cond.fieldLink RX7 24 "WaveRight$SeaReader" "minutesTold" "Z" ∈ WT := wt_c1 177 (by decide +kernel) rfl
theorem wF_X7_28 : Cond.fieldLink RX7 28 "WaveRight$SeaReader" "againTold" "Z" ∈ WT := wt_c1 178 (by decide +kernel) rfl
theorem wL_X11_39 : Cond.classLink RX11 39 "WaveRight$JudgeReader" ∈ WT := wt_c1 188 (by decide +kernel) rfl
theorem wA_WaveRight_JudgeReader : Cond.instantiable "WaveRight$JudgeReader" 2 ∈ WT := wt_c1 189 (by decide +kernel) rfl
theorem wM_X11_41 : Cond.methodLink RX11 41 yX3_init ∈ WT := wt_c1 190 (by decide +kernel) rfl
theorem wI_X3_init : Cond.instanceMethod yX3_init ∈ WT := wt_c1 191 (by decide +kernel) rfl
set_option maxRecDepth 100000 in
theorem wC_X3_init : aCode mX3_init ∈ WT := wt_c1 192 rfl rfl
theorem wM_X3_3 : Cond.methodLink RX3 3 ⟨"java/lang/Object", "<init>", "()V"⟩ ∈ WT := wt_c1 193 (by decide +kernel) rfl
theorem wF_X3_9 : Cond.fieldLink RX3 9 "WaveRight$JudgeReader" "text" "LWaveRight$Text;" ∈ WT := wt_c1 194 (by decide +kernel) rfl
theorem wF_X3_15 : Cond.fieldLink RX3 15 "WaveRight$JudgeReader" "judge" "LWaveRight$Judge;" ∈ WT := wt_c1 195 (by decide +kernel) rfl
theorem wL_X11_52 : Cond.classLink RX11 52 "WaveRight$Heat" ∈ WT := wt_c1 201 (by decide +kernel) rfl
theorem wA_WaveRight_Heat : Cond.instantiable "WaveRight$Heat" 16 ∈ WT := wt_c1 202 (by decide +kernel) rfl
theorem wM_X11_54 : Cond.methodLink RX11 54 yX1_init ∈ WT := wt_c1 203 (by decide +kernel) rfl
theorem wI_X1_init : Cond.instanceMethod yX1_init ∈ WT := wt_c1 204 (by decide +kernel) rfl
set_option maxRecDepth 100000 in
theorem wC_X1_init : aCode mX1_init ∈ WT := wt_c1 205 rfl rfl
theorem wM_X1_3 : Cond.methodLink RX1 3 ⟨"java/lang/Object", "<init>", "()V"⟩ ∈ WT := wt_c1 206 (by decide +kernel) rfl
theorem wL_X1_9 : Cond.classLink RX1 9 "WaveRight$Sea" ∈ WT := wt_c1 207 (by decide +kernel) rfl
theorem wL_X1_18 : Cond.classLink RX1 18 "WaveRight$Judge" ∈ WT := wt_c1 209 (by decide +kernel) rfl
theorem wL_X1_25 : Cond.classLink RX1 25 "WaveRight$Swimmer" ∈ WT := wt_c1 211 (by decide +kernel) rfl
theorem wL_X1_31 : Cond.classLink RX1 31 "WaveRight$Row" ∈ WT := wt_c1 213 (by decide +kernel) rfl
theorem wA_WaveRight_Row : Cond.instantiable "WaveRight$Row" 3 ∈ WT := wt_c1 214 (by decide +kernel) rfl
theorem wI_X5_init : Cond.instanceMethod yX5_init ∈ WT := wt_c1 216 (by decide +kernel) rfl
set_option maxRecDepth 100000 in
theorem wC_X5_init : aCode mX5_init ∈ WT := wt_c1 217 rfl rfl
theorem wM_X5_3 : Cond.methodLink RX5 3 ⟨"java/lang/Object", "<init>", "()V"⟩ ∈ WT := wt_c1 218 (by decide +kernel) rfl
theorem wF_X5_9 : Cond.fieldLink RX5 9 "WaveRight$Row" "numbers" "[I" ∈ WT := wt_c1 219 (by decide +kernel) rfl
theorem wF_X5_15 : Cond.fieldLink RX5 15 "WaveRight$Row" "many" "I" ∈ WT := wt_c1 220 (by decide +kernel) rfl
theorem wF_X5_19 : Cond.fieldLink RX5 19 "WaveRight$Row" "told" "Z" ∈ WT := wt_c1 221 (by decide +kernel) rfl
theorem wF_X1_141 : Cond.fieldLink RX1 141 "WaveRight$Row" "told" "Z" ∈ WT := wt_c1 222 (by decide +kernel) rfl
theorem wF_X11_343 : Cond.fieldLink RX11 343 "WaveRight$Row" "told" "Z" ∈ WT := wt_c1 223 (by decide +kernel) rfl
theorem wA_WaveRight_Swimmer : Cond.instantiable "WaveRight$Swimmer" 15 ∈ WT := wt_c1 231 (by decide +kernel) rfl
theorem wM_X1_53 : Cond.methodLink RX1 53 yX9_init ∈ WT := wt_c1 232 (by decide +kernel) rfl
theorem wI_X9_init : Cond.instanceMethod yX9_init ∈ WT := wt_c1 233 (by decide +kernel) rfl
set_option maxRecDepth 100000 in
theorem wC_X9_init : aCode mX9_init ∈ WT := wt_c1 234 rfl rfl
theorem wM_X9_3 : Cond.methodLink RX9 3 ⟨"java/lang/Object", "<init>", "()V"⟩ ∈ WT := wt_c1 235 (by decide +kernel) rfl
theorem wF_X9_22 : Cond.fieldLink RX9 22 "WaveRight$Swimmer" "number" "I" ∈ WT := wt_c1 236 (by decide +kernel) rfl
theorem wF_X8_55 : Cond.fieldLink RX8 55 "WaveRight$Swimmer" "number" "I" ∈ WT := wt_c1 237 (by decide +kernel) rfl
theorem wF_X1_144 : Cond.fieldLink RX1 144 "WaveRight$Swimmer" "number" "I" ∈ WT := wt_c1 238 (by decide +kernel) rfl
theorem wF_X9_11 : Cond.fieldLink RX9 11 "WaveRight$Swimmer" "rides" "[I" ∈ WT := wt_c1 239 (by decide +kernel) rfl
theorem wF_X9_41 : Cond.fieldLink RX9 41 "WaveRight$Swimmer" "rideCount" "I" ∈ WT := wt_c2 0 (by decide +kernel) rfl
theorem wF_X11_173 : Cond.fieldLink RX11 173 "WaveRight$Swimmer" "rideCount" "I" ∈ WT := wt_c2 1 (by decide +kernel) rfl
theorem wF_X1_186 : Cond.fieldLink RX1 186 "WaveRight$Swimmer" "rideCount" "I" ∈ WT := wt_c2 2 (by decide +kernel) rfl
theorem wF_X9_25 : Cond.fieldLink RX9 25 "WaveRight$Swimmer" "place" "I" ∈ WT := wt_c2 3 (by decide +kernel) rfl
theorem wF_X0_36 : Cond.fieldLink RX0 36 "WaveRight$Swimmer" "place" "I" ∈ WT := wt_c2 4 (by decide +kernel) rfl
theorem wF_X1_135 : Cond.fieldLink RX1 135 "WaveRight$Swimmer" "place" "I" ∈ WT := wt_c2 5 (by decide +kernel) rfl
theorem wF_X11_152 : Cond.fieldLink RX11 152 "WaveRight$Swimmer" "place" "I" ∈ WT := wt_c2 6 (by decide +kernel) rfl
theorem wF_X9_28 : Cond.fieldLink RX9 28 "WaveRight$Swimmer" "aim" "I" ∈ WT := wt_c2 7 (by decide +kernel) rfl
theorem wF_X1_138 : Cond.fieldLink RX1 138 "WaveRight$Swimmer" "aim" "I" ∈ WT := wt_c2 8 (by decide +kernel) rfl
theorem wF_X11_164 : Cond.fieldLink RX11 164 "WaveRight$Swimmer" "aim" "I" ∈ WT := wt_c2 9 (by decide +kernel) rfl
theorem wF_X9_15 : Cond.fieldLink RX9 15 "WaveRight$Swimmer" "swims" "I" ∈ WT := wt_c2 10 (by decide +kernel) rfl
theorem wF_X11_157 : Cond.fieldLink RX11 157 "WaveRight$Swimmer" "swims" "I" ∈ WT := wt_c2 11 (by decide +kernel) rfl
theorem wF_X9_31 : Cond.fieldLink RX9 31 "WaveRight$Swimmer" "out" "Z" ∈ WT := wt_c2 12 (by decide +kernel) rfl
theorem wF_X1_118 : Cond.fieldLink RX1 118 "WaveRight$Swimmer" "out" "Z" ∈ WT := wt_c2 13 (by decide +kernel) rfl
theorem wF_X0_107 : Cond.fieldLink RX0 107 "WaveRight$Swimmer" "out" "Z" ∈ WT := wt_c2 14 (by decide +kernel) rfl
theorem wF_X11_160 : Cond.fieldLink RX11 160 "WaveRight$Swimmer" "out" "Z" ∈ WT := wt_c2 15 (by decide +kernel) rfl
theorem wF_X9_35 : Cond.fieldLink RX9 35 "WaveRight$Swimmer" "onWave" "Z" ∈ WT := wt_c2 16 (by decide +kernel) rfl
theorem wF_X1_150 : Cond.fieldLink RX1 150 "WaveRight$Swimmer" "onWave" "Z" ∈ WT := wt_c2 17 (by decide +kernel) rfl
theorem wF_X11_236 : Cond.fieldLink RX11 236 "WaveRight$Swimmer" "onWave" "Z" ∈ WT := wt_c2 18 (by decide +kernel) rfl
theorem wF_X9_19 : Cond.fieldLink RX9 19 "WaveRight$Swimmer" "back" "I" ∈ WT := wt_c2 19 (by decide +kernel) rfl
theorem wF_X1_132 : Cond.fieldLink RX1 132 "WaveRight$Swimmer" "back" "I" ∈ WT := wt_c2 20 (by decide +kernel) rfl
theorem wF_X0_111 : Cond.fieldLink RX0 111 "WaveRight$Swimmer" "back" "I" ∈ WT := wt_c2 21 (by decide +kernel) rfl
theorem wF_X11_167 : Cond.fieldLink RX11 167 "WaveRight$Swimmer" "back" "I" ∈ WT := wt_c2 22 (by decide +kernel) rfl
theorem wF_X8_30 : Cond.fieldLink RX8 30 "WaveRight$Swimmer" "hinderings" "I" ∈ WT := wt_c2 23 (by decide +kernel) rfl
theorem wF_X9_38 : Cond.fieldLink RX9 38 "WaveRight$Swimmer" "hinderings" "I" ∈ WT := wt_c2 24 (by decide +kernel) rfl
theorem wF_X11_170 : Cond.fieldLink RX11 170 "WaveRight$Swimmer" "hinderings" "I" ∈ WT := wt_c2 25 (by decide +kernel) rfl
theorem wF_X1_224 : Cond.fieldLink RX1 224 "WaveRight$Swimmer" "hinderings" "I" ∈ WT := wt_c2 26 (by decide +kernel) rfl
theorem wF_X8_24 : Cond.fieldLink RX8 24 "WaveRight$Swimmer" "first" "I" ∈ WT := wt_c2 27 (by decide +kernel) rfl
theorem wF_X9_44 : Cond.fieldLink RX9 44 "WaveRight$Swimmer" "first" "I" ∈ WT := wt_c2 28 (by decide +kernel) rfl
theorem wF_X11_184 : Cond.fieldLink RX11 184 "WaveRight$Swimmer" "first" "I" ∈ WT := wt_c2 29 (by decide +kernel) rfl
theorem wF_X1_189 : Cond.fieldLink RX1 189 "WaveRight$Swimmer" "first" "I" ∈ WT := wt_c2 30 (by decide +kernel) rfl
theorem wF_X9_47 : Cond.fieldLink RX9 47 "WaveRight$Swimmer" "second" "I" ∈ WT := wt_c2 31 (by decide +kernel) rfl
theorem wF_X8_33 : Cond.fieldLink RX8 33 "WaveRight$Swimmer" "second" "I" ∈ WT := wt_c2 32 (by decide +kernel) rfl
theorem wF_X11_187 : Cond.fieldLink RX11 187 "WaveRight$Swimmer" "second" "I" ∈ WT := wt_c2 33 (by decide +kernel) rfl
theorem wF_X9_50 : Cond.fieldLink RX9 50 "WaveRight$Swimmer" "way" "I" ∈ WT := wt_c2 34 (by decide +kernel) rfl
theorem wF_X1_153 : Cond.fieldLink RX1 153 "WaveRight$Swimmer" "way" "I" ∈ WT := wt_c2 35 (by decide +kernel) rfl
theorem wF_X11_239 : Cond.fieldLink RX11 239 "WaveRight$Swimmer" "way" "I" ∈ WT := wt_c2 36 (by decide +kernel) rfl
theorem wF_X9_53 : Cond.fieldLink RX9 53 "WaveRight$Swimmer" "length" "I" ∈ WT := wt_c2 37 (by decide +kernel) rfl
theorem wF_X1_156 : Cond.fieldLink RX1 156 "WaveRight$Swimmer" "length" "I" ∈ WT := wt_c2 38 (by decide +kernel) rfl
theorem wF_X11_242 : Cond.fieldLink RX11 242 "WaveRight$Swimmer" "length" "I" ∈ WT := wt_c2 39 (by decide +kernel) rfl
theorem wF_X9_66 : Cond.fieldLink RX9 66 "WaveRight$Swimmer" "turns" "I" ∈ WT := wt_c2 40 (by decide +kernel) rfl
theorem wF_X1_159 : Cond.fieldLink RX1 159 "WaveRight$Swimmer" "turns" "I" ∈ WT := wt_c2 41 (by decide +kernel) rfl
theorem wF_X1_12 : Cond.fieldLink RX1 12 "WaveRight$Heat" "sea" "LWaveRight$Sea;" ∈ WT := wt_c2 73 (by decide +kernel) rfl
theorem wF_X8_40 : Cond.fieldLink RX8 40 "WaveRight$Heat" "sea" "LWaveRight$Sea;" ∈ WT := wt_c2 74 (by decide +kernel) rfl
theorem wF_X0_86 : Cond.fieldLink RX0 86 "WaveRight$Heat" "sea" "LWaveRight$Sea;" ∈ WT := wt_c2 75 (by decide +kernel) rfl
theorem wF_X11_102 : Cond.fieldLink RX11 102 "WaveRight$Heat" "sea" "LWaveRight$Sea;" ∈ WT := wt_c2 76 (by decide +kernel) rfl
theorem wF_X1_21 : Cond.fieldLink RX1 21 "WaveRight$Heat" "judge" "LWaveRight$Judge;" ∈ WT := wt_c2 77 (by decide +kernel) rfl
theorem wF_X11_116 : Cond.fieldLink RX11 116 "WaveRight$Heat" "judge" "LWaveRight$Judge;" ∈ WT := wt_c2 78 (by decide +kernel) rfl
theorem wF_X1_27 : Cond.fieldLink RX1 27 "WaveRight$Heat" "swimmers" "[LWaveRight$Swimmer;" ∈ WT := wt_c2 79 (by decide +kernel) rfl
theorem wF_X8_51 : Cond.fieldLink RX8 51 "WaveRight$Heat" "swimmers" "[LWaveRight$Swimmer;" ∈ WT := wt_c2 80 (by decide +kernel) rfl
theorem wF_X11_148 : Cond.fieldLink RX11 148 "WaveRight$Heat" "swimmers" "[LWaveRight$Swimmer;" ∈ WT := wt_c2 81 (by decide +kernel) rfl
theorem wF_X1_34 : Cond.fieldLink RX1 34 "WaveRight$Heat" "line" "LWaveRight$Row;" ∈ WT := wt_c2 82 (by decide +kernel) rfl
theorem wF_X11_198 : Cond.fieldLink RX11 198 "WaveRight$Heat" "line" "LWaveRight$Row;" ∈ WT := wt_c2 83 (by decide +kernel) rfl
theorem wF_X1_38 : Cond.fieldLink RX1 38 "WaveRight$Heat" "gone" "[I" ∈ WT := wt_c2 84 (by decide +kernel) rfl
theorem wF_X11_320 : Cond.fieldLink RX11 320 "WaveRight$Heat" "gone" "[I" ∈ WT := wt_c2 85 (by decide +kernel) rfl
theorem wF_X1_42 : Cond.fieldLink RX1 42 "WaveRight$Heat" "latest" "[I" ∈ WT := wt_c2 86 (by decide +kernel) rfl
theorem wF_X4_71 : Cond.fieldLink RX4 71 "WaveRight$Heat" "latest" "[I" ∈ WT := wt_c2 87 (by decide +kernel) rfl
theorem wF_X11_299 : Cond.fieldLink RX11 299 "WaveRight$Heat" "latest" "[I" ∈ WT := wt_c2 88 (by decide +kernel) rfl
theorem wF_X1_72 : Cond.fieldLink RX1 72 "WaveRight$Heat" "seenCount" "I" ∈ WT := wt_c2 89 (by decide +kernel) rfl
theorem wF_X4_66 : Cond.fieldLink RX4 66 "WaveRight$Heat" "seenCount" "I" ∈ WT := wt_c2 90 (by decide +kernel) rfl
theorem wF_X11_296 : Cond.fieldLink RX11 296 "WaveRight$Heat" "seenCount" "I" ∈ WT := wt_c2 91 (by decide +kernel) rfl
theorem wF_X1_75 : Cond.fieldLink RX1 75 "WaveRight$Heat" "judged" "I" ∈ WT := wt_c2 92 (by decide +kernel) rfl
theorem wF_X11_353 : Cond.fieldLink RX11 353 "WaveRight$Heat" "judged" "I" ∈ WT := wt_c2 93 (by decide +kernel) rfl
theorem wF_X1_78 : Cond.fieldLink RX1 78 "WaveRight$Heat" "unjudged" "I" ∈ WT := wt_c2 94 (by decide +kernel) rfl
theorem wF_X11_356 : Cond.fieldLink RX11 356 "WaveRight$Heat" "unjudged" "I" ∈ WT := wt_c2 95 (by decide +kernel) rfl
theorem wF_X1_81 : Cond.fieldLink RX1 81 "WaveRight$Heat" "minute" "I" ∈ WT := wt_c2 96 (by decide +kernel) rfl
theorem wF_X11_331 : Cond.fieldLink RX11 331 "WaveRight$Heat" "minute" "I" ∈ WT := wt_c2 97 (by decide +kernel) rfl
theorem wF_X1_84 : Cond.fieldLink RX1 84 "WaveRight$Heat" "start" "I" ∈ WT := wt_c2 98 (by decide +kernel) rfl
theorem wF_X0_101 : Cond.fieldLink RX0 101 "WaveRight$Heat" "start" "I" ∈ WT := wt_c2 99 (by decide +kernel) rfl
theorem wF_X11_334 : Cond.fieldLink RX11 334 "WaveRight$Heat" "start" "I" ∈ WT := wt_c2 100 (by decide +kernel) rfl
theorem wF_X1_87 : Cond.fieldLink RX1 87 "WaveRight$Heat" "restarts" "I" ∈ WT := wt_c2 101 (by decide +kernel) rfl
theorem wF_X11_350 : Cond.fieldLink RX11 350 "WaveRight$Heat" "restarts" "I" ∈ WT := wt_c2 102 (by decide +kernel) rfl
theorem wF_X1_90 : Cond.fieldLink RX1 90 "WaveRight$Heat" "next" "I" ∈ WT := wt_c2 103 (by decide +kernel) rfl
theorem wF_X0_83 : Cond.fieldLink RX0 83 "WaveRight$Heat" "next" "I" ∈ WT := wt_c2 104 (by decide +kernel) rfl
theorem wF_X11_315 : Cond.fieldLink RX11 315 "WaveRight$Heat" "next" "I" ∈ WT := wt_c2 105 (by decide +kernel) rfl
theorem wF_X1_45 : Cond.fieldLink RX1 45 "WaveRight$Heat" "there" "I" ∈ WT := wt_c2 106 (by decide +kernel) rfl
theorem wF_X11_213 : Cond.fieldLink RX11 213 "WaveRight$Heat" "there" "I" ∈ WT := wt_c2 107 (by decide +kernel) rfl
theorem wF_X1_49 : Cond.fieldLink RX1 49 "WaveRight$Heat" "over" "Z" ∈ WT := wt_c2 108 (by decide +kernel) rfl
theorem wF_X11_278 : Cond.fieldLink RX11 278 "WaveRight$Heat" "over" "Z" ∈ WT := wt_c2 109 (by decide +kernel) rfl
theorem wF_X1_93 : Cond.fieldLink RX1 93 "WaveRight$Heat" "anyTaken" "Z" ∈ WT := wt_c2 110 (by decide +kernel) rfl
theorem wL_X11_59 : Cond.classLink RX11 59 "WaveRight$Standing" ∈ WT := wt_c2 144 (by decide +kernel) rfl
theorem wA_WaveRight_Standing : Cond.instantiable "WaveRight$Standing" 1 ∈ WT := wt_c2 145 (by decide +kernel) rfl
theorem wM_X11_61 : Cond.methodLink RX11 61 yX8_init ∈ WT := wt_c2 146 (by decide +kernel) rfl
theorem wI_X8_init : Cond.instanceMethod yX8_init ∈ WT := wt_c2 147 (by decide +kernel) rfl
set_option maxRecDepth 100000 in
theorem wC_X8_init : aCode mX8_init ∈ WT := wt_c2 148 rfl rfl
theorem wM_X8_3 : Cond.methodLink RX8 3 ⟨"java/lang/Object", "<init>", "()V"⟩ ∈ WT := wt_c2 149 (by decide +kernel) rfl
theorem wF_X8_9 : Cond.fieldLink RX8 9 "WaveRight$Standing" "heat" "LWaveRight$Heat;" ∈ WT := wt_c2 150 (by decide +kernel) rfl
theorem wL_X11_68 : Cond.classLink RX11 68 "WaveRight$Advice" ∈ WT := wt_c2 154 (by decide +kernel) rfl
theorem wA_WaveRight_Advice : Cond.instantiable "WaveRight$Advice" 10 ∈ WT := wt_c2 155 (by decide +kernel) rfl
theorem wM_X11_70 : Cond.methodLink RX11 70 yX0_init ∈ WT := wt_c2 156 (by decide +kernel) rfl
theorem wI_X0_init : Cond.instanceMethod yX0_init ∈ WT := wt_c2 157 (by decide +kernel) rfl
set_option maxRecDepth 100000 in
theorem wC_X0_init : aCode mX0_init ∈ WT := wt_c2 158 rfl rfl
theorem wM_X0_3 : Cond.methodLink RX0 3 ⟨"java/lang/Object", "<init>", "()V"⟩ ∈ WT := wt_c2 159 (by decide +kernel) rfl
theorem wF_X0_18 : Cond.fieldLink RX0 18 "WaveRight$Advice" "heat" "LWaveRight$Heat;" ∈ WT := wt_c2 160 (by decide +kernel) rfl
theorem wF_X0_22 : Cond.fieldLink RX0 22 "WaveRight$Advice" "standing" "LWaveRight$Standing;" ∈ WT := wt_c2 161 (by decide +kernel) rfl
theorem wF_X0_26 : Cond.fieldLink RX0 26 "WaveRight$Advice" "length" "I" ∈ WT := wt_c2 162 (by decide +kernel) rfl
theorem wF_X11_270 : Cond.fieldLink RX11 270 "WaveRight$Advice" "length" "I" ∈ WT := wt_c2 163 (by decide +kernel) rfl
theorem wF_X0_30 : Cond.fieldLink RX0 30 "WaveRight$Advice" "way" "I" ∈ WT := wt_c2 164 (by decide +kernel) rfl
theorem wF_X11_271 : Cond.fieldLink RX11 271 "WaveRight$Advice" "way" "I" ∈ WT := wt_c2 165 (by decide +kernel) rfl
theorem wF_X0_33 : Cond.fieldLink RX0 33 "WaveRight$Advice" "score" "I" ∈ WT := wt_c2 166 (by decide +kernel) rfl
theorem wF_X11_272 : Cond.fieldLink RX11 272 "WaveRight$Advice" "score" "I" ∈ WT := wt_c2 167 (by decide +kernel) rfl
theorem wF_X0_74 : Cond.fieldLink RX0 74 "WaveRight$Advice" "total" "I" ∈ WT := wt_c2 168 (by decide +kernel) rfl
theorem wF_X11_287 : Cond.fieldLink RX11 287 "WaveRight$Advice" "total" "I" ∈ WT := wt_c2 169 (by decide +kernel) rfl
theorem wF_X0_77 : Cond.fieldLink RX0 77 "WaveRight$Advice" "firstWave" "I" ∈ WT := wt_c2 170 (by decide +kernel) rfl
theorem wF_X11_290 : Cond.fieldLink RX11 290 "WaveRight$Advice" "firstWave" "I" ∈ WT := wt_c2 171 (by decide +kernel) rfl
theorem wF_X0_80 : Cond.fieldLink RX0 80 "WaveRight$Advice" "secondWave" "I" ∈ WT := wt_c2 172 (by decide +kernel) rfl
theorem wF_X11_293 : Cond.fieldLink RX11 293 "WaveRight$Advice" "secondWave" "I" ∈ WT := wt_c2 173 (by decide +kernel) rfl
theorem wF_X0_9 : Cond.fieldLink RX0 9 "WaveRight$Advice" "scores" "[I" ∈ WT := wt_c2 174 (by decide +kernel) rfl
theorem wF_X0_15 : Cond.fieldLink RX0 15 "WaveRight$Advice" "backs" "[I" ∈ WT := wt_c2 175 (by decide +kernel) rfl
theorem wL_X11_77 : Cond.classLink RX11 77 "WaveRight$Looking" ∈ WT := wt_c2 197 (by decide +kernel) rfl
theorem wA_WaveRight_Looking : Cond.instantiable "WaveRight$Looking" 5 ∈ WT := wt_c2 198 (by decide +kernel) rfl
theorem wM_X11_79 : Cond.methodLink RX11 79 yX4_init ∈ WT := wt_c2 199 (by decide +kernel) rfl
theorem wI_X4_init : Cond.instanceMethod yX4_init ∈ WT := wt_c2 200 (by decide +kernel) rfl
set_option maxRecDepth 100000 in
theorem wC_X4_init : aCode mX4_init ∈ WT := wt_c2 201 rfl rfl
theorem wM_X4_3 : Cond.methodLink RX4 3 ⟨"java/lang/Object", "<init>", "()V"⟩ ∈ WT := wt_c2 202 (by decide +kernel) rfl
theorem wF_X4_22 : Cond.fieldLink RX4 22 "WaveRight$Looking" "heat" "LWaveRight$Heat;" ∈ WT := wt_c2 203 (by decide +kernel) rfl
theorem wF_X4_11 : Cond.fieldLink RX4 11 "WaveRight$Looking" "pool" "[I" ∈ WT := wt_c2 204 (by decide +kernel) rfl
theorem wF_X4_30 : Cond.fieldLink RX4 30 "WaveRight$Looking" "many" "I" ∈ WT := wt_c2 205 (by decide +kernel) rfl
theorem wF_X4_15 : Cond.fieldLink RX4 15 "WaveRight$Looking" "seenAt" "[I" ∈ WT := wt_c2 206 (by decide +kernel) rfl
theorem wF_X4_18 : Cond.fieldLink RX4 18 "WaveRight$Looking" "table" "[J" ∈ WT := wt_c2 207 (by decide +kernel) rfl
theorem wY_long : Cond.arrayClass .long ∈ WT := wt_c2 219 (by decide +kernel) rfl
theorem wF_X11_10 : Cond.fieldLink RX11 10 "WaveRight" "spareSea" "LWaveRight$Sea;" ∈ WT := wt_c2 220 (by decide +kernel) rfl
theorem wF_X11_19 : Cond.fieldLink RX11 19 "WaveRight" "spareJudge" "LWaveRight$Judge;" ∈ WT := wt_c2 221 (by decide +kernel) rfl
theorem wF_X11_26 : Cond.fieldLink RX11 26 "WaveRight" "tape" "LWaveRight$Text;" ∈ WT := wt_c2 222 (by decide +kernel) rfl
theorem wF_X11_35 : Cond.fieldLink RX11 35 "WaveRight" "seaReader" "LWaveRight$SeaReader;" ∈ WT := wt_c2 223 (by decide +kernel) rfl
theorem wF_X11_44 : Cond.fieldLink RX11 44 "WaveRight" "judgeReader" "LWaveRight$JudgeReader;" ∈ WT := wt_c2 224 (by decide +kernel) rfl
theorem wF_X11_48 : Cond.fieldLink RX11 48 "WaveRight" "faultAt" "I" ∈ WT := wt_c2 225 (by decide +kernel) rfl
theorem wF_X11_55 : Cond.fieldLink RX11 55 "WaveRight" "heat" "LWaveRight$Heat;" ∈ WT := wt_c2 226 (by decide +kernel) rfl
theorem wF_X11_64 : Cond.fieldLink RX11 64 "WaveRight" "standing" "LWaveRight$Standing;" ∈ WT := wt_c2 227 (by decide +kernel) rfl
theorem wF_X11_73 : Cond.fieldLink RX11 73 "WaveRight" "advice" "LWaveRight$Advice;" ∈ WT := wt_c2 228 (by decide +kernel) rfl
theorem wF_X11_80 : Cond.fieldLink RX11 80 "WaveRight" "looking" "LWaveRight$Looking;" ∈ WT := wt_c2 229 (by decide +kernel) rfl
theorem wM_L_91 : Cond.methodLink RL 91 yX11_feed ∈ WT := wt_c3 11 (by decide +kernel) rfl
theorem wI_X11_feed : Cond.instanceMethod yX11_feed ∈ WT := wt_c3 12 (by decide +kernel) rfl
theorem wS_X11_feed : Cond.selects RX11 yX11_feed yX11_feed ∈ WT := wt_c3 13 (by decide +kernel) rfl
set_option maxRecDepth 100000 in
theorem wC_X11_feed : aCode mX11_feed ∈ WT := wt_c3 14 rfl rfl
theorem wM_X11_87 : Cond.methodLink RX11 87 yX10_append ∈ WT := wt_c3 15 (by decide +kernel) rfl
theorem wI_X10_append : Cond.instanceMethod yX10_append ∈ WT := wt_c3 16 (by decide +kernel) rfl
theorem wS_X10_append : Cond.selects RX10 yX10_append yX10_append ∈ WT := wt_c3 17 (by decide +kernel) rfl
set_option maxRecDepth 100000 in
theorem wC_X10_append : aCode mX10_append ∈ WT := wt_c3 18 rfl rfl
theorem wM_L_95 : Cond.methodLink RL 95 yX11_end ∈ WT := wt_c3 19 (by decide +kernel) rfl
theorem wI_X11_end : Cond.instanceMethod yX11_end ∈ WT := wt_c3 20 (by decide +kernel) rfl
theorem wS_X11_end : Cond.selects RX11 yX11_end yX11_end ∈ WT := wt_c3 21 (by decide +kernel) rfl
set_option maxRecDepth 100000 in
theorem wC_X11_end : aCode mX11_end ∈ WT := wt_c3 22 rfl rfl
theorem wM_L_112 : Cond.methodLink RL 112 yX11_fault ∈ WT := wt_c3 23 (by decide +kernel) rfl
theorem wI_X11_fault : Cond.instanceMethod yX11_fault ∈ WT := wt_c3 24 (by decide +kernel) rfl
theorem wS_X11_fault : Cond.selects RX11 yX11_fault yX11_fault ∈ WT := wt_c3 25 (by decide +kernel) rfl
set_option maxRecDepth 100000 in
theorem wC_X11_fault : aCode mX11_fault ∈ WT := wt_c3 26 rfl rfl
theorem wM_L_119 : Cond.methodLink RL 119 yX11_comes ∈ WT := wt_c3 27 (by decide +kernel) rfl
theorem wI_X11_comes : Cond.instanceMethod yX11_comes ∈ WT := wt_c3 28 (by decide +kernel) rfl
theorem wS_X11_comes : Cond.selects RX11 yX11_comes yX11_comes ∈ WT := wt_c3 29 (by decide +kernel) rfl
set_option maxRecDepth 100000 in
theorem wC_X11_comes : aCode mX11_comes ∈ WT := wt_c3 30 rfl rfl
theorem wM_X11_130 : Cond.methodLink RX11 130 yX1_nextWave ∈ WT := wt_c3 31 (by decide +kernel) rfl
theorem wI_X1_nextWave : Cond.instanceMethod yX1_nextWave ∈ WT := wt_c3 32 (by decide +kernel) rfl
theorem wS_X1_nextWave : Cond.selects RX1 yX1_nextWave yX1_nextWave ∈ WT := wt_c3 33 (by decide +kernel) rfl
set_option maxRecDepth 100000 in
theorem wC_X1_nextWave : aCode mX1_nextWave ∈ WT := wt_c3 34 rfl rfl
theorem wM_X1_96 : Cond.methodLink RX1 96 yX1_goBy ∈ WT := wt_c3 35 (by decide +kernel) rfl
theorem wI_X1_goBy : Cond.instanceMethod yX1_goBy ∈ WT := wt_c3 37 (by decide +kernel) rfl
set_option maxRecDepth 100000 in
theorem wC_X1_goBy : aCode mX1_goBy ∈ WT := wt_c3 38 rfl rfl
theorem wM_X1_195 : Cond.methodLink RX1 195 yX1_bitsOf ∈ WT := wt_c3 39 (by decide +kernel) rfl
theorem wI_X1_bitsOf : Cond.instanceMethod yX1_bitsOf ∈ WT := wt_c3 40 (by decide +kernel) rfl
theorem wS_X1_bitsOf : Cond.selects RX1 yX1_bitsOf yX1_bitsOf ∈ WT := wt_c3 41 (by decide +kernel) rfl
set_option maxRecDepth 100000 in
theorem wC_X1_bitsOf : aCode mX1_bitsOf ∈ WT := wt_c3 42 rfl rfl
theorem wM_X1_199 : Cond.methodLink RX1 199 yX1_judgeRide ∈ WT := wt_c3 43 (by decide +kernel) rfl
theorem wI_X1_judgeRide : Cond.instanceMethod yX1_judgeRide ∈ WT := wt_c3 45 (by decide +kernel) rfl
set_option maxRecDepth 100000 in
theorem wC_X1_judgeRide : aCode mX1_judgeRide ∈ WT := wt_c3 46 rfl rfl
theorem wM_X1_209 : Cond.methodLink RX1 209 yX1_hinderedBy ∈ WT := wt_c3 47 (by decide +kernel) rfl
theorem wI_X1_hinderedBy : Cond.instanceMethod yX1_hinderedBy ∈ WT := wt_c3 48 (by decide +kernel) rfl
theorem wS_X1_hinderedBy : Cond.selects RX1 yX1_hinderedBy yX1_hinderedBy ∈ WT := wt_c3 49 (by decide +kernel) rfl
set_option maxRecDepth 100000 in
theorem wC_X1_hinderedBy : aCode mX1_hinderedBy ∈ WT := wt_c3 50 rfl rfl
theorem wM_X1_174 : Cond.methodLink RX1 174 yX9_firstOfPath ∈ WT := wt_c3 51 (by decide +kernel) rfl
theorem wI_X9_firstOfPath : Cond.instanceMethod yX9_firstOfPath ∈ WT := wt_c3 52 (by decide +kernel) rfl
theorem wS_X9_firstOfPath : Cond.selects RX9 yX9_firstOfPath yX9_firstOfPath ∈ WT := wt_c3 53 (by decide +kernel) rfl
set_option maxRecDepth 100000 in
theorem wC_X9_firstOfPath : aCode mX9_firstOfPath ∈ WT := wt_c3 54 rfl rfl
theorem wM_X1_177 : Cond.methodLink RX1 177 yX1_rightOf ∈ WT := wt_c3 55 (by decide +kernel) rfl
theorem wI_X1_rightOf : Cond.instanceMethod yX1_rightOf ∈ WT := wt_c3 56 (by decide +kernel) rfl
theorem wS_X1_rightOf : Cond.selects RX1 yX1_rightOf yX1_rightOf ∈ WT := wt_c3 57 (by decide +kernel) rfl
set_option maxRecDepth 100000 in
theorem wC_X1_rightOf : aCode mX1_rightOf ∈ WT := wt_c3 58 rfl rfl
theorem wM_X1_162 : Cond.methodLink RX1 162 yX5_aheadOf ∈ WT := wt_c3 59 (by decide +kernel) rfl
theorem wI_X5_aheadOf : Cond.instanceMethod yX5_aheadOf ∈ WT := wt_c3 60 (by decide +kernel) rfl
theorem wS_X5_aheadOf : Cond.selects RX5 yX5_aheadOf yX5_aheadOf ∈ WT := wt_c3 61 (by decide +kernel) rfl
set_option maxRecDepth 100000 in
theorem wC_X5_aheadOf : aCode mX5_aheadOf ∈ WT := wt_c3 62 rfl rfl
theorem wM_X1_102 : Cond.methodLink RX1 102 yX6_factOf ∈ WT := wt_c3 63 (by decide +kernel) rfl
theorem wI_X6_factOf : Cond.instanceMethod yX6_factOf ∈ WT := wt_c3 64 (by decide +kernel) rfl
theorem wS_X6_factOf : Cond.selects RX6 yX6_factOf yX6_factOf ∈ WT := wt_c3 65 (by decide +kernel) rfl
set_option maxRecDepth 100000 in
theorem wC_X6_factOf : aCode mX6_factOf ∈ WT := wt_c3 66 rfl rfl
theorem wM_X1_165 : Cond.methodLink RX1 165 yJ9_abs_0f7a4 ∈ WT := wt_c3 67 (by decide +kernel) rfl
theorem wT_J9_abs_0f7a4 : Cond.static yJ9_abs_0f7a4 ∈ WT := wt_c3 68 (by decide +kernel) rfl
set_option maxRecDepth 100000 in
theorem wC_J9_abs_0f7a4 : aCode mJ9_abs_0f7a4 ∈ WT := wt_c3 69 rfl rfl
theorem wM_X1_171 : Cond.methodLink RX1 171 yJ9_min_7cf53 ∈ WT := wt_c3 70 (by decide +kernel) rfl
theorem wT_J9_min_7cf53 : Cond.static yJ9_min_7cf53 ∈ WT := wt_c3 71 (by decide +kernel) rfl
set_option maxRecDepth 100000 in
theorem wC_J9_min_7cf53 : aCode mJ9_min_7cf53 ∈ WT := wt_c3 72 rfl rfl
theorem wM_X1_213 : Cond.methodLink RX1 213 yX1_scoreOf ∈ WT := wt_c3 73 (by decide +kernel) rfl
theorem wI_X1_scoreOf : Cond.instanceMethod yX1_scoreOf ∈ WT := wt_c3 74 (by decide +kernel) rfl
theorem wS_X1_scoreOf : Cond.selects RX1 yX1_scoreOf yX1_scoreOf ∈ WT := wt_c3 75 (by decide +kernel) rfl
set_option maxRecDepth 100000 in
theorem wC_X1_scoreOf : aCode mX1_scoreOf ∈ WT := wt_c3 76 rfl rfl
theorem wM_X1_192 : Cond.methodLink RX1 192 yX2_scoreByFacts ∈ WT := wt_c3 77 (by decide +kernel) rfl
theorem wI_X2_scoreByFacts : Cond.instanceMethod yX2_scoreByFacts ∈ WT := wt_c3 78 (by decide +kernel) rfl
theorem wS_X2_scoreByFacts : Cond.selects RX2 yX2_scoreByFacts yX2_scoreByFacts ∈ WT := wt_c3 79 (by decide +kernel) rfl
set_option maxRecDepth 100000 in
theorem wC_X2_scoreByFacts : aCode mX2_scoreByFacts ∈ WT := wt_c3 80 rfl rfl
theorem wM_X2_51 : Cond.methodLink RX2 51 yX2_run ∈ WT := wt_c3 81 (by decide +kernel) rfl
theorem wI_X2_run : Cond.instanceMethod yX2_run ∈ WT := wt_c3 83 (by decide +kernel) rfl
set_option maxRecDepth 100000 in
theorem wC_X2_run : aCode mX2_run ∈ WT := wt_c3 84 rfl rfl
theorem wM_X2_72 : Cond.methodLink RX2 72 yX2_push ∈ WT := wt_c3 85 (by decide +kernel) rfl
theorem wI_X2_push : Cond.instanceMethod yX2_push ∈ WT := wt_c3 87 (by decide +kernel) rfl
set_option maxRecDepth 100000 in
theorem wC_X2_push : aCode mX2_push ∈ WT := wt_c3 88 rfl rfl
theorem wM_X2_69 : Cond.methodLink RX2 69 yJ9_max_7cf53 ∈ WT := wt_c3 89 (by decide +kernel) rfl
theorem wT_J9_max_7cf53 : Cond.static yJ9_max_7cf53 ∈ WT := wt_c3 90 (by decide +kernel) rfl
set_option maxRecDepth 100000 in
theorem wC_J9_max_7cf53 : aCode mJ9_max_7cf53 ∈ WT := wt_c3 91 rfl rfl
theorem wM_X2_55 : Cond.methodLink RX2 55 yX2_pop ∈ WT := wt_c3 92 (by decide +kernel) rfl
theorem wI_X2_pop : Cond.instanceMethod yX2_pop ∈ WT := wt_c3 94 (by decide +kernel) rfl
set_option maxRecDepth 100000 in
theorem wC_X2_pop : aCode mX2_pop ∈ WT := wt_c3 95 rfl rfl
theorem wM_X2_59 : Cond.methodLink RX2 59 yX2_reckon ∈ WT := wt_c3 96 (by decide +kernel) rfl
theorem wI_X2_reckon : Cond.instanceMethod yX2_reckon ∈ WT := wt_c3 98 (by decide +kernel) rfl
set_option maxRecDepth 100000 in
theorem wC_X2_reckon : aCode mX2_reckon ∈ WT := wt_c3 99 rfl rfl
theorem wK_X2_78 : Cond.constantLong RX2 78 (-2147483648 : Int64) ∈ WT := wt_c3 100 (by decide +kernel) rfl
theorem wK_X2_80 : Cond.constantLong RX2 80 (2147483647 : Int64) ∈ WT := wt_c3 101 (by decide +kernel) rfl
theorem wM_X2_63 : Cond.methodLink RX2 63 yJ9_min_7cf53 ∈ WT := wt_c3 102 (by decide +kernel) rfl
theorem wM_X1_217 : Cond.methodLink RX1 217 yJ9_max_7cf53 ∈ WT := wt_c3 103 (by decide +kernel) rfl
theorem wM_X1_220 : Cond.methodLink RX1 220 yX9_keepRide ∈ WT := wt_c3 104 (by decide +kernel) rfl
theorem wI_X9_keepRide : Cond.instanceMethod yX9_keepRide ∈ WT := wt_c3 105 (by decide +kernel) rfl
theorem wS_X9_keepRide : Cond.selects RX9 yX9_keepRide yX9_keepRide ∈ WT := wt_c3 106 (by decide +kernel) rfl
set_option maxRecDepth 100000 in
theorem wC_X9_keepRide : aCode mX9_keepRide ∈ WT := wt_c3 107 rfl rfl
theorem wM_X9_62 : Cond.methodLink RX9 62 yJ9_min_7cf53 ∈ WT := wt_c3 108 (by decide +kernel) rfl
theorem wM_X9_69 : Cond.methodLink RX9 69 yJ9_max_7cf53 ∈ WT := wt_c3 109 (by decide +kernel) rfl
theorem wM_X1_227 : Cond.methodLink RX1 227 yX1_keepSeen ∈ WT := wt_c3 110 (by decide +kernel) rfl
theorem wI_X1_keepSeen : Cond.instanceMethod yX1_keepSeen ∈ WT := wt_c3 112 (by decide +kernel) rfl
set_option maxRecDepth 100000 in
theorem wC_X1_keepSeen : aCode mX1_keepSeen ∈ WT := wt_c3 113 rfl rfl
theorem wM_X1_203 : Cond.methodLink RX1 203 yX1_leaveWave ∈ WT := wt_c3 114 (by decide +kernel) rfl
theorem wI_X1_leaveWave : Cond.instanceMethod yX1_leaveWave ∈ WT := wt_c3 116 (by decide +kernel) rfl
set_option maxRecDepth 100000 in
theorem wC_X1_leaveWave : aCode mX1_leaveWave ∈ WT := wt_c3 117 rfl rfl
theorem wM_X1_230 : Cond.methodLink RX1 230 yX9_sentIn ∈ WT := wt_c3 118 (by decide +kernel) rfl
theorem wI_X9_sentIn : Cond.instanceMethod yX9_sentIn ∈ WT := wt_c3 119 (by decide +kernel) rfl
theorem wS_X9_sentIn : Cond.selects RX9 yX9_sentIn yX9_sentIn ∈ WT := wt_c3 120 (by decide +kernel) rfl
set_option maxRecDepth 100000 in
theorem wC_X9_sentIn : aCode mX9_sentIn ∈ WT := wt_c3 121 rfl rfl
theorem wM_X1_234 : Cond.methodLink RX1 234 yX9_minutesFor ∈ WT := wt_c3 122 (by decide +kernel) rfl
theorem wI_X9_minutesFor : Cond.instanceMethod yX9_minutesFor ∈ WT := wt_c3 123 (by decide +kernel) rfl
theorem wS_X9_minutesFor : Cond.selects RX9 yX9_minutesFor yX9_minutesFor ∈ WT := wt_c3 124 (by decide +kernel) rfl
set_option maxRecDepth 100000 in
theorem wC_X9_minutesFor : aCode mX9_minutesFor ∈ WT := wt_c3 125 rfl rfl
theorem wM_X1_206 : Cond.methodLink RX1 206 yX1_settleRow ∈ WT := wt_c3 126 (by decide +kernel) rfl
theorem wI_X1_settleRow : Cond.instanceMethod yX1_settleRow ∈ WT := wt_c3 128 (by decide +kernel) rfl
set_option maxRecDepth 100000 in
theorem wC_X1_settleRow : aCode mX1_settleRow ∈ WT := wt_c3 129 rfl rfl
theorem wM_X1_237 : Cond.methodLink RX1 237 yX5_leave ∈ WT := wt_c3 130 (by decide +kernel) rfl
theorem wI_X5_leave : Cond.instanceMethod yX5_leave ∈ WT := wt_c3 131 (by decide +kernel) rfl
theorem wS_X5_leave : Cond.selects RX5 yX5_leave yX5_leave ∈ WT := wt_c3 132 (by decide +kernel) rfl
set_option maxRecDepth 100000 in
theorem wC_X5_leave : aCode mX5_leave ∈ WT := wt_c3 133 rfl rfl
theorem wM_X1_147 : Cond.methodLink RX1 147 yX5_add ∈ WT := wt_c3 134 (by decide +kernel) rfl
theorem wI_X5_add : Cond.instanceMethod yX5_add ∈ WT := wt_c3 135 (by decide +kernel) rfl
theorem wS_X5_add : Cond.selects RX5 yX5_add yX5_add ∈ WT := wt_c3 136 (by decide +kernel) rfl
set_option maxRecDepth 100000 in
theorem wC_X5_add : aCode mX5_add ∈ WT := wt_c3 137 rfl rfl
theorem wM_X1_106 : Cond.methodLink RX1 106 yX1_beginAgain ∈ WT := wt_c3 138 (by decide +kernel) rfl
theorem wI_X1_beginAgain : Cond.instanceMethod yX1_beginAgain ∈ WT := wt_c3 140 (by decide +kernel) rfl
set_option maxRecDepth 100000 in
theorem wC_X1_beginAgain : aCode mX1_beginAgain ∈ WT := wt_c3 141 rfl rfl
theorem wM_X1_112 : Cond.methodLink RX1 112 yX1_passTo ∈ WT := wt_c3 142 (by decide +kernel) rfl
theorem wI_X1_passTo : Cond.instanceMethod yX1_passTo ∈ WT := wt_c3 144 (by decide +kernel) rfl
set_option maxRecDepth 100000 in
theorem wC_X1_passTo : aCode mX1_passTo ∈ WT := wt_c3 145 rfl rfl
theorem wM_X1_121 : Cond.methodLink RX1 121 yX9_swimFor ∈ WT := wt_c3 146 (by decide +kernel) rfl
theorem wI_X9_swimFor : Cond.instanceMethod yX9_swimFor ∈ WT := wt_c3 147 (by decide +kernel) rfl
theorem wS_X9_swimFor : Cond.selects RX9 yX9_swimFor yX9_swimFor ∈ WT := wt_c3 148 (by decide +kernel) rfl
set_option maxRecDepth 100000 in
theorem wC_X9_swimFor : aCode mX9_swimFor ∈ WT := wt_c3 149 rfl rfl
theorem wM_X9_56 : Cond.methodLink RX9 56 yJ9_abs_0f7a4 ∈ WT := wt_c3 150 (by decide +kernel) rfl
theorem wM_X1_124 : Cond.methodLink RX1 124 yX1_earliestBack ∈ WT := wt_c3 151 (by decide +kernel) rfl
theorem wI_X1_earliestBack : Cond.instanceMethod yX1_earliestBack ∈ WT := wt_c3 153 (by decide +kernel) rfl
set_option maxRecDepth 100000 in
theorem wC_X1_earliestBack : aCode mX1_earliestBack ∈ WT := wt_c3 154 rfl rfl
theorem wM_X1_128 : Cond.methodLink RX1 128 yX1_comeOut ∈ WT := wt_c3 155 (by decide +kernel) rfl
theorem wI_X1_comeOut : Cond.instanceMethod yX1_comeOut ∈ WT := wt_c3 157 (by decide +kernel) rfl
set_option maxRecDepth 100000 in
theorem wC_X1_comeOut : aCode mX1_comeOut ∈ WT := wt_c3 158 rfl rfl
theorem wM_L_136 : Cond.methodLink RL 136 yX11_row ∈ WT := wt_c3 159 (by decide +kernel) rfl
theorem wI_X11_row : Cond.instanceMethod yX11_row ∈ WT := wt_c3 160 (by decide +kernel) rfl
theorem wS_X11_row : Cond.selects RX11 yX11_row yX11_row ∈ WT := wt_c3 161 (by decide +kernel) rfl
set_option maxRecDepth 100000 in
theorem wC_X11_row : aCode mX11_row ∈ WT := wt_c3 162 rfl rfl
theorem wM_X11_202 : Cond.methodLink RX11 202 yX5_at ∈ WT := wt_c3 163 (by decide +kernel) rfl
theorem wI_X5_at : Cond.instanceMethod yX5_at ∈ WT := wt_c3 164 (by decide +kernel) rfl
theorem wS_X5_at : Cond.selects RX5 yX5_at yX5_at ∈ WT := wt_c3 165 (by decide +kernel) rfl
set_option maxRecDepth 100000 in
theorem wC_X5_at : aCode mX5_at ∈ WT := wt_c3 166 rfl rfl
theorem wM_L_171 : Cond.methodLink RL 171 yX11_seen ∈ WT := wt_c3 167 (by decide +kernel) rfl
theorem wI_X11_seen : Cond.instanceMethod yX11_seen ∈ WT := wt_c3 168 (by decide +kernel) rfl
theorem wS_X11_seen : Cond.selects RX11 yX11_seen yX11_seen ∈ WT := wt_c3 169 (by decide +kernel) rfl
set_option maxRecDepth 100000 in
theorem wC_X11_seen : aCode mX11_seen ∈ WT := wt_c3 170 rfl rfl
theorem wM_L_190 : Cond.methodLink RL 190 yX11_count ∈ WT := wt_c3 171 (by decide +kernel) rfl
theorem wI_X11_count : Cond.instanceMethod yX11_count ∈ WT := wt_c3 172 (by decide +kernel) rfl
theorem wS_X11_count : Cond.selects RX11 yX11_count yX11_count ∈ WT := wt_c3 173 (by decide +kernel) rfl
set_option maxRecDepth 100000 in
theorem wC_X11_count : aCode mX11_count ∈ WT := wt_c3 174 rfl rfl
theorem wM_X11_346 : Cond.methodLink RX11 346 yX1_bitsOf ∈ WT := wt_c3 175 (by decide +kernel) rfl
theorem wM_L_100 : Cond.methodLink RL 100 yL_sea ∈ WT := wt_c3 176 (by decide +kernel) rfl
theorem wT_L_sea : Cond.static yL_sea ∈ WT := wt_c3 177 (by decide +kernel) rfl
set_option maxRecDepth 100000 in
theorem wC_L_sea : aCode mL_sea ∈ WT := wt_c3 178 rfl rfl
theorem wL_L_13 : Cond.classLink RL 13 "java/lang/IllegalArgumentException" ∈ WT := wt_c3 179 (by decide +kernel) rfl
theorem wM_L_7 : Cond.methodLink RL 7 yX11_sea ∈ WT := wt_c3 180 (by decide +kernel) rfl
theorem wI_X11_sea : Cond.instanceMethod yX11_sea ∈ WT := wt_c3 181 (by decide +kernel) rfl
theorem wS_X11_sea : Cond.selects RX11 yX11_sea yX11_sea ∈ WT := wt_c3 182 (by decide +kernel) rfl
set_option maxRecDepth 100000 in
theorem wC_X11_sea : aCode mX11_sea ∈ WT := wt_c3 183 rfl rfl
theorem wM_X11_91 : Cond.methodLink RX11 91 yX7_readInto ∈ WT := wt_c3 184 (by decide +kernel) rfl
theorem wI_X7_readInto : Cond.instanceMethod yX7_readInto ∈ WT := wt_c3 185 (by decide +kernel) rfl
theorem wS_X7_readInto : Cond.selects RX7 yX7_readInto yX7_readInto ∈ WT := wt_c3 186 (by decide +kernel) rfl
set_option maxRecDepth 100000 in
theorem wC_X7_readInto : aCode mX7_readInto ∈ WT := wt_c3 187 rfl rfl
theorem wM_X7_19 : Cond.methodLink RX7 19 yX6_clear ∈ WT := wt_c3 188 (by decide +kernel) rfl
theorem wI_X6_clear : Cond.instanceMethod yX6_clear ∈ WT := wt_c3 189 (by decide +kernel) rfl
theorem wS_X6_clear : Cond.selects RX6 yX6_clear yX6_clear ∈ WT := wt_c3 190 (by decide +kernel) rfl
set_option maxRecDepth 100000 in
theorem wC_X6_clear : aCode mX6_clear ∈ WT := wt_c3 191 rfl rfl
theorem wM_X7_31 : Cond.methodLink RX7 31 yX10_open ∈ WT := wt_c3 192 (by decide +kernel) rfl
theorem wI_X10_open : Cond.instanceMethod yX10_open ∈ WT := wt_c3 193 (by decide +kernel) rfl
theorem wS_X10_open : Cond.selects RX10 yX10_open yX10_open ∈ WT := wt_c3 194 (by decide +kernel) rfl
set_option maxRecDepth 100000 in
theorem wC_X10_open : aCode mX10_open ∈ WT := wt_c3 195 rfl rfl
theorem wM_X10_22 : Cond.methodLink RX10 22 yX10_advance ∈ WT := wt_c3 196 (by decide +kernel) rfl
theorem wI_X10_advance : Cond.instanceMethod yX10_advance ∈ WT := wt_c3 197 (by decide +kernel) rfl
theorem wS_X10_advance : Cond.selects RX10 yX10_advance yX10_advance ∈ WT := wt_c3 198 (by decide +kernel) rfl
set_option maxRecDepth 100000 in
theorem wC_X10_advance : aCode mX10_advance ∈ WT := wt_c3 199 rfl rfl
theorem wM_X10_25 : Cond.methodLink RX10 25 yX10_isBlank ∈ WT := wt_c3 200 (by decide +kernel) rfl
theorem wT_X10_isBlank : Cond.static yX10_isBlank ∈ WT := wt_c3 201 (by decide +kernel) rfl
set_option maxRecDepth 100000 in
theorem wC_X10_isBlank : aCode mX10_isBlank ∈ WT := wt_c3 202 rfl rfl
theorem wM_X10_35 : Cond.methodLink RX10 35 yX10_isLetter ∈ WT := wt_c3 203 (by decide +kernel) rfl
theorem wT_X10_isLetter : Cond.static yX10_isLetter ∈ WT := wt_c3 204 (by decide +kernel) rfl
set_option maxRecDepth 100000 in
theorem wC_X10_isLetter : aCode mX10_isLetter ∈ WT := wt_c3 205 rfl rfl
theorem wM_X10_38 : Cond.methodLink RX10 38 yX10_isDigit ∈ WT := wt_c3 206 (by decide +kernel) rfl
theorem wT_X10_isDigit : Cond.static yX10_isDigit ∈ WT := wt_c3 207 (by decide +kernel) rfl
set_option maxRecDepth 100000 in
theorem wC_X10_isDigit : aCode mX10_isDigit ∈ WT := wt_c3 208 rfl rfl
theorem wM_X7_40 : Cond.methodLink RX7 40 yX7_passLine ∈ WT := wt_c3 209 (by decide +kernel) rfl
theorem wI_X7_passLine : Cond.instanceMethod yX7_passLine ∈ WT := wt_c3 211 (by decide +kernel) rfl
set_option maxRecDepth 100000 in
theorem wC_X7_passLine : aCode mX7_passLine ∈ WT := wt_c3 212 rfl rfl
theorem wM_X7_56 : Cond.methodLink RX7 56 yX10_isWord ∈ WT := wt_c3 214 (by decide +kernel) rfl
theorem wI_X10_isWord : Cond.instanceMethod yX10_isWord ∈ WT := wt_c3 215 (by decide +kernel) rfl
theorem wS_X10_isWord : Cond.selects RX10 yX10_isWord yX10_isWord ∈ WT := wt_c3 216 (by decide +kernel) rfl
set_option maxRecDepth 100000 in
theorem wC_X10_isWord : aCode mX10_isWord ∈ WT := wt_c3 217 rfl rfl
theorem wM_X10_44 : Cond.methodLink RX10 44 yJ0_length_8abf5 ∈ WT := wt_c3 218 (by decide +kernel) rfl
theorem wI_J0_length_8abf5 : Cond.instanceMethod yJ0_length_8abf5 ∈ WT := wt_c3 219 (by decide +kernel) rfl
theorem wS_J0_length_8abf5 : Cond.selects RJ0 yJ0_length_8abf5 yJ0_length_8abf5 ∈ WT := wt_c3 220 (by decide +kernel) rfl
set_option maxRecDepth 100000 in
theorem wC_J0_length_8abf5 : aCode mJ0_length_8abf5 ∈ WT := wt_c3 221 rfl rfl
theorem wM_J0_335 : Cond.methodLink RJ0 335 yJ0_coder_7d493 ∈ WT := wt_c3 222 (by decide +kernel) rfl
theorem wI_J0_coder_7d493 : Cond.instanceMethod yJ0_coder_7d493 ∈ WT := wt_c3 223 (by decide +kernel) rfl
theorem wS_J0_coder_7d493 : Cond.selects RJ0 yJ0_coder_7d493 yJ0_coder_7d493 ∈ WT := wt_c3 224 (by decide +kernel) rfl
set_option maxRecDepth 100000 in
theorem wC_J0_coder_7d493 : aCode mJ0_coder_7d493 ∈ WT := wt_c3 225 rfl rfl
theorem wF_J0_38 : Cond.fieldLink RJ0 38 "java/lang/String" "COMPACT_STRINGS" "Z" ∈ WT := wt_c3 226 (by decide +kernel) rfl
theorem wM_X10_49 : Cond.methodLink RX10 49 yJ0_charAt_5068e ∈ WT := wt_c3 228 (by decide +kernel) rfl
theorem wI_J0_charAt_5068e : Cond.instanceMethod yJ0_charAt_5068e ∈ WT := wt_c3 229 (by decide +kernel) rfl
theorem wS_J0_charAt_5068e : Cond.selects RJ0 yJ0_charAt_5068e yJ0_charAt_5068e ∈ WT := wt_c3 230 (by decide +kernel) rfl
set_option maxRecDepth 100000 in
theorem wC_J0_charAt_5068e : aCode mJ0_charAt_5068e ∈ WT := wt_c3 231 rfl rfl
theorem wM_J0_492 : Cond.methodLink RJ0 492 yJ0_isLatin1_aae02 ∈ WT := wt_c3 232 (by decide +kernel) rfl
theorem wI_J0_isLatin1_aae02 : Cond.instanceMethod yJ0_isLatin1_aae02 ∈ WT := wt_c3 233 (by decide +kernel) rfl
theorem wS_J0_isLatin1_aae02 : Cond.selects RJ0 yJ0_isLatin1_aae02 yJ0_isLatin1_aae02 ∈ WT := wt_c3 234 (by decide +kernel) rfl
set_option maxRecDepth 100000 in
theorem wC_J0_isLatin1_aae02 : aCode mJ0_isLatin1_aae02 ∈ WT := wt_c3 235 rfl rfl
theorem wM_J0_495 : Cond.methodLink RJ0 495 yJ1_charAt_3b067 ∈ WT := wt_c3 236 (by decide +kernel) rfl
theorem wT_J1_charAt_3b067 : Cond.static yJ1_charAt_3b067 ∈ WT := wt_c3 237 (by decide +kernel) rfl
set_option maxRecDepth 100000 in
theorem wC_J1_charAt_3b067 : aCode mJ1_charAt_3b067 ∈ WT := wt_c3 238 rfl rfl
theorem wM_J1_9 : Cond.methodLink RJ1 9 yJ0_checkIndex_df160 ∈ WT := wt_c3 239 (by decide +kernel) rfl
theorem wT_J0_checkIndex_df160 : Cond.static yJ0_checkIndex_df160 ∈ WT := wt_c4 0 (by decide +kernel) rfl
set_option maxRecDepth 100000 in
theorem wC_J0_checkIndex_df160 : aCode mJ0_checkIndex_df160 ∈ WT := wt_c4 1 rfl rfl
theorem wF_J0_1053 : Cond.fieldLink RJ0 1053 "jdk/internal/util/Preconditions" "SIOOBE_FORMATTER" "Ljava/util/function/BiFunction;" ∈ WT := wt_c4 2 (by decide +kernel) rfl
theorem wM_J0_1059 : Cond.methodLink RJ0 1059 yJ3_checkIndex_8e157 ∈ WT := wt_c4 4 (by decide +kernel) rfl
theorem wT_J3_checkIndex_8e157 : Cond.static yJ3_checkIndex_8e157 ∈ WT := wt_c4 5 (by decide +kernel) rfl
set_option maxRecDepth 100000 in
theorem wC_J3_checkIndex_8e157 : aCode mJ3_checkIndex_8e157 ∈ WT := wt_c4 6 rfl rfl
theorem wM_J0_498 : Cond.methodLink RJ0 498 yJ2_charAt_3b067 ∈ WT := wt_c4 7 (by decide +kernel) rfl
theorem wT_J2_charAt_3b067 : Cond.static yJ2_charAt_3b067 ∈ WT := wt_c4 8 (by decide +kernel) rfl
set_option maxRecDepth 100000 in
theorem wC_J2_charAt_3b067 : aCode mJ2_charAt_3b067 ∈ WT := wt_c4 9 rfl rfl
theorem wM_J2_67 : Cond.methodLink RJ2 67 yJ2_checkIndex_2214a ∈ WT := wt_c4 10 (by decide +kernel) rfl
theorem wT_J2_checkIndex_2214a : Cond.static yJ2_checkIndex_2214a ∈ WT := wt_c4 11 (by decide +kernel) rfl
set_option maxRecDepth 100000 in
theorem wC_J2_checkIndex_2214a : aCode mJ2_checkIndex_2214a ∈ WT := wt_c4 12 rfl rfl
theorem wM_J2_48 : Cond.methodLink RJ2 48 yJ2_length_9d52b ∈ WT := wt_c4 13 (by decide +kernel) rfl
theorem wT_J2_length_9d52b : Cond.static yJ2_length_9d52b ∈ WT := wt_c4 14 (by decide +kernel) rfl
set_option maxRecDepth 100000 in
theorem wC_J2_length_9d52b : aCode mJ2_length_9d52b ∈ WT := wt_c4 15 rfl rfl
theorem wM_J2_414 : Cond.methodLink RJ2 414 yJ0_checkIndex_df160 ∈ WT := wt_c4 16 (by decide +kernel) rfl
theorem wM_J2_71 : Cond.methodLink RJ2 71 yJ2_getChar_3b067 ∈ WT := wt_c4 17 (by decide +kernel) rfl
theorem wT_J2_getChar_3b067 : Cond.static yJ2_getChar_3b067 ∈ WT := wt_c4 18 (by decide +kernel) rfl
set_option maxRecDepth 100000 in
theorem wC_J2_getChar_3b067 : aCode mJ2_getChar_3b067 ∈ WT := wt_c4 19 rfl rfl
theorem wF_J2_44 : Cond.fieldLink RJ2 44 "java/lang/StringUTF16" "$assertionsDisabled" "Z" ∈ WT := wt_c4 20 (by decide +kernel) rfl
theorem wF_J2_59 : Cond.fieldLink RJ2 59 "java/lang/StringUTF16" "HI_BYTE_SHIFT" "I" ∈ WT := wt_c4 22 (by decide +kernel) rfl
theorem wF_J2_63 : Cond.fieldLink RJ2 63 "java/lang/StringUTF16" "LO_BYTE_SHIFT" "I" ∈ WT := wt_c4 24 (by decide +kernel) rfl
theorem wM_X7_60 : Cond.methodLink RX7 60 yX7_passSurfer ∈ WT := wt_c4 26 (by decide +kernel) rfl
theorem wI_X7_passSurfer : Cond.instanceMethod yX7_passSurfer ∈ WT := wt_c4 28 (by decide +kernel) rfl
set_option maxRecDepth 100000 in
theorem wC_X7_passSurfer : aCode mX7_passSurfer ∈ WT := wt_c4 29 rfl rfl
theorem wM_X7_78 : Cond.methodLink RX7 78 yX10_advance ∈ WT := wt_c4 30 (by decide +kernel) rfl
theorem wM_X7_81 : Cond.methodLink RX7 81 yX7_isNewName ∈ WT := wt_c4 31 (by decide +kernel) rfl
theorem wI_X7_isNewName : Cond.instanceMethod yX7_isNewName ∈ WT := wt_c4 33 (by decide +kernel) rfl
set_option maxRecDepth 100000 in
theorem wC_X7_isNewName : aCode mX7_isNewName ∈ WT := wt_c4 34 rfl rfl
theorem wM_X7_106 : Cond.methodLink RX7 106 yX7_isKept ∈ WT := wt_c4 35 (by decide +kernel) rfl
theorem wI_X7_isKept : Cond.instanceMethod yX7_isKept ∈ WT := wt_c4 37 (by decide +kernel) rfl
set_option maxRecDepth 100000 in
theorem wC_X7_isKept : aCode mX7_isKept ∈ WT := wt_c4 38 rfl rfl
theorem wM_X7_109 : Cond.methodLink RX7 109 yX6_isNameOf ∈ WT := wt_c4 49 (by decide +kernel) rfl
theorem wI_X6_isNameOf : Cond.instanceMethod yX6_isNameOf ∈ WT := wt_c4 50 (by decide +kernel) rfl
theorem wS_X6_isNameOf : Cond.selects RX6 yX6_isNameOf yX6_isNameOf ∈ WT := wt_c4 51 (by decide +kernel) rfl
set_option maxRecDepth 100000 in
theorem wC_X6_isNameOf : aCode mX6_isNameOf ∈ WT := wt_c4 52 rfl rfl
theorem wM_X6_54 : Cond.methodLink RX6 54 yX6_letterOf ∈ WT := wt_c4 53 (by decide +kernel) rfl
theorem wI_X6_letterOf : Cond.instanceMethod yX6_letterOf ∈ WT := wt_c4 54 (by decide +kernel) rfl
theorem wS_X6_letterOf : Cond.selects RX6 yX6_letterOf yX6_letterOf ∈ WT := wt_c4 55 (by decide +kernel) rfl
set_option maxRecDepth 100000 in
theorem wC_X6_letterOf : aCode mX6_letterOf ∈ WT := wt_c4 56 rfl rfl
theorem wM_X7_84 : Cond.methodLink RX7 84 yX6_writeName ∈ WT := wt_c4 57 (by decide +kernel) rfl
theorem wI_X6_writeName : Cond.instanceMethod yX6_writeName ∈ WT := wt_c4 58 (by decide +kernel) rfl
theorem wS_X6_writeName : Cond.selects RX6 yX6_writeName yX6_writeName ∈ WT := wt_c4 59 (by decide +kernel) rfl
set_option maxRecDepth 100000 in
theorem wC_X6_writeName : aCode mX6_writeName ∈ WT := wt_c4 60 rfl rfl
theorem wM_X7_90 : Cond.methodLink RX7 90 yX10_passWord ∈ WT := wt_c4 61 (by decide +kernel) rfl
theorem wI_X10_passWord : Cond.instanceMethod yX10_passWord ∈ WT := wt_c4 62 (by decide +kernel) rfl
theorem wS_X10_passWord : Cond.selects RX10 yX10_passWord yX10_passWord ∈ WT := wt_c4 63 (by decide +kernel) rfl
set_option maxRecDepth 100000 in
theorem wC_X10_passWord : aCode mX10_passWord ∈ WT := wt_c4 64 rfl rfl
theorem wM_X10_53 : Cond.methodLink RX10 53 yX10_isWord ∈ WT := wt_c4 65 (by decide +kernel) rfl
theorem wM_X7_93 : Cond.methodLink RX7 93 yX10_passNumber ∈ WT := wt_c4 66 (by decide +kernel) rfl
theorem wI_X10_passNumber : Cond.instanceMethod yX10_passNumber ∈ WT := wt_c4 67 (by decide +kernel) rfl
theorem wS_X10_passNumber : Cond.selects RX10 yX10_passNumber yX10_passNumber ∈ WT := wt_c4 68 (by decide +kernel) rfl
set_option maxRecDepth 100000 in
theorem wC_X10_passNumber : aCode mX10_passNumber ∈ WT := wt_c4 69 rfl rfl
theorem wM_X7_99 : Cond.methodLink RX7 99 yX6_addSurfer ∈ WT := wt_c4 70 (by decide +kernel) rfl
theorem wI_X6_addSurfer : Cond.instanceMethod yX6_addSurfer ∈ WT := wt_c4 71 (by decide +kernel) rfl
theorem wS_X6_addSurfer : Cond.selects RX6 yX6_addSurfer yX6_addSurfer ∈ WT := wt_c4 72 (by decide +kernel) rfl
set_option maxRecDepth 100000 in
theorem wC_X6_addSurfer : aCode mX6_addSurfer ∈ WT := wt_c4 73 rfl rfl
theorem wM_X7_65 : Cond.methodLink RX7 65 yX7_passWave ∈ WT := wt_c4 74 (by decide +kernel) rfl
theorem wI_X7_passWave : Cond.instanceMethod yX7_passWave ∈ WT := wt_c4 76 (by decide +kernel) rfl
set_option maxRecDepth 100000 in
theorem wC_X7_passWave : aCode mX7_passWave ∈ WT := wt_c4 77 rfl rfl
theorem wM_X7_131 : Cond.methodLink RX7 131 yX6_factOf ∈ WT := wt_c4 78 (by decide +kernel) rfl
theorem wM_X7_135 : Cond.methodLink RX7 135 yX7_passWays ∈ WT := wt_c4 79 (by decide +kernel) rfl
theorem wI_X7_passWays : Cond.instanceMethod yX7_passWays ∈ WT := wt_c4 81 (by decide +kernel) rfl
set_option maxRecDepth 100000 in
theorem wC_X7_passWays : aCode mX7_passWays ∈ WT := wt_c4 82 rfl rfl
theorem wM_X7_139 : Cond.methodLink RX7 139 yX6_addWave ∈ WT := wt_c4 83 (by decide +kernel) rfl
theorem wI_X6_addWave : Cond.instanceMethod yX6_addWave ∈ WT := wt_c4 84 (by decide +kernel) rfl
theorem wS_X6_addWave : Cond.selects RX6 yX6_addWave yX6_addWave ∈ WT := wt_c4 85 (by decide +kernel) rfl
set_option maxRecDepth 100000 in
theorem wC_X6_addWave : aCode mX6_addWave ∈ WT := wt_c4 86 rfl rfl
theorem wM_X7_70 : Cond.methodLink RX7 70 yX7_passMinutes ∈ WT := wt_c4 87 (by decide +kernel) rfl
theorem wI_X7_passMinutes : Cond.instanceMethod yX7_passMinutes ∈ WT := wt_c4 89 (by decide +kernel) rfl
set_option maxRecDepth 100000 in
theorem wC_X7_passMinutes : aCode mX7_passMinutes ∈ WT := wt_c4 90 rfl rfl
theorem wM_X7_75 : Cond.methodLink RX7 75 yX7_passAgain ∈ WT := wt_c4 91 (by decide +kernel) rfl
theorem wI_X7_passAgain : Cond.instanceMethod yX7_passAgain ∈ WT := wt_c4 93 (by decide +kernel) rfl
set_option maxRecDepth 100000 in
theorem wC_X7_passAgain : aCode mX7_passAgain ∈ WT := wt_c4 94 rfl rfl
theorem wM_X7_44 : Cond.methodLink RX7 44 yX10_passSign ∈ WT := wt_c4 95 (by decide +kernel) rfl
theorem wI_X10_passSign : Cond.instanceMethod yX10_passSign ∈ WT := wt_c4 96 (by decide +kernel) rfl
theorem wS_X10_passSign : Cond.selects RX10 yX10_passSign yX10_passSign ∈ WT := wt_c4 97 (by decide +kernel) rfl
set_option maxRecDepth 100000 in
theorem wC_X10_passSign : aCode mX10_passSign ∈ WT := wt_c4 98 rfl rfl
theorem wM_X10_57 : Cond.methodLink RX10 57 yX10_isSign ∈ WT := wt_c4 99 (by decide +kernel) rfl
theorem wI_X10_isSign : Cond.instanceMethod yX10_isSign ∈ WT := wt_c4 100 (by decide +kernel) rfl
theorem wS_X10_isSign : Cond.selects RX10 yX10_isSign yX10_isSign ∈ WT := wt_c4 101 (by decide +kernel) rfl
set_option maxRecDepth 100000 in
theorem wC_X10_isSign : aCode mX10_isSign ∈ WT := wt_c4 102 rfl rfl
theorem wL_X11_95 : Cond.classLink RX11 95 "java/lang/IllegalArgumentException" ∈ WT := wt_c4 103 (by decide +kernel) rfl
theorem wA_java_lang_IllegalArgumentException : Cond.instantiable "java/lang/IllegalArgumentException" 6 ∈ WT := wt_c4 104 (by decide +kernel) rfl
theorem wA_java_lang_Throwable : Cond.instantiable "java/lang/Throwable" 6 ∈ WT := wt_c4 143 (by decide +kernel) rfl
theorem wM_X11_99 : Cond.methodLink RX11 99 ⟨"java/lang/IllegalArgumentException", "<init>", "(Ljava/lang/String;)V"⟩ ∈ WT := wt_c4 146 (by decide +kernel) rfl
theorem wY_byte : Cond.arrayClass .byte ∈ WT := wt_c4 171 (by decide +kernel) rfl
theorem wM_X11_105 : Cond.methodLink RX11 105 yX1_begin ∈ WT := wt_c4 172 (by decide +kernel) rfl
theorem wI_X1_begin : Cond.instanceMethod yX1_begin ∈ WT := wt_c4 173 (by decide +kernel) rfl
theorem wS_X1_begin : Cond.selects RX1 yX1_begin yX1_begin ∈ WT := wt_c4 174 (by decide +kernel) rfl
set_option maxRecDepth 100000 in
theorem wC_X1_begin : aCode mX1_begin ∈ WT := wt_c4 175 rfl rfl
theorem wM_X1_65 : Cond.methodLink RX1 65 yX9_begin ∈ WT := wt_c4 176 (by decide +kernel) rfl
theorem wI_X9_begin : Cond.instanceMethod yX9_begin ∈ WT := wt_c4 177 (by decide +kernel) rfl
theorem wS_X9_begin : Cond.selects RX9 yX9_begin yX9_begin ∈ WT := wt_c4 178 (by decide +kernel) rfl
set_option maxRecDepth 100000 in
theorem wC_X9_begin : aCode mX9_begin ∈ WT := wt_c4 179 rfl rfl
theorem wM_X1_69 : Cond.methodLink RX1 69 yX5_clear ∈ WT := wt_c4 180 (by decide +kernel) rfl
theorem wI_X5_clear : Cond.instanceMethod yX5_clear ∈ WT := wt_c4 181 (by decide +kernel) rfl
theorem wS_X5_clear : Cond.selects RX5 yX5_clear yX5_clear ∈ WT := wt_c4 182 (by decide +kernel) rfl
set_option maxRecDepth 100000 in
theorem wC_X5_clear : aCode mX5_clear ∈ WT := wt_c4 183 rfl rfl
theorem wM_L_109 : Cond.methodLink RL 109 yL_judge ∈ WT := wt_c4 184 (by decide +kernel) rfl
theorem wT_L_judge : Cond.static yL_judge ∈ WT := wt_c4 185 (by decide +kernel) rfl
set_option maxRecDepth 100000 in
theorem wC_L_judge : aCode mL_judge ∈ WT := wt_c4 186 rfl rfl
theorem wM_L_15 : Cond.methodLink RL 15 yX11_judge ∈ WT := wt_c4 187 (by decide +kernel) rfl
theorem wI_X11_judge : Cond.instanceMethod yX11_judge ∈ WT := wt_c4 188 (by decide +kernel) rfl
theorem wS_X11_judge : Cond.selects RX11 yX11_judge yX11_judge ∈ WT := wt_c4 189 (by decide +kernel) rfl
set_option maxRecDepth 100000 in
theorem wC_X11_judge : aCode mX11_judge ∈ WT := wt_c4 190 rfl rfl
theorem wM_X11_111 : Cond.methodLink RX11 111 yX3_readInto ∈ WT := wt_c4 191 (by decide +kernel) rfl
theorem wI_X3_readInto : Cond.instanceMethod yX3_readInto ∈ WT := wt_c4 192 (by decide +kernel) rfl
theorem wS_X3_readInto : Cond.selects RX3 yX3_readInto yX3_readInto ∈ WT := wt_c4 193 (by decide +kernel) rfl
set_option maxRecDepth 100000 in
theorem wC_X3_readInto : aCode mX3_readInto ∈ WT := wt_c4 194 rfl rfl
theorem wM_X3_19 : Cond.methodLink RX3 19 yX2_clear ∈ WT := wt_c4 195 (by decide +kernel) rfl
theorem wI_X2_clear : Cond.instanceMethod yX2_clear ∈ WT := wt_c4 196 (by decide +kernel) rfl
theorem wS_X2_clear : Cond.selects RX2 yX2_clear yX2_clear ∈ WT := wt_c4 197 (by decide +kernel) rfl
set_option maxRecDepth 100000 in
theorem wC_X2_clear : aCode mX2_clear ∈ WT := wt_c4 198 rfl rfl
theorem wM_X3_24 : Cond.methodLink RX3 24 yX10_open ∈ WT := wt_c4 199 (by decide +kernel) rfl
theorem wM_X3_29 : Cond.methodLink RX3 29 yX3_passLine ∈ WT := wt_c4 200 (by decide +kernel) rfl
theorem wI_X3_passLine : Cond.instanceMethod yX3_passLine ∈ WT := wt_c4 202 (by decide +kernel) rfl
set_option maxRecDepth 100000 in
theorem wC_X3_passLine : aCode mX3_passLine ∈ WT := wt_c4 203 rfl rfl
theorem wM_X3_46 : Cond.methodLink RX3 46 yX10_isWord ∈ WT := wt_c4 205 (by decide +kernel) rfl
theorem wM_X3_55 : Cond.methodLink RX3 55 yX10_advance ∈ WT := wt_c4 207 (by decide +kernel) rfl
theorem wM_X3_58 : Cond.methodLink RX3 58 yX2_beginLine ∈ WT := wt_c4 208 (by decide +kernel) rfl
theorem wI_X2_beginLine : Cond.instanceMethod yX2_beginLine ∈ WT := wt_c4 209 (by decide +kernel) rfl
theorem wS_X2_beginLine : Cond.selects RX2 yX2_beginLine yX2_beginLine ∈ WT := wt_c4 210 (by decide +kernel) rfl
set_option maxRecDepth 100000 in
theorem wC_X2_beginLine : aCode mX2_beginLine ∈ WT := wt_c4 211 rfl rfl
theorem wM_X3_62 : Cond.methodLink RX3 62 yX3_passSum ∈ WT := wt_c4 212 (by decide +kernel) rfl
theorem wI_X3_passSum : Cond.instanceMethod yX3_passSum ∈ WT := wt_c4 214 (by decide +kernel) rfl
set_option maxRecDepth 100000 in
theorem wC_X3_passSum : aCode mX3_passSum ∈ WT := wt_c4 215 rfl rfl
theorem wM_X3_108 : Cond.methodLink RX3 108 yX3_passProduct ∈ WT := wt_c4 216 (by decide +kernel) rfl
theorem wI_X3_passProduct : Cond.instanceMethod yX3_passProduct ∈ WT := wt_c4 218 (by decide +kernel) rfl
set_option maxRecDepth 100000 in
theorem wC_X3_passProduct : aCode mX3_passProduct ∈ WT := wt_c4 219 rfl rfl
theorem wM_X3_111 : Cond.methodLink RX3 111 yX3_passPart ∈ WT := wt_c4 220 (by decide +kernel) rfl
theorem wI_X3_passPart : Cond.instanceMethod yX3_passPart ∈ WT := wt_c4 222 (by decide +kernel) rfl
set_option maxRecDepth 100000 in
theorem wC_X3_passPart : aCode mX3_passPart ∈ WT := wt_c4 223 rfl rfl
theorem wM_X3_99 : Cond.methodLink RX3 99 yX10_isSign ∈ WT := wt_c4 224 (by decide +kernel) rfl
theorem wM_X3_40 : Cond.methodLink RX3 40 yX10_passSign ∈ WT := wt_c4 225 (by decide +kernel) rfl
theorem wM_X3_114 : Cond.methodLink RX3 114 yX3_factTold ∈ WT := wt_c4 226 (by decide +kernel) rfl
theorem wI_X3_factTold : Cond.instanceMethod yX3_factTold ∈ WT := wt_c4 228 (by decide +kernel) rfl
set_option maxRecDepth 100000 in
theorem wC_X3_factTold : aCode mX3_factTold ∈ WT := wt_c4 229 rfl rfl
theorem wM_X3_84 : Cond.methodLink RX3 84 yX2_write ∈ WT := wt_c4 238 (by decide +kernel) rfl
theorem wI_X2_write : Cond.instanceMethod yX2_write ∈ WT := wt_c4 239 (by decide +kernel) rfl
theorem wS_X2_write : Cond.selects RX2 yX2_write yX2_write ∈ WT := wt_c5 0 (by decide +kernel) rfl
set_option maxRecDepth 100000 in
theorem wC_X2_write : aCode mX2_write ∈ WT := wt_c5 1 rfl rfl
theorem wM_X3_118 : Cond.methodLink RX3 118 yX10_passNumber ∈ WT := wt_c5 2 (by decide +kernel) rfl
theorem wM_X3_65 : Cond.methodLink RX3 65 yX2_endSum ∈ WT := wt_c5 3 (by decide +kernel) rfl
theorem wI_X2_endSum : Cond.instanceMethod yX2_endSum ∈ WT := wt_c5 4 (by decide +kernel) rfl
theorem wS_X2_endSum : Cond.selects RX2 yX2_endSum yX2_endSum ∈ WT := wt_c5 5 (by decide +kernel) rfl
set_option maxRecDepth 100000 in
theorem wC_X2_endSum : aCode mX2_endSum ∈ WT := wt_c5 6 rfl rfl
theorem wM_X3_70 : Cond.methodLink RX3 70 yX10_passWord ∈ WT := wt_c5 8 (by decide +kernel) rfl
theorem wM_X3_73 : Cond.methodLink RX3 73 yX3_passAny ∈ WT := wt_c5 9 (by decide +kernel) rfl
theorem wI_X3_passAny : Cond.instanceMethod yX3_passAny ∈ WT := wt_c5 11 (by decide +kernel) rfl
set_option maxRecDepth 100000 in
theorem wC_X3_passAny : aCode mX3_passAny ∈ WT := wt_c5 12 rfl rfl
theorem wM_X3_79 : Cond.methodLink RX3 79 yX3_passAll ∈ WT := wt_c5 13 (by decide +kernel) rfl
theorem wI_X3_passAll : Cond.instanceMethod yX3_passAll ∈ WT := wt_c5 15 (by decide +kernel) rfl
set_option maxRecDepth 100000 in
theorem wC_X3_passAll : aCode mX3_passAll ∈ WT := wt_c5 16 rfl rfl
theorem wM_X3_92 : Cond.methodLink RX3 92 yX3_passAtom ∈ WT := wt_c5 17 (by decide +kernel) rfl
theorem wI_X3_passAtom : Cond.instanceMethod yX3_passAtom ∈ WT := wt_c5 19 (by decide +kernel) rfl
set_option maxRecDepth 100000 in
theorem wC_X3_passAtom : aCode mX3_passAtom ∈ WT := wt_c5 20 rfl rfl
theorem wM_X3_102 : Cond.methodLink RX3 102 yX3_passGroup ∈ WT := wt_c5 22 (by decide +kernel) rfl
theorem wI_X3_passGroup : Cond.instanceMethod yX3_passGroup ∈ WT := wt_c5 24 (by decide +kernel) rfl
set_option maxRecDepth 100000 in
theorem wC_X3_passGroup : aCode mX3_passGroup ∈ WT := wt_c5 25 rfl rfl
theorem wM_X3_105 : Cond.methodLink RX3 105 yX3_passComparison ∈ WT := wt_c5 26 (by decide +kernel) rfl
theorem wI_X3_passComparison : Cond.instanceMethod yX3_passComparison ∈ WT := wt_c5 28 (by decide +kernel) rfl
set_option maxRecDepth 100000 in
theorem wC_X3_passComparison : aCode mX3_passComparison ∈ WT := wt_c5 29 rfl rfl
theorem wM_X3_88 : Cond.methodLink RX3 88 yX2_landHere ∈ WT := wt_c5 31 (by decide +kernel) rfl
theorem wI_X2_landHere : Cond.instanceMethod yX2_landHere ∈ WT := wt_c5 32 (by decide +kernel) rfl
theorem wS_X2_landHere : Cond.selects RX2 yX2_landHere yX2_landHere ∈ WT := wt_c5 33 (by decide +kernel) rfl
set_option maxRecDepth 100000 in
theorem wC_X2_landHere : aCode mX2_landHere ∈ WT := wt_c5 34 rfl rfl
theorem wM_X3_76 : Cond.methodLink RX3 76 yX2_endLine ∈ WT := wt_c5 36 (by decide +kernel) rfl
theorem wI_X2_endLine : Cond.instanceMethod yX2_endLine ∈ WT := wt_c5 37 (by decide +kernel) rfl
theorem wS_X2_endLine : Cond.selects RX2 yX2_endLine yX2_endLine ∈ WT := wt_c5 38 (by decide +kernel) rfl
set_option maxRecDepth 100000 in
theorem wC_X2_endLine : aCode mX2_endLine ∈ WT := wt_c5 39 rfl rfl
theorem wM_L_116 : Cond.methodLink RL 116 yL_anew ∈ WT := wt_c5 41 (by decide +kernel) rfl
theorem wT_L_anew : Cond.static yL_anew ∈ WT := wt_c5 42 (by decide +kernel) rfl
set_option maxRecDepth 100000 in
theorem wC_L_anew : aCode mL_anew ∈ WT := wt_c5 43 rfl rfl
theorem wL_L_21 : Cond.classLink RL 21 "java/lang/IllegalStateException" ∈ WT := wt_c5 44 (by decide +kernel) rfl
theorem wM_L_18 : Cond.methodLink RL 18 yX11_anew ∈ WT := wt_c5 45 (by decide +kernel) rfl
theorem wI_X11_anew : Cond.instanceMethod yX11_anew ∈ WT := wt_c5 46 (by decide +kernel) rfl
theorem wS_X11_anew : Cond.selects RX11 yX11_anew yX11_anew ∈ WT := wt_c5 47 (by decide +kernel) rfl
set_option maxRecDepth 100000 in
theorem wC_X11_anew : aCode mX11_anew ∈ WT := wt_c5 48 rfl rfl
theorem wL_X11_125 : Cond.classLink RX11 125 "java/lang/IllegalStateException" ∈ WT := wt_c5 49 (by decide +kernel) rfl
theorem wA_java_lang_IllegalStateException : Cond.instantiable "java/lang/IllegalStateException" 6 ∈ WT := wt_c5 50 (by decide +kernel) rfl
theorem wM_X11_129 : Cond.methodLink RX11 129 ⟨"java/lang/IllegalStateException", "<init>", "(Ljava/lang/String;)V"⟩ ∈ WT := wt_c5 59 (by decide +kernel) rfl
theorem wM_L_123 : Cond.methodLink RL 123 yL_wave ∈ WT := wt_c5 65 (by decide +kernel) rfl
theorem wT_L_wave : Cond.static yL_wave ∈ WT := wt_c5 66 (by decide +kernel) rfl
set_option maxRecDepth 100000 in
theorem wC_L_wave : aCode mL_wave ∈ WT := wt_c5 67 rfl rfl
theorem wL_L_27 : Cond.classLink RL 27 "java/lang/IndexOutOfBoundsException" ∈ WT := wt_c5 68 (by decide +kernel) rfl
theorem wL_L_29 : Cond.classLink RL 29 "java/util/NoSuchElementException" ∈ WT := wt_c5 69 (by decide +kernel) rfl
theorem wM_L_23 : Cond.methodLink RL 23 yX11_wave ∈ WT := wt_c5 70 (by decide +kernel) rfl
theorem wI_X11_wave : Cond.instanceMethod yX11_wave ∈ WT := wt_c5 71 (by decide +kernel) rfl
theorem wS_X11_wave : Cond.selects RX11 yX11_wave yX11_wave ∈ WT := wt_c5 72 (by decide +kernel) rfl
set_option maxRecDepth 100000 in
theorem wC_X11_wave : aCode mX11_wave ∈ WT := wt_c5 73 rfl rfl
theorem wM_X11_134 : Cond.methodLink RX11 134 yX11_mustBeWave ∈ WT := wt_c5 74 (by decide +kernel) rfl
theorem wI_X11_mustBeWave : Cond.instanceMethod yX11_mustBeWave ∈ WT := wt_c5 76 (by decide +kernel) rfl
set_option maxRecDepth 100000 in
theorem wC_X11_mustBeWave : aCode mX11_mustBeWave ∈ WT := wt_c5 77 rfl rfl
theorem wL_X11_359 : Cond.classLink RX11 359 "java/lang/IndexOutOfBoundsException" ∈ WT := wt_c5 78 (by decide +kernel) rfl
theorem wA_java_lang_IndexOutOfBoundsException : Cond.instantiable "java/lang/IndexOutOfBoundsException" 6 ∈ WT := wt_c5 79 (by decide +kernel) rfl
theorem wM_X11_363 : Cond.methodLink RX11 363 ⟨"java/lang/IndexOutOfBoundsException", "<init>", "(Ljava/lang/String;)V"⟩ ∈ WT := wt_c5 88 (by decide +kernel) rfl
theorem wM_X11_137 : Cond.methodLink RX11 137 yX11_mustBeOneOf ∈ WT := wt_c5 94 (by decide +kernel) rfl
theorem wI_X11_mustBeOneOf : Cond.instanceMethod yX11_mustBeOneOf ∈ WT := wt_c5 96 (by decide +kernel) rfl
set_option maxRecDepth 100000 in
theorem wC_X11_mustBeOneOf : aCode mX11_mustBeOneOf ∈ WT := wt_c5 97 rfl rfl
theorem wL_X11_246 : Cond.classLink RX11 246 "java/util/NoSuchElementException" ∈ WT := wt_c5 98 (by decide +kernel) rfl
theorem wA_java_util_NoSuchElementException : Cond.instantiable "java/util/NoSuchElementException" 6 ∈ WT := wt_c5 99 (by decide +kernel) rfl
theorem wM_X11_250 : Cond.methodLink RX11 250 ⟨"java/util/NoSuchElementException", "<init>", "(Ljava/lang/String;)V"⟩ ∈ WT := wt_c5 108 (by decide +kernel) rfl
theorem wM_X11_141 : Cond.methodLink RX11 141 yX6_factOf ∈ WT := wt_c5 114 (by decide +kernel) rfl
theorem wM_L_127 : Cond.methodLink RL 127 yL_surfer ∈ WT := wt_c5 115 (by decide +kernel) rfl
theorem wT_L_surfer : Cond.static yL_surfer ∈ WT := wt_c5 116 (by decide +kernel) rfl
set_option maxRecDepth 100000 in
theorem wC_L_surfer : aCode mL_surfer ∈ WT := wt_c5 117 rfl rfl
theorem wM_L_31 : Cond.methodLink RL 31 yX11_surfer ∈ WT := wt_c5 118 (by decide +kernel) rfl
theorem wI_X11_surfer : Cond.instanceMethod yX11_surfer ∈ WT := wt_c5 119 (by decide +kernel) rfl
theorem wS_X11_surfer : Cond.selects RX11 yX11_surfer yX11_surfer ∈ WT := wt_c5 120 (by decide +kernel) rfl
set_option maxRecDepth 100000 in
theorem wC_X11_surfer : aCode mX11_surfer ∈ WT := wt_c5 121 rfl rfl
theorem wM_X11_145 : Cond.methodLink RX11 145 yX11_mustBeSurfer ∈ WT := wt_c5 122 (by decide +kernel) rfl
theorem wI_X11_mustBeSurfer : Cond.instanceMethod yX11_mustBeSurfer ∈ WT := wt_c5 124 (by decide +kernel) rfl
set_option maxRecDepth 100000 in
theorem wC_X11_mustBeSurfer : aCode mX11_mustBeSurfer ∈ WT := wt_c5 125 rfl rfl
theorem wM_X11_176 : Cond.methodLink RX11 176 yX8_totalWith ∈ WT := wt_c5 127 (by decide +kernel) rfl
theorem wI_X8_totalWith : Cond.instanceMethod yX8_totalWith ∈ WT := wt_c5 128 (by decide +kernel) rfl
theorem wS_X8_totalWith : Cond.selects RX8 yX8_totalWith yX8_totalWith ∈ WT := wt_c5 129 (by decide +kernel) rfl
set_option maxRecDepth 100000 in
theorem wC_X8_totalWith : aCode mX8_totalWith ∈ WT := wt_c5 130 rfl rfl
theorem wM_X8_15 : Cond.methodLink RX8 15 yJ9_max_7cf53 ∈ WT := wt_c5 131 (by decide +kernel) rfl
theorem wM_X8_21 : Cond.methodLink RX8 21 yJ9_min_7cf53 ∈ WT := wt_c5 132 (by decide +kernel) rfl
theorem wM_X11_180 : Cond.methodLink RX11 180 yX8_rankWith ∈ WT := wt_c5 133 (by decide +kernel) rfl
theorem wI_X8_rankWith : Cond.instanceMethod yX8_rankWith ∈ WT := wt_c5 134 (by decide +kernel) rfl
theorem wS_X8_rankWith : Cond.selects RX8 yX8_rankWith yX8_rankWith ∈ WT := wt_c5 135 (by decide +kernel) rfl
set_option maxRecDepth 100000 in
theorem wC_X8_rankWith : aCode mX8_rankWith ∈ WT := wt_c5 136 rfl rfl
theorem wM_X8_36 : Cond.methodLink RX8 36 yX8_totalWith ∈ WT := wt_c5 137 (by decide +kernel) rfl
theorem wM_L_130 : Cond.methodLink RL 130 yL_name ∈ WT := wt_c5 138 (by decide +kernel) rfl
theorem wT_L_name : Cond.static yL_name ∈ WT := wt_c5 139 (by decide +kernel) rfl
set_option maxRecDepth 100000 in
theorem wC_L_name : aCode mL_name ∈ WT := wt_c5 140 rfl rfl
theorem wM_L_34 : Cond.methodLink RL 34 yX11_name ∈ WT := wt_c5 141 (by decide +kernel) rfl
theorem wI_X11_name : Cond.instanceMethod yX11_name ∈ WT := wt_c5 142 (by decide +kernel) rfl
theorem wS_X11_name : Cond.selects RX11 yX11_name yX11_name ∈ WT := wt_c5 143 (by decide +kernel) rfl
set_option maxRecDepth 100000 in
theorem wC_X11_name : aCode mX11_name ∈ WT := wt_c5 144 rfl rfl
theorem wM_X11_190 : Cond.methodLink RX11 190 yX6_letterOf ∈ WT := wt_c5 145 (by decide +kernel) rfl
theorem wM_L_133 : Cond.methodLink RL 133 yL_goal ∈ WT := wt_c5 146 (by decide +kernel) rfl
theorem wT_L_goal : Cond.static yL_goal ∈ WT := wt_c5 147 (by decide +kernel) rfl
set_option maxRecDepth 100000 in
theorem wC_L_goal : aCode mL_goal ∈ WT := wt_c5 148 rfl rfl
theorem wM_L_37 : Cond.methodLink RL 37 yX11_goal ∈ WT := wt_c5 149 (by decide +kernel) rfl
theorem wI_X11_goal : Cond.instanceMethod yX11_goal ∈ WT := wt_c5 150 (by decide +kernel) rfl
theorem wS_X11_goal : Cond.selects RX11 yX11_goal yX11_goal ∈ WT := wt_c5 151 (by decide +kernel) rfl
set_option maxRecDepth 100000 in
theorem wC_X11_goal : aCode mX11_goal ∈ WT := wt_c5 152 rfl rfl
theorem wM_X11_193 : Cond.methodLink RX11 193 yX11_mustBePlace ∈ WT := wt_c5 153 (by decide +kernel) rfl
theorem wI_X11_mustBePlace : Cond.instanceMethod yX11_mustBePlace ∈ WT := wt_c5 155 (by decide +kernel) rfl
set_option maxRecDepth 100000 in
theorem wC_X11_mustBePlace : aCode mX11_mustBePlace ∈ WT := wt_c5 156 rfl rfl
theorem wM_L_140 : Cond.methodLink RL 140 yL_take ∈ WT := wt_c5 159 (by decide +kernel) rfl
theorem wT_L_take : Cond.static yL_take ∈ WT := wt_c5 160 (by decide +kernel) rfl
set_option maxRecDepth 100000 in
theorem wC_L_take : aCode mL_take ∈ WT := wt_c5 161 rfl rfl
theorem wM_L_40 : Cond.methodLink RL 40 yX11_take ∈ WT := wt_c5 162 (by decide +kernel) rfl
theorem wI_X11_take : Cond.instanceMethod yX11_take ∈ WT := wt_c5 163 (by decide +kernel) rfl
theorem wS_X11_take : Cond.selects RX11 yX11_take yX11_take ∈ WT := wt_c5 164 (by decide +kernel) rfl
set_option maxRecDepth 100000 in
theorem wC_X11_take : aCode mX11_take ∈ WT := wt_c5 165 rfl rfl
theorem wM_X11_210 : Cond.methodLink RX11 210 yX11_mustBeRide ∈ WT := wt_c5 167 (by decide +kernel) rfl
theorem wI_X11_mustBeRide : Cond.instanceMethod yX11_mustBeRide ∈ WT := wt_c5 169 (by decide +kernel) rfl
set_option maxRecDepth 100000 in
theorem wC_X11_mustBeRide : aCode mX11_mustBeRide ∈ WT := wt_c5 170 rfl rfl
theorem wM_X11_216 : Cond.methodLink RX11 216 yX1_canGo ∈ WT := wt_c5 172 (by decide +kernel) rfl
theorem wI_X1_canGo : Cond.instanceMethod yX1_canGo ∈ WT := wt_c5 173 (by decide +kernel) rfl
theorem wS_X1_canGo : Cond.selects RX1 yX1_canGo yX1_canGo ∈ WT := wt_c5 174 (by decide +kernel) rfl
set_option maxRecDepth 100000 in
theorem wC_X1_canGo : aCode mX1_canGo ∈ WT := wt_c5 175 rfl rfl
theorem wM_X11_222 : Cond.methodLink RX11 222 yX1_takenBy ∈ WT := wt_c5 177 (by decide +kernel) rfl
theorem wI_X1_takenBy : Cond.instanceMethod yX1_takenBy ∈ WT := wt_c5 178 (by decide +kernel) rfl
theorem wS_X1_takenBy : Cond.selects RX1 yX1_takenBy yX1_takenBy ∈ WT := wt_c5 179 (by decide +kernel) rfl
set_option maxRecDepth 100000 in
theorem wC_X1_takenBy : aCode mX1_takenBy ∈ WT := wt_c5 180 rfl rfl
theorem wM_X11_226 : Cond.methodLink RX11 226 yX9_lastPlace ∈ WT := wt_c5 181 (by decide +kernel) rfl
theorem wI_X9_lastPlace : Cond.instanceMethod yX9_lastPlace ∈ WT := wt_c5 182 (by decide +kernel) rfl
theorem wS_X9_lastPlace : Cond.selects RX9 yX9_lastPlace yX9_lastPlace ∈ WT := wt_c5 183 (by decide +kernel) rfl
set_option maxRecDepth 100000 in
theorem wC_X9_lastPlace : aCode mX9_lastPlace ∈ WT := wt_c5 184 rfl rfl
theorem wM_L_144 : Cond.methodLink RL 144 yL_right ∈ WT := wt_c5 185 (by decide +kernel) rfl
theorem wT_L_right : Cond.static yL_right ∈ WT := wt_c5 186 (by decide +kernel) rfl
set_option maxRecDepth 100000 in
theorem wC_L_right : aCode mL_right ∈ WT := wt_c5 187 rfl rfl
theorem wM_L_44 : Cond.methodLink RL 44 yX11_right ∈ WT := wt_c5 188 (by decide +kernel) rfl
theorem wI_X11_right : Cond.instanceMethod yX11_right ∈ WT := wt_c5 189 (by decide +kernel) rfl
theorem wS_X11_right : Cond.selects RX11 yX11_right yX11_right ∈ WT := wt_c5 190 (by decide +kernel) rfl
set_option maxRecDepth 100000 in
theorem wC_X11_right : aCode mX11_right ∈ WT := wt_c5 191 rfl rfl
theorem wM_X11_233 : Cond.methodLink RX11 233 yX1_rightOf ∈ WT := wt_c5 194 (by decide +kernel) rfl
theorem wM_L_147 : Cond.methodLink RL 147 yL_hinders ∈ WT := wt_c5 195 (by decide +kernel) rfl
theorem wT_L_hinders : Cond.static yL_hinders ∈ WT := wt_c5 196 (by decide +kernel) rfl
set_option maxRecDepth 100000 in
theorem wC_L_hinders : aCode mL_hinders ∈ WT := wt_c5 197 rfl rfl
theorem wM_L_47 : Cond.methodLink RL 47 yX11_hinders ∈ WT := wt_c5 198 (by decide +kernel) rfl
theorem wI_X11_hinders : Cond.instanceMethod yX11_hinders ∈ WT := wt_c5 199 (by decide +kernel) rfl
theorem wS_X11_hinders : Cond.selects RX11 yX11_hinders yX11_hinders ∈ WT := wt_c5 200 (by decide +kernel) rfl
set_option maxRecDepth 100000 in
theorem wC_X11_hinders : aCode mX11_hinders ∈ WT := wt_c5 201 rfl rfl
theorem wM_X11_243 : Cond.methodLink RX11 243 yX1_hinderedBy ∈ WT := wt_c5 202 (by decide +kernel) rfl
theorem wM_L_151 : Cond.methodLink RL 151 yL_ride ∈ WT := wt_c5 203 (by decide +kernel) rfl
theorem wT_L_ride : Cond.static yL_ride ∈ WT := wt_c5 204 (by decide +kernel) rfl
set_option maxRecDepth 100000 in
theorem wC_L_ride : aCode mL_ride ∈ WT := wt_c5 205 rfl rfl
theorem wM_L_51 : Cond.methodLink RL 51 yX11_ride ∈ WT := wt_c5 206 (by decide +kernel) rfl
theorem wI_X11_ride : Cond.instanceMethod yX11_ride ∈ WT := wt_c5 207 (by decide +kernel) rfl
theorem wS_X11_ride : Cond.selects RX11 yX11_ride yX11_ride ∈ WT := wt_c5 208 (by decide +kernel) rfl
set_option maxRecDepth 100000 in
theorem wC_X11_ride : aCode mX11_ride ∈ WT := wt_c5 209 rfl rfl
theorem wM_X11_251 : Cond.methodLink RX11 251 yX9_rideFact ∈ WT := wt_c5 211 (by decide +kernel) rfl
theorem wI_X9_rideFact : Cond.instanceMethod yX9_rideFact ∈ WT := wt_c5 212 (by decide +kernel) rfl
theorem wS_X9_rideFact : Cond.selects RX9 yX9_rideFact yX9_rideFact ∈ WT := wt_c5 213 (by decide +kernel) rfl
set_option maxRecDepth 100000 in
theorem wC_X9_rideFact : aCode mX9_rideFact ∈ WT := wt_c5 214 rfl rfl
theorem wM_L_155 : Cond.methodLink RL 155 yL_would ∈ WT := wt_c5 215 (by decide +kernel) rfl
theorem wT_L_would : Cond.static yL_would ∈ WT := wt_c5 216 (by decide +kernel) rfl
set_option maxRecDepth 100000 in
theorem wC_L_would : aCode mL_would ∈ WT := wt_c5 217 rfl rfl
theorem wM_L_55 : Cond.methodLink RL 55 yX11_would ∈ WT := wt_c5 218 (by decide +kernel) rfl
theorem wI_X11_would : Cond.instanceMethod yX11_would ∈ WT := wt_c5 219 (by decide +kernel) rfl
theorem wS_X11_would : Cond.selects RX11 yX11_would yX11_would ∈ WT := wt_c5 220 (by decide +kernel) rfl
set_option maxRecDepth 100000 in
theorem wC_X11_would : aCode mX11_would ∈ WT := wt_c5 221 rfl rfl
theorem wM_X11_254 : Cond.methodLink RX11 254 yX1_scoreOf ∈ WT := wt_c5 222 (by decide +kernel) rfl
theorem wM_L_159 : Cond.methodLink RL 159 yL_ranked ∈ WT := wt_c5 223 (by decide +kernel) rfl
theorem wT_L_ranked : Cond.static yL_ranked ∈ WT := wt_c5 224 (by decide +kernel) rfl
set_option maxRecDepth 100000 in
theorem wC_L_ranked : aCode mL_ranked ∈ WT := wt_c5 225 rfl rfl
theorem wM_L_59 : Cond.methodLink RL 59 yX11_ranked ∈ WT := wt_c5 226 (by decide +kernel) rfl
theorem wI_X11_ranked : Cond.instanceMethod yX11_ranked ∈ WT := wt_c5 227 (by decide +kernel) rfl
theorem wS_X11_ranked : Cond.selects RX11 yX11_ranked yX11_ranked ∈ WT := wt_c5 228 (by decide +kernel) rfl
set_option maxRecDepth 100000 in
theorem wC_X11_ranked : aCode mX11_ranked ∈ WT := wt_c5 229 rfl rfl
theorem wM_L_162 : Cond.methodLink RL 162 yL_need ∈ WT := wt_c5 231 (by decide +kernel) rfl
theorem wT_L_need : Cond.static yL_need ∈ WT := wt_c5 232 (by decide +kernel) rfl
set_option maxRecDepth 100000 in
theorem wC_L_need : aCode mL_need ∈ WT := wt_c5 233 rfl rfl
theorem wM_L_62 : Cond.methodLink RL 62 yX11_need ∈ WT := wt_c5 234 (by decide +kernel) rfl
theorem wI_X11_need : Cond.instanceMethod yX11_need ∈ WT := wt_c5 235 (by decide +kernel) rfl
theorem wS_X11_need : Cond.selects RX11 yX11_need yX11_need ∈ WT := wt_c5 236 (by decide +kernel) rfl
set_option maxRecDepth 100000 in
theorem wC_X11_need : aCode mX11_need ∈ WT := wt_c5 237 rfl rfl
theorem wM_X11_260 : Cond.methodLink RX11 260 yX8_leastToLead ∈ WT := wt_c5 238 (by decide +kernel) rfl
theorem wI_X8_leastToLead : Cond.instanceMethod yX8_leastToLead ∈ WT := wt_c5 239 (by decide +kernel) rfl
theorem wS_X8_leastToLead : Cond.selects RX8 yX8_leastToLead yX8_leastToLead ∈ WT := wt_c6 0 (by decide +kernel) rfl
set_option maxRecDepth 100000 in
theorem wC_X8_leastToLead : aCode mX8_leastToLead ∈ WT := wt_c6 1 rfl rfl
theorem wM_X8_58 : Cond.methodLink RX8 58 yX8_rankWith ∈ WT := wt_c6 2 (by decide +kernel) rfl
theorem wM_L_165 : Cond.methodLink RL 165 yL_best ∈ WT := wt_c6 3 (by decide +kernel) rfl
theorem wT_L_best : Cond.static yL_best ∈ WT := wt_c6 4 (by decide +kernel) rfl
set_option maxRecDepth 100000 in
theorem wC_L_best : aCode mL_best ∈ WT := wt_c6 5 rfl rfl
theorem wM_L_65 : Cond.methodLink RL 65 yX11_best ∈ WT := wt_c6 6 (by decide +kernel) rfl
theorem wI_X11_best : Cond.instanceMethod yX11_best ∈ WT := wt_c6 7 (by decide +kernel) rfl
theorem wS_X11_best : Cond.selects RX11 yX11_best yX11_best ∈ WT := wt_c6 8 (by decide +kernel) rfl
set_option maxRecDepth 100000 in
theorem wC_X11_best : aCode mX11_best ∈ WT := wt_c6 9 rfl rfl
theorem wM_X11_266 : Cond.methodLink RX11 266 yX0_findRide ∈ WT := wt_c6 11 (by decide +kernel) rfl
theorem wI_X0_findRide : Cond.instanceMethod yX0_findRide ∈ WT := wt_c6 12 (by decide +kernel) rfl
theorem wS_X0_findRide : Cond.selects RX0 yX0_findRide yX0_findRide ∈ WT := wt_c6 13 (by decide +kernel) rfl
set_option maxRecDepth 100000 in
theorem wC_X0_findRide : aCode mX0_findRide ∈ WT := wt_c6 14 rfl rfl
theorem wM_X0_41 : Cond.methodLink RX0 41 yX1_canGo ∈ WT := wt_c6 15 (by decide +kernel) rfl
theorem wM_X0_47 : Cond.methodLink RX0 47 yX1_hinderedBy ∈ WT := wt_c6 16 (by decide +kernel) rfl
theorem wM_X0_51 : Cond.methodLink RX0 51 yX1_scoreOf ∈ WT := wt_c6 17 (by decide +kernel) rfl
theorem wM_X0_55 : Cond.methodLink RX0 55 yJ9_max_7cf53 ∈ WT := wt_c6 18 (by decide +kernel) rfl
theorem wM_X0_61 : Cond.methodLink RX0 61 yX0_compareRide ∈ WT := wt_c6 19 (by decide +kernel) rfl
theorem wI_X0_compareRide : Cond.instanceMethod yX0_compareRide ∈ WT := wt_c6 21 (by decide +kernel) rfl
set_option maxRecDepth 100000 in
theorem wC_X0_compareRide : aCode mX0_compareRide ∈ WT := wt_c6 22 rfl rfl
theorem wM_L_168 : Cond.methodLink RL 168 yL_plan ∈ WT := wt_c6 23 (by decide +kernel) rfl
theorem wT_L_plan : Cond.static yL_plan ∈ WT := wt_c6 24 (by decide +kernel) rfl
set_option maxRecDepth 100000 in
theorem wC_L_plan : aCode mL_plan ∈ WT := wt_c6 25 rfl rfl
theorem wM_L_68 : Cond.methodLink RL 68 yX11_plan ∈ WT := wt_c6 26 (by decide +kernel) rfl
theorem wI_X11_plan : Cond.instanceMethod yX11_plan ∈ WT := wt_c6 27 (by decide +kernel) rfl
theorem wS_X11_plan : Cond.selects RX11 yX11_plan yX11_plan ∈ WT := wt_c6 28 (by decide +kernel) rfl
set_option maxRecDepth 100000 in
theorem wC_X11_plan : aCode mX11_plan ∈ WT := wt_c6 29 rfl rfl
theorem wM_X11_275 : Cond.methodLink RX11 275 yX11_mustHaveTime ∈ WT := wt_c6 30 (by decide +kernel) rfl
theorem wI_X11_mustHaveTime : Cond.instanceMethod yX11_mustHaveTime ∈ WT := wt_c6 32 (by decide +kernel) rfl
set_option maxRecDepth 100000 in
theorem wC_X11_mustHaveTime : aCode mX11_mustHaveTime ∈ WT := wt_c6 33 rfl rfl
theorem wM_X11_372 : Cond.methodLink RX11 372 yX9_sentIn ∈ WT := wt_c6 34 (by decide +kernel) rfl
theorem wM_X11_283 : Cond.methodLink RX11 283 yX0_findPlan ∈ WT := wt_c6 37 (by decide +kernel) rfl
theorem wI_X0_findPlan : Cond.instanceMethod yX0_findPlan ∈ WT := wt_c6 38 (by decide +kernel) rfl
theorem wS_X0_findPlan : Cond.selects RX0 yX0_findPlan yX0_findPlan ∈ WT := wt_c6 39 (by decide +kernel) rfl
set_option maxRecDepth 100000 in
theorem wC_X0_findPlan : aCode mX0_findPlan ∈ WT := wt_c6 40 rfl rfl
theorem wM_X0_65 : Cond.methodLink RX0 65 yX0_readWaves ∈ WT := wt_c6 41 (by decide +kernel) rfl
theorem wI_X0_readWaves : Cond.instanceMethod yX0_readWaves ∈ WT := wt_c6 43 (by decide +kernel) rfl
set_option maxRecDepth 100000 in
theorem wC_X0_readWaves : aCode mX0_readWaves ∈ WT := wt_c6 44 rfl rfl
theorem wM_X0_98 : Cond.methodLink RX0 98 yX6_factOf ∈ WT := wt_c6 45 (by decide +kernel) rfl
theorem wM_X0_114 : Cond.methodLink RX0 114 yX0_findRide ∈ WT := wt_c6 46 (by decide +kernel) rfl
theorem wM_X0_118 : Cond.methodLink RX0 118 yX9_minutesFor ∈ WT := wt_c6 47 (by decide +kernel) rfl
theorem wM_X0_69 : Cond.methodLink RX0 69 yX8_totalWith ∈ WT := wt_c6 48 (by decide +kernel) rfl
theorem wM_X0_95 : Cond.methodLink RX0 95 yX0_comparePlan ∈ WT := wt_c6 49 (by decide +kernel) rfl
theorem wI_X0_comparePlan : Cond.instanceMethod yX0_comparePlan ∈ WT := wt_c6 51 (by decide +kernel) rfl
set_option maxRecDepth 100000 in
theorem wC_X0_comparePlan : aCode mX0_comparePlan ∈ WT := wt_c6 52 rfl rfl
theorem wM_L_175 : Cond.methodLink RL 175 yL_worth ∈ WT := wt_c6 53 (by decide +kernel) rfl
theorem wT_L_worth : Cond.static yL_worth ∈ WT := wt_c6 54 (by decide +kernel) rfl
set_option maxRecDepth 100000 in
theorem wC_L_worth : aCode mL_worth ∈ WT := wt_c6 55 rfl rfl
theorem wM_L_71 : Cond.methodLink RL 71 yX11_worth ∈ WT := wt_c6 56 (by decide +kernel) rfl
theorem wI_X11_worth : Cond.instanceMethod yX11_worth ∈ WT := wt_c6 57 (by decide +kernel) rfl
theorem wS_X11_worth : Cond.selects RX11 yX11_worth yX11_worth ∈ WT := wt_c6 58 (by decide +kernel) rfl
set_option maxRecDepth 100000 in
theorem wC_X11_worth : aCode mX11_worth ∈ WT := wt_c6 59 rfl rfl
theorem wM_X11_303 : Cond.methodLink RX11 303 yX11_mustLookAhead ∈ WT := wt_c6 60 (by decide +kernel) rfl
theorem wI_X11_mustLookAhead : Cond.instanceMethod yX11_mustLookAhead ∈ WT := wt_c6 62 (by decide +kernel) rfl
set_option maxRecDepth 100000 in
theorem wC_X11_mustLookAhead : aCode mX11_mustLookAhead ∈ WT := wt_c6 63 rfl rfl
theorem wM_X11_307 : Cond.methodLink RX11 307 yX4_worthOf ∈ WT := wt_c6 66 (by decide +kernel) rfl
theorem wI_X4_worthOf : Cond.instanceMethod yX4_worthOf ∈ WT := wt_c6 67 (by decide +kernel) rfl
theorem wS_X4_worthOf : Cond.selects RX4 yX4_worthOf yX4_worthOf ∈ WT := wt_c6 68 (by decide +kernel) rfl
set_option maxRecDepth 100000 in
theorem wC_X4_worthOf : aCode mX4_worthOf ∈ WT := wt_c6 69 rfl rfl
theorem wM_X4_26 : Cond.methodLink RX4 26 yX4_fillPool ∈ WT := wt_c6 70 (by decide +kernel) rfl
theorem wI_X4_fillPool : Cond.instanceMethod yX4_fillPool ∈ WT := wt_c6 72 (by decide +kernel) rfl
set_option maxRecDepth 100000 in
theorem wC_X4_fillPool : aCode mX4_fillPool ∈ WT := wt_c6 73 rfl rfl
theorem wM_X4_63 : Cond.methodLink RX4 63 yX4_keep ∈ WT := wt_c6 74 (by decide +kernel) rfl
theorem wI_X4_keep : Cond.instanceMethod yX4_keep ∈ WT := wt_c6 76 (by decide +kernel) rfl
set_option maxRecDepth 100000 in
theorem wC_X4_keep : aCode mX4_keep ∈ WT := wt_c6 77 rfl rfl
theorem wM_X4_42 : Cond.methodLink RX4 42 yX4_placeOf ∈ WT := wt_c6 78 (by decide +kernel) rfl
theorem wI_X4_placeOf : Cond.instanceMethod yX4_placeOf ∈ WT := wt_c6 80 (by decide +kernel) rfl
set_option maxRecDepth 100000 in
theorem wC_X4_placeOf : aCode mX4_placeOf ∈ WT := wt_c6 81 rfl rfl
theorem wM_X4_34 : Cond.methodLink RX4 34 yX4_write ∈ WT := wt_c6 82 (by decide +kernel) rfl
theorem wI_X4_write : Cond.instanceMethod yX4_write ∈ WT := wt_c6 84 (by decide +kernel) rfl
set_option maxRecDepth 100000 in
theorem wC_X4_write : aCode mX4_write ∈ WT := wt_c6 85 rfl rfl
theorem wM_X4_38 : Cond.methodLink RX4 38 yX4_lookAtWave ∈ WT := wt_c6 86 (by decide +kernel) rfl
theorem wI_X4_lookAtWave : Cond.instanceMethod yX4_lookAtWave ∈ WT := wt_c6 88 (by decide +kernel) rfl
set_option maxRecDepth 100000 in
theorem wC_X4_lookAtWave : aCode mX4_lookAtWave ∈ WT := wt_c6 89 rfl rfl
theorem wM_X4_74 : Cond.methodLink RX4 74 yX4_worthOfWave ∈ WT := wt_c6 90 (by decide +kernel) rfl
theorem wI_X4_worthOfWave : Cond.instanceMethod yX4_worthOfWave ∈ WT := wt_c6 92 (by decide +kernel) rfl
set_option maxRecDepth 100000 in
theorem wC_X4_worthOfWave : aCode mX4_worthOfWave ∈ WT := wt_c6 93 rfl rfl
theorem wM_X4_46 : Cond.methodLink RX4 46 yX4_read ∈ WT := wt_c6 94 (by decide +kernel) rfl
theorem wI_X4_read : Cond.instanceMethod yX4_read ∈ WT := wt_c6 96 (by decide +kernel) rfl
set_option maxRecDepth 100000 in
theorem wC_X4_read : aCode mX4_read ∈ WT := wt_c6 97 rfl rfl
theorem wM_X4_54 : Cond.methodLink RX4 54 yJ9_min_7cf53 ∈ WT := wt_c6 98 (by decide +kernel) rfl
theorem wM_X4_77 : Cond.methodLink RX4 77 yJ9_max_f86c9 ∈ WT := wt_c6 99 (by decide +kernel) rfl
theorem wT_J9_max_f86c9 : Cond.static yJ9_max_f86c9 ∈ WT := wt_c6 100 (by decide +kernel) rfl
set_option maxRecDepth 100000 in
theorem wC_J9_max_f86c9 : aCode mJ9_max_f86c9 ∈ WT := wt_c6 101 rfl rfl
theorem wM_L_178 : Cond.methodLink RL 178 yL_least ∈ WT := wt_c6 102 (by decide +kernel) rfl
theorem wT_L_least : Cond.static yL_least ∈ WT := wt_c6 103 (by decide +kernel) rfl
set_option maxRecDepth 100000 in
theorem wC_L_least : aCode mL_least ∈ WT := wt_c6 104 rfl rfl
theorem wM_L_75 : Cond.methodLink RL 75 yX11_least ∈ WT := wt_c6 105 (by decide +kernel) rfl
theorem wI_X11_least : Cond.instanceMethod yX11_least ∈ WT := wt_c6 106 (by decide +kernel) rfl
theorem wS_X11_least : Cond.selects RX11 yX11_least yX11_least ∈ WT := wt_c6 107 (by decide +kernel) rfl
set_option maxRecDepth 100000 in
theorem wC_X11_least : aCode mX11_least ∈ WT := wt_c6 108 rfl rfl
theorem wM_X11_311 : Cond.methodLink RX11 311 yX4_leastToTake ∈ WT := wt_c6 109 (by decide +kernel) rfl
theorem wI_X4_leastToTake : Cond.instanceMethod yX4_leastToTake ∈ WT := wt_c6 110 (by decide +kernel) rfl
theorem wS_X4_leastToTake : Cond.selects RX4 yX4_leastToTake yX4_leastToTake ∈ WT := wt_c6 111 (by decide +kernel) rfl
set_option maxRecDepth 100000 in
theorem wC_X4_leastToTake : aCode mX4_leastToTake ∈ WT := wt_c6 112 rfl rfl
theorem wM_X4_50 : Cond.methodLink RX4 50 yX4_worthOf ∈ WT := wt_c6 113 (by decide +kernel) rfl
theorem wM_X4_60 : Cond.methodLink RX4 60 yJ9_max_7cf53 ∈ WT := wt_c6 114 (by decide +kernel) rfl
theorem wM_L_181 : Cond.methodLink RL 181 yL_took ∈ WT := wt_c6 115 (by decide +kernel) rfl
theorem wT_L_took : Cond.static yL_took ∈ WT := wt_c6 116 (by decide +kernel) rfl
set_option maxRecDepth 100000 in
theorem wC_L_took : aCode mL_took ∈ WT := wt_c6 117 rfl rfl
theorem wM_L_78 : Cond.methodLink RL 78 yX11_took ∈ WT := wt_c6 118 (by decide +kernel) rfl
theorem wI_X11_took : Cond.instanceMethod yX11_took ∈ WT := wt_c6 119 (by decide +kernel) rfl
theorem wS_X11_took : Cond.selects RX11 yX11_took yX11_took ∈ WT := wt_c6 120 (by decide +kernel) rfl
set_option maxRecDepth 100000 in
theorem wC_X11_took : aCode mX11_took ∈ WT := wt_c6 121 rfl rfl
theorem wM_L_184 : Cond.methodLink RL 184 yL_swim ∈ WT := wt_c6 123 (by decide +kernel) rfl
theorem wT_L_swim : Cond.static yL_swim ∈ WT := wt_c6 124 (by decide +kernel) rfl
set_option maxRecDepth 100000 in
theorem wC_L_swim : aCode mL_swim ∈ WT := wt_c6 125 rfl rfl
theorem wM_L_81 : Cond.methodLink RL 81 yX11_swim ∈ WT := wt_c6 126 (by decide +kernel) rfl
theorem wI_X11_swim : Cond.instanceMethod yX11_swim ∈ WT := wt_c6 127 (by decide +kernel) rfl
theorem wS_X11_swim : Cond.selects RX11 yX11_swim yX11_swim ∈ WT := wt_c6 128 (by decide +kernel) rfl
set_option maxRecDepth 100000 in
theorem wC_X11_swim : aCode mX11_swim ∈ WT := wt_c6 129 rfl rfl
theorem wM_X11_323 : Cond.methodLink RX11 323 yX1_minuteAt ∈ WT := wt_c6 130 (by decide +kernel) rfl
theorem wI_X1_minuteAt : Cond.instanceMethod yX1_minuteAt ∈ WT := wt_c6 131 (by decide +kernel) rfl
theorem wS_X1_minuteAt : Cond.selects RX1 yX1_minuteAt yX1_minuteAt ∈ WT := wt_c6 132 (by decide +kernel) rfl
set_option maxRecDepth 100000 in
theorem wC_X1_minuteAt : aCode mX1_minuteAt ∈ WT := wt_c6 133 rfl rfl
theorem wM_L_187 : Cond.methodLink RL 187 yL_reach ∈ WT := wt_c6 134 (by decide +kernel) rfl
theorem wT_L_reach : Cond.static yL_reach ∈ WT := wt_c6 135 (by decide +kernel) rfl
set_option maxRecDepth 100000 in
theorem wC_L_reach : aCode mL_reach ∈ WT := wt_c6 136 rfl rfl
theorem wM_L_84 : Cond.methodLink RL 84 yX11_reach ∈ WT := wt_c6 137 (by decide +kernel) rfl
theorem wI_X11_reach : Cond.instanceMethod yX11_reach ∈ WT := wt_c6 138 (by decide +kernel) rfl
theorem wS_X11_reach : Cond.selects RX11 yX11_reach yX11_reach ∈ WT := wt_c6 139 (by decide +kernel) rfl
set_option maxRecDepth 100000 in
theorem wC_X11_reach : aCode mX11_reach ∈ WT := wt_c6 140 rfl rfl
theorem wM_X11_328 : Cond.methodLink RX11 328 yX0_reachOf ∈ WT := wt_c6 142 (by decide +kernel) rfl
theorem wI_X0_reachOf : Cond.instanceMethod yX0_reachOf ∈ WT := wt_c6 143 (by decide +kernel) rfl
theorem wS_X0_reachOf : Cond.selects RX0 yX0_reachOf yX0_reachOf ∈ WT := wt_c6 144 (by decide +kernel) rfl
set_option maxRecDepth 100000 in
theorem wC_X0_reachOf : aCode mX0_reachOf ∈ WT := wt_c6 145 rfl rfl
theorem wM_X0_122 : Cond.methodLink RX0 122 yX1_minuteAt ∈ WT := wt_c6 146 (by decide +kernel) rfl
theorem wL_L_88 : Cond.classLink RL 88 "WaveRightModel" ∈ WT := wt_c6 147 (by decide +kernel) rfl
theorem wA_WaveRightModel : Cond.instantiable "WaveRightModel" 54 ∈ WT := wt_c6 148 (by decide +kernel) rfl
theorem wM_L_90 : Cond.methodLink RL 90 yX12_init ∈ WT := wt_c6 149 (by decide +kernel) rfl
theorem wI_X12_init : Cond.instanceMethod yX12_init ∈ WT := wt_c6 150 (by decide +kernel) rfl
set_option maxRecDepth 100000 in
theorem wC_X12_init : aCode mX12_init ∈ WT := wt_c6 151 rfl rfl
theorem wM_X12_3 : Cond.methodLink RX12 3 ⟨"java/lang/Object", "<init>", "()V"⟩ ∈ WT := wt_c6 152 (by decide +kernel) rfl
theorem wF_X12_105 : Cond.fieldLink RX12 105 "WaveRightModel" "thrown" "I" ∈ WT := wt_c6 153 (by decide +kernel) rfl
theorem wF_X12_9 : Cond.fieldLink RX12 9 "WaveRightModel" "tape" "[B" ∈ WT := wt_c6 154 (by decide +kernel) rfl
theorem wF_X12_108 : Cond.fieldLink RX12 108 "WaveRightModel" "taped" "I" ∈ WT := wt_c6 155 (by decide +kernel) rfl
theorem wF_X12_13 : Cond.fieldLink RX12 13 "WaveRightModel" "five" "[I" ∈ WT := wt_c6 156 (by decide +kernel) rfl
theorem wF_X12_114 : Cond.fieldLink RX12 114 "WaveRightModel" "point" "I" ∈ WT := wt_c6 157 (by decide +kernel) rfl
theorem wF_X12_124 : Cond.fieldLink RX12 124 "WaveRightModel" "begin" "I" ∈ WT := wt_c6 158 (by decide +kernel) rfl
theorem wF_X12_111 : Cond.fieldLink RX12 111 "WaveRightModel" "size" "I" ∈ WT := wt_c6 159 (by decide +kernel) rfl
theorem wF_X12_117 : Cond.fieldLink RX12 117 "WaveRightModel" "faultAt" "I" ∈ WT := wt_c6 160 (by decide +kernel) rfl
theorem wF_X12_17 : Cond.fieldLink RX12 17 "WaveRightModel" "fault" "I" ∈ WT := wt_c6 161 (by decide +kernel) rfl
theorem wF_X12_21 : Cond.fieldLink RX12 21 "WaveRightModel" "sea" "[I" ∈ WT := wt_c6 162 (by decide +kernel) rfl
theorem wF_X12_24 : Cond.fieldLink RX12 24 "WaveRightModel" "draft" "[I" ∈ WT := wt_c6 163 (by decide +kernel) rfl
theorem wF_X12_234 : Cond.fieldLink RX12 234 "WaveRightModel" "hasSea" "Z" ∈ WT := wt_c6 164 (by decide +kernel) rfl
theorem wF_X12_214 : Cond.fieldLink RX12 214 "WaveRightModel" "hasHeat" "Z" ∈ WT := wt_c6 165 (by decide +kernel) rfl
theorem wF_X12_217 : Cond.fieldLink RX12 217 "WaveRightModel" "hasAgain" "Z" ∈ WT := wt_c6 166 (by decide +kernel) rfl
theorem wF_X12_27 : Cond.fieldLink RX12 27 "WaveRightModel" "code" "[I" ∈ WT := wt_c6 167 (by decide +kernel) rfl
theorem wF_X12_30 : Cond.fieldLink RX12 30 "WaveRightModel" "draftCode" "[I" ∈ WT := wt_c6 168 (by decide +kernel) rfl
theorem wF_X12_33 : Cond.fieldLink RX12 33 "WaveRightModel" "lineAt" "[I" ∈ WT := wt_c6 169 (by decide +kernel) rfl
theorem wF_X12_36 : Cond.fieldLink RX12 36 "WaveRightModel" "draftLine" "[I" ∈ WT := wt_c6 170 (by decide +kernel) rfl
theorem wF_X12_39 : Cond.fieldLink RX12 39 "WaveRightModel" "lineMany" "I" ∈ WT := wt_c6 171 (by decide +kernel) rfl
theorem wF_X12_292 : Cond.fieldLink RX12 292 "WaveRightModel" "draftLines" "I" ∈ WT := wt_c6 172 (by decide +kernel) rfl
theorem wF_X12_240 : Cond.fieldLink RX12 240 "WaveRightModel" "coded" "I" ∈ WT := wt_c6 173 (by decide +kernel) rfl
theorem wF_X12_256 : Cond.fieldLink RX12 256 "WaveRightModel" "deep" "I" ∈ WT := wt_c6 174 (by decide +kernel) rfl
theorem wF_X12_42 : Cond.fieldLink RX12 42 "WaveRightModel" "facts" "[I" ∈ WT := wt_c6 175 (by decide +kernel) rfl
theorem wF_X12_304 : Cond.fieldLink RX12 304 "WaveRightModel" "unjudged" "I" ∈ WT := wt_c6 176 (by decide +kernel) rfl
theorem wF_X12_45 : Cond.fieldLink RX12 45 "WaveRightModel" "pile" "[J" ∈ WT := wt_c6 177 (by decide +kernel) rfl
theorem wF_X12_352 : Cond.fieldLink RX12 352 "WaveRightModel" "minute" "I" ∈ WT := wt_c6 178 (by decide +kernel) rfl
theorem wF_X12_340 : Cond.fieldLink RX12 340 "WaveRightModel" "start" "I" ∈ WT := wt_c6 179 (by decide +kernel) rfl
theorem wF_X12_49 : Cond.fieldLink RX12 49 "WaveRightModel" "there" "I" ∈ WT := wt_c6 180 (by decide +kernel) rfl
theorem wF_X12_354 : Cond.fieldLink RX12 354 "WaveRightModel" "next" "I" ∈ WT := wt_c6 181 (by decide +kernel) rfl
theorem wF_X12_357 : Cond.fieldLink RX12 357 "WaveRightModel" "agains" "I" ∈ WT := wt_c6 182 (by decide +kernel) rfl
theorem wF_X12_349 : Cond.fieldLink RX12 349 "WaveRightModel" "taken" "I" ∈ WT := wt_c6 183 (by decide +kernel) rfl
theorem wF_X12_360 : Cond.fieldLink RX12 360 "WaveRightModel" "judgedAll" "I" ∈ WT := wt_c6 184 (by decide +kernel) rfl
theorem wF_X12_363 : Cond.fieldLink RX12 363 "WaveRightModel" "unjudgedAll" "I" ∈ WT := wt_c6 185 (by decide +kernel) rfl
theorem wF_X12_366 : Cond.fieldLink RX12 366 "WaveRightModel" "seenMany" "I" ∈ WT := wt_c6 186 (by decide +kernel) rfl
theorem wF_X12_369 : Cond.fieldLink RX12 369 "WaveRightModel" "rowMany" "I" ∈ WT := wt_c6 187 (by decide +kernel) rfl
theorem wF_X12_52 : Cond.fieldLink RX12 52 "WaveRightModel" "isOver" "Z" ∈ WT := wt_c6 188 (by decide +kernel) rfl
theorem wF_X12_372 : Cond.fieldLink RX12 372 "WaveRightModel" "hasPriority" "Z" ∈ WT := wt_c6 189 (by decide +kernel) rfl
theorem wF_X12_375 : Cond.fieldLink RX12 375 "WaveRightModel" "wasTaken" "Z" ∈ WT := wt_c6 190 (by decide +kernel) rfl
theorem wF_X12_56 : Cond.fieldLink RX12 56 "WaveRightModel" "place" "[I" ∈ WT := wt_c6 191 (by decide +kernel) rfl
theorem wF_X12_59 : Cond.fieldLink RX12 59 "WaveRightModel" "goal" "[I" ∈ WT := wt_c6 192 (by decide +kernel) rfl
theorem wF_X12_62 : Cond.fieldLink RX12 62 "WaveRightModel" "back" "[I" ∈ WT := wt_c6 193 (by decide +kernel) rfl
theorem wF_X12_65 : Cond.fieldLink RX12 65 "WaveRightModel" "hinderings" "[I" ∈ WT := wt_c6 194 (by decide +kernel) rfl
theorem wF_X12_68 : Cond.fieldLink RX12 68 "WaveRightModel" "rides" "[I" ∈ WT := wt_c6 195 (by decide +kernel) rfl
theorem wF_X12_71 : Cond.fieldLink RX12 71 "WaveRightModel" "takenWay" "[I" ∈ WT := wt_c6 196 (by decide +kernel) rfl
theorem wF_X12_74 : Cond.fieldLink RX12 74 "WaveRightModel" "takenRide" "[I" ∈ WT := wt_c6 197 (by decide +kernel) rfl
theorem wF_X12_77 : Cond.fieldLink RX12 77 "WaveRightModel" "takenTurns" "[I" ∈ WT := wt_c6 198 (by decide +kernel) rfl
theorem wF_X12_80 : Cond.fieldLink RX12 80 "WaveRightModel" "row" "[I" ∈ WT := wt_c6 199 (by decide +kernel) rfl
theorem wF_X12_83 : Cond.fieldLink RX12 83 "WaveRightModel" "seen" "[I" ∈ WT := wt_c6 200 (by decide +kernel) rfl
theorem wF_X12_86 : Cond.fieldLink RX12 86 "WaveRightModel" "isOut" "[Z" ∈ WT := wt_c6 201 (by decide +kernel) rfl
theorem wF_X12_90 : Cond.fieldLink RX12 90 "WaveRightModel" "ride" "[I" ∈ WT := wt_c6 202 (by decide +kernel) rfl
theorem wF_X12_93 : Cond.fieldLink RX12 93 "WaveRightModel" "whom" "[I" ∈ WT := wt_c6 203 (by decide +kernel) rfl
theorem wF_X12_96 : Cond.fieldLink RX12 96 "WaveRightModel" "bestRide" "[I" ∈ WT := wt_c6 204 (by decide +kernel) rfl
theorem wF_X12_99 : Cond.fieldLink RX12 99 "WaveRightModel" "planScore" "[I" ∈ WT := wt_c6 205 (by decide +kernel) rfl
theorem wF_X12_102 : Cond.fieldLink RX12 102 "WaveRightModel" "planBack" "[I" ∈ WT := wt_c6 206 (by decide +kernel) rfl
theorem wM_L_106 : Cond.methodLink RL 106 yX12_thrown ∈ WT := wt_c7 76 (by decide +kernel) rfl
theorem wI_X12_thrown : Cond.instanceMethod yX12_thrown ∈ WT := wt_c7 77 (by decide +kernel) rfl
theorem wS_X12_thrown : Cond.selects RX12 yX12_thrown yX12_thrown ∈ WT := wt_c7 78 (by decide +kernel) rfl
set_option maxRecDepth 100000 in
theorem wC_X12_thrown : aCode mX12_thrown ∈ WT := wt_c7 79 rfl rfl
theorem wM_L_94 : Cond.methodLink RL 94 yX12_feed ∈ WT := wt_c7 80 (by decide +kernel) rfl
theorem wI_X12_feed : Cond.instanceMethod yX12_feed ∈ WT := wt_c7 81 (by decide +kernel) rfl
theorem wS_X12_feed : Cond.selects RX12 yX12_feed yX12_feed ∈ WT := wt_c7 82 (by decide +kernel) rfl
set_option maxRecDepth 100000 in
theorem wC_X12_feed : aCode mX12_feed ∈ WT := wt_c7 83 rfl rfl
theorem wM_L_99 : Cond.methodLink RL 99 yX12_end ∈ WT := wt_c7 84 (by decide +kernel) rfl
theorem wI_X12_end : Cond.instanceMethod yX12_end ∈ WT := wt_c7 85 (by decide +kernel) rfl
theorem wS_X12_end : Cond.selects RX12 yX12_end yX12_end ∈ WT := wt_c7 86 (by decide +kernel) rfl
set_option maxRecDepth 100000 in
theorem wC_X12_end : aCode mX12_end ∈ WT := wt_c7 87 rfl rfl
theorem wM_L_115 : Cond.methodLink RL 115 yX12_fault ∈ WT := wt_c7 88 (by decide +kernel) rfl
theorem wI_X12_fault : Cond.instanceMethod yX12_fault ∈ WT := wt_c7 89 (by decide +kernel) rfl
theorem wS_X12_fault : Cond.selects RX12 yX12_fault yX12_fault ∈ WT := wt_c7 90 (by decide +kernel) rfl
set_option maxRecDepth 100000 in
theorem wC_X12_fault : aCode mX12_fault ∈ WT := wt_c7 91 rfl rfl
theorem wM_L_105 : Cond.methodLink RL 105 yX12_sea ∈ WT := wt_c7 92 (by decide +kernel) rfl
theorem wI_X12_sea : Cond.instanceMethod yX12_sea ∈ WT := wt_c7 93 (by decide +kernel) rfl
theorem wS_X12_sea : Cond.selects RX12 yX12_sea yX12_sea ∈ WT := wt_c7 94 (by decide +kernel) rfl
set_option maxRecDepth 100000 in
theorem wC_X12_sea : aCode mX12_sea ∈ WT := wt_c7 95 rfl rfl
theorem wM_X12_224 : Cond.methodLink RX12 224 yX12_begins ∈ WT := wt_c7 96 (by decide +kernel) rfl
theorem wI_X12_begins : Cond.instanceMethod yX12_begins ∈ WT := wt_c7 98 (by decide +kernel) rfl
set_option maxRecDepth 100000 in
theorem wC_X12_begins : aCode mX12_begins ∈ WT := wt_c7 99 rfl rfl
theorem wM_X12_127 : Cond.methodLink RX12 127 yX12_blanks ∈ WT := wt_c7 100 (by decide +kernel) rfl
theorem wI_X12_blanks : Cond.instanceMethod yX12_blanks ∈ WT := wt_c7 102 (by decide +kernel) rfl
set_option maxRecDepth 100000 in
theorem wC_X12_blanks : aCode mX12_blanks ∈ WT := wt_c7 103 rfl rfl
theorem wM_X12_120 : Cond.methodLink RX12 120 yX12_isAt ∈ WT := wt_c7 104 (by decide +kernel) rfl
theorem wI_X12_isAt : Cond.instanceMethod yX12_isAt ∈ WT := wt_c7 106 (by decide +kernel) rfl
set_option maxRecDepth 100000 in
theorem wC_X12_isAt : aCode mX12_isAt ∈ WT := wt_c7 107 rfl rfl
theorem wM_X12_130 : Cond.methodLink RX12 130 yX12_hasFailed ∈ WT := wt_c7 108 (by decide +kernel) rfl
theorem wI_X12_hasFailed : Cond.instanceMethod yX12_hasFailed ∈ WT := wt_c7 110 (by decide +kernel) rfl
set_option maxRecDepth 100000 in
theorem wC_X12_hasFailed : aCode mX12_hasFailed ∈ WT := wt_c7 111 rfl rfl
theorem wM_X12_227 : Cond.methodLink RX12 227 yX12_seaLine ∈ WT := wt_c7 112 (by decide +kernel) rfl
theorem wI_X12_seaLine : Cond.instanceMethod yX12_seaLine ∈ WT := wt_c7 114 (by decide +kernel) rfl
set_option maxRecDepth 100000 in
theorem wC_X12_seaLine : aCode mX12_seaLine ∈ WT := wt_c7 115 rfl rfl
theorem wM_X12_157 : Cond.methodLink RX12 157 yX12_isWord ∈ WT := wt_c7 117 (by decide +kernel) rfl
theorem wI_X12_isWord : Cond.instanceMethod yX12_isWord ∈ WT := wt_c7 119 (by decide +kernel) rfl
set_option maxRecDepth 100000 in
theorem wC_X12_isWord : aCode mX12_isWord ∈ WT := wt_c7 120 rfl rfl
theorem wM_X12_144 : Cond.methodLink RX12 144 yX12_wordMany ∈ WT := wt_c7 121 (by decide +kernel) rfl
theorem wI_X12_wordMany : Cond.instanceMethod yX12_wordMany ∈ WT := wt_c7 123 (by decide +kernel) rfl
set_option maxRecDepth 100000 in
theorem wC_X12_wordMany : aCode mX12_wordMany ∈ WT := wt_c7 124 rfl rfl
theorem wM_X12_148 : Cond.methodLink RX12 148 yJ0_length_8abf5 ∈ WT := wt_c7 125 (by decide +kernel) rfl
theorem wM_X12_153 : Cond.methodLink RX12 153 yJ0_charAt_5068e ∈ WT := wt_c7 126 (by decide +kernel) rfl
theorem wM_X12_208 : Cond.methodLink RX12 208 yX12_surferLine ∈ WT := wt_c7 127 (by decide +kernel) rfl
theorem wI_X12_surferLine : Cond.instanceMethod yX12_surferLine ∈ WT := wt_c7 129 (by decide +kernel) rfl
set_option maxRecDepth 100000 in
theorem wC_X12_surferLine : aCode mX12_surferLine ∈ WT := wt_c7 130 rfl rfl
theorem wM_X12_141 : Cond.methodLink RX12 141 yX12_fails ∈ WT := wt_c7 131 (by decide +kernel) rfl
theorem wI_X12_fails : Cond.instanceMethod yX12_fails ∈ WT := wt_c7 133 (by decide +kernel) rfl
set_option maxRecDepth 100000 in
theorem wC_X12_fails : aCode mX12_fails ∈ WT := wt_c7 134 rfl rfl
theorem wM_X12_168 : Cond.methodLink RX12 168 yX12_asksWord ∈ WT := wt_c7 135 (by decide +kernel) rfl
theorem wI_X12_asksWord : Cond.instanceMethod yX12_asksWord ∈ WT := wt_c7 137 (by decide +kernel) rfl
set_option maxRecDepth 100000 in
theorem wC_X12_asksWord : aCode mX12_asksWord ∈ WT := wt_c7 138 rfl rfl
theorem wM_X12_161 : Cond.methodLink RX12 161 yX12_takesWord ∈ WT := wt_c7 139 (by decide +kernel) rfl
theorem wI_X12_takesWord : Cond.instanceMethod yX12_takesWord ∈ WT := wt_c7 141 (by decide +kernel) rfl
set_option maxRecDepth 100000 in
theorem wC_X12_takesWord : aCode mX12_takesWord ∈ WT := wt_c7 142 rfl rfl
theorem wM_X12_198 : Cond.methodLink RX12 198 yX12_isName ∈ WT := wt_c7 143 (by decide +kernel) rfl
theorem wI_X12_isName : Cond.instanceMethod yX12_isName ∈ WT := wt_c7 145 (by decide +kernel) rfl
set_option maxRecDepth 100000 in
theorem wC_X12_isName : aCode mX12_isName ∈ WT := wt_c7 146 rfl rfl
theorem wM_X12_201 : Cond.methodLink RX12 201 yX12_isTold ∈ WT := wt_c7 157 (by decide +kernel) rfl
theorem wI_X12_isTold : Cond.instanceMethod yX12_isTold ∈ WT := wt_c7 159 (by decide +kernel) rfl
set_option maxRecDepth 100000 in
theorem wC_X12_isTold : aCode mX12_isTold ∈ WT := wt_c7 160 rfl rfl
theorem wM_X12_204 : Cond.methodLink RX12 204 yX12_after ∈ WT := wt_c7 161 (by decide +kernel) rfl
theorem wI_X12_after : Cond.instanceMethod yX12_after ∈ WT := wt_c7 163 (by decide +kernel) rfl
set_option maxRecDepth 100000 in
theorem wC_X12_after : aCode mX12_after ∈ WT := wt_c7 164 rfl rfl
theorem wM_X12_172 : Cond.methodLink RX12 172 yX12_number ∈ WT := wt_c7 165 (by decide +kernel) rfl
theorem wI_X12_number : Cond.instanceMethod yX12_number ∈ WT := wt_c7 167 (by decide +kernel) rfl
set_option maxRecDepth 100000 in
theorem wC_X12_number : aCode mX12_number ∈ WT := wt_c7 168 rfl rfl
theorem wM_X12_164 : Cond.methodLink RX12 164 yX12_in ∈ WT := wt_c7 169 (by decide +kernel) rfl
theorem wT_X12_in : Cond.static yX12_in ∈ WT := wt_c7 170 (by decide +kernel) rfl
set_option maxRecDepth 100000 in
theorem wC_X12_in : aCode mX12_in ∈ WT := wt_c7 171 rfl rfl
theorem wM_X12_211 : Cond.methodLink RX12 211 yX12_waveLine ∈ WT := wt_c7 172 (by decide +kernel) rfl
theorem wI_X12_waveLine : Cond.instanceMethod yX12_waveLine ∈ WT := wt_c7 174 (by decide +kernel) rfl
set_option maxRecDepth 100000 in
theorem wC_X12_waveLine : aCode mX12_waveLine ∈ WT := wt_c7 175 rfl rfl
theorem wM_X12_220 : Cond.methodLink RX12 220 yX12_asksSign ∈ WT := wt_c7 176 (by decide +kernel) rfl
theorem wI_X12_asksSign : Cond.instanceMethod yX12_asksSign ∈ WT := wt_c7 178 (by decide +kernel) rfl
set_option maxRecDepth 100000 in
theorem wC_X12_asksSign : aCode mX12_asksSign ∈ WT := wt_c7 179 rfl rfl
theorem wM_X12_138 : Cond.methodLink RX12 138 yX12_takes ∈ WT := wt_c7 180 (by decide +kernel) rfl
theorem wI_X12_takes : Cond.instanceMethod yX12_takes ∈ WT := wt_c7 182 (by decide +kernel) rfl
set_option maxRecDepth 100000 in
theorem wC_X12_takes : aCode mX12_takes ∈ WT := wt_c7 183 rfl rfl
theorem wM_X12_134 : Cond.methodLink RX12 134 yX12_isSign ∈ WT := wt_c7 184 (by decide +kernel) rfl
theorem wI_X12_isSign : Cond.instanceMethod yX12_isSign ∈ WT := wt_c7 186 (by decide +kernel) rfl
set_option maxRecDepth 100000 in
theorem wC_X12_isSign : aCode mX12_isSign ∈ WT := wt_c7 187 rfl rfl
theorem wM_X12_230 : Cond.methodLink RX12 230 yX12_throwsIf ∈ WT := wt_c7 188 (by decide +kernel) rfl
theorem wI_X12_throwsIf : Cond.instanceMethod yX12_throwsIf ∈ WT := wt_c7 190 (by decide +kernel) rfl
set_option maxRecDepth 100000 in
theorem wC_X12_throwsIf : aCode mX12_throwsIf ∈ WT := wt_c7 191 rfl rfl
theorem wM_X12_237 : Cond.methodLink RX12 237 yX12_beginsHeat ∈ WT := wt_c7 192 (by decide +kernel) rfl
theorem wI_X12_beginsHeat : Cond.instanceMethod yX12_beginsHeat ∈ WT := wt_c7 194 (by decide +kernel) rfl
set_option maxRecDepth 100000 in
theorem wC_X12_beginsHeat : aCode mX12_beginsHeat ∈ WT := wt_c7 195 rfl rfl
theorem wM_X12_378 : Cond.methodLink RX12 378 yX12_surfers ∈ WT := wt_c7 196 (by decide +kernel) rfl
theorem wI_X12_surfers : Cond.instanceMethod yX12_surfers ∈ WT := wt_c7 198 (by decide +kernel) rfl
set_option maxRecDepth 100000 in
theorem wC_X12_surfers : aCode mX12_surfers ∈ WT := wt_c7 199 rfl rfl
theorem wM_L_111 : Cond.methodLink RL 111 yX12_judge ∈ WT := wt_c7 200 (by decide +kernel) rfl
theorem wI_X12_judge : Cond.instanceMethod yX12_judge ∈ WT := wt_c7 201 (by decide +kernel) rfl
theorem wS_X12_judge : Cond.selects RX12 yX12_judge yX12_judge ∈ WT := wt_c7 202 (by decide +kernel) rfl
set_option maxRecDepth 100000 in
theorem wC_X12_judge : aCode mX12_judge ∈ WT := wt_c7 203 rfl rfl
theorem wM_X12_301 : Cond.methodLink RX12 301 yX12_judgeLine ∈ WT := wt_c7 204 (by decide +kernel) rfl
theorem wI_X12_judgeLine : Cond.instanceMethod yX12_judgeLine ∈ WT := wt_c7 206 (by decide +kernel) rfl
set_option maxRecDepth 100000 in
theorem wC_X12_judgeLine : aCode mX12_judgeLine ∈ WT := wt_c7 207 rfl rfl
theorem wM_X12_267 : Cond.methodLink RX12 267 yX12_sum ∈ WT := wt_c7 210 (by decide +kernel) rfl
theorem wI_X12_sum : Cond.instanceMethod yX12_sum ∈ WT := wt_c7 212 (by decide +kernel) rfl
set_option maxRecDepth 100000 in
theorem wC_X12_sum : aCode mX12_sum ∈ WT := wt_c7 213 rfl rfl
theorem wM_X12_270 : Cond.methodLink RX12 270 yX12_product ∈ WT := wt_c7 214 (by decide +kernel) rfl
theorem wI_X12_product : Cond.instanceMethod yX12_product ∈ WT := wt_c7 216 (by decide +kernel) rfl
set_option maxRecDepth 100000 in
theorem wC_X12_product : aCode mX12_product ∈ WT := wt_c7 217 rfl rfl
theorem wM_X12_273 : Cond.methodLink RX12 273 yX12_part ∈ WT := wt_c7 218 (by decide +kernel) rfl
theorem wI_X12_part : Cond.instanceMethod yX12_part ∈ WT := wt_c7 220 (by decide +kernel) rfl
set_option maxRecDepth 100000 in
theorem wC_X12_part : aCode mX12_part ∈ WT := wt_c7 221 rfl rfl
theorem wM_X12_286 : Cond.methodLink RX12 286 yX12_isNumber ∈ WT := wt_c7 222 (by decide +kernel) rfl
theorem wI_X12_isNumber : Cond.instanceMethod yX12_isNumber ∈ WT := wt_c7 224 (by decide +kernel) rfl
set_option maxRecDepth 100000 in
theorem wC_X12_isNumber : aCode mX12_isNumber ∈ WT := wt_c7 225 rfl rfl
theorem wM_X12_248 : Cond.methodLink RX12 248 yX12_codes ∈ WT := wt_c7 226 (by decide +kernel) rfl
theorem wI_X12_codes : Cond.instanceMethod yX12_codes ∈ WT := wt_c7 228 (by decide +kernel) rfl
set_option maxRecDepth 100000 in
theorem wC_X12_codes : aCode mX12_codes ∈ WT := wt_c7 229 rfl rfl
theorem wM_X12_261 : Cond.methodLink RX12 261 yX12_goesIn ∈ WT := wt_c7 230 (by decide +kernel) rfl
theorem wI_X12_goesIn : Cond.instanceMethod yX12_goesIn ∈ WT := wt_c7 232 (by decide +kernel) rfl
set_option maxRecDepth 100000 in
theorem wC_X12_goesIn : aCode mX12_goesIn ∈ WT := wt_c7 233 rfl rfl
theorem wM_X12_289 : Cond.methodLink RX12 289 yX12_fact ∈ WT := wt_c7 234 (by decide +kernel) rfl
theorem wI_X12_fact : Cond.instanceMethod yX12_fact ∈ WT := wt_c7 236 (by decide +kernel) rfl
set_option maxRecDepth 100000 in
theorem wC_X12_fact : aCode mX12_fact ∈ WT := wt_c7 237 rfl rfl
theorem wM_X12_264 : Cond.methodLink RX12 264 yX12_some ∈ WT := wt_c8 5 (by decide +kernel) rfl
theorem wI_X12_some : Cond.instanceMethod yX12_some ∈ WT := wt_c8 7 (by decide +kernel) rfl
set_option maxRecDepth 100000 in
theorem wC_X12_some : aCode mX12_some ∈ WT := wt_c8 8 rfl rfl
theorem wM_X12_243 : Cond.methodLink RX12 243 yX12_every ∈ WT := wt_c8 9 (by decide +kernel) rfl
theorem wI_X12_every : Cond.instanceMethod yX12_every ∈ WT := wt_c8 11 (by decide +kernel) rfl
set_option maxRecDepth 100000 in
theorem wC_X12_every : aCode mX12_every ∈ WT := wt_c8 12 rfl rfl
theorem wM_X12_251 : Cond.methodLink RX12 251 yX12_atom ∈ WT := wt_c8 13 (by decide +kernel) rfl
theorem wI_X12_atom : Cond.instanceMethod yX12_atom ∈ WT := wt_c8 15 (by decide +kernel) rfl
set_option maxRecDepth 100000 in
theorem wC_X12_atom : aCode mX12_atom ∈ WT := wt_c8 16 rfl rfl
theorem wM_L_118 : Cond.methodLink RL 118 yX12_anew ∈ WT := wt_c8 20 (by decide +kernel) rfl
theorem wI_X12_anew : Cond.instanceMethod yX12_anew ∈ WT := wt_c8 21 (by decide +kernel) rfl
theorem wS_X12_anew : Cond.selects RX12 yX12_anew yX12_anew ∈ WT := wt_c8 22 (by decide +kernel) rfl
set_option maxRecDepth 100000 in
theorem wC_X12_anew : aCode mX12_anew ∈ WT := wt_c8 23 rfl rfl
theorem wM_L_122 : Cond.methodLink RL 122 yX12_comes ∈ WT := wt_c8 24 (by decide +kernel) rfl
theorem wI_X12_comes : Cond.instanceMethod yX12_comes ∈ WT := wt_c8 25 (by decide +kernel) rfl
theorem wS_X12_comes : Cond.selects RX12 yX12_comes yX12_comes ∈ WT := wt_c8 26 (by decide +kernel) rfl
set_option maxRecDepth 100000 in
theorem wC_X12_comes : aCode mX12_comes ∈ WT := wt_c8 27 rfl rfl
theorem wM_X12_419 : Cond.methodLink RX12 419 yX12_goesBy ∈ WT := wt_c8 28 (by decide +kernel) rfl
theorem wI_X12_goesBy : Cond.instanceMethod yX12_goesBy ∈ WT := wt_c8 30 (by decide +kernel) rfl
set_option maxRecDepth 100000 in
theorem wC_X12_goesBy : aCode mX12_goesBy ∈ WT := wt_c8 31 rfl rfl
theorem wM_X12_400 : Cond.methodLink RX12 400 yX12_hindersNow ∈ WT := wt_c8 32 (by decide +kernel) rfl
theorem wI_X12_hindersNow : Cond.instanceMethod yX12_hindersNow ∈ WT := wt_c8 34 (by decide +kernel) rfl
set_option maxRecDepth 100000 in
theorem wC_X12_hindersNow : aCode mX12_hindersNow ∈ WT := wt_c8 35 rfl rfl
theorem wM_X12_387 : Cond.methodLink RX12 387 yX12_hasTaken ∈ WT := wt_c8 36 (by decide +kernel) rfl
theorem wI_X12_hasTaken : Cond.instanceMethod yX12_hasTaken ∈ WT := wt_c8 38 (by decide +kernel) rfl
set_option maxRecDepth 100000 in
theorem wC_X12_hasTaken : aCode mX12_hasTaken ∈ WT := wt_c8 39 rfl rfl
theorem wM_X12_397 : Cond.methodLink RX12 397 yX12_hindersBy ∈ WT := wt_c8 40 (by decide +kernel) rfl
theorem wI_X12_hindersBy : Cond.instanceMethod yX12_hindersBy ∈ WT := wt_c8 42 (by decide +kernel) rfl
set_option maxRecDepth 100000 in
theorem wC_X12_hindersBy : aCode mX12_hindersBy ∈ WT := wt_c8 43 rfl rfl
theorem wM_X12_390 : Cond.methodLink RX12 390 yX12_doMeet ∈ WT := wt_c8 44 (by decide +kernel) rfl
theorem wI_X12_doMeet : Cond.instanceMethod yX12_doMeet ∈ WT := wt_c8 46 (by decide +kernel) rfl
set_option maxRecDepth 100000 in
theorem wC_X12_doMeet : aCode mX12_doMeet ∈ WT := wt_c8 47 rfl rfl
theorem wM_X12_394 : Cond.methodLink RX12 394 yX12_rightOf ∈ WT := wt_c8 48 (by decide +kernel) rfl
theorem wI_X12_rightOf : Cond.instanceMethod yX12_rightOf ∈ WT := wt_c8 50 (by decide +kernel) rfl
set_option maxRecDepth 100000 in
theorem wC_X12_rightOf : aCode mX12_rightOf ∈ WT := wt_c8 51 rfl rfl
theorem wM_X12_381 : Cond.methodLink RX12 381 yX12_inRow ∈ WT := wt_c8 52 (by decide +kernel) rfl
theorem wI_X12_inRow : Cond.instanceMethod yX12_inRow ∈ WT := wt_c8 54 (by decide +kernel) rfl
set_option maxRecDepth 100000 in
theorem wC_X12_inRow : aCode mX12_inRow ∈ WT := wt_c8 55 rfl rfl
theorem wM_X12_384 : Cond.methodLink RX12 384 yX12_offPeak ∈ WT := wt_c8 56 (by decide +kernel) rfl
theorem wI_X12_offPeak : Cond.instanceMethod yX12_offPeak ∈ WT := wt_c8 58 (by decide +kernel) rfl
set_option maxRecDepth 100000 in
theorem wC_X12_offPeak : aCode mX12_offPeak ∈ WT := wt_c8 59 rfl rfl
theorem wM_X12_333 : Cond.methodLink RX12 333 yX12_ofWave ∈ WT := wt_c8 60 (by decide +kernel) rfl
theorem wI_X12_ofWave : Cond.instanceMethod yX12_ofWave ∈ WT := wt_c8 62 (by decide +kernel) rfl
set_option maxRecDepth 100000 in
theorem wC_X12_ofWave : aCode mX12_ofWave ∈ WT := wt_c8 63 rfl rfl
theorem wM_X12_336 : Cond.methodLink RX12 336 yJ9_abs_0f7a4 ∈ WT := wt_c8 64 (by decide +kernel) rfl
theorem wM_X12_315 : Cond.methodLink RX12 315 yJ9_min_7cf53 ∈ WT := wt_c8 65 (by decide +kernel) rfl
theorem wM_X12_403 : Cond.methodLink RX12 403 yX12_judges ∈ WT := wt_c8 66 (by decide +kernel) rfl
theorem wI_X12_judges : Cond.instanceMethod yX12_judges ∈ WT := wt_c8 68 (by decide +kernel) rfl
set_option maxRecDepth 100000 in
theorem wC_X12_judges : aCode mX12_judges ∈ WT := wt_c8 69 rfl rfl
theorem wM_X12_409 : Cond.methodLink RX12 409 yX12_scoreBy ∈ WT := wt_c8 70 (by decide +kernel) rfl
theorem wI_X12_scoreBy : Cond.instanceMethod yX12_scoreBy ∈ WT := wt_c8 72 (by decide +kernel) rfl
set_option maxRecDepth 100000 in
theorem wC_X12_scoreBy : aCode mX12_scoreBy ∈ WT := wt_c8 73 rfl rfl
theorem wM_X12_343 : Cond.methodLink RX12 343 yX12_bestOf ∈ WT := wt_c8 74 (by decide +kernel) rfl
theorem wI_X12_bestOf : Cond.instanceMethod yX12_bestOf ∈ WT := wt_c8 76 (by decide +kernel) rfl
set_option maxRecDepth 100000 in
theorem wC_X12_bestOf : aCode mX12_bestOf ∈ WT := wt_c8 77 rfl rfl
theorem wM_X12_427 : Cond.methodLink RX12 427 yJ9_max_7cf53 ∈ WT := wt_c8 78 (by decide +kernel) rfl
theorem wM_X12_346 : Cond.methodLink RX12 346 yX12_scored ∈ WT := wt_c8 79 (by decide +kernel) rfl
theorem wI_X12_scored : Cond.instanceMethod yX12_scored ∈ WT := wt_c8 81 (by decide +kernel) rfl
set_option maxRecDepth 100000 in
theorem wC_X12_scored : aCode mX12_scored ∈ WT := wt_c8 82 rfl rfl
theorem wM_X12_321 : Cond.methodLink RX12 321 yX12_worked ∈ WT := wt_c8 83 (by decide +kernel) rfl
theorem wI_X12_worked : Cond.instanceMethod yX12_worked ∈ WT := wt_c8 85 (by decide +kernel) rfl
set_option maxRecDepth 100000 in
theorem wC_X12_worked : aCode mX12_worked ∈ WT := wt_c8 86 rfl rfl
theorem wM_X12_311 : Cond.methodLink RX12 311 yX12_joined ∈ WT := wt_c8 87 (by decide +kernel) rfl
theorem wI_X12_joined : Cond.instanceMethod yX12_joined ∈ WT := wt_c8 89 (by decide +kernel) rfl
set_option maxRecDepth 100000 in
theorem wC_X12_joined : aCode mX12_joined ∈ WT := wt_c8 90 rfl rfl
theorem wM_X12_307 : Cond.methodLink RX12 307 yX12_checked ∈ WT := wt_c8 91 (by decide +kernel) rfl
theorem wI_X12_checked : Cond.instanceMethod yX12_checked ∈ WT := wt_c8 93 (by decide +kernel) rfl
set_option maxRecDepth 100000 in
theorem wC_X12_checked : aCode mX12_checked ∈ WT := wt_c8 94 rfl rfl
theorem wK_X12_325 : Cond.constantLong RX12 325 (100 : Int64) ∈ WT := wt_c8 95 (by decide +kernel) rfl
theorem wM_X12_327 : Cond.methodLink RX12 327 yJ9_min_f86c9 ∈ WT := wt_c8 96 (by decide +kernel) rfl
theorem wT_J9_min_f86c9 : Cond.static yJ9_min_f86c9 ∈ WT := wt_c8 97 (by decide +kernel) rfl
set_option maxRecDepth 100000 in
theorem wC_J9_min_f86c9 : aCode mJ9_min_f86c9 ∈ WT := wt_c8 98 rfl rfl
theorem wM_X12_330 : Cond.methodLink RX12 330 yJ9_max_f86c9 ∈ WT := wt_c8 99 (by decide +kernel) rfl
theorem wM_X12_413 : Cond.methodLink RX12 413 yX12_sees ∈ WT := wt_c8 100 (by decide +kernel) rfl
theorem wI_X12_sees : Cond.instanceMethod yX12_sees ∈ WT := wt_c8 102 (by decide +kernel) rfl
set_option maxRecDepth 100000 in
theorem wC_X12_sees : aCode mX12_sees ∈ WT := wt_c8 103 rfl rfl
theorem wM_X12_416 : Cond.methodLink RX12 416 yX12_isSentIn ∈ WT := wt_c8 104 (by decide +kernel) rfl
theorem wI_X12_isSentIn : Cond.instanceMethod yX12_isSentIn ∈ WT := wt_c8 106 (by decide +kernel) rfl
set_option maxRecDepth 100000 in
theorem wC_X12_isSentIn : aCode mX12_isSentIn ∈ WT := wt_c8 107 rfl rfl
theorem wM_X12_406 : Cond.methodLink RX12 406 yX12_changesRow ∈ WT := wt_c8 108 (by decide +kernel) rfl
theorem wI_X12_changesRow : Cond.instanceMethod yX12_changesRow ∈ WT := wt_c8 110 (by decide +kernel) rfl
set_option maxRecDepth 100000 in
theorem wC_X12_changesRow : aCode mX12_changesRow ∈ WT := wt_c8 111 rfl rfl
theorem wM_X12_422 : Cond.methodLink RX12 422 yX12_swims ∈ WT := wt_c8 112 (by decide +kernel) rfl
theorem wI_X12_swims : Cond.instanceMethod yX12_swims ∈ WT := wt_c8 114 (by decide +kernel) rfl
set_option maxRecDepth 100000 in
theorem wC_X12_swims : aCode mX12_swims ∈ WT := wt_c8 115 rfl rfl
theorem wM_X12_424 : Cond.methodLink RX12 424 yX12_comeBack ∈ WT := wt_c8 116 (by decide +kernel) rfl
theorem wI_X12_comeBack : Cond.instanceMethod yX12_comeBack ∈ WT := wt_c8 118 (by decide +kernel) rfl
set_option maxRecDepth 100000 in
theorem wC_X12_comeBack : aCode mX12_comeBack ∈ WT := wt_c8 119 rfl rfl
theorem wM_L_126 : Cond.methodLink RL 126 yX12_wave ∈ WT := wt_c8 120 (by decide +kernel) rfl
theorem wI_X12_wave : Cond.instanceMethod yX12_wave ∈ WT := wt_c8 121 (by decide +kernel) rfl
theorem wS_X12_wave : Cond.selects RX12 yX12_wave yX12_wave ∈ WT := wt_c8 122 (by decide +kernel) rfl
set_option maxRecDepth 100000 in
theorem wC_X12_wave : aCode mX12_wave ∈ WT := wt_c8 123 rfl rfl
theorem wM_L_129 : Cond.methodLink RL 129 yX12_surfer ∈ WT := wt_c8 124 (by decide +kernel) rfl
theorem wI_X12_surfer : Cond.instanceMethod yX12_surfer ∈ WT := wt_c8 125 (by decide +kernel) rfl
theorem wS_X12_surfer : Cond.selects RX12 yX12_surfer yX12_surfer ∈ WT := wt_c8 126 (by decide +kernel) rfl
set_option maxRecDepth 100000 in
theorem wC_X12_surfer : aCode mX12_surfer ∈ WT := wt_c8 127 rfl rfl
theorem wM_X12_435 : Cond.methodLink RX12 435 yX12_noSurfer ∈ WT := wt_c8 128 (by decide +kernel) rfl
theorem wI_X12_noSurfer : Cond.instanceMethod yX12_noSurfer ∈ WT := wt_c8 130 (by decide +kernel) rfl
set_option maxRecDepth 100000 in
theorem wC_X12_noSurfer : aCode mX12_noSurfer ∈ WT := wt_c8 131 rfl rfl
theorem wM_X12_429 : Cond.methodLink RX12 429 yX12_totalOf ∈ WT := wt_c8 132 (by decide +kernel) rfl
theorem wI_X12_totalOf : Cond.instanceMethod yX12_totalOf ∈ WT := wt_c8 134 (by decide +kernel) rfl
set_option maxRecDepth 100000 in
theorem wC_X12_totalOf : aCode mX12_totalOf ∈ WT := wt_c8 135 rfl rfl
theorem wM_X12_438 : Cond.methodLink RX12 438 yX12_rankNow ∈ WT := wt_c8 136 (by decide +kernel) rfl
theorem wI_X12_rankNow : Cond.instanceMethod yX12_rankNow ∈ WT := wt_c8 138 (by decide +kernel) rfl
set_option maxRecDepth 100000 in
theorem wC_X12_rankNow : aCode mX12_rankNow ∈ WT := wt_c8 139 rfl rfl
theorem wM_X12_432 : Cond.methodLink RX12 432 yX12_rankOf ∈ WT := wt_c8 140 (by decide +kernel) rfl
theorem wI_X12_rankOf : Cond.instanceMethod yX12_rankOf ∈ WT := wt_c8 142 (by decide +kernel) rfl
set_option maxRecDepth 100000 in
theorem wC_X12_rankOf : aCode mX12_rankOf ∈ WT := wt_c8 143 rfl rfl
theorem wM_L_132 : Cond.methodLink RL 132 yX12_name ∈ WT := wt_c8 144 (by decide +kernel) rfl
theorem wI_X12_name : Cond.instanceMethod yX12_name ∈ WT := wt_c8 145 (by decide +kernel) rfl
theorem wS_X12_name : Cond.selects RX12 yX12_name yX12_name ∈ WT := wt_c8 146 (by decide +kernel) rfl
set_option maxRecDepth 100000 in
theorem wC_X12_name : aCode mX12_name ∈ WT := wt_c8 147 rfl rfl
theorem wM_L_135 : Cond.methodLink RL 135 yX12_goal ∈ WT := wt_c8 148 (by decide +kernel) rfl
theorem wI_X12_goal : Cond.instanceMethod yX12_goal ∈ WT := wt_c8 149 (by decide +kernel) rfl
theorem wS_X12_goal : Cond.selects RX12 yX12_goal yX12_goal ∈ WT := wt_c8 150 (by decide +kernel) rfl
set_option maxRecDepth 100000 in
theorem wC_X12_goal : aCode mX12_goal ∈ WT := wt_c8 151 rfl rfl
theorem wM_L_139 : Cond.methodLink RL 139 yX12_row ∈ WT := wt_c8 152 (by decide +kernel) rfl
theorem wI_X12_row : Cond.instanceMethod yX12_row ∈ WT := wt_c8 153 (by decide +kernel) rfl
theorem wS_X12_row : Cond.selects RX12 yX12_row yX12_row ∈ WT := wt_c8 154 (by decide +kernel) rfl
set_option maxRecDepth 100000 in
theorem wC_X12_row : aCode mX12_row ∈ WT := wt_c8 155 rfl rfl
theorem wM_L_143 : Cond.methodLink RL 143 yX12_take ∈ WT := wt_c8 156 (by decide +kernel) rfl
theorem wI_X12_take : Cond.instanceMethod yX12_take ∈ WT := wt_c8 157 (by decide +kernel) rfl
theorem wS_X12_take : Cond.selects RX12 yX12_take yX12_take ∈ WT := wt_c8 158 (by decide +kernel) rfl
set_option maxRecDepth 100000 in
theorem wC_X12_take : aCode mX12_take ∈ WT := wt_c8 159 rfl rfl
theorem wM_X12_441 : Cond.methodLink RX12 441 yX12_canRide ∈ WT := wt_c8 160 (by decide +kernel) rfl
theorem wI_X12_canRide : Cond.instanceMethod yX12_canRide ∈ WT := wt_c8 162 (by decide +kernel) rfl
set_option maxRecDepth 100000 in
theorem wC_X12_canRide : aCode mX12_canRide ∈ WT := wt_c8 163 rfl rfl
theorem wM_L_146 : Cond.methodLink RL 146 yX12_right ∈ WT := wt_c8 164 (by decide +kernel) rfl
theorem wI_X12_right : Cond.instanceMethod yX12_right ∈ WT := wt_c8 165 (by decide +kernel) rfl
theorem wS_X12_right : Cond.selects RX12 yX12_right yX12_right ∈ WT := wt_c8 166 (by decide +kernel) rfl
set_option maxRecDepth 100000 in
theorem wC_X12_right : aCode mX12_right ∈ WT := wt_c8 167 rfl rfl
theorem wM_L_150 : Cond.methodLink RL 150 yX12_hinders ∈ WT := wt_c8 168 (by decide +kernel) rfl
theorem wI_X12_hinders : Cond.instanceMethod yX12_hinders ∈ WT := wt_c8 169 (by decide +kernel) rfl
theorem wS_X12_hinders : Cond.selects RX12 yX12_hinders yX12_hinders ∈ WT := wt_c8 170 (by decide +kernel) rfl
set_option maxRecDepth 100000 in
theorem wC_X12_hinders : aCode mX12_hinders ∈ WT := wt_c8 171 rfl rfl
theorem wM_L_154 : Cond.methodLink RL 154 yX12_ride ∈ WT := wt_c8 172 (by decide +kernel) rfl
theorem wI_X12_ride : Cond.instanceMethod yX12_ride ∈ WT := wt_c8 173 (by decide +kernel) rfl
theorem wS_X12_ride : Cond.selects RX12 yX12_ride yX12_ride ∈ WT := wt_c8 174 (by decide +kernel) rfl
set_option maxRecDepth 100000 in
theorem wC_X12_ride : aCode mX12_ride ∈ WT := wt_c8 175 rfl rfl
theorem wM_L_158 : Cond.methodLink RL 158 yX12_would ∈ WT := wt_c8 176 (by decide +kernel) rfl
theorem wI_X12_would : Cond.instanceMethod yX12_would ∈ WT := wt_c8 177 (by decide +kernel) rfl
theorem wS_X12_would : Cond.selects RX12 yX12_would yX12_would ∈ WT := wt_c8 178 (by decide +kernel) rfl
set_option maxRecDepth 100000 in
theorem wC_X12_would : aCode mX12_would ∈ WT := wt_c8 179 rfl rfl
theorem wM_L_161 : Cond.methodLink RL 161 yX12_ranked ∈ WT := wt_c8 180 (by decide +kernel) rfl
theorem wI_X12_ranked : Cond.instanceMethod yX12_ranked ∈ WT := wt_c8 181 (by decide +kernel) rfl
theorem wS_X12_ranked : Cond.selects RX12 yX12_ranked yX12_ranked ∈ WT := wt_c8 182 (by decide +kernel) rfl
set_option maxRecDepth 100000 in
theorem wC_X12_ranked : aCode mX12_ranked ∈ WT := wt_c8 183 rfl rfl
theorem wM_L_164 : Cond.methodLink RL 164 yX12_need ∈ WT := wt_c8 184 (by decide +kernel) rfl
theorem wI_X12_need : Cond.instanceMethod yX12_need ∈ WT := wt_c8 185 (by decide +kernel) rfl
theorem wS_X12_need : Cond.selects RX12 yX12_need yX12_need ∈ WT := wt_c8 186 (by decide +kernel) rfl
set_option maxRecDepth 100000 in
theorem wC_X12_need : aCode mX12_need ∈ WT := wt_c8 187 rfl rfl
theorem wM_X12_445 : Cond.methodLink RX12 445 yX12_totalWith ∈ WT := wt_c8 188 (by decide +kernel) rfl
theorem wI_X12_totalWith : Cond.instanceMethod yX12_totalWith ∈ WT := wt_c8 190 (by decide +kernel) rfl
set_option maxRecDepth 100000 in
theorem wC_X12_totalWith : aCode mX12_totalWith ∈ WT := wt_c8 191 rfl rfl
theorem wM_L_167 : Cond.methodLink RL 167 yX12_best ∈ WT := wt_c8 192 (by decide +kernel) rfl
theorem wI_X12_best : Cond.instanceMethod yX12_best ∈ WT := wt_c8 193 (by decide +kernel) rfl
theorem wS_X12_best : Cond.selects RX12 yX12_best yX12_best ∈ WT := wt_c8 194 (by decide +kernel) rfl
set_option maxRecDepth 100000 in
theorem wC_X12_best : aCode mX12_best ∈ WT := wt_c8 195 rfl rfl
theorem wM_X12_448 : Cond.methodLink RX12 448 yX12_laysBest ∈ WT := wt_c8 196 (by decide +kernel) rfl
theorem wI_X12_laysBest : Cond.instanceMethod yX12_laysBest ∈ WT := wt_c8 198 (by decide +kernel) rfl
set_option maxRecDepth 100000 in
theorem wC_X12_laysBest : aCode mX12_laysBest ∈ WT := wt_c8 199 rfl rfl
theorem wM_L_170 : Cond.methodLink RL 170 yX12_plan ∈ WT := wt_c8 200 (by decide +kernel) rfl
theorem wI_X12_plan : Cond.instanceMethod yX12_plan ∈ WT := wt_c8 201 (by decide +kernel) rfl
theorem wS_X12_plan : Cond.selects RX12 yX12_plan yX12_plan ∈ WT := wt_c8 202 (by decide +kernel) rfl
set_option maxRecDepth 100000 in
theorem wC_X12_plan : aCode mX12_plan ∈ WT := wt_c8 203 rfl rfl
theorem wM_X12_452 : Cond.methodLink RX12 452 yX12_totalBy ∈ WT := wt_c8 204 (by decide +kernel) rfl
theorem wI_X12_totalBy : Cond.instanceMethod yX12_totalBy ∈ WT := wt_c8 206 (by decide +kernel) rfl
set_option maxRecDepth 100000 in
theorem wC_X12_totalBy : aCode mX12_totalBy ∈ WT := wt_c8 207 rfl rfl
theorem wM_L_183 : Cond.methodLink RL 183 yX12_took ∈ WT := wt_c8 208 (by decide +kernel) rfl
theorem wI_X12_took : Cond.instanceMethod yX12_took ∈ WT := wt_c8 209 (by decide +kernel) rfl
theorem wS_X12_took : Cond.selects RX12 yX12_took yX12_took ∈ WT := wt_c8 210 (by decide +kernel) rfl
set_option maxRecDepth 100000 in
theorem wC_X12_took : aCode mX12_took ∈ WT := wt_c8 211 rfl rfl
theorem wM_L_186 : Cond.methodLink RL 186 yX12_swim ∈ WT := wt_c8 212 (by decide +kernel) rfl
theorem wI_X12_swim : Cond.instanceMethod yX12_swim ∈ WT := wt_c8 213 (by decide +kernel) rfl
theorem wS_X12_swim : Cond.selects RX12 yX12_swim yX12_swim ∈ WT := wt_c8 214 (by decide +kernel) rfl
set_option maxRecDepth 100000 in
theorem wC_X12_swim : aCode mX12_swim ∈ WT := wt_c8 215 rfl rfl
theorem wM_X12_455 : Cond.methodLink RX12 455 yX12_isAway ∈ WT := wt_c8 216 (by decide +kernel) rfl
theorem wI_X12_isAway : Cond.instanceMethod yX12_isAway ∈ WT := wt_c8 218 (by decide +kernel) rfl
set_option maxRecDepth 100000 in
theorem wC_X12_isAway : aCode mX12_isAway ∈ WT := wt_c8 219 rfl rfl
theorem wM_X12_458 : Cond.methodLink RX12 458 yX12_swimsTo ∈ WT := wt_c8 220 (by decide +kernel) rfl
theorem wI_X12_swimsTo : Cond.instanceMethod yX12_swimsTo ∈ WT := wt_c8 222 (by decide +kernel) rfl
set_option maxRecDepth 100000 in
theorem wC_X12_swimsTo : aCode mX12_swimsTo ∈ WT := wt_c8 223 rfl rfl
theorem wM_L_189 : Cond.methodLink RL 189 yX12_reach ∈ WT := wt_c8 224 (by decide +kernel) rfl
theorem wI_X12_reach : Cond.instanceMethod yX12_reach ∈ WT := wt_c8 225 (by decide +kernel) rfl
theorem wS_X12_reach : Cond.selects RX12 yX12_reach yX12_reach ∈ WT := wt_c8 226 (by decide +kernel) rfl
set_option maxRecDepth 100000 in
theorem wC_X12_reach : aCode mX12_reach ∈ WT := wt_c8 227 rfl rfl
theorem wM_L_174 : Cond.methodLink RL 174 yX12_seen ∈ WT := wt_c8 228 (by decide +kernel) rfl
theorem wI_X12_seen : Cond.instanceMethod yX12_seen ∈ WT := wt_c8 229 (by decide +kernel) rfl
theorem wS_X12_seen : Cond.selects RX12 yX12_seen yX12_seen ∈ WT := wt_c8 230 (by decide +kernel) rfl
set_option maxRecDepth 100000 in
theorem wC_X12_seen : aCode mX12_seen ∈ WT := wt_c8 231 rfl rfl
theorem wM_L_177 : Cond.methodLink RL 177 yX12_worth ∈ WT := wt_c8 232 (by decide +kernel) rfl
theorem wI_X12_worth : Cond.instanceMethod yX12_worth ∈ WT := wt_c8 233 (by decide +kernel) rfl
theorem wS_X12_worth : Cond.selects RX12 yX12_worth yX12_worth ∈ WT := wt_c8 234 (by decide +kernel) rfl
set_option maxRecDepth 100000 in
theorem wC_X12_worth : aCode mX12_worth ∈ WT := wt_c8 235 rfl rfl
theorem wM_X12_461 : Cond.methodLink RX12 461 yX12_worthOf ∈ WT := wt_c8 236 (by decide +kernel) rfl
theorem wI_X12_worthOf : Cond.instanceMethod yX12_worthOf ∈ WT := wt_c8 238 (by decide +kernel) rfl
set_option maxRecDepth 100000 in
theorem wC_X12_worthOf : aCode mX12_worthOf ∈ WT := wt_c8 239 rfl rfl
theorem wM_L_180 : Cond.methodLink RL 180 yX12_least ∈ WT := wt_c9 0 (by decide +kernel) rfl
theorem wI_X12_least : Cond.instanceMethod yX12_least ∈ WT := wt_c9 1 (by decide +kernel) rfl
theorem wS_X12_least : Cond.selects RX12 yX12_least yX12_least ∈ WT := wt_c9 2 (by decide +kernel) rfl
set_option maxRecDepth 100000 in
theorem wC_X12_least : aCode mX12_least ∈ WT := wt_c9 3 rfl rfl
theorem wM_L_193 : Cond.methodLink RL 193 yX12_count ∈ WT := wt_c9 4 (by decide +kernel) rfl
theorem wI_X12_count : Cond.instanceMethod yX12_count ∈ WT := wt_c9 5 (by decide +kernel) rfl
theorem wS_X12_count : Cond.selects RX12 yX12_count yX12_count ∈ WT := wt_c9 6 (by decide +kernel) rfl
set_option maxRecDepth 100000 in
theorem wC_X12_count : aCode mX12_count ∈ WT := wt_c9 7 rfl rfl
theorem wF_J0_9 : Cond.fieldLink RJ0 9 "java/lang/String" "value" "[B" ∈ WT := wt_c9 28 (by decide +kernel) rfl
theorem wF_J0_15 : Cond.fieldLink RJ0 15 "java/lang/String" "coder" "B" ∈ WT := wt_c9 29 (by decide +kernel) rfl
theorem wS_X1_goBy : Cond.selects RX1 yX1_goBy yX1_goBy ∈ WT := wt_s 0 (by decide +kernel) rfl
theorem wS_X1_judgeRide : Cond.selects RX1 yX1_judgeRide yX1_judgeRide ∈ WT := wt_s 1 (by decide +kernel) rfl
theorem wS_X2_run : Cond.selects RX2 yX2_run yX2_run ∈ WT := wt_s 2 (by decide +kernel) rfl
theorem wS_X2_push : Cond.selects RX2 yX2_push yX2_push ∈ WT := wt_s 3 (by decide +kernel) rfl
theorem wS_X2_pop : Cond.selects RX2 yX2_pop yX2_pop ∈ WT := wt_s 4 (by decide +kernel) rfl
theorem wS_X2_reckon : Cond.selects RX2 yX2_reckon yX2_reckon ∈ WT := wt_s 5 (by decide +kernel) rfl
theorem wS_X1_keepSeen : Cond.selects RX1 yX1_keepSeen yX1_keepSeen ∈ WT := wt_s 6 (by decide +kernel) rfl
theorem wS_X1_leaveWave : Cond.selects RX1 yX1_leaveWave yX1_leaveWave ∈ WT := wt_s 7 (by decide +kernel) rfl
theorem wS_X1_settleRow : Cond.selects RX1 yX1_settleRow yX1_settleRow ∈ WT := wt_s 8 (by decide +kernel) rfl
theorem wS_X1_beginAgain : Cond.selects RX1 yX1_beginAgain yX1_beginAgain ∈ WT := wt_s 9 (by decide +kernel) rfl
theorem wS_X1_passTo : Cond.selects RX1 yX1_passTo yX1_passTo ∈ WT := wt_s 10 (by decide +kernel) rfl
theorem wS_X1_earliestBack : Cond.selects RX1 yX1_earliestBack yX1_earliestBack ∈ WT := wt_s 11 (by decide +kernel) rfl
theorem wS_X1_comeOut : Cond.selects RX1 yX1_comeOut yX1_comeOut ∈ WT := wt_s 12 (by decide +kernel) rfl
theorem wS_X7_passLine : Cond.selects RX7 yX7_passLine yX7_passLine ∈ WT := wt_s 13 (by decide +kernel) rfl
theorem wS_X7_passSurfer : Cond.selects RX7 yX7_passSurfer yX7_passSurfer ∈ WT := wt_s 14 (by decide +kernel) rfl
theorem wS_X7_isNewName : Cond.selects RX7 yX7_isNewName yX7_isNewName ∈ WT := wt_s 15 (by decide +kernel) rfl
theorem wS_X7_isKept : Cond.selects RX7 yX7_isKept yX7_isKept ∈ WT := wt_s 16 (by decide +kernel) rfl
theorem wS_X7_passWave : Cond.selects RX7 yX7_passWave yX7_passWave ∈ WT := wt_s 17 (by decide +kernel) rfl
theorem wS_X7_passWays : Cond.selects RX7 yX7_passWays yX7_passWays ∈ WT := wt_s 18 (by decide +kernel) rfl
theorem wS_X7_passMinutes : Cond.selects RX7 yX7_passMinutes yX7_passMinutes ∈ WT := wt_s 19 (by decide +kernel) rfl
theorem wS_X7_passAgain : Cond.selects RX7 yX7_passAgain yX7_passAgain ∈ WT := wt_s 20 (by decide +kernel) rfl
theorem wS_X3_passLine : Cond.selects RX3 yX3_passLine yX3_passLine ∈ WT := wt_s 22 (by decide +kernel) rfl
theorem wS_X3_passSum : Cond.selects RX3 yX3_passSum yX3_passSum ∈ WT := wt_s 23 (by decide +kernel) rfl
theorem wS_X3_passProduct : Cond.selects RX3 yX3_passProduct yX3_passProduct ∈ WT := wt_s 24 (by decide +kernel) rfl
theorem wS_X3_passPart : Cond.selects RX3 yX3_passPart yX3_passPart ∈ WT := wt_s 25 (by decide +kernel) rfl
theorem wS_X3_factTold : Cond.selects RX3 yX3_factTold yX3_factTold ∈ WT := wt_s 26 (by decide +kernel) rfl
theorem wS_X3_passAny : Cond.selects RX3 yX3_passAny yX3_passAny ∈ WT := wt_s 27 (by decide +kernel) rfl
theorem wS_X3_passAll : Cond.selects RX3 yX3_passAll yX3_passAll ∈ WT := wt_s 28 (by decide +kernel) rfl
theorem wS_X3_passAtom : Cond.selects RX3 yX3_passAtom yX3_passAtom ∈ WT := wt_s 29 (by decide +kernel) rfl
theorem wS_X3_passGroup : Cond.selects RX3 yX3_passGroup yX3_passGroup ∈ WT := wt_s 30 (by decide +kernel) rfl
theorem wS_X3_passComparison : Cond.selects RX3 yX3_passComparison yX3_passComparison ∈ WT := wt_s 31 (by decide +kernel) rfl
theorem wS_X11_mustBeWave : Cond.selects RX11 yX11_mustBeWave yX11_mustBeWave ∈ WT := wt_s 32 (by decide +kernel) rfl
theorem wS_X11_mustBeOneOf : Cond.selects RX11 yX11_mustBeOneOf yX11_mustBeOneOf ∈ WT := wt_s 33 (by decide +kernel) rfl
theorem wS_X11_mustBeSurfer : Cond.selects RX11 yX11_mustBeSurfer yX11_mustBeSurfer ∈ WT := wt_s 34 (by decide +kernel) rfl
theorem wS_X11_mustBePlace : Cond.selects RX11 yX11_mustBePlace yX11_mustBePlace ∈ WT := wt_s 35 (by decide +kernel) rfl
theorem wS_X11_mustBeRide : Cond.selects RX11 yX11_mustBeRide yX11_mustBeRide ∈ WT := wt_s 36 (by decide +kernel) rfl
theorem wS_X0_compareRide : Cond.selects RX0 yX0_compareRide yX0_compareRide ∈ WT := wt_s 37 (by decide +kernel) rfl
theorem wS_X11_mustHaveTime : Cond.selects RX11 yX11_mustHaveTime yX11_mustHaveTime ∈ WT := wt_s 38 (by decide +kernel) rfl
theorem wS_X0_readWaves : Cond.selects RX0 yX0_readWaves yX0_readWaves ∈ WT := wt_s 39 (by decide +kernel) rfl
theorem wS_X0_comparePlan : Cond.selects RX0 yX0_comparePlan yX0_comparePlan ∈ WT := wt_s 40 (by decide +kernel) rfl
theorem wS_X11_mustLookAhead : Cond.selects RX11 yX11_mustLookAhead yX11_mustLookAhead ∈ WT := wt_s 41 (by decide +kernel) rfl
theorem wS_X4_fillPool : Cond.selects RX4 yX4_fillPool yX4_fillPool ∈ WT := wt_s 42 (by decide +kernel) rfl
theorem wS_X4_keep : Cond.selects RX4 yX4_keep yX4_keep ∈ WT := wt_s 43 (by decide +kernel) rfl
theorem wS_X4_placeOf : Cond.selects RX4 yX4_placeOf yX4_placeOf ∈ WT := wt_s 44 (by decide +kernel) rfl
theorem wS_X4_write : Cond.selects RX4 yX4_write yX4_write ∈ WT := wt_s 45 (by decide +kernel) rfl
theorem wS_X4_lookAtWave : Cond.selects RX4 yX4_lookAtWave yX4_lookAtWave ∈ WT := wt_s 46 (by decide +kernel) rfl
theorem wS_X4_worthOfWave : Cond.selects RX4 yX4_worthOfWave yX4_worthOfWave ∈ WT := wt_s 47 (by decide +kernel) rfl
theorem wS_X4_read : Cond.selects RX4 yX4_read yX4_read ∈ WT := wt_s 48 (by decide +kernel) rfl
theorem wS_X12_begins : Cond.selects RX12 yX12_begins yX12_begins ∈ WT := wt_s 49 (by decide +kernel) rfl
theorem wS_X12_blanks : Cond.selects RX12 yX12_blanks yX12_blanks ∈ WT := wt_s 50 (by decide +kernel) rfl
theorem wS_X12_isAt : Cond.selects RX12 yX12_isAt yX12_isAt ∈ WT := wt_s 51 (by decide +kernel) rfl
theorem wS_X12_hasFailed : Cond.selects RX12 yX12_hasFailed yX12_hasFailed ∈ WT := wt_s 52 (by decide +kernel) rfl
theorem wS_X12_seaLine : Cond.selects RX12 yX12_seaLine yX12_seaLine ∈ WT := wt_s 53 (by decide +kernel) rfl
theorem wS_X12_isWord : Cond.selects RX12 yX12_isWord yX12_isWord ∈ WT := wt_s 54 (by decide +kernel) rfl
theorem wS_X12_wordMany : Cond.selects RX12 yX12_wordMany yX12_wordMany ∈ WT := wt_s 55 (by decide +kernel) rfl
theorem wS_X12_surferLine : Cond.selects RX12 yX12_surferLine yX12_surferLine ∈ WT := wt_s 56 (by decide +kernel) rfl
theorem wS_X12_fails : Cond.selects RX12 yX12_fails yX12_fails ∈ WT := wt_s 57 (by decide +kernel) rfl
theorem wS_X12_asksWord : Cond.selects RX12 yX12_asksWord yX12_asksWord ∈ WT := wt_s 58 (by decide +kernel) rfl
theorem wS_X12_takesWord : Cond.selects RX12 yX12_takesWord yX12_takesWord ∈ WT := wt_s 59 (by decide +kernel) rfl
theorem wS_X12_isName : Cond.selects RX12 yX12_isName yX12_isName ∈ WT := wt_s 60 (by decide +kernel) rfl
theorem wS_X12_isTold : Cond.selects RX12 yX12_isTold yX12_isTold ∈ WT := wt_s 61 (by decide +kernel) rfl
theorem wS_X12_after : Cond.selects RX12 yX12_after yX12_after ∈ WT := wt_s 62 (by decide +kernel) rfl
theorem wS_X12_number : Cond.selects RX12 yX12_number yX12_number ∈ WT := wt_s 63 (by decide +kernel) rfl
theorem wS_X12_waveLine : Cond.selects RX12 yX12_waveLine yX12_waveLine ∈ WT := wt_s 64 (by decide +kernel) rfl
theorem wS_X12_asksSign : Cond.selects RX12 yX12_asksSign yX12_asksSign ∈ WT := wt_s 65 (by decide +kernel) rfl
theorem wS_X12_takes : Cond.selects RX12 yX12_takes yX12_takes ∈ WT := wt_s 66 (by decide +kernel) rfl
theorem wS_X12_isSign : Cond.selects RX12 yX12_isSign yX12_isSign ∈ WT := wt_s 67 (by decide +kernel) rfl
theorem wS_X12_throwsIf : Cond.selects RX12 yX12_throwsIf yX12_throwsIf ∈ WT := wt_s 68 (by decide +kernel) rfl
theorem wS_X12_beginsHeat : Cond.selects RX12 yX12_beginsHeat yX12_beginsHeat ∈ WT := wt_s 69 (by decide +kernel) rfl
theorem wS_X12_surfers : Cond.selects RX12 yX12_surfers yX12_surfers ∈ WT := wt_s 70 (by decide +kernel) rfl
theorem wS_X12_judgeLine : Cond.selects RX12 yX12_judgeLine yX12_judgeLine ∈ WT := wt_s 71 (by decide +kernel) rfl
theorem wS_X12_sum : Cond.selects RX12 yX12_sum yX12_sum ∈ WT := wt_s 72 (by decide +kernel) rfl
theorem wS_X12_product : Cond.selects RX12 yX12_product yX12_product ∈ WT := wt_s 73 (by decide +kernel) rfl
theorem wS_X12_part : Cond.selects RX12 yX12_part yX12_part ∈ WT := wt_s 74 (by decide +kernel) rfl
theorem wS_X12_isNumber : Cond.selects RX12 yX12_isNumber yX12_isNumber ∈ WT := wt_s 75 (by decide +kernel) rfl
theorem wS_X12_codes : Cond.selects RX12 yX12_codes yX12_codes ∈ WT := wt_s 76 (by decide +kernel) rfl
theorem wS_X12_goesIn : Cond.selects RX12 yX12_goesIn yX12_goesIn ∈ WT := wt_s 77 (by decide +kernel) rfl
theorem wS_X12_fact : Cond.selects RX12 yX12_fact yX12_fact ∈ WT := wt_s 78 (by decide +kernel) rfl
theorem wS_X12_some : Cond.selects RX12 yX12_some yX12_some ∈ WT := wt_s 79 (by decide +kernel) rfl
theorem wS_X12_every : Cond.selects RX12 yX12_every yX12_every ∈ WT := wt_s 80 (by decide +kernel) rfl
theorem wS_X12_atom : Cond.selects RX12 yX12_atom yX12_atom ∈ WT := wt_s 81 (by decide +kernel) rfl
theorem wS_X12_goesBy : Cond.selects RX12 yX12_goesBy yX12_goesBy ∈ WT := wt_s 82 (by decide +kernel) rfl
theorem wS_X12_hindersNow : Cond.selects RX12 yX12_hindersNow yX12_hindersNow ∈ WT := wt_s 83 (by decide +kernel) rfl
theorem wS_X12_hasTaken : Cond.selects RX12 yX12_hasTaken yX12_hasTaken ∈ WT := wt_s 84 (by decide +kernel) rfl
theorem wS_X12_hindersBy : Cond.selects RX12 yX12_hindersBy yX12_hindersBy ∈ WT := wt_s 85 (by decide +kernel) rfl
theorem wS_X12_doMeet : Cond.selects RX12 yX12_doMeet yX12_doMeet ∈ WT := wt_s 86 (by decide +kernel) rfl
theorem wS_X12_rightOf : Cond.selects RX12 yX12_rightOf yX12_rightOf ∈ WT := wt_s 87 (by decide +kernel) rfl
theorem wS_X12_inRow : Cond.selects RX12 yX12_inRow yX12_inRow ∈ WT := wt_s 88 (by decide +kernel) rfl
theorem wS_X12_offPeak : Cond.selects RX12 yX12_offPeak yX12_offPeak ∈ WT := wt_s 89 (by decide +kernel) rfl
theorem wS_X12_ofWave : Cond.selects RX12 yX12_ofWave yX12_ofWave ∈ WT := wt_s 90 (by decide +kernel) rfl
theorem wS_X12_judges : Cond.selects RX12 yX12_judges yX12_judges ∈ WT := wt_s 91 (by decide +kernel) rfl
theorem wS_X12_scoreBy : Cond.selects RX12 yX12_scoreBy yX12_scoreBy ∈ WT := wt_s 92 (by decide +kernel) rfl
theorem wS_X12_bestOf : Cond.selects RX12 yX12_bestOf yX12_bestOf ∈ WT := wt_s 93 (by decide +kernel) rfl
theorem wS_X12_scored : Cond.selects RX12 yX12_scored yX12_scored ∈ WT := wt_s 94 (by decide +kernel) rfl
theorem wS_X12_worked : Cond.selects RX12 yX12_worked yX12_worked ∈ WT := wt_s 95 (by decide +kernel) rfl
theorem wS_X12_joined : Cond.selects RX12 yX12_joined yX12_joined ∈ WT := wt_s 96 (by decide +kernel) rfl
theorem wS_X12_checked : Cond.selects RX12 yX12_checked yX12_checked ∈ WT := wt_s 97 (by decide +kernel) rfl
theorem wS_X12_sees : Cond.selects RX12 yX12_sees yX12_sees ∈ WT := wt_s 98 (by decide +kernel) rfl
theorem wS_X12_isSentIn : Cond.selects RX12 yX12_isSentIn yX12_isSentIn ∈ WT := wt_s 99 (by decide +kernel) rfl
theorem wS_X12_changesRow : Cond.selects RX12 yX12_changesRow yX12_changesRow ∈ WT := wt_s 100 (by decide +kernel) rfl
theorem wS_X12_swims : Cond.selects RX12 yX12_swims yX12_swims ∈ WT := wt_s 101 (by decide +kernel) rfl
theorem wS_X12_comeBack : Cond.selects RX12 yX12_comeBack yX12_comeBack ∈ WT := wt_s 102 (by decide +kernel) rfl
theorem wS_X12_noSurfer : Cond.selects RX12 yX12_noSurfer yX12_noSurfer ∈ WT := wt_s 103 (by decide +kernel) rfl
theorem wS_X12_totalOf : Cond.selects RX12 yX12_totalOf yX12_totalOf ∈ WT := wt_s 104 (by decide +kernel) rfl
theorem wS_X12_rankNow : Cond.selects RX12 yX12_rankNow yX12_rankNow ∈ WT := wt_s 105 (by decide +kernel) rfl
theorem wS_X12_rankOf : Cond.selects RX12 yX12_rankOf yX12_rankOf ∈ WT := wt_s 106 (by decide +kernel) rfl
theorem wS_X12_canRide : Cond.selects RX12 yX12_canRide yX12_canRide ∈ WT := wt_s 107 (by decide +kernel) rfl
theorem wS_X12_totalWith : Cond.selects RX12 yX12_totalWith yX12_totalWith ∈ WT := wt_s 108 (by decide +kernel) rfl
theorem wS_X12_laysBest : Cond.selects RX12 yX12_laysBest yX12_laysBest ∈ WT := wt_s 109 (by decide +kernel) rfl
theorem wS_X12_totalBy : Cond.selects RX12 yX12_totalBy yX12_totalBy ∈ WT := wt_s 110 (by decide +kernel) rfl
theorem wS_X12_isAway : Cond.selects RX12 yX12_isAway yX12_isAway ∈ WT := wt_s 111 (by decide +kernel) rfl
theorem wS_X12_swimsTo : Cond.selects RX12 yX12_swimsTo yX12_swimsTo ∈ WT := wt_s 112 (by decide +kernel) rfl
theorem wS_X12_worthOf : Cond.selects RX12 yX12_worthOf yX12_worthOf ∈ WT := wt_s 113 (by decide +kernel) rfl
theorem inX0 : ∀ w ∈ wsX00, w ∈ WT := wt_l [416, 418, 420, 422, 424, 426, 428, 430, 432, 434] (by decide +kernel) (by decide +kernel)
theorem inX1 : ∀ w ∈ wsX10, w ∈ WT := wt_l [351, 353, 355, 357, 359, 361, 363, 365, 367, 369, 371, 373, 375, 377, 379, 381] (by decide +kernel) (by decide +kernel)
theorem inX2 : ∀ w ∈ wsX20, w ∈ WT := wt_l [108, 110, 112, 114, 116, 118, 120, 122, 124, 126, 128, 130] (by decide +kernel) (by decide +kernel)
theorem inX3 : ∀ w ∈ wsX30, w ∈ WT := wt_l [196, 198] (by decide +kernel) (by decide +kernel)
theorem inX4 : ∀ w ∈ wsX40, w ∈ WT := wt_l [448, 450, 452, 454, 456] (by decide +kernel) (by decide +kernel)
theorem inX5 : ∀ w ∈ wsX50, w ∈ WT := wt_l [224, 226, 228] (by decide +kernel) (by decide +kernel)
theorem inX6 : ∀ w ∈ wsX60, w ∈ WT := wt_l [66, 68, 70, 72, 74, 76, 78, 80, 82] (by decide +kernel) (by decide +kernel)
theorem inX7 : ∀ w ∈ wsX70, w ∈ WT := wt_l [179, 181, 183, 185] (by decide +kernel) (by decide +kernel)
theorem inX8 : ∀ w ∈ wsX80, w ∈ WT := wt_l [391] (by decide +kernel) (by decide +kernel)
theorem inX9 : ∀ w ∈ wsX90, w ∈ WT := wt_l [282, 284, 286, 288, 290, 292, 294, 296, 298, 300, 302, 304, 306, 308, 310] (by decide +kernel) (by decide +kernel)
theorem inX10 : ∀ w ∈ wsX100, w ∈ WT := wt_l [156, 158, 160, 162, 164, 166] (by decide +kernel) (by decide +kernel)
theorem inX11 : ∀ w ∈ wsX110, w ∈ WT := wt_l [470, 472, 474, 476, 478, 480, 482, 484, 486, 488] (by decide +kernel) (by decide +kernel)
theorem inX12 : ∀ w ∈ wsX120, w ∈ WT := wt_l [1407, 1409, 1411, 1413, 1415, 1417, 1419, 1421, 1423, 1425, 1427, 1429, 1431, 1433, 1435, 1437, 1439, 1441, 1443, 1445, 1447, 1449, 1451, 1453, 1455, 1457, 1459, 1461, 1463, 1465, 1467, 1469, 1471, 1473, 1475, 1477, 1479, 1481, 1483, 1485, 1487, 1489, 1491, 1493, 1495, 1497, 1499, 1501, 1503, 1505, 1507, 1509, 1511, 1513] (by decide +kernel) (by decide +kernel)
