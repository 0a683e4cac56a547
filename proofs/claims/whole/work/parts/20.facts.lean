theorem gt_in {w : Cond} (i : Nat) (h : lw_tbl[i]? = some w) (hg : goodWord w = true) : w ∈ GT := List.mem_filter.mpr ⟨List.mem_of_getElem? h, hg⟩
theorem tb_0 {w : Cond} (h : w ∈ k2_sels lw_privs) : w ∈ lw_tbl := List.mem_append_left _ h
theorem gt_0 {w : Cond} (i : Nat) (h0 : (k2_sels lw_privs)[i]? = some w) (hg : goodWord w = true) : w ∈ GT := List.mem_filter.mpr ⟨tb_0 (List.mem_of_getElem? h0), hg⟩
theorem tb_1 {w : Cond} (h : w ∈ tables_1_1) : w ∈ lw_tbl := List.mem_append_right _ (show w ∈ tables_1 from List.mem_append_left _ h)
theorem gt_1 {w : Cond} (i : Nat) (h0 : (tables_1_1)[i]? = some w) (hg : goodWord w = true) : w ∈ GT := List.mem_filter.mpr ⟨tb_1 (List.mem_of_getElem? h0), hg⟩
theorem tb_2 {w : Cond} (h : w ∈ tables_1_2) : w ∈ lw_tbl := List.mem_append_right _ (show w ∈ tables_1 from List.mem_append_right _ (List.mem_append_left _ h))
theorem gt_2 {w : Cond} (i : Nat) (h0 : (tables_1_2)[i]? = some w) (hg : goodWord w = true) : w ∈ GT := List.mem_filter.mpr ⟨tb_2 (List.mem_of_getElem? h0), hg⟩
theorem tb_3 {w : Cond} (h : w ∈ tables_1_3) : w ∈ lw_tbl := List.mem_append_right _ (show w ∈ tables_1 from List.mem_append_right _ (List.mem_append_right _ (List.mem_append_left _ h)))
theorem gt_3 {w : Cond} (i : Nat) (h0 : (tables_1_3)[i]? = some w) (hg : goodWord w = true) : w ∈ GT := List.mem_filter.mpr ⟨tb_3 (List.mem_of_getElem? h0), hg⟩
theorem tb_4 {w : Cond} (h : w ∈ tables_1_4) : w ∈ lw_tbl := List.mem_append_right _ (show w ∈ tables_1 from List.mem_append_right _ (List.mem_append_right _ (List.mem_append_right _ (List.mem_append_left _ h))))
theorem gt_4 {w : Cond} (i : Nat) (h0 : (tables_1_4)[i]? = some w) (hg : goodWord w = true) : w ∈ GT := List.mem_filter.mpr ⟨tb_4 (List.mem_of_getElem? h0), hg⟩
theorem tb_5 {w : Cond} (h : w ∈ tables_1_5) : w ∈ lw_tbl := List.mem_append_right _ (show w ∈ tables_1 from List.mem_append_right _ (List.mem_append_right _ (List.mem_append_right _ (List.mem_append_right _ (List.mem_append_left _ h)))))
theorem gt_5 {w : Cond} (i : Nat) (h0 : (tables_1_5)[i]? = some w) (hg : goodWord w = true) : w ∈ GT := List.mem_filter.mpr ⟨tb_5 (List.mem_of_getElem? h0), hg⟩
theorem tb_6 {w : Cond} (h : w ∈ tables_1_6) : w ∈ lw_tbl := List.mem_append_right _ (show w ∈ tables_1 from List.mem_append_right _ (List.mem_append_right _ (List.mem_append_right _ (List.mem_append_right _ (List.mem_append_right _ (h))))))
theorem gt_6 {w : Cond} (i : Nat) (h0 : (tables_1_6)[i]? = some w) (hg : goodWord w = true) : w ∈ GT := List.mem_filter.mpr ⟨tb_6 (List.mem_of_getElem? h0), hg⟩
def mX0_init : MD := (yX0_init, cX0_init, 2, none, 1, 40, 1, 48)
def mX0_goesOn : MD := (yX0_goesOn, cX0_goesOn, 3, some .boolean, 1, 40, 0, 0)
def mX0_insert : MD := (yX0_insert, cX0_insert, 3, none, 1, 40, 0, 0)
def mX0_tell : MD := (yX0_tell, cX0_tell, 4, some .int, 1, 40, 0, 0)
def mX1_goesAt : MD := (yX1_goesAt, cX1_goesAt, 5, some .boolean, 1, 40, 0, 0)
def mX1_price : MD := (yX1_price, cX1_price, 5, some .int, 1, 40, 0, 0)
def mX2_isList : MD := (yX2_isList, cX2_isList, 1, some .boolean, 1, 40, 0, 0)
def mX3_init : MD := (yX3_init, cX3_init, 1, none, 1, 40, 75, 620)
def mX3_copyFrom : MD := (yX3_copyFrom, cX3_copyFrom, 3, none, 1, 40, 0, 0)
def mX3_hasLine : MD := (yX3_hasLine, cX3_hasLine, 2, some .boolean, 1, 40, 0, 0)
def mX3_rowOf : MD := (yX3_rowOf, cX3_rowOf, 2, some .int, 1, 40, 0, 0)
def mX3_placeOf : MD := (yX3_placeOf, cX3_placeOf, 4, some .int, 1, 40, 0, 0)
def mX3_beginLine : MD := (yX3_beginLine, cX3_beginLine, 2, none, 1, 40, 0, 0)
def mX3_addStop : MD := (yX3_addStop, cX3_addStop, 3, none, 1, 40, 0, 0)
def mX3_putPath : MD := (yX3_putPath, cX3_putPath, 4, none, 1, 40, 0, 0)
def mX3_countTrips : MD := (yX3_countTrips, cX3_countTrips, 3, some .int, 1, 40, 0, 0)
def mX3_countPaths : MD := (yX3_countPaths, cX3_countPaths, 4, some .int, 1, 40, 0, 0)
def mX4_init : MD := (yX4_init, cX4_init, 3, none, 1, 40, 0, 0)
def mX4_failAt : MD := (yX4_failAt, cX4_failAt, 2, some .boolean, 1, 40, 0, 0)
def mX4_isFigure : MD := (yX4_isFigure, cX4_isFigure, 1, some .boolean, 1, 40, 0, 0)
def mX5_init : MD := (yX5_init, cX5_init, 3, none, 1, 40, 14, 104)
def mX5_putWalk : MD := (yX5_putWalk, cX5_putWalk, 6, none, 1, 40, 0, 0)
def mX5_tell : MD := (yX5_tell, cX5_tell, 3, some .int, 1, 40, 0, 0)
def mX5_sumFares : MD := (yX5_sumFares, cX5_sumFares, 3, some .int, 1, 40, 0, 0)
def mX5_sumMoving : MD := (yX5_sumMoving, cX5_sumMoving, 3, some .int, 1, 40, 0, 0)
def mX6_loseNothing : MD := (yX6_loseNothing, cX6_loseNothing, 1, none, 1, 40, 0, 0)
def mX7_put : MD := (yX7_put, cX7_put, 2, none, 1, 40, 0, 0)
def mX7_byteAt : MD := (yX7_byteAt, cX7_byteAt, 2, some .int, 1, 40, 0, 0)
def mX8_clear : MD := (yX8_clear, cX8_clear, 2, some .int, 1, 40, 0, 0)
def mX8_lossAnswer : MD := (yX8_lossAnswer, cX8_lossAnswer, 3, some .int, 1, 40, 0, 0)
def mX8_toldArrival : MD := (yX8_toldArrival, cX8_toldArrival, 4, some .int, 1, 40, 0, 0)
def mX8_isStop : MD := (yX8_isStop, cX8_isStop, 1, some .boolean, 1, 40, 0, 0)
def mX8_isMinute : MD := (yX8_isMinute, cX8_isMinute, 1, some .boolean, 1, 40, 0, 0)
def mX8_isRides : MD := (yX8_isRides, cX8_isRides, 1, some .boolean, 1, 40, 0, 0)
def mX8_orMissing : MD := (yX8_orMissing, cX8_orMissing, 1, some .int, 1, 40, 0, 0)
def mX9_init : MD := (yX9_init, cX9_init, 1, none, 1, 40, 23, 2600)
def mX9_in : MD := (yX9_in, cX9_in, 6, some .boolean, 1, 40, 0, 0)
def mX9_isNight : MD := (yX9_isNight, cX9_isNight, 1, some .boolean, 1, 40, 0, 0)
def mX9_fareOf : MD := (yX9_fareOf, cX9_fareOf, 4, some .int, 1, 40, 0, 0)
def mX9_minuteAt : MD := (yX9_minuteAt, cX9_minuteAt, 4, some .int, 1, 40, 0, 0)
def mX9_stopAt : MD := (yX9_stopAt, cX9_stopAt, 3, some .int, 1, 40, 0, 0)
def mX9_footOf : MD := (yX9_footOf, cX9_footOf, 3, some .int, 1, 40, 0, 0)
def mX9_putWalk : MD := (yX9_putWalk, cX9_putWalk, 5, none, 1, 40, 0, 0)
def mX9_clear : MD := (yX9_clear, cX9_clear, 2, some .int, 1, 40, 0, 0)
def mX9_here : MD := (yX9_here, cX9_here, 1, some .int, 1, 40, 0, 0)
def mX9_mustBe : MD := (yX9_mustBe, cX9_mustBe, 3, none, 1, 40, 0, 0)
def mX9_delays : MD := (yX9_delays, cX9_delays, 6, none, 1, 40, 0, 0)
def mX9_carry : MD := (yX9_carry, cX9_carry, 2, some .int, 1, 40, 0, 0)
def mX9_footTold : MD := (yX9_footTold, cX9_footTold, 3, some .int, 1, 40, 0, 0)
def mX9_ofLeg : MD := (yX9_ofLeg, cX9_ofLeg, 3, some .int, 1, 40, 0, 0)
def mX9_writes : MD := (yX9_writes, cX9_writes, 2, none, 1, 40, 0, 0)
def mX9_footMany : MD := (yX9_footMany, cX9_footMany, 3, some .int, 1, 40, 0, 0)
def mX9_toldAt : MD := (yX9_toldAt, cX9_toldAt, 3, some .int, 1, 40, 0, 0)
def mJ9_max_7cf53 : MD := (yJ9_max_7cf53, cJ9_max_7cf53, 2, some .int, 1, 40, 0, 0)
def mJ9_min_7cf53 : MD := (yJ9_min_7cf53, cJ9_min_7cf53, 2, some .int, 1, 40, 0, 0)
def mJ7_fill_53178 : MD := (yJ7_fill_53178, cJ7_fill_53178, 4, none, 1, 40, 0, 0)
def mX2_isHeld : MD := (yX2_isHeld, cX2_isHeld, 2, some .boolean, 2, 60, 0, 0)
def mX2_hasPlace : MD := (yX2_hasPlace, cX2_hasPlace, 3, some .boolean, 2, 60, 0, 0)
def mX6_init : MD := (yX6_init, cX6_init, 2, none, 2, 60, 16, 182)
def mX8_foot : MD := (yX8_foot, cX8_foot, 3, some .int, 2, 60, 0, 0)
def mX8_refusal : MD := (yX8_refusal, cX8_refusal, 4, some .int, 2, 60, 0, 0)
def mX9_isRunning : MD := (yX9_isRunning, cX9_isRunning, 4, some .boolean, 2, 60, 0, 0)
def mX9_goesOn : MD := (yX9_goesOn, cX9_goesOn, 3, some .boolean, 2, 60, 0, 0)
def mX3_hasTrip : MD := (yX3_hasTrip, cX3_hasTrip, 3, some .boolean, 2, 61, 0, 0)
def mX3_hasPlace : MD := (yX3_hasPlace, cX3_hasPlace, 3, some .boolean, 2, 61, 0, 0)
def mX3_minuteOf : MD := (yX3_minuteOf, cX3_minuteOf, 4, some .int, 2, 61, 0, 0)
def mX3_isRunning : MD := (yX3_isRunning, cX3_isRunning, 3, some .boolean, 2, 61, 0, 0)
def mX3_putMinute : MD := (yX3_putMinute, cX3_putMinute, 5, none, 2, 61, 0, 0)
def mX3_putDelay : MD := (yX3_putDelay, cX3_putDelay, 8, some .boolean, 2, 61, 0, 0)
def mX4_takeByte : MD := (yX4_takeByte, cX4_takeByte, 2, some .boolean, 2, 61, 0, 0)
def mX4_takeNumber : MD := (yX4_takeNumber, cX4_takeNumber, 5, some .boolean, 2, 61, 0, 0)
def mX4_isPartEnd : MD := (yX4_isPartEnd, cX4_isPartEnd, 1, some .boolean, 2, 61, 0, 0)
def mX6_arriveAt : MD := (yX6_arriveAt, cX6_arriveAt, 9, some .int, 2, 61, 0, 0)
def mX7_init : MD := (yX7_init, cX7_init, 2, none, 2, 61, 1, 160)
def mX7_putNumber : MD := (yX7_putNumber, cX7_putNumber, 2, none, 2, 61, 0, 0)
def mX8_feed : MD := (yX8_feed, cX8_feed, 2, some .int, 2, 61, 0, 0)
def mX8_drop : MD := (yX8_drop, cX8_drop, 2, some .int, 2, 61, 0, 0)
def mX8_paper : MD := (yX8_paper, cX8_paper, 2, some .int, 2, 61, 0, 0)
def mX9_carryAll : MD := (yX9_carryAll, cX9_carryAll, 4, none, 2, 61, 0, 0)
def mX9_writesNumber : MD := (yX9_writesNumber, cX9_writesNumber, 2, none, 2, 61, 0, 0)
def mX8_image : MD := (yX8_image, cX8_image, 1, some .int, 2, 62, 0, 0)
def mX8_undo : MD := (yX8_undo, cX8_undo, 1, some .int, 2, 62, 0, 0)
def mX9_layWalks : MD := (yX9_layWalks, cX9_layWalks, 6, none, 2, 62, 0, 0)
def mX9_placeOn : MD := (yX9_placeOn, cX9_placeOn, 5, some .int, 2, 62, 0, 0)
def mX2_init : MD := (yX2_init, cX2_init, 1, none, 2, 63, 6, 88)
def mX2_begin : MD := (yX2_begin, cX2_begin, 3, none, 2, 63, 0, 0)
def mX3_isServed : MD := (yX3_isServed, cX3_isServed, 3, some .boolean, 2, 63, 0, 0)
def mX8_meet : MD := (yX8_meet, cX8_meet, 6, some .int, 2, 63, 0, 0)
def mX9_layTrip : MD := (yX9_layTrip, cX9_layTrip, 8, none, 2, 63, 0, 0)
def mX9_boardedAt : MD := (yX9_boardedAt, cX9_boardedAt, 9, some .int, 2, 63, 0, 0)
def mX9_putRide : MD := (yX9_putRide, cX9_putRide, 6, none, 2, 63, 0, 0)
def mX9_isTooLate : MD := (yX9_isTooLate, cX9_isTooLate, 4, some .boolean, 2, 63, 0, 0)
def mX3_beginTrip : MD := (yX3_beginTrip, cX3_beginTrip, 4, none, 2, 64, 0, 0)
def mX9_isStop : MD := (yX9_isStop, cX9_isStop, 1, some .boolean, 2, 65, 0, 0)
def mX9_isMinute : MD := (yX9_isMinute, cX9_isMinute, 1, some .boolean, 2, 65, 0, 0)
def mX9_isLine : MD := (yX9_isLine, cX9_isLine, 2, some .boolean, 2, 65, 0, 0)
def mX9_feed : MD := (yX9_feed, cX9_feed, 2, some .int, 2, 65, 0, 0)
def mX9_readFigures : MD := (yX9_readFigures, cX9_readFigures, 4, some .int, 2, 65, 0, 0)
def mX9_paper : MD := (yX9_paper, cX9_paper, 2, some .int, 2, 65, 0, 0)
def mX9_isList : MD := (yX9_isList, cX9_isList, 1, some .boolean, 2, 65, 0, 0)
def mX8_listRefusal : MD := (yX8_listRefusal, cX8_listRefusal, 5, some .int, 3, 81, 0, 0)
def mX2_hasPlaceBehind : MD := (yX2_hasPlaceBehind, cX2_hasPlaceBehind, 4, some .boolean, 3, 82, 0, 0)
def mX5_spellInto : MD := (yX5_spellInto, cX5_spellInto, 4, none, 3, 82, 0, 0)
def mX8_walk : MD := (yX8_walk, cX8_walk, 5, some .int, 3, 82, 0, 0)
def mX8_set : MD := (yX8_set, cX8_set, 4, some .int, 3, 82, 0, 0)
def mX8_get : MD := (yX8_get, cX8_get, 3, some .int, 3, 82, 0, 0)
def mX9_wants : MD := (yX9_wants, cX9_wants, 2, none, 3, 82, 0, 0)
def mX9_writesLeg : MD := (yX9_writesLeg, cX9_writesLeg, 2, none, 3, 82, 0, 0)
def mX3_countRunning : MD := (yX3_countRunning, cX3_countRunning, 4, some .int, 3, 83, 0, 0)
def mX8_init : MD := (yX8_init, cX8_init, 1, none, 3, 83, 274, 2655)
def mX8_stop : MD := (yX8_stop, cX8_stop, 3, some .int, 3, 83, 0, 0)
def mX8_runs : MD := (yX8_runs, cX8_runs, 3, some .int, 3, 83, 0, 0)
def mX9_isRidden : MD := (yX9_isRidden, cX9_isRidden, 3, some .boolean, 3, 83, 0, 0)
def mX9_runsOf : MD := (yX9_runsOf, cX9_runsOf, 4, some .int, 3, 83, 0, 0)
def mX0_gather : MD := (yX0_gather, cX0_gather, 7, none, 3, 84, 0, 0)
def mX0_leastMissOf : MD := (yX0_leastMissOf, cX0_leastMissOf, 9, some .int, 3, 84, 0, 0)
def mX5_findBeginning : MD := (yX5_findBeginning, cX5_findBeginning, 6, some .boolean, 3, 84, 0, 0)
def mX5_addRide : MD := (yX5_addRide, cX5_addRide, 4, some .int, 3, 84, 0, 0)
def mX6_rideOne : MD := (yX6_rideOne, cX6_rideOne, 9, none, 3, 84, 0, 0)
def mX8_minute : MD := (yX8_minute, cX8_minute, 4, some .int, 3, 84, 0, 0)
def mX9_image : MD := (yX9_image, cX9_image, 1, some .int, 3, 84, 0, 0)
def mX9_undo : MD := (yX9_undo, cX9_undo, 1, some .int, 3, 84, 0, 0)
def mX3_countLoneStops : MD := (yX3_countLoneStops, cX3_countLoneStops, 3, some .int, 3, 85, 0, 0)
def mX4_takeStop : MD := (yX4_takeStop, cX4_takeStop, 1, some .boolean, 3, 85, 0, 0)
def mX8_list : MD := (yX8_list, cX8_list, 3, some .int, 3, 85, 0, 0)
def mX9_areTwo : MD := (yX9_areTwo, cX9_areTwo, 2, some .boolean, 3, 85, 0, 0)
def mX9_wrong : MD := (yX9_wrong, cX9_wrong, 4, some .int, 3, 85, 0, 0)
def mX9_list : MD := (yX9_list, cX9_list, 4, some .int, 3, 85, 0, 0)
def mX9_set : MD := (yX9_set, cX9_set, 4, some .int, 3, 85, 0, 0)
def mX9_get : MD := (yX9_get, cX9_get, 3, some .int, 3, 85, 0, 0)
def mX9_isTrip : MD := (yX9_isTrip, cX9_isTrip, 3, some .boolean, 3, 86, 0, 0)
def mX9_stop : MD := (yX9_stop, cX9_stop, 3, some .int, 3, 86, 0, 0)
def mX9_drop : MD := (yX9_drop, cX9_drop, 2, some .int, 3, 86, 0, 0)
def mX9_departureAt : MD := (yX9_departureAt, cX9_departureAt, 5, some .int, 3, 86, 0, 0)
def mX9_arrivalAt : MD := (yX9_arrivalAt, cX9_arrivalAt, 5, some .int, 3, 86, 0, 0)
def mX9_meet : MD := (yX9_meet, cX9_meet, 5, some .int, 3, 86, 0, 0)
def mX9_bareStops : MD := (yX9_bareStops, cX9_bareStops, 5, some .int, 3, 86, 0, 0)
def mX4_readTrip : MD := (yX4_readTrip, cX4_readTrip, 5, some .boolean, 3, 87, 0, 0)
def mX4_readDelay : MD := (yX4_readDelay, cX4_readDelay, 4, some .boolean, 3, 88, 0, 0)
def mX8_delay : MD := (yX8_delay, cX8_delay, 5, some .int, 3, 88, 0, 0)
def mX9_readWithin : MD := (yX9_readWithin, cX9_readWithin, 5, some .int, 3, 88, 0, 0)
def mX6_arriveAll : MD := (yX6_arriveAll, cX6_arriveAll, 6, none, 3, 89, 0, 0)
def mX4_readLine : MD := (yX4_readLine, cX4_readLine, 3, some .boolean, 4, 105, 0, 0)
def mX4_readPath : MD := (yX4_readPath, cX4_readPath, 3, some .boolean, 4, 105, 0, 0)
def mX9_layRounds : MD := (yX9_layRounds, cX9_layRounds, 6, none, 4, 105, 0, 0)
def mX9_seekRide : MD := (yX9_seekRide, cX9_seekRide, 7, some .boolean, 4, 105, 0, 0)
def mX3_countAllRunning : MD := (yX3_countAllRunning, cX3_countAllRunning, 3, some .int, 4, 106, 0, 0)
def mX8_line : MD := (yX8_line, cX8_line, 3, some .int, 4, 106, 0, 0)
def mX9_line : MD := (yX9_line, cX9_line, 3, some .int, 4, 106, 0, 0)
def mX9_foot : MD := (yX9_foot, cX9_foot, 3, some .int, 4, 106, 0, 0)
def mX9_walk : MD := (yX9_walk, cX9_walk, 5, some .int, 4, 106, 0, 0)
def mX9_tripsOf : MD := (yX9_tripsOf, cX9_tripsOf, 4, some .int, 4, 106, 0, 0)
def mX9_minute : MD := (yX9_minute, cX9_minute, 4, some .int, 4, 108, 0, 0)
def mX9_runs : MD := (yX9_runs, cX9_runs, 3, some .int, 4, 108, 0, 0)
def mX9_delay : MD := (yX9_delay, cX9_delay, 5, some .int, 4, 108, 0, 0)
def mX9_wrongLay : MD := (yX9_wrongLay, cX9_wrongLay, 6, some .int, 4, 108, 0, 0)
def mX5_findRide : MD := (yX5_findRide, cX5_findRide, 8, some .boolean, 4, 109, 0, 0)
def mX8_board : MD := (yX8_board, cX8_board, 5, some .int, 4, 110, 0, 0)
def mX9_nextBoard : MD := (yX9_nextBoard, cX9_nextBoard, 11, some .long, 4, 110, 0, 0)
def mX9_missed : MD := (yX9_missed, cX9_missed, 9, some .int, 4, 110, 0, 0)
def mX0_leastMiss : MD := (yX0_leastMiss, cX0_leastMiss, 6, some .int, 4, 112, 0, 0)
def mX6_rideAll : MD := (yX6_rideAll, cX6_rideAll, 6, none, 4, 112, 0, 0)
def mX9_readLine : MD := (yX9_readLine, cX9_readLine, 7, none, 4, 112, 0, 0)
def mX9_readTrip : MD := (yX9_readTrip, cX9_readTrip, 6, none, 4, 112, 0, 0)
def mX9_readFoot : MD := (yX9_readFoot, cX9_readFoot, 4, none, 4, 112, 0, 0)
def mX9_readDelay : MD := (yX9_readDelay, cX9_readDelay, 6, none, 4, 112, 0, 0)
def mX4_readPart : MD := (yX4_readPart, cX4_readPart, 2, some .boolean, 5, 127, 0, 0)
def mX8_told : MD := (yX8_told, cX8_told, 2, some .int, 5, 128, 0, 0)
def mX9_told : MD := (yX9_told, cX9_told, 2, some .int, 5, 129, 0, 0)
def mX9_earliestOf : MD := (yX9_earliestOf, cX9_earliestOf, 5, some .int, 5, 130, 0, 0)
def mX9_worth : MD := (yX9_worth, cX9_worth, 6, some .int, 5, 130, 0, 0)
def mX9_reached : MD := (yX9_reached, cX9_reached, 7, some .int, 5, 130, 0, 0)
def mX9_walkedFrom : MD := (yX9_walkedFrom, cX9_walkedFrom, 8, some .int, 5, 131, 0, 0)
def mX9_lay : MD := (yX9_lay, cX9_lay, 7, some .int, 5, 133, 0, 0)
def mX9_judge : MD := (yX9_judge, cX9_judge, 7, some .int, 5, 133, 0, 0)
def mX5_addWalk : MD := (yX5_addWalk, cX5_addWalk, 8, some .int, 5, 136, 0, 0)
def mX6_run : MD := (yX6_run, cX6_run, 5, none, 5, 137, 0, 0)
def mX8_missed : MD := (yX8_missed, cX8_missed, 2, some .int, 5, 137, 0, 0)
def mX9_readPart : MD := (yX9_readPart, cX9_readPart, 3, none, 5, 138, 0, 0)
def mX9_board : MD := (yX9_board, cX9_board, 8, some .int, 5, 140, 0, 0)
def mX4_readTable : MD := (yX4_readTable, cX4_readTable, 2, some .int, 6, 148, 0, 0)
def mX9_earliest : MD := (yX9_earliest, cX9_earliest, 6, some .int, 6, 154, 0, 0)
def mX9_latest : MD := (yX9_latest, cX9_latest, 9, some .int, 6, 154, 0, 0)
def mX9_profile : MD := (yX9_profile, cX9_profile, 12, some .int, 6, 154, 0, 0)
def mX9_lateBy : MD := (yX9_lateBy, cX9_lateBy, 6, some .int, 6, 154, 0, 0)
def mX9_layJourney : MD := (yX9_layJourney, cX9_layJourney, 9, some .boolean, 6, 158, 0, 0)
def mX9_table : MD := (yX9_table, cX9_table, 3, some .int, 6, 160, 0, 0)
def mX6_arrival : MD := (yX6_arrival, cX6_arrival, 5, some .int, 6, 161, 0, 0)
def mX6_arrivalWithoutTrip : MD := (yX6_arrivalWithoutTrip, cX6_arrivalWithoutTrip, 7, some .int, 6, 161, 0, 0)
def mX6_arrivalWithoutStop : MD := (yX6_arrivalWithoutStop, cX6_arrivalWithoutStop, 6, some .int, 6, 161, 0, 0)
def mX8_worth : MD := (yX8_worth, cX8_worth, 9, some .int, 6, 161, 0, 0)
def mX8_reached : MD := (yX8_reached, cX8_reached, 7, some .int, 6, 161, 0, 0)
def mX8_lay : MD := (yX8_lay, cX8_lay, 8, some .int, 6, 161, 0, 0)
def mX8_judge : MD := (yX8_judge, cX8_judge, 8, some .int, 6, 161, 0, 0)
def mX5_trace : MD := (yX5_trace, cX5_trace, 8, some .boolean, 6, 163, 0, 0)
def mX8_table : MD := (yX8_table, cX8_table, 2, some .int, 7, 169, 0, 0)
def mX9_worst : MD := (yX9_worst, cX9_worst, 12, some .int, 7, 179, 0, 0)
def mX9_cut : MD := (yX9_cut, cX9_cut, 11, some .int, 7, 179, 0, 0)
def mX8_earliest : MD := (yX8_earliest, cX8_earliest, 6, some .int, 7, 185, 0, 0)
def mX8_latest : MD := (yX8_latest, cX8_latest, 9, some .int, 7, 185, 0, 0)
def mX8_profile : MD := (yX8_profile, cX8_profile, 12, some .int, 7, 185, 0, 0)
def mX8_cut : MD := (yX8_cut, cX8_cut, 12, some .int, 7, 186, 0, 0)
def mX9_legs : MD := (yX9_legs, cX9_legs, 5, some .int, 7, 186, 0, 0)
def mX9_leg : MD := (yX9_leg, cX9_leg, 7, some .int, 7, 186, 0, 0)
def mX9_fare : MD := (yX9_fare, cX9_fare, 7, some .int, 7, 186, 0, 0)
def mX9_waiting : MD := (yX9_waiting, cX9_waiting, 7, some .int, 7, 186, 0, 0)
def mX9_spell : MD := (yX9_spell, cX9_spell, 6, some .int, 7, 186, 0, 0)
def mX8_worst : MD := (yX8_worst, cX8_worst, 13, some .int, 7, 187, 0, 0)
def mX8_legs : MD := (yX8_legs, cX8_legs, 6, some .int, 7, 190, 0, 0)
def mX8_leg : MD := (yX8_leg, cX8_leg, 8, some .int, 7, 190, 0, 0)
def mX8_fare : MD := (yX8_fare, cX8_fare, 6, some .int, 7, 190, 0, 0)
def mX8_waiting : MD := (yX8_waiting, cX8_waiting, 6, some .int, 7, 190, 0, 0)
def mX8_spell : MD := (yX8_spell, cX8_spell, 6, some .int, 7, 190, 0, 0)
def mL_law : MD := (yL_law, cL_law, 4, some .boolean, 8, 219, 299, 5307)
set_option maxRecDepth 100000 in
theorem cf0 : CF 0 RX0 TX0 3 := ⟨rfl, by decide +kernel, ⟨tyX0, tyX0_ok⟩, nmX0⟩
set_option maxRecDepth 100000 in
theorem cf1 : CF 1 RX2 TX2 2 := ⟨rfl, by decide +kernel, ⟨tyX2, tyX2_ok⟩, nmX2⟩
set_option maxRecDepth 100000 in
theorem cf2 : CF 2 RX3 TX3 8 := ⟨rfl, by decide +kernel, ⟨tyX3, tyX3_ok⟩, nmX3⟩
set_option maxRecDepth 100000 in
theorem cf3 : CF 3 RX4 TX4 7 := ⟨rfl, by decide +kernel, ⟨tyX4, tyX4_ok⟩, nmX4⟩
set_option maxRecDepth 100000 in
theorem cf4 : CF 4 RX5 TX5 7 := ⟨rfl, by decide +kernel, ⟨tyX5, tyX5_ok⟩, nmX5⟩
set_option maxRecDepth 100000 in
theorem cf5 : CF 5 RX6 TX6 6 := ⟨rfl, by decide +kernel, ⟨tyX6, tyX6_ok⟩, nmX6⟩
set_option maxRecDepth 100000 in
theorem cf6 : CF 6 RX7 TX7 2 := ⟨rfl, by decide +kernel, ⟨tyX7, tyX7_ok⟩, nmX7⟩
set_option maxRecDepth 100000 in
theorem cf7 : CF 7 RX8 TX8 11 := ⟨rfl, by decide +kernel, ⟨tyX8, tyX8_ok⟩, nmX8⟩
set_option maxRecDepth 100000 in
theorem cf8 : CF 8 RX9 TX9 41 := ⟨rfl, by decide +kernel, ⟨tyX9, tyX9_ok⟩, nmX9⟩
set_option maxRecDepth 100000 in
theorem ol_RX0 : Cond.methodLink RX0 3 Lib.objectInit ∈ GT := gt_1 145 rfl rfl
set_option maxRecDepth 100000 in
theorem fl_RX0_9 : FL RX0 9 0 0 3 TX0 RX0 := ⟨cf0, by decide, Or.inl (gt_1 146 rfl rfl)⟩
set_option maxRecDepth 100000 in
theorem fl_RX0_15 : FL RX0 15 0 1 3 TX0 RX0 := ⟨cf0, by decide, Or.inl (gt_1 147 rfl rfl)⟩
set_option maxRecDepth 100000 in
theorem fl_RX0_19 : FL RX0 19 0 2 3 TX0 RX0 := ⟨cf0, by decide, Or.inl (gt_1 148 rfl rfl)⟩
set_option maxRecDepth 100000 in
theorem fl_RX0_23 : FL RX0 23 2 0 8 TX3 RX3 := ⟨cf2, by decide, Or.inr ⟨"TripRounds", tb_1 (List.mem_of_getElem? (i := 31) rfl)⟩⟩
set_option maxRecDepth 100000 in
theorem ml_RX0_28 : MLV RX0 28 mX3_placeOf 2 := ⟨⟨gt_3 97 rfl rfl, gt_1 2 rfl rfl, gt_2 85 rfl rfl, ⟨by decide, by decide⟩, by decide +kernel⟩, gt_2 83 rfl rfl, gt_2 84 rfl rfl⟩
set_option maxRecDepth 100000 in
theorem ml_RX0_32 : MLV RX0 32 mX0_goesOn 2 := ⟨⟨gt_3 98 rfl rfl, gt_1 5 rfl rfl, gt_3 101 rfl rfl, ⟨by decide, by decide⟩, by decide +kernel⟩, gt_3 100 rfl rfl, gt_0 20 rfl rfl⟩
set_option maxRecDepth 100000 in
theorem fl_RX0_36 : FL RX0 36 2 3 8 TX3 RX3 := ⟨cf2, by decide, Or.inr ⟨"TripRounds", tb_1 (List.mem_of_getElem? (i := 45) rfl)⟩⟩
set_option maxRecDepth 100000 in
theorem ml_RX0_39 : MLV RX0 39 mX3_minuteOf 3 := ⟨⟨gt_3 102 rfl rfl, gt_1 2 rfl rfl, gt_2 160 rfl rfl, ⟨by decide, by decide⟩, by decide +kernel⟩, gt_2 158 rfl rfl, gt_2 159 rfl rfl⟩
set_option maxRecDepth 100000 in
theorem ml_RX0_43 : MLV RX0 43 mX3_isRunning 2 := ⟨⟨gt_3 103 rfl rfl, gt_1 2 rfl rfl, gt_2 139 rfl rfl, ⟨by decide, by decide⟩, by decide +kernel⟩, gt_2 137 rfl rfl, gt_2 138 rfl rfl⟩
set_option maxRecDepth 100000 in
theorem ml_RX0_46 : MLV RX0 46 mX0_insert 1 := ⟨⟨gt_3 104 rfl rfl, gt_1 5 rfl rfl, gt_3 107 rfl rfl, ⟨by decide, by decide⟩, by decide +kernel⟩, gt_3 106 rfl rfl, gt_0 21 rfl rfl⟩
set_option maxRecDepth 100000 in
theorem fl_RX0_50 : FL RX0 50 2 2 8 TX3 RX3 := ⟨cf2, by decide, Or.inr ⟨"TripRounds", tb_1 (List.mem_of_getElem? (i := 40) rfl)⟩⟩
set_option maxRecDepth 100000 in
theorem ml_RX0_53 : MLV RX0 53 mX0_leastMissOf 3 := ⟨⟨gt_3 120 rfl rfl, gt_1 5 rfl rfl, gt_3 123 rfl rfl, ⟨by decide, by decide⟩, by decide +kernel⟩, gt_3 122 rfl rfl, gt_0 22 rfl rfl⟩
set_option maxRecDepth 100000 in
theorem ml_RX0_56 : MLS RX0 56 mJ9_min_7cf53 2 := ⟨⟨gt_3 124 rfl rfl, gt_1 7 rfl rfl, gt_2 230 rfl rfl, ⟨by decide, by decide⟩, by decide +kernel⟩, gt_2 229 rfl rfl⟩
set_option maxRecDepth 100000 in
theorem ol_RX2 : Cond.methodLink RX2 1 Lib.objectInit ∈ GT := gt_1 209 rfl rfl
set_option maxRecDepth 100000 in
theorem ma_RX2_9 : Cond.classLink RX2 9 "[[I" ∈ GT := gt_1 210 rfl rfl
set_option maxRecDepth 100000 in
theorem fl_RX2_11 : FL RX2 11 1 0 2 TX2 RX2 := ⟨cf1, by decide, Or.inl (gt_1 214 rfl rfl)⟩
set_option maxRecDepth 100000 in
theorem fl_RX2_14 : FL RX2 14 1 1 2 TX2 RX2 := ⟨cf1, by decide, Or.inl (gt_1 216 rfl rfl)⟩
set_option maxRecDepth 100000 in
theorem ml_RX2_18 : MLS RX2 18 mJ7_fill_53178 2 := ⟨⟨gt_1 211 rfl rfl, gt_1 10 rfl rfl, gt_1 213 rfl rfl, ⟨by decide, by decide⟩, by decide +kernel⟩, gt_1 212 rfl rfl⟩
set_option maxRecDepth 100000 in
theorem ml_RX2_24 : MLS RX2 24 mX2_isList 1 := ⟨⟨gt_3 194 rfl rfl, gt_1 9 rfl rfl, gt_3 181 rfl rfl, ⟨by decide, by decide⟩, by decide +kernel⟩, gt_3 180 rfl rfl⟩
set_option maxRecDepth 100000 in
theorem ml_RX2_28 : MLV RX2 28 mX2_hasPlace 2 := ⟨⟨gt_3 216 rfl rfl, gt_1 9 rfl rfl, gt_3 198 rfl rfl, ⟨by decide, by decide⟩, by decide +kernel⟩, gt_3 196 rfl rfl, gt_3 197 rfl rfl⟩
set_option maxRecDepth 100000 in
theorem ol_RX3 : Cond.methodLink RX3 3 Lib.objectInit ∈ GT := gt_1 27 rfl rfl
set_option maxRecDepth 100000 in
theorem fl_RX3_9 : FL RX3 9 2 0 8 TX3 RX3 := ⟨cf2, by decide, Or.inl (gt_1 30 rfl rfl)⟩
set_option maxRecDepth 100000 in
theorem fl_RX3_15 : FL RX3 15 2 1 8 TX3 RX3 := ⟨cf2, by decide, Or.inl (gt_1 36 rfl rfl)⟩
set_option maxRecDepth 100000 in
theorem fl_RX3_19 : FL RX3 19 2 2 8 TX3 RX3 := ⟨cf2, by decide, Or.inl (gt_1 39 rfl rfl)⟩
set_option maxRecDepth 100000 in
theorem fl_RX3_22 : FL RX3 22 2 3 8 TX3 RX3 := ⟨cf2, by decide, Or.inl (gt_1 44 rfl rfl)⟩
set_option maxRecDepth 100000 in
theorem ma_RX3_25 : Cond.classLink RX3 25 "[[I" ∈ GT := gt_1 28 rfl rfl
set_option maxRecDepth 100000 in
theorem fl_RX3_27 : FL RX3 27 2 4 8 TX3 RX3 := ⟨cf2, by decide, Or.inl (gt_1 50 rfl rfl)⟩
set_option maxRecDepth 100000 in
theorem fl_RX3_30 : FL RX3 30 2 5 8 TX3 RX3 := ⟨cf2, by decide, Or.inl (gt_1 54 rfl rfl)⟩
set_option maxRecDepth 100000 in
theorem fl_RX3_33 : FL RX3 33 2 6 8 TX3 RX3 := ⟨cf2, by decide, Or.inl (gt_1 55 rfl rfl)⟩
set_option maxRecDepth 100000 in
theorem fl_RX3_36 : FL RX3 36 2 7 8 TX3 RX3 := ⟨cf2, by decide, Or.inl (gt_1 56 rfl rfl)⟩
set_option maxRecDepth 100000 in
theorem al_RX3 : Cond.methodLink RX3 39 arraycopyName ∈ GT := gt_2 36 rfl rfl
set_option maxRecDepth 100000 in
theorem ml_RX3_45 : MLV RX3 45 mX3_hasLine 1 := ⟨⟨gt_2 148 rfl rfl, gt_1 2 rfl rfl, gt_2 131 rfl rfl, ⟨by decide, by decide⟩, by decide +kernel⟩, gt_2 129 rfl rfl, gt_2 130 rfl rfl⟩
set_option maxRecDepth 100000 in
theorem ml_RX3_49 : MLS RX3 49 mX3_rowOf 2 := ⟨⟨gt_2 98 rfl rfl, gt_1 2 rfl rfl, gt_2 100 rfl rfl, ⟨by decide, by decide⟩, by decide +kernel⟩, gt_2 99 rfl rfl⟩
set_option maxRecDepth 100000 in
theorem ml_RX3_53 : MLS RX3 53 mX1_goesAt 2 := ⟨⟨gt_2 101 rfl rfl, gt_1 13 rfl rfl, gt_2 103 rfl rfl, ⟨by decide, by decide⟩, by decide +kernel⟩, gt_2 102 rfl rfl⟩
set_option maxRecDepth 100000 in
theorem ml_RX3_59 : MLV RX3 59 mX3_isRunning 2 := ⟨⟨gt_2 136 rfl rfl, gt_1 2 rfl rfl, gt_2 139 rfl rfl, ⟨by decide, by decide⟩, by decide +kernel⟩, gt_2 137 rfl rfl, gt_2 138 rfl rfl⟩
set_option maxRecDepth 100000 in
theorem ml_RX3_62 : MLV RX3 62 mX3_countRunning 1 := ⟨⟨gt_3 165 rfl rfl, gt_1 2 rfl rfl, gt_2 135 rfl rfl, ⟨by decide, by decide⟩, by decide +kernel⟩, gt_2 133 rfl rfl, gt_2 134 rfl rfl⟩
set_option maxRecDepth 100000 in
theorem ml_RX3_66 : MLV RX3 66 mX3_isServed 1 := ⟨⟨gt_3 170 rfl rfl, gt_1 2 rfl rfl, gt_3 173 rfl rfl, ⟨by decide, by decide⟩, by decide +kernel⟩, gt_3 172 rfl rfl, gt_0 23 rfl rfl⟩
set_option maxRecDepth 100000 in
theorem ml_RX3_69 : MLV RX3 69 mX3_placeOf 2 := ⟨⟨gt_3 174 rfl rfl, gt_1 2 rfl rfl, gt_2 85 rfl rfl, ⟨by decide, by decide⟩, by decide +kernel⟩, gt_2 83 rfl rfl, gt_2 84 rfl rfl⟩
set_option maxRecDepth 100000 in
theorem ol_RX4 : Cond.methodLink RX4 3 Lib.objectInit ∈ GT := gt_1 181 rfl rfl
set_option maxRecDepth 100000 in
theorem fl_RX4_9 : FL RX4 9 3 0 7 TX4 RX4 := ⟨cf3, by decide, Or.inl (gt_1 182 rfl rfl)⟩
set_option maxRecDepth 100000 in
theorem fl_RX4_15 : FL RX4 15 3 1 7 TX4 RX4 := ⟨cf3, by decide, Or.inl (gt_1 183 rfl rfl)⟩
set_option maxRecDepth 100000 in
theorem fl_RX4_19 : FL RX4 19 3 2 7 TX4 RX4 := ⟨cf3, by decide, Or.inl (gt_1 184 rfl rfl)⟩
set_option maxRecDepth 100000 in
theorem fl_RX4_23 : FL RX4 23 3 3 7 TX4 RX4 := ⟨cf3, by decide, Or.inl (gt_1 185 rfl rfl)⟩
set_option maxRecDepth 100000 in
theorem fl_RX4_26 : FL RX4 26 3 4 7 TX4 RX4 := ⟨cf3, by decide, Or.inl (gt_1 186 rfl rfl)⟩
set_option maxRecDepth 100000 in
theorem fl_RX4_29 : FL RX4 29 3 5 7 TX4 RX4 := ⟨cf3, by decide, Or.inl (gt_1 187 rfl rfl)⟩
set_option maxRecDepth 100000 in
theorem fl_RX4_32 : FL RX4 32 3 6 7 TX4 RX4 := ⟨cf3, by decide, Or.inl (gt_1 188 rfl rfl)⟩
set_option maxRecDepth 100000 in
theorem ml_RX4_35 : MLV RX4 35 mX4_readPart 0 := ⟨⟨gt_2 43 rfl rfl, gt_1 8 rfl rfl, gt_2 46 rfl rfl, ⟨by decide, by decide⟩, by decide +kernel⟩, gt_2 45 rfl rfl, gt_0 1 rfl rfl⟩
set_option maxRecDepth 100000 in
theorem fl_RX4_39 : FL RX4 39 6 1 2 TX7 RX7 := ⟨cf6, by decide, Or.inr ⟨"TripRounds", tb_1 (List.mem_of_getElem? (i := 169) rfl)⟩⟩
set_option maxRecDepth 100000 in
theorem ml_RX4_44 : MLV RX4 44 mX4_takeByte 1 := ⟨⟨gt_2 70 rfl rfl, gt_1 8 rfl rfl, gt_2 73 rfl rfl, ⟨by decide, by decide⟩, by decide +kernel⟩, gt_2 72 rfl rfl, gt_0 5 rfl rfl⟩
set_option maxRecDepth 100000 in
theorem ml_RX4_48 : MLV RX4 48 mX7_byteAt 1 := ⟨⟨gt_2 47 rfl rfl, gt_1 6 rfl rfl, gt_2 50 rfl rfl, ⟨by decide, by decide⟩, by decide +kernel⟩, gt_2 48 rfl rfl, gt_2 49 rfl rfl⟩
set_option maxRecDepth 100000 in
theorem ml_RX4_52 : MLV RX4 52 mX4_failAt 1 := ⟨⟨gt_2 55 rfl rfl, gt_1 8 rfl rfl, gt_2 58 rfl rfl, ⟨by decide, by decide⟩, by decide +kernel⟩, gt_2 57 rfl rfl, gt_0 3 rfl rfl⟩
set_option maxRecDepth 100000 in
theorem ml_RX4_55 : MLS RX4 55 mX4_isFigure 1 := ⟨⟨gt_2 63 rfl rfl, gt_1 8 rfl rfl, gt_2 65 rfl rfl, ⟨by decide, by decide⟩, by decide +kernel⟩, gt_2 64 rfl rfl⟩
set_option maxRecDepth 100000 in
theorem ml_RX4_58 : MLV RX4 58 mX4_readLine 0 := ⟨⟨gt_2 51 rfl rfl, gt_1 8 rfl rfl, gt_2 54 rfl rfl, ⟨by decide, by decide⟩, by decide +kernel⟩, gt_2 53 rfl rfl, gt_0 2 rfl rfl⟩
set_option maxRecDepth 100000 in
theorem ml_RX4_61 : MLV RX4 61 mX4_readTrip 0 := ⟨⟨gt_2 90 rfl rfl, gt_1 8 rfl rfl, gt_2 93 rfl rfl, ⟨by decide, by decide⟩, by decide +kernel⟩, gt_2 92 rfl rfl, gt_0 8 rfl rfl⟩
set_option maxRecDepth 100000 in
theorem ml_RX4_64 : MLV RX4 64 mX4_readPath 0 := ⟨⟨gt_2 108 rfl rfl, gt_1 8 rfl rfl, gt_2 111 rfl rfl, ⟨by decide, by decide⟩, by decide +kernel⟩, gt_2 110 rfl rfl, gt_0 9 rfl rfl⟩
set_option maxRecDepth 100000 in
theorem ml_RX4_67 : MLV RX4 67 mX4_readDelay 0 := ⟨⟨gt_2 116 rfl rfl, gt_1 8 rfl rfl, gt_2 119 rfl rfl, ⟨by decide, by decide⟩, by decide +kernel⟩, gt_2 118 rfl rfl, gt_0 10 rfl rfl⟩
set_option maxRecDepth 100000 in
theorem fl_RX4_70 : FL RX4 70 2 0 8 TX3 RX3 := ⟨cf2, by decide, Or.inr ⟨"TripRounds", tb_1 (List.mem_of_getElem? (i := 34) rfl)⟩⟩
set_option maxRecDepth 100000 in
theorem ml_RX4_75 : MLV RX4 75 mX4_takeNumber 3 := ⟨⟨gt_2 59 rfl rfl, gt_1 8 rfl rfl, gt_2 62 rfl rfl, ⟨by decide, by decide⟩, by decide +kernel⟩, gt_2 61 rfl rfl, gt_0 4 rfl rfl⟩
set_option maxRecDepth 100000 in
theorem ml_RX4_79 : MLV RX4 79 mX3_beginLine 1 := ⟨⟨gt_2 66 rfl rfl, gt_1 2 rfl rfl, gt_2 69 rfl rfl, ⟨by decide, by decide⟩, by decide +kernel⟩, gt_2 67 rfl rfl, gt_2 68 rfl rfl⟩
set_option maxRecDepth 100000 in
theorem ml_RX4_83 : MLV RX4 83 mX4_isPartEnd 0 := ⟨⟨gt_2 74 rfl rfl, gt_1 8 rfl rfl, gt_2 77 rfl rfl, ⟨by decide, by decide⟩, by decide +kernel⟩, gt_2 76 rfl rfl, gt_0 6 rfl rfl⟩
set_option maxRecDepth 100000 in
theorem ml_RX4_86 : MLV RX4 86 mX4_takeStop 0 := ⟨⟨gt_2 78 rfl rfl, gt_1 8 rfl rfl, gt_2 81 rfl rfl, ⟨by decide, by decide⟩, by decide +kernel⟩, gt_2 80 rfl rfl, gt_0 7 rfl rfl⟩
set_option maxRecDepth 100000 in
theorem ml_RX4_89 : MLV RX4 89 mX3_placeOf 2 := ⟨⟨gt_2 82 rfl rfl, gt_1 2 rfl rfl, gt_2 85 rfl rfl, ⟨by decide, by decide⟩, by decide +kernel⟩, gt_2 83 rfl rfl, gt_2 84 rfl rfl⟩
set_option maxRecDepth 100000 in
theorem ml_RX4_93 : MLV RX4 93 mX3_addStop 2 := ⟨⟨gt_2 86 rfl rfl, gt_1 2 rfl rfl, gt_2 89 rfl rfl, ⟨by decide, by decide⟩, by decide +kernel⟩, gt_2 87 rfl rfl, gt_2 88 rfl rfl⟩
set_option maxRecDepth 100000 in
theorem fl_RX4_97 : FL RX4 97 2 3 8 TX3 RX3 := ⟨cf2, by decide, Or.inr ⟨"TripRounds", tb_1 (List.mem_of_getElem? (i := 49) rfl)⟩⟩
set_option maxRecDepth 100000 in
theorem ml_RX4_101 : MLV RX4 101 mX3_beginTrip 2 := ⟨⟨gt_2 94 rfl rfl, gt_1 2 rfl rfl, gt_2 97 rfl rfl, ⟨by decide, by decide⟩, by decide +kernel⟩, gt_2 95 rfl rfl, gt_2 96 rfl rfl⟩
set_option maxRecDepth 100000 in
theorem fl_RX4_104 : FL RX4 104 2 2 8 TX3 RX3 := ⟨cf2, by decide, Or.inr ⟨"TripRounds", tb_1 (List.mem_of_getElem? (i := 43) rfl)⟩⟩
set_option maxRecDepth 100000 in
theorem ml_RX4_107 : MLV RX4 107 mX3_putMinute 4 := ⟨⟨gt_2 104 rfl rfl, gt_1 2 rfl rfl, gt_2 107 rfl rfl, ⟨by decide, by decide⟩, by decide +kernel⟩, gt_2 105 rfl rfl, gt_2 106 rfl rfl⟩
set_option maxRecDepth 100000 in
theorem ml_RX4_111 : MLV RX4 111 mX3_putPath 3 := ⟨⟨gt_2 112 rfl rfl, gt_1 2 rfl rfl, gt_2 115 rfl rfl, ⟨by decide, by decide⟩, by decide +kernel⟩, gt_2 113 rfl rfl, gt_2 114 rfl rfl⟩
set_option maxRecDepth 100000 in
theorem ml_RX4_115 : MLV RX4 115 mX3_putDelay 4 := ⟨⟨gt_2 120 rfl rfl, gt_1 2 rfl rfl, gt_2 123 rfl rfl, ⟨by decide, by decide⟩, by decide +kernel⟩, gt_2 121 rfl rfl, gt_2 122 rfl rfl⟩
set_option maxRecDepth 100000 in
theorem ol_RX5 : Cond.methodLink RX5 3 Lib.objectInit ∈ GT := gt_1 115 rfl rfl
set_option maxRecDepth 100000 in
theorem fl_RX5_9 : FL RX5 9 4 0 7 TX5 RX5 := ⟨cf4, by decide, Or.inl (gt_1 117 rfl rfl)⟩
set_option maxRecDepth 100000 in
theorem fl_RX5_15 : FL RX5 15 4 1 7 TX5 RX5 := ⟨cf4, by decide, Or.inl (gt_1 118 rfl rfl)⟩
set_option maxRecDepth 100000 in
theorem ma_RX5_19 : Cond.classLink RX5 19 "[[I" ∈ GT := gt_1 116 rfl rfl
set_option maxRecDepth 100000 in
theorem fl_RX5_21 : FL RX5 21 4 2 7 TX5 RX5 := ⟨cf4, by decide, Or.inl (gt_1 119 rfl rfl)⟩
set_option maxRecDepth 100000 in
theorem fl_RX5_24 : FL RX5 24 4 3 7 TX5 RX5 := ⟨cf4, by decide, Or.inl (gt_1 120 rfl rfl)⟩
set_option maxRecDepth 100000 in
theorem fl_RX5_28 : FL RX5 28 4 4 7 TX5 RX5 := ⟨cf4, by decide, Or.inl (gt_1 122 rfl rfl)⟩
set_option maxRecDepth 100000 in
theorem fl_RX5_31 : FL RX5 31 4 5 7 TX5 RX5 := ⟨cf4, by decide, Or.inl (gt_1 123 rfl rfl)⟩
set_option maxRecDepth 100000 in
theorem fl_RX5_34 : FL RX5 34 4 6 7 TX5 RX5 := ⟨cf4, by decide, Or.inl (gt_1 124 rfl rfl)⟩
set_option maxRecDepth 100000 in
theorem ml_RX5_37 : MLV RX5 37 mX6_run 3 := ⟨⟨gt_3 7 rfl rfl, gt_1 3 rfl rfl, gt_2 208 rfl rfl, ⟨by decide, by decide⟩, by decide +kernel⟩, gt_2 206 rfl rfl, gt_2 207 rfl rfl⟩
set_option maxRecDepth 100000 in
theorem fl_RX5_43 : FL RX5 43 5 1 6 TX6 RX6 := ⟨cf5, by decide, Or.inr ⟨"TripRounds", tb_1 (List.mem_of_getElem? (i := 91) rfl)⟩⟩
set_option maxRecDepth 100000 in
theorem ml_RX5_46 : MLV RX5 46 mX5_findRide 3 := ⟨⟨gt_3 8 rfl rfl, gt_1 4 rfl rfl, gt_3 11 rfl rfl, ⟨by decide, by decide⟩, by decide +kernel⟩, gt_3 10 rfl rfl, gt_0 15 rfl rfl⟩
set_option maxRecDepth 100000 in
theorem ml_RX5_50 : MLV RX5 50 mX5_addRide 1 := ⟨⟨gt_3 19 rfl rfl, gt_1 4 rfl rfl, gt_3 22 rfl rfl, ⟨by decide, by decide⟩, by decide +kernel⟩, gt_3 21 rfl rfl, gt_0 17 rfl rfl⟩
set_option maxRecDepth 100000 in
theorem ml_RX5_54 : MLV RX5 54 mX5_addWalk 4 := ⟨⟨gt_3 26 rfl rfl, gt_1 4 rfl rfl, gt_3 29 rfl rfl, ⟨by decide, by decide⟩, by decide +kernel⟩, gt_3 28 rfl rfl, gt_0 18 rfl rfl⟩
set_option maxRecDepth 100000 in
theorem fl_RX5_58 : FL RX5 58 2 0 8 TX3 RX3 := ⟨cf2, by decide, Or.inr ⟨"TripRounds", tb_1 (List.mem_of_getElem? (i := 32) rfl)⟩⟩
set_option maxRecDepth 100000 in
theorem ml_RX5_63 : MLV RX5 63 mX3_placeOf 2 := ⟨⟨gt_3 12 rfl rfl, gt_1 2 rfl rfl, gt_2 85 rfl rfl, ⟨by decide, by decide⟩, by decide +kernel⟩, gt_2 83 rfl rfl, gt_2 84 rfl rfl⟩
set_option maxRecDepth 100000 in
theorem fl_RX5_67 : FL RX5 67 2 3 8 TX3 RX3 := ⟨cf2, by decide, Or.inr ⟨"TripRounds", tb_1 (List.mem_of_getElem? (i := 46) rfl)⟩⟩
set_option maxRecDepth 100000 in
theorem ml_RX5_71 : MLV RX5 71 mX3_isRunning 2 := ⟨⟨gt_3 13 rfl rfl, gt_1 2 rfl rfl, gt_2 139 rfl rfl, ⟨by decide, by decide⟩, by decide +kernel⟩, gt_2 137 rfl rfl, gt_2 138 rfl rfl⟩
set_option maxRecDepth 100000 in
theorem ml_RX5_75 : MLV RX5 75 mX3_minuteOf 3 := ⟨⟨gt_3 14 rfl rfl, gt_1 2 rfl rfl, gt_2 160 rfl rfl, ⟨by decide, by decide⟩, by decide +kernel⟩, gt_2 158 rfl rfl, gt_2 159 rfl rfl⟩
set_option maxRecDepth 100000 in
theorem ml_RX5_79 : MLV RX5 79 mX5_findBeginning 4 := ⟨⟨gt_3 15 rfl rfl, gt_1 4 rfl rfl, gt_3 18 rfl rfl, ⟨by decide, by decide⟩, by decide +kernel⟩, gt_3 17 rfl rfl, gt_0 16 rfl rfl⟩
set_option maxRecDepth 100000 in
theorem fl_RX5_83 : FL RX5 83 2 4 8 TX3 RX3 := ⟨cf2, by decide, Or.inr ⟨"TripRounds", tb_1 (List.mem_of_getElem? (i := 51) rfl)⟩⟩
set_option maxRecDepth 100000 in
theorem fl_RX5_86 : FL RX5 86 2 1 8 TX3 RX3 := ⟨cf2, by decide, Or.inr ⟨"TripRounds", tb_1 (List.mem_of_getElem? (i := 38) rfl)⟩⟩
set_option maxRecDepth 100000 in
theorem ml_RX5_89 : MLS RX5 89 mX1_price 2 := ⟨⟨gt_3 23 rfl rfl, gt_1 13 rfl rfl, gt_3 25 rfl rfl, ⟨by decide, by decide⟩, by decide +kernel⟩, gt_3 24 rfl rfl⟩
set_option maxRecDepth 100000 in
theorem fl_RX5_94 : FL RX5 94 2 7 8 TX3 RX3 := ⟨cf2, by decide, Or.inr ⟨"TripRounds", tb_1 (List.mem_of_getElem? (i := 57) rfl)⟩⟩
set_option maxRecDepth 100000 in
theorem ml_RX5_97 : MLV RX5 97 mX5_putWalk 4 := ⟨⟨gt_3 30 rfl rfl, gt_1 4 rfl rfl, gt_3 33 rfl rfl, ⟨by decide, by decide⟩, by decide +kernel⟩, gt_3 32 rfl rfl, gt_0 19 rfl rfl⟩
set_option maxRecDepth 100000 in
theorem fl_RX5_101 : FL RX5 101 6 1 2 TX7 RX7 := ⟨cf6, by decide, Or.inr ⟨"TripRounds", tb_1 (List.mem_of_getElem? (i := 170) rfl)⟩⟩
set_option maxRecDepth 100000 in
theorem ml_RX5_106 : MLV RX5 106 mX7_put 1 := ⟨⟨gt_3 138 rfl rfl, gt_1 6 rfl rfl, gt_2 23 rfl rfl, ⟨by decide, by decide⟩, by decide +kernel⟩, gt_2 21 rfl rfl, gt_2 22 rfl rfl⟩
set_option maxRecDepth 100000 in
theorem ml_RX5_110 : MLV RX5 110 mX7_putNumber 1 := ⟨⟨gt_3 139 rfl rfl, gt_1 6 rfl rfl, gt_3 142 rfl rfl, ⟨by decide, by decide⟩, by decide +kernel⟩, gt_3 140 rfl rfl, gt_3 141 rfl rfl⟩
set_option maxRecDepth 100000 in
theorem ol_RX6 : Cond.methodLink RX6 3 Lib.objectInit ∈ GT := gt_1 83 rfl rfl
set_option maxRecDepth 100000 in
theorem fl_RX6_9 : FL RX6 9 5 0 6 TX6 RX6 := ⟨cf5, by decide, Or.inl (gt_1 89 rfl rfl)⟩
set_option maxRecDepth 100000 in
theorem ma_RX6_15 : Cond.classLink RX6 15 "[[I" ∈ GT := gt_1 84 rfl rfl
set_option maxRecDepth 100000 in
theorem fl_RX6_17 : FL RX6 17 5 1 6 TX6 RX6 := ⟨cf5, by decide, Or.inl (gt_1 90 rfl rfl)⟩
set_option maxRecDepth 100000 in
theorem fl_RX6_20 : FL RX6 20 5 2 6 TX6 RX6 := ⟨cf5, by decide, Or.inl (gt_1 93 rfl rfl)⟩
set_option maxRecDepth 100000 in
theorem ml_RX6_23 : MLV RX6 23 mX6_loseNothing 0 := ⟨⟨gt_1 85 rfl rfl, gt_1 3 rfl rfl, gt_1 88 rfl rfl, ⟨by decide, by decide⟩, by decide +kernel⟩, gt_1 87 rfl rfl, gt_0 0 rfl rfl⟩
set_option maxRecDepth 100000 in
theorem fl_RX6_26 : FL RX6 26 5 3 6 TX6 RX6 := ⟨cf5, by decide, Or.inl (gt_1 94 rfl rfl)⟩
set_option maxRecDepth 100000 in
theorem fl_RX6_30 : FL RX6 30 5 4 6 TX6 RX6 := ⟨cf5, by decide, Or.inl (gt_1 95 rfl rfl)⟩
set_option maxRecDepth 100000 in
theorem fl_RX6_33 : FL RX6 33 5 5 6 TX6 RX6 := ⟨cf5, by decide, Or.inl (gt_1 96 rfl rfl)⟩
set_option maxRecDepth 100000 in
theorem ml_RX6_36 : MLV RX6 36 mX6_run 3 := ⟨⟨gt_2 205 rfl rfl, gt_1 3 rfl rfl, gt_2 208 rfl rfl, ⟨by decide, by decide⟩, by decide +kernel⟩, gt_2 206 rfl rfl, gt_2 207 rfl rfl⟩
set_option maxRecDepth 100000 in
theorem ml_RX6_40 : MLS RX6 40 mJ7_fill_53178 2 := ⟨⟨gt_2 209 rfl rfl, gt_1 10 rfl rfl, gt_1 213 rfl rfl, ⟨by decide, by decide⟩, by decide +kernel⟩, gt_1 212 rfl rfl⟩
set_option maxRecDepth 100000 in
theorem ml_RX6_46 : MLV RX6 46 mX6_rideAll 2 := ⟨⟨gt_2 210 rfl rfl, gt_1 3 rfl rfl, gt_2 213 rfl rfl, ⟨by decide, by decide⟩, by decide +kernel⟩, gt_2 212 rfl rfl, gt_0 11 rfl rfl⟩
set_option maxRecDepth 100000 in
theorem ml_RX6_50 : MLV RX6 50 mX6_arriveAll 4 := ⟨⟨gt_2 220 rfl rfl, gt_1 3 rfl rfl, gt_2 223 rfl rfl, ⟨by decide, by decide⟩, by decide +kernel⟩, gt_2 222 rfl rfl, gt_0 13 rfl rfl⟩
set_option maxRecDepth 100000 in
theorem fl_RX6_54 : FL RX6 54 2 0 8 TX3 RX3 := ⟨cf2, by decide, Or.inr ⟨"TripRounds", tb_1 (List.mem_of_getElem? (i := 33) rfl)⟩⟩
set_option maxRecDepth 100000 in
theorem fl_RX6_59 : FL RX6 59 2 3 8 TX3 RX3 := ⟨cf2, by decide, Or.inr ⟨"TripRounds", tb_1 (List.mem_of_getElem? (i := 48) rfl)⟩⟩
set_option maxRecDepth 100000 in
theorem ml_RX6_63 : MLV RX6 63 mX3_isRunning 2 := ⟨⟨gt_2 214 rfl rfl, gt_1 2 rfl rfl, gt_2 139 rfl rfl, ⟨by decide, by decide⟩, by decide +kernel⟩, gt_2 137 rfl rfl, gt_2 138 rfl rfl⟩
set_option maxRecDepth 100000 in
theorem ml_RX6_67 : MLV RX6 67 mX6_rideOne 4 := ⟨⟨gt_2 215 rfl rfl, gt_1 3 rfl rfl, gt_2 218 rfl rfl, ⟨by decide, by decide⟩, by decide +kernel⟩, gt_2 217 rfl rfl, gt_0 12 rfl rfl⟩
set_option maxRecDepth 100000 in
theorem fl_RX6_70 : FL RX6 70 2 2 8 TX3 RX3 := ⟨cf2, by decide, Or.inr ⟨"TripRounds", tb_1 (List.mem_of_getElem? (i := 42) rfl)⟩⟩
set_option maxRecDepth 100000 in
theorem fl_RX6_73 : FL RX6 73 2 4 8 TX3 RX3 := ⟨cf2, by decide, Or.inr ⟨"TripRounds", tb_1 (List.mem_of_getElem? (i := 53) rfl)⟩⟩
set_option maxRecDepth 100000 in
theorem ml_RX6_76 : MLV RX6 76 mX3_minuteOf 3 := ⟨⟨gt_2 219 rfl rfl, gt_1 2 rfl rfl, gt_2 160 rfl rfl, ⟨by decide, by decide⟩, by decide +kernel⟩, gt_2 158 rfl rfl, gt_2 159 rfl rfl⟩
set_option maxRecDepth 100000 in
theorem ml_RX6_80 : MLV RX6 80 mX6_arriveAt 4 := ⟨⟨gt_2 224 rfl rfl, gt_1 3 rfl rfl, gt_2 227 rfl rfl, ⟨by decide, by decide⟩, by decide +kernel⟩, gt_2 226 rfl rfl, gt_0 14 rfl rfl⟩
set_option maxRecDepth 100000 in
theorem fl_RX6_84 : FL RX6 84 2 7 8 TX3 RX3 := ⟨cf2, by decide, Or.inr ⟨"TripRounds", tb_1 (List.mem_of_getElem? (i := 59) rfl)⟩⟩
set_option maxRecDepth 100000 in
theorem ml_RX6_87 : MLS RX6 87 mJ9_min_7cf53 2 := ⟨⟨gt_2 228 rfl rfl, gt_1 7 rfl rfl, gt_2 230 rfl rfl, ⟨by decide, by decide⟩, by decide +kernel⟩, gt_2 229 rfl rfl⟩
set_option maxRecDepth 100000 in
theorem ol_RX7 : Cond.methodLink RX7 1 Lib.objectInit ∈ GT := gt_1 162 rfl rfl
set_option maxRecDepth 100000 in
theorem ml_RX7_7 : MLS RX7 7 mJ9_max_7cf53 2 := ⟨⟨gt_1 163 rfl rfl, gt_1 7 rfl rfl, gt_1 165 rfl rfl, ⟨by decide, by decide⟩, by decide +kernel⟩, gt_1 164 rfl rfl⟩
set_option maxRecDepth 100000 in
theorem fl_RX7_13 : FL RX7 13 6 0 2 TX7 RX7 := ⟨cf6, by decide, Or.inl (gt_1 166 rfl rfl)⟩
set_option maxRecDepth 100000 in
theorem fl_RX7_19 : FL RX7 19 6 1 2 TX7 RX7 := ⟨cf6, by decide, Or.inl (gt_1 167 rfl rfl)⟩
set_option maxRecDepth 100000 in
theorem ml_RX7_23 : MLV RX7 23 mX7_put 1 := ⟨⟨gt_3 143 rfl rfl, gt_1 6 rfl rfl, gt_2 23 rfl rfl, ⟨by decide, by decide⟩, by decide +kernel⟩, gt_2 21 rfl rfl, gt_2 22 rfl rfl⟩
set_option maxRecDepth 100000 in
theorem ol_RX8 : Cond.methodLink RX8 1 Lib.objectInit ∈ GT := gt_1 19 rfl rfl
set_option maxRecDepth 100000 in
theorem cn_RX8_7 : CN RX8 7 2 8 TX3 RX3 := ⟨cf2, gt_1 22 rfl rfl, gt_1 23 rfl rfl, gt_1 2 rfl rfl, tyX3, tyX3_ok, by decide +kernel⟩
set_option maxRecDepth 100000 in
theorem ml_RX8_9 : MLI RX8 9 mX3_init 0 := ⟨⟨gt_1 24 rfl rfl, gt_1 2 rfl rfl, gt_1 26 rfl rfl, ⟨by decide, by decide⟩, by decide +kernel⟩, rfl, gt_1 25 rfl rfl, rfl⟩
set_option maxRecDepth 100000 in
theorem fl_RX8_10 : FL RX8 10 7 0 11 TX8 RX8 := ⟨cf7, by decide, Or.inl (gt_1 222 rfl rfl)⟩
set_option maxRecDepth 100000 in
theorem fl_RX8_16 : FL RX8 16 7 1 11 TX8 RX8 := ⟨cf7, by decide, Or.inl (gt_1 223 rfl rfl)⟩
set_option maxRecDepth 100000 in
theorem fl_RX8_19 : FL RX8 19 7 2 11 TX8 RX8 := ⟨cf7, by decide, Or.inl (gt_1 224 rfl rfl)⟩
set_option maxRecDepth 100000 in
theorem cn_RX8_22 : CN RX8 22 5 6 TX6 RX6 := ⟨cf5, gt_1 78 rfl rfl, gt_1 79 rfl rfl, gt_1 3 rfl rfl, tyX6, tyX6_ok, by decide +kernel⟩
set_option maxRecDepth 100000 in
theorem ml_RX8_24 : MLI RX8 24 mX6_init 1 := ⟨⟨gt_1 80 rfl rfl, gt_1 3 rfl rfl, gt_1 82 rfl rfl, ⟨by decide, by decide⟩, by decide +kernel⟩, rfl, gt_1 81 rfl rfl, rfl⟩
set_option maxRecDepth 100000 in
theorem fl_RX8_27 : FL RX8 27 7 3 11 TX8 RX8 := ⟨cf7, by decide, Or.inl (gt_1 225 rfl rfl)⟩
set_option maxRecDepth 100000 in
theorem cn_RX8_31 : CN RX8 31 4 7 TX5 RX5 := ⟨cf4, gt_1 110 rfl rfl, gt_1 111 rfl rfl, gt_1 4 rfl rfl, tyX5, tyX5_ok, by decide +kernel⟩
set_option maxRecDepth 100000 in
theorem ml_RX8_33 : MLI RX8 33 mX5_init 2 := ⟨⟨gt_1 112 rfl rfl, gt_1 4 rfl rfl, gt_1 114 rfl rfl, ⟨by decide, by decide⟩, by decide +kernel⟩, rfl, gt_1 113 rfl rfl, rfl⟩
set_option maxRecDepth 100000 in
theorem fl_RX8_36 : FL RX8 36 7 4 11 TX8 RX8 := ⟨cf7, by decide, Or.inl (gt_1 226 rfl rfl)⟩
set_option maxRecDepth 100000 in
theorem cn_RX8_40 : CN RX8 40 0 3 TX0 RX0 := ⟨cf0, gt_1 140 rfl rfl, gt_1 141 rfl rfl, gt_1 5 rfl rfl, tyX0, tyX0_ok, by decide +kernel⟩
set_option maxRecDepth 100000 in
theorem ml_RX8_42 : MLI RX8 42 mX0_init 1 := ⟨⟨gt_1 142 rfl rfl, gt_1 5 rfl rfl, gt_1 144 rfl rfl, ⟨by decide, by decide⟩, by decide +kernel⟩, rfl, gt_1 143 rfl rfl, rfl⟩
set_option maxRecDepth 100000 in
theorem fl_RX8_43 : FL RX8 43 7 5 11 TX8 RX8 := ⟨cf7, by decide, Or.inl (gt_1 227 rfl rfl)⟩
set_option maxRecDepth 100000 in
theorem cn_RX8_47 : CN RX8 47 6 2 TX7 RX7 := ⟨cf6, gt_1 157 rfl rfl, gt_1 158 rfl rfl, gt_1 6 rfl rfl, tyX7, tyX7_ok, by decide +kernel⟩
set_option maxRecDepth 100000 in
theorem ml_RX8_49 : MLI RX8 49 mX7_init 1 := ⟨⟨gt_1 159 rfl rfl, gt_1 6 rfl rfl, gt_1 161 rfl rfl, ⟨by decide, by decide⟩, by decide +kernel⟩, rfl, gt_1 160 rfl rfl, rfl⟩
set_option maxRecDepth 100000 in
theorem fl_RX8_52 : FL RX8 52 7 6 11 TX8 RX8 := ⟨cf7, by decide, Or.inl (gt_1 228 rfl rfl)⟩
set_option maxRecDepth 100000 in
theorem fl_RX8_56 : FL RX8 56 7 7 11 TX8 RX8 := ⟨cf7, by decide, Or.inl (gt_1 229 rfl rfl)⟩
set_option maxRecDepth 100000 in
theorem cn_RX8_59 : CN RX8 59 3 7 TX4 RX4 := ⟨cf3, gt_1 176 rfl rfl, gt_1 177 rfl rfl, gt_1 8 rfl rfl, tyX4, tyX4_ok, by decide +kernel⟩
set_option maxRecDepth 100000 in
theorem ml_RX8_61 : MLI RX8 61 mX4_init 2 := ⟨⟨gt_1 178 rfl rfl, gt_1 8 rfl rfl, gt_1 180 rfl rfl, ⟨by decide, by decide⟩, by decide +kernel⟩, rfl, gt_1 179 rfl rfl, rfl⟩
set_option maxRecDepth 100000 in
theorem fl_RX8_64 : FL RX8 64 7 8 11 TX8 RX8 := ⟨cf7, by decide, Or.inl (gt_1 230 rfl rfl)⟩
set_option maxRecDepth 100000 in
theorem cn_RX8_68 : CN RX8 68 1 2 TX2 RX2 := ⟨cf1, gt_1 204 rfl rfl, gt_1 205 rfl rfl, gt_1 9 rfl rfl, tyX2, tyX2_ok, by decide +kernel⟩
set_option maxRecDepth 100000 in
theorem ml_RX8_70 : MLI RX8 70 mX2_init 0 := ⟨⟨gt_1 206 rfl rfl, gt_1 9 rfl rfl, gt_1 208 rfl rfl, ⟨by decide, by decide⟩, by decide +kernel⟩, rfl, gt_1 207 rfl rfl, rfl⟩
set_option maxRecDepth 100000 in
theorem fl_RX8_71 : FL RX8 71 7 9 11 TX8 RX8 := ⟨cf7, by decide, Or.inl (gt_1 231 rfl rfl)⟩
set_option maxRecDepth 100000 in
theorem fl_RX8_75 : FL RX8 75 7 10 11 TX8 RX8 := ⟨cf7, by decide, Or.inl (gt_1 232 rfl rfl)⟩
set_option maxRecDepth 100000 in
theorem fl_RX8_79 : FL RX8 79 6 1 2 TX7 RX7 := ⟨cf6, by decide, Or.inr ⟨"TripRounds", tb_1 (List.mem_of_getElem? (i := 168) rfl)⟩⟩
set_option maxRecDepth 100000 in
theorem ml_RX8_83 : MLV RX8 83 mX7_put 1 := ⟨⟨gt_2 20 rfl rfl, gt_1 6 rfl rfl, gt_2 23 rfl rfl, ⟨by decide, by decide⟩, by decide +kernel⟩, gt_2 21 rfl rfl, gt_2 22 rfl rfl⟩
set_option maxRecDepth 100000 in
theorem ml_RX8_86 : MLV RX8 86 mX3_copyFrom 1 := ⟨⟨gt_2 32 rfl rfl, gt_1 2 rfl rfl, gt_2 35 rfl rfl, ⟨by decide, by decide⟩, by decide +kernel⟩, gt_2 33 rfl rfl, gt_2 34 rfl rfl⟩
set_option maxRecDepth 100000 in
theorem ml_RX8_89 : MLV RX8 89 mX4_readTable 0 := ⟨⟨gt_2 39 rfl rfl, gt_1 8 rfl rfl, gt_2 42 rfl rfl, ⟨by decide, by decide⟩, by decide +kernel⟩, gt_2 40 rfl rfl, gt_2 41 rfl rfl⟩
set_option maxRecDepth 100000 in
theorem ml_RX8_93 : MLV RX8 93 mX3_hasLine 1 := ⟨⟨gt_2 128 rfl rfl, gt_1 2 rfl rfl, gt_2 131 rfl rfl, ⟨by decide, by decide⟩, by decide +kernel⟩, gt_2 129 rfl rfl, gt_2 130 rfl rfl⟩
set_option maxRecDepth 100000 in
theorem fl_RX8_97 : FL RX8 97 2 1 8 TX3 RX3 := ⟨cf2, by decide, Or.inr ⟨"TripRounds", tb_1 (List.mem_of_getElem? (i := 37) rfl)⟩⟩
set_option maxRecDepth 100000 in
theorem fl_RX8_101 : FL RX8 101 2 2 8 TX3 RX3 := ⟨cf2, by decide, Or.inr ⟨"TripRounds", tb_1 (List.mem_of_getElem? (i := 41) rfl)⟩⟩
set_option maxRecDepth 100000 in
theorem fl_RX8_104 : FL RX8 104 2 3 8 TX3 RX3 := ⟨cf2, by decide, Or.inr ⟨"TripRounds", tb_1 (List.mem_of_getElem? (i := 47) rfl)⟩⟩
set_option maxRecDepth 100000 in
theorem ml_RX8_107 : MLV RX8 107 mX3_countRunning 1 := ⟨⟨gt_2 132 rfl rfl, gt_1 2 rfl rfl, gt_2 135 rfl rfl, ⟨by decide, by decide⟩, by decide +kernel⟩, gt_2 133 rfl rfl, gt_2 134 rfl rfl⟩
set_option maxRecDepth 100000 in
theorem ml_RX8_111 : MLV RX8 111 mX3_hasPlace 2 := ⟨⟨gt_2 144 rfl rfl, gt_1 2 rfl rfl, gt_2 147 rfl rfl, ⟨by decide, by decide⟩, by decide +kernel⟩, gt_2 145 rfl rfl, gt_2 146 rfl rfl⟩
set_option maxRecDepth 100000 in
theorem fl_RX8_115 : FL RX8 115 2 4 8 TX3 RX3 := ⟨cf2, by decide, Or.inr ⟨"TripRounds", tb_1 (List.mem_of_getElem? (i := 52) rfl)⟩⟩
set_option maxRecDepth 100000 in
theorem ml_RX8_119 : MLV RX8 119 mX3_hasTrip 2 := ⟨⟨gt_2 153 rfl rfl, gt_1 2 rfl rfl, gt_2 156 rfl rfl, ⟨by decide, by decide⟩, by decide +kernel⟩, gt_2 154 rfl rfl, gt_2 155 rfl rfl⟩
set_option maxRecDepth 100000 in
theorem ml_RX8_122 : MLV RX8 122 mX3_minuteOf 3 := ⟨⟨gt_2 157 rfl rfl, gt_1 2 rfl rfl, gt_2 160 rfl rfl, ⟨by decide, by decide⟩, by decide +kernel⟩, gt_2 158 rfl rfl, gt_2 159 rfl rfl⟩
set_option maxRecDepth 100000 in
theorem ml_RX8_126 : MLV RX8 126 mX3_isRunning 2 := ⟨⟨gt_2 165 rfl rfl, gt_1 2 rfl rfl, gt_2 139 rfl rfl, ⟨by decide, by decide⟩, by decide +kernel⟩, gt_2 137 rfl rfl, gt_2 138 rfl rfl⟩
set_option maxRecDepth 100000 in
theorem ml_RX8_129 : MLS RX8 129 mX8_isStop 1 := ⟨⟨gt_2 170 rfl rfl, gt_1 1 rfl rfl, gt_2 172 rfl rfl, ⟨by decide, by decide⟩, by decide +kernel⟩, gt_2 171 rfl rfl⟩
set_option maxRecDepth 100000 in
theorem fl_RX8_132 : FL RX8 132 2 7 8 TX3 RX3 := ⟨cf2, by decide, Or.inr ⟨"TripRounds", tb_1 (List.mem_of_getElem? (i := 58) rfl)⟩⟩
set_option maxRecDepth 100000 in
theorem ml_RX8_135 : MLV RX8 135 mX8_foot 2 := ⟨⟨gt_2 177 rfl rfl, gt_1 1 rfl rfl, gt_2 169 rfl rfl, ⟨by decide, by decide⟩, by decide +kernel⟩, gt_2 167 rfl rfl, gt_2 168 rfl rfl⟩
set_option maxRecDepth 100000 in
theorem ml_RX8_139 : MLV RX8 139 mX3_putPath 3 := ⟨⟨gt_2 178 rfl rfl, gt_1 2 rfl rfl, gt_2 115 rfl rfl, ⟨by decide, by decide⟩, by decide +kernel⟩, gt_2 113 rfl rfl, gt_2 114 rfl rfl⟩
set_option maxRecDepth 100000 in
theorem ml_RX8_143 : MLV RX8 143 mX3_putDelay 4 := ⟨⟨gt_2 183 rfl rfl, gt_1 2 rfl rfl, gt_2 123 rfl rfl, ⟨by decide, by decide⟩, by decide +kernel⟩, gt_2 121 rfl rfl, gt_2 122 rfl rfl⟩
set_option maxRecDepth 100000 in
theorem ml_RX8_147 : MLS RX8 147 mX8_refusal 4 := ⟨⟨gt_2 192 rfl rfl, gt_1 1 rfl rfl, gt_2 194 rfl rfl, ⟨by decide, by decide⟩, by decide +kernel⟩, gt_2 193 rfl rfl⟩
set_option maxRecDepth 100000 in
theorem ml_RX8_151 : MLV RX8 151 mX6_arrival 4 := ⟨⟨gt_2 201 rfl rfl, gt_1 3 rfl rfl, gt_2 204 rfl rfl, ⟨by decide, by decide⟩, by decide +kernel⟩, gt_2 202 rfl rfl, gt_2 203 rfl rfl⟩
set_option maxRecDepth 100000 in
theorem ml_RX8_154 : MLS RX8 154 mX8_orMissing 1 := ⟨⟨gt_2 231 rfl rfl, gt_1 1 rfl rfl, gt_2 233 rfl rfl, ⟨by decide, by decide⟩, by decide +kernel⟩, gt_2 232 rfl rfl⟩
set_option maxRecDepth 100000 in
theorem ml_RX8_157 : MLV RX8 157 mX6_run 3 := ⟨⟨gt_2 238 rfl rfl, gt_1 3 rfl rfl, gt_2 208 rfl rfl, ⟨by decide, by decide⟩, by decide +kernel⟩, gt_2 206 rfl rfl, gt_2 207 rfl rfl⟩
set_option maxRecDepth 100000 in
theorem fl_RX8_160 : FL RX8 160 5 1 6 TX6 RX6 := ⟨cf5, by decide, Or.inr ⟨"TripRounds", tb_1 (List.mem_of_getElem? (i := 92) rfl)⟩⟩
set_option maxRecDepth 100000 in
theorem ml_RX8_163 : MLV RX8 163 mX5_trace 4 := ⟨⟨gt_3 3 rfl rfl, gt_1 4 rfl rfl, gt_3 6 rfl rfl, ⟨by decide, by decide⟩, by decide +kernel⟩, gt_3 4 rfl rfl, gt_3 5 rfl rfl⟩
set_option maxRecDepth 100000 in
theorem fl_RX8_166 : FL RX8 166 4 3 7 TX5 RX5 := ⟨cf4, by decide, Or.inr ⟨"TripRounds", tb_1 (List.mem_of_getElem? (i := 121) rfl)⟩⟩
set_option maxRecDepth 100000 in
theorem ml_RX8_169 : MLV RX8 169 mX5_tell 2 := ⟨⟨gt_3 38 rfl rfl, gt_1 4 rfl rfl, gt_3 41 rfl rfl, ⟨by decide, by decide⟩, by decide +kernel⟩, gt_3 39 rfl rfl, gt_3 40 rfl rfl⟩
set_option maxRecDepth 100000 in
theorem ml_RX8_172 : MLV RX8 172 mX5_sumFares 0 := ⟨⟨gt_3 46 rfl rfl, gt_1 4 rfl rfl, gt_3 49 rfl rfl, ⟨by decide, by decide⟩, by decide +kernel⟩, gt_3 47 rfl rfl, gt_3 48 rfl rfl⟩
set_option maxRecDepth 100000 in
theorem ml_RX8_175 : MLV RX8 175 mX5_sumMoving 0 := ⟨⟨gt_3 54 rfl rfl, gt_1 4 rfl rfl, gt_3 57 rfl rfl, ⟨by decide, by decide⟩, by decide +kernel⟩, gt_3 55 rfl rfl, gt_3 56 rfl rfl⟩
set_option maxRecDepth 100000 in
theorem ml_RX8_178 : MLS RX8 178 mX8_isMinute 1 := ⟨⟨gt_2 195 rfl rfl, gt_1 1 rfl rfl, gt_2 197 rfl rfl, ⟨by decide, by decide⟩, by decide +kernel⟩, gt_2 196 rfl rfl⟩
set_option maxRecDepth 100000 in
theorem ml_RX8_181 : MLS RX8 181 mX8_isRides 1 := ⟨⟨gt_2 198 rfl rfl, gt_1 1 rfl rfl, gt_2 200 rfl rfl, ⟨by decide, by decide⟩, by decide +kernel⟩, gt_2 199 rfl rfl⟩
set_option maxRecDepth 100000 in
theorem fl_RX8_184 : FL RX8 184 2 0 8 TX3 RX3 := ⟨cf2, by decide, Or.inr ⟨"TripRounds", tb_1 (List.mem_of_getElem? (i := 35) rfl)⟩⟩
set_option maxRecDepth 100000 in
theorem ml_RX8_187 : MLV RX8 187 mX6_arrivalWithoutTrip 6 := ⟨⟨gt_3 74 rfl rfl, gt_1 3 rfl rfl, gt_3 77 rfl rfl, ⟨by decide, by decide⟩, by decide +kernel⟩, gt_3 75 rfl rfl, gt_3 76 rfl rfl⟩
set_option maxRecDepth 100000 in
theorem ml_RX8_191 : MLS RX8 191 mX8_lossAnswer 3 := ⟨⟨gt_3 78 rfl rfl, gt_1 1 rfl rfl, gt_3 80 rfl rfl, ⟨by decide, by decide⟩, by decide +kernel⟩, gt_3 79 rfl rfl⟩
set_option maxRecDepth 100000 in
theorem ml_RX8_194 : MLV RX8 194 mX6_arrivalWithoutStop 5 := ⟨⟨gt_3 85 rfl rfl, gt_1 3 rfl rfl, gt_3 88 rfl rfl, ⟨by decide, by decide⟩, by decide +kernel⟩, gt_3 86 rfl rfl, gt_3 87 rfl rfl⟩
set_option maxRecDepth 100000 in
theorem ml_RX8_198 : MLV RX8 198 mX0_gather 2 := ⟨⟨gt_3 93 rfl rfl, gt_1 5 rfl rfl, gt_3 96 rfl rfl, ⟨by decide, by decide⟩, by decide +kernel⟩, gt_3 94 rfl rfl, gt_3 95 rfl rfl⟩
set_option maxRecDepth 100000 in
theorem fl_RX8_202 : FL RX8 202 0 2 3 TX0 RX0 := ⟨cf0, by decide, Or.inr ⟨"TripRounds", tb_1 (List.mem_of_getElem? (i := 149) rfl)⟩⟩
set_option maxRecDepth 100000 in
theorem ml_RX8_203 : MLV RX8 203 mX0_tell 2 := ⟨⟨gt_3 108 rfl rfl, gt_1 5 rfl rfl, gt_3 111 rfl rfl, ⟨by decide, by decide⟩, by decide +kernel⟩, gt_3 109 rfl rfl, gt_3 110 rfl rfl⟩
set_option maxRecDepth 100000 in
theorem ml_RX8_204 : MLV RX8 204 mX0_leastMiss 1 := ⟨⟨gt_3 116 rfl rfl, gt_1 5 rfl rfl, gt_3 119 rfl rfl, ⟨by decide, by decide⟩, by decide +kernel⟩, gt_3 117 rfl rfl, gt_3 118 rfl rfl⟩
set_option maxRecDepth 100000 in
theorem ml_RX8_207 : MLV RX8 207 mX3_placeOf 2 := ⟨⟨gt_3 129 rfl rfl, gt_1 2 rfl rfl, gt_2 85 rfl rfl, ⟨by decide, by decide⟩, by decide +kernel⟩, gt_2 83 rfl rfl, gt_2 84 rfl rfl⟩
set_option maxRecDepth 100000 in
theorem ml_RX8_210 : MLV RX8 210 mX5_spellInto 1 := ⟨⟨gt_3 134 rfl rfl, gt_1 4 rfl rfl, gt_3 137 rfl rfl, ⟨by decide, by decide⟩, by decide +kernel⟩, gt_3 135 rfl rfl, gt_3 136 rfl rfl⟩
set_option maxRecDepth 100000 in
theorem ml_RX8_214 : MLV RX8 214 mX7_byteAt 1 := ⟨⟨gt_3 148 rfl rfl, gt_1 6 rfl rfl, gt_2 50 rfl rfl, ⟨by decide, by decide⟩, by decide +kernel⟩, gt_2 48 rfl rfl, gt_2 49 rfl rfl⟩
set_option maxRecDepth 100000 in
theorem ml_RX8_217 : MLV RX8 217 mX3_countTrips 0 := ⟨⟨gt_3 153 rfl rfl, gt_1 2 rfl rfl, gt_3 156 rfl rfl, ⟨by decide, by decide⟩, by decide +kernel⟩, gt_3 154 rfl rfl, gt_3 155 rfl rfl⟩
set_option maxRecDepth 100000 in
theorem ml_RX8_220 : MLV RX8 220 mX3_countPaths 0 := ⟨⟨gt_3 157 rfl rfl, gt_1 2 rfl rfl, gt_3 160 rfl rfl, ⟨by decide, by decide⟩, by decide +kernel⟩, gt_3 158 rfl rfl, gt_3 159 rfl rfl⟩
set_option maxRecDepth 100000 in
theorem ml_RX8_223 : MLV RX8 223 mX3_countAllRunning 0 := ⟨⟨gt_3 161 rfl rfl, gt_1 2 rfl rfl, gt_3 164 rfl rfl, ⟨by decide, by decide⟩, by decide +kernel⟩, gt_3 162 rfl rfl, gt_3 163 rfl rfl⟩
set_option maxRecDepth 100000 in
theorem ml_RX8_226 : MLV RX8 226 mX3_countLoneStops 0 := ⟨⟨gt_3 166 rfl rfl, gt_1 2 rfl rfl, gt_3 169 rfl rfl, ⟨by decide, by decide⟩, by decide +kernel⟩, gt_3 167 rfl rfl, gt_3 168 rfl rfl⟩
set_option maxRecDepth 100000 in
theorem ml_RX8_229 : MLS RX8 229 mX2_isList 1 := ⟨⟨gt_3 179 rfl rfl, gt_1 9 rfl rfl, gt_3 181 rfl rfl, ⟨by decide, by decide⟩, by decide +kernel⟩, gt_3 180 rfl rfl⟩
set_option maxRecDepth 100000 in
theorem ml_RX8_232 : MLV RX8 232 mX2_begin 2 := ⟨⟨gt_3 182 rfl rfl, gt_1 9 rfl rfl, gt_3 185 rfl rfl, ⟨by decide, by decide⟩, by decide +kernel⟩, gt_3 183 rfl rfl, gt_3 184 rfl rfl⟩
set_option maxRecDepth 100000 in
theorem ml_RX8_235 : MLV RX8 235 mX2_isHeld 1 := ⟨⟨gt_3 190 rfl rfl, gt_1 9 rfl rfl, gt_3 193 rfl rfl, ⟨by decide, by decide⟩, by decide +kernel⟩, gt_3 191 rfl rfl, gt_3 192 rfl rfl⟩
set_option maxRecDepth 100000 in
theorem ml_RX8_238 : MLV RX8 238 mX2_hasPlace 2 := ⟨⟨gt_3 195 rfl rfl, gt_1 9 rfl rfl, gt_3 198 rfl rfl, ⟨by decide, by decide⟩, by decide +kernel⟩, gt_3 196 rfl rfl, gt_3 197 rfl rfl⟩
set_option maxRecDepth 100000 in
theorem fl_RX8_239 : FL RX8 239 1 0 2 TX2 RX2 := ⟨cf1, by decide, Or.inr ⟨"TripRounds", tb_1 (List.mem_of_getElem? (i := 215) rfl)⟩⟩
set_option maxRecDepth 100000 in
theorem kc_RX8_242 : Jvm.Cond.constant RX8 242 (Int32.ofInt (-2000000000)) ∈ GT := gt_3 203 rfl rfl
set_option maxRecDepth 100000 in
theorem ml_RX8_243 : MLV RX8 243 mX8_listRefusal 4 := ⟨⟨gt_3 208 rfl rfl, gt_1 1 rfl rfl, gt_3 211 rfl rfl, ⟨by decide, by decide⟩, by decide +kernel⟩, gt_3 210 rfl rfl, gt_0 24 rfl rfl⟩
set_option maxRecDepth 100000 in
theorem ml_RX8_246 : MLV RX8 246 mX2_hasPlaceBehind 3 := ⟨⟨gt_3 212 rfl rfl, gt_1 9 rfl rfl, gt_3 215 rfl rfl, ⟨by decide, by decide⟩, by decide +kernel⟩, gt_3 213 rfl rfl, gt_3 214 rfl rfl⟩
set_option maxRecDepth 100000 in
theorem ml_RX8_250 : MLV RX8 250 mX8_toldArrival 2 := ⟨⟨gt_3 217 rfl rfl, gt_1 1 rfl rfl, gt_3 220 rfl rfl, ⟨by decide, by decide⟩, by decide +kernel⟩, gt_3 219 rfl rfl, gt_0 25 rfl rfl⟩
set_option maxRecDepth 100000 in
theorem ol_RX9 : Cond.methodLink RX9 1 Lib.objectInit ∈ GT := gt_3 238 rfl rfl
set_option maxRecDepth 100000 in
theorem fl_RX9_7 : FL RX9 7 8 1 41 TX9 RX9 := ⟨cf8, by decide, Or.inl (gt_4 0 rfl rfl)⟩
set_option maxRecDepth 100000 in
theorem fl_RX9_13 : FL RX9 13 8 2 41 TX9 RX9 := ⟨cf8, by decide, Or.inl (gt_4 1 rfl rfl)⟩
set_option maxRecDepth 100000 in
theorem fl_RX9_16 : FL RX9 16 8 3 41 TX9 RX9 := ⟨cf8, by decide, Or.inl (gt_4 2 rfl rfl)⟩
set_option maxRecDepth 100000 in
theorem fl_RX9_19 : FL RX9 19 8 4 41 TX9 RX9 := ⟨cf8, by decide, Or.inl (gt_4 3 rfl rfl)⟩
set_option maxRecDepth 100000 in
theorem fl_RX9_22 : FL RX9 22 8 5 41 TX9 RX9 := ⟨cf8, by decide, Or.inl (gt_4 4 rfl rfl)⟩
set_option maxRecDepth 100000 in
theorem fl_RX9_25 : FL RX9 25 8 6 41 TX9 RX9 := ⟨cf8, by decide, Or.inl (gt_4 5 rfl rfl)⟩
set_option maxRecDepth 100000 in
theorem fl_RX9_28 : FL RX9 28 8 7 41 TX9 RX9 := ⟨cf8, by decide, Or.inl (gt_4 6 rfl rfl)⟩
set_option maxRecDepth 100000 in
theorem fl_RX9_31 : FL RX9 31 8 9 41 TX9 RX9 := ⟨cf8, by decide, Or.inl (gt_4 8 rfl rfl)⟩
set_option maxRecDepth 100000 in
theorem fl_RX9_35 : FL RX9 35 8 10 41 TX9 RX9 := ⟨cf8, by decide, Or.inl (gt_4 9 rfl rfl)⟩
set_option maxRecDepth 100000 in
theorem fl_RX9_38 : FL RX9 38 8 12 41 TX9 RX9 := ⟨cf8, by decide, Or.inl (gt_4 11 rfl rfl)⟩
set_option maxRecDepth 100000 in
theorem fl_RX9_41 : FL RX9 41 8 13 41 TX9 RX9 := ⟨cf8, by decide, Or.inl (gt_4 12 rfl rfl)⟩
set_option maxRecDepth 100000 in
theorem fl_RX9_44 : FL RX9 44 8 15 41 TX9 RX9 := ⟨cf8, by decide, Or.inl (gt_4 14 rfl rfl)⟩
set_option maxRecDepth 100000 in
theorem fl_RX9_47 : FL RX9 47 8 16 41 TX9 RX9 := ⟨cf8, by decide, Or.inl (gt_4 15 rfl rfl)⟩
set_option maxRecDepth 100000 in
theorem fl_RX9_50 : FL RX9 50 8 17 41 TX9 RX9 := ⟨cf8, by decide, Or.inl (gt_4 16 rfl rfl)⟩
set_option maxRecDepth 100000 in
theorem fl_RX9_53 : FL RX9 53 8 18 41 TX9 RX9 := ⟨cf8, by decide, Or.inl (gt_4 17 rfl rfl)⟩
set_option maxRecDepth 100000 in
theorem fl_RX9_56 : FL RX9 56 8 19 41 TX9 RX9 := ⟨cf8, by decide, Or.inl (gt_4 18 rfl rfl)⟩
set_option maxRecDepth 100000 in
theorem fl_RX9_59 : FL RX9 59 8 20 41 TX9 RX9 := ⟨cf8, by decide, Or.inl (gt_4 19 rfl rfl)⟩
set_option maxRecDepth 100000 in
theorem fl_RX9_62 : FL RX9 62 8 21 41 TX9 RX9 := ⟨cf8, by decide, Or.inl (gt_4 20 rfl rfl)⟩
set_option maxRecDepth 100000 in
theorem fl_RX9_65 : FL RX9 65 8 25 41 TX9 RX9 := ⟨cf8, by decide, Or.inl (gt_4 24 rfl rfl)⟩
set_option maxRecDepth 100000 in
theorem fl_RX9_68 : FL RX9 68 8 30 41 TX9 RX9 := ⟨cf8, by decide, Or.inl (gt_4 29 rfl rfl)⟩
set_option maxRecDepth 100000 in
theorem fl_RX9_71 : FL RX9 71 8 31 41 TX9 RX9 := ⟨cf8, by decide, Or.inl (gt_4 30 rfl rfl)⟩
set_option maxRecDepth 100000 in
theorem fl_RX9_74 : FL RX9 74 8 36 41 TX9 RX9 := ⟨cf8, by decide, Or.inl (gt_4 35 rfl rfl)⟩
set_option maxRecDepth 100000 in
theorem fl_RX9_77 : FL RX9 77 8 38 41 TX9 RX9 := ⟨cf8, by decide, Or.inl (gt_4 37 rfl rfl)⟩
set_option maxRecDepth 100000 in
theorem fl_RX9_81 : FL RX9 81 8 39 41 TX9 RX9 := ⟨cf8, by decide, Or.inl (gt_4 38 rfl rfl)⟩
set_option maxRecDepth 100000 in
theorem fl_RX9_84 : FL RX9 84 8 40 41 TX9 RX9 := ⟨cf8, by decide, Or.inl (gt_4 39 rfl rfl)⟩
set_option maxRecDepth 100000 in
theorem fl_RX9_87 : FL RX9 87 8 8 41 TX9 RX9 := ⟨cf8, by decide, Or.inl (gt_4 7 rfl rfl)⟩
set_option maxRecDepth 100000 in
theorem kc_RX9_90 : Jvm.Cond.constantLong RX9 90 (Int64.ofInt (11)) ∈ GT := gt_5 24 rfl rfl
set_option maxRecDepth 100000 in
theorem ml_RX9_92 : MLS RX9 92 mX9_in 3 := ⟨⟨gt_4 129 rfl rfl, gt_1 11 rfl rfl, gt_4 131 rfl rfl, ⟨by decide, by decide⟩, by decide +kernel⟩, gt_4 130 rfl rfl⟩
set_option maxRecDepth 100000 in
theorem kc_RX9_96 : Jvm.Cond.constantLong RX9 96 (Int64.ofInt (1999)) ∈ GT := gt_5 53 rfl rfl
set_option maxRecDepth 100000 in
theorem fl_RX9_98 : FL RX9 98 8 0 41 TX9 RX9 := ⟨cf8, by decide, Or.inl (gt_3 239 rfl rfl)⟩
set_option maxRecDepth 100000 in
theorem ml_RX9_101 : MLV RX9 101 mX9_isLine 1 := ⟨⟨gt_4 218 rfl rfl, gt_1 11 rfl rfl, gt_4 221 rfl rfl, ⟨by decide, by decide⟩, by decide +kernel⟩, gt_4 220 rfl rfl, gt_0 42 rfl rfl⟩
set_option maxRecDepth 100000 in
theorem ml_RX9_105 : MLS RX9 105 mX9_isNight 1 := ⟨⟨gt_4 231 rfl rfl, gt_1 11 rfl rfl, gt_4 233 rfl rfl, ⟨by decide, by decide⟩, by decide +kernel⟩, gt_4 232 rfl rfl⟩
set_option maxRecDepth 100000 in
theorem ml_RX9_108 : MLV RX9 108 mX9_isRunning 2 := ⟨⟨gt_4 227 rfl rfl, gt_1 11 rfl rfl, gt_4 230 rfl rfl, ⟨by decide, by decide⟩, by decide +kernel⟩, gt_4 229 rfl rfl, gt_0 44 rfl rfl⟩
set_option maxRecDepth 100000 in
theorem kc_RX9_112 : Jvm.Cond.constant RX9 112 (Int32.ofInt (100000000)) ∈ GT := gt_5 63 rfl rfl
set_option maxRecDepth 100000 in
theorem ml_RX9_113 : MLV RX9 113 mX9_footOf 2 := ⟨⟨gt_5 68 rfl rfl, gt_1 11 rfl rfl, gt_5 71 rfl rfl, ⟨by decide, by decide⟩, by decide +kernel⟩, gt_5 70 rfl rfl, gt_0 51 rfl rfl⟩
set_option maxRecDepth 100000 in
theorem ml_RX9_117 : MLV RX9 117 mX9_stopAt 2 := ⟨⟨gt_4 238 rfl rfl, gt_1 11 rfl rfl, gt_5 1 rfl rfl, ⟨by decide, by decide⟩, by decide +kernel⟩, gt_5 0 rfl rfl, gt_0 45 rfl rfl⟩
set_option maxRecDepth 100000 in
theorem ml_RX9_120 : MLV RX9 120 mX9_minuteAt 3 := ⟨⟨gt_4 198 rfl rfl, gt_1 11 rfl rfl, gt_4 201 rfl rfl, ⟨by decide, by decide⟩, by decide +kernel⟩, gt_4 200 rfl rfl, gt_0 40 rfl rfl⟩
set_option maxRecDepth 100000 in
theorem fl_RX9_124 : FL RX9 124 8 11 41 TX9 RX9 := ⟨cf8, by decide, Or.inl (gt_4 10 rfl rfl)⟩
set_option maxRecDepth 100000 in
theorem ml_RX9_127 : MLV RX9 127 mX9_layWalks 1 := ⟨⟨gt_5 64 rfl rfl, gt_1 11 rfl rfl, gt_5 67 rfl rfl, ⟨by decide, by decide⟩, by decide +kernel⟩, gt_5 66 rfl rfl, gt_0 50 rfl rfl⟩
set_option maxRecDepth 100000 in
theorem ml_RX9_131 : MLV RX9 131 mX9_isRidden 2 := ⟨⟨gt_5 72 rfl rfl, gt_1 11 rfl rfl, gt_5 75 rfl rfl, ⟨by decide, by decide⟩, by decide +kernel⟩, gt_5 74 rfl rfl, gt_0 52 rfl rfl⟩
set_option maxRecDepth 100000 in
theorem ml_RX9_134 : MLV RX9 134 mX9_layTrip 3 := ⟨⟨gt_5 76 rfl rfl, gt_1 11 rfl rfl, gt_5 79 rfl rfl, ⟨by decide, by decide⟩, by decide +kernel⟩, gt_5 78 rfl rfl, gt_0 53 rfl rfl⟩
set_option maxRecDepth 100000 in
theorem ml_RX9_138 : MLV RX9 138 mX9_layRounds 2 := ⟨⟨gt_5 59 rfl rfl, gt_1 11 rfl rfl, gt_5 62 rfl rfl, ⟨by decide, by decide⟩, by decide +kernel⟩, gt_5 61 rfl rfl, gt_0 49 rfl rfl⟩
set_option maxRecDepth 100000 in
theorem ml_RX9_142 : MLV RX9 142 mX9_boardedAt 5 := ⟨⟨gt_5 96 rfl rfl, gt_1 11 rfl rfl, gt_5 99 rfl rfl, ⟨by decide, by decide⟩, by decide +kernel⟩, gt_5 98 rfl rfl, gt_0 56 rfl rfl⟩
set_option maxRecDepth 100000 in
theorem fl_RX9_146 : FL RX9 146 8 22 41 TX9 RX9 := ⟨cf8, by decide, Or.inl (gt_4 21 rfl rfl)⟩
set_option maxRecDepth 100000 in
theorem fl_RX9_149 : FL RX9 149 8 23 41 TX9 RX9 := ⟨cf8, by decide, Or.inl (gt_4 22 rfl rfl)⟩
set_option maxRecDepth 100000 in
theorem fl_RX9_152 : FL RX9 152 8 24 41 TX9 RX9 := ⟨cf8, by decide, Or.inl (gt_4 23 rfl rfl)⟩
set_option maxRecDepth 100000 in
theorem fl_RX9_155 : FL RX9 155 8 14 41 TX9 RX9 := ⟨cf8, by decide, Or.inl (gt_4 13 rfl rfl)⟩
set_option maxRecDepth 100000 in
theorem ml_RX9_158 : MLV RX9 158 mX9_seekRide 3 := ⟨⟨gt_5 92 rfl rfl, gt_1 11 rfl rfl, gt_5 95 rfl rfl, ⟨by decide, by decide⟩, by decide +kernel⟩, gt_5 94 rfl rfl, gt_0 55 rfl rfl⟩
set_option maxRecDepth 100000 in
theorem ml_RX9_162 : MLV RX9 162 mX9_putRide 2 := ⟨⟨gt_5 100 rfl rfl, gt_1 11 rfl rfl, gt_5 103 rfl rfl, ⟨by decide, by decide⟩, by decide +kernel⟩, gt_5 102 rfl rfl, gt_0 57 rfl rfl⟩
set_option maxRecDepth 100000 in
theorem ml_RX9_165 : MLV RX9 165 mX9_walkedFrom 3 := ⟨⟨gt_5 104 rfl rfl, gt_1 11 rfl rfl, gt_5 107 rfl rfl, ⟨by decide, by decide⟩, by decide +kernel⟩, gt_5 106 rfl rfl, gt_0 58 rfl rfl⟩
set_option maxRecDepth 100000 in
theorem ml_RX9_168 : MLV RX9 168 mX9_putWalk 3 := ⟨⟨gt_5 108 rfl rfl, gt_1 11 rfl rfl, gt_5 111 rfl rfl, ⟨by decide, by decide⟩, by decide +kernel⟩, gt_5 110 rfl rfl, gt_0 59 rfl rfl⟩
set_option maxRecDepth 100000 in
theorem kc_RX9_171 : Jvm.Cond.constantLong RX9 171 (Int64.ofInt (127)) ∈ GT := gt_4 128 rfl rfl
set_option maxRecDepth 100000 in
theorem fl_RX9_173 : FL RX9 173 8 26 41 TX9 RX9 := ⟨cf8, by decide, Or.inl (gt_4 25 rfl rfl)⟩
set_option maxRecDepth 100000 in
theorem fl_RX9_176 : FL RX9 176 8 27 41 TX9 RX9 := ⟨cf8, by decide, Or.inl (gt_4 26 rfl rfl)⟩
set_option maxRecDepth 100000 in
theorem fl_RX9_179 : FL RX9 179 8 28 41 TX9 RX9 := ⟨cf8, by decide, Or.inl (gt_4 27 rfl rfl)⟩
set_option maxRecDepth 100000 in
theorem ml_RX9_183 : MLV RX9 183 mX9_here 0 := ⟨⟨gt_4 152 rfl rfl, gt_1 11 rfl rfl, gt_4 155 rfl rfl, ⟨by decide, by decide⟩, by decide +kernel⟩, gt_4 154 rfl rfl, gt_0 29 rfl rfl⟩
set_option maxRecDepth 100000 in
theorem ml_RX9_187 : MLV RX9 187 mX9_goesOn 1 := ⟨⟨gt_4 178 rfl rfl, gt_1 11 rfl rfl, gt_4 181 rfl rfl, ⟨by decide, by decide⟩, by decide +kernel⟩, gt_4 180 rfl rfl, gt_0 35 rfl rfl⟩
set_option maxRecDepth 100000 in
theorem kc_RX9_190 : Jvm.Cond.constantLong RX9 190 (Int64.ofInt (48)) ∈ GT := gt_4 172 rfl rfl
set_option maxRecDepth 100000 in
theorem kc_RX9_192 : Jvm.Cond.constantLong RX9 192 (Int64.ofInt (57)) ∈ GT := gt_4 173 rfl rfl
set_option maxRecDepth 100000 in
theorem fl_RX9_194 : FL RX9 194 8 29 41 TX9 RX9 := ⟨cf8, by decide, Or.inl (gt_4 28 rfl rfl)⟩
set_option maxRecDepth 100000 in
theorem ml_RX9_197 : MLV RX9 197 mX9_readFigures 1 := ⟨⟨gt_4 168 rfl rfl, gt_1 11 rfl rfl, gt_4 171 rfl rfl, ⟨by decide, by decide⟩, by decide +kernel⟩, gt_4 170 rfl rfl, gt_0 33 rfl rfl⟩
set_option maxRecDepth 100000 in
theorem ml_RX9_201 : MLV RX9 201 mX9_mustBe 2 := ⟨⟨gt_4 160 rfl rfl, gt_1 11 rfl rfl, gt_4 163 rfl rfl, ⟨by decide, by decide⟩, by decide +kernel⟩, gt_4 162 rfl rfl, gt_0 31 rfl rfl⟩
set_option maxRecDepth 100000 in
theorem ml_RX9_205 : MLV RX9 205 mX9_readWithin 3 := ⟨⟨gt_4 164 rfl rfl, gt_1 11 rfl rfl, gt_4 167 rfl rfl, ⟨by decide, by decide⟩, by decide +kernel⟩, gt_4 166 rfl rfl, gt_0 32 rfl rfl⟩
set_option maxRecDepth 100000 in
theorem ml_RX9_208 : MLV RX9 208 mX9_wants 1 := ⟨⟨gt_4 174 rfl rfl, gt_1 11 rfl rfl, gt_4 177 rfl rfl, ⟨by decide, by decide⟩, by decide +kernel⟩, gt_4 176 rfl rfl, gt_0 34 rfl rfl⟩
set_option maxRecDepth 100000 in
theorem ml_RX9_211 : MLV RX9 211 mX9_isTooLate 3 := ⟨⟨gt_4 194 rfl rfl, gt_1 11 rfl rfl, gt_4 197 rfl rfl, ⟨by decide, by decide⟩, by decide +kernel⟩, gt_4 196 rfl rfl, gt_0 39 rfl rfl⟩
set_option maxRecDepth 100000 in
theorem ml_RX9_214 : MLV RX9 214 mX9_delays 4 := ⟨⟨gt_4 202 rfl rfl, gt_1 11 rfl rfl, gt_4 205 rfl rfl, ⟨by decide, by decide⟩, by decide +kernel⟩, gt_4 204 rfl rfl, gt_0 41 rfl rfl⟩
set_option maxRecDepth 100000 in
theorem ml_RX9_218 : MLV RX9 218 mX9_readLine 1 := ⟨⟨gt_4 156 rfl rfl, gt_1 11 rfl rfl, gt_4 159 rfl rfl, ⟨by decide, by decide⟩, by decide +kernel⟩, gt_4 158 rfl rfl, gt_0 30 rfl rfl⟩
set_option maxRecDepth 100000 in
theorem ml_RX9_221 : MLV RX9 221 mX9_readTrip 1 := ⟨⟨gt_4 182 rfl rfl, gt_1 11 rfl rfl, gt_4 185 rfl rfl, ⟨by decide, by decide⟩, by decide +kernel⟩, gt_4 184 rfl rfl, gt_0 36 rfl rfl⟩
set_option maxRecDepth 100000 in
theorem ml_RX9_224 : MLV RX9 224 mX9_readFoot 0 := ⟨⟨gt_4 186 rfl rfl, gt_1 11 rfl rfl, gt_4 189 rfl rfl, ⟨by decide, by decide⟩, by decide +kernel⟩, gt_4 188 rfl rfl, gt_0 37 rfl rfl⟩
set_option maxRecDepth 100000 in
theorem ml_RX9_227 : MLV RX9 227 mX9_readDelay 1 := ⟨⟨gt_4 190 rfl rfl, gt_1 11 rfl rfl, gt_4 193 rfl rfl, ⟨by decide, by decide⟩, by decide +kernel⟩, gt_4 192 rfl rfl, gt_0 38 rfl rfl⟩
set_option maxRecDepth 100000 in
theorem ml_RX9_230 : MLV RX9 230 mX9_carryAll 2 := ⟨⟨gt_4 140 rfl rfl, gt_1 11 rfl rfl, gt_4 143 rfl rfl, ⟨by decide, by decide⟩, by decide +kernel⟩, gt_4 142 rfl rfl, gt_0 26 rfl rfl⟩
set_option maxRecDepth 100000 in
theorem ml_RX9_234 : MLV RX9 234 mX9_readPart 0 := ⟨⟨gt_4 148 rfl rfl, gt_1 11 rfl rfl, gt_4 151 rfl rfl, ⟨by decide, by decide⟩, by decide +kernel⟩, gt_4 150 rfl rfl, gt_0 28 rfl rfl⟩
set_option maxRecDepth 100000 in
theorem fl_RX9_237 : FL RX9 237 8 34 41 TX9 RX9 := ⟨cf8, by decide, Or.inl (gt_4 33 rfl rfl)⟩
set_option maxRecDepth 100000 in
theorem fl_RX9_240 : FL RX9 240 8 35 41 TX9 RX9 := ⟨cf8, by decide, Or.inl (gt_4 34 rfl rfl)⟩
set_option maxRecDepth 100000 in
theorem fl_RX9_243 : FL RX9 243 8 33 41 TX9 RX9 := ⟨cf8, by decide, Or.inl (gt_4 32 rfl rfl)⟩
set_option maxRecDepth 100000 in
theorem ml_RX9_246 : MLV RX9 246 mX9_carry 1 := ⟨⟨gt_4 144 rfl rfl, gt_1 11 rfl rfl, gt_4 147 rfl rfl, ⟨by decide, by decide⟩, by decide +kernel⟩, gt_4 146 rfl rfl, gt_0 27 rfl rfl⟩
set_option maxRecDepth 100000 in
theorem fl_RX9_249 : FL RX9 249 8 32 41 TX9 RX9 := ⟨cf8, by decide, Or.inl (gt_4 31 rfl rfl)⟩
set_option maxRecDepth 100000 in
theorem kc_RX9_252 : Jvm.Cond.constantLong RX9 252 (Int64.ofInt (3)) ∈ GT := gt_4 222 rfl rfl
set_option maxRecDepth 100000 in
theorem ml_RX9_254 : MLV RX9 254 mX9_runsOf 1 := ⟨⟨gt_4 223 rfl rfl, gt_1 11 rfl rfl, gt_4 226 rfl rfl, ⟨by decide, by decide⟩, by decide +kernel⟩, gt_4 225 rfl rfl, gt_0 43 rfl rfl⟩
set_option maxRecDepth 100000 in
theorem ml_RX9_257 : MLV RX9 257 mX9_isTrip 2 := ⟨⟨gt_5 6 rfl rfl, gt_1 11 rfl rfl, gt_5 9 rfl rfl, ⟨by decide, by decide⟩, by decide +kernel⟩, gt_5 8 rfl rfl, gt_0 46 rfl rfl⟩
set_option maxRecDepth 100000 in
theorem ml_RX9_260 : MLS RX9 260 mX9_isStop 1 := ⟨⟨gt_5 21 rfl rfl, gt_1 11 rfl rfl, gt_5 23 rfl rfl, ⟨by decide, by decide⟩, by decide +kernel⟩, gt_5 22 rfl rfl⟩
set_option maxRecDepth 100000 in
theorem ml_RX9_263 : MLS RX9 263 mX9_areTwo 2 := ⟨⟨gt_5 18 rfl rfl, gt_1 11 rfl rfl, gt_5 20 rfl rfl, ⟨by decide, by decide⟩, by decide +kernel⟩, gt_5 19 rfl rfl⟩
set_option maxRecDepth 100000 in
theorem ml_RX9_266 : MLV RX9 266 mX9_footTold 2 := ⟨⟨gt_5 25 rfl rfl, gt_1 11 rfl rfl, gt_5 28 rfl rfl, ⟨by decide, by decide⟩, by decide +kernel⟩, gt_5 27 rfl rfl, gt_0 47 rfl rfl⟩
set_option maxRecDepth 100000 in
theorem kc_RX9_269 : Jvm.Cond.constantLong RX9 269 (Int64.ofInt (60)) ∈ GT := gt_5 33 rfl rfl
set_option maxRecDepth 100000 in
theorem kc_RX9_271 : Jvm.Cond.constantLong RX9 271 (Int64.ofInt (99)) ∈ GT := gt_5 38 rfl rfl
set_option maxRecDepth 100000 in
theorem ml_RX9_273 : MLS RX9 273 mX9_isMinute 1 := ⟨⟨gt_5 50 rfl rfl, gt_1 11 rfl rfl, gt_5 52 rfl rfl, ⟨by decide, by decide⟩, by decide +kernel⟩, gt_5 51 rfl rfl⟩
set_option maxRecDepth 100000 in
theorem kc_RX9_276 : Jvm.Cond.constantLong RX9 276 (Int64.ofInt (6)) ∈ GT := gt_5 54 rfl rfl
set_option maxRecDepth 100000 in
theorem ml_RX9_278 : MLS RX9 278 mX9_wrong 4 := ⟨⟨gt_5 47 rfl rfl, gt_1 11 rfl rfl, gt_5 49 rfl rfl, ⟨by decide, by decide⟩, by decide +kernel⟩, gt_5 48 rfl rfl⟩
set_option maxRecDepth 100000 in
theorem ml_RX9_282 : MLV RX9 282 mX9_earliestOf 4 := ⟨⟨gt_5 55 rfl rfl, gt_1 11 rfl rfl, gt_5 58 rfl rfl, ⟨by decide, by decide⟩, by decide +kernel⟩, gt_5 57 rfl rfl, gt_0 48 rfl rfl⟩
set_option maxRecDepth 100000 in
theorem ml_RX9_285 : MLV RX9 285 mX9_layJourney 4 := ⟨⟨gt_5 88 rfl rfl, gt_1 11 rfl rfl, gt_5 91 rfl rfl, ⟨by decide, by decide⟩, by decide +kernel⟩, gt_5 90 rfl rfl, gt_0 54 rfl rfl⟩
set_option maxRecDepth 100000 in
theorem kc_RX9_289 : Jvm.Cond.constantLong RX9 289 (Int64.ofInt (5)) ∈ GT := gt_5 116 rfl rfl
set_option maxRecDepth 100000 in
theorem ml_RX9_291 : MLV RX9 291 mX9_ofLeg 2 := ⟨⟨gt_5 117 rfl rfl, gt_1 11 rfl rfl, gt_5 120 rfl rfl, ⟨by decide, by decide⟩, by decide +kernel⟩, gt_5 119 rfl rfl, gt_0 60 rfl rfl⟩
set_option maxRecDepth 100000 in
theorem ml_RX9_294 : MLV RX9 294 mX9_fareOf 2 := ⟨⟨gt_5 125 rfl rfl, gt_1 11 rfl rfl, gt_5 128 rfl rfl, ⟨by decide, by decide⟩, by decide +kernel⟩, gt_5 127 rfl rfl, gt_0 61 rfl rfl⟩
set_option maxRecDepth 100000 in
theorem ml_RX9_297 : MLV RX9 297 mX9_lateBy 4 := ⟨⟨gt_5 149 rfl rfl, gt_1 11 rfl rfl, gt_5 152 rfl rfl, ⟨by decide, by decide⟩, by decide +kernel⟩, gt_5 151 rfl rfl, gt_0 62 rfl rfl⟩
set_option maxRecDepth 100000 in
theorem ml_RX9_300 : MLV RX9 300 mX9_placeOn 2 := ⟨⟨gt_5 172 rfl rfl, gt_1 11 rfl rfl, gt_5 175 rfl rfl, ⟨by decide, by decide⟩, by decide +kernel⟩, gt_5 174 rfl rfl, gt_0 65 rfl rfl⟩
set_option maxRecDepth 100000 in
theorem kc_RX9_303 : Jvm.Cond.constantLong RX9 303 (Int64.ofInt (-1)) ∈ GT := gt_5 167 rfl rfl
set_option maxRecDepth 100000 in
theorem ml_RX9_305 : MLV RX9 305 mX9_departureAt 3 := ⟨⟨gt_5 168 rfl rfl, gt_1 11 rfl rfl, gt_5 171 rfl rfl, ⟨by decide, by decide⟩, by decide +kernel⟩, gt_5 170 rfl rfl, gt_0 64 rfl rfl⟩
set_option maxRecDepth 100000 in
theorem kc_RX9_308 : Jvm.Cond.constantLong RX9 308 (Int64.ofInt (100)) ∈ GT := gt_5 162 rfl rfl
set_option maxRecDepth 100000 in
theorem kc_RX9_310 : Jvm.Cond.constantLong RX9 310 (Int64.ofInt (10)) ∈ GT := gt_5 176 rfl rfl
set_option maxRecDepth 100000 in
theorem kc_RX9_312 : Jvm.Cond.constantLong RX9 312 (Int64.ofInt (2)) ∈ GT := gt_5 161 rfl rfl
set_option maxRecDepth 100000 in
theorem ml_RX9_314 : MLV RX9 314 mX9_nextBoard 2 := ⟨⟨gt_5 163 rfl rfl, gt_1 11 rfl rfl, gt_5 166 rfl rfl, ⟨by decide, by decide⟩, by decide +kernel⟩, gt_5 165 rfl rfl, gt_0 63 rfl rfl⟩
set_option maxRecDepth 100000 in
theorem ml_RX9_318 : MLV RX9 318 mX9_arrivalAt 3 := ⟨⟨gt_5 181 rfl rfl, gt_1 11 rfl rfl, gt_5 184 rfl rfl, ⟨by decide, by decide⟩, by decide +kernel⟩, gt_5 183 rfl rfl, gt_0 66 rfl rfl⟩
set_option maxRecDepth 100000 in
theorem fl_RX9_321 : FL RX9 321 8 37 41 TX9 RX9 := ⟨cf8, by decide, Or.inl (gt_4 36 rfl rfl)⟩
set_option maxRecDepth 100000 in
theorem ml_RX9_324 : MLV RX9 324 mX9_writes 1 := ⟨⟨gt_5 197 rfl rfl, gt_1 11 rfl rfl, gt_5 200 rfl rfl, ⟨by decide, by decide⟩, by decide +kernel⟩, gt_5 199 rfl rfl, gt_0 68 rfl rfl⟩
set_option maxRecDepth 100000 in
theorem ml_RX9_327 : MLV RX9 327 mX9_writesNumber 1 := ⟨⟨gt_5 201 rfl rfl, gt_1 11 rfl rfl, gt_5 204 rfl rfl, ⟨by decide, by decide⟩, by decide +kernel⟩, gt_5 203 rfl rfl, gt_0 69 rfl rfl⟩
set_option maxRecDepth 100000 in
theorem ml_RX9_330 : MLV RX9 330 mX9_writesLeg 1 := ⟨⟨gt_5 193 rfl rfl, gt_1 11 rfl rfl, gt_5 196 rfl rfl, ⟨by decide, by decide⟩, by decide +kernel⟩, gt_5 195 rfl rfl, gt_0 67 rfl rfl⟩
set_option maxRecDepth 100000 in
theorem ml_RX9_333 : MLV RX9 333 mX9_tripsOf 1 := ⟨⟨gt_5 213 rfl rfl, gt_1 11 rfl rfl, gt_5 216 rfl rfl, ⟨by decide, by decide⟩, by decide +kernel⟩, gt_5 215 rfl rfl, gt_0 70 rfl rfl⟩
set_option maxRecDepth 100000 in
theorem ml_RX9_337 : MLV RX9 337 mX9_footMany 0 := ⟨⟨gt_5 217 rfl rfl, gt_1 11 rfl rfl, gt_5 220 rfl rfl, ⟨by decide, by decide⟩, by decide +kernel⟩, gt_5 219 rfl rfl, gt_0 71 rfl rfl⟩
set_option maxRecDepth 100000 in
theorem ml_RX9_340 : MLV RX9 340 mX9_bareStops 0 := ⟨⟨gt_5 221 rfl rfl, gt_1 11 rfl rfl, gt_5 224 rfl rfl, ⟨by decide, by decide⟩, by decide +kernel⟩, gt_5 223 rfl rfl, gt_0 72 rfl rfl⟩
set_option maxRecDepth 100000 in
theorem ml_RX9_343 : MLS RX9 343 mX9_isList 1 := ⟨⟨gt_5 229 rfl rfl, gt_1 11 rfl rfl, gt_5 231 rfl rfl, ⟨by decide, by decide⟩, by decide +kernel⟩, gt_5 230 rfl rfl⟩
set_option maxRecDepth 100000 in
theorem kc_RX9_346 : Jvm.Cond.constant RX9 346 (Int32.ofInt (-2000000000)) ∈ GT := gt_6 0 rfl rfl
set_option maxRecDepth 100000 in
theorem ml_RX9_347 : MLV RX9 347 mX9_wrongLay 4 := ⟨⟨gt_6 5 rfl rfl, gt_1 11 rfl rfl, gt_6 8 rfl rfl, ⟨by decide, by decide⟩, by decide +kernel⟩, gt_6 7 rfl rfl, gt_0 73 rfl rfl⟩
set_option maxRecDepth 100000 in
theorem ml_RX9_350 : MLV RX9 350 mX9_toldAt 2 := ⟨⟨gt_6 9 rfl rfl, gt_1 11 rfl rfl, gt_6 12 rfl rfl, ⟨by decide, by decide⟩, by decide +kernel⟩, gt_6 11 rfl rfl, gt_0 74 rfl rfl⟩
set_option maxRecDepth 100000 in
theorem cn_RL_7 : CN RL 7 7 11 TX8 RX8 := ⟨cf7, gt_1 14 rfl rfl, gt_1 15 rfl rfl, gt_1 1 rfl rfl, tyX8, tyX8_ok, by decide +kernel⟩
set_option maxRecDepth 100000 in
theorem ml_RL_9 : MLI RL 9 mX8_init 0 := ⟨⟨gt_1 16 rfl rfl, gt_1 1 rfl rfl, gt_1 18 rfl rfl, ⟨by decide, by decide⟩, by decide +kernel⟩, rfl, gt_1 17 rfl rfl, rfl⟩
set_option maxRecDepth 100000 in
theorem cn_RL_10 : CN RL 10 8 41 TX9 RX9 := ⟨cf8, gt_3 233 rfl rfl, gt_3 234 rfl rfl, gt_1 11 rfl rfl, tyX9, tyX9_ok, by decide +kernel⟩
set_option maxRecDepth 100000 in
theorem ml_RL_12 : MLI RL 12 mX9_init 0 := ⟨⟨gt_3 235 rfl rfl, gt_1 11 rfl rfl, gt_3 237 rfl rfl, ⟨by decide, by decide⟩, by decide +kernel⟩, rfl, gt_3 236 rfl rfl, rfl⟩
set_option maxRecDepth 100000 in
theorem ml_RL_13 : MLV RL 13 mX8_feed 1 := ⟨⟨gt_2 16 rfl rfl, gt_1 1 rfl rfl, gt_2 19 rfl rfl, ⟨by decide, by decide⟩, by decide +kernel⟩, gt_2 17 rfl rfl, gt_2 18 rfl rfl⟩
set_option maxRecDepth 100000 in
theorem ml_RL_17 : MLV RL 17 mX9_feed 1 := ⟨⟨gt_4 124 rfl rfl, gt_1 11 rfl rfl, gt_4 127 rfl rfl, ⟨by decide, by decide⟩, by decide +kernel⟩, gt_4 125 rfl rfl, gt_4 126 rfl rfl⟩
set_option maxRecDepth 100000 in
theorem ml_RL_18 : MLV RL 18 mX8_clear 0 := ⟨⟨gt_2 24 rfl rfl, gt_1 1 rfl rfl, gt_2 27 rfl rfl, ⟨by decide, by decide⟩, by decide +kernel⟩, gt_2 25 rfl rfl, gt_2 26 rfl rfl⟩
set_option maxRecDepth 100000 in
theorem ml_RL_22 : MLV RL 22 mX9_clear 0 := ⟨⟨gt_4 132 rfl rfl, gt_1 11 rfl rfl, gt_4 135 rfl rfl, ⟨by decide, by decide⟩, by decide +kernel⟩, gt_4 133 rfl rfl, gt_4 134 rfl rfl⟩
set_option maxRecDepth 100000 in
theorem ml_RL_23 : MLV RL 23 mX8_table 0 := ⟨⟨gt_2 28 rfl rfl, gt_1 1 rfl rfl, gt_2 31 rfl rfl, ⟨by decide, by decide⟩, by decide +kernel⟩, gt_2 29 rfl rfl, gt_2 30 rfl rfl⟩
set_option maxRecDepth 100000 in
theorem ml_RL_26 : MLV RL 26 mX9_table 0 := ⟨⟨gt_4 136 rfl rfl, gt_1 11 rfl rfl, gt_4 139 rfl rfl, ⟨by decide, by decide⟩, by decide +kernel⟩, gt_4 137 rfl rfl, gt_4 138 rfl rfl⟩
set_option maxRecDepth 100000 in
theorem ml_RL_27 : MLV RL 27 mX8_line 2 := ⟨⟨gt_2 124 rfl rfl, gt_1 1 rfl rfl, gt_2 127 rfl rfl, ⟨by decide, by decide⟩, by decide +kernel⟩, gt_2 125 rfl rfl, gt_2 126 rfl rfl⟩
set_option maxRecDepth 100000 in
theorem ml_RL_31 : MLV RL 31 mX9_line 2 := ⟨⟨gt_4 214 rfl rfl, gt_1 11 rfl rfl, gt_4 217 rfl rfl, ⟨by decide, by decide⟩, by decide +kernel⟩, gt_4 215 rfl rfl, gt_4 216 rfl rfl⟩
set_option maxRecDepth 100000 in
theorem ml_RL_32 : MLV RL 32 mX8_stop 2 := ⟨⟨gt_2 140 rfl rfl, gt_1 1 rfl rfl, gt_2 143 rfl rfl, ⟨by decide, by decide⟩, by decide +kernel⟩, gt_2 141 rfl rfl, gt_2 142 rfl rfl⟩
set_option maxRecDepth 100000 in
theorem ml_RL_35 : MLV RL 35 mX9_stop 2 := ⟨⟨gt_4 234 rfl rfl, gt_1 11 rfl rfl, gt_4 237 rfl rfl, ⟨by decide, by decide⟩, by decide +kernel⟩, gt_4 235 rfl rfl, gt_4 236 rfl rfl⟩
set_option maxRecDepth 100000 in
theorem ml_RL_36 : MLV RL 36 mX8_minute 3 := ⟨⟨gt_2 149 rfl rfl, gt_1 1 rfl rfl, gt_2 152 rfl rfl, ⟨by decide, by decide⟩, by decide +kernel⟩, gt_2 150 rfl rfl, gt_2 151 rfl rfl⟩
set_option maxRecDepth 100000 in
theorem ml_RL_40 : MLV RL 40 mX9_minute 3 := ⟨⟨gt_5 2 rfl rfl, gt_1 11 rfl rfl, gt_5 5 rfl rfl, ⟨by decide, by decide⟩, by decide +kernel⟩, gt_5 3 rfl rfl, gt_5 4 rfl rfl⟩
set_option maxRecDepth 100000 in
theorem ml_RL_41 : MLV RL 41 mX8_runs 2 := ⟨⟨gt_2 161 rfl rfl, gt_1 1 rfl rfl, gt_2 164 rfl rfl, ⟨by decide, by decide⟩, by decide +kernel⟩, gt_2 162 rfl rfl, gt_2 163 rfl rfl⟩
set_option maxRecDepth 100000 in
theorem ml_RL_44 : MLV RL 44 mX9_runs 2 := ⟨⟨gt_5 10 rfl rfl, gt_1 11 rfl rfl, gt_5 13 rfl rfl, ⟨by decide, by decide⟩, by decide +kernel⟩, gt_5 11 rfl rfl, gt_5 12 rfl rfl⟩
set_option maxRecDepth 100000 in
theorem ml_RL_45 : MLV RL 45 mX8_foot 2 := ⟨⟨gt_2 166 rfl rfl, gt_1 1 rfl rfl, gt_2 169 rfl rfl, ⟨by decide, by decide⟩, by decide +kernel⟩, gt_2 167 rfl rfl, gt_2 168 rfl rfl⟩
set_option maxRecDepth 100000 in
theorem ml_RL_48 : MLV RL 48 mX9_foot 2 := ⟨⟨gt_5 14 rfl rfl, gt_1 11 rfl rfl, gt_5 17 rfl rfl, ⟨by decide, by decide⟩, by decide +kernel⟩, gt_5 15 rfl rfl, gt_5 16 rfl rfl⟩
set_option maxRecDepth 100000 in
theorem ml_RL_49 : MLV RL 49 mX8_walk 3 := ⟨⟨gt_2 173 rfl rfl, gt_1 1 rfl rfl, gt_2 176 rfl rfl, ⟨by decide, by decide⟩, by decide +kernel⟩, gt_2 174 rfl rfl, gt_2 175 rfl rfl⟩
set_option maxRecDepth 100000 in
theorem ml_RL_52 : MLV RL 52 mX9_walk 3 := ⟨⟨gt_5 29 rfl rfl, gt_1 11 rfl rfl, gt_5 32 rfl rfl, ⟨by decide, by decide⟩, by decide +kernel⟩, gt_5 30 rfl rfl, gt_5 31 rfl rfl⟩
set_option maxRecDepth 100000 in
theorem ml_RL_53 : MLV RL 53 mX8_delay 4 := ⟨⟨gt_2 179 rfl rfl, gt_1 1 rfl rfl, gt_2 182 rfl rfl, ⟨by decide, by decide⟩, by decide +kernel⟩, gt_2 180 rfl rfl, gt_2 181 rfl rfl⟩
set_option maxRecDepth 100000 in
theorem ml_RL_57 : MLV RL 57 mX9_delay 4 := ⟨⟨gt_5 34 rfl rfl, gt_1 11 rfl rfl, gt_5 37 rfl rfl, ⟨by decide, by decide⟩, by decide +kernel⟩, gt_5 35 rfl rfl, gt_5 36 rfl rfl⟩
set_option maxRecDepth 100000 in
theorem ml_RL_58 : MLV RL 58 mX8_drop 1 := ⟨⟨gt_2 184 rfl rfl, gt_1 1 rfl rfl, gt_2 187 rfl rfl, ⟨by decide, by decide⟩, by decide +kernel⟩, gt_2 185 rfl rfl, gt_2 186 rfl rfl⟩
set_option maxRecDepth 100000 in
theorem ml_RL_61 : MLV RL 61 mX9_drop 1 := ⟨⟨gt_5 39 rfl rfl, gt_1 11 rfl rfl, gt_5 42 rfl rfl, ⟨by decide, by decide⟩, by decide +kernel⟩, gt_5 40 rfl rfl, gt_5 41 rfl rfl⟩
set_option maxRecDepth 100000 in
theorem ml_RL_62 : MLV RL 62 mX8_earliest 4 := ⟨⟨gt_2 188 rfl rfl, gt_1 1 rfl rfl, gt_2 191 rfl rfl, ⟨by decide, by decide⟩, by decide +kernel⟩, gt_2 189 rfl rfl, gt_2 190 rfl rfl⟩
set_option maxRecDepth 100000 in
theorem ml_RL_65 : MLV RL 65 mX9_earliest 4 := ⟨⟨gt_5 43 rfl rfl, gt_1 11 rfl rfl, gt_5 46 rfl rfl, ⟨by decide, by decide⟩, by decide +kernel⟩, gt_5 44 rfl rfl, gt_5 45 rfl rfl⟩
set_option maxRecDepth 100000 in
theorem ml_RL_66 : MLV RL 66 mX8_worth 3 := ⟨⟨gt_2 234 rfl rfl, gt_1 1 rfl rfl, gt_2 237 rfl rfl, ⟨by decide, by decide⟩, by decide +kernel⟩, gt_2 235 rfl rfl, gt_2 236 rfl rfl⟩
set_option maxRecDepth 100000 in
theorem ml_RL_69 : MLV RL 69 mX9_worth 3 := ⟨⟨gt_5 80 rfl rfl, gt_1 11 rfl rfl, gt_5 83 rfl rfl, ⟨by decide, by decide⟩, by decide +kernel⟩, gt_5 81 rfl rfl, gt_5 82 rfl rfl⟩
set_option maxRecDepth 100000 in
theorem ml_RL_70 : MLV RL 70 mX8_legs 4 := ⟨⟨gt_2 239 rfl rfl, gt_1 1 rfl rfl, gt_3 2 rfl rfl, ⟨by decide, by decide⟩, by decide +kernel⟩, gt_3 0 rfl rfl, gt_3 1 rfl rfl⟩
set_option maxRecDepth 100000 in
theorem ml_RL_73 : MLV RL 73 mX9_legs 4 := ⟨⟨gt_5 84 rfl rfl, gt_1 11 rfl rfl, gt_5 87 rfl rfl, ⟨by decide, by decide⟩, by decide +kernel⟩, gt_5 85 rfl rfl, gt_5 86 rfl rfl⟩
set_option maxRecDepth 100000 in
theorem ml_RL_74 : MLV RL 74 mX8_leg 6 := ⟨⟨gt_3 34 rfl rfl, gt_1 1 rfl rfl, gt_3 37 rfl rfl, ⟨by decide, by decide⟩, by decide +kernel⟩, gt_3 35 rfl rfl, gt_3 36 rfl rfl⟩
set_option maxRecDepth 100000 in
theorem ml_RL_78 : MLV RL 78 mX9_leg 6 := ⟨⟨gt_5 112 rfl rfl, gt_1 11 rfl rfl, gt_5 115 rfl rfl, ⟨by decide, by decide⟩, by decide +kernel⟩, gt_5 113 rfl rfl, gt_5 114 rfl rfl⟩
set_option maxRecDepth 100000 in
theorem ml_RL_79 : MLV RL 79 mX8_fare 4 := ⟨⟨gt_3 42 rfl rfl, gt_1 1 rfl rfl, gt_3 45 rfl rfl, ⟨by decide, by decide⟩, by decide +kernel⟩, gt_3 43 rfl rfl, gt_3 44 rfl rfl⟩
set_option maxRecDepth 100000 in
theorem ml_RL_82 : MLV RL 82 mX9_fare 4 := ⟨⟨gt_5 121 rfl rfl, gt_1 11 rfl rfl, gt_5 124 rfl rfl, ⟨by decide, by decide⟩, by decide +kernel⟩, gt_5 122 rfl rfl, gt_5 123 rfl rfl⟩
set_option maxRecDepth 100000 in
theorem ml_RL_83 : MLV RL 83 mX8_waiting 4 := ⟨⟨gt_3 50 rfl rfl, gt_1 1 rfl rfl, gt_3 53 rfl rfl, ⟨by decide, by decide⟩, by decide +kernel⟩, gt_3 51 rfl rfl, gt_3 52 rfl rfl⟩
set_option maxRecDepth 100000 in
theorem ml_RL_86 : MLV RL 86 mX9_waiting 4 := ⟨⟨gt_5 129 rfl rfl, gt_1 11 rfl rfl, gt_5 132 rfl rfl, ⟨by decide, by decide⟩, by decide +kernel⟩, gt_5 130 rfl rfl, gt_5 131 rfl rfl⟩
set_option maxRecDepth 100000 in
theorem ml_RL_87 : MLV RL 87 mX8_latest 4 := ⟨⟨gt_3 58 rfl rfl, gt_1 1 rfl rfl, gt_3 61 rfl rfl, ⟨by decide, by decide⟩, by decide +kernel⟩, gt_3 59 rfl rfl, gt_3 60 rfl rfl⟩
set_option maxRecDepth 100000 in
theorem ml_RL_90 : MLV RL 90 mX9_latest 4 := ⟨⟨gt_5 133 rfl rfl, gt_1 11 rfl rfl, gt_5 136 rfl rfl, ⟨by decide, by decide⟩, by decide +kernel⟩, gt_5 134 rfl rfl, gt_5 135 rfl rfl⟩
set_option maxRecDepth 100000 in
theorem ml_RL_91 : MLV RL 91 mX8_profile 6 := ⟨⟨gt_3 62 rfl rfl, gt_1 1 rfl rfl, gt_3 65 rfl rfl, ⟨by decide, by decide⟩, by decide +kernel⟩, gt_3 63 rfl rfl, gt_3 64 rfl rfl⟩
set_option maxRecDepth 100000 in
theorem ml_RL_94 : MLV RL 94 mX9_profile 6 := ⟨⟨gt_5 137 rfl rfl, gt_1 11 rfl rfl, gt_5 140 rfl rfl, ⟨by decide, by decide⟩, by decide +kernel⟩, gt_5 138 rfl rfl, gt_5 139 rfl rfl⟩
set_option maxRecDepth 100000 in
theorem ml_RL_95 : MLV RL 95 mX8_reached 4 := ⟨⟨gt_3 66 rfl rfl, gt_1 1 rfl rfl, gt_3 69 rfl rfl, ⟨by decide, by decide⟩, by decide +kernel⟩, gt_3 67 rfl rfl, gt_3 68 rfl rfl⟩
set_option maxRecDepth 100000 in
theorem ml_RL_98 : MLV RL 98 mX9_reached 4 := ⟨⟨gt_5 141 rfl rfl, gt_1 11 rfl rfl, gt_5 144 rfl rfl, ⟨by decide, by decide⟩, by decide +kernel⟩, gt_5 142 rfl rfl, gt_5 143 rfl rfl⟩
set_option maxRecDepth 100000 in
theorem ml_RL_99 : MLV RL 99 mX8_worst 5 := ⟨⟨gt_3 70 rfl rfl, gt_1 1 rfl rfl, gt_3 73 rfl rfl, ⟨by decide, by decide⟩, by decide +kernel⟩, gt_3 71 rfl rfl, gt_3 72 rfl rfl⟩
set_option maxRecDepth 100000 in
theorem ml_RL_103 : MLV RL 103 mX9_worst 5 := ⟨⟨gt_5 145 rfl rfl, gt_1 11 rfl rfl, gt_5 148 rfl rfl, ⟨by decide, by decide⟩, by decide +kernel⟩, gt_5 146 rfl rfl, gt_5 147 rfl rfl⟩
set_option maxRecDepth 100000 in
theorem ml_RL_104 : MLV RL 104 mX8_cut 5 := ⟨⟨gt_3 81 rfl rfl, gt_1 1 rfl rfl, gt_3 84 rfl rfl, ⟨by decide, by decide⟩, by decide +kernel⟩, gt_3 82 rfl rfl, gt_3 83 rfl rfl⟩
set_option maxRecDepth 100000 in
theorem ml_RL_107 : MLV RL 107 mX9_cut 5 := ⟨⟨gt_5 153 rfl rfl, gt_1 11 rfl rfl, gt_5 156 rfl rfl, ⟨by decide, by decide⟩, by decide +kernel⟩, gt_5 154 rfl rfl, gt_5 155 rfl rfl⟩
set_option maxRecDepth 100000 in
theorem ml_RL_108 : MLV RL 108 mX8_board 4 := ⟨⟨gt_3 89 rfl rfl, gt_1 1 rfl rfl, gt_3 92 rfl rfl, ⟨by decide, by decide⟩, by decide +kernel⟩, gt_3 90 rfl rfl, gt_3 91 rfl rfl⟩
set_option maxRecDepth 100000 in
theorem ml_RL_111 : MLV RL 111 mX9_board 4 := ⟨⟨gt_5 157 rfl rfl, gt_1 11 rfl rfl, gt_5 160 rfl rfl, ⟨by decide, by decide⟩, by decide +kernel⟩, gt_5 158 rfl rfl, gt_5 159 rfl rfl⟩
set_option maxRecDepth 100000 in
theorem ml_RL_112 : MLV RL 112 mX8_missed 1 := ⟨⟨gt_3 112 rfl rfl, gt_1 1 rfl rfl, gt_3 115 rfl rfl, ⟨by decide, by decide⟩, by decide +kernel⟩, gt_3 113 rfl rfl, gt_3 114 rfl rfl⟩
set_option maxRecDepth 100000 in
theorem ml_RL_115 : MLV RL 115 mX9_missed 1 := ⟨⟨gt_5 177 rfl rfl, gt_1 11 rfl rfl, gt_5 180 rfl rfl, ⟨by decide, by decide⟩, by decide +kernel⟩, gt_5 178 rfl rfl, gt_5 179 rfl rfl⟩
set_option maxRecDepth 100000 in
theorem ml_RL_116 : MLV RL 116 mX8_meet 2 := ⟨⟨gt_3 125 rfl rfl, gt_1 1 rfl rfl, gt_3 128 rfl rfl, ⟨by decide, by decide⟩, by decide +kernel⟩, gt_3 126 rfl rfl, gt_3 127 rfl rfl⟩
set_option maxRecDepth 100000 in
theorem ml_RL_119 : MLV RL 119 mX9_meet 2 := ⟨⟨gt_5 185 rfl rfl, gt_1 11 rfl rfl, gt_5 188 rfl rfl, ⟨by decide, by decide⟩, by decide +kernel⟩, gt_5 186 rfl rfl, gt_5 187 rfl rfl⟩
set_option maxRecDepth 100000 in
theorem ml_RL_120 : MLV RL 120 mX8_spell 4 := ⟨⟨gt_3 130 rfl rfl, gt_1 1 rfl rfl, gt_3 133 rfl rfl, ⟨by decide, by decide⟩, by decide +kernel⟩, gt_3 131 rfl rfl, gt_3 132 rfl rfl⟩
set_option maxRecDepth 100000 in
theorem ml_RL_123 : MLV RL 123 mX9_spell 4 := ⟨⟨gt_5 189 rfl rfl, gt_1 11 rfl rfl, gt_5 192 rfl rfl, ⟨by decide, by decide⟩, by decide +kernel⟩, gt_5 190 rfl rfl, gt_5 191 rfl rfl⟩
set_option maxRecDepth 100000 in
theorem ml_RL_124 : MLV RL 124 mX8_paper 1 := ⟨⟨gt_3 144 rfl rfl, gt_1 1 rfl rfl, gt_3 147 rfl rfl, ⟨by decide, by decide⟩, by decide +kernel⟩, gt_3 145 rfl rfl, gt_3 146 rfl rfl⟩
set_option maxRecDepth 100000 in
theorem ml_RL_127 : MLV RL 127 mX9_paper 1 := ⟨⟨gt_5 205 rfl rfl, gt_1 11 rfl rfl, gt_5 208 rfl rfl, ⟨by decide, by decide⟩, by decide +kernel⟩, gt_5 206 rfl rfl, gt_5 207 rfl rfl⟩
set_option maxRecDepth 100000 in
theorem ml_RL_128 : MLV RL 128 mX8_told 1 := ⟨⟨gt_3 149 rfl rfl, gt_1 1 rfl rfl, gt_3 152 rfl rfl, ⟨by decide, by decide⟩, by decide +kernel⟩, gt_3 150 rfl rfl, gt_3 151 rfl rfl⟩
set_option maxRecDepth 100000 in
theorem ml_RL_131 : MLV RL 131 mX9_told 1 := ⟨⟨gt_5 209 rfl rfl, gt_1 11 rfl rfl, gt_5 212 rfl rfl, ⟨by decide, by decide⟩, by decide +kernel⟩, gt_5 210 rfl rfl, gt_5 211 rfl rfl⟩
set_option maxRecDepth 100000 in
theorem ml_RL_132 : MLV RL 132 mX8_list 2 := ⟨⟨gt_3 175 rfl rfl, gt_1 1 rfl rfl, gt_3 178 rfl rfl, ⟨by decide, by decide⟩, by decide +kernel⟩, gt_3 176 rfl rfl, gt_3 177 rfl rfl⟩
set_option maxRecDepth 100000 in
theorem ml_RL_135 : MLV RL 135 mX9_list 2 := ⟨⟨gt_5 225 rfl rfl, gt_1 11 rfl rfl, gt_5 228 rfl rfl, ⟨by decide, by decide⟩, by decide +kernel⟩, gt_5 226 rfl rfl, gt_5 227 rfl rfl⟩
set_option maxRecDepth 100000 in
theorem ml_RL_136 : MLV RL 136 mX8_set 3 := ⟨⟨gt_3 186 rfl rfl, gt_1 1 rfl rfl, gt_3 189 rfl rfl, ⟨by decide, by decide⟩, by decide +kernel⟩, gt_3 187 rfl rfl, gt_3 188 rfl rfl⟩
set_option maxRecDepth 100000 in
theorem ml_RL_139 : MLV RL 139 mX9_set 3 := ⟨⟨gt_5 232 rfl rfl, gt_1 11 rfl rfl, gt_5 235 rfl rfl, ⟨by decide, by decide⟩, by decide +kernel⟩, gt_5 233 rfl rfl, gt_5 234 rfl rfl⟩
set_option maxRecDepth 100000 in
theorem ml_RL_140 : MLV RL 140 mX8_get 2 := ⟨⟨gt_3 199 rfl rfl, gt_1 1 rfl rfl, gt_3 202 rfl rfl, ⟨by decide, by decide⟩, by decide +kernel⟩, gt_3 200 rfl rfl, gt_3 201 rfl rfl⟩
set_option maxRecDepth 100000 in
theorem ml_RL_143 : MLV RL 143 mX9_get 2 := ⟨⟨gt_5 236 rfl rfl, gt_1 11 rfl rfl, gt_5 239 rfl rfl, ⟨by decide, by decide⟩, by decide +kernel⟩, gt_5 237 rfl rfl, gt_5 238 rfl rfl⟩
set_option maxRecDepth 100000 in
theorem ml_RL_144 : MLV RL 144 mX8_lay 5 := ⟨⟨gt_3 204 rfl rfl, gt_1 1 rfl rfl, gt_3 207 rfl rfl, ⟨by decide, by decide⟩, by decide +kernel⟩, gt_3 205 rfl rfl, gt_3 206 rfl rfl⟩
set_option maxRecDepth 100000 in
theorem ml_RL_147 : MLV RL 147 mX9_lay 5 := ⟨⟨gt_6 1 rfl rfl, gt_1 11 rfl rfl, gt_6 4 rfl rfl, ⟨by decide, by decide⟩, by decide +kernel⟩, gt_6 2 rfl rfl, gt_6 3 rfl rfl⟩
set_option maxRecDepth 100000 in
theorem ml_RL_148 : MLV RL 148 mX8_judge 5 := ⟨⟨gt_3 221 rfl rfl, gt_1 1 rfl rfl, gt_3 224 rfl rfl, ⟨by decide, by decide⟩, by decide +kernel⟩, gt_3 222 rfl rfl, gt_3 223 rfl rfl⟩
set_option maxRecDepth 100000 in
theorem ml_RL_151 : MLV RL 151 mX9_judge 5 := ⟨⟨gt_6 13 rfl rfl, gt_1 11 rfl rfl, gt_6 16 rfl rfl, ⟨by decide, by decide⟩, by decide +kernel⟩, gt_6 14 rfl rfl, gt_6 15 rfl rfl⟩
set_option maxRecDepth 100000 in
theorem ml_RL_152 : MLV RL 152 mX8_image 0 := ⟨⟨gt_3 225 rfl rfl, gt_1 1 rfl rfl, gt_3 228 rfl rfl, ⟨by decide, by decide⟩, by decide +kernel⟩, gt_3 226 rfl rfl, gt_3 227 rfl rfl⟩
set_option maxRecDepth 100000 in
theorem ml_RL_155 : MLV RL 155 mX9_image 0 := ⟨⟨gt_4 206 rfl rfl, gt_1 11 rfl rfl, gt_4 209 rfl rfl, ⟨by decide, by decide⟩, by decide +kernel⟩, gt_4 207 rfl rfl, gt_4 208 rfl rfl⟩
set_option maxRecDepth 100000 in
theorem ml_RL_156 : MLV RL 156 mX8_undo 0 := ⟨⟨gt_3 229 rfl rfl, gt_1 1 rfl rfl, gt_3 232 rfl rfl, ⟨by decide, by decide⟩, by decide +kernel⟩, gt_3 230 rfl rfl, gt_3 231 rfl rfl⟩
set_option maxRecDepth 100000 in
theorem ml_RL_159 : MLV RL 159 mX9_undo 0 := ⟨⟨gt_4 210 rfl rfl, gt_1 11 rfl rfl, gt_4 213 rfl rfl, ⟨by decide, by decide⟩, by decide +kernel⟩, gt_4 211 rfl rfl, gt_4 212 rfl rfl⟩
set_option maxRecDepth 100000 in
theorem w_ai : Cond.arrayClass .int ∈ GT := gt_1 77 rfl rfl
set_option maxRecDepth 100000 in
theorem w_az : Cond.arrayClass .boolean ∈ GT := gt_4 123 rfl rfl
set_option maxRecDepth 100000 in
theorem w_oi : Cond.instanceMethod Lib.objectInit ∈ GT := gt_1 20 rfl rfl
set_option maxRecDepth 100000 in
theorem w_oc : Cond.code Lib.objectInit ⟨#[0xb1]⟩ 1 none ∈ GT := gt_1 21 rfl rfl
set_option maxRecDepth 100000 in
theorem w_an : Cond.native arraycopyName ∈ GT := gt_2 38 rfl rfl
set_option maxRecDepth 100000 in
theorem w_as : Cond.static arraycopyName ∈ GT := gt_2 37 rfl rfl
set_option maxRecDepth 100000 in
theorem w_ay : Cond.initialized "java/lang/System" ∈ GT := gt_1 12 rfl rfl
