abbrev mm_E : Type := Nat × Instr × Nat × Nat
/-- the classes that own code; the classes whose objects are met; the types of arrays -/
def mm_own : List String := [RX0, RX1, RX2, RX3, RX4, RX5, RX6, RJ4, RJ5, RJ6, RJ1, RJ7, RJ8, RJ0, "GiantStairsLaw"]
def mm_cl : List vw_C := [(RX0, TX0, 5), (RX1, TX1, 4), (RX2, TX2, 7), (RX3, TX3, 10), (RX4, TX4, 4), (RX5, TX5, 13), (RX6, TX6, 26), (RJ4, TJ4, 4)]
def mm_tyl : List FieldType := [.int, .boolean, .long, .double, .byte, .object RX0, .object RX2, .object RX3, .array .int]
def mm_fty (c k : Nat) : FieldType := match c with
  | 0 => tyX0 k
  | 1 => tyX1 k
  | 2 => tyX2 k
  | 3 => tyX3 k
  | 4 => tyX4 k
  | 5 => tyX5 k
  | 6 => tyX6 k
  | _ => tyJ4 k
def mm_dfl (c : Nat) : List Value := match c with
  | 0 => [.int 0, .int 0, .int 0, .int 0, .int 0]
  | 1 => [.null, .null, .null, .int 0]
  | 2 => [.int 0, .int 0, .int 0, .int 0, .int 0, .int 0, .int 0]
  | 3 => [.null, .null, .null, .int 0, .int 0, .int 0, .int 0, .int 0, .int 0, .int 0]
  | 4 => [.null, .null, .null, .null]
  | 5 => [.null, .null, .null, .int 0, .null, .int 0, .int 0, .null, .null, .int 0, .long 0, .long 0, .null]
  | 6 => [.null, .null, .null, .null, .null, .int 0, .int 0, .int 0, .int 0, .int 0, .int 0, .int 0, .int 0, .int 0, .int 0, .null, .null, .null, .null, .int 0, .int 0, .int 0, .int 0, .int 0, .null, .int 0]
  | _ => [.null, .int 0, .int 0, .int 0]
/-- the methods: the owner, the name, the code, the locals, what is returned -/
def mm_pr_0 : List (Nat × MethodName × ByteArray × Nat × Option FieldType) := [(0, yX0_init, cX0_init, 2, none), (0, yX0_copyFrom, cX0_copyFrom, 2, none), (1, yX1_init, cX1_init, 1, none), (1, yX1_formOf, cX1_formOf, 1, (some (.object "java/lang/String"))), (1, yX1_isDigit, cX1_isDigit, 1, (some .boolean)), (1, yX1_read, cX1_read, 5, (some .int)), (1, yX1_kindThatGoesFarthest, cX1_kindThatGoesFarthest, 6, (some .int)), (1, yX1_charactersThatFit, cX1_charactersThatFit, 6, (some .int)), (1, yX1_readOrder, cX1_readOrder, 7, (some .int)), (1, yX1_whyNotDo, cX1_whyNotDo, 4, (some .long)), (1, yX1_doOrder, cX1_doOrder, 4, (some .int)), (2, yX2_init, cX2_init, 1, none), (2, yX2_copyFrom, cX2_copyFrom, 2, none), (2, yX2_startAnew, cX2_startAnew, 4, none), (2, yX2_endLease, cX2_endLease, 1, none), (2, yX2_isLeased, cX2_isLeased, 1, (some .boolean))]
def mm_pr_1 : List (Nat × MethodName × ByteArray × Nat × Option FieldType) := [(2, yX2_isEnd, cX2_isEnd, 2, (some .boolean)), (2, yX2_otherEnd, cX2_otherEnd, 2, (some .int)), (2, yX2_rent, cX2_rent, 1, (some .int)), (2, yX2_dustPerDay, cX2_dustPerDay, 1, (some .int)), (2, yX2_costFor, cX2_costFor, 2, (some .int)), (2, yX2_keyOf, cX2_keyOf, 2, (some .int)), (3, yX3_init, cX3_init, 2, none), (3, yX3_copyFrom, cX3_copyFrom, 3, none), (3, yX3_isStair, cX3_isStair, 2, (some .boolean)), (3, yX3_whyNotBuild, cX3_whyNotBuild, 5, (some .long)), (3, yX3_addStair, cX3_addStair, 5, (some .int)), (3, yX3_whyNotTear, cX3_whyNotTear, 2, (some .long)), (3, yX3_removeStair, cX3_removeStair, 4, (some .int)), (3, yX3_whyNotHalve, cX3_whyNotHalve, 3, (some .long)), (3, yX3_halveSteps, cX3_halveSteps, 3, (some .int)), (3, yX3_whyNoGiantOrStair, cX3_whyNoGiantOrStair, 3, (some .long))]
def mm_pr_2 : List (Nat × MethodName × ByteArray × Nat × Option FieldType) := [(3, yX3_whyNotLease, cX3_whyNotLease, 6, (some .long)), (3, yX3_leaseTo, cX3_leaseTo, 5, (some .int)), (3, yX3_whyNotClimb, cX3_whyNotClimb, 7, (some .long)), (3, yX3_goOver, cX3_goOver, 6, (some .int)), (3, yX3_whyNotLevy, cX3_whyNotLevy, 6, (some .long)), (3, yX3_levyToCome, cX3_levyToCome, 3, (some .int)), (3, yX3_levyDust, cX3_levyDust, 4, (some .int)), (3, yX3_takingCoins, cX3_takingCoins, 2, (some .int)), (3, yX3_whyNotTake, cX3_whyNotTake, 2, (some .long)), (3, yX3_takeLanding, cX3_takeLanding, 3, (some .int)), (3, yX3_whyNotFree, cX3_whyNotFree, 3, (some .long)), (3, yX3_freeLanding, cX3_freeLanding, 3, (some .int)), (3, yX3_passDay, cX3_passDay, 4, (some .int)), (3, yX3_giveRent, cX3_giveRent, 4, (some .int)), (3, yX3_stairThatJoins, cX3_stairThatJoins, 4, (some .int)), (3, yX3_joinedWith, cX3_joinedWith, 4, (some .int))]
def mm_pr_3 : List (Nat × MethodName × ByteArray × Nat × Option FieldType) := [(3, yX3_isNextTo, cX3_isNextTo, 5, (some .boolean)), (3, yX3_whoStandsOn, cX3_whoStandsOn, 3, (some .int)), (3, yX3_landingsOf, cX3_landingsOf, 4, (some .int)), (3, yX3_leasesOf, cX3_leasesOf, 4, (some .int)), (3, yX3_dustOnAll, cX3_dustOnAll, 3, (some .int)), (3, yX3_stepsOfAll, cX3_stepsOfAll, 3, (some .int)), (3, yX3_placeOf, cX3_placeOf, 7, (some .int)), (3, yX3_isOpenTo, cX3_isOpenTo, 3, (some .boolean)), (3, yX3_isNoGiantOnNeutral, cX3_isNoGiantOnNeutral, 1, (some .boolean)), (3, yX3_coinsOfAll, cX3_coinsOfAll, 1, (some .int)), (4, yX4_init, cX4_init, 1, none), (4, yX4_goNearestFirst, cX4_goNearestFirst, 6, none), (4, yX4_nearestToDo, cX4_nearestToDo, 4, (some .int)), (4, yX4_goOnFrom, cX4_goOnFrom, 5, none), (4, yX4_goOver, cX4_goOver, 7, none), (4, yX4_goOverMoreAndMore, cX4_goOverMoreAndMore, 4, none)]
def mm_pr_4 : List (Nat × MethodName × ByteArray × Nat × Option FieldType) := [(4, yX4_allowOver, cX4_allowOver, 5, none), (4, yX4_goAgainAndAgain, cX4_goAgainAndAgain, 6, none), (4, yX4_firstStair, cX4_firstStair, 7, (some .int)), (5, yX5_init, cX5_init, 2, none), (5, yX5_build, cX5_build, 4, (some .int)), (5, yX5_tear, cX5_tear, 2, (some .int)), (5, yX5_halve, cX5_halve, 2, (some .int)), (5, yX5_lease, cX5_lease, 4, (some .int)), (5, yX5_climb, cX5_climb, 3, (some .int)), (5, yX5_levy, cX5_levy, 3, (some .int)), (5, yX5_take, cX5_take, 2, (some .int)), (5, yX5_free, cX5_free, 3, (some .int)), (5, yX5_day, cX5_day, 1, (some .int)), (5, yX5_giantOf, cX5_giantOf, 3, (some .int)), (5, yX5_landingOf, cX5_landingOf, 3, (some .int)), (5, yX5_stairOf, cX5_stairOf, 4, (some .int))]
def mm_pr_5 : List (Nat × MethodName × ByteArray × Nat × Option FieldType) := [(5, yX5_between, cX5_between, 4, (some .int)), (5, yX5_breaths, cX5_breaths, 3, (some .int)), (5, yX5_steps, cX5_steps, 3, (some .int)), (5, yX5_stepsAgain, cX5_stepsAgain, 3, (some .int)), (5, yX5_way, cX5_way, 3, (some .int)), (5, yX5_wayAgain, cX5_wayAgain, 3, (some .int)), (5, yX5_first, cX5_first, 4, (some .int)), (5, yX5_reach, cX5_reach, 4, (some .int)), (5, yX5_dustIn, cX5_dustIn, 6, (some .int)), (5, yX5_dustAgain, cX5_dustAgain, 4, (some .int)), (5, yX5_rentsIn, cX5_rentsIn, 4, (some .int)), (5, yX5_levyOf, cX5_levyOf, 3, (some .int)), (5, yX5_bestLevy, cX5_bestLevy, 6, (some .int)), (5, yX5_canTake, cX5_canTake, 2, (some .boolean)), (5, yX5_takable, cX5_takable, 3, (some .int)), (5, yX5_turn, cX5_turn, 1, (some .int))]
def mm_pr_6 : List (Nat × MethodName × ByteArray × Nat × Option FieldType) := [(5, yX5_ranked, cX5_ranked, 5, (some .int)), (5, yX5_isTold, cX5_isTold, 1, (some .boolean)), (5, yX5_append, cX5_append, 2, (some .int)), (5, yX5_run, cX5_run, 1, (some .int)), (5, yX5_faultPosition, cX5_faultPosition, 1, (some .int)), (5, yX5_reason, cX5_reason, 5, (some .int)), (5, yX5_tellGiant, cX5_tellGiant, 3, (some .int)), (5, yX5_tellStair, cX5_tellStair, 3, (some .int)), (5, yX5_tellLandings, cX5_tellLandings, 2, (some .int)), (5, yX5_character, cX5_character, 2, (some .char)), (5, yX5_account, cX5_account, 2, (some .int)), (5, yX5_meanSteps, cX5_meanSteps, 1, (some .double)), (5, yX5_leasedShare, cX5_leasedShare, 1, (some .float)), (5, yX5_undo, cX5_undo, 1, (some .int)), (5, yX5_save, cX5_save, 1, (some .int)), (5, yX5_restore, cX5_restore, 1, (some .int))]
def mm_pr_7 : List (Nat × MethodName × ByteArray × Nat × Option FieldType) := [(5, yX5_remember, cX5_remember, 1, none), (5, yX5_isRefused, cX5_isRefused, 3, (some .boolean)), (5, yX5_isAnyOrderRefused, cX5_isAnyOrderRefused, 4, (some .boolean)), (5, yX5_areStepsTold, cX5_areStepsTold, 3, (some .boolean)), (5, yX5_areBreathsTold, cX5_areBreathsTold, 3, (some .boolean)), (5, yX5_isInRange, cX5_isInRange, 3, (some .boolean)), (5, yX5_isGiant, cX5_isGiant, 1, (some .boolean)), (5, yX5_isLanding, cX5_isLanding, 1, (some .boolean)), (5, yX5_refusalFor, cX5_refusalFor, 2, (some .long)), (5, yX5_numberOf, cX5_numberOf, 2, (some .int)), (5, yX5_detailOf, cX5_detailOf, 2, (some .int)), (6, yX6_init, cX6_init, 2, none), (6, yX6_thrown, cX6_thrown, 1, (some .int)), (6, yX6_in, cX6_in, 3, (some .boolean)), (6, yX6_copies, cX6_copies, 5, none), (6, yX6_no, cX6_no, 2, (some .int))]
def mm_pr_8 : List (Nat × MethodName × ByteArray × Nat × Option FieldType) := [(6, yX6_isBad, cX6_isBad, 3, (some .boolean)), (6, yX6_refused, cX6_refused, 1, (some .int)), (6, yX6_begins, cX6_begins, 1, none), (6, yX6_keeps, cX6_keeps, 3, (some .int)), (6, yX6_gv, cX6_gv, 3, (some .int)), (6, yX6_more, cX6_more, 4, none), (6, yX6_sv, cX6_sv, 3, (some .int)), (6, yX6_ls, cX6_ls, 4, none), (6, yX6_owner, cX6_owner, 2, (some .int)), (6, yX6_isGiant, cX6_isGiant, 1, (some .boolean)), (6, yX6_isLanding, cX6_isLanding, 1, (some .boolean)), (6, yX6_isStair, cX6_isStair, 2, (some .boolean)), (6, yX6_isNoGiant, cX6_isNoGiant, 2, (some .boolean)), (6, yX6_isNoLanding, cX6_isNoLanding, 2, (some .boolean)), (6, yX6_isNoStair, cX6_isNoStair, 2, (some .boolean)), (6, yX6_joins, cX6_joins, 4, (some .boolean))]
def mm_pr_9 : List (Nat × MethodName × ByteArray × Nat × Option FieldType) := [(6, yX6_stairBetween, cX6_stairBetween, 4, (some .int)), (6, yX6_touches, cX6_touches, 3, (some .boolean)), (6, yX6_across, cX6_across, 3, (some .int)), (6, yX6_isRefusedBuild, cX6_isRefusedBuild, 4, (some .boolean)), (6, yX6_builds, cX6_builds, 6, (some .int)), (6, yX6_build, cX6_build, 4, (some .int)), (6, yX6_tears, cX6_tears, 4, (some .int)), (6, yX6_tear, cX6_tear, 2, (some .int)), (6, yX6_isRefusedHalve, cX6_isRefusedHalve, 2, (some .boolean)), (6, yX6_halves, cX6_halves, 2, (some .int)), (6, yX6_halve, cX6_halve, 2, (some .int)), (6, yX6_rentOf, cX6_rentOf, 2, (some .int)), (6, yX6_isRefusedLease, cX6_isRefusedLease, 4, (some .boolean)), (6, yX6_leases, cX6_leases, 4, (some .int)), (6, yX6_lease, cX6_lease, 4, (some .int)), (6, yX6_takesBreaths, cX6_takesBreaths, 3, (some .int))]
def mm_pr_10 : List (Nat × MethodName × ByteArray × Nat × Option FieldType) := [(6, yX6_isRefusedClimb, cX6_isRefusedClimb, 4, (some .boolean)), (6, yX6_climbs, cX6_climbs, 5, (some .int)), (6, yX6_climb, cX6_climb, 3, (some .int)), (6, yX6_isRefusedLevy, cX6_isRefusedLevy, 3, (some .boolean)), (6, yX6_levyBy, cX6_levyBy, 4, (some .int)), (6, yX6_levies, cX6_levies, 4, (some .int)), (6, yX6_levy, cX6_levy, 3, (some .int)), (6, yX6_standing, cX6_standing, 2, (some .int)), (6, yX6_landingsOf, cX6_landingsOf, 4, (some .int)), (6, yX6_isJoined, cX6_isJoined, 4, (some .boolean)), (6, yX6_priceOf, cX6_priceOf, 2, (some .int)), (6, yX6_isRefusedTake, cX6_isRefusedTake, 3, (some .boolean)), (6, yX6_takes, cX6_takes, 3, (some .int)), (6, yX6_take, cX6_take, 2, (some .int)), (6, yX6_isRefusedCede, cX6_isRefusedCede, 3, (some .boolean)), (6, yX6_cedes, cX6_cedes, 3, (some .int))]
def mm_pr_11 : List (Nat × MethodName × ByteArray × Nat × Option FieldType) := [(6, yX6_free, cX6_free, 3, (some .int)), (6, yX6_ends, cX6_ends, 2, none), (6, yX6_givesRent, cX6_givesRent, 4, (some .int)), (6, yX6_least, cX6_least, 2, (some .int)), (6, yX6_goesBy, cX6_goesBy, 3, (some .int)), (6, yX6_day, cX6_day, 1, (some .int)), (6, yX6_leasedTo, cX6_leasedTo, 4, (some .int)), (6, yX6_giantOf, cX6_giantOf, 3, (some .int)), (6, yX6_stairsAt, cX6_stairsAt, 4, (some .int)), (6, yX6_joinedTo, cX6_joinedTo, 4, (some .int)), (6, yX6_landingOf, cX6_landingOf, 3, (some .int)), (6, yX6_stairOf, cX6_stairOf, 3, (some .int)), (6, yX6_between, cX6_between, 4, (some .int)), (6, yX6_breaths, cX6_breaths, 3, (some .int)), (6, yX6_lengthOf, cX6_lengthOf, 3, (some .int)), (6, yX6_lays, cX6_lays, 7, none)]
def mm_pr_12 : List (Nat × MethodName × ByteArray × Nat × Option FieldType) := [(6, yX6_stepsTo, cX6_stepsTo, 3, (some .int)), (6, yX6_steps, cX6_steps, 3, (some .int)), (6, yX6_stepsAgain, cX6_stepsAgain, 3, (some .int)), (6, yX6_wayTo, cX6_wayTo, 3, (some .int)), (6, yX6_way, cX6_way, 3, (some .int)), (6, yX6_wayAgain, cX6_wayAgain, 3, (some .int)), (6, yX6_first, cX6_first, 6, (some .int)), (6, yX6_reach, cX6_reach, 4, (some .int)), (6, yX6_areDays, cX6_areDays, 1, (some .boolean)), (6, yX6_dustBy, cX6_dustBy, 3, (some .int)), (6, yX6_dustIn, cX6_dustIn, 3, (some .int)), (6, yX6_dustAgain, cX6_dustAgain, 3, (some .int)), (6, yX6_rentsIn, cX6_rentsIn, 4, (some .int)), (6, yX6_couldLevy, cX6_couldLevy, 3, (some .int)), (6, yX6_levyOf, cX6_levyOf, 3, (some .int)), (6, yX6_bestLevy, cX6_bestLevy, 5, (some .int))]
def mm_pr_13 : List (Nat × MethodName × ByteArray × Nat × Option FieldType) := [(6, yX6_canTake, cX6_canTake, 2, (some .boolean)), (6, yX6_takable, cX6_takable, 3, (some .int)), (6, yX6_turn, cX6_turn, 1, (some .int)), (6, yX6_measured, cX6_measured, 3, (some .int)), (6, yX6_ranked, cX6_ranked, 6, (some .int)), (6, yX6_isTold, cX6_isTold, 1, (some .boolean)), (6, yX6_append, cX6_append, 2, (some .int)), (6, yX6_mark, cX6_mark, 1, (some .int)), (6, yX6_isDigit, cX6_isDigit, 1, (some .boolean)), (6, yX6_blank, cX6_blank, 1, none), (6, yX6_digits, cX6_digits, 4, (some .int)), (6, yX6_inWord, cX6_inWord, 6, (some .int)), (6, yX6_letter, cX6_letter, 2, (some .int)), (6, yX6_kindHere, cX6_kindHere, 4, (some .int)), (6, yX6_order, cX6_order, 5, none), (6, yX6_reads, cX6_reads, 1, none)]
def mm_pr_14 : List (Nat × MethodName × ByteArray × Nat × Option FieldType) := [(6, yX6_cannot, cX6_cannot, 6, (some .boolean)), (6, yX6_run, cX6_run, 2, (some .int)), (6, yX6_faultPosition, cX6_faultPosition, 1, (some .int)), (6, yX6_reason, cX6_reason, 4, (some .int)), (6, yX6_writes, cX6_writes, 2, none), (6, yX6_writesNumber, cX6_writesNumber, 3, none), (6, yX6_tellGiant, cX6_tellGiant, 2, (some .int)), (6, yX6_tellStair, cX6_tellStair, 2, (some .int)), (6, yX6_tellLandings, cX6_tellLandings, 2, (some .int)), (6, yX6_character, cX6_character, 2, (some .char)), (6, yX6_sumOf, cX6_sumOf, 4, (some .int)), (6, yX6_account, cX6_account, 2, (some .int)), (6, yX6_meanSteps, cX6_meanSteps, 2, (some .double)), (6, yX6_leasedShare, cX6_leasedShare, 2, (some .float)), (6, yX6_undo, cX6_undo, 1, (some .int)), (6, yX6_save, cX6_save, 1, (some .int))]
def mm_pr_15 : List (Nat × MethodName × ByteArray × Nat × Option FieldType) := [(6, yX6_restore, cX6_restore, 1, (some .int)), (7, yJ4_init_da8c8, cJ4_init_da8c8, 1, none), (7, yJ4_append_cf468, cJ4_append_cf468, 2, (some (.object "java/lang/StringBuilder"))), (7, yJ4_append_bf812, cJ4_append_bf812, 2, (some (.object "java/lang/StringBuilder"))), (7, yJ4_charAt_5068e, cJ4_charAt_5068e, 2, (some .char)), (7, yJ4_setLength_d00df, cJ4_setLength_d00df, 2, none), (7, yJ4_length_8abf5, cJ4_length_8abf5, 1, (some .int)), (8, yJ5_init_d00df, cJ5_init_d00df, 2, none), (8, yJ5_length_8abf5, cJ5_length_8abf5, 1, (some .int)), (8, yJ5_ensureCapacityInternal_d00df, cJ5_ensureCapacityInternal_d00df, 3, none), (8, yJ5_newCapacity_0f7a4, cJ5_newCapacity_0f7a4, 6, (some .int)), (8, yJ5_setLength_d00df, cJ5_setLength_d00df, 2, none), (8, yJ5_charAt_5068e, cJ5_charAt_5068e, 5, (some .char)), (8, yJ5_append_3fe6f, cJ5_append_3fe6f, 2, (some (.object "java/lang/AbstractStringBuilder"))), (8, yJ5_append_c97b9, cJ5_append_c97b9, 4, (some (.object "java/lang/AbstractStringBuilder"))), (8, yJ5_isLatin1_aae02, cJ5_isLatin1_aae02, 1, (some .boolean))]
def mm_pr_16 : List (Nat × MethodName × ByteArray × Nat × Option FieldType) := [(9, yJ6_getChars_ba4f3, cJ6_getChars_ba4f3, 7, (some .int)), (9, yJ6_stringSize_0f7a4, cJ6_stringSize_0f7a4, 4, (some .int)), (9, yJ6_bitCount_0f7a4, cJ6_bitCount_0f7a4, 1, (some .int)), (10, yJ1_canEncode_fc78d, cJ1_canEncode_fc78d, 1, (some .boolean)), (11, yJ7_copyOf_9075b, cJ7_copyOf_9075b, 3, (some (.array .byte))), (12, yJ8_newLength_cabcc, cJ8_newLength_cabcc, 4, (some .int)), (13, yJ0_length_8abf5, cJ0_length_8abf5, 1, (some .int)), (13, yJ0_charAt_5068e, cJ0_charAt_5068e, 2, (some .char)), (13, yJ0_checkIndex_df160, cJ0_checkIndex_df160, 2, none), (3, yX3_coinsForDust, cX3_coinsForDust, 3, (some .int))]
def mm_pr : List (Nat × MethodName × ByteArray × Nat × Option FieldType) := mm_pr_0 ++ (mm_pr_1 ++ (mm_pr_2 ++ (mm_pr_3 ++ (mm_pr_4 ++ (mm_pr_5 ++ (mm_pr_6 ++ (mm_pr_7 ++ (mm_pr_8 ++ (mm_pr_9 ++ (mm_pr_10 ++ (mm_pr_11 ++ (mm_pr_12 ++ (mm_pr_13 ++ (mm_pr_14 ++ (mm_pr_15 ++ (mm_pr_16))))))))))))))))
def mm_m (a : Nat) : Nat × MethodName × ByteArray × Nat × Option FieldType := mm_pr.getD a (0, yX0_init, cX0_init, 0, none)
/-- what an index of a class's pool names: its kind, then two numbers -/
def mm_lnk_0 : List (Nat × Nat × Nat × Nat) := [(3, 8, 0, 0), (9, 0, 0, 0), (15, 0, 0, 2), (18, 0, 0, 3), (21, 0, 0, 4), (24, 0, 0, 1)]
def mm_lnk_1 : List (Nat × Nat × Nat × Nat) := [(3, 8, 0, 0), (9, 9, 7, 9), (11, 6, 241, 96), (12, 0, 1, 0), (18, 0, 1, 1), (22, 18, 8, 18), (24, 0, 1, 2), (27, 0, 1, 3), (49, 3, 117, 51), (53, 4, 6, 65), (57, 2, 3, 33), (61, 4, 7, 66), (65, 4, 262, 64), (71, 4, 8, 67), (75, 4, 246, 64), (76, 4, 244, 65), (80, 4, 263, 65), (81, 2, 4, 33), (85, 4, 25, 67), (91, 4, 27, 65), (95, 4, 29, 65), (98, 4, 32, 67), (101, 4, 34, 66), (105, 4, 36, 66), (108, 4, 40, 65), (111, 4, 42, 66), (114, 4, 26, 67), (117, 4, 28, 65), (120, 4, 30, 65), (123, 4, 33, 67), (126, 4, 35, 66), (130, 4, 38, 66), (133, 4, 41, 65), (136, 4, 43, 66), (139, 4, 44, 64)]
def mm_lnk_2 : List (Nat × Nat × Nat × Nat) := [(3, 8, 0, 0), (9, 0, 2, 0), (15, 0, 2, 1), (18, 0, 2, 2), (21, 0, 2, 3), (24, 0, 2, 4), (27, 0, 2, 5), (30, 0, 2, 6), (33, 16, 0, 258), (39, 17, 0, 274), (42, 4, 14, 64), (45, 3, 118, 49), (49, 4, 18, 64)]
def mm_lnk_3 : List (Nat × Nat × Nat × Nat) := [(3, 8, 0, 0), (9, 9, 0, 9), (11, 0, 3, 0), (17, 0, 3, 1), (21, 9, 2, 9), (23, 0, 3, 2), (27, 0, 3, 3), (31, 0, 3, 4), (34, 0, 3, 5), (37, 0, 3, 6), (40, 0, 3, 7), (43, 0, 3, 8), (46, 0, 3, 9), (49, 6, 0, 97), (52, 7, 11, 112), (53, 4, 1, 65), (57, 15, 0, 245), (63, 4, 12, 65), (66, 3, 117, 51), (70, 3, 119, 49), (74, 3, 120, 50), (78, 4, 46, 66), (82, 4, 13, 67), (86, 4, 24, 65), (89, 1, 2, 4), (92, 1, 2, 2), (95, 3, 118, 49), (98, 4, 31, 66), (101, 4, 15, 64), (105, 1, 2, 6), (108, 1, 2, 5), (111, 4, 18, 64), (115, 1, 0, 1), (118, 4, 16, 65), (121, 4, 17, 65), (125, 1, 0, 0), (126, 1, 0, 4), (129, 1, 2, 3), (132, 4, 20, 65), (135, 1, 0, 2), (138, 1, 2, 0), (141, 1, 2, 1), (144, 16, 0, 258), (149, 4, 36, 66), (152, 4, 265, 66), (155, 4, 49, 65), (158, 4, 48, 66), (162, 4, 50, 65), (165, 4, 39, 65), (168, 4, 19, 64), (171, 4, 45, 65), (175, 4, 14, 64), (178, 1, 0, 3), (181, 4, 47, 65), (184, 4, 21, 65)]
def mm_lnk_4 : List (Nat × Nat × Nat × Nat) := [(3, 8, 0, 0), (9, 0, 4, 0), (15, 0, 4, 1), (19, 0, 4, 2), (22, 18, 8, 18), (24, 0, 4, 3), (27, 11, 1000000, 0), (28, 4, 55, 66), (34, 4, 60, 64), (38, 4, 61, 67), (42, 1, 3, 3), (46, 1, 3, 2), (50, 4, 16, 65), (56, 4, 62, 69), (60, 4, 17, 65), (64, 4, 20, 65), (67, 16, 0, 258), (73, 1, 2, 0), (76, 1, 2, 1), (79, 1, 2, 2), (82, 4, 64, 65), (86, 1, 3, 0), (90, 1, 0, 1), (95, 4, 59, 67)]
def mm_lnk_5 : List (Nat × Nat × Nat × Nat) := [(3, 8, 0, 0), (9, 9, 3, 9), (11, 6, 22, 96), (12, 0, 5, 0), (16, 0, 5, 1), (19, 0, 5, 2), (22, 0, 5, 3), (26, 0, 5, 4), (30, 0, 5, 5), (34, 0, 5, 6), (37, 9, 4, 9), (39, 7, 58, 112), (40, 0, 5, 7), (44, 9, 1, 9), (46, 7, 2, 112), (47, 0, 5, 8), (51, 0, 5, 9), (54, 0, 5, 10), (58, 0, 5, 11), (61, 9, 7, 9), (63, 6, 241, 96), (64, 0, 5, 12), (68, 4, 25, 67), (72, 4, 113, 65), (83, 4, 112, 64), (86, 4, 26, 67), (90, 4, 27, 65), (96, 4, 28, 65), (100, 4, 29, 65), (105, 4, 30, 65), (108, 4, 32, 67), (113, 4, 33, 67), (116, 4, 34, 66), (122, 4, 35, 66), (126, 4, 36, 66), (131, 4, 38, 66), (134, 4, 40, 65), (139, 4, 41, 65), (142, 4, 42, 66), (147, 4, 43, 66), (150, 4, 44, 64), (154, 2, 118, 33), (163, 1, 3, 0), (167, 1, 0, 0), (172, 1, 0, 1), (175, 4, 50, 65), (178, 1, 0, 2), (181, 4, 51, 65), (184, 1, 0, 3), (187, 1, 0, 4), (195, 2, 119, 33), (200, 1, 3, 1), (204, 4, 47, 65), (207, 2, 258, 33), (212, 4, 49, 65), (217, 4, 24, 65), (222, 1, 3, 2), (226, 1, 2, 0), (231, 1, 2, 1), (234, 1, 2, 2), (237, 1, 2, 3), (240, 1, 2, 4), (243, 1, 2, 5), (246, 1, 2, 6), (249, 4, 18, 64), (254, 4, 46, 66), (264, 4, 20, 65), (267, 4, 59, 67), (271, 1, 4, 0), (274, 11, 1000000, 0), (277, 4, 63, 65), (281, 1, 4, 3), (289, 4, 65, 66), (293, 1, 4, 2), (296, 4, 66, 67), (302, 2, 117, 35), (308, 4, 19, 64), (311, 16, 0, 258), (316, 4, 23, 65), (319, 4, 37, 66), (322, 1, 3, 3), (327, 1, 3, 5), (332, 4, 54, 66), (337, 4, 115, 64), (341, 4, 116, 65), (344, 4, 56, 64), (347, 4, 57, 64), (352, 1, 1, 0), (355, 4, 246, 64), (363, 4, 242, 65), (367, 4, 5, 64), (370, 4, 245, 65), (376, 4, 114, 64), (381, 1, 1, 3), (388, 2, 122, 33), (392, 2, 121, 33), (395, 4, 243, 65), (398, 4, 15, 64), (403, 4, 244, 65), (407, 1, 3, 4), (410, 1, 3, 6), (411, 4, 52, 64), (414, 1, 3, 7), (417, 1, 3, 8), (420, 1, 3, 9), (430, 4, 53, 64), (437, 4, 9, 66), (441, 2, 120, 34), (444, 4, 10, 66), (448, 12, 4294967295, 0)]
def mm_lnk_6 : List (Nat × Nat × Nat × Nat) := [(1, 8, 0, 0), (7, 0, 6, 0), (13, 0, 6, 1), (16, 0, 6, 2), (19, 0, 6, 3), (22, 0, 6, 4), (25, 0, 6, 5), (29, 0, 6, 6), (32, 0, 6, 7), (35, 0, 6, 8), (38, 0, 6, 9), (41, 0, 6, 10), (44, 0, 6, 11), (47, 0, 6, 12), (50, 0, 6, 13), (53, 0, 6, 14), (57, 0, 6, 15), (60, 0, 6, 16), (63, 0, 6, 17), (66, 0, 6, 18), (69, 0, 6, 19), (72, 0, 6, 20), (75, 0, 6, 21), (78, 0, 6, 22), (81, 0, 6, 23), (84, 0, 6, 24), (87, 0, 6, 25), (90, 4, 127, 65), (94, 2, 126, 36), (98, 2, 125, 35), (102, 2, 137, 33), (106, 4, 128, 66), (110, 2, 138, 33), (113, 4, 139, 65), (116, 4, 134, 66), (120, 4, 143, 67), (123, 4, 141, 65), (126, 4, 144, 66), (129, 4, 135, 67), (133, 4, 130, 64), (136, 4, 147, 67), (139, 4, 129, 64), (143, 4, 148, 67), (147, 4, 131, 65), (150, 4, 142, 65), (153, 4, 150, 65), (156, 4, 152, 65), (159, 4, 153, 65), (162, 4, 140, 65), (165, 4, 155, 65), (168, 4, 156, 67), (171, 4, 157, 67), (174, 4, 132, 66), (177, 4, 145, 66), (180, 4, 146, 66), (183, 4, 136, 65), (186, 4, 159, 66), (189, 4, 133, 67), (192, 4, 160, 66), (195, 4, 161, 66), (198, 4, 164, 66), (201, 4, 163, 66), (204, 4, 165, 66), (207, 4, 167, 65), (210, 4, 169, 66), (213, 4, 168, 65), (216, 4, 170, 65), (219, 4, 171, 65), (222, 4, 172, 65), (225, 4, 174, 66), (228, 4, 175, 66), (231, 4, 177, 65), (235, 2, 179, 34), (238, 4, 178, 65), (241, 4, 180, 64), (244, 4, 182, 65), (247, 4, 184, 65), (250, 4, 185, 65), (253, 11, 1000000, 0), (254, 4, 190, 66), (257, 4, 191, 66), (261, 4, 192, 66), (264, 4, 195, 66), (267, 2, 200, 33), (270, 4, 201, 66), (273, 4, 205, 66), (276, 4, 211, 66), (279, 4, 215, 64), (282, 4, 216, 64), (286, 2, 219, 38), (290, 2, 220, 34), (293, 4, 221, 64), (296, 4, 217, 64), (299, 4, 218, 65), (302, 4, 222, 64), (305, 4, 223, 64), (308, 4, 224, 65), (311, 4, 228, 65), (314, 4, 229, 65), (317, 4, 234, 65)]
def mm_lnk_7 : List (Nat × Nat × Nat × Nat) := [(1, 6, 247, 97), (50, 14, 253, 225), (53, 14, 254, 225), (329, 14, 252, 225), (333, 14, 251, 225), (343, 14, 248, 224)]
def mm_lnk_8 : List (Nat × Nat × Nat × Nat) := [(3, 8, 0, 0), (18, 20, 0, 0), (15, 0, 7, 0), (22, 0, 7, 1), (39, 11, 2147483647, 0), (73, 0, 7, 2), (79, 0, 7, 3), (83, 13, 255, 208), (100, 13, 249, 209), (104, 13, 250, 209), (108, 2, 260, 34), (114, 2, 261, 35), (138, 16, 0, 258), (144, 2, 264, 34), (191, 2, 259, 33), (245, 2, 257, 33), (248, 2, 256, 35)]
def mm_lnk_9 : List (Nat × Nat × Nat × Nat) := [(83, 20, 2, 0), (87, 20, 3, 0), (265, 11, 1431655765, 0), (266, 11, 858993459, 0), (267, 11, 252645135, 0)]
def mm_lnk_10 : List (Nat × Nat × Nat × Nat) := []
def mm_lnk_11 : List (Nat × Nat × Nat × Nat) := [(150, 15, 0, 245), (304, 16, 0, 258)]
def mm_lnk_12 : List (Nat × Nat × Nat × Nat) := [(194, 17, 0, 274), (200, 11, 2147483639, 0)]
def mm_lnk_13 : List (Nat × Nat × Nat × Nat) := [(38, 20, 0, 0), (1053, 20, 1, 0)]
def mm_lnk (o : Nat) : List (Nat × Nat × Nat × Nat) := match o with
  | 0 => mm_lnk_0
  | 1 => mm_lnk_1
  | 2 => mm_lnk_2
  | 3 => mm_lnk_3
  | 4 => mm_lnk_4
  | 5 => mm_lnk_5
  | 6 => mm_lnk_6
  | 7 => mm_lnk_7
  | 8 => mm_lnk_8
  | 9 => mm_lnk_9
  | 10 => mm_lnk_10
  | 11 => mm_lnk_11
  | 12 => mm_lnk_12
  | 13 => mm_lnk_13
  | _ => []
def mm_look (l : List (Nat × Nat × Nat × Nat)) (i : Nat) : Option (Nat × Nat × Nat) := match l with
  | [] => none
  | r :: l => if r.1 = i then some r.2 else mm_look l i
def mm_R (o : Nat) : String := mm_own.getD o ""
def mm_C (a : Nat) : vw_C := mm_cl.getD a ("", fun _ => ("", "", "", false), 0)
/-- static fields that are read -/
def mm_sn (a : Nat) : String × String × String := ([("java/lang/String", "COMPACT_STRINGS", "Z"), ("jdk/internal/util/Preconditions", "SIOOBE_FORMATTER", "Ljava/util/function/BiFunction;"), ("java/lang/Integer", "DigitOnes", "[B"), ("java/lang/Integer", "DigitTens", "[B")] : List (String × String × String)).getD a ("", "", "")
/-- the words of a row of a pool; the words of nest mates apart -/
def mm_rw (o : Nat) (r : Nat × Nat × Nat × Nat) : List Cond := match r with
  | (i, t, a, b) => match t with
    | 0 => [.fieldLink (mm_R o) i ((mm_C a).2.1 b).1 ((mm_C a).2.1 b).2.1 ((mm_C a).2.1 b).2.2.1]
    | 2 => [.methodLink (mm_R o) i (mm_m a).2.1, .static (mm_m a).2.1, .initialized (mm_m a).2.1.cls]
    | 3 => [.static (mm_m a).2.1, .initialized (mm_m a).2.1.cls]
    | 4 => [.methodLink (mm_R o) i (mm_m a).2.1, .instanceMethod (mm_m a).2.1, .selects (mm_m a).2.1.cls (mm_m a).2.1 (mm_m a).2.1, .initialized (mm_m a).2.1.cls]
    | 5 => [.instanceMethod (mm_m a).2.1, .selects (mm_m a).2.1.cls (mm_m a).2.1 (mm_m a).2.1, .initialized (mm_m a).2.1.cls]
    | 6 => [.methodLink (mm_R o) i (mm_m a).2.1, .instanceMethod (mm_m a).2.1, .initialized (mm_m a).2.1.cls]
    | 7 => [.instanceMethod (mm_m a).2.1, .initialized (mm_m a).2.1.cls]
    | 8 => [.methodLink (mm_R o) i Lib.objectInit, .instanceMethod Lib.objectInit]
    | 9 => [.classLink (mm_R o) i (mm_C a).1, .instantiable (mm_C a).1 (mm_C a).2.2, .initialized (mm_C a).1]
    | 15 => [.methodLink (mm_R o) i arraycopyName, .native arraycopyName, .static arraycopyName, .initialized "java/lang/System"]
    | 16 => [.methodLink (mm_R o) i Lib.Math.min.name, .static Lib.Math.min.name, .initialized "java/lang/Math", .code Lib.Math.min.name Lib.Math.min.code 2 (some .int)]
    | 17 => [.methodLink (mm_R o) i Lib.Math.max.name, .static Lib.Math.max.name, .initialized "java/lang/Math", .code Lib.Math.max.name Lib.Math.max.code 2 (some .int)]
    | 18 => [.classLink (mm_R o) i "[[I"]
    | 20 => [.fieldLink (mm_R o) i (mm_sn a).1 (mm_sn a).2.1 (mm_sn a).2.2]
    | 11 => [.constant (mm_R o) i (Int32.ofNat a)]
    | 12 => [.constantLong (mm_R o) i (Int64.ofNat a)]
    | 13 => [.methodLink (mm_R o) i (mm_m a).2.1, .sameMethod (mm_m a).2.1.cls (mm_m a).2.1.cls (mm_m a).2.1.name (mm_m a).2.1.desc, .selects RJ4 (mm_m a).2.1 (mm_m a).2.1, .instanceMethod (mm_m a).2.1, .initialized (mm_m a).2.1.cls]
    | 14 => [.methodLink (mm_R o) i (mm_m a).2.1, .sameMethod (mm_m a).2.1.cls (mm_m a).2.1.cls (mm_m a).2.1.name (mm_m a).2.1.desc, .superclass (mm_R o) (mm_m a).2.1.cls, .instanceMethod (mm_m a).2.1, .initialized (mm_m a).2.1.cls]
    | _ => []
def mm_rn (o : Nat) (r : Nat × Nat × Nat × Nat) : List Cond := match r with
  | (i, t, a, b) => match t with
    | 1 => [.fieldLinkNest (mm_R o) i ((mm_C a).2.1 b).1 ((mm_C a).2.1 b).2.1 ((mm_C a).2.1 b).2.2.1 RX5]
    | 3 => [.methodLinkNest (mm_R o) i (mm_m a).2.1 RX5]
    | 5 => [.methodLinkNest (mm_R o) i (mm_m a).2.1 RX5]
    | 7 => [.methodLinkNest (mm_R o) i (mm_m a).2.1 RX5]
    | _ => []
/-- words that the tables give by way of others: of private methods of a superclass -/
def mm_pw : List Cond := [.selects RJ4 yJ5_ensureCapacityInternal_d00df yJ5_ensureCapacityInternal_d00df, .selects RJ4 yJ5_newCapacity_0f7a4 yJ5_newCapacity_0f7a4]
def mm_big : List Cond := lw_tbl ++ mm_pw
def mm_lw (o : Nat) : List Cond := (mm_lnk o).flatMap (mm_rw o)
def mm_ln (o : Nat) : List Cond := (mm_lnk o).flatMap (mm_rn o)
def mm_cw_0 : List Cond := mm_pr_0.map (fun q => Cond.code q.2.1 q.2.2.1 q.2.2.2.1 q.2.2.2.2)
def mm_cw_1 : List Cond := mm_pr_1.map (fun q => Cond.code q.2.1 q.2.2.1 q.2.2.2.1 q.2.2.2.2)
def mm_cw_2 : List Cond := mm_pr_2.map (fun q => Cond.code q.2.1 q.2.2.1 q.2.2.2.1 q.2.2.2.2)
def mm_cw_3 : List Cond := mm_pr_3.map (fun q => Cond.code q.2.1 q.2.2.1 q.2.2.2.1 q.2.2.2.2)
def mm_cw_4 : List Cond := mm_pr_4.map (fun q => Cond.code q.2.1 q.2.2.1 q.2.2.2.1 q.2.2.2.2)
def mm_cw_5 : List Cond := mm_pr_5.map (fun q => Cond.code q.2.1 q.2.2.1 q.2.2.2.1 q.2.2.2.2)
def mm_cw_6 : List Cond := mm_pr_6.map (fun q => Cond.code q.2.1 q.2.2.1 q.2.2.2.1 q.2.2.2.2)
def mm_cw_7 : List Cond := mm_pr_7.map (fun q => Cond.code q.2.1 q.2.2.1 q.2.2.2.1 q.2.2.2.2)
def mm_cw_8 : List Cond := mm_pr_8.map (fun q => Cond.code q.2.1 q.2.2.1 q.2.2.2.1 q.2.2.2.2)
def mm_cw_9 : List Cond := mm_pr_9.map (fun q => Cond.code q.2.1 q.2.2.1 q.2.2.2.1 q.2.2.2.2)
def mm_cw_10 : List Cond := mm_pr_10.map (fun q => Cond.code q.2.1 q.2.2.1 q.2.2.2.1 q.2.2.2.2)
def mm_cw_11 : List Cond := mm_pr_11.map (fun q => Cond.code q.2.1 q.2.2.1 q.2.2.2.1 q.2.2.2.2)
def mm_cw_12 : List Cond := mm_pr_12.map (fun q => Cond.code q.2.1 q.2.2.1 q.2.2.2.1 q.2.2.2.2)
def mm_cw_13 : List Cond := mm_pr_13.map (fun q => Cond.code q.2.1 q.2.2.1 q.2.2.2.1 q.2.2.2.2)
def mm_cw_14 : List Cond := mm_pr_14.map (fun q => Cond.code q.2.1 q.2.2.1 q.2.2.2.1 q.2.2.2.2)
def mm_cw_15 : List Cond := mm_pr_15.map (fun q => Cond.code q.2.1 q.2.2.1 q.2.2.2.1 q.2.2.2.2)
def mm_cw_16 : List Cond := mm_pr_16.map (fun q => Cond.code q.2.1 q.2.2.1 q.2.2.2.1 q.2.2.2.2)
def mm_cw : List Cond := mm_cw_0 ++ (mm_cw_1 ++ (mm_cw_2 ++ (mm_cw_3 ++ (mm_cw_4 ++ (mm_cw_5 ++ (mm_cw_6 ++ (mm_cw_7 ++ (mm_cw_8 ++ (mm_cw_9 ++ (mm_cw_10 ++ (mm_cw_11 ++ (mm_cw_12 ++ (mm_cw_13 ++ (mm_cw_14 ++ (mm_cw_15 ++ (mm_cw_16))))))))))))))))
def mm_yw : List Cond := mm_cl.flatMap (fun q => u_ws q.1 q.2.1 q.2.2)
def mm_xw : List Cond := [.code Lib.objectInit ⟨#[0xb1]⟩ 1 none, .arrayClass .int, .arrayClass .boolean, .arrayClass .long, .arrayClass .double, .arrayClass .byte, .code yJ0_coder_7d493 cJ0_coder_7d493 1 (some .byte), .code yJ0_isLatin1_aae02 cJ0_isLatin1_aae02 1 (some .boolean), .code yJ1_charAt_3b067 cJ1_charAt_3b067 2 (some .char), .code yJ3_checkIndex_8e157 cJ3_checkIndex_8e157 3 (some .int), .fieldLink RJ0 9 "java/lang/String" "value" "[B", .fieldLink RJ0 15 "java/lang/String" "coder" "B", .methodLink RJ0 335 yJ0_coder_7d493, .instanceMethod yJ0_coder_7d493, .selects RJ0 yJ0_coder_7d493 yJ0_coder_7d493, .methodLink RJ0 492 yJ0_isLatin1_aae02, .instanceMethod yJ0_isLatin1_aae02, .selects RJ0 yJ0_isLatin1_aae02 yJ0_isLatin1_aae02, .initialized RJ0, .methodLink RJ0 495 yJ1_charAt_3b067, .static yJ1_charAt_3b067, .methodLink RJ1 9 yJ0_checkIndex_df160, .static yJ0_checkIndex_df160, .methodLink RJ0 1059 yJ3_checkIndex_8e157, .static yJ3_checkIndex_8e157, .initialized RJ1, .initialized RJ3]
/-- the words of what is thrown -/
def mm_tw_0 : List Cond := [.classLink RX5 76 "java/lang/UnsupportedOperationException", .initialized "java/lang/UnsupportedOperationException"] ++ (vx_atS RX5 80 "java/lang/UnsupportedOperationException" ["java/lang/RuntimeException", "java/lang/Exception"]).filter goodWord
def mm_tw_1 : List Cond := [.classLink RX5 158 "java/lang/IndexOutOfBoundsException", .initialized "java/lang/IndexOutOfBoundsException"] ++ (vx_atS RX5 162 "java/lang/IndexOutOfBoundsException" ["java/lang/RuntimeException", "java/lang/Exception"]).filter goodWord
def mm_tw_2 : List Cond := [.classLink RX5 190 "java/lang/IllegalArgumentException", .initialized "java/lang/IllegalArgumentException"] ++ (vx_atS RX5 194 "java/lang/IllegalArgumentException" ["java/lang/RuntimeException", "java/lang/Exception"]).filter goodWord
def mm_nsX : String := "java/util/NoSuchElementException"
/-- the words of a throw of it: as of the others, but its constructor calls by another index -/
def mm_nsA : List Cond := Bundle.throwableAtoms ++ Bundle.throwableSAtoms ++ (Bundle.passSAtoms mm_nsX "java/lang/RuntimeException" 13 prog_36_method_4_code ++ Bundle.chainSAtoms "java/lang/RuntimeException" ["java/lang/Exception"]) ++ [.methodLink RX5 261 (Bundle.initS mm_nsX), .instantiable mm_nsX 6, .castable mm_nsX mm_nsX, .selects mm_nsX Bundle.tFill0 Bundle.tFill0, .selects mm_nsX Bundle.tFill Bundle.tFill, .lays mm_nsX Bundle.tN "cause" "Ljava/lang/Throwable;", .lays mm_nsX Bundle.tN "stackTrace" Bundle.steD, .lays mm_nsX Bundle.tN "suppressedExceptions" Bundle.listD, .lays mm_nsX Bundle.tN "detailMessage" "Ljava/lang/String;", .isRef (.static Bundle.tN "UNASSIGNED_STACK" Bundle.steD), .isRef (.static Bundle.tN "SUPPRESSED_SENTINEL" Bundle.listD), .fieldLink Bundle.tN 198 Bundle.tN "backtrace" "Ljava/lang/Object;", .lays Bundle.tN Bundle.tN "backtrace" "Ljava/lang/Object;", .lays mm_nsX Bundle.tN "backtrace" "Ljava/lang/Object;"]
def mm_tw_3 : List Cond := [.classLink RX5 257 "java/util/NoSuchElementException", .initialized "java/util/NoSuchElementException"] ++ (mm_nsA.filter vx_no).filter goodWord
def mm_tw_4 : List Cond := [.classLink RX5 358 "java/lang/IllegalStateException", .initialized "java/lang/IllegalStateException"] ++ (vx_atS RX5 362 "java/lang/IllegalStateException" ["java/lang/RuntimeException", "java/lang/Exception"]).filter goodWord
def mm_tw_5 : List Cond := [.classLink RX5 425 "java/lang/ArithmeticException", .initialized "java/lang/ArithmeticException"] ++ (vx_atS RX5 429 "java/lang/ArithmeticException" ["java/lang/RuntimeException", "java/lang/Exception"]).filter goodWord
def mm_tw : List Cond := mm_tw_0 ++ (mm_tw_1 ++ (mm_tw_2 ++ (mm_tw_3 ++ (mm_tw_4 ++ (mm_tw_5)))))
def mm_W : List Cond := mm_cw ++ (mm_yw ++ (mm_xw ++ (mm_tw ++ (List.range 14).flatMap mm_lw)))
def mm_N : List Cond := (List.range 14).flatMap mm_ln
theorem mm_goodIn {big : List Cond} (ws : List Cond) (ps : List Nat) (hp : ws = ps.filterMap (fun i => big[i]?)) (h : ws.all goodWord = true) : GoodIn big ws := by
  intro w hw
  have h1 := List.all_eq_true.mp h w hw
  rw [hp] at hw
  obtain ⟨i, -, hi⟩ := List.mem_filterMap.mp hw
  exact ⟨List.mem_of_getElem? hi, good_of_word h1⟩
theorem mm_inIn {big : List Cond} (ws : List Cond) (ps : List Nat) (hp : ws = ps.filterMap (fun i => big[i]?)) : ∀ w ∈ ws, w ∈ big := by
  intro w hw
  rw [hp] at hw
  obtain ⟨i, -, hi⟩ := List.mem_filterMap.mp hw
  exact List.mem_of_getElem? hi
theorem mm_g_lw_0 : GoodIn mm_big (mm_lw 0) := mm_goodIn _ [132, 116, 133, 140, 143, 146, 136] (by decide +kernel) (by decide +kernel)
theorem mm_i_ln_0 : ∀ w ∈ mm_ln 0, w ∈ lw_tbl := mm_inIn _ [] (by decide +kernel)
theorem mm_g_lw_1 : GoodIn mm_big (mm_lw 1) := mm_goodIn _ [280, 116, 281, 282, 87, 283, 284, 87, 315, 317, 314, 318, 319, 419, 80, 1337, 1339, 11, 85, 1341, 1342, 85, 1353, 1355, 12, 85, 1357, 633, 634, 88, 1388, 1390, 13, 85, 1358, 722, 2085, 87, 1374, 1375, 1376, 87, 1359, 1360, 1361, 88, 1384, 1385, 85, 1401, 924, 925, 81, 1402, 971, 972, 81, 1403, 991, 992, 81, 1404, 1007, 1008, 81, 1405, 1028, 1029, 81, 1406, 1045, 1046, 81, 1407, 434, 435, 81, 1408, 1077, 1078, 81, 1414, 953, 954, 81, 1415, 980, 981, 81, 1416, 996, 997, 81, 1417, 1017, 1018, 81, 1418, 1033, 1034, 81, 1419, 1050, 1051, 81, 1420, 1066, 1067, 81, 1421, 1082, 1083, 81, 1422, 399, 400, 81] (by decide +kernel) (by decide +kernel)
theorem mm_i_ln_1 : ∀ w ∈ mm_ln 1, w ∈ lw_tbl := mm_inIn _ [1387] (by decide +kernel)
theorem mm_g_lw_2 : GoodIn mm_big (mm_lw 2) := mm_goodIn _ [165, 116, 166, 170, 174, 178, 181, 184, 187, 960, 396, 96, 397, 961, 582, 96, 583, 962, 426, 427, 83, 416, 80, 1299, 422, 423, 83] (by decide +kernel) (by decide +kernel)
theorem mm_i_ln_2 : ∀ w ∈ mm_ln 2, w ∈ lw_tbl := mm_inIn _ [415] (by decide +kernel)
theorem mm_g_lw_3 : GoodIn mm_big (mm_lw 3) := mm_goodIn _ [123, 116, 124, 128, 82, 205, 208, 126, 161, 83, 210, 213, 216, 218, 220, 222, 224, 226, 129, 130, 82, 163, 83, 384, 385, 386, 82, 388, 390, 389, 95, 391, 392, 393, 83, 419, 80, 438, 80, 441, 80, 928, 929, 930, 81, 956, 957, 958, 83, 974, 975, 976, 81, 416, 80, 1010, 1011, 1012, 81, 411, 412, 413, 83, 421, 422, 423, 83, 456, 457, 458, 83, 460, 461, 462, 83, 1036, 517, 518, 83, 406, 396, 96, 397, 1267, 1045, 1046, 81, 1053, 1055, 10, 81, 444, 445, 446, 81, 448, 449, 450, 81, 464, 465, 466, 81, 468, 469, 470, 81, 402, 403, 404, 83, 407, 409, 1, 81, 425, 426, 427, 83, 452, 453, 454, 81, 1295, 1296, 1297, 83] (by decide +kernel) (by decide +kernel)
theorem mm_i_ln_3 : ∀ w ∈ mm_ln 3, w ∈ lw_tbl := mm_inIn _ [162, 927, 437, 440, 182, 176, 1014, 188, 185, 139, 135, 148, 180, 142, 169, 173, 145] (by decide +kernel)
theorem mm_g_lw_4 : GoodIn mm_big (mm_lw 4) := mm_goodIn _ [255, 116, 258, 260, 261, 256, 263, 488, 498, 499, 500, 81, 502, 504, 4, 84, 506, 508, 5, 84, 510, 457, 458, 83, 511, 513, 6, 84, 515, 461, 462, 83, 516, 517, 518, 83, 493, 396, 96, 397, 489, 491, 3, 84, 1224, 495, 496, 84] (by decide +kernel) (by decide +kernel)
theorem mm_i_ln_4 : ∀ w ∈ mm_ln 4, w ∈ lw_tbl := mm_inIn _ [214, 211, 167, 171, 175, 206, 137] (by decide +kernel)
theorem mm_g_lw_5 : GoodIn mm_big (mm_lw 5) := mm_goodIn _ [115, 116, 118, 119, 81, 120, 121, 81, 332, 333, 334, 335, 336, 337, 338, 250, 251, 84, 253, 84, 339, 275, 276, 85, 278, 85, 340, 341, 342, 343, 330, 282, 87, 331, 284, 87, 344, 923, 924, 925, 81, 932, 934, 9, 80, 376, 378, 0, 80, 952, 953, 954, 81, 970, 971, 972, 81, 979, 980, 981, 81, 990, 991, 992, 81, 995, 996, 997, 81, 1006, 1007, 1008, 81, 1016, 1017, 1018, 81, 1027, 1028, 1029, 81, 1032, 1033, 1034, 81, 1044, 1045, 1046, 81, 1049, 1050, 1051, 81, 433, 434, 435, 81, 1065, 1066, 1067, 81, 1076, 1077, 1078, 81, 1081, 1082, 1083, 81, 398, 399, 400, 81, 1096, 416, 80, 1110, 465, 466, 81, 1111, 1112, 1113, 81, 1125, 438, 80, 1127, 453, 454, 81, 1128, 1129, 101, 1134, 445, 446, 81, 1143, 975, 976, 81, 1145, 422, 423, 83, 1155, 929, 930, 81, 1180, 517, 518, 83, 494, 495, 496, 84, 1188, 484, 485, 486, 84, 524, 525, 526, 84, 1220, 1221, 1222, 84, 418, 419, 80, 1241, 403, 404, 83, 395, 396, 96, 397, 380, 381, 382, 81, 1263, 1264, 1265, 81, 1291, 1292, 1293, 81, 480, 482, 2, 80, 520, 522, 7, 80, 528, 529, 530, 81, 532, 533, 534, 81, 910, 722, 2085, 87, 887, 888, 889, 87, 1333, 1334, 1335, 85, 544, 545, 546, 87, 1393, 1395, 14, 80, 1433, 1434, 80, 1436, 1437, 80, 909, 676, 677, 87, 1453, 412, 413, 83, 1462, 1375, 1376, 87, 1470, 1471, 1472, 81, 1499, 1500, 1501, 81, 1397, 1398, 1399, 85, 1409, 441, 80, 1410, 1411, 1412, 85, 443] (by decide +kernel) (by decide +kernel)
theorem mm_i_ln_5 : ∀ w ∈ mm_ln 5, w ∈ lw_tbl := mm_inIn _ [252, 277, 207, 134, 138, 141, 144, 147, 209, 212, 168, 172, 177, 179, 183, 186, 189, 259, 264, 262, 215, 219, 316, 320, 217, 221, 223, 225, 227] (by decide +kernel)
theorem mm_g_lw_6 : GoodIn mm_big (mm_lw 6) := mm_goodIn _ [1531, 116, 1532, 1533, 1534, 1535, 1536, 1537, 1538, 1539, 1540, 1541, 1542, 1543, 1544, 1545, 1546, 1547, 1548, 1549, 1550, 1551, 1552, 1553, 1554, 1555, 1556, 1557, 1660, 1662, 23, 90, 1623, 1624, 90, 1637, 1638, 90, 1716, 1717, 90, 1640, 1642, 18, 90, 1634, 1635, 90, 1684, 1686, 28, 90, 1652, 1654, 21, 90, 1648, 1650, 20, 90, 1630, 1632, 17, 90, 1644, 1646, 19, 90, 1668, 1670, 25, 90, 1619, 1621, 15, 90, 1626, 1628, 16, 90, 1656, 1658, 22, 90, 1664, 1666, 24, 90, 1672, 1674, 26, 90, 1680, 1682, 27, 90, 1688, 1690, 29, 90, 1696, 1698, 30, 90, 1700, 1702, 31, 90, 1712, 1714, 33, 90, 1723, 1725, 35, 90, 1708, 1710, 32, 90, 1719, 1721, 34, 90, 1735, 1737, 37, 90, 1739, 1741, 38, 90, 1743, 1745, 39, 90, 1747, 1749, 40, 90, 1755, 1757, 42, 90, 1759, 1761, 43, 90, 1731, 1733, 36, 90, 1751, 1753, 41, 90, 1775, 1777, 46, 90, 1767, 1769, 44, 90, 1771, 1773, 45, 90, 1787, 1789, 48, 90, 1791, 1793, 49, 90, 1795, 1797, 50, 90, 1799, 1801, 51, 90, 1783, 1785, 47, 90, 1803, 1805, 52, 90, 1811, 1813, 53, 90, 1815, 1817, 54, 90, 1834, 1836, 57, 90, 1827, 1828, 90, 1830, 1832, 56, 90, 1823, 1825, 55, 90, 1842, 1844, 58, 90, 1850, 1852, 59, 90, 1854, 1856, 60, 90, 1882, 1883, 1885, 63, 90, 1878, 1880, 62, 90, 1874, 1876, 61, 90, 1895, 1897, 64, 90, 1919, 1920, 90, 1915, 1917, 65, 90, 1934, 1936, 66, 90, 1958, 1960, 67, 90, 1996, 1998, 72, 90, 2004, 2006, 74, 90, 1989, 1990, 90, 1986, 1987, 90, 1982, 1984, 70, 90, 1992, 1994, 71, 90, 2000, 2002, 73, 90, 1978, 1980, 69, 90, 1974, 1976, 68, 90, 2008, 2010, 75, 90, 2028, 2030, 77, 90, 2024, 2026, 76, 90, 2048, 2050, 78, 90] (by decide +kernel) (by decide +kernel)
theorem mm_i_ln_6 : ∀ w ∈ mm_ln 6, w ∈ lw_tbl := mm_inIn _ [] (by decide +kernel)
theorem mm_g_lw_7 : GoodIn mm_big (mm_lw 7) := mm_goodIn _ [286, 287, 86, 891, 2084, 312, 892, 86, 679, 2082, 312, 680, 86, 1378, 2086, 312, 1379, 86, 548, 2074, 312, 549, 86, 724, 720, 312, 719, 86] (by decide +kernel) (by decide +kernel)
theorem mm_i_ln_7 : ∀ w ∈ mm_ln 7, w ∈ lw_tbl := mm_inIn _ [] (by decide +kernel)
theorem mm_g_lw_8 : GoodIn mm_big (mm_lw 8) := mm_goodIn _ [289, 116, 290, 299, 300, 588, 301, 303, 601, 603, 604, 602, 86, 570, 2077, 2107, 572, 86, 574, 2078, 2108, 576, 86, 589, 590, 105, 578, 579, 104, 1381, 396, 96, 397, 1382, 904, 88, 894, 895, 106, 682, 683, 101, 685, 686, 101] (by decide +kernel) (by decide +kernel)
theorem mm_i_ln_8 : ∀ w ∈ mm_ln 8, w ∈ lw_tbl := mm_inIn _ [] (by decide +kernel)
theorem mm_g_lw_9 : GoodIn mm_big (mm_lw 9) := mm_goodIn _ [688, 690, 1131, 1132, 1133] (by decide +kernel) (by decide +kernel)
theorem mm_i_ln_9 : ∀ w ∈ mm_ln 9, w ∈ lw_tbl := mm_inIn _ [] (by decide +kernel)
theorem mm_g_lw_10 : GoodIn mm_big (mm_lw 10) := mm_goodIn _ [] (by decide +kernel) (by decide +kernel)
theorem mm_i_ln_10 : ∀ w ∈ mm_ln 10, w ∈ lw_tbl := mm_inIn _ [] (by decide +kernel)
theorem mm_g_lw_11 : GoodIn mm_big (mm_lw 11) := mm_goodIn _ [600, 390, 389, 95, 599, 396, 96, 397] (by decide +kernel) (by decide +kernel)
theorem mm_i_ln_11 : ∀ w ∈ mm_ln 11, w ∈ lw_tbl := mm_inIn _ [] (by decide +kernel)
theorem mm_g_lw_12 : GoodIn mm_big (mm_lw 12) := mm_goodIn _ [581, 582, 96, 583, 584] (by decide +kernel) (by decide +kernel)
theorem mm_i_ln_12 : ∀ w ∈ mm_ln 12, w ∈ lw_tbl := mm_inIn _ [] (by decide +kernel)
theorem mm_g_lw_13 : GoodIn mm_big (mm_lw 13) := mm_goodIn _ [640, 618] (by decide +kernel) (by decide +kernel)
theorem mm_i_ln_13 : ∀ w ∈ mm_ln 13, w ∈ lw_tbl := mm_inIn _ [] (by decide +kernel)
theorem mm_g_cw_0 : GoodIn mm_big (mm_cw_0) := mm_goodIn _ [131, 387, 279, 1343, 1386, 1336, 1340, 1356, 1391, 1400, 1413, 164, 394, 959, 428, 414] (by decide +kernel) (by decide +kernel)
theorem mm_g_cw_1 : GoodIn mm_big (mm_cw_1) := mm_goodIn _ [459, 463, 424, 405, 519, 1298, 122, 383, 977, 926, 955, 973, 982, 993, 998, 1013] (by decide +kernel) (by decide +kernel)
theorem mm_g_cw_2 : GoodIn mm_big (mm_cw_2) := mm_goodIn _ [1009, 1019, 1030, 1035, 1047, 1266, 1052, 471, 436, 1068, 1079, 1084, 401, 410, 931, 455] (by decide +kernel) (by decide +kernel)
theorem mm_g_cw_3 : GoodIn mm_big (mm_cw_3) := mm_goodIn _ [451, 447, 467, 1114, 1473, 1502, 1294, 501, 531, 535, 254, 497, 505, 509, 514, 487] (by decide +kernel) (by decide +kernel)
theorem mm_g_cw_4 : GoodIn mm_big (mm_cw_4) := mm_goodIn _ [492, 527, 1223, 114, 922, 969, 989, 1005, 1026, 1043, 1063, 1075, 375, 1095, 1124, 1142] (by decide +kernel) (by decide +kernel)
theorem mm_g_cw_5 : GoodIn mm_big (mm_cw_5) := mm_goodIn _ [1154, 1178, 1187, 1196, 1203, 1212, 1219, 1232, 1239, 1248, 1255, 1262, 1274, 1282, 432, 475] (by decide +kernel) (by decide +kernel)
theorem mm_g_cw_6 : GoodIn mm_big (mm_cw_6) := mm_goodIn _ [1289, 479, 1308, 1332, 539, 1430, 1445, 1452, 543, 1460, 1469, 1495, 1509, 1516, 914, 1524] (by decide +kernel) (by decide +kernel)
theorem mm_g_cw_7 : GoodIn mm_big (mm_cw_7) := mm_goodIn _ [379, 935, 1396, 483, 523, 420, 417, 439, 442, 1438, 1435, 1530, 1614, 1639, 1625, 1663] (by decide +kernel) (by decide +kernel)
theorem mm_g_cw_8 : GoodIn mm_big (mm_cw_8) := mm_goodIn _ [1643, 1659, 1622, 1675, 1738, 1762, 1655, 1671, 1750, 1718, 1636, 1687, 1715, 1633, 1683, 1651] (by decide +kernel) (by decide +kernel)
theorem mm_g_cw_9 : GoodIn mm_big (mm_cw_9) := mm_goodIn _ [1647, 1742, 1746, 1629, 1667, 1618, 1691, 1679, 1699, 1703, 1695, 1726, 1711, 1722, 1707, 1758] (by decide +kernel) (by decide +kernel)
theorem mm_g_cw_10 : GoodIn mm_big (mm_cw_10) := mm_goodIn _ [1734, 1754, 1730, 1770, 1778, 1774, 1766, 1790, 1798, 1794, 1802, 1786, 1806, 1782, 1814, 1818] (by decide +kernel) (by decide +kernel)
theorem mm_g_cw_11 : GoodIn mm_big (mm_cw_11) := mm_goodIn _ [1810, 1837, 1833, 1829, 1826, 1822, 1845, 1841, 1853, 1857, 1849, 1861, 1865, 1869, 1886, 1881] (by decide +kernel) (by decide +kernel)
theorem mm_g_cw_12 : GoodIn mm_big (mm_cw_12) := mm_goodIn _ [1877, 1873, 1890, 1898, 1894, 1902, 1906, 1910, 1921, 1918, 1914, 1925, 1929, 1937, 1933, 1941] (by decide +kernel) (by decide +kernel)
theorem mm_g_cw_13 : GoodIn mm_big (mm_cw_13) := mm_goodIn _ [1945, 1949, 1953, 1961, 1957, 1965, 1969, 1999, 2007, 1995, 2003, 1991, 1988, 1985, 1981, 1977] (by decide +kernel) (by decide +kernel)
theorem mm_g_cw_14 : GoodIn mm_big (mm_cw_14) := mm_goodIn _ [2011, 1973, 2015, 2019, 2031, 2027, 2023, 2035, 2039, 2043, 2051, 2047, 2055, 2059, 2063, 2067] (by decide +kernel) (by decide +kernel)
theorem mm_g_cw_15 : GoodIn mm_big (mm_cw_15) := mm_goodIn _ [2071, 285, 890, 678, 1377, 547, 723, 288, 725, 573, 577, 550, 1380, 893, 681, 605] (by decide +kernel) (by decide +kernel)
theorem mm_g_cw_16 : GoodIn mm_big (mm_cw_16) := mm_goodIn _ [687, 684, 1130, 896, 591, 580, 635, 1362, 905, 1056] (by decide +kernel) (by decide +kernel)
theorem mm_goodApp {big a b : List Cond} (ha : GoodIn big a) (hb : GoodIn big b) : GoodIn big (a ++ b) := fun w h => (List.mem_append.mp h).elim (ha w) (hb w)
theorem mm_g_cw : GoodIn mm_big mm_cw := (mm_goodApp mm_g_cw_0 (mm_goodApp mm_g_cw_1 (mm_goodApp mm_g_cw_2 (mm_goodApp mm_g_cw_3 (mm_goodApp mm_g_cw_4 (mm_goodApp mm_g_cw_5 (mm_goodApp mm_g_cw_6 (mm_goodApp mm_g_cw_7 (mm_goodApp mm_g_cw_8 (mm_goodApp mm_g_cw_9 (mm_goodApp mm_g_cw_10 (mm_goodApp mm_g_cw_11 (mm_goodApp mm_g_cw_12 (mm_goodApp mm_g_cw_13 (mm_goodApp mm_g_cw_14 (mm_goodApp mm_g_cw_15 mm_g_cw_16))))))))))))))))
theorem mm_g_yw : GoodIn mm_big (mm_yw) := mm_goodIn _ [149, 151, 153, 155, 157, 321, 323, 325, 327, 190, 192, 194, 196, 198, 200, 202, 228, 230, 232, 234, 236, 238, 240, 242, 244, 246, 265, 267, 269, 271, 345, 347, 349, 351, 353, 355, 357, 359, 361, 363, 365, 367, 369, 1558, 1560, 1562, 1564, 1566, 1568, 1570, 1572, 1574, 1576, 1578, 1580, 1582, 1584, 1586, 1588, 1590, 1592, 1594, 1596, 1598, 1600, 1602, 1604, 1606, 1608, 304, 306, 308, 310] (by decide +kernel) (by decide +kernel)
theorem mm_g_xw : GoodIn mm_big mm_xw := mm_goodIn _ [117, 160, 274, 2072, 2073, 313, 639, 1366, 1369, 908, 826, 827, 636, 637, 638, 1363, 1364, 1365, 88, 1367, 1368, 1370, 904, 906, 907, 106, 107] (by decide +kernel) (by decide +kernel)
theorem mm_g_tw_0 : GoodIn mm_big mm_tw_0 := fun w hw => ⟨List.mem_append_left _ ((by decide +kernel : ∀ w ∈ mm_tw_0, w ∈ lw_tbl) w hw), good_of_word ((by decide +kernel : ∀ w ∈ mm_tw_0, goodWord w = true) w hw)⟩
theorem mm_g_tw_1 : GoodIn mm_big mm_tw_1 := fun w hw => ⟨List.mem_append_left _ ((by decide +kernel : ∀ w ∈ mm_tw_1, w ∈ lw_tbl) w hw), good_of_word ((by decide +kernel : ∀ w ∈ mm_tw_1, goodWord w = true) w hw)⟩
theorem mm_g_tw_2 : GoodIn mm_big mm_tw_2 := fun w hw => ⟨List.mem_append_left _ ((by decide +kernel : ∀ w ∈ mm_tw_2, w ∈ lw_tbl) w hw), good_of_word ((by decide +kernel : ∀ w ∈ mm_tw_2, goodWord w = true) w hw)⟩
theorem mm_g_tw_3 : GoodIn mm_big mm_tw_3 := fun w hw => ⟨List.mem_append_left _ ((by decide +kernel : ∀ w ∈ mm_tw_3, w ∈ lw_tbl) w hw), good_of_word ((by decide +kernel : ∀ w ∈ mm_tw_3, goodWord w = true) w hw)⟩
theorem mm_g_tw_4 : GoodIn mm_big mm_tw_4 := fun w hw => ⟨List.mem_append_left _ ((by decide +kernel : ∀ w ∈ mm_tw_4, w ∈ lw_tbl) w hw), good_of_word ((by decide +kernel : ∀ w ∈ mm_tw_4, goodWord w = true) w hw)⟩
theorem mm_g_tw_5 : GoodIn mm_big mm_tw_5 := fun w hw => ⟨List.mem_append_left _ ((by decide +kernel : ∀ w ∈ mm_tw_5, w ∈ lw_tbl) w hw), good_of_word ((by decide +kernel : ∀ w ∈ mm_tw_5, goodWord w = true) w hw)⟩
theorem mm_g_tw : GoodIn mm_big mm_tw := (mm_goodApp mm_g_tw_0 (mm_goodApp mm_g_tw_1 (mm_goodApp mm_g_tw_2 (mm_goodApp mm_g_tw_3 (mm_goodApp mm_g_tw_4 mm_g_tw_5)))))
theorem mm_g_all : ∀ o ∈ List.range 14, GoodIn mm_big (mm_lw o) := by
  intro o ho
  have h := List.mem_range.mp ho
  match o, h with
  | 0, _ => exact mm_g_lw_0
  | 1, _ => exact mm_g_lw_1
  | 2, _ => exact mm_g_lw_2
  | 3, _ => exact mm_g_lw_3
  | 4, _ => exact mm_g_lw_4
  | 5, _ => exact mm_g_lw_5
  | 6, _ => exact mm_g_lw_6
  | 7, _ => exact mm_g_lw_7
  | 8, _ => exact mm_g_lw_8
  | 9, _ => exact mm_g_lw_9
  | 10, _ => exact mm_g_lw_10
  | 11, _ => exact mm_g_lw_11
  | 12, _ => exact mm_g_lw_12
  | 13, _ => exact mm_g_lw_13
  | n + 14, h => exact absurd h (by omega)
theorem mm_good : GoodIn mm_big mm_W := by
  intro w hw
  rcases List.mem_append.mp hw with h | h
  · exact mm_g_cw w h
  rcases List.mem_append.mp h with h | h
  · exact mm_g_yw w h
  rcases List.mem_append.mp h with h | h
  · exact mm_g_xw w h
  rcases List.mem_append.mp h with h | h
  · exact mm_g_tw w h
  obtain ⟨o, ho, h⟩ := List.mem_flatMap.mp h
  exact mm_g_all o ho w h
theorem mm_nest : ∀ w ∈ mm_N, w ∈ lw_tbl := by
  intro w hw
  obtain ⟨o, ho, h⟩ := List.mem_flatMap.mp hw
  have h2 := List.mem_range.mp ho
  match o, h2, h with
  | 0, _, h => exact mm_i_ln_0 w h
  | 1, _, h => exact mm_i_ln_1 w h
  | 2, _, h => exact mm_i_ln_2 w h
  | 3, _, h => exact mm_i_ln_3 w h
  | 4, _, h => exact mm_i_ln_4 w h
  | 5, _, h => exact mm_i_ln_5 w h
  | 6, _, h => exact mm_i_ln_6 w h
  | 7, _, h => exact mm_i_ln_7 w h
  | 8, _, h => exact mm_i_ln_8 w h
  | 9, _, h => exact mm_i_ln_9 w h
  | 10, _, h => exact mm_i_ln_10 w h
  | 11, _, h => exact mm_i_ln_11 w h
  | 12, _, h => exact mm_i_ln_12 w h
  | 13, _, h => exact mm_i_ln_13 w h
  | n + 14, h2, _ => exact absurd h2 (by omega)
