-- the classes, by number; their names, fields, field types
abbrev vwCl : List vw_C := [(RX0, TX0, 11), (RX1, TX1, 8), (RX2, TX2, 9), (RX3, TX3, 4), (RX4, TX4, 3), (RX5, TX5, 13), (RX6, TX6, 6), (RX7, TX7, 8), (RX8, TX8, 11), (RX9, TX9, 17)]
def am_cn : Nat → String := fun k => match k with
  | 0 => RX0
  | 1 => RX1
  | 2 => RX2
  | 3 => RX3
  | 4 => RX4
  | 5 => RX5
  | 6 => RX6
  | 7 => RX7
  | 8 => RX8
  | 9 => RX9
  | _ => RJ9
def am_T : Nat → u_T := fun k => match k with
  | 0 => TX0
  | 1 => TX1
  | 2 => TX2
  | 3 => TX3
  | 4 => TX4
  | 5 => TX5
  | 6 => TX6
  | 7 => TX7
  | 8 => TX8
  | _ => TX9
def am_N : Nat → Nat := fun k => match k with
  | 0 => 11
  | 1 => 8
  | 2 => 9
  | 3 => 4
  | 4 => 3
  | 5 => 13
  | 6 => 6
  | 7 => 8
  | 8 => 11
  | _ => 17
def am_ty : Nat → (Nat → FieldType) := fun k => match k with
  | 0 => tyX0
  | 1 => tyX1
  | 2 => tyX2
  | 3 => tyX3
  | 4 => tyX4
  | 5 => tyX5
  | 6 => tyX6
  | 7 => tyX7
  | 8 => tyX8
  | _ => tyX9
-- the methods: name, bytes, locals, what is answered, class
def mX0_init : MethodName × ByteArray × Nat × Option FieldType × Nat := (yX0_init, cX0_init, 3, none, 0)
def mX0_setOut : MethodName × ByteArray × Nat × Option FieldType × Nat := (yX0_setOut, cX0_setOut, 3, (some (Jvm.ClassFile.FieldType.object "TentBearers$Camp")), 0)
def mX0_end : MethodName × ByteArray × Nat × Option FieldType × Nat := (yX0_end, cX0_end, 4, (some (Jvm.ClassFile.FieldType.object "TentBearers$Camp")), 0)
def mX0_findSpent : MethodName × ByteArray × Nat × Option FieldType × Nat := (yX0_findSpent, cX0_findSpent, 5, (some .boolean), 0)
def mX0_findOdds : MethodName × ByteArray × Nat × Option FieldType × Nat := (yX0_findOdds, cX0_findOdds, 5, none, 0)
def mX0_luckyWays : MethodName × ByteArray × Nat × Option FieldType × Nat := (yX0_luckyWays, cX0_luckyWays, 7, (some .long), 0)
def mX0_stepOn : MethodName × ByteArray × Nat × Option FieldType × Nat := (yX0_stepOn, cX0_stepOn, 3, none, 0)
def mX0_shorten : MethodName × ByteArray × Nat × Option FieldType × Nat := (yX0_shorten, cX0_shorten, 3, none, 0)
def mX0_findRow : MethodName × ByteArray × Nat × Option FieldType × Nat := (yX0_findRow, cX0_findRow, 5, none, 0)
def mX0_lowestRow : MethodName × ByteArray × Nat × Option FieldType × Nat := (yX0_lowestRow, cX0_lowestRow, 2, none, 0)
def mX0_followRow : MethodName × ByteArray × Nat × Option FieldType × Nat := (yX0_followRow, cX0_followRow, 7, (some .int), 0)
def mX0_toldAsTurned : MethodName × ByteArray × Nat × Option FieldType × Nat := (yX0_toldAsTurned, cX0_toldAsTurned, 5, (some .int), 0)
def mX0_judge : MethodName × ByteArray × Nat × Option FieldType × Nat := (yX0_judge, cX0_judge, 3, none, 0)
def mX0_nextRow : MethodName × ByteArray × Nat × Option FieldType × Nat := (yX0_nextRow, cX0_nextRow, 4, (some .int), 0)
def mX0_placeOfNextAbove : MethodName × ByteArray × Nat × Option FieldType × Nat := (yX0_placeOfNextAbove, cX0_placeOfNextAbove, 4, (some .int), 0)
def mX0_sortFrom : MethodName × ByteArray × Nat × Option FieldType × Nat := (yX0_sortFrom, cX0_sortFrom, 4, none, 0)
def mX0_swap : MethodName × ByteArray × Nat × Option FieldType × Nat := (yX0_swap, cX0_swap, 4, none, 0)
def mX0_stepBefore : MethodName × ByteArray × Nat × Option FieldType × Nat := (yX0_stepBefore, cX0_stepBefore, 4, (some .int), 0)
def mX1_init : MethodName × ByteArray × Nat × Option FieldType × Nat := (yX1_init, cX1_init, 2, none, 1)
def mX1_takes : MethodName × ByteArray × Nat × Option FieldType × Nat := (yX1_takes, cX1_takes, 4, (some .boolean), 1)
def mX1_findGifts : MethodName × ByteArray × Nat × Option FieldType × Nat := (yX1_findGifts, cX1_findGifts, 4, none, 1)
def mX1_isSo : MethodName × ByteArray × Nat × Option FieldType × Nat := (yX1_isSo, cX1_isSo, 3, (some .boolean), 1)
def mX2_init : MethodName × ByteArray × Nat × Option FieldType × Nat := (yX2_init, cX2_init, 2, none, 2)
def mX2_begin : MethodName × ByteArray × Nat × Option FieldType × Nat := (yX2_begin, cX2_begin, 2, none, 2)
def mX2_copyFrom : MethodName × ByteArray × Nat × Option FieldType × Nat := (yX2_copyFrom, cX2_copyFrom, 2, none, 2)
def mX2_isWet : MethodName × ByteArray × Nat × Option FieldType × Nat := (yX2_isWet, cX2_isWet, 2, (some .boolean), 2)
def mX2_isCarried : MethodName × ByteArray × Nat × Option FieldType × Nat := (yX2_isCarried, cX2_isCarried, 2, (some .boolean), 2)
def mX2_canBeGiven : MethodName × ByteArray × Nat × Option FieldType × Nat := (yX2_canBeGiven, cX2_canBeGiven, 3, (some .boolean), 2)
def mX2_isAtHut : MethodName × ByteArray × Nat × Option FieldType × Nat := (yX2_isAtHut, cX2_isAtHut, 1, (some .boolean), 2)
def mX2_hasStage : MethodName × ByteArray × Nat × Option FieldType × Nat := (yX2_hasStage, cX2_hasStage, 1, (some .boolean), 2)
def mX2_weight : MethodName × ByteArray × Nat × Option FieldType × Nat := (yX2_weight, cX2_weight, 2, (some .int), 2)
def mX2_load : MethodName × ByteArray × Nat × Option FieldType × Nat := (yX2_load, cX2_load, 4, (some .int), 2)
def mX2_thingsWith : MethodName × ByteArray × Nat × Option FieldType × Nat := (yX2_thingsWith, cX2_thingsWith, 4, (some .int), 2)
def mX2_leftOf : MethodName × ByteArray × Nat × Option FieldType × Nat := (yX2_leftOf, cX2_leftOf, 4, (some .int), 2)
def mX2_force : MethodName × ByteArray × Nat × Option FieldType × Nat := (yX2_force, cX2_force, 2, (some .int), 2)
def mX2_pace : MethodName × ByteArray × Nat × Option FieldType × Nat := (yX2_pace, cX2_pace, 3, (some .int), 2)
def mX2_minutesFor : MethodName × ByteArray × Nat × Option FieldType × Nat := (yX2_minutesFor, cX2_minutesFor, 5, (some .int), 2)
def mX2_slowest : MethodName × ByteArray × Nat × Option FieldType × Nat := (yX2_slowest, cX2_slowest, 4, (some .int), 2)
def mX2_spread : MethodName × ByteArray × Nat × Option FieldType × Nat := (yX2_spread, cX2_spread, 6, (some .int), 2)
def mX2_parted : MethodName × ByteArray × Nat × Option FieldType × Nat := (yX2_parted, cX2_parted, 4, (some .int), 2)
def mX2_pass : MethodName × ByteArray × Nat × Option FieldType × Nat := (yX2_pass, cX2_pass, 2, none, 2)
def mX2_march : MethodName × ByteArray × Nat × Option FieldType × Nat := (yX2_march, cX2_march, 5, none, 2)
def mX2_soak : MethodName × ByteArray × Nat × Option FieldType × Nat := (yX2_soak, cX2_soak, 2, none, 2)
def mX2_tire : MethodName × ByteArray × Nat × Option FieldType × Nat := (yX2_tire, cX2_tire, 3, none, 2)
def mX2_feed : MethodName × ByteArray × Nat × Option FieldType × Nat := (yX2_feed, cX2_feed, 8, (some .int), 2)
def mX2_settle : MethodName × ByteArray × Nat × Option FieldType × Nat := (yX2_settle, cX2_settle, 2, none, 2)
def mX3_init : MethodName × ByteArray × Nat × Option FieldType × Nat := (yX3_init, cX3_init, 3, none, 3)
def mX3_begin : MethodName × ByteArray × Nat × Option FieldType × Nat := (yX3_begin, cX3_begin, 1, none, 3)
def mX3_copyFrom : MethodName × ByteArray × Nat × Option FieldType × Nat := (yX3_copyFrom, cX3_copyFrom, 3, none, 3)
def mX3_remember : MethodName × ByteArray × Nat × Option FieldType × Nat := (yX3_remember, cX3_remember, 1, none, 3)
def mX3_takeBack : MethodName × ByteArray × Nat × Option FieldType × Nat := (yX3_takeBack, cX3_takeBack, 1, (some .boolean), 3)
def mX4_init : MethodName × ByteArray × Nat × Option FieldType × Nat := (yX4_init, cX4_init, 2, none, 4)
def mX4_readAll : MethodName × ByteArray × Nat × Option FieldType × Nat := (yX4_readAll, cX4_readAll, 3, (some .int), 4)
def mX4_readItem : MethodName × ByteArray × Nat × Option FieldType × Nat := (yX4_readItem, cX4_readItem, 2, none, 4)
def mX4_readWalker : MethodName × ByteArray × Nat × Option FieldType × Nat := (yX4_readWalker, cX4_readWalker, 2, none, 4)
def mX4_readThing : MethodName × ByteArray × Nat × Option FieldType × Nat := (yX4_readThing, cX4_readThing, 2, none, 4)
def mX4_readStage : MethodName × ByteArray × Nat × Option FieldType × Nat := (yX4_readStage, cX4_readStage, 2, none, 4)
def mX4_number : MethodName × ByteArray × Nat × Option FieldType × Nat := (yX4_number, cX4_number, 4, (some .int), 4)
def mX4_endItem : MethodName × ByteArray × Nat × Option FieldType × Nat := (yX4_endItem, cX4_endItem, 1, none, 4)
def mX5_init : MethodName × ByteArray × Nat × Option FieldType × Nat := (yX5_init, cX5_init, 1, none, 5)
def mX5_copyFrom : MethodName × ByteArray × Nat × Option FieldType × Nat := (yX5_copyFrom, cX5_copyFrom, 2, none, 5)
def mX5_rains : MethodName × ByteArray × Nat × Option FieldType × Nat := (yX5_rains, cX5_rains, 2, (some .boolean), 5)
def mX6_init : MethodName × ByteArray × Nat × Option FieldType × Nat := (yX6_init, cX6_init, 1, none, 6)
def mX6_takes : MethodName × ByteArray × Nat × Option FieldType × Nat := (yX6_takes, cX6_takes, 2, (some .boolean), 6)
def mX6_toFirstToken : MethodName × ByteArray × Nat × Option FieldType × Nat := (yX6_toFirstToken, cX6_toFirstToken, 1, none, 6)
def mX6_toNextToken : MethodName × ByteArray × Nat × Option FieldType × Nat := (yX6_toNextToken, cX6_toNextToken, 1, none, 6)
def mX6_readLetters : MethodName × ByteArray × Nat × Option FieldType × Nat := (yX6_readLetters, cX6_readLetters, 1, none, 6)
def mX6_readNumber : MethodName × ByteArray × Nat × Option FieldType × Nat := (yX6_readNumber, cX6_readNumber, 2, none, 6)
def mX6_isLetter : MethodName × ByteArray × Nat × Option FieldType × Nat := (yX6_isLetter, cX6_isLetter, 1, (some .boolean), 6)
def mX6_isDigit : MethodName × ByteArray × Nat × Option FieldType × Nat := (yX6_isDigit, cX6_isDigit, 1, (some .boolean), 6)
def mX7_init : MethodName × ByteArray × Nat × Option FieldType × Nat := (yX7_init, cX7_init, 2, none, 7)
def mX7_wake : MethodName × ByteArray × Nat × Option FieldType × Nat := (yX7_wake, cX7_wake, 2, (some .boolean), 7)
def mX7_findSoonest : MethodName × ByteArray × Nat × Option FieldType × Nat := (yX7_findSoonest, cX7_findSoonest, 4, (some .boolean), 7)
def mX7_place : MethodName × ByteArray × Nat × Option FieldType × Nat := (yX7_place, cX7_place, 6, none, 7)
def mX7_canBeBetter : MethodName × ByteArray × Nat × Option FieldType × Nat := (yX7_canBeBetter, cX7_canBeBetter, 3, (some .boolean), 7)
def mX7_judge : MethodName × ByteArray × Nat × Option FieldType × Nat := (yX7_judge, cX7_judge, 5, none, 7)
def mX7_bestGift : MethodName × ByteArray × Nat × Option FieldType × Nat := (yX7_bestGift, cX7_bestGift, 7, (some .int), 7)
def mX7_lightestSet : MethodName × ByteArray × Nat × Option FieldType × Nat := (yX7_lightestSet, cX7_lightestSet, 7, (some .int), 7)
def mX7_isQuickWithout : MethodName × ByteArray × Nat × Option FieldType × Nat := (yX7_isQuickWithout, cX7_isQuickWithout, 6, (some .boolean), 7)
def mX8_init : MethodName × ByteArray × Nat × Option FieldType × Nat := (yX8_init, cX8_init, 2, none, 8)
def mX8_type : MethodName × ByteArray × Nat × Option FieldType × Nat := (yX8_type, cX8_type, 2, (some .int), 8)
def mX8_clear : MethodName × ByteArray × Nat × Option FieldType × Nat := (yX8_clear, cX8_clear, 2, (some .int), 8)
def mX8_way : MethodName × ByteArray × Nat × Option FieldType × Nat := (yX8_way, cX8_way, 3, (some .int), 8)
def mX8_walker : MethodName × ByteArray × Nat × Option FieldType × Nat := (yX8_walker, cX8_walker, 3, (some .int), 8)
def mX8_thing : MethodName × ByteArray × Nat × Option FieldType × Nat := (yX8_thing, cX8_thing, 3, (some .int), 8)
def mX8_stage : MethodName × ByteArray × Nat × Option FieldType × Nat := (yX8_stage, cX8_stage, 3, (some .int), 8)
def mX8_gives : MethodName × ByteArray × Nat × Option FieldType × Nat := (yX8_gives, cX8_gives, 4, (some .int), 8)
def mX8_leaves : MethodName × ByteArray × Nat × Option FieldType × Nat := (yX8_leaves, cX8_leaves, 3, (some .int), 8)
def mX8_goes : MethodName × ByteArray × Nat × Option FieldType × Nat := (yX8_goes, cX8_goes, 2, (some .int), 8)
def mX8_undo : MethodName × ByteArray × Nat × Option FieldType × Nat := (yX8_undo, cX8_undo, 1, (some .int), 8)
def mX8_now : MethodName × ByteArray × Nat × Option FieldType × Nat := (yX8_now, cX8_now, 2, (some .int), 8)
def mX8_rest : MethodName × ByteArray × Nat × Option FieldType × Nat := (yX8_rest, cX8_rest, 3, (some .int), 8)
def mX8_spent : MethodName × ByteArray × Nat × Option FieldType × Nat := (yX8_spent, cX8_spent, 2, (some .int), 8)
def mX8_soonest : MethodName × ByteArray × Nat × Option FieldType × Nat := (yX8_soonest, cX8_soonest, 2, (some .int), 8)
def mX8_helps : MethodName × ByteArray × Nat × Option FieldType × Nat := (yX8_helps, cX8_helps, 1, (some .int), 8)
def mX8_leave : MethodName × ByteArray × Nat × Option FieldType × Nat := (yX8_leave, cX8_leave, 4, (some .int), 8)
def mX8_eat : MethodName × ByteArray × Nat × Option FieldType × Nat := (yX8_eat, cX8_eat, 2, (some .int), 8)
def mX8_truly : MethodName × ByteArray × Nat × Option FieldType × Nat := (yX8_truly, cX8_truly, 7, (some .int), 8)
def mX8_odds : MethodName × ByteArray × Nat × Option FieldType × Nat := (yX8_odds, cX8_odds, 4, (some .long), 8)
def mX8_book : MethodName × ByteArray × Nat × Option FieldType × Nat := (yX8_book, cX8_book, 4, (some .int), 8)
def mX8_burn : MethodName × ByteArray × Nat × Option FieldType × Nat := (yX8_burn, cX8_burn, 2, (some .int), 8)
def mX8_sacks : MethodName × ByteArray × Nat × Option FieldType × Nat := (yX8_sacks, cX8_sacks, 2, (some .int), 8)
def mX8_mark : MethodName × ByteArray × Nat × Option FieldType × Nat := (yX8_mark, cX8_mark, 3, (some .int), 8)
def mX8_keep : MethodName × ByteArray × Nat × Option FieldType × Nat := (yX8_keep, cX8_keep, 2, (some .int), 8)
def mX8_back : MethodName × ByteArray × Nat × Option FieldType × Nat := (yX8_back, cX8_back, 2, (some .int), 8)
def mX8_count : MethodName × ByteArray × Nat × Option FieldType × Nat := (yX8_count, cX8_count, 2, (some .int), 8)
def mX8_trace : MethodName × ByteArray × Nat × Option FieldType × Nat := (yX8_trace, cX8_trace, 1, (some .long), 8)
def mX8_asLoad : MethodName × ByteArray × Nat × Option FieldType × Nat := (yX8_asLoad, cX8_asLoad, 2, (some .int), 8)
def mX8_asHeavy : MethodName × ByteArray × Nat × Option FieldType × Nat := (yX8_asHeavy, cX8_asHeavy, 2, (some .int), 8)
def mX8_asLight : MethodName × ByteArray × Nat × Option FieldType × Nat := (yX8_asLight, cX8_asLight, 2, (some .int), 8)
def mX8_asDamp : MethodName × ByteArray × Nat × Option FieldType × Nat := (yX8_asDamp, cX8_asDamp, 2, (some .int), 8)
def mX8_asEaten : MethodName × ByteArray × Nat × Option FieldType × Nat := (yX8_asEaten, cX8_asEaten, 2, (some .int), 8)
def mX8_asSilent : MethodName × ByteArray × Nat × Option FieldType × Nat := (yX8_asSilent, cX8_asSilent, 2, (some .int), 8)
def mX8_isWalker : MethodName × ByteArray × Nat × Option FieldType × Nat := (yX8_isWalker, cX8_isWalker, 2, (some .boolean), 8)
def mX8_isThing : MethodName × ByteArray × Nat × Option FieldType × Nat := (yX8_isThing, cX8_isThing, 2, (some .boolean), 8)
def mX8_isLine : MethodName × ByteArray × Nat × Option FieldType × Nat := (yX8_isLine, cX8_isLine, 4, (some .boolean), 8)
def mX8_isEither : MethodName × ByteArray × Nat × Option FieldType × Nat := (yX8_isEither, cX8_isEither, 1, (some .boolean), 8)
def mX8_isWithin : MethodName × ByteArray × Nat × Option FieldType × Nat := (yX8_isWithin, cX8_isWithin, 3, (some .boolean), 8)
def mX9_init : MethodName × ByteArray × Nat × Option FieldType × Nat := (yX9_init, cX9_init, 1, none, 9)
def mX9_in : MethodName × ByteArray × Nat × Option FieldType × Nat := (yX9_in, cX9_in, 3, (some .boolean), 9)
def mX9_isWalker : MethodName × ByteArray × Nat × Option FieldType × Nat := (yX9_isWalker, cX9_isWalker, 2, (some .boolean), 9)
def mX9_isThing : MethodName × ByteArray × Nat × Option FieldType × Nat := (yX9_isThing, cX9_isThing, 2, (some .boolean), 9)
def mX9_type : MethodName × ByteArray × Nat × Option FieldType × Nat := (yX9_type, cX9_type, 2, (some .int), 9)
def mX9_clear : MethodName × ByteArray × Nat × Option FieldType × Nat := (yX9_clear, cX9_clear, 2, (some .int), 9)
def mX9_byteAt : MethodName × ByteArray × Nat × Option FieldType × Nat := (yX9_byteAt, cX9_byteAt, 2, (some .int), 9)
def mX9_isLetter : MethodName × ByteArray × Nat × Option FieldType × Nat := (yX9_isLetter, cX9_isLetter, 1, (some .boolean), 9)
def mX9_isDigit : MethodName × ByteArray × Nat × Option FieldType × Nat := (yX9_isDigit, cX9_isDigit, 1, (some .boolean), 9)
def mX9_token : MethodName × ByteArray × Nat × Option FieldType × Nat := (yX9_token, cX9_token, 2, none, 9)
def mX9_number : MethodName × ByteArray × Nat × Option FieldType × Nat := (yX9_number, cX9_number, 4, (some .boolean), 9)
def mX9_readsWalker : MethodName × ByteArray × Nat × Option FieldType × Nat := (yX9_readsWalker, cX9_readsWalker, 2, (some .boolean), 9)
def mX9_readsThing : MethodName × ByteArray × Nat × Option FieldType × Nat := (yX9_readsThing, cX9_readsThing, 2, (some .boolean), 9)
def mX9_readsStage : MethodName × ByteArray × Nat × Option FieldType × Nat := (yX9_readsStage, cX9_readsStage, 2, (some .boolean), 9)
def mX9_readsItem : MethodName × ByteArray × Nat × Option FieldType × Nat := (yX9_readsItem, cX9_readsItem, 2, (some .boolean), 9)
def mX9_reads : MethodName × ByteArray × Nat × Option FieldType × Nat := (yX9_reads, cX9_reads, 2, (some .boolean), 9)
def mX9_tells : MethodName × ByteArray × Nat × Option FieldType × Nat := (yX9_tells, cX9_tells, 2, none, 9)
def mX9_way : MethodName × ByteArray × Nat × Option FieldType × Nat := (yX9_way, cX9_way, 1, (some .int), 9)
def mX9_weighs : MethodName × ByteArray × Nat × Option FieldType × Nat := (yX9_weighs, cX9_weighs, 2, (some .int), 9)
def mX9_load : MethodName × ByteArray × Nat × Option FieldType × Nat := (yX9_load, cX9_load, 4, (some .int), 9)
def mX9_force : MethodName × ByteArray × Nat × Option FieldType × Nat := (yX9_force, cX9_force, 2, (some .int), 9)
def mX9_pace : MethodName × ByteArray × Nat × Option FieldType × Nat := (yX9_pace, cX9_pace, 4, (some .int), 9)
def mX9_takes : MethodName × ByteArray × Nat × Option FieldType × Nat := (yX9_takes, cX9_takes, 2, (some .int), 9)
def mX9_walker : MethodName × ByteArray × Nat × Option FieldType × Nat := (yX9_walker, cX9_walker, 5, (some .int), 9)
def mX9_thing : MethodName × ByteArray × Nat × Option FieldType × Nat := (yX9_thing, cX9_thing, 3, (some .int), 9)
def mX9_stage : MethodName × ByteArray × Nat × Option FieldType × Nat := (yX9_stage, cX9_stage, 3, (some .int), 9)
def mX9_keeps : MethodName × ByteArray × Nat × Option FieldType × Nat := (yX9_keeps, cX9_keeps, 3, none, 9)
def mX9_gives : MethodName × ByteArray × Nat × Option FieldType × Nat := (yX9_gives, cX9_gives, 4, (some .int), 9)
def mX9_isHut : MethodName × ByteArray × Nat × Option FieldType × Nat := (yX9_isHut, cX9_isHut, 1, (some .boolean), 9)
def mX9_leaves : MethodName × ByteArray × Nat × Option FieldType × Nat := (yX9_leaves, cX9_leaves, 3, (some .int), 9)
def mX9_rains : MethodName × ByteArray × Nat × Option FieldType × Nat := (yX9_rains, cX9_rains, 3, none, 9)
def mX9_slowest : MethodName × ByteArray × Nat × Option FieldType × Nat := (yX9_slowest, cX9_slowest, 5, (some .int), 9)
def mX9_plainOrder : MethodName × ByteArray × Nat × Option FieldType × Nat := (yX9_plainOrder, cX9_plainOrder, 2, none, 9)
def mX9_eats : MethodName × ByteArray × Nat × Option FieldType × Nat := (yX9_eats, cX9_eats, 6, none, 9)
def mX9_stageGoes : MethodName × ByteArray × Nat × Option FieldType × Nat := (yX9_stageGoes, cX9_stageGoes, 6, (some .int), 9)
def mX9_isStage : MethodName × ByteArray × Nat × Option FieldType × Nat := (yX9_isStage, cX9_isStage, 1, (some .boolean), 9)
def mX9_isRain : MethodName × ByteArray × Nat × Option FieldType × Nat := (yX9_isRain, cX9_isRain, 1, (some .boolean), 9)
def mX9_goes : MethodName × ByteArray × Nat × Option FieldType × Nat := (yX9_goes, cX9_goes, 1, (some .int), 9)
def mX9_undo : MethodName × ByteArray × Nat × Option FieldType × Nat := (yX9_undo, cX9_undo, 3, (some .int), 9)
def mX9_fair : MethodName × ByteArray × Nat × Option FieldType × Nat := (yX9_fair, cX9_fair, 6, (some .int), 9)
def mX9_parted : MethodName × ByteArray × Nat × Option FieldType × Nat := (yX9_parted, cX9_parted, 5, (some .int), 9)
def mX9_now : MethodName × ByteArray × Nat × Option FieldType × Nat := (yX9_now, cX9_now, 2, (some .int), 9)
def mX9_holds : MethodName × ByteArray × Nat × Option FieldType × Nat := (yX9_holds, cX9_holds, 2, none, 9)
def mX9_lets : MethodName × ByteArray × Nat × Option FieldType × Nat := (yX9_lets, cX9_lets, 2, none, 9)
def mX9_rest : MethodName × ByteArray × Nat × Option FieldType × Nat := (yX9_rest, cX9_rest, 3, (some .int), 9)
def mX9_spent : MethodName × ByteArray × Nat × Option FieldType × Nat := (yX9_spent, cX9_spent, 4, (some .int), 9)
def mX9_soonest : MethodName × ByteArray × Nat × Option FieldType × Nat := (yX9_soonest, cX9_soonest, 7, (some .int), 9)
def mX9_lays : MethodName × ByteArray × Nat × Option FieldType × Nat := (yX9_lays, cX9_lays, 4, none, 9)
def mX9_helps : MethodName × ByteArray × Nat × Option FieldType × Nat := (yX9_helps, cX9_helps, 8, (some .int), 9)
def mX9_leave : MethodName × ByteArray × Nat × Option FieldType × Nat := (yX9_leave, cX9_leave, 10, (some .int), 9)
def mX9_eat : MethodName × ByteArray × Nat × Option FieldType × Nat := (yX9_eat, cX9_eat, 12, (some .int), 9)
def mX9_ordered : MethodName × ByteArray × Nat × Option FieldType × Nat := (yX9_ordered, cX9_ordered, 11, (some .int), 9)
def mX9_truly : MethodName × ByteArray × Nat × Option FieldType × Nat := (yX9_truly, cX9_truly, 9, (some .int), 9)
def mX9_odds : MethodName × ByteArray × Nat × Option FieldType × Nat := (yX9_odds, cX9_odds, 15, (some .long), 9)
def mX9_book : MethodName × ByteArray × Nat × Option FieldType × Nat := (yX9_book, cX9_book, 4, (some .int), 9)
def mX9_burn : MethodName × ByteArray × Nat × Option FieldType × Nat := (yX9_burn, cX9_burn, 2, (some .int), 9)
def mX9_isSo : MethodName × ByteArray × Nat × Option FieldType × Nat := (yX9_isSo, cX9_isSo, 4, (some .boolean), 9)
def mX9_sacks : MethodName × ByteArray × Nat × Option FieldType × Nat := (yX9_sacks, cX9_sacks, 8, (some .int), 9)
def mX9_mark : MethodName × ByteArray × Nat × Option FieldType × Nat := (yX9_mark, cX9_mark, 6, (some .int), 9)
def mX9_keep : MethodName × ByteArray × Nat × Option FieldType × Nat := (yX9_keep, cX9_keep, 3, (some .int), 9)
def mX9_back : MethodName × ByteArray × Nat × Option FieldType × Nat := (yX9_back, cX9_back, 3, (some .int), 9)
def mX9_count : MethodName × ByteArray × Nat × Option FieldType × Nat := (yX9_count, cX9_count, 2, (some .int), 9)
def mX9_trace : MethodName × ByteArray × Nat × Option FieldType × Nat := (yX9_trace, cX9_trace, 1, (some .long), 9)
def am_ms : List (MethodName × ByteArray × Nat × Option FieldType × Nat) := [mX0_init, mX0_setOut, mX0_end, mX0_findSpent, mX0_findOdds, mX0_luckyWays, mX0_stepOn, mX0_shorten, mX0_findRow, mX0_lowestRow, mX0_followRow, mX0_toldAsTurned, mX0_judge, mX0_nextRow, mX0_placeOfNextAbove, mX0_sortFrom, mX0_swap, mX0_stepBefore, mX1_init, mX1_takes, mX1_findGifts, mX1_isSo, mX2_init, mX2_begin, mX2_copyFrom, mX2_isWet, mX2_isCarried, mX2_canBeGiven, mX2_isAtHut, mX2_hasStage, mX2_weight, mX2_load, mX2_thingsWith, mX2_leftOf, mX2_force, mX2_pace, mX2_minutesFor, mX2_slowest, mX2_spread, mX2_parted, mX2_pass, mX2_march, mX2_soak, mX2_tire, mX2_feed, mX2_settle, mX3_init, mX3_begin, mX3_copyFrom, mX3_remember, mX3_takeBack, mX4_init, mX4_readAll, mX4_readItem, mX4_readWalker, mX4_readThing, mX4_readStage, mX4_number, mX4_endItem, mX5_init, mX5_copyFrom, mX5_rains, mX6_init, mX6_takes, mX6_toFirstToken, mX6_toNextToken, mX6_readLetters, mX6_readNumber, mX6_isLetter, mX6_isDigit, mX7_init, mX7_wake, mX7_findSoonest, mX7_place, mX7_canBeBetter, mX7_judge, mX7_bestGift, mX7_lightestSet, mX7_isQuickWithout, mX8_init, mX8_type, mX8_clear, mX8_way, mX8_walker, mX8_thing, mX8_stage, mX8_gives, mX8_leaves, mX8_goes, mX8_undo, mX8_now, mX8_rest, mX8_spent, mX8_soonest, mX8_helps, mX8_leave, mX8_eat, mX8_truly, mX8_odds, mX8_book, mX8_burn, mX8_sacks, mX8_mark, mX8_keep, mX8_back, mX8_count, mX8_trace, mX8_asLoad, mX8_asHeavy, mX8_asLight, mX8_asDamp, mX8_asEaten, mX8_asSilent, mX8_isWalker, mX8_isThing, mX8_isLine, mX8_isEither, mX8_isWithin, mX9_init, mX9_in, mX9_isWalker, mX9_isThing, mX9_type, mX9_clear, mX9_byteAt, mX9_isLetter, mX9_isDigit, mX9_token, mX9_number, mX9_readsWalker, mX9_readsThing, mX9_readsStage, mX9_readsItem, mX9_reads, mX9_tells, mX9_way, mX9_weighs, mX9_load, mX9_force, mX9_pace, mX9_takes, mX9_walker, mX9_thing, mX9_stage, mX9_keeps, mX9_gives, mX9_isHut, mX9_leaves, mX9_rains, mX9_slowest, mX9_plainOrder, mX9_eats, mX9_stageGoes, mX9_isStage, mX9_isRain, mX9_goes, mX9_undo, mX9_fair, mX9_parted, mX9_now, mX9_holds, mX9_lets, mX9_rest, mX9_spent, mX9_soonest, mX9_lays, mX9_helps, mX9_leave, mX9_eat, mX9_ordered, mX9_truly, mX9_odds, mX9_book, mX9_burn, mX9_isSo, mX9_sacks, mX9_mark, mX9_keep, mX9_back, mX9_count, mX9_trace]
-- links: fields (class, entry, class, place, its word), calls (class, entry, kind, method, arguments, its words), classes, constants
def am_ftab : List (Nat × Nat × Nat × Nat × Nat) := [(6, 9, 6, 0, 95), (6, 15, 6, 1, 96), (8, 87, 6, 1, 97), (6, 19, 6, 2, 98), (4, 41, 6, 2, 99), (6, 22, 6, 3, 100), (8, 95, 6, 3, 101), (6, 25, 6, 4, 102), (6, 28, 6, 5, 103), (4, 47, 6, 5, 104), (5, 9, 5, 0, 125), (4, 26, 5, 0, 126), (1, 53, 5, 0, 127), (7, 81, 5, 0, 128), (0, 87, 5, 0, 129), (8, 243, 5, 0, 130), (2, 94, 5, 0, 131), (5, 15, 5, 1, 132), (4, 63, 5, 1, 133), (8, 113, 5, 1, 134), (2, 76, 5, 1, 135), (5, 19, 5, 2, 136), (4, 71, 5, 2, 137), (8, 117, 5, 2, 138), (2, 137, 5, 2, 139), (5, 22, 5, 3, 140), (4, 30, 5, 3, 141), (1, 48, 5, 3, 142), (7, 71, 5, 3, 143), (2, 69, 5, 3, 144), (0, 129, 5, 3, 145), (8, 240, 5, 3, 146), (5, 25, 5, 4, 147), (2, 50, 5, 4, 148), (4, 77, 5, 4, 149), (8, 139, 5, 4, 150), (5, 28, 5, 5, 151), (4, 80, 5, 5, 152), (8, 142, 5, 5, 153), (2, 66, 5, 5, 154), (5, 31, 5, 6, 155), (4, 83, 5, 6, 156), (8, 145, 5, 6, 157), (7, 131, 5, 6, 158), (0, 132, 5, 6, 159), (2, 140, 5, 6, 160), (5, 34, 5, 7, 161), (4, 86, 5, 7, 162), (8, 148, 5, 7, 163), (2, 106, 5, 7, 164), (5, 37, 5, 8, 165), (2, 41, 5, 8, 166), (4, 89, 5, 8, 167), (5, 40, 5, 9, 168), (4, 33, 5, 9, 169), (0, 71, 5, 9, 170), (8, 163, 5, 9, 171), (2, 57, 5, 9, 172), (5, 43, 5, 10, 173), (7, 64, 5, 10, 174), (4, 92, 5, 10, 175), (8, 166, 5, 10, 176), (2, 130, 5, 10, 177), (5, 46, 5, 11, 178), (4, 95, 5, 11, 179), (8, 168, 5, 11, 180), (5, 49, 5, 12, 181), (4, 98, 5, 12, 182), (2, 60, 5, 12, 183), (8, 171, 5, 12, 184), (4, 22, 4, 0, 220), (4, 12, 4, 1, 221), (8, 98, 4, 1, 222), (4, 18, 4, 2, 223), (2, 37, 2, 0, 244), (2, 9, 2, 1, 245), (7, 52, 2, 1, 246), (0, 68, 2, 1, 247), (8, 197, 2, 1, 248), (2, 15, 2, 2, 249), (0, 58, 2, 2, 250), (8, 194, 2, 2, 251), (2, 18, 2, 3, 252), (0, 61, 2, 3, 253), (8, 213, 2, 3, 254), (2, 21, 2, 4, 255), (8, 181, 2, 4, 256), (2, 24, 2, 5, 257), (2, 27, 2, 6, 258), (1, 55, 2, 6, 259), (7, 102, 2, 6, 260), (8, 151, 2, 6, 261), (2, 31, 2, 7, 262), (8, 154, 2, 7, 263), (0, 159, 2, 7, 264), (2, 34, 2, 8, 265), (8, 120, 2, 8, 266), (3, 27, 3, 0, 286), (8, 41, 3, 0, 287), (3, 11, 3, 1, 288), (3, 17, 3, 2, 289), (8, 210, 3, 2, 290), (3, 21, 3, 3, 291), (7, 31, 7, 0, 310), (7, 40, 7, 1, 311), (7, 9, 7, 2, 312), (7, 15, 7, 3, 313), (8, 249, 7, 3, 314), (7, 18, 7, 4, 315), (8, 252, 7, 4, 316), (7, 21, 7, 5, 317), (8, 255, 7, 5, 318), (7, 25, 7, 6, 319), (7, 28, 7, 7, 320), (0, 47, 0, 0, 347), (0, 11, 0, 1, 348), (0, 17, 0, 2, 349), (8, 234, 0, 2, 350), (0, 21, 0, 3, 351), (8, 237, 0, 3, 352), (0, 24, 0, 4, 353), (8, 290, 0, 4, 354), (0, 28, 0, 5, 355), (8, 293, 0, 5, 356), (0, 31, 0, 6, 357), (8, 273, 0, 6, 358), (0, 34, 0, 7, 359), (8, 276, 0, 7, 360), (0, 37, 0, 8, 361), (0, 41, 0, 9, 362), (0, 44, 0, 10, 363), (1, 31, 1, 0, 395), (1, 40, 1, 1, 396), (1, 9, 1, 2, 397), (8, 107, 1, 2, 398), (1, 15, 1, 3, 399), (1, 19, 1, 4, 400), (1, 22, 1, 5, 401), (1, 25, 1, 6, 402), (8, 301, 1, 6, 403), (1, 28, 1, 7, 404), (8, 304, 1, 7, 405), (8, 10, 8, 0, 423), (8, 19, 8, 1, 424), (8, 28, 8, 2, 425), (8, 37, 8, 3, 426), (8, 45, 8, 4, 427), (8, 46, 8, 5, 428), (8, 50, 8, 6, 429), (8, 57, 8, 7, 430), (8, 64, 8, 8, 431), (8, 71, 8, 9, 432), (8, 75, 8, 10, 433), (9, 180, 9, 0, 1002), (9, 7, 9, 1, 1003), (9, 52, 9, 2, 1004), (9, 13, 9, 3, 1005), (9, 16, 9, 4, 1006), (9, 19, 9, 5, 1007), (9, 22, 9, 6, 1008), (9, 25, 9, 7, 1009), (9, 29, 9, 8, 1010), (9, 97, 9, 9, 1011), (9, 56, 9, 10, 1012), (9, 73, 9, 11, 1013), (9, 63, 9, 12, 1014), (9, 76, 9, 13, 1015), (9, 32, 9, 14, 1016), (9, 35, 9, 15, 1017), (9, 38, 9, 16, 1018)]
def am_ctab : List (Nat × Nat × Nat × Nat × Nat × Nat × Nat × Nat) := [(8, 1, 5, 0, 0, 86, 0, 0), (8, 9, 4, 62, 0, 91, 92, 0), (6, 3, 5, 0, 0, 94, 0, 0), (8, 18, 4, 59, 0, 121, 122, 0), (5, 3, 5, 0, 0, 124, 0, 0), (8, 25, 2, 51, 1, 214, 215, 0), (4, 3, 5, 0, 0, 217, 0, 0), (4, 11, 4, 59, 0, 219, 122, 0), (8, 34, 2, 46, 1, 233, 234, 0), (3, 3, 5, 0, 0, 236, 0, 0), (3, 24, 2, 22, 1, 240, 241, 0), (2, 3, 5, 0, 0, 243, 0, 0), (8, 56, 2, 70, 1, 304, 305, 0), (7, 3, 5, 0, 0, 307, 0, 0), (7, 37, 2, 22, 1, 309, 241, 0), (8, 63, 2, 0, 1, 341, 342, 0), (0, 3, 5, 0, 0, 344, 0, 0), (0, 51, 2, 22, 1, 346, 241, 0), (8, 70, 2, 18, 1, 389, 390, 0), (1, 3, 5, 0, 0, 392, 0, 0), (1, 37, 2, 22, 1, 394, 241, 0), (8, 79, 1, 117, 3, 461, 462, 0), (8, 83, 0, 63, 1, 464, 465, 466), (8, 91, 0, 52, 0, 476, 477, 478), (4, 36, 0, 64, 0, 480, 481, 482), (6, 31, 0, 65, 0, 484, 485, 486), (6, 34, 1, 68, 1, 488, 489, 0), (6, 38, 0, 66, 0, 491, 493, 0), (6, 41, 1, 69, 1, 495, 496, 0), (6, 44, 0, 67, 0, 498, 500, 1), (4, 44, 0, 53, 0, 502, 504, 2), (4, 50, 0, 54, 1, 506, 508, 3), (4, 60, 0, 65, 0, 510, 485, 486), (4, 67, 0, 57, 2, 511, 513, 4), (4, 101, 3, 117, 3, 515, 462, 0), (4, 74, 0, 58, 0, 516, 518, 5), (4, 54, 0, 55, 1, 520, 522, 6), (4, 57, 0, 56, 1, 524, 526, 7), (8, 101, 0, 60, 1, 528, 529, 530), (5, 52, 6, 0, 5, 532, 0, 0), (8, 104, 0, 47, 0, 535, 536, 537), (3, 31, 0, 23, 0, 539, 540, 541), (2, 44, 6, 0, 5, 543, 0, 0), (8, 110, 0, 113, 1, 548, 550, 8), (8, 125, 0, 31, 1, 552, 553, 554), (2, 72, 0, 30, 1, 556, 557, 558), (2, 63, 0, 25, 1, 560, 561, 562), (8, 129, 0, 35, 2, 564, 565, 566), (2, 79, 0, 34, 1, 568, 569, 570), (2, 82, 8, 0, 2, 572, 0, 0), (2, 88, 7, 0, 2, 575, 0, 0), (8, 133, 0, 32, 1, 578, 579, 580), (8, 136, 0, 114, 1, 586, 588, 9), (8, 157, 0, 25, 1, 590, 561, 562), (8, 160, 0, 30, 1, 591, 557, 558), (8, 174, 0, 27, 2, 600, 601, 602), (2, 53, 0, 26, 1, 604, 605, 606), (8, 178, 0, 49, 0, 608, 609, 610), (3, 34, 0, 24, 1, 612, 613, 614), (3, 38, 8, 0, 2, 616, 0, 0), (8, 184, 0, 26, 1, 621, 605, 606), (8, 187, 0, 28, 0, 622, 623, 624), (8, 191, 0, 29, 0, 630, 631, 632), (8, 200, 0, 61, 1, 634, 635, 636), (8, 203, 0, 40, 1, 638, 639, 640), (2, 109, 0, 41, 1, 642, 643, 644), (2, 123, 0, 29, 0, 646, 631, 632), (2, 127, 0, 42, 0, 647, 648, 649), (2, 97, 0, 31, 1, 651, 553, 554), (2, 100, 0, 36, 3, 652, 653, 654), (2, 91, 0, 35, 2, 656, 565, 566), (2, 133, 0, 43, 2, 657, 659, 10), (2, 116, 0, 44, 2, 663, 664, 665), (2, 120, 0, 45, 1, 667, 668, 669), (8, 207, 0, 50, 0, 675, 676, 677), (8, 216, 0, 38, 1, 683, 684, 685), (8, 220, 0, 39, 0, 689, 690, 691), (8, 223, 1, 116, 1, 697, 698, 0), (8, 226, 0, 2, 1, 700, 701, 702), (0, 64, 0, 1, 1, 704, 706, 11), (0, 54, 0, 24, 1, 708, 613, 614), (0, 76, 0, 61, 1, 709, 635, 636), (0, 80, 0, 40, 1, 710, 639, 640), (8, 230, 0, 3, 1, 715, 716, 717), (0, 84, 0, 42, 0, 719, 648, 649), (0, 90, 0, 31, 1, 720, 553, 554), (0, 94, 0, 35, 2, 721, 565, 566), (8, 246, 0, 72, 1, 726, 727, 728), (7, 66, 0, 71, 1, 730, 732, 12), (7, 44, 0, 29, 0, 734, 631, 632), (7, 48, 0, 24, 1, 735, 613, 614), (7, 55, 0, 61, 1, 736, 635, 636), (7, 61, 0, 42, 0, 737, 648, 649), (7, 74, 0, 26, 1, 739, 605, 606), (7, 77, 0, 30, 1, 740, 557, 558), (7, 84, 0, 36, 3, 741, 653, 654), (7, 88, 7, 0, 2, 742, 0, 0), (7, 94, 0, 73, 2, 743, 745, 13), (7, 98, 0, 75, 1, 747, 749, 14), (7, 109, 8, 0, 2, 751, 0, 0), (7, 112, 6, 0, 5, 752, 0, 0), (7, 105, 0, 74, 2, 753, 755, 15), (8, 258, 0, 76, 1, 761, 762, 763), (7, 118, 0, 37, 1, 765, 766, 767), (7, 121, 0, 27, 2, 769, 601, 602), (8, 262, 0, 77, 2, 774, 775, 776), (7, 124, 0, 33, 1, 778, 779, 780), (7, 127, 0, 78, 3, 782, 784, 16), (8, 266, 0, 33, 1, 786, 779, 780), (8, 269, 0, 8, 1, 791, 792, 793), (0, 116, 0, 9, 0, 795, 797, 17), (0, 120, 0, 10, 1, 800, 802, 18), (0, 135, 8, 0, 2, 804, 0, 0), (0, 140, 0, 41, 1, 805, 643, 644), (0, 143, 0, 12, 1, 806, 808, 19), (0, 146, 0, 44, 2, 810, 664, 665), (0, 150, 7, 0, 2, 811, 0, 0), (0, 153, 0, 11, 1, 812, 814, 20), (0, 156, 0, 45, 1, 816, 668, 669), (0, 123, 0, 13, 1, 817, 819, 21), (0, 162, 0, 14, 1, 821, 823, 22), (0, 165, 0, 16, 2, 825, 827, 23), (0, 169, 0, 15, 1, 829, 831, 24), (0, 126, 0, 17, 1, 833, 835, 25), (8, 277, 0, 115, 3, 841, 843, 26), (8, 280, 0, 36, 3, 845, 653, 654), (8, 286, 0, 4, 3, 851, 852, 853), (0, 100, 0, 5, 3, 856, 858, 27), (0, 108, 0, 29, 0, 860, 631, 632), (0, 112, 0, 6, 2, 861, 863, 28), (0, 104, 0, 7, 1, 865, 867, 29), (8, 296, 0, 19, 3, 873, 874, 875), (8, 298, 0, 20, 1, 885, 886, 887), (1, 44, 0, 24, 1, 889, 613, 614), (1, 58, 0, 27, 2, 890, 601, 602), (1, 62, 0, 21, 0, 891, 893, 30), (1, 66, 0, 31, 1, 895, 553, 554), (1, 70, 0, 36, 3, 896, 653, 654), (8, 308, 0, 107, 1, 902, 904, 31), (8, 311, 0, 108, 1, 906, 908, 32), (8, 314, 0, 109, 1, 911, 913, 33), (8, 317, 0, 110, 1, 916, 918, 34), (8, 320, 0, 111, 1, 921, 923, 35), (8, 323, 0, 112, 1, 926, 928, 36), (8, 326, 0, 48, 1, 935, 936, 937), (9, 1, 5, 0, 0, 956, 0, 0), (9, 41, 0, 133, 0, 957, 959, 37), (9, 79, 0, 127, 0, 961, 963, 38), (9, 59, 0, 124, 1, 965, 967, 39), (9, 66, 1, 125, 1, 969, 970, 0), (9, 48, 1, 119, 3, 972, 973, 0), (9, 70, 1, 126, 1, 975, 976, 0), (9, 94, 0, 132, 0, 978, 980, 40), (9, 85, 0, 129, 0, 982, 984, 41), (9, 82, 0, 128, 3, 986, 988, 42), (9, 88, 0, 130, 0, 990, 992, 43), (9, 91, 0, 131, 0, 994, 996, 44), (9, 45, 0, 134, 0, 998, 1000, 45), (9, 106, 0, 120, 1, 1070, 1072, 46), (9, 109, 0, 137, 1, 1074, 1076, 47), (9, 100, 0, 136, 1, 1078, 1080, 48), (9, 112, 0, 139, 2, 1082, 1084, 49), (9, 103, 0, 138, 1, 1086, 1088, 50), (9, 116, 0, 121, 1, 1094, 1096, 51), (9, 119, 0, 144, 0, 1106, 1108, 52), (9, 122, 0, 146, 0, 1114, 1116, 53), (9, 138, 0, 153, 0, 1122, 1124, 54), (9, 141, 0, 150, 0, 1126, 1128, 55), (9, 144, 0, 154, 0, 1130, 1132, 56), (9, 147, 0, 152, 1, 1134, 1136, 57), (9, 128, 0, 148, 1, 1138, 1140, 58), (9, 132, 0, 149, 1, 1142, 1144, 59), (9, 125, 1, 140, 2, 1146, 1147, 0), (9, 135, 0, 151, 0, 1149, 1151, 60), (9, 151, 0, 157, 1, 1161, 1163, 61), (9, 154, 0, 158, 0, 1165, 1167, 62), (9, 158, 0, 160, 0, 1173, 1175, 63), (9, 161, 0, 161, 0, 1177, 1179, 64), (9, 164, 0, 165, 1, 1189, 1191, 65), (9, 168, 0, 169, 3, 1205, 1207, 66), (9, 176, 0, 174, 0, 1231, 1233, 67)]
def am_ntab : List (Nat × Nat × Nat × Nat × Nat × Nat) := [(8, 7, 6, 89, 90, 70), (8, 16, 5, 119, 120, 71), (8, 23, 4, 212, 213, 72), (4, 9, 5, 218, 120, 71), (8, 32, 3, 231, 232, 73), (3, 9, 2, 237, 239, 74), (8, 54, 7, 302, 303, 75), (7, 35, 2, 308, 239, 74), (8, 61, 0, 339, 340, 76), (0, 9, 2, 345, 239, 74), (8, 68, 1, 387, 388, 77), (1, 35, 2, 393, 239, 74)]
def am_ktab : List (Nat × Nat × Int32 × Nat) := [(2, 104, -1000000000, 687), (2, 105, 1000000000, 688), (7, 70, 1000000000, 738), (0, 119, 1000000000, 799), (8, 307, -1000000, 901), (9, 179, -1000000, 1239)]
def am_ltab : List (Nat × Nat × Int64 × Nat) := [(8, 284, -1, 850), (0, 98, 10, 855), (8, 329, 10, 910), (8, 331, 100, 915), (8, 333, 1000, 920), (8, 335, 10000, 925), (8, 337, 100000, 930), (9, 172, -1, 1217), (9, 174, 10, 1218), (9, 184, 11, 1240), (9, 186, 101, 1241), (9, 188, 1011, 1242), (9, 190, 10101, 1243), (9, 192, 100001, 1244)]
def am_fld (own idx : Nat) : Option (Nat × Nat) := (am_ftab.find? (fun e => e.1 == own && e.2.1 == idx)).map (fun e => (e.2.2.1, e.2.2.2.1))
def am_cal (own idx : Nat) : Option (Nat × Nat × Nat) := (am_ctab.find? (fun e => e.1 == own && e.2.1 == idx)).map (fun e => (e.2.2.1, e.2.2.2.1, e.2.2.2.2.1))
def am_cln (own idx : Nat) : Option Nat := (am_ntab.find? (fun e => e.1 == own && e.2.1 == idx)).map (fun e => e.2.2.1)
def am_kst (own idx : Nat) : Option Int32 := (am_ktab.find? (fun e => e.1 == own && e.2.1 == idx)).map (fun e => e.2.2.1)
def am_ksl (own idx : Nat) : Option Int64 := (am_ltab.find? (fun e => e.1 == own && e.2.1 == idx)).map (fun e => e.2.2.1)
def am_sta (own idx : Nat) : Bool := own == 2 && idx == 113
-- THE LITTLE MACHINE: a frame is (pc, locals, stack, heap); a heap is (its cells' shapes, its ints and longs by cell and place)
abbrev am_AC : Type := (Nat × List Value) ⊕ (Nat × Nat × List (Option Nat))
abbrev am_H : Type := List am_AC × am_G
abbrev am_F : Type := Nat × List (Nat × Value) × List Value × am_H
abbrev am_A : Type := am_F ⊕ (Option Value ⊕ (Nat × List Value × am_F))
abbrev am_M : Type := MethodName × ByteArray × Nat × Option FieldType × Nat
def am_keep (i : Nat) (q : Nat × Value) : Bool := !(q.1 == i) && !(q.1 + 1 == i && q.2.category == 2)
def am_keep2 (i : Nat) (q : Nat × Value) : Bool := !(q.1 == i) && (!(q.1 == i + 1) && !(q.1 + 1 == i && q.2.category == 2))
def am_ins (x : Nat × Value) : List (Nat × Value) → List (Nat × Value)
  | [] => [x]
  | q :: r => if x.1 ≤ q.1 then x :: q :: r else q :: am_ins x r
def am_set (i : Nat) (v : Value) (lo : List (Nat × Value)) : List (Nat × Value) := am_ins (i, v) (lo.filter (am_keep i))
def am_set2 (i : Nat) (v : Value) (lo : List (Nat × Value)) : List (Nat × Value) := am_ins (i, v) (lo.filter (am_keep2 i))
def am_get (lo : List (Nat × Value)) (i : Nat) : Option Value := (lo.find? (fun q => q.1 == i)).map (fun q => q.2)
def am_ci (c : Jvm.ClassFile.Cond) (x y : Int32) : Bool := match c with
  | .eq => decide (x = y)
  | .ne => !decide (x = y)
  | .lt => decide (x < y)
  | .ge => decide (y ≤ x)
  | .gt => decide (y < x)
  | .le => decide (x ≤ y)
def am_jmp (pc : Nat) (off : Int) (lo : List (Nat × Value)) (st : List Value) (h : am_H) : Option am_A :=
  if (pc : Int) + off < 0 then none else some (.inl (((pc : Int) + off).toNat, lo, st, h))
/-- reading a field -/
def am_gf (h : am_H) (a ci k : Nat) : Option Value := match h.1[a]? with
  | some (.inl (cj, fs)) => if cj = ci then (match fs[k]? with
    | some (.int _) => some (.int (h.2.1 a k))
    | some (.long _) => some (.long (h.2.2 a k))
    | some (.ref b) => some (.ref b)
    | _ => none) else none
  | _ => none
/-- writing a field; ini: in a constructor of that class -/
def am_pf (h : am_H) (ini : Bool) (a ci k : Nat) (v : Value) : Option am_H := match h.1[a]? with
  | some (.inl (cj, fs)) => if cj = ci then (match fs[k]?, v with
    | some (.int _), .int x => if (am_T ci k).2.2.2 = false ∧ (am_ty ci k = .int ∨ am_ty ci k = .boolean ∧ (x = 0 ∨ x = 1)) then some (h.1, am_wr h.2 a k x) else none
    | some (.long _), .long x => if (am_T ci k).2.2.2 = false ∧ am_ty ci k = .long then some (h.1, am_wL h.2 a k x) else none
    | some .null, .ref b => if ini = true ∧ (am_T ci k).2.2.2 = true ∧ fits (am_ty ci k) .null = true ∧ b ≠ am_ext then some (h.1.set a (.inl (ci, fs.set k (.ref b))), h.2) else none
    | _, _ => none) else none
  | _ => none
/-- reading an array of ints (kind 0) or booleans (kind 1) -/
def am_al (h : am_H) (ak a : Nat) (i : Int32) : Option Int32 :=
  if a = am_ext then (if ak = 0 ∧ am_in i 7 = true then some (nI i.toNatClampNeg) else none) else match h.1[a]? with
  | some (.inr (bk, n, _)) => if bk = ak ∧ am_in i n = true then some (h.2.1 a i.toNatClampNeg) else none
  | _ => none
def am_as (h : am_H) (ak a : Nat) (i x : Int32) : Option am_H :=
  if a = am_ext then none else match h.1[a]? with
  | some (.inr (bk, n, _)) => if bk = ak ∧ am_in i n = true then some (h.1, am_wr h.2 a i.toNatClampNeg (if ak = 1 then x &&& 1 else x)) else none
  | _ => none
def am_rl (h : am_H) (a : Nat) (i : Int32) : Option Value :=
  if a = am_ext then none else match h.1[a]? with
  | some (.inr (bk, n, rs)) => if (bk = 2 ∨ bk = 3) ∧ am_in i n = true then (match rs[i.toNatClampNeg]? with
    | some (some b) => if b = am_ext then none else some (.ref b)
    | _ => none) else none
  | _ => none
def am_rs (h : am_H) (a : Nat) (i : Int32) (b : Nat) : Option am_H :=
  if a = am_ext ∨ b = am_ext then none else match h.1[a]?, h.1[b]? with
  | some (.inr (bk, n, rs)), some (.inl (ci, _)) => if (bk = 2 ∨ bk = 3) ∧ bk = ci ∧ rs.length = n ∧ am_in i n = true then some (h.1.set a (.inr (bk, n, rs.set i.toNatClampNeg (some b))), h.2) else none
  | _, _ => none
def am_def (ci : Nat) : List Value := (List.range (am_N ci)).map (fun k => defaultValue (am_ty ci k))
def am_cw (r : List Value) : Nat := (r.map fun v => v.category).sum
def am_ri (rt : Option FieldType) (st : List Value) : Option (Option Value) := match rt, st with
  | some .int, [.int v] => some (some (.int v))
  | some .boolean, [.int v] => if v = 0 ∨ v = 1 then some (some (.int v)) else none
  | _, _ => none
def am_rL (rt : Option FieldType) (st : List Value) : Option (Option Value) := match rt, st with
  | some .long, [.long v] => some (some (.long v))
  | _, _ => none
def am_rA (rt : Option FieldType) (st : List Value) : Option (Option Value) := match rt, st with
  | some (.object _), [.ref b] => if b = am_ext then none else some (some (.ref b))
  | _, _ => none
def am_bi (op : Int32 → Int32 → Int32) (pc : Nat) (lo : List (Nat × Value)) (st : List Value) (h : am_H) : Option am_A := match st with
  | .int y :: .int x :: r => some (.inl (pc + 1, lo, .int (op x y) :: r, h))
  | _ => none
def am_bl (op : Int64 → Int64 → Int64) (pc : Nat) (lo : List (Nat × Value)) (st : List Value) (h : am_H) : Option am_A := match st with
  | .long y :: .long x :: r => some (.inl (pc + 1, lo, .long (op x y) :: r, h))
  | _ => none
def am_bz (op : Int32 → Int32 → Int32) (pc : Nat) (lo : List (Nat × Value)) (st : List Value) (h : am_H) : Option am_A := match st with
  | .int y :: .int x :: r => if y = 0 then none else some (.inl (pc + 1, lo, .int (op x y) :: r, h))
  | _ => none
def am_blz (op : Int64 → Int64 → Int64) (pc : Nat) (lo : List (Nat × Value)) (st : List Value) (h : am_H) : Option am_A := match st with
  | .long y :: .long x :: r => if y = 0 then none else some (.inl (pc + 1, lo, .long (op x y) :: r, h))
  | _ => none
def am_li (k len pc : Nat) (lo : List (Nat × Value)) (st : List Value) (h : am_H) : Option am_A := match am_get lo k with
  | some (.int x) => some (.inl (pc + len, lo, .int x :: st, h))
  | _ => none
def am_ll (k len pc : Nat) (lo : List (Nat × Value)) (st : List Value) (h : am_H) : Option am_A := match am_get lo k with
  | some (.long x) => some (.inl (pc + len, lo, .long x :: st, h))
  | _ => none
def am_la (k len pc : Nat) (lo : List (Nat × Value)) (st : List Value) (h : am_H) : Option am_A := match am_get lo k with
  | some (.ref x) => some (.inl (pc + len, lo, .ref x :: st, h))
  | _ => none
def am_si (nL k len pc : Nat) (lo : List (Nat × Value)) (st : List Value) (h : am_H) : Option am_A := match st with
  | .int x :: r => if k < nL then some (.inl (pc + len, am_set k (.int x) lo, r, h)) else none
  | _ => none
def am_sl (nL k len pc : Nat) (lo : List (Nat × Value)) (st : List Value) (h : am_H) : Option am_A := match st with
  | .long x :: r => if k + 1 < nL then some (.inl (pc + len, am_set2 k (.long x) lo, r, h)) else none
  | _ => none
def am_sa (nL k len pc : Nat) (lo : List (Nat × Value)) (st : List Value) (h : am_H) : Option am_A := match st with
  | .ref x :: r => if k < nL then some (.inl (pc + len, am_set k (.ref x) lo, r, h)) else none
  | _ => none
def am_tsw (pc : Nat) (lo : List (Nat × Value)) (dflt l hi : Int) (offs : Array Int) (x : Int32) (r : List Value) (h : am_H) : Option am_A :=
  if x.toInt < l ∨ hi < x.toInt then am_jmp pc dflt lo r h else match offs[(x.toInt - l).toNat]? with
  | some off => am_jmp pc off lo r h
  | none => none
/-- a call: virtual (0), static (1, 3 of a nest mate), constructor (2, 4 of a nest mate) -/
def am_iv (own idx pc : Nat) (lo : List (Nat × Value)) (st : List Value) (h : am_H) : Option am_A := match am_cal own idx with
  | some (0, z, n) => (match st.drop n with
    | .ref b :: r => (match h.1[b]?, am_ms[z]? with
      | some (.inl (cb, _)), some ζ => if b ≠ am_ext ∧ cb = ζ.2.2.2.2 ∧ cb < 10 ∧ am_cw r ≤ 8 ∧ n ≤ st.length then some (.inr (.inr (z, .ref b :: (st.take n).reverse, (pc + 3, lo, r, h)))) else none
      | _, _ => none)
    | _ => none)
  | _ => none
def am_is (own idx pc : Nat) (lo : List (Nat × Value)) (st : List Value) (h : am_H) : Option am_A := match am_cal own idx with
  | some (6, _, _) => (match st with
    | .int n :: .int dp :: .ref b :: .int sp :: .ref a :: r => if a = am_ext ∨ b = am_ext then none else (match h.1[a]?, h.1[b]? with
      | some (.inr (0, n0, _)), some (.inr (0, n1, _)) => if ¬ sp < 0 ∧ ¬ dp < 0 ∧ ¬ n < 0 ∧ sp.toNatClampNeg + n.toNatClampNeg ≤ n0 ∧ dp.toNatClampNeg + n.toNatClampNeg ≤ n1 ∧ am_cw r ≤ 8
          then some (.inl (pc + 3, lo, r, (h.1, am_cp h.2 a b sp.toNatClampNeg dp.toNatClampNeg n.toNatClampNeg))) else none
      | _, _ => none)
    | _ => none)
  | some (7, _, _) => (match st with
    | .int y :: .int x :: r => if am_cw r ≤ 8 then some (.inl (pc + 3, lo, .int (if x < y then y else x) :: r, h)) else none
    | _ => none)
  | some (8, _, _) => (match st with
    | .int y :: .int x :: r => if am_cw r ≤ 8 then some (.inl (pc + 3, lo, .int (if y < x then y else x) :: r, h)) else none
    | _ => none)
  | some (kd, z, n) => if (kd = 1 ∨ kd = 3) ∧ am_cw (st.drop n) ≤ 8 ∧ n ≤ st.length then some (.inr (.inr (z, (st.take n).reverse, (pc + 3, lo, st.drop n, h)))) else none
  | _ => none
def am_ii (own idx pc : Nat) (lo : List (Nat × Value)) (st : List Value) (h : am_H) : Option am_A := match am_cal own idx with
  | some (5, _, _) => (match st with
    | .ref _ :: r => if am_cw r ≤ 8 then some (.inl (pc + 3, lo, r, h)) else none
    | _ => none)
  | some (kd, z, n) => (match st.drop n with
    | .ref b :: r => if (kd = 2 ∨ kd = 4) ∧ b ≠ am_ext ∧ am_cw r ≤ 8 ∧ n ≤ st.length then some (.inr (.inr (z, .ref b :: (st.take n).reverse, (pc + 3, lo, r, h)))) else none
    | _ => none)
  | _ => none
def am_new (h : am_H) (ci : Nat) : am_H := (h.1 ++ [.inl (ci, am_def ci)], am_z h.2 h.1.length)
def am_nwa (h : am_H) (bk : Nat) (n : Nat) (rs : List (Option Nat)) : am_H := (h.1 ++ [.inr (bk, n, rs)], am_z h.2 h.1.length)
def am_ex (μ : am_M) (i : Instr) (pc : Nat) (lo : List (Nat × Value)) (st : List Value) (h : am_H) : Option am_A := match i with
  | .aload_n k => am_la k.val 1 pc lo st h
  | .aload k => am_la k 2 pc lo st h
  | .iload_n k => am_li k.val 1 pc lo st h
  | .iload k => am_li k 2 pc lo st h
  | .lload_n k => am_ll k.val 1 pc lo st h
  | .lload k => am_ll k 2 pc lo st h
  | .istore_n k => am_si μ.2.2.1 k.val 1 pc lo st h
  | .istore k => am_si μ.2.2.1 k 2 pc lo st h
  | .lstore_n k => am_sl μ.2.2.1 k.val 1 pc lo st h
  | .lstore k => am_sl μ.2.2.1 k 2 pc lo st h
  | .astore_n k => am_sa μ.2.2.1 k.val 1 pc lo st h
  | .astore k => am_sa μ.2.2.1 k 2 pc lo st h
  | .iinc k n => (match am_get lo k with
    | some (.int x) => if k < μ.2.2.1 then some (.inl (pc + 3, am_set k (.int (x + Int32.ofInt n)) lo, st, h)) else none
    | _ => none)
  | .iconst n => some (.inl (pc + 1, lo, .int (Int32.ofInt n) :: st, h))
  | .bipush n => some (.inl (pc + 2, lo, .int (Int8.ofInt n).toInt32 :: st, h))
  | .sipush n => some (.inl (pc + 3, lo, .int (Int16.ofInt n).toInt32 :: st, h))
  | .lconst n => some (.inl (pc + 1, lo, .long (Int64.ofNat n.val) :: st, h))
  | .ldc k => (match am_kst μ.2.2.2.2 k with
    | some v => some (.inl (pc + 2, lo, .int v :: st, h))
    | none => none)
  | .ldc_w k => (match am_kst μ.2.2.2.2 k with
    | some v => some (.inl (pc + 3, lo, .int v :: st, h))
    | none => none)
  | .ldc2_w k => (match am_ksl μ.2.2.2.2 k with
    | some v => some (.inl (pc + 3, lo, .long v :: st, h))
    | none => none)
  | .iadd => am_bi (fun x y => x + y) pc lo st h
  | .isub => am_bi (fun x y => x - y) pc lo st h
  | .imul => am_bi (fun x y => x * y) pc lo st h
  | .iand => am_bi (fun x y => x &&& y) pc lo st h
  | .ior => am_bi (fun x y => x ||| y) pc lo st h
  | .ishl => am_bi (fun x y => x <<< (y &&& 31)) pc lo st h
  | .ishr => am_bi (fun x y => x >>> (y &&& 31)) pc lo st h
  | .idiv => am_bz (fun x y => x / y) pc lo st h
  | .irem => am_bz (fun x y => x - x / y * y) pc lo st h
  | .ladd => am_bl (fun x y => x + y) pc lo st h
  | .lmul => am_bl (fun x y => x * y) pc lo st h
  | .ldiv => am_blz (fun x y => x / y) pc lo st h
  | .lrem => am_blz (fun x y => x - x / y * y) pc lo st h
  | .lcmp => (match st with
    | .long y :: .long x :: r => some (.inl (pc + 1, lo, .int (lg_cmp x y) :: r, h))
    | _ => none)
  | .i2l => (match st with
    | .int x :: r => some (.inl (pc + 1, lo, .long x.toInt64 :: r, h))
    | _ => none)
  | .dup => (match st with
    | v :: r => if v.category = 1 then some (.inl (pc + 1, lo, v :: v :: r, h)) else none
    | _ => none)
  | .dup2 => (match st with
    | v :: w :: r => if v.category = 1 ∧ w.category = 1 then some (.inl (pc + 1, lo, v :: w :: v :: w :: r, h)) else none
    | _ => none)
  | .pop => (match st with
    | v :: r => if v.category = 1 then some (.inl (pc + 1, lo, r, h)) else none
    | _ => none)
  | .goto off => am_jmp pc off lo st h
  | .ifCond c off => (match st with
    | .int x :: r => if (pc : Int) + off < 0 then none else if am_ci c x 0 = true then some (.inl (((pc : Int) + off).toNat, lo, r, h)) else some (.inl (pc + 3, lo, r, h))
    | _ => none)
  | .if_icmp c off => (match st with
    | .int y :: .int x :: r => if (pc : Int) + off < 0 then none else if am_ci c x y = true then some (.inl (((pc : Int) + off).toNat, lo, r, h)) else some (.inl (pc + 3, lo, r, h))
    | _ => none)
  | .tableswitch dflt l hi offs => (match st with
    | .int x :: r => am_tsw pc lo dflt l hi offs x r h
    | _ => none)
  | .getfield k => (match st, am_fld μ.2.2.2.2 k with
    | .ref a :: r, some (ci, j) => if a = am_ext then none else (match am_gf h a ci j with
      | some v => some (.inl (pc + 3, lo, v :: r, h))
      | none => none)
    | _, _ => none)
  | .putfield k => (match st, am_fld μ.2.2.2.2 k with
    | v :: .ref a :: r, some (ci, j) => if a = am_ext then none else (match am_pf h (decide (μ.1.name = "<init>") && decide (ci = μ.2.2.2.2)) a ci j v with
      | some h' => some (.inl (pc + 3, lo, r, h'))
      | none => none)
    | _, _ => none)
  | .getstatic k => if am_sta μ.2.2.2.2 k = true then some (.inl (pc + 3, lo, .ref am_ext :: st, h)) else none
  | .iaload => (match st with
    | .int i :: .ref a :: r => (match am_al h 0 a i with
      | some v => some (.inl (pc + 1, lo, .int v :: r, h))
      | none => none)
    | _ => none)
  | .baload => (match st with
    | .int i :: .ref a :: r => (match am_al h 1 a i with
      | some v => some (.inl (pc + 1, lo, .int v :: r, h))
      | none => none)
    | _ => none)
  | .iastore => (match st with
    | .int x :: .int i :: .ref a :: r => (match am_as h 0 a i x with
      | some h' => some (.inl (pc + 1, lo, r, h'))
      | none => none)
    | _ => none)
  | .bastore => (match st with
    | .int x :: .int i :: .ref a :: r => (match am_as h 1 a i x with
      | some h' => some (.inl (pc + 1, lo, r, h'))
      | none => none)
    | _ => none)
  | .aaload => (match st with
    | .int i :: .ref a :: r => (match am_rl h a i with
      | some v => some (.inl (pc + 1, lo, v :: r, h))
      | none => none)
    | _ => none)
  | .aastore => (match st with
    | .ref b :: .int i :: .ref a :: r => (match am_rs h a i b with
      | some h' => some (.inl (pc + 1, lo, r, h'))
      | none => none)
    | _ => none)
  | .new k => (match am_cln μ.2.2.2.2 k with
    | some ci => some (.inl (pc + 3, lo, .ref h.1.length :: st, am_new h ci))
    | none => none)
  | .newarray ty => (match st, ty with
    | .int n :: r, .int => if n < 0 ∨ 1000 < n.toNatClampNeg then none else some (.inl (pc + 2, lo, .ref h.1.length :: r, am_nwa h 0 n.toNatClampNeg []))
    | .int n :: r, .boolean => if n < 0 ∨ 1000 < n.toNatClampNeg then none else some (.inl (pc + 2, lo, .ref h.1.length :: r, am_nwa h 1 n.toNatClampNeg []))
    | _, _ => none)
  | .anewarray k => (match st, am_cln μ.2.2.2.2 k with
    | .int n :: r, some ci => if n < 0 ∨ 1000 < n.toNatClampNeg ∨ ¬ (ci = 2 ∨ ci = 3) then none else some (.inl (pc + 3, lo, .ref h.1.length :: r, am_nwa h ci n.toNatClampNeg (List.replicate n.toNatClampNeg none)))
    | _, _ => none)
  | .invokevirtual k => am_iv μ.2.2.2.2 k pc lo st h
  | .invokestatic k => am_is μ.2.2.2.2 k pc lo st h
  | .invokespecial k => am_ii μ.2.2.2.2 k pc lo st h
  | .ireturn => (match am_ri μ.2.2.2.1 st with
    | some v => some (.inr (.inl v))
    | none => none)
  | .lreturn => (match am_rL μ.2.2.2.1 st with
    | some v => some (.inr (.inl v))
    | none => none)
  | .areturn => (match am_rA μ.2.2.2.1 st with
    | some v => some (.inr (.inl v))
    | none => none)
  | .return_ => (match μ.2.2.2.1, st with
    | none, [] => some (.inr (.inl none))
    | _, _ => none)
  | _ => none
/-- how long an instruction is (0: any) -/
def am_ln : Instr → Nat
  | .tableswitch _ _ _ _ => 0
  | .aload _ | .iload _ | .lload _ | .istore _ | .lstore _ | .astore _ | .bipush _ | .ldc _ | .newarray _ => 2
  | .iinc _ _ | .sipush _ | .ldc_w _ | .ldc2_w _ | .goto _ | .ifCond _ _ | .if_icmp _ _ | .getfield _ | .putfield _ | .getstatic _ | .new _ | .anewarray _ | .invokevirtual _ | .invokestatic _ | .invokespecial _ => 3
  | _ => 1
def am_act (μ : am_M) (f : am_F) : Option am_A := match decode μ.2.1 f.1 with
  | .ok (i, len) => if am_ln i = 0 ∨ am_ln i = len then am_ex μ i f.1 f.2.1 f.2.2.1 f.2.2.2 else none
  | .error _ => none
/-- how many places the cells have -/
def am_cs : am_AC → Nat
  | .inl (_, fs) => fs.length
  | .inr (_, n, _) => n
def am_ns (sh : List am_AC) : Nat := (sh.map am_cs).sum
def am_le (h h' : am_H) : Prop := h.1.length ≤ h'.1.length ∧ am_ns h.1 ≤ am_ns h'.1
/-- a frame's run comes to its end within n steps; C says what calls do -/
def am_Fin (C : Nat → List Value → am_H → am_H → Option Value → Prop) (μ : am_M) : Nat → am_F → am_H → Option Value → Prop
  | 0, _, _, _ => False
  | n + 1, f, h', r => (∃ lo', (∀ q ∈ lo', q ∈ f.2.1) ∧ am_Fin C μ n (f.1, lo', f.2.2) h' r) ∨
    (∃ f', am_act μ f = some (.inl f') ∧ am_le f.2.2.2 f'.2.2.2 ∧ am_Fin C μ n f' h' r) ∨
    (am_act μ f = some (.inr (.inl r)) ∧ h' = f.2.2.2) ∨
    (∃ z as f' h1 r1, am_act μ f = some (.inr (.inr (z, as, f'))) ∧ C z as f.2.2.2 h1 r1 ∧ am_le f.2.2.2 h1 ∧ am_Fin C μ n (f'.1, f'.2.1, r1.toList ++ f'.2.2.1, h1) h' r)
def am_Ev : Nat → Nat → List Value → am_H → am_H → Option Value → Prop
  | 0, _, _, _, _, _ => False
  | d + 1, y, as, h, h', r => ∃ μ, am_ms[y]? = some μ ∧ (lg_sl as).length ≤ μ.2.2.1 ∧ ∃ n, am_Fin (am_Ev d) μ n (0, lv_args 0 as, [], h) h' r
/-- a frame's run comes to its end -/
def am_E (d : Nat) (μ : am_M) (f : am_F) (h' : am_H) (r : Option Value) : Prop := ∃ n, am_Fin (am_Ev d) μ n f h' r
