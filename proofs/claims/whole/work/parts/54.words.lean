-- where the words of the methods stand (code, initialized)
def am_mw : List (Nat × Nat) := [(343, 76), (707, 76), (703, 76), (718, 76), (854, 76), (859, 76), (864, 76), (868, 76), (794, 76), (798, 76), (803, 76), (815, 76), (809, 76), (820, 76), (824, 76), (832, 76), (828, 76), (836, 76), (391, 77), (876, 77), (888, 77), (894, 77), (242, 74), (542, 74), (615, 74), (563, 74), (607, 74), (603, 74), (625, 74), (633, 74), (559, 74), (555, 74), (581, 74), (781, 74), (571, 74), (567, 74), (655, 74), (768, 74), (686, 74), (692, 74), (641, 74), (645, 74), (650, 74), (660, 74), (666, 74), (670, 74), (235, 73), (538, 73), (938, 73), (611, 73), (678, 73), (216, 72), (479, 72), (505, 72), (509, 72), (523, 72), (527, 72), (514, 72), (519, 72), (123, 71), (531, 71), (637, 71), (93, 70), (467, 70), (483, 70), (487, 70), (494, 70), (501, 70), (490, 70), (497, 70), (306, 75), (733, 75), (729, 75), (746, 75), (756, 75), (750, 75), (764, 75), (777, 75), (785, 75), (85, 69), (460, 69), (471, 69), (475, 69), (547, 69), (585, 69), (595, 69), (599, 69), (620, 69), (629, 69), (674, 69), (682, 69), (696, 69), (714, 69), (725, 69), (760, 69), (773, 69), (790, 69), (840, 69), (849, 69), (872, 69), (880, 69), (884, 69), (900, 69), (934, 69), (942, 69), (946, 69), (950, 69), (905, 69), (909, 69), (914, 69), (919, 69), (924, 69), (929, 69), (551, 69), (589, 69), (844, 69), (699, 69), (463, 69), (955, 78), (974, 78), (1073, 78), (1097, 78), (1057, 78), (1061, 78), (968, 78), (971, 78), (977, 78), (964, 78), (989, 78), (985, 78), (993, 78), (997, 78), (981, 78), (960, 78), (1001, 78), (1065, 78), (1081, 78), (1077, 78), (1089, 78), (1085, 78), (1148, 78), (1069, 78), (1093, 78), (1101, 78), (1109, 78), (1105, 78), (1117, 78), (1113, 78), (1141, 78), (1145, 78), (1129, 78), (1152, 78), (1137, 78), (1125, 78), (1133, 78), (1121, 78), (1156, 78), (1164, 78), (1168, 78), (1160, 78), (1176, 78), (1180, 78), (1172, 78), (1184, 78), (1188, 78), (1192, 78), (1196, 78), (1200, 78), (1204, 78), (1208, 78), (1212, 78), (1216, 78), (1222, 78), (1226, 78), (1234, 78), (1230, 78), (1238, 78), (1248, 78), (1252, 78), (1256, 78), (1260, 78)]
def am_gt : List Cond := lw_tbl.filter goodWord
theorem am_in_gt {i : Nat} {w : Cond} (h : lw_tbl[i]? = some w) (hg : goodWord w = true) : w ∈ am_gt := List.mem_filter.mpr ⟨List.mem_of_getElem? h, hg⟩
theorem am_gt_good {ws : List Cond} (h : ∀ w ∈ ws, w ∈ am_gt) : GoodIn am_gt ws := fun w hw => ⟨h w hw, good_of_word (List.mem_filter.mp (h w hw)).2⟩
def am_fw (e : Nat × Nat × Nat × Nat × Nat) : Cond := .fieldLink (am_cn e.1) e.2.1 (am_cn e.2.2.1) (am_T e.2.2.1 e.2.2.2.1).2.1 (am_T e.2.2.1 e.2.2.2.1).2.2.1
def am_fok (e : Nat × Nat × Nat × Nat × Nat) : Bool := decide (lw_tbl[e.2.2.2.2]? = some (am_fw e)) && (decide (e.2.2.2.1 < am_N e.2.2.1) && (decide (e.2.2.1 < 10) && decide ((am_T e.2.2.1 e.2.2.2.1).1 = am_cn e.2.2.1)))
theorem am_ftab_ok : am_ftab.all am_fok = true := by decide +kernel
def am_mok (p : (MethodName × ByteArray × Nat × Option FieldType × Nat) × (Nat × Nat)) : Bool := decide (lw_tbl[p.2.2]? = some (.initialized p.1.1.cls)) && (Jvm.plainName p.1.1.cls && (decide (p.1.1.cls = am_cn p.1.2.2.2.2) && (decide (p.1.2.2.1 ≤ 100) && (decide (p.1.1.cls ≠ "java/lang/invoke/MethodHandle") && decide (p.1.1.cls ≠ "java/lang/invoke/VarHandle")))))
theorem am_ms_ok : (am_ms.zip am_mw).all am_mok = true := by decide +kernel
theorem am_at {z : Nat} {ζ : MethodName × ByteArray × Nat × Option FieldType × Nat} (h : am_ms[z]? = some ζ) : ∃ w, am_mok (ζ, w) = true := by
  have hl : am_mw.length = am_ms.length := by decide +kernel
  have hz : z < am_mw.length := by rw [hl]; exact (List.getElem?_eq_some_iff.mp h).1
  have h2 : (am_ms.zip am_mw)[z]? = some (ζ, am_mw[z]) := by rw [List.getElem?_zip_eq_some]; exact ⟨h, List.getElem?_eq_getElem hz⟩
  exact ⟨_, List.all_eq_true.mp am_ms_ok _ (List.mem_of_getElem? h2)⟩
-- the code words, each at its place
set_option maxRecDepth 100000 in
theorem am_cw_0 : lw_tbl[343]? = some (.code mX0_init.1 mX0_init.2.1 mX0_init.2.2.1 mX0_init.2.2.2.1) := rfl
set_option maxRecDepth 100000 in
theorem am_cw_1 : lw_tbl[707]? = some (.code mX0_setOut.1 mX0_setOut.2.1 mX0_setOut.2.2.1 mX0_setOut.2.2.2.1) := rfl
set_option maxRecDepth 100000 in
theorem am_cw_2 : lw_tbl[703]? = some (.code mX0_end.1 mX0_end.2.1 mX0_end.2.2.1 mX0_end.2.2.2.1) := rfl
set_option maxRecDepth 100000 in
theorem am_cw_3 : lw_tbl[718]? = some (.code mX0_findSpent.1 mX0_findSpent.2.1 mX0_findSpent.2.2.1 mX0_findSpent.2.2.2.1) := rfl
set_option maxRecDepth 100000 in
theorem am_cw_4 : lw_tbl[854]? = some (.code mX0_findOdds.1 mX0_findOdds.2.1 mX0_findOdds.2.2.1 mX0_findOdds.2.2.2.1) := rfl
set_option maxRecDepth 100000 in
theorem am_cw_5 : lw_tbl[859]? = some (.code mX0_luckyWays.1 mX0_luckyWays.2.1 mX0_luckyWays.2.2.1 mX0_luckyWays.2.2.2.1) := rfl
set_option maxRecDepth 100000 in
theorem am_cw_6 : lw_tbl[864]? = some (.code mX0_stepOn.1 mX0_stepOn.2.1 mX0_stepOn.2.2.1 mX0_stepOn.2.2.2.1) := rfl
set_option maxRecDepth 100000 in
theorem am_cw_7 : lw_tbl[868]? = some (.code mX0_shorten.1 mX0_shorten.2.1 mX0_shorten.2.2.1 mX0_shorten.2.2.2.1) := rfl
set_option maxRecDepth 100000 in
theorem am_cw_8 : lw_tbl[794]? = some (.code mX0_findRow.1 mX0_findRow.2.1 mX0_findRow.2.2.1 mX0_findRow.2.2.2.1) := rfl
set_option maxRecDepth 100000 in
theorem am_cw_9 : lw_tbl[798]? = some (.code mX0_lowestRow.1 mX0_lowestRow.2.1 mX0_lowestRow.2.2.1 mX0_lowestRow.2.2.2.1) := rfl
set_option maxRecDepth 100000 in
theorem am_cw_10 : lw_tbl[803]? = some (.code mX0_followRow.1 mX0_followRow.2.1 mX0_followRow.2.2.1 mX0_followRow.2.2.2.1) := rfl
set_option maxRecDepth 100000 in
theorem am_cw_11 : lw_tbl[815]? = some (.code mX0_toldAsTurned.1 mX0_toldAsTurned.2.1 mX0_toldAsTurned.2.2.1 mX0_toldAsTurned.2.2.2.1) := rfl
set_option maxRecDepth 100000 in
theorem am_cw_12 : lw_tbl[809]? = some (.code mX0_judge.1 mX0_judge.2.1 mX0_judge.2.2.1 mX0_judge.2.2.2.1) := rfl
set_option maxRecDepth 100000 in
theorem am_cw_13 : lw_tbl[820]? = some (.code mX0_nextRow.1 mX0_nextRow.2.1 mX0_nextRow.2.2.1 mX0_nextRow.2.2.2.1) := rfl
set_option maxRecDepth 100000 in
theorem am_cw_14 : lw_tbl[824]? = some (.code mX0_placeOfNextAbove.1 mX0_placeOfNextAbove.2.1 mX0_placeOfNextAbove.2.2.1 mX0_placeOfNextAbove.2.2.2.1) := rfl
set_option maxRecDepth 100000 in
theorem am_cw_15 : lw_tbl[832]? = some (.code mX0_sortFrom.1 mX0_sortFrom.2.1 mX0_sortFrom.2.2.1 mX0_sortFrom.2.2.2.1) := rfl
set_option maxRecDepth 100000 in
theorem am_cw_16 : lw_tbl[828]? = some (.code mX0_swap.1 mX0_swap.2.1 mX0_swap.2.2.1 mX0_swap.2.2.2.1) := rfl
set_option maxRecDepth 100000 in
theorem am_cw_17 : lw_tbl[836]? = some (.code mX0_stepBefore.1 mX0_stepBefore.2.1 mX0_stepBefore.2.2.1 mX0_stepBefore.2.2.2.1) := rfl
set_option maxRecDepth 100000 in
theorem am_cw_18 : lw_tbl[391]? = some (.code mX1_init.1 mX1_init.2.1 mX1_init.2.2.1 mX1_init.2.2.2.1) := rfl
set_option maxRecDepth 100000 in
theorem am_cw_19 : lw_tbl[876]? = some (.code mX1_takes.1 mX1_takes.2.1 mX1_takes.2.2.1 mX1_takes.2.2.2.1) := rfl
set_option maxRecDepth 100000 in
theorem am_cw_20 : lw_tbl[888]? = some (.code mX1_findGifts.1 mX1_findGifts.2.1 mX1_findGifts.2.2.1 mX1_findGifts.2.2.2.1) := rfl
set_option maxRecDepth 100000 in
theorem am_cw_21 : lw_tbl[894]? = some (.code mX1_isSo.1 mX1_isSo.2.1 mX1_isSo.2.2.1 mX1_isSo.2.2.2.1) := rfl
set_option maxRecDepth 100000 in
theorem am_cw_22 : lw_tbl[242]? = some (.code mX2_init.1 mX2_init.2.1 mX2_init.2.2.1 mX2_init.2.2.2.1) := rfl
set_option maxRecDepth 100000 in
theorem am_cw_23 : lw_tbl[542]? = some (.code mX2_begin.1 mX2_begin.2.1 mX2_begin.2.2.1 mX2_begin.2.2.2.1) := rfl
set_option maxRecDepth 100000 in
theorem am_cw_24 : lw_tbl[615]? = some (.code mX2_copyFrom.1 mX2_copyFrom.2.1 mX2_copyFrom.2.2.1 mX2_copyFrom.2.2.2.1) := rfl
set_option maxRecDepth 100000 in
theorem am_cw_25 : lw_tbl[563]? = some (.code mX2_isWet.1 mX2_isWet.2.1 mX2_isWet.2.2.1 mX2_isWet.2.2.2.1) := rfl
set_option maxRecDepth 100000 in
theorem am_cw_26 : lw_tbl[607]? = some (.code mX2_isCarried.1 mX2_isCarried.2.1 mX2_isCarried.2.2.1 mX2_isCarried.2.2.2.1) := rfl
set_option maxRecDepth 100000 in
theorem am_cw_27 : lw_tbl[603]? = some (.code mX2_canBeGiven.1 mX2_canBeGiven.2.1 mX2_canBeGiven.2.2.1 mX2_canBeGiven.2.2.2.1) := rfl
set_option maxRecDepth 100000 in
theorem am_cw_28 : lw_tbl[625]? = some (.code mX2_isAtHut.1 mX2_isAtHut.2.1 mX2_isAtHut.2.2.1 mX2_isAtHut.2.2.2.1) := rfl
set_option maxRecDepth 100000 in
theorem am_cw_29 : lw_tbl[633]? = some (.code mX2_hasStage.1 mX2_hasStage.2.1 mX2_hasStage.2.2.1 mX2_hasStage.2.2.2.1) := rfl
set_option maxRecDepth 100000 in
theorem am_cw_30 : lw_tbl[559]? = some (.code mX2_weight.1 mX2_weight.2.1 mX2_weight.2.2.1 mX2_weight.2.2.2.1) := rfl
set_option maxRecDepth 100000 in
theorem am_cw_31 : lw_tbl[555]? = some (.code mX2_load.1 mX2_load.2.1 mX2_load.2.2.1 mX2_load.2.2.2.1) := rfl
set_option maxRecDepth 100000 in
theorem am_cw_32 : lw_tbl[581]? = some (.code mX2_thingsWith.1 mX2_thingsWith.2.1 mX2_thingsWith.2.2.1 mX2_thingsWith.2.2.2.1) := rfl
set_option maxRecDepth 100000 in
theorem am_cw_33 : lw_tbl[781]? = some (.code mX2_leftOf.1 mX2_leftOf.2.1 mX2_leftOf.2.2.1 mX2_leftOf.2.2.2.1) := rfl
set_option maxRecDepth 100000 in
theorem am_cw_34 : lw_tbl[571]? = some (.code mX2_force.1 mX2_force.2.1 mX2_force.2.2.1 mX2_force.2.2.2.1) := rfl
set_option maxRecDepth 100000 in
theorem am_cw_35 : lw_tbl[567]? = some (.code mX2_pace.1 mX2_pace.2.1 mX2_pace.2.2.1 mX2_pace.2.2.2.1) := rfl
set_option maxRecDepth 100000 in
theorem am_cw_36 : lw_tbl[655]? = some (.code mX2_minutesFor.1 mX2_minutesFor.2.1 mX2_minutesFor.2.2.1 mX2_minutesFor.2.2.2.1) := rfl
set_option maxRecDepth 100000 in
theorem am_cw_37 : lw_tbl[768]? = some (.code mX2_slowest.1 mX2_slowest.2.1 mX2_slowest.2.2.1 mX2_slowest.2.2.2.1) := rfl
set_option maxRecDepth 100000 in
theorem am_cw_38 : lw_tbl[686]? = some (.code mX2_spread.1 mX2_spread.2.1 mX2_spread.2.2.1 mX2_spread.2.2.2.1) := rfl
set_option maxRecDepth 100000 in
theorem am_cw_39 : lw_tbl[692]? = some (.code mX2_parted.1 mX2_parted.2.1 mX2_parted.2.2.1 mX2_parted.2.2.2.1) := rfl
set_option maxRecDepth 100000 in
theorem am_cw_40 : lw_tbl[641]? = some (.code mX2_pass.1 mX2_pass.2.1 mX2_pass.2.2.1 mX2_pass.2.2.2.1) := rfl
set_option maxRecDepth 100000 in
theorem am_cw_41 : lw_tbl[645]? = some (.code mX2_march.1 mX2_march.2.1 mX2_march.2.2.1 mX2_march.2.2.2.1) := rfl
set_option maxRecDepth 100000 in
theorem am_cw_42 : lw_tbl[650]? = some (.code mX2_soak.1 mX2_soak.2.1 mX2_soak.2.2.1 mX2_soak.2.2.2.1) := rfl
set_option maxRecDepth 100000 in
theorem am_cw_43 : lw_tbl[660]? = some (.code mX2_tire.1 mX2_tire.2.1 mX2_tire.2.2.1 mX2_tire.2.2.2.1) := rfl
set_option maxRecDepth 100000 in
theorem am_cw_44 : lw_tbl[666]? = some (.code mX2_feed.1 mX2_feed.2.1 mX2_feed.2.2.1 mX2_feed.2.2.2.1) := rfl
set_option maxRecDepth 100000 in
theorem am_cw_45 : lw_tbl[670]? = some (.code mX2_settle.1 mX2_settle.2.1 mX2_settle.2.2.1 mX2_settle.2.2.2.1) := rfl
set_option maxRecDepth 100000 in
theorem am_cw_46 : lw_tbl[235]? = some (.code mX3_init.1 mX3_init.2.1 mX3_init.2.2.1 mX3_init.2.2.2.1) := rfl
set_option maxRecDepth 100000 in
theorem am_cw_47 : lw_tbl[538]? = some (.code mX3_begin.1 mX3_begin.2.1 mX3_begin.2.2.1 mX3_begin.2.2.2.1) := rfl
set_option maxRecDepth 100000 in
theorem am_cw_48 : lw_tbl[938]? = some (.code mX3_copyFrom.1 mX3_copyFrom.2.1 mX3_copyFrom.2.2.1 mX3_copyFrom.2.2.2.1) := rfl
set_option maxRecDepth 100000 in
theorem am_cw_49 : lw_tbl[611]? = some (.code mX3_remember.1 mX3_remember.2.1 mX3_remember.2.2.1 mX3_remember.2.2.2.1) := rfl
set_option maxRecDepth 100000 in
theorem am_cw_50 : lw_tbl[678]? = some (.code mX3_takeBack.1 mX3_takeBack.2.1 mX3_takeBack.2.2.1 mX3_takeBack.2.2.2.1) := rfl
set_option maxRecDepth 100000 in
theorem am_cw_51 : lw_tbl[216]? = some (.code mX4_init.1 mX4_init.2.1 mX4_init.2.2.1 mX4_init.2.2.2.1) := rfl
set_option maxRecDepth 100000 in
theorem am_cw_52 : lw_tbl[479]? = some (.code mX4_readAll.1 mX4_readAll.2.1 mX4_readAll.2.2.1 mX4_readAll.2.2.2.1) := rfl
set_option maxRecDepth 100000 in
theorem am_cw_53 : lw_tbl[505]? = some (.code mX4_readItem.1 mX4_readItem.2.1 mX4_readItem.2.2.1 mX4_readItem.2.2.2.1) := rfl
set_option maxRecDepth 100000 in
theorem am_cw_54 : lw_tbl[509]? = some (.code mX4_readWalker.1 mX4_readWalker.2.1 mX4_readWalker.2.2.1 mX4_readWalker.2.2.2.1) := rfl
set_option maxRecDepth 100000 in
theorem am_cw_55 : lw_tbl[523]? = some (.code mX4_readThing.1 mX4_readThing.2.1 mX4_readThing.2.2.1 mX4_readThing.2.2.2.1) := rfl
set_option maxRecDepth 100000 in
theorem am_cw_56 : lw_tbl[527]? = some (.code mX4_readStage.1 mX4_readStage.2.1 mX4_readStage.2.2.1 mX4_readStage.2.2.2.1) := rfl
set_option maxRecDepth 100000 in
theorem am_cw_57 : lw_tbl[514]? = some (.code mX4_number.1 mX4_number.2.1 mX4_number.2.2.1 mX4_number.2.2.2.1) := rfl
set_option maxRecDepth 100000 in
theorem am_cw_58 : lw_tbl[519]? = some (.code mX4_endItem.1 mX4_endItem.2.1 mX4_endItem.2.2.1 mX4_endItem.2.2.2.1) := rfl
set_option maxRecDepth 100000 in
theorem am_cw_59 : lw_tbl[123]? = some (.code mX5_init.1 mX5_init.2.1 mX5_init.2.2.1 mX5_init.2.2.2.1) := rfl
set_option maxRecDepth 100000 in
theorem am_cw_60 : lw_tbl[531]? = some (.code mX5_copyFrom.1 mX5_copyFrom.2.1 mX5_copyFrom.2.2.1 mX5_copyFrom.2.2.2.1) := rfl
set_option maxRecDepth 100000 in
theorem am_cw_61 : lw_tbl[637]? = some (.code mX5_rains.1 mX5_rains.2.1 mX5_rains.2.2.1 mX5_rains.2.2.2.1) := rfl
set_option maxRecDepth 100000 in
theorem am_cw_62 : lw_tbl[93]? = some (.code mX6_init.1 mX6_init.2.1 mX6_init.2.2.1 mX6_init.2.2.2.1) := rfl
set_option maxRecDepth 100000 in
theorem am_cw_63 : lw_tbl[467]? = some (.code mX6_takes.1 mX6_takes.2.1 mX6_takes.2.2.1 mX6_takes.2.2.2.1) := rfl
set_option maxRecDepth 100000 in
theorem am_cw_64 : lw_tbl[483]? = some (.code mX6_toFirstToken.1 mX6_toFirstToken.2.1 mX6_toFirstToken.2.2.1 mX6_toFirstToken.2.2.2.1) := rfl
set_option maxRecDepth 100000 in
theorem am_cw_65 : lw_tbl[487]? = some (.code mX6_toNextToken.1 mX6_toNextToken.2.1 mX6_toNextToken.2.2.1 mX6_toNextToken.2.2.2.1) := rfl
set_option maxRecDepth 100000 in
theorem am_cw_66 : lw_tbl[494]? = some (.code mX6_readLetters.1 mX6_readLetters.2.1 mX6_readLetters.2.2.1 mX6_readLetters.2.2.2.1) := rfl
set_option maxRecDepth 100000 in
theorem am_cw_67 : lw_tbl[501]? = some (.code mX6_readNumber.1 mX6_readNumber.2.1 mX6_readNumber.2.2.1 mX6_readNumber.2.2.2.1) := rfl
set_option maxRecDepth 100000 in
theorem am_cw_68 : lw_tbl[490]? = some (.code mX6_isLetter.1 mX6_isLetter.2.1 mX6_isLetter.2.2.1 mX6_isLetter.2.2.2.1) := rfl
set_option maxRecDepth 100000 in
theorem am_cw_69 : lw_tbl[497]? = some (.code mX6_isDigit.1 mX6_isDigit.2.1 mX6_isDigit.2.2.1 mX6_isDigit.2.2.2.1) := rfl
set_option maxRecDepth 100000 in
theorem am_cw_70 : lw_tbl[306]? = some (.code mX7_init.1 mX7_init.2.1 mX7_init.2.2.1 mX7_init.2.2.2.1) := rfl
set_option maxRecDepth 100000 in
theorem am_cw_71 : lw_tbl[733]? = some (.code mX7_wake.1 mX7_wake.2.1 mX7_wake.2.2.1 mX7_wake.2.2.2.1) := rfl
set_option maxRecDepth 100000 in
theorem am_cw_72 : lw_tbl[729]? = some (.code mX7_findSoonest.1 mX7_findSoonest.2.1 mX7_findSoonest.2.2.1 mX7_findSoonest.2.2.2.1) := rfl
set_option maxRecDepth 100000 in
theorem am_cw_73 : lw_tbl[746]? = some (.code mX7_place.1 mX7_place.2.1 mX7_place.2.2.1 mX7_place.2.2.2.1) := rfl
set_option maxRecDepth 100000 in
theorem am_cw_74 : lw_tbl[756]? = some (.code mX7_canBeBetter.1 mX7_canBeBetter.2.1 mX7_canBeBetter.2.2.1 mX7_canBeBetter.2.2.2.1) := rfl
set_option maxRecDepth 100000 in
theorem am_cw_75 : lw_tbl[750]? = some (.code mX7_judge.1 mX7_judge.2.1 mX7_judge.2.2.1 mX7_judge.2.2.2.1) := rfl
set_option maxRecDepth 100000 in
theorem am_cw_76 : lw_tbl[764]? = some (.code mX7_bestGift.1 mX7_bestGift.2.1 mX7_bestGift.2.2.1 mX7_bestGift.2.2.2.1) := rfl
set_option maxRecDepth 100000 in
theorem am_cw_77 : lw_tbl[777]? = some (.code mX7_lightestSet.1 mX7_lightestSet.2.1 mX7_lightestSet.2.2.1 mX7_lightestSet.2.2.2.1) := rfl
set_option maxRecDepth 100000 in
theorem am_cw_78 : lw_tbl[785]? = some (.code mX7_isQuickWithout.1 mX7_isQuickWithout.2.1 mX7_isQuickWithout.2.2.1 mX7_isQuickWithout.2.2.2.1) := rfl
set_option maxRecDepth 100000 in
theorem am_cw_79 : lw_tbl[85]? = some (.code mX8_init.1 mX8_init.2.1 mX8_init.2.2.1 mX8_init.2.2.2.1) := rfl
set_option maxRecDepth 100000 in
theorem am_cw_80 : lw_tbl[460]? = some (.code mX8_type.1 mX8_type.2.1 mX8_type.2.2.1 mX8_type.2.2.2.1) := rfl
set_option maxRecDepth 100000 in
theorem am_cw_81 : lw_tbl[471]? = some (.code mX8_clear.1 mX8_clear.2.1 mX8_clear.2.2.1 mX8_clear.2.2.2.1) := rfl
set_option maxRecDepth 100000 in
theorem am_cw_82 : lw_tbl[475]? = some (.code mX8_way.1 mX8_way.2.1 mX8_way.2.2.1 mX8_way.2.2.2.1) := rfl
set_option maxRecDepth 100000 in
theorem am_cw_83 : lw_tbl[547]? = some (.code mX8_walker.1 mX8_walker.2.1 mX8_walker.2.2.1 mX8_walker.2.2.2.1) := rfl
set_option maxRecDepth 100000 in
theorem am_cw_84 : lw_tbl[585]? = some (.code mX8_thing.1 mX8_thing.2.1 mX8_thing.2.2.1 mX8_thing.2.2.2.1) := rfl
set_option maxRecDepth 100000 in
theorem am_cw_85 : lw_tbl[595]? = some (.code mX8_stage.1 mX8_stage.2.1 mX8_stage.2.2.1 mX8_stage.2.2.2.1) := rfl
set_option maxRecDepth 100000 in
theorem am_cw_86 : lw_tbl[599]? = some (.code mX8_gives.1 mX8_gives.2.1 mX8_gives.2.2.1 mX8_gives.2.2.2.1) := rfl
set_option maxRecDepth 100000 in
theorem am_cw_87 : lw_tbl[620]? = some (.code mX8_leaves.1 mX8_leaves.2.1 mX8_leaves.2.2.1 mX8_leaves.2.2.2.1) := rfl
set_option maxRecDepth 100000 in
theorem am_cw_88 : lw_tbl[629]? = some (.code mX8_goes.1 mX8_goes.2.1 mX8_goes.2.2.1 mX8_goes.2.2.2.1) := rfl
set_option maxRecDepth 100000 in
theorem am_cw_89 : lw_tbl[674]? = some (.code mX8_undo.1 mX8_undo.2.1 mX8_undo.2.2.1 mX8_undo.2.2.2.1) := rfl
set_option maxRecDepth 100000 in
theorem am_cw_90 : lw_tbl[682]? = some (.code mX8_now.1 mX8_now.2.1 mX8_now.2.2.1 mX8_now.2.2.2.1) := rfl
set_option maxRecDepth 100000 in
theorem am_cw_91 : lw_tbl[696]? = some (.code mX8_rest.1 mX8_rest.2.1 mX8_rest.2.2.1 mX8_rest.2.2.2.1) := rfl
set_option maxRecDepth 100000 in
theorem am_cw_92 : lw_tbl[714]? = some (.code mX8_spent.1 mX8_spent.2.1 mX8_spent.2.2.1 mX8_spent.2.2.2.1) := rfl
set_option maxRecDepth 100000 in
theorem am_cw_93 : lw_tbl[725]? = some (.code mX8_soonest.1 mX8_soonest.2.1 mX8_soonest.2.2.1 mX8_soonest.2.2.2.1) := rfl
set_option maxRecDepth 100000 in
theorem am_cw_94 : lw_tbl[760]? = some (.code mX8_helps.1 mX8_helps.2.1 mX8_helps.2.2.1 mX8_helps.2.2.2.1) := rfl
set_option maxRecDepth 100000 in
theorem am_cw_95 : lw_tbl[773]? = some (.code mX8_leave.1 mX8_leave.2.1 mX8_leave.2.2.1 mX8_leave.2.2.2.1) := rfl
set_option maxRecDepth 100000 in
theorem am_cw_96 : lw_tbl[790]? = some (.code mX8_eat.1 mX8_eat.2.1 mX8_eat.2.2.1 mX8_eat.2.2.2.1) := rfl
set_option maxRecDepth 100000 in
theorem am_cw_97 : lw_tbl[840]? = some (.code mX8_truly.1 mX8_truly.2.1 mX8_truly.2.2.1 mX8_truly.2.2.2.1) := rfl
set_option maxRecDepth 100000 in
theorem am_cw_98 : lw_tbl[849]? = some (.code mX8_odds.1 mX8_odds.2.1 mX8_odds.2.2.1 mX8_odds.2.2.2.1) := rfl
set_option maxRecDepth 100000 in
theorem am_cw_99 : lw_tbl[872]? = some (.code mX8_book.1 mX8_book.2.1 mX8_book.2.2.1 mX8_book.2.2.2.1) := rfl
set_option maxRecDepth 100000 in
theorem am_cw_100 : lw_tbl[880]? = some (.code mX8_burn.1 mX8_burn.2.1 mX8_burn.2.2.1 mX8_burn.2.2.2.1) := rfl
set_option maxRecDepth 100000 in
theorem am_cw_101 : lw_tbl[884]? = some (.code mX8_sacks.1 mX8_sacks.2.1 mX8_sacks.2.2.1 mX8_sacks.2.2.2.1) := rfl
set_option maxRecDepth 100000 in
theorem am_cw_102 : lw_tbl[900]? = some (.code mX8_mark.1 mX8_mark.2.1 mX8_mark.2.2.1 mX8_mark.2.2.2.1) := rfl
set_option maxRecDepth 100000 in
theorem am_cw_103 : lw_tbl[934]? = some (.code mX8_keep.1 mX8_keep.2.1 mX8_keep.2.2.1 mX8_keep.2.2.2.1) := rfl
set_option maxRecDepth 100000 in
theorem am_cw_104 : lw_tbl[942]? = some (.code mX8_back.1 mX8_back.2.1 mX8_back.2.2.1 mX8_back.2.2.2.1) := rfl
set_option maxRecDepth 100000 in
theorem am_cw_105 : lw_tbl[946]? = some (.code mX8_count.1 mX8_count.2.1 mX8_count.2.2.1 mX8_count.2.2.2.1) := rfl
set_option maxRecDepth 100000 in
theorem am_cw_106 : lw_tbl[950]? = some (.code mX8_trace.1 mX8_trace.2.1 mX8_trace.2.2.1 mX8_trace.2.2.2.1) := rfl
set_option maxRecDepth 100000 in
theorem am_cw_107 : lw_tbl[905]? = some (.code mX8_asLoad.1 mX8_asLoad.2.1 mX8_asLoad.2.2.1 mX8_asLoad.2.2.2.1) := rfl
set_option maxRecDepth 100000 in
theorem am_cw_108 : lw_tbl[909]? = some (.code mX8_asHeavy.1 mX8_asHeavy.2.1 mX8_asHeavy.2.2.1 mX8_asHeavy.2.2.2.1) := rfl
set_option maxRecDepth 100000 in
theorem am_cw_109 : lw_tbl[914]? = some (.code mX8_asLight.1 mX8_asLight.2.1 mX8_asLight.2.2.1 mX8_asLight.2.2.2.1) := rfl
set_option maxRecDepth 100000 in
theorem am_cw_110 : lw_tbl[919]? = some (.code mX8_asDamp.1 mX8_asDamp.2.1 mX8_asDamp.2.2.1 mX8_asDamp.2.2.2.1) := rfl
set_option maxRecDepth 100000 in
theorem am_cw_111 : lw_tbl[924]? = some (.code mX8_asEaten.1 mX8_asEaten.2.1 mX8_asEaten.2.2.1 mX8_asEaten.2.2.2.1) := rfl
set_option maxRecDepth 100000 in
theorem am_cw_112 : lw_tbl[929]? = some (.code mX8_asSilent.1 mX8_asSilent.2.1 mX8_asSilent.2.2.1 mX8_asSilent.2.2.2.1) := rfl
set_option maxRecDepth 100000 in
theorem am_cw_113 : lw_tbl[551]? = some (.code mX8_isWalker.1 mX8_isWalker.2.1 mX8_isWalker.2.2.1 mX8_isWalker.2.2.2.1) := rfl
set_option maxRecDepth 100000 in
theorem am_cw_114 : lw_tbl[589]? = some (.code mX8_isThing.1 mX8_isThing.2.1 mX8_isThing.2.2.1 mX8_isThing.2.2.2.1) := rfl
set_option maxRecDepth 100000 in
theorem am_cw_115 : lw_tbl[844]? = some (.code mX8_isLine.1 mX8_isLine.2.1 mX8_isLine.2.2.1 mX8_isLine.2.2.2.1) := rfl
set_option maxRecDepth 100000 in
theorem am_cw_116 : lw_tbl[699]? = some (.code mX8_isEither.1 mX8_isEither.2.1 mX8_isEither.2.2.1 mX8_isEither.2.2.2.1) := rfl
set_option maxRecDepth 100000 in
theorem am_cw_117 : lw_tbl[463]? = some (.code mX8_isWithin.1 mX8_isWithin.2.1 mX8_isWithin.2.2.1 mX8_isWithin.2.2.2.1) := rfl
set_option maxRecDepth 100000 in
theorem am_cw_118 : lw_tbl[955]? = some (.code mX9_init.1 mX9_init.2.1 mX9_init.2.2.1 mX9_init.2.2.2.1) := rfl
set_option maxRecDepth 100000 in
theorem am_cw_119 : lw_tbl[974]? = some (.code mX9_in.1 mX9_in.2.1 mX9_in.2.2.1 mX9_in.2.2.2.1) := rfl
set_option maxRecDepth 100000 in
theorem am_cw_120 : lw_tbl[1073]? = some (.code mX9_isWalker.1 mX9_isWalker.2.1 mX9_isWalker.2.2.1 mX9_isWalker.2.2.2.1) := rfl
set_option maxRecDepth 100000 in
theorem am_cw_121 : lw_tbl[1097]? = some (.code mX9_isThing.1 mX9_isThing.2.1 mX9_isThing.2.2.1 mX9_isThing.2.2.2.1) := rfl
set_option maxRecDepth 100000 in
theorem am_cw_122 : lw_tbl[1057]? = some (.code mX9_type.1 mX9_type.2.1 mX9_type.2.2.1 mX9_type.2.2.2.1) := rfl
set_option maxRecDepth 100000 in
theorem am_cw_123 : lw_tbl[1061]? = some (.code mX9_clear.1 mX9_clear.2.1 mX9_clear.2.2.1 mX9_clear.2.2.2.1) := rfl
set_option maxRecDepth 100000 in
theorem am_cw_124 : lw_tbl[968]? = some (.code mX9_byteAt.1 mX9_byteAt.2.1 mX9_byteAt.2.2.1 mX9_byteAt.2.2.2.1) := rfl
set_option maxRecDepth 100000 in
theorem am_cw_125 : lw_tbl[971]? = some (.code mX9_isLetter.1 mX9_isLetter.2.1 mX9_isLetter.2.2.1 mX9_isLetter.2.2.2.1) := rfl
set_option maxRecDepth 100000 in
theorem am_cw_126 : lw_tbl[977]? = some (.code mX9_isDigit.1 mX9_isDigit.2.1 mX9_isDigit.2.2.1 mX9_isDigit.2.2.2.1) := rfl
set_option maxRecDepth 100000 in
theorem am_cw_127 : lw_tbl[964]? = some (.code mX9_token.1 mX9_token.2.1 mX9_token.2.2.1 mX9_token.2.2.2.1) := rfl
set_option maxRecDepth 100000 in
theorem am_cw_128 : lw_tbl[989]? = some (.code mX9_number.1 mX9_number.2.1 mX9_number.2.2.1 mX9_number.2.2.2.1) := rfl
set_option maxRecDepth 100000 in
theorem am_cw_129 : lw_tbl[985]? = some (.code mX9_readsWalker.1 mX9_readsWalker.2.1 mX9_readsWalker.2.2.1 mX9_readsWalker.2.2.2.1) := rfl
set_option maxRecDepth 100000 in
theorem am_cw_130 : lw_tbl[993]? = some (.code mX9_readsThing.1 mX9_readsThing.2.1 mX9_readsThing.2.2.1 mX9_readsThing.2.2.2.1) := rfl
set_option maxRecDepth 100000 in
theorem am_cw_131 : lw_tbl[997]? = some (.code mX9_readsStage.1 mX9_readsStage.2.1 mX9_readsStage.2.2.1 mX9_readsStage.2.2.2.1) := rfl
set_option maxRecDepth 100000 in
theorem am_cw_132 : lw_tbl[981]? = some (.code mX9_readsItem.1 mX9_readsItem.2.1 mX9_readsItem.2.2.1 mX9_readsItem.2.2.2.1) := rfl
set_option maxRecDepth 100000 in
theorem am_cw_133 : lw_tbl[960]? = some (.code mX9_reads.1 mX9_reads.2.1 mX9_reads.2.2.1 mX9_reads.2.2.2.1) := rfl
set_option maxRecDepth 100000 in
theorem am_cw_134 : lw_tbl[1001]? = some (.code mX9_tells.1 mX9_tells.2.1 mX9_tells.2.2.1 mX9_tells.2.2.2.1) := rfl
set_option maxRecDepth 100000 in
theorem am_cw_135 : lw_tbl[1065]? = some (.code mX9_way.1 mX9_way.2.1 mX9_way.2.2.1 mX9_way.2.2.2.1) := rfl
set_option maxRecDepth 100000 in
theorem am_cw_136 : lw_tbl[1081]? = some (.code mX9_weighs.1 mX9_weighs.2.1 mX9_weighs.2.2.1 mX9_weighs.2.2.2.1) := rfl
set_option maxRecDepth 100000 in
theorem am_cw_137 : lw_tbl[1077]? = some (.code mX9_load.1 mX9_load.2.1 mX9_load.2.2.1 mX9_load.2.2.2.1) := rfl
set_option maxRecDepth 100000 in
theorem am_cw_138 : lw_tbl[1089]? = some (.code mX9_force.1 mX9_force.2.1 mX9_force.2.2.1 mX9_force.2.2.2.1) := rfl
set_option maxRecDepth 100000 in
theorem am_cw_139 : lw_tbl[1085]? = some (.code mX9_pace.1 mX9_pace.2.1 mX9_pace.2.2.1 mX9_pace.2.2.2.1) := rfl
set_option maxRecDepth 100000 in
theorem am_cw_140 : lw_tbl[1148]? = some (.code mX9_takes.1 mX9_takes.2.1 mX9_takes.2.2.1 mX9_takes.2.2.2.1) := rfl
set_option maxRecDepth 100000 in
theorem am_cw_141 : lw_tbl[1069]? = some (.code mX9_walker.1 mX9_walker.2.1 mX9_walker.2.2.1 mX9_walker.2.2.2.1) := rfl
set_option maxRecDepth 100000 in
theorem am_cw_142 : lw_tbl[1093]? = some (.code mX9_thing.1 mX9_thing.2.1 mX9_thing.2.2.1 mX9_thing.2.2.2.1) := rfl
set_option maxRecDepth 100000 in
theorem am_cw_143 : lw_tbl[1101]? = some (.code mX9_stage.1 mX9_stage.2.1 mX9_stage.2.2.1 mX9_stage.2.2.2.1) := rfl
set_option maxRecDepth 100000 in
theorem am_cw_144 : lw_tbl[1109]? = some (.code mX9_keeps.1 mX9_keeps.2.1 mX9_keeps.2.2.1 mX9_keeps.2.2.2.1) := rfl
set_option maxRecDepth 100000 in
theorem am_cw_145 : lw_tbl[1105]? = some (.code mX9_gives.1 mX9_gives.2.1 mX9_gives.2.2.1 mX9_gives.2.2.2.1) := rfl
set_option maxRecDepth 100000 in
theorem am_cw_146 : lw_tbl[1117]? = some (.code mX9_isHut.1 mX9_isHut.2.1 mX9_isHut.2.2.1 mX9_isHut.2.2.2.1) := rfl
set_option maxRecDepth 100000 in
theorem am_cw_147 : lw_tbl[1113]? = some (.code mX9_leaves.1 mX9_leaves.2.1 mX9_leaves.2.2.1 mX9_leaves.2.2.2.1) := rfl
set_option maxRecDepth 100000 in
theorem am_cw_148 : lw_tbl[1141]? = some (.code mX9_rains.1 mX9_rains.2.1 mX9_rains.2.2.1 mX9_rains.2.2.2.1) := rfl
set_option maxRecDepth 100000 in
theorem am_cw_149 : lw_tbl[1145]? = some (.code mX9_slowest.1 mX9_slowest.2.1 mX9_slowest.2.2.1 mX9_slowest.2.2.2.1) := rfl
set_option maxRecDepth 100000 in
theorem am_cw_150 : lw_tbl[1129]? = some (.code mX9_plainOrder.1 mX9_plainOrder.2.1 mX9_plainOrder.2.2.1 mX9_plainOrder.2.2.2.1) := rfl
set_option maxRecDepth 100000 in
theorem am_cw_151 : lw_tbl[1152]? = some (.code mX9_eats.1 mX9_eats.2.1 mX9_eats.2.2.1 mX9_eats.2.2.2.1) := rfl
set_option maxRecDepth 100000 in
theorem am_cw_152 : lw_tbl[1137]? = some (.code mX9_stageGoes.1 mX9_stageGoes.2.1 mX9_stageGoes.2.2.1 mX9_stageGoes.2.2.2.1) := rfl
set_option maxRecDepth 100000 in
theorem am_cw_153 : lw_tbl[1125]? = some (.code mX9_isStage.1 mX9_isStage.2.1 mX9_isStage.2.2.1 mX9_isStage.2.2.2.1) := rfl
set_option maxRecDepth 100000 in
theorem am_cw_154 : lw_tbl[1133]? = some (.code mX9_isRain.1 mX9_isRain.2.1 mX9_isRain.2.2.1 mX9_isRain.2.2.2.1) := rfl
set_option maxRecDepth 100000 in
theorem am_cw_155 : lw_tbl[1121]? = some (.code mX9_goes.1 mX9_goes.2.1 mX9_goes.2.2.1 mX9_goes.2.2.2.1) := rfl
set_option maxRecDepth 100000 in
theorem am_cw_156 : lw_tbl[1156]? = some (.code mX9_undo.1 mX9_undo.2.1 mX9_undo.2.2.1 mX9_undo.2.2.2.1) := rfl
set_option maxRecDepth 100000 in
theorem am_cw_157 : lw_tbl[1164]? = some (.code mX9_fair.1 mX9_fair.2.1 mX9_fair.2.2.1 mX9_fair.2.2.2.1) := rfl
set_option maxRecDepth 100000 in
theorem am_cw_158 : lw_tbl[1168]? = some (.code mX9_parted.1 mX9_parted.2.1 mX9_parted.2.2.1 mX9_parted.2.2.2.1) := rfl
set_option maxRecDepth 100000 in
theorem am_cw_159 : lw_tbl[1160]? = some (.code mX9_now.1 mX9_now.2.1 mX9_now.2.2.1 mX9_now.2.2.2.1) := rfl
set_option maxRecDepth 100000 in
theorem am_cw_160 : lw_tbl[1176]? = some (.code mX9_holds.1 mX9_holds.2.1 mX9_holds.2.2.1 mX9_holds.2.2.2.1) := rfl
set_option maxRecDepth 100000 in
theorem am_cw_161 : lw_tbl[1180]? = some (.code mX9_lets.1 mX9_lets.2.1 mX9_lets.2.2.1 mX9_lets.2.2.2.1) := rfl
set_option maxRecDepth 100000 in
theorem am_cw_162 : lw_tbl[1172]? = some (.code mX9_rest.1 mX9_rest.2.1 mX9_rest.2.2.1 mX9_rest.2.2.2.1) := rfl
set_option maxRecDepth 100000 in
theorem am_cw_163 : lw_tbl[1184]? = some (.code mX9_spent.1 mX9_spent.2.1 mX9_spent.2.2.1 mX9_spent.2.2.2.1) := rfl
set_option maxRecDepth 100000 in
theorem am_cw_164 : lw_tbl[1188]? = some (.code mX9_soonest.1 mX9_soonest.2.1 mX9_soonest.2.2.1 mX9_soonest.2.2.2.1) := rfl
set_option maxRecDepth 100000 in
theorem am_cw_165 : lw_tbl[1192]? = some (.code mX9_lays.1 mX9_lays.2.1 mX9_lays.2.2.1 mX9_lays.2.2.2.1) := rfl
set_option maxRecDepth 100000 in
theorem am_cw_166 : lw_tbl[1196]? = some (.code mX9_helps.1 mX9_helps.2.1 mX9_helps.2.2.1 mX9_helps.2.2.2.1) := rfl
set_option maxRecDepth 100000 in
theorem am_cw_167 : lw_tbl[1200]? = some (.code mX9_leave.1 mX9_leave.2.1 mX9_leave.2.2.1 mX9_leave.2.2.2.1) := rfl
set_option maxRecDepth 100000 in
theorem am_cw_168 : lw_tbl[1204]? = some (.code mX9_eat.1 mX9_eat.2.1 mX9_eat.2.2.1 mX9_eat.2.2.2.1) := rfl
set_option maxRecDepth 100000 in
theorem am_cw_169 : lw_tbl[1208]? = some (.code mX9_ordered.1 mX9_ordered.2.1 mX9_ordered.2.2.1 mX9_ordered.2.2.2.1) := rfl
set_option maxRecDepth 100000 in
theorem am_cw_170 : lw_tbl[1212]? = some (.code mX9_truly.1 mX9_truly.2.1 mX9_truly.2.2.1 mX9_truly.2.2.2.1) := rfl
set_option maxRecDepth 100000 in
theorem am_cw_171 : lw_tbl[1216]? = some (.code mX9_odds.1 mX9_odds.2.1 mX9_odds.2.2.1 mX9_odds.2.2.2.1) := rfl
set_option maxRecDepth 100000 in
theorem am_cw_172 : lw_tbl[1222]? = some (.code mX9_book.1 mX9_book.2.1 mX9_book.2.2.1 mX9_book.2.2.2.1) := rfl
set_option maxRecDepth 100000 in
theorem am_cw_173 : lw_tbl[1226]? = some (.code mX9_burn.1 mX9_burn.2.1 mX9_burn.2.2.1 mX9_burn.2.2.2.1) := rfl
set_option maxRecDepth 100000 in
theorem am_cw_174 : lw_tbl[1234]? = some (.code mX9_isSo.1 mX9_isSo.2.1 mX9_isSo.2.2.1 mX9_isSo.2.2.2.1) := rfl
set_option maxRecDepth 100000 in
theorem am_cw_175 : lw_tbl[1230]? = some (.code mX9_sacks.1 mX9_sacks.2.1 mX9_sacks.2.2.1 mX9_sacks.2.2.2.1) := rfl
set_option maxRecDepth 100000 in
theorem am_cw_176 : lw_tbl[1238]? = some (.code mX9_mark.1 mX9_mark.2.1 mX9_mark.2.2.1 mX9_mark.2.2.2.1) := rfl
set_option maxRecDepth 100000 in
theorem am_cw_177 : lw_tbl[1248]? = some (.code mX9_keep.1 mX9_keep.2.1 mX9_keep.2.2.1 mX9_keep.2.2.2.1) := rfl
set_option maxRecDepth 100000 in
theorem am_cw_178 : lw_tbl[1252]? = some (.code mX9_back.1 mX9_back.2.1 mX9_back.2.2.1 mX9_back.2.2.2.1) := rfl
set_option maxRecDepth 100000 in
theorem am_cw_179 : lw_tbl[1256]? = some (.code mX9_count.1 mX9_count.2.1 mX9_count.2.2.1 mX9_count.2.2.2.1) := rfl
set_option maxRecDepth 100000 in
theorem am_cw_180 : lw_tbl[1260]? = some (.code mX9_trace.1 mX9_trace.2.1 mX9_trace.2.2.1 mX9_trace.2.2.2.1) := rfl
theorem am_code {z : Nat} {ζ : MethodName × ByteArray × Nat × Option FieldType × Nat} (h : am_ms[z]? = some ζ) : (Cond.code ζ.1 ζ.2.1 ζ.2.2.1 ζ.2.2.2.1) ∈ am_gt := by
  have hz : z < 181 := (List.getElem?_eq_some_iff.mp h).1
  match z, hz, h with
  | 0, _, h => exact (Option.some.inj h) ▸ am_in_gt am_cw_0 rfl
  | 1, _, h => exact (Option.some.inj h) ▸ am_in_gt am_cw_1 rfl
  | 2, _, h => exact (Option.some.inj h) ▸ am_in_gt am_cw_2 rfl
  | 3, _, h => exact (Option.some.inj h) ▸ am_in_gt am_cw_3 rfl
  | 4, _, h => exact (Option.some.inj h) ▸ am_in_gt am_cw_4 rfl
  | 5, _, h => exact (Option.some.inj h) ▸ am_in_gt am_cw_5 rfl
  | 6, _, h => exact (Option.some.inj h) ▸ am_in_gt am_cw_6 rfl
  | 7, _, h => exact (Option.some.inj h) ▸ am_in_gt am_cw_7 rfl
  | 8, _, h => exact (Option.some.inj h) ▸ am_in_gt am_cw_8 rfl
  | 9, _, h => exact (Option.some.inj h) ▸ am_in_gt am_cw_9 rfl
  | 10, _, h => exact (Option.some.inj h) ▸ am_in_gt am_cw_10 rfl
  | 11, _, h => exact (Option.some.inj h) ▸ am_in_gt am_cw_11 rfl
  | 12, _, h => exact (Option.some.inj h) ▸ am_in_gt am_cw_12 rfl
  | 13, _, h => exact (Option.some.inj h) ▸ am_in_gt am_cw_13 rfl
  | 14, _, h => exact (Option.some.inj h) ▸ am_in_gt am_cw_14 rfl
  | 15, _, h => exact (Option.some.inj h) ▸ am_in_gt am_cw_15 rfl
  | 16, _, h => exact (Option.some.inj h) ▸ am_in_gt am_cw_16 rfl
  | 17, _, h => exact (Option.some.inj h) ▸ am_in_gt am_cw_17 rfl
  | 18, _, h => exact (Option.some.inj h) ▸ am_in_gt am_cw_18 rfl
  | 19, _, h => exact (Option.some.inj h) ▸ am_in_gt am_cw_19 rfl
  | 20, _, h => exact (Option.some.inj h) ▸ am_in_gt am_cw_20 rfl
  | 21, _, h => exact (Option.some.inj h) ▸ am_in_gt am_cw_21 rfl
  | 22, _, h => exact (Option.some.inj h) ▸ am_in_gt am_cw_22 rfl
  | 23, _, h => exact (Option.some.inj h) ▸ am_in_gt am_cw_23 rfl
  | 24, _, h => exact (Option.some.inj h) ▸ am_in_gt am_cw_24 rfl
  | 25, _, h => exact (Option.some.inj h) ▸ am_in_gt am_cw_25 rfl
  | 26, _, h => exact (Option.some.inj h) ▸ am_in_gt am_cw_26 rfl
  | 27, _, h => exact (Option.some.inj h) ▸ am_in_gt am_cw_27 rfl
  | 28, _, h => exact (Option.some.inj h) ▸ am_in_gt am_cw_28 rfl
  | 29, _, h => exact (Option.some.inj h) ▸ am_in_gt am_cw_29 rfl
  | 30, _, h => exact (Option.some.inj h) ▸ am_in_gt am_cw_30 rfl
  | 31, _, h => exact (Option.some.inj h) ▸ am_in_gt am_cw_31 rfl
  | 32, _, h => exact (Option.some.inj h) ▸ am_in_gt am_cw_32 rfl
  | 33, _, h => exact (Option.some.inj h) ▸ am_in_gt am_cw_33 rfl
  | 34, _, h => exact (Option.some.inj h) ▸ am_in_gt am_cw_34 rfl
  | 35, _, h => exact (Option.some.inj h) ▸ am_in_gt am_cw_35 rfl
  | 36, _, h => exact (Option.some.inj h) ▸ am_in_gt am_cw_36 rfl
  | 37, _, h => exact (Option.some.inj h) ▸ am_in_gt am_cw_37 rfl
  | 38, _, h => exact (Option.some.inj h) ▸ am_in_gt am_cw_38 rfl
  | 39, _, h => exact (Option.some.inj h) ▸ am_in_gt am_cw_39 rfl
  | 40, _, h => exact (Option.some.inj h) ▸ am_in_gt am_cw_40 rfl
  | 41, _, h => exact (Option.some.inj h) ▸ am_in_gt am_cw_41 rfl
  | 42, _, h => exact (Option.some.inj h) ▸ am_in_gt am_cw_42 rfl
  | 43, _, h => exact (Option.some.inj h) ▸ am_in_gt am_cw_43 rfl
  | 44, _, h => exact (Option.some.inj h) ▸ am_in_gt am_cw_44 rfl
  | 45, _, h => exact (Option.some.inj h) ▸ am_in_gt am_cw_45 rfl
  | 46, _, h => exact (Option.some.inj h) ▸ am_in_gt am_cw_46 rfl
  | 47, _, h => exact (Option.some.inj h) ▸ am_in_gt am_cw_47 rfl
  | 48, _, h => exact (Option.some.inj h) ▸ am_in_gt am_cw_48 rfl
  | 49, _, h => exact (Option.some.inj h) ▸ am_in_gt am_cw_49 rfl
  | 50, _, h => exact (Option.some.inj h) ▸ am_in_gt am_cw_50 rfl
  | 51, _, h => exact (Option.some.inj h) ▸ am_in_gt am_cw_51 rfl
  | 52, _, h => exact (Option.some.inj h) ▸ am_in_gt am_cw_52 rfl
  | 53, _, h => exact (Option.some.inj h) ▸ am_in_gt am_cw_53 rfl
  | 54, _, h => exact (Option.some.inj h) ▸ am_in_gt am_cw_54 rfl
  | 55, _, h => exact (Option.some.inj h) ▸ am_in_gt am_cw_55 rfl
  | 56, _, h => exact (Option.some.inj h) ▸ am_in_gt am_cw_56 rfl
  | 57, _, h => exact (Option.some.inj h) ▸ am_in_gt am_cw_57 rfl
  | 58, _, h => exact (Option.some.inj h) ▸ am_in_gt am_cw_58 rfl
  | 59, _, h => exact (Option.some.inj h) ▸ am_in_gt am_cw_59 rfl
  | 60, _, h => exact (Option.some.inj h) ▸ am_in_gt am_cw_60 rfl
  | 61, _, h => exact (Option.some.inj h) ▸ am_in_gt am_cw_61 rfl
  | 62, _, h => exact (Option.some.inj h) ▸ am_in_gt am_cw_62 rfl
  | 63, _, h => exact (Option.some.inj h) ▸ am_in_gt am_cw_63 rfl
  | 64, _, h => exact (Option.some.inj h) ▸ am_in_gt am_cw_64 rfl
  | 65, _, h => exact (Option.some.inj h) ▸ am_in_gt am_cw_65 rfl
  | 66, _, h => exact (Option.some.inj h) ▸ am_in_gt am_cw_66 rfl
  | 67, _, h => exact (Option.some.inj h) ▸ am_in_gt am_cw_67 rfl
  | 68, _, h => exact (Option.some.inj h) ▸ am_in_gt am_cw_68 rfl
  | 69, _, h => exact (Option.some.inj h) ▸ am_in_gt am_cw_69 rfl
  | 70, _, h => exact (Option.some.inj h) ▸ am_in_gt am_cw_70 rfl
  | 71, _, h => exact (Option.some.inj h) ▸ am_in_gt am_cw_71 rfl
  | 72, _, h => exact (Option.some.inj h) ▸ am_in_gt am_cw_72 rfl
  | 73, _, h => exact (Option.some.inj h) ▸ am_in_gt am_cw_73 rfl
  | 74, _, h => exact (Option.some.inj h) ▸ am_in_gt am_cw_74 rfl
  | 75, _, h => exact (Option.some.inj h) ▸ am_in_gt am_cw_75 rfl
  | 76, _, h => exact (Option.some.inj h) ▸ am_in_gt am_cw_76 rfl
  | 77, _, h => exact (Option.some.inj h) ▸ am_in_gt am_cw_77 rfl
  | 78, _, h => exact (Option.some.inj h) ▸ am_in_gt am_cw_78 rfl
  | 79, _, h => exact (Option.some.inj h) ▸ am_in_gt am_cw_79 rfl
  | 80, _, h => exact (Option.some.inj h) ▸ am_in_gt am_cw_80 rfl
  | 81, _, h => exact (Option.some.inj h) ▸ am_in_gt am_cw_81 rfl
  | 82, _, h => exact (Option.some.inj h) ▸ am_in_gt am_cw_82 rfl
  | 83, _, h => exact (Option.some.inj h) ▸ am_in_gt am_cw_83 rfl
  | 84, _, h => exact (Option.some.inj h) ▸ am_in_gt am_cw_84 rfl
  | 85, _, h => exact (Option.some.inj h) ▸ am_in_gt am_cw_85 rfl
  | 86, _, h => exact (Option.some.inj h) ▸ am_in_gt am_cw_86 rfl
  | 87, _, h => exact (Option.some.inj h) ▸ am_in_gt am_cw_87 rfl
  | 88, _, h => exact (Option.some.inj h) ▸ am_in_gt am_cw_88 rfl
  | 89, _, h => exact (Option.some.inj h) ▸ am_in_gt am_cw_89 rfl
  | 90, _, h => exact (Option.some.inj h) ▸ am_in_gt am_cw_90 rfl
  | 91, _, h => exact (Option.some.inj h) ▸ am_in_gt am_cw_91 rfl
  | 92, _, h => exact (Option.some.inj h) ▸ am_in_gt am_cw_92 rfl
  | 93, _, h => exact (Option.some.inj h) ▸ am_in_gt am_cw_93 rfl
  | 94, _, h => exact (Option.some.inj h) ▸ am_in_gt am_cw_94 rfl
  | 95, _, h => exact (Option.some.inj h) ▸ am_in_gt am_cw_95 rfl
  | 96, _, h => exact (Option.some.inj h) ▸ am_in_gt am_cw_96 rfl
  | 97, _, h => exact (Option.some.inj h) ▸ am_in_gt am_cw_97 rfl
  | 98, _, h => exact (Option.some.inj h) ▸ am_in_gt am_cw_98 rfl
  | 99, _, h => exact (Option.some.inj h) ▸ am_in_gt am_cw_99 rfl
  | 100, _, h => exact (Option.some.inj h) ▸ am_in_gt am_cw_100 rfl
  | 101, _, h => exact (Option.some.inj h) ▸ am_in_gt am_cw_101 rfl
  | 102, _, h => exact (Option.some.inj h) ▸ am_in_gt am_cw_102 rfl
  | 103, _, h => exact (Option.some.inj h) ▸ am_in_gt am_cw_103 rfl
  | 104, _, h => exact (Option.some.inj h) ▸ am_in_gt am_cw_104 rfl
  | 105, _, h => exact (Option.some.inj h) ▸ am_in_gt am_cw_105 rfl
  | 106, _, h => exact (Option.some.inj h) ▸ am_in_gt am_cw_106 rfl
  | 107, _, h => exact (Option.some.inj h) ▸ am_in_gt am_cw_107 rfl
  | 108, _, h => exact (Option.some.inj h) ▸ am_in_gt am_cw_108 rfl
  | 109, _, h => exact (Option.some.inj h) ▸ am_in_gt am_cw_109 rfl
  | 110, _, h => exact (Option.some.inj h) ▸ am_in_gt am_cw_110 rfl
  | 111, _, h => exact (Option.some.inj h) ▸ am_in_gt am_cw_111 rfl
  | 112, _, h => exact (Option.some.inj h) ▸ am_in_gt am_cw_112 rfl
  | 113, _, h => exact (Option.some.inj h) ▸ am_in_gt am_cw_113 rfl
  | 114, _, h => exact (Option.some.inj h) ▸ am_in_gt am_cw_114 rfl
  | 115, _, h => exact (Option.some.inj h) ▸ am_in_gt am_cw_115 rfl
  | 116, _, h => exact (Option.some.inj h) ▸ am_in_gt am_cw_116 rfl
  | 117, _, h => exact (Option.some.inj h) ▸ am_in_gt am_cw_117 rfl
  | 118, _, h => exact (Option.some.inj h) ▸ am_in_gt am_cw_118 rfl
  | 119, _, h => exact (Option.some.inj h) ▸ am_in_gt am_cw_119 rfl
  | 120, _, h => exact (Option.some.inj h) ▸ am_in_gt am_cw_120 rfl
  | 121, _, h => exact (Option.some.inj h) ▸ am_in_gt am_cw_121 rfl
  | 122, _, h => exact (Option.some.inj h) ▸ am_in_gt am_cw_122 rfl
  | 123, _, h => exact (Option.some.inj h) ▸ am_in_gt am_cw_123 rfl
  | 124, _, h => exact (Option.some.inj h) ▸ am_in_gt am_cw_124 rfl
  | 125, _, h => exact (Option.some.inj h) ▸ am_in_gt am_cw_125 rfl
  | 126, _, h => exact (Option.some.inj h) ▸ am_in_gt am_cw_126 rfl
  | 127, _, h => exact (Option.some.inj h) ▸ am_in_gt am_cw_127 rfl
  | 128, _, h => exact (Option.some.inj h) ▸ am_in_gt am_cw_128 rfl
  | 129, _, h => exact (Option.some.inj h) ▸ am_in_gt am_cw_129 rfl
  | 130, _, h => exact (Option.some.inj h) ▸ am_in_gt am_cw_130 rfl
  | 131, _, h => exact (Option.some.inj h) ▸ am_in_gt am_cw_131 rfl
  | 132, _, h => exact (Option.some.inj h) ▸ am_in_gt am_cw_132 rfl
  | 133, _, h => exact (Option.some.inj h) ▸ am_in_gt am_cw_133 rfl
  | 134, _, h => exact (Option.some.inj h) ▸ am_in_gt am_cw_134 rfl
  | 135, _, h => exact (Option.some.inj h) ▸ am_in_gt am_cw_135 rfl
  | 136, _, h => exact (Option.some.inj h) ▸ am_in_gt am_cw_136 rfl
  | 137, _, h => exact (Option.some.inj h) ▸ am_in_gt am_cw_137 rfl
  | 138, _, h => exact (Option.some.inj h) ▸ am_in_gt am_cw_138 rfl
  | 139, _, h => exact (Option.some.inj h) ▸ am_in_gt am_cw_139 rfl
  | 140, _, h => exact (Option.some.inj h) ▸ am_in_gt am_cw_140 rfl
  | 141, _, h => exact (Option.some.inj h) ▸ am_in_gt am_cw_141 rfl
  | 142, _, h => exact (Option.some.inj h) ▸ am_in_gt am_cw_142 rfl
  | 143, _, h => exact (Option.some.inj h) ▸ am_in_gt am_cw_143 rfl
  | 144, _, h => exact (Option.some.inj h) ▸ am_in_gt am_cw_144 rfl
  | 145, _, h => exact (Option.some.inj h) ▸ am_in_gt am_cw_145 rfl
  | 146, _, h => exact (Option.some.inj h) ▸ am_in_gt am_cw_146 rfl
  | 147, _, h => exact (Option.some.inj h) ▸ am_in_gt am_cw_147 rfl
  | 148, _, h => exact (Option.some.inj h) ▸ am_in_gt am_cw_148 rfl
  | 149, _, h => exact (Option.some.inj h) ▸ am_in_gt am_cw_149 rfl
  | 150, _, h => exact (Option.some.inj h) ▸ am_in_gt am_cw_150 rfl
  | 151, _, h => exact (Option.some.inj h) ▸ am_in_gt am_cw_151 rfl
  | 152, _, h => exact (Option.some.inj h) ▸ am_in_gt am_cw_152 rfl
  | 153, _, h => exact (Option.some.inj h) ▸ am_in_gt am_cw_153 rfl
  | 154, _, h => exact (Option.some.inj h) ▸ am_in_gt am_cw_154 rfl
  | 155, _, h => exact (Option.some.inj h) ▸ am_in_gt am_cw_155 rfl
  | 156, _, h => exact (Option.some.inj h) ▸ am_in_gt am_cw_156 rfl
  | 157, _, h => exact (Option.some.inj h) ▸ am_in_gt am_cw_157 rfl
  | 158, _, h => exact (Option.some.inj h) ▸ am_in_gt am_cw_158 rfl
  | 159, _, h => exact (Option.some.inj h) ▸ am_in_gt am_cw_159 rfl
  | 160, _, h => exact (Option.some.inj h) ▸ am_in_gt am_cw_160 rfl
  | 161, _, h => exact (Option.some.inj h) ▸ am_in_gt am_cw_161 rfl
  | 162, _, h => exact (Option.some.inj h) ▸ am_in_gt am_cw_162 rfl
  | 163, _, h => exact (Option.some.inj h) ▸ am_in_gt am_cw_163 rfl
  | 164, _, h => exact (Option.some.inj h) ▸ am_in_gt am_cw_164 rfl
  | 165, _, h => exact (Option.some.inj h) ▸ am_in_gt am_cw_165 rfl
  | 166, _, h => exact (Option.some.inj h) ▸ am_in_gt am_cw_166 rfl
  | 167, _, h => exact (Option.some.inj h) ▸ am_in_gt am_cw_167 rfl
  | 168, _, h => exact (Option.some.inj h) ▸ am_in_gt am_cw_168 rfl
  | 169, _, h => exact (Option.some.inj h) ▸ am_in_gt am_cw_169 rfl
  | 170, _, h => exact (Option.some.inj h) ▸ am_in_gt am_cw_170 rfl
  | 171, _, h => exact (Option.some.inj h) ▸ am_in_gt am_cw_171 rfl
  | 172, _, h => exact (Option.some.inj h) ▸ am_in_gt am_cw_172 rfl
  | 173, _, h => exact (Option.some.inj h) ▸ am_in_gt am_cw_173 rfl
  | 174, _, h => exact (Option.some.inj h) ▸ am_in_gt am_cw_174 rfl
  | 175, _, h => exact (Option.some.inj h) ▸ am_in_gt am_cw_175 rfl
  | 176, _, h => exact (Option.some.inj h) ▸ am_in_gt am_cw_176 rfl
  | 177, _, h => exact (Option.some.inj h) ▸ am_in_gt am_cw_177 rfl
  | 178, _, h => exact (Option.some.inj h) ▸ am_in_gt am_cw_178 rfl
  | 179, _, h => exact (Option.some.inj h) ▸ am_in_gt am_cw_179 rfl
  | 180, _, h => exact (Option.some.inj h) ▸ am_in_gt am_cw_180 rfl
def am_cok (e : Nat × Nat × Nat × Nat × Nat × Nat × Nat × Nat) : Bool := match e.2.2.1 with
  | 5 => decide (lw_tbl[e.2.2.2.2.2.1]? = some (.methodLink (am_cn e.1) e.2.1 Lib.objectInit))
  | 6 => decide (lw_tbl[e.2.2.2.2.2.1]? = some (.methodLink (am_cn e.1) e.2.1 arraycopyName))
  | 7 => decide (lw_tbl[e.2.2.2.2.2.1]? = some (.methodLink (am_cn e.1) e.2.1 Lib.Math.max.name))
  | 8 => decide (lw_tbl[e.2.2.2.2.2.1]? = some (.methodLink (am_cn e.1) e.2.1 Lib.Math.min.name))
  | k => match am_ms[e.2.2.2.1]? with
    | none => false
    | some ζ => decide ((parseMethodDescriptor ζ.1.desc).map (fun d => d.parameters.length) = some e.2.2.2.2.1) && (match k with
      | 0 => decide (lw_tbl[e.2.2.2.2.2.1]? = some (.methodLink (am_cn e.1) e.2.1 ζ.1)) && (decide (lw_tbl[e.2.2.2.2.2.2.1]? = some (.instanceMethod ζ.1)) && decide (lw_tbl[e.2.2.2.2.2.2.2]? = some (.selects ζ.1.cls ζ.1 ζ.1)))
      | 1 => decide (lw_tbl[e.2.2.2.2.2.1]? = some (.methodLink (am_cn e.1) e.2.1 ζ.1)) && decide (lw_tbl[e.2.2.2.2.2.2.1]? = some (.static ζ.1))
      | 2 => decide (lw_tbl[e.2.2.2.2.2.1]? = some (.methodLink (am_cn e.1) e.2.1 ζ.1)) && (decide (lw_tbl[e.2.2.2.2.2.2.1]? = some (.instanceMethod ζ.1)) && (decide (ζ.1.name = "<init>") && decide (ζ.2.2.2.1 = none)))
      | 3 => decide (lw_tbl[e.2.2.2.2.2.1]? = some (.methodLinkNest (am_cn e.1) e.2.1 ζ.1 RX8)) && decide (lw_tbl[e.2.2.2.2.2.2.1]? = some (.static ζ.1))
      | 4 => decide (lw_tbl[e.2.2.2.2.2.1]? = some (.methodLinkNest (am_cn e.1) e.2.1 ζ.1 RX8)) && (decide (lw_tbl[e.2.2.2.2.2.2.1]? = some (.instanceMethod ζ.1)) && (decide (ζ.1.name = "<init>") && decide (ζ.2.2.2.1 = none)))
      | _ => false)
theorem am_ctab_ok : am_ctab.all am_cok = true := by decide +kernel
def am_nok (e : Nat × Nat × Nat × Nat × Nat × Nat) : Bool := decide (lw_tbl[e.2.2.2.1]? = some (.classLink (am_cn e.1) e.2.1 (am_cn e.2.2.1))) && (decide (lw_tbl[e.2.2.2.2.1]? = some (.instantiable (am_cn e.2.2.1) (am_N e.2.2.1))) && (decide (lw_tbl[e.2.2.2.2.2]? = some (.initialized (am_cn e.2.2.1))) && decide (e.2.2.1 < 10)))
theorem am_ntab_ok : am_ntab.all am_nok = true := by decide +kernel
def am_kok (e : Nat × Nat × Int32 × Nat) : Bool := decide (lw_tbl[e.2.2.2]? = some (.constant (am_cn e.1) e.2.1 e.2.2.1))
theorem am_ktab_ok : am_ktab.all am_kok = true := by decide +kernel
def am_lok (e : Nat × Nat × Int64 × Nat) : Bool := decide (lw_tbl[e.2.2.2]? = some (.constantLong (am_cn e.1) e.2.1 e.2.2.1))
theorem am_ltab_ok : am_ltab.all am_lok = true := by decide +kernel
theorem am_w_sta : Cond.fieldLink (am_cn 2) 113 RX2 "BY_NUMBERS" "[I" ∈ am_gt := am_in_gt (i := 661) (by decide +kernel) rfl
theorem am_w_oi1 : Cond.instanceMethod Lib.objectInit ∈ am_gt := am_in_gt (i := 87) (by decide +kernel) rfl
theorem am_w_oi2 : Cond.code Lib.objectInit ⟨#[0xb1]⟩ 1 none ∈ am_gt := am_in_gt (i := 88) (by decide +kernel) rfl
theorem am_w_ac1 : Cond.native arraycopyName ∈ am_gt := am_in_gt (i := 534) (by decide +kernel) rfl
theorem am_w_ac2 : Cond.static arraycopyName ∈ am_gt := am_in_gt (i := 533) (by decide +kernel) rfl
theorem am_w_ac3 : Cond.initialized "java/lang/System" ∈ am_gt := am_in_gt (i := 79) (by decide +kernel) rfl
theorem am_w_ai : Cond.arrayClass .int ∈ am_gt := am_in_gt (i := 118) (by decide +kernel) rfl
theorem am_w_az : Cond.arrayClass .boolean ∈ am_gt := am_in_gt (i := 338) (by decide +kernel) rfl
theorem am_w_aoC : lw_tbl[238]? = some (.arrayOver (.object RX2)) := by decide +kernel
theorem am_w_aoJ : lw_tbl[301]? = some (.arrayOver (.object RX3)) := by decide +kernel
theorem am_w_ls : lw_tbl[662]? = some (.laysStatic RX2 "BY_NUMBERS" "[I") := by decide +kernel
theorem am_w_iC : Cond.initialized RX2 ∈ am_gt := am_in_gt (i := 74) (by decide +kernel) rfl
theorem am_lay_0 : ∀ w ∈ u_ws RX0 TX0 11, w ∈ am_gt := by
  have h : u_ws RX0 TX0 11 = ([364, 366, 368, 370, 372, 374, 376, 378, 380, 382, 384] : List Nat).filterMap (fun i => lw_tbl[i]?) := by decide +kernel
  have h2 : (u_ws RX0 TX0 11).all goodWord = true := by decide +kernel
  intro w hw
  refine List.mem_filter.mpr ⟨?_, List.all_eq_true.mp h2 w hw⟩
  rw [h] at hw
  obtain ⟨i, -, hi⟩ := List.mem_filterMap.mp hw
  exact List.mem_of_getElem? hi
theorem am_lay_1 : ∀ w ∈ u_ws RX1 TX1 8, w ∈ am_gt := by
  have h : u_ws RX1 TX1 8 = ([406, 408, 410, 412, 414, 416, 418, 420] : List Nat).filterMap (fun i => lw_tbl[i]?) := by decide +kernel
  have h2 : (u_ws RX1 TX1 8).all goodWord = true := by decide +kernel
  intro w hw
  refine List.mem_filter.mpr ⟨?_, List.all_eq_true.mp h2 w hw⟩
  rw [h] at hw
  obtain ⟨i, -, hi⟩ := List.mem_filterMap.mp hw
  exact List.mem_of_getElem? hi
theorem am_lay_2 : ∀ w ∈ u_ws RX2 TX2 9, w ∈ am_gt := by
  have h : u_ws RX2 TX2 9 = ([267, 269, 271, 273, 275, 277, 279, 281, 283] : List Nat).filterMap (fun i => lw_tbl[i]?) := by decide +kernel
  have h2 : (u_ws RX2 TX2 9).all goodWord = true := by decide +kernel
  intro w hw
  refine List.mem_filter.mpr ⟨?_, List.all_eq_true.mp h2 w hw⟩
  rw [h] at hw
  obtain ⟨i, -, hi⟩ := List.mem_filterMap.mp hw
  exact List.mem_of_getElem? hi
theorem am_lay_3 : ∀ w ∈ u_ws RX3 TX3 4, w ∈ am_gt := by
  have h : u_ws RX3 TX3 4 = ([292, 294, 296, 298] : List Nat).filterMap (fun i => lw_tbl[i]?) := by decide +kernel
  have h2 : (u_ws RX3 TX3 4).all goodWord = true := by decide +kernel
  intro w hw
  refine List.mem_filter.mpr ⟨?_, List.all_eq_true.mp h2 w hw⟩
  rw [h] at hw
  obtain ⟨i, -, hi⟩ := List.mem_filterMap.mp hw
  exact List.mem_of_getElem? hi
theorem am_lay_4 : ∀ w ∈ u_ws RX4 TX4 3, w ∈ am_gt := by
  have h : u_ws RX4 TX4 3 = ([224, 226, 228] : List Nat).filterMap (fun i => lw_tbl[i]?) := by decide +kernel
  have h2 : (u_ws RX4 TX4 3).all goodWord = true := by decide +kernel
  intro w hw
  refine List.mem_filter.mpr ⟨?_, List.all_eq_true.mp h2 w hw⟩
  rw [h] at hw
  obtain ⟨i, -, hi⟩ := List.mem_filterMap.mp hw
  exact List.mem_of_getElem? hi
theorem am_lay_5 : ∀ w ∈ u_ws RX5 TX5 13, w ∈ am_gt := by
  have h : u_ws RX5 TX5 13 = ([185, 187, 189, 191, 193, 195, 197, 199, 201, 203, 205, 207, 209] : List Nat).filterMap (fun i => lw_tbl[i]?) := by decide +kernel
  have h2 : (u_ws RX5 TX5 13).all goodWord = true := by decide +kernel
  intro w hw
  refine List.mem_filter.mpr ⟨?_, List.all_eq_true.mp h2 w hw⟩
  rw [h] at hw
  obtain ⟨i, -, hi⟩ := List.mem_filterMap.mp hw
  exact List.mem_of_getElem? hi
theorem am_lay_6 : ∀ w ∈ u_ws RX6 TX6 6, w ∈ am_gt := by
  have h : u_ws RX6 TX6 6 = ([105, 107, 109, 111, 113, 115] : List Nat).filterMap (fun i => lw_tbl[i]?) := by decide +kernel
  have h2 : (u_ws RX6 TX6 6).all goodWord = true := by decide +kernel
  intro w hw
  refine List.mem_filter.mpr ⟨?_, List.all_eq_true.mp h2 w hw⟩
  rw [h] at hw
  obtain ⟨i, -, hi⟩ := List.mem_filterMap.mp hw
  exact List.mem_of_getElem? hi
theorem am_lay_7 : ∀ w ∈ u_ws RX7 TX7 8, w ∈ am_gt := by
  have h : u_ws RX7 TX7 8 = ([321, 323, 325, 327, 329, 331, 333, 335] : List Nat).filterMap (fun i => lw_tbl[i]?) := by decide +kernel
  have h2 : (u_ws RX7 TX7 8).all goodWord = true := by decide +kernel
  intro w hw
  refine List.mem_filter.mpr ⟨?_, List.all_eq_true.mp h2 w hw⟩
  rw [h] at hw
  obtain ⟨i, -, hi⟩ := List.mem_filterMap.mp hw
  exact List.mem_of_getElem? hi
theorem am_lay_8 : ∀ w ∈ u_ws RX8 TX8 11, w ∈ am_gt := by
  have h : u_ws RX8 TX8 11 = ([434, 436, 438, 440, 442, 444, 446, 448, 450, 452, 454] : List Nat).filterMap (fun i => lw_tbl[i]?) := by decide +kernel
  have h2 : (u_ws RX8 TX8 11).all goodWord = true := by decide +kernel
  intro w hw
  refine List.mem_filter.mpr ⟨?_, List.all_eq_true.mp h2 w hw⟩
  rw [h] at hw
  obtain ⟨i, -, hi⟩ := List.mem_filterMap.mp hw
  exact List.mem_of_getElem? hi
theorem am_lay_9 : ∀ w ∈ u_ws RX9 TX9 17, w ∈ am_gt := by
  have h : u_ws RX9 TX9 17 = ([1019, 1021, 1023, 1025, 1027, 1029, 1031, 1033, 1035, 1037, 1039, 1041, 1043, 1045, 1047, 1049, 1051] : List Nat).filterMap (fun i => lw_tbl[i]?) := by decide +kernel
  have h2 : (u_ws RX9 TX9 17).all goodWord = true := by decide +kernel
  intro w hw
  refine List.mem_filter.mpr ⟨?_, List.all_eq_true.mp h2 w hw⟩
  rw [h] at hw
  obtain ⟨i, -, hi⟩ := List.mem_filterMap.mp hw
  exact List.mem_of_getElem? hi
theorem am_lay {ci : Nat} (h : ci < 10) : ∀ w ∈ u_ws (am_cn ci) (am_T ci) (am_N ci), w ∈ am_gt := by
  match ci, h with
  | 0, _ => exact am_lay_0
  | 1, _ => exact am_lay_1
  | 2, _ => exact am_lay_2
  | 3, _ => exact am_lay_3
  | 4, _ => exact am_lay_4
  | 5, _ => exact am_lay_5
  | 6, _ => exact am_lay_6
  | 7, _ => exact am_lay_7
  | 8, _ => exact am_lay_8
  | 9, _ => exact am_lay_9
  | n + 10, h => omega
theorem am_tyok {ci : Nat} (h : ci < 10) : ∀ k, k < am_N ci → parseFieldDescriptor (am_T ci k).2.2.1 = some (am_ty ci k) := by
  match ci, h with
  | 0, _ => exact tyX0_ok
  | 1, _ => exact tyX1_ok
  | 2, _ => exact tyX2_ok
  | 3, _ => exact tyX3_ok
  | 4, _ => exact tyX4_ok
  | 5, _ => exact tyX5_ok
  | 6, _ => exact tyX6_ok
  | 7, _ => exact tyX7_ok
  | 8, _ => exact tyX8_ok
  | 9, _ => exact tyX9_ok
  | n + 10, h => omega
theorem am_nmok {ci : Nat} (h : ci < 10) : ∀ a, a < am_N ci → ∀ b, b < am_N ci → a ≠ b → (am_T ci a).2.1 ≠ (am_T ci b).2.1 := by
  match ci, h with
  | 0, _ => exact nmX0
  | 1, _ => exact nmX1
  | 2, _ => exact nmX2
  | 3, _ => exact nmX3
  | 4, _ => exact nmX4
  | 5, _ => exact nmX5
  | 6, _ => exact nmX6
  | 7, _ => exact nmX7
  | 8, _ => exact nmX8
  | 9, _ => exact nmX9
  | n + 10, h => omega
theorem am_clok {ci : Nat} (h : ci < 10) : vwCl[ci]? = some (am_cn ci, am_T ci, am_N ci) := by
  match ci, h with
  | 0, _ => rfl
  | 1, _ => rfl
  | 2, _ => rfl
  | 3, _ => rfl
  | 4, _ => rfl
  | 5, _ => rfl
  | 6, _ => rfl
  | 7, _ => rfl
  | 8, _ => rfl
  | 9, _ => rfl
  | n + 10, h => omega
theorem am_w_mx1 : Cond.static Lib.Math.max.name ∈ am_gt := am_in_gt (i := 576) (by decide +kernel) rfl
theorem am_w_mx2 : Cond.code Lib.Math.max.name Lib.Math.max.code 2 (some .int) ∈ am_gt := am_in_gt (i := 577) (by decide +kernel) rfl
theorem am_w_mi1 : Cond.static Lib.Math.min.name ∈ am_gt := am_in_gt (i := 573) (by decide +kernel) rfl
theorem am_w_mi2 : Cond.code Lib.Math.min.name Lib.Math.min.code 2 (some .int) ∈ am_gt := am_in_gt (i := 574) (by decide +kernel) rfl
theorem am_w_mini : Cond.initialized "java/lang/Math" ∈ am_gt := am_in_gt (i := 80) (by decide +kernel) rfl
