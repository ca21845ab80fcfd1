-- the cases of the law, over an invariant
theorem lk1_13 : Cond.methodLink RL 13 mX8_type.1 ∈ am_gt := am_in_gt (i := 457) (by decide +kernel) rfl
theorem lk2_13 : Cond.instanceMethod mX8_type.1 ∈ am_gt := am_in_gt (i := 458) (by decide +kernel) rfl
theorem lk3_13 : Cond.selects mX8_type.1.cls mX8_type.1 mX8_type.1 ∈ am_gt := am_in_gt (i := 459) (by decide +kernel) rfl
theorem lk4_13 : (parseMethodDescriptor mX8_type.1.desc).map (fun d => d.parameters.length) = some 1 := by decide +kernel
theorem ms_80 : am_ms[80]? = some mX8_type := by rfl
theorem lk1_17 : Cond.methodLink RL 17 mX9_type.1 ∈ am_gt := am_in_gt (i := 1054) (by decide +kernel) rfl
theorem lk2_17 : Cond.instanceMethod mX9_type.1 ∈ am_gt := am_in_gt (i := 1055) (by decide +kernel) rfl
theorem lk3_17 : Cond.selects mX9_type.1.cls mX9_type.1 mX9_type.1 ∈ am_gt := am_in_gt (i := 1056) (by decide +kernel) rfl
theorem lk4_17 : (parseMethodDescriptor mX9_type.1.desc).map (fun d => d.parameters.length) = some 1 := by decide +kernel
theorem ms_122 : am_ms[122]? = some mX9_type := by rfl
theorem lk1_18 : Cond.methodLink RL 18 mX8_clear.1 ∈ am_gt := am_in_gt (i := 468) (by decide +kernel) rfl
theorem lk2_18 : Cond.instanceMethod mX8_clear.1 ∈ am_gt := am_in_gt (i := 469) (by decide +kernel) rfl
theorem lk3_18 : Cond.selects mX8_clear.1.cls mX8_clear.1 mX8_clear.1 ∈ am_gt := am_in_gt (i := 470) (by decide +kernel) rfl
theorem lk4_18 : (parseMethodDescriptor mX8_clear.1.desc).map (fun d => d.parameters.length) = some 0 := by decide +kernel
theorem ms_81 : am_ms[81]? = some mX8_clear := by rfl
theorem lk1_22 : Cond.methodLink RL 22 mX9_clear.1 ∈ am_gt := am_in_gt (i := 1058) (by decide +kernel) rfl
theorem lk2_22 : Cond.instanceMethod mX9_clear.1 ∈ am_gt := am_in_gt (i := 1059) (by decide +kernel) rfl
theorem lk3_22 : Cond.selects mX9_clear.1.cls mX9_clear.1 mX9_clear.1 ∈ am_gt := am_in_gt (i := 1060) (by decide +kernel) rfl
theorem lk4_22 : (parseMethodDescriptor mX9_clear.1.desc).map (fun d => d.parameters.length) = some 0 := by decide +kernel
theorem ms_123 : am_ms[123]? = some mX9_clear := by rfl
theorem lk1_23 : Cond.methodLink RL 23 mX8_way.1 ∈ am_gt := am_in_gt (i := 472) (by decide +kernel) rfl
theorem lk2_23 : Cond.instanceMethod mX8_way.1 ∈ am_gt := am_in_gt (i := 473) (by decide +kernel) rfl
theorem lk3_23 : Cond.selects mX8_way.1.cls mX8_way.1 mX8_way.1 ∈ am_gt := am_in_gt (i := 474) (by decide +kernel) rfl
theorem lk4_23 : (parseMethodDescriptor mX8_way.1.desc).map (fun d => d.parameters.length) = some 0 := by decide +kernel
theorem ms_82 : am_ms[82]? = some mX8_way := by rfl
theorem lk1_26 : Cond.methodLink RL 26 mX9_way.1 ∈ am_gt := am_in_gt (i := 1062) (by decide +kernel) rfl
theorem lk2_26 : Cond.instanceMethod mX9_way.1 ∈ am_gt := am_in_gt (i := 1063) (by decide +kernel) rfl
theorem lk3_26 : Cond.selects mX9_way.1.cls mX9_way.1 mX9_way.1 ∈ am_gt := am_in_gt (i := 1064) (by decide +kernel) rfl
theorem lk4_26 : (parseMethodDescriptor mX9_way.1.desc).map (fun d => d.parameters.length) = some 0 := by decide +kernel
theorem ms_135 : am_ms[135]? = some mX9_way := by rfl
theorem lk1_27 : Cond.methodLink RL 27 mX8_walker.1 ∈ am_gt := am_in_gt (i := 544) (by decide +kernel) rfl
theorem lk2_27 : Cond.instanceMethod mX8_walker.1 ∈ am_gt := am_in_gt (i := 545) (by decide +kernel) rfl
theorem lk3_27 : Cond.selects mX8_walker.1.cls mX8_walker.1 mX8_walker.1 ∈ am_gt := am_in_gt (i := 546) (by decide +kernel) rfl
theorem lk4_27 : (parseMethodDescriptor mX8_walker.1.desc).map (fun d => d.parameters.length) = some 2 := by decide +kernel
theorem ms_83 : am_ms[83]? = some mX8_walker := by rfl
theorem lk1_31 : Cond.methodLink RL 31 mX9_walker.1 ∈ am_gt := am_in_gt (i := 1066) (by decide +kernel) rfl
theorem lk2_31 : Cond.instanceMethod mX9_walker.1 ∈ am_gt := am_in_gt (i := 1067) (by decide +kernel) rfl
theorem lk3_31 : Cond.selects mX9_walker.1.cls mX9_walker.1 mX9_walker.1 ∈ am_gt := am_in_gt (i := 1068) (by decide +kernel) rfl
theorem lk4_31 : (parseMethodDescriptor mX9_walker.1.desc).map (fun d => d.parameters.length) = some 2 := by decide +kernel
theorem ms_141 : am_ms[141]? = some mX9_walker := by rfl
theorem lk1_32 : Cond.methodLink RL 32 mX8_thing.1 ∈ am_gt := am_in_gt (i := 582) (by decide +kernel) rfl
theorem lk2_32 : Cond.instanceMethod mX8_thing.1 ∈ am_gt := am_in_gt (i := 583) (by decide +kernel) rfl
theorem lk3_32 : Cond.selects mX8_thing.1.cls mX8_thing.1 mX8_thing.1 ∈ am_gt := am_in_gt (i := 584) (by decide +kernel) rfl
theorem lk4_32 : (parseMethodDescriptor mX8_thing.1.desc).map (fun d => d.parameters.length) = some 2 := by decide +kernel
theorem ms_84 : am_ms[84]? = some mX8_thing := by rfl
theorem lk1_35 : Cond.methodLink RL 35 mX9_thing.1 ∈ am_gt := am_in_gt (i := 1090) (by decide +kernel) rfl
theorem lk2_35 : Cond.instanceMethod mX9_thing.1 ∈ am_gt := am_in_gt (i := 1091) (by decide +kernel) rfl
theorem lk3_35 : Cond.selects mX9_thing.1.cls mX9_thing.1 mX9_thing.1 ∈ am_gt := am_in_gt (i := 1092) (by decide +kernel) rfl
theorem lk4_35 : (parseMethodDescriptor mX9_thing.1.desc).map (fun d => d.parameters.length) = some 2 := by decide +kernel
theorem ms_142 : am_ms[142]? = some mX9_thing := by rfl
theorem lk1_36 : Cond.methodLink RL 36 mX8_stage.1 ∈ am_gt := am_in_gt (i := 592) (by decide +kernel) rfl
theorem lk2_36 : Cond.instanceMethod mX8_stage.1 ∈ am_gt := am_in_gt (i := 593) (by decide +kernel) rfl
theorem lk3_36 : Cond.selects mX8_stage.1.cls mX8_stage.1 mX8_stage.1 ∈ am_gt := am_in_gt (i := 594) (by decide +kernel) rfl
theorem lk4_36 : (parseMethodDescriptor mX8_stage.1.desc).map (fun d => d.parameters.length) = some 2 := by decide +kernel
theorem ms_85 : am_ms[85]? = some mX8_stage := by rfl
theorem lk1_39 : Cond.methodLink RL 39 mX9_stage.1 ∈ am_gt := am_in_gt (i := 1098) (by decide +kernel) rfl
theorem lk2_39 : Cond.instanceMethod mX9_stage.1 ∈ am_gt := am_in_gt (i := 1099) (by decide +kernel) rfl
theorem lk3_39 : Cond.selects mX9_stage.1.cls mX9_stage.1 mX9_stage.1 ∈ am_gt := am_in_gt (i := 1100) (by decide +kernel) rfl
theorem lk4_39 : (parseMethodDescriptor mX9_stage.1.desc).map (fun d => d.parameters.length) = some 2 := by decide +kernel
theorem ms_143 : am_ms[143]? = some mX9_stage := by rfl
theorem lk1_40 : Cond.methodLink RL 40 mX8_gives.1 ∈ am_gt := am_in_gt (i := 596) (by decide +kernel) rfl
theorem lk2_40 : Cond.instanceMethod mX8_gives.1 ∈ am_gt := am_in_gt (i := 597) (by decide +kernel) rfl
theorem lk3_40 : Cond.selects mX8_gives.1.cls mX8_gives.1 mX8_gives.1 ∈ am_gt := am_in_gt (i := 598) (by decide +kernel) rfl
theorem lk4_40 : (parseMethodDescriptor mX8_gives.1.desc).map (fun d => d.parameters.length) = some 2 := by decide +kernel
theorem ms_86 : am_ms[86]? = some mX8_gives := by rfl
theorem lk1_43 : Cond.methodLink RL 43 mX9_gives.1 ∈ am_gt := am_in_gt (i := 1102) (by decide +kernel) rfl
theorem lk2_43 : Cond.instanceMethod mX9_gives.1 ∈ am_gt := am_in_gt (i := 1103) (by decide +kernel) rfl
theorem lk3_43 : Cond.selects mX9_gives.1.cls mX9_gives.1 mX9_gives.1 ∈ am_gt := am_in_gt (i := 1104) (by decide +kernel) rfl
theorem lk4_43 : (parseMethodDescriptor mX9_gives.1.desc).map (fun d => d.parameters.length) = some 2 := by decide +kernel
theorem ms_145 : am_ms[145]? = some mX9_gives := by rfl
theorem lk1_44 : Cond.methodLink RL 44 mX8_leaves.1 ∈ am_gt := am_in_gt (i := 617) (by decide +kernel) rfl
theorem lk2_44 : Cond.instanceMethod mX8_leaves.1 ∈ am_gt := am_in_gt (i := 618) (by decide +kernel) rfl
theorem lk3_44 : Cond.selects mX8_leaves.1.cls mX8_leaves.1 mX8_leaves.1 ∈ am_gt := am_in_gt (i := 619) (by decide +kernel) rfl
theorem lk4_44 : (parseMethodDescriptor mX8_leaves.1.desc).map (fun d => d.parameters.length) = some 1 := by decide +kernel
theorem ms_87 : am_ms[87]? = some mX8_leaves := by rfl
theorem lk1_47 : Cond.methodLink RL 47 mX9_leaves.1 ∈ am_gt := am_in_gt (i := 1110) (by decide +kernel) rfl
theorem lk2_47 : Cond.instanceMethod mX9_leaves.1 ∈ am_gt := am_in_gt (i := 1111) (by decide +kernel) rfl
theorem lk3_47 : Cond.selects mX9_leaves.1.cls mX9_leaves.1 mX9_leaves.1 ∈ am_gt := am_in_gt (i := 1112) (by decide +kernel) rfl
theorem lk4_47 : (parseMethodDescriptor mX9_leaves.1.desc).map (fun d => d.parameters.length) = some 1 := by decide +kernel
theorem ms_147 : am_ms[147]? = some mX9_leaves := by rfl
theorem lk1_48 : Cond.methodLink RL 48 mX8_goes.1 ∈ am_gt := am_in_gt (i := 626) (by decide +kernel) rfl
theorem lk2_48 : Cond.instanceMethod mX8_goes.1 ∈ am_gt := am_in_gt (i := 627) (by decide +kernel) rfl
theorem lk3_48 : Cond.selects mX8_goes.1.cls mX8_goes.1 mX8_goes.1 ∈ am_gt := am_in_gt (i := 628) (by decide +kernel) rfl
theorem lk4_48 : (parseMethodDescriptor mX8_goes.1.desc).map (fun d => d.parameters.length) = some 0 := by decide +kernel
theorem ms_88 : am_ms[88]? = some mX8_goes := by rfl
theorem lk1_51 : Cond.methodLink RL 51 mX9_goes.1 ∈ am_gt := am_in_gt (i := 1118) (by decide +kernel) rfl
theorem lk2_51 : Cond.instanceMethod mX9_goes.1 ∈ am_gt := am_in_gt (i := 1119) (by decide +kernel) rfl
theorem lk3_51 : Cond.selects mX9_goes.1.cls mX9_goes.1 mX9_goes.1 ∈ am_gt := am_in_gt (i := 1120) (by decide +kernel) rfl
theorem lk4_51 : (parseMethodDescriptor mX9_goes.1.desc).map (fun d => d.parameters.length) = some 0 := by decide +kernel
theorem ms_155 : am_ms[155]? = some mX9_goes := by rfl
theorem lk1_52 : Cond.methodLink RL 52 mX8_undo.1 ∈ am_gt := am_in_gt (i := 671) (by decide +kernel) rfl
theorem lk2_52 : Cond.instanceMethod mX8_undo.1 ∈ am_gt := am_in_gt (i := 672) (by decide +kernel) rfl
theorem lk3_52 : Cond.selects mX8_undo.1.cls mX8_undo.1 mX8_undo.1 ∈ am_gt := am_in_gt (i := 673) (by decide +kernel) rfl
theorem lk4_52 : (parseMethodDescriptor mX8_undo.1.desc).map (fun d => d.parameters.length) = some 0 := by decide +kernel
theorem ms_89 : am_ms[89]? = some mX8_undo := by rfl
theorem lk1_55 : Cond.methodLink RL 55 mX9_undo.1 ∈ am_gt := am_in_gt (i := 1153) (by decide +kernel) rfl
theorem lk2_55 : Cond.instanceMethod mX9_undo.1 ∈ am_gt := am_in_gt (i := 1154) (by decide +kernel) rfl
theorem lk3_55 : Cond.selects mX9_undo.1.cls mX9_undo.1 mX9_undo.1 ∈ am_gt := am_in_gt (i := 1155) (by decide +kernel) rfl
theorem lk4_55 : (parseMethodDescriptor mX9_undo.1.desc).map (fun d => d.parameters.length) = some 0 := by decide +kernel
theorem ms_156 : am_ms[156]? = some mX9_undo := by rfl
theorem lk1_56 : Cond.methodLink RL 56 mX8_now.1 ∈ am_gt := am_in_gt (i := 679) (by decide +kernel) rfl
theorem lk2_56 : Cond.instanceMethod mX8_now.1 ∈ am_gt := am_in_gt (i := 680) (by decide +kernel) rfl
theorem lk3_56 : Cond.selects mX8_now.1.cls mX8_now.1 mX8_now.1 ∈ am_gt := am_in_gt (i := 681) (by decide +kernel) rfl
theorem lk4_56 : (parseMethodDescriptor mX8_now.1.desc).map (fun d => d.parameters.length) = some 1 := by decide +kernel
theorem ms_90 : am_ms[90]? = some mX8_now := by rfl
theorem lk1_59 : Cond.methodLink RL 59 mX9_now.1 ∈ am_gt := am_in_gt (i := 1157) (by decide +kernel) rfl
theorem lk2_59 : Cond.instanceMethod mX9_now.1 ∈ am_gt := am_in_gt (i := 1158) (by decide +kernel) rfl
theorem lk3_59 : Cond.selects mX9_now.1.cls mX9_now.1 mX9_now.1 ∈ am_gt := am_in_gt (i := 1159) (by decide +kernel) rfl
theorem lk4_59 : (parseMethodDescriptor mX9_now.1.desc).map (fun d => d.parameters.length) = some 1 := by decide +kernel
theorem ms_159 : am_ms[159]? = some mX9_now := by rfl
theorem lk1_60 : Cond.methodLink RL 60 mX8_rest.1 ∈ am_gt := am_in_gt (i := 693) (by decide +kernel) rfl
theorem lk2_60 : Cond.instanceMethod mX8_rest.1 ∈ am_gt := am_in_gt (i := 694) (by decide +kernel) rfl
theorem lk3_60 : Cond.selects mX8_rest.1.cls mX8_rest.1 mX8_rest.1 ∈ am_gt := am_in_gt (i := 695) (by decide +kernel) rfl
theorem lk4_60 : (parseMethodDescriptor mX8_rest.1.desc).map (fun d => d.parameters.length) = some 1 := by decide +kernel
theorem ms_91 : am_ms[91]? = some mX8_rest := by rfl
theorem lk1_63 : Cond.methodLink RL 63 mX9_rest.1 ∈ am_gt := am_in_gt (i := 1169) (by decide +kernel) rfl
theorem lk2_63 : Cond.instanceMethod mX9_rest.1 ∈ am_gt := am_in_gt (i := 1170) (by decide +kernel) rfl
theorem lk3_63 : Cond.selects mX9_rest.1.cls mX9_rest.1 mX9_rest.1 ∈ am_gt := am_in_gt (i := 1171) (by decide +kernel) rfl
theorem lk4_63 : (parseMethodDescriptor mX9_rest.1.desc).map (fun d => d.parameters.length) = some 1 := by decide +kernel
theorem ms_162 : am_ms[162]? = some mX9_rest := by rfl
theorem lk1_64 : Cond.methodLink RL 64 mX8_spent.1 ∈ am_gt := am_in_gt (i := 711) (by decide +kernel) rfl
theorem lk2_64 : Cond.instanceMethod mX8_spent.1 ∈ am_gt := am_in_gt (i := 712) (by decide +kernel) rfl
theorem lk3_64 : Cond.selects mX8_spent.1.cls mX8_spent.1 mX8_spent.1 ∈ am_gt := am_in_gt (i := 713) (by decide +kernel) rfl
theorem lk4_64 : (parseMethodDescriptor mX8_spent.1.desc).map (fun d => d.parameters.length) = some 1 := by decide +kernel
theorem ms_92 : am_ms[92]? = some mX8_spent := by rfl
theorem lk1_67 : Cond.methodLink RL 67 mX9_spent.1 ∈ am_gt := am_in_gt (i := 1181) (by decide +kernel) rfl
theorem lk2_67 : Cond.instanceMethod mX9_spent.1 ∈ am_gt := am_in_gt (i := 1182) (by decide +kernel) rfl
theorem lk3_67 : Cond.selects mX9_spent.1.cls mX9_spent.1 mX9_spent.1 ∈ am_gt := am_in_gt (i := 1183) (by decide +kernel) rfl
theorem lk4_67 : (parseMethodDescriptor mX9_spent.1.desc).map (fun d => d.parameters.length) = some 1 := by decide +kernel
theorem ms_163 : am_ms[163]? = some mX9_spent := by rfl
theorem lk1_68 : Cond.methodLink RL 68 mX8_soonest.1 ∈ am_gt := am_in_gt (i := 722) (by decide +kernel) rfl
theorem lk2_68 : Cond.instanceMethod mX8_soonest.1 ∈ am_gt := am_in_gt (i := 723) (by decide +kernel) rfl
theorem lk3_68 : Cond.selects mX8_soonest.1.cls mX8_soonest.1 mX8_soonest.1 ∈ am_gt := am_in_gt (i := 724) (by decide +kernel) rfl
theorem lk4_68 : (parseMethodDescriptor mX8_soonest.1.desc).map (fun d => d.parameters.length) = some 1 := by decide +kernel
theorem ms_93 : am_ms[93]? = some mX8_soonest := by rfl
theorem lk1_71 : Cond.methodLink RL 71 mX9_soonest.1 ∈ am_gt := am_in_gt (i := 1185) (by decide +kernel) rfl
theorem lk2_71 : Cond.instanceMethod mX9_soonest.1 ∈ am_gt := am_in_gt (i := 1186) (by decide +kernel) rfl
theorem lk3_71 : Cond.selects mX9_soonest.1.cls mX9_soonest.1 mX9_soonest.1 ∈ am_gt := am_in_gt (i := 1187) (by decide +kernel) rfl
theorem lk4_71 : (parseMethodDescriptor mX9_soonest.1.desc).map (fun d => d.parameters.length) = some 1 := by decide +kernel
theorem ms_164 : am_ms[164]? = some mX9_soonest := by rfl
theorem lk1_72 : Cond.methodLink RL 72 mX8_helps.1 ∈ am_gt := am_in_gt (i := 757) (by decide +kernel) rfl
theorem lk2_72 : Cond.instanceMethod mX8_helps.1 ∈ am_gt := am_in_gt (i := 758) (by decide +kernel) rfl
theorem lk3_72 : Cond.selects mX8_helps.1.cls mX8_helps.1 mX8_helps.1 ∈ am_gt := am_in_gt (i := 759) (by decide +kernel) rfl
theorem lk4_72 : (parseMethodDescriptor mX8_helps.1.desc).map (fun d => d.parameters.length) = some 0 := by decide +kernel
theorem ms_94 : am_ms[94]? = some mX8_helps := by rfl
theorem lk1_75 : Cond.methodLink RL 75 mX9_helps.1 ∈ am_gt := am_in_gt (i := 1193) (by decide +kernel) rfl
theorem lk2_75 : Cond.instanceMethod mX9_helps.1 ∈ am_gt := am_in_gt (i := 1194) (by decide +kernel) rfl
theorem lk3_75 : Cond.selects mX9_helps.1.cls mX9_helps.1 mX9_helps.1 ∈ am_gt := am_in_gt (i := 1195) (by decide +kernel) rfl
theorem lk4_75 : (parseMethodDescriptor mX9_helps.1.desc).map (fun d => d.parameters.length) = some 0 := by decide +kernel
theorem ms_166 : am_ms[166]? = some mX9_helps := by rfl
theorem lk1_76 : Cond.methodLink RL 76 mX8_leave.1 ∈ am_gt := am_in_gt (i := 770) (by decide +kernel) rfl
theorem lk2_76 : Cond.instanceMethod mX8_leave.1 ∈ am_gt := am_in_gt (i := 771) (by decide +kernel) rfl
theorem lk3_76 : Cond.selects mX8_leave.1.cls mX8_leave.1 mX8_leave.1 ∈ am_gt := am_in_gt (i := 772) (by decide +kernel) rfl
theorem lk4_76 : (parseMethodDescriptor mX8_leave.1.desc).map (fun d => d.parameters.length) = some 2 := by decide +kernel
theorem ms_95 : am_ms[95]? = some mX8_leave := by rfl
theorem lk1_79 : Cond.methodLink RL 79 mX9_leave.1 ∈ am_gt := am_in_gt (i := 1197) (by decide +kernel) rfl
theorem lk2_79 : Cond.instanceMethod mX9_leave.1 ∈ am_gt := am_in_gt (i := 1198) (by decide +kernel) rfl
theorem lk3_79 : Cond.selects mX9_leave.1.cls mX9_leave.1 mX9_leave.1 ∈ am_gt := am_in_gt (i := 1199) (by decide +kernel) rfl
theorem lk4_79 : (parseMethodDescriptor mX9_leave.1.desc).map (fun d => d.parameters.length) = some 2 := by decide +kernel
theorem ms_167 : am_ms[167]? = some mX9_leave := by rfl
theorem lk1_80 : Cond.methodLink RL 80 mX8_eat.1 ∈ am_gt := am_in_gt (i := 787) (by decide +kernel) rfl
theorem lk2_80 : Cond.instanceMethod mX8_eat.1 ∈ am_gt := am_in_gt (i := 788) (by decide +kernel) rfl
theorem lk3_80 : Cond.selects mX8_eat.1.cls mX8_eat.1 mX8_eat.1 ∈ am_gt := am_in_gt (i := 789) (by decide +kernel) rfl
theorem lk4_80 : (parseMethodDescriptor mX8_eat.1.desc).map (fun d => d.parameters.length) = some 1 := by decide +kernel
theorem ms_96 : am_ms[96]? = some mX8_eat := by rfl
theorem lk1_83 : Cond.methodLink RL 83 mX9_eat.1 ∈ am_gt := am_in_gt (i := 1201) (by decide +kernel) rfl
theorem lk2_83 : Cond.instanceMethod mX9_eat.1 ∈ am_gt := am_in_gt (i := 1202) (by decide +kernel) rfl
theorem lk3_83 : Cond.selects mX9_eat.1.cls mX9_eat.1 mX9_eat.1 ∈ am_gt := am_in_gt (i := 1203) (by decide +kernel) rfl
theorem lk4_83 : (parseMethodDescriptor mX9_eat.1.desc).map (fun d => d.parameters.length) = some 1 := by decide +kernel
theorem ms_168 : am_ms[168]? = some mX9_eat := by rfl
theorem lk1_84 : Cond.methodLink RL 84 mX8_truly.1 ∈ am_gt := am_in_gt (i := 837) (by decide +kernel) rfl
theorem lk2_84 : Cond.instanceMethod mX8_truly.1 ∈ am_gt := am_in_gt (i := 838) (by decide +kernel) rfl
theorem lk3_84 : Cond.selects mX8_truly.1.cls mX8_truly.1 mX8_truly.1 ∈ am_gt := am_in_gt (i := 839) (by decide +kernel) rfl
theorem lk4_84 : (parseMethodDescriptor mX8_truly.1.desc).map (fun d => d.parameters.length) = some 4 := by decide +kernel
theorem ms_97 : am_ms[97]? = some mX8_truly := by rfl
theorem lk1_88 : Cond.methodLink RL 88 mX9_truly.1 ∈ am_gt := am_in_gt (i := 1209) (by decide +kernel) rfl
theorem lk2_88 : Cond.instanceMethod mX9_truly.1 ∈ am_gt := am_in_gt (i := 1210) (by decide +kernel) rfl
theorem lk3_88 : Cond.selects mX9_truly.1.cls mX9_truly.1 mX9_truly.1 ∈ am_gt := am_in_gt (i := 1211) (by decide +kernel) rfl
theorem lk4_88 : (parseMethodDescriptor mX9_truly.1.desc).map (fun d => d.parameters.length) = some 4 := by decide +kernel
theorem ms_170 : am_ms[170]? = some mX9_truly := by rfl
theorem lk1_89 : Cond.methodLink RL 89 mX8_odds.1 ∈ am_gt := am_in_gt (i := 846) (by decide +kernel) rfl
theorem lk2_89 : Cond.instanceMethod mX8_odds.1 ∈ am_gt := am_in_gt (i := 847) (by decide +kernel) rfl
theorem lk3_89 : Cond.selects mX8_odds.1.cls mX8_odds.1 mX8_odds.1 ∈ am_gt := am_in_gt (i := 848) (by decide +kernel) rfl
theorem lk4_89 : (parseMethodDescriptor mX8_odds.1.desc).map (fun d => d.parameters.length) = some 3 := by decide +kernel
theorem ms_98 : am_ms[98]? = some mX8_odds := by rfl
theorem lk1_93 : Cond.methodLink RL 93 mX9_odds.1 ∈ am_gt := am_in_gt (i := 1213) (by decide +kernel) rfl
theorem lk2_93 : Cond.instanceMethod mX9_odds.1 ∈ am_gt := am_in_gt (i := 1214) (by decide +kernel) rfl
theorem lk3_93 : Cond.selects mX9_odds.1.cls mX9_odds.1 mX9_odds.1 ∈ am_gt := am_in_gt (i := 1215) (by decide +kernel) rfl
theorem lk4_93 : (parseMethodDescriptor mX9_odds.1.desc).map (fun d => d.parameters.length) = some 3 := by decide +kernel
theorem ms_171 : am_ms[171]? = some mX9_odds := by rfl
theorem lk1_94 : Cond.methodLink RL 94 mX8_book.1 ∈ am_gt := am_in_gt (i := 869) (by decide +kernel) rfl
theorem lk2_94 : Cond.instanceMethod mX8_book.1 ∈ am_gt := am_in_gt (i := 870) (by decide +kernel) rfl
theorem lk3_94 : Cond.selects mX8_book.1.cls mX8_book.1 mX8_book.1 ∈ am_gt := am_in_gt (i := 871) (by decide +kernel) rfl
theorem lk4_94 : (parseMethodDescriptor mX8_book.1.desc).map (fun d => d.parameters.length) = some 3 := by decide +kernel
theorem ms_99 : am_ms[99]? = some mX8_book := by rfl
theorem lk1_98 : Cond.methodLink RL 98 mX9_book.1 ∈ am_gt := am_in_gt (i := 1219) (by decide +kernel) rfl
theorem lk2_98 : Cond.instanceMethod mX9_book.1 ∈ am_gt := am_in_gt (i := 1220) (by decide +kernel) rfl
theorem lk3_98 : Cond.selects mX9_book.1.cls mX9_book.1 mX9_book.1 ∈ am_gt := am_in_gt (i := 1221) (by decide +kernel) rfl
theorem lk4_98 : (parseMethodDescriptor mX9_book.1.desc).map (fun d => d.parameters.length) = some 3 := by decide +kernel
theorem ms_172 : am_ms[172]? = some mX9_book := by rfl
theorem lk1_99 : Cond.methodLink RL 99 mX8_burn.1 ∈ am_gt := am_in_gt (i := 877) (by decide +kernel) rfl
theorem lk2_99 : Cond.instanceMethod mX8_burn.1 ∈ am_gt := am_in_gt (i := 878) (by decide +kernel) rfl
theorem lk3_99 : Cond.selects mX8_burn.1.cls mX8_burn.1 mX8_burn.1 ∈ am_gt := am_in_gt (i := 879) (by decide +kernel) rfl
theorem lk4_99 : (parseMethodDescriptor mX8_burn.1.desc).map (fun d => d.parameters.length) = some 0 := by decide +kernel
theorem ms_100 : am_ms[100]? = some mX8_burn := by rfl
theorem lk1_102 : Cond.methodLink RL 102 mX9_burn.1 ∈ am_gt := am_in_gt (i := 1223) (by decide +kernel) rfl
theorem lk2_102 : Cond.instanceMethod mX9_burn.1 ∈ am_gt := am_in_gt (i := 1224) (by decide +kernel) rfl
theorem lk3_102 : Cond.selects mX9_burn.1.cls mX9_burn.1 mX9_burn.1 ∈ am_gt := am_in_gt (i := 1225) (by decide +kernel) rfl
theorem lk4_102 : (parseMethodDescriptor mX9_burn.1.desc).map (fun d => d.parameters.length) = some 0 := by decide +kernel
theorem ms_173 : am_ms[173]? = some mX9_burn := by rfl
theorem lk1_103 : Cond.methodLink RL 103 mX8_sacks.1 ∈ am_gt := am_in_gt (i := 881) (by decide +kernel) rfl
theorem lk2_103 : Cond.instanceMethod mX8_sacks.1 ∈ am_gt := am_in_gt (i := 882) (by decide +kernel) rfl
theorem lk3_103 : Cond.selects mX8_sacks.1.cls mX8_sacks.1 mX8_sacks.1 ∈ am_gt := am_in_gt (i := 883) (by decide +kernel) rfl
theorem lk4_103 : (parseMethodDescriptor mX8_sacks.1.desc).map (fun d => d.parameters.length) = some 1 := by decide +kernel
theorem ms_101 : am_ms[101]? = some mX8_sacks := by rfl
theorem lk1_106 : Cond.methodLink RL 106 mX9_sacks.1 ∈ am_gt := am_in_gt (i := 1227) (by decide +kernel) rfl
theorem lk2_106 : Cond.instanceMethod mX9_sacks.1 ∈ am_gt := am_in_gt (i := 1228) (by decide +kernel) rfl
theorem lk3_106 : Cond.selects mX9_sacks.1.cls mX9_sacks.1 mX9_sacks.1 ∈ am_gt := am_in_gt (i := 1229) (by decide +kernel) rfl
theorem lk4_106 : (parseMethodDescriptor mX9_sacks.1.desc).map (fun d => d.parameters.length) = some 1 := by decide +kernel
theorem ms_175 : am_ms[175]? = some mX9_sacks := by rfl
theorem lk1_107 : Cond.methodLink RL 107 mX8_mark.1 ∈ am_gt := am_in_gt (i := 897) (by decide +kernel) rfl
theorem lk2_107 : Cond.instanceMethod mX8_mark.1 ∈ am_gt := am_in_gt (i := 898) (by decide +kernel) rfl
theorem lk3_107 : Cond.selects mX8_mark.1.cls mX8_mark.1 mX8_mark.1 ∈ am_gt := am_in_gt (i := 899) (by decide +kernel) rfl
theorem lk4_107 : (parseMethodDescriptor mX8_mark.1.desc).map (fun d => d.parameters.length) = some 2 := by decide +kernel
theorem ms_102 : am_ms[102]? = some mX8_mark := by rfl
theorem lk1_110 : Cond.methodLink RL 110 mX9_mark.1 ∈ am_gt := am_in_gt (i := 1235) (by decide +kernel) rfl
theorem lk2_110 : Cond.instanceMethod mX9_mark.1 ∈ am_gt := am_in_gt (i := 1236) (by decide +kernel) rfl
theorem lk3_110 : Cond.selects mX9_mark.1.cls mX9_mark.1 mX9_mark.1 ∈ am_gt := am_in_gt (i := 1237) (by decide +kernel) rfl
theorem lk4_110 : (parseMethodDescriptor mX9_mark.1.desc).map (fun d => d.parameters.length) = some 2 := by decide +kernel
theorem ms_176 : am_ms[176]? = some mX9_mark := by rfl
theorem lk1_111 : Cond.methodLink RL 111 mX8_keep.1 ∈ am_gt := am_in_gt (i := 931) (by decide +kernel) rfl
theorem lk2_111 : Cond.instanceMethod mX8_keep.1 ∈ am_gt := am_in_gt (i := 932) (by decide +kernel) rfl
theorem lk3_111 : Cond.selects mX8_keep.1.cls mX8_keep.1 mX8_keep.1 ∈ am_gt := am_in_gt (i := 933) (by decide +kernel) rfl
theorem lk4_111 : (parseMethodDescriptor mX8_keep.1.desc).map (fun d => d.parameters.length) = some 1 := by decide +kernel
theorem ms_103 : am_ms[103]? = some mX8_keep := by rfl
theorem lk1_114 : Cond.methodLink RL 114 mX9_keep.1 ∈ am_gt := am_in_gt (i := 1245) (by decide +kernel) rfl
theorem lk2_114 : Cond.instanceMethod mX9_keep.1 ∈ am_gt := am_in_gt (i := 1246) (by decide +kernel) rfl
theorem lk3_114 : Cond.selects mX9_keep.1.cls mX9_keep.1 mX9_keep.1 ∈ am_gt := am_in_gt (i := 1247) (by decide +kernel) rfl
theorem lk4_114 : (parseMethodDescriptor mX9_keep.1.desc).map (fun d => d.parameters.length) = some 1 := by decide +kernel
theorem ms_177 : am_ms[177]? = some mX9_keep := by rfl
theorem lk1_115 : Cond.methodLink RL 115 mX8_back.1 ∈ am_gt := am_in_gt (i := 939) (by decide +kernel) rfl
theorem lk2_115 : Cond.instanceMethod mX8_back.1 ∈ am_gt := am_in_gt (i := 940) (by decide +kernel) rfl
theorem lk3_115 : Cond.selects mX8_back.1.cls mX8_back.1 mX8_back.1 ∈ am_gt := am_in_gt (i := 941) (by decide +kernel) rfl
theorem lk4_115 : (parseMethodDescriptor mX8_back.1.desc).map (fun d => d.parameters.length) = some 1 := by decide +kernel
theorem ms_104 : am_ms[104]? = some mX8_back := by rfl
theorem lk1_118 : Cond.methodLink RL 118 mX9_back.1 ∈ am_gt := am_in_gt (i := 1249) (by decide +kernel) rfl
theorem lk2_118 : Cond.instanceMethod mX9_back.1 ∈ am_gt := am_in_gt (i := 1250) (by decide +kernel) rfl
theorem lk3_118 : Cond.selects mX9_back.1.cls mX9_back.1 mX9_back.1 ∈ am_gt := am_in_gt (i := 1251) (by decide +kernel) rfl
theorem lk4_118 : (parseMethodDescriptor mX9_back.1.desc).map (fun d => d.parameters.length) = some 1 := by decide +kernel
theorem ms_178 : am_ms[178]? = some mX9_back := by rfl
theorem lk1_119 : Cond.methodLink RL 119 mX8_count.1 ∈ am_gt := am_in_gt (i := 943) (by decide +kernel) rfl
theorem lk2_119 : Cond.instanceMethod mX8_count.1 ∈ am_gt := am_in_gt (i := 944) (by decide +kernel) rfl
theorem lk3_119 : Cond.selects mX8_count.1.cls mX8_count.1 mX8_count.1 ∈ am_gt := am_in_gt (i := 945) (by decide +kernel) rfl
theorem lk4_119 : (parseMethodDescriptor mX8_count.1.desc).map (fun d => d.parameters.length) = some 1 := by decide +kernel
theorem ms_105 : am_ms[105]? = some mX8_count := by rfl
theorem lk1_122 : Cond.methodLink RL 122 mX9_count.1 ∈ am_gt := am_in_gt (i := 1253) (by decide +kernel) rfl
theorem lk2_122 : Cond.instanceMethod mX9_count.1 ∈ am_gt := am_in_gt (i := 1254) (by decide +kernel) rfl
theorem lk3_122 : Cond.selects mX9_count.1.cls mX9_count.1 mX9_count.1 ∈ am_gt := am_in_gt (i := 1255) (by decide +kernel) rfl
theorem lk4_122 : (parseMethodDescriptor mX9_count.1.desc).map (fun d => d.parameters.length) = some 1 := by decide +kernel
theorem ms_179 : am_ms[179]? = some mX9_count := by rfl
theorem lk1_123 : Cond.methodLink RL 123 mX8_trace.1 ∈ am_gt := am_in_gt (i := 947) (by decide +kernel) rfl
theorem lk2_123 : Cond.instanceMethod mX8_trace.1 ∈ am_gt := am_in_gt (i := 948) (by decide +kernel) rfl
theorem lk3_123 : Cond.selects mX8_trace.1.cls mX8_trace.1 mX8_trace.1 ∈ am_gt := am_in_gt (i := 949) (by decide +kernel) rfl
theorem lk4_123 : (parseMethodDescriptor mX8_trace.1.desc).map (fun d => d.parameters.length) = some 0 := by decide +kernel
theorem ms_106 : am_ms[106]? = some mX8_trace := by rfl
theorem lk1_127 : Cond.methodLink RL 127 mX9_trace.1 ∈ am_gt := am_in_gt (i := 1257) (by decide +kernel) rfl
theorem lk2_127 : Cond.instanceMethod mX9_trace.1 ∈ am_gt := am_in_gt (i := 1258) (by decide +kernel) rfl
theorem lk3_127 : Cond.selects mX9_trace.1.cls mX9_trace.1 mX9_trace.1 ∈ am_gt := am_in_gt (i := 1259) (by decide +kernel) rfl
theorem lk4_127 : (parseMethodDescriptor mX9_trace.1.desc).map (fun d => d.parameters.length) = some 0 := by decide +kernel
theorem ms_180 : am_ms[180]? = some mX9_trace := by rfl
def Sp_type (I : am_G → Prop) : Prop := ∀ (g : am_G) (y1 : Int32), I g → ∃ (g1 : am_G) (g2 : am_G) (r : Int32), Tb_type g y1 = some (g1, r) ∧ Mo_type g1 y1 = some (g2, r) ∧ I g2
def Sp_clear (I : am_G → Prop) : Prop := ∀ (g : am_G), I g → ∃ (g1 : am_G) (g2 : am_G) (r : Int32), Tb_clear g = some (g1, r) ∧ Mo_clear g1 = some (g2, r) ∧ I g2
def Sp_way (I : am_G → Prop) : Prop := ∀ (g : am_G), I g → ∃ (g1 : am_G) (g2 : am_G) (r : Int32), Tb_way g = some (g1, r) ∧ Mo_way g1 = some (g2, r) ∧ I g2
def Sp_walker (I : am_G → Prop) : Prop := ∀ (g : am_G) (y1 : Int32) (y2 : Int32), I g → ∃ (r : Int32), Tb_walker g y1 y2 = some r ∧ Mo_walker g y1 y2 = some r ∧ I g
def Sp_thing (I : am_G → Prop) : Prop := ∀ (g : am_G) (y1 : Int32) (y2 : Int32), I g → ∃ (r : Int32), Tb_thing g y1 y2 = some r ∧ Mo_thing g y1 y2 = some r ∧ I g
def Sp_stage (I : am_G → Prop) : Prop := ∀ (g : am_G) (y1 : Int32) (y2 : Int32), I g → ∃ (r : Int32), Tb_stage g y1 y2 = some r ∧ Mo_stage g y1 y2 = some r ∧ I g
def Sp_gives (I : am_G → Prop) : Prop := ∀ (g : am_G) (y1 : Int32) (y2 : Int32), I g → ∃ (g1 : am_G) (g2 : am_G) (r : Int32), Tb_gives g y1 y2 = some (g1, r) ∧ Mo_gives g1 y1 y2 = some (g2, r) ∧ I g2
def Sp_leaves (I : am_G → Prop) : Prop := ∀ (g : am_G) (y1 : Int32), I g → ∃ (g1 : am_G) (g2 : am_G) (r : Int32), Tb_leaves g y1 = some (g1, r) ∧ Mo_leaves g1 y1 = some (g2, r) ∧ I g2
def Sp_goes (I : am_G → Prop) : Prop := ∀ (g : am_G), I g → ∃ (g1 : am_G) (g2 : am_G) (r : Int32), Tb_goes g = some (g1, r) ∧ Mo_goes g1 = some (g2, r) ∧ I g2
def Sp_undo (I : am_G → Prop) : Prop := ∀ (g : am_G), I g → ∃ (g1 : am_G) (g2 : am_G) (r : Int32), Tb_undo g = some (g1, r) ∧ Mo_undo g1 = some (g2, r) ∧ I g2
def Sp_now (I : am_G → Prop) : Prop := ∀ (g : am_G) (y1 : Int32), I g → ∃ (r : Int32), Tb_now g y1 = some r ∧ Mo_now g y1 = some r ∧ I g
def Sp_rest (I : am_G → Prop) : Prop := ∀ (g : am_G) (y1 : Int32), I g → ∃ (g1 : am_G) (g2 : am_G) (r : Int32), Tb_rest g y1 = some (g1, r) ∧ Mo_rest g1 y1 = some (g2, r) ∧ I g2
def Sp_spent (I : am_G → Prop) : Prop := ∀ (g : am_G) (y1 : Int32), I g → ∃ (g1 : am_G) (g2 : am_G) (r : Int32), Tb_spent g y1 = some (g1, r) ∧ Mo_spent g1 y1 = some (g2, r) ∧ I g2
def Sp_soonest (I : am_G → Prop) : Prop := ∀ (g : am_G) (y1 : Int32), I g → ∃ (g1 : am_G) (g2 : am_G) (r : Int32), Tb_soonest g y1 = some (g1, r) ∧ Mo_soonest g1 y1 = some (g2, r) ∧ I g2
def Sp_helps (I : am_G → Prop) : Prop := ∀ (g : am_G), I g → ∃ (g1 : am_G) (g2 : am_G) (r : Int32), Tb_helps g = some (g1, r) ∧ Mo_helps g1 = some (g2, r) ∧ I g2
def Sp_leave (I : am_G → Prop) : Prop := ∀ (g : am_G) (y1 : Int32) (y2 : Int32), I g → ∃ (g1 : am_G) (g2 : am_G) (r : Int32), Tb_leave g y1 y2 = some (g1, r) ∧ Mo_leave g1 y1 y2 = some (g2, r) ∧ I g2
def Sp_eat (I : am_G → Prop) : Prop := ∀ (g : am_G) (y1 : Int32), I g → ∃ (g1 : am_G) (g2 : am_G) (r : Int32), Tb_eat g y1 = some (g1, r) ∧ Mo_eat g1 y1 = some (g2, r) ∧ I g2
def Sp_truly (I : am_G → Prop) : Prop := ∀ (g : am_G) (y1 : Int32) (y2 : Int32) (y3 : Int32) (y4 : Int32), I g → ∃ (r : Int32), Tb_truly g y1 y2 y3 y4 = some r ∧ Mo_truly g y1 y2 y3 y4 = some r ∧ I g
def Sp_odds (I : am_G → Prop) : Prop := ∀ (g : am_G) (y1 : Int32) (y2 : Int32) (y3 : Int32), I g → ∃ (g1 : am_G) (g2 : am_G) (r : Int64), Tb_odds g y1 y2 y3 = some (g1, r) ∧ Mo_odds g1 y1 y2 y3 = some (g2, r) ∧ I g2
def Sp_book (I : am_G → Prop) : Prop := ∀ (g : am_G) (y1 : Int32) (y2 : Int32) (y3 : Int32), I g → ∃ (g1 : am_G) (g2 : am_G) (r : Int32), Tb_book g y1 y2 y3 = some (g1, r) ∧ Mo_book g1 y1 y2 y3 = some (g2, r) ∧ I g2
def Sp_burn (I : am_G → Prop) : Prop := ∀ (g : am_G), I g → ∃ (g1 : am_G) (g2 : am_G) (r : Int32), Tb_burn g = some (g1, r) ∧ Mo_burn g1 = some (g2, r) ∧ I g2
def Sp_sacks (I : am_G → Prop) : Prop := ∀ (g : am_G) (y1 : Int32), I g → ∃ (g1 : am_G) (g2 : am_G) (r : Int32), Tb_sacks g y1 = some (g1, r) ∧ Mo_sacks g1 y1 = some (g2, r) ∧ I g2
def Sp_mark (I : am_G → Prop) : Prop := ∀ (g : am_G) (y1 : Int32) (y2 : Int32), I g → ∃ (g1 : am_G) (g2 : am_G) (r : Int32), Tb_mark g y1 y2 = some (g1, r) ∧ Mo_mark g1 y1 y2 = some (g2, r) ∧ I g2
def Sp_keep (I : am_G → Prop) : Prop := ∀ (g : am_G) (y1 : Int32), I g → ∃ (g1 : am_G) (g2 : am_G) (r : Int32), Tb_keep g y1 = some (g1, r) ∧ Mo_keep g1 y1 = some (g2, r) ∧ I g2
def Sp_back (I : am_G → Prop) : Prop := ∀ (g : am_G) (y1 : Int32), I g → ∃ (g1 : am_G) (g2 : am_G) (r : Int32), Tb_back g y1 = some (g1, r) ∧ Mo_back g1 y1 = some (g2, r) ∧ I g2
def Sp_count (I : am_G → Prop) : Prop := ∀ (g : am_G) (y1 : Int32), I g → ∃ (r : Int32), Tb_count g y1 = some r ∧ Mo_count g y1 = some r ∧ I g
def Sp_trace (I : am_G → Prop) : Prop := ∀ (g : am_G), I g → ∃ (r : Int64), Tb_trace g = some r ∧ Mo_trace g = some r ∧ I g
def Sp_all (I : am_G → Prop) : Prop := Sp_type I ∧ Sp_clear I ∧ Sp_way I ∧ Sp_walker I ∧ Sp_thing I ∧ Sp_stage I ∧ Sp_gives I ∧ Sp_leaves I ∧ Sp_goes I ∧ Sp_undo I ∧ Sp_now I ∧ Sp_rest I ∧ Sp_spent I ∧ Sp_soonest I ∧ Sp_helps I ∧ Sp_leave I ∧ Sp_eat I ∧ Sp_truly I ∧ Sp_odds I ∧ Sp_book I ∧ Sp_burn I ∧ Sp_sacks I ∧ Sp_mark I ∧ Sp_keep I ∧ Sp_back I ∧ Sp_count I ∧ Sp_trace I
section
variable {D : va_G} {cy : Nat → ClassId} {bn : Nat} {p : Program} {l : Launch} {e : Env} {s : State} {m : MethodId} {below : List Frame} {meth : Method} {c : Code} {b L : Nat} {xs : Nat → Int32} {Q : State → Prop}
set_option maxHeartbeats 4000000 in
set_option maxRecDepth 100000 in
theorem lw_c0 {I : am_G → Prop} (hsp : Sp_type I) (K : lw_K D cy bn p s m meth c b L xs) {x3 : Int32} (hi1 : vp_in (x3 + 1) L) (hi2 : vp_in (x3 + 2) L) (hi3 : vp_in (x3 + 3) L) (hi4 : vp_in (x3 + 4) L) {g : am_G} (hI : I g) {H : Heap} {locs : List Loc} (hW : lw_W D cy bn s g H locs) {ls : Array Slot} (hl : lv_has ls 4 [(0, .ref b), (1, .ref (s.heap.size + 0)), (2, .ref (s.heap.size + 221)), (3, .int x3)])
    (kk : ∀ (g : am_G) (H : Heap) (locs : List Loc), I g → lw_W D cy bn s g H locs → W p l e room_1 s m #[Value.ref b] below meth c H locs 232 3074 Q (F0 m 839 ls [])) : W p l e room_1 s m #[Value.ref b] below meth c H locs 232 3074 Q (F0 m 156 ls []) := by
  obtain ⟨hx, hb, hr, hml, hown, hts, hX, hbl, hlocks, hU⟩ := K
  have hbA : ¬ (fun q : Nat => s.heap.size ≤ q) b := Nat.not_le.mpr hbl
  obtain ⟨g1, g2, r, e1, e2, hI2⟩ := hsp g (xs (x3 + 1).toNatClampNeg) hI
  refine lv_aload_n hx hb dL_law_156 rfl (lv_at hl 1 rfl) ?_
  refine lv_aload_n hx hb dL_law_157 rfl (lv_at hl 0 rfl) ?_
  refine lv_iload_n hx hb dL_law_158 rfl (lv_at hl 3 rfl) ?_
  refine lv_iconst (v := 1) hx hb dL_law_159 (by decide) ?_
  refine lv_iadd hx hb dL_law_160 ?_
  refine va_sld hx hb hX hbl hbA hW.2 hi1 dL_law_161 ?_
  refine lw_call (g := g) (g' := g1) (r := some (.int r)) (as := [.int (xs (x3 + 1).toNatClampNeg)]) (b0 := 0) (rest := []) (n := 1) ⟨hx, hb, hr, hml, hown, hts, hX, hbl, hlocks, hU⟩ hW hl.1 ms_80 s_0 rfl (by decide) (by decide) lk1_13 lk2_13 lk3_13 lk4_13 (am_up (by decide) (ev_Tb_type e1)) rfl rfl (Nat.le_of_ble_eq_true rfl) dL_law_162 (fun H locs hW => ?_)
  refine W.eq (g2 := F0 m 165 ls (.int r :: [])) rfl ?_
  refine lv_aload_n hx hb dL_law_165 rfl (lv_at hl 2 rfl) ?_
  refine lv_aload_n hx hb dL_law_166 rfl (lv_at hl 0 rfl) ?_
  refine lv_iload_n hx hb dL_law_167 rfl (lv_at hl 3 rfl) ?_
  refine lv_iconst (v := 1) hx hb dL_law_168 (by decide) ?_
  refine lv_iadd hx hb dL_law_169 ?_
  refine va_sld hx hb hX hbl hbA hW.2 hi1 dL_law_170 ?_
  refine lw_call (g := g1) (g' := g2) (r := some (.int r)) (as := [.int (xs (x3 + 1).toNatClampNeg)]) (b0 := 221) (rest := [.int r]) (n := 1) ⟨hx, hb, hr, hml, hown, hts, hX, hbl, hlocks, hU⟩ hW hl.1 ms_122 s_221 rfl (by decide) (by decide) lk1_17 lk2_17 lk3_17 lk4_17 (am_up (by decide) (ev_Mo_type e2)) rfl rfl (Nat.le_of_ble_eq_true rfl) dL_law_171 (fun H locs hW => ?_)
  refine W.eq (g2 := F0 m 174 ls (.int r :: [.int r])) rfl ?_
  exact lv_icmp_eq (tgt := 839) hx hb dL_law_174 (by decide) (fun _ => kk _ H locs hI2 hW) (fun q => absurd rfl q)
set_option maxHeartbeats 4000000 in
set_option maxRecDepth 100000 in
theorem lw_c1 {I : am_G → Prop} (hsp : Sp_clear I) (K : lw_K D cy bn p s m meth c b L xs) {x3 : Int32} (hi1 : vp_in (x3 + 1) L) (hi2 : vp_in (x3 + 2) L) (hi3 : vp_in (x3 + 3) L) (hi4 : vp_in (x3 + 4) L) {g : am_G} (hI : I g) {H : Heap} {locs : List Loc} (hW : lw_W D cy bn s g H locs) {ls : Array Slot} (hl : lv_has ls 4 [(0, .ref b), (1, .ref (s.heap.size + 0)), (2, .ref (s.heap.size + 221)), (3, .int x3)])
    (kk : ∀ (g : am_G) (H : Heap) (locs : List Loc), I g → lw_W D cy bn s g H locs → W p l e room_1 s m #[Value.ref b] below meth c H locs 232 3074 Q (F0 m 839 ls [])) : W p l e room_1 s m #[Value.ref b] below meth c H locs 232 3074 Q (F0 m 179 ls []) := by
  obtain ⟨hx, hb, hr, hml, hown, hts, hX, hbl, hlocks, hU⟩ := K
  have hbA : ¬ (fun q : Nat => s.heap.size ≤ q) b := Nat.not_le.mpr hbl
  obtain ⟨g1, g2, r, e1, e2, hI2⟩ := hsp g hI
  refine lv_aload_n hx hb dL_law_179 rfl (lv_at hl 1 rfl) ?_
  refine lw_call (g := g) (g' := g1) (r := some (.int r)) (as := []) (b0 := 0) (rest := []) (n := 0) ⟨hx, hb, hr, hml, hown, hts, hX, hbl, hlocks, hU⟩ hW hl.1 ms_81 s_0 rfl (by decide) (by decide) lk1_18 lk2_18 lk3_18 lk4_18 (am_up (by decide) (ev_Tb_clear e1)) rfl rfl (Nat.le_of_ble_eq_true rfl) dL_law_180 (fun H locs hW => ?_)
  refine W.eq (g2 := F0 m 183 ls (.int r :: [])) rfl ?_
  refine lv_aload_n hx hb dL_law_183 rfl (lv_at hl 2 rfl) ?_
  refine lw_call (g := g1) (g' := g2) (r := some (.int r)) (as := []) (b0 := 221) (rest := [.int r]) (n := 0) ⟨hx, hb, hr, hml, hown, hts, hX, hbl, hlocks, hU⟩ hW hl.1 ms_123 s_221 rfl (by decide) (by decide) lk1_22 lk2_22 lk3_22 lk4_22 (am_up (by decide) (ev_Mo_clear e2)) rfl rfl (Nat.le_of_ble_eq_true rfl) dL_law_184 (fun H locs hW => ?_)
  refine W.eq (g2 := F0 m 187 ls (.int r :: [.int r])) rfl ?_
  exact lv_icmp_eq (tgt := 839) hx hb dL_law_187 (by decide) (fun _ => kk _ H locs hI2 hW) (fun q => absurd rfl q)
set_option maxHeartbeats 4000000 in
set_option maxRecDepth 100000 in
theorem lw_c2 {I : am_G → Prop} (hsp : Sp_way I) (K : lw_K D cy bn p s m meth c b L xs) {x3 : Int32} (hi1 : vp_in (x3 + 1) L) (hi2 : vp_in (x3 + 2) L) (hi3 : vp_in (x3 + 3) L) (hi4 : vp_in (x3 + 4) L) {g : am_G} (hI : I g) {H : Heap} {locs : List Loc} (hW : lw_W D cy bn s g H locs) {ls : Array Slot} (hl : lv_has ls 4 [(0, .ref b), (1, .ref (s.heap.size + 0)), (2, .ref (s.heap.size + 221)), (3, .int x3)])
    (kk : ∀ (g : am_G) (H : Heap) (locs : List Loc), I g → lw_W D cy bn s g H locs → W p l e room_1 s m #[Value.ref b] below meth c H locs 232 3074 Q (F0 m 839 ls [])) : W p l e room_1 s m #[Value.ref b] below meth c H locs 232 3074 Q (F0 m 192 ls []) := by
  obtain ⟨hx, hb, hr, hml, hown, hts, hX, hbl, hlocks, hU⟩ := K
  have hbA : ¬ (fun q : Nat => s.heap.size ≤ q) b := Nat.not_le.mpr hbl
  obtain ⟨g1, g2, r, e1, e2, hI2⟩ := hsp g hI
  refine lv_aload_n hx hb dL_law_192 rfl (lv_at hl 1 rfl) ?_
  refine lw_call (g := g) (g' := g1) (r := some (.int r)) (as := []) (b0 := 0) (rest := []) (n := 0) ⟨hx, hb, hr, hml, hown, hts, hX, hbl, hlocks, hU⟩ hW hl.1 ms_82 s_0 rfl (by decide) (by decide) lk1_23 lk2_23 lk3_23 lk4_23 (am_up (by decide) (ev_Tb_way e1)) rfl rfl (Nat.le_of_ble_eq_true rfl) dL_law_193 (fun H locs hW => ?_)
  refine W.eq (g2 := F0 m 196 ls (.int r :: [])) rfl ?_
  refine lv_aload_n hx hb dL_law_196 rfl (lv_at hl 2 rfl) ?_
  refine lw_call (g := g1) (g' := g2) (r := some (.int r)) (as := []) (b0 := 221) (rest := [.int r]) (n := 0) ⟨hx, hb, hr, hml, hown, hts, hX, hbl, hlocks, hU⟩ hW hl.1 ms_135 s_221 rfl (by decide) (by decide) lk1_26 lk2_26 lk3_26 lk4_26 (am_up (by decide) (ev_Mo_way e2)) rfl rfl (Nat.le_of_ble_eq_true rfl) dL_law_197 (fun H locs hW => ?_)
  refine W.eq (g2 := F0 m 200 ls (.int r :: [.int r])) rfl ?_
  exact lv_icmp_eq (tgt := 839) hx hb dL_law_200 (by decide) (fun _ => kk _ H locs hI2 hW) (fun q => absurd rfl q)
set_option maxHeartbeats 4000000 in
set_option maxRecDepth 100000 in
theorem lw_c3 {I : am_G → Prop} (hsp : Sp_walker I) (K : lw_K D cy bn p s m meth c b L xs) {x3 : Int32} (hi1 : vp_in (x3 + 1) L) (hi2 : vp_in (x3 + 2) L) (hi3 : vp_in (x3 + 3) L) (hi4 : vp_in (x3 + 4) L) {g : am_G} (hI : I g) {H : Heap} {locs : List Loc} (hW : lw_W D cy bn s g H locs) {ls : Array Slot} (hl : lv_has ls 4 [(0, .ref b), (1, .ref (s.heap.size + 0)), (2, .ref (s.heap.size + 221)), (3, .int x3)])
    (kk : ∀ (g : am_G) (H : Heap) (locs : List Loc), I g → lw_W D cy bn s g H locs → W p l e room_1 s m #[Value.ref b] below meth c H locs 232 3074 Q (F0 m 839 ls [])) : W p l e room_1 s m #[Value.ref b] below meth c H locs 232 3074 Q (F0 m 205 ls []) := by
  obtain ⟨hx, hb, hr, hml, hown, hts, hX, hbl, hlocks, hU⟩ := K
  have hbA : ¬ (fun q : Nat => s.heap.size ≤ q) b := Nat.not_le.mpr hbl
  obtain ⟨r, e1, e2, hI2⟩ := hsp g (xs (x3 + 1).toNatClampNeg) (xs (x3 + 2).toNatClampNeg) hI
  refine lv_aload_n hx hb dL_law_205 rfl (lv_at hl 1 rfl) ?_
  refine lv_aload_n hx hb dL_law_206 rfl (lv_at hl 0 rfl) ?_
  refine lv_iload_n hx hb dL_law_207 rfl (lv_at hl 3 rfl) ?_
  refine lv_iconst (v := 1) hx hb dL_law_208 (by decide) ?_
  refine lv_iadd hx hb dL_law_209 ?_
  refine va_sld hx hb hX hbl hbA hW.2 hi1 dL_law_210 ?_
  refine lv_aload_n hx hb dL_law_211 rfl (lv_at hl 0 rfl) ?_
  refine lv_iload_n hx hb dL_law_212 rfl (lv_at hl 3 rfl) ?_
  refine lv_iconst (v := 2) hx hb dL_law_213 (by decide) ?_
  refine lv_iadd hx hb dL_law_214 ?_
  refine va_sld hx hb hX hbl hbA hW.2 hi2 dL_law_215 ?_
  refine lw_call (g := g) (g' := g) (r := some (.int r)) (as := [.int (xs (x3 + 1).toNatClampNeg), .int (xs (x3 + 2).toNatClampNeg)]) (b0 := 0) (rest := []) (n := 2) ⟨hx, hb, hr, hml, hown, hts, hX, hbl, hlocks, hU⟩ hW hl.1 ms_83 s_0 rfl (by decide) (by decide) lk1_27 lk2_27 lk3_27 lk4_27 (am_up (by decide) (ev_Tb_walker e1)) rfl rfl (Nat.le_of_ble_eq_true rfl) dL_law_216 (fun H locs hW => ?_)
  refine W.eq (g2 := F0 m 219 ls (.int r :: [])) rfl ?_
  refine lv_aload_n hx hb dL_law_219 rfl (lv_at hl 2 rfl) ?_
  refine lv_aload_n hx hb dL_law_220 rfl (lv_at hl 0 rfl) ?_
  refine lv_iload_n hx hb dL_law_221 rfl (lv_at hl 3 rfl) ?_
  refine lv_iconst (v := 1) hx hb dL_law_222 (by decide) ?_
  refine lv_iadd hx hb dL_law_223 ?_
  refine va_sld hx hb hX hbl hbA hW.2 hi1 dL_law_224 ?_
  refine lv_aload_n hx hb dL_law_225 rfl (lv_at hl 0 rfl) ?_
  refine lv_iload_n hx hb dL_law_226 rfl (lv_at hl 3 rfl) ?_
  refine lv_iconst (v := 2) hx hb dL_law_227 (by decide) ?_
  refine lv_iadd hx hb dL_law_228 ?_
  refine va_sld hx hb hX hbl hbA hW.2 hi2 dL_law_229 ?_
  refine lw_call (g := g) (g' := g) (r := some (.int r)) (as := [.int (xs (x3 + 1).toNatClampNeg), .int (xs (x3 + 2).toNatClampNeg)]) (b0 := 221) (rest := [.int r]) (n := 2) ⟨hx, hb, hr, hml, hown, hts, hX, hbl, hlocks, hU⟩ hW hl.1 ms_141 s_221 rfl (by decide) (by decide) lk1_31 lk2_31 lk3_31 lk4_31 (am_up (by decide) (ev_Mo_walker e2)) rfl rfl (Nat.le_of_ble_eq_true rfl) dL_law_230 (fun H locs hW => ?_)
  refine W.eq (g2 := F0 m 233 ls (.int r :: [.int r])) rfl ?_
  exact lv_icmp_eq (tgt := 839) hx hb dL_law_233 (by decide) (fun _ => kk _ H locs hI2 hW) (fun q => absurd rfl q)
set_option maxHeartbeats 4000000 in
set_option maxRecDepth 100000 in
theorem lw_c4 {I : am_G → Prop} (hsp : Sp_thing I) (K : lw_K D cy bn p s m meth c b L xs) {x3 : Int32} (hi1 : vp_in (x3 + 1) L) (hi2 : vp_in (x3 + 2) L) (hi3 : vp_in (x3 + 3) L) (hi4 : vp_in (x3 + 4) L) {g : am_G} (hI : I g) {H : Heap} {locs : List Loc} (hW : lw_W D cy bn s g H locs) {ls : Array Slot} (hl : lv_has ls 4 [(0, .ref b), (1, .ref (s.heap.size + 0)), (2, .ref (s.heap.size + 221)), (3, .int x3)])
    (kk : ∀ (g : am_G) (H : Heap) (locs : List Loc), I g → lw_W D cy bn s g H locs → W p l e room_1 s m #[Value.ref b] below meth c H locs 232 3074 Q (F0 m 839 ls [])) : W p l e room_1 s m #[Value.ref b] below meth c H locs 232 3074 Q (F0 m 238 ls []) := by
  obtain ⟨hx, hb, hr, hml, hown, hts, hX, hbl, hlocks, hU⟩ := K
  have hbA : ¬ (fun q : Nat => s.heap.size ≤ q) b := Nat.not_le.mpr hbl
  obtain ⟨r, e1, e2, hI2⟩ := hsp g (xs (x3 + 1).toNatClampNeg) (xs (x3 + 2).toNatClampNeg) hI
  refine lv_aload_n hx hb dL_law_238 rfl (lv_at hl 1 rfl) ?_
  refine lv_aload_n hx hb dL_law_239 rfl (lv_at hl 0 rfl) ?_
  refine lv_iload_n hx hb dL_law_240 rfl (lv_at hl 3 rfl) ?_
  refine lv_iconst (v := 1) hx hb dL_law_241 (by decide) ?_
  refine lv_iadd hx hb dL_law_242 ?_
  refine va_sld hx hb hX hbl hbA hW.2 hi1 dL_law_243 ?_
  refine lv_aload_n hx hb dL_law_244 rfl (lv_at hl 0 rfl) ?_
  refine lv_iload_n hx hb dL_law_245 rfl (lv_at hl 3 rfl) ?_
  refine lv_iconst (v := 2) hx hb dL_law_246 (by decide) ?_
  refine lv_iadd hx hb dL_law_247 ?_
  refine va_sld hx hb hX hbl hbA hW.2 hi2 dL_law_248 ?_
  refine lw_call (g := g) (g' := g) (r := some (.int r)) (as := [.int (xs (x3 + 1).toNatClampNeg), .int (xs (x3 + 2).toNatClampNeg)]) (b0 := 0) (rest := []) (n := 2) ⟨hx, hb, hr, hml, hown, hts, hX, hbl, hlocks, hU⟩ hW hl.1 ms_84 s_0 rfl (by decide) (by decide) lk1_32 lk2_32 lk3_32 lk4_32 (am_up (by decide) (ev_Tb_thing e1)) rfl rfl (Nat.le_of_ble_eq_true rfl) dL_law_249 (fun H locs hW => ?_)
  refine W.eq (g2 := F0 m 252 ls (.int r :: [])) rfl ?_
  refine lv_aload_n hx hb dL_law_252 rfl (lv_at hl 2 rfl) ?_
  refine lv_aload_n hx hb dL_law_253 rfl (lv_at hl 0 rfl) ?_
  refine lv_iload_n hx hb dL_law_254 rfl (lv_at hl 3 rfl) ?_
  refine lv_iconst (v := 1) hx hb dL_law_255 (by decide) ?_
  refine lv_iadd hx hb dL_law_256 ?_
  refine va_sld hx hb hX hbl hbA hW.2 hi1 dL_law_257 ?_
  refine lv_aload_n hx hb dL_law_258 rfl (lv_at hl 0 rfl) ?_
  refine lv_iload_n hx hb dL_law_259 rfl (lv_at hl 3 rfl) ?_
  refine lv_iconst (v := 2) hx hb dL_law_260 (by decide) ?_
  refine lv_iadd hx hb dL_law_261 ?_
  refine va_sld hx hb hX hbl hbA hW.2 hi2 dL_law_262 ?_
  refine lw_call (g := g) (g' := g) (r := some (.int r)) (as := [.int (xs (x3 + 1).toNatClampNeg), .int (xs (x3 + 2).toNatClampNeg)]) (b0 := 221) (rest := [.int r]) (n := 2) ⟨hx, hb, hr, hml, hown, hts, hX, hbl, hlocks, hU⟩ hW hl.1 ms_142 s_221 rfl (by decide) (by decide) lk1_35 lk2_35 lk3_35 lk4_35 (am_up (by decide) (ev_Mo_thing e2)) rfl rfl (Nat.le_of_ble_eq_true rfl) dL_law_263 (fun H locs hW => ?_)
  refine W.eq (g2 := F0 m 266 ls (.int r :: [.int r])) rfl ?_
  exact lv_icmp_eq (tgt := 839) hx hb dL_law_266 (by decide) (fun _ => kk _ H locs hI2 hW) (fun q => absurd rfl q)
set_option maxHeartbeats 4000000 in
set_option maxRecDepth 100000 in
theorem lw_c5 {I : am_G → Prop} (hsp : Sp_stage I) (K : lw_K D cy bn p s m meth c b L xs) {x3 : Int32} (hi1 : vp_in (x3 + 1) L) (hi2 : vp_in (x3 + 2) L) (hi3 : vp_in (x3 + 3) L) (hi4 : vp_in (x3 + 4) L) {g : am_G} (hI : I g) {H : Heap} {locs : List Loc} (hW : lw_W D cy bn s g H locs) {ls : Array Slot} (hl : lv_has ls 4 [(0, .ref b), (1, .ref (s.heap.size + 0)), (2, .ref (s.heap.size + 221)), (3, .int x3)])
    (kk : ∀ (g : am_G) (H : Heap) (locs : List Loc), I g → lw_W D cy bn s g H locs → W p l e room_1 s m #[Value.ref b] below meth c H locs 232 3074 Q (F0 m 839 ls [])) : W p l e room_1 s m #[Value.ref b] below meth c H locs 232 3074 Q (F0 m 271 ls []) := by
  obtain ⟨hx, hb, hr, hml, hown, hts, hX, hbl, hlocks, hU⟩ := K
  have hbA : ¬ (fun q : Nat => s.heap.size ≤ q) b := Nat.not_le.mpr hbl
  obtain ⟨r, e1, e2, hI2⟩ := hsp g (xs (x3 + 1).toNatClampNeg) (xs (x3 + 2).toNatClampNeg) hI
  refine lv_aload_n hx hb dL_law_271 rfl (lv_at hl 1 rfl) ?_
  refine lv_aload_n hx hb dL_law_272 rfl (lv_at hl 0 rfl) ?_
  refine lv_iload_n hx hb dL_law_273 rfl (lv_at hl 3 rfl) ?_
  refine lv_iconst (v := 1) hx hb dL_law_274 (by decide) ?_
  refine lv_iadd hx hb dL_law_275 ?_
  refine va_sld hx hb hX hbl hbA hW.2 hi1 dL_law_276 ?_
  refine lv_aload_n hx hb dL_law_277 rfl (lv_at hl 0 rfl) ?_
  refine lv_iload_n hx hb dL_law_278 rfl (lv_at hl 3 rfl) ?_
  refine lv_iconst (v := 2) hx hb dL_law_279 (by decide) ?_
  refine lv_iadd hx hb dL_law_280 ?_
  refine va_sld hx hb hX hbl hbA hW.2 hi2 dL_law_281 ?_
  refine lw_call (g := g) (g' := g) (r := some (.int r)) (as := [.int (xs (x3 + 1).toNatClampNeg), .int (xs (x3 + 2).toNatClampNeg)]) (b0 := 0) (rest := []) (n := 2) ⟨hx, hb, hr, hml, hown, hts, hX, hbl, hlocks, hU⟩ hW hl.1 ms_85 s_0 rfl (by decide) (by decide) lk1_36 lk2_36 lk3_36 lk4_36 (am_up (by decide) (ev_Tb_stage e1)) rfl rfl (Nat.le_of_ble_eq_true rfl) dL_law_282 (fun H locs hW => ?_)
  refine W.eq (g2 := F0 m 285 ls (.int r :: [])) rfl ?_
  refine lv_aload_n hx hb dL_law_285 rfl (lv_at hl 2 rfl) ?_
  refine lv_aload_n hx hb dL_law_286 rfl (lv_at hl 0 rfl) ?_
  refine lv_iload_n hx hb dL_law_287 rfl (lv_at hl 3 rfl) ?_
  refine lv_iconst (v := 1) hx hb dL_law_288 (by decide) ?_
  refine lv_iadd hx hb dL_law_289 ?_
  refine va_sld hx hb hX hbl hbA hW.2 hi1 dL_law_290 ?_
  refine lv_aload_n hx hb dL_law_291 rfl (lv_at hl 0 rfl) ?_
  refine lv_iload_n hx hb dL_law_292 rfl (lv_at hl 3 rfl) ?_
  refine lv_iconst (v := 2) hx hb dL_law_293 (by decide) ?_
  refine lv_iadd hx hb dL_law_294 ?_
  refine va_sld hx hb hX hbl hbA hW.2 hi2 dL_law_295 ?_
  refine lw_call (g := g) (g' := g) (r := some (.int r)) (as := [.int (xs (x3 + 1).toNatClampNeg), .int (xs (x3 + 2).toNatClampNeg)]) (b0 := 221) (rest := [.int r]) (n := 2) ⟨hx, hb, hr, hml, hown, hts, hX, hbl, hlocks, hU⟩ hW hl.1 ms_143 s_221 rfl (by decide) (by decide) lk1_39 lk2_39 lk3_39 lk4_39 (am_up (by decide) (ev_Mo_stage e2)) rfl rfl (Nat.le_of_ble_eq_true rfl) dL_law_296 (fun H locs hW => ?_)
  refine W.eq (g2 := F0 m 299 ls (.int r :: [.int r])) rfl ?_
  exact lv_icmp_eq (tgt := 839) hx hb dL_law_299 (by decide) (fun _ => kk _ H locs hI2 hW) (fun q => absurd rfl q)
set_option maxHeartbeats 4000000 in
set_option maxRecDepth 100000 in
theorem lw_c6 {I : am_G → Prop} (hsp : Sp_gives I) (K : lw_K D cy bn p s m meth c b L xs) {x3 : Int32} (hi1 : vp_in (x3 + 1) L) (hi2 : vp_in (x3 + 2) L) (hi3 : vp_in (x3 + 3) L) (hi4 : vp_in (x3 + 4) L) {g : am_G} (hI : I g) {H : Heap} {locs : List Loc} (hW : lw_W D cy bn s g H locs) {ls : Array Slot} (hl : lv_has ls 4 [(0, .ref b), (1, .ref (s.heap.size + 0)), (2, .ref (s.heap.size + 221)), (3, .int x3)])
    (kk : ∀ (g : am_G) (H : Heap) (locs : List Loc), I g → lw_W D cy bn s g H locs → W p l e room_1 s m #[Value.ref b] below meth c H locs 232 3074 Q (F0 m 839 ls [])) : W p l e room_1 s m #[Value.ref b] below meth c H locs 232 3074 Q (F0 m 304 ls []) := by
  obtain ⟨hx, hb, hr, hml, hown, hts, hX, hbl, hlocks, hU⟩ := K
  have hbA : ¬ (fun q : Nat => s.heap.size ≤ q) b := Nat.not_le.mpr hbl
  obtain ⟨g1, g2, r, e1, e2, hI2⟩ := hsp g (xs (x3 + 1).toNatClampNeg) (xs (x3 + 2).toNatClampNeg) hI
  refine lv_aload_n hx hb dL_law_304 rfl (lv_at hl 1 rfl) ?_
  refine lv_aload_n hx hb dL_law_305 rfl (lv_at hl 0 rfl) ?_
  refine lv_iload_n hx hb dL_law_306 rfl (lv_at hl 3 rfl) ?_
  refine lv_iconst (v := 1) hx hb dL_law_307 (by decide) ?_
  refine lv_iadd hx hb dL_law_308 ?_
  refine va_sld hx hb hX hbl hbA hW.2 hi1 dL_law_309 ?_
  refine lv_aload_n hx hb dL_law_310 rfl (lv_at hl 0 rfl) ?_
  refine lv_iload_n hx hb dL_law_311 rfl (lv_at hl 3 rfl) ?_
  refine lv_iconst (v := 2) hx hb dL_law_312 (by decide) ?_
  refine lv_iadd hx hb dL_law_313 ?_
  refine va_sld hx hb hX hbl hbA hW.2 hi2 dL_law_314 ?_
  refine lw_call (g := g) (g' := g1) (r := some (.int r)) (as := [.int (xs (x3 + 1).toNatClampNeg), .int (xs (x3 + 2).toNatClampNeg)]) (b0 := 0) (rest := []) (n := 2) ⟨hx, hb, hr, hml, hown, hts, hX, hbl, hlocks, hU⟩ hW hl.1 ms_86 s_0 rfl (by decide) (by decide) lk1_40 lk2_40 lk3_40 lk4_40 (am_up (by decide) (ev_Tb_gives e1)) rfl rfl (Nat.le_of_ble_eq_true rfl) dL_law_315 (fun H locs hW => ?_)
  refine W.eq (g2 := F0 m 318 ls (.int r :: [])) rfl ?_
  refine lv_aload_n hx hb dL_law_318 rfl (lv_at hl 2 rfl) ?_
  refine lv_aload_n hx hb dL_law_319 rfl (lv_at hl 0 rfl) ?_
  refine lv_iload_n hx hb dL_law_320 rfl (lv_at hl 3 rfl) ?_
  refine lv_iconst (v := 1) hx hb dL_law_321 (by decide) ?_
  refine lv_iadd hx hb dL_law_322 ?_
  refine va_sld hx hb hX hbl hbA hW.2 hi1 dL_law_323 ?_
  refine lv_aload_n hx hb dL_law_324 rfl (lv_at hl 0 rfl) ?_
  refine lv_iload_n hx hb dL_law_325 rfl (lv_at hl 3 rfl) ?_
  refine lv_iconst (v := 2) hx hb dL_law_326 (by decide) ?_
  refine lv_iadd hx hb dL_law_327 ?_
  refine va_sld hx hb hX hbl hbA hW.2 hi2 dL_law_328 ?_
  refine lw_call (g := g1) (g' := g2) (r := some (.int r)) (as := [.int (xs (x3 + 1).toNatClampNeg), .int (xs (x3 + 2).toNatClampNeg)]) (b0 := 221) (rest := [.int r]) (n := 2) ⟨hx, hb, hr, hml, hown, hts, hX, hbl, hlocks, hU⟩ hW hl.1 ms_145 s_221 rfl (by decide) (by decide) lk1_43 lk2_43 lk3_43 lk4_43 (am_up (by decide) (ev_Mo_gives e2)) rfl rfl (Nat.le_of_ble_eq_true rfl) dL_law_329 (fun H locs hW => ?_)
  refine W.eq (g2 := F0 m 332 ls (.int r :: [.int r])) rfl ?_
  exact lv_icmp_eq (tgt := 839) hx hb dL_law_332 (by decide) (fun _ => kk _ H locs hI2 hW) (fun q => absurd rfl q)
set_option maxHeartbeats 4000000 in
set_option maxRecDepth 100000 in
theorem lw_c7 {I : am_G → Prop} (hsp : Sp_leaves I) (K : lw_K D cy bn p s m meth c b L xs) {x3 : Int32} (hi1 : vp_in (x3 + 1) L) (hi2 : vp_in (x3 + 2) L) (hi3 : vp_in (x3 + 3) L) (hi4 : vp_in (x3 + 4) L) {g : am_G} (hI : I g) {H : Heap} {locs : List Loc} (hW : lw_W D cy bn s g H locs) {ls : Array Slot} (hl : lv_has ls 4 [(0, .ref b), (1, .ref (s.heap.size + 0)), (2, .ref (s.heap.size + 221)), (3, .int x3)])
    (kk : ∀ (g : am_G) (H : Heap) (locs : List Loc), I g → lw_W D cy bn s g H locs → W p l e room_1 s m #[Value.ref b] below meth c H locs 232 3074 Q (F0 m 839 ls [])) : W p l e room_1 s m #[Value.ref b] below meth c H locs 232 3074 Q (F0 m 337 ls []) := by
  obtain ⟨hx, hb, hr, hml, hown, hts, hX, hbl, hlocks, hU⟩ := K
  have hbA : ¬ (fun q : Nat => s.heap.size ≤ q) b := Nat.not_le.mpr hbl
  obtain ⟨g1, g2, r, e1, e2, hI2⟩ := hsp g (xs (x3 + 1).toNatClampNeg) hI
  refine lv_aload_n hx hb dL_law_337 rfl (lv_at hl 1 rfl) ?_
  refine lv_aload_n hx hb dL_law_338 rfl (lv_at hl 0 rfl) ?_
  refine lv_iload_n hx hb dL_law_339 rfl (lv_at hl 3 rfl) ?_
  refine lv_iconst (v := 1) hx hb dL_law_340 (by decide) ?_
  refine lv_iadd hx hb dL_law_341 ?_
  refine va_sld hx hb hX hbl hbA hW.2 hi1 dL_law_342 ?_
  refine lw_call (g := g) (g' := g1) (r := some (.int r)) (as := [.int (xs (x3 + 1).toNatClampNeg)]) (b0 := 0) (rest := []) (n := 1) ⟨hx, hb, hr, hml, hown, hts, hX, hbl, hlocks, hU⟩ hW hl.1 ms_87 s_0 rfl (by decide) (by decide) lk1_44 lk2_44 lk3_44 lk4_44 (am_up (by decide) (ev_Tb_leaves e1)) rfl rfl (Nat.le_of_ble_eq_true rfl) dL_law_343 (fun H locs hW => ?_)
  refine W.eq (g2 := F0 m 346 ls (.int r :: [])) rfl ?_
  refine lv_aload_n hx hb dL_law_346 rfl (lv_at hl 2 rfl) ?_
  refine lv_aload_n hx hb dL_law_347 rfl (lv_at hl 0 rfl) ?_
  refine lv_iload_n hx hb dL_law_348 rfl (lv_at hl 3 rfl) ?_
  refine lv_iconst (v := 1) hx hb dL_law_349 (by decide) ?_
  refine lv_iadd hx hb dL_law_350 ?_
  refine va_sld hx hb hX hbl hbA hW.2 hi1 dL_law_351 ?_
  refine lw_call (g := g1) (g' := g2) (r := some (.int r)) (as := [.int (xs (x3 + 1).toNatClampNeg)]) (b0 := 221) (rest := [.int r]) (n := 1) ⟨hx, hb, hr, hml, hown, hts, hX, hbl, hlocks, hU⟩ hW hl.1 ms_147 s_221 rfl (by decide) (by decide) lk1_47 lk2_47 lk3_47 lk4_47 (am_up (by decide) (ev_Mo_leaves e2)) rfl rfl (Nat.le_of_ble_eq_true rfl) dL_law_352 (fun H locs hW => ?_)
  refine W.eq (g2 := F0 m 355 ls (.int r :: [.int r])) rfl ?_
  exact lv_icmp_eq (tgt := 839) hx hb dL_law_355 (by decide) (fun _ => kk _ H locs hI2 hW) (fun q => absurd rfl q)
set_option maxHeartbeats 4000000 in
set_option maxRecDepth 100000 in
theorem lw_c8 {I : am_G → Prop} (hsp : Sp_goes I) (K : lw_K D cy bn p s m meth c b L xs) {x3 : Int32} (hi1 : vp_in (x3 + 1) L) (hi2 : vp_in (x3 + 2) L) (hi3 : vp_in (x3 + 3) L) (hi4 : vp_in (x3 + 4) L) {g : am_G} (hI : I g) {H : Heap} {locs : List Loc} (hW : lw_W D cy bn s g H locs) {ls : Array Slot} (hl : lv_has ls 4 [(0, .ref b), (1, .ref (s.heap.size + 0)), (2, .ref (s.heap.size + 221)), (3, .int x3)])
    (kk : ∀ (g : am_G) (H : Heap) (locs : List Loc), I g → lw_W D cy bn s g H locs → W p l e room_1 s m #[Value.ref b] below meth c H locs 232 3074 Q (F0 m 839 ls [])) : W p l e room_1 s m #[Value.ref b] below meth c H locs 232 3074 Q (F0 m 360 ls []) := by
  obtain ⟨hx, hb, hr, hml, hown, hts, hX, hbl, hlocks, hU⟩ := K
  have hbA : ¬ (fun q : Nat => s.heap.size ≤ q) b := Nat.not_le.mpr hbl
  obtain ⟨g1, g2, r, e1, e2, hI2⟩ := hsp g hI
  refine lv_aload_n hx hb dL_law_360 rfl (lv_at hl 1 rfl) ?_
  refine lw_call (g := g) (g' := g1) (r := some (.int r)) (as := []) (b0 := 0) (rest := []) (n := 0) ⟨hx, hb, hr, hml, hown, hts, hX, hbl, hlocks, hU⟩ hW hl.1 ms_88 s_0 rfl (by decide) (by decide) lk1_48 lk2_48 lk3_48 lk4_48 (am_up (by decide) (ev_Tb_goes e1)) rfl rfl (Nat.le_of_ble_eq_true rfl) dL_law_361 (fun H locs hW => ?_)
  refine W.eq (g2 := F0 m 364 ls (.int r :: [])) rfl ?_
  refine lv_aload_n hx hb dL_law_364 rfl (lv_at hl 2 rfl) ?_
  refine lw_call (g := g1) (g' := g2) (r := some (.int r)) (as := []) (b0 := 221) (rest := [.int r]) (n := 0) ⟨hx, hb, hr, hml, hown, hts, hX, hbl, hlocks, hU⟩ hW hl.1 ms_155 s_221 rfl (by decide) (by decide) lk1_51 lk2_51 lk3_51 lk4_51 (am_up (by decide) (ev_Mo_goes e2)) rfl rfl (Nat.le_of_ble_eq_true rfl) dL_law_365 (fun H locs hW => ?_)
  refine W.eq (g2 := F0 m 368 ls (.int r :: [.int r])) rfl ?_
  exact lv_icmp_eq (tgt := 839) hx hb dL_law_368 (by decide) (fun _ => kk _ H locs hI2 hW) (fun q => absurd rfl q)
set_option maxHeartbeats 4000000 in
set_option maxRecDepth 100000 in
theorem lw_c9 {I : am_G → Prop} (hsp : Sp_undo I) (K : lw_K D cy bn p s m meth c b L xs) {x3 : Int32} (hi1 : vp_in (x3 + 1) L) (hi2 : vp_in (x3 + 2) L) (hi3 : vp_in (x3 + 3) L) (hi4 : vp_in (x3 + 4) L) {g : am_G} (hI : I g) {H : Heap} {locs : List Loc} (hW : lw_W D cy bn s g H locs) {ls : Array Slot} (hl : lv_has ls 4 [(0, .ref b), (1, .ref (s.heap.size + 0)), (2, .ref (s.heap.size + 221)), (3, .int x3)])
    (kk : ∀ (g : am_G) (H : Heap) (locs : List Loc), I g → lw_W D cy bn s g H locs → W p l e room_1 s m #[Value.ref b] below meth c H locs 232 3074 Q (F0 m 839 ls [])) : W p l e room_1 s m #[Value.ref b] below meth c H locs 232 3074 Q (F0 m 373 ls []) := by
  obtain ⟨hx, hb, hr, hml, hown, hts, hX, hbl, hlocks, hU⟩ := K
  have hbA : ¬ (fun q : Nat => s.heap.size ≤ q) b := Nat.not_le.mpr hbl
  obtain ⟨g1, g2, r, e1, e2, hI2⟩ := hsp g hI
  refine lv_aload_n hx hb dL_law_373 rfl (lv_at hl 1 rfl) ?_
  refine lw_call (g := g) (g' := g1) (r := some (.int r)) (as := []) (b0 := 0) (rest := []) (n := 0) ⟨hx, hb, hr, hml, hown, hts, hX, hbl, hlocks, hU⟩ hW hl.1 ms_89 s_0 rfl (by decide) (by decide) lk1_52 lk2_52 lk3_52 lk4_52 (am_up (by decide) (ev_Tb_undo e1)) rfl rfl (Nat.le_of_ble_eq_true rfl) dL_law_374 (fun H locs hW => ?_)
  refine W.eq (g2 := F0 m 377 ls (.int r :: [])) rfl ?_
  refine lv_aload_n hx hb dL_law_377 rfl (lv_at hl 2 rfl) ?_
  refine lw_call (g := g1) (g' := g2) (r := some (.int r)) (as := []) (b0 := 221) (rest := [.int r]) (n := 0) ⟨hx, hb, hr, hml, hown, hts, hX, hbl, hlocks, hU⟩ hW hl.1 ms_156 s_221 rfl (by decide) (by decide) lk1_55 lk2_55 lk3_55 lk4_55 (am_up (by decide) (ev_Mo_undo e2)) rfl rfl (Nat.le_of_ble_eq_true rfl) dL_law_378 (fun H locs hW => ?_)
  refine W.eq (g2 := F0 m 381 ls (.int r :: [.int r])) rfl ?_
  exact lv_icmp_eq (tgt := 839) hx hb dL_law_381 (by decide) (fun _ => kk _ H locs hI2 hW) (fun q => absurd rfl q)
set_option maxHeartbeats 4000000 in
set_option maxRecDepth 100000 in
theorem lw_c10 {I : am_G → Prop} (hsp : Sp_now I) (K : lw_K D cy bn p s m meth c b L xs) {x3 : Int32} (hi1 : vp_in (x3 + 1) L) (hi2 : vp_in (x3 + 2) L) (hi3 : vp_in (x3 + 3) L) (hi4 : vp_in (x3 + 4) L) {g : am_G} (hI : I g) {H : Heap} {locs : List Loc} (hW : lw_W D cy bn s g H locs) {ls : Array Slot} (hl : lv_has ls 4 [(0, .ref b), (1, .ref (s.heap.size + 0)), (2, .ref (s.heap.size + 221)), (3, .int x3)])
    (kk : ∀ (g : am_G) (H : Heap) (locs : List Loc), I g → lw_W D cy bn s g H locs → W p l e room_1 s m #[Value.ref b] below meth c H locs 232 3074 Q (F0 m 839 ls [])) : W p l e room_1 s m #[Value.ref b] below meth c H locs 232 3074 Q (F0 m 386 ls []) := by
  obtain ⟨hx, hb, hr, hml, hown, hts, hX, hbl, hlocks, hU⟩ := K
  have hbA : ¬ (fun q : Nat => s.heap.size ≤ q) b := Nat.not_le.mpr hbl
  obtain ⟨r, e1, e2, hI2⟩ := hsp g (xs (x3 + 1).toNatClampNeg) hI
  refine lv_aload_n hx hb dL_law_386 rfl (lv_at hl 1 rfl) ?_
  refine lv_aload_n hx hb dL_law_387 rfl (lv_at hl 0 rfl) ?_
  refine lv_iload_n hx hb dL_law_388 rfl (lv_at hl 3 rfl) ?_
  refine lv_iconst (v := 1) hx hb dL_law_389 (by decide) ?_
  refine lv_iadd hx hb dL_law_390 ?_
  refine va_sld hx hb hX hbl hbA hW.2 hi1 dL_law_391 ?_
  refine lw_call (g := g) (g' := g) (r := some (.int r)) (as := [.int (xs (x3 + 1).toNatClampNeg)]) (b0 := 0) (rest := []) (n := 1) ⟨hx, hb, hr, hml, hown, hts, hX, hbl, hlocks, hU⟩ hW hl.1 ms_90 s_0 rfl (by decide) (by decide) lk1_56 lk2_56 lk3_56 lk4_56 (am_up (by decide) (ev_Tb_now e1)) rfl rfl (Nat.le_of_ble_eq_true rfl) dL_law_392 (fun H locs hW => ?_)
  refine W.eq (g2 := F0 m 395 ls (.int r :: [])) rfl ?_
  refine lv_aload_n hx hb dL_law_395 rfl (lv_at hl 2 rfl) ?_
  refine lv_aload_n hx hb dL_law_396 rfl (lv_at hl 0 rfl) ?_
  refine lv_iload_n hx hb dL_law_397 rfl (lv_at hl 3 rfl) ?_
  refine lv_iconst (v := 1) hx hb dL_law_398 (by decide) ?_
  refine lv_iadd hx hb dL_law_399 ?_
  refine va_sld hx hb hX hbl hbA hW.2 hi1 dL_law_400 ?_
  refine lw_call (g := g) (g' := g) (r := some (.int r)) (as := [.int (xs (x3 + 1).toNatClampNeg)]) (b0 := 221) (rest := [.int r]) (n := 1) ⟨hx, hb, hr, hml, hown, hts, hX, hbl, hlocks, hU⟩ hW hl.1 ms_159 s_221 rfl (by decide) (by decide) lk1_59 lk2_59 lk3_59 lk4_59 (am_up (by decide) (ev_Mo_now e2)) rfl rfl (Nat.le_of_ble_eq_true rfl) dL_law_401 (fun H locs hW => ?_)
  refine W.eq (g2 := F0 m 404 ls (.int r :: [.int r])) rfl ?_
  exact lv_icmp_eq (tgt := 839) hx hb dL_law_404 (by decide) (fun _ => kk _ H locs hI2 hW) (fun q => absurd rfl q)
set_option maxHeartbeats 4000000 in
set_option maxRecDepth 100000 in
theorem lw_c11 {I : am_G → Prop} (hsp : Sp_rest I) (K : lw_K D cy bn p s m meth c b L xs) {x3 : Int32} (hi1 : vp_in (x3 + 1) L) (hi2 : vp_in (x3 + 2) L) (hi3 : vp_in (x3 + 3) L) (hi4 : vp_in (x3 + 4) L) {g : am_G} (hI : I g) {H : Heap} {locs : List Loc} (hW : lw_W D cy bn s g H locs) {ls : Array Slot} (hl : lv_has ls 4 [(0, .ref b), (1, .ref (s.heap.size + 0)), (2, .ref (s.heap.size + 221)), (3, .int x3)])
    (kk : ∀ (g : am_G) (H : Heap) (locs : List Loc), I g → lw_W D cy bn s g H locs → W p l e room_1 s m #[Value.ref b] below meth c H locs 232 3074 Q (F0 m 839 ls [])) : W p l e room_1 s m #[Value.ref b] below meth c H locs 232 3074 Q (F0 m 409 ls []) := by
  obtain ⟨hx, hb, hr, hml, hown, hts, hX, hbl, hlocks, hU⟩ := K
  have hbA : ¬ (fun q : Nat => s.heap.size ≤ q) b := Nat.not_le.mpr hbl
  obtain ⟨g1, g2, r, e1, e2, hI2⟩ := hsp g (xs (x3 + 1).toNatClampNeg) hI
  refine lv_aload_n hx hb dL_law_409 rfl (lv_at hl 1 rfl) ?_
  refine lv_aload_n hx hb dL_law_410 rfl (lv_at hl 0 rfl) ?_
  refine lv_iload_n hx hb dL_law_411 rfl (lv_at hl 3 rfl) ?_
  refine lv_iconst (v := 1) hx hb dL_law_412 (by decide) ?_
  refine lv_iadd hx hb dL_law_413 ?_
  refine va_sld hx hb hX hbl hbA hW.2 hi1 dL_law_414 ?_
  refine lw_call (g := g) (g' := g1) (r := some (.int r)) (as := [.int (xs (x3 + 1).toNatClampNeg)]) (b0 := 0) (rest := []) (n := 1) ⟨hx, hb, hr, hml, hown, hts, hX, hbl, hlocks, hU⟩ hW hl.1 ms_91 s_0 rfl (by decide) (by decide) lk1_60 lk2_60 lk3_60 lk4_60 (am_up (by decide) (ev_Tb_rest e1)) rfl rfl (Nat.le_of_ble_eq_true rfl) dL_law_415 (fun H locs hW => ?_)
  refine W.eq (g2 := F0 m 418 ls (.int r :: [])) rfl ?_
  refine lv_aload_n hx hb dL_law_418 rfl (lv_at hl 2 rfl) ?_
  refine lv_aload_n hx hb dL_law_419 rfl (lv_at hl 0 rfl) ?_
  refine lv_iload_n hx hb dL_law_420 rfl (lv_at hl 3 rfl) ?_
  refine lv_iconst (v := 1) hx hb dL_law_421 (by decide) ?_
  refine lv_iadd hx hb dL_law_422 ?_
  refine va_sld hx hb hX hbl hbA hW.2 hi1 dL_law_423 ?_
  refine lw_call (g := g1) (g' := g2) (r := some (.int r)) (as := [.int (xs (x3 + 1).toNatClampNeg)]) (b0 := 221) (rest := [.int r]) (n := 1) ⟨hx, hb, hr, hml, hown, hts, hX, hbl, hlocks, hU⟩ hW hl.1 ms_162 s_221 rfl (by decide) (by decide) lk1_63 lk2_63 lk3_63 lk4_63 (am_up (by decide) (ev_Mo_rest e2)) rfl rfl (Nat.le_of_ble_eq_true rfl) dL_law_424 (fun H locs hW => ?_)
  refine W.eq (g2 := F0 m 427 ls (.int r :: [.int r])) rfl ?_
  exact lv_icmp_eq (tgt := 839) hx hb dL_law_427 (by decide) (fun _ => kk _ H locs hI2 hW) (fun q => absurd rfl q)
set_option maxHeartbeats 4000000 in
set_option maxRecDepth 100000 in
theorem lw_c12 {I : am_G → Prop} (hsp : Sp_spent I) (K : lw_K D cy bn p s m meth c b L xs) {x3 : Int32} (hi1 : vp_in (x3 + 1) L) (hi2 : vp_in (x3 + 2) L) (hi3 : vp_in (x3 + 3) L) (hi4 : vp_in (x3 + 4) L) {g : am_G} (hI : I g) {H : Heap} {locs : List Loc} (hW : lw_W D cy bn s g H locs) {ls : Array Slot} (hl : lv_has ls 4 [(0, .ref b), (1, .ref (s.heap.size + 0)), (2, .ref (s.heap.size + 221)), (3, .int x3)])
    (kk : ∀ (g : am_G) (H : Heap) (locs : List Loc), I g → lw_W D cy bn s g H locs → W p l e room_1 s m #[Value.ref b] below meth c H locs 232 3074 Q (F0 m 839 ls [])) : W p l e room_1 s m #[Value.ref b] below meth c H locs 232 3074 Q (F0 m 432 ls []) := by
  obtain ⟨hx, hb, hr, hml, hown, hts, hX, hbl, hlocks, hU⟩ := K
  have hbA : ¬ (fun q : Nat => s.heap.size ≤ q) b := Nat.not_le.mpr hbl
  obtain ⟨g1, g2, r, e1, e2, hI2⟩ := hsp g (xs (x3 + 1).toNatClampNeg) hI
  refine lv_aload_n hx hb dL_law_432 rfl (lv_at hl 1 rfl) ?_
  refine lv_aload_n hx hb dL_law_433 rfl (lv_at hl 0 rfl) ?_
  refine lv_iload_n hx hb dL_law_434 rfl (lv_at hl 3 rfl) ?_
  refine lv_iconst (v := 1) hx hb dL_law_435 (by decide) ?_
  refine lv_iadd hx hb dL_law_436 ?_
  refine va_sld hx hb hX hbl hbA hW.2 hi1 dL_law_437 ?_
  refine lw_call (g := g) (g' := g1) (r := some (.int r)) (as := [.int (xs (x3 + 1).toNatClampNeg)]) (b0 := 0) (rest := []) (n := 1) ⟨hx, hb, hr, hml, hown, hts, hX, hbl, hlocks, hU⟩ hW hl.1 ms_92 s_0 rfl (by decide) (by decide) lk1_64 lk2_64 lk3_64 lk4_64 (am_up (by decide) (ev_Tb_spent e1)) rfl rfl (Nat.le_of_ble_eq_true rfl) dL_law_438 (fun H locs hW => ?_)
  refine W.eq (g2 := F0 m 441 ls (.int r :: [])) rfl ?_
  refine lv_aload_n hx hb dL_law_441 rfl (lv_at hl 2 rfl) ?_
  refine lv_aload_n hx hb dL_law_442 rfl (lv_at hl 0 rfl) ?_
  refine lv_iload_n hx hb dL_law_443 rfl (lv_at hl 3 rfl) ?_
  refine lv_iconst (v := 1) hx hb dL_law_444 (by decide) ?_
  refine lv_iadd hx hb dL_law_445 ?_
  refine va_sld hx hb hX hbl hbA hW.2 hi1 dL_law_446 ?_
  refine lw_call (g := g1) (g' := g2) (r := some (.int r)) (as := [.int (xs (x3 + 1).toNatClampNeg)]) (b0 := 221) (rest := [.int r]) (n := 1) ⟨hx, hb, hr, hml, hown, hts, hX, hbl, hlocks, hU⟩ hW hl.1 ms_163 s_221 rfl (by decide) (by decide) lk1_67 lk2_67 lk3_67 lk4_67 (am_up (by decide) (ev_Mo_spent e2)) rfl rfl (Nat.le_of_ble_eq_true rfl) dL_law_447 (fun H locs hW => ?_)
  refine W.eq (g2 := F0 m 450 ls (.int r :: [.int r])) rfl ?_
  exact lv_icmp_eq (tgt := 839) hx hb dL_law_450 (by decide) (fun _ => kk _ H locs hI2 hW) (fun q => absurd rfl q)
set_option maxHeartbeats 4000000 in
set_option maxRecDepth 100000 in
theorem lw_c13 {I : am_G → Prop} (hsp : Sp_soonest I) (K : lw_K D cy bn p s m meth c b L xs) {x3 : Int32} (hi1 : vp_in (x3 + 1) L) (hi2 : vp_in (x3 + 2) L) (hi3 : vp_in (x3 + 3) L) (hi4 : vp_in (x3 + 4) L) {g : am_G} (hI : I g) {H : Heap} {locs : List Loc} (hW : lw_W D cy bn s g H locs) {ls : Array Slot} (hl : lv_has ls 4 [(0, .ref b), (1, .ref (s.heap.size + 0)), (2, .ref (s.heap.size + 221)), (3, .int x3)])
    (kk : ∀ (g : am_G) (H : Heap) (locs : List Loc), I g → lw_W D cy bn s g H locs → W p l e room_1 s m #[Value.ref b] below meth c H locs 232 3074 Q (F0 m 839 ls [])) : W p l e room_1 s m #[Value.ref b] below meth c H locs 232 3074 Q (F0 m 455 ls []) := by
  obtain ⟨hx, hb, hr, hml, hown, hts, hX, hbl, hlocks, hU⟩ := K
  have hbA : ¬ (fun q : Nat => s.heap.size ≤ q) b := Nat.not_le.mpr hbl
  obtain ⟨g1, g2, r, e1, e2, hI2⟩ := hsp g (xs (x3 + 1).toNatClampNeg) hI
  refine lv_aload_n hx hb dL_law_455 rfl (lv_at hl 1 rfl) ?_
  refine lv_aload_n hx hb dL_law_456 rfl (lv_at hl 0 rfl) ?_
  refine lv_iload_n hx hb dL_law_457 rfl (lv_at hl 3 rfl) ?_
  refine lv_iconst (v := 1) hx hb dL_law_458 (by decide) ?_
  refine lv_iadd hx hb dL_law_459 ?_
  refine va_sld hx hb hX hbl hbA hW.2 hi1 dL_law_460 ?_
  refine lw_call (g := g) (g' := g1) (r := some (.int r)) (as := [.int (xs (x3 + 1).toNatClampNeg)]) (b0 := 0) (rest := []) (n := 1) ⟨hx, hb, hr, hml, hown, hts, hX, hbl, hlocks, hU⟩ hW hl.1 ms_93 s_0 rfl (by decide) (by decide) lk1_68 lk2_68 lk3_68 lk4_68 (am_up (by decide) (ev_Tb_soonest e1)) rfl rfl (Nat.le_of_ble_eq_true rfl) dL_law_461 (fun H locs hW => ?_)
  refine W.eq (g2 := F0 m 464 ls (.int r :: [])) rfl ?_
  refine lv_aload_n hx hb dL_law_464 rfl (lv_at hl 2 rfl) ?_
  refine lv_aload_n hx hb dL_law_465 rfl (lv_at hl 0 rfl) ?_
  refine lv_iload_n hx hb dL_law_466 rfl (lv_at hl 3 rfl) ?_
  refine lv_iconst (v := 1) hx hb dL_law_467 (by decide) ?_
  refine lv_iadd hx hb dL_law_468 ?_
  refine va_sld hx hb hX hbl hbA hW.2 hi1 dL_law_469 ?_
  refine lw_call (g := g1) (g' := g2) (r := some (.int r)) (as := [.int (xs (x3 + 1).toNatClampNeg)]) (b0 := 221) (rest := [.int r]) (n := 1) ⟨hx, hb, hr, hml, hown, hts, hX, hbl, hlocks, hU⟩ hW hl.1 ms_164 s_221 rfl (by decide) (by decide) lk1_71 lk2_71 lk3_71 lk4_71 (am_up (by decide) (ev_Mo_soonest e2)) rfl rfl (Nat.le_of_ble_eq_true rfl) dL_law_470 (fun H locs hW => ?_)
  refine W.eq (g2 := F0 m 473 ls (.int r :: [.int r])) rfl ?_
  exact lv_icmp_eq (tgt := 839) hx hb dL_law_473 (by decide) (fun _ => kk _ H locs hI2 hW) (fun q => absurd rfl q)
set_option maxHeartbeats 4000000 in
set_option maxRecDepth 100000 in
theorem lw_c14 {I : am_G → Prop} (hsp : Sp_helps I) (K : lw_K D cy bn p s m meth c b L xs) {x3 : Int32} (hi1 : vp_in (x3 + 1) L) (hi2 : vp_in (x3 + 2) L) (hi3 : vp_in (x3 + 3) L) (hi4 : vp_in (x3 + 4) L) {g : am_G} (hI : I g) {H : Heap} {locs : List Loc} (hW : lw_W D cy bn s g H locs) {ls : Array Slot} (hl : lv_has ls 4 [(0, .ref b), (1, .ref (s.heap.size + 0)), (2, .ref (s.heap.size + 221)), (3, .int x3)])
    (kk : ∀ (g : am_G) (H : Heap) (locs : List Loc), I g → lw_W D cy bn s g H locs → W p l e room_1 s m #[Value.ref b] below meth c H locs 232 3074 Q (F0 m 839 ls [])) : W p l e room_1 s m #[Value.ref b] below meth c H locs 232 3074 Q (F0 m 478 ls []) := by
  obtain ⟨hx, hb, hr, hml, hown, hts, hX, hbl, hlocks, hU⟩ := K
  have hbA : ¬ (fun q : Nat => s.heap.size ≤ q) b := Nat.not_le.mpr hbl
  obtain ⟨g1, g2, r, e1, e2, hI2⟩ := hsp g hI
  refine lv_aload_n hx hb dL_law_478 rfl (lv_at hl 1 rfl) ?_
  refine lw_call (g := g) (g' := g1) (r := some (.int r)) (as := []) (b0 := 0) (rest := []) (n := 0) ⟨hx, hb, hr, hml, hown, hts, hX, hbl, hlocks, hU⟩ hW hl.1 ms_94 s_0 rfl (by decide) (by decide) lk1_72 lk2_72 lk3_72 lk4_72 (am_up (by decide) (ev_Tb_helps e1)) rfl rfl (Nat.le_of_ble_eq_true rfl) dL_law_479 (fun H locs hW => ?_)
  refine W.eq (g2 := F0 m 482 ls (.int r :: [])) rfl ?_
  refine lv_aload_n hx hb dL_law_482 rfl (lv_at hl 2 rfl) ?_
  refine lw_call (g := g1) (g' := g2) (r := some (.int r)) (as := []) (b0 := 221) (rest := [.int r]) (n := 0) ⟨hx, hb, hr, hml, hown, hts, hX, hbl, hlocks, hU⟩ hW hl.1 ms_166 s_221 rfl (by decide) (by decide) lk1_75 lk2_75 lk3_75 lk4_75 (am_up (by decide) (ev_Mo_helps e2)) rfl rfl (Nat.le_of_ble_eq_true rfl) dL_law_483 (fun H locs hW => ?_)
  refine W.eq (g2 := F0 m 486 ls (.int r :: [.int r])) rfl ?_
  exact lv_icmp_eq (tgt := 839) hx hb dL_law_486 (by decide) (fun _ => kk _ H locs hI2 hW) (fun q => absurd rfl q)
set_option maxHeartbeats 4000000 in
set_option maxRecDepth 100000 in
theorem lw_c15 {I : am_G → Prop} (hsp : Sp_leave I) (K : lw_K D cy bn p s m meth c b L xs) {x3 : Int32} (hi1 : vp_in (x3 + 1) L) (hi2 : vp_in (x3 + 2) L) (hi3 : vp_in (x3 + 3) L) (hi4 : vp_in (x3 + 4) L) {g : am_G} (hI : I g) {H : Heap} {locs : List Loc} (hW : lw_W D cy bn s g H locs) {ls : Array Slot} (hl : lv_has ls 4 [(0, .ref b), (1, .ref (s.heap.size + 0)), (2, .ref (s.heap.size + 221)), (3, .int x3)])
    (kk : ∀ (g : am_G) (H : Heap) (locs : List Loc), I g → lw_W D cy bn s g H locs → W p l e room_1 s m #[Value.ref b] below meth c H locs 232 3074 Q (F0 m 839 ls [])) : W p l e room_1 s m #[Value.ref b] below meth c H locs 232 3074 Q (F0 m 491 ls []) := by
  obtain ⟨hx, hb, hr, hml, hown, hts, hX, hbl, hlocks, hU⟩ := K
  have hbA : ¬ (fun q : Nat => s.heap.size ≤ q) b := Nat.not_le.mpr hbl
  obtain ⟨g1, g2, r, e1, e2, hI2⟩ := hsp g (xs (x3 + 1).toNatClampNeg) (xs (x3 + 2).toNatClampNeg) hI
  refine lv_aload_n hx hb dL_law_491 rfl (lv_at hl 1 rfl) ?_
  refine lv_aload_n hx hb dL_law_492 rfl (lv_at hl 0 rfl) ?_
  refine lv_iload_n hx hb dL_law_493 rfl (lv_at hl 3 rfl) ?_
  refine lv_iconst (v := 1) hx hb dL_law_494 (by decide) ?_
  refine lv_iadd hx hb dL_law_495 ?_
  refine va_sld hx hb hX hbl hbA hW.2 hi1 dL_law_496 ?_
  refine lv_aload_n hx hb dL_law_497 rfl (lv_at hl 0 rfl) ?_
  refine lv_iload_n hx hb dL_law_498 rfl (lv_at hl 3 rfl) ?_
  refine lv_iconst (v := 2) hx hb dL_law_499 (by decide) ?_
  refine lv_iadd hx hb dL_law_500 ?_
  refine va_sld hx hb hX hbl hbA hW.2 hi2 dL_law_501 ?_
  refine lw_call (g := g) (g' := g1) (r := some (.int r)) (as := [.int (xs (x3 + 1).toNatClampNeg), .int (xs (x3 + 2).toNatClampNeg)]) (b0 := 0) (rest := []) (n := 2) ⟨hx, hb, hr, hml, hown, hts, hX, hbl, hlocks, hU⟩ hW hl.1 ms_95 s_0 rfl (by decide) (by decide) lk1_76 lk2_76 lk3_76 lk4_76 (am_up (by decide) (ev_Tb_leave e1)) rfl rfl (Nat.le_of_ble_eq_true rfl) dL_law_502 (fun H locs hW => ?_)
  refine W.eq (g2 := F0 m 505 ls (.int r :: [])) rfl ?_
  refine lv_aload_n hx hb dL_law_505 rfl (lv_at hl 2 rfl) ?_
  refine lv_aload_n hx hb dL_law_506 rfl (lv_at hl 0 rfl) ?_
  refine lv_iload_n hx hb dL_law_507 rfl (lv_at hl 3 rfl) ?_
  refine lv_iconst (v := 1) hx hb dL_law_508 (by decide) ?_
  refine lv_iadd hx hb dL_law_509 ?_
  refine va_sld hx hb hX hbl hbA hW.2 hi1 dL_law_510 ?_
  refine lv_aload_n hx hb dL_law_511 rfl (lv_at hl 0 rfl) ?_
  refine lv_iload_n hx hb dL_law_512 rfl (lv_at hl 3 rfl) ?_
  refine lv_iconst (v := 2) hx hb dL_law_513 (by decide) ?_
  refine lv_iadd hx hb dL_law_514 ?_
  refine va_sld hx hb hX hbl hbA hW.2 hi2 dL_law_515 ?_
  refine lw_call (g := g1) (g' := g2) (r := some (.int r)) (as := [.int (xs (x3 + 1).toNatClampNeg), .int (xs (x3 + 2).toNatClampNeg)]) (b0 := 221) (rest := [.int r]) (n := 2) ⟨hx, hb, hr, hml, hown, hts, hX, hbl, hlocks, hU⟩ hW hl.1 ms_167 s_221 rfl (by decide) (by decide) lk1_79 lk2_79 lk3_79 lk4_79 (am_up (by decide) (ev_Mo_leave e2)) rfl rfl (Nat.le_of_ble_eq_true rfl) dL_law_516 (fun H locs hW => ?_)
  refine W.eq (g2 := F0 m 519 ls (.int r :: [.int r])) rfl ?_
  exact lv_icmp_eq (tgt := 839) hx hb dL_law_519 (by decide) (fun _ => kk _ H locs hI2 hW) (fun q => absurd rfl q)
set_option maxHeartbeats 4000000 in
set_option maxRecDepth 100000 in
theorem lw_c16 {I : am_G → Prop} (hsp : Sp_eat I) (K : lw_K D cy bn p s m meth c b L xs) {x3 : Int32} (hi1 : vp_in (x3 + 1) L) (hi2 : vp_in (x3 + 2) L) (hi3 : vp_in (x3 + 3) L) (hi4 : vp_in (x3 + 4) L) {g : am_G} (hI : I g) {H : Heap} {locs : List Loc} (hW : lw_W D cy bn s g H locs) {ls : Array Slot} (hl : lv_has ls 4 [(0, .ref b), (1, .ref (s.heap.size + 0)), (2, .ref (s.heap.size + 221)), (3, .int x3)])
    (kk : ∀ (g : am_G) (H : Heap) (locs : List Loc), I g → lw_W D cy bn s g H locs → W p l e room_1 s m #[Value.ref b] below meth c H locs 232 3074 Q (F0 m 839 ls [])) : W p l e room_1 s m #[Value.ref b] below meth c H locs 232 3074 Q (F0 m 524 ls []) := by
  obtain ⟨hx, hb, hr, hml, hown, hts, hX, hbl, hlocks, hU⟩ := K
  have hbA : ¬ (fun q : Nat => s.heap.size ≤ q) b := Nat.not_le.mpr hbl
  obtain ⟨g1, g2, r, e1, e2, hI2⟩ := hsp g (xs (x3 + 1).toNatClampNeg) hI
  refine lv_aload_n hx hb dL_law_524 rfl (lv_at hl 1 rfl) ?_
  refine lv_aload_n hx hb dL_law_525 rfl (lv_at hl 0 rfl) ?_
  refine lv_iload_n hx hb dL_law_526 rfl (lv_at hl 3 rfl) ?_
  refine lv_iconst (v := 1) hx hb dL_law_527 (by decide) ?_
  refine lv_iadd hx hb dL_law_528 ?_
  refine va_sld hx hb hX hbl hbA hW.2 hi1 dL_law_529 ?_
  refine lw_call (g := g) (g' := g1) (r := some (.int r)) (as := [.int (xs (x3 + 1).toNatClampNeg)]) (b0 := 0) (rest := []) (n := 1) ⟨hx, hb, hr, hml, hown, hts, hX, hbl, hlocks, hU⟩ hW hl.1 ms_96 s_0 rfl (by decide) (by decide) lk1_80 lk2_80 lk3_80 lk4_80 (am_up (by decide) (ev_Tb_eat e1)) rfl rfl (Nat.le_of_ble_eq_true rfl) dL_law_530 (fun H locs hW => ?_)
  refine W.eq (g2 := F0 m 533 ls (.int r :: [])) rfl ?_
  refine lv_aload_n hx hb dL_law_533 rfl (lv_at hl 2 rfl) ?_
  refine lv_aload_n hx hb dL_law_534 rfl (lv_at hl 0 rfl) ?_
  refine lv_iload_n hx hb dL_law_535 rfl (lv_at hl 3 rfl) ?_
  refine lv_iconst (v := 1) hx hb dL_law_536 (by decide) ?_
  refine lv_iadd hx hb dL_law_537 ?_
  refine va_sld hx hb hX hbl hbA hW.2 hi1 dL_law_538 ?_
  refine lw_call (g := g1) (g' := g2) (r := some (.int r)) (as := [.int (xs (x3 + 1).toNatClampNeg)]) (b0 := 221) (rest := [.int r]) (n := 1) ⟨hx, hb, hr, hml, hown, hts, hX, hbl, hlocks, hU⟩ hW hl.1 ms_168 s_221 rfl (by decide) (by decide) lk1_83 lk2_83 lk3_83 lk4_83 (am_up (by decide) (ev_Mo_eat e2)) rfl rfl (Nat.le_of_ble_eq_true rfl) dL_law_539 (fun H locs hW => ?_)
  refine W.eq (g2 := F0 m 542 ls (.int r :: [.int r])) rfl ?_
  exact lv_icmp_eq (tgt := 839) hx hb dL_law_542 (by decide) (fun _ => kk _ H locs hI2 hW) (fun q => absurd rfl q)
set_option maxHeartbeats 4000000 in
set_option maxRecDepth 100000 in
theorem lw_c17 {I : am_G → Prop} (hsp : Sp_truly I) (K : lw_K D cy bn p s m meth c b L xs) {x3 : Int32} (hi1 : vp_in (x3 + 1) L) (hi2 : vp_in (x3 + 2) L) (hi3 : vp_in (x3 + 3) L) (hi4 : vp_in (x3 + 4) L) {g : am_G} (hI : I g) {H : Heap} {locs : List Loc} (hW : lw_W D cy bn s g H locs) {ls : Array Slot} (hl : lv_has ls 4 [(0, .ref b), (1, .ref (s.heap.size + 0)), (2, .ref (s.heap.size + 221)), (3, .int x3)])
    (kk : ∀ (g : am_G) (H : Heap) (locs : List Loc), I g → lw_W D cy bn s g H locs → W p l e room_1 s m #[Value.ref b] below meth c H locs 232 3074 Q (F0 m 839 ls [])) : W p l e room_1 s m #[Value.ref b] below meth c H locs 232 3074 Q (F0 m 547 ls []) := by
  obtain ⟨hx, hb, hr, hml, hown, hts, hX, hbl, hlocks, hU⟩ := K
  have hbA : ¬ (fun q : Nat => s.heap.size ≤ q) b := Nat.not_le.mpr hbl
  obtain ⟨r, e1, e2, hI2⟩ := hsp g (xs (x3 + 1).toNatClampNeg) (xs (x3 + 2).toNatClampNeg) (xs (x3 + 3).toNatClampNeg) (xs (x3 + 4).toNatClampNeg) hI
  refine lv_aload_n hx hb dL_law_547 rfl (lv_at hl 1 rfl) ?_
  refine lv_aload_n hx hb dL_law_548 rfl (lv_at hl 0 rfl) ?_
  refine lv_iload_n hx hb dL_law_549 rfl (lv_at hl 3 rfl) ?_
  refine lv_iconst (v := 1) hx hb dL_law_550 (by decide) ?_
  refine lv_iadd hx hb dL_law_551 ?_
  refine va_sld hx hb hX hbl hbA hW.2 hi1 dL_law_552 ?_
  refine lv_aload_n hx hb dL_law_553 rfl (lv_at hl 0 rfl) ?_
  refine lv_iload_n hx hb dL_law_554 rfl (lv_at hl 3 rfl) ?_
  refine lv_iconst (v := 2) hx hb dL_law_555 (by decide) ?_
  refine lv_iadd hx hb dL_law_556 ?_
  refine va_sld hx hb hX hbl hbA hW.2 hi2 dL_law_557 ?_
  refine lv_aload_n hx hb dL_law_558 rfl (lv_at hl 0 rfl) ?_
  refine lv_iload_n hx hb dL_law_559 rfl (lv_at hl 3 rfl) ?_
  refine lv_iconst (v := 3) hx hb dL_law_560 (by decide) ?_
  refine lv_iadd hx hb dL_law_561 ?_
  refine va_sld hx hb hX hbl hbA hW.2 hi3 dL_law_562 ?_
  refine lv_aload_n hx hb dL_law_563 rfl (lv_at hl 0 rfl) ?_
  refine lv_iload_n hx hb dL_law_564 rfl (lv_at hl 3 rfl) ?_
  refine lv_iconst (v := 4) hx hb dL_law_565 (by decide) ?_
  refine lv_iadd hx hb dL_law_566 ?_
  refine va_sld hx hb hX hbl hbA hW.2 hi4 dL_law_567 ?_
  refine lw_call (g := g) (g' := g) (r := some (.int r)) (as := [.int (xs (x3 + 1).toNatClampNeg), .int (xs (x3 + 2).toNatClampNeg), .int (xs (x3 + 3).toNatClampNeg), .int (xs (x3 + 4).toNatClampNeg)]) (b0 := 0) (rest := []) (n := 4) ⟨hx, hb, hr, hml, hown, hts, hX, hbl, hlocks, hU⟩ hW hl.1 ms_97 s_0 rfl (by decide) (by decide) lk1_84 lk2_84 lk3_84 lk4_84 (am_up (by decide) (ev_Tb_truly e1)) rfl rfl (Nat.le_of_ble_eq_true rfl) dL_law_568 (fun H locs hW => ?_)
  refine W.eq (g2 := F0 m 571 ls (.int r :: [])) rfl ?_
  refine lv_aload_n hx hb dL_law_571 rfl (lv_at hl 2 rfl) ?_
  refine lv_aload_n hx hb dL_law_572 rfl (lv_at hl 0 rfl) ?_
  refine lv_iload_n hx hb dL_law_573 rfl (lv_at hl 3 rfl) ?_
  refine lv_iconst (v := 1) hx hb dL_law_574 (by decide) ?_
  refine lv_iadd hx hb dL_law_575 ?_
  refine va_sld hx hb hX hbl hbA hW.2 hi1 dL_law_576 ?_
  refine lv_aload_n hx hb dL_law_577 rfl (lv_at hl 0 rfl) ?_
  refine lv_iload_n hx hb dL_law_578 rfl (lv_at hl 3 rfl) ?_
  refine lv_iconst (v := 2) hx hb dL_law_579 (by decide) ?_
  refine lv_iadd hx hb dL_law_580 ?_
  refine va_sld hx hb hX hbl hbA hW.2 hi2 dL_law_581 ?_
  refine lv_aload_n hx hb dL_law_582 rfl (lv_at hl 0 rfl) ?_
  refine lv_iload_n hx hb dL_law_583 rfl (lv_at hl 3 rfl) ?_
  refine lv_iconst (v := 3) hx hb dL_law_584 (by decide) ?_
  refine lv_iadd hx hb dL_law_585 ?_
  refine va_sld hx hb hX hbl hbA hW.2 hi3 dL_law_586 ?_
  refine lv_aload_n hx hb dL_law_587 rfl (lv_at hl 0 rfl) ?_
  refine lv_iload_n hx hb dL_law_588 rfl (lv_at hl 3 rfl) ?_
  refine lv_iconst (v := 4) hx hb dL_law_589 (by decide) ?_
  refine lv_iadd hx hb dL_law_590 ?_
  refine va_sld hx hb hX hbl hbA hW.2 hi4 dL_law_591 ?_
  refine lw_call (g := g) (g' := g) (r := some (.int r)) (as := [.int (xs (x3 + 1).toNatClampNeg), .int (xs (x3 + 2).toNatClampNeg), .int (xs (x3 + 3).toNatClampNeg), .int (xs (x3 + 4).toNatClampNeg)]) (b0 := 221) (rest := [.int r]) (n := 4) ⟨hx, hb, hr, hml, hown, hts, hX, hbl, hlocks, hU⟩ hW hl.1 ms_170 s_221 rfl (by decide) (by decide) lk1_88 lk2_88 lk3_88 lk4_88 (am_up (by decide) (ev_Mo_truly e2)) rfl rfl (Nat.le_of_ble_eq_true rfl) dL_law_592 (fun H locs hW => ?_)
  refine W.eq (g2 := F0 m 595 ls (.int r :: [.int r])) rfl ?_
  exact lv_icmp_eq (tgt := 839) hx hb dL_law_595 (by decide) (fun _ => kk _ H locs hI2 hW) (fun q => absurd rfl q)
set_option maxHeartbeats 4000000 in
set_option maxRecDepth 100000 in
theorem lw_c18 {I : am_G → Prop} (hsp : Sp_odds I) (K : lw_K D cy bn p s m meth c b L xs) {x3 : Int32} (hi1 : vp_in (x3 + 1) L) (hi2 : vp_in (x3 + 2) L) (hi3 : vp_in (x3 + 3) L) (hi4 : vp_in (x3 + 4) L) {g : am_G} (hI : I g) {H : Heap} {locs : List Loc} (hW : lw_W D cy bn s g H locs) {ls : Array Slot} (hl : lv_has ls 4 [(0, .ref b), (1, .ref (s.heap.size + 0)), (2, .ref (s.heap.size + 221)), (3, .int x3)])
    (kk : ∀ (g : am_G) (H : Heap) (locs : List Loc), I g → lw_W D cy bn s g H locs → W p l e room_1 s m #[Value.ref b] below meth c H locs 232 3074 Q (F0 m 839 ls [])) : W p l e room_1 s m #[Value.ref b] below meth c H locs 232 3074 Q (F0 m 600 ls []) := by
  obtain ⟨hx, hb, hr, hml, hown, hts, hX, hbl, hlocks, hU⟩ := K
  have hbA : ¬ (fun q : Nat => s.heap.size ≤ q) b := Nat.not_le.mpr hbl
  obtain ⟨g1, g2, r, e1, e2, hI2⟩ := hsp g (xs (x3 + 1).toNatClampNeg) (xs (x3 + 2).toNatClampNeg) (xs (x3 + 3).toNatClampNeg) hI
  refine lv_aload_n hx hb dL_law_600 rfl (lv_at hl 1 rfl) ?_
  refine lv_aload_n hx hb dL_law_601 rfl (lv_at hl 0 rfl) ?_
  refine lv_iload_n hx hb dL_law_602 rfl (lv_at hl 3 rfl) ?_
  refine lv_iconst (v := 1) hx hb dL_law_603 (by decide) ?_
  refine lv_iadd hx hb dL_law_604 ?_
  refine va_sld hx hb hX hbl hbA hW.2 hi1 dL_law_605 ?_
  refine lv_aload_n hx hb dL_law_606 rfl (lv_at hl 0 rfl) ?_
  refine lv_iload_n hx hb dL_law_607 rfl (lv_at hl 3 rfl) ?_
  refine lv_iconst (v := 2) hx hb dL_law_608 (by decide) ?_
  refine lv_iadd hx hb dL_law_609 ?_
  refine va_sld hx hb hX hbl hbA hW.2 hi2 dL_law_610 ?_
  refine lv_aload_n hx hb dL_law_611 rfl (lv_at hl 0 rfl) ?_
  refine lv_iload_n hx hb dL_law_612 rfl (lv_at hl 3 rfl) ?_
  refine lv_iconst (v := 3) hx hb dL_law_613 (by decide) ?_
  refine lv_iadd hx hb dL_law_614 ?_
  refine va_sld hx hb hX hbl hbA hW.2 hi3 dL_law_615 ?_
  refine lw_call (g := g) (g' := g1) (r := some (.long r)) (as := [.int (xs (x3 + 1).toNatClampNeg), .int (xs (x3 + 2).toNatClampNeg), .int (xs (x3 + 3).toNatClampNeg)]) (b0 := 0) (rest := []) (n := 3) ⟨hx, hb, hr, hml, hown, hts, hX, hbl, hlocks, hU⟩ hW hl.1 ms_98 s_0 rfl (by decide) (by decide) lk1_89 lk2_89 lk3_89 lk4_89 (am_up (by decide) (ev_Tb_odds e1)) rfl rfl (Nat.le_of_ble_eq_true rfl) dL_law_616 (fun H locs hW => ?_)
  refine W.eq (g2 := F0 m 619 ls (.long r :: [])) rfl ?_
  refine lv_aload_n hx hb dL_law_619 rfl (lv_at hl 2 rfl) ?_
  refine lv_aload_n hx hb dL_law_620 rfl (lv_at hl 0 rfl) ?_
  refine lv_iload_n hx hb dL_law_621 rfl (lv_at hl 3 rfl) ?_
  refine lv_iconst (v := 1) hx hb dL_law_622 (by decide) ?_
  refine lv_iadd hx hb dL_law_623 ?_
  refine va_sld hx hb hX hbl hbA hW.2 hi1 dL_law_624 ?_
  refine lv_aload_n hx hb dL_law_625 rfl (lv_at hl 0 rfl) ?_
  refine lv_iload_n hx hb dL_law_626 rfl (lv_at hl 3 rfl) ?_
  refine lv_iconst (v := 2) hx hb dL_law_627 (by decide) ?_
  refine lv_iadd hx hb dL_law_628 ?_
  refine va_sld hx hb hX hbl hbA hW.2 hi2 dL_law_629 ?_
  refine lv_aload_n hx hb dL_law_630 rfl (lv_at hl 0 rfl) ?_
  refine lv_iload_n hx hb dL_law_631 rfl (lv_at hl 3 rfl) ?_
  refine lv_iconst (v := 3) hx hb dL_law_632 (by decide) ?_
  refine lv_iadd hx hb dL_law_633 ?_
  refine va_sld hx hb hX hbl hbA hW.2 hi3 dL_law_634 ?_
  refine lw_call (g := g1) (g' := g2) (r := some (.long r)) (as := [.int (xs (x3 + 1).toNatClampNeg), .int (xs (x3 + 2).toNatClampNeg), .int (xs (x3 + 3).toNatClampNeg)]) (b0 := 221) (rest := [.long r]) (n := 3) ⟨hx, hb, hr, hml, hown, hts, hX, hbl, hlocks, hU⟩ hW hl.1 ms_171 s_221 rfl (by decide) (by decide) lk1_93 lk2_93 lk3_93 lk4_93 (am_up (by decide) (ev_Mo_odds e2)) rfl rfl (Nat.le_of_ble_eq_true rfl) dL_law_635 (fun H locs hW => ?_)
  refine W.eq (g2 := F0 m 638 ls (.long r :: [.long r])) rfl ?_
  refine W.lcmp hx hb dL_law_638 ?_
  exact lv_if_eq (tgt := 839) hx hb dL_law_639 (by decide) (fun _ => kk _ H locs hI2 hW) (fun q => absurd (by simp [lg_cmp]) q)
set_option maxHeartbeats 4000000 in
set_option maxRecDepth 100000 in
theorem lw_c19 {I : am_G → Prop} (hsp : Sp_book I) (K : lw_K D cy bn p s m meth c b L xs) {x3 : Int32} (hi1 : vp_in (x3 + 1) L) (hi2 : vp_in (x3 + 2) L) (hi3 : vp_in (x3 + 3) L) (hi4 : vp_in (x3 + 4) L) {g : am_G} (hI : I g) {H : Heap} {locs : List Loc} (hW : lw_W D cy bn s g H locs) {ls : Array Slot} (hl : lv_has ls 4 [(0, .ref b), (1, .ref (s.heap.size + 0)), (2, .ref (s.heap.size + 221)), (3, .int x3)])
    (kk : ∀ (g : am_G) (H : Heap) (locs : List Loc), I g → lw_W D cy bn s g H locs → W p l e room_1 s m #[Value.ref b] below meth c H locs 232 3074 Q (F0 m 839 ls [])) : W p l e room_1 s m #[Value.ref b] below meth c H locs 232 3074 Q (F0 m 644 ls []) := by
  obtain ⟨hx, hb, hr, hml, hown, hts, hX, hbl, hlocks, hU⟩ := K
  have hbA : ¬ (fun q : Nat => s.heap.size ≤ q) b := Nat.not_le.mpr hbl
  obtain ⟨g1, g2, r, e1, e2, hI2⟩ := hsp g (xs (x3 + 1).toNatClampNeg) (xs (x3 + 2).toNatClampNeg) (xs (x3 + 3).toNatClampNeg) hI
  refine lv_aload_n hx hb dL_law_644 rfl (lv_at hl 1 rfl) ?_
  refine lv_aload_n hx hb dL_law_645 rfl (lv_at hl 0 rfl) ?_
  refine lv_iload_n hx hb dL_law_646 rfl (lv_at hl 3 rfl) ?_
  refine lv_iconst (v := 1) hx hb dL_law_647 (by decide) ?_
  refine lv_iadd hx hb dL_law_648 ?_
  refine va_sld hx hb hX hbl hbA hW.2 hi1 dL_law_649 ?_
  refine lv_aload_n hx hb dL_law_650 rfl (lv_at hl 0 rfl) ?_
  refine lv_iload_n hx hb dL_law_651 rfl (lv_at hl 3 rfl) ?_
  refine lv_iconst (v := 2) hx hb dL_law_652 (by decide) ?_
  refine lv_iadd hx hb dL_law_653 ?_
  refine va_sld hx hb hX hbl hbA hW.2 hi2 dL_law_654 ?_
  refine lv_aload_n hx hb dL_law_655 rfl (lv_at hl 0 rfl) ?_
  refine lv_iload_n hx hb dL_law_656 rfl (lv_at hl 3 rfl) ?_
  refine lv_iconst (v := 3) hx hb dL_law_657 (by decide) ?_
  refine lv_iadd hx hb dL_law_658 ?_
  refine va_sld hx hb hX hbl hbA hW.2 hi3 dL_law_659 ?_
  refine lw_call (g := g) (g' := g1) (r := some (.int r)) (as := [.int (xs (x3 + 1).toNatClampNeg), .int (xs (x3 + 2).toNatClampNeg), .int (xs (x3 + 3).toNatClampNeg)]) (b0 := 0) (rest := []) (n := 3) ⟨hx, hb, hr, hml, hown, hts, hX, hbl, hlocks, hU⟩ hW hl.1 ms_99 s_0 rfl (by decide) (by decide) lk1_94 lk2_94 lk3_94 lk4_94 (am_up (by decide) (ev_Tb_book e1)) rfl rfl (Nat.le_of_ble_eq_true rfl) dL_law_660 (fun H locs hW => ?_)
  refine W.eq (g2 := F0 m 663 ls (.int r :: [])) rfl ?_
  refine lv_aload_n hx hb dL_law_663 rfl (lv_at hl 2 rfl) ?_
  refine lv_aload_n hx hb dL_law_664 rfl (lv_at hl 0 rfl) ?_
  refine lv_iload_n hx hb dL_law_665 rfl (lv_at hl 3 rfl) ?_
  refine lv_iconst (v := 1) hx hb dL_law_666 (by decide) ?_
  refine lv_iadd hx hb dL_law_667 ?_
  refine va_sld hx hb hX hbl hbA hW.2 hi1 dL_law_668 ?_
  refine lv_aload_n hx hb dL_law_669 rfl (lv_at hl 0 rfl) ?_
  refine lv_iload_n hx hb dL_law_670 rfl (lv_at hl 3 rfl) ?_
  refine lv_iconst (v := 2) hx hb dL_law_671 (by decide) ?_
  refine lv_iadd hx hb dL_law_672 ?_
  refine va_sld hx hb hX hbl hbA hW.2 hi2 dL_law_673 ?_
  refine lv_aload_n hx hb dL_law_674 rfl (lv_at hl 0 rfl) ?_
  refine lv_iload_n hx hb dL_law_675 rfl (lv_at hl 3 rfl) ?_
  refine lv_iconst (v := 3) hx hb dL_law_676 (by decide) ?_
  refine lv_iadd hx hb dL_law_677 ?_
  refine va_sld hx hb hX hbl hbA hW.2 hi3 dL_law_678 ?_
  refine lw_call (g := g1) (g' := g2) (r := some (.int r)) (as := [.int (xs (x3 + 1).toNatClampNeg), .int (xs (x3 + 2).toNatClampNeg), .int (xs (x3 + 3).toNatClampNeg)]) (b0 := 221) (rest := [.int r]) (n := 3) ⟨hx, hb, hr, hml, hown, hts, hX, hbl, hlocks, hU⟩ hW hl.1 ms_172 s_221 rfl (by decide) (by decide) lk1_98 lk2_98 lk3_98 lk4_98 (am_up (by decide) (ev_Mo_book e2)) rfl rfl (Nat.le_of_ble_eq_true rfl) dL_law_679 (fun H locs hW => ?_)
  refine W.eq (g2 := F0 m 682 ls (.int r :: [.int r])) rfl ?_
  exact lv_icmp_eq (tgt := 839) hx hb dL_law_682 (by decide) (fun _ => kk _ H locs hI2 hW) (fun q => absurd rfl q)
set_option maxHeartbeats 4000000 in
set_option maxRecDepth 100000 in
theorem lw_c20 {I : am_G → Prop} (hsp : Sp_burn I) (K : lw_K D cy bn p s m meth c b L xs) {x3 : Int32} (hi1 : vp_in (x3 + 1) L) (hi2 : vp_in (x3 + 2) L) (hi3 : vp_in (x3 + 3) L) (hi4 : vp_in (x3 + 4) L) {g : am_G} (hI : I g) {H : Heap} {locs : List Loc} (hW : lw_W D cy bn s g H locs) {ls : Array Slot} (hl : lv_has ls 4 [(0, .ref b), (1, .ref (s.heap.size + 0)), (2, .ref (s.heap.size + 221)), (3, .int x3)])
    (kk : ∀ (g : am_G) (H : Heap) (locs : List Loc), I g → lw_W D cy bn s g H locs → W p l e room_1 s m #[Value.ref b] below meth c H locs 232 3074 Q (F0 m 839 ls [])) : W p l e room_1 s m #[Value.ref b] below meth c H locs 232 3074 Q (F0 m 687 ls []) := by
  obtain ⟨hx, hb, hr, hml, hown, hts, hX, hbl, hlocks, hU⟩ := K
  have hbA : ¬ (fun q : Nat => s.heap.size ≤ q) b := Nat.not_le.mpr hbl
  obtain ⟨g1, g2, r, e1, e2, hI2⟩ := hsp g hI
  refine lv_aload_n hx hb dL_law_687 rfl (lv_at hl 1 rfl) ?_
  refine lw_call (g := g) (g' := g1) (r := some (.int r)) (as := []) (b0 := 0) (rest := []) (n := 0) ⟨hx, hb, hr, hml, hown, hts, hX, hbl, hlocks, hU⟩ hW hl.1 ms_100 s_0 rfl (by decide) (by decide) lk1_99 lk2_99 lk3_99 lk4_99 (am_up (by decide) (ev_Tb_burn e1)) rfl rfl (Nat.le_of_ble_eq_true rfl) dL_law_688 (fun H locs hW => ?_)
  refine W.eq (g2 := F0 m 691 ls (.int r :: [])) rfl ?_
  refine lv_aload_n hx hb dL_law_691 rfl (lv_at hl 2 rfl) ?_
  refine lw_call (g := g1) (g' := g2) (r := some (.int r)) (as := []) (b0 := 221) (rest := [.int r]) (n := 0) ⟨hx, hb, hr, hml, hown, hts, hX, hbl, hlocks, hU⟩ hW hl.1 ms_173 s_221 rfl (by decide) (by decide) lk1_102 lk2_102 lk3_102 lk4_102 (am_up (by decide) (ev_Mo_burn e2)) rfl rfl (Nat.le_of_ble_eq_true rfl) dL_law_692 (fun H locs hW => ?_)
  refine W.eq (g2 := F0 m 695 ls (.int r :: [.int r])) rfl ?_
  exact lv_icmp_eq (tgt := 839) hx hb dL_law_695 (by decide) (fun _ => kk _ H locs hI2 hW) (fun q => absurd rfl q)
set_option maxHeartbeats 4000000 in
set_option maxRecDepth 100000 in
theorem lw_c21 {I : am_G → Prop} (hsp : Sp_sacks I) (K : lw_K D cy bn p s m meth c b L xs) {x3 : Int32} (hi1 : vp_in (x3 + 1) L) (hi2 : vp_in (x3 + 2) L) (hi3 : vp_in (x3 + 3) L) (hi4 : vp_in (x3 + 4) L) {g : am_G} (hI : I g) {H : Heap} {locs : List Loc} (hW : lw_W D cy bn s g H locs) {ls : Array Slot} (hl : lv_has ls 4 [(0, .ref b), (1, .ref (s.heap.size + 0)), (2, .ref (s.heap.size + 221)), (3, .int x3)])
    (kk : ∀ (g : am_G) (H : Heap) (locs : List Loc), I g → lw_W D cy bn s g H locs → W p l e room_1 s m #[Value.ref b] below meth c H locs 232 3074 Q (F0 m 839 ls [])) : W p l e room_1 s m #[Value.ref b] below meth c H locs 232 3074 Q (F0 m 700 ls []) := by
  obtain ⟨hx, hb, hr, hml, hown, hts, hX, hbl, hlocks, hU⟩ := K
  have hbA : ¬ (fun q : Nat => s.heap.size ≤ q) b := Nat.not_le.mpr hbl
  obtain ⟨g1, g2, r, e1, e2, hI2⟩ := hsp g (xs (x3 + 1).toNatClampNeg) hI
  refine lv_aload_n hx hb dL_law_700 rfl (lv_at hl 1 rfl) ?_
  refine lv_aload_n hx hb dL_law_701 rfl (lv_at hl 0 rfl) ?_
  refine lv_iload_n hx hb dL_law_702 rfl (lv_at hl 3 rfl) ?_
  refine lv_iconst (v := 1) hx hb dL_law_703 (by decide) ?_
  refine lv_iadd hx hb dL_law_704 ?_
  refine va_sld hx hb hX hbl hbA hW.2 hi1 dL_law_705 ?_
  refine lw_call (g := g) (g' := g1) (r := some (.int r)) (as := [.int (xs (x3 + 1).toNatClampNeg)]) (b0 := 0) (rest := []) (n := 1) ⟨hx, hb, hr, hml, hown, hts, hX, hbl, hlocks, hU⟩ hW hl.1 ms_101 s_0 rfl (by decide) (by decide) lk1_103 lk2_103 lk3_103 lk4_103 (am_up (by decide) (ev_Tb_sacks e1)) rfl rfl (Nat.le_of_ble_eq_true rfl) dL_law_706 (fun H locs hW => ?_)
  refine W.eq (g2 := F0 m 709 ls (.int r :: [])) rfl ?_
  refine lv_aload_n hx hb dL_law_709 rfl (lv_at hl 2 rfl) ?_
  refine lv_aload_n hx hb dL_law_710 rfl (lv_at hl 0 rfl) ?_
  refine lv_iload_n hx hb dL_law_711 rfl (lv_at hl 3 rfl) ?_
  refine lv_iconst (v := 1) hx hb dL_law_712 (by decide) ?_
  refine lv_iadd hx hb dL_law_713 ?_
  refine va_sld hx hb hX hbl hbA hW.2 hi1 dL_law_714 ?_
  refine lw_call (g := g1) (g' := g2) (r := some (.int r)) (as := [.int (xs (x3 + 1).toNatClampNeg)]) (b0 := 221) (rest := [.int r]) (n := 1) ⟨hx, hb, hr, hml, hown, hts, hX, hbl, hlocks, hU⟩ hW hl.1 ms_175 s_221 rfl (by decide) (by decide) lk1_106 lk2_106 lk3_106 lk4_106 (am_up (by decide) (ev_Mo_sacks e2)) rfl rfl (Nat.le_of_ble_eq_true rfl) dL_law_715 (fun H locs hW => ?_)
  refine W.eq (g2 := F0 m 718 ls (.int r :: [.int r])) rfl ?_
  exact lv_icmp_eq (tgt := 839) hx hb dL_law_718 (by decide) (fun _ => kk _ H locs hI2 hW) (fun q => absurd rfl q)
set_option maxHeartbeats 4000000 in
set_option maxRecDepth 100000 in
theorem lw_c22 {I : am_G → Prop} (hsp : Sp_mark I) (K : lw_K D cy bn p s m meth c b L xs) {x3 : Int32} (hi1 : vp_in (x3 + 1) L) (hi2 : vp_in (x3 + 2) L) (hi3 : vp_in (x3 + 3) L) (hi4 : vp_in (x3 + 4) L) {g : am_G} (hI : I g) {H : Heap} {locs : List Loc} (hW : lw_W D cy bn s g H locs) {ls : Array Slot} (hl : lv_has ls 4 [(0, .ref b), (1, .ref (s.heap.size + 0)), (2, .ref (s.heap.size + 221)), (3, .int x3)])
    (kk : ∀ (g : am_G) (H : Heap) (locs : List Loc), I g → lw_W D cy bn s g H locs → W p l e room_1 s m #[Value.ref b] below meth c H locs 232 3074 Q (F0 m 839 ls [])) : W p l e room_1 s m #[Value.ref b] below meth c H locs 232 3074 Q (F0 m 723 ls []) := by
  obtain ⟨hx, hb, hr, hml, hown, hts, hX, hbl, hlocks, hU⟩ := K
  have hbA : ¬ (fun q : Nat => s.heap.size ≤ q) b := Nat.not_le.mpr hbl
  obtain ⟨g1, g2, r, e1, e2, hI2⟩ := hsp g (xs (x3 + 1).toNatClampNeg) (xs (x3 + 2).toNatClampNeg) hI
  refine lv_aload_n hx hb dL_law_723 rfl (lv_at hl 1 rfl) ?_
  refine lv_aload_n hx hb dL_law_724 rfl (lv_at hl 0 rfl) ?_
  refine lv_iload_n hx hb dL_law_725 rfl (lv_at hl 3 rfl) ?_
  refine lv_iconst (v := 1) hx hb dL_law_726 (by decide) ?_
  refine lv_iadd hx hb dL_law_727 ?_
  refine va_sld hx hb hX hbl hbA hW.2 hi1 dL_law_728 ?_
  refine lv_aload_n hx hb dL_law_729 rfl (lv_at hl 0 rfl) ?_
  refine lv_iload_n hx hb dL_law_730 rfl (lv_at hl 3 rfl) ?_
  refine lv_iconst (v := 2) hx hb dL_law_731 (by decide) ?_
  refine lv_iadd hx hb dL_law_732 ?_
  refine va_sld hx hb hX hbl hbA hW.2 hi2 dL_law_733 ?_
  refine lw_call (g := g) (g' := g1) (r := some (.int r)) (as := [.int (xs (x3 + 1).toNatClampNeg), .int (xs (x3 + 2).toNatClampNeg)]) (b0 := 0) (rest := []) (n := 2) ⟨hx, hb, hr, hml, hown, hts, hX, hbl, hlocks, hU⟩ hW hl.1 ms_102 s_0 rfl (by decide) (by decide) lk1_107 lk2_107 lk3_107 lk4_107 (am_up (by decide) (ev_Tb_mark e1)) rfl rfl (Nat.le_of_ble_eq_true rfl) dL_law_734 (fun H locs hW => ?_)
  refine W.eq (g2 := F0 m 737 ls (.int r :: [])) rfl ?_
  refine lv_aload_n hx hb dL_law_737 rfl (lv_at hl 2 rfl) ?_
  refine lv_aload_n hx hb dL_law_738 rfl (lv_at hl 0 rfl) ?_
  refine lv_iload_n hx hb dL_law_739 rfl (lv_at hl 3 rfl) ?_
  refine lv_iconst (v := 1) hx hb dL_law_740 (by decide) ?_
  refine lv_iadd hx hb dL_law_741 ?_
  refine va_sld hx hb hX hbl hbA hW.2 hi1 dL_law_742 ?_
  refine lv_aload_n hx hb dL_law_743 rfl (lv_at hl 0 rfl) ?_
  refine lv_iload_n hx hb dL_law_744 rfl (lv_at hl 3 rfl) ?_
  refine lv_iconst (v := 2) hx hb dL_law_745 (by decide) ?_
  refine lv_iadd hx hb dL_law_746 ?_
  refine va_sld hx hb hX hbl hbA hW.2 hi2 dL_law_747 ?_
  refine lw_call (g := g1) (g' := g2) (r := some (.int r)) (as := [.int (xs (x3 + 1).toNatClampNeg), .int (xs (x3 + 2).toNatClampNeg)]) (b0 := 221) (rest := [.int r]) (n := 2) ⟨hx, hb, hr, hml, hown, hts, hX, hbl, hlocks, hU⟩ hW hl.1 ms_176 s_221 rfl (by decide) (by decide) lk1_110 lk2_110 lk3_110 lk4_110 (am_up (by decide) (ev_Mo_mark e2)) rfl rfl (Nat.le_of_ble_eq_true rfl) dL_law_748 (fun H locs hW => ?_)
  refine W.eq (g2 := F0 m 751 ls (.int r :: [.int r])) rfl ?_
  exact lv_icmp_eq (tgt := 839) hx hb dL_law_751 (by decide) (fun _ => kk _ H locs hI2 hW) (fun q => absurd rfl q)
set_option maxHeartbeats 4000000 in
set_option maxRecDepth 100000 in
theorem lw_c23 {I : am_G → Prop} (hsp : Sp_keep I) (K : lw_K D cy bn p s m meth c b L xs) {x3 : Int32} (hi1 : vp_in (x3 + 1) L) (hi2 : vp_in (x3 + 2) L) (hi3 : vp_in (x3 + 3) L) (hi4 : vp_in (x3 + 4) L) {g : am_G} (hI : I g) {H : Heap} {locs : List Loc} (hW : lw_W D cy bn s g H locs) {ls : Array Slot} (hl : lv_has ls 4 [(0, .ref b), (1, .ref (s.heap.size + 0)), (2, .ref (s.heap.size + 221)), (3, .int x3)])
    (kk : ∀ (g : am_G) (H : Heap) (locs : List Loc), I g → lw_W D cy bn s g H locs → W p l e room_1 s m #[Value.ref b] below meth c H locs 232 3074 Q (F0 m 839 ls [])) : W p l e room_1 s m #[Value.ref b] below meth c H locs 232 3074 Q (F0 m 756 ls []) := by
  obtain ⟨hx, hb, hr, hml, hown, hts, hX, hbl, hlocks, hU⟩ := K
  have hbA : ¬ (fun q : Nat => s.heap.size ≤ q) b := Nat.not_le.mpr hbl
  obtain ⟨g1, g2, r, e1, e2, hI2⟩ := hsp g (xs (x3 + 1).toNatClampNeg) hI
  refine lv_aload_n hx hb dL_law_756 rfl (lv_at hl 1 rfl) ?_
  refine lv_aload_n hx hb dL_law_757 rfl (lv_at hl 0 rfl) ?_
  refine lv_iload_n hx hb dL_law_758 rfl (lv_at hl 3 rfl) ?_
  refine lv_iconst (v := 1) hx hb dL_law_759 (by decide) ?_
  refine lv_iadd hx hb dL_law_760 ?_
  refine va_sld hx hb hX hbl hbA hW.2 hi1 dL_law_761 ?_
  refine lw_call (g := g) (g' := g1) (r := some (.int r)) (as := [.int (xs (x3 + 1).toNatClampNeg)]) (b0 := 0) (rest := []) (n := 1) ⟨hx, hb, hr, hml, hown, hts, hX, hbl, hlocks, hU⟩ hW hl.1 ms_103 s_0 rfl (by decide) (by decide) lk1_111 lk2_111 lk3_111 lk4_111 (am_up (by decide) (ev_Tb_keep e1)) rfl rfl (Nat.le_of_ble_eq_true rfl) dL_law_762 (fun H locs hW => ?_)
  refine W.eq (g2 := F0 m 765 ls (.int r :: [])) rfl ?_
  refine lv_aload_n hx hb dL_law_765 rfl (lv_at hl 2 rfl) ?_
  refine lv_aload_n hx hb dL_law_766 rfl (lv_at hl 0 rfl) ?_
  refine lv_iload_n hx hb dL_law_767 rfl (lv_at hl 3 rfl) ?_
  refine lv_iconst (v := 1) hx hb dL_law_768 (by decide) ?_
  refine lv_iadd hx hb dL_law_769 ?_
  refine va_sld hx hb hX hbl hbA hW.2 hi1 dL_law_770 ?_
  refine lw_call (g := g1) (g' := g2) (r := some (.int r)) (as := [.int (xs (x3 + 1).toNatClampNeg)]) (b0 := 221) (rest := [.int r]) (n := 1) ⟨hx, hb, hr, hml, hown, hts, hX, hbl, hlocks, hU⟩ hW hl.1 ms_177 s_221 rfl (by decide) (by decide) lk1_114 lk2_114 lk3_114 lk4_114 (am_up (by decide) (ev_Mo_keep e2)) rfl rfl (Nat.le_of_ble_eq_true rfl) dL_law_771 (fun H locs hW => ?_)
  refine W.eq (g2 := F0 m 774 ls (.int r :: [.int r])) rfl ?_
  exact lv_icmp_eq (tgt := 839) hx hb dL_law_774 (by decide) (fun _ => kk _ H locs hI2 hW) (fun q => absurd rfl q)
set_option maxHeartbeats 4000000 in
set_option maxRecDepth 100000 in
theorem lw_c24 {I : am_G → Prop} (hsp : Sp_back I) (K : lw_K D cy bn p s m meth c b L xs) {x3 : Int32} (hi1 : vp_in (x3 + 1) L) (hi2 : vp_in (x3 + 2) L) (hi3 : vp_in (x3 + 3) L) (hi4 : vp_in (x3 + 4) L) {g : am_G} (hI : I g) {H : Heap} {locs : List Loc} (hW : lw_W D cy bn s g H locs) {ls : Array Slot} (hl : lv_has ls 4 [(0, .ref b), (1, .ref (s.heap.size + 0)), (2, .ref (s.heap.size + 221)), (3, .int x3)])
    (kk : ∀ (g : am_G) (H : Heap) (locs : List Loc), I g → lw_W D cy bn s g H locs → W p l e room_1 s m #[Value.ref b] below meth c H locs 232 3074 Q (F0 m 839 ls [])) : W p l e room_1 s m #[Value.ref b] below meth c H locs 232 3074 Q (F0 m 779 ls []) := by
  obtain ⟨hx, hb, hr, hml, hown, hts, hX, hbl, hlocks, hU⟩ := K
  have hbA : ¬ (fun q : Nat => s.heap.size ≤ q) b := Nat.not_le.mpr hbl
  obtain ⟨g1, g2, r, e1, e2, hI2⟩ := hsp g (xs (x3 + 1).toNatClampNeg) hI
  refine lv_aload_n hx hb dL_law_779 rfl (lv_at hl 1 rfl) ?_
  refine lv_aload_n hx hb dL_law_780 rfl (lv_at hl 0 rfl) ?_
  refine lv_iload_n hx hb dL_law_781 rfl (lv_at hl 3 rfl) ?_
  refine lv_iconst (v := 1) hx hb dL_law_782 (by decide) ?_
  refine lv_iadd hx hb dL_law_783 ?_
  refine va_sld hx hb hX hbl hbA hW.2 hi1 dL_law_784 ?_
  refine lw_call (g := g) (g' := g1) (r := some (.int r)) (as := [.int (xs (x3 + 1).toNatClampNeg)]) (b0 := 0) (rest := []) (n := 1) ⟨hx, hb, hr, hml, hown, hts, hX, hbl, hlocks, hU⟩ hW hl.1 ms_104 s_0 rfl (by decide) (by decide) lk1_115 lk2_115 lk3_115 lk4_115 (am_up (by decide) (ev_Tb_back e1)) rfl rfl (Nat.le_of_ble_eq_true rfl) dL_law_785 (fun H locs hW => ?_)
  refine W.eq (g2 := F0 m 788 ls (.int r :: [])) rfl ?_
  refine lv_aload_n hx hb dL_law_788 rfl (lv_at hl 2 rfl) ?_
  refine lv_aload_n hx hb dL_law_789 rfl (lv_at hl 0 rfl) ?_
  refine lv_iload_n hx hb dL_law_790 rfl (lv_at hl 3 rfl) ?_
  refine lv_iconst (v := 1) hx hb dL_law_791 (by decide) ?_
  refine lv_iadd hx hb dL_law_792 ?_
  refine va_sld hx hb hX hbl hbA hW.2 hi1 dL_law_793 ?_
  refine lw_call (g := g1) (g' := g2) (r := some (.int r)) (as := [.int (xs (x3 + 1).toNatClampNeg)]) (b0 := 221) (rest := [.int r]) (n := 1) ⟨hx, hb, hr, hml, hown, hts, hX, hbl, hlocks, hU⟩ hW hl.1 ms_178 s_221 rfl (by decide) (by decide) lk1_118 lk2_118 lk3_118 lk4_118 (am_up (by decide) (ev_Mo_back e2)) rfl rfl (Nat.le_of_ble_eq_true rfl) dL_law_794 (fun H locs hW => ?_)
  refine W.eq (g2 := F0 m 797 ls (.int r :: [.int r])) rfl ?_
  exact lv_icmp_eq (tgt := 839) hx hb dL_law_797 (by decide) (fun _ => kk _ H locs hI2 hW) (fun q => absurd rfl q)
set_option maxHeartbeats 4000000 in
set_option maxRecDepth 100000 in
theorem lw_c25 {I : am_G → Prop} (hsp : Sp_count I) (K : lw_K D cy bn p s m meth c b L xs) {x3 : Int32} (hi1 : vp_in (x3 + 1) L) (hi2 : vp_in (x3 + 2) L) (hi3 : vp_in (x3 + 3) L) (hi4 : vp_in (x3 + 4) L) {g : am_G} (hI : I g) {H : Heap} {locs : List Loc} (hW : lw_W D cy bn s g H locs) {ls : Array Slot} (hl : lv_has ls 4 [(0, .ref b), (1, .ref (s.heap.size + 0)), (2, .ref (s.heap.size + 221)), (3, .int x3)])
    (kk : ∀ (g : am_G) (H : Heap) (locs : List Loc), I g → lw_W D cy bn s g H locs → W p l e room_1 s m #[Value.ref b] below meth c H locs 232 3074 Q (F0 m 839 ls [])) : W p l e room_1 s m #[Value.ref b] below meth c H locs 232 3074 Q (F0 m 802 ls []) := by
  obtain ⟨hx, hb, hr, hml, hown, hts, hX, hbl, hlocks, hU⟩ := K
  have hbA : ¬ (fun q : Nat => s.heap.size ≤ q) b := Nat.not_le.mpr hbl
  obtain ⟨r, e1, e2, hI2⟩ := hsp g (xs (x3 + 1).toNatClampNeg) hI
  refine lv_aload_n hx hb dL_law_802 rfl (lv_at hl 1 rfl) ?_
  refine lv_aload_n hx hb dL_law_803 rfl (lv_at hl 0 rfl) ?_
  refine lv_iload_n hx hb dL_law_804 rfl (lv_at hl 3 rfl) ?_
  refine lv_iconst (v := 1) hx hb dL_law_805 (by decide) ?_
  refine lv_iadd hx hb dL_law_806 ?_
  refine va_sld hx hb hX hbl hbA hW.2 hi1 dL_law_807 ?_
  refine lw_call (g := g) (g' := g) (r := some (.int r)) (as := [.int (xs (x3 + 1).toNatClampNeg)]) (b0 := 0) (rest := []) (n := 1) ⟨hx, hb, hr, hml, hown, hts, hX, hbl, hlocks, hU⟩ hW hl.1 ms_105 s_0 rfl (by decide) (by decide) lk1_119 lk2_119 lk3_119 lk4_119 (am_up (by decide) (ev_Tb_count e1)) rfl rfl (Nat.le_of_ble_eq_true rfl) dL_law_808 (fun H locs hW => ?_)
  refine W.eq (g2 := F0 m 811 ls (.int r :: [])) rfl ?_
  refine lv_aload_n hx hb dL_law_811 rfl (lv_at hl 2 rfl) ?_
  refine lv_aload_n hx hb dL_law_812 rfl (lv_at hl 0 rfl) ?_
  refine lv_iload_n hx hb dL_law_813 rfl (lv_at hl 3 rfl) ?_
  refine lv_iconst (v := 1) hx hb dL_law_814 (by decide) ?_
  refine lv_iadd hx hb dL_law_815 ?_
  refine va_sld hx hb hX hbl hbA hW.2 hi1 dL_law_816 ?_
  refine lw_call (g := g) (g' := g) (r := some (.int r)) (as := [.int (xs (x3 + 1).toNatClampNeg)]) (b0 := 221) (rest := [.int r]) (n := 1) ⟨hx, hb, hr, hml, hown, hts, hX, hbl, hlocks, hU⟩ hW hl.1 ms_179 s_221 rfl (by decide) (by decide) lk1_122 lk2_122 lk3_122 lk4_122 (am_up (by decide) (ev_Mo_count e2)) rfl rfl (Nat.le_of_ble_eq_true rfl) dL_law_817 (fun H locs hW => ?_)
  refine W.eq (g2 := F0 m 820 ls (.int r :: [.int r])) rfl ?_
  exact lv_icmp_eq (tgt := 839) hx hb dL_law_820 (by decide) (fun _ => kk _ H locs hI2 hW) (fun q => absurd rfl q)
set_option maxHeartbeats 4000000 in
set_option maxRecDepth 100000 in
theorem lw_c26 {I : am_G → Prop} (hsp : Sp_trace I) (K : lw_K D cy bn p s m meth c b L xs) {x3 : Int32} (hi1 : vp_in (x3 + 1) L) (hi2 : vp_in (x3 + 2) L) (hi3 : vp_in (x3 + 3) L) (hi4 : vp_in (x3 + 4) L) {g : am_G} (hI : I g) {H : Heap} {locs : List Loc} (hW : lw_W D cy bn s g H locs) {ls : Array Slot} (hl : lv_has ls 4 [(0, .ref b), (1, .ref (s.heap.size + 0)), (2, .ref (s.heap.size + 221)), (3, .int x3)])
    (kk : ∀ (g : am_G) (H : Heap) (locs : List Loc), I g → lw_W D cy bn s g H locs → W p l e room_1 s m #[Value.ref b] below meth c H locs 232 3074 Q (F0 m 839 ls [])) : W p l e room_1 s m #[Value.ref b] below meth c H locs 232 3074 Q (F0 m 825 ls []) := by
  obtain ⟨hx, hb, hr, hml, hown, hts, hX, hbl, hlocks, hU⟩ := K
  have hbA : ¬ (fun q : Nat => s.heap.size ≤ q) b := Nat.not_le.mpr hbl
  obtain ⟨r, e1, e2, hI2⟩ := hsp g hI
  refine lv_aload_n hx hb dL_law_825 rfl (lv_at hl 1 rfl) ?_
  refine lw_call (g := g) (g' := g) (r := some (.long r)) (as := []) (b0 := 0) (rest := []) (n := 0) ⟨hx, hb, hr, hml, hown, hts, hX, hbl, hlocks, hU⟩ hW hl.1 ms_106 s_0 rfl (by decide) (by decide) lk1_123 lk2_123 lk3_123 lk4_123 (am_up (by decide) (ev_Tb_trace e1)) rfl rfl (Nat.le_of_ble_eq_true rfl) dL_law_826 (fun H locs hW => ?_)
  refine W.eq (g2 := F0 m 829 ls (.long r :: [])) rfl ?_
  refine lv_aload_n hx hb dL_law_829 rfl (lv_at hl 2 rfl) ?_
  refine lw_call (g := g) (g' := g) (r := some (.long r)) (as := []) (b0 := 221) (rest := [.long r]) (n := 0) ⟨hx, hb, hr, hml, hown, hts, hX, hbl, hlocks, hU⟩ hW hl.1 ms_180 s_221 rfl (by decide) (by decide) lk1_127 lk2_127 lk3_127 lk4_127 (am_up (by decide) (ev_Mo_trace e2)) rfl rfl (Nat.le_of_ble_eq_true rfl) dL_law_830 (fun H locs hW => ?_)
  refine W.eq (g2 := F0 m 833 ls (.long r :: [.long r])) rfl ?_
  refine W.lcmp hx hb dL_law_833 ?_
  exact lv_if_eq (tgt := 839) hx hb dL_law_834 (by decide) (fun _ => kk _ H locs hI2 hW) (fun q => absurd (by simp [lg_cmp]) q)
end
