-- facts of fields, calls, methods that the walks use
theorem cl_0_100 : am_cal 0 100 = some (0, 5, 3) := by decide +kernel
theorem cl_0_104 : am_cal 0 104 = some (0, 7, 1) := by decide +kernel
theorem cl_0_108 : am_cal 0 108 = some (0, 29, 0) := by decide +kernel
theorem cl_0_112 : am_cal 0 112 = some (0, 6, 2) := by decide +kernel
theorem cl_0_116 : am_cal 0 116 = some (0, 9, 0) := by decide +kernel
theorem cl_0_120 : am_cal 0 120 = some (0, 10, 1) := by decide +kernel
theorem cl_0_123 : am_cal 0 123 = some (0, 13, 1) := by decide +kernel
theorem cl_0_126 : am_cal 0 126 = some (0, 17, 1) := by decide +kernel
theorem cl_0_135 : am_cal 0 135 = some (8, 0, 2) := by decide +kernel
theorem cl_0_140 : am_cal 0 140 = some (0, 41, 1) := by decide +kernel
theorem cl_0_143 : am_cal 0 143 = some (0, 12, 1) := by decide +kernel
theorem cl_0_146 : am_cal 0 146 = some (0, 44, 2) := by decide +kernel
theorem cl_0_150 : am_cal 0 150 = some (7, 0, 2) := by decide +kernel
theorem cl_0_153 : am_cal 0 153 = some (0, 11, 1) := by decide +kernel
theorem cl_0_156 : am_cal 0 156 = some (0, 45, 1) := by decide +kernel
theorem cl_0_162 : am_cal 0 162 = some (0, 14, 1) := by decide +kernel
theorem cl_0_165 : am_cal 0 165 = some (0, 16, 2) := by decide +kernel
theorem cl_0_169 : am_cal 0 169 = some (0, 15, 1) := by decide +kernel
theorem cl_0_54 : am_cal 0 54 = some (0, 24, 1) := by decide +kernel
theorem cl_0_64 : am_cal 0 64 = some (0, 1, 1) := by decide +kernel
theorem cl_0_76 : am_cal 0 76 = some (0, 61, 1) := by decide +kernel
theorem cl_0_80 : am_cal 0 80 = some (0, 40, 1) := by decide +kernel
theorem cl_0_84 : am_cal 0 84 = some (0, 42, 0) := by decide +kernel
theorem cl_0_90 : am_cal 0 90 = some (0, 31, 1) := by decide +kernel
theorem cl_0_94 : am_cal 0 94 = some (0, 35, 2) := by decide +kernel
theorem cl_1_44 : am_cal 1 44 = some (0, 24, 1) := by decide +kernel
theorem cl_1_58 : am_cal 1 58 = some (0, 27, 2) := by decide +kernel
theorem cl_1_62 : am_cal 1 62 = some (0, 21, 0) := by decide +kernel
theorem cl_1_66 : am_cal 1 66 = some (0, 31, 1) := by decide +kernel
theorem cl_1_70 : am_cal 1 70 = some (0, 36, 3) := by decide +kernel
theorem cl_2_100 : am_cal 2 100 = some (0, 36, 3) := by decide +kernel
theorem cl_2_109 : am_cal 2 109 = some (0, 41, 1) := by decide +kernel
theorem cl_2_116 : am_cal 2 116 = some (0, 44, 2) := by decide +kernel
theorem cl_2_120 : am_cal 2 120 = some (0, 45, 1) := by decide +kernel
theorem cl_2_123 : am_cal 2 123 = some (0, 29, 0) := by decide +kernel
theorem cl_2_127 : am_cal 2 127 = some (0, 42, 0) := by decide +kernel
theorem cl_2_133 : am_cal 2 133 = some (0, 43, 2) := by decide +kernel
theorem cl_2_44 : am_cal 2 44 = some (6, 0, 5) := by decide +kernel
theorem cl_2_53 : am_cal 2 53 = some (0, 26, 1) := by decide +kernel
theorem cl_2_63 : am_cal 2 63 = some (0, 25, 1) := by decide +kernel
theorem cl_2_72 : am_cal 2 72 = some (0, 30, 1) := by decide +kernel
theorem cl_2_79 : am_cal 2 79 = some (0, 34, 1) := by decide +kernel
theorem cl_2_82 : am_cal 2 82 = some (8, 0, 2) := by decide +kernel
theorem cl_2_88 : am_cal 2 88 = some (7, 0, 2) := by decide +kernel
theorem cl_2_91 : am_cal 2 91 = some (0, 35, 2) := by decide +kernel
theorem cl_2_97 : am_cal 2 97 = some (0, 31, 1) := by decide +kernel
theorem cl_3_31 : am_cal 3 31 = some (0, 23, 0) := by decide +kernel
theorem cl_3_34 : am_cal 3 34 = some (0, 24, 1) := by decide +kernel
theorem cl_3_38 : am_cal 3 38 = some (8, 0, 2) := by decide +kernel
theorem cl_4_101 : am_cal 4 101 = some (3, 117, 3) := by decide +kernel
theorem cl_4_36 : am_cal 4 36 = some (0, 64, 0) := by decide +kernel
theorem cl_4_44 : am_cal 4 44 = some (0, 53, 0) := by decide +kernel
theorem cl_4_50 : am_cal 4 50 = some (0, 54, 1) := by decide +kernel
theorem cl_4_54 : am_cal 4 54 = some (0, 55, 1) := by decide +kernel
theorem cl_4_57 : am_cal 4 57 = some (0, 56, 1) := by decide +kernel
theorem cl_4_60 : am_cal 4 60 = some (0, 65, 0) := by decide +kernel
theorem cl_4_67 : am_cal 4 67 = some (0, 57, 2) := by decide +kernel
theorem cl_4_74 : am_cal 4 74 = some (0, 58, 0) := by decide +kernel
theorem cl_5_52 : am_cal 5 52 = some (6, 0, 5) := by decide +kernel
theorem cl_6_31 : am_cal 6 31 = some (0, 65, 0) := by decide +kernel
theorem cl_6_34 : am_cal 6 34 = some (1, 68, 1) := by decide +kernel
theorem cl_6_38 : am_cal 6 38 = some (0, 66, 0) := by decide +kernel
theorem cl_6_41 : am_cal 6 41 = some (1, 69, 1) := by decide +kernel
theorem cl_6_44 : am_cal 6 44 = some (0, 67, 0) := by decide +kernel
theorem cl_7_105 : am_cal 7 105 = some (0, 74, 2) := by decide +kernel
theorem cl_7_109 : am_cal 7 109 = some (8, 0, 2) := by decide +kernel
theorem cl_7_112 : am_cal 7 112 = some (6, 0, 5) := by decide +kernel
theorem cl_7_118 : am_cal 7 118 = some (0, 37, 1) := by decide +kernel
theorem cl_7_121 : am_cal 7 121 = some (0, 27, 2) := by decide +kernel
theorem cl_7_124 : am_cal 7 124 = some (0, 33, 1) := by decide +kernel
theorem cl_7_127 : am_cal 7 127 = some (0, 78, 3) := by decide +kernel
theorem cl_7_44 : am_cal 7 44 = some (0, 29, 0) := by decide +kernel
theorem cl_7_48 : am_cal 7 48 = some (0, 24, 1) := by decide +kernel
theorem cl_7_55 : am_cal 7 55 = some (0, 61, 1) := by decide +kernel
theorem cl_7_61 : am_cal 7 61 = some (0, 42, 0) := by decide +kernel
theorem cl_7_66 : am_cal 7 66 = some (0, 71, 1) := by decide +kernel
theorem cl_7_74 : am_cal 7 74 = some (0, 26, 1) := by decide +kernel
theorem cl_7_77 : am_cal 7 77 = some (0, 30, 1) := by decide +kernel
theorem cl_7_84 : am_cal 7 84 = some (0, 36, 3) := by decide +kernel
theorem cl_7_88 : am_cal 7 88 = some (7, 0, 2) := by decide +kernel
theorem cl_7_94 : am_cal 7 94 = some (0, 73, 2) := by decide +kernel
theorem cl_7_98 : am_cal 7 98 = some (0, 75, 1) := by decide +kernel
theorem cl_8_101 : am_cal 8 101 = some (0, 60, 1) := by decide +kernel
theorem cl_8_104 : am_cal 8 104 = some (0, 47, 0) := by decide +kernel
theorem cl_8_110 : am_cal 8 110 = some (0, 113, 1) := by decide +kernel
theorem cl_8_125 : am_cal 8 125 = some (0, 31, 1) := by decide +kernel
theorem cl_8_129 : am_cal 8 129 = some (0, 35, 2) := by decide +kernel
theorem cl_8_133 : am_cal 8 133 = some (0, 32, 1) := by decide +kernel
theorem cl_8_136 : am_cal 8 136 = some (0, 114, 1) := by decide +kernel
theorem cl_8_157 : am_cal 8 157 = some (0, 25, 1) := by decide +kernel
theorem cl_8_160 : am_cal 8 160 = some (0, 30, 1) := by decide +kernel
theorem cl_8_174 : am_cal 8 174 = some (0, 27, 2) := by decide +kernel
theorem cl_8_178 : am_cal 8 178 = some (0, 49, 0) := by decide +kernel
theorem cl_8_184 : am_cal 8 184 = some (0, 26, 1) := by decide +kernel
theorem cl_8_187 : am_cal 8 187 = some (0, 28, 0) := by decide +kernel
theorem cl_8_191 : am_cal 8 191 = some (0, 29, 0) := by decide +kernel
theorem cl_8_200 : am_cal 8 200 = some (0, 61, 1) := by decide +kernel
theorem cl_8_203 : am_cal 8 203 = some (0, 40, 1) := by decide +kernel
theorem cl_8_207 : am_cal 8 207 = some (0, 50, 0) := by decide +kernel
theorem cl_8_216 : am_cal 8 216 = some (0, 38, 1) := by decide +kernel
theorem cl_8_220 : am_cal 8 220 = some (0, 39, 0) := by decide +kernel
theorem cl_8_223 : am_cal 8 223 = some (1, 116, 1) := by decide +kernel
theorem cl_8_226 : am_cal 8 226 = some (0, 2, 1) := by decide +kernel
theorem cl_8_230 : am_cal 8 230 = some (0, 3, 1) := by decide +kernel
theorem cl_8_246 : am_cal 8 246 = some (0, 72, 1) := by decide +kernel
theorem cl_8_258 : am_cal 8 258 = some (0, 76, 1) := by decide +kernel
theorem cl_8_262 : am_cal 8 262 = some (0, 77, 2) := by decide +kernel
theorem cl_8_266 : am_cal 8 266 = some (0, 33, 1) := by decide +kernel
theorem cl_8_269 : am_cal 8 269 = some (0, 8, 1) := by decide +kernel
theorem cl_8_277 : am_cal 8 277 = some (0, 115, 3) := by decide +kernel
theorem cl_8_280 : am_cal 8 280 = some (0, 36, 3) := by decide +kernel
theorem cl_8_286 : am_cal 8 286 = some (0, 4, 3) := by decide +kernel
theorem cl_8_296 : am_cal 8 296 = some (0, 19, 3) := by decide +kernel
theorem cl_8_298 : am_cal 8 298 = some (0, 20, 1) := by decide +kernel
theorem cl_8_308 : am_cal 8 308 = some (0, 107, 1) := by decide +kernel
theorem cl_8_311 : am_cal 8 311 = some (0, 108, 1) := by decide +kernel
theorem cl_8_314 : am_cal 8 314 = some (0, 109, 1) := by decide +kernel
theorem cl_8_317 : am_cal 8 317 = some (0, 110, 1) := by decide +kernel
theorem cl_8_320 : am_cal 8 320 = some (0, 111, 1) := by decide +kernel
theorem cl_8_323 : am_cal 8 323 = some (0, 112, 1) := by decide +kernel
theorem cl_8_326 : am_cal 8 326 = some (0, 48, 1) := by decide +kernel
theorem cl_8_79 : am_cal 8 79 = some (1, 117, 3) := by decide +kernel
theorem cl_8_83 : am_cal 8 83 = some (0, 63, 1) := by decide +kernel
theorem cl_8_91 : am_cal 8 91 = some (0, 52, 0) := by decide +kernel
theorem cl_9_100 : am_cal 9 100 = some (0, 136, 1) := by decide +kernel
theorem cl_9_103 : am_cal 9 103 = some (0, 138, 1) := by decide +kernel
theorem cl_9_106 : am_cal 9 106 = some (0, 120, 1) := by decide +kernel
theorem cl_9_109 : am_cal 9 109 = some (0, 137, 1) := by decide +kernel
theorem cl_9_112 : am_cal 9 112 = some (0, 139, 2) := by decide +kernel
theorem cl_9_116 : am_cal 9 116 = some (0, 121, 1) := by decide +kernel
theorem cl_9_119 : am_cal 9 119 = some (0, 144, 0) := by decide +kernel
theorem cl_9_122 : am_cal 9 122 = some (0, 146, 0) := by decide +kernel
theorem cl_9_125 : am_cal 9 125 = some (1, 140, 2) := by decide +kernel
theorem cl_9_128 : am_cal 9 128 = some (0, 148, 1) := by decide +kernel
theorem cl_9_132 : am_cal 9 132 = some (0, 149, 1) := by decide +kernel
theorem cl_9_135 : am_cal 9 135 = some (0, 151, 0) := by decide +kernel
theorem cl_9_138 : am_cal 9 138 = some (0, 153, 0) := by decide +kernel
theorem cl_9_141 : am_cal 9 141 = some (0, 150, 0) := by decide +kernel
theorem cl_9_144 : am_cal 9 144 = some (0, 154, 0) := by decide +kernel
theorem cl_9_147 : am_cal 9 147 = some (0, 152, 1) := by decide +kernel
theorem cl_9_151 : am_cal 9 151 = some (0, 157, 1) := by decide +kernel
theorem cl_9_154 : am_cal 9 154 = some (0, 158, 0) := by decide +kernel
theorem cl_9_158 : am_cal 9 158 = some (0, 160, 0) := by decide +kernel
theorem cl_9_161 : am_cal 9 161 = some (0, 161, 0) := by decide +kernel
theorem cl_9_164 : am_cal 9 164 = some (0, 165, 1) := by decide +kernel
theorem cl_9_168 : am_cal 9 168 = some (0, 169, 3) := by decide +kernel
theorem cl_9_176 : am_cal 9 176 = some (0, 174, 0) := by decide +kernel
theorem cl_9_41 : am_cal 9 41 = some (0, 133, 0) := by decide +kernel
theorem cl_9_45 : am_cal 9 45 = some (0, 134, 0) := by decide +kernel
theorem cl_9_48 : am_cal 9 48 = some (1, 119, 3) := by decide +kernel
theorem cl_9_59 : am_cal 9 59 = some (0, 124, 1) := by decide +kernel
theorem cl_9_66 : am_cal 9 66 = some (1, 125, 1) := by decide +kernel
theorem cl_9_70 : am_cal 9 70 = some (1, 126, 1) := by decide +kernel
theorem cl_9_79 : am_cal 9 79 = some (0, 127, 0) := by decide +kernel
theorem cl_9_82 : am_cal 9 82 = some (0, 128, 3) := by decide +kernel
theorem cl_9_85 : am_cal 9 85 = some (0, 129, 0) := by decide +kernel
theorem cl_9_88 : am_cal 9 88 = some (0, 130, 0) := by decide +kernel
theorem cl_9_91 : am_cal 9 91 = some (0, 131, 0) := by decide +kernel
theorem cl_9_94 : am_cal 9 94 = some (0, 132, 0) := by decide +kernel
theorem fl_0_11 : am_fld 0 11 = some (0, 1) := by decide +kernel
theorem fl_0_129 : am_fld 0 129 = some (5, 3) := by decide +kernel
theorem fl_0_132 : am_fld 0 132 = some (5, 6) := by decide +kernel
theorem fl_0_159 : am_fld 0 159 = some (2, 7) := by decide +kernel
theorem fl_0_17 : am_fld 0 17 = some (0, 2) := by decide +kernel
theorem fl_0_21 : am_fld 0 21 = some (0, 3) := by decide +kernel
theorem fl_0_24 : am_fld 0 24 = some (0, 4) := by decide +kernel
theorem fl_0_28 : am_fld 0 28 = some (0, 5) := by decide +kernel
theorem fl_0_31 : am_fld 0 31 = some (0, 6) := by decide +kernel
theorem fl_0_34 : am_fld 0 34 = some (0, 7) := by decide +kernel
theorem fl_0_37 : am_fld 0 37 = some (0, 8) := by decide +kernel
theorem fl_0_41 : am_fld 0 41 = some (0, 9) := by decide +kernel
theorem fl_0_44 : am_fld 0 44 = some (0, 10) := by decide +kernel
theorem fl_0_47 : am_fld 0 47 = some (0, 0) := by decide +kernel
theorem fl_0_58 : am_fld 0 58 = some (2, 2) := by decide +kernel
theorem fl_0_61 : am_fld 0 61 = some (2, 3) := by decide +kernel
theorem fl_0_68 : am_fld 0 68 = some (2, 1) := by decide +kernel
theorem fl_0_71 : am_fld 0 71 = some (5, 9) := by decide +kernel
theorem fl_0_87 : am_fld 0 87 = some (5, 0) := by decide +kernel
theorem fl_1_15 : am_fld 1 15 = some (1, 3) := by decide +kernel
theorem fl_1_19 : am_fld 1 19 = some (1, 4) := by decide +kernel
theorem fl_1_22 : am_fld 1 22 = some (1, 5) := by decide +kernel
theorem fl_1_25 : am_fld 1 25 = some (1, 6) := by decide +kernel
theorem fl_1_28 : am_fld 1 28 = some (1, 7) := by decide +kernel
theorem fl_1_31 : am_fld 1 31 = some (1, 0) := by decide +kernel
theorem fl_1_40 : am_fld 1 40 = some (1, 1) := by decide +kernel
theorem fl_1_48 : am_fld 1 48 = some (5, 3) := by decide +kernel
theorem fl_1_53 : am_fld 1 53 = some (5, 0) := by decide +kernel
theorem fl_1_55 : am_fld 1 55 = some (2, 6) := by decide +kernel
theorem fl_1_9 : am_fld 1 9 = some (1, 2) := by decide +kernel
theorem fl_2_106 : am_fld 2 106 = some (5, 7) := by decide +kernel
theorem fl_2_130 : am_fld 2 130 = some (5, 10) := by decide +kernel
theorem fl_2_137 : am_fld 2 137 = some (5, 2) := by decide +kernel
theorem fl_2_140 : am_fld 2 140 = some (5, 6) := by decide +kernel
theorem fl_2_15 : am_fld 2 15 = some (2, 2) := by decide +kernel
theorem fl_2_18 : am_fld 2 18 = some (2, 3) := by decide +kernel
theorem fl_2_21 : am_fld 2 21 = some (2, 4) := by decide +kernel
theorem fl_2_24 : am_fld 2 24 = some (2, 5) := by decide +kernel
theorem fl_2_27 : am_fld 2 27 = some (2, 6) := by decide +kernel
theorem fl_2_31 : am_fld 2 31 = some (2, 7) := by decide +kernel
theorem fl_2_34 : am_fld 2 34 = some (2, 8) := by decide +kernel
theorem fl_2_37 : am_fld 2 37 = some (2, 0) := by decide +kernel
theorem fl_2_41 : am_fld 2 41 = some (5, 8) := by decide +kernel
theorem fl_2_50 : am_fld 2 50 = some (5, 4) := by decide +kernel
theorem fl_2_57 : am_fld 2 57 = some (5, 9) := by decide +kernel
theorem fl_2_60 : am_fld 2 60 = some (5, 12) := by decide +kernel
theorem fl_2_66 : am_fld 2 66 = some (5, 5) := by decide +kernel
theorem fl_2_69 : am_fld 2 69 = some (5, 3) := by decide +kernel
theorem fl_2_76 : am_fld 2 76 = some (5, 1) := by decide +kernel
theorem fl_2_9 : am_fld 2 9 = some (2, 1) := by decide +kernel
theorem fl_2_94 : am_fld 2 94 = some (5, 0) := by decide +kernel
theorem fl_3_11 : am_fld 3 11 = some (3, 1) := by decide +kernel
theorem fl_3_17 : am_fld 3 17 = some (3, 2) := by decide +kernel
theorem fl_3_21 : am_fld 3 21 = some (3, 3) := by decide +kernel
theorem fl_3_27 : am_fld 3 27 = some (3, 0) := by decide +kernel
theorem fl_4_12 : am_fld 4 12 = some (4, 1) := by decide +kernel
theorem fl_4_18 : am_fld 4 18 = some (4, 2) := by decide +kernel
theorem fl_4_22 : am_fld 4 22 = some (4, 0) := by decide +kernel
theorem fl_4_26 : am_fld 4 26 = some (5, 0) := by decide +kernel
theorem fl_4_30 : am_fld 4 30 = some (5, 3) := by decide +kernel
theorem fl_4_33 : am_fld 4 33 = some (5, 9) := by decide +kernel
theorem fl_4_41 : am_fld 4 41 = some (6, 2) := by decide +kernel
theorem fl_4_47 : am_fld 4 47 = some (6, 5) := by decide +kernel
theorem fl_4_63 : am_fld 4 63 = some (5, 1) := by decide +kernel
theorem fl_4_71 : am_fld 4 71 = some (5, 2) := by decide +kernel
theorem fl_4_77 : am_fld 4 77 = some (5, 4) := by decide +kernel
theorem fl_4_80 : am_fld 4 80 = some (5, 5) := by decide +kernel
theorem fl_4_83 : am_fld 4 83 = some (5, 6) := by decide +kernel
theorem fl_4_86 : am_fld 4 86 = some (5, 7) := by decide +kernel
theorem fl_4_89 : am_fld 4 89 = some (5, 8) := by decide +kernel
theorem fl_4_92 : am_fld 4 92 = some (5, 10) := by decide +kernel
theorem fl_4_95 : am_fld 4 95 = some (5, 11) := by decide +kernel
theorem fl_4_98 : am_fld 4 98 = some (5, 12) := by decide +kernel
theorem fl_5_15 : am_fld 5 15 = some (5, 1) := by decide +kernel
theorem fl_5_19 : am_fld 5 19 = some (5, 2) := by decide +kernel
theorem fl_5_22 : am_fld 5 22 = some (5, 3) := by decide +kernel
theorem fl_5_25 : am_fld 5 25 = some (5, 4) := by decide +kernel
theorem fl_5_28 : am_fld 5 28 = some (5, 5) := by decide +kernel
theorem fl_5_31 : am_fld 5 31 = some (5, 6) := by decide +kernel
theorem fl_5_34 : am_fld 5 34 = some (5, 7) := by decide +kernel
theorem fl_5_37 : am_fld 5 37 = some (5, 8) := by decide +kernel
theorem fl_5_40 : am_fld 5 40 = some (5, 9) := by decide +kernel
theorem fl_5_43 : am_fld 5 43 = some (5, 10) := by decide +kernel
theorem fl_5_46 : am_fld 5 46 = some (5, 11) := by decide +kernel
theorem fl_5_49 : am_fld 5 49 = some (5, 12) := by decide +kernel
theorem fl_5_9 : am_fld 5 9 = some (5, 0) := by decide +kernel
theorem fl_6_15 : am_fld 6 15 = some (6, 1) := by decide +kernel
theorem fl_6_19 : am_fld 6 19 = some (6, 2) := by decide +kernel
theorem fl_6_22 : am_fld 6 22 = some (6, 3) := by decide +kernel
theorem fl_6_25 : am_fld 6 25 = some (6, 4) := by decide +kernel
theorem fl_6_28 : am_fld 6 28 = some (6, 5) := by decide +kernel
theorem fl_6_9 : am_fld 6 9 = some (6, 0) := by decide +kernel
theorem fl_7_102 : am_fld 7 102 = some (2, 6) := by decide +kernel
theorem fl_7_131 : am_fld 7 131 = some (5, 6) := by decide +kernel
theorem fl_7_15 : am_fld 7 15 = some (7, 3) := by decide +kernel
theorem fl_7_18 : am_fld 7 18 = some (7, 4) := by decide +kernel
theorem fl_7_21 : am_fld 7 21 = some (7, 5) := by decide +kernel
theorem fl_7_25 : am_fld 7 25 = some (7, 6) := by decide +kernel
theorem fl_7_28 : am_fld 7 28 = some (7, 7) := by decide +kernel
theorem fl_7_31 : am_fld 7 31 = some (7, 0) := by decide +kernel
theorem fl_7_40 : am_fld 7 40 = some (7, 1) := by decide +kernel
theorem fl_7_52 : am_fld 7 52 = some (2, 1) := by decide +kernel
theorem fl_7_64 : am_fld 7 64 = some (5, 10) := by decide +kernel
theorem fl_7_71 : am_fld 7 71 = some (5, 3) := by decide +kernel
theorem fl_7_81 : am_fld 7 81 = some (5, 0) := by decide +kernel
theorem fl_7_9 : am_fld 7 9 = some (7, 2) := by decide +kernel
theorem fl_8_10 : am_fld 8 10 = some (8, 0) := by decide +kernel
theorem fl_8_107 : am_fld 8 107 = some (1, 2) := by decide +kernel
theorem fl_8_113 : am_fld 8 113 = some (5, 1) := by decide +kernel
theorem fl_8_117 : am_fld 8 117 = some (5, 2) := by decide +kernel
theorem fl_8_120 : am_fld 8 120 = some (2, 8) := by decide +kernel
theorem fl_8_139 : am_fld 8 139 = some (5, 4) := by decide +kernel
theorem fl_8_142 : am_fld 8 142 = some (5, 5) := by decide +kernel
theorem fl_8_145 : am_fld 8 145 = some (5, 6) := by decide +kernel
theorem fl_8_148 : am_fld 8 148 = some (5, 7) := by decide +kernel
theorem fl_8_151 : am_fld 8 151 = some (2, 6) := by decide +kernel
theorem fl_8_154 : am_fld 8 154 = some (2, 7) := by decide +kernel
theorem fl_8_163 : am_fld 8 163 = some (5, 9) := by decide +kernel
theorem fl_8_166 : am_fld 8 166 = some (5, 10) := by decide +kernel
theorem fl_8_168 : am_fld 8 168 = some (5, 11) := by decide +kernel
theorem fl_8_171 : am_fld 8 171 = some (5, 12) := by decide +kernel
theorem fl_8_181 : am_fld 8 181 = some (2, 4) := by decide +kernel
theorem fl_8_19 : am_fld 8 19 = some (8, 1) := by decide +kernel
theorem fl_8_194 : am_fld 8 194 = some (2, 2) := by decide +kernel
theorem fl_8_197 : am_fld 8 197 = some (2, 1) := by decide +kernel
theorem fl_8_210 : am_fld 8 210 = some (3, 2) := by decide +kernel
theorem fl_8_213 : am_fld 8 213 = some (2, 3) := by decide +kernel
theorem fl_8_234 : am_fld 8 234 = some (0, 2) := by decide +kernel
theorem fl_8_237 : am_fld 8 237 = some (0, 3) := by decide +kernel
theorem fl_8_240 : am_fld 8 240 = some (5, 3) := by decide +kernel
theorem fl_8_243 : am_fld 8 243 = some (5, 0) := by decide +kernel
theorem fl_8_249 : am_fld 8 249 = some (7, 3) := by decide +kernel
theorem fl_8_252 : am_fld 8 252 = some (7, 4) := by decide +kernel
theorem fl_8_255 : am_fld 8 255 = some (7, 5) := by decide +kernel
theorem fl_8_273 : am_fld 8 273 = some (0, 6) := by decide +kernel
theorem fl_8_276 : am_fld 8 276 = some (0, 7) := by decide +kernel
theorem fl_8_28 : am_fld 8 28 = some (8, 2) := by decide +kernel
theorem fl_8_290 : am_fld 8 290 = some (0, 4) := by decide +kernel
theorem fl_8_293 : am_fld 8 293 = some (0, 5) := by decide +kernel
theorem fl_8_301 : am_fld 8 301 = some (1, 6) := by decide +kernel
theorem fl_8_304 : am_fld 8 304 = some (1, 7) := by decide +kernel
theorem fl_8_37 : am_fld 8 37 = some (8, 3) := by decide +kernel
theorem fl_8_45 : am_fld 8 45 = some (8, 4) := by decide +kernel
theorem fl_8_46 : am_fld 8 46 = some (8, 5) := by decide +kernel
theorem fl_8_50 : am_fld 8 50 = some (8, 6) := by decide +kernel
theorem fl_8_57 : am_fld 8 57 = some (8, 7) := by decide +kernel
theorem fl_8_64 : am_fld 8 64 = some (8, 8) := by decide +kernel
theorem fl_8_71 : am_fld 8 71 = some (8, 9) := by decide +kernel
theorem fl_8_75 : am_fld 8 75 = some (8, 10) := by decide +kernel
theorem fl_8_87 : am_fld 8 87 = some (6, 1) := by decide +kernel
theorem fl_8_95 : am_fld 8 95 = some (6, 3) := by decide +kernel
theorem fl_8_98 : am_fld 8 98 = some (4, 1) := by decide +kernel
theorem fl_9_13 : am_fld 9 13 = some (9, 3) := by decide +kernel
theorem fl_9_16 : am_fld 9 16 = some (9, 4) := by decide +kernel
theorem fl_9_180 : am_fld 9 180 = some (9, 0) := by decide +kernel
theorem fl_9_19 : am_fld 9 19 = some (9, 5) := by decide +kernel
theorem fl_9_22 : am_fld 9 22 = some (9, 6) := by decide +kernel
theorem fl_9_25 : am_fld 9 25 = some (9, 7) := by decide +kernel
theorem fl_9_29 : am_fld 9 29 = some (9, 8) := by decide +kernel
theorem fl_9_32 : am_fld 9 32 = some (9, 14) := by decide +kernel
theorem fl_9_35 : am_fld 9 35 = some (9, 15) := by decide +kernel
theorem fl_9_38 : am_fld 9 38 = some (9, 16) := by decide +kernel
theorem fl_9_52 : am_fld 9 52 = some (9, 2) := by decide +kernel
theorem fl_9_56 : am_fld 9 56 = some (9, 10) := by decide +kernel
theorem fl_9_63 : am_fld 9 63 = some (9, 12) := by decide +kernel
theorem fl_9_7 : am_fld 9 7 = some (9, 1) := by decide +kernel
theorem fl_9_73 : am_fld 9 73 = some (9, 11) := by decide +kernel
theorem fl_9_76 : am_fld 9 76 = some (9, 13) := by decide +kernel
theorem fl_9_97 : am_fld 9 97 = some (9, 9) := by decide +kernel
theorem gf_0_0 {g : am_G} : am_gf (sh0, g) 0 8 0 = some (.ref 1) := by simp only [am_gf, s_0]; rfl
theorem gf_0_1 {g : am_G} : am_gf (sh0, g) 0 8 1 = some (.ref 3) := by simp only [am_gf, s_0]; rfl
theorem gf_0_10 {g : am_G} : am_gf (sh0, g) 0 8 10 = some (.long (g.2 0 10)) := by simp only [am_gf, s_0]; rfl
theorem gf_0_2 {g : am_G} : am_gf (sh0, g) 0 8 2 = some (.ref 14) := by simp only [am_gf, s_0]; rfl
theorem gf_0_3 {g : am_G} : am_gf (sh0, g) 0 8 3 = some (.ref 26) := by simp only [am_gf, s_0]; rfl
theorem gf_0_4 {g : am_G} : am_gf (sh0, g) 0 8 4 = some (.ref 28) := by simp only [am_gf, s_0]; rfl
theorem gf_0_5 {g : am_G} : am_gf (sh0, g) 0 8 5 = some (.ref 72) := by simp only [am_gf, s_0]; rfl
theorem gf_0_6 {g : am_G} : am_gf (sh0, g) 0 8 6 = some (.ref 73) := by simp only [am_gf, s_0]; rfl
theorem gf_0_7 {g : am_G} : am_gf (sh0, g) 0 8 7 = some (.ref 74) := by simp only [am_gf, s_0]; rfl
theorem gf_0_8 {g : am_G} : am_gf (sh0, g) 0 8 8 = some (.ref 81) := by simp only [am_gf, s_0]; rfl
theorem gf_0_9 {g : am_G} : am_gf (sh0, g) 0 8 9 = some (.ref 121) := by simp only [am_gf, s_0]; rfl
theorem gf_121_0 {g : am_G} : am_gf (sh0, g) 121 1 0 = some (.ref 3) := by simp only [am_gf, s_121]; rfl
theorem gf_121_1 {g : am_G} : am_gf (sh0, g) 121 1 1 = some (.ref 125) := by simp only [am_gf, s_121]; rfl
theorem gf_121_2 {g : am_G} : am_gf (sh0, g) 121 1 2 = some (.int (g.1 121 2)) := by simp only [am_gf, s_121]; rfl
theorem gf_121_3 {g : am_G} : am_gf (sh0, g) 121 1 3 = some (.ref 122) := by simp only [am_gf, s_121]; rfl
theorem gf_121_4 {g : am_G} : am_gf (sh0, g) 121 1 4 = some (.ref 123) := by simp only [am_gf, s_121]; rfl
theorem gf_121_5 {g : am_G} : am_gf (sh0, g) 121 1 5 = some (.ref 124) := by simp only [am_gf, s_121]; rfl
theorem gf_121_6 {g : am_G} : am_gf (sh0, g) 121 1 6 = some (.int (g.1 121 6)) := by simp only [am_gf, s_121]; rfl
theorem gf_121_7 {g : am_G} : am_gf (sh0, g) 121 1 7 = some (.int (g.1 121 7)) := by simp only [am_gf, s_121]; rfl
theorem gf_14_0 {g : am_G} : am_gf (sh0, g) 14 4 0 = some (.ref 1) := by simp only [am_gf, s_14]; rfl
theorem gf_14_1 {g : am_G} : am_gf (sh0, g) 14 4 1 = some (.ref 15) := by simp only [am_gf, s_14]; rfl
theorem gf_14_2 {g : am_G} : am_gf (sh0, g) 14 4 2 = some (.int (g.1 14 2)) := by simp only [am_gf, s_14]; rfl
theorem gf_15_0 {g : am_G} : am_gf (sh0, g) 15 5 0 = some (.int (g.1 15 0)) := by simp only [am_gf, s_15]; rfl
theorem gf_15_1 {g : am_G} : am_gf (sh0, g) 15 5 1 = some (.ref 16) := by simp only [am_gf, s_15]; rfl
theorem gf_15_10 {g : am_G} : am_gf (sh0, g) 15 5 10 = some (.ref 23) := by simp only [am_gf, s_15]; rfl
theorem gf_15_11 {g : am_G} : am_gf (sh0, g) 15 5 11 = some (.ref 24) := by simp only [am_gf, s_15]; rfl
theorem gf_15_12 {g : am_G} : am_gf (sh0, g) 15 5 12 = some (.ref 25) := by simp only [am_gf, s_15]; rfl
theorem gf_15_2 {g : am_G} : am_gf (sh0, g) 15 5 2 = some (.ref 17) := by simp only [am_gf, s_15]; rfl
theorem gf_15_3 {g : am_G} : am_gf (sh0, g) 15 5 3 = some (.int (g.1 15 3)) := by simp only [am_gf, s_15]; rfl
theorem gf_15_4 {g : am_G} : am_gf (sh0, g) 15 5 4 = some (.ref 18) := by simp only [am_gf, s_15]; rfl
theorem gf_15_5 {g : am_G} : am_gf (sh0, g) 15 5 5 = some (.ref 19) := by simp only [am_gf, s_15]; rfl
theorem gf_15_6 {g : am_G} : am_gf (sh0, g) 15 5 6 = some (.ref 20) := by simp only [am_gf, s_15]; rfl
theorem gf_15_7 {g : am_G} : am_gf (sh0, g) 15 5 7 = some (.ref 21) := by simp only [am_gf, s_15]; rfl
theorem gf_15_8 {g : am_G} : am_gf (sh0, g) 15 5 8 = some (.ref 22) := by simp only [am_gf, s_15]; rfl
theorem gf_15_9 {g : am_G} : am_gf (sh0, g) 15 5 9 = some (.int (g.1 15 9)) := by simp only [am_gf, s_15]; rfl
theorem gf_1_0 {g : am_G} : am_gf (sh0, g) 1 6 0 = some (.ref 2) := by simp only [am_gf, s_1]; rfl
theorem gf_1_1 {g : am_G} : am_gf (sh0, g) 1 6 1 = some (.int (g.1 1 1)) := by simp only [am_gf, s_1]; rfl
theorem gf_1_2 {g : am_G} : am_gf (sh0, g) 1 6 2 = some (.int (g.1 1 2)) := by simp only [am_gf, s_1]; rfl
theorem gf_1_3 {g : am_G} : am_gf (sh0, g) 1 6 3 = some (.int (g.1 1 3)) := by simp only [am_gf, s_1]; rfl
theorem gf_1_4 {g : am_G} : am_gf (sh0, g) 1 6 4 = some (.int (g.1 1 4)) := by simp only [am_gf, s_1]; rfl
theorem gf_1_5 {g : am_G} : am_gf (sh0, g) 1 6 5 = some (.int (g.1 1 5)) := by simp only [am_gf, s_1]; rfl
theorem gf_221_0 {g : am_G} : am_gf (sh0, g) 221 9 0 = some (.long (g.2 221 0)) := by simp only [am_gf, s_221]; rfl
theorem gf_221_1 {g : am_G} : am_gf (sh0, g) 221 9 1 = some (.ref 222) := by simp only [am_gf, s_221]; rfl
theorem gf_221_10 {g : am_G} : am_gf (sh0, g) 221 9 10 = some (.int (g.1 221 10)) := by simp only [am_gf, s_221]; rfl
theorem gf_221_11 {g : am_G} : am_gf (sh0, g) 221 9 11 = some (.int (g.1 221 11)) := by simp only [am_gf, s_221]; rfl
theorem gf_221_12 {g : am_G} : am_gf (sh0, g) 221 9 12 = some (.int (g.1 221 12)) := by simp only [am_gf, s_221]; rfl
theorem gf_221_13 {g : am_G} : am_gf (sh0, g) 221 9 13 = some (.int (g.1 221 13)) := by simp only [am_gf, s_221]; rfl
theorem gf_221_14 {g : am_G} : am_gf (sh0, g) 221 9 14 = some (.ref 229) := by simp only [am_gf, s_221]; rfl
theorem gf_221_15 {g : am_G} : am_gf (sh0, g) 221 9 15 = some (.ref 230) := by simp only [am_gf, s_221]; rfl
theorem gf_221_16 {g : am_G} : am_gf (sh0, g) 221 9 16 = some (.ref 231) := by simp only [am_gf, s_221]; rfl
theorem gf_221_2 {g : am_G} : am_gf (sh0, g) 221 9 2 = some (.int (g.1 221 2)) := by simp only [am_gf, s_221]; rfl
theorem gf_221_3 {g : am_G} : am_gf (sh0, g) 221 9 3 = some (.ref 223) := by simp only [am_gf, s_221]; rfl
theorem gf_221_4 {g : am_G} : am_gf (sh0, g) 221 9 4 = some (.ref 224) := by simp only [am_gf, s_221]; rfl
theorem gf_221_5 {g : am_G} : am_gf (sh0, g) 221 9 5 = some (.ref 225) := by simp only [am_gf, s_221]; rfl
theorem gf_221_6 {g : am_G} : am_gf (sh0, g) 221 9 6 = some (.ref 226) := by simp only [am_gf, s_221]; rfl
theorem gf_221_7 {g : am_G} : am_gf (sh0, g) 221 9 7 = some (.ref 227) := by simp only [am_gf, s_221]; rfl
theorem gf_221_8 {g : am_G} : am_gf (sh0, g) 221 9 8 = some (.ref 228) := by simp only [am_gf, s_221]; rfl
theorem gf_221_9 {g : am_G} : am_gf (sh0, g) 221 9 9 = some (.int (g.1 221 9)) := by simp only [am_gf, s_221]; rfl
theorem gf_3_0 {g : am_G} : am_gf (sh0, g) 3 5 0 = some (.int (g.1 3 0)) := by simp only [am_gf, s_3]; rfl
theorem gf_3_1 {g : am_G} : am_gf (sh0, g) 3 5 1 = some (.ref 4) := by simp only [am_gf, s_3]; rfl
theorem gf_3_10 {g : am_G} : am_gf (sh0, g) 3 5 10 = some (.ref 11) := by simp only [am_gf, s_3]; rfl
theorem gf_3_11 {g : am_G} : am_gf (sh0, g) 3 5 11 = some (.ref 12) := by simp only [am_gf, s_3]; rfl
theorem gf_3_12 {g : am_G} : am_gf (sh0, g) 3 5 12 = some (.ref 13) := by simp only [am_gf, s_3]; rfl
theorem gf_3_2 {g : am_G} : am_gf (sh0, g) 3 5 2 = some (.ref 5) := by simp only [am_gf, s_3]; rfl
theorem gf_3_3 {g : am_G} : am_gf (sh0, g) 3 5 3 = some (.int (g.1 3 3)) := by simp only [am_gf, s_3]; rfl
theorem gf_3_4 {g : am_G} : am_gf (sh0, g) 3 5 4 = some (.ref 6) := by simp only [am_gf, s_3]; rfl
theorem gf_3_5 {g : am_G} : am_gf (sh0, g) 3 5 5 = some (.ref 7) := by simp only [am_gf, s_3]; rfl
theorem gf_3_6 {g : am_G} : am_gf (sh0, g) 3 5 6 = some (.ref 8) := by simp only [am_gf, s_3]; rfl
theorem gf_3_7 {g : am_G} : am_gf (sh0, g) 3 5 7 = some (.ref 9) := by simp only [am_gf, s_3]; rfl
theorem gf_3_8 {g : am_G} : am_gf (sh0, g) 3 5 8 = some (.ref 10) := by simp only [am_gf, s_3]; rfl
theorem gf_3_9 {g : am_G} : am_gf (sh0, g) 3 5 9 = some (.int (g.1 3 9)) := by simp only [am_gf, s_3]; rfl
theorem gf_74_0 {g : am_G} : am_gf (sh0, g) 74 7 0 = some (.ref 3) := by simp only [am_gf, s_74]; rfl
theorem gf_74_1 {g : am_G} : am_gf (sh0, g) 74 7 1 = some (.ref 77) := by simp only [am_gf, s_74]; rfl
theorem gf_74_2 {g : am_G} : am_gf (sh0, g) 74 7 2 = some (.int (g.1 74 2)) := by simp only [am_gf, s_74]; rfl
theorem gf_74_3 {g : am_G} : am_gf (sh0, g) 74 7 3 = some (.int (g.1 74 3)) := by simp only [am_gf, s_74]; rfl
theorem gf_74_4 {g : am_G} : am_gf (sh0, g) 74 7 4 = some (.int (g.1 74 4)) := by simp only [am_gf, s_74]; rfl
theorem gf_74_5 {g : am_G} : am_gf (sh0, g) 74 7 5 = some (.ref 75) := by simp only [am_gf, s_74]; rfl
theorem gf_74_6 {g : am_G} : am_gf (sh0, g) 74 7 6 = some (.ref 76) := by simp only [am_gf, s_74]; rfl
theorem gf_74_7 {g : am_G} : am_gf (sh0, g) 74 7 7 = some (.int (g.1 74 7)) := by simp only [am_gf, s_74]; rfl
theorem gf_81_0 {g : am_G} : am_gf (sh0, g) 81 0 0 = some (.ref 3) := by simp only [am_gf, s_81]; rfl
theorem gf_81_1 {g : am_G} : am_gf (sh0, g) 81 0 1 = some (.ref 82) := by simp only [am_gf, s_81]; rfl
theorem gf_81_10 {g : am_G} : am_gf (sh0, g) 81 0 10 = some (.ref 84) := by simp only [am_gf, s_81]; rfl
theorem gf_81_2 {g : am_G} : am_gf (sh0, g) 81 0 2 = some (.int (g.1 81 2)) := by simp only [am_gf, s_81]; rfl
theorem gf_81_3 {g : am_G} : am_gf (sh0, g) 81 0 3 = some (.int (g.1 81 3)) := by simp only [am_gf, s_81]; rfl
theorem gf_81_4 {g : am_G} : am_gf (sh0, g) 81 0 4 = some (.long (g.2 81 4)) := by simp only [am_gf, s_81]; rfl
theorem gf_81_5 {g : am_G} : am_gf (sh0, g) 81 0 5 = some (.long (g.2 81 5)) := by simp only [am_gf, s_81]; rfl
theorem gf_81_6 {g : am_G} : am_gf (sh0, g) 81 0 6 = some (.int (g.1 81 6)) := by simp only [am_gf, s_81]; rfl
theorem gf_81_7 {g : am_G} : am_gf (sh0, g) 81 0 7 = some (.int (g.1 81 7)) := by simp only [am_gf, s_81]; rfl
theorem gf_81_8 {g : am_G} : am_gf (sh0, g) 81 0 8 = some (.ref 83) := by simp only [am_gf, s_81]; rfl
theorem gf_81_9 {g : am_G} : am_gf (sh0, g) 81 0 9 = some (.int (g.1 81 9)) := by simp only [am_gf, s_81]; rfl
theorem ib_10 : (Int8.ofInt 10).toInt32 = 10 := by decide
theorem ib_100 : (Int8.ofInt 100).toInt32 = 100 := by decide
theorem ib_115 : (Int8.ofInt 115).toInt32 = 115 := by decide
theorem ib_116 : (Int8.ofInt 116).toInt32 = 116 := by decide
theorem ib_119 : (Int8.ofInt 119).toInt32 = 119 := by decide
theorem ib_12 : (Int8.ofInt 12).toInt32 = 12 := by decide
theorem ib_122 : (Int8.ofInt 122).toInt32 = 122 := by decide
theorem ib_15 : (Int8.ofInt 15).toInt32 = 15 := by decide
theorem ib_19 : (Int8.ofInt 19).toInt32 = 19 := by decide
theorem ib_20 : (Int8.ofInt 20).toInt32 = 20 := by decide
theorem ib_22 : (Int8.ofInt 22).toInt32 = 22 := by decide
theorem ib_26 : (Int8.ofInt 26).toInt32 = 26 := by decide
theorem ib_29 : (Int8.ofInt 29).toInt32 = 29 := by decide
theorem ib_30 : (Int8.ofInt 30).toInt32 = 30 := by decide
theorem ib_32 : (Int8.ofInt 32).toInt32 = 32 := by decide
theorem ib_33 : (Int8.ofInt 33).toInt32 = 33 := by decide
theorem ib_40 : (Int8.ofInt 40).toInt32 = 40 := by decide
theorem ib_47 : (Int8.ofInt 47).toInt32 = 47 := by decide
theorem ib_48 : (Int8.ofInt 48).toInt32 = 48 := by decide
theorem ib_55 : (Int8.ofInt 55).toInt32 = 55 := by decide
theorem ib_57 : (Int8.ofInt 57).toInt32 = 57 := by decide
theorem ib_59 : (Int8.ofInt 59).toInt32 = 59 := by decide
theorem ib_6 : (Int8.ofInt 6).toInt32 = 6 := by decide
theorem ib_60 : (Int8.ofInt 60).toInt32 = 60 := by decide
theorem ib_63 : (Int8.ofInt 63).toInt32 = 63 := by decide
theorem ib_7 : (Int8.ofInt 7).toInt32 = 7 := by decide
theorem ib_71 : (Int8.ofInt 71).toInt32 = 71 := by decide
theorem ib_8 : (Int8.ofInt 8).toInt32 = 8 := by decide
theorem ib_9 : (Int8.ofInt 9).toInt32 = 9 := by decide
theorem ib_97 : (Int8.ofInt 97).toInt32 = 97 := by decide
theorem ib_99 : (Int8.ofInt 99).toInt32 = 99 := by decide
theorem ib_m10 : (Int8.ofInt (-10)).toInt32 = (-10) := by decide
theorem ib_m2 : (Int8.ofInt (-2)).toInt32 = (-2) := by decide
theorem ib_m3 : (Int8.ofInt (-3)).toInt32 = (-3) := by decide
theorem ib_m9 : (Int8.ofInt (-9)).toInt32 = (-9) := by decide
theorem ic_0 : Int32.ofInt 0 = 0 := by decide
theorem ic_1 : Int32.ofInt 1 = 1 := by decide
theorem ic_2 : Int32.ofInt 2 = 2 := by decide
theorem ic_3 : Int32.ofInt 3 = 3 := by decide
theorem ic_4 : Int32.ofInt 4 = 4 := by decide
theorem ic_5 : Int32.ofInt 5 = 5 := by decide
theorem ic_m1 : Int32.ofInt (-1) = (-1) := by decide
theorem is_1000 : (Int16.ofInt 1000).toInt32 = 1000 := by decide
theorem is_1024 : (Int16.ofInt 1024).toInt32 = 1024 := by decide
theorem is_200 : (Int16.ofInt 200).toInt32 = 200 := by decide
theorem is_255 : (Int16.ofInt 255).toInt32 = 255 := by decide
theorem is_291 : (Int16.ofInt 291).toInt32 = 291 := by decide
theorem is_320 : (Int16.ofInt 320).toInt32 = 320 := by decide
theorem is_5040 : (Int16.ofInt 5040).toInt32 = 5040 := by decide
theorem is_999 : (Int16.ofInt 999).toInt32 = 999 := by decide
theorem is_9999 : (Int16.ofInt 9999).toInt32 = 9999 := by decide
theorem kc_0_119 : am_kst 0 119 = some 1000000000 := by decide +kernel
theorem kc_2_104 : am_kst 2 104 = some (-1000000000) := by decide +kernel
theorem kc_2_105 : am_kst 2 105 = some 1000000000 := by decide +kernel
theorem kc_7_70 : am_kst 7 70 = some 1000000000 := by decide +kernel
theorem kc_8_307 : am_kst 8 307 = some (-1000000) := by decide +kernel
theorem kc_9_179 : am_kst 9 179 = some (-1000000) := by decide +kernel
theorem kl_0_98 : am_ksl 0 98 = some 10 := by decide +kernel
theorem kl_8_284 : am_ksl 8 284 = some (-1) := by decide +kernel
theorem kl_8_329 : am_ksl 8 329 = some 10 := by decide +kernel
theorem kl_8_331 : am_ksl 8 331 = some 100 := by decide +kernel
theorem kl_8_333 : am_ksl 8 333 = some 1000 := by decide +kernel
theorem kl_8_335 : am_ksl 8 335 = some 10000 := by decide +kernel
theorem kl_8_337 : am_ksl 8 337 = some 100000 := by decide +kernel
theorem kl_9_172 : am_ksl 9 172 = some (-1) := by decide +kernel
theorem kl_9_174 : am_ksl 9 174 = some 10 := by decide +kernel
theorem kl_9_184 : am_ksl 9 184 = some 11 := by decide +kernel
theorem kl_9_186 : am_ksl 9 186 = some 101 := by decide +kernel
theorem kl_9_188 : am_ksl 9 188 = some 1011 := by decide +kernel
theorem kl_9_190 : am_ksl 9 190 = some 10101 := by decide +kernel
theorem kl_9_192 : am_ksl 9 192 = some 100001 := by decide +kernel
theorem ms_1 : am_ms[1]? = some mX0_setOut := by rfl
theorem ms_10 : am_ms[10]? = some mX0_followRow := by rfl
theorem ms_107 : am_ms[107]? = some mX8_asLoad := by rfl
theorem ms_108 : am_ms[108]? = some mX8_asHeavy := by rfl
theorem ms_109 : am_ms[109]? = some mX8_asLight := by rfl
theorem ms_11 : am_ms[11]? = some mX0_toldAsTurned := by rfl
theorem ms_110 : am_ms[110]? = some mX8_asDamp := by rfl
theorem ms_111 : am_ms[111]? = some mX8_asEaten := by rfl
theorem ms_112 : am_ms[112]? = some mX8_asSilent := by rfl
theorem ms_113 : am_ms[113]? = some mX8_isWalker := by rfl
theorem ms_114 : am_ms[114]? = some mX8_isThing := by rfl
theorem ms_115 : am_ms[115]? = some mX8_isLine := by rfl
theorem ms_12 : am_ms[12]? = some mX0_judge := by rfl
theorem ms_120 : am_ms[120]? = some mX9_isWalker := by rfl
theorem ms_121 : am_ms[121]? = some mX9_isThing := by rfl
theorem ms_124 : am_ms[124]? = some mX9_byteAt := by rfl
theorem ms_127 : am_ms[127]? = some mX9_token := by rfl
theorem ms_128 : am_ms[128]? = some mX9_number := by rfl
theorem ms_129 : am_ms[129]? = some mX9_readsWalker := by rfl
theorem ms_13 : am_ms[13]? = some mX0_nextRow := by rfl
theorem ms_130 : am_ms[130]? = some mX9_readsThing := by rfl
theorem ms_131 : am_ms[131]? = some mX9_readsStage := by rfl
theorem ms_132 : am_ms[132]? = some mX9_readsItem := by rfl
theorem ms_133 : am_ms[133]? = some mX9_reads := by rfl
theorem ms_134 : am_ms[134]? = some mX9_tells := by rfl
theorem ms_136 : am_ms[136]? = some mX9_weighs := by rfl
theorem ms_137 : am_ms[137]? = some mX9_load := by rfl
theorem ms_138 : am_ms[138]? = some mX9_force := by rfl
theorem ms_139 : am_ms[139]? = some mX9_pace := by rfl
theorem ms_14 : am_ms[14]? = some mX0_placeOfNextAbove := by rfl
theorem ms_144 : am_ms[144]? = some mX9_keeps := by rfl
theorem ms_146 : am_ms[146]? = some mX9_isHut := by rfl
theorem ms_148 : am_ms[148]? = some mX9_rains := by rfl
theorem ms_149 : am_ms[149]? = some mX9_slowest := by rfl
theorem ms_15 : am_ms[15]? = some mX0_sortFrom := by rfl
theorem ms_150 : am_ms[150]? = some mX9_plainOrder := by rfl
theorem ms_151 : am_ms[151]? = some mX9_eats := by rfl
theorem ms_152 : am_ms[152]? = some mX9_stageGoes := by rfl
theorem ms_153 : am_ms[153]? = some mX9_isStage := by rfl
theorem ms_154 : am_ms[154]? = some mX9_isRain := by rfl
theorem ms_157 : am_ms[157]? = some mX9_fair := by rfl
theorem ms_158 : am_ms[158]? = some mX9_parted := by rfl
theorem ms_16 : am_ms[16]? = some mX0_swap := by rfl
theorem ms_160 : am_ms[160]? = some mX9_holds := by rfl
theorem ms_161 : am_ms[161]? = some mX9_lets := by rfl
theorem ms_165 : am_ms[165]? = some mX9_lays := by rfl
theorem ms_169 : am_ms[169]? = some mX9_ordered := by rfl
theorem ms_17 : am_ms[17]? = some mX0_stepBefore := by rfl
theorem ms_174 : am_ms[174]? = some mX9_isSo := by rfl
theorem ms_19 : am_ms[19]? = some mX1_takes := by rfl
theorem ms_2 : am_ms[2]? = some mX0_end := by rfl
theorem ms_20 : am_ms[20]? = some mX1_findGifts := by rfl
theorem ms_21 : am_ms[21]? = some mX1_isSo := by rfl
theorem ms_23 : am_ms[23]? = some mX2_begin := by rfl
theorem ms_24 : am_ms[24]? = some mX2_copyFrom := by rfl
theorem ms_25 : am_ms[25]? = some mX2_isWet := by rfl
theorem ms_26 : am_ms[26]? = some mX2_isCarried := by rfl
theorem ms_27 : am_ms[27]? = some mX2_canBeGiven := by rfl
theorem ms_28 : am_ms[28]? = some mX2_isAtHut := by rfl
theorem ms_29 : am_ms[29]? = some mX2_hasStage := by rfl
theorem ms_3 : am_ms[3]? = some mX0_findSpent := by rfl
theorem ms_30 : am_ms[30]? = some mX2_weight := by rfl
theorem ms_31 : am_ms[31]? = some mX2_load := by rfl
theorem ms_32 : am_ms[32]? = some mX2_thingsWith := by rfl
theorem ms_33 : am_ms[33]? = some mX2_leftOf := by rfl
theorem ms_34 : am_ms[34]? = some mX2_force := by rfl
theorem ms_35 : am_ms[35]? = some mX2_pace := by rfl
theorem ms_36 : am_ms[36]? = some mX2_minutesFor := by rfl
theorem ms_37 : am_ms[37]? = some mX2_slowest := by rfl
theorem ms_38 : am_ms[38]? = some mX2_spread := by rfl
theorem ms_39 : am_ms[39]? = some mX2_parted := by rfl
theorem ms_4 : am_ms[4]? = some mX0_findOdds := by rfl
theorem ms_40 : am_ms[40]? = some mX2_pass := by rfl
theorem ms_41 : am_ms[41]? = some mX2_march := by rfl
theorem ms_42 : am_ms[42]? = some mX2_soak := by rfl
theorem ms_43 : am_ms[43]? = some mX2_tire := by rfl
theorem ms_44 : am_ms[44]? = some mX2_feed := by rfl
theorem ms_45 : am_ms[45]? = some mX2_settle := by rfl
theorem ms_47 : am_ms[47]? = some mX3_begin := by rfl
theorem ms_48 : am_ms[48]? = some mX3_copyFrom := by rfl
theorem ms_49 : am_ms[49]? = some mX3_remember := by rfl
theorem ms_5 : am_ms[5]? = some mX0_luckyWays := by rfl
theorem ms_50 : am_ms[50]? = some mX3_takeBack := by rfl
theorem ms_52 : am_ms[52]? = some mX4_readAll := by rfl
theorem ms_53 : am_ms[53]? = some mX4_readItem := by rfl
theorem ms_54 : am_ms[54]? = some mX4_readWalker := by rfl
theorem ms_55 : am_ms[55]? = some mX4_readThing := by rfl
theorem ms_56 : am_ms[56]? = some mX4_readStage := by rfl
theorem ms_57 : am_ms[57]? = some mX4_number := by rfl
theorem ms_58 : am_ms[58]? = some mX4_endItem := by rfl
theorem ms_6 : am_ms[6]? = some mX0_stepOn := by rfl
theorem ms_60 : am_ms[60]? = some mX5_copyFrom := by rfl
theorem ms_61 : am_ms[61]? = some mX5_rains := by rfl
theorem ms_63 : am_ms[63]? = some mX6_takes := by rfl
theorem ms_64 : am_ms[64]? = some mX6_toFirstToken := by rfl
theorem ms_65 : am_ms[65]? = some mX6_toNextToken := by rfl
theorem ms_66 : am_ms[66]? = some mX6_readLetters := by rfl
theorem ms_67 : am_ms[67]? = some mX6_readNumber := by rfl
theorem ms_7 : am_ms[7]? = some mX0_shorten := by rfl
theorem ms_71 : am_ms[71]? = some mX7_wake := by rfl
theorem ms_72 : am_ms[72]? = some mX7_findSoonest := by rfl
theorem ms_73 : am_ms[73]? = some mX7_place := by rfl
theorem ms_74 : am_ms[74]? = some mX7_canBeBetter := by rfl
theorem ms_75 : am_ms[75]? = some mX7_judge := by rfl
theorem ms_76 : am_ms[76]? = some mX7_bestGift := by rfl
theorem ms_77 : am_ms[77]? = some mX7_lightestSet := by rfl
theorem ms_78 : am_ms[78]? = some mX7_isQuickWithout := by rfl
theorem ms_8 : am_ms[8]? = some mX0_findRow := by rfl
theorem ms_9 : am_ms[9]? = some mX0_lowestRow := by rfl
theorem n_0 : (0 : Nat) ≠ am_ext := by decide
theorem n_1 : (1 : Nat) ≠ am_ext := by decide
theorem n_10 : (10 : Nat) ≠ am_ext := by decide
theorem n_11 : (11 : Nat) ≠ am_ext := by decide
theorem n_12 : (12 : Nat) ≠ am_ext := by decide
theorem n_121 : (121 : Nat) ≠ am_ext := by decide
theorem n_122 : (122 : Nat) ≠ am_ext := by decide
theorem n_123 : (123 : Nat) ≠ am_ext := by decide
theorem n_124 : (124 : Nat) ≠ am_ext := by decide
theorem n_13 : (13 : Nat) ≠ am_ext := by decide
theorem n_14 : (14 : Nat) ≠ am_ext := by decide
theorem n_15 : (15 : Nat) ≠ am_ext := by decide
theorem n_16 : (16 : Nat) ≠ am_ext := by decide
theorem n_17 : (17 : Nat) ≠ am_ext := by decide
theorem n_18 : (18 : Nat) ≠ am_ext := by decide
theorem n_19 : (19 : Nat) ≠ am_ext := by decide
theorem n_2 : (2 : Nat) ≠ am_ext := by decide
theorem n_20 : (20 : Nat) ≠ am_ext := by decide
theorem n_21 : (21 : Nat) ≠ am_ext := by decide
theorem n_22 : (22 : Nat) ≠ am_ext := by decide
theorem n_221 : (221 : Nat) ≠ am_ext := by decide
theorem n_222 : (222 : Nat) ≠ am_ext := by decide
theorem n_223 : (223 : Nat) ≠ am_ext := by decide
theorem n_224 : (224 : Nat) ≠ am_ext := by decide
theorem n_225 : (225 : Nat) ≠ am_ext := by decide
theorem n_226 : (226 : Nat) ≠ am_ext := by decide
theorem n_227 : (227 : Nat) ≠ am_ext := by decide
theorem n_228 : (228 : Nat) ≠ am_ext := by decide
theorem n_229 : (229 : Nat) ≠ am_ext := by decide
theorem n_23 : (23 : Nat) ≠ am_ext := by decide
theorem n_230 : (230 : Nat) ≠ am_ext := by decide
theorem n_231 : (231 : Nat) ≠ am_ext := by decide
theorem n_24 : (24 : Nat) ≠ am_ext := by decide
theorem n_25 : (25 : Nat) ≠ am_ext := by decide
theorem n_3 : (3 : Nat) ≠ am_ext := by decide
theorem n_4 : (4 : Nat) ≠ am_ext := by decide
theorem n_5 : (5 : Nat) ≠ am_ext := by decide
theorem n_6 : (6 : Nat) ≠ am_ext := by decide
theorem n_7 : (7 : Nat) ≠ am_ext := by decide
theorem n_72 : (72 : Nat) ≠ am_ext := by decide
theorem n_73 : (73 : Nat) ≠ am_ext := by decide
theorem n_74 : (74 : Nat) ≠ am_ext := by decide
theorem n_75 : (75 : Nat) ≠ am_ext := by decide
theorem n_76 : (76 : Nat) ≠ am_ext := by decide
theorem n_8 : (8 : Nat) ≠ am_ext := by decide
theorem n_81 : (81 : Nat) ≠ am_ext := by decide
theorem n_82 : (82 : Nat) ≠ am_ext := by decide
theorem n_83 : (83 : Nat) ≠ am_ext := by decide
theorem n_84 : (84 : Nat) ≠ am_ext := by decide
theorem n_9 : (9 : Nat) ≠ am_ext := by decide
theorem tc_0 : (0 : Int32).toNatClampNeg = 0 := by decide
theorem tc_4 : (4 : Int32).toNatClampNeg = 4 := by decide
theorem tc_7 : (7 : Int32).toNatClampNeg = 7 := by decide
theorem tc_8 : (8 : Int32).toNatClampNeg = 8 := by decide
theorem cg_0 {c : Nat} {g : am_G} (h : c ∈ am_camps) : am_gf (sh0, g) c 2 0 = some (.ref 3) := by simp only [am_gf, sc_o h]; rfl
theorem cg_1 {c : Nat} {g : am_G} (h : c ∈ am_camps) : am_gf (sh0, g) c 2 1 = some (.int (g.1 c 1)) := by simp only [am_gf, sc_o h]; rfl
theorem cg_2 {c : Nat} {g : am_G} (h : c ∈ am_camps) : am_gf (sh0, g) c 2 2 = some (.int (g.1 c 2)) := by simp only [am_gf, sc_o h]; rfl
theorem cg_3 {c : Nat} {g : am_G} (h : c ∈ am_camps) : am_gf (sh0, g) c 2 3 = some (.int (g.1 c 3)) := by simp only [am_gf, sc_o h]; rfl
theorem cg_4 {c : Nat} {g : am_G} (h : c ∈ am_camps) : am_gf (sh0, g) c 2 4 = some (.int (g.1 c 4)) := by simp only [am_gf, sc_o h]; rfl
theorem cg_5 {c : Nat} {g : am_G} (h : c ∈ am_camps) : am_gf (sh0, g) c 2 5 = some (.int (g.1 c 5)) := by simp only [am_gf, sc_o h]; rfl
theorem cg_6 {c : Nat} {g : am_G} (h : c ∈ am_camps) : am_gf (sh0, g) c 2 6 = some (.ref (c + 1)) := by simp only [am_gf, sc_o h]; rfl
theorem cg_7 {c : Nat} {g : am_G} (h : c ∈ am_camps) : am_gf (sh0, g) c 2 7 = some (.ref (c + 2)) := by simp only [am_gf, sc_o h]; rfl
theorem cg_8 {c : Nat} {g : am_G} (h : c ∈ am_camps) : am_gf (sh0, g) c 2 8 = some (.ref (c + 3)) := by simp only [am_gf, sc_o h]; rfl
theorem jg_0 {j : Nat} {g : am_G} (h : j ∈ am_jours) : am_gf (sh0, g) j 3 0 = some (.ref (j + 2)) := by simp only [am_gf, sj_o h]; rfl
theorem jg_1 {j : Nat} {g : am_G} (h : j ∈ am_jours) : am_gf (sh0, g) j 3 1 = some (.ref (j + 1)) := by simp only [am_gf, sj_o h]; rfl
theorem jg_2 {j : Nat} {g : am_G} (h : j ∈ am_jours) : am_gf (sh0, g) j 3 2 = some (.int (g.1 j 2)) := by simp only [am_gf, sj_o h]; rfl
theorem jg_3 {j : Nat} {g : am_G} (h : j ∈ am_jours) : am_gf (sh0, g) j 3 3 = some (.int (g.1 j 3)) := by simp only [am_gf, sj_o h]; rfl
