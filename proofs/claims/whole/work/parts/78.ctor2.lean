-- the two constructors
theorem cl_8_1 : am_cal 8 1 = some (5, 0, 0) := by decide +kernel
theorem cl_8_18 : am_cal 8 18 = some (4, 59, 0) := by decide +kernel
theorem cl_8_25 : am_cal 8 25 = some (2, 51, 1) := by decide +kernel
theorem cl_8_34 : am_cal 8 34 = some (2, 46, 1) := by decide +kernel
theorem cl_8_56 : am_cal 8 56 = some (2, 70, 1) := by decide +kernel
theorem cl_8_63 : am_cal 8 63 = some (2, 0, 1) := by decide +kernel
theorem cl_8_70 : am_cal 8 70 = some (2, 18, 1) := by decide +kernel
theorem cl_8_9 : am_cal 8 9 = some (4, 62, 0) := by decide +kernel
theorem cl_9_1 : am_cal 9 1 = some (5, 0, 0) := by decide +kernel
theorem cn_8_16 : am_cln 8 16 = some 5 := by decide +kernel
theorem cn_8_23 : am_cln 8 23 = some 4 := by decide +kernel
theorem cn_8_32 : am_cln 8 32 = some 3 := by decide +kernel
theorem cn_8_54 : am_cln 8 54 = some 7 := by decide +kernel
theorem cn_8_61 : am_cln 8 61 = some 0 := by decide +kernel
theorem cn_8_68 : am_cln 8 68 = some 1 := by decide +kernel
theorem cn_8_7 : am_cln 8 7 = some 6 := by decide +kernel
theorem fl_8_41 : am_fld 8 41 = some (3, 0) := by decide +kernel
def gz : am_G := (fun _ _ => 0, fun _ _ => 0)
theorem zr_gz (n : Nat) : zr gz n := fun _ _ _ => ⟨rfl, rfl⟩
def tA (fs : List Value) (R : List am_AC) : List am_AC := .inl (8, fs) :: R
def shT : List am_AC := tA [.ref 1, .ref 3, .ref 14, .ref 26, .ref 28, .ref 72, .ref 73, .ref 74, .ref 81, .ref 121, .long 0] (([] : List am_AC) ++ cc_Text 1 ++ cc_Tale 3 ++ cc_Reader 14 ++ cc_Journey 26 ++ [.inr (3, 2, [some 129, some 175])] ++ [.inr (1, 2, [])] ++ cc_Today 74 ++ cc_Ahead 81 ++ cc_Book 121 ++ cc_Journey 129 ++ cc_Journey 175)
def gT : am_G := (am_wr (am_wL gz 81 5 1) 121 7 (-9))
theorem shT_ok : shT = sh0.take 221 := by decide +kernel
set_option maxRecDepth 8000 in
theorem ct_TentBearers : am_Ev 3 79 [.ref 0] ([.inl (8, [.null, .null, .null, .null, .null, .null, .null, .null, .null, .null, .long 0])], gz) (shT, gT) none := by
  refine am_ev mX8_init (by rfl) (Nat.le_of_ble_eq_true rfl) [(0, .ref 0)] rfl ?_
  refine fe_lan (pc' := 1) dX8_init_0 rfl rfl ?_
  refine fc_oi (pc' := 4) dX8_init_1 rfl cl_8_1 (Nat.le_of_ble_eq_true rfl) ?_
  refine fe_lan (pc' := 5) dX8_init_4 rfl rfl ?_
  refine fc_new (sh := []) (pc' := 8) (n := 1) (l' := tA [.null, .null, .null, .null, .null, .null, .null, .null, .null, .null, .long 0] (([] : List am_AC) ++ [.inl (6, [.null, .int 0, .int 0, .int 0, .int 0, .int 0])])) dX8_init_5 rfl cn_8_7 (by decide +kernel) (zr_gz _) rfl ?_
  refine fe_dup (pc' := 9) dX8_init_8 rfl rfl ?_
  have e := ct_Text (sh := tA [.null, .null, .null, .null, .null, .null, .null, .null, .null, .null, .long 0] (([] : List am_AC))) (g := gz) (n := 1) (by decide +kernel) (by decide) (zr_gz _)
  refine fc_ii (pc' := 12) (as := [.ref 1]) (h1 := (tA [.null, .null, .null, .null, .null, .null, .null, .null, .null, .null, .long 0] (([] : List am_AC) ++ cc_Text 1), gz)) dX8_init_9 rfl cl_8_9 (Or.inr rfl) rfl rfl ⟨by decide, Nat.le_of_ble_eq_true rfl, Nat.le_of_ble_eq_true rfl⟩ ⟨(by decide +kernel), (by decide +kernel)⟩ (am_up (by decide) e) ?_
  refine fc_pr (sh := []) (pc' := 15) (i := 0) (l' := tA [.ref 1, .null, .null, .null, .null, .null, .null, .null, .null, .null, .long 0] (([] : List am_AC) ++ cc_Text 1)) dX8_init_12 rfl fl_8_10 (by decide) rfl rfl rfl ⟨rfl, rfl⟩ ⟨rfl, rfl⟩ (by decide) rfl ?_
  refine fe_lan (pc' := 16) dX8_init_15 rfl rfl ?_
  refine fc_new (sh := []) (pc' := 19) (n := 3) (l' := tA [.ref 1, .null, .null, .null, .null, .null, .null, .null, .null, .null, .long 0] (([] : List am_AC) ++ cc_Text 1 ++ [.inl (5, [.int 0, .null, .null, .int 0, .null, .null, .null, .null, .null, .int 0, .null, .null, .null])])) dX8_init_16 rfl cn_8_16 (by decide +kernel) (zr_gz _) rfl ?_
  refine fe_dup (pc' := 20) dX8_init_19 rfl rfl ?_
  have e := ct_Tale (sh := tA [.ref 1, .null, .null, .null, .null, .null, .null, .null, .null, .null, .long 0] (([] : List am_AC) ++ cc_Text 1)) (g := gz) (n := 3) (by decide +kernel) (by decide) (zr_gz _)
  refine fc_ii (pc' := 23) (as := [.ref 3]) (h1 := (tA [.ref 1, .null, .null, .null, .null, .null, .null, .null, .null, .null, .long 0] (([] : List am_AC) ++ cc_Text 1 ++ cc_Tale 3), gz)) dX8_init_20 rfl cl_8_18 (Or.inr rfl) rfl rfl ⟨by decide, Nat.le_of_ble_eq_true rfl, Nat.le_of_ble_eq_true rfl⟩ ⟨(by decide +kernel), (by decide +kernel)⟩ (am_up (by decide) e) ?_
  refine fc_pr (sh := []) (pc' := 26) (i := 0) (l' := tA [.ref 1, .ref 3, .null, .null, .null, .null, .null, .null, .null, .null, .long 0] (([] : List am_AC) ++ cc_Text 1 ++ cc_Tale 3)) dX8_init_23 rfl fl_8_19 (by decide) rfl rfl rfl ⟨rfl, rfl⟩ ⟨rfl, rfl⟩ (by decide) rfl ?_
  refine fe_lan (pc' := 27) dX8_init_26 rfl rfl ?_
  refine fc_new (sh := []) (pc' := 30) (n := 14) (l' := tA [.ref 1, .ref 3, .null, .null, .null, .null, .null, .null, .null, .null, .long 0] (([] : List am_AC) ++ cc_Text 1 ++ cc_Tale 3 ++ [.inl (4, [.null, .null, .int 0])])) dX8_init_27 rfl cn_8_23 (by decide +kernel) (zr_gz _) rfl ?_
  refine fe_dup (pc' := 31) dX8_init_30 rfl rfl ?_
  refine fe_lan (pc' := 32) dX8_init_31 rfl rfl ?_
  refine fc_gr (sh := []) (pc' := 35) (i := 0) dX8_init_32 rfl fl_8_10 (by decide) rfl rfl rfl ?_
  have e := ct_Reader (sh := tA [.ref 1, .ref 3, .null, .null, .null, .null, .null, .null, .null, .null, .long 0] (([] : List am_AC) ++ cc_Text 1 ++ cc_Tale 3)) (g := gz) (n := 14) (by decide +kernel) (by decide) (zr_gz _)
  refine fc_ii (pc' := 38) (as := [.ref 14, .ref 1]) (h1 := (tA [.ref 1, .ref 3, .null, .null, .null, .null, .null, .null, .null, .null, .long 0] (([] : List am_AC) ++ cc_Text 1 ++ cc_Tale 3 ++ cc_Reader 14), gz)) dX8_init_35 rfl cl_8_25 (Or.inl rfl) rfl rfl ⟨by decide, Nat.le_of_ble_eq_true rfl, Nat.le_of_ble_eq_true rfl⟩ ⟨(by decide +kernel), (by decide +kernel)⟩ (am_up (by decide) e) ?_
  refine fc_pr (sh := []) (pc' := 41) (i := 0) (l' := tA [.ref 1, .ref 3, .ref 14, .null, .null, .null, .null, .null, .null, .null, .long 0] (([] : List am_AC) ++ cc_Text 1 ++ cc_Tale 3 ++ cc_Reader 14)) dX8_init_38 rfl fl_8_28 (by decide) rfl rfl rfl ⟨rfl, rfl⟩ ⟨rfl, rfl⟩ (by decide) rfl ?_
  refine fe_lan (pc' := 42) dX8_init_41 rfl rfl ?_
  refine fc_new (sh := []) (pc' := 45) (n := 26) (l' := tA [.ref 1, .ref 3, .ref 14, .null, .null, .null, .null, .null, .null, .null, .long 0] (([] : List am_AC) ++ cc_Text 1 ++ cc_Tale 3 ++ cc_Reader 14 ++ [.inl (3, [.null, .null, .int 0, .int 0])])) dX8_init_42 rfl cn_8_32 (by decide +kernel) (zr_gz _) rfl ?_
  refine fe_dup (pc' := 46) dX8_init_45 rfl rfl ?_
  refine fe_lan (pc' := 47) dX8_init_46 rfl rfl ?_
  refine fc_gr (sh := []) (pc' := 50) (i := 0) dX8_init_47 rfl fl_8_19 (by decide) rfl rfl rfl ?_
  have e := ct_Journey (sh := tA [.ref 1, .ref 3, .ref 14, .null, .null, .null, .null, .null, .null, .null, .long 0] (([] : List am_AC) ++ cc_Text 1 ++ cc_Tale 3 ++ cc_Reader 14)) (g := gz) (n := 26) (by decide +kernel) (by decide) (zr_gz _)
  refine fc_ii (pc' := 53) (as := [.ref 26, .ref 3]) (h1 := (tA [.ref 1, .ref 3, .ref 14, .null, .null, .null, .null, .null, .null, .null, .long 0] (([] : List am_AC) ++ cc_Text 1 ++ cc_Tale 3 ++ cc_Reader 14 ++ cc_Journey 26), gz)) dX8_init_50 rfl cl_8_34 (Or.inl rfl) rfl rfl ⟨by decide, Nat.le_of_ble_eq_true rfl, Nat.le_of_ble_eq_true rfl⟩ ⟨(by decide +kernel), (by decide +kernel)⟩ (am_up (by decide) e) ?_
  refine fc_pr (sh := []) (pc' := 56) (i := 0) (l' := tA [.ref 1, .ref 3, .ref 14, .ref 26, .null, .null, .null, .null, .null, .null, .long 0] (([] : List am_AC) ++ cc_Text 1 ++ cc_Tale 3 ++ cc_Reader 14 ++ cc_Journey 26)) dX8_init_53 rfl fl_8_37 (by decide) rfl rfl rfl ⟨rfl, rfl⟩ ⟨rfl, rfl⟩ (by decide) rfl ?_
  refine fe_lan (pc' := 57) dX8_init_56 rfl rfl ?_
  refine fe_lan (pc' := 58) dX8_init_57 rfl rfl ?_
  refine fc_gr (sh := []) (pc' := 61) (i := 0) dX8_init_58 rfl fl_8_37 (by decide) rfl rfl rfl ?_
  refine fc_gr (sh := []) (pc' := 64) (i := 26) (fs := am_jf 26) (b := 28) dX8_init_61 rfl fl_8_41 (by decide) rfl (by decide +kernel) rfl ?_
  refine fc_pr (sh := []) (pc' := 67) (i := 0) (l' := tA [.ref 1, .ref 3, .ref 14, .ref 26, .ref 28, .null, .null, .null, .null, .null, .long 0] (([] : List am_AC) ++ cc_Text 1 ++ cc_Tale 3 ++ cc_Reader 14 ++ cc_Journey 26)) dX8_init_64 rfl fl_8_45 (by decide) rfl rfl rfl ⟨rfl, rfl⟩ ⟨rfl, rfl⟩ (by decide) rfl ?_
  refine fe_lan (pc' := 68) dX8_init_67 rfl rfl ?_
  refine fe_ic (pc' := 69) (v := 2) dX8_init_68 rfl (by decide) ?_
  refine fc_anw (sh := []) (pc' := 72) (N := 2) (n := 72) (l' := tA [.ref 1, .ref 3, .ref 14, .ref 26, .ref 28, .null, .null, .null, .null, .null, .long 0] (([] : List am_AC) ++ cc_Text 1 ++ cc_Tale 3 ++ cc_Reader 14 ++ cc_Journey 26 ++ [.inr (3, 2, [none, none])])) dX8_init_69 rfl cn_8_32 (Or.inr rfl) (by decide) (by decide) (by decide +kernel) (zr_gz _) rfl ?_
  refine fc_pr (sh := []) (pc' := 75) (i := 0) (l' := tA [.ref 1, .ref 3, .ref 14, .ref 26, .ref 28, .ref 72, .null, .null, .null, .null, .long 0] (([] : List am_AC) ++ cc_Text 1 ++ cc_Tale 3 ++ cc_Reader 14 ++ cc_Journey 26 ++ [.inr (3, 2, [none, none])])) dX8_init_72 rfl fl_8_46 (by decide) rfl rfl rfl ⟨rfl, rfl⟩ ⟨rfl, rfl⟩ (by decide) rfl ?_
  refine fe_lan (pc' := 76) dX8_init_75 rfl rfl ?_
  refine fe_ic (pc' := 77) (v := 2) dX8_init_76 rfl (by decide) ?_
  refine fc_nwa (sh := []) (pc' := 79) (bk := 1) (N := 2) (n := 73) (l' := tA [.ref 1, .ref 3, .ref 14, .ref 26, .ref 28, .ref 72, .null, .null, .null, .null, .long 0] (([] : List am_AC) ++ cc_Text 1 ++ cc_Tale 3 ++ cc_Reader 14 ++ cc_Journey 26 ++ [.inr (3, 2, [none, none])] ++ [.inr (1, 2, [])])) dX8_init_77 rfl (Or.inr ⟨rfl, rfl⟩) (by decide) (by decide) (by decide +kernel) (zr_gz _) rfl ?_
  refine fc_pr (sh := []) (pc' := 82) (i := 0) (l' := tA [.ref 1, .ref 3, .ref 14, .ref 26, .ref 28, .ref 72, .ref 73, .null, .null, .null, .long 0] (([] : List am_AC) ++ cc_Text 1 ++ cc_Tale 3 ++ cc_Reader 14 ++ cc_Journey 26 ++ [.inr (3, 2, [none, none])] ++ [.inr (1, 2, [])])) dX8_init_79 rfl fl_8_50 (by decide) rfl rfl rfl ⟨rfl, rfl⟩ ⟨rfl, rfl⟩ (by decide) rfl ?_
  refine fe_lan (pc' := 83) dX8_init_82 rfl rfl ?_
  refine fc_new (sh := []) (pc' := 86) (n := 74) (l' := tA [.ref 1, .ref 3, .ref 14, .ref 26, .ref 28, .ref 72, .ref 73, .null, .null, .null, .long 0] (([] : List am_AC) ++ cc_Text 1 ++ cc_Tale 3 ++ cc_Reader 14 ++ cc_Journey 26 ++ [.inr (3, 2, [none, none])] ++ [.inr (1, 2, [])] ++ [.inl (7, [.null, .null, .int 0, .int 0, .int 0, .null, .null, .int 0])])) dX8_init_83 rfl cn_8_54 (by decide +kernel) (zr_gz _) rfl ?_
  refine fe_dup (pc' := 87) dX8_init_86 rfl rfl ?_
  refine fe_lan (pc' := 88) dX8_init_87 rfl rfl ?_
  refine fc_gr (sh := []) (pc' := 91) (i := 0) dX8_init_88 rfl fl_8_19 (by decide) rfl rfl rfl ?_
  have e := ct_Today (sh := tA [.ref 1, .ref 3, .ref 14, .ref 26, .ref 28, .ref 72, .ref 73, .null, .null, .null, .long 0] (([] : List am_AC) ++ cc_Text 1 ++ cc_Tale 3 ++ cc_Reader 14 ++ cc_Journey 26 ++ [.inr (3, 2, [none, none])] ++ [.inr (1, 2, [])])) (g := gz) (n := 74) (by decide +kernel) (by decide) (zr_gz _)
  refine fc_ii (pc' := 94) (as := [.ref 74, .ref 3]) (h1 := (tA [.ref 1, .ref 3, .ref 14, .ref 26, .ref 28, .ref 72, .ref 73, .null, .null, .null, .long 0] (([] : List am_AC) ++ cc_Text 1 ++ cc_Tale 3 ++ cc_Reader 14 ++ cc_Journey 26 ++ [.inr (3, 2, [none, none])] ++ [.inr (1, 2, [])] ++ cc_Today 74), gz)) dX8_init_91 rfl cl_8_56 (Or.inl rfl) rfl rfl ⟨by decide, Nat.le_of_ble_eq_true rfl, Nat.le_of_ble_eq_true rfl⟩ ⟨(by decide +kernel), (by decide +kernel)⟩ (am_up (by decide) e) ?_
  refine fc_pr (sh := []) (pc' := 97) (i := 0) (l' := tA [.ref 1, .ref 3, .ref 14, .ref 26, .ref 28, .ref 72, .ref 73, .ref 74, .null, .null, .long 0] (([] : List am_AC) ++ cc_Text 1 ++ cc_Tale 3 ++ cc_Reader 14 ++ cc_Journey 26 ++ [.inr (3, 2, [none, none])] ++ [.inr (1, 2, [])] ++ cc_Today 74)) dX8_init_94 rfl fl_8_57 (by decide) rfl rfl rfl ⟨rfl, rfl⟩ ⟨rfl, rfl⟩ (by decide) rfl ?_
  refine fe_lan (pc' := 98) dX8_init_97 rfl rfl ?_
  refine fc_new (sh := []) (pc' := 101) (n := 81) (l' := tA [.ref 1, .ref 3, .ref 14, .ref 26, .ref 28, .ref 72, .ref 73, .ref 74, .null, .null, .long 0] (([] : List am_AC) ++ cc_Text 1 ++ cc_Tale 3 ++ cc_Reader 14 ++ cc_Journey 26 ++ [.inr (3, 2, [none, none])] ++ [.inr (1, 2, [])] ++ cc_Today 74 ++ [.inl (0, [.null, .null, .int 0, .int 0, .long 0, .long 0, .int 0, .int 0, .null, .int 0, .null])])) dX8_init_98 rfl cn_8_61 (by decide +kernel) (zr_gz _) rfl ?_
  refine fe_dup (pc' := 102) dX8_init_101 rfl rfl ?_
  refine fe_lan (pc' := 103) dX8_init_102 rfl rfl ?_
  refine fc_gr (sh := []) (pc' := 106) (i := 0) dX8_init_103 rfl fl_8_19 (by decide) rfl rfl rfl ?_
  have e := ct_Ahead (sh := tA [.ref 1, .ref 3, .ref 14, .ref 26, .ref 28, .ref 72, .ref 73, .ref 74, .null, .null, .long 0] (([] : List am_AC) ++ cc_Text 1 ++ cc_Tale 3 ++ cc_Reader 14 ++ cc_Journey 26 ++ [.inr (3, 2, [none, none])] ++ [.inr (1, 2, [])] ++ cc_Today 74)) (g := gz) (n := 81) (by decide +kernel) (by decide) (zr_gz _)
  refine fc_ii (pc' := 109) (as := [.ref 81, .ref 3]) (h1 := (tA [.ref 1, .ref 3, .ref 14, .ref 26, .ref 28, .ref 72, .ref 73, .ref 74, .null, .null, .long 0] (([] : List am_AC) ++ cc_Text 1 ++ cc_Tale 3 ++ cc_Reader 14 ++ cc_Journey 26 ++ [.inr (3, 2, [none, none])] ++ [.inr (1, 2, [])] ++ cc_Today 74 ++ cc_Ahead 81), (am_wL gz 81 5 1))) dX8_init_106 rfl cl_8_63 (Or.inl rfl) rfl rfl ⟨by decide, Nat.le_of_ble_eq_true rfl, Nat.le_of_ble_eq_true rfl⟩ ⟨(by decide +kernel), (by decide +kernel)⟩ (am_up (by decide) e) ?_
  refine fc_pr (sh := []) (pc' := 112) (i := 0) (l' := tA [.ref 1, .ref 3, .ref 14, .ref 26, .ref 28, .ref 72, .ref 73, .ref 74, .ref 81, .null, .long 0] (([] : List am_AC) ++ cc_Text 1 ++ cc_Tale 3 ++ cc_Reader 14 ++ cc_Journey 26 ++ [.inr (3, 2, [none, none])] ++ [.inr (1, 2, [])] ++ cc_Today 74 ++ cc_Ahead 81)) dX8_init_109 rfl fl_8_64 (by decide) rfl rfl rfl ⟨rfl, rfl⟩ ⟨rfl, rfl⟩ (by decide) rfl ?_
  refine fe_lan (pc' := 113) dX8_init_112 rfl rfl ?_
  refine fc_new (sh := []) (pc' := 116) (n := 121) (l' := tA [.ref 1, .ref 3, .ref 14, .ref 26, .ref 28, .ref 72, .ref 73, .ref 74, .ref 81, .null, .long 0] (([] : List am_AC) ++ cc_Text 1 ++ cc_Tale 3 ++ cc_Reader 14 ++ cc_Journey 26 ++ [.inr (3, 2, [none, none])] ++ [.inr (1, 2, [])] ++ cc_Today 74 ++ cc_Ahead 81 ++ [.inl (1, [.null, .null, .int 0, .null, .null, .null, .int 0, .int 0])])) dX8_init_113 rfl cn_8_68 (by decide +kernel) (zr_wL (by decide) (zr_gz _)) rfl ?_
  refine fe_dup (pc' := 117) dX8_init_116 rfl rfl ?_
  refine fe_lan (pc' := 118) dX8_init_117 rfl rfl ?_
  refine fc_gr (sh := []) (pc' := 121) (i := 0) dX8_init_118 rfl fl_8_19 (by decide) rfl rfl rfl ?_
  have e := ct_Book (sh := tA [.ref 1, .ref 3, .ref 14, .ref 26, .ref 28, .ref 72, .ref 73, .ref 74, .ref 81, .null, .long 0] (([] : List am_AC) ++ cc_Text 1 ++ cc_Tale 3 ++ cc_Reader 14 ++ cc_Journey 26 ++ [.inr (3, 2, [none, none])] ++ [.inr (1, 2, [])] ++ cc_Today 74 ++ cc_Ahead 81)) (g := (am_wL gz 81 5 1)) (n := 121) (by decide +kernel) (by decide) (zr_wL (by decide) (zr_gz _))
  refine fc_ii (pc' := 124) (as := [.ref 121, .ref 3]) (h1 := (tA [.ref 1, .ref 3, .ref 14, .ref 26, .ref 28, .ref 72, .ref 73, .ref 74, .ref 81, .null, .long 0] (([] : List am_AC) ++ cc_Text 1 ++ cc_Tale 3 ++ cc_Reader 14 ++ cc_Journey 26 ++ [.inr (3, 2, [none, none])] ++ [.inr (1, 2, [])] ++ cc_Today 74 ++ cc_Ahead 81 ++ cc_Book 121), (am_wr (am_wL gz 81 5 1) 121 7 (-9)))) dX8_init_121 rfl cl_8_70 (Or.inl rfl) rfl rfl ⟨by decide, Nat.le_of_ble_eq_true rfl, Nat.le_of_ble_eq_true rfl⟩ ⟨(by decide +kernel), (by decide +kernel)⟩ (am_up (by decide) e) ?_
  refine fc_pr (sh := []) (pc' := 127) (i := 0) (l' := tA [.ref 1, .ref 3, .ref 14, .ref 26, .ref 28, .ref 72, .ref 73, .ref 74, .ref 81, .ref 121, .long 0] (([] : List am_AC) ++ cc_Text 1 ++ cc_Tale 3 ++ cc_Reader 14 ++ cc_Journey 26 ++ [.inr (3, 2, [none, none])] ++ [.inr (1, 2, [])] ++ cc_Today 74 ++ cc_Ahead 81 ++ cc_Book 121)) dX8_init_124 rfl fl_8_71 (by decide) rfl rfl rfl ⟨rfl, rfl⟩ ⟨rfl, rfl⟩ (by decide) rfl ?_
  refine fe_lan (pc' := 128) dX8_init_127 rfl rfl ?_
  refine fe_lc (pc' := 129) (v := 0) dX8_init_128 rfl rfl ?_
  refine fc_l0 (sh := []) (pc' := 132) (i := 0) dX8_init_129 rfl fl_8_75 (by decide) rfl rfl rfl ⟨rfl, rfl⟩ rfl ?_
  refine fe_ic (pc' := 133) (v := 0) dX8_init_132 rfl (by decide) ?_
  refine fe_sin (pc' := 134) (lo' := [(0, .ref 0), (1, .int 0)]) dX8_init_133 rfl (Nat.le_of_ble_eq_true rfl) rfl ?_
  refine fe_lin (pc' := 135) dX8_init_134 rfl rfl ?_
  refine fe_ic (pc' := 136) (v := 2) dX8_init_135 rfl (by decide) ?_
  refine fe_icf (pc' := 139) (tgt := 162) dX8_init_136 rfl rfl (by decide) ?_
  refine fe_lan (pc' := 140) dX8_init_139 rfl rfl ?_
  refine fc_gr (sh := []) (pc' := 143) (i := 0) dX8_init_140 rfl fl_8_46 (by decide) rfl rfl rfl ?_
  refine fe_lin (pc' := 144) dX8_init_143 rfl rfl ?_
  refine fc_new (sh := []) (pc' := 147) (n := 129) (l' := tA [.ref 1, .ref 3, .ref 14, .ref 26, .ref 28, .ref 72, .ref 73, .ref 74, .ref 81, .ref 121, .long 0] (([] : List am_AC) ++ cc_Text 1 ++ cc_Tale 3 ++ cc_Reader 14 ++ cc_Journey 26 ++ [.inr (3, 2, [none, none])] ++ [.inr (1, 2, [])] ++ cc_Today 74 ++ cc_Ahead 81 ++ cc_Book 121 ++ [.inl (3, [.null, .null, .int 0, .int 0])])) dX8_init_144 rfl cn_8_32 (by decide +kernel) (zr_wr (by decide) (zr_wL (by decide) (zr_gz _))) rfl ?_
  refine fe_dup (pc' := 148) dX8_init_147 rfl rfl ?_
  refine fe_lan (pc' := 149) dX8_init_148 rfl rfl ?_
  refine fc_gr (sh := []) (pc' := 152) (i := 0) dX8_init_149 rfl fl_8_19 (by decide) rfl rfl rfl ?_
  have e := ct_Journey (sh := tA [.ref 1, .ref 3, .ref 14, .ref 26, .ref 28, .ref 72, .ref 73, .ref 74, .ref 81, .ref 121, .long 0] (([] : List am_AC) ++ cc_Text 1 ++ cc_Tale 3 ++ cc_Reader 14 ++ cc_Journey 26 ++ [.inr (3, 2, [none, none])] ++ [.inr (1, 2, [])] ++ cc_Today 74 ++ cc_Ahead 81 ++ cc_Book 121)) (g := (am_wr (am_wL gz 81 5 1) 121 7 (-9))) (n := 129) (by decide +kernel) (by decide) (zr_wr (by decide) (zr_wL (by decide) (zr_gz _)))
  refine fc_ii (pc' := 155) (as := [.ref 129, .ref 3]) (h1 := (tA [.ref 1, .ref 3, .ref 14, .ref 26, .ref 28, .ref 72, .ref 73, .ref 74, .ref 81, .ref 121, .long 0] (([] : List am_AC) ++ cc_Text 1 ++ cc_Tale 3 ++ cc_Reader 14 ++ cc_Journey 26 ++ [.inr (3, 2, [none, none])] ++ [.inr (1, 2, [])] ++ cc_Today 74 ++ cc_Ahead 81 ++ cc_Book 121 ++ cc_Journey 129), (am_wr (am_wL gz 81 5 1) 121 7 (-9)))) dX8_init_152 rfl cl_8_34 (Or.inl rfl) rfl rfl ⟨by decide, Nat.le_of_ble_eq_true rfl, Nat.le_of_ble_eq_true rfl⟩ ⟨(by decide +kernel), (by decide +kernel)⟩ (am_up (by decide) e) ?_
  refine fc_rs (sh := []) (pc' := 156) (i := 72) (kb := 129) (bk := 3) (ci := 3) (n := 2) (rs := [none, none]) (fs := am_jf 129) (l' := tA [.ref 1, .ref 3, .ref 14, .ref 26, .ref 28, .ref 72, .ref 73, .ref 74, .ref 81, .ref 121, .long 0] (([] : List am_AC) ++ cc_Text 1 ++ cc_Tale 3 ++ cc_Reader 14 ++ cc_Journey 26 ++ [.inr (3, 2, [some 129, none])] ++ [.inr (1, 2, [])] ++ cc_Today 74 ++ cc_Ahead 81 ++ cc_Book 121 ++ cc_Journey 129)) dX8_init_155 rfl (by decide) rfl rfl (by decide +kernel) (by decide +kernel) ⟨Or.inr rfl, rfl, rfl, by decide⟩ (by decide +kernel) ?_
  refine fc_inc (pc' := 159) (w := 1) (lo' := [(0, .ref 0), (1, .int 1)]) dX8_init_156 rfl (by decide) (Nat.le_of_ble_eq_true rfl) rfl rfl ?_
  refine fe_go (tgt := 134) dX8_init_159 rfl ?_
  refine fe_lin (pc' := 135) dX8_init_134 rfl rfl ?_
  refine fe_ic (pc' := 136) (v := 2) dX8_init_135 rfl (by decide) ?_
  refine fe_icf (pc' := 139) (tgt := 162) dX8_init_136 rfl rfl (by decide) ?_
  refine fe_lan (pc' := 140) dX8_init_139 rfl rfl ?_
  refine fc_gr (sh := []) (pc' := 143) (i := 0) dX8_init_140 rfl fl_8_46 (by decide) rfl rfl rfl ?_
  refine fe_lin (pc' := 144) dX8_init_143 rfl rfl ?_
  refine fc_new (sh := []) (pc' := 147) (n := 175) (l' := tA [.ref 1, .ref 3, .ref 14, .ref 26, .ref 28, .ref 72, .ref 73, .ref 74, .ref 81, .ref 121, .long 0] (([] : List am_AC) ++ cc_Text 1 ++ cc_Tale 3 ++ cc_Reader 14 ++ cc_Journey 26 ++ [.inr (3, 2, [some 129, none])] ++ [.inr (1, 2, [])] ++ cc_Today 74 ++ cc_Ahead 81 ++ cc_Book 121 ++ cc_Journey 129 ++ [.inl (3, [.null, .null, .int 0, .int 0])])) dX8_init_144 rfl cn_8_32 (by decide +kernel) (zr_wr (by decide) (zr_wL (by decide) (zr_gz _))) rfl ?_
  refine fe_dup (pc' := 148) dX8_init_147 rfl rfl ?_
  refine fe_lan (pc' := 149) dX8_init_148 rfl rfl ?_
  refine fc_gr (sh := []) (pc' := 152) (i := 0) dX8_init_149 rfl fl_8_19 (by decide) rfl rfl rfl ?_
  have e := ct_Journey (sh := tA [.ref 1, .ref 3, .ref 14, .ref 26, .ref 28, .ref 72, .ref 73, .ref 74, .ref 81, .ref 121, .long 0] (([] : List am_AC) ++ cc_Text 1 ++ cc_Tale 3 ++ cc_Reader 14 ++ cc_Journey 26 ++ [.inr (3, 2, [some 129, none])] ++ [.inr (1, 2, [])] ++ cc_Today 74 ++ cc_Ahead 81 ++ cc_Book 121 ++ cc_Journey 129)) (g := (am_wr (am_wL gz 81 5 1) 121 7 (-9))) (n := 175) (by decide +kernel) (by decide) (zr_wr (by decide) (zr_wL (by decide) (zr_gz _)))
  refine fc_ii (pc' := 155) (as := [.ref 175, .ref 3]) (h1 := (tA [.ref 1, .ref 3, .ref 14, .ref 26, .ref 28, .ref 72, .ref 73, .ref 74, .ref 81, .ref 121, .long 0] (([] : List am_AC) ++ cc_Text 1 ++ cc_Tale 3 ++ cc_Reader 14 ++ cc_Journey 26 ++ [.inr (3, 2, [some 129, none])] ++ [.inr (1, 2, [])] ++ cc_Today 74 ++ cc_Ahead 81 ++ cc_Book 121 ++ cc_Journey 129 ++ cc_Journey 175), (am_wr (am_wL gz 81 5 1) 121 7 (-9)))) dX8_init_152 rfl cl_8_34 (Or.inl rfl) rfl rfl ⟨by decide, Nat.le_of_ble_eq_true rfl, Nat.le_of_ble_eq_true rfl⟩ ⟨(by decide +kernel), (by decide +kernel)⟩ (am_up (by decide) e) ?_
  refine fc_rs (sh := []) (pc' := 156) (i := 72) (kb := 175) (bk := 3) (ci := 3) (n := 2) (rs := [some 129, none]) (fs := am_jf 175) (l' := tA [.ref 1, .ref 3, .ref 14, .ref 26, .ref 28, .ref 72, .ref 73, .ref 74, .ref 81, .ref 121, .long 0] (([] : List am_AC) ++ cc_Text 1 ++ cc_Tale 3 ++ cc_Reader 14 ++ cc_Journey 26 ++ [.inr (3, 2, [some 129, some 175])] ++ [.inr (1, 2, [])] ++ cc_Today 74 ++ cc_Ahead 81 ++ cc_Book 121 ++ cc_Journey 129 ++ cc_Journey 175)) dX8_init_155 rfl (by decide) rfl rfl (by decide +kernel) (by decide +kernel) ⟨Or.inr rfl, rfl, rfl, by decide⟩ (by decide +kernel) ?_
  refine fc_inc (pc' := 159) (w := 2) (lo' := [(0, .ref 0), (1, .int 2)]) dX8_init_156 rfl (by decide) (Nat.le_of_ble_eq_true rfl) rfl rfl ?_
  refine fe_go (tgt := 134) dX8_init_159 rfl ?_
  refine fe_lin (pc' := 135) dX8_init_134 rfl rfl ?_
  refine fe_ic (pc' := 136) (v := 2) dX8_init_135 rfl (by decide) ?_
  refine fe_ict (tgt := 162) dX8_init_136 rfl (by decide) ?_
  exact fe_rv dX8_init_162 rfl
set_option maxRecDepth 8000 in
theorem ct_Model {g g2 : am_G} {w : am_G × Bool} (hz : zr g 221) (h1 : Mo_reads g = some w) (h2 : Mo_tells w.1 = some g2) : am_Ev 8 118 [.ref 221] (shT ++ [.inl (9, [.long 0, .null, .int 0, .null, .null, .null, .null, .null, .null, .int 0, .int 0, .int 0, .int 0, .int 0, .null, .null, .null])], g) (sh0, g2) none := by
  refine am_ev mX9_init (by rfl) (Nat.le_of_ble_eq_true rfl) [(0, .ref 221)] rfl ?_
  have key : ∀ n : Nat, n = 221 → am_E 7 mX9_init (85, [(0, .ref n)], [], (shT ++ [.inl (9, [.long 0, .ref (n + 1), .int 0, .ref (n + 2), .ref (n + 3), .ref (n + 4), .ref (n + 5), .ref (n + 6), .ref (n + 7), .int 0, .int 0, .int 0, .int 0, .int 0, .ref (n + 8), .ref (n + 9), .ref (n + 10)]), .inr (0, 200, []), .inr (0, 71, []), .inr (0, 71, []), .inr (0, 320, []), .inr (0, 640, []), .inr (1, 2, []), .inr (0, 18, []), .inr (0, 7, []), .inr (0, 4, []), .inr (0, 29, [])], g)) (sh0, g2) none → am_E 7 mX9_init (0, [(0, .ref n)], [], (shT ++ [.inl (9, [.long 0, .null, .int 0, .null, .null, .null, .null, .null, .null, .int 0, .int 0, .int 0, .int 0, .int 0, .null, .null, .null])], g)) (sh0, g2) none := by
    intro n hnn K
    have hn : shT.length = n := by rw [hnn, shT_ok]; decide +kernel
    have hz : zr g n := by rw [hnn]; exact hz
    refine fe_lan (pc' := 1) dX9_init_0 rfl rfl ?_
    refine fc_oi (pc' := 4) dX9_init_1 rfl cl_9_1 (Nat.le_of_ble_eq_true rfl) ?_
    refine fe_lan (pc' := 5) dX9_init_4 rfl rfl ?_
    refine fe_sp (pc' := 8) (v := 200) dX9_init_5 rfl (by decide) ?_
    refine fc_nwa (pc' := 10) (bk := 0) (N := 200) (n := n + 1) (l' := [.inl (9, [.long 0, .null, .int 0, .null, .null, .null, .null, .null, .null, .int 0, .int 0, .int 0, .int 0, .int 0, .null, .null, .null]), .inr (0, 200, [])]) dX9_init_8 rfl (Or.inl ⟨rfl, rfl⟩) (by decide) (by decide) (by simp [hn]) (zr_up hz (by omega)) rfl ?_
    refine fc_pr (pc' := 13) (i := 0) (l' := [.inl (9, [.long 0, .ref (n + 1), .int 0, .null, .null, .null, .null, .null, .null, .int 0, .int 0, .int 0, .int 0, .int 0, .null, .null, .null]), .inr (0, 200, [])]) dX9_init_10 rfl fl_9_7 (by unfold am_ext; omega) (by omega) rfl rfl ⟨rfl, rfl⟩ ⟨rfl, rfl⟩ (by unfold am_ext; omega) rfl ?_
    refine fe_lan (pc' := 14) dX9_init_13 rfl rfl ?_
    refine fe_bp (pc' := 16) (v := 71) dX9_init_14 rfl (by decide) ?_
    refine fc_nwa (pc' := 18) (bk := 0) (N := 71) (n := n + 2) (l' := [.inl (9, [.long 0, .ref (n + 1), .int 0, .null, .null, .null, .null, .null, .null, .int 0, .int 0, .int 0, .int 0, .int 0, .null, .null, .null]), .inr (0, 200, []), .inr (0, 71, [])]) dX9_init_16 rfl (Or.inl ⟨rfl, rfl⟩) (by decide) (by decide) (by simp [hn]) (zr_up hz (by omega)) rfl ?_
    refine fc_pr (pc' := 21) (i := 0) (l' := [.inl (9, [.long 0, .ref (n + 1), .int 0, .ref (n + 2), .null, .null, .null, .null, .null, .int 0, .int 0, .int 0, .int 0, .int 0, .null, .null, .null]), .inr (0, 200, []), .inr (0, 71, [])]) dX9_init_18 rfl fl_9_13 (by unfold am_ext; omega) (by omega) rfl rfl ⟨rfl, rfl⟩ ⟨rfl, rfl⟩ (by unfold am_ext; omega) rfl ?_
    refine fe_lan (pc' := 22) dX9_init_21 rfl rfl ?_
    refine fe_bp (pc' := 24) (v := 71) dX9_init_22 rfl (by decide) ?_
    refine fc_nwa (pc' := 26) (bk := 0) (N := 71) (n := n + 3) (l' := [.inl (9, [.long 0, .ref (n + 1), .int 0, .ref (n + 2), .null, .null, .null, .null, .null, .int 0, .int 0, .int 0, .int 0, .int 0, .null, .null, .null]), .inr (0, 200, []), .inr (0, 71, []), .inr (0, 71, [])]) dX9_init_24 rfl (Or.inl ⟨rfl, rfl⟩) (by decide) (by decide) (by simp [hn]) (zr_up hz (by omega)) rfl ?_
    refine fc_pr (pc' := 29) (i := 0) (l' := [.inl (9, [.long 0, .ref (n + 1), .int 0, .ref (n + 2), .ref (n + 3), .null, .null, .null, .null, .int 0, .int 0, .int 0, .int 0, .int 0, .null, .null, .null]), .inr (0, 200, []), .inr (0, 71, []), .inr (0, 71, [])]) dX9_init_26 rfl fl_9_16 (by unfold am_ext; omega) (by omega) rfl rfl ⟨rfl, rfl⟩ ⟨rfl, rfl⟩ (by unfold am_ext; omega) rfl ?_
    refine fe_lan (pc' := 30) dX9_init_29 rfl rfl ?_
    refine fe_sp (pc' := 33) (v := 320) dX9_init_30 rfl (by decide) ?_
    refine fc_nwa (pc' := 35) (bk := 0) (N := 320) (n := n + 4) (l' := [.inl (9, [.long 0, .ref (n + 1), .int 0, .ref (n + 2), .ref (n + 3), .null, .null, .null, .null, .int 0, .int 0, .int 0, .int 0, .int 0, .null, .null, .null]), .inr (0, 200, []), .inr (0, 71, []), .inr (0, 71, []), .inr (0, 320, [])]) dX9_init_33 rfl (Or.inl ⟨rfl, rfl⟩) (by decide) (by decide) (by simp [hn]) (zr_up hz (by omega)) rfl ?_
    refine fc_pr (pc' := 38) (i := 0) (l' := [.inl (9, [.long 0, .ref (n + 1), .int 0, .ref (n + 2), .ref (n + 3), .ref (n + 4), .null, .null, .null, .int 0, .int 0, .int 0, .int 0, .int 0, .null, .null, .null]), .inr (0, 200, []), .inr (0, 71, []), .inr (0, 71, []), .inr (0, 320, [])]) dX9_init_35 rfl fl_9_19 (by unfold am_ext; omega) (by omega) rfl rfl ⟨rfl, rfl⟩ ⟨rfl, rfl⟩ (by unfold am_ext; omega) rfl ?_
    refine fe_lan (pc' := 39) dX9_init_38 rfl rfl ?_
    refine fe_sp (pc' := 42) (v := 640) dX9_init_39 rfl (by decide) ?_
    refine fc_nwa (pc' := 44) (bk := 0) (N := 640) (n := n + 5) (l' := [.inl (9, [.long 0, .ref (n + 1), .int 0, .ref (n + 2), .ref (n + 3), .ref (n + 4), .null, .null, .null, .int 0, .int 0, .int 0, .int 0, .int 0, .null, .null, .null]), .inr (0, 200, []), .inr (0, 71, []), .inr (0, 71, []), .inr (0, 320, []), .inr (0, 640, [])]) dX9_init_42 rfl (Or.inl ⟨rfl, rfl⟩) (by decide) (by decide) (by simp [hn]) (zr_up hz (by omega)) rfl ?_
    refine fc_pr (pc' := 47) (i := 0) (l' := [.inl (9, [.long 0, .ref (n + 1), .int 0, .ref (n + 2), .ref (n + 3), .ref (n + 4), .ref (n + 5), .null, .null, .int 0, .int 0, .int 0, .int 0, .int 0, .null, .null, .null]), .inr (0, 200, []), .inr (0, 71, []), .inr (0, 71, []), .inr (0, 320, []), .inr (0, 640, [])]) dX9_init_44 rfl fl_9_22 (by unfold am_ext; omega) (by omega) rfl rfl ⟨rfl, rfl⟩ ⟨rfl, rfl⟩ (by unfold am_ext; omega) rfl ?_
    refine fe_lan (pc' := 48) dX9_init_47 rfl rfl ?_
    refine fe_ic (pc' := 49) (v := 2) dX9_init_48 rfl (by decide) ?_
    refine fc_nwa (pc' := 51) (bk := 1) (N := 2) (n := n + 6) (l' := [.inl (9, [.long 0, .ref (n + 1), .int 0, .ref (n + 2), .ref (n + 3), .ref (n + 4), .ref (n + 5), .null, .null, .int 0, .int 0, .int 0, .int 0, .int 0, .null, .null, .null]), .inr (0, 200, []), .inr (0, 71, []), .inr (0, 71, []), .inr (0, 320, []), .inr (0, 640, []), .inr (1, 2, [])]) dX9_init_49 rfl (Or.inr ⟨rfl, rfl⟩) (by decide) (by decide) (by simp [hn]) (zr_up hz (by omega)) rfl ?_
    refine fc_pr (pc' := 54) (i := 0) (l' := [.inl (9, [.long 0, .ref (n + 1), .int 0, .ref (n + 2), .ref (n + 3), .ref (n + 4), .ref (n + 5), .ref (n + 6), .null, .int 0, .int 0, .int 0, .int 0, .int 0, .null, .null, .null]), .inr (0, 200, []), .inr (0, 71, []), .inr (0, 71, []), .inr (0, 320, []), .inr (0, 640, []), .inr (1, 2, [])]) dX9_init_51 rfl fl_9_25 (by unfold am_ext; omega) (by omega) rfl rfl ⟨rfl, rfl⟩ ⟨rfl, rfl⟩ (by unfold am_ext; omega) rfl ?_
    refine fe_lan (pc' := 55) dX9_init_54 rfl rfl ?_
    refine fe_bp (pc' := 57) (v := 18) dX9_init_55 rfl (by decide) ?_
    refine fc_nwa (pc' := 59) (bk := 0) (N := 18) (n := n + 7) (l' := [.inl (9, [.long 0, .ref (n + 1), .int 0, .ref (n + 2), .ref (n + 3), .ref (n + 4), .ref (n + 5), .ref (n + 6), .null, .int 0, .int 0, .int 0, .int 0, .int 0, .null, .null, .null]), .inr (0, 200, []), .inr (0, 71, []), .inr (0, 71, []), .inr (0, 320, []), .inr (0, 640, []), .inr (1, 2, []), .inr (0, 18, [])]) dX9_init_57 rfl (Or.inl ⟨rfl, rfl⟩) (by decide) (by decide) (by simp [hn]) (zr_up hz (by omega)) rfl ?_
    refine fc_pr (pc' := 62) (i := 0) (l' := [.inl (9, [.long 0, .ref (n + 1), .int 0, .ref (n + 2), .ref (n + 3), .ref (n + 4), .ref (n + 5), .ref (n + 6), .ref (n + 7), .int 0, .int 0, .int 0, .int 0, .int 0, .null, .null, .null]), .inr (0, 200, []), .inr (0, 71, []), .inr (0, 71, []), .inr (0, 320, []), .inr (0, 640, []), .inr (1, 2, []), .inr (0, 18, [])]) dX9_init_59 rfl fl_9_29 (by unfold am_ext; omega) (by omega) rfl rfl ⟨rfl, rfl⟩ ⟨rfl, rfl⟩ (by unfold am_ext; omega) rfl ?_
    refine fe_lan (pc' := 63) dX9_init_62 rfl rfl ?_
    refine fe_bp (pc' := 65) (v := 7) dX9_init_63 rfl (by decide) ?_
    refine fc_nwa (pc' := 67) (bk := 0) (N := 7) (n := n + 8) (l' := [.inl (9, [.long 0, .ref (n + 1), .int 0, .ref (n + 2), .ref (n + 3), .ref (n + 4), .ref (n + 5), .ref (n + 6), .ref (n + 7), .int 0, .int 0, .int 0, .int 0, .int 0, .null, .null, .null]), .inr (0, 200, []), .inr (0, 71, []), .inr (0, 71, []), .inr (0, 320, []), .inr (0, 640, []), .inr (1, 2, []), .inr (0, 18, []), .inr (0, 7, [])]) dX9_init_65 rfl (Or.inl ⟨rfl, rfl⟩) (by decide) (by decide) (by simp [hn]) (zr_up hz (by omega)) rfl ?_
    refine fc_pr (pc' := 70) (i := 0) (l' := [.inl (9, [.long 0, .ref (n + 1), .int 0, .ref (n + 2), .ref (n + 3), .ref (n + 4), .ref (n + 5), .ref (n + 6), .ref (n + 7), .int 0, .int 0, .int 0, .int 0, .int 0, .ref (n + 8), .null, .null]), .inr (0, 200, []), .inr (0, 71, []), .inr (0, 71, []), .inr (0, 320, []), .inr (0, 640, []), .inr (1, 2, []), .inr (0, 18, []), .inr (0, 7, [])]) dX9_init_67 rfl fl_9_32 (by unfold am_ext; omega) (by omega) rfl rfl ⟨rfl, rfl⟩ ⟨rfl, rfl⟩ (by unfold am_ext; omega) rfl ?_
    refine fe_lan (pc' := 71) dX9_init_70 rfl rfl ?_
    refine fe_ic (pc' := 72) (v := 4) dX9_init_71 rfl (by decide) ?_
    refine fc_nwa (pc' := 74) (bk := 0) (N := 4) (n := n + 9) (l' := [.inl (9, [.long 0, .ref (n + 1), .int 0, .ref (n + 2), .ref (n + 3), .ref (n + 4), .ref (n + 5), .ref (n + 6), .ref (n + 7), .int 0, .int 0, .int 0, .int 0, .int 0, .ref (n + 8), .null, .null]), .inr (0, 200, []), .inr (0, 71, []), .inr (0, 71, []), .inr (0, 320, []), .inr (0, 640, []), .inr (1, 2, []), .inr (0, 18, []), .inr (0, 7, []), .inr (0, 4, [])]) dX9_init_72 rfl (Or.inl ⟨rfl, rfl⟩) (by decide) (by decide) (by simp [hn]) (zr_up hz (by omega)) rfl ?_
    refine fc_pr (pc' := 77) (i := 0) (l' := [.inl (9, [.long 0, .ref (n + 1), .int 0, .ref (n + 2), .ref (n + 3), .ref (n + 4), .ref (n + 5), .ref (n + 6), .ref (n + 7), .int 0, .int 0, .int 0, .int 0, .int 0, .ref (n + 8), .ref (n + 9), .null]), .inr (0, 200, []), .inr (0, 71, []), .inr (0, 71, []), .inr (0, 320, []), .inr (0, 640, []), .inr (1, 2, []), .inr (0, 18, []), .inr (0, 7, []), .inr (0, 4, [])]) dX9_init_74 rfl fl_9_35 (by unfold am_ext; omega) (by omega) rfl rfl ⟨rfl, rfl⟩ ⟨rfl, rfl⟩ (by unfold am_ext; omega) rfl ?_
    refine fe_lan (pc' := 78) dX9_init_77 rfl rfl ?_
    refine fe_bp (pc' := 80) (v := 29) dX9_init_78 rfl (by decide) ?_
    refine fc_nwa (pc' := 82) (bk := 0) (N := 29) (n := n + 10) (l' := [.inl (9, [.long 0, .ref (n + 1), .int 0, .ref (n + 2), .ref (n + 3), .ref (n + 4), .ref (n + 5), .ref (n + 6), .ref (n + 7), .int 0, .int 0, .int 0, .int 0, .int 0, .ref (n + 8), .ref (n + 9), .null]), .inr (0, 200, []), .inr (0, 71, []), .inr (0, 71, []), .inr (0, 320, []), .inr (0, 640, []), .inr (1, 2, []), .inr (0, 18, []), .inr (0, 7, []), .inr (0, 4, []), .inr (0, 29, [])]) dX9_init_80 rfl (Or.inl ⟨rfl, rfl⟩) (by decide) (by decide) (by simp [hn]) (zr_up hz (by omega)) rfl ?_
    refine fc_pr (pc' := 85) (i := 0) (l' := [.inl (9, [.long 0, .ref (n + 1), .int 0, .ref (n + 2), .ref (n + 3), .ref (n + 4), .ref (n + 5), .ref (n + 6), .ref (n + 7), .int 0, .int 0, .int 0, .int 0, .int 0, .ref (n + 8), .ref (n + 9), .ref (n + 10)]), .inr (0, 200, []), .inr (0, 71, []), .inr (0, 71, []), .inr (0, 320, []), .inr (0, 640, []), .inr (1, 2, []), .inr (0, 18, []), .inr (0, 7, []), .inr (0, 4, []), .inr (0, 29, [])]) dX9_init_82 rfl fl_9_38 (by unfold am_ext; omega) (by omega) rfl rfl ⟨rfl, rfl⟩ ⟨rfl, rfl⟩ (by unfold am_ext; omega) rfl ?_
    exact K
  refine key 221 rfl ?_
  have es : shT ++ [.inl (9, [.long 0, .ref (221 + 1), .int 0, .ref (221 + 2), .ref (221 + 3), .ref (221 + 4), .ref (221 + 5), .ref (221 + 6), .ref (221 + 7), .int 0, .int 0, .int 0, .int 0, .int 0, .ref (221 + 8), .ref (221 + 9), .ref (221 + 10)]), .inr (0, 200, []), .inr (0, 71, []), .inr (0, 71, []), .inr (0, 320, []), .inr (0, 640, []), .inr (1, 2, []), .inr (0, 18, []), .inr (0, 7, []), .inr (0, 4, []), .inr (0, 29, [])] = sh0 := by rw [shT_ok]; decide +kernel
  rw [es]
  refine fe_lan (pc' := 86) dX9_init_85 rfl rfl ?_
  refine fe_iv (pc' := 89) (as := [.ref 221]) (h1 := (sh0, w.1)) (r1 := some (.int (am_b w.2))) (st' := [.int (am_b w.2)]) dX9_init_86 rfl cl_9_41 rfl rfl s_221 ms_133 ⟨n_221, rfl, by decide, Nat.le_of_ble_eq_true rfl, Nat.le_of_ble_eq_true rfl⟩ (am_le0 _ _ _) (am_up (by decide) (ev_Mo_reads h1)) rfl ?_
  refine fe_pop (pc' := 90) dX9_init_89 rfl rfl ?_
  refine fe_lan (pc' := 91) dX9_init_90 rfl rfl ?_
  refine fe_iv (pc' := 94) (as := [.ref 221]) (h1 := (sh0, g2)) (r1 := none) (st' := []) dX9_init_91 rfl cl_9_45 rfl rfl s_221 ms_134 ⟨n_221, rfl, by decide, Nat.le_of_ble_eq_true rfl, Nat.le_of_ble_eq_true rfl⟩ (am_le0 _ _ _) (am_up (by decide) (ev_Mo_tells h2)) rfl ?_
  exact fe_rv dX9_init_94 rfl
